set_option maxRecDepth 100000 in
set_option maxHeartbeats 4000000 in
theorem c_X2_answer_90_20 (x1 x2 : Int) (h : MEM) (hM : MBx h) (bx1 : 100 ≤ x1) (dx1 : x1 ≤ 109) (bx2 : 9 ≤ x2) (dx2 : x2 ≤ 99) : CI yX2_answer cX2_answer 5 (some .int) 3 [pR 90, pI x1, pI x2, pR 20] h (fun x h' => MBx h' ∧ Fr [(97, 0)] h h' ∧ 0 ≤ x ∧ x ≤ 99) := by
  refine CI.of (L0 := [some (pR 90), some (pI x1), some (pI x2), some (pR 20), none]) rfl (Nat.le_of_ble_eq_true rfl) rfl (fun Po hPo hav => ?_)
  refine g_iconst dX2_answer_0 (inR_c rfl) ?_
  have c3 : ∀ (n : Nat) (y1 : Int) (h2 : MEM), MBx h2 → Fr [(97, 0)] h h2 → 0 ≤ y1 → y1 ≤ 14 → 14 - y1 < (n : Int) → G yX2_answer cX2_answer 5 (some .int) none Po (3, 180, 0, 0) 3 [some (pR 90), some (pI x1), some (pI x2), some (pR 20), some (pI y1)] [] SH h2 0 0 := by
    intro n
    induction n with
    | zero =>
      intro y1 h2 hMh2 hFh2 by1 dy1 hn
      exfalso; omega
    | succ n ih3 =>
      intro y1 h2 hMh2 hFh2 by1 dy1 hn
      refine g_iload dX2_answer_3 rfl (fun _ => ?_)
      refine g_aload_n dX2_answer_5 rfl ?_
      refine gI_X2_9 rfl dX2_answer_6 sh_90 (m_90_0 hMh2) (fun v3 ev3 bv3 cv3 => ?_)
      refine g_icmp_ge 79 dX2_answer_9 (by decide) (fun q4 => ?_) (fun q4 => ?_)
      · skip
        refine g_iconst dX2_answer_79 (inR_c rfl) ?_
        exact g_ireturn dX2_answer_80 retI (hPo _ _ ⟨hMh2, (Fr.sub hFh2 rfl), (by omega), (by omega)⟩)
      · skip
        refine g_aload_n dX2_answer_12 rfl ?_
        refine gR_X2_18 rfl dX2_answer_13 sh_90 (b := 91) (m_90_2 hMh2) ?_
        refine g_iload dX2_answer_16 rfl (fun _ => ?_)
        refine g_ialdB dX2_answer_18 sh_91 (by omega) (by omega) (m_91 hMh2 _) (fun v5 ev5 bv5 cv5 => ?_)
        refine g_iload_n dX2_answer_19 rfl (fun _ => ?_)
        refine g_icmp_ne 73 dX2_answer_20 (by decide) (fun q6 => ?_) (fun q6 => ?_)
        · skip
          refine g_iincB dX2_answer_73 rfl rfl (by omega) (by omega) ?_
          refine g_goto 3 dX2_answer_76 (by decide) ?_
          exact ih3 _ _ hMh2 (Fr.sub hFh2 rfl) (by omega) (by omega) (by omega)
        · skip
          refine g_aload_n dX2_answer_23 rfl ?_
          refine g_aload_n dX2_answer_24 rfl ?_
          refine gR_X2_25 rfl dX2_answer_25 sh_90 (b := 93) (m_90_4 hMh2) ?_
          refine g_iload dX2_answer_28 rfl (fun _ => ?_)
          refine g_ialdB dX2_answer_30 sh_93 (by omega) (by omega) (m_93 hMh2 _) (fun v7 ev7 bv7 cv7 => ?_)
          refine g_aload_n dX2_answer_31 rfl ?_
          refine gR_X2_28 rfl dX2_answer_32 sh_90 (b := 94) (m_90_5 hMh2) ?_
          refine g_iload dX2_answer_35 rfl (fun _ => ?_)
          refine g_ialdB dX2_answer_37 sh_94 (by omega) (by omega) (m_94 hMh2 _) (fun v8 ev8 bv8 cv8 => ?_)
          refine g_aload_n dX2_answer_38 rfl ?_
          refine g_cV (as := [_, _, _]) (c_X2_reckon_90_20 _ _ h2 hMh2 (by omega) (by omega) (by omega) (by omega)) dX2_answer_39 mi_X2_reckon in_X2_reckon se_X2_reckon ml_X2_40 rfl rfl rfl sh_90 rfl rfl (Nat.le_of_ble_eq_true rfl) (fun v9 h10 q11 => ?_)
          obtain ⟨hMh10, hFh10, bv9, cv9⟩ := q11
          refine g_if_eq 73 dX2_answer_42 (by decide) (fun q12 => ?_) (fun q12 => ?_)
          · skip
            refine g_iincB dX2_answer_73 rfl rfl (by omega) (by omega) ?_
            refine g_goto 3 dX2_answer_76 (by decide) ?_
            exact ih3 _ _ hMh10 (Fr.tr (Fr.sub hFh2 rfl) hFh10 rfl) (by omega) (by omega) (by omega)
          · skip
            refine g_iconst dX2_answer_45 (inR_c rfl) ?_
            refine g_iload_n dX2_answer_46 rfl (fun _ => ?_)
            refine g_aload_n dX2_answer_47 rfl ?_
            refine g_aload_n dX2_answer_48 rfl ?_
            refine gR_X2_22 rfl dX2_answer_49 sh_90 (b := 92) (m_90_3 hMh10) ?_
            refine g_iload dX2_answer_52 rfl (fun _ => ?_)
            refine g_ialdB dX2_answer_54 sh_92 (by omega) (by omega) (m_92 hMh10 _) (fun v13 ev13 bv13 cv13 => ?_)
            refine g_aload_n dX2_answer_55 rfl ?_
            refine gR_X2_25 rfl dX2_answer_56 sh_90 (b := 93) (m_90_4 hMh10) ?_
            refine g_iload dX2_answer_59 rfl (fun _ => ?_)
            refine g_ialdE dX2_answer_61 sh_93 (by omega) (by omega) ((hFh10 93 _ rfl).trans ev7.symm) ?_
            refine g_aload_n dX2_answer_62 rfl ?_
            refine g_cV (as := [_, _, _]) (c_X2_reckon_90_20 _ _ h10 hMh10 (by omega) (by omega) (by omega) (by omega)) dX2_answer_63 mi_X2_reckon in_X2_reckon se_X2_reckon ml_X2_40 rfl rfl rfl sh_90 rfl rfl (Nat.le_of_ble_eq_true rfl) (fun v14 h15 q16 => ?_)
            obtain ⟨hMh15, hFh15, bv14, cv14⟩ := q16
            refine g_mmin dX2_answer_66 ml_X2_44 (Nat.le_of_ble_eq_true rfl) (Nat.le_of_ble_eq_true rfl) trivial (fun v17 ev17 => ?_)
            have bv17 : -2147483648 ≤ v17 ∧ v17 ≤ 99 := by omega
            refine g_mmax dX2_answer_69 ml_X2_50 (Nat.le_of_ble_eq_true rfl) (Nat.le_of_ble_eq_true rfl) trivial (fun v18 ev18 => ?_)
            have bv18 : 0 ≤ v18 ∧ v18 ≤ 99 := by omega
            exact g_ireturn dX2_answer_72 retI (hPo _ _ ⟨hMh15, (Fr.tr (Fr.tr (Fr.sub hFh2 rfl) hFh10 rfl) hFh15 rfl), (by omega), (by omega)⟩)
  refine g_istore dX2_answer_1 (by decide) rfl ?_
  exact c3 15 _ _ hM Fr.rf (by omega) (by omega) (by omega)
set_option maxRecDepth 100000 in
set_option maxHeartbeats 4000000 in
theorem c_X9_letFall_1_90 (x1 x2 : Int) (h : MEM) (hM : MBx h) (bx1 : 0 ≤ x1) (dx1 : x1 ≤ 7) (bx2 : 0 ≤ x2) (dx2 : x2 ≤ 9) : CI yX9_letFall cX9_letFall 10 (some .int) 4 [pR 1, pR 90, pI x1, pI x2] h (fun x h' => MBx h' ∧ Fr [(1, 9), (4, 0), (10, 0), (11, 0), (16, 0), (17, 0), (18, 0), (20, 0), (97, 0)] h h' ∧ -2147483648 ≤ x ∧ x ≤ 99) := by
  refine CI.of (L0 := [some (pR 1), some (pR 90), some (pI x1), some (pI x2), none, none, none, none, none, none]) rfl (Nat.le_of_ble_eq_true rfl) rfl (fun Po hPo hav => ?_)
  refine g_aload_n dX9_letFall_0 rfl ?_
  refine gR_X9_21 rfl dX9_letFall_1 sh_1 (b := 6) (m_1_1 hM) ?_
  refine gR_X9_103 rfl dX9_letFall_4 sh_6 (b := 7) (m_6_1 hM) ?_
  refine g_iload_n dX9_letFall_7 rfl (fun _ => ?_)
  refine g_ialdB dX9_letFall_8 sh_7 (by omega) (by omega) (m_7 hM _) (fun v1 ev1 bv1 cv1 => ?_)
  refine g_istore dX9_letFall_9 (by decide) rfl ?_
  refine g_aload_n dX9_letFall_11 rfl ?_
  refine gR_X9_12 rfl dX9_letFall_12 sh_1 (b := 2) (m_1_0 hM) ?_
  refine g_iload dX9_letFall_15 rfl (fun _ => ?_)
  refine g_cVP (as := [_]) (c_X6_has_2 _ h hM (by omega) (by omega)) dX9_letFall_17 mi_X6_has in_X6_has se_X6_has ml_X9_106 rfl rfl rfl sh_2 rfl rfl (Nat.le_of_ble_eq_true rfl) (fun v2 q3 => ?_)
  obtain ⟨v4, ev4⟩ : ∃ z, z = h 2 0 := ⟨_, rfl⟩
  have bv4 : 0 ≤ v4 ∧ v4 ≤ 10 := by rw [ev4]; exact (m_2_0 hM)
  rcases q3 with ⟨rfl, q3⟩ | ⟨rfl, q3⟩
  · skip
    refine g_if_ne 25 dX9_letFall_20 (by decide) (fun q5 => ?_) (fun _ => by exfalso; omega)
    refine g_aload_n dX9_letFall_25 rfl ?_
    refine g_iload_n dX9_letFall_26 rfl (fun _ => ?_)
    refine g_iload dX9_letFall_27 rfl (fun _ => ?_)
    refine g_iload_n dX9_letFall_29 rfl (fun _ => ?_)
    refine g_cVV (as := [_, _, _]) (c_X9_tell_1 _ _ _ h hM (by omega) (by omega) (by omega) (by omega) (by omega) (by omega)) dX9_letFall_30 mi_X9_tell in_X9_tell se_X9_tell ml_X9_107 rfl rfl rfl sh_1 rfl rfl (Nat.le_of_ble_eq_true rfl) (fun h6 q7 => ?_)
    obtain ⟨hMh6, hFh6⟩ := q7
    refine g_aload_n dX9_letFall_33 rfl ?_
    refine g_bipush dX9_letFall_34 (inR_c rfl) (by decide) ?_
    refine g_bipush dX9_letFall_36 (inR_c rfl) (by decide) ?_
    refine g_aload_n dX9_letFall_38 rfl ?_
    refine gR_X9_52 rfl dX9_letFall_39 sh_1 (b := 20) (m_1_9 hMh6) ?_
    refine g_cV (as := [_, _, _]) (c_X2_answer_90_20 _ _ h6 hMh6 (by omega) (by omega) (by omega) (by omega)) dX9_letFall_42 mi_X2_answer in_X2_answer se_X2_answer ml_X9_114 rfl rfl rfl sh_90 rfl rfl (Nat.le_of_ble_eq_true rfl) (fun v8 h9 q10 => ?_)
    obtain ⟨hMh9, hFh9, bv8, cv8⟩ := q10
    refine g_aload_n dX9_letFall_45 rfl ?_
    refine gR_X9_12 rfl dX9_letFall_46 sh_1 (b := 2) (m_1_0 hMh9) ?_
    refine gR_X9_111 rfl dX9_letFall_49 sh_2 (b := 4) (m_2_2 hMh9) ?_
    refine g_iload dX9_letFall_52 rfl (fun _ => ?_)
    refine g_ialdB dX9_letFall_54 sh_4 (by omega) (by omega) (m_4 hMh9 _) (fun v11 ev11 bv11 cv11 => ?_)
    refine g_mmin dX9_letFall_55 ml_X9_123 (Nat.le_of_ble_eq_true rfl) (Nat.le_of_ble_eq_true rfl) trivial (fun v12 ev12 => ?_)
    have bv12 : -2147483648 ≤ v12 ∧ v12 ≤ 99 := by omega
    refine g_istore dX9_letFall_58 (by decide) rfl ?_
    refine g_aload_n dX9_letFall_60 rfl ?_
    refine gR_X9_21 rfl dX9_letFall_61 sh_1 (b := 6) (m_1_1 hMh9) ?_
    refine gR_X9_75 rfl dX9_letFall_64 sh_6 (b := 9) (m_6_3 hMh9) ?_
    refine g_iload_n dX9_letFall_67 rfl (fun _ => ?_)
    refine g_ialdB dX9_letFall_68 sh_9 (by omega) (by omega) (m_9 hMh9 _) (fun v13 ev13 bv13 cv13 => ?_)
    refine g_iconst dX9_letFall_69 (inR_c rfl) ?_
    refine g_icmp_ne 81 dX9_letFall_70 (by decide) (fun q14 => ?_) (fun q14 => ?_)
    · skip
      refine g_iconst dX9_letFall_81 (inR_c rfl) ?_
      have c84 : ∀ (n : Nat) (y15 : Int) (h16 : MEM), MBx h16 → Fr [(1, 9), (4, 0), (10, 0), (11, 0), (16, 0), (17, 0), (18, 0), (20, 0), (97, 0)] h9 h16 → 0 ≤ y15 → y15 ≤ 99 → 99 - y15 < (n : Int) → G yX9_letFall cX9_letFall 10 (some .int) none Po (4, 240, 0, 0) 84 [some (pR 1), some (pR 90), some (pI x1), some (pI x2), some (pI v1), some (pI v12), some (pI y15), none, none, none] [] SH h16 0 0 := by
        intro n
        induction n with
        | zero =>
          intro y15 h16 hMh16 hFh16 by15 dy15 hn
          exfalso; omega
        | succ n ih84 =>
          intro y15 h16 hMh16 hFh16 by15 dy15 hn
          refine g_iload dX9_letFall_84 rfl (fun _ => ?_)
          refine g_iload dX9_letFall_86 rfl (fun _ => ?_)
          refine g_icmp_ge 214 dX9_letFall_88 (by decide) (fun q17 => ?_) (fun q17 => ?_)
          · skip
            refine g_iload dX9_letFall_214 rfl (fun _ => ?_)
            exact g_ireturn dX9_letFall_216 retI (hPo _ _ ⟨hMh16, (Fr.tr (Fr.tr (Fr.sub hFh6 rfl) hFh9 rfl) hFh16 rfl), (by omega), (by omega)⟩)
          · skip
            refine g_aload_n dX9_letFall_91 rfl ?_
            refine gR_X9_12 rfl dX9_letFall_92 sh_1 (b := 2) (m_1_0 hMh16) ?_
            refine gR_X9_111 rfl dX9_letFall_95 sh_2 (b := 4) (m_2_2 hMh16) ?_
            refine g_iload dX9_letFall_98 rfl (fun _ => ?_)
            refine g_dup2 dX9_letFall_100 rfl rfl ?_
            refine g_ialdB dX9_letFall_101 sh_4 (by omega) (by omega) (m_4 hMh16 _) (fun v18 ev18 bv18 cv18 => ?_)
            refine g_iconst dX9_letFall_102 (inR_c rfl) ?_
            refine g_isubF dX9_letFall_103 (fun v19 bv19 cv19 => ?_)
            refine g_iastB dX9_letFall_104 sh_4 (by omega) (by omega) (fun h20 eh20 => ?_)
            have hFh20 := Fr.ar eh20
            have hMh20 := u_4 hMh16 eh20 (by omega) (by omega)
            refine g_aload_n dX9_letFall_105 rfl ?_
            refine gR_X9_21 rfl dX9_letFall_106 sh_1 (b := 6) (m_1_1 hMh20) ?_
            refine gR_X9_129 rfl dX9_letFall_109 sh_6 (b := 10) (m_6_4 hMh20) ?_
            refine g_iload_n dX9_letFall_112 rfl (fun _ => ?_)
            refine g_dup2 dX9_letFall_113 rfl rfl ?_
            refine g_ialdB dX9_letFall_114 sh_10 (by omega) (by omega) (m_10 hMh20 _) (fun v21 ev21 bv21 cv21 => ?_)
            refine g_iconst dX9_letFall_115 (inR_c rfl) ?_
            refine g_iaddF dX9_letFall_116 (fun v22 bv22 cv22 => ?_)
            refine g_iastB dX9_letFall_117 sh_10 (by omega) (by omega) (fun h23 eh23 => ?_)
            have hFh23 := Fr.ar eh23
            have hMh23 := u_10 hMh20 eh23 (by omega) (by omega)
            refine g_aload_n dX9_letFall_118 rfl ?_
            refine gR_X9_28 rfl dX9_letFall_119 sh_1 (b := 12) (m_1_2 hMh23) ?_
            refine g_iload dX9_letFall_122 rfl (fun _ => ?_)
            refine g_cVP (as := [_]) (c_X4_struckBelow_12 _ h23 hMh23 (by omega) (by omega)) dX9_letFall_124 mi_X4_struckBelow in_X4_struckBelow se_X4_struckBelow ml_X9_132 rfl rfl rfl sh_12 rfl rfl (Nat.le_of_ble_eq_true rfl) (fun v24 q25 => ?_)
            obtain ⟨bv24, cv24⟩ := q25
            refine g_istore dX9_letFall_127 (by decide) rfl ?_
            refine g_aload_n dX9_letFall_129 rfl ?_
            refine gR_X9_28 rfl dX9_letFall_130 sh_1 (b := 12) (m_1_2 hMh23) ?_
            refine g_iload dX9_letFall_133 rfl (fun _ => ?_)
            refine g_cVP (as := [_]) (c_X4_has_12 _ h23 hMh23 (by omega) (by omega)) dX9_letFall_135 mi_X4_has in_X4_has se_X4_has ml_X9_78 rfl rfl rfl sh_12 rfl rfl (Nat.le_of_ble_eq_true rfl) (fun v26 q27 => ?_)
            have q28 : h23 12 0 = h 12 0 := ((hFh23 12 0 rfl).trans ((hFh20 12 0 rfl).trans ((hFh16 12 0 rfl).trans ((hFh9 12 0 rfl).trans (hFh6 12 0 rfl)))))
            obtain ⟨v29, ev29⟩ : ∃ z, z = h23 12 0 := ⟨_, rfl⟩
            have bv29 : 0 ≤ v29 ∧ v29 ≤ 8 := by rw [ev29]; exact (m_12_0 hMh23)
            rcases q27 with ⟨rfl, q27⟩ | ⟨rfl, q27⟩
            · skip
              refine g_if_eq 198 dX9_letFall_138 (by decide) (fun _ => by exfalso; omega) (fun q30 => ?_)
              refine g_aload_n dX9_letFall_141 rfl ?_
              refine g_iload_n dX9_letFall_142 rfl (fun _ => ?_)
              refine g_iload dX9_letFall_143 rfl (fun _ => ?_)
              refine g_iload_n dX9_letFall_145 rfl (fun _ => ?_)
              refine g_cVV (as := [_, _, _]) (c_X9_tell_1 _ _ _ h23 hMh23 (by omega) (by omega) (by omega) (by omega) (by omega) (by omega)) dX9_letFall_146 mi_X9_tell in_X9_tell se_X9_tell ml_X9_107 rfl rfl rfl sh_1 rfl rfl (Nat.le_of_ble_eq_true rfl) (fun h31 q32 => ?_)
              obtain ⟨hMh31, hFh31⟩ := q32
              refine g_aload_n dX9_letFall_149 rfl ?_
              refine g_iload_n dX9_letFall_150 rfl (fun _ => ?_)
              refine g_iload dX9_letFall_151 rfl (fun _ => ?_)
              refine g_cVV (as := [_, _]) (c_X9_tellMaster_1 _ _ h31 hMh31 (by omega) (by omega) (by omega) (by omega)) dX9_letFall_153 mi_X9_tellMaster in_X9_tellMaster se_X9_tellMaster ml_X9_136 rfl rfl rfl sh_1 rfl rfl (Nat.le_of_ble_eq_true rfl) (fun h33 q34 => ?_)
              obtain ⟨hMh33, hFh33⟩ := q34
              refine g_aload_n dX9_letFall_156 rfl ?_
              refine g_bipush dX9_letFall_157 (inR_c rfl) (by decide) ?_
              refine g_bipush dX9_letFall_159 (inR_c rfl) (by decide) ?_
              refine g_aload_n dX9_letFall_161 rfl ?_
              refine gR_X9_52 rfl dX9_letFall_162 sh_1 (b := 20) (m_1_9 hMh33) ?_
              refine g_cV (as := [_, _, _]) (c_X2_answer_90_20 _ _ h33 hMh33 (by omega) (by omega) (by omega) (by omega)) dX9_letFall_165 mi_X2_answer in_X2_answer se_X2_answer ml_X9_114 rfl rfl rfl sh_90 rfl rfl (Nat.le_of_ble_eq_true rfl) (fun v35 h36 q37 => ?_)
              obtain ⟨hMh36, hFh36, bv35, cv35⟩ := q37
              refine g_istore dX9_letFall_168 (by decide) rfl ?_
              refine g_aload_n dX9_letFall_170 rfl ?_
              refine g_bipush dX9_letFall_171 (inR_c rfl) (by decide) ?_
              refine g_bipush dX9_letFall_173 (inR_c rfl) (by decide) ?_
              refine g_aload_n dX9_letFall_175 rfl ?_
              refine gR_X9_52 rfl dX9_letFall_176 sh_1 (b := 20) (m_1_9 hMh36) ?_
              refine g_cV (as := [_, _, _]) (c_X2_answer_90_20 _ _ h36 hMh36 (by omega) (by omega) (by omega) (by omega)) dX9_letFall_179 mi_X2_answer in_X2_answer se_X2_answer ml_X9_114 rfl rfl rfl sh_90 rfl rfl (Nat.le_of_ble_eq_true rfl) (fun v38 h39 q40 => ?_)
              obtain ⟨hMh39, hFh39, bv38, cv38⟩ := q40
              refine g_istore dX9_letFall_182 (by decide) rfl ?_
              refine g_aload_n dX9_letFall_184 rfl ?_
              refine g_iload_n dX9_letFall_185 rfl (fun _ => ?_)
              refine g_iload dX9_letFall_186 rfl (fun _ => ?_)
              refine g_iload dX9_letFall_188 rfl (fun _ => ?_)
              refine g_iload dX9_letFall_190 rfl (fun _ => ?_)
              refine g_cVV (as := [_, _, _, _]) (c_X9_bruise_1 _ _ _ _ h39 hMh39 (by omega) (by omega) (by omega) (by omega) (by omega) (by omega) (by omega) (by omega)) dX9_letFall_192 mi_X9_bruise in_X9_bruise se_X9_bruise ml_X9_140 rfl rfl rfl sh_1 rfl rfl (Nat.le_of_ble_eq_true rfl) (fun h41 q42 => ?_)
              obtain ⟨hMh41, hFh41⟩ := q42
              refine g_goto 208 dX9_letFall_195 (by decide) ?_
              refine g_iincB dX9_letFall_208 rfl rfl (by omega) (by omega) ?_
              refine g_goto 84 dX9_letFall_211 (by decide) ?_
              refine g_drop 7 ?_
              refine g_drop 8 ?_
              refine g_drop 9 ?_
              exact ih84 _ _ hMh41 (Fr.tr (Fr.tr (Fr.tr (Fr.tr (Fr.tr (Fr.tr (Fr.tr (Fr.sub hFh16 rfl) hFh20 rfl) hFh23 rfl) hFh31 rfl) hFh33 rfl) hFh36 rfl) hFh39 rfl) hFh41 rfl) (by omega) (by omega) (by omega)
            · skip
              refine g_if_eq 198 dX9_letFall_138 (by decide) (fun q43 => ?_) (fun _ => by exfalso; omega)
              refine g_aload_n dX9_letFall_198 rfl ?_
              refine g_dup dX9_letFall_199 rfl ?_
              refine gI_X9_49 rfl dX9_letFall_200 sh_1 (m_1_8 hMh23) (fun v44 ev44 bv44 cv44 => ?_)
              refine g_iconst dX9_letFall_203 (inR_c rfl) ?_
              refine g_iaddF dX9_letFall_204 (fun v45 bv45 cv45 => ?_)
              refine pI_X9_49 rfl dX9_letFall_205 sh_1 (fun h46 eh46 => ?_)
              have hFh46 := Fr.st eh46
              have hMh46 := u_1_8 hMh23 eh46 (by omega) (by omega)
              refine g_iincB dX9_letFall_208 rfl rfl (by omega) (by omega) ?_
              refine g_goto 84 dX9_letFall_211 (by decide) ?_
              refine g_drop 7 ?_
              exact ih84 _ _ hMh46 (Fr.tr (Fr.tr (Fr.tr (Fr.sub hFh16 rfl) hFh20 rfl) hFh23 rfl) hFh46 rfl) (by omega) (by omega) (by omega)
      refine g_istore dX9_letFall_82 (by decide) rfl ?_
      exact c84 100 _ _ hMh9 Fr.rf (by omega) (by omega) (by omega)
    · skip
      refine g_iload dX9_letFall_73 rfl (fun _ => ?_)
      refine g_if_le 81 dX9_letFall_75 (by decide) (fun q47 => ?_) (fun q47 => ?_)
      · skip
        refine g_iconst dX9_letFall_81 (inR_c rfl) ?_
        have c84 : ∀ (n : Nat) (y48 : Int) (h49 : MEM), MBx h49 → Fr [(1, 9), (4, 0), (10, 0), (11, 0), (16, 0), (17, 0), (18, 0), (20, 0), (97, 0)] h9 h49 → 0 ≤ y48 → y48 ≤ 99 → 99 - y48 < (n : Int) → G yX9_letFall cX9_letFall 10 (some .int) none Po (4, 240, 0, 0) 84 [some (pR 1), some (pR 90), some (pI x1), some (pI x2), some (pI v1), some (pI v12), some (pI y48), none, none, none] [] SH h49 0 0 := by
          intro n
          induction n with
          | zero =>
            intro y48 h49 hMh49 hFh49 by48 dy48 hn
            exfalso; omega
          | succ n ih84 =>
            intro y48 h49 hMh49 hFh49 by48 dy48 hn
            refine g_iload dX9_letFall_84 rfl (fun _ => ?_)
            refine g_iload dX9_letFall_86 rfl (fun _ => ?_)
            refine g_icmp_ge 214 dX9_letFall_88 (by decide) (fun q50 => ?_) (fun _ => by exfalso; omega)
            refine g_iload dX9_letFall_214 rfl (fun _ => ?_)
            exact g_ireturn dX9_letFall_216 retI (hPo _ _ ⟨hMh49, (Fr.tr (Fr.tr (Fr.sub hFh6 rfl) hFh9 rfl) hFh49 rfl), (by omega), (by omega)⟩)
        refine g_istore dX9_letFall_82 (by decide) rfl ?_
        exact c84 100 _ _ hMh9 Fr.rf (by omega) (by omega) (by omega)
      · skip
        refine g_iincB dX9_letFall_78 rfl rfl (by omega) (by omega) ?_
        refine g_iconst dX9_letFall_81 (inR_c rfl) ?_
        have c84 : ∀ (n : Nat) (y51 : Int) (h52 : MEM), MBx h52 → Fr [(1, 9), (4, 0), (10, 0), (11, 0), (16, 0), (17, 0), (18, 0), (20, 0), (97, 0)] h9 h52 → 0 ≤ y51 → y51 ≤ 99 → 99 - y51 < (n : Int) → G yX9_letFall cX9_letFall 10 (some .int) none Po (4, 240, 0, 0) 84 [some (pR 1), some (pR 90), some (pI x1), some (pI x2), some (pI v1), some (pI (v12 + (-1))), some (pI y51), none, none, none] [] SH h52 0 0 := by
          intro n
          induction n with
          | zero =>
            intro y51 h52 hMh52 hFh52 by51 dy51 hn
            exfalso; omega
          | succ n ih84 =>
            intro y51 h52 hMh52 hFh52 by51 dy51 hn
            refine g_iload dX9_letFall_84 rfl (fun _ => ?_)
            refine g_iload dX9_letFall_86 rfl (fun _ => ?_)
            refine g_icmp_ge 214 dX9_letFall_88 (by decide) (fun q53 => ?_) (fun q53 => ?_)
            · skip
              refine g_iload dX9_letFall_214 rfl (fun _ => ?_)
              exact g_ireturn dX9_letFall_216 retI (hPo _ _ ⟨hMh52, (Fr.tr (Fr.tr (Fr.sub hFh6 rfl) hFh9 rfl) hFh52 rfl), (by omega), (by omega)⟩)
            · skip
              refine g_aload_n dX9_letFall_91 rfl ?_
              refine gR_X9_12 rfl dX9_letFall_92 sh_1 (b := 2) (m_1_0 hMh52) ?_
              refine gR_X9_111 rfl dX9_letFall_95 sh_2 (b := 4) (m_2_2 hMh52) ?_
              refine g_iload dX9_letFall_98 rfl (fun _ => ?_)
              refine g_dup2 dX9_letFall_100 rfl rfl ?_
              refine g_ialdB dX9_letFall_101 sh_4 (by omega) (by omega) (m_4 hMh52 _) (fun v54 ev54 bv54 cv54 => ?_)
              refine g_iconst dX9_letFall_102 (inR_c rfl) ?_
              refine g_isubF dX9_letFall_103 (fun v55 bv55 cv55 => ?_)
              refine g_iastB dX9_letFall_104 sh_4 (by omega) (by omega) (fun h56 eh56 => ?_)
              have hFh56 := Fr.ar eh56
              have hMh56 := u_4 hMh52 eh56 (by omega) (by omega)
              refine g_aload_n dX9_letFall_105 rfl ?_
              refine gR_X9_21 rfl dX9_letFall_106 sh_1 (b := 6) (m_1_1 hMh56) ?_
              refine gR_X9_129 rfl dX9_letFall_109 sh_6 (b := 10) (m_6_4 hMh56) ?_
              refine g_iload_n dX9_letFall_112 rfl (fun _ => ?_)
              refine g_dup2 dX9_letFall_113 rfl rfl ?_
              refine g_ialdB dX9_letFall_114 sh_10 (by omega) (by omega) (m_10 hMh56 _) (fun v57 ev57 bv57 cv57 => ?_)
              refine g_iconst dX9_letFall_115 (inR_c rfl) ?_
              refine g_iaddF dX9_letFall_116 (fun v58 bv58 cv58 => ?_)
              refine g_iastB dX9_letFall_117 sh_10 (by omega) (by omega) (fun h59 eh59 => ?_)
              have hFh59 := Fr.ar eh59
              have hMh59 := u_10 hMh56 eh59 (by omega) (by omega)
              refine g_aload_n dX9_letFall_118 rfl ?_
              refine gR_X9_28 rfl dX9_letFall_119 sh_1 (b := 12) (m_1_2 hMh59) ?_
              refine g_iload dX9_letFall_122 rfl (fun _ => ?_)
              refine g_cVP (as := [_]) (c_X4_struckBelow_12 _ h59 hMh59 (by omega) (by omega)) dX9_letFall_124 mi_X4_struckBelow in_X4_struckBelow se_X4_struckBelow ml_X9_132 rfl rfl rfl sh_12 rfl rfl (Nat.le_of_ble_eq_true rfl) (fun v60 q61 => ?_)
              obtain ⟨bv60, cv60⟩ := q61
              refine g_istore dX9_letFall_127 (by decide) rfl ?_
              refine g_aload_n dX9_letFall_129 rfl ?_
              refine gR_X9_28 rfl dX9_letFall_130 sh_1 (b := 12) (m_1_2 hMh59) ?_
              refine g_iload dX9_letFall_133 rfl (fun _ => ?_)
              refine g_cVP (as := [_]) (c_X4_has_12 _ h59 hMh59 (by omega) (by omega)) dX9_letFall_135 mi_X4_has in_X4_has se_X4_has ml_X9_78 rfl rfl rfl sh_12 rfl rfl (Nat.le_of_ble_eq_true rfl) (fun v62 q63 => ?_)
              have q64 : h59 12 0 = h 12 0 := ((hFh59 12 0 rfl).trans ((hFh56 12 0 rfl).trans ((hFh52 12 0 rfl).trans ((hFh9 12 0 rfl).trans (hFh6 12 0 rfl)))))
              obtain ⟨v65, ev65⟩ : ∃ z, z = h59 12 0 := ⟨_, rfl⟩
              have bv65 : 0 ≤ v65 ∧ v65 ≤ 8 := by rw [ev65]; exact (m_12_0 hMh59)
              rcases q63 with ⟨rfl, q63⟩ | ⟨rfl, q63⟩
              · skip
                refine g_if_eq 198 dX9_letFall_138 (by decide) (fun _ => by exfalso; omega) (fun q66 => ?_)
                refine g_aload_n dX9_letFall_141 rfl ?_
                refine g_iload_n dX9_letFall_142 rfl (fun _ => ?_)
                refine g_iload dX9_letFall_143 rfl (fun _ => ?_)
                refine g_iload_n dX9_letFall_145 rfl (fun _ => ?_)
                refine g_cVV (as := [_, _, _]) (c_X9_tell_1 _ _ _ h59 hMh59 (by omega) (by omega) (by omega) (by omega) (by omega) (by omega)) dX9_letFall_146 mi_X9_tell in_X9_tell se_X9_tell ml_X9_107 rfl rfl rfl sh_1 rfl rfl (Nat.le_of_ble_eq_true rfl) (fun h67 q68 => ?_)
                obtain ⟨hMh67, hFh67⟩ := q68
                refine g_aload_n dX9_letFall_149 rfl ?_
                refine g_iload_n dX9_letFall_150 rfl (fun _ => ?_)
                refine g_iload dX9_letFall_151 rfl (fun _ => ?_)
                refine g_cVV (as := [_, _]) (c_X9_tellMaster_1 _ _ h67 hMh67 (by omega) (by omega) (by omega) (by omega)) dX9_letFall_153 mi_X9_tellMaster in_X9_tellMaster se_X9_tellMaster ml_X9_136 rfl rfl rfl sh_1 rfl rfl (Nat.le_of_ble_eq_true rfl) (fun h69 q70 => ?_)
                obtain ⟨hMh69, hFh69⟩ := q70
                refine g_aload_n dX9_letFall_156 rfl ?_
                refine g_bipush dX9_letFall_157 (inR_c rfl) (by decide) ?_
                refine g_bipush dX9_letFall_159 (inR_c rfl) (by decide) ?_
                refine g_aload_n dX9_letFall_161 rfl ?_
                refine gR_X9_52 rfl dX9_letFall_162 sh_1 (b := 20) (m_1_9 hMh69) ?_
                refine g_cV (as := [_, _, _]) (c_X2_answer_90_20 _ _ h69 hMh69 (by omega) (by omega) (by omega) (by omega)) dX9_letFall_165 mi_X2_answer in_X2_answer se_X2_answer ml_X9_114 rfl rfl rfl sh_90 rfl rfl (Nat.le_of_ble_eq_true rfl) (fun v71 h72 q73 => ?_)
                obtain ⟨hMh72, hFh72, bv71, cv71⟩ := q73
                refine g_istore dX9_letFall_168 (by decide) rfl ?_
                refine g_aload_n dX9_letFall_170 rfl ?_
                refine g_bipush dX9_letFall_171 (inR_c rfl) (by decide) ?_
                refine g_bipush dX9_letFall_173 (inR_c rfl) (by decide) ?_
                refine g_aload_n dX9_letFall_175 rfl ?_
                refine gR_X9_52 rfl dX9_letFall_176 sh_1 (b := 20) (m_1_9 hMh72) ?_
                refine g_cV (as := [_, _, _]) (c_X2_answer_90_20 _ _ h72 hMh72 (by omega) (by omega) (by omega) (by omega)) dX9_letFall_179 mi_X2_answer in_X2_answer se_X2_answer ml_X9_114 rfl rfl rfl sh_90 rfl rfl (Nat.le_of_ble_eq_true rfl) (fun v74 h75 q76 => ?_)
                obtain ⟨hMh75, hFh75, bv74, cv74⟩ := q76
                refine g_istore dX9_letFall_182 (by decide) rfl ?_
                refine g_aload_n dX9_letFall_184 rfl ?_
                refine g_iload_n dX9_letFall_185 rfl (fun _ => ?_)
                refine g_iload dX9_letFall_186 rfl (fun _ => ?_)
                refine g_iload dX9_letFall_188 rfl (fun _ => ?_)
                refine g_iload dX9_letFall_190 rfl (fun _ => ?_)
                refine g_cVV (as := [_, _, _, _]) (c_X9_bruise_1 _ _ _ _ h75 hMh75 (by omega) (by omega) (by omega) (by omega) (by omega) (by omega) (by omega) (by omega)) dX9_letFall_192 mi_X9_bruise in_X9_bruise se_X9_bruise ml_X9_140 rfl rfl rfl sh_1 rfl rfl (Nat.le_of_ble_eq_true rfl) (fun h77 q78 => ?_)
                obtain ⟨hMh77, hFh77⟩ := q78
                refine g_goto 208 dX9_letFall_195 (by decide) ?_
                refine g_iincB dX9_letFall_208 rfl rfl (by omega) (by omega) ?_
                refine g_goto 84 dX9_letFall_211 (by decide) ?_
                refine g_drop 7 ?_
                refine g_drop 8 ?_
                refine g_drop 9 ?_
                exact ih84 _ _ hMh77 (Fr.tr (Fr.tr (Fr.tr (Fr.tr (Fr.tr (Fr.tr (Fr.tr (Fr.sub hFh52 rfl) hFh56 rfl) hFh59 rfl) hFh67 rfl) hFh69 rfl) hFh72 rfl) hFh75 rfl) hFh77 rfl) (by omega) (by omega) (by omega)
              · skip
                refine g_if_eq 198 dX9_letFall_138 (by decide) (fun q79 => ?_) (fun _ => by exfalso; omega)
                refine g_aload_n dX9_letFall_198 rfl ?_
                refine g_dup dX9_letFall_199 rfl ?_
                refine gI_X9_49 rfl dX9_letFall_200 sh_1 (m_1_8 hMh59) (fun v80 ev80 bv80 cv80 => ?_)
                refine g_iconst dX9_letFall_203 (inR_c rfl) ?_
                refine g_iaddF dX9_letFall_204 (fun v81 bv81 cv81 => ?_)
                refine pI_X9_49 rfl dX9_letFall_205 sh_1 (fun h82 eh82 => ?_)
                have hFh82 := Fr.st eh82
                have hMh82 := u_1_8 hMh59 eh82 (by omega) (by omega)
                refine g_iincB dX9_letFall_208 rfl rfl (by omega) (by omega) ?_
                refine g_goto 84 dX9_letFall_211 (by decide) ?_
                refine g_drop 7 ?_
                exact ih84 _ _ hMh82 (Fr.tr (Fr.tr (Fr.tr (Fr.sub hFh52 rfl) hFh56 rfl) hFh59 rfl) hFh82 rfl) (by omega) (by omega) (by omega)
        refine g_istore dX9_letFall_82 (by decide) rfl ?_
        exact c84 100 _ _ hMh9 Fr.rf (by omega) (by omega) (by omega)
  · skip
    refine g_if_ne 25 dX9_letFall_20 (by decide) (fun _ => by exfalso; omega) (fun q83 => ?_)
    refine g_iconst dX9_letFall_23 (inR_c rfl) ?_
    exact g_ireturn dX9_letFall_24 retI (hPo _ _ ⟨hM, Fr.rf, (by omega), (by omega)⟩)
set_option maxRecDepth 100000 in
set_option maxHeartbeats 4000000 in
theorem c_X9_lay_1_90 (x1 x2 : Int) (h : MEM) (hM : MBx h) (bx1 : 0 ≤ x1) (dx1 : x1 ≤ 7) (bx2 : 0 ≤ x2) (dx2 : x2 ≤ 9) : CV yX9_lay cX9_lay 5 (none) 4 [pR 1, pR 90, pI x1, pI x2] h (fun h' => MBx h' ∧ Fr [(4, 0), (20, 0), (97, 0)] h h') := by
  refine CV.of (L0 := [some (pR 1), some (pR 90), some (pI x1), some (pI x2), none]) rfl (Nat.le_of_ble_eq_true rfl) rfl (fun Po hPo hav => ?_)
  refine g_aload_n dX9_lay_0 rfl ?_
  refine gR_X9_21 rfl dX9_lay_1 sh_1 (b := 6) (m_1_1 hM) ?_
  refine gR_X9_103 rfl dX9_lay_4 sh_6 (b := 7) (m_6_1 hM) ?_
  refine g_iload_n dX9_lay_7 rfl (fun _ => ?_)
  refine g_ialdB dX9_lay_8 sh_7 (by omega) (by omega) (m_7 hM _) (fun v1 ev1 bv1 cv1 => ?_)
  refine g_istore dX9_lay_9 (by decide) rfl ?_
  refine g_aload_n dX9_lay_11 rfl ?_
  refine gR_X9_12 rfl dX9_lay_12 sh_1 (b := 2) (m_1_0 hM) ?_
  refine g_iload dX9_lay_15 rfl (fun _ => ?_)
  refine g_cVP (as := [_]) (c_X6_has_2 _ h hM (by omega) (by omega)) dX9_lay_17 mi_X6_has in_X6_has se_X6_has ml_X9_106 rfl rfl rfl sh_2 rfl rfl (Nat.le_of_ble_eq_true rfl) (fun v2 q3 => ?_)
  obtain ⟨v4, ev4⟩ : ∃ z, z = h 2 0 := ⟨_, rfl⟩
  have bv4 : 0 ≤ v4 ∧ v4 ≤ 10 := by rw [ev4]; exact (m_2_0 hM)
  rcases q3 with ⟨rfl, q3⟩ | ⟨rfl, q3⟩
  · skip
    refine g_if_ne 24 dX9_lay_20 (by decide) (fun q5 => ?_) (fun _ => by exfalso; omega)
    refine g_aload_n dX9_lay_24 rfl ?_
    refine g_iload_n dX9_lay_25 rfl (fun _ => ?_)
    refine g_iload dX9_lay_26 rfl (fun _ => ?_)
    refine g_iload_n dX9_lay_28 rfl (fun _ => ?_)
    refine g_cVV (as := [_, _, _]) (c_X9_tell_1 _ _ _ h hM (by omega) (by omega) (by omega) (by omega) (by omega) (by omega)) dX9_lay_29 mi_X9_tell in_X9_tell se_X9_tell ml_X9_107 rfl rfl rfl sh_1 rfl rfl (Nat.le_of_ble_eq_true rfl) (fun h6 q7 => ?_)
    obtain ⟨hMh6, hFh6⟩ := q7
    refine g_aload_n dX9_lay_32 rfl ?_
    refine gR_X9_12 rfl dX9_lay_33 sh_1 (b := 2) (m_1_0 hMh6) ?_
    refine gR_X9_111 rfl dX9_lay_36 sh_2 (b := 4) (m_2_2 hMh6) ?_
    refine g_iload dX9_lay_39 rfl (fun _ => ?_)
    refine g_dup2 dX9_lay_41 rfl rfl ?_
    refine g_ialdB dX9_lay_42 sh_4 (by omega) (by omega) (m_4 hMh6 _) (fun v8 ev8 bv8 cv8 => ?_)
    refine g_aload_n dX9_lay_43 rfl ?_
    refine g_bipush dX9_lay_44 (inR_c rfl) (by decide) ?_
    refine g_bipush dX9_lay_46 (inR_c rfl) (by decide) ?_
    refine g_aload_n dX9_lay_48 rfl ?_
    refine gR_X9_52 rfl dX9_lay_49 sh_1 (b := 20) (m_1_9 hMh6) ?_
    refine g_cV (as := [_, _, _]) (c_X2_answer_90_20 _ _ h6 hMh6 (by omega) (by omega) (by omega) (by omega)) dX9_lay_52 mi_X2_answer in_X2_answer se_X2_answer ml_X9_114 rfl rfl rfl sh_90 rfl rfl (Nat.le_of_ble_eq_true rfl) (fun v9 h10 q11 => ?_)
    obtain ⟨hMh10, hFh10, bv9, cv9⟩ := q11
    refine g_aload_n dX9_lay_55 rfl ?_
    refine gR_X9_12 rfl dX9_lay_56 sh_1 (b := 2) (m_1_0 hMh10) ?_
    refine gR_X9_120 rfl dX9_lay_59 sh_2 (b := 3) (m_2_1 hMh10) ?_
    refine g_iload dX9_lay_62 rfl (fun _ => ?_)
    refine g_ialdB dX9_lay_64 sh_3 (by omega) (by omega) (m_3 hMh10 _) (fun v12 ev12 bv12 cv12 => ?_)
    refine g_aload_n dX9_lay_65 rfl ?_
    refine gR_X9_12 rfl dX9_lay_66 sh_1 (b := 2) (m_1_0 hMh10) ?_
    refine gR_X9_111 rfl dX9_lay_69 sh_2 (b := 4) (m_2_2 hMh10) ?_
    refine g_iload dX9_lay_72 rfl (fun _ => ?_)
    refine g_ialdE dX9_lay_74 sh_4 (by omega) (by omega) ((hFh10 4 _ rfl).trans ev8.symm) ?_
    refine g_isubF dX9_lay_75 (fun v13 bv13 cv13 => ?_)
    refine g_mmin dX9_lay_76 ml_X9_123 (Nat.le_of_ble_eq_true rfl) (Nat.le_of_ble_eq_true rfl) trivial (fun v14 ev14 => ?_)
    have bv14 : -2147483648 ≤ v14 ∧ v14 ≤ 99 := by omega
    refine g_iaddF dX9_lay_79 (fun v15 bv15 cv15 => ?_)
    refine g_iastB dX9_lay_80 sh_4 (by omega) (by omega) (fun h16 eh16 => ?_)
    have hFh16 := Fr.ar eh16
    have hMh16 := u_4 hMh10 eh16 (by omega) (by omega)
    exact g_return dX9_lay_81 rfl (hPo _ ⟨hMh16, (Fr.tr (Fr.tr (Fr.sub hFh6 rfl) hFh10 rfl) hFh16 rfl)⟩)
  · skip
    refine g_if_ne 24 dX9_lay_20 (by decide) (fun _ => by exfalso; omega) (fun q17 => ?_)
    exact g_return dX9_lay_23 rfl (hPo _ ⟨hM, Fr.rf⟩)
set_option maxRecDepth 100000 in
set_option maxHeartbeats 4000000 in
theorem c_X9_passHour_1_90 (x1 : Int) (h : MEM) (hM : MBx h) (bx1 : 0 ≤ x1) (dx1 : x1 ≤ 9) : CI yX9_passHour cX9_passHour 6 (some .int) 5 [pR 1, pR 90, pI x1] h (fun x h' => MBx h' ∧ Fr [(1, 7), (1, 9), (4, 0), (10, 0), (11, 0), (16, 0), (17, 0), (18, 0), (20, 0), (97, 0)] h h' ∧ -2147483648 ≤ x ∧ x ≤ 2147483647) := by
  refine CI.of (L0 := [some (pR 1), some (pR 90), some (pI x1), none, none, none]) rfl (Nat.le_of_ble_eq_true rfl) rfl (fun Po hPo hav => ?_)
  refine g_iconst dX9_passHour_0 (inR_c rfl) ?_
  refine g_istore_n dX9_passHour_1 (by decide) rfl ?_
  refine g_aload_n dX9_passHour_2 rfl ?_
  refine gI_X9_42 rfl dX9_passHour_3 sh_1 (m_1_6 hM) (fun v1 ev1 bv1 cv1 => ?_)
  refine g_if_lt 35 dX9_passHour_6 (by decide) (fun q2 => ?_) (fun q2 => ?_)
  · skip
    refine g_iconst dX9_passHour_35 (inR_c rfl) ?_
    refine g_istore dX9_passHour_36 (by decide) rfl ?_
    refine g_iload dX9_passHour_38 rfl (fun _ => ?_)
    refine g_if_ne 104 dX9_passHour_40 (by decide) (fun _ => by exfalso; omega) (fun q3 => ?_)
    refine g_iconst dX9_passHour_43 (inR_c rfl) ?_
    have c46 : ∀ (n : Nat) (y4 : Int) (h5 : MEM), MBx h5 → Fr [(4, 0), (20, 0), (97, 0)] h h5 → 0 ≤ y4 → y4 ≤ 8 → 8 - y4 < (n : Int) → G yX9_passHour cX9_passHour 6 (some .int) none Po (5, 300, 0, 0) 46 [some (pR 1), some (pR 90), some (pI x1), some (pI 0), none, some (pI y4)] [] SH h5 0 0 := by
      intro n
      induction n with
      | zero =>
        intro y4 h5 hMh5 hFh5 by4 dy4 hn
        exfalso; omega
      | succ n ih46 =>
        intro y4 h5 hMh5 hFh5 by4 dy4 hn
        refine g_iload dX9_passHour_46 rfl (fun _ => ?_)
        refine g_aload_n dX9_passHour_48 rfl ?_
        refine gR_X9_21 rfl dX9_passHour_49 sh_1 (b := 6) (m_1_1 hMh5) ?_
        refine gI_X9_85 rfl dX9_passHour_52 sh_6 (m_6_0 hMh5) (fun v6 ev6 bv6 cv6 => ?_)
        refine g_icmp_ge 72 dX9_passHour_55 (by decide) (fun q7 => ?_) (fun q7 => ?_)
        · skip
          refine g_iconst dX9_passHour_72 (inR_c rfl) ?_
          have c75 : ∀ (n : Nat) (y8 y9 : Int) (h10 : MEM), MBx h10 → Fr [(1, 9), (4, 0), (10, 0), (11, 0), (16, 0), (17, 0), (18, 0), (20, 0), (97, 0)] h5 h10 → -2147483648 ≤ y8 → y8 ≤ 2147483647 → 0 ≤ y9 → y9 ≤ 8 → 8 - y9 < (n : Int) → G yX9_passHour cX9_passHour 6 (some .int) none Po (5, 300, 0, 0) 75 [some (pR 1), some (pR 90), some (pI x1), some (pI y8), none, some (pI y9)] [] SH h10 0 0 := by
            intro n
            induction n with
            | zero =>
              intro y8 y9 h10 hMh10 hFh10 by8 dy8 by9 dy9 hn
              exfalso; omega
            | succ n ih75 =>
              intro y8 y9 h10 hMh10 hFh10 by8 dy8 by9 dy9 hn
              refine g_iload dX9_passHour_75 rfl (fun _ => ?_)
              refine g_aload_n dX9_passHour_77 rfl ?_
              refine gR_X9_21 rfl dX9_passHour_78 sh_1 (b := 6) (m_1_1 hMh10) ?_
              refine gE_X9_85 rfl dX9_passHour_81 sh_6 ((hFh10 6 0 rfl).trans ev6.symm) ?_
              refine g_icmp_ge 104 dX9_passHour_84 (by decide) (fun q11 => ?_) (fun q11 => ?_)
              · skip
                refine g_aload_n dX9_passHour_104 rfl ?_
                refine g_dup dX9_passHour_105 rfl ?_
                refine gE_X9_42 rfl dX9_passHour_106 sh_1 ((hFh10 1 6 rfl).trans ((hFh5 1 6 rfl).trans ev1.symm)) ?_
                refine g_iconst dX9_passHour_109 (inR_c rfl) ?_
                refine g_iaddB dX9_passHour_110 (by omega) (by omega) ?_
                refine pI_X9_42 rfl dX9_passHour_111 sh_1 (fun h12 eh12 => ?_)
                have hFh12 := Fr.st eh12
                have hMh12 := u_1_6 hMh10 eh12 (by omega) (by omega)
                refine g_iload_n dX9_passHour_114 rfl (fun _ => ?_)
                exact g_ireturn dX9_passHour_115 retI (hPo _ _ ⟨hMh12, (Fr.tr (Fr.tr (Fr.sub hFh5 rfl) hFh10 rfl) hFh12 rfl), (by omega), (by omega)⟩)
              · skip
                refine g_iload_n dX9_passHour_87 rfl (fun _ => ?_)
                refine g_aload_n dX9_passHour_88 rfl ?_
                refine g_aload_n dX9_passHour_89 rfl ?_
                refine g_iload dX9_passHour_90 rfl (fun _ => ?_)
                refine g_iload_n dX9_passHour_92 rfl (fun _ => ?_)
                refine g_cV (as := [_, _, _]) (c_X9_letFall_1_90 _ _ h10 hMh10 (by omega) (by omega) (by omega) (by omega)) dX9_passHour_93 mi_X9_letFall in_X9_letFall se_X9_letFall ml_X9_99 rfl rfl rfl sh_1 rfl rfl (Nat.le_of_ble_eq_true rfl) (fun v13 h14 q15 => ?_)
                obtain ⟨hMh14, hFh14, bv13, cv13⟩ := q15
                refine g_iaddF dX9_passHour_96 (fun v16 bv16 cv16 => ?_)
                refine g_istore_n dX9_passHour_97 (by decide) rfl ?_
                refine g_iincB dX9_passHour_98 rfl rfl (by omega) (by omega) ?_
                refine g_goto 75 dX9_passHour_101 (by decide) ?_
                exact ih75 _ _ _ hMh14 (Fr.tr (Fr.sub hFh10 rfl) hFh14 rfl) (by omega) (by omega) (by omega) (by omega) (by omega)
          refine g_istore dX9_passHour_73 (by decide) rfl ?_
          exact c75 9 _ _ _ hMh5 Fr.rf (by omega) (by omega) (by omega) (by omega) (by omega)
        · skip
          refine g_aload_n dX9_passHour_58 rfl ?_
          refine g_aload_n dX9_passHour_59 rfl ?_
          refine g_iload dX9_passHour_60 rfl (fun _ => ?_)
          refine g_iload_n dX9_passHour_62 rfl (fun _ => ?_)
          refine g_cVV (as := [_, _, _]) (c_X9_lay_1_90 _ _ h5 hMh5 (by omega) (by omega) (by omega) (by omega)) dX9_passHour_63 mi_X9_lay in_X9_lay se_X9_lay ml_X9_95 rfl rfl rfl sh_1 rfl rfl (Nat.le_of_ble_eq_true rfl) (fun h17 q18 => ?_)
          obtain ⟨hMh17, hFh17⟩ := q18
          refine g_iincB dX9_passHour_66 rfl rfl (by omega) (by omega) ?_
          refine g_goto 46 dX9_passHour_69 (by decide) ?_
          exact ih46 _ _ hMh17 (Fr.tr (Fr.sub hFh5 rfl) hFh17 rfl) (by omega) (by omega) (by omega)
    refine g_istore dX9_passHour_44 (by decide) rfl ?_
    refine g_drop 4 ?_
    exact c46 9 _ _ hM Fr.rf (by omega) (by omega) (by omega)
  · skip
    refine g_aload_n dX9_passHour_9 rfl ?_
    refine gE_X9_42 rfl dX9_passHour_10 sh_1 ev1.symm ?_
    refine g_bipush dX9_passHour_13 (inR_c rfl) (by decide) ?_
    refine g_icmp_ge 35 dX9_passHour_15 (by decide) (fun q19 => ?_) (fun q19 => ?_)
    · skip
      refine g_iconst dX9_passHour_35 (inR_c rfl) ?_
      refine g_istore dX9_passHour_36 (by decide) rfl ?_
      refine g_iload dX9_passHour_38 rfl (fun _ => ?_)
      refine g_if_ne 104 dX9_passHour_40 (by decide) (fun _ => by exfalso; omega) (fun q20 => ?_)
      refine g_iconst dX9_passHour_43 (inR_c rfl) ?_
      have c46 : ∀ (n : Nat) (y21 : Int) (h22 : MEM), MBx h22 → Fr [(4, 0), (20, 0), (97, 0)] h h22 → 0 ≤ y21 → y21 ≤ 8 → 8 - y21 < (n : Int) → G yX9_passHour cX9_passHour 6 (some .int) none Po (5, 300, 0, 0) 46 [some (pR 1), some (pR 90), some (pI x1), some (pI 0), none, some (pI y21)] [] SH h22 0 0 := by
        intro n
        induction n with
        | zero =>
          intro y21 h22 hMh22 hFh22 by21 dy21 hn
          exfalso; omega
        | succ n ih46 =>
          intro y21 h22 hMh22 hFh22 by21 dy21 hn
          refine g_iload dX9_passHour_46 rfl (fun _ => ?_)
          refine g_aload_n dX9_passHour_48 rfl ?_
          refine gR_X9_21 rfl dX9_passHour_49 sh_1 (b := 6) (m_1_1 hMh22) ?_
          refine gI_X9_85 rfl dX9_passHour_52 sh_6 (m_6_0 hMh22) (fun v23 ev23 bv23 cv23 => ?_)
          refine g_icmp_ge 72 dX9_passHour_55 (by decide) (fun q24 => ?_) (fun q24 => ?_)
          · skip
            refine g_iconst dX9_passHour_72 (inR_c rfl) ?_
            have c75 : ∀ (n : Nat) (y25 y26 : Int) (h27 : MEM), MBx h27 → Fr [(1, 9), (4, 0), (10, 0), (11, 0), (16, 0), (17, 0), (18, 0), (20, 0), (97, 0)] h22 h27 → -2147483648 ≤ y25 → y25 ≤ 2147483647 → 0 ≤ y26 → y26 ≤ 8 → 8 - y26 < (n : Int) → G yX9_passHour cX9_passHour 6 (some .int) none Po (5, 300, 0, 0) 75 [some (pR 1), some (pR 90), some (pI x1), some (pI y25), none, some (pI y26)] [] SH h27 0 0 := by
              intro n
              induction n with
              | zero =>
                intro y25 y26 h27 hMh27 hFh27 by25 dy25 by26 dy26 hn
                exfalso; omega
              | succ n ih75 =>
                intro y25 y26 h27 hMh27 hFh27 by25 dy25 by26 dy26 hn
                refine g_iload dX9_passHour_75 rfl (fun _ => ?_)
                refine g_aload_n dX9_passHour_77 rfl ?_
                refine gR_X9_21 rfl dX9_passHour_78 sh_1 (b := 6) (m_1_1 hMh27) ?_
                refine gE_X9_85 rfl dX9_passHour_81 sh_6 ((hFh27 6 0 rfl).trans ev23.symm) ?_
                refine g_icmp_ge 104 dX9_passHour_84 (by decide) (fun q28 => ?_) (fun q28 => ?_)
                · skip
                  refine g_aload_n dX9_passHour_104 rfl ?_
                  refine g_dup dX9_passHour_105 rfl ?_
                  refine gE_X9_42 rfl dX9_passHour_106 sh_1 ((hFh27 1 6 rfl).trans ((hFh22 1 6 rfl).trans ev1.symm)) ?_
                  refine g_iconst dX9_passHour_109 (inR_c rfl) ?_
                  refine g_iaddF dX9_passHour_110 (fun v29 bv29 cv29 => ?_)
                  refine pI_X9_42 rfl dX9_passHour_111 sh_1 (fun h30 eh30 => ?_)
                  have hFh30 := Fr.st eh30
                  have hMh30 := u_1_6 hMh27 eh30 (by omega) (by omega)
                  refine g_iload_n dX9_passHour_114 rfl (fun _ => ?_)
                  exact g_ireturn dX9_passHour_115 retI (hPo _ _ ⟨hMh30, (Fr.tr (Fr.tr (Fr.sub hFh22 rfl) hFh27 rfl) hFh30 rfl), (by omega), (by omega)⟩)
                · skip
                  refine g_iload_n dX9_passHour_87 rfl (fun _ => ?_)
                  refine g_aload_n dX9_passHour_88 rfl ?_
                  refine g_aload_n dX9_passHour_89 rfl ?_
                  refine g_iload dX9_passHour_90 rfl (fun _ => ?_)
                  refine g_iload_n dX9_passHour_92 rfl (fun _ => ?_)
                  refine g_cV (as := [_, _, _]) (c_X9_letFall_1_90 _ _ h27 hMh27 (by omega) (by omega) (by omega) (by omega)) dX9_passHour_93 mi_X9_letFall in_X9_letFall se_X9_letFall ml_X9_99 rfl rfl rfl sh_1 rfl rfl (Nat.le_of_ble_eq_true rfl) (fun v31 h32 q33 => ?_)
                  obtain ⟨hMh32, hFh32, bv31, cv31⟩ := q33
                  refine g_iaddF dX9_passHour_96 (fun v34 bv34 cv34 => ?_)
                  refine g_istore_n dX9_passHour_97 (by decide) rfl ?_
                  refine g_iincB dX9_passHour_98 rfl rfl (by omega) (by omega) ?_
                  refine g_goto 75 dX9_passHour_101 (by decide) ?_
                  exact ih75 _ _ _ hMh32 (Fr.tr (Fr.sub hFh27 rfl) hFh32 rfl) (by omega) (by omega) (by omega) (by omega) (by omega)
            refine g_istore dX9_passHour_73 (by decide) rfl ?_
            exact c75 9 _ _ _ hMh22 Fr.rf (by omega) (by omega) (by omega) (by omega) (by omega)
          · skip
            refine g_aload_n dX9_passHour_58 rfl ?_
            refine g_aload_n dX9_passHour_59 rfl ?_
            refine g_iload dX9_passHour_60 rfl (fun _ => ?_)
            refine g_iload_n dX9_passHour_62 rfl (fun _ => ?_)
            refine g_cVV (as := [_, _, _]) (c_X9_lay_1_90 _ _ h22 hMh22 (by omega) (by omega) (by omega) (by omega)) dX9_passHour_63 mi_X9_lay in_X9_lay se_X9_lay ml_X9_95 rfl rfl rfl sh_1 rfl rfl (Nat.le_of_ble_eq_true rfl) (fun h35 q36 => ?_)
            obtain ⟨hMh35, hFh35⟩ := q36
            refine g_iincB dX9_passHour_66 rfl rfl (by omega) (by omega) ?_
            refine g_goto 46 dX9_passHour_69 (by decide) ?_
            exact ih46 _ _ hMh35 (Fr.tr (Fr.sub hFh22 rfl) hFh35 rfl) (by omega) (by omega) (by omega)
      refine g_istore dX9_passHour_44 (by decide) rfl ?_
      refine g_drop 4 ?_
      exact c46 9 _ _ hM Fr.rf (by omega) (by omega) (by omega)
    · skip
      refine g_aload_n dX9_passHour_18 rfl ?_
      refine gR_X9_39 rfl dX9_passHour_19 sh_1 (b := 19) (m_1_5 hM) ?_
      refine g_aload_n dX9_passHour_22 rfl ?_
      refine gE_X9_42 rfl dX9_passHour_23 sh_1 ev1.symm ?_
      refine g_ialdB dX9_passHour_26 sh_19 (by omega) (by omega) (m_19 hM _) (fun v37 ev37 bv37 cv37 => ?_)
      refine g_iconst dX9_passHour_27 (inR_c rfl) ?_
      refine g_icmp_ne 35 dX9_passHour_28 (by decide) (fun q38 => ?_) (fun q38 => ?_)
      · skip
        refine g_iconst dX9_passHour_35 (inR_c rfl) ?_
        refine g_istore dX9_passHour_36 (by decide) rfl ?_
        refine g_iload dX9_passHour_38 rfl (fun _ => ?_)
        refine g_if_ne 104 dX9_passHour_40 (by decide) (fun _ => by exfalso; omega) (fun q39 => ?_)
        refine g_iconst dX9_passHour_43 (inR_c rfl) ?_
        have c46 : ∀ (n : Nat) (y40 : Int) (h41 : MEM), MBx h41 → Fr [(4, 0), (20, 0), (97, 0)] h h41 → 0 ≤ y40 → y40 ≤ 8 → 8 - y40 < (n : Int) → G yX9_passHour cX9_passHour 6 (some .int) none Po (5, 300, 0, 0) 46 [some (pR 1), some (pR 90), some (pI x1), some (pI 0), none, some (pI y40)] [] SH h41 0 0 := by
          intro n
          induction n with
          | zero =>
            intro y40 h41 hMh41 hFh41 by40 dy40 hn
            exfalso; omega
          | succ n ih46 =>
            intro y40 h41 hMh41 hFh41 by40 dy40 hn
            refine g_iload dX9_passHour_46 rfl (fun _ => ?_)
            refine g_aload_n dX9_passHour_48 rfl ?_
            refine gR_X9_21 rfl dX9_passHour_49 sh_1 (b := 6) (m_1_1 hMh41) ?_
            refine gI_X9_85 rfl dX9_passHour_52 sh_6 (m_6_0 hMh41) (fun v42 ev42 bv42 cv42 => ?_)
            refine g_icmp_ge 72 dX9_passHour_55 (by decide) (fun q43 => ?_) (fun q43 => ?_)
            · skip
              refine g_iconst dX9_passHour_72 (inR_c rfl) ?_
              have c75 : ∀ (n : Nat) (y44 y45 : Int) (h46 : MEM), MBx h46 → Fr [(1, 9), (4, 0), (10, 0), (11, 0), (16, 0), (17, 0), (18, 0), (20, 0), (97, 0)] h41 h46 → -2147483648 ≤ y44 → y44 ≤ 2147483647 → 0 ≤ y45 → y45 ≤ 8 → 8 - y45 < (n : Int) → G yX9_passHour cX9_passHour 6 (some .int) none Po (5, 300, 0, 0) 75 [some (pR 1), some (pR 90), some (pI x1), some (pI y44), none, some (pI y45)] [] SH h46 0 0 := by
                intro n
                induction n with
                | zero =>
                  intro y44 y45 h46 hMh46 hFh46 by44 dy44 by45 dy45 hn
                  exfalso; omega
                | succ n ih75 =>
                  intro y44 y45 h46 hMh46 hFh46 by44 dy44 by45 dy45 hn
                  refine g_iload dX9_passHour_75 rfl (fun _ => ?_)
                  refine g_aload_n dX9_passHour_77 rfl ?_
                  refine gR_X9_21 rfl dX9_passHour_78 sh_1 (b := 6) (m_1_1 hMh46) ?_
                  refine gE_X9_85 rfl dX9_passHour_81 sh_6 ((hFh46 6 0 rfl).trans ev42.symm) ?_
                  refine g_icmp_ge 104 dX9_passHour_84 (by decide) (fun q47 => ?_) (fun q47 => ?_)
                  · skip
                    refine g_aload_n dX9_passHour_104 rfl ?_
                    refine g_dup dX9_passHour_105 rfl ?_
                    refine gE_X9_42 rfl dX9_passHour_106 sh_1 ((hFh46 1 6 rfl).trans ((hFh41 1 6 rfl).trans ev1.symm)) ?_
                    refine g_iconst dX9_passHour_109 (inR_c rfl) ?_
                    refine g_iaddB dX9_passHour_110 (by omega) (by omega) ?_
                    refine pI_X9_42 rfl dX9_passHour_111 sh_1 (fun h48 eh48 => ?_)
                    have hFh48 := Fr.st eh48
                    have hMh48 := u_1_6 hMh46 eh48 (by omega) (by omega)
                    refine g_iload_n dX9_passHour_114 rfl (fun _ => ?_)
                    exact g_ireturn dX9_passHour_115 retI (hPo _ _ ⟨hMh48, (Fr.tr (Fr.tr (Fr.sub hFh41 rfl) hFh46 rfl) hFh48 rfl), (by omega), (by omega)⟩)
                  · skip
                    refine g_iload_n dX9_passHour_87 rfl (fun _ => ?_)
                    refine g_aload_n dX9_passHour_88 rfl ?_
                    refine g_aload_n dX9_passHour_89 rfl ?_
                    refine g_iload dX9_passHour_90 rfl (fun _ => ?_)
                    refine g_iload_n dX9_passHour_92 rfl (fun _ => ?_)
                    refine g_cV (as := [_, _, _]) (c_X9_letFall_1_90 _ _ h46 hMh46 (by omega) (by omega) (by omega) (by omega)) dX9_passHour_93 mi_X9_letFall in_X9_letFall se_X9_letFall ml_X9_99 rfl rfl rfl sh_1 rfl rfl (Nat.le_of_ble_eq_true rfl) (fun v49 h50 q51 => ?_)
                    obtain ⟨hMh50, hFh50, bv49, cv49⟩ := q51
                    refine g_iaddF dX9_passHour_96 (fun v52 bv52 cv52 => ?_)
                    refine g_istore_n dX9_passHour_97 (by decide) rfl ?_
                    refine g_iincB dX9_passHour_98 rfl rfl (by omega) (by omega) ?_
                    refine g_goto 75 dX9_passHour_101 (by decide) ?_
                    exact ih75 _ _ _ hMh50 (Fr.tr (Fr.sub hFh46 rfl) hFh50 rfl) (by omega) (by omega) (by omega) (by omega) (by omega)
              refine g_istore dX9_passHour_73 (by decide) rfl ?_
              exact c75 9 _ _ _ hMh41 Fr.rf (by omega) (by omega) (by omega) (by omega) (by omega)
            · skip
              refine g_aload_n dX9_passHour_58 rfl ?_
              refine g_aload_n dX9_passHour_59 rfl ?_
              refine g_iload dX9_passHour_60 rfl (fun _ => ?_)
              refine g_iload_n dX9_passHour_62 rfl (fun _ => ?_)
              refine g_cVV (as := [_, _, _]) (c_X9_lay_1_90 _ _ h41 hMh41 (by omega) (by omega) (by omega) (by omega)) dX9_passHour_63 mi_X9_lay in_X9_lay se_X9_lay ml_X9_95 rfl rfl rfl sh_1 rfl rfl (Nat.le_of_ble_eq_true rfl) (fun h53 q54 => ?_)
              obtain ⟨hMh53, hFh53⟩ := q54
              refine g_iincB dX9_passHour_66 rfl rfl (by omega) (by omega) ?_
              refine g_goto 46 dX9_passHour_69 (by decide) ?_
              exact ih46 _ _ hMh53 (Fr.tr (Fr.sub hFh41 rfl) hFh53 rfl) (by omega) (by omega) (by omega)
        refine g_istore dX9_passHour_44 (by decide) rfl ?_
        refine g_drop 4 ?_
        exact c46 9 _ _ hM Fr.rf (by omega) (by omega) (by omega)
      · skip
        refine g_iconst dX9_passHour_31 (inR_c rfl) ?_
        refine g_goto 36 dX9_passHour_32 (by decide) ?_
        refine g_istore dX9_passHour_36 (by decide) rfl ?_
        refine g_iload dX9_passHour_38 rfl (fun _ => ?_)
        refine g_if_ne 104 dX9_passHour_40 (by decide) (fun q55 => ?_) (fun _ => by exfalso; omega)
        refine g_aload_n dX9_passHour_104 rfl ?_
        refine g_dup dX9_passHour_105 rfl ?_
        refine gE_X9_42 rfl dX9_passHour_106 sh_1 ev1.symm ?_
        refine g_iconst dX9_passHour_109 (inR_c rfl) ?_
        refine g_iaddB dX9_passHour_110 (by omega) (by omega) ?_
        refine pI_X9_42 rfl dX9_passHour_111 sh_1 (fun h56 eh56 => ?_)
        have hFh56 := Fr.st eh56
        have hMh56 := u_1_6 hM eh56 (by omega) (by omega)
        refine g_iload_n dX9_passHour_114 rfl (fun _ => ?_)
        exact g_ireturn dX9_passHour_115 retI (hPo _ _ ⟨hMh56, (Fr.sub hFh56 rfl), (by omega), (by omega)⟩)
set_option maxRecDepth 100000 in
set_option maxHeartbeats 4000000 in
theorem c_X9_passHours_1_90 (x1 : Int) (h : MEM) (hM : MBx h) (bx1 : 1 ≤ x1) (dx1 : x1 ≤ 40) : CI yX9_passHours cX9_passHours 5 (some .int) 6 [pR 1, pR 90, pI x1] h (fun x h' => MBx h' ∧ Fr [(1, 7), (1, 8), (1, 9), (4, 0), (10, 0), (11, 0), (16, 0), (17, 0), (18, 0), (20, 0), (97, 0)] h h' ∧ -2147483648 ≤ x ∧ x ≤ 2147483647) := by
  refine CI.of (L0 := [some (pR 1), some (pR 90), some (pI x1), none, none]) rfl (Nat.le_of_ble_eq_true rfl) rfl (fun Po hPo hav => ?_)
  refine g_iconst dX9_passHours_0 (inR_c rfl) ?_
  refine g_istore_n dX9_passHours_1 (by decide) rfl ?_
  refine g_iconst dX9_passHours_2 (inR_c rfl) ?_
  have c5 : ∀ (n : Nat) (y1 y2 : Int) (h3 : MEM), MBx h3 → Fr [(1, 7), (1, 8), (1, 9), (4, 0), (10, 0), (11, 0), (16, 0), (17, 0), (18, 0), (20, 0), (97, 0)] h h3 → -2147483648 ≤ y1 → y1 ≤ 2147483647 → 0 ≤ y2 → y2 ≤ 40 → 40 - y2 < (n : Int) → G yX9_passHours cX9_passHours 5 (some .int) none Po (6, 360, 0, 0) 5 [some (pR 1), some (pR 90), some (pI x1), some (pI y1), some (pI y2)] [] SH h3 0 0 := by
    intro n
    induction n with
    | zero =>
      intro y1 y2 h3 hMh3 hFh3 by1 dy1 by2 dy2 hn
      exfalso; omega
    | succ n ih5 =>
      intro y1 y2 h3 hMh3 hFh3 by1 dy1 by2 dy2 hn
      refine g_iload dX9_passHours_5 rfl (fun _ => ?_)
      refine g_iload_n dX9_passHours_7 rfl (fun _ => ?_)
      refine g_icmp_ge 29 dX9_passHours_8 (by decide) (fun q4 => ?_) (fun q4 => ?_)
      · skip
        refine g_iload_n dX9_passHours_29 rfl (fun _ => ?_)
        exact g_ireturn dX9_passHours_30 retI (hPo _ _ ⟨hMh3, (Fr.sub hFh3 rfl), (by omega), (by omega)⟩)
      · skip
        refine g_iload_n dX9_passHours_11 rfl (fun _ => ?_)
        refine g_aload_n dX9_passHours_12 rfl ?_
        refine g_aload_n dX9_passHours_13 rfl ?_
        refine g_aload_n dX9_passHours_14 rfl ?_
        refine g_cV (as := []) (c_X9_nextWind_1  h3 hMh3) dX9_passHours_15 mi_X9_nextWind in_X9_nextWind se_X9_nextWind ml_X9_87 rfl rfl rfl sh_1 rfl rfl (Nat.le_of_ble_eq_true rfl) (fun v5 h6 q7 => ?_)
        obtain ⟨hMh6, hFh6, bv5, cv5⟩ := q7
        refine g_cV (as := [_, _]) (c_X9_passHour_1_90 _ h6 hMh6 (by omega) (by omega)) dX9_passHours_18 mi_X9_passHour in_X9_passHour se_X9_passHour ml_X9_91 rfl rfl rfl sh_1 rfl rfl (Nat.le_of_ble_eq_true rfl) (fun v8 h9 q10 => ?_)
        obtain ⟨hMh9, hFh9, bv8, cv8⟩ := q10
        refine g_iaddF dX9_passHours_21 (fun v11 bv11 cv11 => ?_)
        refine g_istore_n dX9_passHours_22 (by decide) rfl ?_
        refine g_iincB dX9_passHours_23 rfl rfl (by omega) (by omega) ?_
        refine g_goto 5 dX9_passHours_26 (by decide) ?_
        exact ih5 _ _ _ hMh9 (Fr.tr (Fr.tr (Fr.sub hFh3 rfl) hFh6 rfl) hFh9 rfl) (by omega) (by omega) (by omega) (by omega) (by omega)
  refine g_istore dX9_passHours_3 (by decide) rfl ?_
  exact c5 41 _ _ _ hM Fr.rf (by omega) (by omega) (by omega) (by omega) (by omega)
set_option maxRecDepth 100000 in
set_option maxHeartbeats 4000000 in
theorem c_X11_hours_0 (x1 : Int) (h : MEM) (hM : MBx h) (bx1 : -2147483648 ≤ x1) (dx1 : x1 ≤ 2147483647) (f_LD : LD h) : CI yX11_hours cX11_hours 2 (some .int) 7 [pR 0, pI x1] h (fun x h' => MBx h' ∧ Fr [(1, 7), (1, 8), (1, 9), (4, 0), (10, 0), (11, 0), (16, 0), (17, 0), (18, 0), (20, 0), (89, 0), (97, 0)] h h' ∧ -2147483648 ≤ x ∧ x ≤ 2147483647) := by
  refine CI.of (L0 := [some (pR 0), some (pI x1)]) rfl (Nat.le_of_ble_eq_true rfl) rfl (fun Po hPo hav => ?_)
  rcases id f_LD with ⟨er0_10, er0_11⟩ | ⟨er0_10, er0_11⟩
  · skip
    refine g_iload_n dX11_hours_0 rfl (fun _ => ?_)
    refine g_iconst dX11_hours_1 (inR_c rfl) ?_
    refine g_bipush dX11_hours_2 (inR_c rfl) (by decide) ?_
    refine g_cSP (av := [_, _, _]) (c_X11_isWithin _ _ _ h hM (by omega) (by omega) (by omega) (by omega) (by omega) (by omega)) dX11_hours_4 mi_X11_isWithin st_X11_isWithin ml_X11_81 rfl rfl rfl rfl (Nat.le_of_ble_eq_true rfl) (fun v1 q2 => ?_)
    rcases q2 with ⟨rfl, q2⟩ | ⟨rfl, q2⟩
    · skip
      refine g_if_eq 25 dX11_hours_7 (by decide) (fun _ => by exfalso; omega) (fun q3 => ?_)
      refine g_aload_n dX11_hours_10 rfl ?_
      refine gR_X11_10 rfl dX11_hours_11 sh_0 (b := 1) (m_0_0 hM) ?_
      refine g_aload_n dX11_hours_14 rfl ?_
      refine gR_X11_70 rfl dX11_hours_15 sh_0 (b := 82) er0_10 ?_
      refine g_iload_n dX11_hours_18 rfl (fun _ => ?_)
      refine g_cV (as := [_, _]) (c_X9_passHours_1_82 _ h hM (by omega) (by omega)) dX11_hours_19 mi_X9_passHours in_X9_passHours se_X9_passHours ml_X11_152 rfl rfl rfl sh_1 rfl rfl (Nat.le_of_ble_eq_true rfl) (fun v4 h5 q6 => ?_)
      obtain ⟨hMh5, hFh5, bv4, cv4⟩ := q6
      refine g_goto 26 dX11_hours_22 (by decide) ?_
      exact g_ireturn dX11_hours_26 retI (hPo _ _ ⟨hMh5, (Fr.sub hFh5 rfl), (by omega), (by omega)⟩)
    · skip
      refine g_if_eq 25 dX11_hours_7 (by decide) (fun q7 => ?_) (fun _ => by exfalso; omega)
      refine g_iconst dX11_hours_25 (inR_c rfl) ?_
      exact g_ireturn dX11_hours_26 retI (hPo _ _ ⟨hM, Fr.rf, (by omega), (by omega)⟩)
  · skip
    refine g_iload_n dX11_hours_0 rfl (fun _ => ?_)
    refine g_iconst dX11_hours_1 (inR_c rfl) ?_
    refine g_bipush dX11_hours_2 (inR_c rfl) (by decide) ?_
    refine g_cSP (av := [_, _, _]) (c_X11_isWithin _ _ _ h hM (by omega) (by omega) (by omega) (by omega) (by omega) (by omega)) dX11_hours_4 mi_X11_isWithin st_X11_isWithin ml_X11_81 rfl rfl rfl rfl (Nat.le_of_ble_eq_true rfl) (fun v8 q9 => ?_)
    rcases q9 with ⟨rfl, q9⟩ | ⟨rfl, q9⟩
    · skip
      refine g_if_eq 25 dX11_hours_7 (by decide) (fun _ => by exfalso; omega) (fun q10 => ?_)
      refine g_aload_n dX11_hours_10 rfl ?_
      refine gR_X11_10 rfl dX11_hours_11 sh_0 (b := 1) (m_0_0 hM) ?_
      refine g_aload_n dX11_hours_14 rfl ?_
      refine gR_X11_70 rfl dX11_hours_15 sh_0 (b := 90) er0_10 ?_
      refine g_iload_n dX11_hours_18 rfl (fun _ => ?_)
      refine g_cV (as := [_, _]) (c_X9_passHours_1_90 _ h hM (by omega) (by omega)) dX11_hours_19 mi_X9_passHours in_X9_passHours se_X9_passHours ml_X11_152 rfl rfl rfl sh_1 rfl rfl (Nat.le_of_ble_eq_true rfl) (fun v11 h12 q13 => ?_)
      obtain ⟨hMh12, hFh12, bv11, cv11⟩ := q13
      refine g_goto 26 dX11_hours_22 (by decide) ?_
      exact g_ireturn dX11_hours_26 retI (hPo _ _ ⟨hMh12, (Fr.sub hFh12 rfl), (by omega), (by omega)⟩)
    · skip
      refine g_if_eq 25 dX11_hours_7 (by decide) (fun q14 => ?_) (fun _ => by exfalso; omega)
      refine g_iconst dX11_hours_25 (inR_c rfl) ?_
      exact g_ireturn dX11_hours_26 retI (hPo _ _ ⟨hM, Fr.rf, (by omega), (by omega)⟩)
set_option maxRecDepth 100000 in
set_option maxHeartbeats 4000000 in
theorem c_X11_hour_0 (x1 : Int) (h : MEM) (hM : MBx h) (bx1 : -2147483648 ≤ x1) (dx1 : x1 ≤ 2147483647) (f_LD : LD h) : CI yX11_hour cX11_hour 2 (some .int) 6 [pR 0, pI x1] h (fun x h' => MBx h' ∧ Fr [(1, 7), (1, 9), (4, 0), (10, 0), (11, 0), (16, 0), (17, 0), (18, 0), (20, 0), (89, 0), (97, 0)] h h' ∧ -2147483648 ≤ x ∧ x ≤ 2147483647) := by
  refine CI.of (L0 := [some (pR 0), some (pI x1)]) rfl (Nat.le_of_ble_eq_true rfl) rfl (fun Po hPo hav => ?_)
  rcases id f_LD with ⟨er0_10, er0_11⟩ | ⟨er0_10, er0_11⟩
  · skip
    refine g_iload_n dX11_hour_0 rfl (fun _ => ?_)
    refine g_iconst dX11_hour_1 (inR_c rfl) ?_
    refine g_bipush dX11_hour_2 (inR_c rfl) (by decide) ?_
    refine g_cSP (av := [_, _, _]) (c_X11_isWithin _ _ _ h hM (by omega) (by omega) (by omega) (by omega) (by omega) (by omega)) dX11_hour_4 mi_X11_isWithin st_X11_isWithin ml_X11_81 rfl rfl rfl rfl (Nat.le_of_ble_eq_true rfl) (fun v1 q2 => ?_)
    rcases q2 with ⟨rfl, q2⟩ | ⟨rfl, q2⟩
    · skip
      refine g_if_eq 25 dX11_hour_7 (by decide) (fun _ => by exfalso; omega) (fun q3 => ?_)
      refine g_aload_n dX11_hour_10 rfl ?_
      refine gR_X11_10 rfl dX11_hour_11 sh_0 (b := 1) (m_0_0 hM) ?_
      refine g_aload_n dX11_hour_14 rfl ?_
      refine gR_X11_70 rfl dX11_hour_15 sh_0 (b := 82) er0_10 ?_
      refine g_iload_n dX11_hour_18 rfl (fun _ => ?_)
      refine g_cV (as := [_, _]) (c_X9_passHour_1_82 _ h hM (by omega) (by omega)) dX11_hour_19 mi_X9_passHour in_X9_passHour se_X9_passHour ml_X11_156 rfl rfl rfl sh_1 rfl rfl (Nat.le_of_ble_eq_true rfl) (fun v4 h5 q6 => ?_)
      obtain ⟨hMh5, hFh5, bv4, cv4⟩ := q6
      refine g_goto 26 dX11_hour_22 (by decide) ?_
      exact g_ireturn dX11_hour_26 retI (hPo _ _ ⟨hMh5, (Fr.sub hFh5 rfl), (by omega), (by omega)⟩)
    · skip
      refine g_if_eq 25 dX11_hour_7 (by decide) (fun q7 => ?_) (fun _ => by exfalso; omega)
      refine g_iconst dX11_hour_25 (inR_c rfl) ?_
      exact g_ireturn dX11_hour_26 retI (hPo _ _ ⟨hM, Fr.rf, (by omega), (by omega)⟩)
  · skip
    refine g_iload_n dX11_hour_0 rfl (fun _ => ?_)
    refine g_iconst dX11_hour_1 (inR_c rfl) ?_
    refine g_bipush dX11_hour_2 (inR_c rfl) (by decide) ?_
    refine g_cSP (av := [_, _, _]) (c_X11_isWithin _ _ _ h hM (by omega) (by omega) (by omega) (by omega) (by omega) (by omega)) dX11_hour_4 mi_X11_isWithin st_X11_isWithin ml_X11_81 rfl rfl rfl rfl (Nat.le_of_ble_eq_true rfl) (fun v8 q9 => ?_)
    rcases q9 with ⟨rfl, q9⟩ | ⟨rfl, q9⟩
    · skip
      refine g_if_eq 25 dX11_hour_7 (by decide) (fun _ => by exfalso; omega) (fun q10 => ?_)
      refine g_aload_n dX11_hour_10 rfl ?_
      refine gR_X11_10 rfl dX11_hour_11 sh_0 (b := 1) (m_0_0 hM) ?_
      refine g_aload_n dX11_hour_14 rfl ?_
      refine gR_X11_70 rfl dX11_hour_15 sh_0 (b := 90) er0_10 ?_
      refine g_iload_n dX11_hour_18 rfl (fun _ => ?_)
      refine g_cV (as := [_, _]) (c_X9_passHour_1_90 _ h hM (by omega) (by omega)) dX11_hour_19 mi_X9_passHour in_X9_passHour se_X9_passHour ml_X11_156 rfl rfl rfl sh_1 rfl rfl (Nat.le_of_ble_eq_true rfl) (fun v11 h12 q13 => ?_)
      obtain ⟨hMh12, hFh12, bv11, cv11⟩ := q13
      refine g_goto 26 dX11_hour_22 (by decide) ?_
      exact g_ireturn dX11_hour_26 retI (hPo _ _ ⟨hMh12, (Fr.sub hFh12 rfl), (by omega), (by omega)⟩)
    · skip
      refine g_if_eq 25 dX11_hour_7 (by decide) (fun q14 => ?_) (fun _ => by exfalso; omega)
      refine g_iconst dX11_hour_25 (inR_c rfl) ?_
      exact g_ireturn dX11_hour_26 retI (hPo _ _ ⟨hM, Fr.rf, (by omega), (by omega)⟩)
set_option maxRecDepth 100000 in
set_option maxHeartbeats 4000000 in
theorem c_X0_bitsOn_6 (x1 : Int) (h : MEM) (hM : MBx h) (bx1 : 0 ≤ x1) (dx1 : x1 ≤ 9) : CP yX0_bitsOn cX0_bitsOn 4 (some .int) 1 [pR 6, pI x1] h (fun x => 0 ≤ x ∧ x ≤ 255) := by
  refine CP.of (L0 := [some (pR 6), some (pI x1), none, none]) rfl (Nat.le_of_ble_eq_true rfl) rfl (fun Po hPo hav => ?_)
  refine g_iconst dX0_bitsOn_0 (inR_c rfl) ?_
  refine g_istore_n dX0_bitsOn_1 (by decide) rfl ?_
  refine g_iconst dX0_bitsOn_2 (inR_c rfl) ?_
  have c4 : ∀ (n : Nat) (y1 y2 : Int) , 0 ≤ y1 → y1 ≤ 255 → 0 ≤ y2 → y2 ≤ 8 → 8 - y2 < (n : Int) → G yX0_bitsOn cX0_bitsOn 4 (some .int) none Po (1, 60, 0, 0) 4 [some (pR 6), some (pI x1), some (pI y1), some (pI y2)] [] SH h 0 0 := by
    intro n
    induction n with
    | zero =>
      intro y1 y2 by1 dy1 by2 dy2 hn
      exfalso; omega
    | succ n ih4 =>
      intro y1 y2 by1 dy1 by2 dy2 hn
      refine g_iload_n dX0_bitsOn_4 rfl (fun _ => ?_)
      refine g_aload_n dX0_bitsOn_5 rfl ?_
      refine gI_X0_9 rfl dX0_bitsOn_6 sh_6 (m_6_0 hM) (fun v3 ev3 bv3 cv3 => ?_)
      refine g_icmp_ge 34 dX0_bitsOn_9 (by decide) (fun q4 => ?_) (fun q4 => ?_)
      · skip
        refine g_iload_n dX0_bitsOn_34 rfl (fun _ => ?_)
        exact g_ireturn dX0_bitsOn_35 retI (hPo _ ⟨(by omega), (by omega)⟩)
      · skip
        refine g_aload_n dX0_bitsOn_12 rfl ?_
        refine gR_X0_15 rfl dX0_bitsOn_13 sh_6 (b := 7) (m_6_1 hM) ?_
        refine g_iload_n dX0_bitsOn_16 rfl (fun _ => ?_)
        refine g_ialdB dX0_bitsOn_17 sh_7 (by omega) (by omega) (m_7 hM _) (fun v5 ev5 bv5 cv5 => ?_)
        refine g_iload_n dX0_bitsOn_18 rfl (fun _ => ?_)
        refine g_icmp_ne 28 dX0_bitsOn_19 (by decide) (fun q6 => ?_) (fun q6 => ?_)
        · skip
          refine g_iincB dX0_bitsOn_28 rfl rfl (by omega) (by omega) ?_
          refine g_goto 4 dX0_bitsOn_31 (by decide) ?_
          exact ih4 _ _ (by omega) (by omega) (by omega) (by omega) (by omega)
        · skip
          refine g_iload_n dX0_bitsOn_22 rfl (fun _ => ?_)
          refine g_iconst dX0_bitsOn_23 (inR_c rfl) ?_
          refine g_iload_n dX0_bitsOn_24 rfl (fun _ => ?_)
          refine g_ishlX (lo := 1) (hi := 128) dX0_bitsOn_25 (ishl1_b 7 (by decide) (by omega) (by omega)) (fun v7 ev7 bv7 cv7 => ?_)
          refine g_iorX (lo := 0) (hi := 255) dX0_bitsOn_26 (ior_b 8 (by decide) (by omega) (by omega) (by omega) (by omega)) (fun v8 ev8 bv8 cv8 => ?_)
          refine g_istore_n dX0_bitsOn_27 (by decide) rfl ?_
          refine g_iincB dX0_bitsOn_28 rfl rfl (by omega) (by omega) ?_
          refine g_goto 4 dX0_bitsOn_31 (by decide) ?_
          exact ih4 _ _ (by omega) (by omega) (by omega) (by omega) (by omega)
  refine g_istore_n dX0_bitsOn_3 (by decide) rfl ?_
  exact c4 9 _ _ (by omega) (by omega) (by omega) (by omega) (by omega)
set_option maxRecDepth 100000 in
set_option maxHeartbeats 4000000 in
theorem c_X4_bitsBelow_12 (x1 : Int) (h : MEM) (hM : MBx h) (bx1 : 0 ≤ x1) (dx1 : x1 ≤ 9) : CP yX4_bitsBelow cX4_bitsBelow 4 (some .int) 1 [pR 12, pI x1] h (fun x => 0 ≤ x ∧ x ≤ 255) := by
  refine CP.of (L0 := [some (pR 12), some (pI x1), none, none]) rfl (Nat.le_of_ble_eq_true rfl) rfl (fun Po hPo hav => ?_)
  refine g_iconst dX4_bitsBelow_0 (inR_c rfl) ?_
  refine g_istore_n dX4_bitsBelow_1 (by decide) rfl ?_
  refine g_iconst dX4_bitsBelow_2 (inR_c rfl) ?_
  have c4 : ∀ (n : Nat) (y1 y2 : Int) , 0 ≤ y1 → y1 ≤ 255 → 0 ≤ y2 → y2 ≤ 8 → 8 - y2 < (n : Int) → G yX4_bitsBelow cX4_bitsBelow 4 (some .int) none Po (1, 60, 0, 0) 4 [some (pR 12), some (pI x1), some (pI y1), some (pI y2)] [] SH h 0 0 := by
    intro n
    induction n with
    | zero =>
      intro y1 y2 by1 dy1 by2 dy2 hn
      exfalso; omega
    | succ n ih4 =>
      intro y1 y2 by1 dy1 by2 dy2 hn
      refine g_iload_n dX4_bitsBelow_4 rfl (fun _ => ?_)
      refine g_aload_n dX4_bitsBelow_5 rfl ?_
      refine gI_X4_9 rfl dX4_bitsBelow_6 sh_12 (m_12_0 hM) (fun v3 ev3 bv3 cv3 => ?_)
      refine g_icmp_ge 34 dX4_bitsBelow_9 (by decide) (fun q4 => ?_) (fun q4 => ?_)
      · skip
        refine g_iload_n dX4_bitsBelow_34 rfl (fun _ => ?_)
        exact g_ireturn dX4_bitsBelow_35 retI (hPo _ ⟨(by omega), (by omega)⟩)
      · skip
        refine g_aload_n dX4_bitsBelow_12 rfl ?_
        refine gR_X4_15 rfl dX4_bitsBelow_13 sh_12 (b := 13) (m_12_1 hM) ?_
        refine g_iload_n dX4_bitsBelow_16 rfl (fun _ => ?_)
        refine g_ialdB dX4_bitsBelow_17 sh_13 (by omega) (by omega) (m_13 hM _) (fun v5 ev5 bv5 cv5 => ?_)
        refine g_iload_n dX4_bitsBelow_18 rfl (fun _ => ?_)
        refine g_icmp_ne 28 dX4_bitsBelow_19 (by decide) (fun q6 => ?_) (fun q6 => ?_)
        · skip
          refine g_iincB dX4_bitsBelow_28 rfl rfl (by omega) (by omega) ?_
          refine g_goto 4 dX4_bitsBelow_31 (by decide) ?_
          exact ih4 _ _ (by omega) (by omega) (by omega) (by omega) (by omega)
        · skip
          refine g_iload_n dX4_bitsBelow_22 rfl (fun _ => ?_)
          refine g_iconst dX4_bitsBelow_23 (inR_c rfl) ?_
          refine g_iload_n dX4_bitsBelow_24 rfl (fun _ => ?_)
          refine g_ishlX (lo := 1) (hi := 128) dX4_bitsBelow_25 (ishl1_b 7 (by decide) (by omega) (by omega)) (fun v7 ev7 bv7 cv7 => ?_)
          refine g_iorX (lo := 0) (hi := 255) dX4_bitsBelow_26 (ior_b 8 (by decide) (by omega) (by omega) (by omega) (by omega)) (fun v8 ev8 bv8 cv8 => ?_)
          refine g_istore_n dX4_bitsBelow_27 (by decide) rfl ?_
          refine g_iincB dX4_bitsBelow_28 rfl rfl (by omega) (by omega) ?_
          refine g_goto 4 dX4_bitsBelow_31 (by decide) ?_
          exact ih4 _ _ (by omega) (by omega) (by omega) (by omega) (by omega)
  refine g_istore_n dX4_bitsBelow_3 (by decide) rfl ?_
  exact c4 9 _ _ (by omega) (by omega) (by omega) (by omega) (by omega)
set_option maxRecDepth 100000 in
set_option maxHeartbeats 4000000 in
theorem c_X11_roofIs_0 (x1 x2 : Int) (h : MEM) (hM : MBx h) (bx1 : -2147483648 ≤ x1) (dx1 : x1 ≤ 2147483647) (bx2 : -2147483648 ≤ x2) (dx2 : x2 ≤ 2147483647) : CP yX11_roofIs cX11_roofIs 3 (some .int) 2 [pR 0, pI x1, pI x2] h (fun x => -2147483648 ≤ x ∧ x ≤ 2147483647) := by
  refine CP.of (L0 := [some (pR 0), some (pI x1), some (pI x2)]) rfl (Nat.le_of_ble_eq_true rfl) rfl (fun Po hPo hav => ?_)
  refine g_aload_n dX11_roofIs_0 rfl ?_
  refine gR_X11_10 rfl dX11_roofIs_1 sh_0 (b := 1) (m_0_0 hM) ?_
  refine gR_X11_85 rfl dX11_roofIs_4 sh_1 (b := 2) (m_1_0 hM) ?_
  refine g_iload_n dX11_roofIs_7 rfl (fun _ => ?_)
  refine g_cVP (as := [_]) (c_X6_has_2 _ h hM (by omega) (by omega)) dX11_roofIs_8 mi_X6_has in_X6_has se_X6_has ml_X11_159 rfl rfl rfl sh_2 rfl rfl (Nat.le_of_ble_eq_true rfl) (fun v1 q2 => ?_)
  obtain ⟨v3, ev3⟩ : ∃ z, z = h 2 0 := ⟨_, rfl⟩
  have bv3 : 0 ≤ v3 ∧ v3 ≤ 10 := by rw [ev3]; exact (m_2_0 hM)
  rcases q2 with ⟨rfl, q2⟩ | ⟨rfl, q2⟩
  · skip
    refine g_if_ne 16 dX11_roofIs_11 (by decide) (fun q4 => ?_) (fun _ => by exfalso; omega)
    refine g_iload_n dX11_roofIs_16 rfl (fun _ => ?_)
    rcases (show x2 = 0 ∨ x2 = 1 ∨ x2 = 2 ∨ x2 = 3 ∨ x2 = 4 ∨ (x2 < 0 ∨ 4 < x2) by omega) with q5 | q5 | q5 | q5 | q5 | q5
    · skip
      refine g_tableIn 52 0 dX11_roofIs_17 (by omega) (by omega) rfl (by decide) ?_
      refine g_aload_n dX11_roofIs_52 rfl ?_
      refine gR_X11_10 rfl dX11_roofIs_53 sh_0 (b := 1) (m_0_0 hM) ?_
      refine gR_X11_85 rfl dX11_roofIs_56 sh_1 (b := 2) (m_1_0 hM) ?_
      refine gR_X11_160 rfl dX11_roofIs_59 sh_2 (b := 3) (m_2_1 hM) ?_
      refine g_iload_n dX11_roofIs_62 rfl (fun _ => ?_)
      refine g_ialdB dX11_roofIs_63 sh_3 (by omega) (by omega) (m_3 hM _) (fun v6 ev6 bv6 cv6 => ?_)
      exact g_ireturn dX11_roofIs_64 retI (hPo _ ⟨(by omega), (by omega)⟩)
    · skip
      refine g_tableIn 65 1 dX11_roofIs_17 (by omega) (by omega) rfl (by decide) ?_
      refine g_aload_n dX11_roofIs_65 rfl ?_
      refine gR_X11_10 rfl dX11_roofIs_66 sh_0 (b := 1) (m_0_0 hM) ?_
      refine gR_X11_85 rfl dX11_roofIs_69 sh_1 (b := 2) (m_1_0 hM) ?_
      refine gR_X11_163 rfl dX11_roofIs_72 sh_2 (b := 4) (m_2_2 hM) ?_
      refine g_iload_n dX11_roofIs_75 rfl (fun _ => ?_)
      refine g_ialdB dX11_roofIs_76 sh_4 (by omega) (by omega) (m_4 hM _) (fun v7 ev7 bv7 cv7 => ?_)
      exact g_ireturn dX11_roofIs_77 retI (hPo _ ⟨(by omega), (by omega)⟩)
    · skip
      refine g_tableIn 78 2 dX11_roofIs_17 (by omega) (by omega) rfl (by decide) ?_
      refine g_aload_n dX11_roofIs_78 rfl ?_
      refine gR_X11_10 rfl dX11_roofIs_79 sh_0 (b := 1) (m_0_0 hM) ?_
      refine gR_X11_85 rfl dX11_roofIs_82 sh_1 (b := 2) (m_1_0 hM) ?_
      refine gR_X11_166 rfl dX11_roofIs_85 sh_2 (b := 5) (m_2_3 hM) ?_
      refine g_iload_n dX11_roofIs_88 rfl (fun _ => ?_)
      refine g_ialdB dX11_roofIs_89 sh_5 (by omega) (by omega) (m_5 hM _) (fun v8 ev8 bv8 cv8 => ?_)
      exact g_ireturn dX11_roofIs_90 retI (hPo _ ⟨(by omega), (by omega)⟩)
    · skip
      refine g_tableIn 91 3 dX11_roofIs_17 (by omega) (by omega) rfl (by decide) ?_
      refine g_aload_n dX11_roofIs_91 rfl ?_
      refine gR_X11_10 rfl dX11_roofIs_92 sh_0 (b := 1) (m_0_0 hM) ?_
      refine gR_X11_95 rfl dX11_roofIs_95 sh_1 (b := 6) (m_1_1 hM) ?_
      refine g_iload_n dX11_roofIs_98 rfl (fun _ => ?_)
      refine g_cVP (as := [_]) (c_X0_bitsOn_6 _ h hM (by omega) (by omega)) dX11_roofIs_99 mi_X0_bitsOn in_X0_bitsOn se_X0_bitsOn ml_X11_169 rfl rfl rfl sh_6 rfl rfl (Nat.le_of_ble_eq_true rfl) (fun v9 q10 => ?_)
      obtain ⟨bv9, cv9⟩ := q10
      exact g_ireturn dX11_roofIs_102 retI (hPo _ ⟨(by omega), (by omega)⟩)
    · skip
      refine g_tableIn 103 4 dX11_roofIs_17 (by omega) (by omega) rfl (by decide) ?_
      refine g_aload_n dX11_roofIs_103 rfl ?_
      refine gR_X11_10 rfl dX11_roofIs_104 sh_0 (b := 1) (m_0_0 hM) ?_
      refine gR_X11_104 rfl dX11_roofIs_107 sh_1 (b := 12) (m_1_2 hM) ?_
      refine g_iload_n dX11_roofIs_110 rfl (fun _ => ?_)
      refine g_cVP (as := [_]) (c_X4_bitsBelow_12 _ h hM (by omega) (by omega)) dX11_roofIs_111 mi_X4_bitsBelow in_X4_bitsBelow se_X4_bitsBelow ml_X11_172 rfl rfl rfl sh_12 rfl rfl (Nat.le_of_ble_eq_true rfl) (fun v11 q12 => ?_)
      obtain ⟨bv11, cv11⟩ := q12
      exact g_ireturn dX11_roofIs_114 retI (hPo _ ⟨(by omega), (by omega)⟩)
    · skip
      refine g_tableOut 115 dX11_roofIs_17 (by omega) (by decide) ?_
      refine g_iconst dX11_roofIs_115 (inR_c rfl) ?_
      exact g_ireturn dX11_roofIs_116 retI (hPo _ ⟨(by omega), (by omega)⟩)
  · skip
    refine g_if_ne 16 dX11_roofIs_11 (by decide) (fun _ => by exfalso; omega) (fun q13 => ?_)
    refine g_iconst dX11_roofIs_14 (inR_c rfl) ?_
    exact g_ireturn dX11_roofIs_15 retI (hPo _ ⟨(by omega), (by omega)⟩)
set_option maxRecDepth 100000 in
set_option maxHeartbeats 4000000 in
theorem c_X9_owedBy_1 (x1 : Int) (h : MEM) (hM : MBx h) (bx1 : 0 ≤ x1) (dx1 : x1 ≤ 7) : CP yX9_owedBy cX9_owedBy 4 (some .int) 2 [pR 1, pI x1] h (fun x => -2147483648 ≤ x ∧ x ≤ 2147483647) := by
  refine CP.of (L0 := [some (pR 1), some (pI x1), none, none]) rfl (Nat.le_of_ble_eq_true rfl) rfl (fun Po hPo hav => ?_)
  refine g_iconst dX9_owedBy_0 (inR_c rfl) ?_
  refine g_istore_n dX9_owedBy_1 (by decide) rfl ?_
  refine g_iconst dX9_owedBy_2 (inR_c rfl) ?_
  have c4 : ∀ (n : Nat) (y1 y2 : Int) , -2147483648 ≤ y1 → y1 ≤ 2147483647 → 0 ≤ y2 → y2 ≤ 8 → 8 - y2 < (n : Int) → G yX9_owedBy cX9_owedBy 4 (some .int) none Po (2, 120, 0, 0) 4 [some (pR 1), some (pI x1), some (pI y1), some (pI y2)] [] SH h 0 0 := by
    intro n
    induction n with
    | zero =>
      intro y1 y2 by1 dy1 by2 dy2 hn
      exfalso; omega
    | succ n ih4 =>
      intro y1 y2 by1 dy1 by2 dy2 hn
      refine g_iload_n dX9_owedBy_4 rfl (fun _ => ?_)
      refine g_aload_n dX9_owedBy_5 rfl ?_
      refine gR_X9_28 rfl dX9_owedBy_6 sh_1 (b := 12) (m_1_2 hM) ?_
      refine gI_X9_82 rfl dX9_owedBy_9 sh_12 (m_12_0 hM) (fun v3 ev3 bv3 cv3 => ?_)
      refine g_icmp_ge 46 dX9_owedBy_12 (by decide) (fun q4 => ?_) (fun q4 => ?_)
      · skip
        refine g_iload_n dX9_owedBy_46 rfl (fun _ => ?_)
        exact g_ireturn dX9_owedBy_47 retI (hPo _ ⟨(by omega), (by omega)⟩)
      · skip
        refine g_aload_n dX9_owedBy_15 rfl ?_
        refine gR_X9_21 rfl dX9_owedBy_16 sh_1 (b := 6) (m_1_1 hM) ?_
        refine g_iload_n dX9_owedBy_19 rfl (fun _ => ?_)
        refine g_cVP (as := [_]) (c_X0_has_6 _ h hM (by omega) (by omega)) dX9_owedBy_20 mi_X0_has in_X0_has se_X0_has ml_X9_71 rfl rfl rfl sh_6 rfl rfl (Nat.le_of_ble_eq_true rfl) (fun v5 q6 => ?_)
        obtain ⟨v7, ev7⟩ : ∃ z, z = h 6 0 := ⟨_, rfl⟩
        have bv7 : 0 ≤ v7 ∧ v7 ≤ 8 := by rw [ev7]; exact (m_6_0 hM)
        rcases q6 with ⟨rfl, q6⟩ | ⟨rfl, q6⟩
        · skip
          refine g_if_eq 46 dX9_owedBy_23 (by decide) (fun _ => by exfalso; omega) (fun q8 => ?_)
          refine g_iload_n dX9_owedBy_26 rfl (fun _ => ?_)
          refine g_aload_n dX9_owedBy_27 rfl ?_
          refine gR_X9_32 rfl dX9_owedBy_28 sh_1 (b := 17) (m_1_3 hM) ?_
          refine g_iload_n dX9_owedBy_31 rfl (fun _ => ?_)
          refine g_bipush dX9_owedBy_32 (inR_c rfl) (by decide) ?_
          refine g_imulB dX9_owedBy_34 (by omega) (by omega) ?_
          refine g_iload_n dX9_owedBy_35 rfl (fun _ => ?_)
          refine g_iaddB dX9_owedBy_36 (by omega) (by omega) ?_
          refine g_ialdB dX9_owedBy_37 sh_17 (by omega) (by omega) (m_17 hM _) (fun v9 ev9 bv9 cv9 => ?_)
          refine g_iaddF dX9_owedBy_38 (fun v10 bv10 cv10 => ?_)
          refine g_istore_n dX9_owedBy_39 (by decide) rfl ?_
          refine g_iincB dX9_owedBy_40 rfl rfl (by omega) (by omega) ?_
          refine g_goto 4 dX9_owedBy_43 (by decide) ?_
          exact ih4 _ _ (by omega) (by omega) (by omega) (by omega) (by omega)
        · skip
          refine g_if_eq 46 dX9_owedBy_23 (by decide) (fun q11 => ?_) (fun _ => by exfalso; omega)
          refine g_iload_n dX9_owedBy_46 rfl (fun _ => ?_)
          exact g_ireturn dX9_owedBy_47 retI (hPo _ ⟨(by omega), (by omega)⟩)
  refine g_istore_n dX9_owedBy_3 (by decide) rfl ?_
  exact c4 9 _ _ (by omega) (by omega) (by omega) (by omega) (by omega)
set_option maxRecDepth 100000 in
set_option maxHeartbeats 4000000 in
theorem c_X11_apprenticeIs_0 (x1 x2 : Int) (h : MEM) (hM : MBx h) (bx1 : -2147483648 ≤ x1) (dx1 : x1 ≤ 2147483647) (bx2 : -2147483648 ≤ x2) (dx2 : x2 ≤ 2147483647) : CP yX11_apprenticeIs cX11_apprenticeIs 3 (some .int) 3 [pR 0, pI x1, pI x2] h (fun x => -2147483648 ≤ x ∧ x ≤ 2147483647) := by
  refine CP.of (L0 := [some (pR 0), some (pI x1), some (pI x2)]) rfl (Nat.le_of_ble_eq_true rfl) rfl (fun Po hPo hav => ?_)
  refine g_aload_n dX11_apprenticeIs_0 rfl ?_
  refine gR_X11_10 rfl dX11_apprenticeIs_1 sh_0 (b := 1) (m_0_0 hM) ?_
  refine gR_X11_95 rfl dX11_apprenticeIs_4 sh_1 (b := 6) (m_1_1 hM) ?_
  refine g_iload_n dX11_apprenticeIs_7 rfl (fun _ => ?_)
  refine g_cVP (as := [_]) (c_X0_has_6 _ h hM (by omega) (by omega)) dX11_apprenticeIs_8 mi_X0_has in_X0_has se_X0_has ml_X11_113 rfl rfl rfl sh_6 rfl rfl (Nat.le_of_ble_eq_true rfl) (fun v1 q2 => ?_)
  obtain ⟨v3, ev3⟩ : ∃ z, z = h 6 0 := ⟨_, rfl⟩
  have bv3 : 0 ≤ v3 ∧ v3 ≤ 8 := by rw [ev3]; exact (m_6_0 hM)
  rcases q2 with ⟨rfl, q2⟩ | ⟨rfl, q2⟩
  · skip
    refine g_if_ne 16 dX11_apprenticeIs_11 (by decide) (fun q4 => ?_) (fun _ => by exfalso; omega)
    refine g_iload_n dX11_apprenticeIs_16 rfl (fun _ => ?_)
    refine g_bipush dX11_apprenticeIs_17 (inR_c rfl) (by decide) ?_
    refine g_bipush dX11_apprenticeIs_19 (inR_c rfl) (by decide) ?_
    refine g_cSP (av := [_, _, _]) (c_X11_isWithin _ _ _ h hM (by omega) (by omega) (by omega) (by omega) (by omega) (by omega)) dX11_apprenticeIs_21 mi_X11_isWithin st_X11_isWithin ml_X11_81 rfl rfl rfl rfl (Nat.le_of_ble_eq_true rfl) (fun v5 q6 => ?_)
    rcases q6 with ⟨rfl, q6⟩ | ⟨rfl, q6⟩
    · skip
      refine g_if_eq 47 dX11_apprenticeIs_24 (by decide) (fun _ => by exfalso; omega) (fun q7 => ?_)
      refine g_aload_n dX11_apprenticeIs_27 rfl ?_
      refine gR_X11_10 rfl dX11_apprenticeIs_28 sh_0 (b := 1) (m_0_0 hM) ?_
      refine gR_X11_95 rfl dX11_apprenticeIs_31 sh_1 (b := 6) (m_1_1 hM) ?_
      refine gR_X11_175 rfl dX11_apprenticeIs_34 sh_6 (b := 11) (m_6_5 hM) ?_
      refine g_iload_n dX11_apprenticeIs_37 rfl (fun _ => ?_)
      refine g_iconst dX11_apprenticeIs_38 (inR_c rfl) ?_
      refine g_imulB dX11_apprenticeIs_39 (by omega) (by omega) ?_
      refine g_iload_n dX11_apprenticeIs_40 rfl (fun _ => ?_)
      refine g_iaddB dX11_apprenticeIs_41 (by omega) (by omega) ?_
      refine g_bipush dX11_apprenticeIs_42 (inR_c rfl) (by decide) ?_
      refine g_isubB dX11_apprenticeIs_44 (by omega) (by omega) ?_
      refine g_ialdB dX11_apprenticeIs_45 sh_11 (by omega) (by omega) (m_11 hM _) (fun v8 ev8 bv8 cv8 => ?_)
      exact g_ireturn dX11_apprenticeIs_46 retI (hPo _ ⟨(by omega), (by omega)⟩)
    · skip
      refine g_if_eq 47 dX11_apprenticeIs_24 (by decide) (fun q9 => ?_) (fun _ => by exfalso; omega)
      refine g_iload_n dX11_apprenticeIs_47 rfl (fun _ => ?_)
      rcases (show x2 = 0 ∨ x2 = 1 ∨ x2 = 2 ∨ x2 = 3 ∨ x2 = 4 ∨ (x2 < 0 ∨ 4 < x2) by omega) with q10 | q10 | q10 | q10 | q10 | q10
      · skip
        refine g_tableIn 84 0 dX11_apprenticeIs_48 (by omega) (by omega) rfl (by decide) ?_
        refine g_aload_n dX11_apprenticeIs_84 rfl ?_
        refine gR_X11_10 rfl dX11_apprenticeIs_85 sh_0 (b := 1) (m_0_0 hM) ?_
        refine gR_X11_95 rfl dX11_apprenticeIs_88 sh_1 (b := 6) (m_1_1 hM) ?_
        refine gR_X11_120 rfl dX11_apprenticeIs_91 sh_6 (b := 7) (m_6_1 hM) ?_
        refine g_iload_n dX11_apprenticeIs_94 rfl (fun _ => ?_)
        refine g_ialdB dX11_apprenticeIs_95 sh_7 (by omega) (by omega) (m_7 hM _) (fun v11 ev11 bv11 cv11 => ?_)
        exact g_ireturn dX11_apprenticeIs_96 retI (hPo _ ⟨(by omega), (by omega)⟩)
      · skip
        refine g_tableIn 97 1 dX11_apprenticeIs_48 (by omega) (by omega) rfl (by decide) ?_
        refine g_aload_n dX11_apprenticeIs_97 rfl ?_
        refine gR_X11_10 rfl dX11_apprenticeIs_98 sh_0 (b := 1) (m_0_0 hM) ?_
        refine gR_X11_95 rfl dX11_apprenticeIs_101 sh_1 (b := 6) (m_1_1 hM) ?_
        refine gR_X11_178 rfl dX11_apprenticeIs_104 sh_6 (b := 8) (m_6_2 hM) ?_
        refine g_iload_n dX11_apprenticeIs_107 rfl (fun _ => ?_)
        refine g_ialdB dX11_apprenticeIs_108 sh_8 (by omega) (by omega) (m_8 hM _) (fun v12 ev12 bv12 cv12 => ?_)
        exact g_ireturn dX11_apprenticeIs_109 retI (hPo _ ⟨(by omega), (by omega)⟩)
      · skip
        refine g_tableIn 110 2 dX11_apprenticeIs_48 (by omega) (by omega) rfl (by decide) ?_
        refine g_aload_n dX11_apprenticeIs_110 rfl ?_
        refine gR_X11_10 rfl dX11_apprenticeIs_111 sh_0 (b := 1) (m_0_0 hM) ?_
        refine gR_X11_95 rfl dX11_apprenticeIs_114 sh_1 (b := 6) (m_1_1 hM) ?_
        refine gR_X11_181 rfl dX11_apprenticeIs_117 sh_6 (b := 9) (m_6_3 hM) ?_
        refine g_iload_n dX11_apprenticeIs_120 rfl (fun _ => ?_)
        refine g_ialdB dX11_apprenticeIs_121 sh_9 (by omega) (by omega) (m_9 hM _) (fun v13 ev13 bv13 cv13 => ?_)
        exact g_ireturn dX11_apprenticeIs_122 retI (hPo _ ⟨(by omega), (by omega)⟩)
      · skip
        refine g_tableIn 123 3 dX11_apprenticeIs_48 (by omega) (by omega) rfl (by decide) ?_
        refine g_aload_n dX11_apprenticeIs_123 rfl ?_
        refine gR_X11_10 rfl dX11_apprenticeIs_124 sh_0 (b := 1) (m_0_0 hM) ?_
        refine g_iload_n dX11_apprenticeIs_127 rfl (fun _ => ?_)
        refine g_cVP (as := [_]) (c_X9_owedBy_1 _ h hM (by omega) (by omega)) dX11_apprenticeIs_128 mi_X9_owedBy in_X9_owedBy se_X9_owedBy ml_X11_184 rfl rfl rfl sh_1 rfl rfl (Nat.le_of_ble_eq_true rfl) (fun v14 q15 => ?_)
        obtain ⟨bv14, cv14⟩ := q15
        exact g_ireturn dX11_apprenticeIs_131 retI (hPo _ ⟨(by omega), (by omega)⟩)
      · skip
        refine g_tableIn 132 4 dX11_apprenticeIs_48 (by omega) (by omega) rfl (by decide) ?_
        refine g_aload_n dX11_apprenticeIs_132 rfl ?_
        refine gR_X11_10 rfl dX11_apprenticeIs_133 sh_0 (b := 1) (m_0_0 hM) ?_
        refine gR_X11_95 rfl dX11_apprenticeIs_136 sh_1 (b := 6) (m_1_1 hM) ?_
        refine gR_X11_187 rfl dX11_apprenticeIs_139 sh_6 (b := 10) (m_6_4 hM) ?_
        refine g_iload_n dX11_apprenticeIs_142 rfl (fun _ => ?_)
        refine g_ialdB dX11_apprenticeIs_143 sh_10 (by omega) (by omega) (m_10 hM _) (fun v16 ev16 bv16 cv16 => ?_)
        exact g_ireturn dX11_apprenticeIs_144 retI (hPo _ ⟨(by omega), (by omega)⟩)
      · skip
        refine g_tableOut 145 dX11_apprenticeIs_48 (by omega) (by decide) ?_
        refine g_iconst dX11_apprenticeIs_145 (inR_c rfl) ?_
        exact g_ireturn dX11_apprenticeIs_146 retI (hPo _ ⟨(by omega), (by omega)⟩)
  · skip
    refine g_if_ne 16 dX11_apprenticeIs_11 (by decide) (fun _ => by exfalso; omega) (fun q17 => ?_)
    refine g_iconst dX11_apprenticeIs_14 (inR_c rfl) ?_
    exact g_ireturn dX11_apprenticeIs_15 retI (hPo _ ⟨(by omega), (by omega)⟩)
set_option maxRecDepth 100000 in
set_option maxHeartbeats 4000000 in
theorem c_X9_owedTo_1 (x1 : Int) (h : MEM) (hM : MBx h) (bx1 : 0 ≤ x1) (dx1 : x1 ≤ 7) : CP yX9_owedTo cX9_owedTo 4 (some .int) 2 [pR 1, pI x1] h (fun x => -2147483648 ≤ x ∧ x ≤ 2147483647) := by
  refine CP.of (L0 := [some (pR 1), some (pI x1), none, none]) rfl (Nat.le_of_ble_eq_true rfl) rfl (fun Po hPo hav => ?_)
  refine g_iconst dX9_owedTo_0 (inR_c rfl) ?_
  refine g_istore_n dX9_owedTo_1 (by decide) rfl ?_
  refine g_iconst dX9_owedTo_2 (inR_c rfl) ?_
  have c4 : ∀ (n : Nat) (y1 y2 : Int) , -2147483648 ≤ y1 → y1 ≤ 2147483647 → 0 ≤ y2 → y2 ≤ 8 → 8 - y2 < (n : Int) → G yX9_owedTo cX9_owedTo 4 (some .int) none Po (2, 120, 0, 0) 4 [some (pR 1), some (pI x1), some (pI y1), some (pI y2)] [] SH h 0 0 := by
    intro n
    induction n with
    | zero =>
      intro y1 y2 by1 dy1 by2 dy2 hn
      exfalso; omega
    | succ n ih4 =>
      intro y1 y2 by1 dy1 by2 dy2 hn
      refine g_iload_n dX9_owedTo_4 rfl (fun _ => ?_)
      refine g_aload_n dX9_owedTo_5 rfl ?_
      refine gR_X9_21 rfl dX9_owedTo_6 sh_1 (b := 6) (m_1_1 hM) ?_
      refine gI_X9_85 rfl dX9_owedTo_9 sh_6 (m_6_0 hM) (fun v3 ev3 bv3 cv3 => ?_)
      refine g_icmp_ge 46 dX9_owedTo_12 (by decide) (fun q4 => ?_) (fun q4 => ?_)
      · skip
        refine g_iload_n dX9_owedTo_46 rfl (fun _ => ?_)
        exact g_ireturn dX9_owedTo_47 retI (hPo _ ⟨(by omega), (by omega)⟩)
      · skip
        refine g_aload_n dX9_owedTo_15 rfl ?_
        refine gR_X9_28 rfl dX9_owedTo_16 sh_1 (b := 12) (m_1_2 hM) ?_
        refine g_iload_n dX9_owedTo_19 rfl (fun _ => ?_)
        refine g_cVP (as := [_]) (c_X4_has_12 _ h hM (by omega) (by omega)) dX9_owedTo_20 mi_X4_has in_X4_has se_X4_has ml_X9_78 rfl rfl rfl sh_12 rfl rfl (Nat.le_of_ble_eq_true rfl) (fun v5 q6 => ?_)
        obtain ⟨v7, ev7⟩ : ∃ z, z = h 12 0 := ⟨_, rfl⟩
        have bv7 : 0 ≤ v7 ∧ v7 ≤ 8 := by rw [ev7]; exact (m_12_0 hM)
        rcases q6 with ⟨rfl, q6⟩ | ⟨rfl, q6⟩
        · skip
          refine g_if_eq 46 dX9_owedTo_23 (by decide) (fun _ => by exfalso; omega) (fun q8 => ?_)
          refine g_iload_n dX9_owedTo_26 rfl (fun _ => ?_)
          refine g_aload_n dX9_owedTo_27 rfl ?_
          refine gR_X9_32 rfl dX9_owedTo_28 sh_1 (b := 17) (m_1_3 hM) ?_
          refine g_iload_n dX9_owedTo_31 rfl (fun _ => ?_)
          refine g_bipush dX9_owedTo_32 (inR_c rfl) (by decide) ?_
          refine g_imulB dX9_owedTo_34 (by omega) (by omega) ?_
          refine g_iload_n dX9_owedTo_35 rfl (fun _ => ?_)
          refine g_iaddB dX9_owedTo_36 (by omega) (by omega) ?_
          refine g_ialdB dX9_owedTo_37 sh_17 (by omega) (by omega) (m_17 hM _) (fun v9 ev9 bv9 cv9 => ?_)
          refine g_iaddF dX9_owedTo_38 (fun v10 bv10 cv10 => ?_)
          refine g_istore_n dX9_owedTo_39 (by decide) rfl ?_
          refine g_iincB dX9_owedTo_40 rfl rfl (by omega) (by omega) ?_
          refine g_goto 4 dX9_owedTo_43 (by decide) ?_
          exact ih4 _ _ (by omega) (by omega) (by omega) (by omega) (by omega)
        · skip
          refine g_if_eq 46 dX9_owedTo_23 (by decide) (fun q11 => ?_) (fun _ => by exfalso; omega)
          refine g_iload_n dX9_owedTo_46 rfl (fun _ => ?_)
          exact g_ireturn dX9_owedTo_47 retI (hPo _ ⟨(by omega), (by omega)⟩)
  refine g_istore_n dX9_owedTo_3 (by decide) rfl ?_
  exact c4 9 _ _ (by omega) (by omega) (by omega) (by omega) (by omega)
set_option maxRecDepth 100000 in
set_option maxHeartbeats 4000000 in
theorem c_X11_masterIs_0 (x1 x2 : Int) (h : MEM) (hM : MBx h) (bx1 : -2147483648 ≤ x1) (dx1 : x1 ≤ 2147483647) (bx2 : -2147483648 ≤ x2) (dx2 : x2 ≤ 2147483647) : CP yX11_masterIs cX11_masterIs 3 (some .int) 3 [pR 0, pI x1, pI x2] h (fun x => -2147483648 ≤ x ∧ x ≤ 2147483647) := by
  refine CP.of (L0 := [some (pR 0), some (pI x1), some (pI x2)]) rfl (Nat.le_of_ble_eq_true rfl) rfl (fun Po hPo hav => ?_)
  refine g_aload_n dX11_masterIs_0 rfl ?_
  refine gR_X11_10 rfl dX11_masterIs_1 sh_0 (b := 1) (m_0_0 hM) ?_
  refine gR_X11_104 rfl dX11_masterIs_4 sh_1 (b := 12) (m_1_2 hM) ?_
  refine g_iload_n dX11_masterIs_7 rfl (fun _ => ?_)
  refine g_cVP (as := [_]) (c_X4_has_12 _ h hM (by omega) (by omega)) dX11_masterIs_8 mi_X4_has in_X4_has se_X4_has ml_X11_124 rfl rfl rfl sh_12 rfl rfl (Nat.le_of_ble_eq_true rfl) (fun v1 q2 => ?_)
  obtain ⟨v3, ev3⟩ : ∃ z, z = h 12 0 := ⟨_, rfl⟩
  have bv3 : 0 ≤ v3 ∧ v3 ≤ 8 := by rw [ev3]; exact (m_12_0 hM)
  rcases q2 with ⟨rfl, q2⟩ | ⟨rfl, q2⟩
  · skip
    refine g_if_ne 16 dX11_masterIs_11 (by decide) (fun q4 => ?_) (fun _ => by exfalso; omega)
    refine g_iload_n dX11_masterIs_16 rfl (fun _ => ?_)
    rcases (show x2 = 0 ∨ x2 = 1 ∨ x2 = 2 ∨ x2 = 3 ∨ x2 = 4 ∨ (x2 < 0 ∨ 4 < x2) by omega) with q5 | q5 | q5 | q5 | q5 | q5
    · skip
      refine g_tableIn 52 0 dX11_masterIs_17 (by omega) (by omega) rfl (by decide) ?_
      refine g_aload_n dX11_masterIs_52 rfl ?_
      refine gR_X11_10 rfl dX11_masterIs_53 sh_0 (b := 1) (m_0_0 hM) ?_
      refine gR_X11_104 rfl dX11_masterIs_56 sh_1 (b := 12) (m_1_2 hM) ?_
      refine gR_X11_125 rfl dX11_masterIs_59 sh_12 (b := 13) (m_12_1 hM) ?_
      refine g_iload_n dX11_masterIs_62 rfl (fun _ => ?_)
      refine g_ialdB dX11_masterIs_63 sh_13 (by omega) (by omega) (m_13 hM _) (fun v6 ev6 bv6 cv6 => ?_)
      exact g_ireturn dX11_masterIs_64 retI (hPo _ ⟨(by omega), (by omega)⟩)
    · skip
      refine g_tableIn 65 1 dX11_masterIs_17 (by omega) (by omega) rfl (by decide) ?_
      refine g_aload_n dX11_masterIs_65 rfl ?_
      refine gR_X11_10 rfl dX11_masterIs_66 sh_0 (b := 1) (m_0_0 hM) ?_
      refine gR_X11_104 rfl dX11_masterIs_69 sh_1 (b := 12) (m_1_2 hM) ?_
      refine gR_X11_190 rfl dX11_masterIs_72 sh_12 (b := 14) (m_12_2 hM) ?_
      refine g_iload_n dX11_masterIs_75 rfl (fun _ => ?_)
      refine g_ialdB dX11_masterIs_76 sh_14 (by omega) (by omega) (m_14 hM _) (fun v7 ev7 bv7 cv7 => ?_)
      exact g_ireturn dX11_masterIs_77 retI (hPo _ ⟨(by omega), (by omega)⟩)
    · skip
      refine g_tableIn 78 2 dX11_masterIs_17 (by omega) (by omega) rfl (by decide) ?_
      refine g_aload_n dX11_masterIs_78 rfl ?_
      refine gR_X11_10 rfl dX11_masterIs_79 sh_0 (b := 1) (m_0_0 hM) ?_
      refine gR_X11_104 rfl dX11_masterIs_82 sh_1 (b := 12) (m_1_2 hM) ?_
      refine gR_X11_193 rfl dX11_masterIs_85 sh_12 (b := 15) (m_12_3 hM) ?_
      refine g_iload_n dX11_masterIs_88 rfl (fun _ => ?_)
      refine g_ialdB dX11_masterIs_89 sh_15 (by omega) (by omega) (m_15 hM _) (fun v8 ev8 bv8 cv8 => ?_)
      exact g_ireturn dX11_masterIs_90 retI (hPo _ ⟨(by omega), (by omega)⟩)
    · skip
      refine g_tableIn 91 3 dX11_masterIs_17 (by omega) (by omega) rfl (by decide) ?_
      refine g_aload_n dX11_masterIs_91 rfl ?_
      refine gR_X11_10 rfl dX11_masterIs_92 sh_0 (b := 1) (m_0_0 hM) ?_
      refine g_iload_n dX11_masterIs_95 rfl (fun _ => ?_)
      refine g_cVP (as := [_]) (c_X9_owedTo_1 _ h hM (by omega) (by omega)) dX11_masterIs_96 mi_X9_owedTo in_X9_owedTo se_X9_owedTo ml_X11_196 rfl rfl rfl sh_1 rfl rfl (Nat.le_of_ble_eq_true rfl) (fun v9 q10 => ?_)
      obtain ⟨bv9, cv9⟩ := q10
      exact g_ireturn dX11_masterIs_99 retI (hPo _ ⟨(by omega), (by omega)⟩)
    · skip
      refine g_tableIn 100 4 dX11_masterIs_17 (by omega) (by omega) rfl (by decide) ?_
      refine g_aload_n dX11_masterIs_100 rfl ?_
      refine gR_X11_10 rfl dX11_masterIs_101 sh_0 (b := 1) (m_0_0 hM) ?_
      refine gR_X11_104 rfl dX11_masterIs_104 sh_1 (b := 12) (m_1_2 hM) ?_
      refine gR_X11_199 rfl dX11_masterIs_107 sh_12 (b := 16) (m_12_4 hM) ?_
      refine g_iload_n dX11_masterIs_110 rfl (fun _ => ?_)
      refine g_ialdB dX11_masterIs_111 sh_16 (by omega) (by omega) (m_16 hM _) (fun v11 ev11 bv11 cv11 => ?_)
      exact g_ireturn dX11_masterIs_112 retI (hPo _ ⟨(by omega), (by omega)⟩)
    · skip
      refine g_tableOut 113 dX11_masterIs_17 (by omega) (by decide) ?_
      refine g_iconst dX11_masterIs_113 (inR_c rfl) ?_
      exact g_ireturn dX11_masterIs_114 retI (hPo _ ⟨(by omega), (by omega)⟩)
  · skip
    refine g_if_ne 16 dX11_masterIs_11 (by decide) (fun _ => by exfalso; omega) (fun q12 => ?_)
    refine g_iconst dX11_masterIs_14 (inR_c rfl) ?_
    exact g_ireturn dX11_masterIs_15 retI (hPo _ ⟨(by omega), (by omega)⟩)
set_option maxRecDepth 100000 in
set_option maxHeartbeats 4000000 in
theorem c_X6_copyFrom_22_2 (h : MEM) (hM : MBx h) : CV yX6_copyFrom cX6_copyFrom 2 (none) 1 [pR 22, pR 2] h (fun h' => MBx h' ∧ Fr [(22, 1), (23, 0), (24, 0), (25, 0)] h h' ∧ h' 22 0 = h 2 0) := by
  refine CV.of (L0 := [some (pR 22), some (pR 2)]) rfl (Nat.le_of_ble_eq_true rfl) rfl (fun Po hPo hav => ?_)
  obtain ⟨v1, ev1⟩ : ∃ z, z = h 2 0 := ⟨_, rfl⟩
  have bv1 : 0 ≤ v1 ∧ v1 ≤ 10 := by rw [ev1]; exact (m_2_0 hM)
  refine g_aload_n dX6_copyFrom_0 rfl ?_
  refine g_aload_n dX6_copyFrom_1 rfl ?_
  refine gE_X6_9 rfl dX6_copyFrom_2 sh_2 ev1.symm ?_
  refine pI_X6_9 rfl dX6_copyFrom_5 sh_22 (fun h2 eh2 => ?_)
  have hFh2 := Fr.st eh2
  have hMh2 := u_22_0 hM eh2 (by omega) (by omega)
  refine g_aload_n dX6_copyFrom_8 rfl ?_
  refine gR_X6_15 rfl dX6_copyFrom_9 sh_2 (b := 3) (m_2_1 hMh2) ?_
  refine g_iconst dX6_copyFrom_12 (inR_c rfl) ?_
  refine g_aload_n dX6_copyFrom_13 rfl ?_
  refine gR_X6_15 rfl dX6_copyFrom_14 sh_22 (b := 23) (m_22_1 hMh2) ?_
  refine g_iconst dX6_copyFrom_17 (inR_c rfl) ?_
  refine g_bipush dX6_copyFrom_18 (inR_c rfl) (by decide) ?_
  refine g_acopy dX6_copyFrom_20 ml_X6_25 sh_3 sh_23 (by decide) (by decide) (by decide) (by decide) (by decide) (by decide) (by decide) (fun h3 eh3 => ?_)
  have hFh3 := Fr.cp eh3
  have hMh3 := MBx.cp hMh2 eh3 (by decide) (p0 := (-2147483648, 2147483647)) (p := (-2147483648, 2147483647)) rfl rfl (by decide) (by decide)
  refine g_aload_n dX6_copyFrom_23 rfl ?_
  refine gR_X6_19 rfl dX6_copyFrom_24 sh_2 (b := 4) (m_2_2 hMh3) ?_
  refine g_iconst dX6_copyFrom_27 (inR_c rfl) ?_
  refine g_aload_n dX6_copyFrom_28 rfl ?_
  refine gR_X6_19 rfl dX6_copyFrom_29 sh_22 (b := 24) (m_22_2 hMh3) ?_
  refine g_iconst dX6_copyFrom_32 (inR_c rfl) ?_
  refine g_bipush dX6_copyFrom_33 (inR_c rfl) (by decide) ?_
  refine g_acopy dX6_copyFrom_35 ml_X6_25 sh_4 sh_24 (by decide) (by decide) (by decide) (by decide) (by decide) (by decide) (by decide) (fun h4 eh4 => ?_)
  have hFh4 := Fr.cp eh4
  have hMh4 := MBx.cp hMh3 eh4 (by decide) (p0 := (-2147483648, 2147483647)) (p := (-2147483648, 2147483647)) rfl rfl (by decide) (by decide)
  refine g_aload_n dX6_copyFrom_38 rfl ?_
  refine gR_X6_22 rfl dX6_copyFrom_39 sh_2 (b := 5) (m_2_3 hMh4) ?_
  refine g_iconst dX6_copyFrom_42 (inR_c rfl) ?_
  refine g_aload_n dX6_copyFrom_43 rfl ?_
  refine gR_X6_22 rfl dX6_copyFrom_44 sh_22 (b := 25) (m_22_3 hMh4) ?_
  refine g_iconst dX6_copyFrom_47 (inR_c rfl) ?_
  refine g_bipush dX6_copyFrom_48 (inR_c rfl) (by decide) ?_
  refine g_acopy dX6_copyFrom_50 ml_X6_25 sh_5 sh_25 (by decide) (by decide) (by decide) (by decide) (by decide) (by decide) (by decide) (fun h5 eh5 => ?_)
  have hFh5 := Fr.cp eh5
  have hMh5 := MBx.cp hMh4 eh5 (by decide) (p0 := (-2147483648, 2147483647)) (p := (-2147483648, 2147483647)) rfl rfl (by decide) (by decide)
  have q6 : h5 22 0 = v1 := ((hFh5 22 0 rfl).trans ((hFh4 22 0 rfl).trans ((hFh3 22 0 rfl).trans (st_at eh2))))
  exact g_return dX6_copyFrom_53 rfl (hPo _ ⟨hMh5, (Fr.tr (Fr.tr (Fr.tr (Fr.sub hFh2 rfl) hFh3 rfl) hFh4 rfl) hFh5 rfl), (by omega)⟩)
set_option maxRecDepth 100000 in
set_option maxHeartbeats 4000000 in
theorem c_X0_copyFrom_26_6 (h : MEM) (hM : MBx h) : CV yX0_copyFrom cX0_copyFrom 2 (none) 1 [pR 26, pR 6] h (fun h' => MBx h' ∧ Fr [(26, 1), (27, 0), (28, 0), (29, 0), (30, 0), (31, 0)] h h' ∧ h' 26 0 = h 6 0) := by
  refine CV.of (L0 := [some (pR 26), some (pR 6)]) rfl (Nat.le_of_ble_eq_true rfl) rfl (fun Po hPo hav => ?_)
  obtain ⟨v1, ev1⟩ : ∃ z, z = h 6 0 := ⟨_, rfl⟩
  have bv1 : 0 ≤ v1 ∧ v1 ≤ 8 := by rw [ev1]; exact (m_6_0 hM)
  refine g_aload_n dX0_copyFrom_0 rfl ?_
  refine g_aload_n dX0_copyFrom_1 rfl ?_
  refine gE_X0_9 rfl dX0_copyFrom_2 sh_6 ev1.symm ?_
  refine pI_X0_9 rfl dX0_copyFrom_5 sh_26 (fun h2 eh2 => ?_)
  have hFh2 := Fr.st eh2
  have hMh2 := u_26_0 hM eh2 (by omega) (by omega)
  refine g_aload_n dX0_copyFrom_8 rfl ?_
  refine gR_X0_15 rfl dX0_copyFrom_9 sh_6 (b := 7) (m_6_1 hMh2) ?_
  refine g_iconst dX0_copyFrom_12 (inR_c rfl) ?_
  refine g_aload_n dX0_copyFrom_13 rfl ?_
  refine gR_X0_15 rfl dX0_copyFrom_14 sh_26 (b := 27) (m_26_1 hMh2) ?_
  refine g_iconst dX0_copyFrom_17 (inR_c rfl) ?_
  refine g_bipush dX0_copyFrom_18 (inR_c rfl) (by decide) ?_
  refine g_acopy dX0_copyFrom_20 ml_X0_35 sh_7 sh_27 (by decide) (by decide) (by decide) (by decide) (by decide) (by decide) (by decide) (fun h3 eh3 => ?_)
  have hFh3 := Fr.cp eh3
  have hMh3 := MBx.cp hMh2 eh3 (by decide) (p0 := (-2147483648, 2147483647)) (p := (-2147483648, 2147483647)) rfl rfl (by decide) (by decide)
  refine g_aload_n dX0_copyFrom_23 rfl ?_
  refine gR_X0_19 rfl dX0_copyFrom_24 sh_6 (b := 8) (m_6_2 hMh3) ?_
  refine g_iconst dX0_copyFrom_27 (inR_c rfl) ?_
  refine g_aload_n dX0_copyFrom_28 rfl ?_
  refine gR_X0_19 rfl dX0_copyFrom_29 sh_26 (b := 28) (m_26_2 hMh3) ?_
  refine g_iconst dX0_copyFrom_32 (inR_c rfl) ?_
  refine g_bipush dX0_copyFrom_33 (inR_c rfl) (by decide) ?_
  refine g_acopy dX0_copyFrom_35 ml_X0_35 sh_8 sh_28 (by decide) (by decide) (by decide) (by decide) (by decide) (by decide) (by decide) (fun h4 eh4 => ?_)
  have hFh4 := Fr.cp eh4
  have hMh4 := MBx.cp hMh3 eh4 (by decide) (p0 := (-2147483648, 2147483647)) (p := (-2147483648, 2147483647)) rfl rfl (by decide) (by decide)
  refine g_aload_n dX0_copyFrom_38 rfl ?_
  refine gR_X0_22 rfl dX0_copyFrom_39 sh_6 (b := 9) (m_6_3 hMh4) ?_
  refine g_iconst dX0_copyFrom_42 (inR_c rfl) ?_
  refine g_aload_n dX0_copyFrom_43 rfl ?_
  refine gR_X0_22 rfl dX0_copyFrom_44 sh_26 (b := 29) (m_26_3 hMh4) ?_
  refine g_iconst dX0_copyFrom_47 (inR_c rfl) ?_
  refine g_bipush dX0_copyFrom_48 (inR_c rfl) (by decide) ?_
  refine g_acopy dX0_copyFrom_50 ml_X0_35 sh_9 sh_29 (by decide) (by decide) (by decide) (by decide) (by decide) (by decide) (by decide) (fun h5 eh5 => ?_)
  have hFh5 := Fr.cp eh5
  have hMh5 := MBx.cp hMh4 eh5 (by decide) (p0 := (-2147483648, 2147483647)) (p := (-2147483648, 2147483647)) rfl rfl (by decide) (by decide)
  refine g_aload_n dX0_copyFrom_53 rfl ?_
  refine gR_X0_25 rfl dX0_copyFrom_54 sh_6 (b := 10) (m_6_4 hMh5) ?_
  refine g_iconst dX0_copyFrom_57 (inR_c rfl) ?_
  refine g_aload_n dX0_copyFrom_58 rfl ?_
  refine gR_X0_25 rfl dX0_copyFrom_59 sh_26 (b := 30) (m_26_4 hMh5) ?_
  refine g_iconst dX0_copyFrom_62 (inR_c rfl) ?_
  refine g_bipush dX0_copyFrom_63 (inR_c rfl) (by decide) ?_
  refine g_acopy dX0_copyFrom_65 ml_X0_35 sh_10 sh_30 (by decide) (by decide) (by decide) (by decide) (by decide) (by decide) (by decide) (fun h6 eh6 => ?_)
  have hFh6 := Fr.cp eh6
  have hMh6 := MBx.cp hMh5 eh6 (by decide) (p0 := (-2147483648, 2147483647)) (p := (-2147483648, 2147483647)) rfl rfl (by decide) (by decide)
  refine g_aload_n dX0_copyFrom_68 rfl ?_
  refine gR_X0_28 rfl dX0_copyFrom_69 sh_6 (b := 11) (m_6_5 hMh6) ?_
  refine g_iconst dX0_copyFrom_72 (inR_c rfl) ?_
  refine g_aload_n dX0_copyFrom_73 rfl ?_
  refine gR_X0_28 rfl dX0_copyFrom_74 sh_26 (b := 31) (m_26_5 hMh6) ?_
  refine g_iconst dX0_copyFrom_77 (inR_c rfl) ?_
  refine g_bipush dX0_copyFrom_78 (inR_c rfl) (by decide) ?_
  refine g_acopy dX0_copyFrom_80 ml_X0_35 sh_11 sh_31 (by decide) (by decide) (by decide) (by decide) (by decide) (by decide) (by decide) (fun h7 eh7 => ?_)
  have hFh7 := Fr.cp eh7
  have hMh7 := MBx.cp hMh6 eh7 (by decide) (p0 := (-2147483648, 2147483647)) (p := (-2147483648, 2147483647)) rfl rfl (by decide) (by decide)
  have q8 : h7 26 0 = v1 := ((hFh7 26 0 rfl).trans ((hFh6 26 0 rfl).trans ((hFh5 26 0 rfl).trans ((hFh4 26 0 rfl).trans ((hFh3 26 0 rfl).trans (st_at eh2))))))
  exact g_return dX0_copyFrom_83 rfl (hPo _ ⟨hMh7, (Fr.tr (Fr.tr (Fr.tr (Fr.tr (Fr.tr (Fr.sub hFh2 rfl) hFh3 rfl) hFh4 rfl) hFh5 rfl) hFh6 rfl) hFh7 rfl), (by omega)⟩)
set_option maxRecDepth 100000 in
set_option maxHeartbeats 4000000 in
theorem c_X4_copyFrom_32_12 (h : MEM) (hM : MBx h) : CV yX4_copyFrom cX4_copyFrom 2 (none) 1 [pR 32, pR 12] h (fun h' => MBx h' ∧ Fr [(32, 1), (33, 0), (34, 0), (35, 0), (36, 0)] h h' ∧ h' 32 0 = h 12 0) := by
  refine CV.of (L0 := [some (pR 32), some (pR 12)]) rfl (Nat.le_of_ble_eq_true rfl) rfl (fun Po hPo hav => ?_)
  obtain ⟨v1, ev1⟩ : ∃ z, z = h 12 0 := ⟨_, rfl⟩
  have bv1 : 0 ≤ v1 ∧ v1 ≤ 8 := by rw [ev1]; exact (m_12_0 hM)
  refine g_aload_n dX4_copyFrom_0 rfl ?_
  refine g_aload_n dX4_copyFrom_1 rfl ?_
  refine gE_X4_9 rfl dX4_copyFrom_2 sh_12 ev1.symm ?_
  refine pI_X4_9 rfl dX4_copyFrom_5 sh_32 (fun h2 eh2 => ?_)
  have hFh2 := Fr.st eh2
  have hMh2 := u_32_0 hM eh2 (by omega) (by omega)
  refine g_aload_n dX4_copyFrom_8 rfl ?_
  refine gR_X4_15 rfl dX4_copyFrom_9 sh_12 (b := 13) (m_12_1 hMh2) ?_
  refine g_iconst dX4_copyFrom_12 (inR_c rfl) ?_
  refine g_aload_n dX4_copyFrom_13 rfl ?_
  refine gR_X4_15 rfl dX4_copyFrom_14 sh_32 (b := 33) (m_32_1 hMh2) ?_
  refine g_iconst dX4_copyFrom_17 (inR_c rfl) ?_
  refine g_bipush dX4_copyFrom_18 (inR_c rfl) (by decide) ?_
  refine g_acopy dX4_copyFrom_20 ml_X4_28 sh_13 sh_33 (by decide) (by decide) (by decide) (by decide) (by decide) (by decide) (by decide) (fun h3 eh3 => ?_)
  have hFh3 := Fr.cp eh3
  have hMh3 := MBx.cp hMh2 eh3 (by decide) (p0 := (-2147483648, 2147483647)) (p := (-2147483648, 2147483647)) rfl rfl (by decide) (by decide)
  refine g_aload_n dX4_copyFrom_23 rfl ?_
  refine gR_X4_19 rfl dX4_copyFrom_24 sh_12 (b := 14) (m_12_2 hMh3) ?_
  refine g_iconst dX4_copyFrom_27 (inR_c rfl) ?_
  refine g_aload_n dX4_copyFrom_28 rfl ?_
  refine gR_X4_19 rfl dX4_copyFrom_29 sh_32 (b := 34) (m_32_2 hMh3) ?_
  refine g_iconst dX4_copyFrom_32 (inR_c rfl) ?_
  refine g_bipush dX4_copyFrom_33 (inR_c rfl) (by decide) ?_
  refine g_acopy dX4_copyFrom_35 ml_X4_28 sh_14 sh_34 (by decide) (by decide) (by decide) (by decide) (by decide) (by decide) (by decide) (fun h4 eh4 => ?_)
  have hFh4 := Fr.cp eh4
  have hMh4 := MBx.cp hMh3 eh4 (by decide) (p0 := (0, 4)) (p := (0, 4)) rfl rfl (by decide) (by decide)
  refine g_aload_n dX4_copyFrom_38 rfl ?_
  refine gR_X4_22 rfl dX4_copyFrom_39 sh_12 (b := 15) (m_12_3 hMh4) ?_
  refine g_iconst dX4_copyFrom_42 (inR_c rfl) ?_
  refine g_aload_n dX4_copyFrom_43 rfl ?_
  refine gR_X4_22 rfl dX4_copyFrom_44 sh_32 (b := 35) (m_32_3 hMh4) ?_
  refine g_iconst dX4_copyFrom_47 (inR_c rfl) ?_
  refine g_bipush dX4_copyFrom_48 (inR_c rfl) (by decide) ?_
  refine g_acopy dX4_copyFrom_50 ml_X4_28 sh_15 sh_35 (by decide) (by decide) (by decide) (by decide) (by decide) (by decide) (by decide) (fun h5 eh5 => ?_)
  have hFh5 := Fr.cp eh5
  have hMh5 := MBx.cp hMh4 eh5 (by decide) (p0 := (-2147483648, 2147483647)) (p := (-2147483648, 2147483647)) rfl rfl (by decide) (by decide)
  refine g_aload_n dX4_copyFrom_53 rfl ?_
  refine gR_X4_25 rfl dX4_copyFrom_54 sh_12 (b := 16) (m_12_4 hMh5) ?_
  refine g_iconst dX4_copyFrom_57 (inR_c rfl) ?_
  refine g_aload_n dX4_copyFrom_58 rfl ?_
  refine gR_X4_25 rfl dX4_copyFrom_59 sh_32 (b := 36) (m_32_4 hMh5) ?_
  refine g_iconst dX4_copyFrom_62 (inR_c rfl) ?_
  refine g_bipush dX4_copyFrom_63 (inR_c rfl) (by decide) ?_
  refine g_acopy dX4_copyFrom_65 ml_X4_28 sh_16 sh_36 (by decide) (by decide) (by decide) (by decide) (by decide) (by decide) (by decide) (fun h6 eh6 => ?_)
  have hFh6 := Fr.cp eh6
  have hMh6 := MBx.cp hMh5 eh6 (by decide) (p0 := (-2147483648, 2147483647)) (p := (-2147483648, 2147483647)) rfl rfl (by decide) (by decide)
  have q7 : h6 32 0 = v1 := ((hFh6 32 0 rfl).trans ((hFh5 32 0 rfl).trans ((hFh4 32 0 rfl).trans ((hFh3 32 0 rfl).trans (st_at eh2)))))
  exact g_return dX4_copyFrom_68 rfl (hPo _ ⟨hMh6, (Fr.tr (Fr.tr (Fr.tr (Fr.tr (Fr.sub hFh2 rfl) hFh3 rfl) hFh4 rfl) hFh5 rfl) hFh6 rfl), (by omega)⟩)
set_option maxRecDepth 100000 in
set_option maxHeartbeats 4000000 in
theorem c_X9_copyFrom_21_1 (h : MEM) (hM : MBx h) : CV yX9_copyFrom cX9_copyFrom 2 (none) 2 [pR 21, pR 1] h (fun h' => MBx h' ∧ Fr [(21, 7), (21, 8), (21, 9), (22, 1), (23, 0), (24, 0), (25, 0), (26, 1), (27, 0), (28, 0), (29, 0), (30, 0), (31, 0), (32, 1), (33, 0), (34, 0), (35, 0), (36, 0), (37, 0), (38, 0), (39, 0)] h h' ∧ h' 22 0 = h 2 0 ∧ h' 26 0 = h 6 0 ∧ h' 32 0 = h 12 0) := by
  refine CV.of (L0 := [some (pR 21), some (pR 1)]) rfl (Nat.le_of_ble_eq_true rfl) rfl (fun Po hPo hav => ?_)
  obtain ⟨v1, ev1⟩ : ∃ z, z = h 2 0 := ⟨_, rfl⟩
  have bv1 : 0 ≤ v1 ∧ v1 ≤ 10 := by rw [ev1]; exact (m_2_0 hM)
  obtain ⟨v2, ev2⟩ : ∃ z, z = h 6 0 := ⟨_, rfl⟩
  have bv2 : 0 ≤ v2 ∧ v2 ≤ 8 := by rw [ev2]; exact (m_6_0 hM)
  obtain ⟨v3, ev3⟩ : ∃ z, z = h 12 0 := ⟨_, rfl⟩
  have bv3 : 0 ≤ v3 ∧ v3 ≤ 8 := by rw [ev3]; exact (m_12_0 hM)
  refine g_aload_n dX9_copyFrom_0 rfl ?_
  refine gR_X9_12 rfl dX9_copyFrom_1 sh_21 (b := 22) (m_21_0 hM) ?_
  refine g_aload_n dX9_copyFrom_4 rfl ?_
  refine gR_X9_12 rfl dX9_copyFrom_5 sh_1 (b := 2) (m_1_0 hM) ?_
  have q4 : h 2 0 = v1 := ev1.symm
  refine g_cVV (as := [_]) (c_X6_copyFrom_22_2  h hM) dX9_copyFrom_8 mi_X6_copyFrom in_X6_copyFrom se_X6_copyFrom ml_X9_55 rfl rfl rfl sh_22 rfl rfl (Nat.le_of_ble_eq_true rfl) (fun h5 q6 => ?_)
  obtain ⟨hMh5, hFh5, z7⟩ := q6
  have kz7 : h5 22 0 = v1 := by omega
  refine g_aload_n dX9_copyFrom_11 rfl ?_
  refine gR_X9_21 rfl dX9_copyFrom_12 sh_21 (b := 26) (m_21_1 hMh5) ?_
  refine g_aload_n dX9_copyFrom_15 rfl ?_
  refine gR_X9_21 rfl dX9_copyFrom_16 sh_1 (b := 6) (m_1_1 hMh5) ?_
  have q8 : h5 6 0 = v2 := ((hFh5 6 0 rfl).trans ev2.symm)
  refine g_cVV (as := [_]) (c_X0_copyFrom_26_6  h5 hMh5) dX9_copyFrom_19 mi_X0_copyFrom in_X0_copyFrom se_X0_copyFrom ml_X9_59 rfl rfl rfl sh_26 rfl rfl (Nat.le_of_ble_eq_true rfl) (fun h9 q10 => ?_)
  obtain ⟨hMh9, hFh9, z11⟩ := q10
  have kz11 : h9 26 0 = v2 := by omega
  refine g_aload_n dX9_copyFrom_22 rfl ?_
  refine gR_X9_28 rfl dX9_copyFrom_23 sh_21 (b := 32) (m_21_2 hMh9) ?_
  refine g_aload_n dX9_copyFrom_26 rfl ?_
  refine gR_X9_28 rfl dX9_copyFrom_27 sh_1 (b := 12) (m_1_2 hMh9) ?_
  have q12 : h9 12 0 = v3 := ((hFh9 12 0 rfl).trans ((hFh5 12 0 rfl).trans ev3.symm))
  refine g_cVV (as := [_]) (c_X4_copyFrom_32_12  h9 hMh9) dX9_copyFrom_30 mi_X4_copyFrom in_X4_copyFrom se_X4_copyFrom ml_X9_62 rfl rfl rfl sh_32 rfl rfl (Nat.le_of_ble_eq_true rfl) (fun h13 q14 => ?_)
  obtain ⟨hMh13, hFh13, z15⟩ := q14
  have kz15 : h13 32 0 = v3 := by omega
  refine g_aload_n dX9_copyFrom_33 rfl ?_
  refine gR_X9_32 rfl dX9_copyFrom_34 sh_1 (b := 17) (m_1_3 hMh13) ?_
  refine g_iconst dX9_copyFrom_37 (inR_c rfl) ?_
  refine g_aload_n dX9_copyFrom_38 rfl ?_
  refine gR_X9_32 rfl dX9_copyFrom_39 sh_21 (b := 37) (m_21_3 hMh13) ?_
  refine g_iconst dX9_copyFrom_42 (inR_c rfl) ?_
  refine g_bipush dX9_copyFrom_43 (inR_c rfl) (by decide) ?_
  refine g_acopy dX9_copyFrom_45 ml_X9_65 sh_17 sh_37 (by decide) (by decide) (by decide) (by decide) (by decide) (by decide) (by decide) (fun h16 eh16 => ?_)
  have hFh16 := Fr.cp eh16
  have hMh16 := MBx.cp hMh13 eh16 (by decide) (p0 := (-2147483648, 2147483647)) (p := (-2147483648, 2147483647)) rfl rfl (by decide) (by decide)
  refine g_aload_n dX9_copyFrom_48 rfl ?_
  refine gR_X9_36 rfl dX9_copyFrom_49 sh_1 (b := 18) (m_1_4 hMh16) ?_
  refine g_iconst dX9_copyFrom_52 (inR_c rfl) ?_
  refine g_aload_n dX9_copyFrom_53 rfl ?_
  refine gR_X9_36 rfl dX9_copyFrom_54 sh_21 (b := 38) (m_21_4 hMh16) ?_
  refine g_iconst dX9_copyFrom_57 (inR_c rfl) ?_
  refine g_bipush dX9_copyFrom_58 (inR_c rfl) (by decide) ?_
  refine g_acopy dX9_copyFrom_60 ml_X9_65 sh_18 sh_38 (by decide) (by decide) (by decide) (by decide) (by decide) (by decide) (by decide) (fun h17 eh17 => ?_)
  have hFh17 := Fr.cp eh17
  have hMh17 := MBx.cp hMh16 eh17 (by decide) (p0 := (-2147483648, 2147483647)) (p := (-2147483648, 2147483647)) rfl rfl (by decide) (by decide)
  refine g_aload_n dX9_copyFrom_63 rfl ?_
  refine gR_X9_39 rfl dX9_copyFrom_64 sh_1 (b := 19) (m_1_5 hMh17) ?_
  refine g_iconst dX9_copyFrom_67 (inR_c rfl) ?_
  refine g_aload_n dX9_copyFrom_68 rfl ?_
  refine gR_X9_39 rfl dX9_copyFrom_69 sh_21 (b := 39) (m_21_5 hMh17) ?_
  refine g_iconst dX9_copyFrom_72 (inR_c rfl) ?_
  refine g_bipush dX9_copyFrom_73 (inR_c rfl) (by decide) ?_
  refine g_acopy dX9_copyFrom_75 ml_X9_65 sh_19 sh_39 (by decide) (by decide) (by decide) (by decide) (by decide) (by decide) (by decide) (fun h18 eh18 => ?_)
  have hFh18 := Fr.cp eh18
  have hMh18 := MBx.cp hMh17 eh18 (by decide) (p0 := (0, 1)) (p := (0, 1)) rfl rfl (by decide) (by decide)
  refine g_aload_n dX9_copyFrom_78 rfl ?_
  refine g_aload_n dX9_copyFrom_79 rfl ?_
  refine gI_X9_42 rfl dX9_copyFrom_80 sh_1 (m_1_6 hMh18) (fun v19 ev19 bv19 cv19 => ?_)
  refine pI_X9_42 rfl dX9_copyFrom_83 sh_21 (fun h20 eh20 => ?_)
  have hFh20 := Fr.st eh20
  have hMh20 := u_21_6 hMh18 eh20 (by omega) (by omega)
  refine g_aload_n dX9_copyFrom_86 rfl ?_
  refine g_aload_n dX9_copyFrom_87 rfl ?_
  refine gI_X9_46 rfl dX9_copyFrom_88 sh_1 (m_1_7 hMh20) (fun v21 ev21 bv21 cv21 => ?_)
  refine pI_X9_46 rfl dX9_copyFrom_91 sh_21 (fun h22 eh22 => ?_)
  have hFh22 := Fr.st eh22
  have hMh22 := u_21_7 hMh20 eh22 (by omega) (by omega)
  refine g_aload_n dX9_copyFrom_94 rfl ?_
  refine g_aload_n dX9_copyFrom_95 rfl ?_
  refine gI_X9_49 rfl dX9_copyFrom_96 sh_1 (m_1_8 hMh22) (fun v23 ev23 bv23 cv23 => ?_)
  refine pI_X9_49 rfl dX9_copyFrom_99 sh_21 (fun h24 eh24 => ?_)
  have hFh24 := Fr.st eh24
  have hMh24 := u_21_8 hMh22 eh24 (by omega) (by omega)
  have q25 : h24 22 0 = v1 := ((hFh24 22 0 rfl).trans ((hFh22 22 0 rfl).trans ((hFh20 22 0 rfl).trans ((hFh18 22 0 rfl).trans ((hFh17 22 0 rfl).trans ((hFh16 22 0 rfl).trans ((hFh13 22 0 rfl).trans ((hFh9 22 0 rfl).trans kz7))))))))
  have q26 : h24 26 0 = v2 := ((hFh24 26 0 rfl).trans ((hFh22 26 0 rfl).trans ((hFh20 26 0 rfl).trans ((hFh18 26 0 rfl).trans ((hFh17 26 0 rfl).trans ((hFh16 26 0 rfl).trans ((hFh13 26 0 rfl).trans kz11)))))))
  have q27 : h24 32 0 = v3 := ((hFh24 32 0 rfl).trans ((hFh22 32 0 rfl).trans ((hFh20 32 0 rfl).trans ((hFh18 32 0 rfl).trans ((hFh17 32 0 rfl).trans ((hFh16 32 0 rfl).trans kz15))))))
  exact g_return dX9_copyFrom_102 rfl (hPo _ ⟨hMh24, (Fr.tr (Fr.tr (Fr.tr (Fr.tr (Fr.tr (Fr.tr (Fr.tr (Fr.tr (Fr.sub hFh5 rfl) hFh9 rfl) hFh13 rfl) hFh16 rfl) hFh17 rfl) hFh18 rfl) hFh20 rfl) hFh22 rfl) hFh24 rfl), (by omega), (by omega), (by omega)⟩)
set_option maxRecDepth 100000 in
set_option maxHeartbeats 4000000 in
theorem c_X9_nextWind_21 (h : MEM) (hM : MBx h) : CI yX9_nextWind cX9_nextWind 1 (some .int) 1 [pR 21] h (fun x h' => MBx h' ∧ Fr [(21, 8)] h h' ∧ 0 ≤ x ∧ x ≤ 9) := by
  refine CI.of (L0 := [some (pR 21)]) rfl (Nat.le_of_ble_eq_true rfl) rfl (fun Po hPo hav => ?_)
  refine g_aload_n dX9_nextWind_0 rfl ?_
  refine g_sipush dX9_nextWind_1 (inR_c rfl) (by decide) ?_
  refine g_aload_n dX9_nextWind_4 rfl ?_
  refine gI_X9_46 rfl dX9_nextWind_5 sh_21 (m_21_7 hM) (fun v1 ev1 bv1 cv1 => ?_)
  refine g_imulB dX9_nextWind_8 (by omega) (by omega) ?_
  refine g_sipush dX9_nextWind_9 (inR_c rfl) (by decide) ?_
  refine g_iaddB dX9_nextWind_12 (by omega) (by omega) ?_
  refine g_ldc (v := 65535) dX9_nextWind_13 kc_X9_86 (inR_c rfl) ?_
  refine g_iandX (lo := 0) (hi := 65535) dX9_nextWind_15 (iand_r (by omega) (by omega)) (fun v2 ev2 bv2 cv2 => ?_)
  refine pI_X9_46 rfl dX9_nextWind_16 sh_21 (fun h3 eh3 => ?_)
  have hFh3 := Fr.st eh3
  have hMh3 := u_21_7 hM eh3 (by omega) (by omega)
  refine g_aload_n dX9_nextWind_19 rfl ?_
  refine gE_X9_46 rfl dX9_nextWind_20 sh_21 (st_at eh3) ?_
  refine g_bipush dX9_nextWind_23 (inR_c rfl) (by decide) ?_
  refine g_iremX (lo := 0) (hi := 9) dX9_nextWind_25 (by omega) (irem_b (by omega) (by omega) (by omega)) (fun v4 ev4 bv4 cv4 => ?_)
  exact g_ireturn dX9_nextWind_26 retI (hPo _ _ ⟨hMh3, (Fr.sub hFh3 rfl), (by omega), (by omega)⟩)
