set_option maxRecDepth 100000 in
set_option maxHeartbeats 4000000 in
theorem c_X12_does_98 (x1 x2 : Int) (h : MEM) (hM : MBm h) (bx1 : 3 ≤ x1) (dx1 : x1 ≤ 2147483647) (bx2 : 0 ≤ x2) (dx2 : x2 ≤ 198) : CV yX12_does cX12_does 4 (none) 2 [pR 98, pI x1, pI x2] h (fun h' => MBm h' ∧ Fr [(128, 0), (129, 0)] h h') := by
  refine CV.of (L0 := [some (pR 98), some (pI x1), some (pI x2), none]) rfl (Nat.le_of_ble_eq_true rfl) rfl (fun Po hPo hav => ?_)
  refine g_iload_n dX12_does_0 rfl (fun _ => ?_)
  refine g_iconst dX12_does_1 (inR_c rfl) ?_
  refine g_iaddB dX12_does_2 (by omega) (by omega) ?_
  refine g_istore_n dX12_does_3 (by decide) rfl ?_
  refine g_iload_n dX12_does_4 rfl (fun _ => ?_)
  refine g_bipush dX12_does_5 (inR_c rfl) (by decide) ?_
  have c16 : G yX12_does cX12_does 4 (none) none Po (2, 120, 0, 0) 16 [some (pR 98), some (pI x1), some (pI x2), some (pI (x2 + 1))] [] SH h 0 0 := by
    refine g_aload_n dX12_does_16 rfl ?_
    refine gR_X12_106 rfl dX12_does_17 sh_98 (b := 129) (m_98_50 hM) ?_
    refine g_iload_n dX12_does_20 rfl (fun _ => ?_)
    refine g_zaldB dX12_does_21 sh_129 (by omega) (by omega) (m_129 hM _) (fun v1 ev1 bv1 cv1 => ?_)
    refine g_if_ne 45 dX12_does_22 (by decide) (fun q2 => ?_) (fun q2 => ?_)
    · skip
      exact g_return dX12_does_45 rfl (hPo _ ⟨hM, Fr.rf⟩)
    · skip
      refine g_aload_n dX12_does_25 rfl ?_
      refine gR_X12_103 rfl dX12_does_26 sh_98 (b := 128) (m_98_49 hM) ?_
      refine g_iload_n dX12_does_29 rfl (fun _ => ?_)
      refine g_ialdB dX12_does_30 sh_128 (by omega) (by omega) (m_128 hM _) (fun v3 ev3 bv3 cv3 => ?_)
      refine g_iload_n dX12_does_31 rfl (fun _ => ?_)
      refine g_bipush dX12_does_32 (inR_c rfl) (by decide) ?_
      have c42 : ∀ (y4 : Int) , 0 ≤ y4 → y4 ≤ 1 → G yX12_does cX12_does 4 (none) none Po (2, 120, 0, 0) 42 [some (pR 98), none, some (pI x2), some (pI (x2 + 1))] [(pI y4), (pI v3)] SH h 0 0 := by
        intro y4 by4 dy4
        refine g_icmp_eq 46 dX12_does_42 (by decide) (fun q5 => ?_) (fun q5 => ?_)
        · skip
          refine g_aload_n dX12_does_46 rfl ?_
          refine gR_X12_103 rfl dX12_does_47 sh_98 (b := 128) (m_98_49 hM) ?_
          refine g_iload_n dX12_does_50 rfl (fun _ => ?_)
          refine g_aload_n dX12_does_51 rfl ?_
          refine gR_X12_103 rfl dX12_does_52 sh_98 (b := 128) (m_98_49 hM) ?_
          refine g_iload_n dX12_does_55 rfl (fun _ => ?_)
          refine g_ialdB dX12_does_56 sh_128 (by omega) (by omega) (m_128 hM _) (fun v6 ev6 bv6 cv6 => ?_)
          refine g_iastB dX12_does_57 sh_128 (by omega) (by omega) (fun h7 eh7 => ?_)
          have hFh7 := Fr.ar eh7
          have hMh7 := u_128 hM eh7 (by omega) (by omega)
          refine g_aload_n dX12_does_58 rfl ?_
          refine gR_X12_106 rfl dX12_does_59 sh_98 (b := 129) (m_98_50 hMh7) ?_
          refine g_iload_n dX12_does_62 rfl (fun _ => ?_)
          refine g_aload_n dX12_does_63 rfl ?_
          refine gR_X12_106 rfl dX12_does_64 sh_98 (b := 129) (m_98_50 hMh7) ?_
          refine g_iload_n dX12_does_67 rfl (fun _ => ?_)
          refine g_zaldB dX12_does_68 sh_129 (by omega) (by omega) (m_129 hMh7 _) (fun v8 ev8 bv8 cv8 => ?_)
          refine g_zastB dX12_does_69 sh_129 (by omega) (by omega) (by omega) (fun h9 eh9 => ?_)
          have hFh9 := Fr.ar eh9
          have hMh9 := u_129 hMh7 eh9 (by omega) (by omega)
          exact g_return dX12_does_70 rfl (hPo _ ⟨hMh9, (Fr.tr (Fr.sub hFh7 rfl) hFh9 rfl)⟩)
        · skip
          exact g_return dX12_does_45 rfl (hPo _ ⟨hM, Fr.rf⟩)
      refine g_icmp_ne 41 dX12_does_34 (by decide) (fun q10 => ?_) (fun q10 => ?_)
      · skip
        refine g_iconst dX12_does_41 (inR_c rfl) ?_
        refine g_drop 1 ?_
        exact c42 _ (by omega) (by omega)
      · skip
        refine g_iconst dX12_does_37 (inR_c rfl) ?_
        refine g_goto 42 dX12_does_38 (by decide) ?_
        refine g_drop 1 ?_
        exact c42 _ (by omega) (by omega)
  refine g_icmp_eq 16 dX12_does_7 (by decide) (fun q11 => ?_) (fun q11 => ?_)
  · skip
    exact c16 
  · skip
    refine g_iload_n dX12_does_10 rfl (fun _ => ?_)
    refine g_bipush dX12_does_11 (inR_c rfl) (by decide) ?_
    refine g_icmp_ne 71 dX12_does_13 (by decide) (fun q12 => ?_) (fun q12 => ?_)
    · skip
      refine g_aload_n dX12_does_71 rfl ?_
      refine gR_X12_106 rfl dX12_does_72 sh_98 (b := 129) (m_98_50 hM) ?_
      refine g_iload_n dX12_does_75 rfl (fun _ => ?_)
      refine g_aload_n dX12_does_76 rfl ?_
      refine gR_X12_106 rfl dX12_does_77 sh_98 (b := 129) (m_98_50 hM) ?_
      refine g_iload_n dX12_does_80 rfl (fun _ => ?_)
      refine g_zaldB dX12_does_81 sh_129 (by omega) (by omega) (m_129 hM _) (fun v13 ev13 bv13 cv13 => ?_)
      have c120 : ∀ (y14 : Int) , 0 ≤ y14 → y14 ≤ 1 → G yX12_does cX12_does 4 (none) none Po (2, 120, 0, 0) 120 [some (pR 98), some (pI x1), some (pI x2), some (pI (x2 + 1))] [(pI y14), (pI x2), (pR 129)] SH h 0 0 := by
        intro y14 by14 dy14
        refine g_zastB dX12_does_120 sh_129 (by omega) (by omega) (by omega) (fun h15 eh15 => ?_)
        have hFh15 := Fr.ar eh15
        have hMh15 := u_129 hM eh15 (by omega) (by omega)
        refine g_aload_n dX12_does_121 rfl ?_
        refine gR_X12_103 rfl dX12_does_122 sh_98 (b := 128) (m_98_49 hMh15) ?_
        refine g_iload_n dX12_does_125 rfl (fun _ => ?_)
        refine g_iload_n dX12_does_126 rfl (fun _ => ?_)
        refine g_aload_n dX12_does_127 rfl ?_
        refine gR_X12_103 rfl dX12_does_128 sh_98 (b := 128) (m_98_49 hMh15) ?_
        refine g_iload_n dX12_does_131 rfl (fun _ => ?_)
        refine g_ialdB dX12_does_132 sh_128 (by omega) (by omega) (m_128 hMh15 _) (fun v16 ev16 bv16 cv16 => ?_)
        refine g_aload_n dX12_does_133 rfl ?_
        refine gR_X12_103 rfl dX12_does_134 sh_98 (b := 128) (m_98_49 hMh15) ?_
        refine g_iload_n dX12_does_137 rfl (fun _ => ?_)
        refine g_ialdB dX12_does_138 sh_128 (by omega) (by omega) (m_128 hMh15 _) (fun v17 ev17 bv17 cv17 => ?_)
        refine g_cSP (av := [_, _, _]) (c_X12_worked _ _ _ h15 hMh15 (by omega) (by omega) (by omega) (by omega) (by omega) (by omega)) dX12_does_139 mi_X12_worked st_X12_worked ml_X12_340 rfl rfl rfl rfl (Nat.le_of_ble_eq_true rfl) (fun v18 q19 => ?_)
        obtain ⟨bv18, cv18⟩ := q19
        refine g_iastB dX12_does_142 sh_128 (by omega) (by omega) (fun h20 eh20 => ?_)
        have hFh20 := Fr.ar eh20
        have hMh20 := u_128 hMh15 eh20 (by omega) (by omega)
        exact g_return dX12_does_143 rfl (hPo _ ⟨hMh20, (Fr.tr (Fr.sub hFh15 rfl) hFh20 rfl)⟩)
      have c115 : G yX12_does cX12_does 4 (none) none Po (2, 120, 0, 0) 115 [some (pR 98), some (pI x1), some (pI x2), some (pI (x2 + 1))] [(pI x2), (pR 129)] SH h 0 0 := by
        refine g_iconst dX12_does_115 (inR_c rfl) ?_
        refine g_goto 120 dX12_does_116 (by decide) ?_
        exact c120 _ (by omega) (by omega)
      refine g_if_ne 115 dX12_does_82 (by decide) (fun q21 => ?_) (fun q21 => ?_)
      · skip
        exact c115 
      · skip
        refine g_aload_n dX12_does_85 rfl ?_
        refine gR_X12_106 rfl dX12_does_86 sh_98 (b := 129) (m_98_50 hM) ?_
        refine g_iload_n dX12_does_89 rfl (fun _ => ?_)
        refine g_zaldB dX12_does_90 sh_129 (by omega) (by omega) (m_129 hM _) (fun v22 ev22 bv22 cv22 => ?_)
        refine g_if_ne 115 dX12_does_91 (by decide) (fun q23 => ?_) (fun q23 => ?_)
        · skip
          exact c115 
        · skip
          refine g_iload_n dX12_does_94 rfl (fun _ => ?_)
          refine g_bipush dX12_does_95 (inR_c rfl) (by decide) ?_
          have c119 : G yX12_does cX12_does 4 (none) none Po (2, 120, 0, 0) 119 [some (pR 98), some (pI x1), some (pI x2), some (pI (x2 + 1))] [(pI x2), (pR 129)] SH h 0 0 := by
            refine g_iconst dX12_does_119 (inR_c rfl) ?_
            exact c120 _ (by omega) (by omega)
          have c106 : G yX12_does cX12_does 4 (none) none Po (2, 120, 0, 0) 106 [some (pR 98), some (pI x1), some (pI x2), some (pI (x2 + 1))] [(pI x2), (pR 129)] SH h 0 0 := by
            refine g_aload_n dX12_does_106 rfl ?_
            refine gR_X12_103 rfl dX12_does_107 sh_98 (b := 128) (m_98_49 hM) ?_
            refine g_iload_n dX12_does_110 rfl (fun _ => ?_)
            refine g_ialdB dX12_does_111 sh_128 (by omega) (by omega) (m_128 hM _) (fun v24 ev24 bv24 cv24 => ?_)
            refine g_if_ne 119 dX12_does_112 (by decide) (fun q25 => ?_) (fun q25 => ?_)
            · skip
              exact c119 
            · skip
              exact c115 
          refine g_icmp_eq 106 dX12_does_97 (by decide) (fun q26 => ?_) (fun q26 => ?_)
          · skip
            exact c106 
          · skip
            refine g_iload_n dX12_does_100 rfl (fun _ => ?_)
            refine g_bipush dX12_does_101 (inR_c rfl) (by decide) ?_
            refine g_icmp_ne 119 dX12_does_103 (by decide) (fun q27 => ?_) (fun q27 => ?_)
            · skip
              exact c119 
            · skip
              exact c106 
    · skip
      exact c16 
set_option maxRecDepth 100000 in
set_option maxHeartbeats 4000000 in
theorem c_X12_works_98 (x1 x2 : Int) (h : MEM) (hM : MBm h) (bx1 : 0 ≤ x1) (dx1 : x1 ≤ 200) (bx2 : 0 ≤ x2) (dx2 : x2 ≤ 200) (f_AT9 : AT9 h) (f_RPV : RPV x1 x2 h) : CV yX12_works cX12_works 5 (none) 3 [pR 98, pI x1, pI x2] h (fun h' => MBm h' ∧ Fr [(128, 0), (129, 0)] h h') := by
  refine CV.of (L0 := [some (pR 98), some (pI x1), some (pI x2), none, none]) rfl (Nat.le_of_ble_eq_true rfl) rfl (fun Po hPo hav => ?_)
  refine g_iconst dX12_works_0 (inR_c rfl) ?_
  refine g_istore_n dX12_works_1 (by decide) rfl ?_
  refine g_iload_n dX12_works_2 rfl (fun _ => ?_)
  have c5 : ∀ (n : Nat) (y1 y2 : Int) (h3 : MEM), MBm h3 → Fr [(128, 0), (129, 0)] h h3 → 0 ≤ y1 → y1 ≤ 200 → 0 ≤ y2 → y2 ≤ 200 → y1 = rpD (h 119) x1.toNat (y2 - x1).toNat → x1 ≤ y2 → 200 - y2 < (n : Int) → G yX12_works cX12_works 5 (none) none Po (3, 180, 0, 0) 5 [some (pR 98), none, some (pI x2), some (pI y1), some (pI y2)] [] SH h3 0 0 := by
    intro n
    induction n with
    | zero =>
      intro y1 y2 h3 hMh3 hFh3 by1 dy1 by2 dy2 e5_0 e5_1 hn
      exfalso; omega
    | succ n ih5 =>
      intro y1 y2 h3 hMh3 hFh3 by1 dy1 by2 dy2 e5_0 e5_1 hn
      refine g_iload dX12_works_5 rfl (fun _ => ?_)
      refine g_iload_n dX12_works_7 rfl (fun _ => ?_)
      refine g_icmp_ge 127 dX12_works_8 (by decide) (fun q4 => ?_) (fun q4 => ?_)
      · skip
        exact g_return dX12_works_127 rfl (hPo _ ⟨hMh3, (Fr.sub hFh3 rfl)⟩)
      · skip
        refine g_aload_n dX12_works_11 rfl ?_
        refine gR_X12_76 rfl dX12_works_12 sh_98 (b := 119) (m_98_28 hMh3) ?_
        refine g_iload dX12_works_15 rfl (fun _ => ?_)
        refine g_ialdB dX12_works_17 sh_119 (by omega) (by omega) (m_119 hMh3 _) (fun v5 ev5 bv5 cv5 => ?_)
        have cw : h3 119 (y2).toNat = h 119 (y2).toNat := (hFh3 119 _ rfl)
        refine g_iconst dX12_works_18 (inR_c rfl) ?_
        refine g_icmp_le 42 dX12_works_19 (by decide) (fun q6 => ?_) (fun q6 => ?_)
        · skip
          refine g_aload_n dX12_works_42 rfl ?_
          refine gR_X12_76 rfl dX12_works_43 sh_98 (b := 119) (m_98_28 hMh3) ?_
          refine g_iload dX12_works_46 rfl (fun _ => ?_)
          refine g_ialdE dX12_works_48 sh_119 (by omega) (by omega) ev5.symm ?_
          refine g_iconst dX12_works_49 (inR_c rfl) ?_
          refine g_icmp_ne 74 dX12_works_50 (by decide) (fun q7 => ?_) (fun q7 => ?_)
          · skip
            refine g_aload_n dX12_works_74 rfl ?_
            have al8 : 0 ≤ y1 ∧ y1 ≤ 199 := (by have rw := rpw_get f_RPV e5_0 (by omega) (by omega) (by omega) cw (by assumption); omega)
            refine gR_X12_106 rfl dX12_works_75 sh_98 (b := 129) (m_98_50 hMh3) ?_
            refine g_iload_n dX12_works_78 rfl (fun _ => ?_)
            refine g_iconst dX12_works_79 (inR_c rfl) ?_
            refine g_zastB dX12_works_80 sh_129 (by omega) (by omega) (by omega) (fun h9 eh9 => ?_)
            have hFh9 := Fr.ar eh9
            have hMh9 := u_129 hMh3 eh9 (by omega) (by omega)
            refine g_aload_n dX12_works_81 rfl ?_
            refine gR_X12_103 rfl dX12_works_82 sh_98 (b := 128) (m_98_49 hMh9) ?_
            refine g_iload_n dX12_works_85 rfl (fun _ => ?_)
            refine g_aload_n dX12_works_86 rfl ?_
            refine gR_X12_76 rfl dX12_works_87 sh_98 (b := 119) (m_98_28 hMh9) ?_
            refine g_iload dX12_works_90 rfl (fun _ => ?_)
            refine g_ialdE dX12_works_92 sh_119 (by omega) (by omega) ((hFh9 119 _ rfl).trans ev5.symm) ?_
            refine g_if_ne 106 dX12_works_93 (by decide) (fun q10 => ?_) (fun q10 => ?_)
            · skip
              refine g_aload_n dX12_works_106 rfl ?_
              refine g_aload_n dX12_works_107 rfl ?_
              refine gR_X12_79 rfl dX12_works_108 sh_98 (b := 120) (m_98_29 hMh9) ?_
              refine g_iload dX12_works_111 rfl (fun _ => ?_)
              refine g_ialdB dX12_works_113 sh_120 (by omega) (by omega) (m_120 hMh9 _) (fun v11 ev11 bv11 cv11 => ?_)
              refine g_cVP (as := [_]) (c_X12_valueOf_98 _ h9 hMh9 (by omega) (by omega) (AT9.fr (T := [(128, 0), (129, 0)]) f_AT9 (Fr.tr (Fr.sub hFh3 rfl) hFh9 rfl) rfl)) dX12_works_114 mi_X12_valueOf in_X12_valueOf se_X12_valueOf ml_X12_347 rfl rfl rfl sh_98 rfl rfl (Nat.le_of_ble_eq_true rfl) (fun v12 q13 => ?_)
              obtain ⟨bv12, cv12⟩ := q13
              refine g_iastB dX12_works_117 sh_128 (by omega) (by omega) (fun h14 eh14 => ?_)
              have hFh14 := Fr.ar eh14
              have hMh14 := u_128 hMh9 eh14 (by omega) (by omega)
              refine g_iincB dX12_works_118 rfl rfl (by omega) (by omega) ?_
              refine g_iincB dX12_works_121 rfl rfl (by omega) (by omega) ?_
              refine g_goto 5 dX12_works_124 (by decide) ?_
              exact ih5 _ _ _ hMh14 (Fr.tr (Fr.tr (Fr.sub hFh3 rfl) hFh9 rfl) hFh14 rfl) (by omega) (by omega) (by omega) (by omega) (by first | exact rpw_0 | (rw [(rpw_get f_RPV e5_0 (by omega) (by omega) (by omega) cw (by assumption)).2.2.2.2]; split <;> (try split) <;> omega)) (by omega) (by omega)
            · skip
              refine g_aload_n dX12_works_96 rfl ?_
              refine gR_X12_79 rfl dX12_works_97 sh_98 (b := 120) (m_98_29 hMh9) ?_
              refine g_iload dX12_works_100 rfl (fun _ => ?_)
              refine g_ialdB dX12_works_102 sh_120 (by omega) (by omega) (m_120 hMh9 _) (fun v15 ev15 bv15 cv15 => ?_)
              refine g_goto 117 dX12_works_103 (by decide) ?_
              refine g_iastB dX12_works_117 sh_128 (by omega) (by omega) (fun h16 eh16 => ?_)
              have hFh16 := Fr.ar eh16
              have hMh16 := u_128 hMh9 eh16 (by omega) (by omega)
              refine g_iincB dX12_works_118 rfl rfl (by omega) (by omega) ?_
              refine g_iincB dX12_works_121 rfl rfl (by omega) (by omega) ?_
              refine g_goto 5 dX12_works_124 (by decide) ?_
              exact ih5 _ _ _ hMh16 (Fr.tr (Fr.tr (Fr.sub hFh3 rfl) hFh9 rfl) hFh16 rfl) (by omega) (by omega) (by omega) (by omega) (by first | exact rpw_0 | (rw [(rpw_get f_RPV e5_0 (by omega) (by omega) (by omega) cw (by assumption)).2.2.2.2]; split <;> (try split) <;> omega)) (by omega) (by omega)
          · skip
            refine g_aload_n dX12_works_53 rfl ?_
            have al17 : 1 ≤ y1 ∧ y1 ≤ 200 := (by have rw := rpw_get f_RPV e5_0 (by omega) (by omega) (by omega) cw (by assumption); omega)
            refine gR_X12_103 rfl dX12_works_54 sh_98 (b := 128) (m_98_49 hMh3) ?_
            refine g_iload_n dX12_works_57 rfl (fun _ => ?_)
            refine g_iconst dX12_works_58 (inR_c rfl) ?_
            refine g_isubB dX12_works_59 (by omega) (by omega) ?_
            refine g_iconst dX12_works_60 (inR_c rfl) ?_
            refine g_aload_n dX12_works_61 rfl ?_
            refine gR_X12_103 rfl dX12_works_62 sh_98 (b := 128) (m_98_49 hMh3) ?_
            refine g_iload_n dX12_works_65 rfl (fun _ => ?_)
            refine g_iconst dX12_works_66 (inR_c rfl) ?_
            refine g_isubB dX12_works_67 (by omega) (by omega) ?_
            refine g_ialdB dX12_works_68 sh_128 (by omega) (by omega) (m_128 hMh3 _) (fun v18 ev18 bv18 cv18 => ?_)
            refine g_isubF dX12_works_69 (fun v19 bv19 cv19 => ?_)
            refine g_iastB dX12_works_70 sh_128 (by omega) (by omega) (fun h20 eh20 => ?_)
            have hFh20 := Fr.ar eh20
            have hMh20 := u_128 hMh3 eh20 (by omega) (by omega)
            refine g_goto 121 dX12_works_71 (by decide) ?_
            refine g_iincB dX12_works_121 rfl rfl (by omega) (by omega) ?_
            refine g_goto 5 dX12_works_124 (by decide) ?_
            exact ih5 _ _ _ hMh20 (Fr.tr (Fr.sub hFh3 rfl) hFh20 rfl) (by omega) (by omega) (by omega) (by omega) (by first | exact rpw_0 | (rw [(rpw_get f_RPV e5_0 (by omega) (by omega) (by omega) cw (by assumption)).2.2.2.2]; split <;> (try split) <;> omega)) (by omega) (by omega)
        · skip
          refine g_iincB dX12_works_22 rfl rfl (by omega) (by omega) ?_
          have al21 : 1 ≤ (y1 + (-1)) ∧ (y1 + (-1)) ≤ 199 := (by have rw := rpw_get f_RPV e5_0 (by omega) (by omega) (by omega) cw (by assumption); omega)
          refine g_aload_n dX12_works_25 rfl ?_
          refine g_aload_n dX12_works_26 rfl ?_
          refine gR_X12_76 rfl dX12_works_27 sh_98 (b := 119) (m_98_28 hMh3) ?_
          refine g_iload dX12_works_30 rfl (fun _ => ?_)
          refine g_ialdE dX12_works_32 sh_119 (by omega) (by omega) ev5.symm ?_
          refine g_iload_n dX12_works_33 rfl (fun _ => ?_)
          refine g_iconst dX12_works_34 (inR_c rfl) ?_
          refine g_isubB dX12_works_35 (by omega) (by omega) ?_
          refine g_cVV (as := [_, _]) (c_X12_does_98 _ _ h3 hMh3 (by omega) (by omega) (by omega) (by omega)) dX12_works_36 mi_X12_does in_X12_does se_X12_does ml_X12_344 rfl rfl rfl sh_98 rfl rfl (Nat.le_of_ble_eq_true rfl) (fun h22 q23 => ?_)
          obtain ⟨hMh22, hFh22⟩ := q23
          refine g_goto 121 dX12_works_39 (by decide) ?_
          refine g_iincB dX12_works_121 rfl rfl (by omega) (by omega) ?_
          refine g_goto 5 dX12_works_124 (by decide) ?_
          exact ih5 _ _ _ hMh22 (Fr.tr (Fr.sub hFh3 rfl) hFh22 rfl) (by omega) (by omega) (by omega) (by omega) (by first | exact rpw_0 | (rw [(rpw_get f_RPV e5_0 (by omega) (by omega) (by omega) cw (by assumption)).2.2.2.2]; split <;> (try split) <;> omega)) (by omega) (by omega)
  refine g_istore dX12_works_3 (by decide) rfl ?_
  refine g_drop 1 ?_
  exact c5 201 _ _ _ hM Fr.rf (by omega) (by omega) (by omega) (by omega) (by first | exact rpw_0 | (rw [(rpw_get f_RPV e5_0 (by omega) (by omega) (by omega) cw (by assumption)).2.2.2.2]; split <;> (try split) <;> omega)) (by omega) (by omega)
set_option maxRecDepth 100000 in
set_option maxHeartbeats 4000000 in
theorem c_X12_tells_98 (x1 x2 x3 x4 : Int) (h : MEM) (hM : MBm h) (bx1 : 100 ≤ x1) (dx1 : x1 ≤ 109) (bx2 : 0 ≤ x2) (dx2 : x2 ≤ 7) (bx3 : -1 ≤ x3) (dx3 : x3 ≤ 7) (bx4 : 9 ≤ x4) (dx4 : x4 ≤ 99) (r0_0 : 0 ≤ h 103 (x2).toNat) (r0_1 : h 103 (x2).toNat ≤ 9) (f_WFL : WFL h) : CI yX12_tells cX12_tells 7 (some .int) 4 [pR 98, pI x1, pI x2, pI x3, pI x4] h (fun x h' => MBm h' ∧ Fr [(98, 47), (98, 48), (128, 0), (129, 0)] h h' ∧ 0 ≤ x ∧ x ≤ 99) := by
  refine CI.of (L0 := [some (pR 98), some (pI x1), some (pI x2), some (pI x3), some (pI x4), none, none]) rfl (Nat.le_of_ble_eq_true rfl) rfl (fun Po hPo hav => ?_)
  obtain ⟨wa0, ewa0⟩ : ∃ z, z = h 103 (x2).toNat := ⟨_, rfl⟩
  have bwa0 : 0 ≤ wa0 ∧ wa0 ≤ 9 := by omega
  refine g_aload_n dX12_tells_0 rfl ?_
  refine g_iload_n dX12_tells_1 rfl (fun _ => ?_)
  refine pI_X12_327 rfl dX12_tells_2 sh_98 (fun h1 eh1 => ?_)
  have hFh1 := Fr.st eh1
  have hMh1 := u_98_46 hM eh1 (by omega) (by omega)
  refine g_aload_n dX12_tells_5 rfl ?_
  refine g_iload_n dX12_tells_6 rfl (fun _ => ?_)
  refine pI_X12_324 rfl dX12_tells_7 sh_98 (fun h2 eh2 => ?_)
  have hFh2 := Fr.st eh2
  have hMh2 := u_98_47 hMh1 eh2 (by omega) (by omega)
  have q3 : h2 98 46 = x2 := ((hFh2 98 46 rfl).trans (st_at eh1))
  have q4 : h2 103 (x2).toNat = wa0 := ((hFh2 103 _ rfl).trans ((hFh1 103 _ rfl).trans ewa0.symm))
  have fat : AT9 h2 := AT9_mk (by assumption) (by assumption) (by omega)
  refine g_iconst dX12_tells_10 (inR_c rfl) ?_
  have c13 : ∀ (n : Nat) (y5 : Int) (h6 : MEM), MBm h6 → Fr [(128, 0), (129, 0)] h2 h6 → 0 ≤ y5 → y5 ≤ 14 → 14 - y5 < (n : Int) → G yX12_tells cX12_tells 7 (some .int) none Po (4, 240, 0, 0) 13 [some (pR 98), some (pI x1), none, none, some (pI x4), some (pI y5), none] [] SH h6 0 0 := by
    intro n
    induction n with
    | zero =>
      intro y5 h6 hMh6 hFh6 by5 dy5 hn
      exfalso; omega
    | succ n ih13 =>
      intro y5 h6 hMh6 hFh6 by5 dy5 hn
      refine g_iload dX12_tells_13 rfl (fun _ => ?_)
      refine g_aload_n dX12_tells_15 rfl ?_
      refine gI_X12_321 rfl dX12_tells_16 sh_98 (m_98_23 hMh6) (fun v7 ev7 bv7 cv7 => ?_)
      refine g_icmp_ge 145 dX12_tells_19 (by decide) (fun q8 => ?_) (fun q8 => ?_)
      · skip
        refine g_iconst dX12_tells_145 (inR_c rfl) ?_
        exact g_ireturn dX12_tells_146 retI (hPo _ _ ⟨hMh6, (Fr.tr (Fr.tr (Fr.sub hFh1 rfl) hFh2 rfl) hFh6 rfl), (by omega), (by omega)⟩)
      · skip
        refine g_aload_n dX12_tells_22 rfl ?_
        refine gR_X12_64 rfl dX12_tells_23 sh_98 (b := 115) (m_98_24 hMh6) ?_
        refine g_iload dX12_tells_26 rfl (fun _ => ?_)
        refine g_ialdB dX12_tells_28 sh_115 (by omega) (by omega) (m_115 hMh6 _) (fun v9 ev9 bv9 cv9 => ?_)
        refine g_iload_n dX12_tells_29 rfl (fun _ => ?_)
        refine g_icmp_eq 36 dX12_tells_30 (by decide) (fun q10 => ?_) (fun q10 => ?_)
        · skip
          refine g_aload_n dX12_tells_36 rfl ?_
          refine g_aload_n dX12_tells_37 rfl ?_
          refine gR_X12_70 rfl dX12_tells_38 sh_98 (b := 117) (m_98_26 hMh6) ?_
          refine g_iload dX12_tells_41 rfl (fun _ => ?_)
          refine g_ialdB dX12_tells_43 sh_117 (by omega) (by omega) (m_117 hMh6 _) (fun v11 ev11 bv11 cv11 => ?_)
          refine g_aload_n dX12_tells_44 rfl ?_
          refine gR_X12_73 rfl dX12_tells_45 sh_98 (b := 118) (m_98_27 hMh6) ?_
          refine g_iload dX12_tells_48 rfl (fun _ => ?_)
          refine g_ialdB dX12_tells_50 sh_118 (by omega) (by omega) (m_118 hMh6 _) (fun v12 ev12 bv12 cv12 => ?_)
          have q13 : h6 98 23 = v7 := ev7.symm
          have q14 : h6 117 (y5).toNat = v11 := ev11.symm
          have q15 : h6 118 (y5).toNat = v12 := ev12.symm
          have frp : RPV v11 v12 h6 := WFL_1 (WFL.fr (T := [(98, 47), (98, 48), (128, 0), (129, 0)]) f_WFL (Fr.tr (Fr.tr (Fr.sub hFh1 rfl) hFh2 rfl) hFh6 rfl) rfl) (k := y5) (by omega) (by omega) (by assumption) (by assumption)
          refine g_cVV (as := [_, _]) (c_X12_works_98 _ _ h6 hMh6 (by omega) (by omega) (by omega) (by omega) (AT9.fr (T := [(128, 0), (129, 0)]) fat (Fr.sub hFh6 rfl) rfl) frp) dX12_tells_51 mi_X12_works in_X12_works se_X12_works ml_X12_350 rfl rfl rfl sh_98 rfl rfl (Nat.le_of_ble_eq_true rfl) (fun h16 q17 => ?_)
          obtain ⟨hMh16, hFh16⟩ := q17
          refine g_aload_n dX12_tells_54 rfl ?_
          refine gR_X12_106 rfl dX12_tells_55 sh_98 (b := 129) (m_98_50 hMh16) ?_
          refine g_iconst dX12_tells_58 (inR_c rfl) ?_
          refine g_zaldB dX12_tells_59 sh_129 (by omega) (by omega) (m_129 hMh16 _) (fun v18 ev18 bv18 cv18 => ?_)
          refine g_if_ne 139 dX12_tells_60 (by decide) (fun q19 => ?_) (fun q19 => ?_)
          · skip
            refine g_iincB dX12_tells_139 rfl rfl (by omega) (by omega) ?_
            refine g_goto 13 dX12_tells_142 (by decide) ?_
            exact ih13 _ _ hMh16 (Fr.tr (Fr.sub hFh6 rfl) hFh16 rfl) (by omega) (by omega) (by omega)
          · skip
            refine g_aload_n dX12_tells_63 rfl ?_
            refine gR_X12_103 rfl dX12_tells_64 sh_98 (b := 128) (m_98_49 hMh16) ?_
            refine g_iconst dX12_tells_67 (inR_c rfl) ?_
            refine g_ialdB dX12_tells_68 sh_128 (by omega) (by omega) (m_128 hMh16 _) (fun v20 ev20 bv20 cv20 => ?_)
            refine g_iconst dX12_tells_69 (inR_c rfl) ?_
            refine g_icmp_eq 76 dX12_tells_70 (by decide) (fun q21 => ?_) (fun q21 => ?_)
            · skip
              refine g_aload_n dX12_tells_76 rfl ?_
              refine g_aload_n dX12_tells_77 rfl ?_
              refine gR_X12_67 rfl dX12_tells_78 sh_98 (b := 116) (m_98_25 hMh16) ?_
              refine g_iload dX12_tells_81 rfl (fun _ => ?_)
              refine g_ialdB dX12_tells_83 sh_116 (by omega) (by omega) (m_116 hMh16 _) (fun v22 ev22 bv22 cv22 => ?_)
              refine g_aload_n dX12_tells_84 rfl ?_
              refine gR_X12_70 rfl dX12_tells_85 sh_98 (b := 117) (m_98_26 hMh16) ?_
              refine g_iload dX12_tells_88 rfl (fun _ => ?_)
              refine g_ialdE dX12_tells_90 sh_117 (by omega) (by omega) ((hFh16 117 _ rfl).trans ev11.symm) ?_
              have q23 : h16 98 23 = v7 := ((hFh16 98 23 rfl).trans ev7.symm)
              have q24 : h16 116 (y5).toNat = v22 := ev22.symm
              have q25 : h16 117 (y5).toNat = v11 := ((hFh16 117 _ rfl).trans ev11.symm)
              have frp2 : RPV v22 v11 h16 := WFL_2 (WFL.fr (T := [(98, 47), (98, 48), (128, 0), (129, 0)]) f_WFL (Fr.tr (Fr.tr (Fr.tr (Fr.sub hFh1 rfl) hFh2 rfl) hFh6 rfl) hFh16 rfl) rfl) (k := y5) (by omega) (by omega) (by assumption) (by assumption)
              refine g_cVV (as := [_, _]) (c_X12_works_98 _ _ h16 hMh16 (by omega) (by omega) (by omega) (by omega) (AT9.fr (T := [(128, 0), (129, 0)]) fat (Fr.tr (Fr.sub hFh6 rfl) hFh16 rfl) rfl) frp2) dX12_tells_91 mi_X12_works in_X12_works se_X12_works ml_X12_350 rfl rfl rfl sh_98 rfl rfl (Nat.le_of_ble_eq_true rfl) (fun h26 q27 => ?_)
              obtain ⟨hMh26, hFh26⟩ := q27
              refine g_aload_n dX12_tells_94 rfl ?_
              refine gR_X12_106 rfl dX12_tells_95 sh_98 (b := 129) (m_98_50 hMh26) ?_
              refine g_iconst dX12_tells_98 (inR_c rfl) ?_
              refine g_zaldB dX12_tells_99 sh_129 (by omega) (by omega) (m_129 hMh26 _) (fun v28 ev28 bv28 cv28 => ?_)
              refine g_if_eq 107 dX12_tells_100 (by decide) (fun q29 => ?_) (fun q29 => ?_)
              · skip
                refine g_aload_n dX12_tells_107 rfl ?_
                refine gR_X12_103 rfl dX12_tells_108 sh_98 (b := 128) (m_98_49 hMh26) ?_
                refine g_iconst dX12_tells_111 (inR_c rfl) ?_
                refine g_ialdB dX12_tells_112 sh_128 (by omega) (by omega) (m_128 hMh26 _) (fun v30 ev30 bv30 cv30 => ?_)
                refine g_istore dX12_tells_113 (by decide) rfl ?_
                refine g_iload dX12_tells_115 rfl (fun _ => ?_)
                refine g_if_ge 124 dX12_tells_117 (by decide) (fun q31 => ?_) (fun q31 => ?_)
                · skip
                  refine g_iload dX12_tells_124 rfl (fun _ => ?_)
                  refine g_iload dX12_tells_126 rfl (fun _ => ?_)
                  refine g_icmp_le 136 dX12_tells_128 (by decide) (fun q32 => ?_) (fun q32 => ?_)
                  · skip
                    refine g_iload dX12_tells_136 rfl (fun _ => ?_)
                    exact g_ireturn dX12_tells_138 retI (hPo _ _ ⟨hMh26, (Fr.tr (Fr.tr (Fr.tr (Fr.tr (Fr.sub hFh1 rfl) hFh2 rfl) hFh6 rfl) hFh16 rfl) hFh26 rfl), (by omega), (by omega)⟩)
                  · skip
                    refine g_iload dX12_tells_131 rfl (fun _ => ?_)
                    refine g_goto 138 dX12_tells_133 (by decide) ?_
                    exact g_ireturn dX12_tells_138 retI (hPo _ _ ⟨hMh26, (Fr.tr (Fr.tr (Fr.tr (Fr.tr (Fr.sub hFh1 rfl) hFh2 rfl) hFh6 rfl) hFh16 rfl) hFh26 rfl), (by omega), (by omega)⟩)
                · skip
                  refine g_iconst dX12_tells_120 (inR_c rfl) ?_
                  refine g_goto 138 dX12_tells_121 (by decide) ?_
                  exact g_ireturn dX12_tells_138 retI (hPo _ _ ⟨hMh26, (Fr.tr (Fr.tr (Fr.tr (Fr.tr (Fr.sub hFh1 rfl) hFh2 rfl) hFh6 rfl) hFh16 rfl) hFh26 rfl), (by omega), (by omega)⟩)
              · skip
                refine g_iconst dX12_tells_103 (inR_c rfl) ?_
                refine g_goto 113 dX12_tells_104 (by decide) ?_
                refine g_istore dX12_tells_113 (by decide) rfl ?_
                refine g_iload dX12_tells_115 rfl (fun _ => ?_)
                refine g_if_ge 124 dX12_tells_117 (by decide) (fun q33 => ?_) (fun _ => by exfalso; omega)
                refine g_iload dX12_tells_124 rfl (fun _ => ?_)
                refine g_iload dX12_tells_126 rfl (fun _ => ?_)
                refine g_icmp_le 136 dX12_tells_128 (by decide) (fun q34 => ?_) (fun _ => by exfalso; omega)
                refine g_iload dX12_tells_136 rfl (fun _ => ?_)
                exact g_ireturn dX12_tells_138 retI (hPo _ _ ⟨hMh26, (Fr.tr (Fr.tr (Fr.tr (Fr.tr (Fr.sub hFh1 rfl) hFh2 rfl) hFh6 rfl) hFh16 rfl) hFh26 rfl), (by omega), (by omega)⟩)
            · skip
              refine g_goto 139 dX12_tells_73 (by decide) ?_
              refine g_iincB dX12_tells_139 rfl rfl (by omega) (by omega) ?_
              refine g_goto 13 dX12_tells_142 (by decide) ?_
              exact ih13 _ _ hMh16 (Fr.tr (Fr.sub hFh6 rfl) hFh16 rfl) (by omega) (by omega) (by omega)
        · skip
          refine g_goto 139 dX12_tells_33 (by decide) ?_
          refine g_iincB dX12_tells_139 rfl rfl (by omega) (by omega) ?_
          refine g_goto 13 dX12_tells_142 (by decide) ?_
          exact ih13 _ _ hMh6 (Fr.sub hFh6 rfl) (by omega) (by omega) (by omega)
  refine g_istore dX12_tells_11 (by decide) rfl ?_
  refine g_drop 2 ?_
  refine g_drop 3 ?_
  exact c13 15 _ _ hMh2 Fr.rf (by omega) (by omega) (by omega)
set_option maxRecDepth 100000 in
set_option maxHeartbeats 4000000 in
theorem c_X12_less (x1 x2 : Int) (h : MEM) (hM : MBm h) (bx1 : -2147483648 ≤ x1) (dx1 : x1 ≤ 2147483647) (bx2 : -2147483648 ≤ x2) (dx2 : x2 ≤ 2147483647) : CP yX12_less cX12_less 2 (some .int) 1 [pI x1, pI x2] h (fun x => -2147483648 ≤ x ∧ x ≤ 2147483647) := by
  refine CP.of (L0 := [some (pI x1), some (pI x2)]) rfl (Nat.le_of_ble_eq_true rfl) rfl (fun Po hPo hav => ?_)
  refine g_iload_n dX12_less_0 rfl (fun _ => ?_)
  refine g_iload_n dX12_less_1 rfl (fun _ => ?_)
  refine g_icmp_ge 9 dX12_less_2 (by decide) (fun q1 => ?_) (fun q1 => ?_)
  · skip
    refine g_iload_n dX12_less_9 rfl (fun _ => ?_)
    exact g_ireturn dX12_less_10 retI (hPo _ ⟨(by omega), (by omega)⟩)
  · skip
    refine g_iload_n dX12_less_5 rfl (fun _ => ?_)
    refine g_goto 10 dX12_less_6 (by decide) ?_
    exact g_ireturn dX12_less_10 retI (hPo _ ⟨(by omega), (by omega)⟩)
set_option maxRecDepth 100000 in
set_option maxHeartbeats 4000000 in
theorem c_X12_whoBelow_98 (x1 : Int) (h : MEM) (hM : MBm h) (bx1 : 0 ≤ x1) (dx1 : x1 ≤ 9) : CP yX12_whoBelow cX12_whoBelow 4 (some .int) 1 [pR 98, pI x1] h (fun x => -1 ≤ x ∧ x ≤ 7) := by
  refine CP.of (L0 := [some (pR 98), some (pI x1), none, none]) rfl (Nat.le_of_ble_eq_true rfl) rfl (fun Po hPo hav => ?_)
  refine g_iconst dX12_whoBelow_0 (inR_c rfl) ?_
  refine g_istore_n dX12_whoBelow_1 (by decide) rfl ?_
  refine g_iconst dX12_whoBelow_2 (inR_c rfl) ?_
  have c4 : ∀ (n : Nat) (y1 y2 : Int) , -1 ≤ y1 → y1 ≤ 7 → 0 ≤ y2 → y2 ≤ 8 → 8 - y2 < (n : Int) → G yX12_whoBelow cX12_whoBelow 4 (some .int) none Po (1, 60, 0, 0) 4 [some (pR 98), some (pI x1), some (pI y1), some (pI y2)] [] SH h 0 0 := by
    intro n
    induction n with
    | zero =>
      intro y1 y2 by1 dy1 by2 dy2 hn
      exfalso; omega
    | succ n ih4 =>
      intro y1 y2 by1 dy1 by2 dy2 hn
      refine g_iload_n dX12_whoBelow_4 rfl (fun _ => ?_)
      refine g_aload_n dX12_whoBelow_5 rfl ?_
      refine gI_X12_182 rfl dX12_whoBelow_6 sh_98 (m_98_4 hM) (fun v3 ev3 bv3 cv3 => ?_)
      refine g_icmp_ge 59 dX12_whoBelow_9 (by decide) (fun q4 => ?_) (fun q4 => ?_)
      · skip
        refine g_iload_n dX12_whoBelow_59 rfl (fun _ => ?_)
        exact g_ireturn dX12_whoBelow_60 retI (hPo _ ⟨(by omega), (by omega)⟩)
      · skip
        refine g_aload_n dX12_whoBelow_12 rfl ?_
        refine gR_X12_46 rfl dX12_whoBelow_13 sh_98 (b := 109) (m_98_17 hM) ?_
        refine g_iload_n dX12_whoBelow_16 rfl (fun _ => ?_)
        refine g_ialdB dX12_whoBelow_17 sh_109 (by omega) (by omega) (m_109 hM _) (fun v5 ev5 bv5 cv5 => ?_)
        refine g_iload_n dX12_whoBelow_18 rfl (fun _ => ?_)
        refine g_icmp_ne 53 dX12_whoBelow_19 (by decide) (fun q6 => ?_) (fun q6 => ?_)
        · skip
          refine g_iincB dX12_whoBelow_53 rfl rfl (by omega) (by omega) ?_
          refine g_goto 4 dX12_whoBelow_56 (by decide) ?_
          exact ih4 _ _ (by omega) (by omega) (by omega) (by omega) (by omega)
        · skip
          refine g_aload_n dX12_whoBelow_22 rfl ?_
          refine gR_X12_49 rfl dX12_whoBelow_23 sh_98 (b := 110) (m_98_18 hM) ?_
          refine g_iload_n dX12_whoBelow_26 rfl (fun _ => ?_)
          refine g_zaldB dX12_whoBelow_27 sh_110 (by omega) (by omega) (m_110 hM _) (fun v7 ev7 bv7 cv7 => ?_)
          refine g_if_ne 53 dX12_whoBelow_28 (by decide) (fun q8 => ?_) (fun q8 => ?_)
          · skip
            refine g_iincB dX12_whoBelow_53 rfl rfl (by omega) (by omega) ?_
            refine g_goto 4 dX12_whoBelow_56 (by decide) ?_
            exact ih4 _ _ (by omega) (by omega) (by omega) (by omega) (by omega)
          · skip
            refine g_iload_n dX12_whoBelow_31 rfl (fun _ => ?_)
            refine g_iconst dX12_whoBelow_32 (inR_c rfl) ?_
            refine g_icmp_eq 51 dX12_whoBelow_33 (by decide) (fun q9 => ?_) (fun q9 => ?_)
            · skip
              refine g_iload_n dX12_whoBelow_51 rfl (fun _ => ?_)
              refine g_istore_n dX12_whoBelow_52 (by decide) rfl ?_
              refine g_iincB dX12_whoBelow_53 rfl rfl (by omega) (by omega) ?_
              refine g_goto 4 dX12_whoBelow_56 (by decide) ?_
              exact ih4 _ _ (by omega) (by omega) (by omega) (by omega) (by omega)
            · skip
              refine g_aload_n dX12_whoBelow_36 rfl ?_
              refine gR_X12_52 rfl dX12_whoBelow_37 sh_98 (b := 111) (m_98_19 hM) ?_
              refine g_iload_n dX12_whoBelow_40 rfl (fun _ => ?_)
              refine g_ialdB dX12_whoBelow_41 sh_111 (by omega) (by omega) (m_111 hM _) (fun v10 ev10 bv10 cv10 => ?_)
              refine g_aload_n dX12_whoBelow_42 rfl ?_
              refine gR_X12_52 rfl dX12_whoBelow_43 sh_98 (b := 111) (m_98_19 hM) ?_
              refine g_iload_n dX12_whoBelow_46 rfl (fun _ => ?_)
              refine g_ialdB dX12_whoBelow_47 sh_111 (by omega) (by omega) (m_111 hM _) (fun v11 ev11 bv11 cv11 => ?_)
              refine g_icmp_ge 53 dX12_whoBelow_48 (by decide) (fun q12 => ?_) (fun q12 => ?_)
              · skip
                refine g_iincB dX12_whoBelow_53 rfl rfl (by omega) (by omega) ?_
                refine g_goto 4 dX12_whoBelow_56 (by decide) ?_
                exact ih4 _ _ (by omega) (by omega) (by omega) (by omega) (by omega)
              · skip
                refine g_iload_n dX12_whoBelow_51 rfl (fun _ => ?_)
                refine g_istore_n dX12_whoBelow_52 (by decide) rfl ?_
                refine g_iincB dX12_whoBelow_53 rfl rfl (by omega) (by omega) ?_
                refine g_goto 4 dX12_whoBelow_56 (by decide) ?_
                exact ih4 _ _ (by omega) (by omega) (by omega) (by omega) (by omega)
  refine g_istore_n dX12_whoBelow_3 (by decide) rfl ?_
  exact c4 9 _ _ (by omega) (by omega) (by omega) (by omega) (by omega)
set_option maxRecDepth 100000 in
set_option maxHeartbeats 4000000 in
theorem c_X12_falls_98 (x1 : Int) (h : MEM) (hM : MBm h) (bx1 : 0 ≤ x1) (dx1 : x1 ≤ 7) (r0_0 : 0 ≤ h 103 (x1).toNat) (r0_1 : h 103 (x1).toNat ≤ 9) (f_WFL : WFL h) : CV yX12_falls cX12_falls 6 (none) 5 [pR 98, pI x1] h (fun h' => MBm h' ∧ Fr [(98, 8), (98, 47), (98, 48), (98, 52), (101, 0), (105, 0), (107, 0), (111, 0), (112, 0), (113, 0), (128, 0), (129, 0)] h h') := by
  refine CV.of (L0 := [some (pR 98), some (pI x1), none, none, none, none]) rfl (Nat.le_of_ble_eq_true rfl) rfl (fun Po hPo hav => ?_)
  obtain ⟨wa0, ewa0⟩ : ∃ z, z = h 103 (x1).toNat := ⟨_, rfl⟩
  have bwa0 : 0 ≤ wa0 ∧ wa0 ≤ 9 := by omega
  refine g_aload_n dX12_falls_0 rfl ?_
  refine gR_X12_27 rfl dX12_falls_1 sh_98 (b := 103) (m_98_11 hM) ?_
  refine g_iload_n dX12_falls_4 rfl (fun _ => ?_)
  refine g_ialdE dX12_falls_5 sh_103 (by omega) (by omega) ewa0.symm ?_
  refine g_istore_n dX12_falls_6 (by decide) rfl ?_
  refine g_aload_n dX12_falls_7 rfl ?_
  refine gR_X12_21 rfl dX12_falls_8 sh_98 (b := 101) (m_98_9 hM) ?_
  refine g_iload_n dX12_falls_11 rfl (fun _ => ?_)
  refine g_dup2 dX12_falls_12 rfl rfl ?_
  refine g_ialdB dX12_falls_13 sh_101 (by omega) (by omega) (m_101 hM _) (fun v1 ev1 bv1 cv1 => ?_)
  refine g_iconst dX12_falls_14 (inR_c rfl) ?_
  refine g_isubF dX12_falls_15 (fun v2 bv2 cv2 => ?_)
  refine g_iastB dX12_falls_16 sh_101 (by omega) (by omega) (fun h3 eh3 => ?_)
  have hFh3 := Fr.ar eh3
  have hMh3 := u_101 hM eh3 (by omega) (by omega)
  refine g_aload_n dX12_falls_17 rfl ?_
  refine gR_X12_40 rfl dX12_falls_18 sh_98 (b := 107) (m_98_15 hMh3) ?_
  refine g_iload_n dX12_falls_21 rfl (fun _ => ?_)
  refine g_dup2 dX12_falls_22 rfl rfl ?_
  refine g_ialdB dX12_falls_23 sh_107 (by omega) (by omega) (m_107 hMh3 _) (fun v4 ev4 bv4 cv4 => ?_)
  refine g_iconst dX12_falls_24 (inR_c rfl) ?_
  refine g_iaddF dX12_falls_25 (fun v5 bv5 cv5 => ?_)
  refine g_iastB dX12_falls_26 sh_107 (by omega) (by omega) (fun h6 eh6 => ?_)
  have hFh6 := Fr.ar eh6
  have hMh6 := u_107 hMh3 eh6 (by omega) (by omega)
  refine g_aload_n dX12_falls_27 rfl ?_
  refine g_dup dX12_falls_28 rfl ?_
  refine gI_X12_366 rfl dX12_falls_29 sh_98 (m_98_51 hMh6) (fun v7 ev7 bv7 cv7 => ?_)
  refine g_iconst dX12_falls_32 (inR_c rfl) ?_
  refine g_iaddF dX12_falls_33 (fun v8 bv8 cv8 => ?_)
  refine pI_X12_366 rfl dX12_falls_34 sh_98 (fun h9 eh9 => ?_)
  have hFh9 := Fr.st eh9
  have hMh9 := u_98_51 hMh6 eh9 (by omega) (by omega)
  refine g_aload_n dX12_falls_37 rfl ?_
  refine g_iload_n dX12_falls_38 rfl (fun _ => ?_)
  refine g_cVP (as := [_]) (c_X12_whoBelow_98 _ h9 hMh9 (by omega) (by omega)) dX12_falls_39 mi_X12_whoBelow in_X12_whoBelow se_X12_whoBelow ml_X12_369 rfl rfl rfl sh_98 rfl rfl (Nat.le_of_ble_eq_true rfl) (fun v10 q11 => ?_)
  obtain ⟨bv10, cv10⟩ := q11
  refine g_istore_n dX12_falls_42 (by decide) rfl ?_
  refine g_iload_n dX12_falls_43 rfl (fun _ => ?_)
  refine g_iconst dX12_falls_44 (inR_c rfl) ?_
  refine g_icmp_ne 59 dX12_falls_45 (by decide) (fun q12 => ?_) (fun q12 => ?_)
  · skip
    refine g_aload_n dX12_falls_59 rfl ?_
    refine g_bipush dX12_falls_60 (inR_c rfl) (by decide) ?_
    refine g_iload_n dX12_falls_62 rfl (fun _ => ?_)
    refine g_iload_n dX12_falls_63 rfl (fun _ => ?_)
    refine g_bipush dX12_falls_64 (inR_c rfl) (by decide) ?_
    have q13 : h9 103 (x1).toNat = wa0 := ((hFh9 103 _ rfl).trans ((hFh6 103 _ rfl).trans ((hFh3 103 _ rfl).trans ewa0.symm)))
    refine g_cV (as := [_, _, _, _]) (c_X12_tells_98 _ _ _ _ h9 hMh9 (by omega) (by omega) (by omega) (by omega) (by omega) (by omega) (by omega) (by omega) (by omega) (by omega) (WFL.fr (T := [(98, 52), (101, 0), (107, 0)]) f_WFL (Fr.tr (Fr.tr (Fr.sub hFh3 rfl) hFh6 rfl) hFh9 rfl) rfl)) dX12_falls_66 mi_X12_tells in_X12_tells se_X12_tells ml_X12_375 rfl rfl rfl sh_98 rfl rfl (Nat.le_of_ble_eq_true rfl) (fun v14 h15 q16 => ?_)
    obtain ⟨hMh15, hFh15, bv14, cv14⟩ := q16
    refine g_istore dX12_falls_69 (by decide) rfl ?_
    refine g_aload_n dX12_falls_71 rfl ?_
    refine g_bipush dX12_falls_72 (inR_c rfl) (by decide) ?_
    refine g_iload_n dX12_falls_74 rfl (fun _ => ?_)
    refine g_iload_n dX12_falls_75 rfl (fun _ => ?_)
    refine g_bipush dX12_falls_76 (inR_c rfl) (by decide) ?_
    have q17 : h15 103 (x1).toNat = wa0 := ((hFh15 103 _ rfl).trans ((hFh9 103 _ rfl).trans ((hFh6 103 _ rfl).trans ((hFh3 103 _ rfl).trans ewa0.symm))))
    refine g_cV (as := [_, _, _, _]) (c_X12_tells_98 _ _ _ _ h15 hMh15 (by omega) (by omega) (by omega) (by omega) (by omega) (by omega) (by omega) (by omega) (by omega) (by omega) (WFL.fr (T := [(98, 47), (98, 48), (98, 52), (101, 0), (107, 0), (128, 0), (129, 0)]) f_WFL (Fr.tr (Fr.tr (Fr.tr (Fr.sub hFh3 rfl) hFh6 rfl) hFh9 rfl) hFh15 rfl) rfl)) dX12_falls_78 mi_X12_tells in_X12_tells se_X12_tells ml_X12_375 rfl rfl rfl sh_98 rfl rfl (Nat.le_of_ble_eq_true rfl) (fun v18 h19 q20 => ?_)
    obtain ⟨hMh19, hFh19, bv18, cv18⟩ := q20
    refine g_istore dX12_falls_81 (by decide) rfl ?_
    refine g_aload_n dX12_falls_83 rfl ?_
    refine gR_X12_52 rfl dX12_falls_84 sh_98 (b := 111) (m_98_19 hMh19) ?_
    refine g_iload_n dX12_falls_87 rfl (fun _ => ?_)
    refine g_dup2 dX12_falls_88 rfl rfl ?_
    refine g_ialdB dX12_falls_89 sh_111 (by omega) (by omega) (m_111 hMh19 _) (fun v21 ev21 bv21 cv21 => ?_)
    refine g_iconst dX12_falls_90 (inR_c rfl) ?_
    refine g_iaddF dX12_falls_91 (fun v22 bv22 cv22 => ?_)
    refine g_iastB dX12_falls_92 sh_111 (by omega) (by omega) (fun h23 eh23 => ?_)
    have hFh23 := Fr.ar eh23
    have hMh23 := u_111 hMh19 eh23 (by omega) (by omega)
    refine g_aload_n dX12_falls_93 rfl ?_
    refine gR_X12_33 rfl dX12_falls_94 sh_98 (b := 105) (m_98_13 hMh23) ?_
    refine g_iconst dX12_falls_97 (inR_c rfl) ?_
    refine g_iload_n dX12_falls_98 rfl (fun _ => ?_)
    refine g_imulB dX12_falls_99 (by omega) (by omega) ?_
    refine g_aload_n dX12_falls_100 rfl ?_
    refine gR_X12_43 rfl dX12_falls_101 sh_98 (b := 108) (m_98_16 hMh23) ?_
    refine g_iload_n dX12_falls_104 rfl (fun _ => ?_)
    refine g_ialdB dX12_falls_105 sh_108 (by omega) (by omega) (m_108 hMh23 _) (fun v24 ev24 bv24 cv24 => ?_)
    refine g_iaddB dX12_falls_106 (by omega) (by omega) ?_
    refine g_bipush dX12_falls_107 (inR_c rfl) (by decide) ?_
    refine g_aload_n dX12_falls_109 rfl ?_
    refine gR_X12_33 rfl dX12_falls_110 sh_98 (b := 105) (m_98_13 hMh23) ?_
    refine g_iconst dX12_falls_113 (inR_c rfl) ?_
    refine g_iload_n dX12_falls_114 rfl (fun _ => ?_)
    refine g_imulB dX12_falls_115 (by omega) (by omega) ?_
    refine g_aload_n dX12_falls_116 rfl ?_
    refine gR_X12_43 rfl dX12_falls_117 sh_98 (b := 108) (m_98_16 hMh23) ?_
    refine g_iload_n dX12_falls_120 rfl (fun _ => ?_)
    refine g_ialdE dX12_falls_121 sh_108 (by omega) (by omega) ev24.symm ?_
    refine g_iaddB dX12_falls_122 (by omega) (by omega) ?_
    refine g_ialdB dX12_falls_123 sh_105 (by omega) (by omega) (m_105 hMh23 _) (fun v25 ev25 bv25 cv25 => ?_)
    refine g_iload dX12_falls_124 rfl (fun _ => ?_)
    refine g_iaddF dX12_falls_126 (fun v26 bv26 cv26 => ?_)
    refine g_cSP (av := [_, _]) (c_X12_less _ _ h23 hMh23 (by omega) (by omega) (by omega) (by omega)) dX12_falls_127 mi_X12_less st_X12_less ml_X12_379 rfl rfl rfl rfl (Nat.le_of_ble_eq_true rfl) (fun v27 q28 => ?_)
    obtain ⟨bv27, cv27⟩ := q28
    refine g_iastB dX12_falls_130 sh_105 (by omega) (by omega) (fun h29 eh29 => ?_)
    have hFh29 := Fr.ar eh29
    have hMh29 := u_105 hMh23 eh29 (by omega) (by omega)
    refine g_aload_n dX12_falls_131 rfl ?_
    refine gR_X12_55 rfl dX12_falls_132 sh_98 (b := 112) (m_98_20 hMh29) ?_
    refine g_bipush dX12_falls_135 (inR_c rfl) (by decide) ?_
    refine g_iload_n dX12_falls_137 rfl (fun _ => ?_)
    refine g_imulB dX12_falls_138 (by omega) (by omega) ?_
    refine g_iload_n dX12_falls_139 rfl (fun _ => ?_)
    refine g_iaddB dX12_falls_140 (by omega) (by omega) ?_
    refine g_dup2 dX12_falls_141 rfl rfl ?_
    refine g_ialdB dX12_falls_142 sh_112 (by omega) (by omega) (m_112 hMh29 _) (fun v30 ev30 bv30 cv30 => ?_)
    refine g_iload dX12_falls_143 rfl (fun _ => ?_)
    refine g_iaddF dX12_falls_145 (fun v31 bv31 cv31 => ?_)
    refine g_iastB dX12_falls_146 sh_112 (by omega) (by omega) (fun h32 eh32 => ?_)
    have hFh32 := Fr.ar eh32
    have hMh32 := u_112 hMh29 eh32 (by omega) (by omega)
    refine g_aload_n dX12_falls_147 rfl ?_
    refine gR_X12_58 rfl dX12_falls_148 sh_98 (b := 113) (m_98_21 hMh32) ?_
    refine g_bipush dX12_falls_151 (inR_c rfl) (by decide) ?_
    refine g_iload_n dX12_falls_153 rfl (fun _ => ?_)
    refine g_imulB dX12_falls_154 (by omega) (by omega) ?_
    refine g_iload_n dX12_falls_155 rfl (fun _ => ?_)
    refine g_iaddB dX12_falls_156 (by omega) (by omega) ?_
    refine g_dup2 dX12_falls_157 rfl rfl ?_
    refine g_ialdB dX12_falls_158 sh_113 (by omega) (by omega) (m_113 hMh32 _) (fun v33 ev33 bv33 cv33 => ?_)
    refine g_iconst dX12_falls_159 (inR_c rfl) ?_
    refine g_iaddF dX12_falls_160 (fun v34 bv34 cv34 => ?_)
    refine g_iastB dX12_falls_161 sh_113 (by omega) (by omega) (fun h35 eh35 => ?_)
    have hFh35 := Fr.ar eh35
    have hMh35 := u_113 hMh32 eh35 (by omega) (by omega)
    exact g_return dX12_falls_162 rfl (hPo _ ⟨hMh35, (Fr.tr (Fr.tr (Fr.tr (Fr.tr (Fr.tr (Fr.tr (Fr.tr (Fr.tr (Fr.sub hFh3 rfl) hFh6 rfl) hFh9 rfl) hFh15 rfl) hFh19 rfl) hFh23 rfl) hFh29 rfl) hFh32 rfl) hFh35 rfl)⟩)
  · skip
    refine g_aload_n dX12_falls_48 rfl ?_
    refine g_dup dX12_falls_49 rfl ?_
    refine gI_X12_372 rfl dX12_falls_50 sh_98 (m_98_7 hMh9) (fun v36 ev36 bv36 cv36 => ?_)
    refine g_iconst dX12_falls_53 (inR_c rfl) ?_
    refine g_iaddF dX12_falls_54 (fun v37 bv37 cv37 => ?_)
    refine pI_X12_372 rfl dX12_falls_55 sh_98 (fun h38 eh38 => ?_)
    have hFh38 := Fr.st eh38
    have hMh38 := u_98_7 hMh9 eh38 (by omega) (by omega)
    exact g_return dX12_falls_58 rfl (hPo _ ⟨hMh38, (Fr.tr (Fr.tr (Fr.tr (Fr.sub hFh3 rfl) hFh6 rfl) hFh9 rfl) hFh38 rfl)⟩)
set_option maxRecDepth 100000 in
set_option maxHeartbeats 4000000 in
theorem c_X12_worksOne_98 (x1 : Int) (h : MEM) (hM : MBm h) (bx1 : 0 ≤ x1) (dx1 : x1 ≤ 9) (f_WFL : WFL h) : CV yX12_worksOne cX12_worksOne 5 (none) 6 [pR 98, pI x1] h (fun h' => MBm h' ∧ Fr [(98, 8), (98, 47), (98, 48), (98, 49), (98, 52), (101, 0), (105, 0), (107, 0), (111, 0), (112, 0), (113, 0), (128, 0), (129, 0)] h h') := by
  refine CV.of (L0 := [some (pR 98), some (pI x1), none, none, none]) rfl (Nat.le_of_ble_eq_true rfl) rfl (fun Po hPo hav => ?_)
  refine g_aload_n dX12_worksOne_0 rfl ?_
  refine g_iload_n dX12_worksOne_1 rfl (fun _ => ?_)
  refine pI_X12_337 rfl dX12_worksOne_2 sh_98 (fun h1 eh1 => ?_)
  have hFh1 := Fr.st eh1
  have hMh1 := u_98_48 hM eh1 (by omega) (by omega)
  refine g_iconst dX12_worksOne_5 (inR_c rfl) ?_
  have c7 : ∀ (n : Nat) (y2 : Int) (h3 : MEM), MBm h3 → Fr [(98, 47), (98, 48), (101, 0), (128, 0), (129, 0)] h1 h3 → 0 ≤ y2 → y2 ≤ 8 → 8 - y2 < (n : Int) → G yX12_worksOne cX12_worksOne 5 (none) none Po (6, 360, 0, 0) 7 [some (pR 98), none, some (pI y2), none, none] [] SH h3 0 0 := by
    intro n
    induction n with
    | zero =>
      intro y2 h3 hMh3 hFh3 by2 dy2 hn
      exfalso; omega
    | succ n ih7 =>
      intro y2 h3 hMh3 hFh3 by2 dy2 hn
      refine g_iload_n dX12_worksOne_7 rfl (fun _ => ?_)
      refine g_aload_n dX12_worksOne_8 rfl ?_
      refine gI_X12_179 rfl dX12_worksOne_9 sh_98 (m_98_3 hMh3) (fun v4 ev4 bv4 cv4 => ?_)
      refine g_icmp_ge 82 dX12_worksOne_12 (by decide) (fun q5 => ?_) (fun q5 => ?_)
      · skip
        refine g_iconst dX12_worksOne_82 (inR_c rfl) ?_
        have c84 : ∀ (n : Nat) (y6 : Int) (h7 : MEM), MBm h7 → Fr [(98, 8), (98, 47), (98, 48), (98, 52), (101, 0), (105, 0), (107, 0), (111, 0), (112, 0), (113, 0), (128, 0), (129, 0)] h3 h7 → 0 ≤ y6 → y6 ≤ 8 → 8 - y6 < (n : Int) → G yX12_worksOne cX12_worksOne 5 (none) none Po (6, 360, 0, 0) 84 [some (pR 98), none, some (pI y6), none, none] [] SH h7 0 0 := by
          intro n
          induction n with
          | zero =>
            intro y6 h7 hMh7 hFh7 by6 dy6 hn
            exfalso; omega
          | succ n ih84 =>
            intro y6 h7 hMh7 hFh7 by6 dy6 hn
            refine g_iload_n dX12_worksOne_84 rfl (fun _ => ?_)
            refine g_aload_n dX12_worksOne_85 rfl ?_
            refine gE_X12_179 rfl dX12_worksOne_86 sh_98 ((hFh7 98 3 rfl).trans ev4.symm) ?_
            refine g_icmp_ge 174 dX12_worksOne_89 (by decide) (fun q8 => ?_) (fun q8 => ?_)
            · skip
              exact g_return dX12_worksOne_174 rfl (hPo _ ⟨hMh7, (Fr.tr (Fr.tr (Fr.sub hFh1 rfl) hFh3 rfl) hFh7 rfl)⟩)
            · skip
              refine g_aload_n dX12_worksOne_92 rfl ?_
              refine gR_X12_27 rfl dX12_worksOne_93 sh_98 (b := 103) (m_98_11 hMh7) ?_
              refine g_iload_n dX12_worksOne_96 rfl (fun _ => ?_)
              refine g_ialdB dX12_worksOne_97 sh_103 (by omega) (by omega) (m_103 hMh7 _) (fun v9 ev9 bv9 cv9 => ?_)
              refine g_bipush dX12_worksOne_98 (inR_c rfl) (by decide) ?_
              refine g_icmp_ne 106 dX12_worksOne_100 (by decide) (fun q10 => ?_) (fun q10 => ?_)
              · skip
                refine g_aload_n dX12_worksOne_106 rfl ?_
                refine g_bipush dX12_worksOne_107 (inR_c rfl) (by decide) ?_
                refine g_iload_n dX12_worksOne_109 rfl (fun _ => ?_)
                refine g_iconst dX12_worksOne_110 (inR_c rfl) ?_
                refine g_bipush dX12_worksOne_111 (inR_c rfl) (by decide) ?_
                have q11 : h7 103 (y6).toNat = v9 := ev9.symm
                refine g_cV (as := [_, _, _, _]) (c_X12_tells_98 _ _ _ _ h7 hMh7 (by omega) (by omega) (by omega) (by omega) (by omega) (by omega) (by omega) (by omega) (by omega) (by omega) (WFL.fr (T := [(98, 8), (98, 47), (98, 48), (98, 49), (98, 52), (101, 0), (105, 0), (107, 0), (111, 0), (112, 0), (113, 0), (128, 0), (129, 0)]) f_WFL (Fr.tr (Fr.tr (Fr.sub hFh1 rfl) hFh3 rfl) hFh7 rfl) rfl)) dX12_worksOne_113 mi_X12_tells in_X12_tells se_X12_tells ml_X12_375 rfl rfl rfl sh_98 rfl rfl (Nat.le_of_ble_eq_true rfl) (fun v12 h13 q14 => ?_)
                obtain ⟨hMh13, hFh13, bv12, cv12⟩ := q14
                refine g_aload_n dX12_worksOne_116 rfl ?_
                refine gR_X12_36 rfl dX12_worksOne_117 sh_98 (b := 106) (m_98_14 hMh13) ?_
                refine g_iload_n dX12_worksOne_120 rfl (fun _ => ?_)
                refine g_zaldB dX12_worksOne_121 sh_106 (by omega) (by omega) (m_106 hMh13 _) (fun v15 ev15 bv15 cv15 => ?_)
                refine g_if_eq 129 dX12_worksOne_122 (by decide) (fun q16 => ?_) (fun q16 => ?_)
                · skip
                  refine g_iconst dX12_worksOne_129 (inR_c rfl) ?_
                  refine g_isubB dX12_worksOne_130 (by omega) (by omega) ?_
                  refine g_istore_n dX12_worksOne_131 (by decide) rfl ?_
                  refine g_iload_n dX12_worksOne_132 rfl (fun _ => ?_)
                  refine g_aload_n dX12_worksOne_133 rfl ?_
                  refine gR_X12_21 rfl dX12_worksOne_134 sh_98 (b := 101) (m_98_9 hMh13) ?_
                  refine g_aload_n dX12_worksOne_137 rfl ?_
                  refine gR_X12_27 rfl dX12_worksOne_138 sh_98 (b := 103) (m_98_11 hMh13) ?_
                  refine g_iload_n dX12_worksOne_141 rfl (fun _ => ?_)
                  refine g_ialdE dX12_worksOne_142 sh_103 (by omega) (by omega) ((hFh13 103 _ rfl).trans ev9.symm) ?_
                  refine g_ialdB dX12_worksOne_143 sh_101 (by omega) (by omega) (m_101 hMh13 _) (fun v17 ev17 bv17 cv17 => ?_)
                  refine g_cSP (av := [_, _]) (c_X12_less _ _ h13 hMh13 (by omega) (by omega) (by omega) (by omega)) dX12_worksOne_144 mi_X12_less st_X12_less ml_X12_379 rfl rfl rfl rfl (Nat.le_of_ble_eq_true rfl) (fun v18 q19 => ?_)
                  obtain ⟨bv18, cv18⟩ := q19
                  refine g_istore_n dX12_worksOne_147 (by decide) rfl ?_
                  refine g_iconst dX12_worksOne_148 (inR_c rfl) ?_
                  have c151 : ∀ (n : Nat) (y20 : Int) (h21 : MEM), MBm h21 → Fr [(98, 8), (98, 47), (98, 48), (98, 52), (101, 0), (105, 0), (107, 0), (111, 0), (112, 0), (113, 0), (128, 0), (129, 0)] h13 h21 → 0 ≤ y20 → y20 ≤ 2147483647 → v18 + 0 - y20 < (n : Int) → G yX12_worksOne cX12_worksOne 5 (none) none Po (6, 360, 0, 0) 151 [some (pR 98), none, some (pI y6), some (pI v18), some (pI y20)] [] SH h21 0 0 := by
                    intro n
                    induction n with
                    | zero =>
                      intro y20 h21 hMh21 hFh21 by20 dy20 hn
                      exfalso; omega
                    | succ n ih151 =>
                      intro y20 h21 hMh21 hFh21 by20 dy20 hn
                      refine g_iload dX12_worksOne_151 rfl (fun _ => ?_)
                      refine g_iload_n dX12_worksOne_153 rfl (fun _ => ?_)
                      refine g_icmp_ge 168 dX12_worksOne_154 (by decide) (fun q22 => ?_) (fun q22 => ?_)
                      · skip
                        refine g_iincB dX12_worksOne_168 rfl rfl (by omega) (by omega) ?_
                        refine g_goto 84 dX12_worksOne_171 (by decide) ?_
                        refine g_drop 3 ?_
                        refine g_drop 4 ?_
                        exact ih84 _ _ hMh21 (Fr.tr (Fr.tr (Fr.sub hFh7 rfl) hFh13 rfl) hFh21 rfl) (by omega) (by omega) (by omega)
                      · skip
                        refine g_aload_n dX12_worksOne_157 rfl ?_
                        refine g_iload_n dX12_worksOne_158 rfl (fun _ => ?_)
                        have q23 : h21 103 (y6).toNat = v9 := ((hFh21 103 _ rfl).trans ((hFh13 103 _ rfl).trans ev9.symm))
                        refine g_cVV (as := [_]) (c_X12_falls_98 _ h21 hMh21 (by omega) (by omega) (by omega) (by omega) (WFL.fr (T := [(98, 8), (98, 47), (98, 48), (98, 49), (98, 52), (101, 0), (105, 0), (107, 0), (111, 0), (112, 0), (113, 0), (128, 0), (129, 0)]) f_WFL (Fr.tr (Fr.tr (Fr.tr (Fr.tr (Fr.sub hFh1 rfl) hFh3 rfl) hFh7 rfl) hFh13 rfl) hFh21 rfl) rfl)) dX12_worksOne_159 mi_X12_falls in_X12_falls se_X12_falls ml_X12_383 rfl rfl rfl sh_98 rfl rfl (Nat.le_of_ble_eq_true rfl) (fun h24 q25 => ?_)
                        obtain ⟨hMh24, hFh24⟩ := q25
                        refine g_iincB dX12_worksOne_162 rfl rfl (by omega) (by omega) ?_
                        refine g_goto 151 dX12_worksOne_165 (by decide) ?_
                        exact ih151 _ _ hMh24 (Fr.tr (Fr.sub hFh21 rfl) hFh24 rfl) (by omega) (by omega) (by omega)
                  refine g_istore dX12_worksOne_149 (by decide) rfl ?_
                  exact c151 2147483648 _ _ hMh13 Fr.rf (by omega) (by omega) (by omega)
                · skip
                  refine g_iconst dX12_worksOne_125 (inR_c rfl) ?_
                  refine g_goto 130 dX12_worksOne_126 (by decide) ?_
                  refine g_isubB dX12_worksOne_130 (by omega) (by omega) ?_
                  refine g_istore_n dX12_worksOne_131 (by decide) rfl ?_
                  refine g_iload_n dX12_worksOne_132 rfl (fun _ => ?_)
                  refine g_aload_n dX12_worksOne_133 rfl ?_
                  refine gR_X12_21 rfl dX12_worksOne_134 sh_98 (b := 101) (m_98_9 hMh13) ?_
                  refine g_aload_n dX12_worksOne_137 rfl ?_
                  refine gR_X12_27 rfl dX12_worksOne_138 sh_98 (b := 103) (m_98_11 hMh13) ?_
                  refine g_iload_n dX12_worksOne_141 rfl (fun _ => ?_)
                  refine g_ialdE dX12_worksOne_142 sh_103 (by omega) (by omega) ((hFh13 103 _ rfl).trans ev9.symm) ?_
                  refine g_ialdB dX12_worksOne_143 sh_101 (by omega) (by omega) (m_101 hMh13 _) (fun v26 ev26 bv26 cv26 => ?_)
                  refine g_cSP (av := [_, _]) (c_X12_less _ _ h13 hMh13 (by omega) (by omega) (by omega) (by omega)) dX12_worksOne_144 mi_X12_less st_X12_less ml_X12_379 rfl rfl rfl rfl (Nat.le_of_ble_eq_true rfl) (fun v27 q28 => ?_)
                  obtain ⟨bv27, cv27⟩ := q28
                  refine g_istore_n dX12_worksOne_147 (by decide) rfl ?_
                  refine g_iconst dX12_worksOne_148 (inR_c rfl) ?_
                  have c151 : ∀ (n : Nat) (y29 : Int) (h30 : MEM), MBm h30 → Fr [(98, 8), (98, 47), (98, 48), (98, 52), (101, 0), (105, 0), (107, 0), (111, 0), (112, 0), (113, 0), (128, 0), (129, 0)] h13 h30 → 0 ≤ y29 → y29 ≤ 2147483647 → v27 + 0 - y29 < (n : Int) → G yX12_worksOne cX12_worksOne 5 (none) none Po (6, 360, 0, 0) 151 [some (pR 98), none, some (pI y6), some (pI v27), some (pI y29)] [] SH h30 0 0 := by
                    intro n
                    induction n with
                    | zero =>
                      intro y29 h30 hMh30 hFh30 by29 dy29 hn
                      exfalso; omega
                    | succ n ih151 =>
                      intro y29 h30 hMh30 hFh30 by29 dy29 hn
                      refine g_iload dX12_worksOne_151 rfl (fun _ => ?_)
                      refine g_iload_n dX12_worksOne_153 rfl (fun _ => ?_)
                      refine g_icmp_ge 168 dX12_worksOne_154 (by decide) (fun q31 => ?_) (fun q31 => ?_)
                      · skip
                        refine g_iincB dX12_worksOne_168 rfl rfl (by omega) (by omega) ?_
                        refine g_goto 84 dX12_worksOne_171 (by decide) ?_
                        refine g_drop 3 ?_
                        refine g_drop 4 ?_
                        exact ih84 _ _ hMh30 (Fr.tr (Fr.tr (Fr.sub hFh7 rfl) hFh13 rfl) hFh30 rfl) (by omega) (by omega) (by omega)
                      · skip
                        refine g_aload_n dX12_worksOne_157 rfl ?_
                        refine g_iload_n dX12_worksOne_158 rfl (fun _ => ?_)
                        have q32 : h30 103 (y6).toNat = v9 := ((hFh30 103 _ rfl).trans ((hFh13 103 _ rfl).trans ev9.symm))
                        refine g_cVV (as := [_]) (c_X12_falls_98 _ h30 hMh30 (by omega) (by omega) (by omega) (by omega) (WFL.fr (T := [(98, 8), (98, 47), (98, 48), (98, 49), (98, 52), (101, 0), (105, 0), (107, 0), (111, 0), (112, 0), (113, 0), (128, 0), (129, 0)]) f_WFL (Fr.tr (Fr.tr (Fr.tr (Fr.tr (Fr.sub hFh1 rfl) hFh3 rfl) hFh7 rfl) hFh13 rfl) hFh30 rfl) rfl)) dX12_worksOne_159 mi_X12_falls in_X12_falls se_X12_falls ml_X12_383 rfl rfl rfl sh_98 rfl rfl (Nat.le_of_ble_eq_true rfl) (fun h33 q34 => ?_)
                        obtain ⟨hMh33, hFh33⟩ := q34
                        refine g_iincB dX12_worksOne_162 rfl rfl (by omega) (by omega) ?_
                        refine g_goto 151 dX12_worksOne_165 (by decide) ?_
                        exact ih151 _ _ hMh33 (Fr.tr (Fr.sub hFh30 rfl) hFh33 rfl) (by omega) (by omega) (by omega)
                  refine g_istore dX12_worksOne_149 (by decide) rfl ?_
                  exact c151 2147483648 _ _ hMh13 Fr.rf (by omega) (by omega) (by omega)
              · skip
                refine g_goto 168 dX12_worksOne_103 (by decide) ?_
                refine g_iincB dX12_worksOne_168 rfl rfl (by omega) (by omega) ?_
                refine g_goto 84 dX12_worksOne_171 (by decide) ?_
                exact ih84 _ _ hMh7 (Fr.sub hFh7 rfl) (by omega) (by omega) (by omega)
        refine g_istore_n dX12_worksOne_83 (by decide) rfl ?_
        exact c84 9 _ _ hMh3 Fr.rf (by omega) (by omega) (by omega)
      · skip
        refine g_aload_n dX12_worksOne_15 rfl ?_
        refine gR_X12_27 rfl dX12_worksOne_16 sh_98 (b := 103) (m_98_11 hMh3) ?_
        refine g_iload_n dX12_worksOne_19 rfl (fun _ => ?_)
        refine g_ialdB dX12_worksOne_20 sh_103 (by omega) (by omega) (m_103 hMh3 _) (fun v35 ev35 bv35 cv35 => ?_)
        refine g_bipush dX12_worksOne_21 (inR_c rfl) (by decide) ?_
        refine g_icmp_eq 76 dX12_worksOne_23 (by decide) (fun q36 => ?_) (fun q36 => ?_)
        · skip
          refine g_iincB dX12_worksOne_76 rfl rfl (by omega) (by omega) ?_
          refine g_goto 7 dX12_worksOne_79 (by decide) ?_
          exact ih7 _ _ hMh3 (Fr.sub hFh3 rfl) (by omega) (by omega) (by omega)
        · skip
          refine g_aload_n dX12_worksOne_26 rfl ?_
          refine gR_X12_21 rfl dX12_worksOne_27 sh_98 (b := 101) (m_98_9 hMh3) ?_
          refine g_aload_n dX12_worksOne_30 rfl ?_
          refine gR_X12_27 rfl dX12_worksOne_31 sh_98 (b := 103) (m_98_11 hMh3) ?_
          refine g_iload_n dX12_worksOne_34 rfl (fun _ => ?_)
          refine g_ialdE dX12_worksOne_35 sh_103 (by omega) (by omega) ev35.symm ?_
          refine g_dup2 dX12_worksOne_36 rfl rfl ?_
          refine g_ialdB dX12_worksOne_37 sh_101 (by omega) (by omega) (m_101 hMh3 _) (fun v37 ev37 bv37 cv37 => ?_)
          refine g_aload_n dX12_worksOne_38 rfl ?_
          refine gR_X12_17 rfl dX12_worksOne_39 sh_98 (b := 100) (m_98_8 hMh3) ?_
          refine g_aload_n dX12_worksOne_42 rfl ?_
          refine gR_X12_27 rfl dX12_worksOne_43 sh_98 (b := 103) (m_98_11 hMh3) ?_
          refine g_iload_n dX12_worksOne_46 rfl (fun _ => ?_)
          refine g_ialdE dX12_worksOne_47 sh_103 (by omega) (by omega) ev35.symm ?_
          refine g_ialdB dX12_worksOne_48 sh_100 (by omega) (by omega) (m_100 hMh3 _) (fun v38 ev38 bv38 cv38 => ?_)
          refine g_aload_n dX12_worksOne_49 rfl ?_
          refine gR_X12_21 rfl dX12_worksOne_50 sh_98 (b := 101) (m_98_9 hMh3) ?_
          refine g_aload_n dX12_worksOne_53 rfl ?_
          refine gR_X12_27 rfl dX12_worksOne_54 sh_98 (b := 103) (m_98_11 hMh3) ?_
          refine g_iload_n dX12_worksOne_57 rfl (fun _ => ?_)
          refine g_ialdE dX12_worksOne_58 sh_103 (by omega) (by omega) ev35.symm ?_
          refine g_ialdE dX12_worksOne_59 sh_101 (by omega) (by omega) ev37.symm ?_
          refine g_isubF dX12_worksOne_60 (fun v39 bv39 cv39 => ?_)
          refine g_aload_n dX12_worksOne_61 rfl ?_
          refine g_bipush dX12_worksOne_62 (inR_c rfl) (by decide) ?_
          refine g_iload_n dX12_worksOne_64 rfl (fun _ => ?_)
          refine g_iconst dX12_worksOne_65 (inR_c rfl) ?_
          refine g_bipush dX12_worksOne_66 (inR_c rfl) (by decide) ?_
          have q40 : h3 103 (y2).toNat = v35 := ev35.symm
          refine g_cV (as := [_, _, _, _]) (c_X12_tells_98 _ _ _ _ h3 hMh3 (by omega) (by omega) (by omega) (by omega) (by omega) (by omega) (by omega) (by omega) (by omega) (by omega) (WFL.fr (T := [(98, 47), (98, 48), (98, 49), (101, 0), (128, 0), (129, 0)]) f_WFL (Fr.tr (Fr.sub hFh1 rfl) hFh3 rfl) rfl)) dX12_worksOne_68 mi_X12_tells in_X12_tells se_X12_tells ml_X12_375 rfl rfl rfl sh_98 rfl rfl (Nat.le_of_ble_eq_true rfl) (fun v41 h42 q43 => ?_)
          obtain ⟨hMh42, hFh42, bv41, cv41⟩ := q43
          refine g_cSP (av := [_, _]) (c_X12_less _ _ h42 hMh42 (by omega) (by omega) (by omega) (by omega)) dX12_worksOne_71 mi_X12_less st_X12_less ml_X12_379 rfl rfl rfl rfl (Nat.le_of_ble_eq_true rfl) (fun v44 q45 => ?_)
          obtain ⟨bv44, cv44⟩ := q45
          refine g_iaddF dX12_worksOne_74 (fun v46 bv46 cv46 => ?_)
          refine g_iastB dX12_worksOne_75 sh_101 (by omega) (by omega) (fun h47 eh47 => ?_)
          have hFh47 := Fr.ar eh47
          have hMh47 := u_101 hMh42 eh47 (by omega) (by omega)
          refine g_iincB dX12_worksOne_76 rfl rfl (by omega) (by omega) ?_
          refine g_goto 7 dX12_worksOne_79 (by decide) ?_
          exact ih7 _ _ hMh47 (Fr.tr (Fr.tr (Fr.sub hFh3 rfl) hFh42 rfl) hFh47 rfl) (by omega) (by omega) (by omega)
  refine g_istore_n dX12_worksOne_6 (by decide) rfl ?_
  refine g_drop 1 ?_
  exact c7 9 _ _ hMh1 Fr.rf (by omega) (by omega) (by omega)
set_option maxRecDepth 100000 in
set_option maxHeartbeats 4000000 in
theorem c_X12_passes_98 (x1 : Int) (h : MEM) (hM : MBm h) (bx1 : 0 ≤ x1) (dx1 : x1 ≤ 9) (p0_0 : 0 ≤ h 98 5) (p0_1 : h 98 5 ≤ 1000000) (f_WFL : WFL h) : CV yX12_passes cX12_passes 2 (none) 7 [pR 98, pI x1] h (fun h' => MBm h' ∧ Fr [(98, 6), (98, 8), (98, 47), (98, 48), (98, 49), (98, 52), (101, 0), (105, 0), (107, 0), (111, 0), (112, 0), (113, 0), (128, 0), (129, 0)] h h' ∧ h' 98 5 = h 98 5 + 1) := by
  refine CV.of (L0 := [some (pR 98), some (pI x1)]) rfl (Nat.le_of_ble_eq_true rfl) rfl (fun Po hPo hav => ?_)
  obtain ⟨w98_5, ew98_5⟩ : ∃ z, z = h 98 5 := ⟨_, rfl⟩
  refine g_aload_n dX12_passes_0 rfl ?_
  have q1 : h 98 5 = w98_5 := ew98_5.symm
  refine g_cVP (as := []) (c_X12_isFree_98  h hM (by omega) (by omega)) dX12_passes_1 mi_X12_isFree in_X12_isFree se_X12_isFree ml_X12_386 rfl rfl rfl sh_98 rfl rfl (Nat.le_of_ble_eq_true rfl) (fun v2 q3 => ?_)
  obtain ⟨bv2, cv2⟩ := q3
  refine g_if_ne 12 dX12_passes_4 (by decide) (fun q4 => ?_) (fun q4 => ?_)
  · skip
    refine g_aload_n dX12_passes_12 rfl ?_
    refine g_dup dX12_passes_13 rfl ?_
    refine gE_X12_334 rfl dX12_passes_14 sh_98 ew98_5.symm ?_
    refine g_iconst dX12_passes_17 (inR_c rfl) ?_
    refine g_iaddB dX12_passes_18 (by omega) (by omega) ?_
    refine pI_X12_334 rfl dX12_passes_19 sh_98 (fun h5 eh5 => ?_)
    have hFh5 := Fr.st eh5
    have hMh5 := u_98_5 hM eh5 (by omega) (by omega)
    have q6 : h5 98 5 = (w98_5 + 1) := (st_at eh5)
    exact g_return dX12_passes_22 rfl (hPo _ ⟨hMh5, (Fr.sub hFh5 rfl), (by omega)⟩)
  · skip
    refine g_aload_n dX12_passes_7 rfl ?_
    refine g_iload_n dX12_passes_8 rfl (fun _ => ?_)
    refine g_cVV (as := [_]) (c_X12_worksOne_98 _ h hM (by omega) (by omega) f_WFL) dX12_passes_9 mi_X12_worksOne in_X12_worksOne se_X12_worksOne ml_X12_389 rfl rfl rfl sh_98 rfl rfl (Nat.le_of_ble_eq_true rfl) (fun h7 q8 => ?_)
    obtain ⟨hMh7, hFh7⟩ := q8
    refine g_aload_n dX12_passes_12 rfl ?_
    refine g_dup dX12_passes_13 rfl ?_
    refine gE_X12_334 rfl dX12_passes_14 sh_98 ((hFh7 98 5 rfl).trans ew98_5.symm) ?_
    refine g_iconst dX12_passes_17 (inR_c rfl) ?_
    refine g_iaddB dX12_passes_18 (by omega) (by omega) ?_
    refine pI_X12_334 rfl dX12_passes_19 sh_98 (fun h9 eh9 => ?_)
    have hFh9 := Fr.st eh9
    have hMh9 := u_98_5 hMh7 eh9 (by omega) (by omega)
    have q10 : h9 98 5 = (w98_5 + 1) := (st_at eh9)
    exact g_return dX12_passes_22 rfl (hPo _ ⟨hMh9, (Fr.tr (Fr.sub hFh7 rfl) hFh9 rfl), (by omega)⟩)
set_option maxRecDepth 100000 in
set_option maxHeartbeats 4000000 in
theorem c_X12_goesOn_98 (x1 : Int) (h : MEM) (hM : MBm h) (bx1 : 1 ≤ x1) (dx1 : x1 ≤ 40) (p0_0 : 0 ≤ h 98 5) (p0_1 : h 98 5 ≤ 999950) (f_WFL : WFL h) : CV yX12_goesOn cX12_goesOn 3 (none) 8 [pR 98, pI x1] h (fun h' => MBm h' ∧ Fr [(98, 6), (98, 7), (98, 8), (98, 47), (98, 48), (98, 49), (98, 52), (101, 0), (105, 0), (107, 0), (111, 0), (112, 0), (113, 0), (128, 0), (129, 0)] h h' ∧ h' 98 5 = h 98 5 + 0 + x1) := by
  refine CV.of (L0 := [some (pR 98), some (pI x1), none]) rfl (Nat.le_of_ble_eq_true rfl) rfl (fun Po hPo hav => ?_)
  obtain ⟨w98_5, ew98_5⟩ : ∃ z, z = h 98 5 := ⟨_, rfl⟩
  refine g_iconst dX12_goesOn_0 (inR_c rfl) ?_
  have c2 : ∀ (n : Nat) (y1 : Int) (h2 : MEM), MBm h2 → Fr [(98, 6), (98, 7), (98, 8), (98, 47), (98, 48), (98, 49), (98, 52), (101, 0), (105, 0), (107, 0), (111, 0), (112, 0), (113, 0), (128, 0), (129, 0)] h h2 → 0 ≤ y1 → y1 ≤ 40 → h2 98 5 = h 98 5 + y1 → y1 ≤ x1 → 40 - y1 < (n : Int) → G yX12_goesOn cX12_goesOn 3 (none) none Po (8, 480, 0, 0) 2 [some (pR 98), some (pI x1), some (pI y1)] [] SH h2 0 0 := by
    intro n
    induction n with
    | zero =>
      intro y1 h2 hMh2 hFh2 by1 dy1 e2_0 e2_1 hn
      exfalso; omega
    | succ n ih2 =>
      intro y1 h2 hMh2 hFh2 by1 dy1 e2_0 e2_1 hn
      refine g_iload_n dX12_goesOn_2 rfl (fun _ => ?_)
      refine g_iload_n dX12_goesOn_3 rfl (fun _ => ?_)
      refine g_icmp_ge 44 dX12_goesOn_4 (by decide) (fun q3 => ?_) (fun q3 => ?_)
      · skip
        obtain ⟨v4, ev4⟩ : ∃ z, z = h2 98 5 := ⟨_, rfl⟩
        have bv4 : 0 ≤ v4 ∧ v4 ≤ 2000000000 := by rw [ev4]; exact (m_98_5 hMh2)
        exact g_return dX12_goesOn_44 rfl (hPo _ ⟨hMh2, (Fr.sub hFh2 rfl), (by omega)⟩)
      · skip
        refine g_aload_n dX12_goesOn_7 rfl ?_
        refine g_sipush dX12_goesOn_8 (inR_c rfl) (by decide) ?_
        refine g_aload_n dX12_goesOn_11 rfl ?_
        refine gI_X12_13 rfl dX12_goesOn_12 sh_98 (m_98_6 hMh2) (fun v5 ev5 bv5 cv5 => ?_)
        refine g_imulB dX12_goesOn_15 (by omega) (by omega) ?_
        refine g_sipush dX12_goesOn_16 (inR_c rfl) (by decide) ?_
        refine g_iaddB dX12_goesOn_19 (by omega) (by omega) ?_
        refine g_ldc_w (v := 65536) dX12_goesOn_20 kc_X12_392 (inR_c rfl) ?_
        refine g_iremX (lo := 0) (hi := 65535) dX12_goesOn_23 (by omega) (irem_b (by omega) (by omega) (by omega)) (fun v6 ev6 bv6 cv6 => ?_)
        refine pI_X12_13 rfl dX12_goesOn_24 sh_98 (fun h7 eh7 => ?_)
        have hFh7 := Fr.st eh7
        have hMh7 := u_98_6 hMh2 eh7 (by omega) (by omega)
        refine g_aload_n dX12_goesOn_27 rfl ?_
        refine g_aload_n dX12_goesOn_28 rfl ?_
        refine gE_X12_13 rfl dX12_goesOn_29 sh_98 (st_at eh7) ?_
        refine g_bipush dX12_goesOn_32 (inR_c rfl) (by decide) ?_
        refine g_iremX (lo := 0) (hi := 9) dX12_goesOn_34 (by omega) (irem_b (by omega) (by omega) (by omega)) (fun v8 ev8 bv8 cv8 => ?_)
        have q9 : h7 98 5 = h2 98 5 := (hFh7 98 5 rfl)
        obtain ⟨v10, ev10⟩ : ∃ z, z = h7 98 5 := ⟨_, rfl⟩
        have bv10 : 0 ≤ v10 ∧ v10 ≤ 2000000000 := by rw [ev10]; exact (m_98_5 hMh7)
        have q11 : h7 98 5 = v10 := ev10.symm
        refine g_cVV (as := [_]) (c_X12_passes_98 _ h7 hMh7 (by omega) (by omega) (by omega) (by omega) (WFL.fr (T := [(98, 6), (98, 7), (98, 8), (98, 47), (98, 48), (98, 49), (98, 52), (101, 0), (105, 0), (107, 0), (111, 0), (112, 0), (113, 0), (128, 0), (129, 0)]) f_WFL (Fr.tr (Fr.sub hFh2 rfl) hFh7 rfl) rfl)) dX12_goesOn_35 mi_X12_passes in_X12_passes se_X12_passes ml_X12_393 rfl rfl rfl sh_98 rfl rfl (Nat.le_of_ble_eq_true rfl) (fun h12 q13 => ?_)
        obtain ⟨hMh12, hFh12, z14⟩ := q13
        have kz14 : h12 98 5 = (v10 + 1) := by omega
        refine g_iincB dX12_goesOn_38 rfl rfl (by omega) (by omega) ?_
        refine g_goto 2 dX12_goesOn_41 (by decide) ?_
        have q15 : h12 98 5 = (v10 + 1) := kz14
        exact ih2 _ _ hMh12 (Fr.tr (Fr.tr (Fr.sub hFh2 rfl) hFh7 rfl) hFh12 rfl) (by omega) (by omega) (by omega) (by omega) (by omega)
  refine g_istore_n dX12_goesOn_1 (by decide) rfl ?_
  have q16 : h 98 5 = w98_5 := ew98_5.symm
  exact c2 41 _ _ hM Fr.rf (by omega) (by omega) (by omega) (by omega) (by omega)
set_option maxRecDepth 100000 in
set_option maxHeartbeats 4000000 in
theorem c_X12_hours_98 (x1 : Int) (h : MEM) (hM : MBm h) (bx1 : -2147483648 ≤ x1) (dx1 : x1 ≤ 2147483647) (p0_0 : 0 ≤ h 98 5) (p0_1 : h 98 5 ≤ 999600) (f_WFL : WFL h) : CI yX12_hours cX12_hours 2 (some .int) 9 [pR 98, pI x1] h (fun x h' => MBm h' ∧ Fr [(98, 6), (98, 7), (98, 8), (98, 47), (98, 48), (98, 49), (98, 52), (101, 0), (105, 0), (107, 0), (111, 0), (112, 0), (113, 0), (128, 0), (129, 0)] h h' ∧ -2147483648 ≤ x ∧ x ≤ 2147483647 ∧ (h' 98 5 ≤ h 98 5 + 40 ∧ 0 ≤ h' 98 5)) := by
  refine CI.of (L0 := [some (pR 98), some (pI x1)]) rfl (Nat.le_of_ble_eq_true rfl) rfl (fun Po hPo hav => ?_)
  obtain ⟨w98_5, ew98_5⟩ : ∃ z, z = h 98 5 := ⟨_, rfl⟩
  have q1 : h 98 5 = w98_5 := ew98_5.symm
  refine g_iload_n dX12_hours_0 rfl (fun _ => ?_)
  refine g_cSP (av := [_]) (c_X12_areHours _ h hM (by omega) (by omega)) dX12_hours_1 mi_X12_areHours st_X12_areHours ml_X12_398 rfl rfl rfl rfl (Nat.le_of_ble_eq_true rfl) (fun v2 q3 => ?_)
  rcases q3 with ⟨rfl, q3⟩ | ⟨rfl, q3⟩
  · skip
    refine g_if_ne 9 dX12_hours_4 (by decide) (fun q4 => ?_) (fun _ => by exfalso; omega)
    refine g_aload_n dX12_hours_9 rfl ?_
    refine g_iconst dX12_hours_10 (inR_c rfl) ?_
    refine pI_X12_366 rfl dX12_hours_11 sh_98 (fun h5 eh5 => ?_)
    have hFh5 := Fr.st eh5
    have hMh5 := u_98_51 hM eh5 (by omega) (by omega)
    refine g_aload_n dX12_hours_14 rfl ?_
    refine g_iload_n dX12_hours_15 rfl (fun _ => ?_)
    have q6 : h5 98 5 = w98_5 := ((hFh5 98 5 rfl).trans ew98_5.symm)
    have q7 : h5 98 5 = w98_5 := ((hFh5 98 5 rfl).trans ew98_5.symm)
    refine g_cVV (as := [_]) (c_X12_goesOn_98 _ h5 hMh5 (by omega) (by omega) (by omega) (by omega) (WFL.fr (T := [(98, 52)]) f_WFL (Fr.sub hFh5 rfl) rfl)) dX12_hours_16 mi_X12_goesOn in_X12_goesOn se_X12_goesOn ml_X12_401 rfl rfl rfl sh_98 rfl rfl (Nat.le_of_ble_eq_true rfl) (fun h8 q9 => ?_)
    obtain ⟨hMh8, hFh8, z10⟩ := q9
    have kz10 : h8 98 5 = (w98_5 + x1) := by omega
    refine g_aload_n dX12_hours_19 rfl ?_
    refine gI_X12_366 rfl dX12_hours_20 sh_98 (m_98_51 hMh8) (fun v11 ev11 bv11 cv11 => ?_)
    exact g_ireturn dX12_hours_23 retI (hPo _ _ ⟨hMh8, (Fr.tr (Fr.sub hFh5 rfl) hFh8 rfl), (by omega), (by omega), ⟨by omega, by omega⟩⟩)
  · skip
    refine g_if_ne 9 dX12_hours_4 (by decide) (fun _ => by exfalso; omega) (fun q12 => ?_)
    refine g_iconst dX12_hours_7 (inR_c rfl) ?_
    exact g_ireturn dX12_hours_8 retI (hPo _ _ ⟨hM, Fr.rf, (by omega), (by omega), ⟨by omega, by omega⟩⟩)
set_option maxRecDepth 100000 in
set_option maxHeartbeats 4000000 in
theorem c_X12_hour_98 (x1 : Int) (h : MEM) (hM : MBm h) (bx1 : -2147483648 ≤ x1) (dx1 : x1 ≤ 2147483647) (p0_0 : 0 ≤ h 98 5) (p0_1 : h 98 5 ≤ 999600) (f_WFL : WFL h) : CI yX12_hour cX12_hour 2 (some .int) 8 [pR 98, pI x1] h (fun x h' => MBm h' ∧ Fr [(98, 6), (98, 8), (98, 47), (98, 48), (98, 49), (98, 52), (101, 0), (105, 0), (107, 0), (111, 0), (112, 0), (113, 0), (128, 0), (129, 0)] h h' ∧ -2147483648 ≤ x ∧ x ≤ 2147483647 ∧ (h' 98 5 ≤ h 98 5 + 40 ∧ 0 ≤ h' 98 5)) := by
  refine CI.of (L0 := [some (pR 98), some (pI x1)]) rfl (Nat.le_of_ble_eq_true rfl) rfl (fun Po hPo hav => ?_)
  obtain ⟨w98_5, ew98_5⟩ : ∃ z, z = h 98 5 := ⟨_, rfl⟩
  have q1 : h 98 5 = w98_5 := ew98_5.symm
  refine g_iload_n dX12_hour_0 rfl (fun _ => ?_)
  refine g_cSP (av := [_]) (c_X12_isDigit _ h hM (by omega) (by omega)) dX12_hour_1 mi_X12_isDigit st_X12_isDigit ml_X12_189 rfl rfl rfl rfl (Nat.le_of_ble_eq_true rfl) (fun v2 q3 => ?_)
  rcases q3 with ⟨rfl, q3⟩ | ⟨rfl, q3⟩
  · skip
    refine g_if_ne 9 dX12_hour_4 (by decide) (fun q4 => ?_) (fun _ => by exfalso; omega)
    refine g_aload_n dX12_hour_9 rfl ?_
    refine g_iconst dX12_hour_10 (inR_c rfl) ?_
    refine pI_X12_366 rfl dX12_hour_11 sh_98 (fun h5 eh5 => ?_)
    have hFh5 := Fr.st eh5
    have hMh5 := u_98_51 hM eh5 (by omega) (by omega)
    refine g_aload_n dX12_hour_14 rfl ?_
    refine g_iload_n dX12_hour_15 rfl (fun _ => ?_)
    have q6 : h5 98 5 = w98_5 := ((hFh5 98 5 rfl).trans ew98_5.symm)
    have q7 : h5 98 5 = w98_5 := ((hFh5 98 5 rfl).trans ew98_5.symm)
    refine g_cVV (as := [_]) (c_X12_passes_98 _ h5 hMh5 (by omega) (by omega) (by omega) (by omega) (WFL.fr (T := [(98, 52)]) f_WFL (Fr.sub hFh5 rfl) rfl)) dX12_hour_16 mi_X12_passes in_X12_passes se_X12_passes ml_X12_393 rfl rfl rfl sh_98 rfl rfl (Nat.le_of_ble_eq_true rfl) (fun h8 q9 => ?_)
    obtain ⟨hMh8, hFh8, z10⟩ := q9
    have kz10 : h8 98 5 = (w98_5 + 1) := by omega
    refine g_aload_n dX12_hour_19 rfl ?_
    refine gI_X12_366 rfl dX12_hour_20 sh_98 (m_98_51 hMh8) (fun v11 ev11 bv11 cv11 => ?_)
    exact g_ireturn dX12_hour_23 retI (hPo _ _ ⟨hMh8, (Fr.tr (Fr.sub hFh5 rfl) hFh8 rfl), (by omega), (by omega), ⟨by omega, by omega⟩⟩)
  · skip
    refine g_if_ne 9 dX12_hour_4 (by decide) (fun _ => by exfalso; omega) (fun q12 => ?_)
    refine g_iconst dX12_hour_7 (inR_c rfl) ?_
    exact g_ireturn dX12_hour_8 retI (hPo _ _ ⟨hM, Fr.rf, (by omega), (by omega), ⟨by omega, by omega⟩⟩)
set_option maxRecDepth 100000 in
set_option maxHeartbeats 4000000 in
theorem c_X12_bitsOn_98 (x1 : Int) (h : MEM) (hM : MBm h) (bx1 : 0 ≤ x1) (dx1 : x1 ≤ 9) : CP yX12_bitsOn cX12_bitsOn 4 (some .int) 1 [pR 98, pI x1] h (fun x => 0 ≤ x ∧ x ≤ 255) := by
  refine CP.of (L0 := [some (pR 98), some (pI x1), none, none]) rfl (Nat.le_of_ble_eq_true rfl) rfl (fun Po hPo hav => ?_)
  refine g_iconst dX12_bitsOn_0 (inR_c rfl) ?_
  refine g_istore_n dX12_bitsOn_1 (by decide) rfl ?_
  refine g_iconst dX12_bitsOn_2 (inR_c rfl) ?_
  have c4 : ∀ (n : Nat) (y1 y2 : Int) , 0 ≤ y1 → y1 ≤ 255 → 0 ≤ y2 → y2 ≤ 8 → 8 - y2 < (n : Int) → G yX12_bitsOn cX12_bitsOn 4 (some .int) none Po (1, 60, 0, 0) 4 [some (pR 98), some (pI x1), some (pI y1), some (pI y2)] [] SH h 0 0 := by
    intro n
    induction n with
    | zero =>
      intro y1 y2 by1 dy1 by2 dy2 hn
      exfalso; omega
    | succ n ih4 =>
      intro y1 y2 by1 dy1 by2 dy2 hn
      refine g_iload_n dX12_bitsOn_4 rfl (fun _ => ?_)
      refine g_aload_n dX12_bitsOn_5 rfl ?_
      refine gI_X12_179 rfl dX12_bitsOn_6 sh_98 (m_98_3 hM) (fun v3 ev3 bv3 cv3 => ?_)
      refine g_icmp_ge 38 dX12_bitsOn_9 (by decide) (fun q4 => ?_) (fun q4 => ?_)
      · skip
        refine g_iload_n dX12_bitsOn_38 rfl (fun _ => ?_)
        exact g_ireturn dX12_bitsOn_39 retI (hPo _ ⟨(by omega), (by omega)⟩)
      · skip
        refine g_iload_n dX12_bitsOn_12 rfl (fun _ => ?_)
        refine g_aload_n dX12_bitsOn_13 rfl ?_
        refine gR_X12_27 rfl dX12_bitsOn_14 sh_98 (b := 103) (m_98_11 hM) ?_
        refine g_iload_n dX12_bitsOn_17 rfl (fun _ => ?_)
        refine g_ialdB dX12_bitsOn_18 sh_103 (by omega) (by omega) (m_103 hM _) (fun v5 ev5 bv5 cv5 => ?_)
        refine g_iload_n dX12_bitsOn_19 rfl (fun _ => ?_)
        refine g_icmp_ne 29 dX12_bitsOn_20 (by decide) (fun q6 => ?_) (fun q6 => ?_)
        · skip
          refine g_iconst dX12_bitsOn_29 (inR_c rfl) ?_
          refine g_iorX (lo := 0) (hi := 255) dX12_bitsOn_30 (ior_b 8 (by decide) (by omega) (by omega) (by omega) (by omega)) (fun v7 ev7 bv7 cv7 => ?_)
          refine g_istore_n dX12_bitsOn_31 (by decide) rfl ?_
          refine g_iincB dX12_bitsOn_32 rfl rfl (by omega) (by omega) ?_
          refine g_goto 4 dX12_bitsOn_35 (by decide) ?_
          exact ih4 _ _ (by omega) (by omega) (by omega) (by omega) (by omega)
        · skip
          refine g_iconst dX12_bitsOn_23 (inR_c rfl) ?_
          refine g_iload_n dX12_bitsOn_24 rfl (fun _ => ?_)
          refine g_ishlX (lo := 1) (hi := 128) dX12_bitsOn_25 (ishl1_b 7 (by decide) (by omega) (by omega)) (fun v8 ev8 bv8 cv8 => ?_)
          refine g_goto 30 dX12_bitsOn_26 (by decide) ?_
          refine g_iorX (lo := 0) (hi := 255) dX12_bitsOn_30 (ior_b 8 (by decide) (by omega) (by omega) (by omega) (by omega)) (fun v9 ev9 bv9 cv9 => ?_)
          refine g_istore_n dX12_bitsOn_31 (by decide) rfl ?_
          refine g_iincB dX12_bitsOn_32 rfl rfl (by omega) (by omega) ?_
          refine g_goto 4 dX12_bitsOn_35 (by decide) ?_
          exact ih4 _ _ (by omega) (by omega) (by omega) (by omega) (by omega)
  refine g_istore_n dX12_bitsOn_3 (by decide) rfl ?_
  exact c4 9 _ _ (by omega) (by omega) (by omega) (by omega) (by omega)
set_option maxRecDepth 100000 in
set_option maxHeartbeats 4000000 in
theorem c_X12_bitsBelow_98 (x1 : Int) (h : MEM) (hM : MBm h) (bx1 : 0 ≤ x1) (dx1 : x1 ≤ 9) : CP yX12_bitsBelow cX12_bitsBelow 4 (some .int) 1 [pR 98, pI x1] h (fun x => 0 ≤ x ∧ x ≤ 255) := by
  refine CP.of (L0 := [some (pR 98), some (pI x1), none, none]) rfl (Nat.le_of_ble_eq_true rfl) rfl (fun Po hPo hav => ?_)
  refine g_iconst dX12_bitsBelow_0 (inR_c rfl) ?_
  refine g_istore_n dX12_bitsBelow_1 (by decide) rfl ?_
  refine g_iconst dX12_bitsBelow_2 (inR_c rfl) ?_
  have c4 : ∀ (n : Nat) (y1 y2 : Int) , 0 ≤ y1 → y1 ≤ 255 → 0 ≤ y2 → y2 ≤ 8 → 8 - y2 < (n : Int) → G yX12_bitsBelow cX12_bitsBelow 4 (some .int) none Po (1, 60, 0, 0) 4 [some (pR 98), some (pI x1), some (pI y1), some (pI y2)] [] SH h 0 0 := by
    intro n
    induction n with
    | zero =>
      intro y1 y2 by1 dy1 by2 dy2 hn
      exfalso; omega
    | succ n ih4 =>
      intro y1 y2 by1 dy1 by2 dy2 hn
      refine g_iload_n dX12_bitsBelow_4 rfl (fun _ => ?_)
      refine g_aload_n dX12_bitsBelow_5 rfl ?_
      refine gI_X12_182 rfl dX12_bitsBelow_6 sh_98 (m_98_4 hM) (fun v3 ev3 bv3 cv3 => ?_)
      refine g_icmp_ge 38 dX12_bitsBelow_9 (by decide) (fun q4 => ?_) (fun q4 => ?_)
      · skip
        refine g_iload_n dX12_bitsBelow_38 rfl (fun _ => ?_)
        exact g_ireturn dX12_bitsBelow_39 retI (hPo _ ⟨(by omega), (by omega)⟩)
      · skip
        refine g_iload_n dX12_bitsBelow_12 rfl (fun _ => ?_)
        refine g_aload_n dX12_bitsBelow_13 rfl ?_
        refine gR_X12_46 rfl dX12_bitsBelow_14 sh_98 (b := 109) (m_98_17 hM) ?_
        refine g_iload_n dX12_bitsBelow_17 rfl (fun _ => ?_)
        refine g_ialdB dX12_bitsBelow_18 sh_109 (by omega) (by omega) (m_109 hM _) (fun v5 ev5 bv5 cv5 => ?_)
        refine g_iload_n dX12_bitsBelow_19 rfl (fun _ => ?_)
        refine g_icmp_ne 29 dX12_bitsBelow_20 (by decide) (fun q6 => ?_) (fun q6 => ?_)
        · skip
          refine g_iconst dX12_bitsBelow_29 (inR_c rfl) ?_
          refine g_iorX (lo := 0) (hi := 255) dX12_bitsBelow_30 (ior_b 8 (by decide) (by omega) (by omega) (by omega) (by omega)) (fun v7 ev7 bv7 cv7 => ?_)
          refine g_istore_n dX12_bitsBelow_31 (by decide) rfl ?_
          refine g_iincB dX12_bitsBelow_32 rfl rfl (by omega) (by omega) ?_
          refine g_goto 4 dX12_bitsBelow_35 (by decide) ?_
          exact ih4 _ _ (by omega) (by omega) (by omega) (by omega) (by omega)
        · skip
          refine g_iconst dX12_bitsBelow_23 (inR_c rfl) ?_
          refine g_iload_n dX12_bitsBelow_24 rfl (fun _ => ?_)
          refine g_ishlX (lo := 1) (hi := 128) dX12_bitsBelow_25 (ishl1_b 7 (by decide) (by omega) (by omega)) (fun v8 ev8 bv8 cv8 => ?_)
          refine g_goto 30 dX12_bitsBelow_26 (by decide) ?_
          refine g_iorX (lo := 0) (hi := 255) dX12_bitsBelow_30 (ior_b 8 (by decide) (by omega) (by omega) (by omega) (by omega)) (fun v9 ev9 bv9 cv9 => ?_)
          refine g_istore_n dX12_bitsBelow_31 (by decide) rfl ?_
          refine g_iincB dX12_bitsBelow_32 rfl rfl (by omega) (by omega) ?_
          refine g_goto 4 dX12_bitsBelow_35 (by decide) ?_
          exact ih4 _ _ (by omega) (by omega) (by omega) (by omega) (by omega)
  refine g_istore_n dX12_bitsBelow_3 (by decide) rfl ?_
  exact c4 9 _ _ (by omega) (by omega) (by omega) (by omega) (by omega)
set_option maxRecDepth 100000 in
set_option maxHeartbeats 4000000 in
theorem c_X12_roofIs_98 (x1 x2 : Int) (h : MEM) (hM : MBm h) (bx1 : -2147483648 ≤ x1) (dx1 : x1 ≤ 2147483647) (bx2 : -2147483648 ≤ x2) (dx2 : x2 ≤ 2147483647) : CP yX12_roofIs cX12_roofIs 3 (some .int) 3 [pR 98, pI x1, pI x2] h (fun x => -2147483648 ≤ x ∧ x ≤ 2147483647) := by
  refine CP.of (L0 := [some (pR 98), some (pI x1), some (pI x2)]) rfl (Nat.le_of_ble_eq_true rfl) rfl (fun Po hPo hav => ?_)
  refine g_aload_n dX12_roofIs_0 rfl ?_
  refine g_iload_n dX12_roofIs_1 rfl (fun _ => ?_)
  refine g_cVP (as := [_]) (c_X12_isRoof_98 _ h hM (by omega) (by omega)) dX12_roofIs_2 mi_X12_isRoof in_X12_isRoof se_X12_isRoof ml_X12_198 rfl rfl rfl sh_98 rfl rfl (Nat.le_of_ble_eq_true rfl) (fun v1 q2 => ?_)
  obtain ⟨v3, ev3⟩ : ∃ z, z = h 98 2 := ⟨_, rfl⟩
  have bv3 : 0 ≤ v3 ∧ v3 ≤ 10 := by rw [ev3]; exact (m_98_2 hM)
  rcases q2 with ⟨rfl, q2⟩ | ⟨rfl, q2⟩
  · skip
    refine g_if_ne 10 dX12_roofIs_5 (by decide) (fun q4 => ?_) (fun _ => by exfalso; omega)
    refine g_iload_n dX12_roofIs_10 rfl (fun _ => ?_)
    rcases (show x2 = 0 ∨ x2 = 1 ∨ x2 = 2 ∨ x2 = 3 ∨ x2 = 4 ∨ (x2 < 0 ∨ 4 < x2) by omega) with q5 | q5 | q5 | q5 | q5 | q5
    · skip
      refine g_tableIn 44 0 dX12_roofIs_11 (by omega) (by omega) rfl (by decide) ?_
      refine g_aload_n dX12_roofIs_44 rfl ?_
      refine gR_X12_17 rfl dX12_roofIs_45 sh_98 (b := 100) (m_98_8 hM) ?_
      refine g_iload_n dX12_roofIs_48 rfl (fun _ => ?_)
      refine g_ialdB dX12_roofIs_49 sh_100 (by omega) (by omega) (m_100 hM _) (fun v6 ev6 bv6 cv6 => ?_)
      exact g_ireturn dX12_roofIs_50 retI (hPo _ ⟨(by omega), (by omega)⟩)
    · skip
      refine g_tableIn 51 1 dX12_roofIs_11 (by omega) (by omega) rfl (by decide) ?_
      refine g_aload_n dX12_roofIs_51 rfl ?_
      refine gR_X12_21 rfl dX12_roofIs_52 sh_98 (b := 101) (m_98_9 hM) ?_
      refine g_iload_n dX12_roofIs_55 rfl (fun _ => ?_)
      refine g_ialdB dX12_roofIs_56 sh_101 (by omega) (by omega) (m_101 hM _) (fun v7 ev7 bv7 cv7 => ?_)
      exact g_ireturn dX12_roofIs_57 retI (hPo _ ⟨(by omega), (by omega)⟩)
    · skip
      refine g_tableIn 58 2 dX12_roofIs_11 (by omega) (by omega) rfl (by decide) ?_
      refine g_aload_n dX12_roofIs_58 rfl ?_
      refine gR_X12_24 rfl dX12_roofIs_59 sh_98 (b := 102) (m_98_10 hM) ?_
      refine g_iload_n dX12_roofIs_62 rfl (fun _ => ?_)
      refine g_ialdB dX12_roofIs_63 sh_102 (by omega) (by omega) (m_102 hM _) (fun v8 ev8 bv8 cv8 => ?_)
      exact g_ireturn dX12_roofIs_64 retI (hPo _ ⟨(by omega), (by omega)⟩)
    · skip
      refine g_tableIn 65 3 dX12_roofIs_11 (by omega) (by omega) rfl (by decide) ?_
      refine g_aload_n dX12_roofIs_65 rfl ?_
      refine g_iload_n dX12_roofIs_66 rfl (fun _ => ?_)
      refine g_cVP (as := [_]) (c_X12_bitsOn_98 _ h hM (by omega) (by omega)) dX12_roofIs_67 mi_X12_bitsOn in_X12_bitsOn se_X12_bitsOn ml_X12_404 rfl rfl rfl sh_98 rfl rfl (Nat.le_of_ble_eq_true rfl) (fun v9 q10 => ?_)
      obtain ⟨bv9, cv9⟩ := q10
      exact g_ireturn dX12_roofIs_70 retI (hPo _ ⟨(by omega), (by omega)⟩)
    · skip
      refine g_tableIn 71 4 dX12_roofIs_11 (by omega) (by omega) rfl (by decide) ?_
      refine g_aload_n dX12_roofIs_71 rfl ?_
      refine g_iload_n dX12_roofIs_72 rfl (fun _ => ?_)
      refine g_cVP (as := [_]) (c_X12_bitsBelow_98 _ h hM (by omega) (by omega)) dX12_roofIs_73 mi_X12_bitsBelow in_X12_bitsBelow se_X12_bitsBelow ml_X12_407 rfl rfl rfl sh_98 rfl rfl (Nat.le_of_ble_eq_true rfl) (fun v11 q12 => ?_)
      obtain ⟨bv11, cv11⟩ := q12
      exact g_ireturn dX12_roofIs_76 retI (hPo _ ⟨(by omega), (by omega)⟩)
    · skip
      refine g_tableOut 77 dX12_roofIs_11 (by omega) (by decide) ?_
      refine g_iconst dX12_roofIs_77 (inR_c rfl) ?_
      exact g_ireturn dX12_roofIs_78 retI (hPo _ ⟨(by omega), (by omega)⟩)
  · skip
    refine g_if_ne 10 dX12_roofIs_5 (by decide) (fun _ => by exfalso; omega) (fun q13 => ?_)
    refine g_iconst dX12_roofIs_8 (inR_c rfl) ?_
    exact g_ireturn dX12_roofIs_9 retI (hPo _ ⟨(by omega), (by omega)⟩)
set_option maxRecDepth 100000 in
set_option maxHeartbeats 4000000 in
theorem c_X12_owed_98 (x1 x2 : Int) (h : MEM) (hM : MBm h) (bx1 : -1 ≤ x1) (dx1 : x1 ≤ 7) (bx2 : -1 ≤ x2) (dx2 : x2 ≤ 7) : CP yX12_owed cX12_owed 6 (some .int) 1 [pR 98, pI x1, pI x2] h (fun x => -2147483648 ≤ x ∧ x ≤ 2147483647) := by
  refine CP.of (L0 := [some (pR 98), some (pI x1), some (pI x2), none, none, none]) rfl (Nat.le_of_ble_eq_true rfl) rfl (fun Po hPo hav => ?_)
  refine g_iconst dX12_owed_0 (inR_c rfl) ?_
  refine g_istore_n dX12_owed_1 (by decide) rfl ?_
  refine g_iconst dX12_owed_2 (inR_c rfl) ?_
  have c5 : ∀ (n : Nat) (y1 y2 : Int) , -2147483648 ≤ y1 → y1 ≤ 2147483647 → 0 ≤ y2 → y2 ≤ 8 → 8 - y2 < (n : Int) → G yX12_owed cX12_owed 6 (some .int) none Po (1, 60, 0, 0) 5 [some (pR 98), some (pI x1), some (pI x2), some (pI y1), some (pI y2), none] [] SH h 0 0 := by
    intro n
    induction n with
    | zero =>
      intro y1 y2 by1 dy1 by2 dy2 hn
      exfalso; omega
    | succ n ih5 =>
      intro y1 y2 by1 dy1 by2 dy2 hn
      refine g_iload dX12_owed_5 rfl (fun _ => ?_)
      refine g_aload_n dX12_owed_7 rfl ?_
      refine gI_X12_179 rfl dX12_owed_8 sh_98 (m_98_3 hM) (fun v3 ev3 bv3 cv3 => ?_)
      refine g_icmp_ge 80 dX12_owed_11 (by decide) (fun q4 => ?_) (fun q4 => ?_)
      · skip
        refine g_iload_n dX12_owed_80 rfl (fun _ => ?_)
        exact g_ireturn dX12_owed_81 retI (hPo _ ⟨(by omega), (by omega)⟩)
      · skip
        refine g_iconst dX12_owed_14 (inR_c rfl) ?_
        have c17 : ∀ (n : Nat) (y5 y6 : Int) , -2147483648 ≤ y5 → y5 ≤ 2147483647 → 0 ≤ y6 → y6 ≤ 8 → 8 - y6 < (n : Int) → G yX12_owed cX12_owed 6 (some .int) none Po (1, 60, 0, 0) 17 [some (pR 98), some (pI x1), some (pI x2), some (pI y5), some (pI y2), some (pI y6)] [] SH h 0 0 := by
          intro n
          induction n with
          | zero =>
            intro y5 y6 by5 dy5 by6 dy6 hn
            exfalso; omega
          | succ n ih17 =>
            intro y5 y6 by5 dy5 by6 dy6 hn
            refine g_iload dX12_owed_17 rfl (fun _ => ?_)
            refine g_aload_n dX12_owed_19 rfl ?_
            refine gI_X12_182 rfl dX12_owed_20 sh_98 (m_98_4 hM) (fun v7 ev7 bv7 cv7 => ?_)
            refine g_icmp_ge 74 dX12_owed_23 (by decide) (fun q8 => ?_) (fun q8 => ?_)
            · skip
              refine g_iincB dX12_owed_74 rfl rfl (by omega) (by omega) ?_
              refine g_goto 5 dX12_owed_77 (by decide) ?_
              refine g_drop 5 ?_
              exact ih5 _ _ (by omega) (by omega) (by omega) (by omega) (by omega)
            · skip
              refine g_iload_n dX12_owed_26 rfl (fun _ => ?_)
              refine g_iload_n dX12_owed_27 rfl (fun _ => ?_)
              refine g_iconst dX12_owed_28 (inR_c rfl) ?_
              have c38 : G yX12_owed cX12_owed 6 (some .int) none Po (1, 60, 0, 0) 38 [some (pR 98), some (pI x1), some (pI x2), none, some (pI y2), some (pI y6)] [(pI y5)] SH h 0 0 := by
                refine g_iload_n dX12_owed_38 rfl (fun _ => ?_)
                refine g_iconst dX12_owed_39 (inR_c rfl) ?_
                refine g_icmp_eq 49 dX12_owed_40 (by decide) (fun q9 => ?_) (fun q9 => ?_)
                · skip
                  refine g_aload_n dX12_owed_49 rfl ?_
                  refine gR_X12_55 rfl dX12_owed_50 sh_98 (b := 112) (m_98_20 hM) ?_
                  refine g_bipush dX12_owed_53 (inR_c rfl) (by decide) ?_
                  refine g_iload dX12_owed_55 rfl (fun _ => ?_)
                  refine g_imulB dX12_owed_57 (by omega) (by omega) ?_
                  refine g_iload dX12_owed_58 rfl (fun _ => ?_)
                  refine g_iaddB dX12_owed_60 (by omega) (by omega) ?_
                  refine g_ialdB dX12_owed_61 sh_112 (by omega) (by omega) (m_112 hM _) (fun v10 ev10 bv10 cv10 => ?_)
                  refine g_goto 66 dX12_owed_62 (by decide) ?_
                  refine g_iaddF dX12_owed_66 (fun v11 bv11 cv11 => ?_)
                  refine g_istore_n dX12_owed_67 (by decide) rfl ?_
                  refine g_iincB dX12_owed_68 rfl rfl (by omega) (by omega) ?_
                  refine g_goto 17 dX12_owed_71 (by decide) ?_
                  exact ih17 _ _ (by omega) (by omega) (by omega) (by omega) (by omega)
                · skip
                  refine g_iload_n dX12_owed_43 rfl (fun _ => ?_)
                  refine g_iload dX12_owed_44 rfl (fun _ => ?_)
                  refine g_icmp_ne 65 dX12_owed_46 (by decide) (fun q12 => ?_) (fun q12 => ?_)
                  · skip
                    refine g_iconst dX12_owed_65 (inR_c rfl) ?_
                    refine g_iaddB dX12_owed_66 (by omega) (by omega) ?_
                    refine g_istore_n dX12_owed_67 (by decide) rfl ?_
                    refine g_iincB dX12_owed_68 rfl rfl (by omega) (by omega) ?_
                    refine g_goto 17 dX12_owed_71 (by decide) ?_
                    exact ih17 _ _ (by omega) (by omega) (by omega) (by omega) (by omega)
                  · skip
                    refine g_aload_n dX12_owed_49 rfl ?_
                    refine gR_X12_55 rfl dX12_owed_50 sh_98 (b := 112) (m_98_20 hM) ?_
                    refine g_bipush dX12_owed_53 (inR_c rfl) (by decide) ?_
                    refine g_iload dX12_owed_55 rfl (fun _ => ?_)
                    refine g_imulB dX12_owed_57 (by omega) (by omega) ?_
                    refine g_iload dX12_owed_58 rfl (fun _ => ?_)
                    refine g_iaddB dX12_owed_60 (by omega) (by omega) ?_
                    refine g_ialdB dX12_owed_61 sh_112 (by omega) (by omega) (m_112 hM _) (fun v13 ev13 bv13 cv13 => ?_)
                    refine g_goto 66 dX12_owed_62 (by decide) ?_
                    refine g_iaddF dX12_owed_66 (fun v14 bv14 cv14 => ?_)
                    refine g_istore_n dX12_owed_67 (by decide) rfl ?_
                    refine g_iincB dX12_owed_68 rfl rfl (by omega) (by omega) ?_
                    refine g_goto 17 dX12_owed_71 (by decide) ?_
                    exact ih17 _ _ (by omega) (by omega) (by omega) (by omega) (by omega)
              refine g_icmp_eq 38 dX12_owed_29 (by decide) (fun q15 => ?_) (fun q15 => ?_)
              · skip
                refine g_drop 3 ?_
                exact c38 
              · skip
                refine g_iload_n dX12_owed_32 rfl (fun _ => ?_)
                refine g_iload dX12_owed_33 rfl (fun _ => ?_)
                refine g_icmp_ne 65 dX12_owed_35 (by decide) (fun q16 => ?_) (fun q16 => ?_)
                · skip
                  refine g_iconst dX12_owed_65 (inR_c rfl) ?_
                  refine g_iaddB dX12_owed_66 (by omega) (by omega) ?_
                  refine g_istore_n dX12_owed_67 (by decide) rfl ?_
                  refine g_iincB dX12_owed_68 rfl rfl (by omega) (by omega) ?_
                  refine g_goto 17 dX12_owed_71 (by decide) ?_
                  exact ih17 _ _ (by omega) (by omega) (by omega) (by omega) (by omega)
                · skip
                  refine g_drop 3 ?_
                  exact c38 
        refine g_istore dX12_owed_15 (by decide) rfl ?_
        exact c17 9 _ _ (by omega) (by omega) (by omega) (by omega) (by omega)
  refine g_istore dX12_owed_3 (by decide) rfl ?_
  exact c5 9 _ _ (by omega) (by omega) (by omega) (by omega) (by omega)
set_option maxRecDepth 100000 in
set_option maxHeartbeats 4000000 in
theorem c_X12_apprenticeIs_98 (x1 x2 : Int) (h : MEM) (hM : MBm h) (bx1 : -2147483648 ≤ x1) (dx1 : x1 ≤ 2147483647) (bx2 : -2147483648 ≤ x2) (dx2 : x2 ≤ 2147483647) : CP yX12_apprenticeIs cX12_apprenticeIs 3 (some .int) 3 [pR 98, pI x1, pI x2] h (fun x => -2147483648 ≤ x ∧ x ≤ 2147483647) := by
  refine CP.of (L0 := [some (pR 98), some (pI x1), some (pI x2)]) rfl (Nat.le_of_ble_eq_true rfl) rfl (fun Po hPo hav => ?_)
  refine g_aload_n dX12_apprenticeIs_0 rfl ?_
  refine g_iload_n dX12_apprenticeIs_1 rfl (fun _ => ?_)
  refine g_cVP (as := [_]) (c_X12_isApprentice_98 _ h hM (by omega) (by omega)) dX12_apprenticeIs_2 mi_X12_isApprentice in_X12_isApprentice se_X12_isApprentice ml_X12_195 rfl rfl rfl sh_98 rfl rfl (Nat.le_of_ble_eq_true rfl) (fun v1 q2 => ?_)
  obtain ⟨v3, ev3⟩ : ∃ z, z = h 98 3 := ⟨_, rfl⟩
  have bv3 : 0 ≤ v3 ∧ v3 ≤ 8 := by rw [ev3]; exact (m_98_3 hM)
  rcases q2 with ⟨rfl, q2⟩ | ⟨rfl, q2⟩
  · skip
    refine g_if_ne 10 dX12_apprenticeIs_5 (by decide) (fun q4 => ?_) (fun _ => by exfalso; omega)
    refine g_iload_n dX12_apprenticeIs_10 rfl (fun _ => ?_)
    refine g_i2l dX12_apprenticeIs_11 ?_
    refine g_ldc2 (v := 10) dX12_apprenticeIs_12 kl_X12_410 (by decide) ?_
    refine g_ldc2 (v := 14) dX12_apprenticeIs_15 kl_X12_412 (by decide) ?_
    refine g_cSP (av := [_, _, _]) (c_X12_lies _ _ _ h hM (by omega) (by omega) (by omega) (by omega) (by omega) (by omega)) dX12_apprenticeIs_18 mi_X12_lies st_X12_lies ml_X12_175 rfl rfl rfl rfl (Nat.le_of_ble_eq_true rfl) (fun v5 q6 => ?_)
    rcases q6 with ⟨rfl, q6⟩ | ⟨rfl, q6⟩
    · skip
      refine g_if_eq 38 dX12_apprenticeIs_21 (by decide) (fun _ => by exfalso; omega) (fun q7 => ?_)
      refine g_aload_n dX12_apprenticeIs_24 rfl ?_
      refine gR_X12_33 rfl dX12_apprenticeIs_25 sh_98 (b := 105) (m_98_13 hM) ?_
      refine g_iconst dX12_apprenticeIs_28 (inR_c rfl) ?_
      refine g_iload_n dX12_apprenticeIs_29 rfl (fun _ => ?_)
      refine g_imulB dX12_apprenticeIs_30 (by omega) (by omega) ?_
      refine g_iload_n dX12_apprenticeIs_31 rfl (fun _ => ?_)
      refine g_iaddB dX12_apprenticeIs_32 (by omega) (by omega) ?_
      refine g_bipush dX12_apprenticeIs_33 (inR_c rfl) (by decide) ?_
      refine g_isubB dX12_apprenticeIs_35 (by omega) (by omega) ?_
      refine g_ialdB dX12_apprenticeIs_36 sh_105 (by omega) (by omega) (m_105 hM _) (fun v8 ev8 bv8 cv8 => ?_)
      exact g_ireturn dX12_apprenticeIs_37 retI (hPo _ ⟨(by omega), (by omega)⟩)
    · skip
      refine g_if_eq 38 dX12_apprenticeIs_21 (by decide) (fun q9 => ?_) (fun _ => by exfalso; omega)
      refine g_iload_n dX12_apprenticeIs_38 rfl (fun _ => ?_)
      rcases (show x2 = 0 ∨ x2 = 1 ∨ x2 = 2 ∨ x2 = 3 ∨ x2 = 4 ∨ (x2 < 0 ∨ 4 < x2) by omega) with q10 | q10 | q10 | q10 | q10 | q10
      · skip
        refine g_tableIn 72 0 dX12_apprenticeIs_39 (by omega) (by omega) rfl (by decide) ?_
        refine g_aload_n dX12_apprenticeIs_72 rfl ?_
        refine gR_X12_27 rfl dX12_apprenticeIs_73 sh_98 (b := 103) (m_98_11 hM) ?_
        refine g_iload_n dX12_apprenticeIs_76 rfl (fun _ => ?_)
        refine g_ialdB dX12_apprenticeIs_77 sh_103 (by omega) (by omega) (m_103 hM _) (fun v11 ev11 bv11 cv11 => ?_)
        exact g_ireturn dX12_apprenticeIs_78 retI (hPo _ ⟨(by omega), (by omega)⟩)
      · skip
        refine g_tableIn 79 1 dX12_apprenticeIs_39 (by omega) (by omega) rfl (by decide) ?_
        refine g_aload_n dX12_apprenticeIs_79 rfl ?_
        refine gR_X12_30 rfl dX12_apprenticeIs_80 sh_98 (b := 104) (m_98_12 hM) ?_
        refine g_iload_n dX12_apprenticeIs_83 rfl (fun _ => ?_)
        refine g_ialdB dX12_apprenticeIs_84 sh_104 (by omega) (by omega) (m_104 hM _) (fun v12 ev12 bv12 cv12 => ?_)
        exact g_ireturn dX12_apprenticeIs_85 retI (hPo _ ⟨(by omega), (by omega)⟩)
      · skip
        refine g_tableIn 86 2 dX12_apprenticeIs_39 (by omega) (by omega) rfl (by decide) ?_
        refine g_aload_n dX12_apprenticeIs_86 rfl ?_
        refine gR_X12_36 rfl dX12_apprenticeIs_87 sh_98 (b := 106) (m_98_14 hM) ?_
        refine g_iload_n dX12_apprenticeIs_90 rfl (fun _ => ?_)
        refine g_zaldB dX12_apprenticeIs_91 sh_106 (by omega) (by omega) (m_106 hM _) (fun v13 ev13 bv13 cv13 => ?_)
        refine g_if_eq 99 dX12_apprenticeIs_92 (by decide) (fun q14 => ?_) (fun q14 => ?_)
        · skip
          refine g_iconst dX12_apprenticeIs_99 (inR_c rfl) ?_
          exact g_ireturn dX12_apprenticeIs_100 retI (hPo _ ⟨(by omega), (by omega)⟩)
        · skip
          refine g_iconst dX12_apprenticeIs_95 (inR_c rfl) ?_
          refine g_goto 100 dX12_apprenticeIs_96 (by decide) ?_
          exact g_ireturn dX12_apprenticeIs_100 retI (hPo _ ⟨(by omega), (by omega)⟩)
      · skip
        refine g_tableIn 101 3 dX12_apprenticeIs_39 (by omega) (by omega) rfl (by decide) ?_
        refine g_aload_n dX12_apprenticeIs_101 rfl ?_
        refine g_iload_n dX12_apprenticeIs_102 rfl (fun _ => ?_)
        refine g_iconst dX12_apprenticeIs_103 (inR_c rfl) ?_
        refine g_cVP (as := [_, _]) (c_X12_owed_98 _ _ h hM (by omega) (by omega) (by omega) (by omega)) dX12_apprenticeIs_104 mi_X12_owed in_X12_owed se_X12_owed ml_X12_414 rfl rfl rfl sh_98 rfl rfl (Nat.le_of_ble_eq_true rfl) (fun v15 q16 => ?_)
        obtain ⟨bv15, cv15⟩ := q16
        exact g_ireturn dX12_apprenticeIs_107 retI (hPo _ ⟨(by omega), (by omega)⟩)
      · skip
        refine g_tableIn 108 4 dX12_apprenticeIs_39 (by omega) (by omega) rfl (by decide) ?_
        refine g_aload_n dX12_apprenticeIs_108 rfl ?_
        refine gR_X12_40 rfl dX12_apprenticeIs_109 sh_98 (b := 107) (m_98_15 hM) ?_
        refine g_iload_n dX12_apprenticeIs_112 rfl (fun _ => ?_)
        refine g_ialdB dX12_apprenticeIs_113 sh_107 (by omega) (by omega) (m_107 hM _) (fun v17 ev17 bv17 cv17 => ?_)
        exact g_ireturn dX12_apprenticeIs_114 retI (hPo _ ⟨(by omega), (by omega)⟩)
      · skip
        refine g_tableOut 115 dX12_apprenticeIs_39 (by omega) (by decide) ?_
        refine g_iconst dX12_apprenticeIs_115 (inR_c rfl) ?_
        exact g_ireturn dX12_apprenticeIs_116 retI (hPo _ ⟨(by omega), (by omega)⟩)
  · skip
    refine g_if_ne 10 dX12_apprenticeIs_5 (by decide) (fun _ => by exfalso; omega) (fun q18 => ?_)
    refine g_iconst dX12_apprenticeIs_8 (inR_c rfl) ?_
    exact g_ireturn dX12_apprenticeIs_9 retI (hPo _ ⟨(by omega), (by omega)⟩)
set_option maxRecDepth 100000 in
set_option maxHeartbeats 4000000 in
theorem c_X12_masterIs_98 (x1 x2 : Int) (h : MEM) (hM : MBm h) (bx1 : -2147483648 ≤ x1) (dx1 : x1 ≤ 2147483647) (bx2 : -2147483648 ≤ x2) (dx2 : x2 ≤ 2147483647) : CP yX12_masterIs cX12_masterIs 3 (some .int) 3 [pR 98, pI x1, pI x2] h (fun x => -2147483648 ≤ x ∧ x ≤ 2147483647) := by
  refine CP.of (L0 := [some (pR 98), some (pI x1), some (pI x2)]) rfl (Nat.le_of_ble_eq_true rfl) rfl (fun Po hPo hav => ?_)
  refine g_aload_n dX12_masterIs_0 rfl ?_
  refine g_iload_n dX12_masterIs_1 rfl (fun _ => ?_)
  refine g_cVP (as := [_]) (c_X12_isMaster_98 _ h hM (by omega) (by omega)) dX12_masterIs_2 mi_X12_isMaster in_X12_isMaster se_X12_isMaster ml_X12_201 rfl rfl rfl sh_98 rfl rfl (Nat.le_of_ble_eq_true rfl) (fun v1 q2 => ?_)
  obtain ⟨v3, ev3⟩ : ∃ z, z = h 98 4 := ⟨_, rfl⟩
  have bv3 : 0 ≤ v3 ∧ v3 ≤ 8 := by rw [ev3]; exact (m_98_4 hM)
  rcases q2 with ⟨rfl, q2⟩ | ⟨rfl, q2⟩
  · skip
    refine g_if_ne 10 dX12_masterIs_5 (by decide) (fun q4 => ?_) (fun _ => by exfalso; omega)
    refine g_iload_n dX12_masterIs_10 rfl (fun _ => ?_)
    rcases (show x2 = 0 ∨ x2 = 1 ∨ x2 = 2 ∨ x2 = 3 ∨ x2 = 4 ∨ (x2 < 0 ∨ 4 < x2) by omega) with q5 | q5 | q5 | q5 | q5 | q5
    · skip
      refine g_tableIn 44 0 dX12_masterIs_11 (by omega) (by omega) rfl (by decide) ?_
      refine g_aload_n dX12_masterIs_44 rfl ?_
      refine gR_X12_46 rfl dX12_masterIs_45 sh_98 (b := 109) (m_98_17 hM) ?_
      refine g_iload_n dX12_masterIs_48 rfl (fun _ => ?_)
      refine g_ialdB dX12_masterIs_49 sh_109 (by omega) (by omega) (m_109 hM _) (fun v6 ev6 bv6 cv6 => ?_)
      exact g_ireturn dX12_masterIs_50 retI (hPo _ ⟨(by omega), (by omega)⟩)
    · skip
      refine g_tableIn 51 1 dX12_masterIs_11 (by omega) (by omega) rfl (by decide) ?_
      refine g_aload_n dX12_masterIs_51 rfl ?_
      refine gR_X12_43 rfl dX12_masterIs_52 sh_98 (b := 108) (m_98_16 hM) ?_
      refine g_iload_n dX12_masterIs_55 rfl (fun _ => ?_)
      refine g_ialdB dX12_masterIs_56 sh_108 (by omega) (by omega) (m_108 hM _) (fun v7 ev7 bv7 cv7 => ?_)
      exact g_ireturn dX12_masterIs_57 retI (hPo _ ⟨(by omega), (by omega)⟩)
    · skip
      refine g_tableIn 58 2 dX12_masterIs_11 (by omega) (by omega) rfl (by decide) ?_
      refine g_aload_n dX12_masterIs_58 rfl ?_
      refine gR_X12_49 rfl dX12_masterIs_59 sh_98 (b := 110) (m_98_18 hM) ?_
      refine g_iload_n dX12_masterIs_62 rfl (fun _ => ?_)
      refine g_zaldB dX12_masterIs_63 sh_110 (by omega) (by omega) (m_110 hM _) (fun v8 ev8 bv8 cv8 => ?_)
      refine g_if_eq 71 dX12_masterIs_64 (by decide) (fun q9 => ?_) (fun q9 => ?_)
      · skip
        refine g_iconst dX12_masterIs_71 (inR_c rfl) ?_
        exact g_ireturn dX12_masterIs_72 retI (hPo _ ⟨(by omega), (by omega)⟩)
      · skip
        refine g_iconst dX12_masterIs_67 (inR_c rfl) ?_
        refine g_goto 72 dX12_masterIs_68 (by decide) ?_
        exact g_ireturn dX12_masterIs_72 retI (hPo _ ⟨(by omega), (by omega)⟩)
    · skip
      refine g_tableIn 73 3 dX12_masterIs_11 (by omega) (by omega) rfl (by decide) ?_
      refine g_aload_n dX12_masterIs_73 rfl ?_
      refine g_iconst dX12_masterIs_74 (inR_c rfl) ?_
      refine g_iload_n dX12_masterIs_75 rfl (fun _ => ?_)
      refine g_cVP (as := [_, _]) (c_X12_owed_98 _ _ h hM (by omega) (by omega) (by omega) (by omega)) dX12_masterIs_76 mi_X12_owed in_X12_owed se_X12_owed ml_X12_414 rfl rfl rfl sh_98 rfl rfl (Nat.le_of_ble_eq_true rfl) (fun v10 q11 => ?_)
      obtain ⟨bv10, cv10⟩ := q11
      exact g_ireturn dX12_masterIs_79 retI (hPo _ ⟨(by omega), (by omega)⟩)
    · skip
      refine g_tableIn 80 4 dX12_masterIs_11 (by omega) (by omega) rfl (by decide) ?_
      refine g_aload_n dX12_masterIs_80 rfl ?_
      refine gR_X12_52 rfl dX12_masterIs_81 sh_98 (b := 111) (m_98_19 hM) ?_
      refine g_iload_n dX12_masterIs_84 rfl (fun _ => ?_)
      refine g_ialdB dX12_masterIs_85 sh_111 (by omega) (by omega) (m_111 hM _) (fun v12 ev12 bv12 cv12 => ?_)
      exact g_ireturn dX12_masterIs_86 retI (hPo _ ⟨(by omega), (by omega)⟩)
    · skip
      refine g_tableOut 87 dX12_masterIs_11 (by omega) (by decide) ?_
      refine g_iconst dX12_masterIs_87 (inR_c rfl) ?_
      exact g_ireturn dX12_masterIs_88 retI (hPo _ ⟨(by omega), (by omega)⟩)
  · skip
    refine g_if_ne 10 dX12_masterIs_5 (by decide) (fun _ => by exfalso; omega) (fun q13 => ?_)
    refine g_iconst dX12_masterIs_8 (inR_c rfl) ?_
    exact g_ireturn dX12_masterIs_9 retI (hPo _ ⟨(by omega), (by omega)⟩)
set_option maxRecDepth 100000 in
set_option maxHeartbeats 4000000 in
theorem c_X12_setsAside_98_k0 (gi gs : Nat → Int) (h : MEM) (hM : MBm h) (f_IS : ISn gi h) (f_S1 : S1n gs h) : CV yX12_setsAside cX12_setsAside 3 (none) 1 [pR 98, pI 0] h (fun h' => MBm h' ∧ Fr [(130, 0), (131, 0), (132, 0), (133, 0), (134, 0), (135, 0), (136, 0), (137, 0), (138, 0), (139, 0), (140, 0), (141, 0), (142, 0), (143, 0), (144, 0), (145, 1), (145, 2), (145, 3), (145, 4), (145, 5), (145, 6)] h h' ∧ S0n gi h' ∧ S1n gs h' ∧ h' 145 0 = h 98 2 ∧ h' 145 1 = h 98 3 ∧ h' 145 2 = h 98 4 ∧ h' 145 3 = h 98 5) := by
  refine CV.of (L0 := [some (pR 98), some (pI 0), none]) rfl (Nat.le_of_ble_eq_true rfl) rfl (fun Po hPo hav => ?_)
  obtain ⟨v1, ev1⟩ : ∃ z, z = h 98 2 := ⟨_, rfl⟩
  have bv1 : 0 ≤ v1 ∧ v1 ≤ 10 := by rw [ev1]; exact (m_98_2 hM)
  obtain ⟨v2, ev2⟩ : ∃ z, z = h 98 3 := ⟨_, rfl⟩
  have bv2 : 0 ≤ v2 ∧ v2 ≤ 8 := by rw [ev2]; exact (m_98_3 hM)
  obtain ⟨v3, ev3⟩ : ∃ z, z = h 98 4 := ⟨_, rfl⟩
  have bv3 : 0 ≤ v3 ∧ v3 ≤ 8 := by rw [ev3]; exact (m_98_4 hM)
  obtain ⟨v4, ev4⟩ : ∃ z, z = h 98 5 := ⟨_, rfl⟩
  have bv4 : 0 ≤ v4 ∧ v4 ≤ 2000000000 := by rw [ev4]; exact (m_98_5 hM)
  refine g_iconst dX12_setsAside_0 (inR_c rfl) ?_
  have c2 : ∀ (n : Nat) (y5 : Int) (h6 : MEM), MBm h6 → Fr [(130, 0), (131, 0), (132, 0)] h h6 → 0 ≤ y5 → y5 ≤ 10 → 10 - y5 < (n : Int) → G yX12_setsAside cX12_setsAside 3 (none) none Po (1, 60, 0, 0) 2 [some (pR 98), some (pI 0), some (pI y5)] [] SH h6 0 0 := by
    intro n
    induction n with
    | zero =>
      intro y5 h6 hMh6 hFh6 by5 dy5 hn
      exfalso; omega
    | succ n ih2 =>
      intro y5 h6 hMh6 hFh6 by5 dy5 hn
      refine g_iload_n dX12_setsAside_2 rfl (fun _ => ?_)
      refine g_bipush dX12_setsAside_3 (inR_c rfl) (by decide) ?_
      refine g_icmp_ge 65 dX12_setsAside_5 (by decide) (fun q7 => ?_) (fun q7 => ?_)
      · skip
        refine g_iconst dX12_setsAside_65 (inR_c rfl) ?_
        have c67 : ∀ (n : Nat) (y8 : Int) (h9 : MEM), MBm h9 → Fr [(133, 0), (134, 0), (136, 0), (137, 0), (138, 0), (139, 0), (140, 0), (141, 0)] h6 h9 → 0 ≤ y8 → y8 ≤ 8 → 8 - y8 < (n : Int) → G yX12_setsAside cX12_setsAside 3 (none) none Po (1, 60, 0, 0) 67 [some (pR 98), some (pI 0), some (pI y8)] [] SH h9 0 0 := by
          intro n
          induction n with
          | zero =>
            intro y8 h9 hMh9 hFh9 by8 dy8 hn
            exfalso; omega
          | succ n ih67 =>
            intro y8 h9 hMh9 hFh9 by8 dy8 hn
            refine g_iload_n dX12_setsAside_67 rfl (fun _ => ?_)
            refine g_bipush dX12_setsAside_68 (inR_c rfl) (by decide) ?_
            refine g_icmp_ge 215 dX12_setsAside_70 (by decide) (fun q10 => ?_) (fun q10 => ?_)
            · skip
              refine g_iconst dX12_setsAside_215 (inR_c rfl) ?_
              have c217 : ∀ (n : Nat) (y11 : Int) (h12 : MEM), MBm h12 → Fr [(135, 0)] h9 h12 → 0 ≤ y11 → y11 ≤ 40 → 40 - y11 < (n : Int) → G yX12_setsAside cX12_setsAside 3 (none) none Po (1, 60, 0, 0) 217 [some (pR 98), some (pI 0), some (pI y11)] [] SH h12 0 0 := by
                intro n
                induction n with
                | zero =>
                  intro y11 h12 hMh12 hFh12 by11 dy11 hn
                  exfalso; omega
                | succ n ih217 =>
                  intro y11 h12 hMh12 hFh12 by11 dy11 hn
                  refine g_iload_n dX12_setsAside_217 rfl (fun _ => ?_)
                  refine g_bipush dX12_setsAside_218 (inR_c rfl) (by decide) ?_
                  refine g_icmp_ge 246 dX12_setsAside_220 (by decide) (fun q13 => ?_) (fun q13 => ?_)
                  · skip
                    refine g_iconst dX12_setsAside_246 (inR_c rfl) ?_
                    have c248 : ∀ (n : Nat) (y14 : Int) (h15 : MEM), MBm h15 → Fr [(142, 0), (143, 0)] h12 h15 → 0 ≤ y14 → y14 ≤ 64 → 64 - y14 < (n : Int) → G yX12_setsAside cX12_setsAside 3 (none) none Po (1, 60, 0, 0) 248 [some (pR 98), some (pI 0), some (pI y14)] [] SH h15 0 0 := by
                      intro n
                      induction n with
                      | zero =>
                        intro y14 h15 hMh15 hFh15 by14 dy14 hn
                        exfalso; omega
                      | succ n ih248 =>
                        intro y14 h15 hMh15 hFh15 by14 dy14 hn
                        refine g_iload_n dX12_setsAside_248 rfl (fun _ => ?_)
                        refine g_bipush dX12_setsAside_249 (inR_c rfl) (by decide) ?_
                        refine g_icmp_ge 294 dX12_setsAside_251 (by decide) (fun q16 => ?_) (fun q16 => ?_)
                        · skip
                          refine g_iconst dX12_setsAside_294 (inR_c rfl) ?_
                          have c296 : ∀ (n : Nat) (y17 : Int) (h18 : MEM), MBm h18 → Fr [(144, 0)] h15 h18 → 0 ≤ y17 → y17 ≤ 100 → SA0 gi y17 h18 → S1n gs h18 → 100 - y17 < (n : Int) → G yX12_setsAside cX12_setsAside 3 (none) none Po (1, 60, 0, 0) 296 [some (pR 98), some (pI 0), some (pI y17)] [] SH h18 0 0 := by
                            intro n
                            induction n with
                            | zero =>
                              intro y17 h18 hMh18 hFh18 by17 dy17 e296_0 e296_1 hn
                              exfalso; omega
                            | succ n ih296 =>
                              intro y17 h18 hMh18 hFh18 by17 dy17 e296_0 e296_1 hn
                              refine g_iload_n dX12_setsAside_296 rfl (fun _ => ?_)
                              refine g_bipush dX12_setsAside_297 (inR_c rfl) (by decide) ?_
                              refine g_icmp_ge 325 dX12_setsAside_299 (by decide) (fun q19 => ?_) (fun q19 => ?_)
                              · skip
                                refine g_aload_n dX12_setsAside_325 rfl ?_
                                have s0f : S0n gi h18 := SA0_e e296_0 (by omega)
                                refine gR_X12_154 rfl dX12_setsAside_326 sh_98 (b := 145) (m_98_70 hMh18) ?_
                                refine g_bipush dX12_setsAside_329 (inR_c rfl) (by decide) ?_
                                refine g_iload_n dX12_setsAside_331 rfl (fun _ => ?_)
                                refine g_imulB dX12_setsAside_332 (by omega) (by omega) ?_
                                refine g_aload_n dX12_setsAside_333 rfl ?_
                                refine gE_X12_172 rfl dX12_setsAside_334 sh_98 ((hFh18 98 2 rfl).trans ((hFh15 98 2 rfl).trans ((hFh12 98 2 rfl).trans ((hFh9 98 2 rfl).trans ((hFh6 98 2 rfl).trans ev1.symm))))) ?_
                                refine g_iastB dX12_setsAside_337 sh_145 (by omega) (by omega) (fun h20 eh20 => ?_)
                                have hFh20 := Fr.st eh20
                                have hMh20 := u_145_0 hMh18 eh20 (by omega) (by omega)
                                refine g_aload_n dX12_setsAside_338 rfl ?_
                                refine gR_X12_154 rfl dX12_setsAside_339 sh_98 (b := 145) (m_98_70 hMh20) ?_
                                refine g_bipush dX12_setsAside_342 (inR_c rfl) (by decide) ?_
                                refine g_iload_n dX12_setsAside_344 rfl (fun _ => ?_)
                                refine g_imulB dX12_setsAside_345 (by omega) (by omega) ?_
                                refine g_iconst dX12_setsAside_346 (inR_c rfl) ?_
                                refine g_iaddB dX12_setsAside_347 (by omega) (by omega) ?_
                                refine g_aload_n dX12_setsAside_348 rfl ?_
                                refine gE_X12_179 rfl dX12_setsAside_349 sh_98 ((hFh20 98 3 rfl).trans ((hFh18 98 3 rfl).trans ((hFh15 98 3 rfl).trans ((hFh12 98 3 rfl).trans ((hFh9 98 3 rfl).trans ((hFh6 98 3 rfl).trans ev2.symm)))))) ?_
                                refine g_iastB dX12_setsAside_352 sh_145 (by omega) (by omega) (fun h21 eh21 => ?_)
                                have hFh21 := Fr.st eh21
                                have hMh21 := u_145_1 hMh20 eh21 (by omega) (by omega)
                                refine g_aload_n dX12_setsAside_353 rfl ?_
                                refine gR_X12_154 rfl dX12_setsAside_354 sh_98 (b := 145) (m_98_70 hMh21) ?_
                                refine g_bipush dX12_setsAside_357 (inR_c rfl) (by decide) ?_
                                refine g_iload_n dX12_setsAside_359 rfl (fun _ => ?_)
                                refine g_imulB dX12_setsAside_360 (by omega) (by omega) ?_
                                refine g_iconst dX12_setsAside_361 (inR_c rfl) ?_
                                refine g_iaddB dX12_setsAside_362 (by omega) (by omega) ?_
                                refine g_aload_n dX12_setsAside_363 rfl ?_
                                refine gE_X12_182 rfl dX12_setsAside_364 sh_98 ((hFh21 98 4 rfl).trans ((hFh20 98 4 rfl).trans ((hFh18 98 4 rfl).trans ((hFh15 98 4 rfl).trans ((hFh12 98 4 rfl).trans ((hFh9 98 4 rfl).trans ((hFh6 98 4 rfl).trans ev3.symm))))))) ?_
                                refine g_iastB dX12_setsAside_367 sh_145 (by omega) (by omega) (fun h22 eh22 => ?_)
                                have hFh22 := Fr.st eh22
                                have hMh22 := u_145_2 hMh21 eh22 (by omega) (by omega)
                                refine g_aload_n dX12_setsAside_368 rfl ?_
                                refine gR_X12_154 rfl dX12_setsAside_369 sh_98 (b := 145) (m_98_70 hMh22) ?_
                                refine g_bipush dX12_setsAside_372 (inR_c rfl) (by decide) ?_
                                refine g_iload_n dX12_setsAside_374 rfl (fun _ => ?_)
                                refine g_imulB dX12_setsAside_375 (by omega) (by omega) ?_
                                refine g_iconst dX12_setsAside_376 (inR_c rfl) ?_
                                refine g_iaddB dX12_setsAside_377 (by omega) (by omega) ?_
                                refine g_aload_n dX12_setsAside_378 rfl ?_
                                refine gE_X12_334 rfl dX12_setsAside_379 sh_98 ((hFh22 98 5 rfl).trans ((hFh21 98 5 rfl).trans ((hFh20 98 5 rfl).trans ((hFh18 98 5 rfl).trans ((hFh15 98 5 rfl).trans ((hFh12 98 5 rfl).trans ((hFh9 98 5 rfl).trans ((hFh6 98 5 rfl).trans ev4.symm)))))))) ?_
                                refine g_iastB dX12_setsAside_382 sh_145 (by omega) (by omega) (fun h23 eh23 => ?_)
                                have hFh23 := Fr.st eh23
                                have hMh23 := u_145_3 hMh22 eh23 (by omega) (by omega)
                                refine g_aload_n dX12_setsAside_383 rfl ?_
                                refine gR_X12_154 rfl dX12_setsAside_384 sh_98 (b := 145) (m_98_70 hMh23) ?_
                                refine g_bipush dX12_setsAside_387 (inR_c rfl) (by decide) ?_
                                refine g_iload_n dX12_setsAside_389 rfl (fun _ => ?_)
                                refine g_imulB dX12_setsAside_390 (by omega) (by omega) ?_
                                refine g_iconst dX12_setsAside_391 (inR_c rfl) ?_
                                refine g_iaddB dX12_setsAside_392 (by omega) (by omega) ?_
                                refine g_aload_n dX12_setsAside_393 rfl ?_
                                refine gI_X12_13 rfl dX12_setsAside_394 sh_98 (m_98_6 hMh23) (fun v24 ev24 bv24 cv24 => ?_)
                                refine g_iastB dX12_setsAside_397 sh_145 (by omega) (by omega) (fun h25 eh25 => ?_)
                                have hFh25 := Fr.st eh25
                                have hMh25 := u_145_4 hMh23 eh25 (by omega) (by omega)
                                refine g_aload_n dX12_setsAside_398 rfl ?_
                                refine gR_X12_154 rfl dX12_setsAside_399 sh_98 (b := 145) (m_98_70 hMh25) ?_
                                refine g_bipush dX12_setsAside_402 (inR_c rfl) (by decide) ?_
                                refine g_iload_n dX12_setsAside_404 rfl (fun _ => ?_)
                                refine g_imulB dX12_setsAside_405 (by omega) (by omega) ?_
                                refine g_iconst dX12_setsAside_406 (inR_c rfl) ?_
                                refine g_iaddB dX12_setsAside_407 (by omega) (by omega) ?_
                                refine g_aload_n dX12_setsAside_408 rfl ?_
                                refine gI_X12_372 rfl dX12_setsAside_409 sh_98 (m_98_7 hMh25) (fun v26 ev26 bv26 cv26 => ?_)
                                refine g_iastB dX12_setsAside_412 sh_145 (by omega) (by omega) (fun h27 eh27 => ?_)
                                have hFh27 := Fr.st eh27
                                have hMh27 := u_145_5 hMh25 eh27 (by omega) (by omega)
                                have q28 : h27 145 0 = v1 := ((hFh27 145 _ rfl).trans ((hFh25 145 _ rfl).trans ((hFh23 145 _ rfl).trans ((hFh22 145 _ rfl).trans ((hFh21 145 _ rfl).trans (st_at eh20))))))
                                have q29 : h27 145 1 = v2 := ((hFh27 145 _ rfl).trans ((hFh25 145 _ rfl).trans ((hFh23 145 _ rfl).trans ((hFh22 145 _ rfl).trans (st_at eh21)))))
                                have q30 : h27 145 2 = v3 := ((hFh27 145 _ rfl).trans ((hFh25 145 _ rfl).trans ((hFh23 145 _ rfl).trans (st_at eh22))))
                                have q31 : h27 145 3 = v4 := ((hFh27 145 _ rfl).trans ((hFh25 145 _ rfl).trans (st_at eh23)))
                                exact g_return dX12_setsAside_413 rfl (hPo _ ⟨hMh27, (Fr.tr (Fr.tr (Fr.tr (Fr.tr (Fr.tr (Fr.tr (Fr.tr (Fr.tr (Fr.tr (Fr.tr (Fr.sub hFh6 rfl) hFh9 rfl) hFh12 rfl) hFh15 rfl) hFh18 rfl) hFh20 rfl) hFh21 rfl) hFh22 rfl) hFh23 rfl) hFh25 rfl) hFh27 rfl), (S0n.fr (T := [(145, 1), (145, 2), (145, 3), (145, 4), (145, 5), (145, 6)]) s0f (Fr.tr (Fr.tr (Fr.tr (Fr.tr (Fr.tr (Fr.sub hFh20 rfl) hFh21 rfl) hFh22 rfl) hFh23 rfl) hFh25 rfl) hFh27 rfl) rfl), (S1n.fr (T := [(145, 1), (145, 2), (145, 3), (145, 4), (145, 5), (145, 6)]) e296_1 (Fr.tr (Fr.tr (Fr.tr (Fr.tr (Fr.tr (Fr.sub hFh20 rfl) hFh21 rfl) hFh22 rfl) hFh23 rfl) hFh25 rfl) hFh27 rfl) rfl), (by omega), (by omega), (by omega), (by omega)⟩)
                              · skip
                                refine g_aload_n dX12_setsAside_302 rfl ?_
                                refine gR_X12_151 rfl dX12_setsAside_303 sh_98 (b := 144) (m_98_69 hMh18) ?_
                                refine g_bipush dX12_setsAside_306 (inR_c rfl) (by decide) ?_
                                refine g_iload_n dX12_setsAside_308 rfl (fun _ => ?_)
                                refine g_imulB dX12_setsAside_309 (by omega) (by omega) ?_
                                refine g_iload_n dX12_setsAside_310 rfl (fun _ => ?_)
                                refine g_iaddB dX12_setsAside_311 (by omega) (by omega) ?_
                                refine g_aload_n dX12_setsAside_312 rfl ?_
                                refine gR_X12_61 rfl dX12_setsAside_313 sh_98 (b := 114) (m_98_22 hMh18) ?_
                                refine g_iload_n dX12_setsAside_316 rfl (fun _ => ?_)
                                refine g_zaldB dX12_setsAside_317 sh_114 (by omega) (by omega) (m_114 hMh18 _) (fun v32 ev32 bv32 cv32 => ?_)
                                have sv1 := e296_1
                                have si1 := (ISn.fr (T := [(130, 0), (131, 0), (132, 0), (133, 0), (134, 0), (135, 0), (136, 0), (137, 0), (138, 0), (139, 0), (140, 0), (141, 0), (142, 0), (143, 0), (144, 0)]) f_IS (Fr.tr (Fr.tr (Fr.tr (Fr.tr (Fr.sub hFh6 rfl) hFh9 rfl) hFh12 rfl) hFh15 rfl) hFh18 rfl) rfl)
                                refine g_zastB dX12_setsAside_318 sh_144 (by omega) (by omega) (by omega) (fun h33 eh33 => ?_)
                                have hFh33 := Fr.ar eh33
                                have hMh33 := u_144 hMh18 eh33 (by omega) (by omega)
                                have sa2 : SA0 gi (y17 + 1) h33 := SA0_s e296_0 si1 (by assumption) (by assumption) (by omega) (by omega)
                                have s12 : S1n gs h33 := S1_s0 sv1 (by assumption) (by omega) (by omega)
                                refine g_iincB dX12_setsAside_319 rfl rfl (by omega) (by omega) ?_
                                refine g_goto 296 dX12_setsAside_322 (by decide) ?_
                                exact ih296 _ _ hMh33 (Fr.tr (Fr.sub hFh18 rfl) hFh33 rfl) (by omega) (by omega) (by first | exact SA0_0 | exact sa2) s12 (by omega)
                          refine g_istore_n dX12_setsAside_295 (by decide) rfl ?_
                          exact c296 101 _ _ hMh15 Fr.rf (by omega) (by omega) (by first | exact SA0_0 | exact sa2) (S1n.fr (T := [(130, 0), (131, 0), (132, 0), (133, 0), (134, 0), (135, 0), (136, 0), (137, 0), (138, 0), (139, 0), (140, 0), (141, 0), (142, 0), (143, 0)]) f_S1 (Fr.tr (Fr.tr (Fr.tr (Fr.sub hFh6 rfl) hFh9 rfl) hFh12 rfl) hFh15 rfl) rfl) (by omega)
                        · skip
                          refine g_aload_n dX12_setsAside_254 rfl ?_
                          refine gR_X12_145 rfl dX12_setsAside_255 sh_98 (b := 142) (m_98_67 hMh15) ?_
                          refine g_bipush dX12_setsAside_258 (inR_c rfl) (by decide) ?_
                          refine g_iload_n dX12_setsAside_260 rfl (fun _ => ?_)
                          refine g_imulB dX12_setsAside_261 (by omega) (by omega) ?_
                          refine g_iload_n dX12_setsAside_262 rfl (fun _ => ?_)
                          refine g_iaddB dX12_setsAside_263 (by omega) (by omega) ?_
                          refine g_aload_n dX12_setsAside_264 rfl ?_
                          refine gR_X12_55 rfl dX12_setsAside_265 sh_98 (b := 112) (m_98_20 hMh15) ?_
                          refine g_iload_n dX12_setsAside_268 rfl (fun _ => ?_)
                          refine g_ialdB dX12_setsAside_269 sh_112 (by omega) (by omega) (m_112 hMh15 _) (fun v34 ev34 bv34 cv34 => ?_)
                          refine g_iastB dX12_setsAside_270 sh_142 (by omega) (by omega) (fun h35 eh35 => ?_)
                          have hFh35 := Fr.ar eh35
                          have hMh35 := u_142 hMh15 eh35 (by omega) (by omega)
                          refine g_aload_n dX12_setsAside_271 rfl ?_
                          refine gR_X12_148 rfl dX12_setsAside_272 sh_98 (b := 143) (m_98_68 hMh35) ?_
                          refine g_bipush dX12_setsAside_275 (inR_c rfl) (by decide) ?_
                          refine g_iload_n dX12_setsAside_277 rfl (fun _ => ?_)
                          refine g_imulB dX12_setsAside_278 (by omega) (by omega) ?_
                          refine g_iload_n dX12_setsAside_279 rfl (fun _ => ?_)
                          refine g_iaddB dX12_setsAside_280 (by omega) (by omega) ?_
                          refine g_aload_n dX12_setsAside_281 rfl ?_
                          refine gR_X12_58 rfl dX12_setsAside_282 sh_98 (b := 113) (m_98_21 hMh35) ?_
                          refine g_iload_n dX12_setsAside_285 rfl (fun _ => ?_)
                          refine g_ialdB dX12_setsAside_286 sh_113 (by omega) (by omega) (m_113 hMh35 _) (fun v36 ev36 bv36 cv36 => ?_)
                          refine g_iastB dX12_setsAside_287 sh_143 (by omega) (by omega) (fun h37 eh37 => ?_)
                          have hFh37 := Fr.ar eh37
                          have hMh37 := u_143 hMh35 eh37 (by omega) (by omega)
                          refine g_iincB dX12_setsAside_288 rfl rfl (by omega) (by omega) ?_
                          refine g_goto 248 dX12_setsAside_291 (by decide) ?_
                          exact ih248 _ _ hMh37 (Fr.tr (Fr.tr (Fr.sub hFh15 rfl) hFh35 rfl) hFh37 rfl) (by omega) (by omega) (by omega)
                    refine g_istore_n dX12_setsAside_247 (by decide) rfl ?_
                    exact c248 65 _ _ hMh12 Fr.rf (by omega) (by omega) (by omega)
                  · skip
                    refine g_aload_n dX12_setsAside_223 rfl ?_
                    refine gR_X12_124 rfl dX12_setsAside_224 sh_98 (b := 135) (m_98_60 hMh12) ?_
                    refine g_bipush dX12_setsAside_227 (inR_c rfl) (by decide) ?_
                    refine g_iload_n dX12_setsAside_229 rfl (fun _ => ?_)
                    refine g_imulB dX12_setsAside_230 (by omega) (by omega) ?_
                    refine g_iload_n dX12_setsAside_231 rfl (fun _ => ?_)
                    refine g_iaddB dX12_setsAside_232 (by omega) (by omega) ?_
                    refine g_aload_n dX12_setsAside_233 rfl ?_
                    refine gR_X12_33 rfl dX12_setsAside_234 sh_98 (b := 105) (m_98_13 hMh12) ?_
                    refine g_iload_n dX12_setsAside_237 rfl (fun _ => ?_)
                    refine g_ialdB dX12_setsAside_238 sh_105 (by omega) (by omega) (m_105 hMh12 _) (fun v38 ev38 bv38 cv38 => ?_)
                    refine g_iastB dX12_setsAside_239 sh_135 (by omega) (by omega) (fun h39 eh39 => ?_)
                    have hFh39 := Fr.ar eh39
                    have hMh39 := u_135 hMh12 eh39 (by omega) (by omega)
                    refine g_iincB dX12_setsAside_240 rfl rfl (by omega) (by omega) ?_
                    refine g_goto 217 dX12_setsAside_243 (by decide) ?_
                    exact ih217 _ _ hMh39 (Fr.tr (Fr.sub hFh12 rfl) hFh39 rfl) (by omega) (by omega) (by omega)
              refine g_istore_n dX12_setsAside_216 (by decide) rfl ?_
              exact c217 41 _ _ hMh9 Fr.rf (by omega) (by omega) (by omega)
            · skip
              refine g_aload_n dX12_setsAside_73 rfl ?_
              refine gR_X12_118 rfl dX12_setsAside_74 sh_98 (b := 133) (m_98_58 hMh9) ?_
              refine g_bipush dX12_setsAside_77 (inR_c rfl) (by decide) ?_
              refine g_iload_n dX12_setsAside_79 rfl (fun _ => ?_)
              refine g_imulB dX12_setsAside_80 (by omega) (by omega) ?_
              refine g_iload_n dX12_setsAside_81 rfl (fun _ => ?_)
              refine g_iaddB dX12_setsAside_82 (by omega) (by omega) ?_
              refine g_aload_n dX12_setsAside_83 rfl ?_
              refine gR_X12_27 rfl dX12_setsAside_84 sh_98 (b := 103) (m_98_11 hMh9) ?_
              refine g_iload_n dX12_setsAside_87 rfl (fun _ => ?_)
              refine g_ialdB dX12_setsAside_88 sh_103 (by omega) (by omega) (m_103 hMh9 _) (fun v40 ev40 bv40 cv40 => ?_)
              refine g_iastB dX12_setsAside_89 sh_133 (by omega) (by omega) (fun h41 eh41 => ?_)
              have hFh41 := Fr.ar eh41
              have hMh41 := u_133 hMh9 eh41 (by omega) (by omega)
              refine g_aload_n dX12_setsAside_90 rfl ?_
              refine gR_X12_121 rfl dX12_setsAside_91 sh_98 (b := 134) (m_98_59 hMh41) ?_
              refine g_bipush dX12_setsAside_94 (inR_c rfl) (by decide) ?_
              refine g_iload_n dX12_setsAside_96 rfl (fun _ => ?_)
              refine g_imulB dX12_setsAside_97 (by omega) (by omega) ?_
              refine g_iload_n dX12_setsAside_98 rfl (fun _ => ?_)
              refine g_iaddB dX12_setsAside_99 (by omega) (by omega) ?_
              refine g_aload_n dX12_setsAside_100 rfl ?_
              refine gR_X12_30 rfl dX12_setsAside_101 sh_98 (b := 104) (m_98_12 hMh41) ?_
              refine g_iload_n dX12_setsAside_104 rfl (fun _ => ?_)
              refine g_ialdB dX12_setsAside_105 sh_104 (by omega) (by omega) (m_104 hMh41 _) (fun v42 ev42 bv42 cv42 => ?_)
              refine g_iastB dX12_setsAside_106 sh_134 (by omega) (by omega) (fun h43 eh43 => ?_)
              have hFh43 := Fr.ar eh43
              have hMh43 := u_134 hMh41 eh43 (by omega) (by omega)
              refine g_aload_n dX12_setsAside_107 rfl ?_
              refine gR_X12_127 rfl dX12_setsAside_108 sh_98 (b := 136) (m_98_61 hMh43) ?_
              refine g_bipush dX12_setsAside_111 (inR_c rfl) (by decide) ?_
              refine g_iload_n dX12_setsAside_113 rfl (fun _ => ?_)
              refine g_imulB dX12_setsAside_114 (by omega) (by omega) ?_
              refine g_iload_n dX12_setsAside_115 rfl (fun _ => ?_)
              refine g_iaddB dX12_setsAside_116 (by omega) (by omega) ?_
              refine g_aload_n dX12_setsAside_117 rfl ?_
              refine gR_X12_36 rfl dX12_setsAside_118 sh_98 (b := 106) (m_98_14 hMh43) ?_
              refine g_iload_n dX12_setsAside_121 rfl (fun _ => ?_)
              refine g_zaldB dX12_setsAside_122 sh_106 (by omega) (by omega) (m_106 hMh43 _) (fun v44 ev44 bv44 cv44 => ?_)
              refine g_zastB dX12_setsAside_123 sh_136 (by omega) (by omega) (by omega) (fun h45 eh45 => ?_)
              have hFh45 := Fr.ar eh45
              have hMh45 := u_136 hMh43 eh45 (by omega) (by omega)
              refine g_aload_n dX12_setsAside_124 rfl ?_
              refine gR_X12_130 rfl dX12_setsAside_125 sh_98 (b := 137) (m_98_62 hMh45) ?_
              refine g_bipush dX12_setsAside_128 (inR_c rfl) (by decide) ?_
              refine g_iload_n dX12_setsAside_130 rfl (fun _ => ?_)
              refine g_imulB dX12_setsAside_131 (by omega) (by omega) ?_
              refine g_iload_n dX12_setsAside_132 rfl (fun _ => ?_)
              refine g_iaddB dX12_setsAside_133 (by omega) (by omega) ?_
              refine g_aload_n dX12_setsAside_134 rfl ?_
              refine gR_X12_40 rfl dX12_setsAside_135 sh_98 (b := 107) (m_98_15 hMh45) ?_
              refine g_iload_n dX12_setsAside_138 rfl (fun _ => ?_)
              refine g_ialdB dX12_setsAside_139 sh_107 (by omega) (by omega) (m_107 hMh45 _) (fun v46 ev46 bv46 cv46 => ?_)
              refine g_iastB dX12_setsAside_140 sh_137 (by omega) (by omega) (fun h47 eh47 => ?_)
              have hFh47 := Fr.ar eh47
              have hMh47 := u_137 hMh45 eh47 (by omega) (by omega)
              refine g_aload_n dX12_setsAside_141 rfl ?_
              refine gR_X12_133 rfl dX12_setsAside_142 sh_98 (b := 138) (m_98_63 hMh47) ?_
              refine g_bipush dX12_setsAside_145 (inR_c rfl) (by decide) ?_
              refine g_iload_n dX12_setsAside_147 rfl (fun _ => ?_)
              refine g_imulB dX12_setsAside_148 (by omega) (by omega) ?_
              refine g_iload_n dX12_setsAside_149 rfl (fun _ => ?_)
              refine g_iaddB dX12_setsAside_150 (by omega) (by omega) ?_
              refine g_aload_n dX12_setsAside_151 rfl ?_
              refine gR_X12_43 rfl dX12_setsAside_152 sh_98 (b := 108) (m_98_16 hMh47) ?_
              refine g_iload_n dX12_setsAside_155 rfl (fun _ => ?_)
              refine g_ialdB dX12_setsAside_156 sh_108 (by omega) (by omega) (m_108 hMh47 _) (fun v48 ev48 bv48 cv48 => ?_)
              refine g_iastB dX12_setsAside_157 sh_138 (by omega) (by omega) (fun h49 eh49 => ?_)
              have hFh49 := Fr.ar eh49
              have hMh49 := u_138 hMh47 eh49 (by omega) (by omega)
              refine g_aload_n dX12_setsAside_158 rfl ?_
              refine gR_X12_136 rfl dX12_setsAside_159 sh_98 (b := 139) (m_98_64 hMh49) ?_
              refine g_bipush dX12_setsAside_162 (inR_c rfl) (by decide) ?_
              refine g_iload_n dX12_setsAside_164 rfl (fun _ => ?_)
              refine g_imulB dX12_setsAside_165 (by omega) (by omega) ?_
              refine g_iload_n dX12_setsAside_166 rfl (fun _ => ?_)
              refine g_iaddB dX12_setsAside_167 (by omega) (by omega) ?_
              refine g_aload_n dX12_setsAside_168 rfl ?_
              refine gR_X12_46 rfl dX12_setsAside_169 sh_98 (b := 109) (m_98_17 hMh49) ?_
              refine g_iload_n dX12_setsAside_172 rfl (fun _ => ?_)
              refine g_ialdB dX12_setsAside_173 sh_109 (by omega) (by omega) (m_109 hMh49 _) (fun v50 ev50 bv50 cv50 => ?_)
              refine g_iastB dX12_setsAside_174 sh_139 (by omega) (by omega) (fun h51 eh51 => ?_)
              have hFh51 := Fr.ar eh51
              have hMh51 := u_139 hMh49 eh51 (by omega) (by omega)
              refine g_aload_n dX12_setsAside_175 rfl ?_
              refine gR_X12_139 rfl dX12_setsAside_176 sh_98 (b := 140) (m_98_65 hMh51) ?_
              refine g_bipush dX12_setsAside_179 (inR_c rfl) (by decide) ?_
              refine g_iload_n dX12_setsAside_181 rfl (fun _ => ?_)
              refine g_imulB dX12_setsAside_182 (by omega) (by omega) ?_
              refine g_iload_n dX12_setsAside_183 rfl (fun _ => ?_)
              refine g_iaddB dX12_setsAside_184 (by omega) (by omega) ?_
              refine g_aload_n dX12_setsAside_185 rfl ?_
              refine gR_X12_49 rfl dX12_setsAside_186 sh_98 (b := 110) (m_98_18 hMh51) ?_
              refine g_iload_n dX12_setsAside_189 rfl (fun _ => ?_)
              refine g_zaldB dX12_setsAside_190 sh_110 (by omega) (by omega) (m_110 hMh51 _) (fun v52 ev52 bv52 cv52 => ?_)
              refine g_zastB dX12_setsAside_191 sh_140 (by omega) (by omega) (by omega) (fun h53 eh53 => ?_)
              have hFh53 := Fr.ar eh53
              have hMh53 := u_140 hMh51 eh53 (by omega) (by omega)
              refine g_aload_n dX12_setsAside_192 rfl ?_
              refine gR_X12_142 rfl dX12_setsAside_193 sh_98 (b := 141) (m_98_66 hMh53) ?_
              refine g_bipush dX12_setsAside_196 (inR_c rfl) (by decide) ?_
              refine g_iload_n dX12_setsAside_198 rfl (fun _ => ?_)
              refine g_imulB dX12_setsAside_199 (by omega) (by omega) ?_
              refine g_iload_n dX12_setsAside_200 rfl (fun _ => ?_)
              refine g_iaddB dX12_setsAside_201 (by omega) (by omega) ?_
              refine g_aload_n dX12_setsAside_202 rfl ?_
              refine gR_X12_52 rfl dX12_setsAside_203 sh_98 (b := 111) (m_98_19 hMh53) ?_
              refine g_iload_n dX12_setsAside_206 rfl (fun _ => ?_)
              refine g_ialdB dX12_setsAside_207 sh_111 (by omega) (by omega) (m_111 hMh53 _) (fun v54 ev54 bv54 cv54 => ?_)
              refine g_iastB dX12_setsAside_208 sh_141 (by omega) (by omega) (fun h55 eh55 => ?_)
              have hFh55 := Fr.ar eh55
              have hMh55 := u_141 hMh53 eh55 (by omega) (by omega)
              refine g_iincB dX12_setsAside_209 rfl rfl (by omega) (by omega) ?_
              refine g_goto 67 dX12_setsAside_212 (by decide) ?_
              exact ih67 _ _ hMh55 (Fr.tr (Fr.tr (Fr.tr (Fr.tr (Fr.tr (Fr.tr (Fr.tr (Fr.tr (Fr.sub hFh9 rfl) hFh41 rfl) hFh43 rfl) hFh45 rfl) hFh47 rfl) hFh49 rfl) hFh51 rfl) hFh53 rfl) hFh55 rfl) (by omega) (by omega) (by omega)
        refine g_istore_n dX12_setsAside_66 (by decide) rfl ?_
        exact c67 9 _ _ hMh6 Fr.rf (by omega) (by omega) (by omega)
      · skip
        refine g_aload_n dX12_setsAside_8 rfl ?_
        refine gR_X12_109 rfl dX12_setsAside_9 sh_98 (b := 130) (m_98_55 hMh6) ?_
        refine g_bipush dX12_setsAside_12 (inR_c rfl) (by decide) ?_
        refine g_iload_n dX12_setsAside_14 rfl (fun _ => ?_)
        refine g_imulB dX12_setsAside_15 (by omega) (by omega) ?_
        refine g_iload_n dX12_setsAside_16 rfl (fun _ => ?_)
        refine g_iaddB dX12_setsAside_17 (by omega) (by omega) ?_
        refine g_aload_n dX12_setsAside_18 rfl ?_
        refine gR_X12_17 rfl dX12_setsAside_19 sh_98 (b := 100) (m_98_8 hMh6) ?_
        refine g_iload_n dX12_setsAside_22 rfl (fun _ => ?_)
        refine g_ialdB dX12_setsAside_23 sh_100 (by omega) (by omega) (m_100 hMh6 _) (fun v56 ev56 bv56 cv56 => ?_)
        refine g_iastB dX12_setsAside_24 sh_130 (by omega) (by omega) (fun h57 eh57 => ?_)
        have hFh57 := Fr.ar eh57
        have hMh57 := u_130 hMh6 eh57 (by omega) (by omega)
        refine g_aload_n dX12_setsAside_25 rfl ?_
        refine gR_X12_112 rfl dX12_setsAside_26 sh_98 (b := 131) (m_98_56 hMh57) ?_
        refine g_bipush dX12_setsAside_29 (inR_c rfl) (by decide) ?_
        refine g_iload_n dX12_setsAside_31 rfl (fun _ => ?_)
        refine g_imulB dX12_setsAside_32 (by omega) (by omega) ?_
        refine g_iload_n dX12_setsAside_33 rfl (fun _ => ?_)
        refine g_iaddB dX12_setsAside_34 (by omega) (by omega) ?_
        refine g_aload_n dX12_setsAside_35 rfl ?_
        refine gR_X12_21 rfl dX12_setsAside_36 sh_98 (b := 101) (m_98_9 hMh57) ?_
        refine g_iload_n dX12_setsAside_39 rfl (fun _ => ?_)
        refine g_ialdB dX12_setsAside_40 sh_101 (by omega) (by omega) (m_101 hMh57 _) (fun v58 ev58 bv58 cv58 => ?_)
        refine g_iastB dX12_setsAside_41 sh_131 (by omega) (by omega) (fun h59 eh59 => ?_)
        have hFh59 := Fr.ar eh59
        have hMh59 := u_131 hMh57 eh59 (by omega) (by omega)
        refine g_aload_n dX12_setsAside_42 rfl ?_
        refine gR_X12_115 rfl dX12_setsAside_43 sh_98 (b := 132) (m_98_57 hMh59) ?_
        refine g_bipush dX12_setsAside_46 (inR_c rfl) (by decide) ?_
        refine g_iload_n dX12_setsAside_48 rfl (fun _ => ?_)
        refine g_imulB dX12_setsAside_49 (by omega) (by omega) ?_
        refine g_iload_n dX12_setsAside_50 rfl (fun _ => ?_)
        refine g_iaddB dX12_setsAside_51 (by omega) (by omega) ?_
        refine g_aload_n dX12_setsAside_52 rfl ?_
        refine gR_X12_24 rfl dX12_setsAside_53 sh_98 (b := 102) (m_98_10 hMh59) ?_
        refine g_iload_n dX12_setsAside_56 rfl (fun _ => ?_)
        refine g_ialdB dX12_setsAside_57 sh_102 (by omega) (by omega) (m_102 hMh59 _) (fun v60 ev60 bv60 cv60 => ?_)
        refine g_iastB dX12_setsAside_58 sh_132 (by omega) (by omega) (fun h61 eh61 => ?_)
        have hFh61 := Fr.ar eh61
        have hMh61 := u_132 hMh59 eh61 (by omega) (by omega)
        refine g_iincB dX12_setsAside_59 rfl rfl (by omega) (by omega) ?_
        refine g_goto 2 dX12_setsAside_62 (by decide) ?_
        exact ih2 _ _ hMh61 (Fr.tr (Fr.tr (Fr.tr (Fr.sub hFh6 rfl) hFh57 rfl) hFh59 rfl) hFh61 rfl) (by omega) (by omega) (by omega)
  refine g_istore_n dX12_setsAside_1 (by decide) rfl ?_
  exact c2 11 _ _ hM Fr.rf (by omega) (by omega) (by omega)
