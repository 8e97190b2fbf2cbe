set_option maxRecDepth 100000 in
set_option maxHeartbeats 4000000 in
theorem c_X6_has_22 (x1 : Int) (h : MEM) (hM : MBx h) (bx1 : -2147483648 ≤ x1) (dx1 : x1 ≤ 2147483647) : CP yX6_has cX6_has 2 (some .boolean) 1 [pR 22, pI x1] h (fun x => (x = 1 ∧ 0 ≤ x1 + (0) ∧ x1 ≤ h 22 0 + (-1) ∨ x = 0 ∧ ¬ (0 ≤ x1 + (0) ∧ x1 ≤ h 22 0 + (-1)))) := by
  refine CP.of (L0 := [some (pR 22), some (pI x1)]) rfl (Nat.le_of_ble_eq_true rfl) rfl (fun Po hPo hav => ?_)
  refine g_iload_n dX6_has_0 rfl (fun _ => ?_)
  refine g_if_lt 16 dX6_has_1 (by decide) (fun q1 => ?_) (fun q1 => ?_)
  · skip
    refine g_iconst dX6_has_16 (inR_c rfl) ?_
    exact g_ireturn dX6_has_17 (retZ (by omega)) (hPo _ (by omega))
  · skip
    refine g_iload_n dX6_has_4 rfl (fun _ => ?_)
    refine g_aload_n dX6_has_5 rfl ?_
    refine gI_X6_9 rfl dX6_has_6 sh_22 (m_22_0 hM) (fun v2 ev2 bv2 cv2 => ?_)
    refine g_icmp_ge 16 dX6_has_9 (by decide) (fun q3 => ?_) (fun q3 => ?_)
    · skip
      refine g_iconst dX6_has_16 (inR_c rfl) ?_
      exact g_ireturn dX6_has_17 (retZ (by omega)) (hPo _ (by omega))
    · skip
      refine g_iconst dX6_has_12 (inR_c rfl) ?_
      refine g_goto 17 dX6_has_13 (by decide) ?_
      exact g_ireturn dX6_has_17 (retZ (by omega)) (hPo _ (by omega))
set_option maxRecDepth 100000 in
set_option maxHeartbeats 4000000 in
theorem c_X0_has_26 (x1 : Int) (h : MEM) (hM : MBx h) (bx1 : -2147483648 ≤ x1) (dx1 : x1 ≤ 2147483647) : CP yX0_has cX0_has 2 (some .boolean) 1 [pR 26, pI x1] h (fun x => (x = 1 ∧ 0 ≤ x1 + (0) ∧ x1 ≤ h 26 0 + (-1) ∨ x = 0 ∧ ¬ (0 ≤ x1 + (0) ∧ x1 ≤ h 26 0 + (-1)))) := by
  refine CP.of (L0 := [some (pR 26), some (pI x1)]) rfl (Nat.le_of_ble_eq_true rfl) rfl (fun Po hPo hav => ?_)
  refine g_iload_n dX0_has_0 rfl (fun _ => ?_)
  refine g_if_lt 16 dX0_has_1 (by decide) (fun q1 => ?_) (fun q1 => ?_)
  · skip
    refine g_iconst dX0_has_16 (inR_c rfl) ?_
    exact g_ireturn dX0_has_17 (retZ (by omega)) (hPo _ (by omega))
  · skip
    refine g_iload_n dX0_has_4 rfl (fun _ => ?_)
    refine g_aload_n dX0_has_5 rfl ?_
    refine gI_X0_9 rfl dX0_has_6 sh_26 (m_26_0 hM) (fun v2 ev2 bv2 cv2 => ?_)
    refine g_icmp_ge 16 dX0_has_9 (by decide) (fun q3 => ?_) (fun q3 => ?_)
    · skip
      refine g_iconst dX0_has_16 (inR_c rfl) ?_
      exact g_ireturn dX0_has_17 (retZ (by omega)) (hPo _ (by omega))
    · skip
      refine g_iconst dX0_has_12 (inR_c rfl) ?_
      refine g_goto 17 dX0_has_13 (by decide) ?_
      exact g_ireturn dX0_has_17 (retZ (by omega)) (hPo _ (by omega))
set_option maxRecDepth 100000 in
set_option maxHeartbeats 4000000 in
theorem c_X0_skillInAll_26 (x1 : Int) (h : MEM) (hM : MBx h) (bx1 : 0 ≤ x1) (dx1 : x1 ≤ 7) : CP yX0_skillInAll cX0_skillInAll 4 (some .int) 2 [pR 26, pI x1] h (fun x => -2147483648 ≤ x ∧ x ≤ 2147483647) := by
  refine CP.of (L0 := [some (pR 26), some (pI x1), none, none]) rfl (Nat.le_of_ble_eq_true rfl) rfl (fun Po hPo hav => ?_)
  refine g_iconst dX0_skillInAll_0 (inR_c rfl) ?_
  refine g_istore_n dX0_skillInAll_1 (by decide) rfl ?_
  refine g_iconst dX0_skillInAll_2 (inR_c rfl) ?_
  have c4 : ∀ (n : Nat) (y1 y2 : Int) , -2147483648 ≤ y1 → y1 ≤ 2147483647 → 0 ≤ y2 → y2 ≤ 5 → 5 - y2 < (n : Int) → G yX0_skillInAll cX0_skillInAll 4 (some .int) none Po (2, 120, 0, 0) 4 [some (pR 26), some (pI x1), some (pI y1), some (pI y2)] [] SH h 0 0 := by
    intro n
    induction n with
    | zero =>
      intro y1 y2 by1 dy1 by2 dy2 hn
      exfalso; omega
    | succ n ih4 =>
      intro y1 y2 by1 dy1 by2 dy2 hn
      refine g_iload_n dX0_skillInAll_4 rfl (fun _ => ?_)
      refine g_iconst dX0_skillInAll_5 (inR_c rfl) ?_
      refine g_icmp_ge 36 dX0_skillInAll_6 (by decide) (fun q3 => ?_) (fun q3 => ?_)
      · skip
        refine g_iload_n dX0_skillInAll_36 rfl (fun _ => ?_)
        exact g_ireturn dX0_skillInAll_37 retI (hPo _ ⟨(by omega), (by omega)⟩)
      · skip
        refine g_aload_n dX0_skillInAll_9 rfl ?_
        refine g_iload_n dX0_skillInAll_10 rfl (fun _ => ?_)
        refine g_cVP (as := [_]) (c_X0_has_26 _ h hM (by omega) (by omega)) dX0_skillInAll_11 mi_X0_has in_X0_has se_X0_has ml_X0_31 rfl rfl rfl sh_26 rfl rfl (Nat.le_of_ble_eq_true rfl) (fun v4 q5 => ?_)
        obtain ⟨v6, ev6⟩ : ∃ z, z = h 26 0 := ⟨_, rfl⟩
        have bv6 : 0 ≤ v6 ∧ v6 ≤ 8 := by rw [ev6]; exact (m_26_0 hM)
        rcases q5 with ⟨rfl, q5⟩ | ⟨rfl, q5⟩
        · skip
          refine g_if_eq 36 dX0_skillInAll_14 (by decide) (fun _ => by exfalso; omega) (fun q7 => ?_)
          refine g_iload_n dX0_skillInAll_17 rfl (fun _ => ?_)
          refine g_aload_n dX0_skillInAll_18 rfl ?_
          refine gR_X0_28 rfl dX0_skillInAll_19 sh_26 (b := 31) (m_26_5 hM) ?_
          refine g_iload_n dX0_skillInAll_22 rfl (fun _ => ?_)
          refine g_iconst dX0_skillInAll_23 (inR_c rfl) ?_
          refine g_imulB dX0_skillInAll_24 (by omega) (by omega) ?_
          refine g_iload_n dX0_skillInAll_25 rfl (fun _ => ?_)
          refine g_iaddB dX0_skillInAll_26 (by omega) (by omega) ?_
          refine g_ialdB dX0_skillInAll_27 sh_31 (by omega) (by omega) (m_31 hM _) (fun v8 ev8 bv8 cv8 => ?_)
          refine g_iaddF dX0_skillInAll_28 (fun v9 bv9 cv9 => ?_)
          refine g_istore_n dX0_skillInAll_29 (by decide) rfl ?_
          refine g_iincB dX0_skillInAll_30 rfl rfl (by omega) (by omega) ?_
          refine g_goto 4 dX0_skillInAll_33 (by decide) ?_
          exact ih4 _ _ (by omega) (by omega) (by omega) (by omega) (by omega)
        · skip
          refine g_if_eq 36 dX0_skillInAll_14 (by decide) (fun q10 => ?_) (fun _ => by exfalso; omega)
          refine g_iload_n dX0_skillInAll_36 rfl (fun _ => ?_)
          exact g_ireturn dX0_skillInAll_37 retI (hPo _ ⟨(by omega), (by omega)⟩)
  refine g_istore_n dX0_skillInAll_3 (by decide) rfl ?_
  exact c4 6 _ _ (by omega) (by omega) (by omega) (by omega) (by omega)
set_option maxRecDepth 100000 in
set_option maxHeartbeats 4000000 in
theorem c_X9_tell_21 (x1 x2 x3 : Int) (h : MEM) (hM : MBx h) (bx1 : 0 ≤ x1) (dx1 : x1 ≤ 7) (bx2 : 0 ≤ x2) (dx2 : x2 ≤ 9) (bx3 : 0 ≤ x3) (dx3 : x3 ≤ 9) : CV yX9_tell cX9_tell 4 (none) 3 [pR 21, pI x1, pI x2, pI x3] h (fun h' => MBx h' ∧ Fr [(40, 0)] h h') := by
  refine CV.of (L0 := [some (pR 21), some (pI x1), some (pI x2), some (pI x3)]) rfl (Nat.le_of_ble_eq_true rfl) rfl (fun Po hPo hav => ?_)
  refine g_aload_n dX9_tell_0 rfl ?_
  refine gR_X9_52 rfl dX9_tell_1 sh_21 (b := 40) (m_21_9 hM) ?_
  refine g_iconst dX9_tell_4 (inR_c rfl) ?_
  refine g_iload_n dX9_tell_5 rfl (fun _ => ?_)
  refine g_iastB dX9_tell_6 sh_40 (by omega) (by omega) (fun h1 eh1 => ?_)
  have hFh1 := Fr.ar eh1
  have hMh1 := u_40 hM eh1 (by omega) (by omega)
  refine g_aload_n dX9_tell_7 rfl ?_
  refine gR_X9_52 rfl dX9_tell_8 sh_21 (b := 40) (m_21_9 hMh1) ?_
  refine g_iconst dX9_tell_11 (inR_c rfl) ?_
  refine g_aload_n dX9_tell_12 rfl ?_
  refine gR_X9_21 rfl dX9_tell_13 sh_21 (b := 26) (m_21_1 hMh1) ?_
  refine gR_X9_153 rfl dX9_tell_16 sh_26 (b := 28) (m_26_2 hMh1) ?_
  refine g_iload_n dX9_tell_19 rfl (fun _ => ?_)
  refine g_ialdB dX9_tell_20 sh_28 (by omega) (by omega) (m_28 hMh1 _) (fun v2 ev2 bv2 cv2 => ?_)
  refine g_iastB dX9_tell_21 sh_40 (by omega) (by omega) (fun h3 eh3 => ?_)
  have hFh3 := Fr.ar eh3
  have hMh3 := u_40 hMh1 eh3 (by omega) (by omega)
  refine g_aload_n dX9_tell_22 rfl ?_
  refine gR_X9_52 rfl dX9_tell_23 sh_21 (b := 40) (m_21_9 hMh3) ?_
  refine g_iconst dX9_tell_26 (inR_c rfl) ?_
  refine g_aload_n dX9_tell_27 rfl ?_
  refine gR_X9_21 rfl dX9_tell_28 sh_21 (b := 26) (m_21_1 hMh3) ?_
  refine g_iload_n dX9_tell_31 rfl (fun _ => ?_)
  refine g_cVP (as := [_]) (c_X0_skillInAll_26 _ h3 hMh3 (by omega) (by omega)) dX9_tell_32 mi_X0_skillInAll in_X0_skillInAll se_X0_skillInAll ml_X9_156 rfl rfl rfl sh_26 rfl rfl (Nat.le_of_ble_eq_true rfl) (fun v4 q5 => ?_)
  obtain ⟨bv4, cv4⟩ := q5
  refine g_iastB dX9_tell_35 sh_40 (by omega) (by omega) (fun h6 eh6 => ?_)
  have hFh6 := Fr.ar eh6
  have hMh6 := u_40 hMh3 eh6 (by omega) (by omega)
  refine g_aload_n dX9_tell_36 rfl ?_
  refine gR_X9_52 rfl dX9_tell_37 sh_21 (b := 40) (m_21_9 hMh6) ?_
  refine g_iconst dX9_tell_40 (inR_c rfl) ?_
  refine g_aload_n dX9_tell_41 rfl ?_
  refine gR_X9_21 rfl dX9_tell_42 sh_21 (b := 26) (m_21_1 hMh6) ?_
  refine gR_X9_75 rfl dX9_tell_45 sh_26 (b := 29) (m_26_3 hMh6) ?_
  refine g_iload_n dX9_tell_48 rfl (fun _ => ?_)
  refine g_ialdB dX9_tell_49 sh_29 (by omega) (by omega) (m_29 hMh6 _) (fun v7 ev7 bv7 cv7 => ?_)
  refine g_iastB dX9_tell_50 sh_40 (by omega) (by omega) (fun h8 eh8 => ?_)
  have hFh8 := Fr.ar eh8
  have hMh8 := u_40 hMh6 eh8 (by omega) (by omega)
  refine g_aload_n dX9_tell_51 rfl ?_
  refine gR_X9_52 rfl dX9_tell_52 sh_21 (b := 40) (m_21_9 hMh8) ?_
  refine g_iconst dX9_tell_55 (inR_c rfl) ?_
  refine g_iload_n dX9_tell_56 rfl (fun _ => ?_)
  refine g_iastB dX9_tell_57 sh_40 (by omega) (by omega) (fun h9 eh9 => ?_)
  have hFh9 := Fr.ar eh9
  have hMh9 := u_40 hMh8 eh9 (by omega) (by omega)
  refine g_aload_n dX9_tell_58 rfl ?_
  refine gR_X9_52 rfl dX9_tell_59 sh_21 (b := 40) (m_21_9 hMh9) ?_
  refine g_iconst dX9_tell_62 (inR_c rfl) ?_
  refine g_aload_n dX9_tell_63 rfl ?_
  refine gR_X9_12 rfl dX9_tell_64 sh_21 (b := 22) (m_21_0 hMh9) ?_
  refine gR_X9_111 rfl dX9_tell_67 sh_22 (b := 24) (m_22_2 hMh9) ?_
  refine g_iload_n dX9_tell_70 rfl (fun _ => ?_)
  refine g_ialdB dX9_tell_71 sh_24 (by omega) (by omega) (m_24 hMh9 _) (fun v10 ev10 bv10 cv10 => ?_)
  refine g_iastB dX9_tell_72 sh_40 (by omega) (by omega) (fun h11 eh11 => ?_)
  have hFh11 := Fr.ar eh11
  have hMh11 := u_40 hMh9 eh11 (by omega) (by omega)
  refine g_aload_n dX9_tell_73 rfl ?_
  refine gR_X9_52 rfl dX9_tell_74 sh_21 (b := 40) (m_21_9 hMh11) ?_
  refine g_bipush dX9_tell_77 (inR_c rfl) (by decide) ?_
  refine g_aload_n dX9_tell_79 rfl ?_
  refine gR_X9_12 rfl dX9_tell_80 sh_21 (b := 22) (m_21_0 hMh11) ?_
  refine gR_X9_159 rfl dX9_tell_83 sh_22 (b := 25) (m_22_3 hMh11) ?_
  refine g_iload_n dX9_tell_86 rfl (fun _ => ?_)
  refine g_ialdB dX9_tell_87 sh_25 (by omega) (by omega) (m_25 hMh11 _) (fun v12 ev12 bv12 cv12 => ?_)
  refine g_iastB dX9_tell_88 sh_40 (by omega) (by omega) (fun h13 eh13 => ?_)
  have hFh13 := Fr.ar eh13
  have hMh13 := u_40 hMh11 eh13 (by omega) (by omega)
  refine g_aload_n dX9_tell_89 rfl ?_
  refine gR_X9_52 rfl dX9_tell_90 sh_21 (b := 40) (m_21_9 hMh13) ?_
  refine g_bipush dX9_tell_93 (inR_c rfl) (by decide) ?_
  refine g_aload_n dX9_tell_95 rfl ?_
  refine gI_X9_42 rfl dX9_tell_96 sh_21 (m_21_6 hMh13) (fun v14 ev14 bv14 cv14 => ?_)
  refine g_iastB dX9_tell_99 sh_40 (by omega) (by omega) (fun h15 eh15 => ?_)
  have hFh15 := Fr.ar eh15
  have hMh15 := u_40 hMh13 eh15 (by omega) (by omega)
  refine g_aload_n dX9_tell_100 rfl ?_
  refine gR_X9_52 rfl dX9_tell_101 sh_21 (b := 40) (m_21_9 hMh15) ?_
  refine g_bipush dX9_tell_104 (inR_c rfl) (by decide) ?_
  refine g_iload_n dX9_tell_106 rfl (fun _ => ?_)
  refine g_iastB dX9_tell_107 sh_40 (by omega) (by omega) (fun h16 eh16 => ?_)
  have hFh16 := Fr.ar eh16
  have hMh16 := u_40 hMh15 eh16 (by omega) (by omega)
  refine g_aload_n dX9_tell_108 rfl ?_
  refine gR_X9_52 rfl dX9_tell_109 sh_21 (b := 40) (m_21_9 hMh16) ?_
  refine g_bipush dX9_tell_112 (inR_c rfl) (by decide) ?_
  refine g_iconst dX9_tell_114 (inR_c rfl) ?_
  refine g_iastB dX9_tell_115 sh_40 (by omega) (by omega) (fun h17 eh17 => ?_)
  have hFh17 := Fr.ar eh17
  have hMh17 := u_40 hMh16 eh17 (by omega) (by omega)
  refine g_aload_n dX9_tell_116 rfl ?_
  refine gR_X9_52 rfl dX9_tell_117 sh_21 (b := 40) (m_21_9 hMh17) ?_
  refine g_bipush dX9_tell_120 (inR_c rfl) (by decide) ?_
  refine g_iconst dX9_tell_122 (inR_c rfl) ?_
  refine g_iastB dX9_tell_123 sh_40 (by omega) (by omega) (fun h18 eh18 => ?_)
  have hFh18 := Fr.ar eh18
  have hMh18 := u_40 hMh17 eh18 (by omega) (by omega)
  refine g_aload_n dX9_tell_124 rfl ?_
  refine gR_X9_52 rfl dX9_tell_125 sh_21 (b := 40) (m_21_9 hMh18) ?_
  refine g_bipush dX9_tell_128 (inR_c rfl) (by decide) ?_
  refine g_iconst dX9_tell_130 (inR_c rfl) ?_
  refine g_iastB dX9_tell_131 sh_40 (by omega) (by omega) (fun h19 eh19 => ?_)
  have hFh19 := Fr.ar eh19
  have hMh19 := u_40 hMh18 eh19 (by omega) (by omega)
  exact g_return dX9_tell_132 rfl (hPo _ ⟨hMh19, (Fr.tr (Fr.tr (Fr.tr (Fr.tr (Fr.tr (Fr.tr (Fr.tr (Fr.tr (Fr.tr (Fr.tr (Fr.tr (Fr.sub hFh1 rfl) hFh3 rfl) hFh6 rfl) hFh8 rfl) hFh9 rfl) hFh11 rfl) hFh13 rfl) hFh15 rfl) hFh16 rfl) hFh17 rfl) hFh18 rfl) hFh19 rfl)⟩)
set_option maxRecDepth 100000 in
set_option maxHeartbeats 4000000 in
theorem c_X2_reckon_82_40 (x1 x2 : Int) (h : MEM) (hM : MBx h) (bx1 : -2147483648 ≤ x1) (dx1 : x1 ≤ 2147483647) (bx2 : -2147483648 ≤ x2) (dx2 : x2 ≤ 2147483647) : CI yX2_reckon cX2_reckon 9 (some .int) 2 [pR 82, pI x1, pI x2, pR 40] h (fun x h' => MBx h' ∧ Fr [(89, 0)] h h' ∧ -2147483648 ≤ x ∧ x ≤ 2147483647) := by
  refine CI.of (L0 := [some (pR 82), some (pI x1), some (pI x2), some (pR 40), none, none, none, none, none]) rfl (Nat.le_of_ble_eq_true rfl) rfl (fun Po hPo hav => ?_)
  refine g_iload_n dX2_reckon_0 rfl (fun _ => ?_)
  refine g_istore dX2_reckon_1 (by decide) rfl ?_
  refine g_iconst dX2_reckon_3 (inR_c rfl) ?_
  refine g_istore dX2_reckon_4 (by decide) rfl ?_
  refine g_iconst dX2_reckon_6 (inR_c rfl) ?_
  have c9 : ∀ (n : Nat) (y1 y2 y3 : Int) (h4 : MEM), MBx h4 → Fr [(89, 0)] h h4 → -2147483648 ≤ y1 → y1 ≤ 2147483647 → 0 ≤ y2 → y2 ≤ 40 → 0 ≤ y3 → y3 ≤ 200 → 200 - y3 < (n : Int) → G yX2_reckon cX2_reckon 9 (some .int) none Po (2, 120, 0, 0) 9 [some (pR 82), none, some (pI x2), some (pR 40), some (pI y1), some (pI y2), some (pI y3), none, none] [] SH h4 0 0 := by
    intro n
    induction n with
    | zero =>
      intro y1 y2 y3 h4 hMh4 hFh4 by1 dy1 by2 dy2 by3 dy3 hn
      exfalso; omega
    | succ n ih9 =>
      intro y1 y2 y3 h4 hMh4 hFh4 by1 dy1 by2 dy2 by3 dy3 hn
      refine g_iload dX2_reckon_9 rfl (fun _ => ?_)
      refine g_sipush dX2_reckon_11 (inR_c rfl) (by decide) ?_
      refine g_icmp_ge 289 dX2_reckon_14 (by decide) (fun q5 => ?_) (fun q5 => ?_)
      · skip
        refine g_iload dX2_reckon_289 rfl (fun _ => ?_)
        refine g_if_le 306 dX2_reckon_291 (by decide) (fun q6 => ?_) (fun q6 => ?_)
        · skip
          refine g_iconst dX2_reckon_306 (inR_c rfl) ?_
          exact g_ireturn dX2_reckon_307 retI (hPo _ _ ⟨hMh4, (Fr.sub hFh4 rfl), (by omega), (by omega)⟩)
        · skip
          refine g_aload_n dX2_reckon_294 rfl ?_
          refine gR_X2_37 rfl dX2_reckon_295 sh_82 (b := 89) (m_82_8 hMh4) ?_
          refine g_iload dX2_reckon_298 rfl (fun _ => ?_)
          refine g_iconst dX2_reckon_300 (inR_c rfl) ?_
          refine g_isubB dX2_reckon_301 (by omega) (by omega) ?_
          refine g_ialdB dX2_reckon_302 sh_89 (by omega) (by omega) (m_89 hMh4 _) (fun v7 ev7 bv7 cv7 => ?_)
          refine g_goto 307 dX2_reckon_303 (by decide) ?_
          exact g_ireturn dX2_reckon_307 retI (hPo _ _ ⟨hMh4, (Fr.sub hFh4 rfl), (by omega), (by omega)⟩)
      · skip
        refine g_iload dX2_reckon_17 rfl (fun _ => ?_)
        refine g_if_lt 289 dX2_reckon_19 (by decide) (fun q8 => ?_) (fun q8 => ?_)
        · skip
          refine g_iload dX2_reckon_289 rfl (fun _ => ?_)
          refine g_if_le 306 dX2_reckon_291 (by decide) (fun q9 => ?_) (fun q9 => ?_)
          · skip
            refine g_iconst dX2_reckon_306 (inR_c rfl) ?_
            exact g_ireturn dX2_reckon_307 retI (hPo _ _ ⟨hMh4, (Fr.sub hFh4 rfl), (by omega), (by omega)⟩)
          · skip
            refine g_aload_n dX2_reckon_294 rfl ?_
            refine gR_X2_37 rfl dX2_reckon_295 sh_82 (b := 89) (m_82_8 hMh4) ?_
            refine g_iload dX2_reckon_298 rfl (fun _ => ?_)
            refine g_iconst dX2_reckon_300 (inR_c rfl) ?_
            refine g_isubB dX2_reckon_301 (by omega) (by omega) ?_
            refine g_ialdB dX2_reckon_302 sh_89 (by omega) (by omega) (m_89 hMh4 _) (fun v10 ev10 bv10 cv10 => ?_)
            refine g_goto 307 dX2_reckon_303 (by decide) ?_
            exact g_ireturn dX2_reckon_307 retI (hPo _ _ ⟨hMh4, (Fr.sub hFh4 rfl), (by omega), (by omega)⟩)
        · skip
          refine g_iload dX2_reckon_22 rfl (fun _ => ?_)
          refine g_iload_n dX2_reckon_24 rfl (fun _ => ?_)
          refine g_icmp_ge 289 dX2_reckon_25 (by decide) (fun q11 => ?_) (fun q11 => ?_)
          · skip
            refine g_iload dX2_reckon_289 rfl (fun _ => ?_)
            refine g_if_le 306 dX2_reckon_291 (by decide) (fun q12 => ?_) (fun q12 => ?_)
            · skip
              refine g_iconst dX2_reckon_306 (inR_c rfl) ?_
              exact g_ireturn dX2_reckon_307 retI (hPo _ _ ⟨hMh4, (Fr.sub hFh4 rfl), (by omega), (by omega)⟩)
            · skip
              refine g_aload_n dX2_reckon_294 rfl ?_
              refine gR_X2_37 rfl dX2_reckon_295 sh_82 (b := 89) (m_82_8 hMh4) ?_
              refine g_iload dX2_reckon_298 rfl (fun _ => ?_)
              refine g_iconst dX2_reckon_300 (inR_c rfl) ?_
              refine g_isubB dX2_reckon_301 (by omega) (by omega) ?_
              refine g_ialdB dX2_reckon_302 sh_89 (by omega) (by omega) (m_89 hMh4 _) (fun v13 ev13 bv13 cv13 => ?_)
              refine g_goto 307 dX2_reckon_303 (by decide) ?_
              exact g_ireturn dX2_reckon_307 retI (hPo _ _ ⟨hMh4, (Fr.sub hFh4 rfl), (by omega), (by omega)⟩)
          · skip
            refine g_iload dX2_reckon_28 rfl (fun _ => ?_)
            refine g_aload_n dX2_reckon_30 rfl ?_
            refine gI_X2_15 rfl dX2_reckon_31 sh_82 (m_82_1 hMh4) (fun v14 ev14 bv14 cv14 => ?_)
            refine g_icmp_ge 289 dX2_reckon_34 (by decide) (fun q15 => ?_) (fun q15 => ?_)
            · skip
              refine g_iload dX2_reckon_289 rfl (fun _ => ?_)
              refine g_if_le 306 dX2_reckon_291 (by decide) (fun q16 => ?_) (fun q16 => ?_)
              · skip
                refine g_iconst dX2_reckon_306 (inR_c rfl) ?_
                exact g_ireturn dX2_reckon_307 retI (hPo _ _ ⟨hMh4, (Fr.sub hFh4 rfl), (by omega), (by omega)⟩)
              · skip
                refine g_aload_n dX2_reckon_294 rfl ?_
                refine gR_X2_37 rfl dX2_reckon_295 sh_82 (b := 89) (m_82_8 hMh4) ?_
                refine g_iload dX2_reckon_298 rfl (fun _ => ?_)
                refine g_iconst dX2_reckon_300 (inR_c rfl) ?_
                refine g_isubB dX2_reckon_301 (by omega) (by omega) ?_
                refine g_ialdB dX2_reckon_302 sh_89 (by omega) (by omega) (m_89 hMh4 _) (fun v17 ev17 bv17 cv17 => ?_)
                refine g_goto 307 dX2_reckon_303 (by decide) ?_
                exact g_ireturn dX2_reckon_307 retI (hPo _ _ ⟨hMh4, (Fr.sub hFh4 rfl), (by omega), (by omega)⟩)
            · skip
              refine g_aload_n dX2_reckon_37 rfl ?_
              refine gR_X2_31 rfl dX2_reckon_38 sh_82 (b := 87) (m_82_6 hMh4) ?_
              refine g_iload dX2_reckon_41 rfl (fun _ => ?_)
              refine g_ialdB dX2_reckon_43 sh_87 (by omega) (by omega) (m_87 hMh4 _) (fun v18 ev18 bv18 cv18 => ?_)
              refine g_istore dX2_reckon_44 (by decide) rfl ?_
              refine g_aload_n dX2_reckon_46 rfl ?_
              refine gR_X2_34 rfl dX2_reckon_47 sh_82 (b := 88) (m_82_7 hMh4) ?_
              refine g_iload dX2_reckon_50 rfl (fun _ => ?_)
              refine g_ialdB dX2_reckon_52 sh_88 (by omega) (by omega) (m_88 hMh4 _) (fun v19 ev19 bv19 cv19 => ?_)
              refine g_istore dX2_reckon_53 (by decide) rfl ?_
              refine g_iincB dX2_reckon_55 rfl rfl (by omega) (by omega) ?_
              refine g_iload dX2_reckon_58 rfl (fun _ => ?_)
              refine g_if_eq 69 dX2_reckon_60 (by decide) (fun q20 => ?_) (fun q20 => ?_)
              · skip
                refine g_iload dX2_reckon_69 rfl (fun _ => ?_)
                refine g_bipush dX2_reckon_71 (inR_c rfl) (by decide) ?_
                refine g_icmp_ge 94 dX2_reckon_73 (by decide) (fun q21 => ?_) (fun q21 => ?_)
                · skip
                  refine g_iconst dX2_reckon_94 (inR_c rfl) ?_
                  exact g_ireturn dX2_reckon_95 retI (hPo _ _ ⟨hMh4, (Fr.sub hFh4 rfl), (by omega), (by omega)⟩)
                · skip
                  refine g_iload dX2_reckon_76 rfl (fun _ => ?_)
                  refine g_iconst dX2_reckon_78 (inR_c rfl) ?_
                  refine g_icmp_ne 96 dX2_reckon_79 (by decide) (fun q22 => ?_) (fun _ => by exfalso; omega)
                  refine g_aload_n dX2_reckon_96 rfl ?_
                  refine gR_X2_37 rfl dX2_reckon_97 sh_82 (b := 89) (m_82_8 hMh4) ?_
                  refine g_iload dX2_reckon_100 rfl (fun _ => ?_)
                  refine g_iload dX2_reckon_102 rfl (fun _ => ?_)
                  refine g_if_ne 112 dX2_reckon_104 (by decide) (fun _ => by exfalso; omega) (fun q23 => ?_)
                  refine g_iload dX2_reckon_107 rfl (fun _ => ?_)
                  refine g_goto 116 dX2_reckon_109 (by decide) ?_
                  refine g_iastB dX2_reckon_116 sh_89 (by omega) (by omega) (fun h24 eh24 => ?_)
                  have hFh24 := Fr.ar eh24
                  have hMh24 := u_89 hMh4 eh24 (by omega) (by omega)
                  refine g_iincB dX2_reckon_117 rfl rfl (by omega) (by omega) ?_
                  refine g_goto 283 dX2_reckon_120 (by decide) ?_
                  refine g_iincB dX2_reckon_283 rfl rfl (by omega) (by omega) ?_
                  refine g_goto 9 dX2_reckon_286 (by decide) ?_
                  refine g_drop 7 ?_
                  refine g_drop 8 ?_
                  exact ih9 _ _ _ _ hMh24 (Fr.tr (Fr.sub hFh4 rfl) hFh24 rfl) (by omega) (by omega) (by omega) (by omega) (by omega) (by omega) (by omega)
              · skip
                refine g_iload dX2_reckon_63 rfl (fun _ => ?_)
                refine g_iconst dX2_reckon_65 (inR_c rfl) ?_
                refine g_icmp_ne 123 dX2_reckon_66 (by decide) (fun q25 => ?_) (fun q25 => ?_)
                · skip
                  refine g_iload dX2_reckon_123 rfl (fun _ => ?_)
                  refine g_iconst dX2_reckon_125 (inR_c rfl) ?_
                  refine g_icmp_ge 131 dX2_reckon_126 (by decide) (fun q26 => ?_) (fun q26 => ?_)
                  · skip
                    refine g_iload dX2_reckon_131 rfl (fun _ => ?_)
                    refine g_iconst dX2_reckon_133 (inR_c rfl) ?_
                    refine g_icmp_ne 160 dX2_reckon_134 (by decide) (fun q27 => ?_) (fun q27 => ?_)
                    · skip
                      refine g_iload dX2_reckon_160 rfl (fun _ => ?_)
                      refine g_iconst dX2_reckon_162 (inR_c rfl) ?_
                      refine g_icmp_eq 172 dX2_reckon_163 (by decide) (fun q28 => ?_) (fun q28 => ?_)
                      · skip
                        refine g_aload_n dX2_reckon_172 rfl ?_
                        refine gR_X2_37 rfl dX2_reckon_173 sh_82 (b := 89) (m_82_8 hMh4) ?_
                        refine g_iload dX2_reckon_176 rfl (fun _ => ?_)
                        refine g_iconst dX2_reckon_178 (inR_c rfl) ?_
                        refine g_isubB dX2_reckon_179 (by omega) (by omega) ?_
                        refine g_ialdB dX2_reckon_180 sh_89 (by omega) (by omega) (m_89 hMh4 _) (fun v29 ev29 bv29 cv29 => ?_)
                        refine g_if_eq 188 dX2_reckon_181 (by decide) (fun q30 => ?_) (fun q30 => ?_)
                        · skip
                          refine g_iconst dX2_reckon_188 (inR_c rfl) ?_
                          refine g_iload dX2_reckon_189 rfl (fun _ => ?_)
                          refine g_iconst dX2_reckon_191 (inR_c rfl) ?_
                          refine g_icmp_ne 199 dX2_reckon_192 (by decide) (fun _ => by exfalso; omega) (fun q31 => ?_)
                          refine g_iconst dX2_reckon_195 (inR_c rfl) ?_
                          refine g_goto 200 dX2_reckon_196 (by decide) ?_
                          refine g_icmp_ne 210 dX2_reckon_200 (by decide) (fun q32 => ?_) (fun _ => by exfalso; omega)
                          refine g_iincB dX2_reckon_210 rfl rfl (by omega) (by omega) ?_
                          refine g_goto 283 dX2_reckon_213 (by decide) ?_
                          refine g_iincB dX2_reckon_283 rfl rfl (by omega) (by omega) ?_
                          refine g_goto 9 dX2_reckon_286 (by decide) ?_
                          refine g_drop 7 ?_
                          refine g_drop 8 ?_
                          exact ih9 _ _ _ _ hMh4 (Fr.sub hFh4 rfl) (by omega) (by omega) (by omega) (by omega) (by omega) (by omega) (by omega)
                        · skip
                          refine g_iconst dX2_reckon_184 (inR_c rfl) ?_
                          refine g_goto 189 dX2_reckon_185 (by decide) ?_
                          refine g_iload dX2_reckon_189 rfl (fun _ => ?_)
                          refine g_iconst dX2_reckon_191 (inR_c rfl) ?_
                          refine g_icmp_ne 199 dX2_reckon_192 (by decide) (fun _ => by exfalso; omega) (fun q33 => ?_)
                          refine g_iconst dX2_reckon_195 (inR_c rfl) ?_
                          refine g_goto 200 dX2_reckon_196 (by decide) ?_
                          refine g_icmp_ne 210 dX2_reckon_200 (by decide) (fun _ => by exfalso; omega) (fun q34 => ?_)
                          refine g_iload dX2_reckon_203 rfl (fun _ => ?_)
                          refine g_istore dX2_reckon_205 (by decide) rfl ?_
                          refine g_goto 283 dX2_reckon_207 (by decide) ?_
                          refine g_iincB dX2_reckon_283 rfl rfl (by omega) (by omega) ?_
                          refine g_goto 9 dX2_reckon_286 (by decide) ?_
                          refine g_drop 7 ?_
                          refine g_drop 8 ?_
                          exact ih9 _ _ _ _ hMh4 (Fr.sub hFh4 rfl) (by omega) (by omega) (by omega) (by omega) (by omega) (by omega) (by omega)
                      · skip
                        refine g_iload dX2_reckon_166 rfl (fun _ => ?_)
                        refine g_iconst dX2_reckon_168 (inR_c rfl) ?_
                        refine g_icmp_ne 216 dX2_reckon_169 (by decide) (fun q35 => ?_) (fun q35 => ?_)
                        · skip
                          refine g_iload dX2_reckon_216 rfl (fun _ => ?_)
                          refine g_iconst dX2_reckon_218 (inR_c rfl) ?_
                          refine g_icmp_lt 248 dX2_reckon_219 (by decide) (fun q36 => ?_) (fun q36 => ?_)
                          · skip
                            refine g_iconst dX2_reckon_248 (inR_c rfl) ?_
                            exact g_ireturn dX2_reckon_249 retI (hPo _ _ ⟨hMh4, (Fr.sub hFh4 rfl), (by omega), (by omega)⟩)
                          · skip
                            refine g_aload_n dX2_reckon_222 rfl ?_
                            refine gR_X2_37 rfl dX2_reckon_223 sh_82 (b := 89) (m_82_8 hMh4) ?_
                            refine g_iload dX2_reckon_226 rfl (fun _ => ?_)
                            refine g_iconst dX2_reckon_228 (inR_c rfl) ?_
                            refine g_isubB dX2_reckon_229 (by omega) (by omega) ?_
                            refine g_ialdB dX2_reckon_230 sh_89 (by omega) (by omega) (m_89 hMh4 _) (fun v37 ev37 bv37 cv37 => ?_)
                            refine g_if_ne 250 dX2_reckon_231 (by decide) (fun q38 => ?_) (fun q38 => ?_)
                            · skip
                              refine g_iincB dX2_reckon_250 rfl rfl (by omega) (by omega) ?_
                              refine g_aload_n dX2_reckon_253 rfl ?_
                              refine gR_X2_37 rfl dX2_reckon_254 sh_82 (b := 89) (m_82_8 hMh4) ?_
                              refine g_iload dX2_reckon_257 rfl (fun _ => ?_)
                              refine g_iconst dX2_reckon_259 (inR_c rfl) ?_
                              refine g_isubB dX2_reckon_260 (by omega) (by omega) ?_
                              refine g_iload dX2_reckon_261 rfl (fun _ => ?_)
                              refine g_aload_n dX2_reckon_263 rfl ?_
                              refine gR_X2_37 rfl dX2_reckon_264 sh_82 (b := 89) (m_82_8 hMh4) ?_
                              refine g_iload dX2_reckon_267 rfl (fun _ => ?_)
                              refine g_iconst dX2_reckon_269 (inR_c rfl) ?_
                              refine g_isubB dX2_reckon_270 (by omega) (by omega) ?_
                              refine g_ialdB dX2_reckon_271 sh_89 (by omega) (by omega) (m_89 hMh4 _) (fun v39 ev39 bv39 cv39 => ?_)
                              refine g_aload_n dX2_reckon_272 rfl ?_
                              refine gR_X2_37 rfl dX2_reckon_273 sh_82 (b := 89) (m_82_8 hMh4) ?_
                              refine g_iload dX2_reckon_276 rfl (fun _ => ?_)
                              refine g_ialdE dX2_reckon_278 sh_89 (by omega) (by omega) ev37.symm ?_
                              refine g_cSP (av := [_, _, _]) (c_X2_joined _ _ _ h4 hMh4 (by omega) (by omega) (by omega) (by omega) (by omega) (by omega)) dX2_reckon_279 mi_X2_joined st_X2_joined ml_X2_53 rfl rfl rfl rfl (Nat.le_of_ble_eq_true rfl) (fun v40 q41 => ?_)
                              obtain ⟨bv40, cv40⟩ := q41
                              refine g_iastB dX2_reckon_282 sh_89 (by omega) (by omega) (fun h42 eh42 => ?_)
                              have hFh42 := Fr.ar eh42
                              have hMh42 := u_89 hMh4 eh42 (by omega) (by omega)
                              refine g_iincB dX2_reckon_283 rfl rfl (by omega) (by omega) ?_
                              refine g_goto 9 dX2_reckon_286 (by decide) ?_
                              refine g_drop 7 ?_
                              refine g_drop 8 ?_
                              exact ih9 _ _ _ _ hMh42 (Fr.tr (Fr.sub hFh4 rfl) hFh42 rfl) (by omega) (by omega) (by omega) (by omega) (by omega) (by omega) (by omega)
                            · skip
                              refine g_iload dX2_reckon_234 rfl (fun _ => ?_)
                              refine g_bipush dX2_reckon_236 (inR_c rfl) (by decide) ?_
                              refine g_icmp_eq 248 dX2_reckon_238 (by decide) (fun q43 => ?_) (fun q43 => ?_)
                              · skip
                                refine g_iconst dX2_reckon_248 (inR_c rfl) ?_
                                exact g_ireturn dX2_reckon_249 retI (hPo _ _ ⟨hMh4, (Fr.sub hFh4 rfl), (by omega), (by omega)⟩)
                              · skip
                                refine g_iload dX2_reckon_241 rfl (fun _ => ?_)
                                refine g_bipush dX2_reckon_243 (inR_c rfl) (by decide) ?_
                                refine g_icmp_ne 250 dX2_reckon_245 (by decide) (fun q44 => ?_) (fun q44 => ?_)
                                · skip
                                  refine g_iincB dX2_reckon_250 rfl rfl (by omega) (by omega) ?_
                                  refine g_aload_n dX2_reckon_253 rfl ?_
                                  refine gR_X2_37 rfl dX2_reckon_254 sh_82 (b := 89) (m_82_8 hMh4) ?_
                                  refine g_iload dX2_reckon_257 rfl (fun _ => ?_)
                                  refine g_iconst dX2_reckon_259 (inR_c rfl) ?_
                                  refine g_isubB dX2_reckon_260 (by omega) (by omega) ?_
                                  refine g_iload dX2_reckon_261 rfl (fun _ => ?_)
                                  refine g_aload_n dX2_reckon_263 rfl ?_
                                  refine gR_X2_37 rfl dX2_reckon_264 sh_82 (b := 89) (m_82_8 hMh4) ?_
                                  refine g_iload dX2_reckon_267 rfl (fun _ => ?_)
                                  refine g_iconst dX2_reckon_269 (inR_c rfl) ?_
                                  refine g_isubB dX2_reckon_270 (by omega) (by omega) ?_
                                  refine g_ialdB dX2_reckon_271 sh_89 (by omega) (by omega) (m_89 hMh4 _) (fun v45 ev45 bv45 cv45 => ?_)
                                  refine g_aload_n dX2_reckon_272 rfl ?_
                                  refine gR_X2_37 rfl dX2_reckon_273 sh_82 (b := 89) (m_82_8 hMh4) ?_
                                  refine g_iload dX2_reckon_276 rfl (fun _ => ?_)
                                  refine g_ialdE dX2_reckon_278 sh_89 (by omega) (by omega) ev37.symm ?_
                                  refine g_cSP (av := [_, _, _]) (c_X2_joined _ _ _ h4 hMh4 (by omega) (by omega) (by omega) (by omega) (by omega) (by omega)) dX2_reckon_279 mi_X2_joined st_X2_joined ml_X2_53 rfl rfl rfl rfl (Nat.le_of_ble_eq_true rfl) (fun v46 q47 => ?_)
                                  obtain ⟨bv46, cv46⟩ := q47
                                  refine g_iastB dX2_reckon_282 sh_89 (by omega) (by omega) (fun h48 eh48 => ?_)
                                  have hFh48 := Fr.ar eh48
                                  have hMh48 := u_89 hMh4 eh48 (by omega) (by omega)
                                  refine g_iincB dX2_reckon_283 rfl rfl (by omega) (by omega) ?_
                                  refine g_goto 9 dX2_reckon_286 (by decide) ?_
                                  refine g_drop 7 ?_
                                  refine g_drop 8 ?_
                                  exact ih9 _ _ _ _ hMh48 (Fr.tr (Fr.sub hFh4 rfl) hFh48 rfl) (by omega) (by omega) (by omega) (by omega) (by omega) (by omega) (by omega)
                                · skip
                                  refine g_iconst dX2_reckon_248 (inR_c rfl) ?_
                                  exact g_ireturn dX2_reckon_249 retI (hPo _ _ ⟨hMh4, (Fr.sub hFh4 rfl), (by omega), (by omega)⟩)
                        · skip
                          refine g_aload_n dX2_reckon_172 rfl ?_
                          refine gR_X2_37 rfl dX2_reckon_173 sh_82 (b := 89) (m_82_8 hMh4) ?_
                          refine g_iload dX2_reckon_176 rfl (fun _ => ?_)
                          refine g_iconst dX2_reckon_178 (inR_c rfl) ?_
                          refine g_isubB dX2_reckon_179 (by omega) (by omega) ?_
                          refine g_ialdB dX2_reckon_180 sh_89 (by omega) (by omega) (m_89 hMh4 _) (fun v49 ev49 bv49 cv49 => ?_)
                          refine g_if_eq 188 dX2_reckon_181 (by decide) (fun q50 => ?_) (fun q50 => ?_)
                          · skip
                            refine g_iconst dX2_reckon_188 (inR_c rfl) ?_
                            refine g_iload dX2_reckon_189 rfl (fun _ => ?_)
                            refine g_iconst dX2_reckon_191 (inR_c rfl) ?_
                            refine g_icmp_ne 199 dX2_reckon_192 (by decide) (fun q51 => ?_) (fun _ => by exfalso; omega)
                            refine g_iconst dX2_reckon_199 (inR_c rfl) ?_
                            refine g_icmp_ne 210 dX2_reckon_200 (by decide) (fun _ => by exfalso; omega) (fun q52 => ?_)
                            refine g_iload dX2_reckon_203 rfl (fun _ => ?_)
                            refine g_istore dX2_reckon_205 (by decide) rfl ?_
                            refine g_goto 283 dX2_reckon_207 (by decide) ?_
                            refine g_iincB dX2_reckon_283 rfl rfl (by omega) (by omega) ?_
                            refine g_goto 9 dX2_reckon_286 (by decide) ?_
                            refine g_drop 7 ?_
                            refine g_drop 8 ?_
                            exact ih9 _ _ _ _ hMh4 (Fr.sub hFh4 rfl) (by omega) (by omega) (by omega) (by omega) (by omega) (by omega) (by omega)
                          · skip
                            refine g_iconst dX2_reckon_184 (inR_c rfl) ?_
                            refine g_goto 189 dX2_reckon_185 (by decide) ?_
                            refine g_iload dX2_reckon_189 rfl (fun _ => ?_)
                            refine g_iconst dX2_reckon_191 (inR_c rfl) ?_
                            refine g_icmp_ne 199 dX2_reckon_192 (by decide) (fun q53 => ?_) (fun _ => by exfalso; omega)
                            refine g_iconst dX2_reckon_199 (inR_c rfl) ?_
                            refine g_icmp_ne 210 dX2_reckon_200 (by decide) (fun q54 => ?_) (fun _ => by exfalso; omega)
                            refine g_iincB dX2_reckon_210 rfl rfl (by omega) (by omega) ?_
                            refine g_goto 283 dX2_reckon_213 (by decide) ?_
                            refine g_iincB dX2_reckon_283 rfl rfl (by omega) (by omega) ?_
                            refine g_goto 9 dX2_reckon_286 (by decide) ?_
                            refine g_drop 7 ?_
                            refine g_drop 8 ?_
                            exact ih9 _ _ _ _ hMh4 (Fr.sub hFh4 rfl) (by omega) (by omega) (by omega) (by omega) (by omega) (by omega) (by omega)
                    · skip
                      refine g_aload_n dX2_reckon_137 rfl ?_
                      refine gR_X2_37 rfl dX2_reckon_138 sh_82 (b := 89) (m_82_8 hMh4) ?_
                      refine g_iload dX2_reckon_141 rfl (fun _ => ?_)
                      refine g_iconst dX2_reckon_143 (inR_c rfl) ?_
                      refine g_isubB dX2_reckon_144 (by omega) (by omega) ?_
                      refine g_iconst dX2_reckon_145 (inR_c rfl) ?_
                      refine g_aload_n dX2_reckon_146 rfl ?_
                      refine gR_X2_37 rfl dX2_reckon_147 sh_82 (b := 89) (m_82_8 hMh4) ?_
                      refine g_iload dX2_reckon_150 rfl (fun _ => ?_)
                      refine g_iconst dX2_reckon_152 (inR_c rfl) ?_
                      refine g_isubB dX2_reckon_153 (by omega) (by omega) ?_
                      refine g_ialdB dX2_reckon_154 sh_89 (by omega) (by omega) (m_89 hMh4 _) (fun v55 ev55 bv55 cv55 => ?_)
                      refine g_isubF dX2_reckon_155 (fun v56 bv56 cv56 => ?_)
                      refine g_iastB dX2_reckon_156 sh_89 (by omega) (by omega) (fun h57 eh57 => ?_)
                      have hFh57 := Fr.ar eh57
                      have hMh57 := u_89 hMh4 eh57 (by omega) (by omega)
                      refine g_goto 283 dX2_reckon_157 (by decide) ?_
                      refine g_iincB dX2_reckon_283 rfl rfl (by omega) (by omega) ?_
                      refine g_goto 9 dX2_reckon_286 (by decide) ?_
                      refine g_drop 7 ?_
                      refine g_drop 8 ?_
                      exact ih9 _ _ _ _ hMh57 (Fr.tr (Fr.sub hFh4 rfl) hFh57 rfl) (by omega) (by omega) (by omega) (by omega) (by omega) (by omega) (by omega)
                  · skip
                    refine g_iconst dX2_reckon_129 (inR_c rfl) ?_
                    exact g_ireturn dX2_reckon_130 retI (hPo _ _ ⟨hMh4, (Fr.sub hFh4 rfl), (by omega), (by omega)⟩)
                · skip
                  refine g_iload dX2_reckon_69 rfl (fun _ => ?_)
                  refine g_bipush dX2_reckon_71 (inR_c rfl) (by decide) ?_
                  refine g_icmp_ge 94 dX2_reckon_73 (by decide) (fun q58 => ?_) (fun q58 => ?_)
                  · skip
                    refine g_iconst dX2_reckon_94 (inR_c rfl) ?_
                    exact g_ireturn dX2_reckon_95 retI (hPo _ _ ⟨hMh4, (Fr.sub hFh4 rfl), (by omega), (by omega)⟩)
                  · skip
                    refine g_iload dX2_reckon_76 rfl (fun _ => ?_)
                    refine g_iconst dX2_reckon_78 (inR_c rfl) ?_
                    refine g_icmp_ne 96 dX2_reckon_79 (by decide) (fun _ => by exfalso; omega) (fun q59 => ?_)
                    refine g_iload dX2_reckon_82 rfl (fun _ => ?_)
                    refine g_if_lt 94 dX2_reckon_84 (by decide) (fun q60 => ?_) (fun q60 => ?_)
                    · skip
                      refine g_iconst dX2_reckon_94 (inR_c rfl) ?_
                      exact g_ireturn dX2_reckon_95 retI (hPo _ _ ⟨hMh4, (Fr.sub hFh4 rfl), (by omega), (by omega)⟩)
                    · skip
                      refine g_iload dX2_reckon_87 rfl (fun _ => ?_)
                      refine g_aload_n dX2_reckon_89 rfl ?_
                      refine g_alen dX2_reckon_90 sh_40 (by decide) (by decide) ?_
                      refine g_icmp_lt 96 dX2_reckon_91 (by decide) (fun q61 => ?_) (fun q61 => ?_)
                      · skip
                        refine g_aload_n dX2_reckon_96 rfl ?_
                        refine gR_X2_37 rfl dX2_reckon_97 sh_82 (b := 89) (m_82_8 hMh4) ?_
                        refine g_iload dX2_reckon_100 rfl (fun _ => ?_)
                        refine g_iload dX2_reckon_102 rfl (fun _ => ?_)
                        refine g_if_ne 112 dX2_reckon_104 (by decide) (fun q62 => ?_) (fun _ => by exfalso; omega)
                        refine g_aload_n dX2_reckon_112 rfl ?_
                        refine g_iload dX2_reckon_113 rfl (fun _ => ?_)
                        refine g_ialdB dX2_reckon_115 sh_40 (by omega) (by omega) (m_40 hMh4 _) (fun v63 ev63 bv63 cv63 => ?_)
                        refine g_iastB dX2_reckon_116 sh_89 (by omega) (by omega) (fun h64 eh64 => ?_)
                        have hFh64 := Fr.ar eh64
                        have hMh64 := u_89 hMh4 eh64 (by omega) (by omega)
                        refine g_iincB dX2_reckon_117 rfl rfl (by omega) (by omega) ?_
                        refine g_goto 283 dX2_reckon_120 (by decide) ?_
                        refine g_iincB dX2_reckon_283 rfl rfl (by omega) (by omega) ?_
                        refine g_goto 9 dX2_reckon_286 (by decide) ?_
                        refine g_drop 7 ?_
                        refine g_drop 8 ?_
                        exact ih9 _ _ _ _ hMh64 (Fr.tr (Fr.sub hFh4 rfl) hFh64 rfl) (by omega) (by omega) (by omega) (by omega) (by omega) (by omega) (by omega)
                      · skip
                        refine g_iconst dX2_reckon_94 (inR_c rfl) ?_
                        exact g_ireturn dX2_reckon_95 retI (hPo _ _ ⟨hMh4, (Fr.sub hFh4 rfl), (by omega), (by omega)⟩)
  refine g_istore dX2_reckon_7 (by decide) rfl ?_
  refine g_drop 1 ?_
  exact c9 201 _ _ _ _ hM Fr.rf (by omega) (by omega) (by omega) (by omega) (by omega) (by omega) (by omega)
set_option maxRecDepth 100000 in
set_option maxHeartbeats 4000000 in
theorem c_X2_answer_82_40 (x1 x2 : Int) (h : MEM) (hM : MBx h) (bx1 : 100 ≤ x1) (dx1 : x1 ≤ 109) (bx2 : 9 ≤ x2) (dx2 : x2 ≤ 99) : CI yX2_answer cX2_answer 5 (some .int) 3 [pR 82, pI x1, pI x2, pR 40] h (fun x h' => MBx h' ∧ Fr [(89, 0)] h h' ∧ 0 ≤ x ∧ x ≤ 99) := by
  refine CI.of (L0 := [some (pR 82), some (pI x1), some (pI x2), some (pR 40), none]) rfl (Nat.le_of_ble_eq_true rfl) rfl (fun Po hPo hav => ?_)
  refine g_iconst dX2_answer_0 (inR_c rfl) ?_
  have c3 : ∀ (n : Nat) (y1 : Int) (h2 : MEM), MBx h2 → Fr [(89, 0)] h h2 → 0 ≤ y1 → y1 ≤ 14 → 14 - y1 < (n : Int) → G yX2_answer cX2_answer 5 (some .int) none Po (3, 180, 0, 0) 3 [some (pR 82), some (pI x1), some (pI x2), some (pR 40), some (pI y1)] [] SH h2 0 0 := by
    intro n
    induction n with
    | zero =>
      intro y1 h2 hMh2 hFh2 by1 dy1 hn
      exfalso; omega
    | succ n ih3 =>
      intro y1 h2 hMh2 hFh2 by1 dy1 hn
      refine g_iload dX2_answer_3 rfl (fun _ => ?_)
      refine g_aload_n dX2_answer_5 rfl ?_
      refine gI_X2_9 rfl dX2_answer_6 sh_82 (m_82_0 hMh2) (fun v3 ev3 bv3 cv3 => ?_)
      refine g_icmp_ge 79 dX2_answer_9 (by decide) (fun q4 => ?_) (fun q4 => ?_)
      · skip
        refine g_iconst dX2_answer_79 (inR_c rfl) ?_
        exact g_ireturn dX2_answer_80 retI (hPo _ _ ⟨hMh2, (Fr.sub hFh2 rfl), (by omega), (by omega)⟩)
      · skip
        refine g_aload_n dX2_answer_12 rfl ?_
        refine gR_X2_18 rfl dX2_answer_13 sh_82 (b := 83) (m_82_2 hMh2) ?_
        refine g_iload dX2_answer_16 rfl (fun _ => ?_)
        refine g_ialdB dX2_answer_18 sh_83 (by omega) (by omega) (m_83 hMh2 _) (fun v5 ev5 bv5 cv5 => ?_)
        refine g_iload_n dX2_answer_19 rfl (fun _ => ?_)
        refine g_icmp_ne 73 dX2_answer_20 (by decide) (fun q6 => ?_) (fun q6 => ?_)
        · skip
          refine g_iincB dX2_answer_73 rfl rfl (by omega) (by omega) ?_
          refine g_goto 3 dX2_answer_76 (by decide) ?_
          exact ih3 _ _ hMh2 (Fr.sub hFh2 rfl) (by omega) (by omega) (by omega)
        · skip
          refine g_aload_n dX2_answer_23 rfl ?_
          refine g_aload_n dX2_answer_24 rfl ?_
          refine gR_X2_25 rfl dX2_answer_25 sh_82 (b := 85) (m_82_4 hMh2) ?_
          refine g_iload dX2_answer_28 rfl (fun _ => ?_)
          refine g_ialdB dX2_answer_30 sh_85 (by omega) (by omega) (m_85 hMh2 _) (fun v7 ev7 bv7 cv7 => ?_)
          refine g_aload_n dX2_answer_31 rfl ?_
          refine gR_X2_28 rfl dX2_answer_32 sh_82 (b := 86) (m_82_5 hMh2) ?_
          refine g_iload dX2_answer_35 rfl (fun _ => ?_)
          refine g_ialdB dX2_answer_37 sh_86 (by omega) (by omega) (m_86 hMh2 _) (fun v8 ev8 bv8 cv8 => ?_)
          refine g_aload_n dX2_answer_38 rfl ?_
          refine g_cV (as := [_, _, _]) (c_X2_reckon_82_40 _ _ h2 hMh2 (by omega) (by omega) (by omega) (by omega)) dX2_answer_39 mi_X2_reckon in_X2_reckon se_X2_reckon ml_X2_40 rfl rfl rfl sh_82 rfl rfl (Nat.le_of_ble_eq_true rfl) (fun v9 h10 q11 => ?_)
          obtain ⟨hMh10, hFh10, bv9, cv9⟩ := q11
          refine g_if_eq 73 dX2_answer_42 (by decide) (fun q12 => ?_) (fun q12 => ?_)
          · skip
            refine g_iincB dX2_answer_73 rfl rfl (by omega) (by omega) ?_
            refine g_goto 3 dX2_answer_76 (by decide) ?_
            exact ih3 _ _ hMh10 (Fr.tr (Fr.sub hFh2 rfl) hFh10 rfl) (by omega) (by omega) (by omega)
          · skip
            refine g_iconst dX2_answer_45 (inR_c rfl) ?_
            refine g_iload_n dX2_answer_46 rfl (fun _ => ?_)
            refine g_aload_n dX2_answer_47 rfl ?_
            refine g_aload_n dX2_answer_48 rfl ?_
            refine gR_X2_22 rfl dX2_answer_49 sh_82 (b := 84) (m_82_3 hMh10) ?_
            refine g_iload dX2_answer_52 rfl (fun _ => ?_)
            refine g_ialdB dX2_answer_54 sh_84 (by omega) (by omega) (m_84 hMh10 _) (fun v13 ev13 bv13 cv13 => ?_)
            refine g_aload_n dX2_answer_55 rfl ?_
            refine gR_X2_25 rfl dX2_answer_56 sh_82 (b := 85) (m_82_4 hMh10) ?_
            refine g_iload dX2_answer_59 rfl (fun _ => ?_)
            refine g_ialdE dX2_answer_61 sh_85 (by omega) (by omega) ((hFh10 85 _ rfl).trans ev7.symm) ?_
            refine g_aload_n dX2_answer_62 rfl ?_
            refine g_cV (as := [_, _, _]) (c_X2_reckon_82_40 _ _ h10 hMh10 (by omega) (by omega) (by omega) (by omega)) dX2_answer_63 mi_X2_reckon in_X2_reckon se_X2_reckon ml_X2_40 rfl rfl rfl sh_82 rfl rfl (Nat.le_of_ble_eq_true rfl) (fun v14 h15 q16 => ?_)
            obtain ⟨hMh15, hFh15, bv14, cv14⟩ := q16
            refine g_mmin dX2_answer_66 ml_X2_44 (Nat.le_of_ble_eq_true rfl) (Nat.le_of_ble_eq_true rfl) trivial (fun v17 ev17 => ?_)
            have bv17 : -2147483648 ≤ v17 ∧ v17 ≤ 99 := by omega
            refine g_mmax dX2_answer_69 ml_X2_50 (Nat.le_of_ble_eq_true rfl) (Nat.le_of_ble_eq_true rfl) trivial (fun v18 ev18 => ?_)
            have bv18 : 0 ≤ v18 ∧ v18 ≤ 99 := by omega
            exact g_ireturn dX2_answer_72 retI (hPo _ _ ⟨hMh15, (Fr.tr (Fr.tr (Fr.sub hFh2 rfl) hFh10 rfl) hFh15 rfl), (by omega), (by omega)⟩)
  refine g_istore dX2_answer_1 (by decide) rfl ?_
  exact c3 15 _ _ hM Fr.rf (by omega) (by omega) (by omega)
set_option maxRecDepth 100000 in
set_option maxHeartbeats 4000000 in
theorem c_X4_struckBelow_32 (x1 : Int) (h : MEM) (hM : MBx h) (bx1 : 0 ≤ x1) (dx1 : x1 ≤ 9) : CP yX4_struckBelow cX4_struckBelow 4 (some .int) 1 [pR 32, pI x1] h (fun x => -1 ≤ x ∧ x ≤ 7) := by
  refine CP.of (L0 := [some (pR 32), some (pI x1), none, none]) rfl (Nat.le_of_ble_eq_true rfl) rfl (fun Po hPo hav => ?_)
  refine g_iconst dX4_struckBelow_0 (inR_c rfl) ?_
  refine g_istore_n dX4_struckBelow_1 (by decide) rfl ?_
  refine g_iconst dX4_struckBelow_2 (inR_c rfl) ?_
  have c4 : ∀ (n : Nat) (y1 y2 : Int) , -1 ≤ y1 → y1 ≤ 7 → 0 ≤ y2 → y2 ≤ 8 → 8 - y2 < (n : Int) → G yX4_struckBelow cX4_struckBelow 4 (some .int) none Po (1, 60, 0, 0) 4 [some (pR 32), some (pI x1), some (pI y1), some (pI y2)] [] SH h 0 0 := by
    intro n
    induction n with
    | zero =>
      intro y1 y2 by1 dy1 by2 dy2 hn
      exfalso; omega
    | succ n ih4 =>
      intro y1 y2 by1 dy1 by2 dy2 hn
      refine g_iload_n dX4_struckBelow_4 rfl (fun _ => ?_)
      refine g_aload_n dX4_struckBelow_5 rfl ?_
      refine gI_X4_9 rfl dX4_struckBelow_6 sh_32 (m_32_0 hM) (fun v3 ev3 bv3 cv3 => ?_)
      refine g_icmp_ge 59 dX4_struckBelow_9 (by decide) (fun q4 => ?_) (fun q4 => ?_)
      · skip
        refine g_iload_n dX4_struckBelow_59 rfl (fun _ => ?_)
        exact g_ireturn dX4_struckBelow_60 retI (hPo _ ⟨(by omega), (by omega)⟩)
      · skip
        refine g_aload_n dX4_struckBelow_12 rfl ?_
        refine gR_X4_15 rfl dX4_struckBelow_13 sh_32 (b := 33) (m_32_1 hM) ?_
        refine g_iload_n dX4_struckBelow_16 rfl (fun _ => ?_)
        refine g_ialdB dX4_struckBelow_17 sh_33 (by omega) (by omega) (m_33 hM _) (fun v5 ev5 bv5 cv5 => ?_)
        refine g_iload_n dX4_struckBelow_18 rfl (fun _ => ?_)
        refine g_icmp_ne 53 dX4_struckBelow_19 (by decide) (fun q6 => ?_) (fun q6 => ?_)
        · skip
          refine g_iincB dX4_struckBelow_53 rfl rfl (by omega) (by omega) ?_
          refine g_goto 4 dX4_struckBelow_56 (by decide) ?_
          exact ih4 _ _ (by omega) (by omega) (by omega) (by omega) (by omega)
        · skip
          refine g_aload_n dX4_struckBelow_22 rfl ?_
          refine gR_X4_22 rfl dX4_struckBelow_23 sh_32 (b := 35) (m_32_3 hM) ?_
          refine g_iload_n dX4_struckBelow_26 rfl (fun _ => ?_)
          refine g_ialdB dX4_struckBelow_27 sh_35 (by omega) (by omega) (m_35 hM _) (fun v7 ev7 bv7 cv7 => ?_)
          refine g_if_ne 53 dX4_struckBelow_28 (by decide) (fun q8 => ?_) (fun q8 => ?_)
          · skip
            refine g_iincB dX4_struckBelow_53 rfl rfl (by omega) (by omega) ?_
            refine g_goto 4 dX4_struckBelow_56 (by decide) ?_
            exact ih4 _ _ (by omega) (by omega) (by omega) (by omega) (by omega)
          · skip
            refine g_iload_n dX4_struckBelow_31 rfl (fun _ => ?_)
            refine g_iconst dX4_struckBelow_32 (inR_c rfl) ?_
            refine g_icmp_eq 51 dX4_struckBelow_33 (by decide) (fun q9 => ?_) (fun q9 => ?_)
            · skip
              refine g_iload_n dX4_struckBelow_51 rfl (fun _ => ?_)
              refine g_istore_n dX4_struckBelow_52 (by decide) rfl ?_
              refine g_iincB dX4_struckBelow_53 rfl rfl (by omega) (by omega) ?_
              refine g_goto 4 dX4_struckBelow_56 (by decide) ?_
              exact ih4 _ _ (by omega) (by omega) (by omega) (by omega) (by omega)
            · skip
              refine g_aload_n dX4_struckBelow_36 rfl ?_
              refine gR_X4_25 rfl dX4_struckBelow_37 sh_32 (b := 36) (m_32_4 hM) ?_
              refine g_iload_n dX4_struckBelow_40 rfl (fun _ => ?_)
              refine g_ialdB dX4_struckBelow_41 sh_36 (by omega) (by omega) (m_36 hM _) (fun v10 ev10 bv10 cv10 => ?_)
              refine g_aload_n dX4_struckBelow_42 rfl ?_
              refine gR_X4_25 rfl dX4_struckBelow_43 sh_32 (b := 36) (m_32_4 hM) ?_
              refine g_iload_n dX4_struckBelow_46 rfl (fun _ => ?_)
              refine g_ialdB dX4_struckBelow_47 sh_36 (by omega) (by omega) (m_36 hM _) (fun v11 ev11 bv11 cv11 => ?_)
              refine g_icmp_ge 53 dX4_struckBelow_48 (by decide) (fun q12 => ?_) (fun q12 => ?_)
              · skip
                refine g_iincB dX4_struckBelow_53 rfl rfl (by omega) (by omega) ?_
                refine g_goto 4 dX4_struckBelow_56 (by decide) ?_
                exact ih4 _ _ (by omega) (by omega) (by omega) (by omega) (by omega)
              · skip
                refine g_iload_n dX4_struckBelow_51 rfl (fun _ => ?_)
                refine g_istore_n dX4_struckBelow_52 (by decide) rfl ?_
                refine g_iincB dX4_struckBelow_53 rfl rfl (by omega) (by omega) ?_
                refine g_goto 4 dX4_struckBelow_56 (by decide) ?_
                exact ih4 _ _ (by omega) (by omega) (by omega) (by omega) (by omega)
  refine g_istore_n dX4_struckBelow_3 (by decide) rfl ?_
  exact c4 9 _ _ (by omega) (by omega) (by omega) (by omega) (by omega)
set_option maxRecDepth 100000 in
set_option maxHeartbeats 4000000 in
theorem c_X4_has_32 (x1 : Int) (h : MEM) (hM : MBx h) (bx1 : -2147483648 ≤ x1) (dx1 : x1 ≤ 2147483647) : CP yX4_has cX4_has 2 (some .boolean) 1 [pR 32, pI x1] h (fun x => (x = 1 ∧ 0 ≤ x1 + (0) ∧ x1 ≤ h 32 0 + (-1) ∨ x = 0 ∧ ¬ (0 ≤ x1 + (0) ∧ x1 ≤ h 32 0 + (-1)))) := by
  refine CP.of (L0 := [some (pR 32), some (pI x1)]) rfl (Nat.le_of_ble_eq_true rfl) rfl (fun Po hPo hav => ?_)
  refine g_iload_n dX4_has_0 rfl (fun _ => ?_)
  refine g_if_lt 16 dX4_has_1 (by decide) (fun q1 => ?_) (fun q1 => ?_)
  · skip
    refine g_iconst dX4_has_16 (inR_c rfl) ?_
    exact g_ireturn dX4_has_17 (retZ (by omega)) (hPo _ (by omega))
  · skip
    refine g_iload_n dX4_has_4 rfl (fun _ => ?_)
    refine g_aload_n dX4_has_5 rfl ?_
    refine gI_X4_9 rfl dX4_has_6 sh_32 (m_32_0 hM) (fun v2 ev2 bv2 cv2 => ?_)
    refine g_icmp_ge 16 dX4_has_9 (by decide) (fun q3 => ?_) (fun q3 => ?_)
    · skip
      refine g_iconst dX4_has_16 (inR_c rfl) ?_
      exact g_ireturn dX4_has_17 (retZ (by omega)) (hPo _ (by omega))
    · skip
      refine g_iconst dX4_has_12 (inR_c rfl) ?_
      refine g_goto 17 dX4_has_13 (by decide) ?_
      exact g_ireturn dX4_has_17 (retZ (by omega)) (hPo _ (by omega))
set_option maxRecDepth 100000 in
set_option maxHeartbeats 4000000 in
theorem c_X9_tellMaster_21 (x1 x2 : Int) (h : MEM) (hM : MBx h) (bx1 : 0 ≤ x1) (dx1 : x1 ≤ 7) (bx2 : 0 ≤ x2) (dx2 : x2 ≤ 7) : CV yX9_tellMaster cX9_tellMaster 3 (none) 1 [pR 21, pI x1, pI x2] h (fun h' => MBx h' ∧ Fr [(40, 0)] h h') := by
  refine CV.of (L0 := [some (pR 21), some (pI x1), some (pI x2)]) rfl (Nat.le_of_ble_eq_true rfl) rfl (fun Po hPo hav => ?_)
  refine g_aload_n dX9_tellMaster_0 rfl ?_
  refine gR_X9_52 rfl dX9_tellMaster_1 sh_21 (b := 40) (m_21_9 hM) ?_
  refine g_iconst dX9_tellMaster_4 (inR_c rfl) ?_
  refine g_aload_n dX9_tellMaster_5 rfl ?_
  refine gR_X9_21 rfl dX9_tellMaster_6 sh_21 (b := 26) (m_21_1 hM) ?_
  refine gR_X9_147 rfl dX9_tellMaster_9 sh_26 (b := 31) (m_26_5 hM) ?_
  refine g_iload_n dX9_tellMaster_12 rfl (fun _ => ?_)
  refine g_iconst dX9_tellMaster_13 (inR_c rfl) ?_
  refine g_imulB dX9_tellMaster_14 (by omega) (by omega) ?_
  refine g_aload_n dX9_tellMaster_15 rfl ?_
  refine gR_X9_28 rfl dX9_tellMaster_16 sh_21 (b := 32) (m_21_2 hM) ?_
  refine gR_X9_144 rfl dX9_tellMaster_19 sh_32 (b := 34) (m_32_2 hM) ?_
  refine g_iload_n dX9_tellMaster_22 rfl (fun _ => ?_)
  refine g_ialdB dX9_tellMaster_23 sh_34 (by omega) (by omega) (m_34 hM _) (fun v1 ev1 bv1 cv1 => ?_)
  refine g_iaddB dX9_tellMaster_24 (by omega) (by omega) ?_
  refine g_ialdB dX9_tellMaster_25 sh_31 (by omega) (by omega) (m_31 hM _) (fun v2 ev2 bv2 cv2 => ?_)
  refine g_iastB dX9_tellMaster_26 sh_40 (by omega) (by omega) (fun h3 eh3 => ?_)
  have hFh3 := Fr.ar eh3
  have hMh3 := u_40 hM eh3 (by omega) (by omega)
  refine g_aload_n dX9_tellMaster_27 rfl ?_
  refine gR_X9_52 rfl dX9_tellMaster_28 sh_21 (b := 40) (m_21_9 hMh3) ?_
  refine g_bipush dX9_tellMaster_31 (inR_c rfl) (by decide) ?_
  refine g_iload_n dX9_tellMaster_33 rfl (fun _ => ?_)
  refine g_iastB dX9_tellMaster_34 sh_40 (by omega) (by omega) (fun h4 eh4 => ?_)
  have hFh4 := Fr.ar eh4
  have hMh4 := u_40 hMh3 eh4 (by omega) (by omega)
  refine g_aload_n dX9_tellMaster_35 rfl ?_
  refine gR_X9_52 rfl dX9_tellMaster_36 sh_21 (b := 40) (m_21_9 hMh4) ?_
  refine g_bipush dX9_tellMaster_39 (inR_c rfl) (by decide) ?_
  refine g_aload_n dX9_tellMaster_41 rfl ?_
  refine gR_X9_28 rfl dX9_tellMaster_42 sh_21 (b := 32) (m_21_2 hMh4) ?_
  refine gR_X9_144 rfl dX9_tellMaster_45 sh_32 (b := 34) (m_32_2 hMh4) ?_
  refine g_iload_n dX9_tellMaster_48 rfl (fun _ => ?_)
  refine g_ialdE dX9_tellMaster_49 sh_34 (by omega) (by omega) ((hFh4 34 _ rfl).trans ((hFh3 34 _ rfl).trans ev1.symm)) ?_
  refine g_iastB dX9_tellMaster_50 sh_40 (by omega) (by omega) (fun h5 eh5 => ?_)
  have hFh5 := Fr.ar eh5
  have hMh5 := u_40 hMh4 eh5 (by omega) (by omega)
  refine g_aload_n dX9_tellMaster_51 rfl ?_
  refine gR_X9_52 rfl dX9_tellMaster_52 sh_21 (b := 40) (m_21_9 hMh5) ?_
  refine g_bipush dX9_tellMaster_55 (inR_c rfl) (by decide) ?_
  refine g_aload_n dX9_tellMaster_57 rfl ?_
  refine gR_X9_28 rfl dX9_tellMaster_58 sh_21 (b := 32) (m_21_2 hMh5) ?_
  refine gR_X9_150 rfl dX9_tellMaster_61 sh_32 (b := 36) (m_32_4 hMh5) ?_
  refine g_iload_n dX9_tellMaster_64 rfl (fun _ => ?_)
  refine g_ialdB dX9_tellMaster_65 sh_36 (by omega) (by omega) (m_36 hMh5 _) (fun v6 ev6 bv6 cv6 => ?_)
  refine g_iastB dX9_tellMaster_66 sh_40 (by omega) (by omega) (fun h7 eh7 => ?_)
  have hFh7 := Fr.ar eh7
  have hMh7 := u_40 hMh5 eh7 (by omega) (by omega)
  exact g_return dX9_tellMaster_67 rfl (hPo _ ⟨hMh7, (Fr.tr (Fr.tr (Fr.tr (Fr.sub hFh3 rfl) hFh4 rfl) hFh5 rfl) hFh7 rfl)⟩)
set_option maxRecDepth 100000 in
set_option maxHeartbeats 4000000 in
theorem c_X9_bruise_21 (x1 x2 x3 x4 : Int) (h : MEM) (hM : MBx h) (bx1 : 0 ≤ x1) (dx1 : x1 ≤ 7) (bx2 : 0 ≤ x2) (dx2 : x2 ≤ 7) (bx3 : 0 ≤ x3) (dx3 : x3 ≤ 99) (bx4 : 0 ≤ x4) (dx4 : x4 ≤ 99) : CV yX9_bruise cX9_bruise 6 (none) 1 [pR 21, pI x1, pI x2, pI x3, pI x4] h (fun h' => MBx h' ∧ Fr [(31, 0), (36, 0), (37, 0), (38, 0)] h h') := by
  refine CV.of (L0 := [some (pR 21), some (pI x1), some (pI x2), some (pI x3), some (pI x4), none]) rfl (Nat.le_of_ble_eq_true rfl) rfl (fun Po hPo hav => ?_)
  refine g_iload_n dX9_bruise_0 rfl (fun _ => ?_)
  refine g_iconst dX9_bruise_1 (inR_c rfl) ?_
  refine g_imulB dX9_bruise_2 (by omega) (by omega) ?_
  refine g_aload_n dX9_bruise_3 rfl ?_
  refine gR_X9_28 rfl dX9_bruise_4 sh_21 (b := 32) (m_21_2 hM) ?_
  refine gR_X9_144 rfl dX9_bruise_7 sh_32 (b := 34) (m_32_2 hM) ?_
  refine g_iload_n dX9_bruise_10 rfl (fun _ => ?_)
  refine g_ialdB dX9_bruise_11 sh_34 (by omega) (by omega) (m_34 hM _) (fun v1 ev1 bv1 cv1 => ?_)
  refine g_iaddB dX9_bruise_12 (by omega) (by omega) ?_
  refine g_istore dX9_bruise_13 (by decide) rfl ?_
  refine g_aload_n dX9_bruise_15 rfl ?_
  refine gR_X9_21 rfl dX9_bruise_16 sh_21 (b := 26) (m_21_1 hM) ?_
  refine gR_X9_147 rfl dX9_bruise_19 sh_26 (b := 31) (m_26_5 hM) ?_
  refine g_iload dX9_bruise_22 rfl (fun _ => ?_)
  refine g_bipush dX9_bruise_24 (inR_c rfl) (by decide) ?_
  refine g_aload_n dX9_bruise_26 rfl ?_
  refine gR_X9_21 rfl dX9_bruise_27 sh_21 (b := 26) (m_21_1 hM) ?_
  refine gR_X9_147 rfl dX9_bruise_30 sh_26 (b := 31) (m_26_5 hM) ?_
  refine g_iload dX9_bruise_33 rfl (fun _ => ?_)
  refine g_ialdB dX9_bruise_35 sh_31 (by omega) (by omega) (m_31 hM _) (fun v2 ev2 bv2 cv2 => ?_)
  refine g_iload_n dX9_bruise_36 rfl (fun _ => ?_)
  refine g_iaddF dX9_bruise_37 (fun v3 bv3 cv3 => ?_)
  refine g_mmin dX9_bruise_38 ml_X9_123 (Nat.le_of_ble_eq_true rfl) (Nat.le_of_ble_eq_true rfl) trivial (fun v4 ev4 => ?_)
  have bv4 : -2147483648 ≤ v4 ∧ v4 ≤ 99 := by omega
  refine g_iastB dX9_bruise_41 sh_31 (by omega) (by omega) (fun h5 eh5 => ?_)
  have hFh5 := Fr.ar eh5
  have hMh5 := u_31 hM eh5 (by omega) (by omega)
  refine g_aload_n dX9_bruise_42 rfl ?_
  refine gR_X9_32 rfl dX9_bruise_43 sh_21 (b := 37) (m_21_3 hMh5) ?_
  refine g_iload_n dX9_bruise_46 rfl (fun _ => ?_)
  refine g_bipush dX9_bruise_47 (inR_c rfl) (by decide) ?_
  refine g_imulB dX9_bruise_49 (by omega) (by omega) ?_
  refine g_iload_n dX9_bruise_50 rfl (fun _ => ?_)
  refine g_iaddB dX9_bruise_51 (by omega) (by omega) ?_
  refine g_dup2 dX9_bruise_52 rfl rfl ?_
  refine g_ialdB dX9_bruise_53 sh_37 (by omega) (by omega) (m_37 hMh5 _) (fun v6 ev6 bv6 cv6 => ?_)
  refine g_iload dX9_bruise_54 rfl (fun _ => ?_)
  refine g_iaddF dX9_bruise_56 (fun v7 bv7 cv7 => ?_)
  refine g_iastB dX9_bruise_57 sh_37 (by omega) (by omega) (fun h8 eh8 => ?_)
  have hFh8 := Fr.ar eh8
  have hMh8 := u_37 hMh5 eh8 (by omega) (by omega)
  refine g_aload_n dX9_bruise_58 rfl ?_
  refine gR_X9_36 rfl dX9_bruise_59 sh_21 (b := 38) (m_21_4 hMh8) ?_
  refine g_iload_n dX9_bruise_62 rfl (fun _ => ?_)
  refine g_bipush dX9_bruise_63 (inR_c rfl) (by decide) ?_
  refine g_imulB dX9_bruise_65 (by omega) (by omega) ?_
  refine g_iload_n dX9_bruise_66 rfl (fun _ => ?_)
  refine g_iaddB dX9_bruise_67 (by omega) (by omega) ?_
  refine g_dup2 dX9_bruise_68 rfl rfl ?_
  refine g_ialdB dX9_bruise_69 sh_38 (by omega) (by omega) (m_38 hMh8 _) (fun v9 ev9 bv9 cv9 => ?_)
  refine g_iconst dX9_bruise_70 (inR_c rfl) ?_
  refine g_iaddF dX9_bruise_71 (fun v10 bv10 cv10 => ?_)
  refine g_iastB dX9_bruise_72 sh_38 (by omega) (by omega) (fun h11 eh11 => ?_)
  have hFh11 := Fr.ar eh11
  have hMh11 := u_38 hMh8 eh11 (by omega) (by omega)
  refine g_aload_n dX9_bruise_73 rfl ?_
  refine gR_X9_28 rfl dX9_bruise_74 sh_21 (b := 32) (m_21_2 hMh11) ?_
  refine gR_X9_150 rfl dX9_bruise_77 sh_32 (b := 36) (m_32_4 hMh11) ?_
  refine g_iload_n dX9_bruise_80 rfl (fun _ => ?_)
  refine g_dup2 dX9_bruise_81 rfl rfl ?_
  refine g_ialdB dX9_bruise_82 sh_36 (by omega) (by omega) (m_36 hMh11 _) (fun v12 ev12 bv12 cv12 => ?_)
  refine g_iconst dX9_bruise_83 (inR_c rfl) ?_
  refine g_iaddF dX9_bruise_84 (fun v13 bv13 cv13 => ?_)
  refine g_iastB dX9_bruise_85 sh_36 (by omega) (by omega) (fun h14 eh14 => ?_)
  have hFh14 := Fr.ar eh14
  have hMh14 := u_36 hMh11 eh14 (by omega) (by omega)
  exact g_return dX9_bruise_86 rfl (hPo _ ⟨hMh14, (Fr.tr (Fr.tr (Fr.tr (Fr.sub hFh5 rfl) hFh8 rfl) hFh11 rfl) hFh14 rfl)⟩)
set_option maxRecDepth 100000 in
set_option maxHeartbeats 4000000 in
theorem c_X9_letFall_21_82 (x1 x2 : Int) (h : MEM) (hM : MBx h) (bx1 : 0 ≤ x1) (dx1 : x1 ≤ 7) (bx2 : 0 ≤ x2) (dx2 : x2 ≤ 9) : CI yX9_letFall cX9_letFall 10 (some .int) 4 [pR 21, pR 82, pI x1, pI x2] h (fun x h' => MBx h' ∧ Fr [(21, 9), (24, 0), (30, 0), (31, 0), (36, 0), (37, 0), (38, 0), (40, 0), (89, 0)] h h' ∧ -2147483648 ≤ x ∧ x ≤ 99) := by
  refine CI.of (L0 := [some (pR 21), some (pR 82), some (pI x1), some (pI x2), none, none, none, none, none, none]) rfl (Nat.le_of_ble_eq_true rfl) rfl (fun Po hPo hav => ?_)
  refine g_aload_n dX9_letFall_0 rfl ?_
  refine gR_X9_21 rfl dX9_letFall_1 sh_21 (b := 26) (m_21_1 hM) ?_
  refine gR_X9_103 rfl dX9_letFall_4 sh_26 (b := 27) (m_26_1 hM) ?_
  refine g_iload_n dX9_letFall_7 rfl (fun _ => ?_)
  refine g_ialdB dX9_letFall_8 sh_27 (by omega) (by omega) (m_27 hM _) (fun v1 ev1 bv1 cv1 => ?_)
  refine g_istore dX9_letFall_9 (by decide) rfl ?_
  refine g_aload_n dX9_letFall_11 rfl ?_
  refine gR_X9_12 rfl dX9_letFall_12 sh_21 (b := 22) (m_21_0 hM) ?_
  refine g_iload dX9_letFall_15 rfl (fun _ => ?_)
  refine g_cVP (as := [_]) (c_X6_has_22 _ h hM (by omega) (by omega)) dX9_letFall_17 mi_X6_has in_X6_has se_X6_has ml_X9_106 rfl rfl rfl sh_22 rfl rfl (Nat.le_of_ble_eq_true rfl) (fun v2 q3 => ?_)
  obtain ⟨v4, ev4⟩ : ∃ z, z = h 22 0 := ⟨_, rfl⟩
  have bv4 : 0 ≤ v4 ∧ v4 ≤ 10 := by rw [ev4]; exact (m_22_0 hM)
  rcases q3 with ⟨rfl, q3⟩ | ⟨rfl, q3⟩
  · skip
    refine g_if_ne 25 dX9_letFall_20 (by decide) (fun q5 => ?_) (fun _ => by exfalso; omega)
    refine g_aload_n dX9_letFall_25 rfl ?_
    refine g_iload_n dX9_letFall_26 rfl (fun _ => ?_)
    refine g_iload dX9_letFall_27 rfl (fun _ => ?_)
    refine g_iload_n dX9_letFall_29 rfl (fun _ => ?_)
    refine g_cVV (as := [_, _, _]) (c_X9_tell_21 _ _ _ h hM (by omega) (by omega) (by omega) (by omega) (by omega) (by omega)) dX9_letFall_30 mi_X9_tell in_X9_tell se_X9_tell ml_X9_107 rfl rfl rfl sh_21 rfl rfl (Nat.le_of_ble_eq_true rfl) (fun h6 q7 => ?_)
    obtain ⟨hMh6, hFh6⟩ := q7
    refine g_aload_n dX9_letFall_33 rfl ?_
    refine g_bipush dX9_letFall_34 (inR_c rfl) (by decide) ?_
    refine g_bipush dX9_letFall_36 (inR_c rfl) (by decide) ?_
    refine g_aload_n dX9_letFall_38 rfl ?_
    refine gR_X9_52 rfl dX9_letFall_39 sh_21 (b := 40) (m_21_9 hMh6) ?_
    refine g_cV (as := [_, _, _]) (c_X2_answer_82_40 _ _ h6 hMh6 (by omega) (by omega) (by omega) (by omega)) dX9_letFall_42 mi_X2_answer in_X2_answer se_X2_answer ml_X9_114 rfl rfl rfl sh_82 rfl rfl (Nat.le_of_ble_eq_true rfl) (fun v8 h9 q10 => ?_)
    obtain ⟨hMh9, hFh9, bv8, cv8⟩ := q10
    refine g_aload_n dX9_letFall_45 rfl ?_
    refine gR_X9_12 rfl dX9_letFall_46 sh_21 (b := 22) (m_21_0 hMh9) ?_
    refine gR_X9_111 rfl dX9_letFall_49 sh_22 (b := 24) (m_22_2 hMh9) ?_
    refine g_iload dX9_letFall_52 rfl (fun _ => ?_)
    refine g_ialdB dX9_letFall_54 sh_24 (by omega) (by omega) (m_24 hMh9 _) (fun v11 ev11 bv11 cv11 => ?_)
    refine g_mmin dX9_letFall_55 ml_X9_123 (Nat.le_of_ble_eq_true rfl) (Nat.le_of_ble_eq_true rfl) trivial (fun v12 ev12 => ?_)
    have bv12 : -2147483648 ≤ v12 ∧ v12 ≤ 99 := by omega
    refine g_istore dX9_letFall_58 (by decide) rfl ?_
    refine g_aload_n dX9_letFall_60 rfl ?_
    refine gR_X9_21 rfl dX9_letFall_61 sh_21 (b := 26) (m_21_1 hMh9) ?_
    refine gR_X9_75 rfl dX9_letFall_64 sh_26 (b := 29) (m_26_3 hMh9) ?_
    refine g_iload_n dX9_letFall_67 rfl (fun _ => ?_)
    refine g_ialdB dX9_letFall_68 sh_29 (by omega) (by omega) (m_29 hMh9 _) (fun v13 ev13 bv13 cv13 => ?_)
    refine g_iconst dX9_letFall_69 (inR_c rfl) ?_
    refine g_icmp_ne 81 dX9_letFall_70 (by decide) (fun q14 => ?_) (fun q14 => ?_)
    · skip
      refine g_iconst dX9_letFall_81 (inR_c rfl) ?_
      have c84 : ∀ (n : Nat) (y15 : Int) (h16 : MEM), MBx h16 → Fr [(21, 9), (24, 0), (30, 0), (31, 0), (36, 0), (37, 0), (38, 0), (40, 0), (89, 0)] h9 h16 → 0 ≤ y15 → y15 ≤ 99 → 99 - y15 < (n : Int) → G yX9_letFall cX9_letFall 10 (some .int) none Po (4, 240, 0, 0) 84 [some (pR 21), some (pR 82), some (pI x1), some (pI x2), some (pI v1), some (pI v12), some (pI y15), none, none, none] [] SH h16 0 0 := by
        intro n
        induction n with
        | zero =>
          intro y15 h16 hMh16 hFh16 by15 dy15 hn
          exfalso; omega
        | succ n ih84 =>
          intro y15 h16 hMh16 hFh16 by15 dy15 hn
          refine g_iload dX9_letFall_84 rfl (fun _ => ?_)
          refine g_iload dX9_letFall_86 rfl (fun _ => ?_)
          refine g_icmp_ge 214 dX9_letFall_88 (by decide) (fun q17 => ?_) (fun q17 => ?_)
          · skip
            refine g_iload dX9_letFall_214 rfl (fun _ => ?_)
            exact g_ireturn dX9_letFall_216 retI (hPo _ _ ⟨hMh16, (Fr.tr (Fr.tr (Fr.sub hFh6 rfl) hFh9 rfl) hFh16 rfl), (by omega), (by omega)⟩)
          · skip
            refine g_aload_n dX9_letFall_91 rfl ?_
            refine gR_X9_12 rfl dX9_letFall_92 sh_21 (b := 22) (m_21_0 hMh16) ?_
            refine gR_X9_111 rfl dX9_letFall_95 sh_22 (b := 24) (m_22_2 hMh16) ?_
            refine g_iload dX9_letFall_98 rfl (fun _ => ?_)
            refine g_dup2 dX9_letFall_100 rfl rfl ?_
            refine g_ialdB dX9_letFall_101 sh_24 (by omega) (by omega) (m_24 hMh16 _) (fun v18 ev18 bv18 cv18 => ?_)
            refine g_iconst dX9_letFall_102 (inR_c rfl) ?_
            refine g_isubF dX9_letFall_103 (fun v19 bv19 cv19 => ?_)
            refine g_iastB dX9_letFall_104 sh_24 (by omega) (by omega) (fun h20 eh20 => ?_)
            have hFh20 := Fr.ar eh20
            have hMh20 := u_24 hMh16 eh20 (by omega) (by omega)
            refine g_aload_n dX9_letFall_105 rfl ?_
            refine gR_X9_21 rfl dX9_letFall_106 sh_21 (b := 26) (m_21_1 hMh20) ?_
            refine gR_X9_129 rfl dX9_letFall_109 sh_26 (b := 30) (m_26_4 hMh20) ?_
            refine g_iload_n dX9_letFall_112 rfl (fun _ => ?_)
            refine g_dup2 dX9_letFall_113 rfl rfl ?_
            refine g_ialdB dX9_letFall_114 sh_30 (by omega) (by omega) (m_30 hMh20 _) (fun v21 ev21 bv21 cv21 => ?_)
            refine g_iconst dX9_letFall_115 (inR_c rfl) ?_
            refine g_iaddF dX9_letFall_116 (fun v22 bv22 cv22 => ?_)
            refine g_iastB dX9_letFall_117 sh_30 (by omega) (by omega) (fun h23 eh23 => ?_)
            have hFh23 := Fr.ar eh23
            have hMh23 := u_30 hMh20 eh23 (by omega) (by omega)
            refine g_aload_n dX9_letFall_118 rfl ?_
            refine gR_X9_28 rfl dX9_letFall_119 sh_21 (b := 32) (m_21_2 hMh23) ?_
            refine g_iload dX9_letFall_122 rfl (fun _ => ?_)
            refine g_cVP (as := [_]) (c_X4_struckBelow_32 _ h23 hMh23 (by omega) (by omega)) dX9_letFall_124 mi_X4_struckBelow in_X4_struckBelow se_X4_struckBelow ml_X9_132 rfl rfl rfl sh_32 rfl rfl (Nat.le_of_ble_eq_true rfl) (fun v24 q25 => ?_)
            obtain ⟨bv24, cv24⟩ := q25
            refine g_istore dX9_letFall_127 (by decide) rfl ?_
            refine g_aload_n dX9_letFall_129 rfl ?_
            refine gR_X9_28 rfl dX9_letFall_130 sh_21 (b := 32) (m_21_2 hMh23) ?_
            refine g_iload dX9_letFall_133 rfl (fun _ => ?_)
            refine g_cVP (as := [_]) (c_X4_has_32 _ h23 hMh23 (by omega) (by omega)) dX9_letFall_135 mi_X4_has in_X4_has se_X4_has ml_X9_78 rfl rfl rfl sh_32 rfl rfl (Nat.le_of_ble_eq_true rfl) (fun v26 q27 => ?_)
            have q28 : h23 32 0 = h 32 0 := ((hFh23 32 0 rfl).trans ((hFh20 32 0 rfl).trans ((hFh16 32 0 rfl).trans ((hFh9 32 0 rfl).trans (hFh6 32 0 rfl)))))
            obtain ⟨v29, ev29⟩ : ∃ z, z = h23 32 0 := ⟨_, rfl⟩
            have bv29 : 0 ≤ v29 ∧ v29 ≤ 8 := by rw [ev29]; exact (m_32_0 hMh23)
            rcases q27 with ⟨rfl, q27⟩ | ⟨rfl, q27⟩
            · skip
              refine g_if_eq 198 dX9_letFall_138 (by decide) (fun _ => by exfalso; omega) (fun q30 => ?_)
              refine g_aload_n dX9_letFall_141 rfl ?_
              refine g_iload_n dX9_letFall_142 rfl (fun _ => ?_)
              refine g_iload dX9_letFall_143 rfl (fun _ => ?_)
              refine g_iload_n dX9_letFall_145 rfl (fun _ => ?_)
              refine g_cVV (as := [_, _, _]) (c_X9_tell_21 _ _ _ h23 hMh23 (by omega) (by omega) (by omega) (by omega) (by omega) (by omega)) dX9_letFall_146 mi_X9_tell in_X9_tell se_X9_tell ml_X9_107 rfl rfl rfl sh_21 rfl rfl (Nat.le_of_ble_eq_true rfl) (fun h31 q32 => ?_)
              obtain ⟨hMh31, hFh31⟩ := q32
              refine g_aload_n dX9_letFall_149 rfl ?_
              refine g_iload_n dX9_letFall_150 rfl (fun _ => ?_)
              refine g_iload dX9_letFall_151 rfl (fun _ => ?_)
              refine g_cVV (as := [_, _]) (c_X9_tellMaster_21 _ _ h31 hMh31 (by omega) (by omega) (by omega) (by omega)) dX9_letFall_153 mi_X9_tellMaster in_X9_tellMaster se_X9_tellMaster ml_X9_136 rfl rfl rfl sh_21 rfl rfl (Nat.le_of_ble_eq_true rfl) (fun h33 q34 => ?_)
              obtain ⟨hMh33, hFh33⟩ := q34
              refine g_aload_n dX9_letFall_156 rfl ?_
              refine g_bipush dX9_letFall_157 (inR_c rfl) (by decide) ?_
              refine g_bipush dX9_letFall_159 (inR_c rfl) (by decide) ?_
              refine g_aload_n dX9_letFall_161 rfl ?_
              refine gR_X9_52 rfl dX9_letFall_162 sh_21 (b := 40) (m_21_9 hMh33) ?_
              refine g_cV (as := [_, _, _]) (c_X2_answer_82_40 _ _ h33 hMh33 (by omega) (by omega) (by omega) (by omega)) dX9_letFall_165 mi_X2_answer in_X2_answer se_X2_answer ml_X9_114 rfl rfl rfl sh_82 rfl rfl (Nat.le_of_ble_eq_true rfl) (fun v35 h36 q37 => ?_)
              obtain ⟨hMh36, hFh36, bv35, cv35⟩ := q37
              refine g_istore dX9_letFall_168 (by decide) rfl ?_
              refine g_aload_n dX9_letFall_170 rfl ?_
              refine g_bipush dX9_letFall_171 (inR_c rfl) (by decide) ?_
              refine g_bipush dX9_letFall_173 (inR_c rfl) (by decide) ?_
              refine g_aload_n dX9_letFall_175 rfl ?_
              refine gR_X9_52 rfl dX9_letFall_176 sh_21 (b := 40) (m_21_9 hMh36) ?_
              refine g_cV (as := [_, _, _]) (c_X2_answer_82_40 _ _ h36 hMh36 (by omega) (by omega) (by omega) (by omega)) dX9_letFall_179 mi_X2_answer in_X2_answer se_X2_answer ml_X9_114 rfl rfl rfl sh_82 rfl rfl (Nat.le_of_ble_eq_true rfl) (fun v38 h39 q40 => ?_)
              obtain ⟨hMh39, hFh39, bv38, cv38⟩ := q40
              refine g_istore dX9_letFall_182 (by decide) rfl ?_
              refine g_aload_n dX9_letFall_184 rfl ?_
              refine g_iload_n dX9_letFall_185 rfl (fun _ => ?_)
              refine g_iload dX9_letFall_186 rfl (fun _ => ?_)
              refine g_iload dX9_letFall_188 rfl (fun _ => ?_)
              refine g_iload dX9_letFall_190 rfl (fun _ => ?_)
              refine g_cVV (as := [_, _, _, _]) (c_X9_bruise_21 _ _ _ _ h39 hMh39 (by omega) (by omega) (by omega) (by omega) (by omega) (by omega) (by omega) (by omega)) dX9_letFall_192 mi_X9_bruise in_X9_bruise se_X9_bruise ml_X9_140 rfl rfl rfl sh_21 rfl rfl (Nat.le_of_ble_eq_true rfl) (fun h41 q42 => ?_)
              obtain ⟨hMh41, hFh41⟩ := q42
              refine g_goto 208 dX9_letFall_195 (by decide) ?_
              refine g_iincB dX9_letFall_208 rfl rfl (by omega) (by omega) ?_
              refine g_goto 84 dX9_letFall_211 (by decide) ?_
              refine g_drop 7 ?_
              refine g_drop 8 ?_
              refine g_drop 9 ?_
              exact ih84 _ _ hMh41 (Fr.tr (Fr.tr (Fr.tr (Fr.tr (Fr.tr (Fr.tr (Fr.tr (Fr.sub hFh16 rfl) hFh20 rfl) hFh23 rfl) hFh31 rfl) hFh33 rfl) hFh36 rfl) hFh39 rfl) hFh41 rfl) (by omega) (by omega) (by omega)
            · skip
              refine g_if_eq 198 dX9_letFall_138 (by decide) (fun q43 => ?_) (fun _ => by exfalso; omega)
              refine g_aload_n dX9_letFall_198 rfl ?_
              refine g_dup dX9_letFall_199 rfl ?_
              refine gI_X9_49 rfl dX9_letFall_200 sh_21 (m_21_8 hMh23) (fun v44 ev44 bv44 cv44 => ?_)
              refine g_iconst dX9_letFall_203 (inR_c rfl) ?_
              refine g_iaddF dX9_letFall_204 (fun v45 bv45 cv45 => ?_)
              refine pI_X9_49 rfl dX9_letFall_205 sh_21 (fun h46 eh46 => ?_)
              have hFh46 := Fr.st eh46
              have hMh46 := u_21_8 hMh23 eh46 (by omega) (by omega)
              refine g_iincB dX9_letFall_208 rfl rfl (by omega) (by omega) ?_
              refine g_goto 84 dX9_letFall_211 (by decide) ?_
              refine g_drop 7 ?_
              exact ih84 _ _ hMh46 (Fr.tr (Fr.tr (Fr.tr (Fr.sub hFh16 rfl) hFh20 rfl) hFh23 rfl) hFh46 rfl) (by omega) (by omega) (by omega)
      refine g_istore dX9_letFall_82 (by decide) rfl ?_
      exact c84 100 _ _ hMh9 Fr.rf (by omega) (by omega) (by omega)
    · skip
      refine g_iload dX9_letFall_73 rfl (fun _ => ?_)
      refine g_if_le 81 dX9_letFall_75 (by decide) (fun q47 => ?_) (fun q47 => ?_)
      · skip
        refine g_iconst dX9_letFall_81 (inR_c rfl) ?_
        have c84 : ∀ (n : Nat) (y48 : Int) (h49 : MEM), MBx h49 → Fr [(21, 9), (24, 0), (30, 0), (31, 0), (36, 0), (37, 0), (38, 0), (40, 0), (89, 0)] h9 h49 → 0 ≤ y48 → y48 ≤ 99 → 99 - y48 < (n : Int) → G yX9_letFall cX9_letFall 10 (some .int) none Po (4, 240, 0, 0) 84 [some (pR 21), some (pR 82), some (pI x1), some (pI x2), some (pI v1), some (pI v12), some (pI y48), none, none, none] [] SH h49 0 0 := by
          intro n
          induction n with
          | zero =>
            intro y48 h49 hMh49 hFh49 by48 dy48 hn
            exfalso; omega
          | succ n ih84 =>
            intro y48 h49 hMh49 hFh49 by48 dy48 hn
            refine g_iload dX9_letFall_84 rfl (fun _ => ?_)
            refine g_iload dX9_letFall_86 rfl (fun _ => ?_)
            refine g_icmp_ge 214 dX9_letFall_88 (by decide) (fun q50 => ?_) (fun _ => by exfalso; omega)
            refine g_iload dX9_letFall_214 rfl (fun _ => ?_)
            exact g_ireturn dX9_letFall_216 retI (hPo _ _ ⟨hMh49, (Fr.tr (Fr.tr (Fr.sub hFh6 rfl) hFh9 rfl) hFh49 rfl), (by omega), (by omega)⟩)
        refine g_istore dX9_letFall_82 (by decide) rfl ?_
        exact c84 100 _ _ hMh9 Fr.rf (by omega) (by omega) (by omega)
      · skip
        refine g_iincB dX9_letFall_78 rfl rfl (by omega) (by omega) ?_
        refine g_iconst dX9_letFall_81 (inR_c rfl) ?_
        have c84 : ∀ (n : Nat) (y51 : Int) (h52 : MEM), MBx h52 → Fr [(21, 9), (24, 0), (30, 0), (31, 0), (36, 0), (37, 0), (38, 0), (40, 0), (89, 0)] h9 h52 → 0 ≤ y51 → y51 ≤ 99 → 99 - y51 < (n : Int) → G yX9_letFall cX9_letFall 10 (some .int) none Po (4, 240, 0, 0) 84 [some (pR 21), some (pR 82), some (pI x1), some (pI x2), some (pI v1), some (pI (v12 + (-1))), some (pI y51), none, none, none] [] SH h52 0 0 := by
          intro n
          induction n with
          | zero =>
            intro y51 h52 hMh52 hFh52 by51 dy51 hn
            exfalso; omega
          | succ n ih84 =>
            intro y51 h52 hMh52 hFh52 by51 dy51 hn
            refine g_iload dX9_letFall_84 rfl (fun _ => ?_)
            refine g_iload dX9_letFall_86 rfl (fun _ => ?_)
            refine g_icmp_ge 214 dX9_letFall_88 (by decide) (fun q53 => ?_) (fun q53 => ?_)
            · skip
              refine g_iload dX9_letFall_214 rfl (fun _ => ?_)
              exact g_ireturn dX9_letFall_216 retI (hPo _ _ ⟨hMh52, (Fr.tr (Fr.tr (Fr.sub hFh6 rfl) hFh9 rfl) hFh52 rfl), (by omega), (by omega)⟩)
            · skip
              refine g_aload_n dX9_letFall_91 rfl ?_
              refine gR_X9_12 rfl dX9_letFall_92 sh_21 (b := 22) (m_21_0 hMh52) ?_
              refine gR_X9_111 rfl dX9_letFall_95 sh_22 (b := 24) (m_22_2 hMh52) ?_
              refine g_iload dX9_letFall_98 rfl (fun _ => ?_)
              refine g_dup2 dX9_letFall_100 rfl rfl ?_
              refine g_ialdB dX9_letFall_101 sh_24 (by omega) (by omega) (m_24 hMh52 _) (fun v54 ev54 bv54 cv54 => ?_)
              refine g_iconst dX9_letFall_102 (inR_c rfl) ?_
              refine g_isubF dX9_letFall_103 (fun v55 bv55 cv55 => ?_)
              refine g_iastB dX9_letFall_104 sh_24 (by omega) (by omega) (fun h56 eh56 => ?_)
              have hFh56 := Fr.ar eh56
              have hMh56 := u_24 hMh52 eh56 (by omega) (by omega)
              refine g_aload_n dX9_letFall_105 rfl ?_
              refine gR_X9_21 rfl dX9_letFall_106 sh_21 (b := 26) (m_21_1 hMh56) ?_
              refine gR_X9_129 rfl dX9_letFall_109 sh_26 (b := 30) (m_26_4 hMh56) ?_
              refine g_iload_n dX9_letFall_112 rfl (fun _ => ?_)
              refine g_dup2 dX9_letFall_113 rfl rfl ?_
              refine g_ialdB dX9_letFall_114 sh_30 (by omega) (by omega) (m_30 hMh56 _) (fun v57 ev57 bv57 cv57 => ?_)
              refine g_iconst dX9_letFall_115 (inR_c rfl) ?_
              refine g_iaddF dX9_letFall_116 (fun v58 bv58 cv58 => ?_)
              refine g_iastB dX9_letFall_117 sh_30 (by omega) (by omega) (fun h59 eh59 => ?_)
              have hFh59 := Fr.ar eh59
              have hMh59 := u_30 hMh56 eh59 (by omega) (by omega)
              refine g_aload_n dX9_letFall_118 rfl ?_
              refine gR_X9_28 rfl dX9_letFall_119 sh_21 (b := 32) (m_21_2 hMh59) ?_
              refine g_iload dX9_letFall_122 rfl (fun _ => ?_)
              refine g_cVP (as := [_]) (c_X4_struckBelow_32 _ h59 hMh59 (by omega) (by omega)) dX9_letFall_124 mi_X4_struckBelow in_X4_struckBelow se_X4_struckBelow ml_X9_132 rfl rfl rfl sh_32 rfl rfl (Nat.le_of_ble_eq_true rfl) (fun v60 q61 => ?_)
              obtain ⟨bv60, cv60⟩ := q61
              refine g_istore dX9_letFall_127 (by decide) rfl ?_
              refine g_aload_n dX9_letFall_129 rfl ?_
              refine gR_X9_28 rfl dX9_letFall_130 sh_21 (b := 32) (m_21_2 hMh59) ?_
              refine g_iload dX9_letFall_133 rfl (fun _ => ?_)
              refine g_cVP (as := [_]) (c_X4_has_32 _ h59 hMh59 (by omega) (by omega)) dX9_letFall_135 mi_X4_has in_X4_has se_X4_has ml_X9_78 rfl rfl rfl sh_32 rfl rfl (Nat.le_of_ble_eq_true rfl) (fun v62 q63 => ?_)
              have q64 : h59 32 0 = h 32 0 := ((hFh59 32 0 rfl).trans ((hFh56 32 0 rfl).trans ((hFh52 32 0 rfl).trans ((hFh9 32 0 rfl).trans (hFh6 32 0 rfl)))))
              obtain ⟨v65, ev65⟩ : ∃ z, z = h59 32 0 := ⟨_, rfl⟩
              have bv65 : 0 ≤ v65 ∧ v65 ≤ 8 := by rw [ev65]; exact (m_32_0 hMh59)
              rcases q63 with ⟨rfl, q63⟩ | ⟨rfl, q63⟩
              · skip
                refine g_if_eq 198 dX9_letFall_138 (by decide) (fun _ => by exfalso; omega) (fun q66 => ?_)
                refine g_aload_n dX9_letFall_141 rfl ?_
                refine g_iload_n dX9_letFall_142 rfl (fun _ => ?_)
                refine g_iload dX9_letFall_143 rfl (fun _ => ?_)
                refine g_iload_n dX9_letFall_145 rfl (fun _ => ?_)
                refine g_cVV (as := [_, _, _]) (c_X9_tell_21 _ _ _ h59 hMh59 (by omega) (by omega) (by omega) (by omega) (by omega) (by omega)) dX9_letFall_146 mi_X9_tell in_X9_tell se_X9_tell ml_X9_107 rfl rfl rfl sh_21 rfl rfl (Nat.le_of_ble_eq_true rfl) (fun h67 q68 => ?_)
                obtain ⟨hMh67, hFh67⟩ := q68
                refine g_aload_n dX9_letFall_149 rfl ?_
                refine g_iload_n dX9_letFall_150 rfl (fun _ => ?_)
                refine g_iload dX9_letFall_151 rfl (fun _ => ?_)
                refine g_cVV (as := [_, _]) (c_X9_tellMaster_21 _ _ h67 hMh67 (by omega) (by omega) (by omega) (by omega)) dX9_letFall_153 mi_X9_tellMaster in_X9_tellMaster se_X9_tellMaster ml_X9_136 rfl rfl rfl sh_21 rfl rfl (Nat.le_of_ble_eq_true rfl) (fun h69 q70 => ?_)
                obtain ⟨hMh69, hFh69⟩ := q70
                refine g_aload_n dX9_letFall_156 rfl ?_
                refine g_bipush dX9_letFall_157 (inR_c rfl) (by decide) ?_
                refine g_bipush dX9_letFall_159 (inR_c rfl) (by decide) ?_
                refine g_aload_n dX9_letFall_161 rfl ?_
                refine gR_X9_52 rfl dX9_letFall_162 sh_21 (b := 40) (m_21_9 hMh69) ?_
                refine g_cV (as := [_, _, _]) (c_X2_answer_82_40 _ _ h69 hMh69 (by omega) (by omega) (by omega) (by omega)) dX9_letFall_165 mi_X2_answer in_X2_answer se_X2_answer ml_X9_114 rfl rfl rfl sh_82 rfl rfl (Nat.le_of_ble_eq_true rfl) (fun v71 h72 q73 => ?_)
                obtain ⟨hMh72, hFh72, bv71, cv71⟩ := q73
                refine g_istore dX9_letFall_168 (by decide) rfl ?_
                refine g_aload_n dX9_letFall_170 rfl ?_
                refine g_bipush dX9_letFall_171 (inR_c rfl) (by decide) ?_
                refine g_bipush dX9_letFall_173 (inR_c rfl) (by decide) ?_
                refine g_aload_n dX9_letFall_175 rfl ?_
                refine gR_X9_52 rfl dX9_letFall_176 sh_21 (b := 40) (m_21_9 hMh72) ?_
                refine g_cV (as := [_, _, _]) (c_X2_answer_82_40 _ _ h72 hMh72 (by omega) (by omega) (by omega) (by omega)) dX9_letFall_179 mi_X2_answer in_X2_answer se_X2_answer ml_X9_114 rfl rfl rfl sh_82 rfl rfl (Nat.le_of_ble_eq_true rfl) (fun v74 h75 q76 => ?_)
                obtain ⟨hMh75, hFh75, bv74, cv74⟩ := q76
                refine g_istore dX9_letFall_182 (by decide) rfl ?_
                refine g_aload_n dX9_letFall_184 rfl ?_
                refine g_iload_n dX9_letFall_185 rfl (fun _ => ?_)
                refine g_iload dX9_letFall_186 rfl (fun _ => ?_)
                refine g_iload dX9_letFall_188 rfl (fun _ => ?_)
                refine g_iload dX9_letFall_190 rfl (fun _ => ?_)
                refine g_cVV (as := [_, _, _, _]) (c_X9_bruise_21 _ _ _ _ h75 hMh75 (by omega) (by omega) (by omega) (by omega) (by omega) (by omega) (by omega) (by omega)) dX9_letFall_192 mi_X9_bruise in_X9_bruise se_X9_bruise ml_X9_140 rfl rfl rfl sh_21 rfl rfl (Nat.le_of_ble_eq_true rfl) (fun h77 q78 => ?_)
                obtain ⟨hMh77, hFh77⟩ := q78
                refine g_goto 208 dX9_letFall_195 (by decide) ?_
                refine g_iincB dX9_letFall_208 rfl rfl (by omega) (by omega) ?_
                refine g_goto 84 dX9_letFall_211 (by decide) ?_
                refine g_drop 7 ?_
                refine g_drop 8 ?_
                refine g_drop 9 ?_
                exact ih84 _ _ hMh77 (Fr.tr (Fr.tr (Fr.tr (Fr.tr (Fr.tr (Fr.tr (Fr.tr (Fr.sub hFh52 rfl) hFh56 rfl) hFh59 rfl) hFh67 rfl) hFh69 rfl) hFh72 rfl) hFh75 rfl) hFh77 rfl) (by omega) (by omega) (by omega)
              · skip
                refine g_if_eq 198 dX9_letFall_138 (by decide) (fun q79 => ?_) (fun _ => by exfalso; omega)
                refine g_aload_n dX9_letFall_198 rfl ?_
                refine g_dup dX9_letFall_199 rfl ?_
                refine gI_X9_49 rfl dX9_letFall_200 sh_21 (m_21_8 hMh59) (fun v80 ev80 bv80 cv80 => ?_)
                refine g_iconst dX9_letFall_203 (inR_c rfl) ?_
                refine g_iaddF dX9_letFall_204 (fun v81 bv81 cv81 => ?_)
                refine pI_X9_49 rfl dX9_letFall_205 sh_21 (fun h82 eh82 => ?_)
                have hFh82 := Fr.st eh82
                have hMh82 := u_21_8 hMh59 eh82 (by omega) (by omega)
                refine g_iincB dX9_letFall_208 rfl rfl (by omega) (by omega) ?_
                refine g_goto 84 dX9_letFall_211 (by decide) ?_
                refine g_drop 7 ?_
                exact ih84 _ _ hMh82 (Fr.tr (Fr.tr (Fr.tr (Fr.sub hFh52 rfl) hFh56 rfl) hFh59 rfl) hFh82 rfl) (by omega) (by omega) (by omega)
        refine g_istore dX9_letFall_82 (by decide) rfl ?_
        exact c84 100 _ _ hMh9 Fr.rf (by omega) (by omega) (by omega)
  · skip
    refine g_if_ne 25 dX9_letFall_20 (by decide) (fun _ => by exfalso; omega) (fun q83 => ?_)
    refine g_iconst dX9_letFall_23 (inR_c rfl) ?_
    exact g_ireturn dX9_letFall_24 retI (hPo _ _ ⟨hM, Fr.rf, (by omega), (by omega)⟩)
set_option maxRecDepth 100000 in
set_option maxHeartbeats 4000000 in
theorem c_X9_lay_21_82 (x1 x2 : Int) (h : MEM) (hM : MBx h) (bx1 : 0 ≤ x1) (dx1 : x1 ≤ 7) (bx2 : 0 ≤ x2) (dx2 : x2 ≤ 9) : CV yX9_lay cX9_lay 5 (none) 4 [pR 21, pR 82, pI x1, pI x2] h (fun h' => MBx h' ∧ Fr [(24, 0), (40, 0), (89, 0)] h h') := by
  refine CV.of (L0 := [some (pR 21), some (pR 82), some (pI x1), some (pI x2), none]) rfl (Nat.le_of_ble_eq_true rfl) rfl (fun Po hPo hav => ?_)
  refine g_aload_n dX9_lay_0 rfl ?_
  refine gR_X9_21 rfl dX9_lay_1 sh_21 (b := 26) (m_21_1 hM) ?_
  refine gR_X9_103 rfl dX9_lay_4 sh_26 (b := 27) (m_26_1 hM) ?_
  refine g_iload_n dX9_lay_7 rfl (fun _ => ?_)
  refine g_ialdB dX9_lay_8 sh_27 (by omega) (by omega) (m_27 hM _) (fun v1 ev1 bv1 cv1 => ?_)
  refine g_istore dX9_lay_9 (by decide) rfl ?_
  refine g_aload_n dX9_lay_11 rfl ?_
  refine gR_X9_12 rfl dX9_lay_12 sh_21 (b := 22) (m_21_0 hM) ?_
  refine g_iload dX9_lay_15 rfl (fun _ => ?_)
  refine g_cVP (as := [_]) (c_X6_has_22 _ h hM (by omega) (by omega)) dX9_lay_17 mi_X6_has in_X6_has se_X6_has ml_X9_106 rfl rfl rfl sh_22 rfl rfl (Nat.le_of_ble_eq_true rfl) (fun v2 q3 => ?_)
  obtain ⟨v4, ev4⟩ : ∃ z, z = h 22 0 := ⟨_, rfl⟩
  have bv4 : 0 ≤ v4 ∧ v4 ≤ 10 := by rw [ev4]; exact (m_22_0 hM)
  rcases q3 with ⟨rfl, q3⟩ | ⟨rfl, q3⟩
  · skip
    refine g_if_ne 24 dX9_lay_20 (by decide) (fun q5 => ?_) (fun _ => by exfalso; omega)
    refine g_aload_n dX9_lay_24 rfl ?_
    refine g_iload_n dX9_lay_25 rfl (fun _ => ?_)
    refine g_iload dX9_lay_26 rfl (fun _ => ?_)
    refine g_iload_n dX9_lay_28 rfl (fun _ => ?_)
    refine g_cVV (as := [_, _, _]) (c_X9_tell_21 _ _ _ h hM (by omega) (by omega) (by omega) (by omega) (by omega) (by omega)) dX9_lay_29 mi_X9_tell in_X9_tell se_X9_tell ml_X9_107 rfl rfl rfl sh_21 rfl rfl (Nat.le_of_ble_eq_true rfl) (fun h6 q7 => ?_)
    obtain ⟨hMh6, hFh6⟩ := q7
    refine g_aload_n dX9_lay_32 rfl ?_
    refine gR_X9_12 rfl dX9_lay_33 sh_21 (b := 22) (m_21_0 hMh6) ?_
    refine gR_X9_111 rfl dX9_lay_36 sh_22 (b := 24) (m_22_2 hMh6) ?_
    refine g_iload dX9_lay_39 rfl (fun _ => ?_)
    refine g_dup2 dX9_lay_41 rfl rfl ?_
    refine g_ialdB dX9_lay_42 sh_24 (by omega) (by omega) (m_24 hMh6 _) (fun v8 ev8 bv8 cv8 => ?_)
    refine g_aload_n dX9_lay_43 rfl ?_
    refine g_bipush dX9_lay_44 (inR_c rfl) (by decide) ?_
    refine g_bipush dX9_lay_46 (inR_c rfl) (by decide) ?_
    refine g_aload_n dX9_lay_48 rfl ?_
    refine gR_X9_52 rfl dX9_lay_49 sh_21 (b := 40) (m_21_9 hMh6) ?_
    refine g_cV (as := [_, _, _]) (c_X2_answer_82_40 _ _ h6 hMh6 (by omega) (by omega) (by omega) (by omega)) dX9_lay_52 mi_X2_answer in_X2_answer se_X2_answer ml_X9_114 rfl rfl rfl sh_82 rfl rfl (Nat.le_of_ble_eq_true rfl) (fun v9 h10 q11 => ?_)
    obtain ⟨hMh10, hFh10, bv9, cv9⟩ := q11
    refine g_aload_n dX9_lay_55 rfl ?_
    refine gR_X9_12 rfl dX9_lay_56 sh_21 (b := 22) (m_21_0 hMh10) ?_
    refine gR_X9_120 rfl dX9_lay_59 sh_22 (b := 23) (m_22_1 hMh10) ?_
    refine g_iload dX9_lay_62 rfl (fun _ => ?_)
    refine g_ialdB dX9_lay_64 sh_23 (by omega) (by omega) (m_23 hMh10 _) (fun v12 ev12 bv12 cv12 => ?_)
    refine g_aload_n dX9_lay_65 rfl ?_
    refine gR_X9_12 rfl dX9_lay_66 sh_21 (b := 22) (m_21_0 hMh10) ?_
    refine gR_X9_111 rfl dX9_lay_69 sh_22 (b := 24) (m_22_2 hMh10) ?_
    refine g_iload dX9_lay_72 rfl (fun _ => ?_)
    refine g_ialdE dX9_lay_74 sh_24 (by omega) (by omega) ((hFh10 24 _ rfl).trans ev8.symm) ?_
    refine g_isubF dX9_lay_75 (fun v13 bv13 cv13 => ?_)
    refine g_mmin dX9_lay_76 ml_X9_123 (Nat.le_of_ble_eq_true rfl) (Nat.le_of_ble_eq_true rfl) trivial (fun v14 ev14 => ?_)
    have bv14 : -2147483648 ≤ v14 ∧ v14 ≤ 99 := by omega
    refine g_iaddF dX9_lay_79 (fun v15 bv15 cv15 => ?_)
    refine g_iastB dX9_lay_80 sh_24 (by omega) (by omega) (fun h16 eh16 => ?_)
    have hFh16 := Fr.ar eh16
    have hMh16 := u_24 hMh10 eh16 (by omega) (by omega)
    exact g_return dX9_lay_81 rfl (hPo _ ⟨hMh16, (Fr.tr (Fr.tr (Fr.sub hFh6 rfl) hFh10 rfl) hFh16 rfl)⟩)
  · skip
    refine g_if_ne 24 dX9_lay_20 (by decide) (fun _ => by exfalso; omega) (fun q17 => ?_)
    exact g_return dX9_lay_23 rfl (hPo _ ⟨hM, Fr.rf⟩)
set_option maxRecDepth 100000 in
set_option maxHeartbeats 4000000 in
theorem c_X9_passHour_21_82 (x1 : Int) (h : MEM) (hM : MBx h) (bx1 : 0 ≤ x1) (dx1 : x1 ≤ 9) : CI yX9_passHour cX9_passHour 6 (some .int) 5 [pR 21, pR 82, pI x1] h (fun x h' => MBx h' ∧ Fr [(21, 7), (21, 9), (24, 0), (30, 0), (31, 0), (36, 0), (37, 0), (38, 0), (40, 0), (89, 0)] h h' ∧ -2147483648 ≤ x ∧ x ≤ 2147483647) := by
  refine CI.of (L0 := [some (pR 21), some (pR 82), some (pI x1), none, none, none]) rfl (Nat.le_of_ble_eq_true rfl) rfl (fun Po hPo hav => ?_)
  refine g_iconst dX9_passHour_0 (inR_c rfl) ?_
  refine g_istore_n dX9_passHour_1 (by decide) rfl ?_
  refine g_aload_n dX9_passHour_2 rfl ?_
  refine gI_X9_42 rfl dX9_passHour_3 sh_21 (m_21_6 hM) (fun v1 ev1 bv1 cv1 => ?_)
  refine g_if_lt 35 dX9_passHour_6 (by decide) (fun q2 => ?_) (fun q2 => ?_)
  · skip
    refine g_iconst dX9_passHour_35 (inR_c rfl) ?_
    refine g_istore dX9_passHour_36 (by decide) rfl ?_
    refine g_iload dX9_passHour_38 rfl (fun _ => ?_)
    refine g_if_ne 104 dX9_passHour_40 (by decide) (fun _ => by exfalso; omega) (fun q3 => ?_)
    refine g_iconst dX9_passHour_43 (inR_c rfl) ?_
    have c46 : ∀ (n : Nat) (y4 : Int) (h5 : MEM), MBx h5 → Fr [(24, 0), (40, 0), (89, 0)] h h5 → 0 ≤ y4 → y4 ≤ 8 → 8 - y4 < (n : Int) → G yX9_passHour cX9_passHour 6 (some .int) none Po (5, 300, 0, 0) 46 [some (pR 21), some (pR 82), some (pI x1), some (pI 0), none, some (pI y4)] [] SH h5 0 0 := by
      intro n
      induction n with
      | zero =>
        intro y4 h5 hMh5 hFh5 by4 dy4 hn
        exfalso; omega
      | succ n ih46 =>
        intro y4 h5 hMh5 hFh5 by4 dy4 hn
        refine g_iload dX9_passHour_46 rfl (fun _ => ?_)
        refine g_aload_n dX9_passHour_48 rfl ?_
        refine gR_X9_21 rfl dX9_passHour_49 sh_21 (b := 26) (m_21_1 hMh5) ?_
        refine gI_X9_85 rfl dX9_passHour_52 sh_26 (m_26_0 hMh5) (fun v6 ev6 bv6 cv6 => ?_)
        refine g_icmp_ge 72 dX9_passHour_55 (by decide) (fun q7 => ?_) (fun q7 => ?_)
        · skip
          refine g_iconst dX9_passHour_72 (inR_c rfl) ?_
          have c75 : ∀ (n : Nat) (y8 y9 : Int) (h10 : MEM), MBx h10 → Fr [(21, 9), (24, 0), (30, 0), (31, 0), (36, 0), (37, 0), (38, 0), (40, 0), (89, 0)] h5 h10 → -2147483648 ≤ y8 → y8 ≤ 2147483647 → 0 ≤ y9 → y9 ≤ 8 → 8 - y9 < (n : Int) → G yX9_passHour cX9_passHour 6 (some .int) none Po (5, 300, 0, 0) 75 [some (pR 21), some (pR 82), some (pI x1), some (pI y8), none, some (pI y9)] [] SH h10 0 0 := by
            intro n
            induction n with
            | zero =>
              intro y8 y9 h10 hMh10 hFh10 by8 dy8 by9 dy9 hn
              exfalso; omega
            | succ n ih75 =>
              intro y8 y9 h10 hMh10 hFh10 by8 dy8 by9 dy9 hn
              refine g_iload dX9_passHour_75 rfl (fun _ => ?_)
              refine g_aload_n dX9_passHour_77 rfl ?_
              refine gR_X9_21 rfl dX9_passHour_78 sh_21 (b := 26) (m_21_1 hMh10) ?_
              refine gE_X9_85 rfl dX9_passHour_81 sh_26 ((hFh10 26 0 rfl).trans ev6.symm) ?_
              refine g_icmp_ge 104 dX9_passHour_84 (by decide) (fun q11 => ?_) (fun q11 => ?_)
              · skip
                refine g_aload_n dX9_passHour_104 rfl ?_
                refine g_dup dX9_passHour_105 rfl ?_
                refine gE_X9_42 rfl dX9_passHour_106 sh_21 ((hFh10 21 6 rfl).trans ((hFh5 21 6 rfl).trans ev1.symm)) ?_
                refine g_iconst dX9_passHour_109 (inR_c rfl) ?_
                refine g_iaddB dX9_passHour_110 (by omega) (by omega) ?_
                refine pI_X9_42 rfl dX9_passHour_111 sh_21 (fun h12 eh12 => ?_)
                have hFh12 := Fr.st eh12
                have hMh12 := u_21_6 hMh10 eh12 (by omega) (by omega)
                refine g_iload_n dX9_passHour_114 rfl (fun _ => ?_)
                exact g_ireturn dX9_passHour_115 retI (hPo _ _ ⟨hMh12, (Fr.tr (Fr.tr (Fr.sub hFh5 rfl) hFh10 rfl) hFh12 rfl), (by omega), (by omega)⟩)
              · skip
                refine g_iload_n dX9_passHour_87 rfl (fun _ => ?_)
                refine g_aload_n dX9_passHour_88 rfl ?_
                refine g_aload_n dX9_passHour_89 rfl ?_
                refine g_iload dX9_passHour_90 rfl (fun _ => ?_)
                refine g_iload_n dX9_passHour_92 rfl (fun _ => ?_)
                refine g_cV (as := [_, _, _]) (c_X9_letFall_21_82 _ _ h10 hMh10 (by omega) (by omega) (by omega) (by omega)) dX9_passHour_93 mi_X9_letFall in_X9_letFall se_X9_letFall ml_X9_99 rfl rfl rfl sh_21 rfl rfl (Nat.le_of_ble_eq_true rfl) (fun v13 h14 q15 => ?_)
                obtain ⟨hMh14, hFh14, bv13, cv13⟩ := q15
                refine g_iaddF dX9_passHour_96 (fun v16 bv16 cv16 => ?_)
                refine g_istore_n dX9_passHour_97 (by decide) rfl ?_
                refine g_iincB dX9_passHour_98 rfl rfl (by omega) (by omega) ?_
                refine g_goto 75 dX9_passHour_101 (by decide) ?_
                exact ih75 _ _ _ hMh14 (Fr.tr (Fr.sub hFh10 rfl) hFh14 rfl) (by omega) (by omega) (by omega) (by omega) (by omega)
          refine g_istore dX9_passHour_73 (by decide) rfl ?_
          exact c75 9 _ _ _ hMh5 Fr.rf (by omega) (by omega) (by omega) (by omega) (by omega)
        · skip
          refine g_aload_n dX9_passHour_58 rfl ?_
          refine g_aload_n dX9_passHour_59 rfl ?_
          refine g_iload dX9_passHour_60 rfl (fun _ => ?_)
          refine g_iload_n dX9_passHour_62 rfl (fun _ => ?_)
          refine g_cVV (as := [_, _, _]) (c_X9_lay_21_82 _ _ h5 hMh5 (by omega) (by omega) (by omega) (by omega)) dX9_passHour_63 mi_X9_lay in_X9_lay se_X9_lay ml_X9_95 rfl rfl rfl sh_21 rfl rfl (Nat.le_of_ble_eq_true rfl) (fun h17 q18 => ?_)
          obtain ⟨hMh17, hFh17⟩ := q18
          refine g_iincB dX9_passHour_66 rfl rfl (by omega) (by omega) ?_
          refine g_goto 46 dX9_passHour_69 (by decide) ?_
          exact ih46 _ _ hMh17 (Fr.tr (Fr.sub hFh5 rfl) hFh17 rfl) (by omega) (by omega) (by omega)
    refine g_istore dX9_passHour_44 (by decide) rfl ?_
    refine g_drop 4 ?_
    exact c46 9 _ _ hM Fr.rf (by omega) (by omega) (by omega)
  · skip
    refine g_aload_n dX9_passHour_9 rfl ?_
    refine gE_X9_42 rfl dX9_passHour_10 sh_21 ev1.symm ?_
    refine g_bipush dX9_passHour_13 (inR_c rfl) (by decide) ?_
    refine g_icmp_ge 35 dX9_passHour_15 (by decide) (fun q19 => ?_) (fun q19 => ?_)
    · skip
      refine g_iconst dX9_passHour_35 (inR_c rfl) ?_
      refine g_istore dX9_passHour_36 (by decide) rfl ?_
      refine g_iload dX9_passHour_38 rfl (fun _ => ?_)
      refine g_if_ne 104 dX9_passHour_40 (by decide) (fun _ => by exfalso; omega) (fun q20 => ?_)
      refine g_iconst dX9_passHour_43 (inR_c rfl) ?_
      have c46 : ∀ (n : Nat) (y21 : Int) (h22 : MEM), MBx h22 → Fr [(24, 0), (40, 0), (89, 0)] h h22 → 0 ≤ y21 → y21 ≤ 8 → 8 - y21 < (n : Int) → G yX9_passHour cX9_passHour 6 (some .int) none Po (5, 300, 0, 0) 46 [some (pR 21), some (pR 82), some (pI x1), some (pI 0), none, some (pI y21)] [] SH h22 0 0 := by
        intro n
        induction n with
        | zero =>
          intro y21 h22 hMh22 hFh22 by21 dy21 hn
          exfalso; omega
        | succ n ih46 =>
          intro y21 h22 hMh22 hFh22 by21 dy21 hn
          refine g_iload dX9_passHour_46 rfl (fun _ => ?_)
          refine g_aload_n dX9_passHour_48 rfl ?_
          refine gR_X9_21 rfl dX9_passHour_49 sh_21 (b := 26) (m_21_1 hMh22) ?_
          refine gI_X9_85 rfl dX9_passHour_52 sh_26 (m_26_0 hMh22) (fun v23 ev23 bv23 cv23 => ?_)
          refine g_icmp_ge 72 dX9_passHour_55 (by decide) (fun q24 => ?_) (fun q24 => ?_)
          · skip
            refine g_iconst dX9_passHour_72 (inR_c rfl) ?_
            have c75 : ∀ (n : Nat) (y25 y26 : Int) (h27 : MEM), MBx h27 → Fr [(21, 9), (24, 0), (30, 0), (31, 0), (36, 0), (37, 0), (38, 0), (40, 0), (89, 0)] h22 h27 → -2147483648 ≤ y25 → y25 ≤ 2147483647 → 0 ≤ y26 → y26 ≤ 8 → 8 - y26 < (n : Int) → G yX9_passHour cX9_passHour 6 (some .int) none Po (5, 300, 0, 0) 75 [some (pR 21), some (pR 82), some (pI x1), some (pI y25), none, some (pI y26)] [] SH h27 0 0 := by
              intro n
              induction n with
              | zero =>
                intro y25 y26 h27 hMh27 hFh27 by25 dy25 by26 dy26 hn
                exfalso; omega
              | succ n ih75 =>
                intro y25 y26 h27 hMh27 hFh27 by25 dy25 by26 dy26 hn
                refine g_iload dX9_passHour_75 rfl (fun _ => ?_)
                refine g_aload_n dX9_passHour_77 rfl ?_
                refine gR_X9_21 rfl dX9_passHour_78 sh_21 (b := 26) (m_21_1 hMh27) ?_
                refine gE_X9_85 rfl dX9_passHour_81 sh_26 ((hFh27 26 0 rfl).trans ev23.symm) ?_
                refine g_icmp_ge 104 dX9_passHour_84 (by decide) (fun q28 => ?_) (fun q28 => ?_)
                · skip
                  refine g_aload_n dX9_passHour_104 rfl ?_
                  refine g_dup dX9_passHour_105 rfl ?_
                  refine gE_X9_42 rfl dX9_passHour_106 sh_21 ((hFh27 21 6 rfl).trans ((hFh22 21 6 rfl).trans ev1.symm)) ?_
                  refine g_iconst dX9_passHour_109 (inR_c rfl) ?_
                  refine g_iaddF dX9_passHour_110 (fun v29 bv29 cv29 => ?_)
                  refine pI_X9_42 rfl dX9_passHour_111 sh_21 (fun h30 eh30 => ?_)
                  have hFh30 := Fr.st eh30
                  have hMh30 := u_21_6 hMh27 eh30 (by omega) (by omega)
                  refine g_iload_n dX9_passHour_114 rfl (fun _ => ?_)
                  exact g_ireturn dX9_passHour_115 retI (hPo _ _ ⟨hMh30, (Fr.tr (Fr.tr (Fr.sub hFh22 rfl) hFh27 rfl) hFh30 rfl), (by omega), (by omega)⟩)
                · skip
                  refine g_iload_n dX9_passHour_87 rfl (fun _ => ?_)
                  refine g_aload_n dX9_passHour_88 rfl ?_
                  refine g_aload_n dX9_passHour_89 rfl ?_
                  refine g_iload dX9_passHour_90 rfl (fun _ => ?_)
                  refine g_iload_n dX9_passHour_92 rfl (fun _ => ?_)
                  refine g_cV (as := [_, _, _]) (c_X9_letFall_21_82 _ _ h27 hMh27 (by omega) (by omega) (by omega) (by omega)) dX9_passHour_93 mi_X9_letFall in_X9_letFall se_X9_letFall ml_X9_99 rfl rfl rfl sh_21 rfl rfl (Nat.le_of_ble_eq_true rfl) (fun v31 h32 q33 => ?_)
                  obtain ⟨hMh32, hFh32, bv31, cv31⟩ := q33
                  refine g_iaddF dX9_passHour_96 (fun v34 bv34 cv34 => ?_)
                  refine g_istore_n dX9_passHour_97 (by decide) rfl ?_
                  refine g_iincB dX9_passHour_98 rfl rfl (by omega) (by omega) ?_
                  refine g_goto 75 dX9_passHour_101 (by decide) ?_
                  exact ih75 _ _ _ hMh32 (Fr.tr (Fr.sub hFh27 rfl) hFh32 rfl) (by omega) (by omega) (by omega) (by omega) (by omega)
            refine g_istore dX9_passHour_73 (by decide) rfl ?_
            exact c75 9 _ _ _ hMh22 Fr.rf (by omega) (by omega) (by omega) (by omega) (by omega)
          · skip
            refine g_aload_n dX9_passHour_58 rfl ?_
            refine g_aload_n dX9_passHour_59 rfl ?_
            refine g_iload dX9_passHour_60 rfl (fun _ => ?_)
            refine g_iload_n dX9_passHour_62 rfl (fun _ => ?_)
            refine g_cVV (as := [_, _, _]) (c_X9_lay_21_82 _ _ h22 hMh22 (by omega) (by omega) (by omega) (by omega)) dX9_passHour_63 mi_X9_lay in_X9_lay se_X9_lay ml_X9_95 rfl rfl rfl sh_21 rfl rfl (Nat.le_of_ble_eq_true rfl) (fun h35 q36 => ?_)
            obtain ⟨hMh35, hFh35⟩ := q36
            refine g_iincB dX9_passHour_66 rfl rfl (by omega) (by omega) ?_
            refine g_goto 46 dX9_passHour_69 (by decide) ?_
            exact ih46 _ _ hMh35 (Fr.tr (Fr.sub hFh22 rfl) hFh35 rfl) (by omega) (by omega) (by omega)
      refine g_istore dX9_passHour_44 (by decide) rfl ?_
      refine g_drop 4 ?_
      exact c46 9 _ _ hM Fr.rf (by omega) (by omega) (by omega)
    · skip
      refine g_aload_n dX9_passHour_18 rfl ?_
      refine gR_X9_39 rfl dX9_passHour_19 sh_21 (b := 39) (m_21_5 hM) ?_
      refine g_aload_n dX9_passHour_22 rfl ?_
      refine gE_X9_42 rfl dX9_passHour_23 sh_21 ev1.symm ?_
      refine g_ialdB dX9_passHour_26 sh_39 (by omega) (by omega) (m_39 hM _) (fun v37 ev37 bv37 cv37 => ?_)
      refine g_iconst dX9_passHour_27 (inR_c rfl) ?_
      refine g_icmp_ne 35 dX9_passHour_28 (by decide) (fun q38 => ?_) (fun q38 => ?_)
      · skip
        refine g_iconst dX9_passHour_35 (inR_c rfl) ?_
        refine g_istore dX9_passHour_36 (by decide) rfl ?_
        refine g_iload dX9_passHour_38 rfl (fun _ => ?_)
        refine g_if_ne 104 dX9_passHour_40 (by decide) (fun _ => by exfalso; omega) (fun q39 => ?_)
        refine g_iconst dX9_passHour_43 (inR_c rfl) ?_
        have c46 : ∀ (n : Nat) (y40 : Int) (h41 : MEM), MBx h41 → Fr [(24, 0), (40, 0), (89, 0)] h h41 → 0 ≤ y40 → y40 ≤ 8 → 8 - y40 < (n : Int) → G yX9_passHour cX9_passHour 6 (some .int) none Po (5, 300, 0, 0) 46 [some (pR 21), some (pR 82), some (pI x1), some (pI 0), none, some (pI y40)] [] SH h41 0 0 := by
          intro n
          induction n with
          | zero =>
            intro y40 h41 hMh41 hFh41 by40 dy40 hn
            exfalso; omega
          | succ n ih46 =>
            intro y40 h41 hMh41 hFh41 by40 dy40 hn
            refine g_iload dX9_passHour_46 rfl (fun _ => ?_)
            refine g_aload_n dX9_passHour_48 rfl ?_
            refine gR_X9_21 rfl dX9_passHour_49 sh_21 (b := 26) (m_21_1 hMh41) ?_
            refine gI_X9_85 rfl dX9_passHour_52 sh_26 (m_26_0 hMh41) (fun v42 ev42 bv42 cv42 => ?_)
            refine g_icmp_ge 72 dX9_passHour_55 (by decide) (fun q43 => ?_) (fun q43 => ?_)
            · skip
              refine g_iconst dX9_passHour_72 (inR_c rfl) ?_
              have c75 : ∀ (n : Nat) (y44 y45 : Int) (h46 : MEM), MBx h46 → Fr [(21, 9), (24, 0), (30, 0), (31, 0), (36, 0), (37, 0), (38, 0), (40, 0), (89, 0)] h41 h46 → -2147483648 ≤ y44 → y44 ≤ 2147483647 → 0 ≤ y45 → y45 ≤ 8 → 8 - y45 < (n : Int) → G yX9_passHour cX9_passHour 6 (some .int) none Po (5, 300, 0, 0) 75 [some (pR 21), some (pR 82), some (pI x1), some (pI y44), none, some (pI y45)] [] SH h46 0 0 := by
                intro n
                induction n with
                | zero =>
                  intro y44 y45 h46 hMh46 hFh46 by44 dy44 by45 dy45 hn
                  exfalso; omega
                | succ n ih75 =>
                  intro y44 y45 h46 hMh46 hFh46 by44 dy44 by45 dy45 hn
                  refine g_iload dX9_passHour_75 rfl (fun _ => ?_)
                  refine g_aload_n dX9_passHour_77 rfl ?_
                  refine gR_X9_21 rfl dX9_passHour_78 sh_21 (b := 26) (m_21_1 hMh46) ?_
                  refine gE_X9_85 rfl dX9_passHour_81 sh_26 ((hFh46 26 0 rfl).trans ev42.symm) ?_
                  refine g_icmp_ge 104 dX9_passHour_84 (by decide) (fun q47 => ?_) (fun q47 => ?_)
                  · skip
                    refine g_aload_n dX9_passHour_104 rfl ?_
                    refine g_dup dX9_passHour_105 rfl ?_
                    refine gE_X9_42 rfl dX9_passHour_106 sh_21 ((hFh46 21 6 rfl).trans ((hFh41 21 6 rfl).trans ev1.symm)) ?_
                    refine g_iconst dX9_passHour_109 (inR_c rfl) ?_
                    refine g_iaddB dX9_passHour_110 (by omega) (by omega) ?_
                    refine pI_X9_42 rfl dX9_passHour_111 sh_21 (fun h48 eh48 => ?_)
                    have hFh48 := Fr.st eh48
                    have hMh48 := u_21_6 hMh46 eh48 (by omega) (by omega)
                    refine g_iload_n dX9_passHour_114 rfl (fun _ => ?_)
                    exact g_ireturn dX9_passHour_115 retI (hPo _ _ ⟨hMh48, (Fr.tr (Fr.tr (Fr.sub hFh41 rfl) hFh46 rfl) hFh48 rfl), (by omega), (by omega)⟩)
                  · skip
                    refine g_iload_n dX9_passHour_87 rfl (fun _ => ?_)
                    refine g_aload_n dX9_passHour_88 rfl ?_
                    refine g_aload_n dX9_passHour_89 rfl ?_
                    refine g_iload dX9_passHour_90 rfl (fun _ => ?_)
                    refine g_iload_n dX9_passHour_92 rfl (fun _ => ?_)
                    refine g_cV (as := [_, _, _]) (c_X9_letFall_21_82 _ _ h46 hMh46 (by omega) (by omega) (by omega) (by omega)) dX9_passHour_93 mi_X9_letFall in_X9_letFall se_X9_letFall ml_X9_99 rfl rfl rfl sh_21 rfl rfl (Nat.le_of_ble_eq_true rfl) (fun v49 h50 q51 => ?_)
                    obtain ⟨hMh50, hFh50, bv49, cv49⟩ := q51
                    refine g_iaddF dX9_passHour_96 (fun v52 bv52 cv52 => ?_)
                    refine g_istore_n dX9_passHour_97 (by decide) rfl ?_
                    refine g_iincB dX9_passHour_98 rfl rfl (by omega) (by omega) ?_
                    refine g_goto 75 dX9_passHour_101 (by decide) ?_
                    exact ih75 _ _ _ hMh50 (Fr.tr (Fr.sub hFh46 rfl) hFh50 rfl) (by omega) (by omega) (by omega) (by omega) (by omega)
              refine g_istore dX9_passHour_73 (by decide) rfl ?_
              exact c75 9 _ _ _ hMh41 Fr.rf (by omega) (by omega) (by omega) (by omega) (by omega)
            · skip
              refine g_aload_n dX9_passHour_58 rfl ?_
              refine g_aload_n dX9_passHour_59 rfl ?_
              refine g_iload dX9_passHour_60 rfl (fun _ => ?_)
              refine g_iload_n dX9_passHour_62 rfl (fun _ => ?_)
              refine g_cVV (as := [_, _, _]) (c_X9_lay_21_82 _ _ h41 hMh41 (by omega) (by omega) (by omega) (by omega)) dX9_passHour_63 mi_X9_lay in_X9_lay se_X9_lay ml_X9_95 rfl rfl rfl sh_21 rfl rfl (Nat.le_of_ble_eq_true rfl) (fun h53 q54 => ?_)
              obtain ⟨hMh53, hFh53⟩ := q54
              refine g_iincB dX9_passHour_66 rfl rfl (by omega) (by omega) ?_
              refine g_goto 46 dX9_passHour_69 (by decide) ?_
              exact ih46 _ _ hMh53 (Fr.tr (Fr.sub hFh41 rfl) hFh53 rfl) (by omega) (by omega) (by omega)
        refine g_istore dX9_passHour_44 (by decide) rfl ?_
        refine g_drop 4 ?_
        exact c46 9 _ _ hM Fr.rf (by omega) (by omega) (by omega)
      · skip
        refine g_iconst dX9_passHour_31 (inR_c rfl) ?_
        refine g_goto 36 dX9_passHour_32 (by decide) ?_
        refine g_istore dX9_passHour_36 (by decide) rfl ?_
        refine g_iload dX9_passHour_38 rfl (fun _ => ?_)
        refine g_if_ne 104 dX9_passHour_40 (by decide) (fun q55 => ?_) (fun _ => by exfalso; omega)
        refine g_aload_n dX9_passHour_104 rfl ?_
        refine g_dup dX9_passHour_105 rfl ?_
        refine gE_X9_42 rfl dX9_passHour_106 sh_21 ev1.symm ?_
        refine g_iconst dX9_passHour_109 (inR_c rfl) ?_
        refine g_iaddB dX9_passHour_110 (by omega) (by omega) ?_
        refine pI_X9_42 rfl dX9_passHour_111 sh_21 (fun h56 eh56 => ?_)
        have hFh56 := Fr.st eh56
        have hMh56 := u_21_6 hM eh56 (by omega) (by omega)
        refine g_iload_n dX9_passHour_114 rfl (fun _ => ?_)
        exact g_ireturn dX9_passHour_115 retI (hPo _ _ ⟨hMh56, (Fr.sub hFh56 rfl), (by omega), (by omega)⟩)
set_option maxRecDepth 100000 in
set_option maxHeartbeats 4000000 in
theorem c_X9_passHours_21_82 (x1 : Int) (h : MEM) (hM : MBx h) (bx1 : 1 ≤ x1) (dx1 : x1 ≤ 40) : CI yX9_passHours cX9_passHours 5 (some .int) 6 [pR 21, pR 82, pI x1] h (fun x h' => MBx h' ∧ Fr [(21, 7), (21, 8), (21, 9), (24, 0), (30, 0), (31, 0), (36, 0), (37, 0), (38, 0), (40, 0), (89, 0)] h h' ∧ -2147483648 ≤ x ∧ x ≤ 2147483647) := by
  refine CI.of (L0 := [some (pR 21), some (pR 82), some (pI x1), none, none]) rfl (Nat.le_of_ble_eq_true rfl) rfl (fun Po hPo hav => ?_)
  refine g_iconst dX9_passHours_0 (inR_c rfl) ?_
  refine g_istore_n dX9_passHours_1 (by decide) rfl ?_
  refine g_iconst dX9_passHours_2 (inR_c rfl) ?_
  have c5 : ∀ (n : Nat) (y1 y2 : Int) (h3 : MEM), MBx h3 → Fr [(21, 7), (21, 8), (21, 9), (24, 0), (30, 0), (31, 0), (36, 0), (37, 0), (38, 0), (40, 0), (89, 0)] h h3 → -2147483648 ≤ y1 → y1 ≤ 2147483647 → 0 ≤ y2 → y2 ≤ 40 → 40 - y2 < (n : Int) → G yX9_passHours cX9_passHours 5 (some .int) none Po (6, 360, 0, 0) 5 [some (pR 21), some (pR 82), some (pI x1), some (pI y1), some (pI y2)] [] SH h3 0 0 := by
    intro n
    induction n with
    | zero =>
      intro y1 y2 h3 hMh3 hFh3 by1 dy1 by2 dy2 hn
      exfalso; omega
    | succ n ih5 =>
      intro y1 y2 h3 hMh3 hFh3 by1 dy1 by2 dy2 hn
      refine g_iload dX9_passHours_5 rfl (fun _ => ?_)
      refine g_iload_n dX9_passHours_7 rfl (fun _ => ?_)
      refine g_icmp_ge 29 dX9_passHours_8 (by decide) (fun q4 => ?_) (fun q4 => ?_)
      · skip
        refine g_iload_n dX9_passHours_29 rfl (fun _ => ?_)
        exact g_ireturn dX9_passHours_30 retI (hPo _ _ ⟨hMh3, (Fr.sub hFh3 rfl), (by omega), (by omega)⟩)
      · skip
        refine g_iload_n dX9_passHours_11 rfl (fun _ => ?_)
        refine g_aload_n dX9_passHours_12 rfl ?_
        refine g_aload_n dX9_passHours_13 rfl ?_
        refine g_aload_n dX9_passHours_14 rfl ?_
        refine g_cV (as := []) (c_X9_nextWind_21  h3 hMh3) dX9_passHours_15 mi_X9_nextWind in_X9_nextWind se_X9_nextWind ml_X9_87 rfl rfl rfl sh_21 rfl rfl (Nat.le_of_ble_eq_true rfl) (fun v5 h6 q7 => ?_)
        obtain ⟨hMh6, hFh6, bv5, cv5⟩ := q7
        refine g_cV (as := [_, _]) (c_X9_passHour_21_82 _ h6 hMh6 (by omega) (by omega)) dX9_passHours_18 mi_X9_passHour in_X9_passHour se_X9_passHour ml_X9_91 rfl rfl rfl sh_21 rfl rfl (Nat.le_of_ble_eq_true rfl) (fun v8 h9 q10 => ?_)
        obtain ⟨hMh9, hFh9, bv8, cv8⟩ := q10
        refine g_iaddF dX9_passHours_21 (fun v11 bv11 cv11 => ?_)
        refine g_istore_n dX9_passHours_22 (by decide) rfl ?_
        refine g_iincB dX9_passHours_23 rfl rfl (by omega) (by omega) ?_
        refine g_goto 5 dX9_passHours_26 (by decide) ?_
        exact ih5 _ _ _ hMh9 (Fr.tr (Fr.tr (Fr.sub hFh3 rfl) hFh6 rfl) hFh9 rfl) (by omega) (by omega) (by omega) (by omega) (by omega)
  refine g_istore dX9_passHours_3 (by decide) rfl ?_
  exact c5 41 _ _ _ hM Fr.rf (by omega) (by omega) (by omega) (by omega) (by omega)
