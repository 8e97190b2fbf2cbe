set_option maxRecDepth 100000 in
set_option maxHeartbeats 4000000 in
theorem c_X9_passHours_1_82 (x1 : Int) (h : MEM) (hM : MBx h) (bx1 : 1 ≤ x1) (dx1 : x1 ≤ 40) : CI yX9_passHours cX9_passHours 5 (some .int) 2 [pR 1, pR 82, pI x1] h (fun x h' => MBx h' ∧ Fr [(1, 7), (1, 8)] h h' ∧ 0 ≤ x ∧ x ≤ 0) := by
  refine CI.of (L0 := [some (pR 1), some (pR 82), some (pI x1), none, none]) rfl (Nat.le_of_ble_eq_true rfl) rfl (fun Po hPo hav => ?_)
  refine g_iconst dX9_passHours_0 (inR_c rfl) ?_
  refine g_istore_n dX9_passHours_1 (by decide) rfl ?_
  refine g_iconst dX9_passHours_2 (inR_c rfl) ?_
  have c5 : ∀ (n : Nat) (y1 y2 : Int) (h3 : MEM), MBx h3 → Fr [(1, 7), (1, 8)] h h3 → 0 ≤ y1 → y1 ≤ 0 → 0 ≤ y2 → y2 ≤ 40 → 40 - y2 < (n : Int) → G yX9_passHours cX9_passHours 5 (some .int) none Po (2, 120, 0, 0) 5 [some (pR 1), some (pR 82), some (pI x1), some (pI y1), some (pI y2)] [] SH h3 0 0 := by
    intro n
    induction n with
    | zero =>
      intro y1 y2 h3 hMh3 hFh3 by1 dy1 by2 dy2 hn
      exfalso; omega
    | succ n ih =>
      intro y1 y2 h3 hMh3 hFh3 by1 dy1 by2 dy2 hn
      refine g_iload dX9_passHours_5 rfl (fun _ => ?_)
      refine g_iload_n dX9_passHours_7 rfl (fun _ => ?_)
      refine g_icmp_ge 29 dX9_passHours_8 (by decide) (fun q4 => ?_) (fun q4 => ?_)
      · skip
        refine g_iload_n dX9_passHours_29 rfl (fun _ => ?_)
        exact g_ireturn dX9_passHours_30 retI (hPo _ _ ⟨hMh3, (Fr.sub hFh3 rfl), (by omega), (by omega)⟩)
      · skip
        refine g_iload_n dX9_passHours_11 rfl (fun _ => ?_)
        refine g_aload_n dX9_passHours_12 rfl ?_
        refine g_aload_n dX9_passHours_13 rfl ?_
        refine g_aload_n dX9_passHours_14 rfl ?_
        refine g_cV (as := []) (c_X9_nextWind_1  h3 hMh3) dX9_passHours_15 mi_X9_nextWind in_X9_nextWind se_X9_nextWind ml_X9_87 rfl rfl rfl sh_1 rfl rfl (Nat.le_of_ble_eq_true rfl) (fun v5 h6 q7 => ?_)
        obtain ⟨hMh6, hFh6, bv5, cv5⟩ := q7
        refine g_cV (as := [_, _]) (c_X9_passHour_1_82 _ h6 hMh6 (by omega) (by omega)) dX9_passHours_18 mi_X9_passHour in_X9_passHour se_X9_passHour ml_X9_91 rfl rfl rfl sh_1 rfl rfl (Nat.le_of_ble_eq_true rfl) (fun v8 h9 q10 => ?_)
        obtain ⟨hMh9, hFh9, bv8, cv8⟩ := q10
        refine g_iaddB dX9_passHours_21 (by omega) (by omega) ?_
        refine g_istore_n dX9_passHours_22 (by decide) rfl ?_
        refine g_iincB dX9_passHours_23 rfl rfl (by omega) (by omega) ?_
        refine g_goto 5 dX9_passHours_26 (by decide) ?_
        exact ih _ _ _ hMh9 (Fr.tr (Fr.tr (Fr.sub hFh3 rfl) hFh6 rfl) hFh9 rfl) (by omega) (by omega) (by omega) (by omega) (by omega)
  refine g_istore dX9_passHours_3 (by decide) rfl ?_
  exact c5 41 _ _ _ hM Fr.rf (by omega) (by omega) (by omega) (by omega) (by omega)
set_option maxRecDepth 100000 in
set_option maxHeartbeats 4000000 in
theorem c_X11_hours_0 (x1 : Int) (h : MEM) (hM : MBx h) (bx1 : -2147483648 ≤ x1) (dx1 : x1 ≤ 2147483647) : CI yX11_hours cX11_hours 2 (some .int) 3 [pR 0, pI x1] h (fun x h' => Fr [(1, 7), (1, 8)] h h' ∧ ((1 ≤ x1 ∧ x1 ≤ 40) ∧ x = 0 ∨ ¬ (1 ≤ x1 ∧ x1 ≤ 40) ∧ x = -1)) := by
  refine CI.of (L0 := [some (pR 0), some (pI x1)]) rfl (Nat.le_of_ble_eq_true rfl) rfl (fun Po hPo hav => ?_)
  refine g_iload_n dX11_hours_0 rfl (fun _ => ?_)
  refine g_iconst dX11_hours_1 (inR_c rfl) ?_
  refine g_bipush dX11_hours_2 (inR_c rfl) (by decide) ?_
  refine g_cSP (av := [_, _, _]) (c_X11_isWithin _ _ _ h hM (by omega) (by omega) (by omega) (by omega) (by omega) (by omega)) dX11_hours_4 mi_X11_isWithin st_X11_isWithin ml_X11_81 rfl rfl rfl rfl (Nat.le_of_ble_eq_true rfl) (fun v1 q2 => ?_)
  rcases q2 with ⟨rfl, q2⟩ | ⟨rfl, q2⟩
  · skip
    refine g_if_eq 25 dX11_hours_7 (by decide) (fun _ => by exfalso; omega) (fun q3 => ?_)
    refine g_aload_n dX11_hours_10 rfl ?_
    refine gR_X11_10 rfl dX11_hours_11 sh_0 (b := 1) (m_0_0 hM) ?_
    refine g_aload_n dX11_hours_14 rfl ?_
    refine gR_X11_70 rfl dX11_hours_15 sh_0 (b := 82) (m_0_10 hM) ?_
    refine g_iload_n dX11_hours_18 rfl (fun _ => ?_)
    refine g_cV (as := [_, _]) (c_X9_passHours_1_82 _ h hM (by omega) (by omega)) dX11_hours_19 mi_X9_passHours in_X9_passHours se_X9_passHours ml_X11_152 rfl rfl rfl sh_1 rfl rfl (Nat.le_of_ble_eq_true rfl) (fun v4 h5 q6 => ?_)
    obtain ⟨hMh5, hFh5, bv4, cv4⟩ := q6
    refine g_goto 26 dX11_hours_22 (by decide) ?_
    exact g_ireturn dX11_hours_26 retI (hPo _ _ ⟨(Fr.sub hFh5 rfl), (by omega)⟩)
  · skip
    refine g_if_eq 25 dX11_hours_7 (by decide) (fun q7 => ?_) (fun _ => by exfalso; omega)
    refine g_iconst dX11_hours_25 (inR_c rfl) ?_
    exact g_ireturn dX11_hours_26 retI (hPo _ _ ⟨Fr.rf, (by omega)⟩)
set_option maxRecDepth 100000 in
set_option maxHeartbeats 4000000 in
theorem c_X12_areHours (x1 : Int) (h : MEM) (hM : MBm h) (bx1 : -2147483648 ≤ x1) (dx1 : x1 ≤ 2147483647) : CP yX12_areHours cX12_areHours 1 (some .boolean) 2 [pI x1] h (fun x => (x = 1 ∧ 1 ≤ x1 + (0) ∧ x1 ≤ 40 + (0) ∨ x = 0 ∧ ¬ (1 ≤ x1 + (0) ∧ x1 ≤ 40 + (0)))) := by
  refine CP.of (L0 := [some (pI x1)]) rfl (Nat.le_of_ble_eq_true rfl) rfl (fun Po hPo hav => ?_)
  refine g_iload_n dX12_areHours_0 rfl (fun _ => ?_)
  refine g_i2l dX12_areHours_1 ?_
  refine g_lconst (v := 1) dX12_areHours_2 rfl ?_
  refine g_ldc2 (v := 40) dX12_areHours_3 kl_X12_396 (by decide) ?_
  refine g_cSP (av := [_, _, _]) (c_X12_lies _ _ _ h hM (by omega) (by omega) (by omega) (by omega) (by omega) (by omega)) dX12_areHours_6 mi_X12_lies st_X12_lies ml_X12_175 rfl rfl rfl rfl (Nat.le_of_ble_eq_true rfl) (fun v1 q2 => ?_)
  rcases q2 with ⟨rfl, q2⟩ | ⟨rfl, q2⟩
  · skip
    exact g_ireturn dX12_areHours_9 (retZ (by omega)) (hPo _ (by omega))
  · skip
    exact g_ireturn dX12_areHours_9 (retZ (by omega)) (hPo _ (by omega))
set_option maxRecDepth 100000 in
set_option maxHeartbeats 4000000 in
theorem c_X12_has (x1 x2 : Int) (h : MEM) (hM : MBm h) (bx1 : 0 ≤ x1) (dx1 : x1 ≤ 255) (bx2 : -2000000000 ≤ x2) (dx2 : x2 ≤ 2000000000) : CP yX12_has cX12_has 2 (some .boolean) 1 [pI x1, pI x2] h (fun x => 0 ≤ x ∧ x ≤ 1) := by
  refine CP.of (L0 := [some (pI x1), some (pI x2)]) rfl (Nat.le_of_ble_eq_true rfl) rfl (fun Po hPo hav => ?_)
  refine g_iload_n dX12_has_0 rfl (fun _ => ?_)
  refine g_iload_n dX12_has_1 rfl (fun _ => ?_)
  refine g_ishrF dX12_has_2 (fun v1 ev1 bv1 cv1 => ?_)
  refine g_iconst dX12_has_3 (inR_c rfl) ?_
  refine g_iandX (lo := 0) (hi := 1) dX12_has_4 (iand_r (by omega) (by omega)) (fun v2 ev2 bv2 cv2 => ?_)
  refine g_iconst dX12_has_5 (inR_c rfl) ?_
  refine g_icmp_ne 13 dX12_has_6 (by decide) (fun q3 => ?_) (fun q3 => ?_)
  · skip
    refine g_iconst dX12_has_13 (inR_c rfl) ?_
    exact g_ireturn dX12_has_14 (retZ (by omega)) (hPo _ ⟨(by omega), (by omega)⟩)
  · skip
    refine g_iconst dX12_has_9 (inR_c rfl) ?_
    refine g_goto 14 dX12_has_10 (by decide) ?_
    exact g_ireturn dX12_has_14 (retZ (by omega)) (hPo _ ⟨(by omega), (by omega)⟩)
set_option maxRecDepth 100000 in
set_option maxHeartbeats 4000000 in
theorem c_X12_isFree_98 (h : MEM) (hM : MBm h) : CP yX12_isFree cX12_isFree 1 (some .boolean) 2 [pR 98] h (fun x => 0 ≤ x ∧ x ≤ 1) := by
  refine CP.of (L0 := [some (pR 98)]) rfl (Nat.le_of_ble_eq_true rfl) rfl (fun Po hPo hav => ?_)
  refine g_aload_n dX12_isFree_0 rfl ?_
  refine gI_X12_334 rfl dX12_isFree_1 sh_98 (m_98_5 hM) (fun v1 ev1 bv1 cv1 => ?_)
  refine g_bipush dX12_isFree_4 (inR_c rfl) (by decide) ?_
  have c21 : G yX12_isFree cX12_isFree 1 (some .boolean) none Po (2, 120, 0, 0) 21 [some (pR 98)] [] SH h 0 0 := by
    refine g_aload_n dX12_isFree_21 rfl ?_
    refine gE_X12_334 rfl dX12_isFree_22 sh_98 ev1.symm ?_
    refine g_i2l dX12_isFree_25 ?_
    refine g_aload_n dX12_isFree_26 rfl ?_
    refine gI_X12_353 rfl dX12_isFree_27 sh_98 (m_98_52 hM) (fun v2 ev2 bv2 cv2 => ?_)
    refine g_i2l dX12_isFree_30 ?_
    refine g_aload_n dX12_isFree_31 rfl ?_
    refine gE_X12_353 rfl dX12_isFree_32 sh_98 ev2.symm ?_
    refine g_aload_n dX12_isFree_35 rfl ?_
    refine gI_X12_356 rfl dX12_isFree_36 sh_98 (m_98_53 hM) (fun v3 ev3 bv3 cv3 => ?_)
    refine g_iaddB dX12_isFree_39 (by omega) (by omega) ?_
    refine g_iconst dX12_isFree_40 (inR_c rfl) ?_
    refine g_isubB dX12_isFree_41 (by omega) (by omega) ?_
    refine g_i2l dX12_isFree_42 ?_
    refine g_cSP (av := [_, _, _]) (c_X12_lies _ _ _ h hM (by omega) (by omega) (by omega) (by omega) (by omega) (by omega)) dX12_isFree_43 mi_X12_lies st_X12_lies ml_X12_175 rfl rfl rfl rfl (Nat.le_of_ble_eq_true rfl) (fun v4 q5 => ?_)
    rcases q5 with ⟨rfl, q5⟩ | ⟨rfl, q5⟩
    · skip
      refine g_if_eq 72 dX12_isFree_46 (by decide) (fun _ => by exfalso; omega) (fun q6 => ?_)
      refine g_aload_n dX12_isFree_49 rfl ?_
      refine gI_X12_359 rfl dX12_isFree_50 sh_98 (m_98_54 hM) (fun v7 ev7 bv7 cv7 => ?_)
      refine g_aload_n dX12_isFree_53 rfl ?_
      refine gE_X12_334 rfl dX12_isFree_54 sh_98 ev1.symm ?_
      refine g_aload_n dX12_isFree_57 rfl ?_
      refine gE_X12_353 rfl dX12_isFree_58 sh_98 ev2.symm ?_
      refine g_isubB dX12_isFree_61 (by omega) (by omega) ?_
      refine g_cSP (av := [_, _]) (c_X12_has _ _ h hM (by omega) (by omega) (by omega) (by omega)) dX12_isFree_62 mi_X12_has st_X12_has ml_X12_362 rfl rfl rfl rfl (Nat.le_of_ble_eq_true rfl) (fun v8 q9 => ?_)
      obtain ⟨bv8, cv8⟩ := q9
      refine g_if_eq 72 dX12_isFree_65 (by decide) (fun q10 => ?_) (fun q10 => ?_)
      · skip
        refine g_iconst dX12_isFree_72 (inR_c rfl) ?_
        exact g_ireturn dX12_isFree_73 (retZ (by omega)) (hPo _ ⟨(by omega), (by omega)⟩)
      · skip
        refine g_iconst dX12_isFree_68 (inR_c rfl) ?_
        refine g_goto 73 dX12_isFree_69 (by decide) ?_
        exact g_ireturn dX12_isFree_73 (retZ (by omega)) (hPo _ ⟨(by omega), (by omega)⟩)
    · skip
      refine g_if_eq 72 dX12_isFree_46 (by decide) (fun q11 => ?_) (fun _ => by exfalso; omega)
      refine g_iconst dX12_isFree_72 (inR_c rfl) ?_
      exact g_ireturn dX12_isFree_73 (retZ (by omega)) (hPo _ ⟨(by omega), (by omega)⟩)
  refine g_icmp_ge 21 dX12_isFree_6 (by decide) (fun q12 => ?_) (fun q12 => ?_)
  · skip
    exact c21 
  · skip
    refine g_aload_n dX12_isFree_9 rfl ?_
    refine gR_X12_61 rfl dX12_isFree_10 sh_98 (b := 114) (m_98_22 hM) ?_
    refine g_aload_n dX12_isFree_13 rfl ?_
    refine gE_X12_334 rfl dX12_isFree_14 sh_98 ev1.symm ?_
    refine g_zaldB dX12_isFree_17 sh_114 (by omega) (by omega) (m_114 hM _) (fun v13 ev13 bv13 cv13 => ?_)
    refine g_if_ne 68 dX12_isFree_18 (by decide) (fun _ => by exfalso; omega) (fun q14 => ?_)
    exact c21 
set_option maxRecDepth 100000 in
set_option maxHeartbeats 4000000 in
theorem c_X12_worksOne_98 (x1 : Int) (h : MEM) (hM : MBm h) (bx1 : 0 ≤ x1) (dx1 : x1 ≤ 9) : CV yX12_worksOne cX12_worksOne 5 (none) 1 [pR 98, pI x1] h (fun h' => MBm h' ∧ Fr [(98, 49)] h h') := by
  refine CV.of (L0 := [some (pR 98), some (pI x1), none, none, none]) rfl (Nat.le_of_ble_eq_true rfl) rfl (fun Po hPo hav => ?_)
  refine g_aload_n dX12_worksOne_0 rfl ?_
  refine g_iload_n dX12_worksOne_1 rfl (fun _ => ?_)
  refine pI_X12_337 rfl dX12_worksOne_2 sh_98 (fun h1 eh1 => ?_)
  have hFh1 := Fr.st eh1
  have hMh1 := u_98_48 hM eh1 (by omega) (by omega)
  refine g_iconst dX12_worksOne_5 (inR_c rfl) ?_
  refine g_istore_n dX12_worksOne_6 (by decide) rfl ?_
  refine g_iload_n dX12_worksOne_7 rfl (fun _ => ?_)
  refine g_aload_n dX12_worksOne_8 rfl ?_
  refine gI_X12_179 rfl dX12_worksOne_9 sh_98 (m_98_3 hMh1) (fun v2 ev2 bv2 cv2 => ?_)
  refine g_icmp_ge 82 dX12_worksOne_12 (by decide) (fun q3 => ?_) (fun _ => by exfalso; omega)
  refine g_iconst dX12_worksOne_82 (inR_c rfl) ?_
  refine g_istore_n dX12_worksOne_83 (by decide) rfl ?_
  refine g_iload_n dX12_worksOne_84 rfl (fun _ => ?_)
  refine g_aload_n dX12_worksOne_85 rfl ?_
  refine gE_X12_179 rfl dX12_worksOne_86 sh_98 ev2.symm ?_
  refine g_icmp_ge 174 dX12_worksOne_89 (by decide) (fun q4 => ?_) (fun _ => by exfalso; omega)
  exact g_return dX12_worksOne_174 rfl (hPo _ ⟨hMh1, (Fr.sub hFh1 rfl)⟩)
set_option maxRecDepth 100000 in
set_option maxHeartbeats 4000000 in
theorem c_X12_passes_98 (x1 : Int) (h : MEM) (hM : MBm h) (bx1 : 0 ≤ x1) (dx1 : x1 ≤ 9) (p0_0 : 0 ≤ h 98 5) (p0_1 : h 98 5 ≤ 1000000) : CV yX12_passes cX12_passes 2 (none) 3 [pR 98, pI x1] h (fun h' => MBm h' ∧ Fr [(98, 6), (98, 49)] h h' ∧ h' 98 5 = h 98 5 + 1) := by
  refine CV.of (L0 := [some (pR 98), some (pI x1)]) rfl (Nat.le_of_ble_eq_true rfl) rfl (fun Po hPo hav => ?_)
  obtain ⟨w98_5, ew98_5⟩ : ∃ z, z = h 98 5 := ⟨_, rfl⟩
  refine g_aload_n dX12_passes_0 rfl ?_
  refine g_cVP (as := []) (c_X12_isFree_98  h hM) dX12_passes_1 mi_X12_isFree in_X12_isFree se_X12_isFree ml_X12_386 rfl rfl rfl sh_98 rfl rfl (Nat.le_of_ble_eq_true rfl) (fun v1 q2 => ?_)
  obtain ⟨bv1, cv1⟩ := q2
  refine g_if_ne 12 dX12_passes_4 (by decide) (fun q3 => ?_) (fun q3 => ?_)
  · skip
    refine g_aload_n dX12_passes_12 rfl ?_
    refine g_dup dX12_passes_13 rfl ?_
    refine gE_X12_334 rfl dX12_passes_14 sh_98 ew98_5.symm ?_
    refine g_iconst dX12_passes_17 (inR_c rfl) ?_
    refine g_iaddB dX12_passes_18 (by omega) (by omega) ?_
    refine pI_X12_334 rfl dX12_passes_19 sh_98 (fun h4 eh4 => ?_)
    have hFh4 := Fr.st eh4
    have hMh4 := u_98_5 hM eh4 (by omega) (by omega)
    have q5 : h4 98 5 = (w98_5 + 1) := (st_at eh4)
    exact g_return dX12_passes_22 rfl (hPo _ ⟨hMh4, (Fr.sub hFh4 rfl), (by omega)⟩)
  · skip
    refine g_aload_n dX12_passes_7 rfl ?_
    refine g_iload_n dX12_passes_8 rfl (fun _ => ?_)
    refine g_cVV (as := [_]) (c_X12_worksOne_98 _ h hM (by omega) (by omega)) dX12_passes_9 mi_X12_worksOne in_X12_worksOne se_X12_worksOne ml_X12_389 rfl rfl rfl sh_98 rfl rfl (Nat.le_of_ble_eq_true rfl) (fun h6 q7 => ?_)
    obtain ⟨hMh6, hFh6⟩ := q7
    refine g_aload_n dX12_passes_12 rfl ?_
    refine g_dup dX12_passes_13 rfl ?_
    refine gE_X12_334 rfl dX12_passes_14 sh_98 ((hFh6 98 5 rfl).trans ew98_5.symm) ?_
    refine g_iconst dX12_passes_17 (inR_c rfl) ?_
    refine g_iaddB dX12_passes_18 (by omega) (by omega) ?_
    refine pI_X12_334 rfl dX12_passes_19 sh_98 (fun h8 eh8 => ?_)
    have hFh8 := Fr.st eh8
    have hMh8 := u_98_5 hMh6 eh8 (by omega) (by omega)
    have q9 : h8 98 5 = (w98_5 + 1) := (st_at eh8)
    exact g_return dX12_passes_22 rfl (hPo _ ⟨hMh8, (Fr.tr (Fr.sub hFh6 rfl) hFh8 rfl), (by omega)⟩)
set_option maxRecDepth 100000 in
set_option maxHeartbeats 4000000 in
theorem c_X12_goesOn_98 (x1 : Int) (h : MEM) (hM : MBm h) (bx1 : 1 ≤ x1) (dx1 : x1 ≤ 40) (p0_0 : 0 ≤ h 98 5) (p0_1 : h 98 5 ≤ 999950) : CV yX12_goesOn cX12_goesOn 3 (none) 4 [pR 98, pI x1] h (fun h' => MBm h' ∧ Fr [(98, 6), (98, 7), (98, 49)] h h' ∧ h' 98 5 = h 98 5 + 0 + x1) := by
  refine CV.of (L0 := [some (pR 98), some (pI x1), none]) rfl (Nat.le_of_ble_eq_true rfl) rfl (fun Po hPo hav => ?_)
  obtain ⟨w98_5, ew98_5⟩ : ∃ z, z = h 98 5 := ⟨_, rfl⟩
  refine g_iconst dX12_goesOn_0 (inR_c rfl) ?_
  have c2 : ∀ (n : Nat) (y1 : Int) (h2 : MEM), MBm h2 → Fr [(98, 6), (98, 7), (98, 49)] h h2 → 0 ≤ y1 → y1 ≤ 40 → h2 98 5 = h 98 5 + y1 → y1 ≤ x1 → 40 - y1 < (n : Int) → G yX12_goesOn cX12_goesOn 3 (none) none Po (4, 240, 0, 0) 2 [some (pR 98), some (pI x1), some (pI y1)] [] SH h2 0 0 := by
    intro n
    induction n with
    | zero =>
      intro y1 h2 hMh2 hFh2 by1 dy1 e2_0 e2_1 hn
      exfalso; omega
    | succ n ih =>
      intro y1 h2 hMh2 hFh2 by1 dy1 e2_0 e2_1 hn
      refine g_iload_n dX12_goesOn_2 rfl (fun _ => ?_)
      refine g_iload_n dX12_goesOn_3 rfl (fun _ => ?_)
      refine g_icmp_ge 44 dX12_goesOn_4 (by decide) (fun q3 => ?_) (fun q3 => ?_)
      · skip
        obtain ⟨v4, ev4⟩ : ∃ z, z = h2 98 5 := ⟨_, rfl⟩
        have bv4 : 0 ≤ v4 ∧ v4 ≤ 2000000000 := by rw [ev4]; exact (m_98_5 hMh2)
        exact g_return dX12_goesOn_44 rfl (hPo _ ⟨hMh2, (Fr.sub hFh2 rfl), (by omega)⟩)
      · skip
        refine g_aload_n dX12_goesOn_7 rfl ?_
        refine g_sipush dX12_goesOn_8 (inR_c rfl) (by decide) ?_
        refine g_aload_n dX12_goesOn_11 rfl ?_
        refine gI_X12_13 rfl dX12_goesOn_12 sh_98 (m_98_6 hMh2) (fun v5 ev5 bv5 cv5 => ?_)
        refine g_imulB dX12_goesOn_15 (by omega) (by omega) ?_
        refine g_sipush dX12_goesOn_16 (inR_c rfl) (by decide) ?_
        refine g_iaddB dX12_goesOn_19 (by omega) (by omega) ?_
        refine g_ldc_w (v := 65536) dX12_goesOn_20 kc_X12_392 (inR_c rfl) ?_
        refine g_iremX (lo := 0) (hi := 65535) dX12_goesOn_23 (by omega) (irem_b (by omega) (by omega) (by omega)) (fun v6 ev6 bv6 cv6 => ?_)
        refine pI_X12_13 rfl dX12_goesOn_24 sh_98 (fun h7 eh7 => ?_)
        have hFh7 := Fr.st eh7
        have hMh7 := u_98_6 hMh2 eh7 (by omega) (by omega)
        refine g_aload_n dX12_goesOn_27 rfl ?_
        refine g_aload_n dX12_goesOn_28 rfl ?_
        refine gE_X12_13 rfl dX12_goesOn_29 sh_98 (st_at eh7) ?_
        refine g_bipush dX12_goesOn_32 (inR_c rfl) (by decide) ?_
        refine g_iremX (lo := 0) (hi := 9) dX12_goesOn_34 (by omega) (irem_b (by omega) (by omega) (by omega)) (fun v8 ev8 bv8 cv8 => ?_)
        have q9 : h7 98 5 = h2 98 5 := (hFh7 98 5 rfl)
        obtain ⟨v10, ev10⟩ : ∃ z, z = h7 98 5 := ⟨_, rfl⟩
        have bv10 : 0 ≤ v10 ∧ v10 ≤ 2000000000 := by rw [ev10]; exact (m_98_5 hMh7)
        have q11 : h7 98 5 = v10 := ev10.symm
        refine g_cVV (as := [_]) (c_X12_passes_98 _ h7 hMh7 (by omega) (by omega) (by omega) (by omega)) dX12_goesOn_35 mi_X12_passes in_X12_passes se_X12_passes ml_X12_393 rfl rfl rfl sh_98 rfl rfl (Nat.le_of_ble_eq_true rfl) (fun h12 q13 => ?_)
        obtain ⟨hMh12, hFh12, z14⟩ := q13
        have kz14 : h12 98 5 = (v10 + 1) := by omega
        refine g_iincB dX12_goesOn_38 rfl rfl (by omega) (by omega) ?_
        refine g_goto 2 dX12_goesOn_41 (by decide) ?_
        have q15 : h12 98 5 = (v10 + 1) := kz14
        exact ih _ _ hMh12 (Fr.tr (Fr.tr (Fr.sub hFh2 rfl) hFh7 rfl) hFh12 rfl) (by omega) (by omega) (by omega) (by omega) (by omega)
  refine g_istore_n dX12_goesOn_1 (by decide) rfl ?_
  have q16 : h 98 5 = w98_5 := ew98_5.symm
  exact c2 41 _ _ hM Fr.rf (by omega) (by omega) (by omega) (by omega) (by omega)
set_option maxRecDepth 100000 in
set_option maxHeartbeats 4000000 in
theorem c_X12_hours_98 (x1 : Int) (h : MEM) (hM : MBm h) (bx1 : -2147483648 ≤ x1) (dx1 : x1 ≤ 2147483647) (p0_0 : 0 ≤ h 98 5) (p0_1 : h 98 5 ≤ 0) : CI yX12_hours cX12_hours 2 (some .int) 5 [pR 98, pI x1] h (fun x h' => Fr [(98, 6), (98, 7), (98, 49), (98, 52)] h h' ∧ ((1 ≤ x1 ∧ x1 ≤ 40) ∧ x = 0 ∨ ¬ (1 ≤ x1 ∧ x1 ≤ 40) ∧ x = -1)) := by
  refine CI.of (L0 := [some (pR 98), some (pI x1)]) rfl (Nat.le_of_ble_eq_true rfl) rfl (fun Po hPo hav => ?_)
  obtain ⟨w98_5, ew98_5⟩ : ∃ z, z = h 98 5 := ⟨_, rfl⟩
  refine g_iload_n dX12_hours_0 rfl (fun _ => ?_)
  refine g_cSP (av := [_]) (c_X12_areHours _ h hM (by omega) (by omega)) dX12_hours_1 mi_X12_areHours st_X12_areHours ml_X12_398 rfl rfl rfl rfl (Nat.le_of_ble_eq_true rfl) (fun v1 q2 => ?_)
  rcases q2 with ⟨rfl, q2⟩ | ⟨rfl, q2⟩
  · skip
    refine g_if_ne 9 dX12_hours_4 (by decide) (fun q3 => ?_) (fun _ => by exfalso; omega)
    refine g_aload_n dX12_hours_9 rfl ?_
    refine g_iconst dX12_hours_10 (inR_c rfl) ?_
    refine pI_X12_366 rfl dX12_hours_11 sh_98 (fun h4 eh4 => ?_)
    have hFh4 := Fr.st eh4
    have hMh4 := u_98_51 hM eh4 (by omega) (by omega)
    refine g_aload_n dX12_hours_14 rfl ?_
    refine g_iload_n dX12_hours_15 rfl (fun _ => ?_)
    have q5 : h4 98 5 = w98_5 := ((hFh4 98 5 rfl).trans ew98_5.symm)
    have q6 : h4 98 5 = w98_5 := ((hFh4 98 5 rfl).trans ew98_5.symm)
    refine g_cVV (as := [_]) (c_X12_goesOn_98 _ h4 hMh4 (by omega) (by omega) (by omega) (by omega)) dX12_hours_16 mi_X12_goesOn in_X12_goesOn se_X12_goesOn ml_X12_401 rfl rfl rfl sh_98 rfl rfl (Nat.le_of_ble_eq_true rfl) (fun h7 q8 => ?_)
    obtain ⟨hMh7, hFh7, z9⟩ := q8
    have kz9 : h7 98 5 = (w98_5 + x1) := by omega
    refine g_aload_n dX12_hours_19 rfl ?_
    refine gE_X12_366 rfl dX12_hours_20 sh_98 ((hFh7 98 51 rfl).trans (st_at eh4)) ?_
    exact g_ireturn dX12_hours_23 retI (hPo _ _ ⟨(Fr.tr (Fr.sub hFh4 rfl) hFh7 rfl), (by omega)⟩)
  · skip
    refine g_if_ne 9 dX12_hours_4 (by decide) (fun _ => by exfalso; omega) (fun q10 => ?_)
    refine g_iconst dX12_hours_7 (inR_c rfl) ?_
    exact g_ireturn dX12_hours_8 retI (hPo _ _ ⟨Fr.rf, (by omega)⟩)
set_option maxRecDepth 100000 in
set_option maxHeartbeats 4000000 in
theorem c_X11_hour_0 (x1 : Int) (h : MEM) (hM : MBx h) (bx1 : -2147483648 ≤ x1) (dx1 : x1 ≤ 2147483647) : CI yX11_hour cX11_hour 2 (some .int) 2 [pR 0, pI x1] h (fun x h' => Fr [(1, 7)] h h' ∧ ((0 ≤ x1 ∧ x1 ≤ 9) ∧ x = 0 ∨ ¬ (0 ≤ x1 ∧ x1 ≤ 9) ∧ x = -1)) := by
  refine CI.of (L0 := [some (pR 0), some (pI x1)]) rfl (Nat.le_of_ble_eq_true rfl) rfl (fun Po hPo hav => ?_)
  refine g_iload_n dX11_hour_0 rfl (fun _ => ?_)
  refine g_iconst dX11_hour_1 (inR_c rfl) ?_
  refine g_bipush dX11_hour_2 (inR_c rfl) (by decide) ?_
  refine g_cSP (av := [_, _, _]) (c_X11_isWithin _ _ _ h hM (by omega) (by omega) (by omega) (by omega) (by omega) (by omega)) dX11_hour_4 mi_X11_isWithin st_X11_isWithin ml_X11_81 rfl rfl rfl rfl (Nat.le_of_ble_eq_true rfl) (fun v1 q2 => ?_)
  rcases q2 with ⟨rfl, q2⟩ | ⟨rfl, q2⟩
  · skip
    refine g_if_eq 25 dX11_hour_7 (by decide) (fun _ => by exfalso; omega) (fun q3 => ?_)
    refine g_aload_n dX11_hour_10 rfl ?_
    refine gR_X11_10 rfl dX11_hour_11 sh_0 (b := 1) (m_0_0 hM) ?_
    refine g_aload_n dX11_hour_14 rfl ?_
    refine gR_X11_70 rfl dX11_hour_15 sh_0 (b := 82) (m_0_10 hM) ?_
    refine g_iload_n dX11_hour_18 rfl (fun _ => ?_)
    refine g_cV (as := [_, _]) (c_X9_passHour_1_82 _ h hM (by omega) (by omega)) dX11_hour_19 mi_X9_passHour in_X9_passHour se_X9_passHour ml_X11_156 rfl rfl rfl sh_1 rfl rfl (Nat.le_of_ble_eq_true rfl) (fun v4 h5 q6 => ?_)
    obtain ⟨hMh5, hFh5, bv4, cv4⟩ := q6
    refine g_goto 26 dX11_hour_22 (by decide) ?_
    exact g_ireturn dX11_hour_26 retI (hPo _ _ ⟨(Fr.sub hFh5 rfl), (by omega)⟩)
  · skip
    refine g_if_eq 25 dX11_hour_7 (by decide) (fun q7 => ?_) (fun _ => by exfalso; omega)
    refine g_iconst dX11_hour_25 (inR_c rfl) ?_
    exact g_ireturn dX11_hour_26 retI (hPo _ _ ⟨Fr.rf, (by omega)⟩)
set_option maxRecDepth 100000 in
set_option maxHeartbeats 4000000 in
theorem c_X12_hour_98 (x1 : Int) (h : MEM) (hM : MBm h) (bx1 : -2147483648 ≤ x1) (dx1 : x1 ≤ 2147483647) (p0_0 : 0 ≤ h 98 5) (p0_1 : h 98 5 ≤ 0) : CI yX12_hour cX12_hour 2 (some .int) 4 [pR 98, pI x1] h (fun x h' => Fr [(98, 6), (98, 49), (98, 52)] h h' ∧ ((0 ≤ x1 ∧ x1 ≤ 9) ∧ x = 0 ∨ ¬ (0 ≤ x1 ∧ x1 ≤ 9) ∧ x = -1)) := by
  refine CI.of (L0 := [some (pR 98), some (pI x1)]) rfl (Nat.le_of_ble_eq_true rfl) rfl (fun Po hPo hav => ?_)
  obtain ⟨w98_5, ew98_5⟩ : ∃ z, z = h 98 5 := ⟨_, rfl⟩
  refine g_iload_n dX12_hour_0 rfl (fun _ => ?_)
  refine g_cSP (av := [_]) (c_X12_isDigit _ h hM (by omega) (by omega)) dX12_hour_1 mi_X12_isDigit st_X12_isDigit ml_X12_189 rfl rfl rfl rfl (Nat.le_of_ble_eq_true rfl) (fun v1 q2 => ?_)
  rcases q2 with ⟨rfl, q2⟩ | ⟨rfl, q2⟩
  · skip
    refine g_if_ne 9 dX12_hour_4 (by decide) (fun q3 => ?_) (fun _ => by exfalso; omega)
    refine g_aload_n dX12_hour_9 rfl ?_
    refine g_iconst dX12_hour_10 (inR_c rfl) ?_
    refine pI_X12_366 rfl dX12_hour_11 sh_98 (fun h4 eh4 => ?_)
    have hFh4 := Fr.st eh4
    have hMh4 := u_98_51 hM eh4 (by omega) (by omega)
    refine g_aload_n dX12_hour_14 rfl ?_
    refine g_iload_n dX12_hour_15 rfl (fun _ => ?_)
    have q5 : h4 98 5 = w98_5 := ((hFh4 98 5 rfl).trans ew98_5.symm)
    have q6 : h4 98 5 = w98_5 := ((hFh4 98 5 rfl).trans ew98_5.symm)
    refine g_cVV (as := [_]) (c_X12_passes_98 _ h4 hMh4 (by omega) (by omega) (by omega) (by omega)) dX12_hour_16 mi_X12_passes in_X12_passes se_X12_passes ml_X12_393 rfl rfl rfl sh_98 rfl rfl (Nat.le_of_ble_eq_true rfl) (fun h7 q8 => ?_)
    obtain ⟨hMh7, hFh7, z9⟩ := q8
    have kz9 : h7 98 5 = (w98_5 + 1) := by omega
    refine g_aload_n dX12_hour_19 rfl ?_
    refine gE_X12_366 rfl dX12_hour_20 sh_98 ((hFh7 98 51 rfl).trans (st_at eh4)) ?_
    exact g_ireturn dX12_hour_23 retI (hPo _ _ ⟨(Fr.tr (Fr.sub hFh4 rfl) hFh7 rfl), (by omega)⟩)
  · skip
    refine g_if_ne 9 dX12_hour_4 (by decide) (fun _ => by exfalso; omega) (fun q10 => ?_)
    refine g_iconst dX12_hour_7 (inR_c rfl) ?_
    exact g_ireturn dX12_hour_8 retI (hPo _ _ ⟨Fr.rf, (by omega)⟩)
set_option maxRecDepth 100000 in
set_option maxHeartbeats 4000000 in
theorem c_X6_has_2 (x1 : Int) (h : MEM) (hM : MBx h) (bx1 : -2147483648 ≤ x1) (dx1 : x1 ≤ 2147483647) : CP yX6_has cX6_has 2 (some .boolean) 1 [pR 2, pI x1] h (fun x => (x = 1 ∧ 0 ≤ x1 + (0) ∧ x1 ≤ h 2 0 + (-1) ∨ x = 0 ∧ ¬ (0 ≤ x1 + (0) ∧ x1 ≤ h 2 0 + (-1)))) := by
  refine CP.of (L0 := [some (pR 2), some (pI x1)]) rfl (Nat.le_of_ble_eq_true rfl) rfl (fun Po hPo hav => ?_)
  refine g_iload_n dX6_has_0 rfl (fun _ => ?_)
  refine g_if_lt 16 dX6_has_1 (by decide) (fun q1 => ?_) (fun q1 => ?_)
  · skip
    refine g_iconst dX6_has_16 (inR_c rfl) ?_
    exact g_ireturn dX6_has_17 (retZ (by omega)) (hPo _ (by omega))
  · skip
    refine g_iload_n dX6_has_4 rfl (fun _ => ?_)
    refine g_aload_n dX6_has_5 rfl ?_
    refine gI_X6_9 rfl dX6_has_6 sh_2 (m_2_0 hM) (fun v2 ev2 bv2 cv2 => ?_)
    refine g_icmp_ge 16 dX6_has_9 (by decide) (fun q3 => ?_) (fun _ => by exfalso; omega)
    refine g_iconst dX6_has_16 (inR_c rfl) ?_
    exact g_ireturn dX6_has_17 (retZ (by omega)) (hPo _ (by omega))
set_option maxRecDepth 100000 in
set_option maxHeartbeats 4000000 in
theorem c_X11_roofIs_0 (x1 x2 : Int) (h : MEM) (hM : MBx h) (bx1 : -2147483648 ≤ x1) (dx1 : x1 ≤ 2147483647) (bx2 : -2147483648 ≤ x2) (dx2 : x2 ≤ 2147483647) : CP yX11_roofIs cX11_roofIs 3 (some .int) 2 [pR 0, pI x1, pI x2] h (fun x => x = -1) := by
  refine CP.of (L0 := [some (pR 0), some (pI x1), some (pI x2)]) rfl (Nat.le_of_ble_eq_true rfl) rfl (fun Po hPo hav => ?_)
  refine g_aload_n dX11_roofIs_0 rfl ?_
  refine gR_X11_10 rfl dX11_roofIs_1 sh_0 (b := 1) (m_0_0 hM) ?_
  refine gR_X11_85 rfl dX11_roofIs_4 sh_1 (b := 2) (m_1_0 hM) ?_
  refine g_iload_n dX11_roofIs_7 rfl (fun _ => ?_)
  refine g_cVP (as := [_]) (c_X6_has_2 _ h hM (by omega) (by omega)) dX11_roofIs_8 mi_X6_has in_X6_has se_X6_has ml_X11_159 rfl rfl rfl sh_2 rfl rfl (Nat.le_of_ble_eq_true rfl) (fun v1 q2 => ?_)
  obtain ⟨v3, ev3⟩ : ∃ z, z = h 2 0 := ⟨_, rfl⟩
  have bv3 : 0 ≤ v3 ∧ v3 ≤ 0 := by rw [ev3]; exact (m_2_0 hM)
  rcases q2 with ⟨rfl, q2⟩ | ⟨rfl, q2⟩
  · skip
    exfalso; omega
  · skip
    refine g_if_ne 16 dX11_roofIs_11 (by decide) (fun _ => by exfalso; omega) (fun q4 => ?_)
    refine g_iconst dX11_roofIs_14 (inR_c rfl) ?_
    exact g_ireturn dX11_roofIs_15 retI (hPo _ (by omega))
set_option maxRecDepth 100000 in
set_option maxHeartbeats 4000000 in
theorem c_X12_isRoof_98 (x1 : Int) (h : MEM) (hM : MBm h) (bx1 : -2147483648 ≤ x1) (dx1 : x1 ≤ 2147483647) : CP yX12_isRoof cX12_isRoof 2 (some .boolean) 2 [pR 98, pI x1] h (fun x => (x = 1 ∧ 0 ≤ x1 + (0) ∧ x1 ≤ h 98 2 + (-1) ∨ x = 0 ∧ ¬ (0 ≤ x1 + (0) ∧ x1 ≤ h 98 2 + (-1)))) := by
  refine CP.of (L0 := [some (pR 98), some (pI x1)]) rfl (Nat.le_of_ble_eq_true rfl) rfl (fun Po hPo hav => ?_)
  refine g_iload_n dX12_isRoof_0 rfl (fun _ => ?_)
  refine g_i2l dX12_isRoof_1 ?_
  refine g_lconst (v := 0) dX12_isRoof_2 rfl ?_
  refine g_aload_n dX12_isRoof_3 rfl ?_
  refine gI_X12_172 rfl dX12_isRoof_4 sh_98 (m_98_2 hM) (fun v1 ev1 bv1 cv1 => ?_)
  refine g_iconst dX12_isRoof_7 (inR_c rfl) ?_
  refine g_isubB dX12_isRoof_8 (by omega) (by omega) ?_
  refine g_i2l dX12_isRoof_9 ?_
  refine g_cSP (av := [_, _, _]) (c_X12_lies _ _ _ h hM (by omega) (by omega) (by omega) (by omega) (by omega) (by omega)) dX12_isRoof_10 mi_X12_lies st_X12_lies ml_X12_175 rfl rfl rfl rfl (Nat.le_of_ble_eq_true rfl) (fun v2 q3 => ?_)
  rcases q3 with ⟨rfl, q3⟩ | ⟨rfl, q3⟩
  · skip
    exfalso; omega
  · skip
    exact g_ireturn dX12_isRoof_13 (retZ (by omega)) (hPo _ (by omega))
set_option maxRecDepth 100000 in
set_option maxHeartbeats 4000000 in
theorem c_X12_roofIs_98 (x1 x2 : Int) (h : MEM) (hM : MBm h) (bx1 : -2147483648 ≤ x1) (dx1 : x1 ≤ 2147483647) (bx2 : -2147483648 ≤ x2) (dx2 : x2 ≤ 2147483647) : CP yX12_roofIs cX12_roofIs 3 (some .int) 3 [pR 98, pI x1, pI x2] h (fun x => x = -1) := by
  refine CP.of (L0 := [some (pR 98), some (pI x1), some (pI x2)]) rfl (Nat.le_of_ble_eq_true rfl) rfl (fun Po hPo hav => ?_)
  refine g_aload_n dX12_roofIs_0 rfl ?_
  refine g_iload_n dX12_roofIs_1 rfl (fun _ => ?_)
  refine g_cVP (as := [_]) (c_X12_isRoof_98 _ h hM (by omega) (by omega)) dX12_roofIs_2 mi_X12_isRoof in_X12_isRoof se_X12_isRoof ml_X12_198 rfl rfl rfl sh_98 rfl rfl (Nat.le_of_ble_eq_true rfl) (fun v1 q2 => ?_)
  obtain ⟨v3, ev3⟩ : ∃ z, z = h 98 2 := ⟨_, rfl⟩
  have bv3 : 0 ≤ v3 ∧ v3 ≤ 0 := by rw [ev3]; exact (m_98_2 hM)
  rcases q2 with ⟨rfl, q2⟩ | ⟨rfl, q2⟩
  · skip
    exfalso; omega
  · skip
    refine g_if_ne 10 dX12_roofIs_5 (by decide) (fun _ => by exfalso; omega) (fun q4 => ?_)
    refine g_iconst dX12_roofIs_8 (inR_c rfl) ?_
    exact g_ireturn dX12_roofIs_9 retI (hPo _ (by omega))
set_option maxRecDepth 100000 in
set_option maxHeartbeats 4000000 in
theorem c_X11_apprenticeIs_0 (x1 x2 : Int) (h : MEM) (hM : MBx h) (bx1 : -2147483648 ≤ x1) (dx1 : x1 ≤ 2147483647) (bx2 : -2147483648 ≤ x2) (dx2 : x2 ≤ 2147483647) : CP yX11_apprenticeIs cX11_apprenticeIs 3 (some .int) 2 [pR 0, pI x1, pI x2] h (fun x => x = -1) := by
  refine CP.of (L0 := [some (pR 0), some (pI x1), some (pI x2)]) rfl (Nat.le_of_ble_eq_true rfl) rfl (fun Po hPo hav => ?_)
  refine g_aload_n dX11_apprenticeIs_0 rfl ?_
  refine gR_X11_10 rfl dX11_apprenticeIs_1 sh_0 (b := 1) (m_0_0 hM) ?_
  refine gR_X11_95 rfl dX11_apprenticeIs_4 sh_1 (b := 6) (m_1_1 hM) ?_
  refine g_iload_n dX11_apprenticeIs_7 rfl (fun _ => ?_)
  refine g_cVP (as := [_]) (c_X0_has_6 _ h hM (by omega) (by omega)) dX11_apprenticeIs_8 mi_X0_has in_X0_has se_X0_has ml_X11_113 rfl rfl rfl sh_6 rfl rfl (Nat.le_of_ble_eq_true rfl) (fun v1 q2 => ?_)
  obtain ⟨v3, ev3⟩ : ∃ z, z = h 6 0 := ⟨_, rfl⟩
  have bv3 : 0 ≤ v3 ∧ v3 ≤ 0 := by rw [ev3]; exact (m_6_0 hM)
  rcases q2 with ⟨rfl, q2⟩ | ⟨rfl, q2⟩
  · skip
    exfalso; omega
  · skip
    refine g_if_ne 16 dX11_apprenticeIs_11 (by decide) (fun _ => by exfalso; omega) (fun q4 => ?_)
    refine g_iconst dX11_apprenticeIs_14 (inR_c rfl) ?_
    exact g_ireturn dX11_apprenticeIs_15 retI (hPo _ (by omega))
set_option maxRecDepth 100000 in
set_option maxHeartbeats 4000000 in
theorem c_X12_apprenticeIs_98 (x1 x2 : Int) (h : MEM) (hM : MBm h) (bx1 : -2147483648 ≤ x1) (dx1 : x1 ≤ 2147483647) (bx2 : -2147483648 ≤ x2) (dx2 : x2 ≤ 2147483647) : CP yX12_apprenticeIs cX12_apprenticeIs 3 (some .int) 3 [pR 98, pI x1, pI x2] h (fun x => x = -1) := by
  refine CP.of (L0 := [some (pR 98), some (pI x1), some (pI x2)]) rfl (Nat.le_of_ble_eq_true rfl) rfl (fun Po hPo hav => ?_)
  refine g_aload_n dX12_apprenticeIs_0 rfl ?_
  refine g_iload_n dX12_apprenticeIs_1 rfl (fun _ => ?_)
  refine g_cVP (as := [_]) (c_X12_isApprentice_98 _ h hM (by omega) (by omega)) dX12_apprenticeIs_2 mi_X12_isApprentice in_X12_isApprentice se_X12_isApprentice ml_X12_195 rfl rfl rfl sh_98 rfl rfl (Nat.le_of_ble_eq_true rfl) (fun v1 q2 => ?_)
  obtain ⟨v3, ev3⟩ : ∃ z, z = h 98 3 := ⟨_, rfl⟩
  have bv3 : 0 ≤ v3 ∧ v3 ≤ 0 := by rw [ev3]; exact (m_98_3 hM)
  rcases q2 with ⟨rfl, q2⟩ | ⟨rfl, q2⟩
  · skip
    exfalso; omega
  · skip
    refine g_if_ne 10 dX12_apprenticeIs_5 (by decide) (fun _ => by exfalso; omega) (fun q4 => ?_)
    refine g_iconst dX12_apprenticeIs_8 (inR_c rfl) ?_
    exact g_ireturn dX12_apprenticeIs_9 retI (hPo _ (by omega))
set_option maxRecDepth 100000 in
set_option maxHeartbeats 4000000 in
theorem c_X11_masterIs_0 (x1 x2 : Int) (h : MEM) (hM : MBx h) (bx1 : -2147483648 ≤ x1) (dx1 : x1 ≤ 2147483647) (bx2 : -2147483648 ≤ x2) (dx2 : x2 ≤ 2147483647) : CP yX11_masterIs cX11_masterIs 3 (some .int) 2 [pR 0, pI x1, pI x2] h (fun x => x = -1) := by
  refine CP.of (L0 := [some (pR 0), some (pI x1), some (pI x2)]) rfl (Nat.le_of_ble_eq_true rfl) rfl (fun Po hPo hav => ?_)
  refine g_aload_n dX11_masterIs_0 rfl ?_
  refine gR_X11_10 rfl dX11_masterIs_1 sh_0 (b := 1) (m_0_0 hM) ?_
  refine gR_X11_104 rfl dX11_masterIs_4 sh_1 (b := 12) (m_1_2 hM) ?_
  refine g_iload_n dX11_masterIs_7 rfl (fun _ => ?_)
  refine g_cVP (as := [_]) (c_X4_has_12 _ h hM (by omega) (by omega)) dX11_masterIs_8 mi_X4_has in_X4_has se_X4_has ml_X11_124 rfl rfl rfl sh_12 rfl rfl (Nat.le_of_ble_eq_true rfl) (fun v1 q2 => ?_)
  obtain ⟨v3, ev3⟩ : ∃ z, z = h 12 0 := ⟨_, rfl⟩
  have bv3 : 0 ≤ v3 ∧ v3 ≤ 0 := by rw [ev3]; exact (m_12_0 hM)
  rcases q2 with ⟨rfl, q2⟩ | ⟨rfl, q2⟩
  · skip
    exfalso; omega
  · skip
    refine g_if_ne 16 dX11_masterIs_11 (by decide) (fun _ => by exfalso; omega) (fun q4 => ?_)
    refine g_iconst dX11_masterIs_14 (inR_c rfl) ?_
    exact g_ireturn dX11_masterIs_15 retI (hPo _ (by omega))
set_option maxRecDepth 100000 in
set_option maxHeartbeats 4000000 in
theorem c_X12_masterIs_98 (x1 x2 : Int) (h : MEM) (hM : MBm h) (bx1 : -2147483648 ≤ x1) (dx1 : x1 ≤ 2147483647) (bx2 : -2147483648 ≤ x2) (dx2 : x2 ≤ 2147483647) : CP yX12_masterIs cX12_masterIs 3 (some .int) 3 [pR 98, pI x1, pI x2] h (fun x => x = -1) := by
  refine CP.of (L0 := [some (pR 98), some (pI x1), some (pI x2)]) rfl (Nat.le_of_ble_eq_true rfl) rfl (fun Po hPo hav => ?_)
  refine g_aload_n dX12_masterIs_0 rfl ?_
  refine g_iload_n dX12_masterIs_1 rfl (fun _ => ?_)
  refine g_cVP (as := [_]) (c_X12_isMaster_98 _ h hM (by omega) (by omega)) dX12_masterIs_2 mi_X12_isMaster in_X12_isMaster se_X12_isMaster ml_X12_201 rfl rfl rfl sh_98 rfl rfl (Nat.le_of_ble_eq_true rfl) (fun v1 q2 => ?_)
  obtain ⟨v3, ev3⟩ : ∃ z, z = h 98 4 := ⟨_, rfl⟩
  have bv3 : 0 ≤ v3 ∧ v3 ≤ 0 := by rw [ev3]; exact (m_98_4 hM)
  rcases q2 with ⟨rfl, q2⟩ | ⟨rfl, q2⟩
  · skip
    exfalso; omega
  · skip
    refine g_if_ne 10 dX12_masterIs_5 (by decide) (fun _ => by exfalso; omega) (fun q4 => ?_)
    refine g_iconst dX12_masterIs_8 (inR_c rfl) ?_
    exact g_ireturn dX12_masterIs_9 retI (hPo _ (by omega))
set_option maxRecDepth 100000 in
set_option maxHeartbeats 4000000 in
theorem c_X6_copyFrom_22_2 (h : MEM) (hM : MBx h) : CV yX6_copyFrom cX6_copyFrom 2 (none) 1 [pR 22, pR 2] h (fun h' => MBx h' ∧ Fr [(22, 1), (23, 0), (24, 0), (25, 0)] h h') := by
  refine CV.of (L0 := [some (pR 22), some (pR 2)]) rfl (Nat.le_of_ble_eq_true rfl) rfl (fun Po hPo hav => ?_)
  refine g_aload_n dX6_copyFrom_0 rfl ?_
  refine g_aload_n dX6_copyFrom_1 rfl ?_
  refine gI_X6_9 rfl dX6_copyFrom_2 sh_2 (m_2_0 hM) (fun v1 ev1 bv1 cv1 => ?_)
  refine pI_X6_9 rfl dX6_copyFrom_5 sh_22 (fun h2 eh2 => ?_)
  have hFh2 := Fr.st eh2
  have hMh2 := u_22_0 hM eh2 (by omega) (by omega)
  refine g_aload_n dX6_copyFrom_8 rfl ?_
  refine gR_X6_15 rfl dX6_copyFrom_9 sh_2 (b := 3) (m_2_1 hMh2) ?_
  refine g_iconst dX6_copyFrom_12 (inR_c rfl) ?_
  refine g_aload_n dX6_copyFrom_13 rfl ?_
  refine gR_X6_15 rfl dX6_copyFrom_14 sh_22 (b := 23) (m_22_1 hMh2) ?_
  refine g_iconst dX6_copyFrom_17 (inR_c rfl) ?_
  refine g_bipush dX6_copyFrom_18 (inR_c rfl) (by decide) ?_
  refine g_acopy dX6_copyFrom_20 ml_X6_25 sh_3 sh_23 (by decide) (by decide) (by decide) (by decide) (by decide) (by decide) (by decide) (fun h3 eh3 => ?_)
  have hFh3 := Fr.cp eh3
  have hMh3 := MBx.cp hMh2 eh3 (by decide) (p0 := (0, 0)) (p := (0, 0)) rfl rfl (by decide) (by decide)
  refine g_aload_n dX6_copyFrom_23 rfl ?_
  refine gR_X6_19 rfl dX6_copyFrom_24 sh_2 (b := 4) (m_2_2 hMh3) ?_
  refine g_iconst dX6_copyFrom_27 (inR_c rfl) ?_
  refine g_aload_n dX6_copyFrom_28 rfl ?_
  refine gR_X6_19 rfl dX6_copyFrom_29 sh_22 (b := 24) (m_22_2 hMh3) ?_
  refine g_iconst dX6_copyFrom_32 (inR_c rfl) ?_
  refine g_bipush dX6_copyFrom_33 (inR_c rfl) (by decide) ?_
  refine g_acopy dX6_copyFrom_35 ml_X6_25 sh_4 sh_24 (by decide) (by decide) (by decide) (by decide) (by decide) (by decide) (by decide) (fun h4 eh4 => ?_)
  have hFh4 := Fr.cp eh4
  have hMh4 := MBx.cp hMh3 eh4 (by decide) (p0 := (0, 0)) (p := (0, 0)) rfl rfl (by decide) (by decide)
  refine g_aload_n dX6_copyFrom_38 rfl ?_
  refine gR_X6_22 rfl dX6_copyFrom_39 sh_2 (b := 5) (m_2_3 hMh4) ?_
  refine g_iconst dX6_copyFrom_42 (inR_c rfl) ?_
  refine g_aload_n dX6_copyFrom_43 rfl ?_
  refine gR_X6_22 rfl dX6_copyFrom_44 sh_22 (b := 25) (m_22_3 hMh4) ?_
  refine g_iconst dX6_copyFrom_47 (inR_c rfl) ?_
  refine g_bipush dX6_copyFrom_48 (inR_c rfl) (by decide) ?_
  refine g_acopy dX6_copyFrom_50 ml_X6_25 sh_5 sh_25 (by decide) (by decide) (by decide) (by decide) (by decide) (by decide) (by decide) (fun h5 eh5 => ?_)
  have hFh5 := Fr.cp eh5
  have hMh5 := MBx.cp hMh4 eh5 (by decide) (p0 := (0, 0)) (p := (0, 0)) rfl rfl (by decide) (by decide)
  exact g_return dX6_copyFrom_53 rfl (hPo _ ⟨hMh5, (Fr.tr (Fr.tr (Fr.tr (Fr.sub hFh2 rfl) hFh3 rfl) hFh4 rfl) hFh5 rfl)⟩)
set_option maxRecDepth 100000 in
set_option maxHeartbeats 4000000 in
theorem c_X0_copyFrom_26_6 (h : MEM) (hM : MBx h) : CV yX0_copyFrom cX0_copyFrom 2 (none) 1 [pR 26, pR 6] h (fun h' => MBx h' ∧ Fr [(26, 1), (27, 0), (28, 0), (29, 0), (30, 0), (31, 0)] h h') := by
  refine CV.of (L0 := [some (pR 26), some (pR 6)]) rfl (Nat.le_of_ble_eq_true rfl) rfl (fun Po hPo hav => ?_)
  refine g_aload_n dX0_copyFrom_0 rfl ?_
  refine g_aload_n dX0_copyFrom_1 rfl ?_
  refine gI_X0_9 rfl dX0_copyFrom_2 sh_6 (m_6_0 hM) (fun v1 ev1 bv1 cv1 => ?_)
  refine pI_X0_9 rfl dX0_copyFrom_5 sh_26 (fun h2 eh2 => ?_)
  have hFh2 := Fr.st eh2
  have hMh2 := u_26_0 hM eh2 (by omega) (by omega)
  refine g_aload_n dX0_copyFrom_8 rfl ?_
  refine gR_X0_15 rfl dX0_copyFrom_9 sh_6 (b := 7) (m_6_1 hMh2) ?_
  refine g_iconst dX0_copyFrom_12 (inR_c rfl) ?_
  refine g_aload_n dX0_copyFrom_13 rfl ?_
  refine gR_X0_15 rfl dX0_copyFrom_14 sh_26 (b := 27) (m_26_1 hMh2) ?_
  refine g_iconst dX0_copyFrom_17 (inR_c rfl) ?_
  refine g_bipush dX0_copyFrom_18 (inR_c rfl) (by decide) ?_
  refine g_acopy dX0_copyFrom_20 ml_X0_35 sh_7 sh_27 (by decide) (by decide) (by decide) (by decide) (by decide) (by decide) (by decide) (fun h3 eh3 => ?_)
  have hFh3 := Fr.cp eh3
  have hMh3 := MBx.cp hMh2 eh3 (by decide) (p0 := (0, 0)) (p := (0, 0)) rfl rfl (by decide) (by decide)
  refine g_aload_n dX0_copyFrom_23 rfl ?_
  refine gR_X0_19 rfl dX0_copyFrom_24 sh_6 (b := 8) (m_6_2 hMh3) ?_
  refine g_iconst dX0_copyFrom_27 (inR_c rfl) ?_
  refine g_aload_n dX0_copyFrom_28 rfl ?_
  refine gR_X0_19 rfl dX0_copyFrom_29 sh_26 (b := 28) (m_26_2 hMh3) ?_
  refine g_iconst dX0_copyFrom_32 (inR_c rfl) ?_
  refine g_bipush dX0_copyFrom_33 (inR_c rfl) (by decide) ?_
  refine g_acopy dX0_copyFrom_35 ml_X0_35 sh_8 sh_28 (by decide) (by decide) (by decide) (by decide) (by decide) (by decide) (by decide) (fun h4 eh4 => ?_)
  have hFh4 := Fr.cp eh4
  have hMh4 := MBx.cp hMh3 eh4 (by decide) (p0 := (0, 0)) (p := (0, 0)) rfl rfl (by decide) (by decide)
  refine g_aload_n dX0_copyFrom_38 rfl ?_
  refine gR_X0_22 rfl dX0_copyFrom_39 sh_6 (b := 9) (m_6_3 hMh4) ?_
  refine g_iconst dX0_copyFrom_42 (inR_c rfl) ?_
  refine g_aload_n dX0_copyFrom_43 rfl ?_
  refine gR_X0_22 rfl dX0_copyFrom_44 sh_26 (b := 29) (m_26_3 hMh4) ?_
  refine g_iconst dX0_copyFrom_47 (inR_c rfl) ?_
  refine g_bipush dX0_copyFrom_48 (inR_c rfl) (by decide) ?_
  refine g_acopy dX0_copyFrom_50 ml_X0_35 sh_9 sh_29 (by decide) (by decide) (by decide) (by decide) (by decide) (by decide) (by decide) (fun h5 eh5 => ?_)
  have hFh5 := Fr.cp eh5
  have hMh5 := MBx.cp hMh4 eh5 (by decide) (p0 := (0, 0)) (p := (0, 0)) rfl rfl (by decide) (by decide)
  refine g_aload_n dX0_copyFrom_53 rfl ?_
  refine gR_X0_25 rfl dX0_copyFrom_54 sh_6 (b := 10) (m_6_4 hMh5) ?_
  refine g_iconst dX0_copyFrom_57 (inR_c rfl) ?_
  refine g_aload_n dX0_copyFrom_58 rfl ?_
  refine gR_X0_25 rfl dX0_copyFrom_59 sh_26 (b := 30) (m_26_4 hMh5) ?_
  refine g_iconst dX0_copyFrom_62 (inR_c rfl) ?_
  refine g_bipush dX0_copyFrom_63 (inR_c rfl) (by decide) ?_
  refine g_acopy dX0_copyFrom_65 ml_X0_35 sh_10 sh_30 (by decide) (by decide) (by decide) (by decide) (by decide) (by decide) (by decide) (fun h6 eh6 => ?_)
  have hFh6 := Fr.cp eh6
  have hMh6 := MBx.cp hMh5 eh6 (by decide) (p0 := (0, 0)) (p := (0, 0)) rfl rfl (by decide) (by decide)
  refine g_aload_n dX0_copyFrom_68 rfl ?_
  refine gR_X0_28 rfl dX0_copyFrom_69 sh_6 (b := 11) (m_6_5 hMh6) ?_
  refine g_iconst dX0_copyFrom_72 (inR_c rfl) ?_
  refine g_aload_n dX0_copyFrom_73 rfl ?_
  refine gR_X0_28 rfl dX0_copyFrom_74 sh_26 (b := 31) (m_26_5 hMh6) ?_
  refine g_iconst dX0_copyFrom_77 (inR_c rfl) ?_
  refine g_bipush dX0_copyFrom_78 (inR_c rfl) (by decide) ?_
  refine g_acopy dX0_copyFrom_80 ml_X0_35 sh_11 sh_31 (by decide) (by decide) (by decide) (by decide) (by decide) (by decide) (by decide) (fun h7 eh7 => ?_)
  have hFh7 := Fr.cp eh7
  have hMh7 := MBx.cp hMh6 eh7 (by decide) (p0 := (0, 0)) (p := (0, 0)) rfl rfl (by decide) (by decide)
  exact g_return dX0_copyFrom_83 rfl (hPo _ ⟨hMh7, (Fr.tr (Fr.tr (Fr.tr (Fr.tr (Fr.tr (Fr.sub hFh2 rfl) hFh3 rfl) hFh4 rfl) hFh5 rfl) hFh6 rfl) hFh7 rfl)⟩)
set_option maxRecDepth 100000 in
set_option maxHeartbeats 4000000 in
theorem c_X4_copyFrom_32_12 (h : MEM) (hM : MBx h) : CV yX4_copyFrom cX4_copyFrom 2 (none) 1 [pR 32, pR 12] h (fun h' => MBx h' ∧ Fr [(32, 1), (33, 0), (34, 0), (35, 0), (36, 0)] h h') := by
  refine CV.of (L0 := [some (pR 32), some (pR 12)]) rfl (Nat.le_of_ble_eq_true rfl) rfl (fun Po hPo hav => ?_)
  refine g_aload_n dX4_copyFrom_0 rfl ?_
  refine g_aload_n dX4_copyFrom_1 rfl ?_
  refine gI_X4_9 rfl dX4_copyFrom_2 sh_12 (m_12_0 hM) (fun v1 ev1 bv1 cv1 => ?_)
  refine pI_X4_9 rfl dX4_copyFrom_5 sh_32 (fun h2 eh2 => ?_)
  have hFh2 := Fr.st eh2
  have hMh2 := u_32_0 hM eh2 (by omega) (by omega)
  refine g_aload_n dX4_copyFrom_8 rfl ?_
  refine gR_X4_15 rfl dX4_copyFrom_9 sh_12 (b := 13) (m_12_1 hMh2) ?_
  refine g_iconst dX4_copyFrom_12 (inR_c rfl) ?_
  refine g_aload_n dX4_copyFrom_13 rfl ?_
  refine gR_X4_15 rfl dX4_copyFrom_14 sh_32 (b := 33) (m_32_1 hMh2) ?_
  refine g_iconst dX4_copyFrom_17 (inR_c rfl) ?_
  refine g_bipush dX4_copyFrom_18 (inR_c rfl) (by decide) ?_
  refine g_acopy dX4_copyFrom_20 ml_X4_28 sh_13 sh_33 (by decide) (by decide) (by decide) (by decide) (by decide) (by decide) (by decide) (fun h3 eh3 => ?_)
  have hFh3 := Fr.cp eh3
  have hMh3 := MBx.cp hMh2 eh3 (by decide) (p0 := (0, 0)) (p := (0, 0)) rfl rfl (by decide) (by decide)
  refine g_aload_n dX4_copyFrom_23 rfl ?_
  refine gR_X4_19 rfl dX4_copyFrom_24 sh_12 (b := 14) (m_12_2 hMh3) ?_
  refine g_iconst dX4_copyFrom_27 (inR_c rfl) ?_
  refine g_aload_n dX4_copyFrom_28 rfl ?_
  refine gR_X4_19 rfl dX4_copyFrom_29 sh_32 (b := 34) (m_32_2 hMh3) ?_
  refine g_iconst dX4_copyFrom_32 (inR_c rfl) ?_
  refine g_bipush dX4_copyFrom_33 (inR_c rfl) (by decide) ?_
  refine g_acopy dX4_copyFrom_35 ml_X4_28 sh_14 sh_34 (by decide) (by decide) (by decide) (by decide) (by decide) (by decide) (by decide) (fun h4 eh4 => ?_)
  have hFh4 := Fr.cp eh4
  have hMh4 := MBx.cp hMh3 eh4 (by decide) (p0 := (0, 0)) (p := (0, 0)) rfl rfl (by decide) (by decide)
  refine g_aload_n dX4_copyFrom_38 rfl ?_
  refine gR_X4_22 rfl dX4_copyFrom_39 sh_12 (b := 15) (m_12_3 hMh4) ?_
  refine g_iconst dX4_copyFrom_42 (inR_c rfl) ?_
  refine g_aload_n dX4_copyFrom_43 rfl ?_
  refine gR_X4_22 rfl dX4_copyFrom_44 sh_32 (b := 35) (m_32_3 hMh4) ?_
  refine g_iconst dX4_copyFrom_47 (inR_c rfl) ?_
  refine g_bipush dX4_copyFrom_48 (inR_c rfl) (by decide) ?_
  refine g_acopy dX4_copyFrom_50 ml_X4_28 sh_15 sh_35 (by decide) (by decide) (by decide) (by decide) (by decide) (by decide) (by decide) (fun h5 eh5 => ?_)
  have hFh5 := Fr.cp eh5
  have hMh5 := MBx.cp hMh4 eh5 (by decide) (p0 := (0, 0)) (p := (0, 0)) rfl rfl (by decide) (by decide)
  refine g_aload_n dX4_copyFrom_53 rfl ?_
  refine gR_X4_25 rfl dX4_copyFrom_54 sh_12 (b := 16) (m_12_4 hMh5) ?_
  refine g_iconst dX4_copyFrom_57 (inR_c rfl) ?_
  refine g_aload_n dX4_copyFrom_58 rfl ?_
  refine gR_X4_25 rfl dX4_copyFrom_59 sh_32 (b := 36) (m_32_4 hMh5) ?_
  refine g_iconst dX4_copyFrom_62 (inR_c rfl) ?_
  refine g_bipush dX4_copyFrom_63 (inR_c rfl) (by decide) ?_
  refine g_acopy dX4_copyFrom_65 ml_X4_28 sh_16 sh_36 (by decide) (by decide) (by decide) (by decide) (by decide) (by decide) (by decide) (fun h6 eh6 => ?_)
  have hFh6 := Fr.cp eh6
  have hMh6 := MBx.cp hMh5 eh6 (by decide) (p0 := (0, 0)) (p := (0, 0)) rfl rfl (by decide) (by decide)
  exact g_return dX4_copyFrom_68 rfl (hPo _ ⟨hMh6, (Fr.tr (Fr.tr (Fr.tr (Fr.tr (Fr.sub hFh2 rfl) hFh3 rfl) hFh4 rfl) hFh5 rfl) hFh6 rfl)⟩)
set_option maxRecDepth 100000 in
set_option maxHeartbeats 4000000 in
theorem c_X9_copyFrom_21_1 (h : MEM) (hM : MBx h) : CV yX9_copyFrom cX9_copyFrom 2 (none) 2 [pR 21, pR 1] h (fun h' => MBx h' ∧ Fr [(21, 7), (21, 8), (21, 9), (22, 1), (23, 0), (24, 0), (25, 0), (26, 1), (27, 0), (28, 0), (29, 0), (30, 0), (31, 0), (32, 1), (33, 0), (34, 0), (35, 0), (36, 0), (37, 0), (38, 0), (39, 0)] h h') := by
  refine CV.of (L0 := [some (pR 21), some (pR 1)]) rfl (Nat.le_of_ble_eq_true rfl) rfl (fun Po hPo hav => ?_)
  refine g_aload_n dX9_copyFrom_0 rfl ?_
  refine gR_X9_12 rfl dX9_copyFrom_1 sh_21 (b := 22) (m_21_0 hM) ?_
  refine g_aload_n dX9_copyFrom_4 rfl ?_
  refine gR_X9_12 rfl dX9_copyFrom_5 sh_1 (b := 2) (m_1_0 hM) ?_
  refine g_cVV (as := [_]) (c_X6_copyFrom_22_2  h hM) dX9_copyFrom_8 mi_X6_copyFrom in_X6_copyFrom se_X6_copyFrom ml_X9_55 rfl rfl rfl sh_22 rfl rfl (Nat.le_of_ble_eq_true rfl) (fun h1 q2 => ?_)
  obtain ⟨hMh1, hFh1⟩ := q2
  refine g_aload_n dX9_copyFrom_11 rfl ?_
  refine gR_X9_21 rfl dX9_copyFrom_12 sh_21 (b := 26) (m_21_1 hMh1) ?_
  refine g_aload_n dX9_copyFrom_15 rfl ?_
  refine gR_X9_21 rfl dX9_copyFrom_16 sh_1 (b := 6) (m_1_1 hMh1) ?_
  refine g_cVV (as := [_]) (c_X0_copyFrom_26_6  h1 hMh1) dX9_copyFrom_19 mi_X0_copyFrom in_X0_copyFrom se_X0_copyFrom ml_X9_59 rfl rfl rfl sh_26 rfl rfl (Nat.le_of_ble_eq_true rfl) (fun h3 q4 => ?_)
  obtain ⟨hMh3, hFh3⟩ := q4
  refine g_aload_n dX9_copyFrom_22 rfl ?_
  refine gR_X9_28 rfl dX9_copyFrom_23 sh_21 (b := 32) (m_21_2 hMh3) ?_
  refine g_aload_n dX9_copyFrom_26 rfl ?_
  refine gR_X9_28 rfl dX9_copyFrom_27 sh_1 (b := 12) (m_1_2 hMh3) ?_
  refine g_cVV (as := [_]) (c_X4_copyFrom_32_12  h3 hMh3) dX9_copyFrom_30 mi_X4_copyFrom in_X4_copyFrom se_X4_copyFrom ml_X9_62 rfl rfl rfl sh_32 rfl rfl (Nat.le_of_ble_eq_true rfl) (fun h5 q6 => ?_)
  obtain ⟨hMh5, hFh5⟩ := q6
  refine g_aload_n dX9_copyFrom_33 rfl ?_
  refine gR_X9_32 rfl dX9_copyFrom_34 sh_1 (b := 17) (m_1_3 hMh5) ?_
  refine g_iconst dX9_copyFrom_37 (inR_c rfl) ?_
  refine g_aload_n dX9_copyFrom_38 rfl ?_
  refine gR_X9_32 rfl dX9_copyFrom_39 sh_21 (b := 37) (m_21_3 hMh5) ?_
  refine g_iconst dX9_copyFrom_42 (inR_c rfl) ?_
  refine g_bipush dX9_copyFrom_43 (inR_c rfl) (by decide) ?_
  refine g_acopy dX9_copyFrom_45 ml_X9_65 sh_17 sh_37 (by decide) (by decide) (by decide) (by decide) (by decide) (by decide) (by decide) (fun h7 eh7 => ?_)
  have hFh7 := Fr.cp eh7
  have hMh7 := MBx.cp hMh5 eh7 (by decide) (p0 := (0, 0)) (p := (0, 0)) rfl rfl (by decide) (by decide)
  refine g_aload_n dX9_copyFrom_48 rfl ?_
  refine gR_X9_36 rfl dX9_copyFrom_49 sh_1 (b := 18) (m_1_4 hMh7) ?_
  refine g_iconst dX9_copyFrom_52 (inR_c rfl) ?_
  refine g_aload_n dX9_copyFrom_53 rfl ?_
  refine gR_X9_36 rfl dX9_copyFrom_54 sh_21 (b := 38) (m_21_4 hMh7) ?_
  refine g_iconst dX9_copyFrom_57 (inR_c rfl) ?_
  refine g_bipush dX9_copyFrom_58 (inR_c rfl) (by decide) ?_
  refine g_acopy dX9_copyFrom_60 ml_X9_65 sh_18 sh_38 (by decide) (by decide) (by decide) (by decide) (by decide) (by decide) (by decide) (fun h8 eh8 => ?_)
  have hFh8 := Fr.cp eh8
  have hMh8 := MBx.cp hMh7 eh8 (by decide) (p0 := (0, 0)) (p := (0, 0)) rfl rfl (by decide) (by decide)
  refine g_aload_n dX9_copyFrom_63 rfl ?_
  refine gR_X9_39 rfl dX9_copyFrom_64 sh_1 (b := 19) (m_1_5 hMh8) ?_
  refine g_iconst dX9_copyFrom_67 (inR_c rfl) ?_
  refine g_aload_n dX9_copyFrom_68 rfl ?_
  refine gR_X9_39 rfl dX9_copyFrom_69 sh_21 (b := 39) (m_21_5 hMh8) ?_
  refine g_iconst dX9_copyFrom_72 (inR_c rfl) ?_
  refine g_bipush dX9_copyFrom_73 (inR_c rfl) (by decide) ?_
  refine g_acopy dX9_copyFrom_75 ml_X9_65 sh_19 sh_39 (by decide) (by decide) (by decide) (by decide) (by decide) (by decide) (by decide) (fun h9 eh9 => ?_)
  have hFh9 := Fr.cp eh9
  have hMh9 := MBx.cp hMh8 eh9 (by decide) (p0 := (0, 0)) (p := (0, 1)) rfl rfl (by decide) (by decide)
  refine g_aload_n dX9_copyFrom_78 rfl ?_
  refine g_aload_n dX9_copyFrom_79 rfl ?_
  refine gI_X9_42 rfl dX9_copyFrom_80 sh_1 (m_1_6 hMh9) (fun v10 ev10 bv10 cv10 => ?_)
  refine pI_X9_42 rfl dX9_copyFrom_83 sh_21 (fun h11 eh11 => ?_)
  have hFh11 := Fr.st eh11
  have hMh11 := u_21_6 hMh9 eh11 (by omega) (by omega)
  refine g_aload_n dX9_copyFrom_86 rfl ?_
  refine g_aload_n dX9_copyFrom_87 rfl ?_
  refine gI_X9_46 rfl dX9_copyFrom_88 sh_1 (m_1_7 hMh11) (fun v12 ev12 bv12 cv12 => ?_)
  refine pI_X9_46 rfl dX9_copyFrom_91 sh_21 (fun h13 eh13 => ?_)
  have hFh13 := Fr.st eh13
  have hMh13 := u_21_7 hMh11 eh13 (by omega) (by omega)
  refine g_aload_n dX9_copyFrom_94 rfl ?_
  refine g_aload_n dX9_copyFrom_95 rfl ?_
  refine gI_X9_49 rfl dX9_copyFrom_96 sh_1 (m_1_8 hMh13) (fun v14 ev14 bv14 cv14 => ?_)
  refine pI_X9_49 rfl dX9_copyFrom_99 sh_21 (fun h15 eh15 => ?_)
  have hFh15 := Fr.st eh15
  have hMh15 := u_21_8 hMh13 eh15 (by omega) (by omega)
  exact g_return dX9_copyFrom_102 rfl (hPo _ ⟨hMh15, (Fr.tr (Fr.tr (Fr.tr (Fr.tr (Fr.tr (Fr.tr (Fr.tr (Fr.tr (Fr.sub hFh1 rfl) hFh3 rfl) hFh5 rfl) hFh7 rfl) hFh8 rfl) hFh9 rfl) hFh11 rfl) hFh13 rfl) hFh15 rfl)⟩)
set_option maxRecDepth 100000 in
set_option maxHeartbeats 4000000 in
theorem c_X9_nextWind_21 (h : MEM) (hM : MBx h) : CI yX9_nextWind cX9_nextWind 1 (some .int) 1 [pR 21] h (fun x h' => MBx h' ∧ Fr [(21, 8)] h h' ∧ 0 ≤ x ∧ x ≤ 9) := by
  refine CI.of (L0 := [some (pR 21)]) rfl (Nat.le_of_ble_eq_true rfl) rfl (fun Po hPo hav => ?_)
  refine g_aload_n dX9_nextWind_0 rfl ?_
  refine g_sipush dX9_nextWind_1 (inR_c rfl) (by decide) ?_
  refine g_aload_n dX9_nextWind_4 rfl ?_
  refine gI_X9_46 rfl dX9_nextWind_5 sh_21 (m_21_7 hM) (fun v1 ev1 bv1 cv1 => ?_)
  refine g_imulB dX9_nextWind_8 (by omega) (by omega) ?_
  refine g_sipush dX9_nextWind_9 (inR_c rfl) (by decide) ?_
  refine g_iaddB dX9_nextWind_12 (by omega) (by omega) ?_
  refine g_ldc (v := 65535) dX9_nextWind_13 kc_X9_86 (inR_c rfl) ?_
  refine g_iandX (lo := 0) (hi := 65535) dX9_nextWind_15 (iand_r (by omega) (by omega)) (fun v2 ev2 bv2 cv2 => ?_)
  refine pI_X9_46 rfl dX9_nextWind_16 sh_21 (fun h3 eh3 => ?_)
  have hFh3 := Fr.st eh3
  have hMh3 := u_21_7 hM eh3 (by omega) (by omega)
  refine g_aload_n dX9_nextWind_19 rfl ?_
  refine gE_X9_46 rfl dX9_nextWind_20 sh_21 (st_at eh3) ?_
  refine g_bipush dX9_nextWind_23 (inR_c rfl) (by decide) ?_
  refine g_iremX (lo := 0) (hi := 9) dX9_nextWind_25 (by omega) (irem_b (by omega) (by omega) (by omega)) (fun v4 ev4 bv4 cv4 => ?_)
  exact g_ireturn dX9_nextWind_26 retI (hPo _ _ ⟨hMh3, (Fr.sub hFh3 rfl), (by omega), (by omega)⟩)
set_option maxRecDepth 100000 in
set_option maxHeartbeats 4000000 in
theorem c_X9_passHour_21_82 (x1 : Int) (h : MEM) (hM : MBx h) (bx1 : 0 ≤ x1) (dx1 : x1 ≤ 9) : CI yX9_passHour cX9_passHour 6 (some .int) 1 [pR 21, pR 82, pI x1] h (fun x h' => MBx h' ∧ Fr [(21, 7)] h h' ∧ 0 ≤ x ∧ x ≤ 0) := by
  refine CI.of (L0 := [some (pR 21), some (pR 82), some (pI x1), none, none, none]) rfl (Nat.le_of_ble_eq_true rfl) rfl (fun Po hPo hav => ?_)
  refine g_iconst dX9_passHour_0 (inR_c rfl) ?_
  refine g_istore_n dX9_passHour_1 (by decide) rfl ?_
  refine g_aload_n dX9_passHour_2 rfl ?_
  refine gI_X9_42 rfl dX9_passHour_3 sh_21 (m_21_6 hM) (fun v1 ev1 bv1 cv1 => ?_)
  refine g_if_lt 35 dX9_passHour_6 (by decide) (fun q2 => ?_) (fun q2 => ?_)
  · skip
    refine g_iconst dX9_passHour_35 (inR_c rfl) ?_
    refine g_istore dX9_passHour_36 (by decide) rfl ?_
    refine g_iload dX9_passHour_38 rfl (fun _ => ?_)
    refine g_if_ne 104 dX9_passHour_40 (by decide) (fun _ => by exfalso; omega) (fun q3 => ?_)
    refine g_iconst dX9_passHour_43 (inR_c rfl) ?_
    refine g_istore dX9_passHour_44 (by decide) rfl ?_
    refine g_iload dX9_passHour_46 rfl (fun _ => ?_)
    refine g_aload_n dX9_passHour_48 rfl ?_
    refine gR_X9_21 rfl dX9_passHour_49 sh_21 (b := 26) (m_21_1 hM) ?_
    refine gI_X9_85 rfl dX9_passHour_52 sh_26 (m_26_0 hM) (fun v4 ev4 bv4 cv4 => ?_)
    refine g_icmp_ge 72 dX9_passHour_55 (by decide) (fun q5 => ?_) (fun _ => by exfalso; omega)
    refine g_iconst dX9_passHour_72 (inR_c rfl) ?_
    refine g_istore dX9_passHour_73 (by decide) rfl ?_
    refine g_iload dX9_passHour_75 rfl (fun _ => ?_)
    refine g_aload_n dX9_passHour_77 rfl ?_
    refine gR_X9_21 rfl dX9_passHour_78 sh_21 (b := 26) (m_21_1 hM) ?_
    refine gE_X9_85 rfl dX9_passHour_81 sh_26 ev4.symm ?_
    refine g_icmp_ge 104 dX9_passHour_84 (by decide) (fun q6 => ?_) (fun _ => by exfalso; omega)
    refine g_aload_n dX9_passHour_104 rfl ?_
    refine g_dup dX9_passHour_105 rfl ?_
    refine gE_X9_42 rfl dX9_passHour_106 sh_21 ev1.symm ?_
    refine g_iconst dX9_passHour_109 (inR_c rfl) ?_
    refine g_iaddB dX9_passHour_110 (by omega) (by omega) ?_
    refine pI_X9_42 rfl dX9_passHour_111 sh_21 (fun h7 eh7 => ?_)
    have hFh7 := Fr.st eh7
    have hMh7 := u_21_6 hM eh7 (by omega) (by omega)
    refine g_iload_n dX9_passHour_114 rfl (fun _ => ?_)
    exact g_ireturn dX9_passHour_115 retI (hPo _ _ ⟨hMh7, (Fr.sub hFh7 rfl), (by omega), (by omega)⟩)
  · skip
    refine g_aload_n dX9_passHour_9 rfl ?_
    refine gE_X9_42 rfl dX9_passHour_10 sh_21 ev1.symm ?_
    refine g_bipush dX9_passHour_13 (inR_c rfl) (by decide) ?_
    refine g_icmp_ge 35 dX9_passHour_15 (by decide) (fun q8 => ?_) (fun q8 => ?_)
    · skip
      refine g_iconst dX9_passHour_35 (inR_c rfl) ?_
      refine g_istore dX9_passHour_36 (by decide) rfl ?_
      refine g_iload dX9_passHour_38 rfl (fun _ => ?_)
      refine g_if_ne 104 dX9_passHour_40 (by decide) (fun _ => by exfalso; omega) (fun q9 => ?_)
      refine g_iconst dX9_passHour_43 (inR_c rfl) ?_
      refine g_istore dX9_passHour_44 (by decide) rfl ?_
      refine g_iload dX9_passHour_46 rfl (fun _ => ?_)
      refine g_aload_n dX9_passHour_48 rfl ?_
      refine gR_X9_21 rfl dX9_passHour_49 sh_21 (b := 26) (m_21_1 hM) ?_
      refine gI_X9_85 rfl dX9_passHour_52 sh_26 (m_26_0 hM) (fun v10 ev10 bv10 cv10 => ?_)
      refine g_icmp_ge 72 dX9_passHour_55 (by decide) (fun q11 => ?_) (fun _ => by exfalso; omega)
      refine g_iconst dX9_passHour_72 (inR_c rfl) ?_
      refine g_istore dX9_passHour_73 (by decide) rfl ?_
      refine g_iload dX9_passHour_75 rfl (fun _ => ?_)
      refine g_aload_n dX9_passHour_77 rfl ?_
      refine gR_X9_21 rfl dX9_passHour_78 sh_21 (b := 26) (m_21_1 hM) ?_
      refine gE_X9_85 rfl dX9_passHour_81 sh_26 ev10.symm ?_
      refine g_icmp_ge 104 dX9_passHour_84 (by decide) (fun q12 => ?_) (fun _ => by exfalso; omega)
      refine g_aload_n dX9_passHour_104 rfl ?_
      refine g_dup dX9_passHour_105 rfl ?_
      refine gE_X9_42 rfl dX9_passHour_106 sh_21 ev1.symm ?_
      refine g_iconst dX9_passHour_109 (inR_c rfl) ?_
      refine g_iaddF dX9_passHour_110 (fun v13 bv13 cv13 => ?_)
      refine pI_X9_42 rfl dX9_passHour_111 sh_21 (fun h14 eh14 => ?_)
      have hFh14 := Fr.st eh14
      have hMh14 := u_21_6 hM eh14 (by omega) (by omega)
      refine g_iload_n dX9_passHour_114 rfl (fun _ => ?_)
      exact g_ireturn dX9_passHour_115 retI (hPo _ _ ⟨hMh14, (Fr.sub hFh14 rfl), (by omega), (by omega)⟩)
    · skip
      refine g_aload_n dX9_passHour_18 rfl ?_
      refine gR_X9_39 rfl dX9_passHour_19 sh_21 (b := 39) (m_21_5 hM) ?_
      refine g_aload_n dX9_passHour_22 rfl ?_
      refine gE_X9_42 rfl dX9_passHour_23 sh_21 ev1.symm ?_
      refine g_ialdB dX9_passHour_26 sh_39 (by omega) (by omega) (m_39 hM _) (fun v15 ev15 bv15 cv15 => ?_)
      refine g_iconst dX9_passHour_27 (inR_c rfl) ?_
      refine g_icmp_ne 35 dX9_passHour_28 (by decide) (fun q16 => ?_) (fun q16 => ?_)
      · skip
        refine g_iconst dX9_passHour_35 (inR_c rfl) ?_
        refine g_istore dX9_passHour_36 (by decide) rfl ?_
        refine g_iload dX9_passHour_38 rfl (fun _ => ?_)
        refine g_if_ne 104 dX9_passHour_40 (by decide) (fun _ => by exfalso; omega) (fun q17 => ?_)
        refine g_iconst dX9_passHour_43 (inR_c rfl) ?_
        refine g_istore dX9_passHour_44 (by decide) rfl ?_
        refine g_iload dX9_passHour_46 rfl (fun _ => ?_)
        refine g_aload_n dX9_passHour_48 rfl ?_
        refine gR_X9_21 rfl dX9_passHour_49 sh_21 (b := 26) (m_21_1 hM) ?_
        refine gI_X9_85 rfl dX9_passHour_52 sh_26 (m_26_0 hM) (fun v18 ev18 bv18 cv18 => ?_)
        refine g_icmp_ge 72 dX9_passHour_55 (by decide) (fun q19 => ?_) (fun _ => by exfalso; omega)
        refine g_iconst dX9_passHour_72 (inR_c rfl) ?_
        refine g_istore dX9_passHour_73 (by decide) rfl ?_
        refine g_iload dX9_passHour_75 rfl (fun _ => ?_)
        refine g_aload_n dX9_passHour_77 rfl ?_
        refine gR_X9_21 rfl dX9_passHour_78 sh_21 (b := 26) (m_21_1 hM) ?_
        refine gE_X9_85 rfl dX9_passHour_81 sh_26 ev18.symm ?_
        refine g_icmp_ge 104 dX9_passHour_84 (by decide) (fun q20 => ?_) (fun _ => by exfalso; omega)
        refine g_aload_n dX9_passHour_104 rfl ?_
        refine g_dup dX9_passHour_105 rfl ?_
        refine gE_X9_42 rfl dX9_passHour_106 sh_21 ev1.symm ?_
        refine g_iconst dX9_passHour_109 (inR_c rfl) ?_
        refine g_iaddB dX9_passHour_110 (by omega) (by omega) ?_
        refine pI_X9_42 rfl dX9_passHour_111 sh_21 (fun h21 eh21 => ?_)
        have hFh21 := Fr.st eh21
        have hMh21 := u_21_6 hM eh21 (by omega) (by omega)
        refine g_iload_n dX9_passHour_114 rfl (fun _ => ?_)
        exact g_ireturn dX9_passHour_115 retI (hPo _ _ ⟨hMh21, (Fr.sub hFh21 rfl), (by omega), (by omega)⟩)
      · skip
        refine g_iconst dX9_passHour_31 (inR_c rfl) ?_
        refine g_goto 36 dX9_passHour_32 (by decide) ?_
        refine g_istore dX9_passHour_36 (by decide) rfl ?_
        refine g_iload dX9_passHour_38 rfl (fun _ => ?_)
        refine g_if_ne 104 dX9_passHour_40 (by decide) (fun q22 => ?_) (fun _ => by exfalso; omega)
        refine g_aload_n dX9_passHour_104 rfl ?_
        refine g_dup dX9_passHour_105 rfl ?_
        refine gE_X9_42 rfl dX9_passHour_106 sh_21 ev1.symm ?_
        refine g_iconst dX9_passHour_109 (inR_c rfl) ?_
        refine g_iaddB dX9_passHour_110 (by omega) (by omega) ?_
        refine pI_X9_42 rfl dX9_passHour_111 sh_21 (fun h23 eh23 => ?_)
        have hFh23 := Fr.st eh23
        have hMh23 := u_21_6 hM eh23 (by omega) (by omega)
        refine g_iload_n dX9_passHour_114 rfl (fun _ => ?_)
        exact g_ireturn dX9_passHour_115 retI (hPo _ _ ⟨hMh23, (Fr.sub hFh23 rfl), (by omega), (by omega)⟩)
set_option maxRecDepth 100000 in
set_option maxHeartbeats 4000000 in
theorem c_X9_passHours_21_82 (x1 : Int) (h : MEM) (hM : MBx h) (bx1 : 1 ≤ x1) (dx1 : x1 ≤ 40) : CI yX9_passHours cX9_passHours 5 (some .int) 2 [pR 21, pR 82, pI x1] h (fun x h' => MBx h' ∧ Fr [(21, 7), (21, 8)] h h' ∧ 0 ≤ x ∧ x ≤ 0) := by
  refine CI.of (L0 := [some (pR 21), some (pR 82), some (pI x1), none, none]) rfl (Nat.le_of_ble_eq_true rfl) rfl (fun Po hPo hav => ?_)
  refine g_iconst dX9_passHours_0 (inR_c rfl) ?_
  refine g_istore_n dX9_passHours_1 (by decide) rfl ?_
  refine g_iconst dX9_passHours_2 (inR_c rfl) ?_
  have c5 : ∀ (n : Nat) (y1 y2 : Int) (h3 : MEM), MBx h3 → Fr [(21, 7), (21, 8)] h h3 → 0 ≤ y1 → y1 ≤ 0 → 0 ≤ y2 → y2 ≤ 40 → 40 - y2 < (n : Int) → G yX9_passHours cX9_passHours 5 (some .int) none Po (2, 120, 0, 0) 5 [some (pR 21), some (pR 82), some (pI x1), some (pI y1), some (pI y2)] [] SH h3 0 0 := by
    intro n
    induction n with
    | zero =>
      intro y1 y2 h3 hMh3 hFh3 by1 dy1 by2 dy2 hn
      exfalso; omega
    | succ n ih =>
      intro y1 y2 h3 hMh3 hFh3 by1 dy1 by2 dy2 hn
      refine g_iload dX9_passHours_5 rfl (fun _ => ?_)
      refine g_iload_n dX9_passHours_7 rfl (fun _ => ?_)
      refine g_icmp_ge 29 dX9_passHours_8 (by decide) (fun q4 => ?_) (fun q4 => ?_)
      · skip
        refine g_iload_n dX9_passHours_29 rfl (fun _ => ?_)
        exact g_ireturn dX9_passHours_30 retI (hPo _ _ ⟨hMh3, (Fr.sub hFh3 rfl), (by omega), (by omega)⟩)
      · skip
        refine g_iload_n dX9_passHours_11 rfl (fun _ => ?_)
        refine g_aload_n dX9_passHours_12 rfl ?_
        refine g_aload_n dX9_passHours_13 rfl ?_
        refine g_aload_n dX9_passHours_14 rfl ?_
        refine g_cV (as := []) (c_X9_nextWind_21  h3 hMh3) dX9_passHours_15 mi_X9_nextWind in_X9_nextWind se_X9_nextWind ml_X9_87 rfl rfl rfl sh_21 rfl rfl (Nat.le_of_ble_eq_true rfl) (fun v5 h6 q7 => ?_)
        obtain ⟨hMh6, hFh6, bv5, cv5⟩ := q7
        refine g_cV (as := [_, _]) (c_X9_passHour_21_82 _ h6 hMh6 (by omega) (by omega)) dX9_passHours_18 mi_X9_passHour in_X9_passHour se_X9_passHour ml_X9_91 rfl rfl rfl sh_21 rfl rfl (Nat.le_of_ble_eq_true rfl) (fun v8 h9 q10 => ?_)
        obtain ⟨hMh9, hFh9, bv8, cv8⟩ := q10
        refine g_iaddB dX9_passHours_21 (by omega) (by omega) ?_
        refine g_istore_n dX9_passHours_22 (by decide) rfl ?_
        refine g_iincB dX9_passHours_23 rfl rfl (by omega) (by omega) ?_
        refine g_goto 5 dX9_passHours_26 (by decide) ?_
        exact ih _ _ _ hMh9 (Fr.tr (Fr.tr (Fr.sub hFh3 rfl) hFh6 rfl) hFh9 rfl) (by omega) (by omega) (by omega) (by omega) (by omega)
  refine g_istore dX9_passHours_3 (by decide) rfl ?_
  exact c5 41 _ _ _ hM Fr.rf (by omega) (by omega) (by omega) (by omega) (by omega)
set_option maxRecDepth 100000 in
set_option maxHeartbeats 4000000 in
theorem c_X6_allSlates_22 (h : MEM) (hM : MBx h) : CP yX6_allSlates cX6_allSlates 3 (some .int) 1 [pR 22] h (fun x => 0 ≤ x ∧ x ≤ 0) := by
  refine CP.of (L0 := [some (pR 22), none, none]) rfl (Nat.le_of_ble_eq_true rfl) rfl (fun Po hPo hav => ?_)
  refine g_iconst dX6_allSlates_0 (inR_c rfl) ?_
  refine g_istore_n dX6_allSlates_1 (by decide) rfl ?_
  refine g_iconst dX6_allSlates_2 (inR_c rfl) ?_
  refine g_istore_n dX6_allSlates_3 (by decide) rfl ?_
  refine g_iload_n dX6_allSlates_4 rfl (fun _ => ?_)
  refine g_aload_n dX6_allSlates_5 rfl ?_
  refine gI_X6_9 rfl dX6_allSlates_6 sh_22 (m_22_0 hM) (fun v1 ev1 bv1 cv1 => ?_)
  refine g_icmp_ge 27 dX6_allSlates_9 (by decide) (fun q2 => ?_) (fun _ => by exfalso; omega)
  refine g_iload_n dX6_allSlates_27 rfl (fun _ => ?_)
  exact g_ireturn dX6_allSlates_28 retI (hPo _ ⟨(by omega), (by omega)⟩)
set_option maxRecDepth 100000 in
set_option maxHeartbeats 4000000 in
theorem c_X4_allBruises_32 (h : MEM) (hM : MBx h) : CP yX4_allBruises cX4_allBruises 3 (some .int) 1 [pR 32] h (fun x => 0 ≤ x ∧ x ≤ 0) := by
  refine CP.of (L0 := [some (pR 32), none, none]) rfl (Nat.le_of_ble_eq_true rfl) rfl (fun Po hPo hav => ?_)
  refine g_iconst dX4_allBruises_0 (inR_c rfl) ?_
  refine g_istore_n dX4_allBruises_1 (by decide) rfl ?_
  refine g_iconst dX4_allBruises_2 (inR_c rfl) ?_
  refine g_istore_n dX4_allBruises_3 (by decide) rfl ?_
  refine g_iload_n dX4_allBruises_4 rfl (fun _ => ?_)
  refine g_aload_n dX4_allBruises_5 rfl ?_
  refine gI_X4_9 rfl dX4_allBruises_6 sh_32 (m_32_0 hM) (fun v1 ev1 bv1 cv1 => ?_)
  refine g_icmp_ge 27 dX4_allBruises_9 (by decide) (fun q2 => ?_) (fun _ => by exfalso; omega)
  refine g_iload_n dX4_allBruises_27 rfl (fun _ => ?_)
  exact g_ireturn dX4_allBruises_28 retI (hPo _ ⟨(by omega), (by omega)⟩)
set_option maxRecDepth 100000 in
set_option maxHeartbeats 4000000 in
theorem c_X11_tried_0 (x1 x2 : Int) (h : MEM) (hM : MBx h) (bx1 : -2147483648 ≤ x1) (dx1 : x1 ≤ 2147483647) (bx2 : -2147483648 ≤ x2) (dx2 : x2 ≤ 2147483647) : CI yX11_tried cX11_tried 6 (some .int) 3 [pR 0, pI x1, pI x2] h (fun x h' => Fr [(21, 7), (21, 8), (21, 9), (22, 1), (23, 0), (24, 0), (25, 0), (26, 1), (27, 0), (28, 0), (29, 0), (30, 0), (31, 0), (32, 1), (33, 0), (34, 0), (35, 0), (36, 0), (37, 0), (38, 0), (39, 0)] h h' ∧ ((1 ≤ x1 ∧ x1 ≤ 40 ∧ 0 ≤ x2 ∧ x2 ≤ 3) ∧ x = 0 ∨ ¬ (1 ≤ x1 ∧ x1 ≤ 40 ∧ 0 ≤ x2 ∧ x2 ≤ 3) ∧ x = -1)) := by
  refine CI.of (L0 := [some (pR 0), some (pI x1), some (pI x2), none, none, none]) rfl (Nat.le_of_ble_eq_true rfl) rfl (fun Po hPo hav => ?_)
  refine g_iload_n dX11_tried_0 rfl (fun _ => ?_)
  refine g_bipush dX11_tried_1 (inR_c rfl) (by decide) ?_
  refine g_icmp_lt 27 dX11_tried_3 (by decide) (fun q1 => ?_) (fun q1 => ?_)
  · skip
    refine g_iconst dX11_tried_27 (inR_c rfl) ?_
    refine g_istore_n dX11_tried_28 (by decide) rfl ?_
    refine g_iload_n dX11_tried_29 rfl (fun _ => ?_)
    refine g_bipush dX11_tried_30 (inR_c rfl) (by decide) ?_
    refine g_icmp_lt 56 dX11_tried_32 (by decide) (fun q2 => ?_) (fun _ => by exfalso; omega)
    refine g_iconst dX11_tried_56 (inR_c rfl) ?_
    refine g_istore dX11_tried_57 (by decide) rfl ?_
    refine g_iload_n dX11_tried_59 rfl (fun _ => ?_)
    refine g_iconst dX11_tried_60 (inR_c rfl) ?_
    refine g_bipush dX11_tried_61 (inR_c rfl) (by decide) ?_
    refine g_cSP (av := [_, _, _]) (c_X11_isWithin _ _ _ h hM (by omega) (by omega) (by omega) (by omega) (by omega) (by omega)) dX11_tried_63 mi_X11_isWithin st_X11_isWithin ml_X11_81 rfl rfl rfl rfl (Nat.le_of_ble_eq_true rfl) (fun v3 q4 => ?_)
    rcases q4 with ⟨rfl, q4⟩ | ⟨rfl, q4⟩
    · skip
      refine g_if_eq 87 dX11_tried_66 (by decide) (fun _ => by exfalso; omega) (fun q5 => ?_)
      refine g_iload_n dX11_tried_69 rfl (fun _ => ?_)
      refine g_iconst dX11_tried_70 (inR_c rfl) ?_
      refine g_iconst dX11_tried_71 (inR_c rfl) ?_
      refine g_cSP (av := [_, _, _]) (c_X11_isWithin _ _ _ h hM (by omega) (by omega) (by omega) (by omega) (by omega) (by omega)) dX11_tried_72 mi_X11_isWithin st_X11_isWithin ml_X11_81 rfl rfl rfl rfl (Nat.le_of_ble_eq_true rfl) (fun v6 q7 => ?_)
      rcases q7 with ⟨rfl, q7⟩ | ⟨rfl, q7⟩
      · skip
        refine g_if_ne 89 dX11_tried_75 (by decide) (fun q8 => ?_) (fun _ => by exfalso; omega)
        refine g_aload_n dX11_tried_89 rfl ?_
        refine gR_X11_16 rfl dX11_tried_90 sh_0 (b := 21) (m_0_1 hM) ?_
        refine g_aload_n dX11_tried_93 rfl ?_
        refine gR_X11_10 rfl dX11_tried_94 sh_0 (b := 1) (m_0_0 hM) ?_
        refine g_cVV (as := [_]) (c_X9_copyFrom_21_1  h hM) dX11_tried_97 mi_X9_copyFrom in_X9_copyFrom se_X9_copyFrom ml_X11_202 rfl rfl rfl sh_21 rfl rfl (Nat.le_of_ble_eq_true rfl) (fun h9 q10 => ?_)
        obtain ⟨hMh9, hFh9⟩ := q10
        refine g_aload_n dX11_tried_100 rfl ?_
        refine gR_X11_16 rfl dX11_tried_101 sh_0 (b := 21) (m_0_1 hMh9) ?_
        refine g_aload_n dX11_tried_104 rfl ?_
        refine gR_X11_70 rfl dX11_tried_105 sh_0 (b := 82) (m_0_10 hMh9) ?_
        refine g_iload_n dX11_tried_108 rfl (fun _ => ?_)
        refine g_cV (as := [_, _]) (c_X9_passHours_21_82 _ h9 hMh9 (by omega) (by omega)) dX11_tried_109 mi_X9_passHours in_X9_passHours se_X9_passHours ml_X11_152 rfl rfl rfl sh_21 rfl rfl (Nat.le_of_ble_eq_true rfl) (fun v11 h12 q13 => ?_)
        obtain ⟨hMh12, hFh12, bv11, cv11⟩ := q13
        refine g_istore dX11_tried_112 (by decide) rfl ?_
        refine g_iload_n dX11_tried_114 rfl (fun _ => ?_)
        refine g_if_eq 134 dX11_tried_115 (by decide) (fun q14 => ?_) (fun _ => by exfalso; omega)
        refine g_iload dX11_tried_134 rfl (fun _ => ?_)
        refine g_if_eq 155 dX11_tried_136 (by decide) (fun q15 => ?_) (fun _ => by exfalso; omega)
        refine g_iload_n dX11_tried_155 rfl (fun _ => ?_)
        rcases (show x2 = 0 ∨ x2 = 1 ∨ x2 = 2 ∨ (x2 < 0 ∨ 2 < x2) by omega) with q16 | q16 | q16 | q16
        · skip
          refine g_tableIn 184 0 dX11_tried_156 (by omega) (by omega) rfl (by decide) ?_
          refine g_aload_n dX11_tried_184 rfl ?_
          refine gR_X11_16 rfl dX11_tried_185 sh_0 (b := 21) (m_0_1 hMh12) ?_
          refine gR_X11_85 rfl dX11_tried_188 sh_21 (b := 22) (m_21_0 hMh12) ?_
          refine g_cVP (as := []) (c_X6_allSlates_22  h12 hMh12) dX11_tried_191 mi_X6_allSlates in_X6_allSlates se_X6_allSlates ml_X11_206 rfl rfl rfl sh_22 rfl rfl (Nat.le_of_ble_eq_true rfl) (fun v17 q18 => ?_)
          obtain ⟨bv17, cv17⟩ := q18
          exact g_ireturn dX11_tried_194 retI (hPo _ _ ⟨(Fr.tr (Fr.sub hFh9 rfl) hFh12 rfl), (by omega)⟩)
        · skip
          refine g_tableIn 195 1 dX11_tried_156 (by omega) (by omega) rfl (by decide) ?_
          refine g_iload dX11_tried_195 rfl (fun _ => ?_)
          exact g_ireturn dX11_tried_197 retI (hPo _ _ ⟨(Fr.tr (Fr.sub hFh9 rfl) hFh12 rfl), (by omega)⟩)
        · skip
          refine g_tableIn 198 2 dX11_tried_156 (by omega) (by omega) rfl (by decide) ?_
          refine g_aload_n dX11_tried_198 rfl ?_
          refine gR_X11_16 rfl dX11_tried_199 sh_0 (b := 21) (m_0_1 hMh12) ?_
          refine gR_X11_104 rfl dX11_tried_202 sh_21 (b := 32) (m_21_2 hMh12) ?_
          refine g_cVP (as := []) (c_X4_allBruises_32  h12 hMh12) dX11_tried_205 mi_X4_allBruises in_X4_allBruises se_X4_allBruises ml_X11_210 rfl rfl rfl sh_32 rfl rfl (Nat.le_of_ble_eq_true rfl) (fun v19 q20 => ?_)
          obtain ⟨bv19, cv19⟩ := q20
          exact g_ireturn dX11_tried_208 retI (hPo _ _ ⟨(Fr.tr (Fr.sub hFh9 rfl) hFh12 rfl), (by omega)⟩)
        · skip
          refine g_tableOut 209 dX11_tried_156 (by omega) (by decide) ?_
          refine g_aload_n dX11_tried_209 rfl ?_
          refine gR_X11_16 rfl dX11_tried_210 sh_0 (b := 21) (m_0_1 hMh12) ?_
          refine gI_X11_213 rfl dX11_tried_213 sh_21 (m_21_8 hMh12) (fun v21 ev21 bv21 cv21 => ?_)
          exact g_ireturn dX11_tried_216 retI (hPo _ _ ⟨(Fr.tr (Fr.sub hFh9 rfl) hFh12 rfl), (by omega)⟩)
      · skip
        refine g_if_ne 89 dX11_tried_75 (by decide) (fun _ => by exfalso; omega) (fun q22 => ?_)
        refine g_iload_n dX11_tried_78 rfl (fun _ => ?_)
        refine g_if_ne 89 dX11_tried_79 (by decide) (fun _ => by exfalso; omega) (fun q23 => ?_)
        refine g_iload dX11_tried_82 rfl (fun _ => ?_)
        refine g_if_ne 89 dX11_tried_84 (by decide) (fun _ => by exfalso; omega) (fun q24 => ?_)
        refine g_iconst dX11_tried_87 (inR_c rfl) ?_
        exact g_ireturn dX11_tried_88 retI (hPo _ _ ⟨Fr.rf, (by omega)⟩)
    · skip
      refine g_if_eq 87 dX11_tried_66 (by decide) (fun q25 => ?_) (fun _ => by exfalso; omega)
      refine g_iconst dX11_tried_87 (inR_c rfl) ?_
      exact g_ireturn dX11_tried_88 retI (hPo _ _ ⟨Fr.rf, (by omega)⟩)
  · skip
    refine g_aload_n dX11_tried_6 rfl ?_
    refine gR_X11_10 rfl dX11_tried_7 sh_0 (b := 1) (m_0_0 hM) ?_
    refine gR_X11_85 rfl dX11_tried_10 sh_1 (b := 2) (m_1_0 hM) ?_
    refine g_iload_n dX11_tried_13 rfl (fun _ => ?_)
    refine g_bipush dX11_tried_14 (inR_c rfl) (by decide) ?_
    refine g_isubB dX11_tried_16 (by omega) (by omega) ?_
    refine g_cVP (as := [_]) (c_X6_has_2 _ h hM (by omega) (by omega)) dX11_tried_17 mi_X6_has in_X6_has se_X6_has ml_X11_159 rfl rfl rfl sh_2 rfl rfl (Nat.le_of_ble_eq_true rfl) (fun v26 q27 => ?_)
    obtain ⟨v28, ev28⟩ : ∃ z, z = h 2 0 := ⟨_, rfl⟩
    have bv28 : 0 ≤ v28 ∧ v28 ≤ 0 := by rw [ev28]; exact (m_2_0 hM)
    rcases q27 with ⟨rfl, q27⟩ | ⟨rfl, q27⟩
    · skip
      exfalso; omega
    · skip
      refine g_if_eq 27 dX11_tried_20 (by decide) (fun q29 => ?_) (fun _ => by exfalso; omega)
      refine g_iconst dX11_tried_27 (inR_c rfl) ?_
      refine g_istore_n dX11_tried_28 (by decide) rfl ?_
      refine g_iload_n dX11_tried_29 rfl (fun _ => ?_)
      refine g_bipush dX11_tried_30 (inR_c rfl) (by decide) ?_
      refine g_icmp_lt 56 dX11_tried_32 (by decide) (fun q30 => ?_) (fun q30 => ?_)
      · skip
        refine g_iconst dX11_tried_56 (inR_c rfl) ?_
        refine g_istore dX11_tried_57 (by decide) rfl ?_
        refine g_iload_n dX11_tried_59 rfl (fun _ => ?_)
        refine g_iconst dX11_tried_60 (inR_c rfl) ?_
        refine g_bipush dX11_tried_61 (inR_c rfl) (by decide) ?_
        refine g_cSP (av := [_, _, _]) (c_X11_isWithin _ _ _ h hM (by omega) (by omega) (by omega) (by omega) (by omega) (by omega)) dX11_tried_63 mi_X11_isWithin st_X11_isWithin ml_X11_81 rfl rfl rfl rfl (Nat.le_of_ble_eq_true rfl) (fun v31 q32 => ?_)
        rcases q32 with ⟨rfl, q32⟩ | ⟨rfl, q32⟩
        · skip
          refine g_if_eq 87 dX11_tried_66 (by decide) (fun _ => by exfalso; omega) (fun q33 => ?_)
          refine g_iload_n dX11_tried_69 rfl (fun _ => ?_)
          refine g_iconst dX11_tried_70 (inR_c rfl) ?_
          refine g_iconst dX11_tried_71 (inR_c rfl) ?_
          refine g_cSP (av := [_, _, _]) (c_X11_isWithin _ _ _ h hM (by omega) (by omega) (by omega) (by omega) (by omega) (by omega)) dX11_tried_72 mi_X11_isWithin st_X11_isWithin ml_X11_81 rfl rfl rfl rfl (Nat.le_of_ble_eq_true rfl) (fun v34 q35 => ?_)
          rcases q35 with ⟨rfl, q35⟩ | ⟨rfl, q35⟩
          · skip
            exfalso; omega
          · skip
            refine g_if_ne 89 dX11_tried_75 (by decide) (fun _ => by exfalso; omega) (fun q36 => ?_)
            refine g_iload_n dX11_tried_78 rfl (fun _ => ?_)
            refine g_if_ne 89 dX11_tried_79 (by decide) (fun _ => by exfalso; omega) (fun q37 => ?_)
            refine g_iload dX11_tried_82 rfl (fun _ => ?_)
            refine g_if_ne 89 dX11_tried_84 (by decide) (fun _ => by exfalso; omega) (fun q38 => ?_)
            refine g_iconst dX11_tried_87 (inR_c rfl) ?_
            exact g_ireturn dX11_tried_88 retI (hPo _ _ ⟨Fr.rf, (by omega)⟩)
        · skip
          refine g_if_eq 87 dX11_tried_66 (by decide) (fun q39 => ?_) (fun _ => by exfalso; omega)
          refine g_iconst dX11_tried_87 (inR_c rfl) ?_
          exact g_ireturn dX11_tried_88 retI (hPo _ _ ⟨Fr.rf, (by omega)⟩)
      · skip
        refine g_aload_n dX11_tried_35 rfl ?_
        refine gR_X11_10 rfl dX11_tried_36 sh_0 (b := 1) (m_0_0 hM) ?_
        refine gR_X11_104 rfl dX11_tried_39 sh_1 (b := 12) (m_1_2 hM) ?_
        refine g_iload_n dX11_tried_42 rfl (fun _ => ?_)
        refine g_bipush dX11_tried_43 (inR_c rfl) (by decide) ?_
        refine g_isubB dX11_tried_45 (by omega) (by omega) ?_
        refine g_cVP (as := [_]) (c_X4_has_12 _ h hM (by omega) (by omega)) dX11_tried_46 mi_X4_has in_X4_has se_X4_has ml_X11_124 rfl rfl rfl sh_12 rfl rfl (Nat.le_of_ble_eq_true rfl) (fun v40 q41 => ?_)
        obtain ⟨v42, ev42⟩ : ∃ z, z = h 12 0 := ⟨_, rfl⟩
        have bv42 : 0 ≤ v42 ∧ v42 ≤ 0 := by rw [ev42]; exact (m_12_0 hM)
        rcases q41 with ⟨rfl, q41⟩ | ⟨rfl, q41⟩
        · skip
          exfalso; omega
        · skip
          refine g_if_eq 56 dX11_tried_49 (by decide) (fun q43 => ?_) (fun _ => by exfalso; omega)
          refine g_iconst dX11_tried_56 (inR_c rfl) ?_
          refine g_istore dX11_tried_57 (by decide) rfl ?_
          refine g_iload_n dX11_tried_59 rfl (fun _ => ?_)
          refine g_iconst dX11_tried_60 (inR_c rfl) ?_
          refine g_bipush dX11_tried_61 (inR_c rfl) (by decide) ?_
          refine g_cSP (av := [_, _, _]) (c_X11_isWithin _ _ _ h hM (by omega) (by omega) (by omega) (by omega) (by omega) (by omega)) dX11_tried_63 mi_X11_isWithin st_X11_isWithin ml_X11_81 rfl rfl rfl rfl (Nat.le_of_ble_eq_true rfl) (fun v44 q45 => ?_)
          rcases q45 with ⟨rfl, q45⟩ | ⟨rfl, q45⟩
          · skip
            refine g_if_eq 87 dX11_tried_66 (by decide) (fun _ => by exfalso; omega) (fun q46 => ?_)
            refine g_iload_n dX11_tried_69 rfl (fun _ => ?_)
            refine g_iconst dX11_tried_70 (inR_c rfl) ?_
            refine g_iconst dX11_tried_71 (inR_c rfl) ?_
            refine g_cSP (av := [_, _, _]) (c_X11_isWithin _ _ _ h hM (by omega) (by omega) (by omega) (by omega) (by omega) (by omega)) dX11_tried_72 mi_X11_isWithin st_X11_isWithin ml_X11_81 rfl rfl rfl rfl (Nat.le_of_ble_eq_true rfl) (fun v47 q48 => ?_)
            rcases q48 with ⟨rfl, q48⟩ | ⟨rfl, q48⟩
            · skip
              exfalso; omega
            · skip
              refine g_if_ne 89 dX11_tried_75 (by decide) (fun _ => by exfalso; omega) (fun q49 => ?_)
              refine g_iload_n dX11_tried_78 rfl (fun _ => ?_)
              refine g_if_ne 89 dX11_tried_79 (by decide) (fun _ => by exfalso; omega) (fun q50 => ?_)
              refine g_iload dX11_tried_82 rfl (fun _ => ?_)
              refine g_if_ne 89 dX11_tried_84 (by decide) (fun _ => by exfalso; omega) (fun q51 => ?_)
              refine g_iconst dX11_tried_87 (inR_c rfl) ?_
              exact g_ireturn dX11_tried_88 retI (hPo _ _ ⟨Fr.rf, (by omega)⟩)
          · skip
            refine g_if_eq 87 dX11_tried_66 (by decide) (fun q52 => ?_) (fun _ => by exfalso; omega)
            refine g_iconst dX11_tried_87 (inR_c rfl) ?_
            exact g_ireturn dX11_tried_88 retI (hPo _ _ ⟨Fr.rf, (by omega)⟩)
set_option maxRecDepth 100000 in
set_option maxHeartbeats 4000000 in
theorem c_X12_setsAside_98_k0 (h : MEM) (hM : MBm h) : CV yX12_setsAside cX12_setsAside 3 (none) 1 [pR 98, pI 0] h (fun h' => MBm h' ∧ Fr [(130, 0), (131, 0), (132, 0), (133, 0), (134, 0), (135, 0), (136, 0), (137, 0), (138, 0), (139, 0), (140, 0), (141, 0), (142, 0), (143, 0), (144, 0), (145, 1), (145, 2), (145, 3), (145, 4), (145, 5), (145, 6)] h h' ∧ h' 145 3 = h 98 5) := by
  refine CV.of (L0 := [some (pR 98), some (pI 0), none]) rfl (Nat.le_of_ble_eq_true rfl) rfl (fun Po hPo hav => ?_)
  obtain ⟨v1, ev1⟩ : ∃ z, z = h 98 5 := ⟨_, rfl⟩
  have bv1 : 0 ≤ v1 ∧ v1 ≤ 2000000000 := by rw [ev1]; exact (m_98_5 hM)
  refine g_iconst dX12_setsAside_0 (inR_c rfl) ?_
  have c2 : ∀ (n : Nat) (y2 : Int) (h3 : MEM), MBm h3 → Fr [(130, 0), (131, 0), (132, 0)] h h3 → 0 ≤ y2 → y2 ≤ 10 → 10 - y2 < (n : Int) → G yX12_setsAside cX12_setsAside 3 (none) none Po (1, 60, 0, 0) 2 [some (pR 98), some (pI 0), some (pI y2)] [] SH h3 0 0 := by
    intro n
    induction n with
    | zero =>
      intro y2 h3 hMh3 hFh3 by2 dy2 hn
      exfalso; omega
    | succ n ih =>
      intro y2 h3 hMh3 hFh3 by2 dy2 hn
      refine g_iload_n dX12_setsAside_2 rfl (fun _ => ?_)
      refine g_bipush dX12_setsAside_3 (inR_c rfl) (by decide) ?_
      refine g_icmp_ge 65 dX12_setsAside_5 (by decide) (fun q4 => ?_) (fun q4 => ?_)
      · skip
        refine g_iconst dX12_setsAside_65 (inR_c rfl) ?_
        have c67 : ∀ (n : Nat) (y5 : Int) (h6 : MEM), MBm h6 → Fr [(133, 0), (134, 0), (136, 0), (137, 0), (138, 0), (139, 0), (140, 0), (141, 0)] h3 h6 → 0 ≤ y5 → y5 ≤ 8 → 8 - y5 < (n : Int) → G yX12_setsAside cX12_setsAside 3 (none) none Po (1, 60, 0, 0) 67 [some (pR 98), some (pI 0), some (pI y5)] [] SH h6 0 0 := by
          intro n
          induction n with
          | zero =>
            intro y5 h6 hMh6 hFh6 by5 dy5 hn
            exfalso; omega
          | succ n ih =>
            intro y5 h6 hMh6 hFh6 by5 dy5 hn
            refine g_iload_n dX12_setsAside_67 rfl (fun _ => ?_)
            refine g_bipush dX12_setsAside_68 (inR_c rfl) (by decide) ?_
            refine g_icmp_ge 215 dX12_setsAside_70 (by decide) (fun q7 => ?_) (fun q7 => ?_)
            · skip
              refine g_iconst dX12_setsAside_215 (inR_c rfl) ?_
              have c217 : ∀ (n : Nat) (y8 : Int) (h9 : MEM), MBm h9 → Fr [(135, 0)] h6 h9 → 0 ≤ y8 → y8 ≤ 40 → 40 - y8 < (n : Int) → G yX12_setsAside cX12_setsAside 3 (none) none Po (1, 60, 0, 0) 217 [some (pR 98), some (pI 0), some (pI y8)] [] SH h9 0 0 := by
                intro n
                induction n with
                | zero =>
                  intro y8 h9 hMh9 hFh9 by8 dy8 hn
                  exfalso; omega
                | succ n ih =>
                  intro y8 h9 hMh9 hFh9 by8 dy8 hn
                  refine g_iload_n dX12_setsAside_217 rfl (fun _ => ?_)
                  refine g_bipush dX12_setsAside_218 (inR_c rfl) (by decide) ?_
                  refine g_icmp_ge 246 dX12_setsAside_220 (by decide) (fun q10 => ?_) (fun q10 => ?_)
                  · skip
                    refine g_iconst dX12_setsAside_246 (inR_c rfl) ?_
                    have c248 : ∀ (n : Nat) (y11 : Int) (h12 : MEM), MBm h12 → Fr [(142, 0), (143, 0)] h9 h12 → 0 ≤ y11 → y11 ≤ 64 → 64 - y11 < (n : Int) → G yX12_setsAside cX12_setsAside 3 (none) none Po (1, 60, 0, 0) 248 [some (pR 98), some (pI 0), some (pI y11)] [] SH h12 0 0 := by
                      intro n
                      induction n with
                      | zero =>
                        intro y11 h12 hMh12 hFh12 by11 dy11 hn
                        exfalso; omega
                      | succ n ih =>
                        intro y11 h12 hMh12 hFh12 by11 dy11 hn
                        refine g_iload_n dX12_setsAside_248 rfl (fun _ => ?_)
                        refine g_bipush dX12_setsAside_249 (inR_c rfl) (by decide) ?_
                        refine g_icmp_ge 294 dX12_setsAside_251 (by decide) (fun q13 => ?_) (fun q13 => ?_)
                        · skip
                          refine g_iconst dX12_setsAside_294 (inR_c rfl) ?_
                          have c296 : ∀ (n : Nat) (y14 : Int) (h15 : MEM), MBm h15 → Fr [(144, 0)] h12 h15 → 0 ≤ y14 → y14 ≤ 100 → 100 - y14 < (n : Int) → G yX12_setsAside cX12_setsAside 3 (none) none Po (1, 60, 0, 0) 296 [some (pR 98), some (pI 0), some (pI y14)] [] SH h15 0 0 := by
                            intro n
                            induction n with
                            | zero =>
                              intro y14 h15 hMh15 hFh15 by14 dy14 hn
                              exfalso; omega
                            | succ n ih =>
                              intro y14 h15 hMh15 hFh15 by14 dy14 hn
                              refine g_iload_n dX12_setsAside_296 rfl (fun _ => ?_)
                              refine g_bipush dX12_setsAside_297 (inR_c rfl) (by decide) ?_
                              refine g_icmp_ge 325 dX12_setsAside_299 (by decide) (fun q16 => ?_) (fun q16 => ?_)
                              · skip
                                refine g_aload_n dX12_setsAside_325 rfl ?_
                                refine gR_X12_154 rfl dX12_setsAside_326 sh_98 (b := 145) (m_98_70 hMh15) ?_
                                refine g_bipush dX12_setsAside_329 (inR_c rfl) (by decide) ?_
                                refine g_iload_n dX12_setsAside_331 rfl (fun _ => ?_)
                                refine g_imulB dX12_setsAside_332 (by omega) (by omega) ?_
                                refine g_aload_n dX12_setsAside_333 rfl ?_
                                refine gI_X12_172 rfl dX12_setsAside_334 sh_98 (m_98_2 hMh15) (fun v17 ev17 bv17 cv17 => ?_)
                                refine g_iastB dX12_setsAside_337 sh_145 (by omega) (by omega) (fun h18 eh18 => ?_)
                                have hFh18 := Fr.st eh18
                                have hMh18 := u_145_0 hMh15 eh18 (by omega) (by omega)
                                refine g_aload_n dX12_setsAside_338 rfl ?_
                                refine gR_X12_154 rfl dX12_setsAside_339 sh_98 (b := 145) (m_98_70 hMh18) ?_
                                refine g_bipush dX12_setsAside_342 (inR_c rfl) (by decide) ?_
                                refine g_iload_n dX12_setsAside_344 rfl (fun _ => ?_)
                                refine g_imulB dX12_setsAside_345 (by omega) (by omega) ?_
                                refine g_iconst dX12_setsAside_346 (inR_c rfl) ?_
                                refine g_iaddB dX12_setsAside_347 (by omega) (by omega) ?_
                                refine g_aload_n dX12_setsAside_348 rfl ?_
                                refine gI_X12_179 rfl dX12_setsAside_349 sh_98 (m_98_3 hMh18) (fun v19 ev19 bv19 cv19 => ?_)
                                refine g_iastB dX12_setsAside_352 sh_145 (by omega) (by omega) (fun h20 eh20 => ?_)
                                have hFh20 := Fr.st eh20
                                have hMh20 := u_145_1 hMh18 eh20 (by omega) (by omega)
                                refine g_aload_n dX12_setsAside_353 rfl ?_
                                refine gR_X12_154 rfl dX12_setsAside_354 sh_98 (b := 145) (m_98_70 hMh20) ?_
                                refine g_bipush dX12_setsAside_357 (inR_c rfl) (by decide) ?_
                                refine g_iload_n dX12_setsAside_359 rfl (fun _ => ?_)
                                refine g_imulB dX12_setsAside_360 (by omega) (by omega) ?_
                                refine g_iconst dX12_setsAside_361 (inR_c rfl) ?_
                                refine g_iaddB dX12_setsAside_362 (by omega) (by omega) ?_
                                refine g_aload_n dX12_setsAside_363 rfl ?_
                                refine gI_X12_182 rfl dX12_setsAside_364 sh_98 (m_98_4 hMh20) (fun v21 ev21 bv21 cv21 => ?_)
                                refine g_iastB dX12_setsAside_367 sh_145 (by omega) (by omega) (fun h22 eh22 => ?_)
                                have hFh22 := Fr.st eh22
                                have hMh22 := u_145_2 hMh20 eh22 (by omega) (by omega)
                                refine g_aload_n dX12_setsAside_368 rfl ?_
                                refine gR_X12_154 rfl dX12_setsAside_369 sh_98 (b := 145) (m_98_70 hMh22) ?_
                                refine g_bipush dX12_setsAside_372 (inR_c rfl) (by decide) ?_
                                refine g_iload_n dX12_setsAside_374 rfl (fun _ => ?_)
                                refine g_imulB dX12_setsAside_375 (by omega) (by omega) ?_
                                refine g_iconst dX12_setsAside_376 (inR_c rfl) ?_
                                refine g_iaddB dX12_setsAside_377 (by omega) (by omega) ?_
                                refine g_aload_n dX12_setsAside_378 rfl ?_
                                refine gE_X12_334 rfl dX12_setsAside_379 sh_98 ((hFh22 98 5 rfl).trans ((hFh20 98 5 rfl).trans ((hFh18 98 5 rfl).trans ((hFh15 98 5 rfl).trans ((hFh12 98 5 rfl).trans ((hFh9 98 5 rfl).trans ((hFh6 98 5 rfl).trans ((hFh3 98 5 rfl).trans ev1.symm)))))))) ?_
                                refine g_iastB dX12_setsAside_382 sh_145 (by omega) (by omega) (fun h23 eh23 => ?_)
                                have hFh23 := Fr.st eh23
                                have hMh23 := u_145_3 hMh22 eh23 (by omega) (by omega)
                                refine g_aload_n dX12_setsAside_383 rfl ?_
                                refine gR_X12_154 rfl dX12_setsAside_384 sh_98 (b := 145) (m_98_70 hMh23) ?_
                                refine g_bipush dX12_setsAside_387 (inR_c rfl) (by decide) ?_
                                refine g_iload_n dX12_setsAside_389 rfl (fun _ => ?_)
                                refine g_imulB dX12_setsAside_390 (by omega) (by omega) ?_
                                refine g_iconst dX12_setsAside_391 (inR_c rfl) ?_
                                refine g_iaddB dX12_setsAside_392 (by omega) (by omega) ?_
                                refine g_aload_n dX12_setsAside_393 rfl ?_
                                refine gI_X12_13 rfl dX12_setsAside_394 sh_98 (m_98_6 hMh23) (fun v24 ev24 bv24 cv24 => ?_)
                                refine g_iastB dX12_setsAside_397 sh_145 (by omega) (by omega) (fun h25 eh25 => ?_)
                                have hFh25 := Fr.st eh25
                                have hMh25 := u_145_4 hMh23 eh25 (by omega) (by omega)
                                refine g_aload_n dX12_setsAside_398 rfl ?_
                                refine gR_X12_154 rfl dX12_setsAside_399 sh_98 (b := 145) (m_98_70 hMh25) ?_
                                refine g_bipush dX12_setsAside_402 (inR_c rfl) (by decide) ?_
                                refine g_iload_n dX12_setsAside_404 rfl (fun _ => ?_)
                                refine g_imulB dX12_setsAside_405 (by omega) (by omega) ?_
                                refine g_iconst dX12_setsAside_406 (inR_c rfl) ?_
                                refine g_iaddB dX12_setsAside_407 (by omega) (by omega) ?_
                                refine g_aload_n dX12_setsAside_408 rfl ?_
                                refine gI_X12_372 rfl dX12_setsAside_409 sh_98 (m_98_7 hMh25) (fun v26 ev26 bv26 cv26 => ?_)
                                refine g_iastB dX12_setsAside_412 sh_145 (by omega) (by omega) (fun h27 eh27 => ?_)
                                have hFh27 := Fr.st eh27
                                have hMh27 := u_145_5 hMh25 eh27 (by omega) (by omega)
                                have q28 : h27 145 3 = v1 := ((hFh27 145 _ rfl).trans ((hFh25 145 _ rfl).trans (st_at eh23)))
                                exact g_return dX12_setsAside_413 rfl (hPo _ ⟨hMh27, (Fr.tr (Fr.tr (Fr.tr (Fr.tr (Fr.tr (Fr.tr (Fr.tr (Fr.tr (Fr.tr (Fr.tr (Fr.sub hFh3 rfl) hFh6 rfl) hFh9 rfl) hFh12 rfl) hFh15 rfl) hFh18 rfl) hFh20 rfl) hFh22 rfl) hFh23 rfl) hFh25 rfl) hFh27 rfl), (by omega)⟩)
                              · skip
                                refine g_aload_n dX12_setsAside_302 rfl ?_
                                refine gR_X12_151 rfl dX12_setsAside_303 sh_98 (b := 144) (m_98_69 hMh15) ?_
                                refine g_bipush dX12_setsAside_306 (inR_c rfl) (by decide) ?_
                                refine g_iload_n dX12_setsAside_308 rfl (fun _ => ?_)
                                refine g_imulB dX12_setsAside_309 (by omega) (by omega) ?_
                                refine g_iload_n dX12_setsAside_310 rfl (fun _ => ?_)
                                refine g_iaddB dX12_setsAside_311 (by omega) (by omega) ?_
                                refine g_aload_n dX12_setsAside_312 rfl ?_
                                refine gR_X12_61 rfl dX12_setsAside_313 sh_98 (b := 114) (m_98_22 hMh15) ?_
                                refine g_iload_n dX12_setsAside_316 rfl (fun _ => ?_)
                                refine g_zaldB dX12_setsAside_317 sh_114 (by omega) (by omega) (m_114 hMh15 _) (fun v29 ev29 bv29 cv29 => ?_)
                                refine g_zastB dX12_setsAside_318 sh_144 (by omega) (by omega) (by omega) (fun h30 eh30 => ?_)
                                have hFh30 := Fr.ar eh30
                                have hMh30 := u_144 hMh15 eh30 (by omega) (by omega)
                                refine g_iincB dX12_setsAside_319 rfl rfl (by omega) (by omega) ?_
                                refine g_goto 296 dX12_setsAside_322 (by decide) ?_
                                exact ih _ _ hMh30 (Fr.tr (Fr.sub hFh15 rfl) hFh30 rfl) (by omega) (by omega) (by omega)
                          refine g_istore_n dX12_setsAside_295 (by decide) rfl ?_
                          exact c296 101 _ _ hMh12 Fr.rf (by omega) (by omega) (by omega)
                        · skip
                          refine g_aload_n dX12_setsAside_254 rfl ?_
                          refine gR_X12_145 rfl dX12_setsAside_255 sh_98 (b := 142) (m_98_67 hMh12) ?_
                          refine g_bipush dX12_setsAside_258 (inR_c rfl) (by decide) ?_
                          refine g_iload_n dX12_setsAside_260 rfl (fun _ => ?_)
                          refine g_imulB dX12_setsAside_261 (by omega) (by omega) ?_
                          refine g_iload_n dX12_setsAside_262 rfl (fun _ => ?_)
                          refine g_iaddB dX12_setsAside_263 (by omega) (by omega) ?_
                          refine g_aload_n dX12_setsAside_264 rfl ?_
                          refine gR_X12_55 rfl dX12_setsAside_265 sh_98 (b := 112) (m_98_20 hMh12) ?_
                          refine g_iload_n dX12_setsAside_268 rfl (fun _ => ?_)
                          refine g_ialdB dX12_setsAside_269 sh_112 (by omega) (by omega) (m_112 hMh12 _) (fun v31 ev31 bv31 cv31 => ?_)
                          refine g_iastB dX12_setsAside_270 sh_142 (by omega) (by omega) (fun h32 eh32 => ?_)
                          have hFh32 := Fr.ar eh32
                          have hMh32 := u_142 hMh12 eh32 (by omega) (by omega)
                          refine g_aload_n dX12_setsAside_271 rfl ?_
                          refine gR_X12_148 rfl dX12_setsAside_272 sh_98 (b := 143) (m_98_68 hMh32) ?_
                          refine g_bipush dX12_setsAside_275 (inR_c rfl) (by decide) ?_
                          refine g_iload_n dX12_setsAside_277 rfl (fun _ => ?_)
                          refine g_imulB dX12_setsAside_278 (by omega) (by omega) ?_
                          refine g_iload_n dX12_setsAside_279 rfl (fun _ => ?_)
                          refine g_iaddB dX12_setsAside_280 (by omega) (by omega) ?_
                          refine g_aload_n dX12_setsAside_281 rfl ?_
                          refine gR_X12_58 rfl dX12_setsAside_282 sh_98 (b := 113) (m_98_21 hMh32) ?_
                          refine g_iload_n dX12_setsAside_285 rfl (fun _ => ?_)
                          refine g_ialdB dX12_setsAside_286 sh_113 (by omega) (by omega) (m_113 hMh32 _) (fun v33 ev33 bv33 cv33 => ?_)
                          refine g_iastB dX12_setsAside_287 sh_143 (by omega) (by omega) (fun h34 eh34 => ?_)
                          have hFh34 := Fr.ar eh34
                          have hMh34 := u_143 hMh32 eh34 (by omega) (by omega)
                          refine g_iincB dX12_setsAside_288 rfl rfl (by omega) (by omega) ?_
                          refine g_goto 248 dX12_setsAside_291 (by decide) ?_
                          exact ih _ _ hMh34 (Fr.tr (Fr.tr (Fr.sub hFh12 rfl) hFh32 rfl) hFh34 rfl) (by omega) (by omega) (by omega)
                    refine g_istore_n dX12_setsAside_247 (by decide) rfl ?_
                    exact c248 65 _ _ hMh9 Fr.rf (by omega) (by omega) (by omega)
                  · skip
                    refine g_aload_n dX12_setsAside_223 rfl ?_
                    refine gR_X12_124 rfl dX12_setsAside_224 sh_98 (b := 135) (m_98_60 hMh9) ?_
                    refine g_bipush dX12_setsAside_227 (inR_c rfl) (by decide) ?_
                    refine g_iload_n dX12_setsAside_229 rfl (fun _ => ?_)
                    refine g_imulB dX12_setsAside_230 (by omega) (by omega) ?_
                    refine g_iload_n dX12_setsAside_231 rfl (fun _ => ?_)
                    refine g_iaddB dX12_setsAside_232 (by omega) (by omega) ?_
                    refine g_aload_n dX12_setsAside_233 rfl ?_
                    refine gR_X12_33 rfl dX12_setsAside_234 sh_98 (b := 105) (m_98_13 hMh9) ?_
                    refine g_iload_n dX12_setsAside_237 rfl (fun _ => ?_)
                    refine g_ialdB dX12_setsAside_238 sh_105 (by omega) (by omega) (m_105 hMh9 _) (fun v35 ev35 bv35 cv35 => ?_)
                    refine g_iastB dX12_setsAside_239 sh_135 (by omega) (by omega) (fun h36 eh36 => ?_)
                    have hFh36 := Fr.ar eh36
                    have hMh36 := u_135 hMh9 eh36 (by omega) (by omega)
                    refine g_iincB dX12_setsAside_240 rfl rfl (by omega) (by omega) ?_
                    refine g_goto 217 dX12_setsAside_243 (by decide) ?_
                    exact ih _ _ hMh36 (Fr.tr (Fr.sub hFh9 rfl) hFh36 rfl) (by omega) (by omega) (by omega)
              refine g_istore_n dX12_setsAside_216 (by decide) rfl ?_
              exact c217 41 _ _ hMh6 Fr.rf (by omega) (by omega) (by omega)
            · skip
              refine g_aload_n dX12_setsAside_73 rfl ?_
              refine gR_X12_118 rfl dX12_setsAside_74 sh_98 (b := 133) (m_98_58 hMh6) ?_
              refine g_bipush dX12_setsAside_77 (inR_c rfl) (by decide) ?_
              refine g_iload_n dX12_setsAside_79 rfl (fun _ => ?_)
              refine g_imulB dX12_setsAside_80 (by omega) (by omega) ?_
              refine g_iload_n dX12_setsAside_81 rfl (fun _ => ?_)
              refine g_iaddB dX12_setsAside_82 (by omega) (by omega) ?_
              refine g_aload_n dX12_setsAside_83 rfl ?_
              refine gR_X12_27 rfl dX12_setsAside_84 sh_98 (b := 103) (m_98_11 hMh6) ?_
              refine g_iload_n dX12_setsAside_87 rfl (fun _ => ?_)
              refine g_ialdB dX12_setsAside_88 sh_103 (by omega) (by omega) (m_103 hMh6 _) (fun v37 ev37 bv37 cv37 => ?_)
              refine g_iastB dX12_setsAside_89 sh_133 (by omega) (by omega) (fun h38 eh38 => ?_)
              have hFh38 := Fr.ar eh38
              have hMh38 := u_133 hMh6 eh38 (by omega) (by omega)
              refine g_aload_n dX12_setsAside_90 rfl ?_
              refine gR_X12_121 rfl dX12_setsAside_91 sh_98 (b := 134) (m_98_59 hMh38) ?_
              refine g_bipush dX12_setsAside_94 (inR_c rfl) (by decide) ?_
              refine g_iload_n dX12_setsAside_96 rfl (fun _ => ?_)
              refine g_imulB dX12_setsAside_97 (by omega) (by omega) ?_
              refine g_iload_n dX12_setsAside_98 rfl (fun _ => ?_)
              refine g_iaddB dX12_setsAside_99 (by omega) (by omega) ?_
              refine g_aload_n dX12_setsAside_100 rfl ?_
              refine gR_X12_30 rfl dX12_setsAside_101 sh_98 (b := 104) (m_98_12 hMh38) ?_
              refine g_iload_n dX12_setsAside_104 rfl (fun _ => ?_)
              refine g_ialdB dX12_setsAside_105 sh_104 (by omega) (by omega) (m_104 hMh38 _) (fun v39 ev39 bv39 cv39 => ?_)
              refine g_iastB dX12_setsAside_106 sh_134 (by omega) (by omega) (fun h40 eh40 => ?_)
              have hFh40 := Fr.ar eh40
              have hMh40 := u_134 hMh38 eh40 (by omega) (by omega)
              refine g_aload_n dX12_setsAside_107 rfl ?_
              refine gR_X12_127 rfl dX12_setsAside_108 sh_98 (b := 136) (m_98_61 hMh40) ?_
              refine g_bipush dX12_setsAside_111 (inR_c rfl) (by decide) ?_
              refine g_iload_n dX12_setsAside_113 rfl (fun _ => ?_)
              refine g_imulB dX12_setsAside_114 (by omega) (by omega) ?_
              refine g_iload_n dX12_setsAside_115 rfl (fun _ => ?_)
              refine g_iaddB dX12_setsAside_116 (by omega) (by omega) ?_
              refine g_aload_n dX12_setsAside_117 rfl ?_
              refine gR_X12_36 rfl dX12_setsAside_118 sh_98 (b := 106) (m_98_14 hMh40) ?_
              refine g_iload_n dX12_setsAside_121 rfl (fun _ => ?_)
              refine g_zaldB dX12_setsAside_122 sh_106 (by omega) (by omega) (m_106 hMh40 _) (fun v41 ev41 bv41 cv41 => ?_)
              refine g_zastB dX12_setsAside_123 sh_136 (by omega) (by omega) (by omega) (fun h42 eh42 => ?_)
              have hFh42 := Fr.ar eh42
              have hMh42 := u_136 hMh40 eh42 (by omega) (by omega)
              refine g_aload_n dX12_setsAside_124 rfl ?_
              refine gR_X12_130 rfl dX12_setsAside_125 sh_98 (b := 137) (m_98_62 hMh42) ?_
              refine g_bipush dX12_setsAside_128 (inR_c rfl) (by decide) ?_
              refine g_iload_n dX12_setsAside_130 rfl (fun _ => ?_)
              refine g_imulB dX12_setsAside_131 (by omega) (by omega) ?_
              refine g_iload_n dX12_setsAside_132 rfl (fun _ => ?_)
              refine g_iaddB dX12_setsAside_133 (by omega) (by omega) ?_
              refine g_aload_n dX12_setsAside_134 rfl ?_
              refine gR_X12_40 rfl dX12_setsAside_135 sh_98 (b := 107) (m_98_15 hMh42) ?_
              refine g_iload_n dX12_setsAside_138 rfl (fun _ => ?_)
              refine g_ialdB dX12_setsAside_139 sh_107 (by omega) (by omega) (m_107 hMh42 _) (fun v43 ev43 bv43 cv43 => ?_)
              refine g_iastB dX12_setsAside_140 sh_137 (by omega) (by omega) (fun h44 eh44 => ?_)
              have hFh44 := Fr.ar eh44
              have hMh44 := u_137 hMh42 eh44 (by omega) (by omega)
              refine g_aload_n dX12_setsAside_141 rfl ?_
              refine gR_X12_133 rfl dX12_setsAside_142 sh_98 (b := 138) (m_98_63 hMh44) ?_
              refine g_bipush dX12_setsAside_145 (inR_c rfl) (by decide) ?_
              refine g_iload_n dX12_setsAside_147 rfl (fun _ => ?_)
              refine g_imulB dX12_setsAside_148 (by omega) (by omega) ?_
              refine g_iload_n dX12_setsAside_149 rfl (fun _ => ?_)
              refine g_iaddB dX12_setsAside_150 (by omega) (by omega) ?_
              refine g_aload_n dX12_setsAside_151 rfl ?_
              refine gR_X12_43 rfl dX12_setsAside_152 sh_98 (b := 108) (m_98_16 hMh44) ?_
              refine g_iload_n dX12_setsAside_155 rfl (fun _ => ?_)
              refine g_ialdB dX12_setsAside_156 sh_108 (by omega) (by omega) (m_108 hMh44 _) (fun v45 ev45 bv45 cv45 => ?_)
              refine g_iastB dX12_setsAside_157 sh_138 (by omega) (by omega) (fun h46 eh46 => ?_)
              have hFh46 := Fr.ar eh46
              have hMh46 := u_138 hMh44 eh46 (by omega) (by omega)
              refine g_aload_n dX12_setsAside_158 rfl ?_
              refine gR_X12_136 rfl dX12_setsAside_159 sh_98 (b := 139) (m_98_64 hMh46) ?_
              refine g_bipush dX12_setsAside_162 (inR_c rfl) (by decide) ?_
              refine g_iload_n dX12_setsAside_164 rfl (fun _ => ?_)
              refine g_imulB dX12_setsAside_165 (by omega) (by omega) ?_
              refine g_iload_n dX12_setsAside_166 rfl (fun _ => ?_)
              refine g_iaddB dX12_setsAside_167 (by omega) (by omega) ?_
              refine g_aload_n dX12_setsAside_168 rfl ?_
              refine gR_X12_46 rfl dX12_setsAside_169 sh_98 (b := 109) (m_98_17 hMh46) ?_
              refine g_iload_n dX12_setsAside_172 rfl (fun _ => ?_)
              refine g_ialdB dX12_setsAside_173 sh_109 (by omega) (by omega) (m_109 hMh46 _) (fun v47 ev47 bv47 cv47 => ?_)
              refine g_iastB dX12_setsAside_174 sh_139 (by omega) (by omega) (fun h48 eh48 => ?_)
              have hFh48 := Fr.ar eh48
              have hMh48 := u_139 hMh46 eh48 (by omega) (by omega)
              refine g_aload_n dX12_setsAside_175 rfl ?_
              refine gR_X12_139 rfl dX12_setsAside_176 sh_98 (b := 140) (m_98_65 hMh48) ?_
              refine g_bipush dX12_setsAside_179 (inR_c rfl) (by decide) ?_
              refine g_iload_n dX12_setsAside_181 rfl (fun _ => ?_)
              refine g_imulB dX12_setsAside_182 (by omega) (by omega) ?_
              refine g_iload_n dX12_setsAside_183 rfl (fun _ => ?_)
              refine g_iaddB dX12_setsAside_184 (by omega) (by omega) ?_
              refine g_aload_n dX12_setsAside_185 rfl ?_
              refine gR_X12_49 rfl dX12_setsAside_186 sh_98 (b := 110) (m_98_18 hMh48) ?_
              refine g_iload_n dX12_setsAside_189 rfl (fun _ => ?_)
              refine g_zaldB dX12_setsAside_190 sh_110 (by omega) (by omega) (m_110 hMh48 _) (fun v49 ev49 bv49 cv49 => ?_)
              refine g_zastB dX12_setsAside_191 sh_140 (by omega) (by omega) (by omega) (fun h50 eh50 => ?_)
              have hFh50 := Fr.ar eh50
              have hMh50 := u_140 hMh48 eh50 (by omega) (by omega)
              refine g_aload_n dX12_setsAside_192 rfl ?_
              refine gR_X12_142 rfl dX12_setsAside_193 sh_98 (b := 141) (m_98_66 hMh50) ?_
              refine g_bipush dX12_setsAside_196 (inR_c rfl) (by decide) ?_
              refine g_iload_n dX12_setsAside_198 rfl (fun _ => ?_)
              refine g_imulB dX12_setsAside_199 (by omega) (by omega) ?_
              refine g_iload_n dX12_setsAside_200 rfl (fun _ => ?_)
              refine g_iaddB dX12_setsAside_201 (by omega) (by omega) ?_
              refine g_aload_n dX12_setsAside_202 rfl ?_
              refine gR_X12_52 rfl dX12_setsAside_203 sh_98 (b := 111) (m_98_19 hMh50) ?_
              refine g_iload_n dX12_setsAside_206 rfl (fun _ => ?_)
              refine g_ialdB dX12_setsAside_207 sh_111 (by omega) (by omega) (m_111 hMh50 _) (fun v51 ev51 bv51 cv51 => ?_)
              refine g_iastB dX12_setsAside_208 sh_141 (by omega) (by omega) (fun h52 eh52 => ?_)
              have hFh52 := Fr.ar eh52
              have hMh52 := u_141 hMh50 eh52 (by omega) (by omega)
              refine g_iincB dX12_setsAside_209 rfl rfl (by omega) (by omega) ?_
              refine g_goto 67 dX12_setsAside_212 (by decide) ?_
              exact ih _ _ hMh52 (Fr.tr (Fr.tr (Fr.tr (Fr.tr (Fr.tr (Fr.tr (Fr.tr (Fr.tr (Fr.sub hFh6 rfl) hFh38 rfl) hFh40 rfl) hFh42 rfl) hFh44 rfl) hFh46 rfl) hFh48 rfl) hFh50 rfl) hFh52 rfl) (by omega) (by omega) (by omega)
        refine g_istore_n dX12_setsAside_66 (by decide) rfl ?_
        exact c67 9 _ _ hMh3 Fr.rf (by omega) (by omega) (by omega)
      · skip
        refine g_aload_n dX12_setsAside_8 rfl ?_
        refine gR_X12_109 rfl dX12_setsAside_9 sh_98 (b := 130) (m_98_55 hMh3) ?_
        refine g_bipush dX12_setsAside_12 (inR_c rfl) (by decide) ?_
        refine g_iload_n dX12_setsAside_14 rfl (fun _ => ?_)
        refine g_imulB dX12_setsAside_15 (by omega) (by omega) ?_
        refine g_iload_n dX12_setsAside_16 rfl (fun _ => ?_)
        refine g_iaddB dX12_setsAside_17 (by omega) (by omega) ?_
        refine g_aload_n dX12_setsAside_18 rfl ?_
        refine gR_X12_17 rfl dX12_setsAside_19 sh_98 (b := 100) (m_98_8 hMh3) ?_
        refine g_iload_n dX12_setsAside_22 rfl (fun _ => ?_)
        refine g_ialdB dX12_setsAside_23 sh_100 (by omega) (by omega) (m_100 hMh3 _) (fun v53 ev53 bv53 cv53 => ?_)
        refine g_iastB dX12_setsAside_24 sh_130 (by omega) (by omega) (fun h54 eh54 => ?_)
        have hFh54 := Fr.ar eh54
        have hMh54 := u_130 hMh3 eh54 (by omega) (by omega)
        refine g_aload_n dX12_setsAside_25 rfl ?_
        refine gR_X12_112 rfl dX12_setsAside_26 sh_98 (b := 131) (m_98_56 hMh54) ?_
        refine g_bipush dX12_setsAside_29 (inR_c rfl) (by decide) ?_
        refine g_iload_n dX12_setsAside_31 rfl (fun _ => ?_)
        refine g_imulB dX12_setsAside_32 (by omega) (by omega) ?_
        refine g_iload_n dX12_setsAside_33 rfl (fun _ => ?_)
        refine g_iaddB dX12_setsAside_34 (by omega) (by omega) ?_
        refine g_aload_n dX12_setsAside_35 rfl ?_
        refine gR_X12_21 rfl dX12_setsAside_36 sh_98 (b := 101) (m_98_9 hMh54) ?_
        refine g_iload_n dX12_setsAside_39 rfl (fun _ => ?_)
        refine g_ialdB dX12_setsAside_40 sh_101 (by omega) (by omega) (m_101 hMh54 _) (fun v55 ev55 bv55 cv55 => ?_)
        refine g_iastB dX12_setsAside_41 sh_131 (by omega) (by omega) (fun h56 eh56 => ?_)
        have hFh56 := Fr.ar eh56
        have hMh56 := u_131 hMh54 eh56 (by omega) (by omega)
        refine g_aload_n dX12_setsAside_42 rfl ?_
        refine gR_X12_115 rfl dX12_setsAside_43 sh_98 (b := 132) (m_98_57 hMh56) ?_
        refine g_bipush dX12_setsAside_46 (inR_c rfl) (by decide) ?_
        refine g_iload_n dX12_setsAside_48 rfl (fun _ => ?_)
        refine g_imulB dX12_setsAside_49 (by omega) (by omega) ?_
        refine g_iload_n dX12_setsAside_50 rfl (fun _ => ?_)
        refine g_iaddB dX12_setsAside_51 (by omega) (by omega) ?_
        refine g_aload_n dX12_setsAside_52 rfl ?_
        refine gR_X12_24 rfl dX12_setsAside_53 sh_98 (b := 102) (m_98_10 hMh56) ?_
        refine g_iload_n dX12_setsAside_56 rfl (fun _ => ?_)
        refine g_ialdB dX12_setsAside_57 sh_102 (by omega) (by omega) (m_102 hMh56 _) (fun v57 ev57 bv57 cv57 => ?_)
        refine g_iastB dX12_setsAside_58 sh_132 (by omega) (by omega) (fun h58 eh58 => ?_)
        have hFh58 := Fr.ar eh58
        have hMh58 := u_132 hMh56 eh58 (by omega) (by omega)
        refine g_iincB dX12_setsAside_59 rfl rfl (by omega) (by omega) ?_
        refine g_goto 2 dX12_setsAside_62 (by decide) ?_
        exact ih _ _ hMh58 (Fr.tr (Fr.tr (Fr.tr (Fr.sub hFh3 rfl) hFh54 rfl) hFh56 rfl) hFh58 rfl) (by omega) (by omega) (by omega)
  refine g_istore_n dX12_setsAside_1 (by decide) rfl ?_
  exact c2 11 _ _ hM Fr.rf (by omega) (by omega) (by omega)
