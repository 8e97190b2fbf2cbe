set_option maxRecDepth 100000 in
set_option maxHeartbeats 4000000 in
theorem c_X5_readComparison_65_90_k3 (h : MEM) (hM : MBx h) : CV yX5_readComparison cX5_readComparison 4 (none) 18 [pR 65, pR 90, pI 3] h (fun h' => MBx h' ∧ Fr [(65, 3), (65, 4), (65, 5), (90, 2), (95, 0), (96, 0)] h h') := by
  refine CV.of (L0 := [some (pR 65), some (pR 90), some (pI 3), none]) rfl (Nat.le_of_ble_eq_true rfl) rfl (fun Po hPo hav => ?_)
  refine g_aload_n dX5_readComparison_0 rfl ?_
  refine g_aload_n dX5_readComparison_1 rfl ?_
  refine g_iload_n dX5_readComparison_2 rfl (fun _ => ?_)
  refine g_cVV (as := [_, _]) (c_X5_readSum_65_90_k3  h hM) dX5_readComparison_3 mi_X5_readSum in_X5_readSum se_X5_readSum ml_X5_74 rfl rfl rfl sh_65 rfl rfl (Nat.le_of_ble_eq_true rfl) (fun h1 q2 => ?_)
  obtain ⟨hMh1, hFh1⟩ := q2
  refine g_aload_n dX5_readComparison_6 rfl ?_
  refine g_cVP (as := []) (c_X5_sign_65  h1 hMh1) dX5_readComparison_7 mi_X5_sign in_X5_sign se_X5_sign ml_X5_56 rfl rfl rfl sh_65 rfl rfl (Nat.le_of_ble_eq_true rfl) (fun v3 q4 => ?_)
  obtain ⟨bv3, cv3, zv3⟩ := q4
  refine g_istore_n dX5_readComparison_10 (by decide) rfl ?_
  refine g_aload_n dX5_readComparison_11 rfl ?_
  refine gI_X5_22 rfl dX5_readComparison_12 sh_65 (m_65_3 hMh1) (fun v5 ev5 bv5 cv5 => ?_)
  refine g_if_ne 27 dX5_readComparison_15 (by decide) (fun q6 => ?_) (fun q6 => ?_)
  · skip
    refine g_aload_n dX5_readComparison_27 rfl ?_
    refine g_iconst dX5_readComparison_28 (inR_c rfl) ?_
    refine g_cVV (as := [_]) (c_X5_fail_65 _ h1 hMh1 (by omega) (by omega)) dX5_readComparison_29 mi_X5_fail in_X5_fail se_X5_fail ml_X5_60 rfl rfl rfl sh_65 rfl rfl (Nat.le_of_ble_eq_true rfl) (fun h7 q8 => ?_)
    obtain ⟨hMh7, hFh7, az9, bz9⟩ := q8
    obtain ⟨v10, ev10⟩ : ∃ z, z = h7 65 3 := ⟨_, rfl⟩
    have bv10 : 1 ≤ v10 ∧ v10 ≤ 5 := by rw [ev10]; exact ⟨az9, bz9⟩
    exact g_return dX5_readComparison_32 rfl (hPo _ ⟨hMh7, (Fr.tr (Fr.sub hFh1 rfl) hFh7 rfl)⟩)
  · skip
    refine g_sidx_n2 rfl rfl dX5_readComparison_18 dX5_readComparison_20 dX5_readComparison_21 ml_X5_66 rfl (Nat.le_of_ble_eq_true rfl) (fun v11 bv11 cv11 => ?_)
    refine g_if_ge 33 dX5_readComparison_24 (by decide) (fun q12 => ?_) (fun q12 => ?_)
    · skip
      refine g_aload_n dX5_readComparison_33 rfl ?_
      refine g_dup dX5_readComparison_34 rfl ?_
      refine gI_X5_19 rfl dX5_readComparison_35 sh_65 (m_65_2 hMh1) (fun v13 ev13 bv13 cv13 => ?_)
      refine g_iconst dX5_readComparison_38 (inR_c rfl) ?_
      refine g_iaddF dX5_readComparison_39 (fun v14 bv14 cv14 => ?_)
      refine pI_X5_19 rfl dX5_readComparison_40 sh_65 (fun h15 eh15 => ?_)
      have hFh15 := Fr.st eh15
      have hMh15 := u_65_2 hMh1 eh15 (by omega) (by omega)
      refine g_aload_n dX5_readComparison_43 rfl ?_
      refine g_aload_n dX5_readComparison_44 rfl ?_
      refine g_iload_n dX5_readComparison_45 rfl (fun _ => ?_)
      refine g_cVV (as := [_, _]) (c_X5_readSum_65_90_k3  h15 hMh15) dX5_readComparison_46 mi_X5_readSum in_X5_readSum se_X5_readSum ml_X5_74 rfl rfl rfl sh_65 rfl rfl (Nat.le_of_ble_eq_true rfl) (fun h16 q17 => ?_)
      obtain ⟨hMh16, hFh16⟩ := q17
      refine g_aload_n dX5_readComparison_49 rfl ?_
      refine g_iload_n dX5_readComparison_50 rfl (fun _ => ?_)
      refine g_iconst dX5_readComparison_51 (inR_c rfl) ?_
      refine g_cV (as := [_, _]) (c_X2_addStep_90 _ _ h16 hMh16 (by omega) (by omega) (by omega) (by omega)) dX5_readComparison_52 mi_X2_addStep in_X2_addStep se_X2_addStep ml_X5_90 rfl rfl rfl sh_90 rfl rfl (Nat.le_of_ble_eq_true rfl) (fun v18 h19 q20 => ?_)
      obtain ⟨hMh19, hFh19, bv18, cv18⟩ := q20
      refine g_pop dX5_readComparison_55 rfl ?_
      exact g_return dX5_readComparison_56 rfl (hPo _ ⟨hMh19, (Fr.tr (Fr.tr (Fr.tr (Fr.sub hFh1 rfl) hFh15 rfl) hFh16 rfl) hFh19 rfl)⟩)
    · skip
      refine g_aload_n dX5_readComparison_27 rfl ?_
      refine g_iconst dX5_readComparison_28 (inR_c rfl) ?_
      refine g_cVV (as := [_]) (c_X5_fail_65 _ h1 hMh1 (by omega) (by omega)) dX5_readComparison_29 mi_X5_fail in_X5_fail se_X5_fail ml_X5_60 rfl rfl rfl sh_65 rfl rfl (Nat.le_of_ble_eq_true rfl) (fun h21 q22 => ?_)
      obtain ⟨hMh21, hFh21, az23, bz23⟩ := q22
      obtain ⟨v24, ev24⟩ : ∃ z, z = h21 65 3 := ⟨_, rfl⟩
      have bv24 : 1 ≤ v24 ∧ v24 ≤ 5 := by rw [ev24]; exact ⟨az23, bz23⟩
      exact g_return dX5_readComparison_32 rfl (hPo _ ⟨hMh21, (Fr.tr (Fr.sub hFh1 rfl) hFh21 rfl)⟩)
set_option maxRecDepth 100000 in
set_option maxHeartbeats 4000000 in
theorem c_X5_readComparison_65_90_k4 (h : MEM) (hM : MBx h) : CV yX5_readComparison cX5_readComparison 4 (none) 15 [pR 65, pR 90, pI 4] h (fun h' => MBx h' ∧ Fr [(65, 3), (65, 4), (65, 5), (90, 2), (95, 0), (96, 0)] h h') := by
  refine CV.of (L0 := [some (pR 65), some (pR 90), some (pI 4), none]) rfl (Nat.le_of_ble_eq_true rfl) rfl (fun Po hPo hav => ?_)
  refine g_aload_n dX5_readComparison_0 rfl ?_
  refine g_aload_n dX5_readComparison_1 rfl ?_
  refine g_iload_n dX5_readComparison_2 rfl (fun _ => ?_)
  refine g_cVV (as := [_, _]) (c_X5_readSum_65_90_k4  h hM) dX5_readComparison_3 mi_X5_readSum in_X5_readSum se_X5_readSum ml_X5_74 rfl rfl rfl sh_65 rfl rfl (Nat.le_of_ble_eq_true rfl) (fun h1 q2 => ?_)
  obtain ⟨hMh1, hFh1⟩ := q2
  refine g_aload_n dX5_readComparison_6 rfl ?_
  refine g_cVP (as := []) (c_X5_sign_65  h1 hMh1) dX5_readComparison_7 mi_X5_sign in_X5_sign se_X5_sign ml_X5_56 rfl rfl rfl sh_65 rfl rfl (Nat.le_of_ble_eq_true rfl) (fun v3 q4 => ?_)
  obtain ⟨bv3, cv3, zv3⟩ := q4
  refine g_istore_n dX5_readComparison_10 (by decide) rfl ?_
  refine g_aload_n dX5_readComparison_11 rfl ?_
  refine gI_X5_22 rfl dX5_readComparison_12 sh_65 (m_65_3 hMh1) (fun v5 ev5 bv5 cv5 => ?_)
  refine g_if_ne 27 dX5_readComparison_15 (by decide) (fun q6 => ?_) (fun q6 => ?_)
  · skip
    refine g_aload_n dX5_readComparison_27 rfl ?_
    refine g_iconst dX5_readComparison_28 (inR_c rfl) ?_
    refine g_cVV (as := [_]) (c_X5_fail_65 _ h1 hMh1 (by omega) (by omega)) dX5_readComparison_29 mi_X5_fail in_X5_fail se_X5_fail ml_X5_60 rfl rfl rfl sh_65 rfl rfl (Nat.le_of_ble_eq_true rfl) (fun h7 q8 => ?_)
    obtain ⟨hMh7, hFh7, az9, bz9⟩ := q8
    obtain ⟨v10, ev10⟩ : ∃ z, z = h7 65 3 := ⟨_, rfl⟩
    have bv10 : 1 ≤ v10 ∧ v10 ≤ 5 := by rw [ev10]; exact ⟨az9, bz9⟩
    exact g_return dX5_readComparison_32 rfl (hPo _ ⟨hMh7, (Fr.tr (Fr.sub hFh1 rfl) hFh7 rfl)⟩)
  · skip
    refine g_sidx_n2 rfl rfl dX5_readComparison_18 dX5_readComparison_20 dX5_readComparison_21 ml_X5_66 rfl (Nat.le_of_ble_eq_true rfl) (fun v11 bv11 cv11 => ?_)
    refine g_if_ge 33 dX5_readComparison_24 (by decide) (fun q12 => ?_) (fun q12 => ?_)
    · skip
      refine g_aload_n dX5_readComparison_33 rfl ?_
      refine g_dup dX5_readComparison_34 rfl ?_
      refine gI_X5_19 rfl dX5_readComparison_35 sh_65 (m_65_2 hMh1) (fun v13 ev13 bv13 cv13 => ?_)
      refine g_iconst dX5_readComparison_38 (inR_c rfl) ?_
      refine g_iaddF dX5_readComparison_39 (fun v14 bv14 cv14 => ?_)
      refine pI_X5_19 rfl dX5_readComparison_40 sh_65 (fun h15 eh15 => ?_)
      have hFh15 := Fr.st eh15
      have hMh15 := u_65_2 hMh1 eh15 (by omega) (by omega)
      refine g_aload_n dX5_readComparison_43 rfl ?_
      refine g_aload_n dX5_readComparison_44 rfl ?_
      refine g_iload_n dX5_readComparison_45 rfl (fun _ => ?_)
      refine g_cVV (as := [_, _]) (c_X5_readSum_65_90_k4  h15 hMh15) dX5_readComparison_46 mi_X5_readSum in_X5_readSum se_X5_readSum ml_X5_74 rfl rfl rfl sh_65 rfl rfl (Nat.le_of_ble_eq_true rfl) (fun h16 q17 => ?_)
      obtain ⟨hMh16, hFh16⟩ := q17
      refine g_aload_n dX5_readComparison_49 rfl ?_
      refine g_iload_n dX5_readComparison_50 rfl (fun _ => ?_)
      refine g_iconst dX5_readComparison_51 (inR_c rfl) ?_
      refine g_cV (as := [_, _]) (c_X2_addStep_90 _ _ h16 hMh16 (by omega) (by omega) (by omega) (by omega)) dX5_readComparison_52 mi_X2_addStep in_X2_addStep se_X2_addStep ml_X5_90 rfl rfl rfl sh_90 rfl rfl (Nat.le_of_ble_eq_true rfl) (fun v18 h19 q20 => ?_)
      obtain ⟨hMh19, hFh19, bv18, cv18⟩ := q20
      refine g_pop dX5_readComparison_55 rfl ?_
      exact g_return dX5_readComparison_56 rfl (hPo _ ⟨hMh19, (Fr.tr (Fr.tr (Fr.tr (Fr.sub hFh1 rfl) hFh15 rfl) hFh16 rfl) hFh19 rfl)⟩)
    · skip
      refine g_aload_n dX5_readComparison_27 rfl ?_
      refine g_iconst dX5_readComparison_28 (inR_c rfl) ?_
      refine g_cVV (as := [_]) (c_X5_fail_65 _ h1 hMh1 (by omega) (by omega)) dX5_readComparison_29 mi_X5_fail in_X5_fail se_X5_fail ml_X5_60 rfl rfl rfl sh_65 rfl rfl (Nat.le_of_ble_eq_true rfl) (fun h21 q22 => ?_)
      obtain ⟨hMh21, hFh21, az23, bz23⟩ := q22
      obtain ⟨v24, ev24⟩ : ∃ z, z = h21 65 3 := ⟨_, rfl⟩
      have bv24 : 1 ≤ v24 ∧ v24 ≤ 5 := by rw [ev24]; exact ⟨az23, bz23⟩
      exact g_return dX5_readComparison_32 rfl (hPo _ ⟨hMh21, (Fr.tr (Fr.sub hFh1 rfl) hFh21 rfl)⟩)
set_option maxRecDepth 100000 in
set_option maxHeartbeats 4000000 in
theorem c_X5_readComparison_65_90_k5 (h : MEM) (hM : MBx h) : CV yX5_readComparison cX5_readComparison 4 (none) 12 [pR 65, pR 90, pI 5] h (fun h' => MBx h' ∧ Fr [(65, 3), (65, 4), (65, 5), (90, 2), (95, 0), (96, 0)] h h') := by
  refine CV.of (L0 := [some (pR 65), some (pR 90), some (pI 5), none]) rfl (Nat.le_of_ble_eq_true rfl) rfl (fun Po hPo hav => ?_)
  refine g_aload_n dX5_readComparison_0 rfl ?_
  refine g_aload_n dX5_readComparison_1 rfl ?_
  refine g_iload_n dX5_readComparison_2 rfl (fun _ => ?_)
  refine g_cVV (as := [_, _]) (c_X5_readSum_65_90_k5  h hM) dX5_readComparison_3 mi_X5_readSum in_X5_readSum se_X5_readSum ml_X5_74 rfl rfl rfl sh_65 rfl rfl (Nat.le_of_ble_eq_true rfl) (fun h1 q2 => ?_)
  obtain ⟨hMh1, hFh1⟩ := q2
  refine g_aload_n dX5_readComparison_6 rfl ?_
  refine g_cVP (as := []) (c_X5_sign_65  h1 hMh1) dX5_readComparison_7 mi_X5_sign in_X5_sign se_X5_sign ml_X5_56 rfl rfl rfl sh_65 rfl rfl (Nat.le_of_ble_eq_true rfl) (fun v3 q4 => ?_)
  obtain ⟨bv3, cv3, zv3⟩ := q4
  refine g_istore_n dX5_readComparison_10 (by decide) rfl ?_
  refine g_aload_n dX5_readComparison_11 rfl ?_
  refine gI_X5_22 rfl dX5_readComparison_12 sh_65 (m_65_3 hMh1) (fun v5 ev5 bv5 cv5 => ?_)
  refine g_if_ne 27 dX5_readComparison_15 (by decide) (fun q6 => ?_) (fun q6 => ?_)
  · skip
    refine g_aload_n dX5_readComparison_27 rfl ?_
    refine g_iconst dX5_readComparison_28 (inR_c rfl) ?_
    refine g_cVV (as := [_]) (c_X5_fail_65 _ h1 hMh1 (by omega) (by omega)) dX5_readComparison_29 mi_X5_fail in_X5_fail se_X5_fail ml_X5_60 rfl rfl rfl sh_65 rfl rfl (Nat.le_of_ble_eq_true rfl) (fun h7 q8 => ?_)
    obtain ⟨hMh7, hFh7, az9, bz9⟩ := q8
    obtain ⟨v10, ev10⟩ : ∃ z, z = h7 65 3 := ⟨_, rfl⟩
    have bv10 : 1 ≤ v10 ∧ v10 ≤ 5 := by rw [ev10]; exact ⟨az9, bz9⟩
    exact g_return dX5_readComparison_32 rfl (hPo _ ⟨hMh7, (Fr.tr (Fr.sub hFh1 rfl) hFh7 rfl)⟩)
  · skip
    refine g_sidx_n2 rfl rfl dX5_readComparison_18 dX5_readComparison_20 dX5_readComparison_21 ml_X5_66 rfl (Nat.le_of_ble_eq_true rfl) (fun v11 bv11 cv11 => ?_)
    refine g_if_ge 33 dX5_readComparison_24 (by decide) (fun q12 => ?_) (fun q12 => ?_)
    · skip
      refine g_aload_n dX5_readComparison_33 rfl ?_
      refine g_dup dX5_readComparison_34 rfl ?_
      refine gI_X5_19 rfl dX5_readComparison_35 sh_65 (m_65_2 hMh1) (fun v13 ev13 bv13 cv13 => ?_)
      refine g_iconst dX5_readComparison_38 (inR_c rfl) ?_
      refine g_iaddF dX5_readComparison_39 (fun v14 bv14 cv14 => ?_)
      refine pI_X5_19 rfl dX5_readComparison_40 sh_65 (fun h15 eh15 => ?_)
      have hFh15 := Fr.st eh15
      have hMh15 := u_65_2 hMh1 eh15 (by omega) (by omega)
      refine g_aload_n dX5_readComparison_43 rfl ?_
      refine g_aload_n dX5_readComparison_44 rfl ?_
      refine g_iload_n dX5_readComparison_45 rfl (fun _ => ?_)
      refine g_cVV (as := [_, _]) (c_X5_readSum_65_90_k5  h15 hMh15) dX5_readComparison_46 mi_X5_readSum in_X5_readSum se_X5_readSum ml_X5_74 rfl rfl rfl sh_65 rfl rfl (Nat.le_of_ble_eq_true rfl) (fun h16 q17 => ?_)
      obtain ⟨hMh16, hFh16⟩ := q17
      refine g_aload_n dX5_readComparison_49 rfl ?_
      refine g_iload_n dX5_readComparison_50 rfl (fun _ => ?_)
      refine g_iconst dX5_readComparison_51 (inR_c rfl) ?_
      refine g_cV (as := [_, _]) (c_X2_addStep_90 _ _ h16 hMh16 (by omega) (by omega) (by omega) (by omega)) dX5_readComparison_52 mi_X2_addStep in_X2_addStep se_X2_addStep ml_X5_90 rfl rfl rfl sh_90 rfl rfl (Nat.le_of_ble_eq_true rfl) (fun v18 h19 q20 => ?_)
      obtain ⟨hMh19, hFh19, bv18, cv18⟩ := q20
      refine g_pop dX5_readComparison_55 rfl ?_
      exact g_return dX5_readComparison_56 rfl (hPo _ ⟨hMh19, (Fr.tr (Fr.tr (Fr.tr (Fr.sub hFh1 rfl) hFh15 rfl) hFh16 rfl) hFh19 rfl)⟩)
    · skip
      refine g_aload_n dX5_readComparison_27 rfl ?_
      refine g_iconst dX5_readComparison_28 (inR_c rfl) ?_
      refine g_cVV (as := [_]) (c_X5_fail_65 _ h1 hMh1 (by omega) (by omega)) dX5_readComparison_29 mi_X5_fail in_X5_fail se_X5_fail ml_X5_60 rfl rfl rfl sh_65 rfl rfl (Nat.le_of_ble_eq_true rfl) (fun h21 q22 => ?_)
      obtain ⟨hMh21, hFh21, az23, bz23⟩ := q22
      obtain ⟨v24, ev24⟩ : ∃ z, z = h21 65 3 := ⟨_, rfl⟩
      have bv24 : 1 ≤ v24 ∧ v24 ≤ 5 := by rw [ev24]; exact ⟨az23, bz23⟩
      exact g_return dX5_readComparison_32 rfl (hPo _ ⟨hMh21, (Fr.tr (Fr.sub hFh1 rfl) hFh21 rfl)⟩)
set_option maxRecDepth 100000 in
set_option maxHeartbeats 4000000 in
theorem c_X5_readComparison_65_90_k6 (h : MEM) (hM : MBx h) : CV yX5_readComparison cX5_readComparison 4 (none) 9 [pR 65, pR 90, pI 6] h (fun h' => MBx h' ∧ Fr [(65, 3), (65, 4), (65, 5), (90, 2), (95, 0), (96, 0)] h h') := by
  refine CV.of (L0 := [some (pR 65), some (pR 90), some (pI 6), none]) rfl (Nat.le_of_ble_eq_true rfl) rfl (fun Po hPo hav => ?_)
  refine g_aload_n dX5_readComparison_0 rfl ?_
  refine g_aload_n dX5_readComparison_1 rfl ?_
  refine g_iload_n dX5_readComparison_2 rfl (fun _ => ?_)
  refine g_cVV (as := [_, _]) (c_X5_readSum_65_90_k6  h hM) dX5_readComparison_3 mi_X5_readSum in_X5_readSum se_X5_readSum ml_X5_74 rfl rfl rfl sh_65 rfl rfl (Nat.le_of_ble_eq_true rfl) (fun h1 q2 => ?_)
  obtain ⟨hMh1, hFh1⟩ := q2
  refine g_aload_n dX5_readComparison_6 rfl ?_
  refine g_cVP (as := []) (c_X5_sign_65  h1 hMh1) dX5_readComparison_7 mi_X5_sign in_X5_sign se_X5_sign ml_X5_56 rfl rfl rfl sh_65 rfl rfl (Nat.le_of_ble_eq_true rfl) (fun v3 q4 => ?_)
  obtain ⟨bv3, cv3, zv3⟩ := q4
  refine g_istore_n dX5_readComparison_10 (by decide) rfl ?_
  refine g_aload_n dX5_readComparison_11 rfl ?_
  refine gI_X5_22 rfl dX5_readComparison_12 sh_65 (m_65_3 hMh1) (fun v5 ev5 bv5 cv5 => ?_)
  refine g_if_ne 27 dX5_readComparison_15 (by decide) (fun q6 => ?_) (fun q6 => ?_)
  · skip
    refine g_aload_n dX5_readComparison_27 rfl ?_
    refine g_iconst dX5_readComparison_28 (inR_c rfl) ?_
    refine g_cVV (as := [_]) (c_X5_fail_65 _ h1 hMh1 (by omega) (by omega)) dX5_readComparison_29 mi_X5_fail in_X5_fail se_X5_fail ml_X5_60 rfl rfl rfl sh_65 rfl rfl (Nat.le_of_ble_eq_true rfl) (fun h7 q8 => ?_)
    obtain ⟨hMh7, hFh7, az9, bz9⟩ := q8
    obtain ⟨v10, ev10⟩ : ∃ z, z = h7 65 3 := ⟨_, rfl⟩
    have bv10 : 1 ≤ v10 ∧ v10 ≤ 5 := by rw [ev10]; exact ⟨az9, bz9⟩
    exact g_return dX5_readComparison_32 rfl (hPo _ ⟨hMh7, (Fr.tr (Fr.sub hFh1 rfl) hFh7 rfl)⟩)
  · skip
    refine g_sidx_n2 rfl rfl dX5_readComparison_18 dX5_readComparison_20 dX5_readComparison_21 ml_X5_66 rfl (Nat.le_of_ble_eq_true rfl) (fun v11 bv11 cv11 => ?_)
    refine g_if_ge 33 dX5_readComparison_24 (by decide) (fun q12 => ?_) (fun q12 => ?_)
    · skip
      refine g_aload_n dX5_readComparison_33 rfl ?_
      refine g_dup dX5_readComparison_34 rfl ?_
      refine gI_X5_19 rfl dX5_readComparison_35 sh_65 (m_65_2 hMh1) (fun v13 ev13 bv13 cv13 => ?_)
      refine g_iconst dX5_readComparison_38 (inR_c rfl) ?_
      refine g_iaddF dX5_readComparison_39 (fun v14 bv14 cv14 => ?_)
      refine pI_X5_19 rfl dX5_readComparison_40 sh_65 (fun h15 eh15 => ?_)
      have hFh15 := Fr.st eh15
      have hMh15 := u_65_2 hMh1 eh15 (by omega) (by omega)
      refine g_aload_n dX5_readComparison_43 rfl ?_
      refine g_aload_n dX5_readComparison_44 rfl ?_
      refine g_iload_n dX5_readComparison_45 rfl (fun _ => ?_)
      refine g_cVV (as := [_, _]) (c_X5_readSum_65_90_k6  h15 hMh15) dX5_readComparison_46 mi_X5_readSum in_X5_readSum se_X5_readSum ml_X5_74 rfl rfl rfl sh_65 rfl rfl (Nat.le_of_ble_eq_true rfl) (fun h16 q17 => ?_)
      obtain ⟨hMh16, hFh16⟩ := q17
      refine g_aload_n dX5_readComparison_49 rfl ?_
      refine g_iload_n dX5_readComparison_50 rfl (fun _ => ?_)
      refine g_iconst dX5_readComparison_51 (inR_c rfl) ?_
      refine g_cV (as := [_, _]) (c_X2_addStep_90 _ _ h16 hMh16 (by omega) (by omega) (by omega) (by omega)) dX5_readComparison_52 mi_X2_addStep in_X2_addStep se_X2_addStep ml_X5_90 rfl rfl rfl sh_90 rfl rfl (Nat.le_of_ble_eq_true rfl) (fun v18 h19 q20 => ?_)
      obtain ⟨hMh19, hFh19, bv18, cv18⟩ := q20
      refine g_pop dX5_readComparison_55 rfl ?_
      exact g_return dX5_readComparison_56 rfl (hPo _ ⟨hMh19, (Fr.tr (Fr.tr (Fr.tr (Fr.sub hFh1 rfl) hFh15 rfl) hFh16 rfl) hFh19 rfl)⟩)
    · skip
      refine g_aload_n dX5_readComparison_27 rfl ?_
      refine g_iconst dX5_readComparison_28 (inR_c rfl) ?_
      refine g_cVV (as := [_]) (c_X5_fail_65 _ h1 hMh1 (by omega) (by omega)) dX5_readComparison_29 mi_X5_fail in_X5_fail se_X5_fail ml_X5_60 rfl rfl rfl sh_65 rfl rfl (Nat.le_of_ble_eq_true rfl) (fun h21 q22 => ?_)
      obtain ⟨hMh21, hFh21, az23, bz23⟩ := q22
      obtain ⟨v24, ev24⟩ : ∃ z, z = h21 65 3 := ⟨_, rfl⟩
      have bv24 : 1 ≤ v24 ∧ v24 ≤ 5 := by rw [ev24]; exact ⟨az23, bz23⟩
      exact g_return dX5_readComparison_32 rfl (hPo _ ⟨hMh21, (Fr.tr (Fr.sub hFh1 rfl) hFh21 rfl)⟩)
set_option maxRecDepth 100000 in
set_option maxHeartbeats 4000000 in
theorem c_X5_readPiece_65_90_k6 (h : MEM) (hM : MBx h) : CV yX5_readPiece cX5_readPiece 5 (none) 10 [pR 65, pR 90, pI 6] h (fun h' => MBx h' ∧ Fr [(65, 3), (65, 4), (65, 5), (90, 2), (95, 0), (96, 0)] h h') := by
  refine CV.of (L0 := [some (pR 65), some (pR 90), some (pI 6), none, none]) rfl (Nat.le_of_ble_eq_true rfl) rfl (fun Po hPo hav => ?_)
  refine g_aload_n dX5_readPiece_0 rfl ?_
  refine gI_X5_22 rfl dX5_readPiece_1 sh_65 (m_65_3 hM) (fun v1 ev1 bv1 cv1 => ?_)
  refine g_if_eq 8 dX5_readPiece_4 (by decide) (fun q2 => ?_) (fun q2 => ?_)
  · skip
    refine g_iload_n dX5_readPiece_8 rfl (fun _ => ?_)
    refine g_istore_n dX5_readPiece_9 (by decide) rfl ?_
    refine g_iconst dX5_readPiece_10 (inR_c rfl) ?_
    refine g_istore dX5_readPiece_11 (by decide) rfl ?_
    refine g_iload dX5_readPiece_13 rfl (fun _ => ?_)
    refine g_bipush dX5_readPiece_15 (inR_c rfl) (by decide) ?_
    refine g_icmp_ge 54 dX5_readPiece_17 (by decide) (fun _ => by exfalso; omega) (fun q3 => ?_)
    refine g_iload_n dX5_readPiece_20 rfl (fun _ => ?_)
    refine g_bipush dX5_readPiece_21 (inR_c rfl) (by decide) ?_
    refine g_icmp_ge 54 dX5_readPiece_23 (by decide) (fun q4 => ?_) (fun _ => by exfalso; omega)
    refine g_iload_n dX5_readPiece_54 rfl (fun _ => ?_)
    refine g_bipush dX5_readPiece_55 (inR_c rfl) (by decide) ?_
    have c128 : ∀ (h5 : MEM), MBx h5 → Fr [(65, 3), (65, 4), (65, 5), (90, 2), (95, 0), (96, 0)] h h5 → G yX5_readPiece cX5_readPiece 5 (none) none Po (10, 600, 0, 0) 128 [none, some (pR 90), some (pI 6), some (pI 6), none] [] SH h5 0 0 := by
      intro h5 hMh5 hFh5
      refine g_iload_n dX5_readPiece_128 rfl (fun _ => ?_)
      refine g_istore dX5_readPiece_129 (by decide) rfl ?_
      refine g_iload dX5_readPiece_131 rfl (fun _ => ?_)
      refine g_iload_n dX5_readPiece_133 rfl (fun _ => ?_)
      refine g_icmp_ge 150 dX5_readPiece_134 (by decide) (fun q6 => ?_) (fun _ => by exfalso; omega)
      exact g_return dX5_readPiece_150 rfl (hPo _ ⟨hMh5, (Fr.sub hFh5 rfl)⟩)
    refine g_icmp_lt 86 dX5_readPiece_57 (by decide) (fun _ => by exfalso; omega) (fun q7 => ?_)
    refine g_aload_n dX5_readPiece_60 rfl ?_
    refine g_cVP (as := []) (c_X5_sign_65  h hM) dX5_readPiece_61 mi_X5_sign in_X5_sign se_X5_sign ml_X5_56 rfl rfl rfl sh_65 rfl rfl (Nat.le_of_ble_eq_true rfl) (fun v8 q9 => ?_)
    obtain ⟨bv8, cv8, zv8⟩ := q9
    refine g_bipush dX5_readPiece_64 (inR_c rfl) (by decide) ?_
    have c78 : G yX5_readPiece cX5_readPiece 5 (none) none Po (10, 600, 0, 0) 78 [some (pR 65), some (pR 90), some (pI 6), some (pI 6), none] [] SH h 0 0 := by
      refine g_aload_n dX5_readPiece_78 rfl ?_
      refine g_iconst dX5_readPiece_79 (inR_c rfl) ?_
      refine g_cVV (as := [_]) (c_X5_fail_65 _ h hM (by omega) (by omega)) dX5_readPiece_80 mi_X5_fail in_X5_fail se_X5_fail ml_X5_60 rfl rfl rfl sh_65 rfl rfl (Nat.le_of_ble_eq_true rfl) (fun h10 q11 => ?_)
      obtain ⟨hMh10, hFh10, az12, bz12⟩ := q11
      obtain ⟨v13, ev13⟩ : ∃ z, z = h10 65 3 := ⟨_, rfl⟩
      have bv13 : 1 ≤ v13 ∧ v13 ≤ 5 := by rw [ev13]; exact ⟨az12, bz12⟩
      refine g_goto 128 dX5_readPiece_83 (by decide) ?_
      refine g_drop 0 ?_
      exact c128 _ hMh10 (Fr.sub hFh10 rfl)
    refine g_icmp_eq 78 dX5_readPiece_66 (by decide) (fun q14 => ?_) (fun q14 => ?_)
    · skip
      refine g_drop 4 ?_
      exact c78 
    · skip
      refine g_aload_n dX5_readPiece_69 rfl ?_
      refine g_cVP (as := []) (c_X5_sign_65  h hM) dX5_readPiece_70 mi_X5_sign in_X5_sign se_X5_sign ml_X5_56 rfl rfl rfl sh_65 rfl rfl (Nat.le_of_ble_eq_true rfl) (fun v15 q16 => ?_)
      obtain ⟨bv15, cv15, zv15⟩ := q16
      have tv15 : v15 = v8 := by rw [zv15, zv8]
      refine g_bipush dX5_readPiece_73 (inR_c rfl) (by decide) ?_
      refine g_icmp_ne 86 dX5_readPiece_75 (by decide) (fun q17 => ?_) (fun q17 => ?_)
      · skip
        refine g_aload_n dX5_readPiece_86 rfl ?_
        refine g_cVP (as := []) (c_X5_sign_65  h hM) dX5_readPiece_87 mi_X5_sign in_X5_sign se_X5_sign ml_X5_56 rfl rfl rfl sh_65 rfl rfl (Nat.le_of_ble_eq_true rfl) (fun v18 q19 => ?_)
        obtain ⟨bv18, cv18, zv18⟩ := q19
        have tv18 : v18 = v8 := by rw [zv18, zv8]
        refine g_bipush dX5_readPiece_90 (inR_c rfl) (by decide) ?_
        refine g_icmp_ne 122 dX5_readPiece_92 (by decide) (fun q20 => ?_) (fun _ => by exfalso; omega)
        refine g_aload_n dX5_readPiece_122 rfl ?_
        refine g_aload_n dX5_readPiece_123 rfl ?_
        refine g_iload_n dX5_readPiece_124 rfl (fun _ => ?_)
        refine g_cVV (as := [_, _]) (c_X5_readComparison_65_90_k6  h hM) dX5_readPiece_125 mi_X5_readComparison in_X5_readComparison se_X5_readComparison ml_X5_100 rfl rfl rfl sh_65 rfl rfl (Nat.le_of_ble_eq_true rfl) (fun h21 q22 => ?_)
        obtain ⟨hMh21, hFh21⟩ := q22
        refine g_drop 0 ?_
        refine g_drop 4 ?_
        exact c128 _ hMh21 (Fr.sub hFh21 rfl)
      · skip
        refine g_drop 4 ?_
        exact c78 
  · skip
    exact g_return dX5_readPiece_7 rfl (hPo _ ⟨hM, Fr.rf⟩)
set_option maxRecDepth 100000 in
set_option maxHeartbeats 4000000 in
theorem c_X2_aim_90 (x1 x2 : Int) (h : MEM) (hM : MBx h) (bx1 : -1 ≤ x1) (dx1 : x1 ≤ 199) (bx2 : -1 ≤ x2) (dx2 : x2 ≤ 200) : CV yX2_aim cX2_aim 3 (none) 1 [pR 90, pI x1, pI x2] h (fun h' => MBx h' ∧ Fr [(96, 0)] h h') := by
  refine CV.of (L0 := [some (pR 90), some (pI x1), some (pI x2)]) rfl (Nat.le_of_ble_eq_true rfl) rfl (fun Po hPo hav => ?_)
  refine g_iload_n dX2_aim_0 rfl (fun _ => ?_)
  refine g_if_lt 19 dX2_aim_1 (by decide) (fun q1 => ?_) (fun q1 => ?_)
  · skip
    exact g_return dX2_aim_19 rfl (hPo _ ⟨hM, Fr.rf⟩)
  · skip
    refine g_iload_n dX2_aim_4 rfl (fun _ => ?_)
    refine g_aload_n dX2_aim_5 rfl ?_
    refine gI_X2_15 rfl dX2_aim_6 sh_90 (m_90_1 hM) (fun v2 ev2 bv2 cv2 => ?_)
    refine g_icmp_ge 19 dX2_aim_9 (by decide) (fun q3 => ?_) (fun q3 => ?_)
    · skip
      exact g_return dX2_aim_19 rfl (hPo _ ⟨hM, Fr.rf⟩)
    · skip
      refine g_aload_n dX2_aim_12 rfl ?_
      refine gR_X2_34 rfl dX2_aim_13 sh_90 (b := 96) (m_90_7 hM) ?_
      refine g_iload_n dX2_aim_16 rfl (fun _ => ?_)
      refine g_iload_n dX2_aim_17 rfl (fun _ => ?_)
      refine g_iastB dX2_aim_18 sh_96 (by omega) (by omega) (fun h4 eh4 => ?_)
      have hFh4 := Fr.ar eh4
      have hMh4 := u_96 hM eh4 (by omega) (by omega)
      exact g_return dX2_aim_19 rfl (hPo _ ⟨hMh4, (Fr.sub hFh4 rfl)⟩)
set_option maxRecDepth 100000 in
set_option maxHeartbeats 4000000 in
theorem c_X5_readPart_65_90_k6 (h : MEM) (hM : MBx h) : CV yX5_readPart cX5_readPart 6 (none) 11 [pR 65, pR 90, pI 6] h (fun h' => MBx h' ∧ Fr [(65, 3), (65, 4), (65, 5), (90, 2), (95, 0), (96, 0)] h h') := by
  refine CV.of (L0 := [some (pR 65), some (pR 90), some (pI 6), none, none, none]) rfl (Nat.le_of_ble_eq_true rfl) rfl (fun Po hPo hav => ?_)
  refine g_aload_n dX5_readPart_0 rfl ?_
  refine g_aload_n dX5_readPart_1 rfl ?_
  refine g_iload_n dX5_readPart_2 rfl (fun _ => ?_)
  refine g_cVV (as := [_, _]) (c_X5_readPiece_65_90_k6  h hM) dX5_readPart_3 mi_X5_readPiece in_X5_readPiece se_X5_readPiece ml_X5_97 rfl rfl rfl sh_65 rfl rfl (Nat.le_of_ble_eq_true rfl) (fun h1 q2 => ?_)
  obtain ⟨hMh1, hFh1⟩ := q2
  refine g_iconst dX5_readPart_6 (inR_c rfl) ?_
  refine g_istore_n dX5_readPart_7 (by decide) rfl ?_
  refine g_iconst dX5_readPart_8 (inR_c rfl) ?_
  have c11 : ∀ (n : Nat) (y3 y4 : Int) (h5 : MEM), MBx h5 → Fr [(65, 3), (65, 4), (65, 5), (90, 2), (95, 0), (96, 0)] h1 h5 → -1 ≤ y3 → y3 ≤ 199 → 0 ≤ y4 → y4 ≤ 200 → 200 - y4 < (n : Int) → G yX5_readPart cX5_readPart 6 (none) none Po (11, 660, 0, 0) 11 [some (pR 65), some (pR 90), some (pI 6), some (pI y3), some (pI y4), none] [] SH h5 0 0 := by
    intro n
    induction n with
    | zero =>
      intro y3 y4 h5 hMh5 hFh5 by3 dy3 by4 dy4 hn
      exfalso; omega
    | succ n ih11 =>
      intro y3 y4 h5 hMh5 hFh5 by3 dy3 by4 dy4 hn
      refine g_iload dX5_readPart_11 rfl (fun _ => ?_)
      refine g_sipush dX5_readPart_13 (inR_c rfl) (by decide) ?_
      refine g_icmp_ge 75 dX5_readPart_16 (by decide) (fun q6 => ?_) (fun q6 => ?_)
      · skip
        refine g_aload_n dX5_readPart_75 rfl ?_
        refine g_iload_n dX5_readPart_76 rfl (fun _ => ?_)
        refine g_aload_n dX5_readPart_77 rfl ?_
        refine gI_X5_45 rfl dX5_readPart_78 sh_90 (m_90_1 hMh5) (fun v7 ev7 bv7 cv7 => ?_)
        refine g_cVV (as := [_, _]) (c_X2_aim_90 _ _ h5 hMh5 (by omega) (by omega) (by omega) (by omega)) dX5_readPart_81 mi_X2_aim in_X2_aim se_X2_aim ml_X5_93 rfl rfl rfl sh_90 rfl rfl (Nat.le_of_ble_eq_true rfl) (fun h8 q9 => ?_)
        obtain ⟨hMh8, hFh8⟩ := q9
        exact g_return dX5_readPart_84 rfl (hPo _ ⟨hMh8, (Fr.tr (Fr.tr (Fr.sub hFh1 rfl) hFh5 rfl) hFh8 rfl)⟩)
      · skip
        refine g_aload_n dX5_readPart_19 rfl ?_
        refine gI_X5_22 rfl dX5_readPart_20 sh_65 (m_65_3 hMh5) (fun v10 ev10 bv10 cv10 => ?_)
        refine g_if_ne 75 dX5_readPart_23 (by decide) (fun q11 => ?_) (fun q11 => ?_)
        · skip
          refine g_aload_n dX5_readPart_75 rfl ?_
          refine g_iload_n dX5_readPart_76 rfl (fun _ => ?_)
          refine g_aload_n dX5_readPart_77 rfl ?_
          refine gI_X5_45 rfl dX5_readPart_78 sh_90 (m_90_1 hMh5) (fun v12 ev12 bv12 cv12 => ?_)
          refine g_cVV (as := [_, _]) (c_X2_aim_90 _ _ h5 hMh5 (by omega) (by omega) (by omega) (by omega)) dX5_readPart_81 mi_X2_aim in_X2_aim se_X2_aim ml_X5_93 rfl rfl rfl sh_90 rfl rfl (Nat.le_of_ble_eq_true rfl) (fun h13 q14 => ?_)
          obtain ⟨hMh13, hFh13⟩ := q14
          exact g_return dX5_readPart_84 rfl (hPo _ ⟨hMh13, (Fr.tr (Fr.tr (Fr.sub hFh1 rfl) hFh5 rfl) hFh13 rfl)⟩)
        · skip
          refine g_aload_n dX5_readPart_26 rfl ?_
          refine g_cVP (as := []) (c_X5_sign_65  h5 hMh5) dX5_readPart_27 mi_X5_sign in_X5_sign se_X5_sign ml_X5_56 rfl rfl rfl sh_65 rfl rfl (Nat.le_of_ble_eq_true rfl) (fun v15 q16 => ?_)
          obtain ⟨bv15, cv15, zv15⟩ := q16
          refine g_bipush dX5_readPart_30 (inR_c rfl) (by decide) ?_
          refine g_icmp_ne 75 dX5_readPart_32 (by decide) (fun q17 => ?_) (fun q17 => ?_)
          · skip
            refine g_aload_n dX5_readPart_75 rfl ?_
            refine g_iload_n dX5_readPart_76 rfl (fun _ => ?_)
            refine g_aload_n dX5_readPart_77 rfl ?_
            refine gI_X5_45 rfl dX5_readPart_78 sh_90 (m_90_1 hMh5) (fun v18 ev18 bv18 cv18 => ?_)
            refine g_cVV (as := [_, _]) (c_X2_aim_90 _ _ h5 hMh5 (by omega) (by omega) (by omega) (by omega)) dX5_readPart_81 mi_X2_aim in_X2_aim se_X2_aim ml_X5_93 rfl rfl rfl sh_90 rfl rfl (Nat.le_of_ble_eq_true rfl) (fun h19 q20 => ?_)
            obtain ⟨hMh19, hFh19⟩ := q20
            exact g_return dX5_readPart_84 rfl (hPo _ ⟨hMh19, (Fr.tr (Fr.tr (Fr.sub hFh1 rfl) hFh5 rfl) hFh19 rfl)⟩)
          · skip
            refine g_aload_n dX5_readPart_35 rfl ?_
            refine g_dup dX5_readPart_36 rfl ?_
            refine gI_X5_19 rfl dX5_readPart_37 sh_65 (m_65_2 hMh5) (fun v21 ev21 bv21 cv21 => ?_)
            refine g_iconst dX5_readPart_40 (inR_c rfl) ?_
            refine g_iaddF dX5_readPart_41 (fun v22 bv22 cv22 => ?_)
            refine pI_X5_19 rfl dX5_readPart_42 sh_65 (fun h23 eh23 => ?_)
            have hFh23 := Fr.st eh23
            have hMh23 := u_65_2 hMh5 eh23 (by omega) (by omega)
            refine g_aload_n dX5_readPart_45 rfl ?_
            refine g_iconst dX5_readPart_46 (inR_c rfl) ?_
            refine g_iconst dX5_readPart_47 (inR_c rfl) ?_
            refine g_cV (as := [_, _]) (c_X2_addStep_90 _ _ h23 hMh23 (by omega) (by omega) (by omega) (by omega)) dX5_readPart_48 mi_X2_addStep in_X2_addStep se_X2_addStep ml_X5_90 rfl rfl rfl sh_90 rfl rfl (Nat.le_of_ble_eq_true rfl) (fun v24 h25 q26 => ?_)
            obtain ⟨hMh25, hFh25, bv24, cv24⟩ := q26
            refine g_istore dX5_readPart_51 (by decide) rfl ?_
            refine g_aload_n dX5_readPart_53 rfl ?_
            refine g_iload_n dX5_readPart_54 rfl (fun _ => ?_)
            refine g_iload dX5_readPart_55 rfl (fun _ => ?_)
            refine g_cVV (as := [_, _]) (c_X2_aim_90 _ _ h25 hMh25 (by omega) (by omega) (by omega) (by omega)) dX5_readPart_57 mi_X2_aim in_X2_aim se_X2_aim ml_X5_93 rfl rfl rfl sh_90 rfl rfl (Nat.le_of_ble_eq_true rfl) (fun h27 q28 => ?_)
            obtain ⟨hMh27, hFh27⟩ := q28
            refine g_iload dX5_readPart_60 rfl (fun _ => ?_)
            refine g_istore_n dX5_readPart_62 (by decide) rfl ?_
            refine g_aload_n dX5_readPart_63 rfl ?_
            refine g_aload_n dX5_readPart_64 rfl ?_
            refine g_iload_n dX5_readPart_65 rfl (fun _ => ?_)
            refine g_cVV (as := [_, _]) (c_X5_readPiece_65_90_k6  h27 hMh27) dX5_readPart_66 mi_X5_readPiece in_X5_readPiece se_X5_readPiece ml_X5_97 rfl rfl rfl sh_65 rfl rfl (Nat.le_of_ble_eq_true rfl) (fun h29 q30 => ?_)
            obtain ⟨hMh29, hFh29⟩ := q30
            refine g_iincB dX5_readPart_69 rfl rfl (by omega) (by omega) ?_
            refine g_goto 11 dX5_readPart_72 (by decide) ?_
            refine g_drop 5 ?_
            exact ih11 _ _ _ hMh29 (Fr.tr (Fr.tr (Fr.tr (Fr.tr (Fr.sub hFh5 rfl) hFh23 rfl) hFh25 rfl) hFh27 rfl) hFh29 rfl) (by omega) (by omega) (by omega) (by omega) (by omega)
  refine g_istore dX5_readPart_9 (by decide) rfl ?_
  exact c11 201 _ _ _ hMh1 Fr.rf (by omega) (by omega) (by omega) (by omega) (by omega)
set_option maxRecDepth 100000 in
set_option maxHeartbeats 4000000 in
theorem c_X5_readCondition_65_90_k6 (h : MEM) (hM : MBx h) : CV yX5_readCondition cX5_readCondition 6 (none) 12 [pR 65, pR 90, pI 6] h (fun h' => MBx h' ∧ Fr [(65, 3), (65, 4), (65, 5), (90, 2), (95, 0), (96, 0)] h h') := by
  refine CV.of (L0 := [some (pR 65), some (pR 90), some (pI 6), none, none, none]) rfl (Nat.le_of_ble_eq_true rfl) rfl (fun Po hPo hav => ?_)
  refine g_aload_n dX5_readCondition_0 rfl ?_
  refine g_aload_n dX5_readCondition_1 rfl ?_
  refine g_iload_n dX5_readCondition_2 rfl (fun _ => ?_)
  refine g_cVV (as := [_, _]) (c_X5_readPart_65_90_k6  h hM) dX5_readCondition_3 mi_X5_readPart in_X5_readPart se_X5_readPart ml_X5_87 rfl rfl rfl sh_65 rfl rfl (Nat.le_of_ble_eq_true rfl) (fun h1 q2 => ?_)
  obtain ⟨hMh1, hFh1⟩ := q2
  refine g_iconst dX5_readCondition_6 (inR_c rfl) ?_
  refine g_istore_n dX5_readCondition_7 (by decide) rfl ?_
  refine g_iconst dX5_readCondition_8 (inR_c rfl) ?_
  have c11 : ∀ (n : Nat) (y3 y4 : Int) (h5 : MEM), MBx h5 → Fr [(65, 3), (65, 4), (65, 5), (90, 2), (95, 0), (96, 0)] h1 h5 → -1 ≤ y3 → y3 ≤ 199 → 0 ≤ y4 → y4 ≤ 200 → 200 - y4 < (n : Int) → G yX5_readCondition cX5_readCondition 6 (none) none Po (12, 720, 0, 0) 11 [some (pR 65), some (pR 90), some (pI 6), some (pI y3), some (pI y4), none] [] SH h5 0 0 := by
    intro n
    induction n with
    | zero =>
      intro y3 y4 h5 hMh5 hFh5 by3 dy3 by4 dy4 hn
      exfalso; omega
    | succ n ih11 =>
      intro y3 y4 h5 hMh5 hFh5 by3 dy3 by4 dy4 hn
      refine g_iload dX5_readCondition_11 rfl (fun _ => ?_)
      refine g_sipush dX5_readCondition_13 (inR_c rfl) (by decide) ?_
      refine g_icmp_ge 75 dX5_readCondition_16 (by decide) (fun q6 => ?_) (fun q6 => ?_)
      · skip
        refine g_aload_n dX5_readCondition_75 rfl ?_
        refine g_iload_n dX5_readCondition_76 rfl (fun _ => ?_)
        refine g_aload_n dX5_readCondition_77 rfl ?_
        refine gI_X5_45 rfl dX5_readCondition_78 sh_90 (m_90_1 hMh5) (fun v7 ev7 bv7 cv7 => ?_)
        refine g_cVV (as := [_, _]) (c_X2_aim_90 _ _ h5 hMh5 (by omega) (by omega) (by omega) (by omega)) dX5_readCondition_81 mi_X2_aim in_X2_aim se_X2_aim ml_X5_93 rfl rfl rfl sh_90 rfl rfl (Nat.le_of_ble_eq_true rfl) (fun h8 q9 => ?_)
        obtain ⟨hMh8, hFh8⟩ := q9
        exact g_return dX5_readCondition_84 rfl (hPo _ ⟨hMh8, (Fr.tr (Fr.tr (Fr.sub hFh1 rfl) hFh5 rfl) hFh8 rfl)⟩)
      · skip
        refine g_aload_n dX5_readCondition_19 rfl ?_
        refine gI_X5_22 rfl dX5_readCondition_20 sh_65 (m_65_3 hMh5) (fun v10 ev10 bv10 cv10 => ?_)
        refine g_if_ne 75 dX5_readCondition_23 (by decide) (fun q11 => ?_) (fun q11 => ?_)
        · skip
          refine g_aload_n dX5_readCondition_75 rfl ?_
          refine g_iload_n dX5_readCondition_76 rfl (fun _ => ?_)
          refine g_aload_n dX5_readCondition_77 rfl ?_
          refine gI_X5_45 rfl dX5_readCondition_78 sh_90 (m_90_1 hMh5) (fun v12 ev12 bv12 cv12 => ?_)
          refine g_cVV (as := [_, _]) (c_X2_aim_90 _ _ h5 hMh5 (by omega) (by omega) (by omega) (by omega)) dX5_readCondition_81 mi_X2_aim in_X2_aim se_X2_aim ml_X5_93 rfl rfl rfl sh_90 rfl rfl (Nat.le_of_ble_eq_true rfl) (fun h13 q14 => ?_)
          obtain ⟨hMh13, hFh13⟩ := q14
          exact g_return dX5_readCondition_84 rfl (hPo _ ⟨hMh13, (Fr.tr (Fr.tr (Fr.sub hFh1 rfl) hFh5 rfl) hFh13 rfl)⟩)
        · skip
          refine g_aload_n dX5_readCondition_26 rfl ?_
          refine g_cVP (as := []) (c_X5_sign_65  h5 hMh5) dX5_readCondition_27 mi_X5_sign in_X5_sign se_X5_sign ml_X5_56 rfl rfl rfl sh_65 rfl rfl (Nat.le_of_ble_eq_true rfl) (fun v15 q16 => ?_)
          obtain ⟨bv15, cv15, zv15⟩ := q16
          refine g_bipush dX5_readCondition_30 (inR_c rfl) (by decide) ?_
          refine g_icmp_ne 75 dX5_readCondition_32 (by decide) (fun q17 => ?_) (fun q17 => ?_)
          · skip
            refine g_aload_n dX5_readCondition_75 rfl ?_
            refine g_iload_n dX5_readCondition_76 rfl (fun _ => ?_)
            refine g_aload_n dX5_readCondition_77 rfl ?_
            refine gI_X5_45 rfl dX5_readCondition_78 sh_90 (m_90_1 hMh5) (fun v18 ev18 bv18 cv18 => ?_)
            refine g_cVV (as := [_, _]) (c_X2_aim_90 _ _ h5 hMh5 (by omega) (by omega) (by omega) (by omega)) dX5_readCondition_81 mi_X2_aim in_X2_aim se_X2_aim ml_X5_93 rfl rfl rfl sh_90 rfl rfl (Nat.le_of_ble_eq_true rfl) (fun h19 q20 => ?_)
            obtain ⟨hMh19, hFh19⟩ := q20
            exact g_return dX5_readCondition_84 rfl (hPo _ ⟨hMh19, (Fr.tr (Fr.tr (Fr.sub hFh1 rfl) hFh5 rfl) hFh19 rfl)⟩)
          · skip
            refine g_aload_n dX5_readCondition_35 rfl ?_
            refine g_dup dX5_readCondition_36 rfl ?_
            refine gI_X5_19 rfl dX5_readCondition_37 sh_65 (m_65_2 hMh5) (fun v21 ev21 bv21 cv21 => ?_)
            refine g_iconst dX5_readCondition_40 (inR_c rfl) ?_
            refine g_iaddF dX5_readCondition_41 (fun v22 bv22 cv22 => ?_)
            refine pI_X5_19 rfl dX5_readCondition_42 sh_65 (fun h23 eh23 => ?_)
            have hFh23 := Fr.st eh23
            have hMh23 := u_65_2 hMh5 eh23 (by omega) (by omega)
            refine g_aload_n dX5_readCondition_45 rfl ?_
            refine g_iconst dX5_readCondition_46 (inR_c rfl) ?_
            refine g_iconst dX5_readCondition_47 (inR_c rfl) ?_
            refine g_cV (as := [_, _]) (c_X2_addStep_90 _ _ h23 hMh23 (by omega) (by omega) (by omega) (by omega)) dX5_readCondition_48 mi_X2_addStep in_X2_addStep se_X2_addStep ml_X5_90 rfl rfl rfl sh_90 rfl rfl (Nat.le_of_ble_eq_true rfl) (fun v24 h25 q26 => ?_)
            obtain ⟨hMh25, hFh25, bv24, cv24⟩ := q26
            refine g_istore dX5_readCondition_51 (by decide) rfl ?_
            refine g_aload_n dX5_readCondition_53 rfl ?_
            refine g_iload_n dX5_readCondition_54 rfl (fun _ => ?_)
            refine g_iload dX5_readCondition_55 rfl (fun _ => ?_)
            refine g_cVV (as := [_, _]) (c_X2_aim_90 _ _ h25 hMh25 (by omega) (by omega) (by omega) (by omega)) dX5_readCondition_57 mi_X2_aim in_X2_aim se_X2_aim ml_X5_93 rfl rfl rfl sh_90 rfl rfl (Nat.le_of_ble_eq_true rfl) (fun h27 q28 => ?_)
            obtain ⟨hMh27, hFh27⟩ := q28
            refine g_iload dX5_readCondition_60 rfl (fun _ => ?_)
            refine g_istore_n dX5_readCondition_62 (by decide) rfl ?_
            refine g_aload_n dX5_readCondition_63 rfl ?_
            refine g_aload_n dX5_readCondition_64 rfl ?_
            refine g_iload_n dX5_readCondition_65 rfl (fun _ => ?_)
            refine g_cVV (as := [_, _]) (c_X5_readPart_65_90_k6  h27 hMh27) dX5_readCondition_66 mi_X5_readPart in_X5_readPart se_X5_readPart ml_X5_87 rfl rfl rfl sh_65 rfl rfl (Nat.le_of_ble_eq_true rfl) (fun h29 q30 => ?_)
            obtain ⟨hMh29, hFh29⟩ := q30
            refine g_iincB dX5_readCondition_69 rfl rfl (by omega) (by omega) ?_
            refine g_goto 11 dX5_readCondition_72 (by decide) ?_
            refine g_drop 5 ?_
            exact ih11 _ _ _ hMh29 (Fr.tr (Fr.tr (Fr.tr (Fr.tr (Fr.sub hFh5 rfl) hFh23 rfl) hFh25 rfl) hFh27 rfl) hFh29 rfl) (by omega) (by omega) (by omega) (by omega) (by omega)
  refine g_istore dX5_readCondition_9 (by decide) rfl ?_
  exact c11 201 _ _ _ hMh1 Fr.rf (by omega) (by omega) (by omega) (by omega) (by omega)
set_option maxRecDepth 100000 in
set_option maxHeartbeats 4000000 in
theorem c_X5_readPiece_65_90_k5 (h : MEM) (hM : MBx h) : CV yX5_readPiece cX5_readPiece 5 (none) 13 [pR 65, pR 90, pI 5] h (fun h' => MBx h' ∧ Fr [(65, 3), (65, 4), (65, 5), (90, 2), (95, 0), (96, 0)] h h') := by
  refine CV.of (L0 := [some (pR 65), some (pR 90), some (pI 5), none, none]) rfl (Nat.le_of_ble_eq_true rfl) rfl (fun Po hPo hav => ?_)
  refine g_aload_n dX5_readPiece_0 rfl ?_
  refine gI_X5_22 rfl dX5_readPiece_1 sh_65 (m_65_3 hM) (fun v1 ev1 bv1 cv1 => ?_)
  refine g_if_eq 8 dX5_readPiece_4 (by decide) (fun q2 => ?_) (fun q2 => ?_)
  · skip
    refine g_iload_n dX5_readPiece_8 rfl (fun _ => ?_)
    refine g_istore_n dX5_readPiece_9 (by decide) rfl ?_
    refine g_iconst dX5_readPiece_10 (inR_c rfl) ?_
    have c13 : ∀ (n : Nat) (y3 y4 : Int) (h5 : MEM), MBx h5 → Fr [(65, 3)] h h5 → 5 ≤ y3 → y3 ≤ 6 → 0 ≤ y4 → y4 ≤ 6 → 6 - y3 < (n : Int) → G yX5_readPiece cX5_readPiece 5 (none) none Po (13, 780, 0, 0) 13 [some (pR 65), some (pR 90), some (pI 5), some (pI y3), some (pI y4)] [] SH h5 0 0 := by
      intro n
      induction n with
      | zero =>
        intro y3 y4 h5 hMh5 hFh5 by3 dy3 by4 dy4 hn
        exfalso; omega
      | succ n ih13 =>
        intro y3 y4 h5 hMh5 hFh5 by3 dy3 by4 dy4 hn
        refine g_iload dX5_readPiece_13 rfl (fun _ => ?_)
        refine g_bipush dX5_readPiece_15 (inR_c rfl) (by decide) ?_
        have c54 : G yX5_readPiece cX5_readPiece 5 (none) none Po (13, 780, 0, 0) 54 [some (pR 65), some (pR 90), some (pI 5), some (pI y3), none] [] SH h5 0 0 := by
          refine g_iload_n dX5_readPiece_54 rfl (fun _ => ?_)
          refine g_bipush dX5_readPiece_55 (inR_c rfl) (by decide) ?_
          have c128 : ∀ (h6 : MEM), MBx h6 → Fr [(65, 3), (65, 4), (65, 5), (90, 2), (95, 0), (96, 0)] h5 h6 → G yX5_readPiece cX5_readPiece 5 (none) none Po (13, 780, 0, 0) 128 [none, some (pR 90), some (pI 5), some (pI y3), none] [] SH h6 0 0 := by
            intro h6 hMh6 hFh6
            refine g_iload_n dX5_readPiece_128 rfl (fun _ => ?_)
            have c131 : ∀ (n : Nat) (y7 : Int) (h8 : MEM), MBx h8 → Fr [(90, 2), (95, 0), (96, 0)] h6 h8 → 5 ≤ y7 → y7 ≤ 6 → 6 - y7 < (n : Int) → G yX5_readPiece cX5_readPiece 5 (none) none Po (13, 780, 0, 0) 131 [none, some (pR 90), none, some (pI y3), some (pI y7)] [] SH h8 0 0 := by
              intro n
              induction n with
              | zero =>
                intro y7 h8 hMh8 hFh8 by7 dy7 hn
                exfalso; omega
              | succ n ih131 =>
                intro y7 h8 hMh8 hFh8 by7 dy7 hn
                refine g_iload dX5_readPiece_131 rfl (fun _ => ?_)
                refine g_iload_n dX5_readPiece_133 rfl (fun _ => ?_)
                refine g_icmp_ge 150 dX5_readPiece_134 (by decide) (fun q9 => ?_) (fun q9 => ?_)
                · skip
                  exact g_return dX5_readPiece_150 rfl (hPo _ ⟨hMh8, (Fr.tr (Fr.tr (Fr.sub hFh5 rfl) hFh6 rfl) hFh8 rfl)⟩)
                · skip
                  refine g_aload_n dX5_readPiece_137 rfl ?_
                  refine g_iconst dX5_readPiece_138 (inR_c rfl) ?_
                  refine g_iconst dX5_readPiece_139 (inR_c rfl) ?_
                  refine g_cV (as := [_, _]) (c_X2_addStep_90 _ _ h8 hMh8 (by omega) (by omega) (by omega) (by omega)) dX5_readPiece_140 mi_X2_addStep in_X2_addStep se_X2_addStep ml_X5_90 rfl rfl rfl sh_90 rfl rfl (Nat.le_of_ble_eq_true rfl) (fun v10 h11 q12 => ?_)
                  obtain ⟨hMh11, hFh11, bv10, cv10⟩ := q12
                  refine g_pop dX5_readPiece_143 rfl ?_
                  refine g_iincB dX5_readPiece_144 rfl rfl (by omega) (by omega) ?_
                  refine g_goto 131 dX5_readPiece_147 (by decide) ?_
                  exact ih131 _ _ hMh11 (Fr.tr (Fr.sub hFh8 rfl) hFh11 rfl) (by omega) (by omega) (by omega)
            refine g_istore dX5_readPiece_129 (by decide) rfl ?_
            refine g_drop 2 ?_
            exact c131 2 _ _ hMh6 Fr.rf (by omega) (by omega) (by omega)
          refine g_icmp_lt 86 dX5_readPiece_57 (by decide) (fun q13 => ?_) (fun q13 => ?_)
          · skip
            refine g_aload_n dX5_readPiece_86 rfl ?_
            refine g_cVP (as := []) (c_X5_sign_65  h5 hMh5) dX5_readPiece_87 mi_X5_sign in_X5_sign se_X5_sign ml_X5_56 rfl rfl rfl sh_65 rfl rfl (Nat.le_of_ble_eq_true rfl) (fun v14 q15 => ?_)
            obtain ⟨bv14, cv14, zv14⟩ := q15
            refine g_bipush dX5_readPiece_90 (inR_c rfl) (by decide) ?_
            refine g_icmp_ne 122 dX5_readPiece_92 (by decide) (fun q16 => ?_) (fun q16 => ?_)
            · skip
              refine g_aload_n dX5_readPiece_122 rfl ?_
              refine g_aload_n dX5_readPiece_123 rfl ?_
              refine g_iload_n dX5_readPiece_124 rfl (fun _ => ?_)
              have q17 : y3 = 5 := by omega
              refine g_stk (S' := [(pI 5), (pR 90), (pR 65)]) (by rw [q17]) ?_
              refine g_cVV (as := [_, _]) (c_X5_readComparison_65_90_k5  h5 hMh5) dX5_readPiece_125 mi_X5_readComparison in_X5_readComparison se_X5_readComparison ml_X5_100 rfl rfl rfl sh_65 rfl rfl (Nat.le_of_ble_eq_true rfl) (fun h18 q19 => ?_)
              obtain ⟨hMh18, hFh18⟩ := q19
              refine g_drop 0 ?_
              exact c128 _ hMh18 (Fr.sub hFh18 rfl)
            · skip
              refine g_aload_n dX5_readPiece_95 rfl ?_
              refine g_dup dX5_readPiece_96 rfl ?_
              refine gI_X5_19 rfl dX5_readPiece_97 sh_65 (m_65_2 hMh5) (fun v20 ev20 bv20 cv20 => ?_)
              refine g_iconst dX5_readPiece_100 (inR_c rfl) ?_
              refine g_iaddF dX5_readPiece_101 (fun v21 bv21 cv21 => ?_)
              refine pI_X5_19 rfl dX5_readPiece_102 sh_65 (fun h22 eh22 => ?_)
              have hFh22 := Fr.st eh22
              have hMh22 := u_65_2 hMh5 eh22 (by omega) (by omega)
              refine g_aload_n dX5_readPiece_105 rfl ?_
              refine g_aload_n dX5_readPiece_106 rfl ?_
              refine g_iload_n dX5_readPiece_107 rfl (fun _ => ?_)
              refine g_iconst dX5_readPiece_108 (inR_c rfl) ?_
              refine g_iaddB dX5_readPiece_109 (by omega) (by omega) ?_
              have q23 : (y3 + 1) = 6 := by omega
              refine g_stk (S' := [(pI 6), (pR 90), (pR 65)]) (by rw [q23]) ?_
              refine g_cVV (as := [_, _]) (c_X5_readCondition_65_90_k6  h22 hMh22) dX5_readPiece_110 mi_X5_readCondition in_X5_readCondition se_X5_readCondition ml_X5_81 rfl rfl rfl sh_65 rfl rfl (Nat.le_of_ble_eq_true rfl) (fun h24 q25 => ?_)
              obtain ⟨hMh24, hFh24⟩ := q25
              refine g_aload_n dX5_readPiece_113 rfl ?_
              refine g_bipush dX5_readPiece_114 (inR_c rfl) (by decide) ?_
              refine g_cVV (as := [_]) (c_X5_expect_65 _ h24 hMh24 (by omega) (by omega)) dX5_readPiece_116 mi_X5_expect in_X5_expect se_X5_expect ml_X5_52 rfl rfl rfl sh_65 rfl rfl (Nat.le_of_ble_eq_true rfl) (fun h26 q27 => ?_)
              obtain ⟨hMh26, hFh26⟩ := q27
              refine g_goto 128 dX5_readPiece_119 (by decide) ?_
              refine g_drop 0 ?_
              exact c128 _ hMh26 (Fr.tr (Fr.tr (Fr.sub hFh22 rfl) hFh24 rfl) hFh26 rfl)
          · skip
            refine g_aload_n dX5_readPiece_60 rfl ?_
            refine g_cVP (as := []) (c_X5_sign_65  h5 hMh5) dX5_readPiece_61 mi_X5_sign in_X5_sign se_X5_sign ml_X5_56 rfl rfl rfl sh_65 rfl rfl (Nat.le_of_ble_eq_true rfl) (fun v28 q29 => ?_)
            obtain ⟨bv28, cv28, zv28⟩ := q29
            refine g_bipush dX5_readPiece_64 (inR_c rfl) (by decide) ?_
            have c78 : G yX5_readPiece cX5_readPiece 5 (none) none Po (13, 780, 0, 0) 78 [some (pR 65), some (pR 90), some (pI 5), some (pI y3), none] [] SH h5 0 0 := by
              refine g_aload_n dX5_readPiece_78 rfl ?_
              refine g_iconst dX5_readPiece_79 (inR_c rfl) ?_
              refine g_cVV (as := [_]) (c_X5_fail_65 _ h5 hMh5 (by omega) (by omega)) dX5_readPiece_80 mi_X5_fail in_X5_fail se_X5_fail ml_X5_60 rfl rfl rfl sh_65 rfl rfl (Nat.le_of_ble_eq_true rfl) (fun h30 q31 => ?_)
              obtain ⟨hMh30, hFh30, az32, bz32⟩ := q31
              obtain ⟨v33, ev33⟩ : ∃ z, z = h30 65 3 := ⟨_, rfl⟩
              have bv33 : 1 ≤ v33 ∧ v33 ≤ 5 := by rw [ev33]; exact ⟨az32, bz32⟩
              refine g_goto 128 dX5_readPiece_83 (by decide) ?_
              refine g_drop 0 ?_
              exact c128 _ hMh30 (Fr.sub hFh30 rfl)
            refine g_icmp_eq 78 dX5_readPiece_66 (by decide) (fun q34 => ?_) (fun q34 => ?_)
            · skip
              exact c78 
            · skip
              refine g_aload_n dX5_readPiece_69 rfl ?_
              refine g_cVP (as := []) (c_X5_sign_65  h5 hMh5) dX5_readPiece_70 mi_X5_sign in_X5_sign se_X5_sign ml_X5_56 rfl rfl rfl sh_65 rfl rfl (Nat.le_of_ble_eq_true rfl) (fun v35 q36 => ?_)
              obtain ⟨bv35, cv35, zv35⟩ := q36
              have tv35 : v35 = v28 := by rw [zv35, zv28]
              refine g_bipush dX5_readPiece_73 (inR_c rfl) (by decide) ?_
              refine g_icmp_ne 86 dX5_readPiece_75 (by decide) (fun q37 => ?_) (fun q37 => ?_)
              · skip
                refine g_aload_n dX5_readPiece_86 rfl ?_
                refine g_cVP (as := []) (c_X5_sign_65  h5 hMh5) dX5_readPiece_87 mi_X5_sign in_X5_sign se_X5_sign ml_X5_56 rfl rfl rfl sh_65 rfl rfl (Nat.le_of_ble_eq_true rfl) (fun v38 q39 => ?_)
                obtain ⟨bv38, cv38, zv38⟩ := q39
                have tv38 : v38 = v28 := by rw [zv38, zv28]
                refine g_bipush dX5_readPiece_90 (inR_c rfl) (by decide) ?_
                refine g_icmp_ne 122 dX5_readPiece_92 (by decide) (fun q40 => ?_) (fun _ => by exfalso; omega)
                refine g_aload_n dX5_readPiece_122 rfl ?_
                refine g_aload_n dX5_readPiece_123 rfl ?_
                refine g_iload_n dX5_readPiece_124 rfl (fun _ => ?_)
                have q41 : y3 = 6 := by omega
                refine g_stk (S' := [(pI 6), (pR 90), (pR 65)]) (by rw [q41]) ?_
                refine g_cVV (as := [_, _]) (c_X5_readComparison_65_90_k6  h5 hMh5) dX5_readPiece_125 mi_X5_readComparison in_X5_readComparison se_X5_readComparison ml_X5_100 rfl rfl rfl sh_65 rfl rfl (Nat.le_of_ble_eq_true rfl) (fun h42 q43 => ?_)
                obtain ⟨hMh42, hFh42⟩ := q43
                refine g_drop 0 ?_
                exact c128 _ hMh42 (Fr.sub hFh42 rfl)
              · skip
                exact c78 
        refine g_icmp_ge 54 dX5_readPiece_17 (by decide) (fun q44 => ?_) (fun q44 => ?_)
        · skip
          refine g_drop 4 ?_
          exact c54 
        · skip
          refine g_iload_n dX5_readPiece_20 rfl (fun _ => ?_)
          refine g_bipush dX5_readPiece_21 (inR_c rfl) (by decide) ?_
          refine g_icmp_ge 54 dX5_readPiece_23 (by decide) (fun q45 => ?_) (fun q45 => ?_)
          · skip
            refine g_drop 4 ?_
            exact c54 
          · skip
            refine g_aload_n dX5_readPiece_26 rfl ?_
            refine g_cVP (as := []) (c_X5_sign_65  h5 hMh5) dX5_readPiece_27 mi_X5_sign in_X5_sign se_X5_sign ml_X5_56 rfl rfl rfl sh_65 rfl rfl (Nat.le_of_ble_eq_true rfl) (fun v46 q47 => ?_)
            obtain ⟨bv46, cv46, zv46⟩ := q47
            refine g_bipush dX5_readPiece_30 (inR_c rfl) (by decide) ?_
            refine g_icmp_ne 54 dX5_readPiece_32 (by decide) (fun q48 => ?_) (fun q48 => ?_)
            · skip
              refine g_drop 4 ?_
              exact c54 
            · skip
              refine g_aload_n dX5_readPiece_35 rfl ?_
              refine g_dup dX5_readPiece_36 rfl ?_
              refine gI_X5_19 rfl dX5_readPiece_37 sh_65 (m_65_2 hMh5) (fun v49 ev49 bv49 cv49 => ?_)
              refine g_iconst dX5_readPiece_40 (inR_c rfl) ?_
              refine g_iaddF dX5_readPiece_41 (fun v50 bv50 cv50 => ?_)
              refine pI_X5_19 rfl dX5_readPiece_42 sh_65 (fun h51 eh51 => ?_)
              have hFh51 := Fr.st eh51
              have hMh51 := u_65_2 hMh5 eh51 (by omega) (by omega)
              refine g_iincB dX5_readPiece_45 rfl rfl (by omega) (by omega) ?_
              refine g_iincB dX5_readPiece_48 rfl rfl (by omega) (by omega) ?_
              refine g_goto 13 dX5_readPiece_51 (by decide) ?_
              exact ih13 _ _ _ hMh51 (Fr.tr (Fr.sub hFh5 rfl) hFh51 rfl) (by omega) (by omega) (by omega) (by omega) (by omega)
    refine g_istore dX5_readPiece_11 (by decide) rfl ?_
    exact c13 2 _ _ _ hM Fr.rf (by omega) (by omega) (by omega) (by omega) (by omega)
  · skip
    exact g_return dX5_readPiece_7 rfl (hPo _ ⟨hM, Fr.rf⟩)
set_option maxRecDepth 100000 in
set_option maxHeartbeats 4000000 in
theorem c_X5_readPart_65_90_k5 (h : MEM) (hM : MBx h) : CV yX5_readPart cX5_readPart 6 (none) 14 [pR 65, pR 90, pI 5] h (fun h' => MBx h' ∧ Fr [(65, 3), (65, 4), (65, 5), (90, 2), (95, 0), (96, 0)] h h') := by
  refine CV.of (L0 := [some (pR 65), some (pR 90), some (pI 5), none, none, none]) rfl (Nat.le_of_ble_eq_true rfl) rfl (fun Po hPo hav => ?_)
  refine g_aload_n dX5_readPart_0 rfl ?_
  refine g_aload_n dX5_readPart_1 rfl ?_
  refine g_iload_n dX5_readPart_2 rfl (fun _ => ?_)
  refine g_cVV (as := [_, _]) (c_X5_readPiece_65_90_k5  h hM) dX5_readPart_3 mi_X5_readPiece in_X5_readPiece se_X5_readPiece ml_X5_97 rfl rfl rfl sh_65 rfl rfl (Nat.le_of_ble_eq_true rfl) (fun h1 q2 => ?_)
  obtain ⟨hMh1, hFh1⟩ := q2
  refine g_iconst dX5_readPart_6 (inR_c rfl) ?_
  refine g_istore_n dX5_readPart_7 (by decide) rfl ?_
  refine g_iconst dX5_readPart_8 (inR_c rfl) ?_
  have c11 : ∀ (n : Nat) (y3 y4 : Int) (h5 : MEM), MBx h5 → Fr [(65, 3), (65, 4), (65, 5), (90, 2), (95, 0), (96, 0)] h1 h5 → -1 ≤ y3 → y3 ≤ 199 → 0 ≤ y4 → y4 ≤ 200 → 200 - y4 < (n : Int) → G yX5_readPart cX5_readPart 6 (none) none Po (14, 840, 0, 0) 11 [some (pR 65), some (pR 90), some (pI 5), some (pI y3), some (pI y4), none] [] SH h5 0 0 := by
    intro n
    induction n with
    | zero =>
      intro y3 y4 h5 hMh5 hFh5 by3 dy3 by4 dy4 hn
      exfalso; omega
    | succ n ih11 =>
      intro y3 y4 h5 hMh5 hFh5 by3 dy3 by4 dy4 hn
      refine g_iload dX5_readPart_11 rfl (fun _ => ?_)
      refine g_sipush dX5_readPart_13 (inR_c rfl) (by decide) ?_
      refine g_icmp_ge 75 dX5_readPart_16 (by decide) (fun q6 => ?_) (fun q6 => ?_)
      · skip
        refine g_aload_n dX5_readPart_75 rfl ?_
        refine g_iload_n dX5_readPart_76 rfl (fun _ => ?_)
        refine g_aload_n dX5_readPart_77 rfl ?_
        refine gI_X5_45 rfl dX5_readPart_78 sh_90 (m_90_1 hMh5) (fun v7 ev7 bv7 cv7 => ?_)
        refine g_cVV (as := [_, _]) (c_X2_aim_90 _ _ h5 hMh5 (by omega) (by omega) (by omega) (by omega)) dX5_readPart_81 mi_X2_aim in_X2_aim se_X2_aim ml_X5_93 rfl rfl rfl sh_90 rfl rfl (Nat.le_of_ble_eq_true rfl) (fun h8 q9 => ?_)
        obtain ⟨hMh8, hFh8⟩ := q9
        exact g_return dX5_readPart_84 rfl (hPo _ ⟨hMh8, (Fr.tr (Fr.tr (Fr.sub hFh1 rfl) hFh5 rfl) hFh8 rfl)⟩)
      · skip
        refine g_aload_n dX5_readPart_19 rfl ?_
        refine gI_X5_22 rfl dX5_readPart_20 sh_65 (m_65_3 hMh5) (fun v10 ev10 bv10 cv10 => ?_)
        refine g_if_ne 75 dX5_readPart_23 (by decide) (fun q11 => ?_) (fun q11 => ?_)
        · skip
          refine g_aload_n dX5_readPart_75 rfl ?_
          refine g_iload_n dX5_readPart_76 rfl (fun _ => ?_)
          refine g_aload_n dX5_readPart_77 rfl ?_
          refine gI_X5_45 rfl dX5_readPart_78 sh_90 (m_90_1 hMh5) (fun v12 ev12 bv12 cv12 => ?_)
          refine g_cVV (as := [_, _]) (c_X2_aim_90 _ _ h5 hMh5 (by omega) (by omega) (by omega) (by omega)) dX5_readPart_81 mi_X2_aim in_X2_aim se_X2_aim ml_X5_93 rfl rfl rfl sh_90 rfl rfl (Nat.le_of_ble_eq_true rfl) (fun h13 q14 => ?_)
          obtain ⟨hMh13, hFh13⟩ := q14
          exact g_return dX5_readPart_84 rfl (hPo _ ⟨hMh13, (Fr.tr (Fr.tr (Fr.sub hFh1 rfl) hFh5 rfl) hFh13 rfl)⟩)
        · skip
          refine g_aload_n dX5_readPart_26 rfl ?_
          refine g_cVP (as := []) (c_X5_sign_65  h5 hMh5) dX5_readPart_27 mi_X5_sign in_X5_sign se_X5_sign ml_X5_56 rfl rfl rfl sh_65 rfl rfl (Nat.le_of_ble_eq_true rfl) (fun v15 q16 => ?_)
          obtain ⟨bv15, cv15, zv15⟩ := q16
          refine g_bipush dX5_readPart_30 (inR_c rfl) (by decide) ?_
          refine g_icmp_ne 75 dX5_readPart_32 (by decide) (fun q17 => ?_) (fun q17 => ?_)
          · skip
            refine g_aload_n dX5_readPart_75 rfl ?_
            refine g_iload_n dX5_readPart_76 rfl (fun _ => ?_)
            refine g_aload_n dX5_readPart_77 rfl ?_
            refine gI_X5_45 rfl dX5_readPart_78 sh_90 (m_90_1 hMh5) (fun v18 ev18 bv18 cv18 => ?_)
            refine g_cVV (as := [_, _]) (c_X2_aim_90 _ _ h5 hMh5 (by omega) (by omega) (by omega) (by omega)) dX5_readPart_81 mi_X2_aim in_X2_aim se_X2_aim ml_X5_93 rfl rfl rfl sh_90 rfl rfl (Nat.le_of_ble_eq_true rfl) (fun h19 q20 => ?_)
            obtain ⟨hMh19, hFh19⟩ := q20
            exact g_return dX5_readPart_84 rfl (hPo _ ⟨hMh19, (Fr.tr (Fr.tr (Fr.sub hFh1 rfl) hFh5 rfl) hFh19 rfl)⟩)
          · skip
            refine g_aload_n dX5_readPart_35 rfl ?_
            refine g_dup dX5_readPart_36 rfl ?_
            refine gI_X5_19 rfl dX5_readPart_37 sh_65 (m_65_2 hMh5) (fun v21 ev21 bv21 cv21 => ?_)
            refine g_iconst dX5_readPart_40 (inR_c rfl) ?_
            refine g_iaddF dX5_readPart_41 (fun v22 bv22 cv22 => ?_)
            refine pI_X5_19 rfl dX5_readPart_42 sh_65 (fun h23 eh23 => ?_)
            have hFh23 := Fr.st eh23
            have hMh23 := u_65_2 hMh5 eh23 (by omega) (by omega)
            refine g_aload_n dX5_readPart_45 rfl ?_
            refine g_iconst dX5_readPart_46 (inR_c rfl) ?_
            refine g_iconst dX5_readPart_47 (inR_c rfl) ?_
            refine g_cV (as := [_, _]) (c_X2_addStep_90 _ _ h23 hMh23 (by omega) (by omega) (by omega) (by omega)) dX5_readPart_48 mi_X2_addStep in_X2_addStep se_X2_addStep ml_X5_90 rfl rfl rfl sh_90 rfl rfl (Nat.le_of_ble_eq_true rfl) (fun v24 h25 q26 => ?_)
            obtain ⟨hMh25, hFh25, bv24, cv24⟩ := q26
            refine g_istore dX5_readPart_51 (by decide) rfl ?_
            refine g_aload_n dX5_readPart_53 rfl ?_
            refine g_iload_n dX5_readPart_54 rfl (fun _ => ?_)
            refine g_iload dX5_readPart_55 rfl (fun _ => ?_)
            refine g_cVV (as := [_, _]) (c_X2_aim_90 _ _ h25 hMh25 (by omega) (by omega) (by omega) (by omega)) dX5_readPart_57 mi_X2_aim in_X2_aim se_X2_aim ml_X5_93 rfl rfl rfl sh_90 rfl rfl (Nat.le_of_ble_eq_true rfl) (fun h27 q28 => ?_)
            obtain ⟨hMh27, hFh27⟩ := q28
            refine g_iload dX5_readPart_60 rfl (fun _ => ?_)
            refine g_istore_n dX5_readPart_62 (by decide) rfl ?_
            refine g_aload_n dX5_readPart_63 rfl ?_
            refine g_aload_n dX5_readPart_64 rfl ?_
            refine g_iload_n dX5_readPart_65 rfl (fun _ => ?_)
            refine g_cVV (as := [_, _]) (c_X5_readPiece_65_90_k5  h27 hMh27) dX5_readPart_66 mi_X5_readPiece in_X5_readPiece se_X5_readPiece ml_X5_97 rfl rfl rfl sh_65 rfl rfl (Nat.le_of_ble_eq_true rfl) (fun h29 q30 => ?_)
            obtain ⟨hMh29, hFh29⟩ := q30
            refine g_iincB dX5_readPart_69 rfl rfl (by omega) (by omega) ?_
            refine g_goto 11 dX5_readPart_72 (by decide) ?_
            refine g_drop 5 ?_
            exact ih11 _ _ _ hMh29 (Fr.tr (Fr.tr (Fr.tr (Fr.tr (Fr.sub hFh5 rfl) hFh23 rfl) hFh25 rfl) hFh27 rfl) hFh29 rfl) (by omega) (by omega) (by omega) (by omega) (by omega)
  refine g_istore dX5_readPart_9 (by decide) rfl ?_
  exact c11 201 _ _ _ hMh1 Fr.rf (by omega) (by omega) (by omega) (by omega) (by omega)
set_option maxRecDepth 100000 in
set_option maxHeartbeats 4000000 in
theorem c_X5_readCondition_65_90_k5 (h : MEM) (hM : MBx h) : CV yX5_readCondition cX5_readCondition 6 (none) 15 [pR 65, pR 90, pI 5] h (fun h' => MBx h' ∧ Fr [(65, 3), (65, 4), (65, 5), (90, 2), (95, 0), (96, 0)] h h') := by
  refine CV.of (L0 := [some (pR 65), some (pR 90), some (pI 5), none, none, none]) rfl (Nat.le_of_ble_eq_true rfl) rfl (fun Po hPo hav => ?_)
  refine g_aload_n dX5_readCondition_0 rfl ?_
  refine g_aload_n dX5_readCondition_1 rfl ?_
  refine g_iload_n dX5_readCondition_2 rfl (fun _ => ?_)
  refine g_cVV (as := [_, _]) (c_X5_readPart_65_90_k5  h hM) dX5_readCondition_3 mi_X5_readPart in_X5_readPart se_X5_readPart ml_X5_87 rfl rfl rfl sh_65 rfl rfl (Nat.le_of_ble_eq_true rfl) (fun h1 q2 => ?_)
  obtain ⟨hMh1, hFh1⟩ := q2
  refine g_iconst dX5_readCondition_6 (inR_c rfl) ?_
  refine g_istore_n dX5_readCondition_7 (by decide) rfl ?_
  refine g_iconst dX5_readCondition_8 (inR_c rfl) ?_
  have c11 : ∀ (n : Nat) (y3 y4 : Int) (h5 : MEM), MBx h5 → Fr [(65, 3), (65, 4), (65, 5), (90, 2), (95, 0), (96, 0)] h1 h5 → -1 ≤ y3 → y3 ≤ 199 → 0 ≤ y4 → y4 ≤ 200 → 200 - y4 < (n : Int) → G yX5_readCondition cX5_readCondition 6 (none) none Po (15, 900, 0, 0) 11 [some (pR 65), some (pR 90), some (pI 5), some (pI y3), some (pI y4), none] [] SH h5 0 0 := by
    intro n
    induction n with
    | zero =>
      intro y3 y4 h5 hMh5 hFh5 by3 dy3 by4 dy4 hn
      exfalso; omega
    | succ n ih11 =>
      intro y3 y4 h5 hMh5 hFh5 by3 dy3 by4 dy4 hn
      refine g_iload dX5_readCondition_11 rfl (fun _ => ?_)
      refine g_sipush dX5_readCondition_13 (inR_c rfl) (by decide) ?_
      refine g_icmp_ge 75 dX5_readCondition_16 (by decide) (fun q6 => ?_) (fun q6 => ?_)
      · skip
        refine g_aload_n dX5_readCondition_75 rfl ?_
        refine g_iload_n dX5_readCondition_76 rfl (fun _ => ?_)
        refine g_aload_n dX5_readCondition_77 rfl ?_
        refine gI_X5_45 rfl dX5_readCondition_78 sh_90 (m_90_1 hMh5) (fun v7 ev7 bv7 cv7 => ?_)
        refine g_cVV (as := [_, _]) (c_X2_aim_90 _ _ h5 hMh5 (by omega) (by omega) (by omega) (by omega)) dX5_readCondition_81 mi_X2_aim in_X2_aim se_X2_aim ml_X5_93 rfl rfl rfl sh_90 rfl rfl (Nat.le_of_ble_eq_true rfl) (fun h8 q9 => ?_)
        obtain ⟨hMh8, hFh8⟩ := q9
        exact g_return dX5_readCondition_84 rfl (hPo _ ⟨hMh8, (Fr.tr (Fr.tr (Fr.sub hFh1 rfl) hFh5 rfl) hFh8 rfl)⟩)
      · skip
        refine g_aload_n dX5_readCondition_19 rfl ?_
        refine gI_X5_22 rfl dX5_readCondition_20 sh_65 (m_65_3 hMh5) (fun v10 ev10 bv10 cv10 => ?_)
        refine g_if_ne 75 dX5_readCondition_23 (by decide) (fun q11 => ?_) (fun q11 => ?_)
        · skip
          refine g_aload_n dX5_readCondition_75 rfl ?_
          refine g_iload_n dX5_readCondition_76 rfl (fun _ => ?_)
          refine g_aload_n dX5_readCondition_77 rfl ?_
          refine gI_X5_45 rfl dX5_readCondition_78 sh_90 (m_90_1 hMh5) (fun v12 ev12 bv12 cv12 => ?_)
          refine g_cVV (as := [_, _]) (c_X2_aim_90 _ _ h5 hMh5 (by omega) (by omega) (by omega) (by omega)) dX5_readCondition_81 mi_X2_aim in_X2_aim se_X2_aim ml_X5_93 rfl rfl rfl sh_90 rfl rfl (Nat.le_of_ble_eq_true rfl) (fun h13 q14 => ?_)
          obtain ⟨hMh13, hFh13⟩ := q14
          exact g_return dX5_readCondition_84 rfl (hPo _ ⟨hMh13, (Fr.tr (Fr.tr (Fr.sub hFh1 rfl) hFh5 rfl) hFh13 rfl)⟩)
        · skip
          refine g_aload_n dX5_readCondition_26 rfl ?_
          refine g_cVP (as := []) (c_X5_sign_65  h5 hMh5) dX5_readCondition_27 mi_X5_sign in_X5_sign se_X5_sign ml_X5_56 rfl rfl rfl sh_65 rfl rfl (Nat.le_of_ble_eq_true rfl) (fun v15 q16 => ?_)
          obtain ⟨bv15, cv15, zv15⟩ := q16
          refine g_bipush dX5_readCondition_30 (inR_c rfl) (by decide) ?_
          refine g_icmp_ne 75 dX5_readCondition_32 (by decide) (fun q17 => ?_) (fun q17 => ?_)
          · skip
            refine g_aload_n dX5_readCondition_75 rfl ?_
            refine g_iload_n dX5_readCondition_76 rfl (fun _ => ?_)
            refine g_aload_n dX5_readCondition_77 rfl ?_
            refine gI_X5_45 rfl dX5_readCondition_78 sh_90 (m_90_1 hMh5) (fun v18 ev18 bv18 cv18 => ?_)
            refine g_cVV (as := [_, _]) (c_X2_aim_90 _ _ h5 hMh5 (by omega) (by omega) (by omega) (by omega)) dX5_readCondition_81 mi_X2_aim in_X2_aim se_X2_aim ml_X5_93 rfl rfl rfl sh_90 rfl rfl (Nat.le_of_ble_eq_true rfl) (fun h19 q20 => ?_)
            obtain ⟨hMh19, hFh19⟩ := q20
            exact g_return dX5_readCondition_84 rfl (hPo _ ⟨hMh19, (Fr.tr (Fr.tr (Fr.sub hFh1 rfl) hFh5 rfl) hFh19 rfl)⟩)
          · skip
            refine g_aload_n dX5_readCondition_35 rfl ?_
            refine g_dup dX5_readCondition_36 rfl ?_
            refine gI_X5_19 rfl dX5_readCondition_37 sh_65 (m_65_2 hMh5) (fun v21 ev21 bv21 cv21 => ?_)
            refine g_iconst dX5_readCondition_40 (inR_c rfl) ?_
            refine g_iaddF dX5_readCondition_41 (fun v22 bv22 cv22 => ?_)
            refine pI_X5_19 rfl dX5_readCondition_42 sh_65 (fun h23 eh23 => ?_)
            have hFh23 := Fr.st eh23
            have hMh23 := u_65_2 hMh5 eh23 (by omega) (by omega)
            refine g_aload_n dX5_readCondition_45 rfl ?_
            refine g_iconst dX5_readCondition_46 (inR_c rfl) ?_
            refine g_iconst dX5_readCondition_47 (inR_c rfl) ?_
            refine g_cV (as := [_, _]) (c_X2_addStep_90 _ _ h23 hMh23 (by omega) (by omega) (by omega) (by omega)) dX5_readCondition_48 mi_X2_addStep in_X2_addStep se_X2_addStep ml_X5_90 rfl rfl rfl sh_90 rfl rfl (Nat.le_of_ble_eq_true rfl) (fun v24 h25 q26 => ?_)
            obtain ⟨hMh25, hFh25, bv24, cv24⟩ := q26
            refine g_istore dX5_readCondition_51 (by decide) rfl ?_
            refine g_aload_n dX5_readCondition_53 rfl ?_
            refine g_iload_n dX5_readCondition_54 rfl (fun _ => ?_)
            refine g_iload dX5_readCondition_55 rfl (fun _ => ?_)
            refine g_cVV (as := [_, _]) (c_X2_aim_90 _ _ h25 hMh25 (by omega) (by omega) (by omega) (by omega)) dX5_readCondition_57 mi_X2_aim in_X2_aim se_X2_aim ml_X5_93 rfl rfl rfl sh_90 rfl rfl (Nat.le_of_ble_eq_true rfl) (fun h27 q28 => ?_)
            obtain ⟨hMh27, hFh27⟩ := q28
            refine g_iload dX5_readCondition_60 rfl (fun _ => ?_)
            refine g_istore_n dX5_readCondition_62 (by decide) rfl ?_
            refine g_aload_n dX5_readCondition_63 rfl ?_
            refine g_aload_n dX5_readCondition_64 rfl ?_
            refine g_iload_n dX5_readCondition_65 rfl (fun _ => ?_)
            refine g_cVV (as := [_, _]) (c_X5_readPart_65_90_k5  h27 hMh27) dX5_readCondition_66 mi_X5_readPart in_X5_readPart se_X5_readPart ml_X5_87 rfl rfl rfl sh_65 rfl rfl (Nat.le_of_ble_eq_true rfl) (fun h29 q30 => ?_)
            obtain ⟨hMh29, hFh29⟩ := q30
            refine g_iincB dX5_readCondition_69 rfl rfl (by omega) (by omega) ?_
            refine g_goto 11 dX5_readCondition_72 (by decide) ?_
            refine g_drop 5 ?_
            exact ih11 _ _ _ hMh29 (Fr.tr (Fr.tr (Fr.tr (Fr.tr (Fr.sub hFh5 rfl) hFh23 rfl) hFh25 rfl) hFh27 rfl) hFh29 rfl) (by omega) (by omega) (by omega) (by omega) (by omega)
  refine g_istore dX5_readCondition_9 (by decide) rfl ?_
  exact c11 201 _ _ _ hMh1 Fr.rf (by omega) (by omega) (by omega) (by omega) (by omega)
set_option maxRecDepth 100000 in
set_option maxHeartbeats 4000000 in
theorem c_X5_readPiece_65_90_k4 (h : MEM) (hM : MBx h) : CV yX5_readPiece cX5_readPiece 5 (none) 16 [pR 65, pR 90, pI 4] h (fun h' => MBx h' ∧ Fr [(65, 3), (65, 4), (65, 5), (90, 2), (95, 0), (96, 0)] h h') := by
  refine CV.of (L0 := [some (pR 65), some (pR 90), some (pI 4), none, none]) rfl (Nat.le_of_ble_eq_true rfl) rfl (fun Po hPo hav => ?_)
  refine g_aload_n dX5_readPiece_0 rfl ?_
  refine gI_X5_22 rfl dX5_readPiece_1 sh_65 (m_65_3 hM) (fun v1 ev1 bv1 cv1 => ?_)
  refine g_if_eq 8 dX5_readPiece_4 (by decide) (fun q2 => ?_) (fun q2 => ?_)
  · skip
    refine g_iload_n dX5_readPiece_8 rfl (fun _ => ?_)
    refine g_istore_n dX5_readPiece_9 (by decide) rfl ?_
    refine g_iconst dX5_readPiece_10 (inR_c rfl) ?_
    have c13 : ∀ (n : Nat) (y3 y4 : Int) (h5 : MEM), MBx h5 → Fr [(65, 3)] h h5 → 4 ≤ y3 → y3 ≤ 6 → 0 ≤ y4 → y4 ≤ 6 → 6 - y3 < (n : Int) → G yX5_readPiece cX5_readPiece 5 (none) none Po (16, 960, 0, 0) 13 [some (pR 65), some (pR 90), some (pI 4), some (pI y3), some (pI y4)] [] SH h5 0 0 := by
      intro n
      induction n with
      | zero =>
        intro y3 y4 h5 hMh5 hFh5 by3 dy3 by4 dy4 hn
        exfalso; omega
      | succ n ih13 =>
        intro y3 y4 h5 hMh5 hFh5 by3 dy3 by4 dy4 hn
        refine g_iload dX5_readPiece_13 rfl (fun _ => ?_)
        refine g_bipush dX5_readPiece_15 (inR_c rfl) (by decide) ?_
        have c54 : G yX5_readPiece cX5_readPiece 5 (none) none Po (16, 960, 0, 0) 54 [some (pR 65), some (pR 90), some (pI 4), some (pI y3), none] [] SH h5 0 0 := by
          refine g_iload_n dX5_readPiece_54 rfl (fun _ => ?_)
          refine g_bipush dX5_readPiece_55 (inR_c rfl) (by decide) ?_
          have c128 : ∀ (h6 : MEM), MBx h6 → Fr [(65, 3), (65, 4), (65, 5), (90, 2), (95, 0), (96, 0)] h5 h6 → G yX5_readPiece cX5_readPiece 5 (none) none Po (16, 960, 0, 0) 128 [none, some (pR 90), some (pI 4), some (pI y3), none] [] SH h6 0 0 := by
            intro h6 hMh6 hFh6
            refine g_iload_n dX5_readPiece_128 rfl (fun _ => ?_)
            have c131 : ∀ (n : Nat) (y7 : Int) (h8 : MEM), MBx h8 → Fr [(90, 2), (95, 0), (96, 0)] h6 h8 → 4 ≤ y7 → y7 ≤ 6 → 6 - y7 < (n : Int) → G yX5_readPiece cX5_readPiece 5 (none) none Po (16, 960, 0, 0) 131 [none, some (pR 90), none, some (pI y3), some (pI y7)] [] SH h8 0 0 := by
              intro n
              induction n with
              | zero =>
                intro y7 h8 hMh8 hFh8 by7 dy7 hn
                exfalso; omega
              | succ n ih131 =>
                intro y7 h8 hMh8 hFh8 by7 dy7 hn
                refine g_iload dX5_readPiece_131 rfl (fun _ => ?_)
                refine g_iload_n dX5_readPiece_133 rfl (fun _ => ?_)
                refine g_icmp_ge 150 dX5_readPiece_134 (by decide) (fun q9 => ?_) (fun q9 => ?_)
                · skip
                  exact g_return dX5_readPiece_150 rfl (hPo _ ⟨hMh8, (Fr.tr (Fr.tr (Fr.sub hFh5 rfl) hFh6 rfl) hFh8 rfl)⟩)
                · skip
                  refine g_aload_n dX5_readPiece_137 rfl ?_
                  refine g_iconst dX5_readPiece_138 (inR_c rfl) ?_
                  refine g_iconst dX5_readPiece_139 (inR_c rfl) ?_
                  refine g_cV (as := [_, _]) (c_X2_addStep_90 _ _ h8 hMh8 (by omega) (by omega) (by omega) (by omega)) dX5_readPiece_140 mi_X2_addStep in_X2_addStep se_X2_addStep ml_X5_90 rfl rfl rfl sh_90 rfl rfl (Nat.le_of_ble_eq_true rfl) (fun v10 h11 q12 => ?_)
                  obtain ⟨hMh11, hFh11, bv10, cv10⟩ := q12
                  refine g_pop dX5_readPiece_143 rfl ?_
                  refine g_iincB dX5_readPiece_144 rfl rfl (by omega) (by omega) ?_
                  refine g_goto 131 dX5_readPiece_147 (by decide) ?_
                  exact ih131 _ _ hMh11 (Fr.tr (Fr.sub hFh8 rfl) hFh11 rfl) (by omega) (by omega) (by omega)
            refine g_istore dX5_readPiece_129 (by decide) rfl ?_
            refine g_drop 2 ?_
            exact c131 3 _ _ hMh6 Fr.rf (by omega) (by omega) (by omega)
          refine g_icmp_lt 86 dX5_readPiece_57 (by decide) (fun q13 => ?_) (fun q13 => ?_)
          · skip
            refine g_aload_n dX5_readPiece_86 rfl ?_
            refine g_cVP (as := []) (c_X5_sign_65  h5 hMh5) dX5_readPiece_87 mi_X5_sign in_X5_sign se_X5_sign ml_X5_56 rfl rfl rfl sh_65 rfl rfl (Nat.le_of_ble_eq_true rfl) (fun v14 q15 => ?_)
            obtain ⟨bv14, cv14, zv14⟩ := q15
            refine g_bipush dX5_readPiece_90 (inR_c rfl) (by decide) ?_
            refine g_icmp_ne 122 dX5_readPiece_92 (by decide) (fun q16 => ?_) (fun q16 => ?_)
            · skip
              refine g_aload_n dX5_readPiece_122 rfl ?_
              refine g_aload_n dX5_readPiece_123 rfl ?_
              refine g_iload_n dX5_readPiece_124 rfl (fun _ => ?_)
              rcases (show y3 = 4 ∨ y3 = 5 by omega) with q17 | q17
              · skip
                refine g_stk (S' := [(pI 4), (pR 90), (pR 65)]) (by rw [q17]) ?_
                refine g_cVV (as := [_, _]) (c_X5_readComparison_65_90_k4  h5 hMh5) dX5_readPiece_125 mi_X5_readComparison in_X5_readComparison se_X5_readComparison ml_X5_100 rfl rfl rfl sh_65 rfl rfl (Nat.le_of_ble_eq_true rfl) (fun h18 q19 => ?_)
                obtain ⟨hMh18, hFh18⟩ := q19
                refine g_drop 0 ?_
                exact c128 _ hMh18 (Fr.sub hFh18 rfl)
              · skip
                refine g_stk (S' := [(pI 5), (pR 90), (pR 65)]) (by rw [q17]) ?_
                refine g_cVV (as := [_, _]) (c_X5_readComparison_65_90_k5  h5 hMh5) dX5_readPiece_125 mi_X5_readComparison in_X5_readComparison se_X5_readComparison ml_X5_100 rfl rfl rfl sh_65 rfl rfl (Nat.le_of_ble_eq_true rfl) (fun h20 q21 => ?_)
                obtain ⟨hMh20, hFh20⟩ := q21
                refine g_drop 0 ?_
                exact c128 _ hMh20 (Fr.sub hFh20 rfl)
            · skip
              refine g_aload_n dX5_readPiece_95 rfl ?_
              refine g_dup dX5_readPiece_96 rfl ?_
              refine gI_X5_19 rfl dX5_readPiece_97 sh_65 (m_65_2 hMh5) (fun v22 ev22 bv22 cv22 => ?_)
              refine g_iconst dX5_readPiece_100 (inR_c rfl) ?_
              refine g_iaddF dX5_readPiece_101 (fun v23 bv23 cv23 => ?_)
              refine pI_X5_19 rfl dX5_readPiece_102 sh_65 (fun h24 eh24 => ?_)
              have hFh24 := Fr.st eh24
              have hMh24 := u_65_2 hMh5 eh24 (by omega) (by omega)
              refine g_aload_n dX5_readPiece_105 rfl ?_
              refine g_aload_n dX5_readPiece_106 rfl ?_
              refine g_iload_n dX5_readPiece_107 rfl (fun _ => ?_)
              refine g_iconst dX5_readPiece_108 (inR_c rfl) ?_
              refine g_iaddB dX5_readPiece_109 (by omega) (by omega) ?_
              rcases (show (y3 + 1) = 5 ∨ (y3 + 1) = 6 by omega) with q25 | q25
              · skip
                refine g_stk (S' := [(pI 5), (pR 90), (pR 65)]) (by rw [q25]) ?_
                refine g_cVV (as := [_, _]) (c_X5_readCondition_65_90_k5  h24 hMh24) dX5_readPiece_110 mi_X5_readCondition in_X5_readCondition se_X5_readCondition ml_X5_81 rfl rfl rfl sh_65 rfl rfl (Nat.le_of_ble_eq_true rfl) (fun h26 q27 => ?_)
                obtain ⟨hMh26, hFh26⟩ := q27
                refine g_aload_n dX5_readPiece_113 rfl ?_
                refine g_bipush dX5_readPiece_114 (inR_c rfl) (by decide) ?_
                refine g_cVV (as := [_]) (c_X5_expect_65 _ h26 hMh26 (by omega) (by omega)) dX5_readPiece_116 mi_X5_expect in_X5_expect se_X5_expect ml_X5_52 rfl rfl rfl sh_65 rfl rfl (Nat.le_of_ble_eq_true rfl) (fun h28 q29 => ?_)
                obtain ⟨hMh28, hFh28⟩ := q29
                refine g_goto 128 dX5_readPiece_119 (by decide) ?_
                refine g_drop 0 ?_
                exact c128 _ hMh28 (Fr.tr (Fr.tr (Fr.sub hFh24 rfl) hFh26 rfl) hFh28 rfl)
              · skip
                refine g_stk (S' := [(pI 6), (pR 90), (pR 65)]) (by rw [q25]) ?_
                refine g_cVV (as := [_, _]) (c_X5_readCondition_65_90_k6  h24 hMh24) dX5_readPiece_110 mi_X5_readCondition in_X5_readCondition se_X5_readCondition ml_X5_81 rfl rfl rfl sh_65 rfl rfl (Nat.le_of_ble_eq_true rfl) (fun h30 q31 => ?_)
                obtain ⟨hMh30, hFh30⟩ := q31
                refine g_aload_n dX5_readPiece_113 rfl ?_
                refine g_bipush dX5_readPiece_114 (inR_c rfl) (by decide) ?_
                refine g_cVV (as := [_]) (c_X5_expect_65 _ h30 hMh30 (by omega) (by omega)) dX5_readPiece_116 mi_X5_expect in_X5_expect se_X5_expect ml_X5_52 rfl rfl rfl sh_65 rfl rfl (Nat.le_of_ble_eq_true rfl) (fun h32 q33 => ?_)
                obtain ⟨hMh32, hFh32⟩ := q33
                refine g_goto 128 dX5_readPiece_119 (by decide) ?_
                refine g_drop 0 ?_
                exact c128 _ hMh32 (Fr.tr (Fr.tr (Fr.sub hFh24 rfl) hFh30 rfl) hFh32 rfl)
          · skip
            refine g_aload_n dX5_readPiece_60 rfl ?_
            refine g_cVP (as := []) (c_X5_sign_65  h5 hMh5) dX5_readPiece_61 mi_X5_sign in_X5_sign se_X5_sign ml_X5_56 rfl rfl rfl sh_65 rfl rfl (Nat.le_of_ble_eq_true rfl) (fun v34 q35 => ?_)
            obtain ⟨bv34, cv34, zv34⟩ := q35
            refine g_bipush dX5_readPiece_64 (inR_c rfl) (by decide) ?_
            have c78 : G yX5_readPiece cX5_readPiece 5 (none) none Po (16, 960, 0, 0) 78 [some (pR 65), some (pR 90), some (pI 4), some (pI y3), none] [] SH h5 0 0 := by
              refine g_aload_n dX5_readPiece_78 rfl ?_
              refine g_iconst dX5_readPiece_79 (inR_c rfl) ?_
              refine g_cVV (as := [_]) (c_X5_fail_65 _ h5 hMh5 (by omega) (by omega)) dX5_readPiece_80 mi_X5_fail in_X5_fail se_X5_fail ml_X5_60 rfl rfl rfl sh_65 rfl rfl (Nat.le_of_ble_eq_true rfl) (fun h36 q37 => ?_)
              obtain ⟨hMh36, hFh36, az38, bz38⟩ := q37
              obtain ⟨v39, ev39⟩ : ∃ z, z = h36 65 3 := ⟨_, rfl⟩
              have bv39 : 1 ≤ v39 ∧ v39 ≤ 5 := by rw [ev39]; exact ⟨az38, bz38⟩
              refine g_goto 128 dX5_readPiece_83 (by decide) ?_
              refine g_drop 0 ?_
              exact c128 _ hMh36 (Fr.sub hFh36 rfl)
            refine g_icmp_eq 78 dX5_readPiece_66 (by decide) (fun q40 => ?_) (fun q40 => ?_)
            · skip
              exact c78 
            · skip
              refine g_aload_n dX5_readPiece_69 rfl ?_
              refine g_cVP (as := []) (c_X5_sign_65  h5 hMh5) dX5_readPiece_70 mi_X5_sign in_X5_sign se_X5_sign ml_X5_56 rfl rfl rfl sh_65 rfl rfl (Nat.le_of_ble_eq_true rfl) (fun v41 q42 => ?_)
              obtain ⟨bv41, cv41, zv41⟩ := q42
              have tv41 : v41 = v34 := by rw [zv41, zv34]
              refine g_bipush dX5_readPiece_73 (inR_c rfl) (by decide) ?_
              refine g_icmp_ne 86 dX5_readPiece_75 (by decide) (fun q43 => ?_) (fun q43 => ?_)
              · skip
                refine g_aload_n dX5_readPiece_86 rfl ?_
                refine g_cVP (as := []) (c_X5_sign_65  h5 hMh5) dX5_readPiece_87 mi_X5_sign in_X5_sign se_X5_sign ml_X5_56 rfl rfl rfl sh_65 rfl rfl (Nat.le_of_ble_eq_true rfl) (fun v44 q45 => ?_)
                obtain ⟨bv44, cv44, zv44⟩ := q45
                have tv44 : v44 = v34 := by rw [zv44, zv34]
                refine g_bipush dX5_readPiece_90 (inR_c rfl) (by decide) ?_
                refine g_icmp_ne 122 dX5_readPiece_92 (by decide) (fun q46 => ?_) (fun _ => by exfalso; omega)
                refine g_aload_n dX5_readPiece_122 rfl ?_
                refine g_aload_n dX5_readPiece_123 rfl ?_
                refine g_iload_n dX5_readPiece_124 rfl (fun _ => ?_)
                have q47 : y3 = 6 := by omega
                refine g_stk (S' := [(pI 6), (pR 90), (pR 65)]) (by rw [q47]) ?_
                refine g_cVV (as := [_, _]) (c_X5_readComparison_65_90_k6  h5 hMh5) dX5_readPiece_125 mi_X5_readComparison in_X5_readComparison se_X5_readComparison ml_X5_100 rfl rfl rfl sh_65 rfl rfl (Nat.le_of_ble_eq_true rfl) (fun h48 q49 => ?_)
                obtain ⟨hMh48, hFh48⟩ := q49
                refine g_drop 0 ?_
                exact c128 _ hMh48 (Fr.sub hFh48 rfl)
              · skip
                exact c78 
        refine g_icmp_ge 54 dX5_readPiece_17 (by decide) (fun q50 => ?_) (fun q50 => ?_)
        · skip
          refine g_drop 4 ?_
          exact c54 
        · skip
          refine g_iload_n dX5_readPiece_20 rfl (fun _ => ?_)
          refine g_bipush dX5_readPiece_21 (inR_c rfl) (by decide) ?_
          refine g_icmp_ge 54 dX5_readPiece_23 (by decide) (fun q51 => ?_) (fun q51 => ?_)
          · skip
            refine g_drop 4 ?_
            exact c54 
          · skip
            refine g_aload_n dX5_readPiece_26 rfl ?_
            refine g_cVP (as := []) (c_X5_sign_65  h5 hMh5) dX5_readPiece_27 mi_X5_sign in_X5_sign se_X5_sign ml_X5_56 rfl rfl rfl sh_65 rfl rfl (Nat.le_of_ble_eq_true rfl) (fun v52 q53 => ?_)
            obtain ⟨bv52, cv52, zv52⟩ := q53
            refine g_bipush dX5_readPiece_30 (inR_c rfl) (by decide) ?_
            refine g_icmp_ne 54 dX5_readPiece_32 (by decide) (fun q54 => ?_) (fun q54 => ?_)
            · skip
              refine g_drop 4 ?_
              exact c54 
            · skip
              refine g_aload_n dX5_readPiece_35 rfl ?_
              refine g_dup dX5_readPiece_36 rfl ?_
              refine gI_X5_19 rfl dX5_readPiece_37 sh_65 (m_65_2 hMh5) (fun v55 ev55 bv55 cv55 => ?_)
              refine g_iconst dX5_readPiece_40 (inR_c rfl) ?_
              refine g_iaddF dX5_readPiece_41 (fun v56 bv56 cv56 => ?_)
              refine pI_X5_19 rfl dX5_readPiece_42 sh_65 (fun h57 eh57 => ?_)
              have hFh57 := Fr.st eh57
              have hMh57 := u_65_2 hMh5 eh57 (by omega) (by omega)
              refine g_iincB dX5_readPiece_45 rfl rfl (by omega) (by omega) ?_
              refine g_iincB dX5_readPiece_48 rfl rfl (by omega) (by omega) ?_
              refine g_goto 13 dX5_readPiece_51 (by decide) ?_
              exact ih13 _ _ _ hMh57 (Fr.tr (Fr.sub hFh5 rfl) hFh57 rfl) (by omega) (by omega) (by omega) (by omega) (by omega)
    refine g_istore dX5_readPiece_11 (by decide) rfl ?_
    exact c13 3 _ _ _ hM Fr.rf (by omega) (by omega) (by omega) (by omega) (by omega)
  · skip
    exact g_return dX5_readPiece_7 rfl (hPo _ ⟨hM, Fr.rf⟩)
set_option maxRecDepth 100000 in
set_option maxHeartbeats 4000000 in
theorem c_X5_readPart_65_90_k4 (h : MEM) (hM : MBx h) : CV yX5_readPart cX5_readPart 6 (none) 17 [pR 65, pR 90, pI 4] h (fun h' => MBx h' ∧ Fr [(65, 3), (65, 4), (65, 5), (90, 2), (95, 0), (96, 0)] h h') := by
  refine CV.of (L0 := [some (pR 65), some (pR 90), some (pI 4), none, none, none]) rfl (Nat.le_of_ble_eq_true rfl) rfl (fun Po hPo hav => ?_)
  refine g_aload_n dX5_readPart_0 rfl ?_
  refine g_aload_n dX5_readPart_1 rfl ?_
  refine g_iload_n dX5_readPart_2 rfl (fun _ => ?_)
  refine g_cVV (as := [_, _]) (c_X5_readPiece_65_90_k4  h hM) dX5_readPart_3 mi_X5_readPiece in_X5_readPiece se_X5_readPiece ml_X5_97 rfl rfl rfl sh_65 rfl rfl (Nat.le_of_ble_eq_true rfl) (fun h1 q2 => ?_)
  obtain ⟨hMh1, hFh1⟩ := q2
  refine g_iconst dX5_readPart_6 (inR_c rfl) ?_
  refine g_istore_n dX5_readPart_7 (by decide) rfl ?_
  refine g_iconst dX5_readPart_8 (inR_c rfl) ?_
  have c11 : ∀ (n : Nat) (y3 y4 : Int) (h5 : MEM), MBx h5 → Fr [(65, 3), (65, 4), (65, 5), (90, 2), (95, 0), (96, 0)] h1 h5 → -1 ≤ y3 → y3 ≤ 199 → 0 ≤ y4 → y4 ≤ 200 → 200 - y4 < (n : Int) → G yX5_readPart cX5_readPart 6 (none) none Po (17, 1020, 0, 0) 11 [some (pR 65), some (pR 90), some (pI 4), some (pI y3), some (pI y4), none] [] SH h5 0 0 := by
    intro n
    induction n with
    | zero =>
      intro y3 y4 h5 hMh5 hFh5 by3 dy3 by4 dy4 hn
      exfalso; omega
    | succ n ih11 =>
      intro y3 y4 h5 hMh5 hFh5 by3 dy3 by4 dy4 hn
      refine g_iload dX5_readPart_11 rfl (fun _ => ?_)
      refine g_sipush dX5_readPart_13 (inR_c rfl) (by decide) ?_
      refine g_icmp_ge 75 dX5_readPart_16 (by decide) (fun q6 => ?_) (fun q6 => ?_)
      · skip
        refine g_aload_n dX5_readPart_75 rfl ?_
        refine g_iload_n dX5_readPart_76 rfl (fun _ => ?_)
        refine g_aload_n dX5_readPart_77 rfl ?_
        refine gI_X5_45 rfl dX5_readPart_78 sh_90 (m_90_1 hMh5) (fun v7 ev7 bv7 cv7 => ?_)
        refine g_cVV (as := [_, _]) (c_X2_aim_90 _ _ h5 hMh5 (by omega) (by omega) (by omega) (by omega)) dX5_readPart_81 mi_X2_aim in_X2_aim se_X2_aim ml_X5_93 rfl rfl rfl sh_90 rfl rfl (Nat.le_of_ble_eq_true rfl) (fun h8 q9 => ?_)
        obtain ⟨hMh8, hFh8⟩ := q9
        exact g_return dX5_readPart_84 rfl (hPo _ ⟨hMh8, (Fr.tr (Fr.tr (Fr.sub hFh1 rfl) hFh5 rfl) hFh8 rfl)⟩)
      · skip
        refine g_aload_n dX5_readPart_19 rfl ?_
        refine gI_X5_22 rfl dX5_readPart_20 sh_65 (m_65_3 hMh5) (fun v10 ev10 bv10 cv10 => ?_)
        refine g_if_ne 75 dX5_readPart_23 (by decide) (fun q11 => ?_) (fun q11 => ?_)
        · skip
          refine g_aload_n dX5_readPart_75 rfl ?_
          refine g_iload_n dX5_readPart_76 rfl (fun _ => ?_)
          refine g_aload_n dX5_readPart_77 rfl ?_
          refine gI_X5_45 rfl dX5_readPart_78 sh_90 (m_90_1 hMh5) (fun v12 ev12 bv12 cv12 => ?_)
          refine g_cVV (as := [_, _]) (c_X2_aim_90 _ _ h5 hMh5 (by omega) (by omega) (by omega) (by omega)) dX5_readPart_81 mi_X2_aim in_X2_aim se_X2_aim ml_X5_93 rfl rfl rfl sh_90 rfl rfl (Nat.le_of_ble_eq_true rfl) (fun h13 q14 => ?_)
          obtain ⟨hMh13, hFh13⟩ := q14
          exact g_return dX5_readPart_84 rfl (hPo _ ⟨hMh13, (Fr.tr (Fr.tr (Fr.sub hFh1 rfl) hFh5 rfl) hFh13 rfl)⟩)
        · skip
          refine g_aload_n dX5_readPart_26 rfl ?_
          refine g_cVP (as := []) (c_X5_sign_65  h5 hMh5) dX5_readPart_27 mi_X5_sign in_X5_sign se_X5_sign ml_X5_56 rfl rfl rfl sh_65 rfl rfl (Nat.le_of_ble_eq_true rfl) (fun v15 q16 => ?_)
          obtain ⟨bv15, cv15, zv15⟩ := q16
          refine g_bipush dX5_readPart_30 (inR_c rfl) (by decide) ?_
          refine g_icmp_ne 75 dX5_readPart_32 (by decide) (fun q17 => ?_) (fun q17 => ?_)
          · skip
            refine g_aload_n dX5_readPart_75 rfl ?_
            refine g_iload_n dX5_readPart_76 rfl (fun _ => ?_)
            refine g_aload_n dX5_readPart_77 rfl ?_
            refine gI_X5_45 rfl dX5_readPart_78 sh_90 (m_90_1 hMh5) (fun v18 ev18 bv18 cv18 => ?_)
            refine g_cVV (as := [_, _]) (c_X2_aim_90 _ _ h5 hMh5 (by omega) (by omega) (by omega) (by omega)) dX5_readPart_81 mi_X2_aim in_X2_aim se_X2_aim ml_X5_93 rfl rfl rfl sh_90 rfl rfl (Nat.le_of_ble_eq_true rfl) (fun h19 q20 => ?_)
            obtain ⟨hMh19, hFh19⟩ := q20
            exact g_return dX5_readPart_84 rfl (hPo _ ⟨hMh19, (Fr.tr (Fr.tr (Fr.sub hFh1 rfl) hFh5 rfl) hFh19 rfl)⟩)
          · skip
            refine g_aload_n dX5_readPart_35 rfl ?_
            refine g_dup dX5_readPart_36 rfl ?_
            refine gI_X5_19 rfl dX5_readPart_37 sh_65 (m_65_2 hMh5) (fun v21 ev21 bv21 cv21 => ?_)
            refine g_iconst dX5_readPart_40 (inR_c rfl) ?_
            refine g_iaddF dX5_readPart_41 (fun v22 bv22 cv22 => ?_)
            refine pI_X5_19 rfl dX5_readPart_42 sh_65 (fun h23 eh23 => ?_)
            have hFh23 := Fr.st eh23
            have hMh23 := u_65_2 hMh5 eh23 (by omega) (by omega)
            refine g_aload_n dX5_readPart_45 rfl ?_
            refine g_iconst dX5_readPart_46 (inR_c rfl) ?_
            refine g_iconst dX5_readPart_47 (inR_c rfl) ?_
            refine g_cV (as := [_, _]) (c_X2_addStep_90 _ _ h23 hMh23 (by omega) (by omega) (by omega) (by omega)) dX5_readPart_48 mi_X2_addStep in_X2_addStep se_X2_addStep ml_X5_90 rfl rfl rfl sh_90 rfl rfl (Nat.le_of_ble_eq_true rfl) (fun v24 h25 q26 => ?_)
            obtain ⟨hMh25, hFh25, bv24, cv24⟩ := q26
            refine g_istore dX5_readPart_51 (by decide) rfl ?_
            refine g_aload_n dX5_readPart_53 rfl ?_
            refine g_iload_n dX5_readPart_54 rfl (fun _ => ?_)
            refine g_iload dX5_readPart_55 rfl (fun _ => ?_)
            refine g_cVV (as := [_, _]) (c_X2_aim_90 _ _ h25 hMh25 (by omega) (by omega) (by omega) (by omega)) dX5_readPart_57 mi_X2_aim in_X2_aim se_X2_aim ml_X5_93 rfl rfl rfl sh_90 rfl rfl (Nat.le_of_ble_eq_true rfl) (fun h27 q28 => ?_)
            obtain ⟨hMh27, hFh27⟩ := q28
            refine g_iload dX5_readPart_60 rfl (fun _ => ?_)
            refine g_istore_n dX5_readPart_62 (by decide) rfl ?_
            refine g_aload_n dX5_readPart_63 rfl ?_
            refine g_aload_n dX5_readPart_64 rfl ?_
            refine g_iload_n dX5_readPart_65 rfl (fun _ => ?_)
            refine g_cVV (as := [_, _]) (c_X5_readPiece_65_90_k4  h27 hMh27) dX5_readPart_66 mi_X5_readPiece in_X5_readPiece se_X5_readPiece ml_X5_97 rfl rfl rfl sh_65 rfl rfl (Nat.le_of_ble_eq_true rfl) (fun h29 q30 => ?_)
            obtain ⟨hMh29, hFh29⟩ := q30
            refine g_iincB dX5_readPart_69 rfl rfl (by omega) (by omega) ?_
            refine g_goto 11 dX5_readPart_72 (by decide) ?_
            refine g_drop 5 ?_
            exact ih11 _ _ _ hMh29 (Fr.tr (Fr.tr (Fr.tr (Fr.tr (Fr.sub hFh5 rfl) hFh23 rfl) hFh25 rfl) hFh27 rfl) hFh29 rfl) (by omega) (by omega) (by omega) (by omega) (by omega)
  refine g_istore dX5_readPart_9 (by decide) rfl ?_
  exact c11 201 _ _ _ hMh1 Fr.rf (by omega) (by omega) (by omega) (by omega) (by omega)
set_option maxRecDepth 100000 in
set_option maxHeartbeats 4000000 in
theorem c_X5_readCondition_65_90_k4 (h : MEM) (hM : MBx h) : CV yX5_readCondition cX5_readCondition 6 (none) 18 [pR 65, pR 90, pI 4] h (fun h' => MBx h' ∧ Fr [(65, 3), (65, 4), (65, 5), (90, 2), (95, 0), (96, 0)] h h') := by
  refine CV.of (L0 := [some (pR 65), some (pR 90), some (pI 4), none, none, none]) rfl (Nat.le_of_ble_eq_true rfl) rfl (fun Po hPo hav => ?_)
  refine g_aload_n dX5_readCondition_0 rfl ?_
  refine g_aload_n dX5_readCondition_1 rfl ?_
  refine g_iload_n dX5_readCondition_2 rfl (fun _ => ?_)
  refine g_cVV (as := [_, _]) (c_X5_readPart_65_90_k4  h hM) dX5_readCondition_3 mi_X5_readPart in_X5_readPart se_X5_readPart ml_X5_87 rfl rfl rfl sh_65 rfl rfl (Nat.le_of_ble_eq_true rfl) (fun h1 q2 => ?_)
  obtain ⟨hMh1, hFh1⟩ := q2
  refine g_iconst dX5_readCondition_6 (inR_c rfl) ?_
  refine g_istore_n dX5_readCondition_7 (by decide) rfl ?_
  refine g_iconst dX5_readCondition_8 (inR_c rfl) ?_
  have c11 : ∀ (n : Nat) (y3 y4 : Int) (h5 : MEM), MBx h5 → Fr [(65, 3), (65, 4), (65, 5), (90, 2), (95, 0), (96, 0)] h1 h5 → -1 ≤ y3 → y3 ≤ 199 → 0 ≤ y4 → y4 ≤ 200 → 200 - y4 < (n : Int) → G yX5_readCondition cX5_readCondition 6 (none) none Po (18, 1080, 0, 0) 11 [some (pR 65), some (pR 90), some (pI 4), some (pI y3), some (pI y4), none] [] SH h5 0 0 := by
    intro n
    induction n with
    | zero =>
      intro y3 y4 h5 hMh5 hFh5 by3 dy3 by4 dy4 hn
      exfalso; omega
    | succ n ih11 =>
      intro y3 y4 h5 hMh5 hFh5 by3 dy3 by4 dy4 hn
      refine g_iload dX5_readCondition_11 rfl (fun _ => ?_)
      refine g_sipush dX5_readCondition_13 (inR_c rfl) (by decide) ?_
      refine g_icmp_ge 75 dX5_readCondition_16 (by decide) (fun q6 => ?_) (fun q6 => ?_)
      · skip
        refine g_aload_n dX5_readCondition_75 rfl ?_
        refine g_iload_n dX5_readCondition_76 rfl (fun _ => ?_)
        refine g_aload_n dX5_readCondition_77 rfl ?_
        refine gI_X5_45 rfl dX5_readCondition_78 sh_90 (m_90_1 hMh5) (fun v7 ev7 bv7 cv7 => ?_)
        refine g_cVV (as := [_, _]) (c_X2_aim_90 _ _ h5 hMh5 (by omega) (by omega) (by omega) (by omega)) dX5_readCondition_81 mi_X2_aim in_X2_aim se_X2_aim ml_X5_93 rfl rfl rfl sh_90 rfl rfl (Nat.le_of_ble_eq_true rfl) (fun h8 q9 => ?_)
        obtain ⟨hMh8, hFh8⟩ := q9
        exact g_return dX5_readCondition_84 rfl (hPo _ ⟨hMh8, (Fr.tr (Fr.tr (Fr.sub hFh1 rfl) hFh5 rfl) hFh8 rfl)⟩)
      · skip
        refine g_aload_n dX5_readCondition_19 rfl ?_
        refine gI_X5_22 rfl dX5_readCondition_20 sh_65 (m_65_3 hMh5) (fun v10 ev10 bv10 cv10 => ?_)
        refine g_if_ne 75 dX5_readCondition_23 (by decide) (fun q11 => ?_) (fun q11 => ?_)
        · skip
          refine g_aload_n dX5_readCondition_75 rfl ?_
          refine g_iload_n dX5_readCondition_76 rfl (fun _ => ?_)
          refine g_aload_n dX5_readCondition_77 rfl ?_
          refine gI_X5_45 rfl dX5_readCondition_78 sh_90 (m_90_1 hMh5) (fun v12 ev12 bv12 cv12 => ?_)
          refine g_cVV (as := [_, _]) (c_X2_aim_90 _ _ h5 hMh5 (by omega) (by omega) (by omega) (by omega)) dX5_readCondition_81 mi_X2_aim in_X2_aim se_X2_aim ml_X5_93 rfl rfl rfl sh_90 rfl rfl (Nat.le_of_ble_eq_true rfl) (fun h13 q14 => ?_)
          obtain ⟨hMh13, hFh13⟩ := q14
          exact g_return dX5_readCondition_84 rfl (hPo _ ⟨hMh13, (Fr.tr (Fr.tr (Fr.sub hFh1 rfl) hFh5 rfl) hFh13 rfl)⟩)
        · skip
          refine g_aload_n dX5_readCondition_26 rfl ?_
          refine g_cVP (as := []) (c_X5_sign_65  h5 hMh5) dX5_readCondition_27 mi_X5_sign in_X5_sign se_X5_sign ml_X5_56 rfl rfl rfl sh_65 rfl rfl (Nat.le_of_ble_eq_true rfl) (fun v15 q16 => ?_)
          obtain ⟨bv15, cv15, zv15⟩ := q16
          refine g_bipush dX5_readCondition_30 (inR_c rfl) (by decide) ?_
          refine g_icmp_ne 75 dX5_readCondition_32 (by decide) (fun q17 => ?_) (fun q17 => ?_)
          · skip
            refine g_aload_n dX5_readCondition_75 rfl ?_
            refine g_iload_n dX5_readCondition_76 rfl (fun _ => ?_)
            refine g_aload_n dX5_readCondition_77 rfl ?_
            refine gI_X5_45 rfl dX5_readCondition_78 sh_90 (m_90_1 hMh5) (fun v18 ev18 bv18 cv18 => ?_)
            refine g_cVV (as := [_, _]) (c_X2_aim_90 _ _ h5 hMh5 (by omega) (by omega) (by omega) (by omega)) dX5_readCondition_81 mi_X2_aim in_X2_aim se_X2_aim ml_X5_93 rfl rfl rfl sh_90 rfl rfl (Nat.le_of_ble_eq_true rfl) (fun h19 q20 => ?_)
            obtain ⟨hMh19, hFh19⟩ := q20
            exact g_return dX5_readCondition_84 rfl (hPo _ ⟨hMh19, (Fr.tr (Fr.tr (Fr.sub hFh1 rfl) hFh5 rfl) hFh19 rfl)⟩)
          · skip
            refine g_aload_n dX5_readCondition_35 rfl ?_
            refine g_dup dX5_readCondition_36 rfl ?_
            refine gI_X5_19 rfl dX5_readCondition_37 sh_65 (m_65_2 hMh5) (fun v21 ev21 bv21 cv21 => ?_)
            refine g_iconst dX5_readCondition_40 (inR_c rfl) ?_
            refine g_iaddF dX5_readCondition_41 (fun v22 bv22 cv22 => ?_)
            refine pI_X5_19 rfl dX5_readCondition_42 sh_65 (fun h23 eh23 => ?_)
            have hFh23 := Fr.st eh23
            have hMh23 := u_65_2 hMh5 eh23 (by omega) (by omega)
            refine g_aload_n dX5_readCondition_45 rfl ?_
            refine g_iconst dX5_readCondition_46 (inR_c rfl) ?_
            refine g_iconst dX5_readCondition_47 (inR_c rfl) ?_
            refine g_cV (as := [_, _]) (c_X2_addStep_90 _ _ h23 hMh23 (by omega) (by omega) (by omega) (by omega)) dX5_readCondition_48 mi_X2_addStep in_X2_addStep se_X2_addStep ml_X5_90 rfl rfl rfl sh_90 rfl rfl (Nat.le_of_ble_eq_true rfl) (fun v24 h25 q26 => ?_)
            obtain ⟨hMh25, hFh25, bv24, cv24⟩ := q26
            refine g_istore dX5_readCondition_51 (by decide) rfl ?_
            refine g_aload_n dX5_readCondition_53 rfl ?_
            refine g_iload_n dX5_readCondition_54 rfl (fun _ => ?_)
            refine g_iload dX5_readCondition_55 rfl (fun _ => ?_)
            refine g_cVV (as := [_, _]) (c_X2_aim_90 _ _ h25 hMh25 (by omega) (by omega) (by omega) (by omega)) dX5_readCondition_57 mi_X2_aim in_X2_aim se_X2_aim ml_X5_93 rfl rfl rfl sh_90 rfl rfl (Nat.le_of_ble_eq_true rfl) (fun h27 q28 => ?_)
            obtain ⟨hMh27, hFh27⟩ := q28
            refine g_iload dX5_readCondition_60 rfl (fun _ => ?_)
            refine g_istore_n dX5_readCondition_62 (by decide) rfl ?_
            refine g_aload_n dX5_readCondition_63 rfl ?_
            refine g_aload_n dX5_readCondition_64 rfl ?_
            refine g_iload_n dX5_readCondition_65 rfl (fun _ => ?_)
            refine g_cVV (as := [_, _]) (c_X5_readPart_65_90_k4  h27 hMh27) dX5_readCondition_66 mi_X5_readPart in_X5_readPart se_X5_readPart ml_X5_87 rfl rfl rfl sh_65 rfl rfl (Nat.le_of_ble_eq_true rfl) (fun h29 q30 => ?_)
            obtain ⟨hMh29, hFh29⟩ := q30
            refine g_iincB dX5_readCondition_69 rfl rfl (by omega) (by omega) ?_
            refine g_goto 11 dX5_readCondition_72 (by decide) ?_
            refine g_drop 5 ?_
            exact ih11 _ _ _ hMh29 (Fr.tr (Fr.tr (Fr.tr (Fr.tr (Fr.sub hFh5 rfl) hFh23 rfl) hFh25 rfl) hFh27 rfl) hFh29 rfl) (by omega) (by omega) (by omega) (by omega) (by omega)
  refine g_istore dX5_readCondition_9 (by decide) rfl ?_
  exact c11 201 _ _ _ hMh1 Fr.rf (by omega) (by omega) (by omega) (by omega) (by omega)
set_option maxRecDepth 100000 in
set_option maxHeartbeats 4000000 in
theorem c_X5_readPiece_65_90_k3 (h : MEM) (hM : MBx h) : CV yX5_readPiece cX5_readPiece 5 (none) 19 [pR 65, pR 90, pI 3] h (fun h' => MBx h' ∧ Fr [(65, 3), (65, 4), (65, 5), (90, 2), (95, 0), (96, 0)] h h') := by
  refine CV.of (L0 := [some (pR 65), some (pR 90), some (pI 3), none, none]) rfl (Nat.le_of_ble_eq_true rfl) rfl (fun Po hPo hav => ?_)
  refine g_aload_n dX5_readPiece_0 rfl ?_
  refine gI_X5_22 rfl dX5_readPiece_1 sh_65 (m_65_3 hM) (fun v1 ev1 bv1 cv1 => ?_)
  refine g_if_eq 8 dX5_readPiece_4 (by decide) (fun q2 => ?_) (fun q2 => ?_)
  · skip
    refine g_iload_n dX5_readPiece_8 rfl (fun _ => ?_)
    refine g_istore_n dX5_readPiece_9 (by decide) rfl ?_
    refine g_iconst dX5_readPiece_10 (inR_c rfl) ?_
    have c13 : ∀ (n : Nat) (y3 y4 : Int) (h5 : MEM), MBx h5 → Fr [(65, 3)] h h5 → 3 ≤ y3 → y3 ≤ 6 → 0 ≤ y4 → y4 ≤ 6 → 6 - y3 < (n : Int) → G yX5_readPiece cX5_readPiece 5 (none) none Po (19, 1140, 0, 0) 13 [some (pR 65), some (pR 90), some (pI 3), some (pI y3), some (pI y4)] [] SH h5 0 0 := by
      intro n
      induction n with
      | zero =>
        intro y3 y4 h5 hMh5 hFh5 by3 dy3 by4 dy4 hn
        exfalso; omega
      | succ n ih13 =>
        intro y3 y4 h5 hMh5 hFh5 by3 dy3 by4 dy4 hn
        refine g_iload dX5_readPiece_13 rfl (fun _ => ?_)
        refine g_bipush dX5_readPiece_15 (inR_c rfl) (by decide) ?_
        have c54 : G yX5_readPiece cX5_readPiece 5 (none) none Po (19, 1140, 0, 0) 54 [some (pR 65), some (pR 90), some (pI 3), some (pI y3), none] [] SH h5 0 0 := by
          refine g_iload_n dX5_readPiece_54 rfl (fun _ => ?_)
          refine g_bipush dX5_readPiece_55 (inR_c rfl) (by decide) ?_
          have c128 : ∀ (h6 : MEM), MBx h6 → Fr [(65, 3), (65, 4), (65, 5), (90, 2), (95, 0), (96, 0)] h5 h6 → G yX5_readPiece cX5_readPiece 5 (none) none Po (19, 1140, 0, 0) 128 [none, some (pR 90), some (pI 3), some (pI y3), none] [] SH h6 0 0 := by
            intro h6 hMh6 hFh6
            refine g_iload_n dX5_readPiece_128 rfl (fun _ => ?_)
            have c131 : ∀ (n : Nat) (y7 : Int) (h8 : MEM), MBx h8 → Fr [(90, 2), (95, 0), (96, 0)] h6 h8 → 3 ≤ y7 → y7 ≤ 6 → 6 - y7 < (n : Int) → G yX5_readPiece cX5_readPiece 5 (none) none Po (19, 1140, 0, 0) 131 [none, some (pR 90), none, some (pI y3), some (pI y7)] [] SH h8 0 0 := by
              intro n
              induction n with
              | zero =>
                intro y7 h8 hMh8 hFh8 by7 dy7 hn
                exfalso; omega
              | succ n ih131 =>
                intro y7 h8 hMh8 hFh8 by7 dy7 hn
                refine g_iload dX5_readPiece_131 rfl (fun _ => ?_)
                refine g_iload_n dX5_readPiece_133 rfl (fun _ => ?_)
                refine g_icmp_ge 150 dX5_readPiece_134 (by decide) (fun q9 => ?_) (fun q9 => ?_)
                · skip
                  exact g_return dX5_readPiece_150 rfl (hPo _ ⟨hMh8, (Fr.tr (Fr.tr (Fr.sub hFh5 rfl) hFh6 rfl) hFh8 rfl)⟩)
                · skip
                  refine g_aload_n dX5_readPiece_137 rfl ?_
                  refine g_iconst dX5_readPiece_138 (inR_c rfl) ?_
                  refine g_iconst dX5_readPiece_139 (inR_c rfl) ?_
                  refine g_cV (as := [_, _]) (c_X2_addStep_90 _ _ h8 hMh8 (by omega) (by omega) (by omega) (by omega)) dX5_readPiece_140 mi_X2_addStep in_X2_addStep se_X2_addStep ml_X5_90 rfl rfl rfl sh_90 rfl rfl (Nat.le_of_ble_eq_true rfl) (fun v10 h11 q12 => ?_)
                  obtain ⟨hMh11, hFh11, bv10, cv10⟩ := q12
                  refine g_pop dX5_readPiece_143 rfl ?_
                  refine g_iincB dX5_readPiece_144 rfl rfl (by omega) (by omega) ?_
                  refine g_goto 131 dX5_readPiece_147 (by decide) ?_
                  exact ih131 _ _ hMh11 (Fr.tr (Fr.sub hFh8 rfl) hFh11 rfl) (by omega) (by omega) (by omega)
            refine g_istore dX5_readPiece_129 (by decide) rfl ?_
            refine g_drop 2 ?_
            exact c131 4 _ _ hMh6 Fr.rf (by omega) (by omega) (by omega)
          refine g_icmp_lt 86 dX5_readPiece_57 (by decide) (fun q13 => ?_) (fun q13 => ?_)
          · skip
            refine g_aload_n dX5_readPiece_86 rfl ?_
            refine g_cVP (as := []) (c_X5_sign_65  h5 hMh5) dX5_readPiece_87 mi_X5_sign in_X5_sign se_X5_sign ml_X5_56 rfl rfl rfl sh_65 rfl rfl (Nat.le_of_ble_eq_true rfl) (fun v14 q15 => ?_)
            obtain ⟨bv14, cv14, zv14⟩ := q15
            refine g_bipush dX5_readPiece_90 (inR_c rfl) (by decide) ?_
            refine g_icmp_ne 122 dX5_readPiece_92 (by decide) (fun q16 => ?_) (fun q16 => ?_)
            · skip
              refine g_aload_n dX5_readPiece_122 rfl ?_
              refine g_aload_n dX5_readPiece_123 rfl ?_
              refine g_iload_n dX5_readPiece_124 rfl (fun _ => ?_)
              rcases (show y3 = 3 ∨ y3 = 4 ∨ y3 = 5 by omega) with q17 | q17 | q17
              · skip
                refine g_stk (S' := [(pI 3), (pR 90), (pR 65)]) (by rw [q17]) ?_
                refine g_cVV (as := [_, _]) (c_X5_readComparison_65_90_k3  h5 hMh5) dX5_readPiece_125 mi_X5_readComparison in_X5_readComparison se_X5_readComparison ml_X5_100 rfl rfl rfl sh_65 rfl rfl (Nat.le_of_ble_eq_true rfl) (fun h18 q19 => ?_)
                obtain ⟨hMh18, hFh18⟩ := q19
                refine g_drop 0 ?_
                exact c128 _ hMh18 (Fr.sub hFh18 rfl)
              · skip
                refine g_stk (S' := [(pI 4), (pR 90), (pR 65)]) (by rw [q17]) ?_
                refine g_cVV (as := [_, _]) (c_X5_readComparison_65_90_k4  h5 hMh5) dX5_readPiece_125 mi_X5_readComparison in_X5_readComparison se_X5_readComparison ml_X5_100 rfl rfl rfl sh_65 rfl rfl (Nat.le_of_ble_eq_true rfl) (fun h20 q21 => ?_)
                obtain ⟨hMh20, hFh20⟩ := q21
                refine g_drop 0 ?_
                exact c128 _ hMh20 (Fr.sub hFh20 rfl)
              · skip
                refine g_stk (S' := [(pI 5), (pR 90), (pR 65)]) (by rw [q17]) ?_
                refine g_cVV (as := [_, _]) (c_X5_readComparison_65_90_k5  h5 hMh5) dX5_readPiece_125 mi_X5_readComparison in_X5_readComparison se_X5_readComparison ml_X5_100 rfl rfl rfl sh_65 rfl rfl (Nat.le_of_ble_eq_true rfl) (fun h22 q23 => ?_)
                obtain ⟨hMh22, hFh22⟩ := q23
                refine g_drop 0 ?_
                exact c128 _ hMh22 (Fr.sub hFh22 rfl)
            · skip
              refine g_aload_n dX5_readPiece_95 rfl ?_
              refine g_dup dX5_readPiece_96 rfl ?_
              refine gI_X5_19 rfl dX5_readPiece_97 sh_65 (m_65_2 hMh5) (fun v24 ev24 bv24 cv24 => ?_)
              refine g_iconst dX5_readPiece_100 (inR_c rfl) ?_
              refine g_iaddF dX5_readPiece_101 (fun v25 bv25 cv25 => ?_)
              refine pI_X5_19 rfl dX5_readPiece_102 sh_65 (fun h26 eh26 => ?_)
              have hFh26 := Fr.st eh26
              have hMh26 := u_65_2 hMh5 eh26 (by omega) (by omega)
              refine g_aload_n dX5_readPiece_105 rfl ?_
              refine g_aload_n dX5_readPiece_106 rfl ?_
              refine g_iload_n dX5_readPiece_107 rfl (fun _ => ?_)
              refine g_iconst dX5_readPiece_108 (inR_c rfl) ?_
              refine g_iaddB dX5_readPiece_109 (by omega) (by omega) ?_
              rcases (show (y3 + 1) = 4 ∨ (y3 + 1) = 5 ∨ (y3 + 1) = 6 by omega) with q27 | q27 | q27
              · skip
                refine g_stk (S' := [(pI 4), (pR 90), (pR 65)]) (by rw [q27]) ?_
                refine g_cVV (as := [_, _]) (c_X5_readCondition_65_90_k4  h26 hMh26) dX5_readPiece_110 mi_X5_readCondition in_X5_readCondition se_X5_readCondition ml_X5_81 rfl rfl rfl sh_65 rfl rfl (Nat.le_of_ble_eq_true rfl) (fun h28 q29 => ?_)
                obtain ⟨hMh28, hFh28⟩ := q29
                refine g_aload_n dX5_readPiece_113 rfl ?_
                refine g_bipush dX5_readPiece_114 (inR_c rfl) (by decide) ?_
                refine g_cVV (as := [_]) (c_X5_expect_65 _ h28 hMh28 (by omega) (by omega)) dX5_readPiece_116 mi_X5_expect in_X5_expect se_X5_expect ml_X5_52 rfl rfl rfl sh_65 rfl rfl (Nat.le_of_ble_eq_true rfl) (fun h30 q31 => ?_)
                obtain ⟨hMh30, hFh30⟩ := q31
                refine g_goto 128 dX5_readPiece_119 (by decide) ?_
                refine g_drop 0 ?_
                exact c128 _ hMh30 (Fr.tr (Fr.tr (Fr.sub hFh26 rfl) hFh28 rfl) hFh30 rfl)
              · skip
                refine g_stk (S' := [(pI 5), (pR 90), (pR 65)]) (by rw [q27]) ?_
                refine g_cVV (as := [_, _]) (c_X5_readCondition_65_90_k5  h26 hMh26) dX5_readPiece_110 mi_X5_readCondition in_X5_readCondition se_X5_readCondition ml_X5_81 rfl rfl rfl sh_65 rfl rfl (Nat.le_of_ble_eq_true rfl) (fun h32 q33 => ?_)
                obtain ⟨hMh32, hFh32⟩ := q33
                refine g_aload_n dX5_readPiece_113 rfl ?_
                refine g_bipush dX5_readPiece_114 (inR_c rfl) (by decide) ?_
                refine g_cVV (as := [_]) (c_X5_expect_65 _ h32 hMh32 (by omega) (by omega)) dX5_readPiece_116 mi_X5_expect in_X5_expect se_X5_expect ml_X5_52 rfl rfl rfl sh_65 rfl rfl (Nat.le_of_ble_eq_true rfl) (fun h34 q35 => ?_)
                obtain ⟨hMh34, hFh34⟩ := q35
                refine g_goto 128 dX5_readPiece_119 (by decide) ?_
                refine g_drop 0 ?_
                exact c128 _ hMh34 (Fr.tr (Fr.tr (Fr.sub hFh26 rfl) hFh32 rfl) hFh34 rfl)
              · skip
                refine g_stk (S' := [(pI 6), (pR 90), (pR 65)]) (by rw [q27]) ?_
                refine g_cVV (as := [_, _]) (c_X5_readCondition_65_90_k6  h26 hMh26) dX5_readPiece_110 mi_X5_readCondition in_X5_readCondition se_X5_readCondition ml_X5_81 rfl rfl rfl sh_65 rfl rfl (Nat.le_of_ble_eq_true rfl) (fun h36 q37 => ?_)
                obtain ⟨hMh36, hFh36⟩ := q37
                refine g_aload_n dX5_readPiece_113 rfl ?_
                refine g_bipush dX5_readPiece_114 (inR_c rfl) (by decide) ?_
                refine g_cVV (as := [_]) (c_X5_expect_65 _ h36 hMh36 (by omega) (by omega)) dX5_readPiece_116 mi_X5_expect in_X5_expect se_X5_expect ml_X5_52 rfl rfl rfl sh_65 rfl rfl (Nat.le_of_ble_eq_true rfl) (fun h38 q39 => ?_)
                obtain ⟨hMh38, hFh38⟩ := q39
                refine g_goto 128 dX5_readPiece_119 (by decide) ?_
                refine g_drop 0 ?_
                exact c128 _ hMh38 (Fr.tr (Fr.tr (Fr.sub hFh26 rfl) hFh36 rfl) hFh38 rfl)
          · skip
            refine g_aload_n dX5_readPiece_60 rfl ?_
            refine g_cVP (as := []) (c_X5_sign_65  h5 hMh5) dX5_readPiece_61 mi_X5_sign in_X5_sign se_X5_sign ml_X5_56 rfl rfl rfl sh_65 rfl rfl (Nat.le_of_ble_eq_true rfl) (fun v40 q41 => ?_)
            obtain ⟨bv40, cv40, zv40⟩ := q41
            refine g_bipush dX5_readPiece_64 (inR_c rfl) (by decide) ?_
            have c78 : G yX5_readPiece cX5_readPiece 5 (none) none Po (19, 1140, 0, 0) 78 [some (pR 65), some (pR 90), some (pI 3), some (pI y3), none] [] SH h5 0 0 := by
              refine g_aload_n dX5_readPiece_78 rfl ?_
              refine g_iconst dX5_readPiece_79 (inR_c rfl) ?_
              refine g_cVV (as := [_]) (c_X5_fail_65 _ h5 hMh5 (by omega) (by omega)) dX5_readPiece_80 mi_X5_fail in_X5_fail se_X5_fail ml_X5_60 rfl rfl rfl sh_65 rfl rfl (Nat.le_of_ble_eq_true rfl) (fun h42 q43 => ?_)
              obtain ⟨hMh42, hFh42, az44, bz44⟩ := q43
              obtain ⟨v45, ev45⟩ : ∃ z, z = h42 65 3 := ⟨_, rfl⟩
              have bv45 : 1 ≤ v45 ∧ v45 ≤ 5 := by rw [ev45]; exact ⟨az44, bz44⟩
              refine g_goto 128 dX5_readPiece_83 (by decide) ?_
              refine g_drop 0 ?_
              exact c128 _ hMh42 (Fr.sub hFh42 rfl)
            refine g_icmp_eq 78 dX5_readPiece_66 (by decide) (fun q46 => ?_) (fun q46 => ?_)
            · skip
              exact c78 
            · skip
              refine g_aload_n dX5_readPiece_69 rfl ?_
              refine g_cVP (as := []) (c_X5_sign_65  h5 hMh5) dX5_readPiece_70 mi_X5_sign in_X5_sign se_X5_sign ml_X5_56 rfl rfl rfl sh_65 rfl rfl (Nat.le_of_ble_eq_true rfl) (fun v47 q48 => ?_)
              obtain ⟨bv47, cv47, zv47⟩ := q48
              have tv47 : v47 = v40 := by rw [zv47, zv40]
              refine g_bipush dX5_readPiece_73 (inR_c rfl) (by decide) ?_
              refine g_icmp_ne 86 dX5_readPiece_75 (by decide) (fun q49 => ?_) (fun q49 => ?_)
              · skip
                refine g_aload_n dX5_readPiece_86 rfl ?_
                refine g_cVP (as := []) (c_X5_sign_65  h5 hMh5) dX5_readPiece_87 mi_X5_sign in_X5_sign se_X5_sign ml_X5_56 rfl rfl rfl sh_65 rfl rfl (Nat.le_of_ble_eq_true rfl) (fun v50 q51 => ?_)
                obtain ⟨bv50, cv50, zv50⟩ := q51
                have tv50 : v50 = v40 := by rw [zv50, zv40]
                refine g_bipush dX5_readPiece_90 (inR_c rfl) (by decide) ?_
                refine g_icmp_ne 122 dX5_readPiece_92 (by decide) (fun q52 => ?_) (fun _ => by exfalso; omega)
                refine g_aload_n dX5_readPiece_122 rfl ?_
                refine g_aload_n dX5_readPiece_123 rfl ?_
                refine g_iload_n dX5_readPiece_124 rfl (fun _ => ?_)
                have q53 : y3 = 6 := by omega
                refine g_stk (S' := [(pI 6), (pR 90), (pR 65)]) (by rw [q53]) ?_
                refine g_cVV (as := [_, _]) (c_X5_readComparison_65_90_k6  h5 hMh5) dX5_readPiece_125 mi_X5_readComparison in_X5_readComparison se_X5_readComparison ml_X5_100 rfl rfl rfl sh_65 rfl rfl (Nat.le_of_ble_eq_true rfl) (fun h54 q55 => ?_)
                obtain ⟨hMh54, hFh54⟩ := q55
                refine g_drop 0 ?_
                exact c128 _ hMh54 (Fr.sub hFh54 rfl)
              · skip
                exact c78 
        refine g_icmp_ge 54 dX5_readPiece_17 (by decide) (fun q56 => ?_) (fun q56 => ?_)
        · skip
          refine g_drop 4 ?_
          exact c54 
        · skip
          refine g_iload_n dX5_readPiece_20 rfl (fun _ => ?_)
          refine g_bipush dX5_readPiece_21 (inR_c rfl) (by decide) ?_
          refine g_icmp_ge 54 dX5_readPiece_23 (by decide) (fun q57 => ?_) (fun q57 => ?_)
          · skip
            refine g_drop 4 ?_
            exact c54 
          · skip
            refine g_aload_n dX5_readPiece_26 rfl ?_
            refine g_cVP (as := []) (c_X5_sign_65  h5 hMh5) dX5_readPiece_27 mi_X5_sign in_X5_sign se_X5_sign ml_X5_56 rfl rfl rfl sh_65 rfl rfl (Nat.le_of_ble_eq_true rfl) (fun v58 q59 => ?_)
            obtain ⟨bv58, cv58, zv58⟩ := q59
            refine g_bipush dX5_readPiece_30 (inR_c rfl) (by decide) ?_
            refine g_icmp_ne 54 dX5_readPiece_32 (by decide) (fun q60 => ?_) (fun q60 => ?_)
            · skip
              refine g_drop 4 ?_
              exact c54 
            · skip
              refine g_aload_n dX5_readPiece_35 rfl ?_
              refine g_dup dX5_readPiece_36 rfl ?_
              refine gI_X5_19 rfl dX5_readPiece_37 sh_65 (m_65_2 hMh5) (fun v61 ev61 bv61 cv61 => ?_)
              refine g_iconst dX5_readPiece_40 (inR_c rfl) ?_
              refine g_iaddF dX5_readPiece_41 (fun v62 bv62 cv62 => ?_)
              refine pI_X5_19 rfl dX5_readPiece_42 sh_65 (fun h63 eh63 => ?_)
              have hFh63 := Fr.st eh63
              have hMh63 := u_65_2 hMh5 eh63 (by omega) (by omega)
              refine g_iincB dX5_readPiece_45 rfl rfl (by omega) (by omega) ?_
              refine g_iincB dX5_readPiece_48 rfl rfl (by omega) (by omega) ?_
              refine g_goto 13 dX5_readPiece_51 (by decide) ?_
              exact ih13 _ _ _ hMh63 (Fr.tr (Fr.sub hFh5 rfl) hFh63 rfl) (by omega) (by omega) (by omega) (by omega) (by omega)
    refine g_istore dX5_readPiece_11 (by decide) rfl ?_
    exact c13 4 _ _ _ hM Fr.rf (by omega) (by omega) (by omega) (by omega) (by omega)
  · skip
    exact g_return dX5_readPiece_7 rfl (hPo _ ⟨hM, Fr.rf⟩)
set_option maxRecDepth 100000 in
set_option maxHeartbeats 4000000 in
theorem c_X5_readPart_65_90_k3 (h : MEM) (hM : MBx h) : CV yX5_readPart cX5_readPart 6 (none) 20 [pR 65, pR 90, pI 3] h (fun h' => MBx h' ∧ Fr [(65, 3), (65, 4), (65, 5), (90, 2), (95, 0), (96, 0)] h h') := by
  refine CV.of (L0 := [some (pR 65), some (pR 90), some (pI 3), none, none, none]) rfl (Nat.le_of_ble_eq_true rfl) rfl (fun Po hPo hav => ?_)
  refine g_aload_n dX5_readPart_0 rfl ?_
  refine g_aload_n dX5_readPart_1 rfl ?_
  refine g_iload_n dX5_readPart_2 rfl (fun _ => ?_)
  refine g_cVV (as := [_, _]) (c_X5_readPiece_65_90_k3  h hM) dX5_readPart_3 mi_X5_readPiece in_X5_readPiece se_X5_readPiece ml_X5_97 rfl rfl rfl sh_65 rfl rfl (Nat.le_of_ble_eq_true rfl) (fun h1 q2 => ?_)
  obtain ⟨hMh1, hFh1⟩ := q2
  refine g_iconst dX5_readPart_6 (inR_c rfl) ?_
  refine g_istore_n dX5_readPart_7 (by decide) rfl ?_
  refine g_iconst dX5_readPart_8 (inR_c rfl) ?_
  have c11 : ∀ (n : Nat) (y3 y4 : Int) (h5 : MEM), MBx h5 → Fr [(65, 3), (65, 4), (65, 5), (90, 2), (95, 0), (96, 0)] h1 h5 → -1 ≤ y3 → y3 ≤ 199 → 0 ≤ y4 → y4 ≤ 200 → 200 - y4 < (n : Int) → G yX5_readPart cX5_readPart 6 (none) none Po (20, 1200, 0, 0) 11 [some (pR 65), some (pR 90), some (pI 3), some (pI y3), some (pI y4), none] [] SH h5 0 0 := by
    intro n
    induction n with
    | zero =>
      intro y3 y4 h5 hMh5 hFh5 by3 dy3 by4 dy4 hn
      exfalso; omega
    | succ n ih11 =>
      intro y3 y4 h5 hMh5 hFh5 by3 dy3 by4 dy4 hn
      refine g_iload dX5_readPart_11 rfl (fun _ => ?_)
      refine g_sipush dX5_readPart_13 (inR_c rfl) (by decide) ?_
      refine g_icmp_ge 75 dX5_readPart_16 (by decide) (fun q6 => ?_) (fun q6 => ?_)
      · skip
        refine g_aload_n dX5_readPart_75 rfl ?_
        refine g_iload_n dX5_readPart_76 rfl (fun _ => ?_)
        refine g_aload_n dX5_readPart_77 rfl ?_
        refine gI_X5_45 rfl dX5_readPart_78 sh_90 (m_90_1 hMh5) (fun v7 ev7 bv7 cv7 => ?_)
        refine g_cVV (as := [_, _]) (c_X2_aim_90 _ _ h5 hMh5 (by omega) (by omega) (by omega) (by omega)) dX5_readPart_81 mi_X2_aim in_X2_aim se_X2_aim ml_X5_93 rfl rfl rfl sh_90 rfl rfl (Nat.le_of_ble_eq_true rfl) (fun h8 q9 => ?_)
        obtain ⟨hMh8, hFh8⟩ := q9
        exact g_return dX5_readPart_84 rfl (hPo _ ⟨hMh8, (Fr.tr (Fr.tr (Fr.sub hFh1 rfl) hFh5 rfl) hFh8 rfl)⟩)
      · skip
        refine g_aload_n dX5_readPart_19 rfl ?_
        refine gI_X5_22 rfl dX5_readPart_20 sh_65 (m_65_3 hMh5) (fun v10 ev10 bv10 cv10 => ?_)
        refine g_if_ne 75 dX5_readPart_23 (by decide) (fun q11 => ?_) (fun q11 => ?_)
        · skip
          refine g_aload_n dX5_readPart_75 rfl ?_
          refine g_iload_n dX5_readPart_76 rfl (fun _ => ?_)
          refine g_aload_n dX5_readPart_77 rfl ?_
          refine gI_X5_45 rfl dX5_readPart_78 sh_90 (m_90_1 hMh5) (fun v12 ev12 bv12 cv12 => ?_)
          refine g_cVV (as := [_, _]) (c_X2_aim_90 _ _ h5 hMh5 (by omega) (by omega) (by omega) (by omega)) dX5_readPart_81 mi_X2_aim in_X2_aim se_X2_aim ml_X5_93 rfl rfl rfl sh_90 rfl rfl (Nat.le_of_ble_eq_true rfl) (fun h13 q14 => ?_)
          obtain ⟨hMh13, hFh13⟩ := q14
          exact g_return dX5_readPart_84 rfl (hPo _ ⟨hMh13, (Fr.tr (Fr.tr (Fr.sub hFh1 rfl) hFh5 rfl) hFh13 rfl)⟩)
        · skip
          refine g_aload_n dX5_readPart_26 rfl ?_
          refine g_cVP (as := []) (c_X5_sign_65  h5 hMh5) dX5_readPart_27 mi_X5_sign in_X5_sign se_X5_sign ml_X5_56 rfl rfl rfl sh_65 rfl rfl (Nat.le_of_ble_eq_true rfl) (fun v15 q16 => ?_)
          obtain ⟨bv15, cv15, zv15⟩ := q16
          refine g_bipush dX5_readPart_30 (inR_c rfl) (by decide) ?_
          refine g_icmp_ne 75 dX5_readPart_32 (by decide) (fun q17 => ?_) (fun q17 => ?_)
          · skip
            refine g_aload_n dX5_readPart_75 rfl ?_
            refine g_iload_n dX5_readPart_76 rfl (fun _ => ?_)
            refine g_aload_n dX5_readPart_77 rfl ?_
            refine gI_X5_45 rfl dX5_readPart_78 sh_90 (m_90_1 hMh5) (fun v18 ev18 bv18 cv18 => ?_)
            refine g_cVV (as := [_, _]) (c_X2_aim_90 _ _ h5 hMh5 (by omega) (by omega) (by omega) (by omega)) dX5_readPart_81 mi_X2_aim in_X2_aim se_X2_aim ml_X5_93 rfl rfl rfl sh_90 rfl rfl (Nat.le_of_ble_eq_true rfl) (fun h19 q20 => ?_)
            obtain ⟨hMh19, hFh19⟩ := q20
            exact g_return dX5_readPart_84 rfl (hPo _ ⟨hMh19, (Fr.tr (Fr.tr (Fr.sub hFh1 rfl) hFh5 rfl) hFh19 rfl)⟩)
          · skip
            refine g_aload_n dX5_readPart_35 rfl ?_
            refine g_dup dX5_readPart_36 rfl ?_
            refine gI_X5_19 rfl dX5_readPart_37 sh_65 (m_65_2 hMh5) (fun v21 ev21 bv21 cv21 => ?_)
            refine g_iconst dX5_readPart_40 (inR_c rfl) ?_
            refine g_iaddF dX5_readPart_41 (fun v22 bv22 cv22 => ?_)
            refine pI_X5_19 rfl dX5_readPart_42 sh_65 (fun h23 eh23 => ?_)
            have hFh23 := Fr.st eh23
            have hMh23 := u_65_2 hMh5 eh23 (by omega) (by omega)
            refine g_aload_n dX5_readPart_45 rfl ?_
            refine g_iconst dX5_readPart_46 (inR_c rfl) ?_
            refine g_iconst dX5_readPart_47 (inR_c rfl) ?_
            refine g_cV (as := [_, _]) (c_X2_addStep_90 _ _ h23 hMh23 (by omega) (by omega) (by omega) (by omega)) dX5_readPart_48 mi_X2_addStep in_X2_addStep se_X2_addStep ml_X5_90 rfl rfl rfl sh_90 rfl rfl (Nat.le_of_ble_eq_true rfl) (fun v24 h25 q26 => ?_)
            obtain ⟨hMh25, hFh25, bv24, cv24⟩ := q26
            refine g_istore dX5_readPart_51 (by decide) rfl ?_
            refine g_aload_n dX5_readPart_53 rfl ?_
            refine g_iload_n dX5_readPart_54 rfl (fun _ => ?_)
            refine g_iload dX5_readPart_55 rfl (fun _ => ?_)
            refine g_cVV (as := [_, _]) (c_X2_aim_90 _ _ h25 hMh25 (by omega) (by omega) (by omega) (by omega)) dX5_readPart_57 mi_X2_aim in_X2_aim se_X2_aim ml_X5_93 rfl rfl rfl sh_90 rfl rfl (Nat.le_of_ble_eq_true rfl) (fun h27 q28 => ?_)
            obtain ⟨hMh27, hFh27⟩ := q28
            refine g_iload dX5_readPart_60 rfl (fun _ => ?_)
            refine g_istore_n dX5_readPart_62 (by decide) rfl ?_
            refine g_aload_n dX5_readPart_63 rfl ?_
            refine g_aload_n dX5_readPart_64 rfl ?_
            refine g_iload_n dX5_readPart_65 rfl (fun _ => ?_)
            refine g_cVV (as := [_, _]) (c_X5_readPiece_65_90_k3  h27 hMh27) dX5_readPart_66 mi_X5_readPiece in_X5_readPiece se_X5_readPiece ml_X5_97 rfl rfl rfl sh_65 rfl rfl (Nat.le_of_ble_eq_true rfl) (fun h29 q30 => ?_)
            obtain ⟨hMh29, hFh29⟩ := q30
            refine g_iincB dX5_readPart_69 rfl rfl (by omega) (by omega) ?_
            refine g_goto 11 dX5_readPart_72 (by decide) ?_
            refine g_drop 5 ?_
            exact ih11 _ _ _ hMh29 (Fr.tr (Fr.tr (Fr.tr (Fr.tr (Fr.sub hFh5 rfl) hFh23 rfl) hFh25 rfl) hFh27 rfl) hFh29 rfl) (by omega) (by omega) (by omega) (by omega) (by omega)
  refine g_istore dX5_readPart_9 (by decide) rfl ?_
  exact c11 201 _ _ _ hMh1 Fr.rf (by omega) (by omega) (by omega) (by omega) (by omega)
