set_option maxRecDepth 100000 in
set_option maxHeartbeats 4000000 in
theorem c_X11_seed_0 (x1 : Int) (h : MEM) (hM : MBx h) (bx1 : -2147483648 ≤ x1) (dx1 : x1 ≤ 2147483647) : CI yX11_seed cX11_seed 2 (some .boolean) 2 [pR 0, pI x1] h (fun x h' => MBx h' ∧ Fr [(1, 8)] h h' ∧ 0 ≤ x ∧ x ≤ 1 ∧ ((0 ≤ x1 ∧ x1 ≤ 65535 ∧ x = 1) ∨ (¬ (0 ≤ x1 ∧ x1 ≤ 65535) ∧ x = 0))) := by
  refine CI.of (L0 := [some (pR 0), some (pI x1)]) rfl (Nat.le_of_ble_eq_true rfl) rfl (fun Po hPo hav => ?_)
  refine g_iload_n dX11_seed_0 rfl (fun _ => ?_)
  refine g_iconst dX11_seed_1 (inR_c rfl) ?_
  refine g_ldc_w (v := 65535) dX11_seed_2 kc_X11_299 (inR_c rfl) ?_
  refine g_cSP (av := [_, _, _]) (c_X11_isWithin _ _ _ h hM (by omega) (by omega) (by omega) (by omega) (by omega) (by omega)) dX11_seed_5 mi_X11_isWithin st_X11_isWithin ml_X11_81 rfl rfl rfl rfl (Nat.le_of_ble_eq_true rfl) (fun v1 q2 => ?_)
  rcases q2 with ⟨rfl, q2⟩ | ⟨rfl, q2⟩
  · skip
    refine g_if_ne 13 dX11_seed_8 (by decide) (fun q3 => ?_) (fun _ => by exfalso; omega)
    refine g_aload_n dX11_seed_13 rfl ?_
    refine gR_X11_10 rfl dX11_seed_14 sh_0 (b := 1) (m_0_0 hM) ?_
    refine g_iload_n dX11_seed_17 rfl (fun _ => ?_)
    refine pI_X11_300 rfl dX11_seed_18 sh_1 (fun h4 eh4 => ?_)
    have hFh4 := Fr.st eh4
    have hMh4 := u_1_7 hM eh4 (by omega) (by omega)
    refine g_iconst dX11_seed_21 (inR_c rfl) ?_
    exact g_ireturn dX11_seed_22 (retZ (by omega)) (hPo _ _ ⟨hMh4, (Fr.sub hFh4 rfl), (by omega), (by omega), (by omega)⟩)
  · skip
    refine g_if_ne 13 dX11_seed_8 (by decide) (fun _ => by exfalso; omega) (fun q5 => ?_)
    refine g_iconst dX11_seed_11 (inR_c rfl) ?_
    exact g_ireturn dX11_seed_12 (retZ (by omega)) (hPo _ _ ⟨hM, Fr.rf, (by omega), (by omega), (by omega)⟩)
set_option maxRecDepth 100000 in
set_option maxHeartbeats 4000000 in
theorem c_X6_copyFrom_42_2 (h : MEM) (hM : MBx h) : CV yX6_copyFrom cX6_copyFrom 2 (none) 1 [pR 42, pR 2] h (fun h' => MBx h' ∧ Fr [(42, 1), (43, 0), (44, 0), (45, 0)] h h' ∧ h' 42 0 = h 2 0) := by
  refine CV.of (L0 := [some (pR 42), some (pR 2)]) rfl (Nat.le_of_ble_eq_true rfl) rfl (fun Po hPo hav => ?_)
  obtain ⟨v1, ev1⟩ : ∃ z, z = h 2 0 := ⟨_, rfl⟩
  have bv1 : 0 ≤ v1 ∧ v1 ≤ 10 := by rw [ev1]; exact (m_2_0 hM)
  refine g_aload_n dX6_copyFrom_0 rfl ?_
  refine g_aload_n dX6_copyFrom_1 rfl ?_
  refine gE_X6_9 rfl dX6_copyFrom_2 sh_2 ev1.symm ?_
  refine pI_X6_9 rfl dX6_copyFrom_5 sh_42 (fun h2 eh2 => ?_)
  have hFh2 := Fr.st eh2
  have hMh2 := u_42_0 hM eh2 (by omega) (by omega)
  refine g_aload_n dX6_copyFrom_8 rfl ?_
  refine gR_X6_15 rfl dX6_copyFrom_9 sh_2 (b := 3) (m_2_1 hMh2) ?_
  refine g_iconst dX6_copyFrom_12 (inR_c rfl) ?_
  refine g_aload_n dX6_copyFrom_13 rfl ?_
  refine gR_X6_15 rfl dX6_copyFrom_14 sh_42 (b := 43) (m_42_1 hMh2) ?_
  refine g_iconst dX6_copyFrom_17 (inR_c rfl) ?_
  refine g_bipush dX6_copyFrom_18 (inR_c rfl) (by decide) ?_
  refine g_acopy dX6_copyFrom_20 ml_X6_25 sh_3 sh_43 (by decide) (by decide) (by decide) (by decide) (by decide) (by decide) (by decide) (fun h3 eh3 => ?_)
  have hFh3 := Fr.cp eh3
  have hMh3 := MBx.cp hMh2 eh3 (by decide) (p0 := (-2147483648, 2147483647)) (p := (-2147483648, 2147483647)) rfl rfl (by decide) (by decide)
  refine g_aload_n dX6_copyFrom_23 rfl ?_
  refine gR_X6_19 rfl dX6_copyFrom_24 sh_2 (b := 4) (m_2_2 hMh3) ?_
  refine g_iconst dX6_copyFrom_27 (inR_c rfl) ?_
  refine g_aload_n dX6_copyFrom_28 rfl ?_
  refine gR_X6_19 rfl dX6_copyFrom_29 sh_42 (b := 44) (m_42_2 hMh3) ?_
  refine g_iconst dX6_copyFrom_32 (inR_c rfl) ?_
  refine g_bipush dX6_copyFrom_33 (inR_c rfl) (by decide) ?_
  refine g_acopy dX6_copyFrom_35 ml_X6_25 sh_4 sh_44 (by decide) (by decide) (by decide) (by decide) (by decide) (by decide) (by decide) (fun h4 eh4 => ?_)
  have hFh4 := Fr.cp eh4
  have hMh4 := MBx.cp hMh3 eh4 (by decide) (p0 := (-2147483648, 2147483647)) (p := (-2147483648, 2147483647)) rfl rfl (by decide) (by decide)
  refine g_aload_n dX6_copyFrom_38 rfl ?_
  refine gR_X6_22 rfl dX6_copyFrom_39 sh_2 (b := 5) (m_2_3 hMh4) ?_
  refine g_iconst dX6_copyFrom_42 (inR_c rfl) ?_
  refine g_aload_n dX6_copyFrom_43 rfl ?_
  refine gR_X6_22 rfl dX6_copyFrom_44 sh_42 (b := 45) (m_42_3 hMh4) ?_
  refine g_iconst dX6_copyFrom_47 (inR_c rfl) ?_
  refine g_bipush dX6_copyFrom_48 (inR_c rfl) (by decide) ?_
  refine g_acopy dX6_copyFrom_50 ml_X6_25 sh_5 sh_45 (by decide) (by decide) (by decide) (by decide) (by decide) (by decide) (by decide) (fun h5 eh5 => ?_)
  have hFh5 := Fr.cp eh5
  have hMh5 := MBx.cp hMh4 eh5 (by decide) (p0 := (-2147483648, 2147483647)) (p := (-2147483648, 2147483647)) rfl rfl (by decide) (by decide)
  have q6 : h5 42 0 = v1 := ((hFh5 42 0 rfl).trans ((hFh4 42 0 rfl).trans ((hFh3 42 0 rfl).trans (st_at eh2))))
  exact g_return dX6_copyFrom_53 rfl (hPo _ ⟨hMh5, (Fr.tr (Fr.tr (Fr.tr (Fr.sub hFh2 rfl) hFh3 rfl) hFh4 rfl) hFh5 rfl), (by omega)⟩)
set_option maxRecDepth 100000 in
set_option maxHeartbeats 4000000 in
theorem c_X0_copyFrom_46_6 (h : MEM) (hM : MBx h) : CV yX0_copyFrom cX0_copyFrom 2 (none) 1 [pR 46, pR 6] h (fun h' => MBx h' ∧ Fr [(46, 1), (47, 0), (48, 0), (49, 0), (50, 0), (51, 0)] h h' ∧ h' 46 0 = h 6 0) := by
  refine CV.of (L0 := [some (pR 46), some (pR 6)]) rfl (Nat.le_of_ble_eq_true rfl) rfl (fun Po hPo hav => ?_)
  obtain ⟨v1, ev1⟩ : ∃ z, z = h 6 0 := ⟨_, rfl⟩
  have bv1 : 0 ≤ v1 ∧ v1 ≤ 8 := by rw [ev1]; exact (m_6_0 hM)
  refine g_aload_n dX0_copyFrom_0 rfl ?_
  refine g_aload_n dX0_copyFrom_1 rfl ?_
  refine gE_X0_9 rfl dX0_copyFrom_2 sh_6 ev1.symm ?_
  refine pI_X0_9 rfl dX0_copyFrom_5 sh_46 (fun h2 eh2 => ?_)
  have hFh2 := Fr.st eh2
  have hMh2 := u_46_0 hM eh2 (by omega) (by omega)
  refine g_aload_n dX0_copyFrom_8 rfl ?_
  refine gR_X0_15 rfl dX0_copyFrom_9 sh_6 (b := 7) (m_6_1 hMh2) ?_
  refine g_iconst dX0_copyFrom_12 (inR_c rfl) ?_
  refine g_aload_n dX0_copyFrom_13 rfl ?_
  refine gR_X0_15 rfl dX0_copyFrom_14 sh_46 (b := 47) (m_46_1 hMh2) ?_
  refine g_iconst dX0_copyFrom_17 (inR_c rfl) ?_
  refine g_bipush dX0_copyFrom_18 (inR_c rfl) (by decide) ?_
  refine g_acopy dX0_copyFrom_20 ml_X0_35 sh_7 sh_47 (by decide) (by decide) (by decide) (by decide) (by decide) (by decide) (by decide) (fun h3 eh3 => ?_)
  have hFh3 := Fr.cp eh3
  have hMh3 := MBx.cp hMh2 eh3 (by decide) (p0 := (-2147483648, 2147483647)) (p := (-2147483648, 2147483647)) rfl rfl (by decide) (by decide)
  refine g_aload_n dX0_copyFrom_23 rfl ?_
  refine gR_X0_19 rfl dX0_copyFrom_24 sh_6 (b := 8) (m_6_2 hMh3) ?_
  refine g_iconst dX0_copyFrom_27 (inR_c rfl) ?_
  refine g_aload_n dX0_copyFrom_28 rfl ?_
  refine gR_X0_19 rfl dX0_copyFrom_29 sh_46 (b := 48) (m_46_2 hMh3) ?_
  refine g_iconst dX0_copyFrom_32 (inR_c rfl) ?_
  refine g_bipush dX0_copyFrom_33 (inR_c rfl) (by decide) ?_
  refine g_acopy dX0_copyFrom_35 ml_X0_35 sh_8 sh_48 (by decide) (by decide) (by decide) (by decide) (by decide) (by decide) (by decide) (fun h4 eh4 => ?_)
  have hFh4 := Fr.cp eh4
  have hMh4 := MBx.cp hMh3 eh4 (by decide) (p0 := (-2147483648, 2147483647)) (p := (-2147483648, 2147483647)) rfl rfl (by decide) (by decide)
  refine g_aload_n dX0_copyFrom_38 rfl ?_
  refine gR_X0_22 rfl dX0_copyFrom_39 sh_6 (b := 9) (m_6_3 hMh4) ?_
  refine g_iconst dX0_copyFrom_42 (inR_c rfl) ?_
  refine g_aload_n dX0_copyFrom_43 rfl ?_
  refine gR_X0_22 rfl dX0_copyFrom_44 sh_46 (b := 49) (m_46_3 hMh4) ?_
  refine g_iconst dX0_copyFrom_47 (inR_c rfl) ?_
  refine g_bipush dX0_copyFrom_48 (inR_c rfl) (by decide) ?_
  refine g_acopy dX0_copyFrom_50 ml_X0_35 sh_9 sh_49 (by decide) (by decide) (by decide) (by decide) (by decide) (by decide) (by decide) (fun h5 eh5 => ?_)
  have hFh5 := Fr.cp eh5
  have hMh5 := MBx.cp hMh4 eh5 (by decide) (p0 := (-2147483648, 2147483647)) (p := (-2147483648, 2147483647)) rfl rfl (by decide) (by decide)
  refine g_aload_n dX0_copyFrom_53 rfl ?_
  refine gR_X0_25 rfl dX0_copyFrom_54 sh_6 (b := 10) (m_6_4 hMh5) ?_
  refine g_iconst dX0_copyFrom_57 (inR_c rfl) ?_
  refine g_aload_n dX0_copyFrom_58 rfl ?_
  refine gR_X0_25 rfl dX0_copyFrom_59 sh_46 (b := 50) (m_46_4 hMh5) ?_
  refine g_iconst dX0_copyFrom_62 (inR_c rfl) ?_
  refine g_bipush dX0_copyFrom_63 (inR_c rfl) (by decide) ?_
  refine g_acopy dX0_copyFrom_65 ml_X0_35 sh_10 sh_50 (by decide) (by decide) (by decide) (by decide) (by decide) (by decide) (by decide) (fun h6 eh6 => ?_)
  have hFh6 := Fr.cp eh6
  have hMh6 := MBx.cp hMh5 eh6 (by decide) (p0 := (-2147483648, 2147483647)) (p := (-2147483648, 2147483647)) rfl rfl (by decide) (by decide)
  refine g_aload_n dX0_copyFrom_68 rfl ?_
  refine gR_X0_28 rfl dX0_copyFrom_69 sh_6 (b := 11) (m_6_5 hMh6) ?_
  refine g_iconst dX0_copyFrom_72 (inR_c rfl) ?_
  refine g_aload_n dX0_copyFrom_73 rfl ?_
  refine gR_X0_28 rfl dX0_copyFrom_74 sh_46 (b := 51) (m_46_5 hMh6) ?_
  refine g_iconst dX0_copyFrom_77 (inR_c rfl) ?_
  refine g_bipush dX0_copyFrom_78 (inR_c rfl) (by decide) ?_
  refine g_acopy dX0_copyFrom_80 ml_X0_35 sh_11 sh_51 (by decide) (by decide) (by decide) (by decide) (by decide) (by decide) (by decide) (fun h7 eh7 => ?_)
  have hFh7 := Fr.cp eh7
  have hMh7 := MBx.cp hMh6 eh7 (by decide) (p0 := (-2147483648, 2147483647)) (p := (-2147483648, 2147483647)) rfl rfl (by decide) (by decide)
  have q8 : h7 46 0 = v1 := ((hFh7 46 0 rfl).trans ((hFh6 46 0 rfl).trans ((hFh5 46 0 rfl).trans ((hFh4 46 0 rfl).trans ((hFh3 46 0 rfl).trans (st_at eh2))))))
  exact g_return dX0_copyFrom_83 rfl (hPo _ ⟨hMh7, (Fr.tr (Fr.tr (Fr.tr (Fr.tr (Fr.tr (Fr.sub hFh2 rfl) hFh3 rfl) hFh4 rfl) hFh5 rfl) hFh6 rfl) hFh7 rfl), (by omega)⟩)
set_option maxRecDepth 100000 in
set_option maxHeartbeats 4000000 in
theorem c_X4_copyFrom_52_12 (h : MEM) (hM : MBx h) : CV yX4_copyFrom cX4_copyFrom 2 (none) 1 [pR 52, pR 12] h (fun h' => MBx h' ∧ Fr [(52, 1), (53, 0), (54, 0), (55, 0), (56, 0)] h h' ∧ h' 52 0 = h 12 0) := by
  refine CV.of (L0 := [some (pR 52), some (pR 12)]) rfl (Nat.le_of_ble_eq_true rfl) rfl (fun Po hPo hav => ?_)
  obtain ⟨v1, ev1⟩ : ∃ z, z = h 12 0 := ⟨_, rfl⟩
  have bv1 : 0 ≤ v1 ∧ v1 ≤ 8 := by rw [ev1]; exact (m_12_0 hM)
  refine g_aload_n dX4_copyFrom_0 rfl ?_
  refine g_aload_n dX4_copyFrom_1 rfl ?_
  refine gE_X4_9 rfl dX4_copyFrom_2 sh_12 ev1.symm ?_
  refine pI_X4_9 rfl dX4_copyFrom_5 sh_52 (fun h2 eh2 => ?_)
  have hFh2 := Fr.st eh2
  have hMh2 := u_52_0 hM eh2 (by omega) (by omega)
  refine g_aload_n dX4_copyFrom_8 rfl ?_
  refine gR_X4_15 rfl dX4_copyFrom_9 sh_12 (b := 13) (m_12_1 hMh2) ?_
  refine g_iconst dX4_copyFrom_12 (inR_c rfl) ?_
  refine g_aload_n dX4_copyFrom_13 rfl ?_
  refine gR_X4_15 rfl dX4_copyFrom_14 sh_52 (b := 53) (m_52_1 hMh2) ?_
  refine g_iconst dX4_copyFrom_17 (inR_c rfl) ?_
  refine g_bipush dX4_copyFrom_18 (inR_c rfl) (by decide) ?_
  refine g_acopy dX4_copyFrom_20 ml_X4_28 sh_13 sh_53 (by decide) (by decide) (by decide) (by decide) (by decide) (by decide) (by decide) (fun h3 eh3 => ?_)
  have hFh3 := Fr.cp eh3
  have hMh3 := MBx.cp hMh2 eh3 (by decide) (p0 := (-2147483648, 2147483647)) (p := (-2147483648, 2147483647)) rfl rfl (by decide) (by decide)
  refine g_aload_n dX4_copyFrom_23 rfl ?_
  refine gR_X4_19 rfl dX4_copyFrom_24 sh_12 (b := 14) (m_12_2 hMh3) ?_
  refine g_iconst dX4_copyFrom_27 (inR_c rfl) ?_
  refine g_aload_n dX4_copyFrom_28 rfl ?_
  refine gR_X4_19 rfl dX4_copyFrom_29 sh_52 (b := 54) (m_52_2 hMh3) ?_
  refine g_iconst dX4_copyFrom_32 (inR_c rfl) ?_
  refine g_bipush dX4_copyFrom_33 (inR_c rfl) (by decide) ?_
  refine g_acopy dX4_copyFrom_35 ml_X4_28 sh_14 sh_54 (by decide) (by decide) (by decide) (by decide) (by decide) (by decide) (by decide) (fun h4 eh4 => ?_)
  have hFh4 := Fr.cp eh4
  have hMh4 := MBx.cp hMh3 eh4 (by decide) (p0 := (0, 4)) (p := (0, 4)) rfl rfl (by decide) (by decide)
  refine g_aload_n dX4_copyFrom_38 rfl ?_
  refine gR_X4_22 rfl dX4_copyFrom_39 sh_12 (b := 15) (m_12_3 hMh4) ?_
  refine g_iconst dX4_copyFrom_42 (inR_c rfl) ?_
  refine g_aload_n dX4_copyFrom_43 rfl ?_
  refine gR_X4_22 rfl dX4_copyFrom_44 sh_52 (b := 55) (m_52_3 hMh4) ?_
  refine g_iconst dX4_copyFrom_47 (inR_c rfl) ?_
  refine g_bipush dX4_copyFrom_48 (inR_c rfl) (by decide) ?_
  refine g_acopy dX4_copyFrom_50 ml_X4_28 sh_15 sh_55 (by decide) (by decide) (by decide) (by decide) (by decide) (by decide) (by decide) (fun h5 eh5 => ?_)
  have hFh5 := Fr.cp eh5
  have hMh5 := MBx.cp hMh4 eh5 (by decide) (p0 := (-2147483648, 2147483647)) (p := (-2147483648, 2147483647)) rfl rfl (by decide) (by decide)
  refine g_aload_n dX4_copyFrom_53 rfl ?_
  refine gR_X4_25 rfl dX4_copyFrom_54 sh_12 (b := 16) (m_12_4 hMh5) ?_
  refine g_iconst dX4_copyFrom_57 (inR_c rfl) ?_
  refine g_aload_n dX4_copyFrom_58 rfl ?_
  refine gR_X4_25 rfl dX4_copyFrom_59 sh_52 (b := 56) (m_52_4 hMh5) ?_
  refine g_iconst dX4_copyFrom_62 (inR_c rfl) ?_
  refine g_bipush dX4_copyFrom_63 (inR_c rfl) (by decide) ?_
  refine g_acopy dX4_copyFrom_65 ml_X4_28 sh_16 sh_56 (by decide) (by decide) (by decide) (by decide) (by decide) (by decide) (by decide) (fun h6 eh6 => ?_)
  have hFh6 := Fr.cp eh6
  have hMh6 := MBx.cp hMh5 eh6 (by decide) (p0 := (-2147483648, 2147483647)) (p := (-2147483648, 2147483647)) rfl rfl (by decide) (by decide)
  have q7 : h6 52 0 = v1 := ((hFh6 52 0 rfl).trans ((hFh5 52 0 rfl).trans ((hFh4 52 0 rfl).trans ((hFh3 52 0 rfl).trans (st_at eh2)))))
  exact g_return dX4_copyFrom_68 rfl (hPo _ ⟨hMh6, (Fr.tr (Fr.tr (Fr.tr (Fr.tr (Fr.sub hFh2 rfl) hFh3 rfl) hFh4 rfl) hFh5 rfl) hFh6 rfl), (by omega)⟩)
set_option maxRecDepth 100000 in
set_option maxHeartbeats 4000000 in
theorem c_X9_copyFrom_41_1 (gi : Nat → Int) (h : MEM) (hM : MBx h) (f_XW : ASn 19 gi h) : CV yX9_copyFrom cX9_copyFrom 2 (none) 2 [pR 41, pR 1] h (fun h' => MBx h' ∧ Fr [(41, 7), (41, 8), (41, 9), (42, 1), (43, 0), (44, 0), (45, 0), (46, 1), (47, 0), (48, 0), (49, 0), (50, 0), (51, 0), (52, 1), (53, 0), (54, 0), (55, 0), (56, 0), (57, 0), (58, 0), (59, 0)] h h' ∧ ASn 59 gi h' ∧ h' 42 0 = h 2 0 ∧ h' 46 0 = h 6 0 ∧ h' 52 0 = h 12 0) := by
  refine CV.of (L0 := [some (pR 41), some (pR 1)]) rfl (Nat.le_of_ble_eq_true rfl) rfl (fun Po hPo hav => ?_)
  obtain ⟨v1, ev1⟩ : ∃ z, z = h 2 0 := ⟨_, rfl⟩
  have bv1 : 0 ≤ v1 ∧ v1 ≤ 10 := by rw [ev1]; exact (m_2_0 hM)
  obtain ⟨v2, ev2⟩ : ∃ z, z = h 6 0 := ⟨_, rfl⟩
  have bv2 : 0 ≤ v2 ∧ v2 ≤ 8 := by rw [ev2]; exact (m_6_0 hM)
  obtain ⟨v3, ev3⟩ : ∃ z, z = h 12 0 := ⟨_, rfl⟩
  have bv3 : 0 ≤ v3 ∧ v3 ≤ 8 := by rw [ev3]; exact (m_12_0 hM)
  refine g_aload_n dX9_copyFrom_0 rfl ?_
  refine gR_X9_12 rfl dX9_copyFrom_1 sh_41 (b := 42) (m_41_0 hM) ?_
  refine g_aload_n dX9_copyFrom_4 rfl ?_
  refine gR_X9_12 rfl dX9_copyFrom_5 sh_1 (b := 2) (m_1_0 hM) ?_
  have q4 : h 2 0 = v1 := ev1.symm
  refine g_cVV (as := [_]) (c_X6_copyFrom_42_2  h hM) dX9_copyFrom_8 mi_X6_copyFrom in_X6_copyFrom se_X6_copyFrom ml_X9_55 rfl rfl rfl sh_42 rfl rfl (Nat.le_of_ble_eq_true rfl) (fun h5 q6 => ?_)
  obtain ⟨hMh5, hFh5, z7⟩ := q6
  have kz7 : h5 42 0 = v1 := by omega
  refine g_aload_n dX9_copyFrom_11 rfl ?_
  refine gR_X9_21 rfl dX9_copyFrom_12 sh_41 (b := 46) (m_41_1 hMh5) ?_
  refine g_aload_n dX9_copyFrom_15 rfl ?_
  refine gR_X9_21 rfl dX9_copyFrom_16 sh_1 (b := 6) (m_1_1 hMh5) ?_
  have q8 : h5 6 0 = v2 := ((hFh5 6 0 rfl).trans ev2.symm)
  refine g_cVV (as := [_]) (c_X0_copyFrom_46_6  h5 hMh5) dX9_copyFrom_19 mi_X0_copyFrom in_X0_copyFrom se_X0_copyFrom ml_X9_59 rfl rfl rfl sh_46 rfl rfl (Nat.le_of_ble_eq_true rfl) (fun h9 q10 => ?_)
  obtain ⟨hMh9, hFh9, z11⟩ := q10
  have kz11 : h9 46 0 = v2 := by omega
  refine g_aload_n dX9_copyFrom_22 rfl ?_
  refine gR_X9_28 rfl dX9_copyFrom_23 sh_41 (b := 52) (m_41_2 hMh9) ?_
  refine g_aload_n dX9_copyFrom_26 rfl ?_
  refine gR_X9_28 rfl dX9_copyFrom_27 sh_1 (b := 12) (m_1_2 hMh9) ?_
  have q12 : h9 12 0 = v3 := ((hFh9 12 0 rfl).trans ((hFh5 12 0 rfl).trans ev3.symm))
  refine g_cVV (as := [_]) (c_X4_copyFrom_52_12  h9 hMh9) dX9_copyFrom_30 mi_X4_copyFrom in_X4_copyFrom se_X4_copyFrom ml_X9_62 rfl rfl rfl sh_52 rfl rfl (Nat.le_of_ble_eq_true rfl) (fun h13 q14 => ?_)
  obtain ⟨hMh13, hFh13, z15⟩ := q14
  have kz15 : h13 52 0 = v3 := by omega
  refine g_aload_n dX9_copyFrom_33 rfl ?_
  refine gR_X9_32 rfl dX9_copyFrom_34 sh_1 (b := 17) (m_1_3 hMh13) ?_
  refine g_iconst dX9_copyFrom_37 (inR_c rfl) ?_
  refine g_aload_n dX9_copyFrom_38 rfl ?_
  refine gR_X9_32 rfl dX9_copyFrom_39 sh_41 (b := 57) (m_41_3 hMh13) ?_
  refine g_iconst dX9_copyFrom_42 (inR_c rfl) ?_
  refine g_bipush dX9_copyFrom_43 (inR_c rfl) (by decide) ?_
  refine g_acopy dX9_copyFrom_45 ml_X9_65 sh_17 sh_57 (by decide) (by decide) (by decide) (by decide) (by decide) (by decide) (by decide) (fun h16 eh16 => ?_)
  have hFh16 := Fr.cp eh16
  have hMh16 := MBx.cp hMh13 eh16 (by decide) (p0 := (-2147483648, 2147483647)) (p := (-2147483648, 2147483647)) rfl rfl (by decide) (by decide)
  refine g_aload_n dX9_copyFrom_48 rfl ?_
  refine gR_X9_36 rfl dX9_copyFrom_49 sh_1 (b := 18) (m_1_4 hMh16) ?_
  refine g_iconst dX9_copyFrom_52 (inR_c rfl) ?_
  refine g_aload_n dX9_copyFrom_53 rfl ?_
  refine gR_X9_36 rfl dX9_copyFrom_54 sh_41 (b := 58) (m_41_4 hMh16) ?_
  refine g_iconst dX9_copyFrom_57 (inR_c rfl) ?_
  refine g_bipush dX9_copyFrom_58 (inR_c rfl) (by decide) ?_
  refine g_acopy dX9_copyFrom_60 ml_X9_65 sh_18 sh_58 (by decide) (by decide) (by decide) (by decide) (by decide) (by decide) (by decide) (fun h17 eh17 => ?_)
  have hFh17 := Fr.cp eh17
  have hMh17 := MBx.cp hMh16 eh17 (by decide) (p0 := (-2147483648, 2147483647)) (p := (-2147483648, 2147483647)) rfl rfl (by decide) (by decide)
  refine g_aload_n dX9_copyFrom_63 rfl ?_
  refine gR_X9_39 rfl dX9_copyFrom_64 sh_1 (b := 19) (m_1_5 hMh17) ?_
  refine g_iconst dX9_copyFrom_67 (inR_c rfl) ?_
  refine g_aload_n dX9_copyFrom_68 rfl ?_
  refine gR_X9_39 rfl dX9_copyFrom_69 sh_41 (b := 59) (m_41_5 hMh17) ?_
  refine g_iconst dX9_copyFrom_72 (inR_c rfl) ?_
  refine g_bipush dX9_copyFrom_73 (inR_c rfl) (by decide) ?_
  have sv1 := (ASn.fr (T := [(42, 1), (43, 0), (44, 0), (45, 0), (46, 1), (47, 0), (48, 0), (49, 0), (50, 0), (51, 0), (52, 1), (53, 0), (54, 0), (55, 0), (56, 0), (57, 0), (58, 0)]) f_XW (Fr.tr (Fr.tr (Fr.tr (Fr.tr (Fr.sub hFh5 rfl) hFh9 rfl) hFh13 rfl) hFh16 rfl) hFh17 rfl) rfl)
  refine g_acopy dX9_copyFrom_75 ml_X9_65 sh_19 sh_59 (by decide) (by decide) (by decide) (by decide) (by decide) (by decide) (by decide) (fun h18 eh18 => ?_)
  have hFh18 := Fr.cp eh18
  have hMh18 := MBx.cp hMh17 eh18 (by decide) (p0 := (0, 1)) (p := (0, 1)) rfl rfl (by decide) (by decide)
  have sk1 : ASn 59 gi h18 := AS_cp (by assumption) sv1
  refine g_aload_n dX9_copyFrom_78 rfl ?_
  refine g_aload_n dX9_copyFrom_79 rfl ?_
  refine gI_X9_42 rfl dX9_copyFrom_80 sh_1 (m_1_6 hMh18) (fun v19 ev19 bv19 cv19 => ?_)
  refine pI_X9_42 rfl dX9_copyFrom_83 sh_41 (fun h20 eh20 => ?_)
  have hFh20 := Fr.st eh20
  have hMh20 := u_41_6 hMh18 eh20 (by omega) (by omega)
  refine g_aload_n dX9_copyFrom_86 rfl ?_
  refine g_aload_n dX9_copyFrom_87 rfl ?_
  refine gI_X9_46 rfl dX9_copyFrom_88 sh_1 (m_1_7 hMh20) (fun v21 ev21 bv21 cv21 => ?_)
  refine pI_X9_46 rfl dX9_copyFrom_91 sh_41 (fun h22 eh22 => ?_)
  have hFh22 := Fr.st eh22
  have hMh22 := u_41_7 hMh20 eh22 (by omega) (by omega)
  refine g_aload_n dX9_copyFrom_94 rfl ?_
  refine g_aload_n dX9_copyFrom_95 rfl ?_
  refine gI_X9_49 rfl dX9_copyFrom_96 sh_1 (m_1_8 hMh22) (fun v23 ev23 bv23 cv23 => ?_)
  refine pI_X9_49 rfl dX9_copyFrom_99 sh_41 (fun h24 eh24 => ?_)
  have hFh24 := Fr.st eh24
  have hMh24 := u_41_8 hMh22 eh24 (by omega) (by omega)
  have q25 : h24 42 0 = v1 := ((hFh24 42 0 rfl).trans ((hFh22 42 0 rfl).trans ((hFh20 42 0 rfl).trans ((hFh18 42 0 rfl).trans ((hFh17 42 0 rfl).trans ((hFh16 42 0 rfl).trans ((hFh13 42 0 rfl).trans ((hFh9 42 0 rfl).trans kz7))))))))
  have q26 : h24 46 0 = v2 := ((hFh24 46 0 rfl).trans ((hFh22 46 0 rfl).trans ((hFh20 46 0 rfl).trans ((hFh18 46 0 rfl).trans ((hFh17 46 0 rfl).trans ((hFh16 46 0 rfl).trans ((hFh13 46 0 rfl).trans kz11)))))))
  have q27 : h24 52 0 = v3 := ((hFh24 52 0 rfl).trans ((hFh22 52 0 rfl).trans ((hFh20 52 0 rfl).trans ((hFh18 52 0 rfl).trans ((hFh17 52 0 rfl).trans ((hFh16 52 0 rfl).trans kz15))))))
  exact g_return dX9_copyFrom_102 rfl (hPo _ ⟨hMh24, (Fr.tr (Fr.tr (Fr.tr (Fr.tr (Fr.tr (Fr.tr (Fr.tr (Fr.tr (Fr.sub hFh5 rfl) hFh9 rfl) hFh13 rfl) hFh16 rfl) hFh17 rfl) hFh18 rfl) hFh20 rfl) hFh22 rfl) hFh24 rfl), (ASn.fr (T := [(41, 7), (41, 8), (41, 9)]) sk1 (Fr.tr (Fr.tr (Fr.sub hFh20 rfl) hFh22 rfl) hFh24 rfl) rfl), (by omega), (by omega), (by omega)⟩)
set_option maxRecDepth 100000 in
set_option maxHeartbeats 4000000 in
theorem c_X10_copyFrom_63_61 (h : MEM) (hM : MBx h) : CV yX10_copyFrom cX10_copyFrom 2 (none) 1 [pR 63, pR 61] h (fun h' => MBx h' ∧ Fr [(63, 1), (64, 0)] h h') := by
  refine CV.of (L0 := [some (pR 63), some (pR 61)]) rfl (Nat.le_of_ble_eq_true rfl) rfl (fun Po hPo hav => ?_)
  refine g_aload_n dX10_copyFrom_0 rfl ?_
  refine g_aload_n dX10_copyFrom_1 rfl ?_
  refine gI_X10_9 rfl dX10_copyFrom_2 sh_61 (m_61_0 hM) (fun v1 ev1 bv1 cv1 => ?_)
  refine pI_X10_9 rfl dX10_copyFrom_5 sh_63 (fun h2 eh2 => ?_)
  have hFh2 := Fr.st eh2
  have hMh2 := u_63_0 hM eh2 (by omega) (by omega)
  refine g_aload_n dX10_copyFrom_8 rfl ?_
  refine gR_X10_15 rfl dX10_copyFrom_9 sh_61 (b := 62) (m_61_1 hMh2) ?_
  refine g_iconst dX10_copyFrom_12 (inR_c rfl) ?_
  refine g_aload_n dX10_copyFrom_13 rfl ?_
  refine gR_X10_15 rfl dX10_copyFrom_14 sh_63 (b := 64) (m_63_1 hMh2) ?_
  refine g_iconst dX10_copyFrom_17 (inR_c rfl) ?_
  refine g_sipush dX10_copyFrom_18 (inR_c rfl) (by decide) ?_
  refine g_acopy dX10_copyFrom_21 ml_X10_23 sh_62 sh_64 (by decide) (by decide) (by decide) (by decide) (by decide) (by decide) (by decide) (fun h3 eh3 => ?_)
  have hFh3 := Fr.cp eh3
  have hMh3 := MBx.cp hMh2 eh3 (by decide) (p0 := (0, 255)) (p := (0, 255)) rfl rfl (by decide) (by decide)
  exact g_return dX10_copyFrom_24 rfl (hPo _ ⟨hMh3, (Fr.tr (Fr.sub hFh2 rfl) hFh3 rfl)⟩)
set_option maxRecDepth 100000 in
set_option maxHeartbeats 4000000 in
theorem c_X6_allSlates_2 (h : MEM) (hM : MBx h) : CP yX6_allSlates cX6_allSlates 3 (some .int) 1 [pR 2] h (fun x => -2147483648 ≤ x ∧ x ≤ 2147483647) := by
  refine CP.of (L0 := [some (pR 2), none, none]) rfl (Nat.le_of_ble_eq_true rfl) rfl (fun Po hPo hav => ?_)
  refine g_iconst dX6_allSlates_0 (inR_c rfl) ?_
  refine g_istore_n dX6_allSlates_1 (by decide) rfl ?_
  refine g_iconst dX6_allSlates_2 (inR_c rfl) ?_
  have c4 : ∀ (n : Nat) (y1 y2 : Int) , -2147483648 ≤ y1 → y1 ≤ 2147483647 → 0 ≤ y2 → y2 ≤ 10 → 10 - y2 < (n : Int) → G yX6_allSlates cX6_allSlates 3 (some .int) none Po (1, 60, 0, 0) 4 [some (pR 2), some (pI y1), some (pI y2)] [] SH h 0 0 := by
    intro n
    induction n with
    | zero =>
      intro y1 y2 by1 dy1 by2 dy2 hn
      exfalso; omega
    | succ n ih4 =>
      intro y1 y2 by1 dy1 by2 dy2 hn
      refine g_iload_n dX6_allSlates_4 rfl (fun _ => ?_)
      refine g_aload_n dX6_allSlates_5 rfl ?_
      refine gI_X6_9 rfl dX6_allSlates_6 sh_2 (m_2_0 hM) (fun v3 ev3 bv3 cv3 => ?_)
      refine g_icmp_ge 27 dX6_allSlates_9 (by decide) (fun q4 => ?_) (fun q4 => ?_)
      · skip
        refine g_iload_n dX6_allSlates_27 rfl (fun _ => ?_)
        exact g_ireturn dX6_allSlates_28 retI (hPo _ ⟨(by omega), (by omega)⟩)
      · skip
        refine g_iload_n dX6_allSlates_12 rfl (fun _ => ?_)
        refine g_aload_n dX6_allSlates_13 rfl ?_
        refine gR_X6_19 rfl dX6_allSlates_14 sh_2 (b := 4) (m_2_2 hM) ?_
        refine g_iload_n dX6_allSlates_17 rfl (fun _ => ?_)
        refine g_ialdB dX6_allSlates_18 sh_4 (by omega) (by omega) (m_4 hM _) (fun v5 ev5 bv5 cv5 => ?_)
        refine g_iaddF dX6_allSlates_19 (fun v6 bv6 cv6 => ?_)
        refine g_istore_n dX6_allSlates_20 (by decide) rfl ?_
        refine g_iincB dX6_allSlates_21 rfl rfl (by omega) (by omega) ?_
        refine g_goto 4 dX6_allSlates_24 (by decide) ?_
        exact ih4 _ _ (by omega) (by omega) (by omega) (by omega) (by omega)
  refine g_istore_n dX6_allSlates_3 (by decide) rfl ?_
  exact c4 11 _ _ (by omega) (by omega) (by omega) (by omega) (by omega)
set_option maxRecDepth 100000 in
set_option maxHeartbeats 4000000 in
theorem c_X11_keep_0 (gi : Nat → Int) (h : MEM) (hM : MBx h) (f_XW : ASn 19 gi h) : CI yX11_keep cX11_keep 1 (some .int) 3 [pR 0] h (fun x h' => MBx h' ∧ Fr [(0, 13), (41, 7), (41, 8), (41, 9), (42, 1), (43, 0), (44, 0), (45, 0), (46, 1), (47, 0), (48, 0), (49, 0), (50, 0), (51, 0), (52, 1), (53, 0), (54, 0), (55, 0), (56, 0), (57, 0), (58, 0), (59, 0), (63, 1), (64, 0)] h h' ∧ -2147483648 ≤ x ∧ x ≤ 2147483647 ∧ h' 42 0 = h 2 0 ∧ h' 46 0 = h 6 0 ∧ h' 52 0 = h 12 0 ∧ h' 0 12 = 1 ∧ ASn 59 gi h') := by
  refine CI.of (L0 := [some (pR 0)]) rfl (Nat.le_of_ble_eq_true rfl) rfl (fun Po hPo hav => ?_)
  obtain ⟨v1, ev1⟩ : ∃ z, z = h 2 0 := ⟨_, rfl⟩
  have bv1 : 0 ≤ v1 ∧ v1 ≤ 10 := by rw [ev1]; exact (m_2_0 hM)
  obtain ⟨v2, ev2⟩ : ∃ z, z = h 6 0 := ⟨_, rfl⟩
  have bv2 : 0 ≤ v2 ∧ v2 ≤ 8 := by rw [ev2]; exact (m_6_0 hM)
  obtain ⟨v3, ev3⟩ : ∃ z, z = h 12 0 := ⟨_, rfl⟩
  have bv3 : 0 ≤ v3 ∧ v3 ≤ 8 := by rw [ev3]; exact (m_12_0 hM)
  refine g_aload_n dX11_keep_0 rfl ?_
  refine gR_X11_19 rfl dX11_keep_1 sh_0 (b := 41) (m_0_2 hM) ?_
  refine g_aload_n dX11_keep_4 rfl ?_
  refine gR_X11_10 rfl dX11_keep_5 sh_0 (b := 1) (m_0_0 hM) ?_
  have q4 : h 2 0 = v1 := ev1.symm
  have q5 : h 6 0 = v2 := ev2.symm
  have q6 : h 12 0 = v3 := ev3.symm
  refine g_cVV (as := [_]) (c_X9_copyFrom_41_1 _ h hM f_XW) dX11_keep_8 mi_X9_copyFrom in_X9_copyFrom se_X9_copyFrom ml_X11_202 rfl rfl rfl sh_41 rfl rfl (Nat.le_of_ble_eq_true rfl) (fun h7 q8 => ?_)
  obtain ⟨hMh7, hFh7, z9, z10, z11, z12⟩ := q8
  have kz10 : h7 42 0 = v1 := by omega
  have kz11 : h7 46 0 = v2 := by omega
  have kz12 : h7 52 0 = v3 := by omega
  refine g_aload_n dX11_keep_11 rfl ?_
  refine gR_X11_29 rfl dX11_keep_12 sh_0 (b := 63) (m_0_4 hMh7) ?_
  refine g_aload_n dX11_keep_15 rfl ?_
  refine gR_X11_25 rfl dX11_keep_16 sh_0 (b := 61) (m_0_3 hMh7) ?_
  refine g_cVV (as := [_]) (c_X10_copyFrom_63_61  h7 hMh7) dX11_keep_19 mi_X10_copyFrom in_X10_copyFrom se_X10_copyFrom ml_X11_303 rfl rfl rfl sh_63 rfl rfl (Nat.le_of_ble_eq_true rfl) (fun h13 q14 => ?_)
  obtain ⟨hMh13, hFh13⟩ := q14
  refine g_aload_n dX11_keep_22 rfl ?_
  refine g_iconst dX11_keep_23 (inR_c rfl) ?_
  refine pI_X11_77 rfl dX11_keep_24 sh_0 (by omega) (fun h15 eh15 => ?_)
  have hFh15 := Fr.st eh15
  have hMh15 := u_0_12 hMh13 eh15 (by omega) (by omega)
  refine g_aload_n dX11_keep_27 rfl ?_
  refine gR_X11_10 rfl dX11_keep_28 sh_0 (b := 1) (m_0_0 hMh15) ?_
  refine gR_X11_85 rfl dX11_keep_31 sh_1 (b := 2) (m_1_0 hMh15) ?_
  refine g_cVP (as := []) (c_X6_allSlates_2  h15 hMh15) dX11_keep_34 mi_X6_allSlates in_X6_allSlates se_X6_allSlates ml_X11_206 rfl rfl rfl sh_2 rfl rfl (Nat.le_of_ble_eq_true rfl) (fun v16 q17 => ?_)
  obtain ⟨bv16, cv16⟩ := q17
  have q18 : h15 42 0 = v1 := ((hFh15 42 0 rfl).trans ((hFh13 42 0 rfl).trans kz10))
  have q19 : h15 46 0 = v2 := ((hFh15 46 0 rfl).trans ((hFh13 46 0 rfl).trans kz11))
  have q20 : h15 52 0 = v3 := ((hFh15 52 0 rfl).trans ((hFh13 52 0 rfl).trans kz12))
  have q21 : h15 0 12 = 1 := (st_at eh15)
  exact g_ireturn dX11_keep_37 retI (hPo _ _ ⟨hMh15, (Fr.tr (Fr.tr (Fr.sub hFh7 rfl) hFh13 rfl) hFh15 rfl), (by omega), (by omega), (by omega), (by omega), (by omega), (by omega), (ASn.fr (T := [(0, 13), (63, 1), (64, 0)]) z9 (Fr.tr (Fr.sub hFh13 rfl) hFh15 rfl) rfl)⟩)
set_option maxRecDepth 100000 in
set_option maxHeartbeats 4000000 in
theorem c_X6_copyFrom_2_42 (h : MEM) (hM : MBx h) : CV yX6_copyFrom cX6_copyFrom 2 (none) 1 [pR 2, pR 42] h (fun h' => MBx h' ∧ Fr [(2, 1), (3, 0), (4, 0), (5, 0)] h h' ∧ h' 2 0 = h 42 0) := by
  refine CV.of (L0 := [some (pR 2), some (pR 42)]) rfl (Nat.le_of_ble_eq_true rfl) rfl (fun Po hPo hav => ?_)
  obtain ⟨v1, ev1⟩ : ∃ z, z = h 42 0 := ⟨_, rfl⟩
  have bv1 : 0 ≤ v1 ∧ v1 ≤ 10 := by rw [ev1]; exact (m_42_0 hM)
  refine g_aload_n dX6_copyFrom_0 rfl ?_
  refine g_aload_n dX6_copyFrom_1 rfl ?_
  refine gE_X6_9 rfl dX6_copyFrom_2 sh_42 ev1.symm ?_
  refine pI_X6_9 rfl dX6_copyFrom_5 sh_2 (fun h2 eh2 => ?_)
  have hFh2 := Fr.st eh2
  have hMh2 := u_2_0 hM eh2 (by omega) (by omega)
  refine g_aload_n dX6_copyFrom_8 rfl ?_
  refine gR_X6_15 rfl dX6_copyFrom_9 sh_42 (b := 43) (m_42_1 hMh2) ?_
  refine g_iconst dX6_copyFrom_12 (inR_c rfl) ?_
  refine g_aload_n dX6_copyFrom_13 rfl ?_
  refine gR_X6_15 rfl dX6_copyFrom_14 sh_2 (b := 3) (m_2_1 hMh2) ?_
  refine g_iconst dX6_copyFrom_17 (inR_c rfl) ?_
  refine g_bipush dX6_copyFrom_18 (inR_c rfl) (by decide) ?_
  refine g_acopy dX6_copyFrom_20 ml_X6_25 sh_43 sh_3 (by decide) (by decide) (by decide) (by decide) (by decide) (by decide) (by decide) (fun h3 eh3 => ?_)
  have hFh3 := Fr.cp eh3
  have hMh3 := MBx.cp hMh2 eh3 (by decide) (p0 := (-2147483648, 2147483647)) (p := (-2147483648, 2147483647)) rfl rfl (by decide) (by decide)
  refine g_aload_n dX6_copyFrom_23 rfl ?_
  refine gR_X6_19 rfl dX6_copyFrom_24 sh_42 (b := 44) (m_42_2 hMh3) ?_
  refine g_iconst dX6_copyFrom_27 (inR_c rfl) ?_
  refine g_aload_n dX6_copyFrom_28 rfl ?_
  refine gR_X6_19 rfl dX6_copyFrom_29 sh_2 (b := 4) (m_2_2 hMh3) ?_
  refine g_iconst dX6_copyFrom_32 (inR_c rfl) ?_
  refine g_bipush dX6_copyFrom_33 (inR_c rfl) (by decide) ?_
  refine g_acopy dX6_copyFrom_35 ml_X6_25 sh_44 sh_4 (by decide) (by decide) (by decide) (by decide) (by decide) (by decide) (by decide) (fun h4 eh4 => ?_)
  have hFh4 := Fr.cp eh4
  have hMh4 := MBx.cp hMh3 eh4 (by decide) (p0 := (-2147483648, 2147483647)) (p := (-2147483648, 2147483647)) rfl rfl (by decide) (by decide)
  refine g_aload_n dX6_copyFrom_38 rfl ?_
  refine gR_X6_22 rfl dX6_copyFrom_39 sh_42 (b := 45) (m_42_3 hMh4) ?_
  refine g_iconst dX6_copyFrom_42 (inR_c rfl) ?_
  refine g_aload_n dX6_copyFrom_43 rfl ?_
  refine gR_X6_22 rfl dX6_copyFrom_44 sh_2 (b := 5) (m_2_3 hMh4) ?_
  refine g_iconst dX6_copyFrom_47 (inR_c rfl) ?_
  refine g_bipush dX6_copyFrom_48 (inR_c rfl) (by decide) ?_
  refine g_acopy dX6_copyFrom_50 ml_X6_25 sh_45 sh_5 (by decide) (by decide) (by decide) (by decide) (by decide) (by decide) (by decide) (fun h5 eh5 => ?_)
  have hFh5 := Fr.cp eh5
  have hMh5 := MBx.cp hMh4 eh5 (by decide) (p0 := (-2147483648, 2147483647)) (p := (-2147483648, 2147483647)) rfl rfl (by decide) (by decide)
  have q6 : h5 2 0 = v1 := ((hFh5 2 0 rfl).trans ((hFh4 2 0 rfl).trans ((hFh3 2 0 rfl).trans (st_at eh2))))
  exact g_return dX6_copyFrom_53 rfl (hPo _ ⟨hMh5, (Fr.tr (Fr.tr (Fr.tr (Fr.sub hFh2 rfl) hFh3 rfl) hFh4 rfl) hFh5 rfl), (by omega)⟩)
set_option maxRecDepth 100000 in
set_option maxHeartbeats 4000000 in
theorem c_X0_copyFrom_6_46 (h : MEM) (hM : MBx h) : CV yX0_copyFrom cX0_copyFrom 2 (none) 1 [pR 6, pR 46] h (fun h' => MBx h' ∧ Fr [(6, 1), (7, 0), (8, 0), (9, 0), (10, 0), (11, 0)] h h' ∧ h' 6 0 = h 46 0) := by
  refine CV.of (L0 := [some (pR 6), some (pR 46)]) rfl (Nat.le_of_ble_eq_true rfl) rfl (fun Po hPo hav => ?_)
  obtain ⟨v1, ev1⟩ : ∃ z, z = h 46 0 := ⟨_, rfl⟩
  have bv1 : 0 ≤ v1 ∧ v1 ≤ 8 := by rw [ev1]; exact (m_46_0 hM)
  refine g_aload_n dX0_copyFrom_0 rfl ?_
  refine g_aload_n dX0_copyFrom_1 rfl ?_
  refine gE_X0_9 rfl dX0_copyFrom_2 sh_46 ev1.symm ?_
  refine pI_X0_9 rfl dX0_copyFrom_5 sh_6 (fun h2 eh2 => ?_)
  have hFh2 := Fr.st eh2
  have hMh2 := u_6_0 hM eh2 (by omega) (by omega)
  refine g_aload_n dX0_copyFrom_8 rfl ?_
  refine gR_X0_15 rfl dX0_copyFrom_9 sh_46 (b := 47) (m_46_1 hMh2) ?_
  refine g_iconst dX0_copyFrom_12 (inR_c rfl) ?_
  refine g_aload_n dX0_copyFrom_13 rfl ?_
  refine gR_X0_15 rfl dX0_copyFrom_14 sh_6 (b := 7) (m_6_1 hMh2) ?_
  refine g_iconst dX0_copyFrom_17 (inR_c rfl) ?_
  refine g_bipush dX0_copyFrom_18 (inR_c rfl) (by decide) ?_
  refine g_acopy dX0_copyFrom_20 ml_X0_35 sh_47 sh_7 (by decide) (by decide) (by decide) (by decide) (by decide) (by decide) (by decide) (fun h3 eh3 => ?_)
  have hFh3 := Fr.cp eh3
  have hMh3 := MBx.cp hMh2 eh3 (by decide) (p0 := (-2147483648, 2147483647)) (p := (-2147483648, 2147483647)) rfl rfl (by decide) (by decide)
  refine g_aload_n dX0_copyFrom_23 rfl ?_
  refine gR_X0_19 rfl dX0_copyFrom_24 sh_46 (b := 48) (m_46_2 hMh3) ?_
  refine g_iconst dX0_copyFrom_27 (inR_c rfl) ?_
  refine g_aload_n dX0_copyFrom_28 rfl ?_
  refine gR_X0_19 rfl dX0_copyFrom_29 sh_6 (b := 8) (m_6_2 hMh3) ?_
  refine g_iconst dX0_copyFrom_32 (inR_c rfl) ?_
  refine g_bipush dX0_copyFrom_33 (inR_c rfl) (by decide) ?_
  refine g_acopy dX0_copyFrom_35 ml_X0_35 sh_48 sh_8 (by decide) (by decide) (by decide) (by decide) (by decide) (by decide) (by decide) (fun h4 eh4 => ?_)
  have hFh4 := Fr.cp eh4
  have hMh4 := MBx.cp hMh3 eh4 (by decide) (p0 := (-2147483648, 2147483647)) (p := (-2147483648, 2147483647)) rfl rfl (by decide) (by decide)
  refine g_aload_n dX0_copyFrom_38 rfl ?_
  refine gR_X0_22 rfl dX0_copyFrom_39 sh_46 (b := 49) (m_46_3 hMh4) ?_
  refine g_iconst dX0_copyFrom_42 (inR_c rfl) ?_
  refine g_aload_n dX0_copyFrom_43 rfl ?_
  refine gR_X0_22 rfl dX0_copyFrom_44 sh_6 (b := 9) (m_6_3 hMh4) ?_
  refine g_iconst dX0_copyFrom_47 (inR_c rfl) ?_
  refine g_bipush dX0_copyFrom_48 (inR_c rfl) (by decide) ?_
  refine g_acopy dX0_copyFrom_50 ml_X0_35 sh_49 sh_9 (by decide) (by decide) (by decide) (by decide) (by decide) (by decide) (by decide) (fun h5 eh5 => ?_)
  have hFh5 := Fr.cp eh5
  have hMh5 := MBx.cp hMh4 eh5 (by decide) (p0 := (-2147483648, 2147483647)) (p := (-2147483648, 2147483647)) rfl rfl (by decide) (by decide)
  refine g_aload_n dX0_copyFrom_53 rfl ?_
  refine gR_X0_25 rfl dX0_copyFrom_54 sh_46 (b := 50) (m_46_4 hMh5) ?_
  refine g_iconst dX0_copyFrom_57 (inR_c rfl) ?_
  refine g_aload_n dX0_copyFrom_58 rfl ?_
  refine gR_X0_25 rfl dX0_copyFrom_59 sh_6 (b := 10) (m_6_4 hMh5) ?_
  refine g_iconst dX0_copyFrom_62 (inR_c rfl) ?_
  refine g_bipush dX0_copyFrom_63 (inR_c rfl) (by decide) ?_
  refine g_acopy dX0_copyFrom_65 ml_X0_35 sh_50 sh_10 (by decide) (by decide) (by decide) (by decide) (by decide) (by decide) (by decide) (fun h6 eh6 => ?_)
  have hFh6 := Fr.cp eh6
  have hMh6 := MBx.cp hMh5 eh6 (by decide) (p0 := (-2147483648, 2147483647)) (p := (-2147483648, 2147483647)) rfl rfl (by decide) (by decide)
  refine g_aload_n dX0_copyFrom_68 rfl ?_
  refine gR_X0_28 rfl dX0_copyFrom_69 sh_46 (b := 51) (m_46_5 hMh6) ?_
  refine g_iconst dX0_copyFrom_72 (inR_c rfl) ?_
  refine g_aload_n dX0_copyFrom_73 rfl ?_
  refine gR_X0_28 rfl dX0_copyFrom_74 sh_6 (b := 11) (m_6_5 hMh6) ?_
  refine g_iconst dX0_copyFrom_77 (inR_c rfl) ?_
  refine g_bipush dX0_copyFrom_78 (inR_c rfl) (by decide) ?_
  refine g_acopy dX0_copyFrom_80 ml_X0_35 sh_51 sh_11 (by decide) (by decide) (by decide) (by decide) (by decide) (by decide) (by decide) (fun h7 eh7 => ?_)
  have hFh7 := Fr.cp eh7
  have hMh7 := MBx.cp hMh6 eh7 (by decide) (p0 := (-2147483648, 2147483647)) (p := (-2147483648, 2147483647)) rfl rfl (by decide) (by decide)
  have q8 : h7 6 0 = v1 := ((hFh7 6 0 rfl).trans ((hFh6 6 0 rfl).trans ((hFh5 6 0 rfl).trans ((hFh4 6 0 rfl).trans ((hFh3 6 0 rfl).trans (st_at eh2))))))
  exact g_return dX0_copyFrom_83 rfl (hPo _ ⟨hMh7, (Fr.tr (Fr.tr (Fr.tr (Fr.tr (Fr.tr (Fr.sub hFh2 rfl) hFh3 rfl) hFh4 rfl) hFh5 rfl) hFh6 rfl) hFh7 rfl), (by omega)⟩)
set_option maxRecDepth 100000 in
set_option maxHeartbeats 4000000 in
theorem c_X4_copyFrom_12_52 (h : MEM) (hM : MBx h) : CV yX4_copyFrom cX4_copyFrom 2 (none) 1 [pR 12, pR 52] h (fun h' => MBx h' ∧ Fr [(12, 1), (13, 0), (14, 0), (15, 0), (16, 0)] h h' ∧ h' 12 0 = h 52 0) := by
  refine CV.of (L0 := [some (pR 12), some (pR 52)]) rfl (Nat.le_of_ble_eq_true rfl) rfl (fun Po hPo hav => ?_)
  obtain ⟨v1, ev1⟩ : ∃ z, z = h 52 0 := ⟨_, rfl⟩
  have bv1 : 0 ≤ v1 ∧ v1 ≤ 8 := by rw [ev1]; exact (m_52_0 hM)
  refine g_aload_n dX4_copyFrom_0 rfl ?_
  refine g_aload_n dX4_copyFrom_1 rfl ?_
  refine gE_X4_9 rfl dX4_copyFrom_2 sh_52 ev1.symm ?_
  refine pI_X4_9 rfl dX4_copyFrom_5 sh_12 (fun h2 eh2 => ?_)
  have hFh2 := Fr.st eh2
  have hMh2 := u_12_0 hM eh2 (by omega) (by omega)
  refine g_aload_n dX4_copyFrom_8 rfl ?_
  refine gR_X4_15 rfl dX4_copyFrom_9 sh_52 (b := 53) (m_52_1 hMh2) ?_
  refine g_iconst dX4_copyFrom_12 (inR_c rfl) ?_
  refine g_aload_n dX4_copyFrom_13 rfl ?_
  refine gR_X4_15 rfl dX4_copyFrom_14 sh_12 (b := 13) (m_12_1 hMh2) ?_
  refine g_iconst dX4_copyFrom_17 (inR_c rfl) ?_
  refine g_bipush dX4_copyFrom_18 (inR_c rfl) (by decide) ?_
  refine g_acopy dX4_copyFrom_20 ml_X4_28 sh_53 sh_13 (by decide) (by decide) (by decide) (by decide) (by decide) (by decide) (by decide) (fun h3 eh3 => ?_)
  have hFh3 := Fr.cp eh3
  have hMh3 := MBx.cp hMh2 eh3 (by decide) (p0 := (-2147483648, 2147483647)) (p := (-2147483648, 2147483647)) rfl rfl (by decide) (by decide)
  refine g_aload_n dX4_copyFrom_23 rfl ?_
  refine gR_X4_19 rfl dX4_copyFrom_24 sh_52 (b := 54) (m_52_2 hMh3) ?_
  refine g_iconst dX4_copyFrom_27 (inR_c rfl) ?_
  refine g_aload_n dX4_copyFrom_28 rfl ?_
  refine gR_X4_19 rfl dX4_copyFrom_29 sh_12 (b := 14) (m_12_2 hMh3) ?_
  refine g_iconst dX4_copyFrom_32 (inR_c rfl) ?_
  refine g_bipush dX4_copyFrom_33 (inR_c rfl) (by decide) ?_
  refine g_acopy dX4_copyFrom_35 ml_X4_28 sh_54 sh_14 (by decide) (by decide) (by decide) (by decide) (by decide) (by decide) (by decide) (fun h4 eh4 => ?_)
  have hFh4 := Fr.cp eh4
  have hMh4 := MBx.cp hMh3 eh4 (by decide) (p0 := (0, 4)) (p := (0, 4)) rfl rfl (by decide) (by decide)
  refine g_aload_n dX4_copyFrom_38 rfl ?_
  refine gR_X4_22 rfl dX4_copyFrom_39 sh_52 (b := 55) (m_52_3 hMh4) ?_
  refine g_iconst dX4_copyFrom_42 (inR_c rfl) ?_
  refine g_aload_n dX4_copyFrom_43 rfl ?_
  refine gR_X4_22 rfl dX4_copyFrom_44 sh_12 (b := 15) (m_12_3 hMh4) ?_
  refine g_iconst dX4_copyFrom_47 (inR_c rfl) ?_
  refine g_bipush dX4_copyFrom_48 (inR_c rfl) (by decide) ?_
  refine g_acopy dX4_copyFrom_50 ml_X4_28 sh_55 sh_15 (by decide) (by decide) (by decide) (by decide) (by decide) (by decide) (by decide) (fun h5 eh5 => ?_)
  have hFh5 := Fr.cp eh5
  have hMh5 := MBx.cp hMh4 eh5 (by decide) (p0 := (-2147483648, 2147483647)) (p := (-2147483648, 2147483647)) rfl rfl (by decide) (by decide)
  refine g_aload_n dX4_copyFrom_53 rfl ?_
  refine gR_X4_25 rfl dX4_copyFrom_54 sh_52 (b := 56) (m_52_4 hMh5) ?_
  refine g_iconst dX4_copyFrom_57 (inR_c rfl) ?_
  refine g_aload_n dX4_copyFrom_58 rfl ?_
  refine gR_X4_25 rfl dX4_copyFrom_59 sh_12 (b := 16) (m_12_4 hMh5) ?_
  refine g_iconst dX4_copyFrom_62 (inR_c rfl) ?_
  refine g_bipush dX4_copyFrom_63 (inR_c rfl) (by decide) ?_
  refine g_acopy dX4_copyFrom_65 ml_X4_28 sh_56 sh_16 (by decide) (by decide) (by decide) (by decide) (by decide) (by decide) (by decide) (fun h6 eh6 => ?_)
  have hFh6 := Fr.cp eh6
  have hMh6 := MBx.cp hMh5 eh6 (by decide) (p0 := (-2147483648, 2147483647)) (p := (-2147483648, 2147483647)) rfl rfl (by decide) (by decide)
  have q7 : h6 12 0 = v1 := ((hFh6 12 0 rfl).trans ((hFh5 12 0 rfl).trans ((hFh4 12 0 rfl).trans ((hFh3 12 0 rfl).trans (st_at eh2)))))
  exact g_return dX4_copyFrom_68 rfl (hPo _ ⟨hMh6, (Fr.tr (Fr.tr (Fr.tr (Fr.tr (Fr.sub hFh2 rfl) hFh3 rfl) hFh4 rfl) hFh5 rfl) hFh6 rfl), (by omega)⟩)
set_option maxRecDepth 100000 in
set_option maxHeartbeats 4000000 in
theorem c_X9_copyFrom_1_41 (gs : Nat → Int) (h : MEM) (hM : MBx h) (f_XK : ASn 59 gs h) : CV yX9_copyFrom cX9_copyFrom 2 (none) 2 [pR 1, pR 41] h (fun h' => MBx h' ∧ Fr [(1, 7), (1, 8), (1, 9), (2, 1), (3, 0), (4, 0), (5, 0), (6, 1), (7, 0), (8, 0), (9, 0), (10, 0), (11, 0), (12, 1), (13, 0), (14, 0), (15, 0), (16, 0), (17, 0), (18, 0), (19, 0)] h h' ∧ ASn 19 gs h' ∧ h' 2 0 = h 42 0 ∧ h' 6 0 = h 46 0 ∧ h' 12 0 = h 52 0) := by
  refine CV.of (L0 := [some (pR 1), some (pR 41)]) rfl (Nat.le_of_ble_eq_true rfl) rfl (fun Po hPo hav => ?_)
  obtain ⟨v1, ev1⟩ : ∃ z, z = h 42 0 := ⟨_, rfl⟩
  have bv1 : 0 ≤ v1 ∧ v1 ≤ 10 := by rw [ev1]; exact (m_42_0 hM)
  obtain ⟨v2, ev2⟩ : ∃ z, z = h 46 0 := ⟨_, rfl⟩
  have bv2 : 0 ≤ v2 ∧ v2 ≤ 8 := by rw [ev2]; exact (m_46_0 hM)
  obtain ⟨v3, ev3⟩ : ∃ z, z = h 52 0 := ⟨_, rfl⟩
  have bv3 : 0 ≤ v3 ∧ v3 ≤ 8 := by rw [ev3]; exact (m_52_0 hM)
  refine g_aload_n dX9_copyFrom_0 rfl ?_
  refine gR_X9_12 rfl dX9_copyFrom_1 sh_1 (b := 2) (m_1_0 hM) ?_
  refine g_aload_n dX9_copyFrom_4 rfl ?_
  refine gR_X9_12 rfl dX9_copyFrom_5 sh_41 (b := 42) (m_41_0 hM) ?_
  have q4 : h 42 0 = v1 := ev1.symm
  refine g_cVV (as := [_]) (c_X6_copyFrom_2_42  h hM) dX9_copyFrom_8 mi_X6_copyFrom in_X6_copyFrom se_X6_copyFrom ml_X9_55 rfl rfl rfl sh_2 rfl rfl (Nat.le_of_ble_eq_true rfl) (fun h5 q6 => ?_)
  obtain ⟨hMh5, hFh5, z7⟩ := q6
  have kz7 : h5 2 0 = v1 := by omega
  refine g_aload_n dX9_copyFrom_11 rfl ?_
  refine gR_X9_21 rfl dX9_copyFrom_12 sh_1 (b := 6) (m_1_1 hMh5) ?_
  refine g_aload_n dX9_copyFrom_15 rfl ?_
  refine gR_X9_21 rfl dX9_copyFrom_16 sh_41 (b := 46) (m_41_1 hMh5) ?_
  have q8 : h5 46 0 = v2 := ((hFh5 46 0 rfl).trans ev2.symm)
  refine g_cVV (as := [_]) (c_X0_copyFrom_6_46  h5 hMh5) dX9_copyFrom_19 mi_X0_copyFrom in_X0_copyFrom se_X0_copyFrom ml_X9_59 rfl rfl rfl sh_6 rfl rfl (Nat.le_of_ble_eq_true rfl) (fun h9 q10 => ?_)
  obtain ⟨hMh9, hFh9, z11⟩ := q10
  have kz11 : h9 6 0 = v2 := by omega
  refine g_aload_n dX9_copyFrom_22 rfl ?_
  refine gR_X9_28 rfl dX9_copyFrom_23 sh_1 (b := 12) (m_1_2 hMh9) ?_
  refine g_aload_n dX9_copyFrom_26 rfl ?_
  refine gR_X9_28 rfl dX9_copyFrom_27 sh_41 (b := 52) (m_41_2 hMh9) ?_
  have q12 : h9 52 0 = v3 := ((hFh9 52 0 rfl).trans ((hFh5 52 0 rfl).trans ev3.symm))
  refine g_cVV (as := [_]) (c_X4_copyFrom_12_52  h9 hMh9) dX9_copyFrom_30 mi_X4_copyFrom in_X4_copyFrom se_X4_copyFrom ml_X9_62 rfl rfl rfl sh_12 rfl rfl (Nat.le_of_ble_eq_true rfl) (fun h13 q14 => ?_)
  obtain ⟨hMh13, hFh13, z15⟩ := q14
  have kz15 : h13 12 0 = v3 := by omega
  refine g_aload_n dX9_copyFrom_33 rfl ?_
  refine gR_X9_32 rfl dX9_copyFrom_34 sh_41 (b := 57) (m_41_3 hMh13) ?_
  refine g_iconst dX9_copyFrom_37 (inR_c rfl) ?_
  refine g_aload_n dX9_copyFrom_38 rfl ?_
  refine gR_X9_32 rfl dX9_copyFrom_39 sh_1 (b := 17) (m_1_3 hMh13) ?_
  refine g_iconst dX9_copyFrom_42 (inR_c rfl) ?_
  refine g_bipush dX9_copyFrom_43 (inR_c rfl) (by decide) ?_
  refine g_acopy dX9_copyFrom_45 ml_X9_65 sh_57 sh_17 (by decide) (by decide) (by decide) (by decide) (by decide) (by decide) (by decide) (fun h16 eh16 => ?_)
  have hFh16 := Fr.cp eh16
  have hMh16 := MBx.cp hMh13 eh16 (by decide) (p0 := (-2147483648, 2147483647)) (p := (-2147483648, 2147483647)) rfl rfl (by decide) (by decide)
  refine g_aload_n dX9_copyFrom_48 rfl ?_
  refine gR_X9_36 rfl dX9_copyFrom_49 sh_41 (b := 58) (m_41_4 hMh16) ?_
  refine g_iconst dX9_copyFrom_52 (inR_c rfl) ?_
  refine g_aload_n dX9_copyFrom_53 rfl ?_
  refine gR_X9_36 rfl dX9_copyFrom_54 sh_1 (b := 18) (m_1_4 hMh16) ?_
  refine g_iconst dX9_copyFrom_57 (inR_c rfl) ?_
  refine g_bipush dX9_copyFrom_58 (inR_c rfl) (by decide) ?_
  refine g_acopy dX9_copyFrom_60 ml_X9_65 sh_58 sh_18 (by decide) (by decide) (by decide) (by decide) (by decide) (by decide) (by decide) (fun h17 eh17 => ?_)
  have hFh17 := Fr.cp eh17
  have hMh17 := MBx.cp hMh16 eh17 (by decide) (p0 := (-2147483648, 2147483647)) (p := (-2147483648, 2147483647)) rfl rfl (by decide) (by decide)
  refine g_aload_n dX9_copyFrom_63 rfl ?_
  refine gR_X9_39 rfl dX9_copyFrom_64 sh_41 (b := 59) (m_41_5 hMh17) ?_
  refine g_iconst dX9_copyFrom_67 (inR_c rfl) ?_
  refine g_aload_n dX9_copyFrom_68 rfl ?_
  refine gR_X9_39 rfl dX9_copyFrom_69 sh_1 (b := 19) (m_1_5 hMh17) ?_
  refine g_iconst dX9_copyFrom_72 (inR_c rfl) ?_
  refine g_bipush dX9_copyFrom_73 (inR_c rfl) (by decide) ?_
  have sv1 := (ASn.fr (T := [(2, 1), (3, 0), (4, 0), (5, 0), (6, 1), (7, 0), (8, 0), (9, 0), (10, 0), (11, 0), (12, 1), (13, 0), (14, 0), (15, 0), (16, 0), (17, 0), (18, 0)]) f_XK (Fr.tr (Fr.tr (Fr.tr (Fr.tr (Fr.sub hFh5 rfl) hFh9 rfl) hFh13 rfl) hFh16 rfl) hFh17 rfl) rfl)
  refine g_acopy dX9_copyFrom_75 ml_X9_65 sh_59 sh_19 (by decide) (by decide) (by decide) (by decide) (by decide) (by decide) (by decide) (fun h18 eh18 => ?_)
  have hFh18 := Fr.cp eh18
  have hMh18 := MBx.cp hMh17 eh18 (by decide) (p0 := (0, 1)) (p := (0, 1)) rfl rfl (by decide) (by decide)
  have sk1 : ASn 19 gs h18 := AS_cp (by assumption) sv1
  refine g_aload_n dX9_copyFrom_78 rfl ?_
  refine g_aload_n dX9_copyFrom_79 rfl ?_
  refine gI_X9_42 rfl dX9_copyFrom_80 sh_41 (m_41_6 hMh18) (fun v19 ev19 bv19 cv19 => ?_)
  refine pI_X9_42 rfl dX9_copyFrom_83 sh_1 (fun h20 eh20 => ?_)
  have hFh20 := Fr.st eh20
  have hMh20 := u_1_6 hMh18 eh20 (by omega) (by omega)
  refine g_aload_n dX9_copyFrom_86 rfl ?_
  refine g_aload_n dX9_copyFrom_87 rfl ?_
  refine gI_X9_46 rfl dX9_copyFrom_88 sh_41 (m_41_7 hMh20) (fun v21 ev21 bv21 cv21 => ?_)
  refine pI_X9_46 rfl dX9_copyFrom_91 sh_1 (fun h22 eh22 => ?_)
  have hFh22 := Fr.st eh22
  have hMh22 := u_1_7 hMh20 eh22 (by omega) (by omega)
  refine g_aload_n dX9_copyFrom_94 rfl ?_
  refine g_aload_n dX9_copyFrom_95 rfl ?_
  refine gI_X9_49 rfl dX9_copyFrom_96 sh_41 (m_41_8 hMh22) (fun v23 ev23 bv23 cv23 => ?_)
  refine pI_X9_49 rfl dX9_copyFrom_99 sh_1 (fun h24 eh24 => ?_)
  have hFh24 := Fr.st eh24
  have hMh24 := u_1_8 hMh22 eh24 (by omega) (by omega)
  have q25 : h24 2 0 = v1 := ((hFh24 2 0 rfl).trans ((hFh22 2 0 rfl).trans ((hFh20 2 0 rfl).trans ((hFh18 2 0 rfl).trans ((hFh17 2 0 rfl).trans ((hFh16 2 0 rfl).trans ((hFh13 2 0 rfl).trans ((hFh9 2 0 rfl).trans kz7))))))))
  have q26 : h24 6 0 = v2 := ((hFh24 6 0 rfl).trans ((hFh22 6 0 rfl).trans ((hFh20 6 0 rfl).trans ((hFh18 6 0 rfl).trans ((hFh17 6 0 rfl).trans ((hFh16 6 0 rfl).trans ((hFh13 6 0 rfl).trans kz11)))))))
  have q27 : h24 12 0 = v3 := ((hFh24 12 0 rfl).trans ((hFh22 12 0 rfl).trans ((hFh20 12 0 rfl).trans ((hFh18 12 0 rfl).trans ((hFh17 12 0 rfl).trans ((hFh16 12 0 rfl).trans kz15))))))
  exact g_return dX9_copyFrom_102 rfl (hPo _ ⟨hMh24, (Fr.tr (Fr.tr (Fr.tr (Fr.tr (Fr.tr (Fr.tr (Fr.tr (Fr.tr (Fr.sub hFh5 rfl) hFh9 rfl) hFh13 rfl) hFh16 rfl) hFh17 rfl) hFh18 rfl) hFh20 rfl) hFh22 rfl) hFh24 rfl), (ASn.fr (T := [(1, 7), (1, 8), (1, 9)]) sk1 (Fr.tr (Fr.tr (Fr.sub hFh20 rfl) hFh22 rfl) hFh24 rfl) rfl), (by omega), (by omega), (by omega)⟩)
set_option maxRecDepth 100000 in
set_option maxHeartbeats 4000000 in
theorem c_X10_copyFrom_61_63 (h : MEM) (hM : MBx h) : CV yX10_copyFrom cX10_copyFrom 2 (none) 1 [pR 61, pR 63] h (fun h' => MBx h' ∧ Fr [(61, 1), (62, 0)] h h') := by
  refine CV.of (L0 := [some (pR 61), some (pR 63)]) rfl (Nat.le_of_ble_eq_true rfl) rfl (fun Po hPo hav => ?_)
  refine g_aload_n dX10_copyFrom_0 rfl ?_
  refine g_aload_n dX10_copyFrom_1 rfl ?_
  refine gI_X10_9 rfl dX10_copyFrom_2 sh_63 (m_63_0 hM) (fun v1 ev1 bv1 cv1 => ?_)
  refine pI_X10_9 rfl dX10_copyFrom_5 sh_61 (fun h2 eh2 => ?_)
  have hFh2 := Fr.st eh2
  have hMh2 := u_61_0 hM eh2 (by omega) (by omega)
  refine g_aload_n dX10_copyFrom_8 rfl ?_
  refine gR_X10_15 rfl dX10_copyFrom_9 sh_63 (b := 64) (m_63_1 hMh2) ?_
  refine g_iconst dX10_copyFrom_12 (inR_c rfl) ?_
  refine g_aload_n dX10_copyFrom_13 rfl ?_
  refine gR_X10_15 rfl dX10_copyFrom_14 sh_61 (b := 62) (m_61_1 hMh2) ?_
  refine g_iconst dX10_copyFrom_17 (inR_c rfl) ?_
  refine g_sipush dX10_copyFrom_18 (inR_c rfl) (by decide) ?_
  refine g_acopy dX10_copyFrom_21 ml_X10_23 sh_64 sh_62 (by decide) (by decide) (by decide) (by decide) (by decide) (by decide) (by decide) (fun h3 eh3 => ?_)
  have hFh3 := Fr.cp eh3
  have hMh3 := MBx.cp hMh2 eh3 (by decide) (p0 := (0, 255)) (p := (0, 255)) rfl rfl (by decide) (by decide)
  exact g_return dX10_copyFrom_24 rfl (hPo _ ⟨hMh3, (Fr.tr (Fr.sub hFh2 rfl) hFh3 rfl)⟩)
set_option maxRecDepth 100000 in
set_option maxHeartbeats 4000000 in
theorem c_X11_undo_0 (gi gs : Nat → Int) (h : MEM) (hM : MBx h) (f_XW : ASn 19 gi h) (f_XK : ASn 59 gs h) : CI yX11_undo cX11_undo 1 (some .boolean) 3 [pR 0] h (fun x h' => MBx h' ∧ Fr [(1, 7), (1, 8), (1, 9), (2, 1), (3, 0), (4, 0), (5, 0), (6, 1), (7, 0), (8, 0), (9, 0), (10, 0), (11, 0), (12, 1), (13, 0), (14, 0), (15, 0), (16, 0), (17, 0), (18, 0), (19, 0), (61, 1), (62, 0)] h h' ∧ 0 ≤ x ∧ x ≤ 1 ∧ ((h 0 12 = 1 ∧ x = 1 ∧ h' 2 0 = h 42 0 ∧ h' 6 0 = h 46 0 ∧ h' 12 0 = h 52 0) ∨ (h 0 12 = 0 ∧ x = 0 ∧ h' 2 0 = h 2 0 ∧ h' 6 0 = h 6 0 ∧ h' 12 0 = h 12 0)) ∧ (h 0 12 = 1 → ASn 19 gs h') ∧ (h 0 12 = 0 → ASn 19 gi h')) := by
  refine CI.of (L0 := [some (pR 0)]) rfl (Nat.le_of_ble_eq_true rfl) rfl (fun Po hPo hav => ?_)
  obtain ⟨v1, ev1⟩ : ∃ z, z = h 0 12 := ⟨_, rfl⟩
  have bv1 : 0 ≤ v1 ∧ v1 ≤ 1 := by rw [ev1]; exact (m_0_12 hM)
  obtain ⟨v2, ev2⟩ : ∃ z, z = h 2 0 := ⟨_, rfl⟩
  have bv2 : 0 ≤ v2 ∧ v2 ≤ 10 := by rw [ev2]; exact (m_2_0 hM)
  obtain ⟨v3, ev3⟩ : ∃ z, z = h 6 0 := ⟨_, rfl⟩
  have bv3 : 0 ≤ v3 ∧ v3 ≤ 8 := by rw [ev3]; exact (m_6_0 hM)
  obtain ⟨v4, ev4⟩ : ∃ z, z = h 12 0 := ⟨_, rfl⟩
  have bv4 : 0 ≤ v4 ∧ v4 ≤ 8 := by rw [ev4]; exact (m_12_0 hM)
  obtain ⟨v5, ev5⟩ : ∃ z, z = h 42 0 := ⟨_, rfl⟩
  have bv5 : 0 ≤ v5 ∧ v5 ≤ 10 := by rw [ev5]; exact (m_42_0 hM)
  obtain ⟨v6, ev6⟩ : ∃ z, z = h 46 0 := ⟨_, rfl⟩
  have bv6 : 0 ≤ v6 ∧ v6 ≤ 8 := by rw [ev6]; exact (m_46_0 hM)
  obtain ⟨v7, ev7⟩ : ∃ z, z = h 52 0 := ⟨_, rfl⟩
  have bv7 : 0 ≤ v7 ∧ v7 ≤ 8 := by rw [ev7]; exact (m_52_0 hM)
  refine g_aload_n dX11_undo_0 rfl ?_
  refine gE_X11_77 rfl dX11_undo_1 sh_0 ev1.symm ?_
  refine g_if_ne 9 dX11_undo_4 (by decide) (fun q8 => ?_) (fun q8 => ?_)
  · skip
    refine g_aload_n dX11_undo_9 rfl ?_
    refine gR_X11_10 rfl dX11_undo_10 sh_0 (b := 1) (m_0_0 hM) ?_
    refine g_aload_n dX11_undo_13 rfl ?_
    refine gR_X11_19 rfl dX11_undo_14 sh_0 (b := 41) (m_0_2 hM) ?_
    have q9 : h 42 0 = v5 := ev5.symm
    have q10 : h 46 0 = v6 := ev6.symm
    have q11 : h 52 0 = v7 := ev7.symm
    refine g_cVV (as := [_]) (c_X9_copyFrom_1_41 _ h hM f_XK) dX11_undo_17 mi_X9_copyFrom in_X9_copyFrom se_X9_copyFrom ml_X11_202 rfl rfl rfl sh_1 rfl rfl (Nat.le_of_ble_eq_true rfl) (fun h12 q13 => ?_)
    obtain ⟨hMh12, hFh12, z14, z15, z16, z17⟩ := q13
    have kz15 : h12 2 0 = v5 := by omega
    have kz16 : h12 6 0 = v6 := by omega
    have kz17 : h12 12 0 = v7 := by omega
    refine g_aload_n dX11_undo_20 rfl ?_
    refine gR_X11_25 rfl dX11_undo_21 sh_0 (b := 61) (m_0_3 hMh12) ?_
    refine g_aload_n dX11_undo_24 rfl ?_
    refine gR_X11_29 rfl dX11_undo_25 sh_0 (b := 63) (m_0_4 hMh12) ?_
    refine g_cVV (as := [_]) (c_X10_copyFrom_61_63  h12 hMh12) dX11_undo_28 mi_X10_copyFrom in_X10_copyFrom se_X10_copyFrom ml_X11_303 rfl rfl rfl sh_61 rfl rfl (Nat.le_of_ble_eq_true rfl) (fun h18 q19 => ?_)
    obtain ⟨hMh18, hFh18⟩ := q19
    refine g_iconst dX11_undo_31 (inR_c rfl) ?_
    have q20 : h18 2 0 = v5 := ((hFh18 2 0 rfl).trans kz15)
    have q21 : h18 6 0 = v6 := ((hFh18 6 0 rfl).trans kz16)
    have q22 : h18 12 0 = v7 := ((hFh18 12 0 rfl).trans kz17)
    exact g_ireturn dX11_undo_32 (retZ (by omega)) (hPo _ _ ⟨hMh18, (Fr.tr (Fr.sub hFh12 rfl) hFh18 rfl), (by omega), (by omega), (by omega), (fun _ => (ASn.fr (T := [(61, 1), (62, 0)]) z14 (Fr.sub hFh18 rfl) rfl)), (fun _ => (by exfalso; omega))⟩)
  · skip
    refine g_iconst dX11_undo_7 (inR_c rfl) ?_
    have q23 : h 2 0 = v2 := ev2.symm
    have q24 : h 6 0 = v3 := ev3.symm
    have q25 : h 12 0 = v4 := ev4.symm
    exact g_ireturn dX11_undo_8 (retZ (by omega)) (hPo _ _ ⟨hM, Fr.rf, (by omega), (by omega), (by omega), (fun _ => (by exfalso; omega)), (fun _ => f_XW)⟩)
set_option maxRecDepth 100000 in
set_option maxHeartbeats 4000000 in
theorem c_X10_numberAt_61 (x1 : Int) (h : MEM) (hM : MBx h) (bx1 : 0 ≤ x1) (dx1 : x1 ≤ 36) : CP yX10_numberAt cX10_numberAt 4 (some .int) 2 [pR 61, pI x1] h (fun x => -2147483648 ≤ x ∧ x ≤ 2147483647) := by
  refine CP.of (L0 := [some (pR 61), some (pI x1), none, none]) rfl (Nat.le_of_ble_eq_true rfl) rfl (fun Po hPo hav => ?_)
  refine g_iconst dX10_numberAt_0 (inR_c rfl) ?_
  refine g_istore_n dX10_numberAt_1 (by decide) rfl ?_
  refine g_iconst dX10_numberAt_2 (inR_c rfl) ?_
  have c4 : ∀ (n : Nat) (y1 y2 : Int) , -2147483648 ≤ y1 → y1 ≤ 2147483647 → 0 ≤ y2 → y2 ≤ 4 → 4 - y2 < (n : Int) → G yX10_numberAt cX10_numberAt 4 (some .int) none Po (2, 120, 0, 0) 4 [some (pR 61), some (pI x1), some (pI y1), some (pI y2)] [] SH h 0 0 := by
    intro n
    induction n with
    | zero =>
      intro y1 y2 by1 dy1 by2 dy2 hn
      exfalso; omega
    | succ n ih4 =>
      intro y1 y2 by1 dy1 by2 dy2 hn
      refine g_iload_n dX10_numberAt_4 rfl (fun _ => ?_)
      refine g_iconst dX10_numberAt_5 (inR_c rfl) ?_
      refine g_icmp_ge 28 dX10_numberAt_6 (by decide) (fun q3 => ?_) (fun q3 => ?_)
      · skip
        refine g_iload_n dX10_numberAt_28 rfl (fun _ => ?_)
        exact g_ireturn dX10_numberAt_29 retI (hPo _ ⟨(by omega), (by omega)⟩)
      · skip
        refine g_iload_n dX10_numberAt_9 rfl (fun _ => ?_)
        refine g_bipush dX10_numberAt_10 (inR_c rfl) (by decide) ?_
        refine g_ishlF dX10_numberAt_12 (fun v4 ev4 bv4 cv4 => ?_)
        refine g_aload_n dX10_numberAt_13 rfl ?_
        refine g_iload_n dX10_numberAt_14 rfl (fun _ => ?_)
        refine g_iload_n dX10_numberAt_15 rfl (fun _ => ?_)
        refine g_iaddB dX10_numberAt_16 (by omega) (by omega) ?_
        refine g_cVP (as := [_]) (c_X10_byteAt_61 _ h hM (by omega) (by omega)) dX10_numberAt_17 mi_X10_byteAt in_X10_byteAt se_X10_byteAt ml_X10_19 rfl rfl rfl sh_61 rfl rfl (Nat.le_of_ble_eq_true rfl) (fun v5 q6 => ?_)
        obtain ⟨bv5, cv5⟩ := q6
        refine g_iorF dX10_numberAt_20 (fun v7 ev7 bv7 cv7 => ?_)
        refine g_istore_n dX10_numberAt_21 (by decide) rfl ?_
        refine g_iincB dX10_numberAt_22 rfl rfl (by omega) (by omega) ?_
        refine g_goto 4 dX10_numberAt_25 (by decide) ?_
        exact ih4 _ _ (by omega) (by omega) (by omega) (by omega) (by omega)
  refine g_istore_n dX10_numberAt_3 (by decide) rfl ?_
  exact c4 5 _ _ (by omega) (by omega) (by omega) (by omega) (by omega)
set_option maxRecDepth 100000 in
set_option maxHeartbeats 4000000 in
theorem c_X11_check_0 (x1 : Int) (h : MEM) (hM : MBx h) (bx1 : -2147483648 ≤ x1) (dx1 : x1 ≤ 2147483647) : CI yX11_check cX11_check 3 (some .int) 3 [pR 0, pI x1] h (fun x h' => MBx h' ∧ Fr [(61, 1)] h h' ∧ -2 ≤ x ∧ x ≤ 9) := by
  refine CI.of (L0 := [some (pR 0), some (pI x1), none]) rfl (Nat.le_of_ble_eq_true rfl) rfl (fun Po hPo hav => ?_)
  refine g_iload_n dX11_check_0 rfl (fun _ => ?_)
  refine g_iconst dX11_check_1 (inR_c rfl) ?_
  refine g_bipush dX11_check_2 (inR_c rfl) (by decide) ?_
  refine g_cSP (av := [_, _, _]) (c_X11_isWithin _ _ _ h hM (by omega) (by omega) (by omega) (by omega) (by omega) (by omega)) dX11_check_4 mi_X11_isWithin st_X11_isWithin ml_X11_81 rfl rfl rfl rfl (Nat.le_of_ble_eq_true rfl) (fun v1 q2 => ?_)
  rcases q2 with ⟨rfl, q2⟩ | ⟨rfl, q2⟩
  · skip
    refine g_if_eq 23 dX11_check_7 (by decide) (fun _ => by exfalso; omega) (fun q3 => ?_)
    refine g_aload_n dX11_check_10 rfl ?_
    refine gR_X11_25 rfl dX11_check_11 sh_0 (b := 61) (m_0_3 hM) ?_
    refine gI_X11_140 rfl dX11_check_14 sh_61 (m_61_0 hM) (fun v4 ev4 bv4 cv4 => ?_)
    refine g_iconst dX11_check_17 (inR_c rfl) ?_
    refine g_iload_n dX11_check_18 rfl (fun _ => ?_)
    refine g_imulB dX11_check_19 (by omega) (by omega) ?_
    refine g_icmp_ge 26 dX11_check_20 (by decide) (fun q5 => ?_) (fun q5 => ?_)
    · skip
      refine g_aload_n dX11_check_26 rfl ?_
      refine gR_X11_25 rfl dX11_check_27 sh_0 (b := 61) (m_0_3 hM) ?_
      refine g_iconst dX11_check_30 (inR_c rfl) ?_
      refine pI_X11_140 rfl dX11_check_31 sh_61 (fun h6 eh6 => ?_)
      have hFh6 := Fr.st eh6
      have hMh6 := u_61_0 hM eh6 (by omega) (by omega)
      refine g_iconst dX11_check_34 (inR_c rfl) ?_
      have c36 : ∀ (n : Nat) (y7 : Int) , 0 ≤ y7 → y7 ≤ 10 → 10 - y7 < (n : Int) → G yX11_check cX11_check 3 (some .int) none Po (3, 180, 0, 0) 36 [some (pR 0), some (pI x1), some (pI y7)] [] SH h6 0 0 := by
        intro n
        induction n with
        | zero =>
          intro y7 by7 dy7 hn
          exfalso; omega
        | succ n ih36 =>
          intro y7 by7 dy7 hn
          refine g_iload_n dX11_check_36 rfl (fun _ => ?_)
          refine g_iload_n dX11_check_37 rfl (fun _ => ?_)
          refine g_icmp_ge 88 dX11_check_38 (by decide) (fun q8 => ?_) (fun q8 => ?_)
          · skip
            refine g_iconst dX11_check_88 (inR_c rfl) ?_
            exact g_ireturn dX11_check_89 retI (hPo _ _ ⟨hMh6, (Fr.sub hFh6 rfl), (by omega), (by omega)⟩)
          · skip
            refine g_aload_n dX11_check_41 rfl ?_
            refine gR_X11_10 rfl dX11_check_42 sh_0 (b := 1) (m_0_0 hMh6) ?_
            refine gR_X11_85 rfl dX11_check_45 sh_1 (b := 2) (m_1_0 hMh6) ?_
            refine g_iload_n dX11_check_48 rfl (fun _ => ?_)
            refine g_cVP (as := [_]) (c_X6_has_2 _ h6 hMh6 (by omega) (by omega)) dX11_check_49 mi_X6_has in_X6_has se_X6_has ml_X11_159 rfl rfl rfl sh_2 rfl rfl (Nat.le_of_ble_eq_true rfl) (fun v9 q10 => ?_)
            have q11 : h6 2 0 = h 2 0 := (hFh6 2 0 rfl)
            obtain ⟨v12, ev12⟩ : ∃ z, z = h6 2 0 := ⟨_, rfl⟩
            have bv12 : 0 ≤ v12 ∧ v12 ≤ 10 := by rw [ev12]; exact (m_2_0 hMh6)
            rcases q10 with ⟨rfl, q10⟩ | ⟨rfl, q10⟩
            · skip
              refine g_if_eq 80 dX11_check_52 (by decide) (fun _ => by exfalso; omega) (fun q13 => ?_)
              refine g_aload_n dX11_check_55 rfl ?_
              refine gR_X11_25 rfl dX11_check_56 sh_0 (b := 61) (m_0_3 hMh6) ?_
              refine g_iconst dX11_check_59 (inR_c rfl) ?_
              refine g_iload_n dX11_check_60 rfl (fun _ => ?_)
              refine g_imulB dX11_check_61 (by omega) (by omega) ?_
              refine g_cVP (as := [_]) (c_X10_numberAt_61 _ h6 hMh6 (by omega) (by omega)) dX11_check_62 mi_X10_numberAt in_X10_numberAt se_X10_numberAt ml_X11_306 rfl rfl rfl sh_61 rfl rfl (Nat.le_of_ble_eq_true rfl) (fun v14 q15 => ?_)
              obtain ⟨bv14, cv14⟩ := q15
              refine g_aload_n dX11_check_65 rfl ?_
              refine gR_X11_10 rfl dX11_check_66 sh_0 (b := 1) (m_0_0 hMh6) ?_
              refine gR_X11_85 rfl dX11_check_69 sh_1 (b := 2) (m_1_0 hMh6) ?_
              refine gR_X11_163 rfl dX11_check_72 sh_2 (b := 4) (m_2_2 hMh6) ?_
              refine g_iload_n dX11_check_75 rfl (fun _ => ?_)
              refine g_ialdB dX11_check_76 sh_4 (by omega) (by omega) (m_4 hMh6 _) (fun v16 ev16 bv16 cv16 => ?_)
              refine g_icmp_eq 82 dX11_check_77 (by decide) (fun q17 => ?_) (fun q17 => ?_)
              · skip
                refine g_iincB dX11_check_82 rfl rfl (by omega) (by omega) ?_
                refine g_goto 36 dX11_check_85 (by decide) ?_
                exact ih36 _ (by omega) (by omega) (by omega)
              · skip
                refine g_iload_n dX11_check_80 rfl (fun _ => ?_)
                exact g_ireturn dX11_check_81 retI (hPo _ _ ⟨hMh6, (Fr.sub hFh6 rfl), (by omega), (by omega)⟩)
            · skip
              refine g_if_eq 80 dX11_check_52 (by decide) (fun q18 => ?_) (fun _ => by exfalso; omega)
              refine g_iload_n dX11_check_80 rfl (fun _ => ?_)
              exact g_ireturn dX11_check_81 retI (hPo _ _ ⟨hMh6, (Fr.sub hFh6 rfl), (by omega), (by omega)⟩)
      refine g_istore_n dX11_check_35 (by decide) rfl ?_
      exact c36 11 _ (by omega) (by omega) (by omega)
    · skip
      refine g_bipush dX11_check_23 (inR_c rfl) (by decide) ?_
      exact g_ireturn dX11_check_25 retI (hPo _ _ ⟨hM, Fr.rf, (by omega), (by omega)⟩)
  · skip
    refine g_if_eq 23 dX11_check_7 (by decide) (fun q19 => ?_) (fun _ => by exfalso; omega)
    refine g_bipush dX11_check_23 (inR_c rfl) (by decide) ?_
    exact g_ireturn dX11_check_25 retI (hPo _ _ ⟨hM, Fr.rf, (by omega), (by omega)⟩)
set_option maxRecDepth 100000 in
set_option maxHeartbeats 4000000 in
theorem c_X4_allBruises_12 (h : MEM) (hM : MBx h) : CP yX4_allBruises cX4_allBruises 3 (some .int) 1 [pR 12] h (fun x => -2147483648 ≤ x ∧ x ≤ 2147483647) := by
  refine CP.of (L0 := [some (pR 12), none, none]) rfl (Nat.le_of_ble_eq_true rfl) rfl (fun Po hPo hav => ?_)
  refine g_iconst dX4_allBruises_0 (inR_c rfl) ?_
  refine g_istore_n dX4_allBruises_1 (by decide) rfl ?_
  refine g_iconst dX4_allBruises_2 (inR_c rfl) ?_
  have c4 : ∀ (n : Nat) (y1 y2 : Int) , -2147483648 ≤ y1 → y1 ≤ 2147483647 → 0 ≤ y2 → y2 ≤ 8 → 8 - y2 < (n : Int) → G yX4_allBruises cX4_allBruises 3 (some .int) none Po (1, 60, 0, 0) 4 [some (pR 12), some (pI y1), some (pI y2)] [] SH h 0 0 := by
    intro n
    induction n with
    | zero =>
      intro y1 y2 by1 dy1 by2 dy2 hn
      exfalso; omega
    | succ n ih4 =>
      intro y1 y2 by1 dy1 by2 dy2 hn
      refine g_iload_n dX4_allBruises_4 rfl (fun _ => ?_)
      refine g_aload_n dX4_allBruises_5 rfl ?_
      refine gI_X4_9 rfl dX4_allBruises_6 sh_12 (m_12_0 hM) (fun v3 ev3 bv3 cv3 => ?_)
      refine g_icmp_ge 27 dX4_allBruises_9 (by decide) (fun q4 => ?_) (fun q4 => ?_)
      · skip
        refine g_iload_n dX4_allBruises_27 rfl (fun _ => ?_)
        exact g_ireturn dX4_allBruises_28 retI (hPo _ ⟨(by omega), (by omega)⟩)
      · skip
        refine g_iload_n dX4_allBruises_12 rfl (fun _ => ?_)
        refine g_aload_n dX4_allBruises_13 rfl ?_
        refine gR_X4_25 rfl dX4_allBruises_14 sh_12 (b := 16) (m_12_4 hM) ?_
        refine g_iload_n dX4_allBruises_17 rfl (fun _ => ?_)
        refine g_ialdB dX4_allBruises_18 sh_16 (by omega) (by omega) (m_16 hM _) (fun v5 ev5 bv5 cv5 => ?_)
        refine g_iaddF dX4_allBruises_19 (fun v6 bv6 cv6 => ?_)
        refine g_istore_n dX4_allBruises_20 (by decide) rfl ?_
        refine g_iincB dX4_allBruises_21 rfl rfl (by omega) (by omega) ?_
        refine g_goto 4 dX4_allBruises_24 (by decide) ?_
        exact ih4 _ _ (by omega) (by omega) (by omega) (by omega) (by omega)
  refine g_istore_n dX4_allBruises_3 (by decide) rfl ?_
  exact c4 9 _ _ (by omega) (by omega) (by omega) (by omega) (by omega)
set_option maxRecDepth 100000 in
set_option maxHeartbeats 4000000 in
theorem c_X11_count_0 (x1 : Int) (h : MEM) (hM : MBx h) (bx1 : -2147483648 ≤ x1) (dx1 : x1 ≤ 2147483647) (f_LD : LD h) : CP yX11_count cX11_count 2 (some .int) 2 [pR 0, pI x1] h (fun x => -2147483648 ≤ x ∧ x ≤ 2147483647) := by
  refine CP.of (L0 := [some (pR 0), some (pI x1)]) rfl (Nat.le_of_ble_eq_true rfl) rfl (fun Po hPo hav => ?_)
  rcases id f_LD with ⟨er0_10, er0_11⟩ | ⟨er0_10, er0_11⟩
  · skip
    refine g_iload_n dX11_count_0 rfl (fun _ => ?_)
    refine g_bipush dX11_count_1 (inR_c rfl) (by decide) ?_
    refine g_sipush dX11_count_3 (inR_c rfl) (by decide) ?_
    refine g_cSP (av := [_, _, _]) (c_X11_isWithin _ _ _ h hM (by omega) (by omega) (by omega) (by omega) (by omega) (by omega)) dX11_count_6 mi_X11_isWithin st_X11_isWithin ml_X11_81 rfl rfl rfl rfl (Nat.le_of_ble_eq_true rfl) (fun v1 q2 => ?_)
    rcases q2 with ⟨rfl, q2⟩ | ⟨rfl, q2⟩
    · skip
      refine g_if_eq 25 dX11_count_9 (by decide) (fun _ => by exfalso; omega) (fun q3 => ?_)
      refine g_aload_n dX11_count_12 rfl ?_
      refine gR_X11_10 rfl dX11_count_13 sh_0 (b := 1) (m_0_0 hM) ?_
      refine gR_X11_137 rfl dX11_count_16 sh_1 (b := 19) (m_1_5 hM) ?_
      refine g_iload_n dX11_count_19 rfl (fun _ => ?_)
      refine g_bipush dX11_count_20 (inR_c rfl) (by decide) ?_
      refine g_isubB dX11_count_22 (by omega) (by omega) ?_
      refine g_ialdB dX11_count_23 sh_19 (by omega) (by omega) (m_19 hM _) (fun v4 ev4 bv4 cv4 => ?_)
      exact g_ireturn dX11_count_24 retI (hPo _ ⟨(by omega), (by omega)⟩)
    · skip
      refine g_if_eq 25 dX11_count_9 (by decide) (fun q5 => ?_) (fun _ => by exfalso; omega)
      refine g_iload_n dX11_count_25 rfl (fun _ => ?_)
      rcases (show x1 = 0 ∨ x1 = 1 ∨ x1 = 2 ∨ x1 = 3 ∨ x1 = 4 ∨ x1 = 5 ∨ x1 = 6 ∨ x1 = 7 ∨ x1 = 8 ∨ x1 = 9 ∨ (x1 < 0 ∨ 9 < x1) by omega) with q6 | q6 | q6 | q6 | q6 | q6 | q6 | q6 | q6 | q6 | q6
      · skip
        refine g_tableIn 80 0 dX11_count_26 (by omega) (by omega) rfl (by decide) ?_
        refine g_aload_n dX11_count_80 rfl ?_
        refine gR_X11_10 rfl dX11_count_81 sh_0 (b := 1) (m_0_0 hM) ?_
        refine gR_X11_85 rfl dX11_count_84 sh_1 (b := 2) (m_1_0 hM) ?_
        refine gI_X11_309 rfl dX11_count_87 sh_2 (m_2_0 hM) (fun v7 ev7 bv7 cv7 => ?_)
        exact g_ireturn dX11_count_90 retI (hPo _ ⟨(by omega), (by omega)⟩)
      · skip
        refine g_tableIn 91 1 dX11_count_26 (by omega) (by omega) rfl (by decide) ?_
        refine g_aload_n dX11_count_91 rfl ?_
        refine gR_X11_10 rfl dX11_count_92 sh_0 (b := 1) (m_0_0 hM) ?_
        refine gR_X11_95 rfl dX11_count_95 sh_1 (b := 6) (m_1_1 hM) ?_
        refine gI_X11_310 rfl dX11_count_98 sh_6 (m_6_0 hM) (fun v8 ev8 bv8 cv8 => ?_)
        exact g_ireturn dX11_count_101 retI (hPo _ ⟨(by omega), (by omega)⟩)
      · skip
        refine g_tableIn 102 2 dX11_count_26 (by omega) (by omega) rfl (by decide) ?_
        refine g_aload_n dX11_count_102 rfl ?_
        refine gR_X11_10 rfl dX11_count_103 sh_0 (b := 1) (m_0_0 hM) ?_
        refine gR_X11_104 rfl dX11_count_106 sh_1 (b := 12) (m_1_2 hM) ?_
        refine gI_X11_263 rfl dX11_count_109 sh_12 (m_12_0 hM) (fun v9 ev9 bv9 cv9 => ?_)
        exact g_ireturn dX11_count_112 retI (hPo _ ⟨(by omega), (by omega)⟩)
      · skip
        refine g_tableIn 113 3 dX11_count_26 (by omega) (by omega) rfl (by decide) ?_
        refine g_aload_n dX11_count_113 rfl ?_
        refine gR_X11_70 rfl dX11_count_114 sh_0 (b := 82) er0_10 ?_
        refine gI_X11_311 rfl dX11_count_117 sh_82 (m_82_0 hM) (fun v10 ev10 bv10 cv10 => ?_)
        exact g_ireturn dX11_count_120 retI (hPo _ ⟨(by omega), (by omega)⟩)
      · skip
        refine g_tableIn 121 4 dX11_count_26 (by omega) (by omega) rfl (by decide) ?_
        refine g_aload_n dX11_count_121 rfl ?_
        refine gR_X11_25 rfl dX11_count_122 sh_0 (b := 61) (m_0_3 hM) ?_
        refine gI_X11_140 rfl dX11_count_125 sh_61 (m_61_0 hM) (fun v11 ev11 bv11 cv11 => ?_)
        exact g_ireturn dX11_count_128 retI (hPo _ ⟨(by omega), (by omega)⟩)
      · skip
        refine g_tableIn 129 5 dX11_count_26 (by omega) (by omega) rfl (by decide) ?_
        refine g_aload_n dX11_count_129 rfl ?_
        refine gR_X11_10 rfl dX11_count_130 sh_0 (b := 1) (m_0_0 hM) ?_
        refine gI_X11_314 rfl dX11_count_133 sh_1 (m_1_6 hM) (fun v12 ev12 bv12 cv12 => ?_)
        exact g_ireturn dX11_count_136 retI (hPo _ ⟨(by omega), (by omega)⟩)
      · skip
        refine g_tableIn 137 6 dX11_count_26 (by omega) (by omega) rfl (by decide) ?_
        refine g_aload_n dX11_count_137 rfl ?_
        refine gR_X11_10 rfl dX11_count_138 sh_0 (b := 1) (m_0_0 hM) ?_
        refine gI_X11_300 rfl dX11_count_141 sh_1 (m_1_7 hM) (fun v13 ev13 bv13 cv13 => ?_)
        exact g_ireturn dX11_count_144 retI (hPo _ ⟨(by omega), (by omega)⟩)
      · skip
        refine g_tableIn 145 7 dX11_count_26 (by omega) (by omega) rfl (by decide) ?_
        refine g_aload_n dX11_count_145 rfl ?_
        refine gR_X11_10 rfl dX11_count_146 sh_0 (b := 1) (m_0_0 hM) ?_
        refine gI_X11_213 rfl dX11_count_149 sh_1 (m_1_8 hM) (fun v14 ev14 bv14 cv14 => ?_)
        exact g_ireturn dX11_count_152 retI (hPo _ ⟨(by omega), (by omega)⟩)
      · skip
        refine g_tableIn 153 8 dX11_count_26 (by omega) (by omega) rfl (by decide) ?_
        refine g_aload_n dX11_count_153 rfl ?_
        refine gR_X11_10 rfl dX11_count_154 sh_0 (b := 1) (m_0_0 hM) ?_
        refine gR_X11_104 rfl dX11_count_157 sh_1 (b := 12) (m_1_2 hM) ?_
        refine g_cVP (as := []) (c_X4_allBruises_12  h hM) dX11_count_160 mi_X4_allBruises in_X4_allBruises se_X4_allBruises ml_X11_210 rfl rfl rfl sh_12 rfl rfl (Nat.le_of_ble_eq_true rfl) (fun v15 q16 => ?_)
        obtain ⟨bv15, cv15⟩ := q16
        exact g_ireturn dX11_count_163 retI (hPo _ ⟨(by omega), (by omega)⟩)
      · skip
        refine g_tableIn 164 9 dX11_count_26 (by omega) (by omega) rfl (by decide) ?_
        refine g_aload_n dX11_count_164 rfl ?_
        refine gR_X11_10 rfl dX11_count_165 sh_0 (b := 1) (m_0_0 hM) ?_
        refine gR_X11_85 rfl dX11_count_168 sh_1 (b := 2) (m_1_0 hM) ?_
        refine g_cVP (as := []) (c_X6_allSlates_2  h hM) dX11_count_171 mi_X6_allSlates in_X6_allSlates se_X6_allSlates ml_X11_206 rfl rfl rfl sh_2 rfl rfl (Nat.le_of_ble_eq_true rfl) (fun v17 q18 => ?_)
        obtain ⟨bv17, cv17⟩ := q18
        exact g_ireturn dX11_count_174 retI (hPo _ ⟨(by omega), (by omega)⟩)
      · skip
        refine g_tableOut 175 dX11_count_26 (by omega) (by decide) ?_
        refine g_iconst dX11_count_175 (inR_c rfl) ?_
        exact g_ireturn dX11_count_176 retI (hPo _ ⟨(by omega), (by omega)⟩)
  · skip
    refine g_iload_n dX11_count_0 rfl (fun _ => ?_)
    refine g_bipush dX11_count_1 (inR_c rfl) (by decide) ?_
    refine g_sipush dX11_count_3 (inR_c rfl) (by decide) ?_
    refine g_cSP (av := [_, _, _]) (c_X11_isWithin _ _ _ h hM (by omega) (by omega) (by omega) (by omega) (by omega) (by omega)) dX11_count_6 mi_X11_isWithin st_X11_isWithin ml_X11_81 rfl rfl rfl rfl (Nat.le_of_ble_eq_true rfl) (fun v19 q20 => ?_)
    rcases q20 with ⟨rfl, q20⟩ | ⟨rfl, q20⟩
    · skip
      refine g_if_eq 25 dX11_count_9 (by decide) (fun _ => by exfalso; omega) (fun q21 => ?_)
      refine g_aload_n dX11_count_12 rfl ?_
      refine gR_X11_10 rfl dX11_count_13 sh_0 (b := 1) (m_0_0 hM) ?_
      refine gR_X11_137 rfl dX11_count_16 sh_1 (b := 19) (m_1_5 hM) ?_
      refine g_iload_n dX11_count_19 rfl (fun _ => ?_)
      refine g_bipush dX11_count_20 (inR_c rfl) (by decide) ?_
      refine g_isubB dX11_count_22 (by omega) (by omega) ?_
      refine g_ialdB dX11_count_23 sh_19 (by omega) (by omega) (m_19 hM _) (fun v22 ev22 bv22 cv22 => ?_)
      exact g_ireturn dX11_count_24 retI (hPo _ ⟨(by omega), (by omega)⟩)
    · skip
      refine g_if_eq 25 dX11_count_9 (by decide) (fun q23 => ?_) (fun _ => by exfalso; omega)
      refine g_iload_n dX11_count_25 rfl (fun _ => ?_)
      rcases (show x1 = 0 ∨ x1 = 1 ∨ x1 = 2 ∨ x1 = 3 ∨ x1 = 4 ∨ x1 = 5 ∨ x1 = 6 ∨ x1 = 7 ∨ x1 = 8 ∨ x1 = 9 ∨ (x1 < 0 ∨ 9 < x1) by omega) with q24 | q24 | q24 | q24 | q24 | q24 | q24 | q24 | q24 | q24 | q24
      · skip
        refine g_tableIn 80 0 dX11_count_26 (by omega) (by omega) rfl (by decide) ?_
        refine g_aload_n dX11_count_80 rfl ?_
        refine gR_X11_10 rfl dX11_count_81 sh_0 (b := 1) (m_0_0 hM) ?_
        refine gR_X11_85 rfl dX11_count_84 sh_1 (b := 2) (m_1_0 hM) ?_
        refine gI_X11_309 rfl dX11_count_87 sh_2 (m_2_0 hM) (fun v25 ev25 bv25 cv25 => ?_)
        exact g_ireturn dX11_count_90 retI (hPo _ ⟨(by omega), (by omega)⟩)
      · skip
        refine g_tableIn 91 1 dX11_count_26 (by omega) (by omega) rfl (by decide) ?_
        refine g_aload_n dX11_count_91 rfl ?_
        refine gR_X11_10 rfl dX11_count_92 sh_0 (b := 1) (m_0_0 hM) ?_
        refine gR_X11_95 rfl dX11_count_95 sh_1 (b := 6) (m_1_1 hM) ?_
        refine gI_X11_310 rfl dX11_count_98 sh_6 (m_6_0 hM) (fun v26 ev26 bv26 cv26 => ?_)
        exact g_ireturn dX11_count_101 retI (hPo _ ⟨(by omega), (by omega)⟩)
      · skip
        refine g_tableIn 102 2 dX11_count_26 (by omega) (by omega) rfl (by decide) ?_
        refine g_aload_n dX11_count_102 rfl ?_
        refine gR_X11_10 rfl dX11_count_103 sh_0 (b := 1) (m_0_0 hM) ?_
        refine gR_X11_104 rfl dX11_count_106 sh_1 (b := 12) (m_1_2 hM) ?_
        refine gI_X11_263 rfl dX11_count_109 sh_12 (m_12_0 hM) (fun v27 ev27 bv27 cv27 => ?_)
        exact g_ireturn dX11_count_112 retI (hPo _ ⟨(by omega), (by omega)⟩)
      · skip
        refine g_tableIn 113 3 dX11_count_26 (by omega) (by omega) rfl (by decide) ?_
        refine g_aload_n dX11_count_113 rfl ?_
        refine gR_X11_70 rfl dX11_count_114 sh_0 (b := 90) er0_10 ?_
        refine gI_X11_311 rfl dX11_count_117 sh_90 (m_90_0 hM) (fun v28 ev28 bv28 cv28 => ?_)
        exact g_ireturn dX11_count_120 retI (hPo _ ⟨(by omega), (by omega)⟩)
      · skip
        refine g_tableIn 121 4 dX11_count_26 (by omega) (by omega) rfl (by decide) ?_
        refine g_aload_n dX11_count_121 rfl ?_
        refine gR_X11_25 rfl dX11_count_122 sh_0 (b := 61) (m_0_3 hM) ?_
        refine gI_X11_140 rfl dX11_count_125 sh_61 (m_61_0 hM) (fun v29 ev29 bv29 cv29 => ?_)
        exact g_ireturn dX11_count_128 retI (hPo _ ⟨(by omega), (by omega)⟩)
      · skip
        refine g_tableIn 129 5 dX11_count_26 (by omega) (by omega) rfl (by decide) ?_
        refine g_aload_n dX11_count_129 rfl ?_
        refine gR_X11_10 rfl dX11_count_130 sh_0 (b := 1) (m_0_0 hM) ?_
        refine gI_X11_314 rfl dX11_count_133 sh_1 (m_1_6 hM) (fun v30 ev30 bv30 cv30 => ?_)
        exact g_ireturn dX11_count_136 retI (hPo _ ⟨(by omega), (by omega)⟩)
      · skip
        refine g_tableIn 137 6 dX11_count_26 (by omega) (by omega) rfl (by decide) ?_
        refine g_aload_n dX11_count_137 rfl ?_
        refine gR_X11_10 rfl dX11_count_138 sh_0 (b := 1) (m_0_0 hM) ?_
        refine gI_X11_300 rfl dX11_count_141 sh_1 (m_1_7 hM) (fun v31 ev31 bv31 cv31 => ?_)
        exact g_ireturn dX11_count_144 retI (hPo _ ⟨(by omega), (by omega)⟩)
      · skip
        refine g_tableIn 145 7 dX11_count_26 (by omega) (by omega) rfl (by decide) ?_
        refine g_aload_n dX11_count_145 rfl ?_
        refine gR_X11_10 rfl dX11_count_146 sh_0 (b := 1) (m_0_0 hM) ?_
        refine gI_X11_213 rfl dX11_count_149 sh_1 (m_1_8 hM) (fun v32 ev32 bv32 cv32 => ?_)
        exact g_ireturn dX11_count_152 retI (hPo _ ⟨(by omega), (by omega)⟩)
      · skip
        refine g_tableIn 153 8 dX11_count_26 (by omega) (by omega) rfl (by decide) ?_
        refine g_aload_n dX11_count_153 rfl ?_
        refine gR_X11_10 rfl dX11_count_154 sh_0 (b := 1) (m_0_0 hM) ?_
        refine gR_X11_104 rfl dX11_count_157 sh_1 (b := 12) (m_1_2 hM) ?_
        refine g_cVP (as := []) (c_X4_allBruises_12  h hM) dX11_count_160 mi_X4_allBruises in_X4_allBruises se_X4_allBruises ml_X11_210 rfl rfl rfl sh_12 rfl rfl (Nat.le_of_ble_eq_true rfl) (fun v33 q34 => ?_)
        obtain ⟨bv33, cv33⟩ := q34
        exact g_ireturn dX11_count_163 retI (hPo _ ⟨(by omega), (by omega)⟩)
      · skip
        refine g_tableIn 164 9 dX11_count_26 (by omega) (by omega) rfl (by decide) ?_
        refine g_aload_n dX11_count_164 rfl ?_
        refine gR_X11_10 rfl dX11_count_165 sh_0 (b := 1) (m_0_0 hM) ?_
        refine gR_X11_85 rfl dX11_count_168 sh_1 (b := 2) (m_1_0 hM) ?_
        refine g_cVP (as := []) (c_X6_allSlates_2  h hM) dX11_count_171 mi_X6_allSlates in_X6_allSlates se_X6_allSlates ml_X11_206 rfl rfl rfl sh_2 rfl rfl (Nat.le_of_ble_eq_true rfl) (fun v35 q36 => ?_)
        obtain ⟨bv35, cv35⟩ := q36
        exact g_ireturn dX11_count_174 retI (hPo _ ⟨(by omega), (by omega)⟩)
      · skip
        refine g_tableOut 175 dX11_count_26 (by omega) (by decide) ?_
        refine g_iconst dX11_count_175 (inR_c rfl) ?_
        exact g_ireturn dX11_count_176 retI (hPo _ ⟨(by omega), (by omega)⟩)
