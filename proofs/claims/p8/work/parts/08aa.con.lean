set_option maxRecDepth 100000 in
set_option maxHeartbeats 4000000 in
theorem c_X11_isWithin (x1 x2 x3 : Int) (h : MEM) (hM : MBx h) (bx1 : -2147483648 ≤ x1) (dx1 : x1 ≤ 2147483647) (bx2 : -1 ≤ x2) (dx2 : x2 ≤ 100) (bx3 : 0 ≤ x3) (dx3 : x3 ≤ 65535) : CP yX11_isWithin cX11_isWithin 3 (some .boolean) 1 [pI x1, pI x2, pI x3] h (fun x => (x = 1 ∧ x2 ≤ x1 + (0) ∧ x1 ≤ x3 + (0) ∨ x = 0 ∧ ¬ (x2 ≤ x1 + (0) ∧ x1 ≤ x3 + (0)))) := by
  refine CP.of (L0 := [some (pI x1), some (pI x2), some (pI x3)]) rfl (Nat.le_of_ble_eq_true rfl) rfl (fun Po hPo hav => ?_)
  refine g_iload_n dX11_isWithin_0 rfl (fun _ => ?_)
  refine g_iload_n dX11_isWithin_1 rfl (fun _ => ?_)
  refine g_icmp_lt 14 dX11_isWithin_2 (by decide) (fun q1 => ?_) (fun q1 => ?_)
  · skip
    refine g_iconst dX11_isWithin_14 (inR_c rfl) ?_
    exact g_ireturn dX11_isWithin_15 (retZ (by omega)) (hPo _ (by omega))
  · skip
    refine g_iload_n dX11_isWithin_5 rfl (fun _ => ?_)
    refine g_iload_n dX11_isWithin_6 rfl (fun _ => ?_)
    refine g_icmp_gt 14 dX11_isWithin_7 (by decide) (fun q2 => ?_) (fun q2 => ?_)
    · skip
      refine g_iconst dX11_isWithin_14 (inR_c rfl) ?_
      exact g_ireturn dX11_isWithin_15 (retZ (by omega)) (hPo _ (by omega))
    · skip
      refine g_iconst dX11_isWithin_10 (inR_c rfl) ?_
      refine g_goto 15 dX11_isWithin_11 (by decide) ?_
      exact g_ireturn dX11_isWithin_15 (retZ (by omega)) (hPo _ (by omega))
set_option maxRecDepth 100000 in
set_option maxHeartbeats 4000000 in
theorem c_X6_add_2 (x1 x2 x3 : Int) (h : MEM) (hM : MBx h) (bx1 : 0 ≤ x1) (dx1 : x1 ≤ 99) (bx2 : 0 ≤ x2) (dx2 : x2 ≤ 99) (bx3 : 0 ≤ x3) (dx3 : x3 ≤ 9) : CI yX6_add cX6_add 4 (some .int) 1 [pR 2, pI x1, pI x2, pI x3] h (fun x h' => MBx h' ∧ Fr [(2, 1), (3, 0), (4, 0), (5, 0)] h h' ∧ -1 ≤ x ∧ x ≤ 9 ∧ ((h 2 0 < 10 ∧ x = h 2 0 ∧ h' 2 0 = h 2 0 + 1) ∨ (10 ≤ h 2 0 ∧ x = -1 ∧ h' 2 0 = h 2 0))) := by
  refine CI.of (L0 := [some (pR 2), some (pI x1), some (pI x2), some (pI x3)]) rfl (Nat.le_of_ble_eq_true rfl) rfl (fun Po hPo hav => ?_)
  obtain ⟨v1, ev1⟩ : ∃ z, z = h 2 0 := ⟨_, rfl⟩
  have bv1 : 0 ≤ v1 ∧ v1 ≤ 10 := by rw [ev1]; exact (m_2_0 hM)
  refine g_aload_n dX6_add_0 rfl ?_
  refine gE_X6_9 rfl dX6_add_1 sh_2 ev1.symm ?_
  refine g_bipush dX6_add_4 (inR_c rfl) (by decide) ?_
  refine g_icmp_lt 11 dX6_add_6 (by decide) (fun q2 => ?_) (fun q2 => ?_)
  · skip
    refine g_aload_n dX6_add_11 rfl ?_
    refine gR_X6_15 rfl dX6_add_12 sh_2 (b := 3) (m_2_1 hM) ?_
    refine g_aload_n dX6_add_15 rfl ?_
    refine gE_X6_9 rfl dX6_add_16 sh_2 ev1.symm ?_
    refine g_iload_n dX6_add_19 rfl (fun _ => ?_)
    refine g_iastB dX6_add_20 sh_3 (by omega) (by omega) (fun h3 eh3 => ?_)
    have hFh3 := Fr.ar eh3
    have hMh3 := u_3 hM eh3 (by omega) (by omega)
    refine g_aload_n dX6_add_21 rfl ?_
    refine gR_X6_19 rfl dX6_add_22 sh_2 (b := 4) (m_2_2 hMh3) ?_
    refine g_aload_n dX6_add_25 rfl ?_
    refine gE_X6_9 rfl dX6_add_26 sh_2 ((hFh3 2 0 rfl).trans ev1.symm) ?_
    refine g_iload_n dX6_add_29 rfl (fun _ => ?_)
    refine g_iastB dX6_add_30 sh_4 (by omega) (by omega) (fun h4 eh4 => ?_)
    have hFh4 := Fr.ar eh4
    have hMh4 := u_4 hMh3 eh4 (by omega) (by omega)
    refine g_aload_n dX6_add_31 rfl ?_
    refine gR_X6_22 rfl dX6_add_32 sh_2 (b := 5) (m_2_3 hMh4) ?_
    refine g_aload_n dX6_add_35 rfl ?_
    refine gE_X6_9 rfl dX6_add_36 sh_2 ((hFh4 2 0 rfl).trans ((hFh3 2 0 rfl).trans ev1.symm)) ?_
    refine g_iload_n dX6_add_39 rfl (fun _ => ?_)
    refine g_iastB dX6_add_40 sh_5 (by omega) (by omega) (fun h5 eh5 => ?_)
    have hFh5 := Fr.ar eh5
    have hMh5 := u_5 hMh4 eh5 (by omega) (by omega)
    refine g_aload_n dX6_add_41 rfl ?_
    refine g_dup dX6_add_42 rfl ?_
    refine gE_X6_9 rfl dX6_add_43 sh_2 ((hFh5 2 0 rfl).trans ((hFh4 2 0 rfl).trans ((hFh3 2 0 rfl).trans ev1.symm))) ?_
    refine g_iconst dX6_add_46 (inR_c rfl) ?_
    refine g_iaddB dX6_add_47 (by omega) (by omega) ?_
    refine pI_X6_9 rfl dX6_add_48 sh_2 (fun h6 eh6 => ?_)
    have hFh6 := Fr.st eh6
    have hMh6 := u_2_0 hMh5 eh6 (by omega) (by omega)
    refine g_aload_n dX6_add_51 rfl ?_
    refine gE_X6_9 rfl dX6_add_52 sh_2 (st_at eh6) ?_
    refine g_iconst dX6_add_55 (inR_c rfl) ?_
    refine g_isubB dX6_add_56 (by omega) (by omega) ?_
    have q7 : h6 2 0 = (v1 + 1) := (st_at eh6)
    exact g_ireturn dX6_add_57 retI (hPo _ _ ⟨hMh6, (Fr.tr (Fr.tr (Fr.tr (Fr.sub hFh3 rfl) hFh4 rfl) hFh5 rfl) hFh6 rfl), (by omega), (by omega), (by omega)⟩)
  · skip
    refine g_iconst dX6_add_9 (inR_c rfl) ?_
    have q8 : h 2 0 = v1 := ev1.symm
    exact g_ireturn dX6_add_10 retI (hPo _ _ ⟨hM, Fr.rf, (by omega), (by omega), (by omega)⟩)
set_option maxRecDepth 100000 in
set_option maxHeartbeats 4000000 in
theorem c_X11_roof_0 (x1 x2 x3 : Int) (h : MEM) (hM : MBx h) (bx1 : -2147483648 ≤ x1) (dx1 : x1 ≤ 2147483647) (bx2 : -2147483648 ≤ x2) (dx2 : x2 ≤ 2147483647) (bx3 : -2147483648 ≤ x3) (dx3 : x3 ≤ 2147483647) : CI yX11_roof cX11_roof 4 (some .int) 2 [pR 0, pI x1, pI x2, pI x3] h (fun x h' => MBx h' ∧ Fr [(2, 1), (3, 0), (4, 0), (5, 0)] h h' ∧ -1 ≤ x ∧ x ≤ 9 ∧ (((0 ≤ x1 ∧ x1 ≤ 99 ∧ 0 ≤ x2 ∧ x2 ≤ x1 ∧ 0 ≤ x3 ∧ x3 ≤ 9) ∧ h 2 0 < 10 ∧ x = h 2 0 ∧ h' 2 0 = h 2 0 + 1) ∨ (¬ ((0 ≤ x1 ∧ x1 ≤ 99 ∧ 0 ≤ x2 ∧ x2 ≤ x1 ∧ 0 ≤ x3 ∧ x3 ≤ 9) ∧ h 2 0 < 10) ∧ x = -1 ∧ h' 2 0 = h 2 0))) := by
  refine CI.of (L0 := [some (pR 0), some (pI x1), some (pI x2), some (pI x3)]) rfl (Nat.le_of_ble_eq_true rfl) rfl (fun Po hPo hav => ?_)
  obtain ⟨v1, ev1⟩ : ∃ z, z = h 2 0 := ⟨_, rfl⟩
  have bv1 : 0 ≤ v1 ∧ v1 ≤ 10 := by rw [ev1]; exact (m_2_0 hM)
  refine g_iload_n dX11_roof_0 rfl (fun _ => ?_)
  refine g_iconst dX11_roof_1 (inR_c rfl) ?_
  refine g_bipush dX11_roof_2 (inR_c rfl) (by decide) ?_
  refine g_cSP (av := [_, _, _]) (c_X11_isWithin _ _ _ h hM (by omega) (by omega) (by omega) (by omega) (by omega) (by omega)) dX11_roof_4 mi_X11_isWithin st_X11_isWithin ml_X11_81 rfl rfl rfl rfl (Nat.le_of_ble_eq_true rfl) (fun v2 q3 => ?_)
  rcases q3 with ⟨rfl, q3⟩ | ⟨rfl, q3⟩
  · skip
    refine g_if_eq 29 dX11_roof_7 (by decide) (fun _ => by exfalso; omega) (fun q4 => ?_)
    refine g_iload_n dX11_roof_10 rfl (fun _ => ?_)
    refine g_iconst dX11_roof_11 (inR_c rfl) ?_
    refine g_iload_n dX11_roof_12 rfl (fun _ => ?_)
    refine g_cSP (av := [_, _, _]) (c_X11_isWithin _ _ _ h hM (by omega) (by omega) (by omega) (by omega) (by omega) (by omega)) dX11_roof_13 mi_X11_isWithin st_X11_isWithin ml_X11_81 rfl rfl rfl rfl (Nat.le_of_ble_eq_true rfl) (fun v5 q6 => ?_)
    rcases q6 with ⟨rfl, q6⟩ | ⟨rfl, q6⟩
    · skip
      refine g_if_eq 29 dX11_roof_16 (by decide) (fun _ => by exfalso; omega) (fun q7 => ?_)
      refine g_iload_n dX11_roof_19 rfl (fun _ => ?_)
      refine g_iconst dX11_roof_20 (inR_c rfl) ?_
      refine g_bipush dX11_roof_21 (inR_c rfl) (by decide) ?_
      refine g_cSP (av := [_, _, _]) (c_X11_isWithin _ _ _ h hM (by omega) (by omega) (by omega) (by omega) (by omega) (by omega)) dX11_roof_23 mi_X11_isWithin st_X11_isWithin ml_X11_81 rfl rfl rfl rfl (Nat.le_of_ble_eq_true rfl) (fun v8 q9 => ?_)
      rcases q9 with ⟨rfl, q9⟩ | ⟨rfl, q9⟩
      · skip
        refine g_if_ne 31 dX11_roof_26 (by decide) (fun q10 => ?_) (fun _ => by exfalso; omega)
        refine g_aload_n dX11_roof_31 rfl ?_
        refine gR_X11_10 rfl dX11_roof_32 sh_0 (b := 1) (m_0_0 hM) ?_
        refine gR_X11_85 rfl dX11_roof_35 sh_1 (b := 2) (m_1_0 hM) ?_
        refine g_iload_n dX11_roof_38 rfl (fun _ => ?_)
        refine g_iload_n dX11_roof_39 rfl (fun _ => ?_)
        refine g_iload_n dX11_roof_40 rfl (fun _ => ?_)
        refine g_cV (as := [_, _, _]) (c_X6_add_2 _ _ _ h hM (by omega) (by omega) (by omega) (by omega) (by omega) (by omega)) dX11_roof_41 mi_X6_add in_X6_add se_X6_add ml_X11_89 rfl rfl rfl sh_2 rfl rfl (Nat.le_of_ble_eq_true rfl) (fun v11 h12 q13 => ?_)
        obtain ⟨hMh12, hFh12, bv11, cv11, zv11⟩ := q13
        obtain ⟨v14, ev14⟩ : ∃ z, z = h12 2 0 := ⟨_, rfl⟩
        have bv14 : 0 ≤ v14 ∧ v14 ≤ 10 := by rw [ev14]; exact (m_2_0 hMh12)
        exact g_ireturn dX11_roof_44 retI (hPo _ _ ⟨hMh12, (Fr.sub hFh12 rfl), (by omega), (by omega), (by omega)⟩)
      · skip
        refine g_if_ne 31 dX11_roof_26 (by decide) (fun _ => by exfalso; omega) (fun q15 => ?_)
        refine g_iconst dX11_roof_29 (inR_c rfl) ?_
        have q16 : h 2 0 = v1 := ev1.symm
        exact g_ireturn dX11_roof_30 retI (hPo _ _ ⟨hM, Fr.rf, (by omega), (by omega), (by omega)⟩)
    · skip
      refine g_if_eq 29 dX11_roof_16 (by decide) (fun q17 => ?_) (fun _ => by exfalso; omega)
      refine g_iconst dX11_roof_29 (inR_c rfl) ?_
      have q18 : h 2 0 = v1 := ev1.symm
      exact g_ireturn dX11_roof_30 retI (hPo _ _ ⟨hM, Fr.rf, (by omega), (by omega), (by omega)⟩)
  · skip
    refine g_if_eq 29 dX11_roof_7 (by decide) (fun q19 => ?_) (fun _ => by exfalso; omega)
    refine g_iconst dX11_roof_29 (inR_c rfl) ?_
    have q20 : h 2 0 = v1 := ev1.symm
    exact g_ireturn dX11_roof_30 retI (hPo _ _ ⟨hM, Fr.rf, (by omega), (by omega), (by omega)⟩)
set_option maxRecDepth 100000 in
set_option maxHeartbeats 4000000 in
theorem c_X0_add_6 (x1 : Int) (h : MEM) (hM : MBx h) (bx1 : 0 ≤ x1) (dx1 : x1 ≤ 9) : CI yX0_add cX0_add 2 (some .int) 1 [pR 6, pI x1] h (fun x h' => MBx h' ∧ Fr [(6, 1), (7, 0), (8, 0)] h h' ∧ -1 ≤ x ∧ x ≤ 7 ∧ ((h 6 0 < 8 ∧ x = h 6 0 ∧ h' 6 0 = h 6 0 + 1) ∨ (8 ≤ h 6 0 ∧ x = -1 ∧ h' 6 0 = h 6 0))) := by
  refine CI.of (L0 := [some (pR 6), some (pI x1)]) rfl (Nat.le_of_ble_eq_true rfl) rfl (fun Po hPo hav => ?_)
  obtain ⟨v1, ev1⟩ : ∃ z, z = h 6 0 := ⟨_, rfl⟩
  have bv1 : 0 ≤ v1 ∧ v1 ≤ 8 := by rw [ev1]; exact (m_6_0 hM)
  refine g_aload_n dX0_add_0 rfl ?_
  refine gE_X0_9 rfl dX0_add_1 sh_6 ev1.symm ?_
  refine g_bipush dX0_add_4 (inR_c rfl) (by decide) ?_
  refine g_icmp_lt 11 dX0_add_6 (by decide) (fun q2 => ?_) (fun q2 => ?_)
  · skip
    refine g_aload_n dX0_add_11 rfl ?_
    refine gR_X0_15 rfl dX0_add_12 sh_6 (b := 7) (m_6_1 hM) ?_
    refine g_aload_n dX0_add_15 rfl ?_
    refine gE_X0_9 rfl dX0_add_16 sh_6 ev1.symm ?_
    refine g_bipush dX0_add_19 (inR_c rfl) (by decide) ?_
    refine g_iastB dX0_add_21 sh_7 (by omega) (by omega) (fun h3 eh3 => ?_)
    have hFh3 := Fr.ar eh3
    have hMh3 := u_7 hM eh3 (by omega) (by omega)
    refine g_aload_n dX0_add_22 rfl ?_
    refine gR_X0_19 rfl dX0_add_23 sh_6 (b := 8) (m_6_2 hMh3) ?_
    refine g_aload_n dX0_add_26 rfl ?_
    refine gE_X0_9 rfl dX0_add_27 sh_6 ((hFh3 6 0 rfl).trans ev1.symm) ?_
    refine g_iload_n dX0_add_30 rfl (fun _ => ?_)
    refine g_iastB dX0_add_31 sh_8 (by omega) (by omega) (fun h4 eh4 => ?_)
    have hFh4 := Fr.ar eh4
    have hMh4 := u_8 hMh3 eh4 (by omega) (by omega)
    refine g_aload_n dX0_add_32 rfl ?_
    refine g_dup dX0_add_33 rfl ?_
    refine gE_X0_9 rfl dX0_add_34 sh_6 ((hFh4 6 0 rfl).trans ((hFh3 6 0 rfl).trans ev1.symm)) ?_
    refine g_iconst dX0_add_37 (inR_c rfl) ?_
    refine g_iaddB dX0_add_38 (by omega) (by omega) ?_
    refine pI_X0_9 rfl dX0_add_39 sh_6 (fun h5 eh5 => ?_)
    have hFh5 := Fr.st eh5
    have hMh5 := u_6_0 hMh4 eh5 (by omega) (by omega)
    refine g_aload_n dX0_add_42 rfl ?_
    refine gE_X0_9 rfl dX0_add_43 sh_6 (st_at eh5) ?_
    refine g_iconst dX0_add_46 (inR_c rfl) ?_
    refine g_isubB dX0_add_47 (by omega) (by omega) ?_
    have q6 : h5 6 0 = (v1 + 1) := (st_at eh5)
    exact g_ireturn dX0_add_48 retI (hPo _ _ ⟨hMh5, (Fr.tr (Fr.tr (Fr.sub hFh3 rfl) hFh4 rfl) hFh5 rfl), (by omega), (by omega), (by omega)⟩)
  · skip
    refine g_iconst dX0_add_9 (inR_c rfl) ?_
    have q7 : h 6 0 = v1 := ev1.symm
    exact g_ireturn dX0_add_10 retI (hPo _ _ ⟨hM, Fr.rf, (by omega), (by omega), (by omega)⟩)
set_option maxRecDepth 100000 in
set_option maxHeartbeats 4000000 in
theorem c_X11_apprentice_0 (x1 : Int) (h : MEM) (hM : MBx h) (bx1 : -2147483648 ≤ x1) (dx1 : x1 ≤ 2147483647) : CI yX11_apprentice cX11_apprentice 2 (some .int) 2 [pR 0, pI x1] h (fun x h' => MBx h' ∧ Fr [(6, 1), (7, 0), (8, 0)] h h' ∧ -1 ≤ x ∧ x ≤ 7 ∧ (((0 ≤ x1 ∧ x1 ≤ 9) ∧ h 6 0 < 8 ∧ x = h 6 0 ∧ h' 6 0 = h 6 0 + 1) ∨ (¬ ((0 ≤ x1 ∧ x1 ≤ 9) ∧ h 6 0 < 8) ∧ x = -1 ∧ h' 6 0 = h 6 0))) := by
  refine CI.of (L0 := [some (pR 0), some (pI x1)]) rfl (Nat.le_of_ble_eq_true rfl) rfl (fun Po hPo hav => ?_)
  obtain ⟨v1, ev1⟩ : ∃ z, z = h 6 0 := ⟨_, rfl⟩
  have bv1 : 0 ≤ v1 ∧ v1 ≤ 8 := by rw [ev1]; exact (m_6_0 hM)
  refine g_iload_n dX11_apprentice_0 rfl (fun _ => ?_)
  refine g_iconst dX11_apprentice_1 (inR_c rfl) ?_
  refine g_bipush dX11_apprentice_2 (inR_c rfl) (by decide) ?_
  refine g_cSP (av := [_, _, _]) (c_X11_isWithin _ _ _ h hM (by omega) (by omega) (by omega) (by omega) (by omega) (by omega)) dX11_apprentice_4 mi_X11_isWithin st_X11_isWithin ml_X11_81 rfl rfl rfl rfl (Nat.le_of_ble_eq_true rfl) (fun v2 q3 => ?_)
  rcases q3 with ⟨rfl, q3⟩ | ⟨rfl, q3⟩
  · skip
    refine g_if_eq 24 dX11_apprentice_7 (by decide) (fun _ => by exfalso; omega) (fun q4 => ?_)
    refine g_aload_n dX11_apprentice_10 rfl ?_
    refine gR_X11_10 rfl dX11_apprentice_11 sh_0 (b := 1) (m_0_0 hM) ?_
    refine gR_X11_95 rfl dX11_apprentice_14 sh_1 (b := 6) (m_1_1 hM) ?_
    refine g_iload_n dX11_apprentice_17 rfl (fun _ => ?_)
    refine g_cV (as := [_]) (c_X0_add_6 _ h hM (by omega) (by omega)) dX11_apprentice_18 mi_X0_add in_X0_add se_X0_add ml_X11_99 rfl rfl rfl sh_6 rfl rfl (Nat.le_of_ble_eq_true rfl) (fun v5 h6 q7 => ?_)
    obtain ⟨hMh6, hFh6, bv5, cv5, zv5⟩ := q7
    refine g_goto 25 dX11_apprentice_21 (by decide) ?_
    obtain ⟨v8, ev8⟩ : ∃ z, z = h6 6 0 := ⟨_, rfl⟩
    have bv8 : 0 ≤ v8 ∧ v8 ≤ 8 := by rw [ev8]; exact (m_6_0 hMh6)
    exact g_ireturn dX11_apprentice_25 retI (hPo _ _ ⟨hMh6, (Fr.sub hFh6 rfl), (by omega), (by omega), (by omega)⟩)
  · skip
    refine g_if_eq 24 dX11_apprentice_7 (by decide) (fun q9 => ?_) (fun _ => by exfalso; omega)
    refine g_iconst dX11_apprentice_24 (inR_c rfl) ?_
    have q10 : h 6 0 = v1 := ev1.symm
    exact g_ireturn dX11_apprentice_25 retI (hPo _ _ ⟨hM, Fr.rf, (by omega), (by omega), (by omega)⟩)
set_option maxRecDepth 100000 in
set_option maxHeartbeats 4000000 in
theorem c_X4_add_12 (x1 x2 : Int) (h : MEM) (hM : MBx h) (bx1 : 0 ≤ x1) (dx1 : x1 ≤ 4) (bx2 : 0 ≤ x2) (dx2 : x2 ≤ 1) : CI yX4_add cX4_add 3 (some .int) 1 [pR 12, pI x1, pI x2] h (fun x h' => MBx h' ∧ Fr [(12, 1), (13, 0), (14, 0), (15, 0)] h h' ∧ -1 ≤ x ∧ x ≤ 7 ∧ ((h 12 0 < 8 ∧ x = h 12 0 ∧ h' 12 0 = h 12 0 + 1) ∨ (8 ≤ h 12 0 ∧ x = -1 ∧ h' 12 0 = h 12 0))) := by
  refine CI.of (L0 := [some (pR 12), some (pI x1), some (pI x2)]) rfl (Nat.le_of_ble_eq_true rfl) rfl (fun Po hPo hav => ?_)
  obtain ⟨v1, ev1⟩ : ∃ z, z = h 12 0 := ⟨_, rfl⟩
  have bv1 : 0 ≤ v1 ∧ v1 ≤ 8 := by rw [ev1]; exact (m_12_0 hM)
  refine g_aload_n dX4_add_0 rfl ?_
  refine gE_X4_9 rfl dX4_add_1 sh_12 ev1.symm ?_
  refine g_bipush dX4_add_4 (inR_c rfl) (by decide) ?_
  refine g_icmp_lt 11 dX4_add_6 (by decide) (fun q2 => ?_) (fun q2 => ?_)
  · skip
    refine g_aload_n dX4_add_11 rfl ?_
    refine gR_X4_15 rfl dX4_add_12 sh_12 (b := 13) (m_12_1 hM) ?_
    refine g_aload_n dX4_add_15 rfl ?_
    refine gE_X4_9 rfl dX4_add_16 sh_12 ev1.symm ?_
    refine g_bipush dX4_add_19 (inR_c rfl) (by decide) ?_
    refine g_iastB dX4_add_21 sh_13 (by omega) (by omega) (fun h3 eh3 => ?_)
    have hFh3 := Fr.ar eh3
    have hMh3 := u_13 hM eh3 (by omega) (by omega)
    refine g_aload_n dX4_add_22 rfl ?_
    refine gR_X4_19 rfl dX4_add_23 sh_12 (b := 14) (m_12_2 hMh3) ?_
    refine g_aload_n dX4_add_26 rfl ?_
    refine gE_X4_9 rfl dX4_add_27 sh_12 ((hFh3 12 0 rfl).trans ev1.symm) ?_
    refine g_iload_n dX4_add_30 rfl (fun _ => ?_)
    refine g_iastB dX4_add_31 sh_14 (by omega) (by omega) (fun h4 eh4 => ?_)
    have hFh4 := Fr.ar eh4
    have hMh4 := u_14 hMh3 eh4 (by omega) (by omega)
    refine g_aload_n dX4_add_32 rfl ?_
    refine gR_X4_22 rfl dX4_add_33 sh_12 (b := 15) (m_12_3 hMh4) ?_
    refine g_aload_n dX4_add_36 rfl ?_
    refine gE_X4_9 rfl dX4_add_37 sh_12 ((hFh4 12 0 rfl).trans ((hFh3 12 0 rfl).trans ev1.symm)) ?_
    refine g_iload_n dX4_add_40 rfl (fun _ => ?_)
    refine g_iastB dX4_add_41 sh_15 (by omega) (by omega) (fun h5 eh5 => ?_)
    have hFh5 := Fr.ar eh5
    have hMh5 := u_15 hMh4 eh5 (by omega) (by omega)
    refine g_aload_n dX4_add_42 rfl ?_
    refine g_dup dX4_add_43 rfl ?_
    refine gE_X4_9 rfl dX4_add_44 sh_12 ((hFh5 12 0 rfl).trans ((hFh4 12 0 rfl).trans ((hFh3 12 0 rfl).trans ev1.symm))) ?_
    refine g_iconst dX4_add_47 (inR_c rfl) ?_
    refine g_iaddB dX4_add_48 (by omega) (by omega) ?_
    refine pI_X4_9 rfl dX4_add_49 sh_12 (fun h6 eh6 => ?_)
    have hFh6 := Fr.st eh6
    have hMh6 := u_12_0 hMh5 eh6 (by omega) (by omega)
    refine g_aload_n dX4_add_52 rfl ?_
    refine gE_X4_9 rfl dX4_add_53 sh_12 (st_at eh6) ?_
    refine g_iconst dX4_add_56 (inR_c rfl) ?_
    refine g_isubB dX4_add_57 (by omega) (by omega) ?_
    have q7 : h6 12 0 = (v1 + 1) := (st_at eh6)
    exact g_ireturn dX4_add_58 retI (hPo _ _ ⟨hMh6, (Fr.tr (Fr.tr (Fr.tr (Fr.sub hFh3 rfl) hFh4 rfl) hFh5 rfl) hFh6 rfl), (by omega), (by omega), (by omega)⟩)
  · skip
    refine g_iconst dX4_add_9 (inR_c rfl) ?_
    have q8 : h 12 0 = v1 := ev1.symm
    exact g_ireturn dX4_add_10 retI (hPo _ _ ⟨hM, Fr.rf, (by omega), (by omega), (by omega)⟩)
set_option maxRecDepth 100000 in
set_option maxHeartbeats 4000000 in
theorem c_X11_master_0 (x1 x2 : Int) (h : MEM) (hM : MBx h) (bx1 : -2147483648 ≤ x1) (dx1 : x1 ≤ 2147483647) (bx2 : 0 ≤ x2) (dx2 : x2 ≤ 1) : CI yX11_master cX11_master 3 (some .int) 2 [pR 0, pI x1, pI x2] h (fun x h' => MBx h' ∧ Fr [(12, 1), (13, 0), (14, 0), (15, 0)] h h' ∧ -1 ≤ x ∧ x ≤ 7 ∧ (((0 ≤ x1 ∧ x1 ≤ 4) ∧ h 12 0 < 8 ∧ x = h 12 0 ∧ h' 12 0 = h 12 0 + 1) ∨ (¬ ((0 ≤ x1 ∧ x1 ≤ 4) ∧ h 12 0 < 8) ∧ x = -1 ∧ h' 12 0 = h 12 0))) := by
  refine CI.of (L0 := [some (pR 0), some (pI x1), some (pI x2)]) rfl (Nat.le_of_ble_eq_true rfl) rfl (fun Po hPo hav => ?_)
  obtain ⟨v1, ev1⟩ : ∃ z, z = h 12 0 := ⟨_, rfl⟩
  have bv1 : 0 ≤ v1 ∧ v1 ≤ 8 := by rw [ev1]; exact (m_12_0 hM)
  refine g_iload_n dX11_master_0 rfl (fun _ => ?_)
  refine g_iconst dX11_master_1 (inR_c rfl) ?_
  refine g_iconst dX11_master_2 (inR_c rfl) ?_
  refine g_cSP (av := [_, _, _]) (c_X11_isWithin _ _ _ h hM (by omega) (by omega) (by omega) (by omega) (by omega) (by omega)) dX11_master_3 mi_X11_isWithin st_X11_isWithin ml_X11_81 rfl rfl rfl rfl (Nat.le_of_ble_eq_true rfl) (fun v2 q3 => ?_)
  rcases q3 with ⟨rfl, q3⟩ | ⟨rfl, q3⟩
  · skip
    refine g_if_eq 32 dX11_master_6 (by decide) (fun _ => by exfalso; omega) (fun q4 => ?_)
    refine g_aload_n dX11_master_9 rfl ?_
    refine gR_X11_10 rfl dX11_master_10 sh_0 (b := 1) (m_0_0 hM) ?_
    refine gR_X11_104 rfl dX11_master_13 sh_1 (b := 12) (m_1_2 hM) ?_
    refine g_iload_n dX11_master_16 rfl (fun _ => ?_)
    refine g_iload_n dX11_master_17 rfl (fun _ => ?_)
    refine g_if_eq 25 dX11_master_18 (by decide) (fun q5 => ?_) (fun q5 => ?_)
    · skip
      refine g_iconst dX11_master_25 (inR_c rfl) ?_
      refine g_cV (as := [_, _]) (c_X4_add_12 _ _ h hM (by omega) (by omega) (by omega) (by omega)) dX11_master_26 mi_X4_add in_X4_add se_X4_add ml_X11_108 rfl rfl rfl sh_12 rfl rfl (Nat.le_of_ble_eq_true rfl) (fun v6 h7 q8 => ?_)
      obtain ⟨hMh7, hFh7, bv6, cv6, zv6⟩ := q8
      refine g_goto 33 dX11_master_29 (by decide) ?_
      obtain ⟨v9, ev9⟩ : ∃ z, z = h7 12 0 := ⟨_, rfl⟩
      have bv9 : 0 ≤ v9 ∧ v9 ≤ 8 := by rw [ev9]; exact (m_12_0 hMh7)
      exact g_ireturn dX11_master_33 retI (hPo _ _ ⟨hMh7, (Fr.sub hFh7 rfl), (by omega), (by omega), (by omega)⟩)
    · skip
      refine g_iconst dX11_master_21 (inR_c rfl) ?_
      refine g_goto 26 dX11_master_22 (by decide) ?_
      refine g_cV (as := [_, _]) (c_X4_add_12 _ _ h hM (by omega) (by omega) (by omega) (by omega)) dX11_master_26 mi_X4_add in_X4_add se_X4_add ml_X11_108 rfl rfl rfl sh_12 rfl rfl (Nat.le_of_ble_eq_true rfl) (fun v10 h11 q12 => ?_)
      obtain ⟨hMh11, hFh11, bv10, cv10, zv10⟩ := q12
      refine g_goto 33 dX11_master_29 (by decide) ?_
      obtain ⟨v13, ev13⟩ : ∃ z, z = h11 12 0 := ⟨_, rfl⟩
      have bv13 : 0 ≤ v13 ∧ v13 ≤ 8 := by rw [ev13]; exact (m_12_0 hMh11)
      exact g_ireturn dX11_master_33 retI (hPo _ _ ⟨hMh11, (Fr.sub hFh11 rfl), (by omega), (by omega), (by omega)⟩)
  · skip
    refine g_if_eq 32 dX11_master_6 (by decide) (fun q14 => ?_) (fun _ => by exfalso; omega)
    refine g_iconst dX11_master_32 (inR_c rfl) ?_
    have q15 : h 12 0 = v1 := ev1.symm
    exact g_ireturn dX11_master_33 retI (hPo _ _ ⟨hM, Fr.rf, (by omega), (by omega), (by omega)⟩)
set_option maxRecDepth 100000 in
set_option maxHeartbeats 4000000 in
theorem c_X0_has_6 (x1 : Int) (h : MEM) (hM : MBx h) (bx1 : -2147483648 ≤ x1) (dx1 : x1 ≤ 2147483647) : CP yX0_has cX0_has 2 (some .boolean) 1 [pR 6, pI x1] h (fun x => (x = 1 ∧ 0 ≤ x1 + (0) ∧ x1 ≤ h 6 0 + (-1) ∨ x = 0 ∧ ¬ (0 ≤ x1 + (0) ∧ x1 ≤ h 6 0 + (-1)))) := by
  refine CP.of (L0 := [some (pR 6), some (pI x1)]) rfl (Nat.le_of_ble_eq_true rfl) rfl (fun Po hPo hav => ?_)
  refine g_iload_n dX0_has_0 rfl (fun _ => ?_)
  refine g_if_lt 16 dX0_has_1 (by decide) (fun q1 => ?_) (fun q1 => ?_)
  · skip
    refine g_iconst dX0_has_16 (inR_c rfl) ?_
    exact g_ireturn dX0_has_17 (retZ (by omega)) (hPo _ (by omega))
  · skip
    refine g_iload_n dX0_has_4 rfl (fun _ => ?_)
    refine g_aload_n dX0_has_5 rfl ?_
    refine gI_X0_9 rfl dX0_has_6 sh_6 (m_6_0 hM) (fun v2 ev2 bv2 cv2 => ?_)
    refine g_icmp_ge 16 dX0_has_9 (by decide) (fun q3 => ?_) (fun q3 => ?_)
    · skip
      refine g_iconst dX0_has_16 (inR_c rfl) ?_
      exact g_ireturn dX0_has_17 (retZ (by omega)) (hPo _ (by omega))
    · skip
      refine g_iconst dX0_has_12 (inR_c rfl) ?_
      refine g_goto 17 dX0_has_13 (by decide) ?_
      exact g_ireturn dX0_has_17 (retZ (by omega)) (hPo _ (by omega))
set_option maxRecDepth 100000 in
set_option maxHeartbeats 4000000 in
theorem c_X6_has_2 (x1 : Int) (h : MEM) (hM : MBx h) (bx1 : -2147483648 ≤ x1) (dx1 : x1 ≤ 2147483647) : CP yX6_has cX6_has 2 (some .boolean) 1 [pR 2, pI x1] h (fun x => (x = 1 ∧ 0 ≤ x1 + (0) ∧ x1 ≤ h 2 0 + (-1) ∨ x = 0 ∧ ¬ (0 ≤ x1 + (0) ∧ x1 ≤ h 2 0 + (-1)))) := by
  refine CP.of (L0 := [some (pR 2), some (pI x1)]) rfl (Nat.le_of_ble_eq_true rfl) rfl (fun Po hPo hav => ?_)
  refine g_iload_n dX6_has_0 rfl (fun _ => ?_)
  refine g_if_lt 16 dX6_has_1 (by decide) (fun q1 => ?_) (fun q1 => ?_)
  · skip
    refine g_iconst dX6_has_16 (inR_c rfl) ?_
    exact g_ireturn dX6_has_17 (retZ (by omega)) (hPo _ (by omega))
  · skip
    refine g_iload_n dX6_has_4 rfl (fun _ => ?_)
    refine g_aload_n dX6_has_5 rfl ?_
    refine gI_X6_9 rfl dX6_has_6 sh_2 (m_2_0 hM) (fun v2 ev2 bv2 cv2 => ?_)
    refine g_icmp_ge 16 dX6_has_9 (by decide) (fun q3 => ?_) (fun q3 => ?_)
    · skip
      refine g_iconst dX6_has_16 (inR_c rfl) ?_
      exact g_ireturn dX6_has_17 (retZ (by omega)) (hPo _ (by omega))
    · skip
      refine g_iconst dX6_has_12 (inR_c rfl) ?_
      refine g_goto 17 dX6_has_13 (by decide) ?_
      exact g_ireturn dX6_has_17 (retZ (by omega)) (hPo _ (by omega))
set_option maxRecDepth 100000 in
set_option maxHeartbeats 4000000 in
theorem c_X11_isPlace_0 (x1 : Int) (h : MEM) (hM : MBx h) (bx1 : -2147483648 ≤ x1) (dx1 : x1 ≤ 2147483647) : CP yX11_isPlace cX11_isPlace 2 (some .boolean) 2 [pR 0, pI x1] h (fun x => 0 ≤ x ∧ x ≤ 1 ∧ (((x1 = -1 ∨ 0 ≤ x1 ∧ x1 < h 2 0) ∧ x = 1) ∨ (¬ (x1 = -1 ∨ 0 ≤ x1 ∧ x1 < h 2 0) ∧ x = 0))) := by
  refine CP.of (L0 := [some (pR 0), some (pI x1)]) rfl (Nat.le_of_ble_eq_true rfl) rfl (fun Po hPo hav => ?_)
  obtain ⟨v1, ev1⟩ : ∃ z, z = h 2 0 := ⟨_, rfl⟩
  have bv1 : 0 ≤ v1 ∧ v1 ≤ 10 := by rw [ev1]; exact (m_2_0 hM)
  refine g_iload_n dX11_isPlace_0 rfl (fun _ => ?_)
  refine g_iconst dX11_isPlace_1 (inR_c rfl) ?_
  refine g_icmp_eq 19 dX11_isPlace_2 (by decide) (fun q2 => ?_) (fun q2 => ?_)
  · skip
    refine g_iconst dX11_isPlace_19 (inR_c rfl) ?_
    refine g_goto 24 dX11_isPlace_20 (by decide) ?_
    exact g_ireturn dX11_isPlace_24 (retZ (by omega)) (hPo _ ⟨(by omega), (by omega), (by omega)⟩)
  · skip
    refine g_aload_n dX11_isPlace_5 rfl ?_
    refine gR_X11_10 rfl dX11_isPlace_6 sh_0 (b := 1) (m_0_0 hM) ?_
    refine gR_X11_85 rfl dX11_isPlace_9 sh_1 (b := 2) (m_1_0 hM) ?_
    refine g_iload_n dX11_isPlace_12 rfl (fun _ => ?_)
    refine g_cVP (as := [_]) (c_X6_has_2 _ h hM (by omega) (by omega)) dX11_isPlace_13 mi_X6_has in_X6_has se_X6_has ml_X11_159 rfl rfl rfl sh_2 rfl rfl (Nat.le_of_ble_eq_true rfl) (fun v3 q4 => ?_)
    have q5 : h 2 0 = v1 := ev1.symm
    rcases q4 with ⟨rfl, q4⟩ | ⟨rfl, q4⟩
    · skip
      refine g_if_eq 23 dX11_isPlace_16 (by decide) (fun _ => by exfalso; omega) (fun q6 => ?_)
      refine g_iconst dX11_isPlace_19 (inR_c rfl) ?_
      refine g_goto 24 dX11_isPlace_20 (by decide) ?_
      exact g_ireturn dX11_isPlace_24 (retZ (by omega)) (hPo _ ⟨(by omega), (by omega), (by omega)⟩)
    · skip
      refine g_if_eq 23 dX11_isPlace_16 (by decide) (fun q7 => ?_) (fun _ => by exfalso; omega)
      refine g_iconst dX11_isPlace_23 (inR_c rfl) ?_
      exact g_ireturn dX11_isPlace_24 (retZ (by omega)) (hPo _ ⟨(by omega), (by omega), (by omega)⟩)
set_option maxRecDepth 100000 in
set_option maxHeartbeats 4000000 in
theorem c_X11_on_0 (x1 x2 : Int) (h : MEM) (hM : MBx h) (bx1 : -2147483648 ≤ x1) (dx1 : x1 ≤ 2147483647) (bx2 : -2147483648 ≤ x2) (dx2 : x2 ≤ 2147483647) : CI yX11_on cX11_on 3 (some .boolean) 3 [pR 0, pI x1, pI x2] h (fun x h' => MBx h' ∧ Fr [(7, 0)] h h' ∧ 0 ≤ x ∧ x ≤ 1 ∧ (((0 ≤ x1 ∧ x1 < h 6 0 ∧ (x2 = -1 ∨ 0 ≤ x2 ∧ x2 < h 2 0)) ∧ x = 1) ∨ (¬ (0 ≤ x1 ∧ x1 < h 6 0 ∧ (x2 = -1 ∨ 0 ≤ x2 ∧ x2 < h 2 0)) ∧ x = 0))) := by
  refine CI.of (L0 := [some (pR 0), some (pI x1), some (pI x2)]) rfl (Nat.le_of_ble_eq_true rfl) rfl (fun Po hPo hav => ?_)
  obtain ⟨v1, ev1⟩ : ∃ z, z = h 6 0 := ⟨_, rfl⟩
  have bv1 : 0 ≤ v1 ∧ v1 ≤ 8 := by rw [ev1]; exact (m_6_0 hM)
  obtain ⟨v2, ev2⟩ : ∃ z, z = h 2 0 := ⟨_, rfl⟩
  have bv2 : 0 ≤ v2 ∧ v2 ≤ 10 := by rw [ev2]; exact (m_2_0 hM)
  refine g_aload_n dX11_on_0 rfl ?_
  refine gR_X11_10 rfl dX11_on_1 sh_0 (b := 1) (m_0_0 hM) ?_
  refine gR_X11_95 rfl dX11_on_4 sh_1 (b := 6) (m_1_1 hM) ?_
  refine g_iload_n dX11_on_7 rfl (fun _ => ?_)
  refine g_cVP (as := [_]) (c_X0_has_6 _ h hM (by omega) (by omega)) dX11_on_8 mi_X0_has in_X0_has se_X0_has ml_X11_113 rfl rfl rfl sh_6 rfl rfl (Nat.le_of_ble_eq_true rfl) (fun v3 q4 => ?_)
  have q5 : h 6 0 = v1 := ev1.symm
  rcases q4 with ⟨rfl, q4⟩ | ⟨rfl, q4⟩
  · skip
    refine g_if_eq 22 dX11_on_11 (by decide) (fun _ => by exfalso; omega) (fun q6 => ?_)
    refine g_aload_n dX11_on_14 rfl ?_
    refine g_iload_n dX11_on_15 rfl (fun _ => ?_)
    refine g_cVP (as := [_]) (c_X11_isPlace_0 _ h hM (by omega) (by omega)) dX11_on_16 mi_X11_isPlace in_X11_isPlace se_X11_isPlace ml_X11_117 rfl rfl rfl sh_0 rfl rfl (Nat.le_of_ble_eq_true rfl) (fun v7 q8 => ?_)
    obtain ⟨bv7, cv7, zv7⟩ := q8
    refine g_if_ne 24 dX11_on_19 (by decide) (fun q9 => ?_) (fun q9 => ?_)
    · skip
      refine g_aload_n dX11_on_24 rfl ?_
      refine gR_X11_10 rfl dX11_on_25 sh_0 (b := 1) (m_0_0 hM) ?_
      refine gR_X11_95 rfl dX11_on_28 sh_1 (b := 6) (m_1_1 hM) ?_
      refine gR_X11_120 rfl dX11_on_31 sh_6 (b := 7) (m_6_1 hM) ?_
      refine g_iload_n dX11_on_34 rfl (fun _ => ?_)
      refine g_iload_n dX11_on_35 rfl (fun _ => ?_)
      refine g_iconst dX11_on_36 (inR_c rfl) ?_
      refine g_icmp_ne 45 dX11_on_37 (by decide) (fun q10 => ?_) (fun q10 => ?_)
      · skip
        refine g_iload_n dX11_on_45 rfl (fun _ => ?_)
        refine g_iastB dX11_on_46 sh_7 (by omega) (by omega) (fun h11 eh11 => ?_)
        have hFh11 := Fr.ar eh11
        have hMh11 := u_7 hM eh11 (by omega) (by omega)
        refine g_iconst dX11_on_47 (inR_c rfl) ?_
        exact g_ireturn dX11_on_48 (retZ (by omega)) (hPo _ _ ⟨hMh11, (Fr.sub hFh11 rfl), (by omega), (by omega), (by omega)⟩)
      · skip
        refine g_bipush dX11_on_40 (inR_c rfl) (by decide) ?_
        refine g_goto 46 dX11_on_42 (by decide) ?_
        refine g_iastB dX11_on_46 sh_7 (by omega) (by omega) (fun h12 eh12 => ?_)
        have hFh12 := Fr.ar eh12
        have hMh12 := u_7 hM eh12 (by omega) (by omega)
        refine g_iconst dX11_on_47 (inR_c rfl) ?_
        exact g_ireturn dX11_on_48 (retZ (by omega)) (hPo _ _ ⟨hMh12, (Fr.sub hFh12 rfl), (by omega), (by omega), (by omega)⟩)
    · skip
      refine g_iconst dX11_on_22 (inR_c rfl) ?_
      exact g_ireturn dX11_on_23 (retZ (by omega)) (hPo _ _ ⟨hM, Fr.rf, (by omega), (by omega), (by omega)⟩)
  · skip
    refine g_if_eq 22 dX11_on_11 (by decide) (fun q13 => ?_) (fun _ => by exfalso; omega)
    refine g_iconst dX11_on_22 (inR_c rfl) ?_
    exact g_ireturn dX11_on_23 (retZ (by omega)) (hPo _ _ ⟨hM, Fr.rf, (by omega), (by omega), (by omega)⟩)
set_option maxRecDepth 100000 in
set_option maxHeartbeats 4000000 in
theorem c_X4_has_12 (x1 : Int) (h : MEM) (hM : MBx h) (bx1 : -2147483648 ≤ x1) (dx1 : x1 ≤ 2147483647) : CP yX4_has cX4_has 2 (some .boolean) 1 [pR 12, pI x1] h (fun x => (x = 1 ∧ 0 ≤ x1 + (0) ∧ x1 ≤ h 12 0 + (-1) ∨ x = 0 ∧ ¬ (0 ≤ x1 + (0) ∧ x1 ≤ h 12 0 + (-1)))) := by
  refine CP.of (L0 := [some (pR 12), some (pI x1)]) rfl (Nat.le_of_ble_eq_true rfl) rfl (fun Po hPo hav => ?_)
  refine g_iload_n dX4_has_0 rfl (fun _ => ?_)
  refine g_if_lt 16 dX4_has_1 (by decide) (fun q1 => ?_) (fun q1 => ?_)
  · skip
    refine g_iconst dX4_has_16 (inR_c rfl) ?_
    exact g_ireturn dX4_has_17 (retZ (by omega)) (hPo _ (by omega))
  · skip
    refine g_iload_n dX4_has_4 rfl (fun _ => ?_)
    refine g_aload_n dX4_has_5 rfl ?_
    refine gI_X4_9 rfl dX4_has_6 sh_12 (m_12_0 hM) (fun v2 ev2 bv2 cv2 => ?_)
    refine g_icmp_ge 16 dX4_has_9 (by decide) (fun q3 => ?_) (fun q3 => ?_)
    · skip
      refine g_iconst dX4_has_16 (inR_c rfl) ?_
      exact g_ireturn dX4_has_17 (retZ (by omega)) (hPo _ (by omega))
    · skip
      refine g_iconst dX4_has_12 (inR_c rfl) ?_
      refine g_goto 17 dX4_has_13 (by decide) ?_
      exact g_ireturn dX4_has_17 (retZ (by omega)) (hPo _ (by omega))
set_option maxRecDepth 100000 in
set_option maxHeartbeats 4000000 in
theorem c_X11_below_0 (x1 x2 : Int) (h : MEM) (hM : MBx h) (bx1 : -2147483648 ≤ x1) (dx1 : x1 ≤ 2147483647) (bx2 : -2147483648 ≤ x2) (dx2 : x2 ≤ 2147483647) : CI yX11_below cX11_below 3 (some .boolean) 3 [pR 0, pI x1, pI x2] h (fun x h' => MBx h' ∧ Fr [(13, 0)] h h' ∧ 0 ≤ x ∧ x ≤ 1 ∧ (((0 ≤ x1 ∧ x1 < h 12 0 ∧ (x2 = -1 ∨ 0 ≤ x2 ∧ x2 < h 2 0)) ∧ x = 1) ∨ (¬ (0 ≤ x1 ∧ x1 < h 12 0 ∧ (x2 = -1 ∨ 0 ≤ x2 ∧ x2 < h 2 0)) ∧ x = 0))) := by
  refine CI.of (L0 := [some (pR 0), some (pI x1), some (pI x2)]) rfl (Nat.le_of_ble_eq_true rfl) rfl (fun Po hPo hav => ?_)
  obtain ⟨v1, ev1⟩ : ∃ z, z = h 12 0 := ⟨_, rfl⟩
  have bv1 : 0 ≤ v1 ∧ v1 ≤ 8 := by rw [ev1]; exact (m_12_0 hM)
  obtain ⟨v2, ev2⟩ : ∃ z, z = h 2 0 := ⟨_, rfl⟩
  have bv2 : 0 ≤ v2 ∧ v2 ≤ 10 := by rw [ev2]; exact (m_2_0 hM)
  refine g_aload_n dX11_below_0 rfl ?_
  refine gR_X11_10 rfl dX11_below_1 sh_0 (b := 1) (m_0_0 hM) ?_
  refine gR_X11_104 rfl dX11_below_4 sh_1 (b := 12) (m_1_2 hM) ?_
  refine g_iload_n dX11_below_7 rfl (fun _ => ?_)
  refine g_cVP (as := [_]) (c_X4_has_12 _ h hM (by omega) (by omega)) dX11_below_8 mi_X4_has in_X4_has se_X4_has ml_X11_124 rfl rfl rfl sh_12 rfl rfl (Nat.le_of_ble_eq_true rfl) (fun v3 q4 => ?_)
  have q5 : h 12 0 = v1 := ev1.symm
  rcases q4 with ⟨rfl, q4⟩ | ⟨rfl, q4⟩
  · skip
    refine g_if_eq 22 dX11_below_11 (by decide) (fun _ => by exfalso; omega) (fun q6 => ?_)
    refine g_aload_n dX11_below_14 rfl ?_
    refine g_iload_n dX11_below_15 rfl (fun _ => ?_)
    refine g_cVP (as := [_]) (c_X11_isPlace_0 _ h hM (by omega) (by omega)) dX11_below_16 mi_X11_isPlace in_X11_isPlace se_X11_isPlace ml_X11_117 rfl rfl rfl sh_0 rfl rfl (Nat.le_of_ble_eq_true rfl) (fun v7 q8 => ?_)
    obtain ⟨bv7, cv7, zv7⟩ := q8
    refine g_if_ne 24 dX11_below_19 (by decide) (fun q9 => ?_) (fun q9 => ?_)
    · skip
      refine g_aload_n dX11_below_24 rfl ?_
      refine gR_X11_10 rfl dX11_below_25 sh_0 (b := 1) (m_0_0 hM) ?_
      refine gR_X11_104 rfl dX11_below_28 sh_1 (b := 12) (m_1_2 hM) ?_
      refine gR_X11_125 rfl dX11_below_31 sh_12 (b := 13) (m_12_1 hM) ?_
      refine g_iload_n dX11_below_34 rfl (fun _ => ?_)
      refine g_iload_n dX11_below_35 rfl (fun _ => ?_)
      refine g_iconst dX11_below_36 (inR_c rfl) ?_
      refine g_icmp_ne 45 dX11_below_37 (by decide) (fun q10 => ?_) (fun q10 => ?_)
      · skip
        refine g_iload_n dX11_below_45 rfl (fun _ => ?_)
        refine g_iastB dX11_below_46 sh_13 (by omega) (by omega) (fun h11 eh11 => ?_)
        have hFh11 := Fr.ar eh11
        have hMh11 := u_13 hM eh11 (by omega) (by omega)
        refine g_iconst dX11_below_47 (inR_c rfl) ?_
        exact g_ireturn dX11_below_48 (retZ (by omega)) (hPo _ _ ⟨hMh11, (Fr.sub hFh11 rfl), (by omega), (by omega), (by omega)⟩)
      · skip
        refine g_bipush dX11_below_40 (inR_c rfl) (by decide) ?_
        refine g_goto 46 dX11_below_42 (by decide) ?_
        refine g_iastB dX11_below_46 sh_13 (by omega) (by omega) (fun h12 eh12 => ?_)
        have hFh12 := Fr.ar eh12
        have hMh12 := u_13 hM eh12 (by omega) (by omega)
        refine g_iconst dX11_below_47 (inR_c rfl) ?_
        exact g_ireturn dX11_below_48 (retZ (by omega)) (hPo _ _ ⟨hMh12, (Fr.sub hFh12 rfl), (by omega), (by omega), (by omega)⟩)
    · skip
      refine g_iconst dX11_below_22 (inR_c rfl) ?_
      exact g_ireturn dX11_below_23 (retZ (by omega)) (hPo _ _ ⟨hM, Fr.rf, (by omega), (by omega), (by omega)⟩)
  · skip
    refine g_if_eq 22 dX11_below_11 (by decide) (fun q13 => ?_) (fun _ => by exfalso; omega)
    refine g_iconst dX11_below_22 (inR_c rfl) ?_
    exact g_ireturn dX11_below_23 (retZ (by omega)) (hPo _ _ ⟨hM, Fr.rf, (by omega), (by omega), (by omega)⟩)
set_option maxRecDepth 100000 in
set_option maxHeartbeats 4000000 in
theorem c_X11_hasGearBearer_0 (x1 x2 : Int) (h : MEM) (hM : MBx h) (bx1 : -2147483648 ≤ x1) (dx1 : x1 ≤ 2147483647) (bx2 : -2147483648 ≤ x2) (dx2 : x2 ≤ 2147483647) : CP yX11_hasGearBearer cX11_hasGearBearer 3 (some .boolean) 2 [pR 0, pI x1, pI x2] h (fun x => 0 ≤ x ∧ x ≤ 1) := by
  refine CP.of (L0 := [some (pR 0), some (pI x1), some (pI x2)]) rfl (Nat.le_of_ble_eq_true rfl) rfl (fun Po hPo hav => ?_)
  refine g_iload_n dX11_hasGearBearer_0 rfl (fun _ => ?_)
  refine g_if_ne 18 dX11_hasGearBearer_1 (by decide) (fun q1 => ?_) (fun q1 => ?_)
  · skip
    refine g_iload_n dX11_hasGearBearer_18 rfl (fun _ => ?_)
    refine g_iconst dX11_hasGearBearer_19 (inR_c rfl) ?_
    refine g_icmp_ne 41 dX11_hasGearBearer_20 (by decide) (fun q2 => ?_) (fun q2 => ?_)
    · skip
      refine g_iconst dX11_hasGearBearer_41 (inR_c rfl) ?_
      exact g_ireturn dX11_hasGearBearer_42 (retZ (by omega)) (hPo _ ⟨(by omega), (by omega)⟩)
    · skip
      refine g_aload_n dX11_hasGearBearer_23 rfl ?_
      refine gR_X11_10 rfl dX11_hasGearBearer_24 sh_0 (b := 1) (m_0_0 hM) ?_
      refine gR_X11_104 rfl dX11_hasGearBearer_27 sh_1 (b := 12) (m_1_2 hM) ?_
      refine g_iload_n dX11_hasGearBearer_30 rfl (fun _ => ?_)
      refine g_cVP (as := [_]) (c_X4_has_12 _ h hM (by omega) (by omega)) dX11_hasGearBearer_31 mi_X4_has in_X4_has se_X4_has ml_X11_124 rfl rfl rfl sh_12 rfl rfl (Nat.le_of_ble_eq_true rfl) (fun v3 q4 => ?_)
      obtain ⟨v5, ev5⟩ : ∃ z, z = h 12 0 := ⟨_, rfl⟩
      have bv5 : 0 ≤ v5 ∧ v5 ≤ 8 := by rw [ev5]; exact (m_12_0 hM)
      rcases q4 with ⟨rfl, q4⟩ | ⟨rfl, q4⟩
      · skip
        refine g_if_eq 41 dX11_hasGearBearer_34 (by decide) (fun _ => by exfalso; omega) (fun q6 => ?_)
        refine g_iconst dX11_hasGearBearer_37 (inR_c rfl) ?_
        refine g_goto 42 dX11_hasGearBearer_38 (by decide) ?_
        exact g_ireturn dX11_hasGearBearer_42 (retZ (by omega)) (hPo _ ⟨(by omega), (by omega)⟩)
      · skip
        refine g_if_eq 41 dX11_hasGearBearer_34 (by decide) (fun q7 => ?_) (fun _ => by exfalso; omega)
        refine g_iconst dX11_hasGearBearer_41 (inR_c rfl) ?_
        exact g_ireturn dX11_hasGearBearer_42 (retZ (by omega)) (hPo _ ⟨(by omega), (by omega)⟩)
  · skip
    refine g_aload_n dX11_hasGearBearer_4 rfl ?_
    refine gR_X11_10 rfl dX11_hasGearBearer_5 sh_0 (b := 1) (m_0_0 hM) ?_
    refine gR_X11_95 rfl dX11_hasGearBearer_8 sh_1 (b := 6) (m_1_1 hM) ?_
    refine g_iload_n dX11_hasGearBearer_11 rfl (fun _ => ?_)
    refine g_cVP (as := [_]) (c_X0_has_6 _ h hM (by omega) (by omega)) dX11_hasGearBearer_12 mi_X0_has in_X0_has se_X0_has ml_X11_113 rfl rfl rfl sh_6 rfl rfl (Nat.le_of_ble_eq_true rfl) (fun v8 q9 => ?_)
    obtain ⟨v10, ev10⟩ : ∃ z, z = h 6 0 := ⟨_, rfl⟩
    have bv10 : 0 ≤ v10 ∧ v10 ≤ 8 := by rw [ev10]; exact (m_6_0 hM)
    rcases q9 with ⟨rfl, q9⟩ | ⟨rfl, q9⟩
    · skip
      refine g_goto 42 dX11_hasGearBearer_15 (by decide) ?_
      exact g_ireturn dX11_hasGearBearer_42 (retZ (by omega)) (hPo _ ⟨(by omega), (by omega)⟩)
    · skip
      refine g_goto 42 dX11_hasGearBearer_15 (by decide) ?_
      exact g_ireturn dX11_hasGearBearer_42 (retZ (by omega)) (hPo _ ⟨(by omega), (by omega)⟩)
set_option maxRecDepth 100000 in
set_option maxHeartbeats 4000000 in
theorem c_X9_gearOf_1 (x1 x2 : Int) (h : MEM) (hM : MBx h) (bx1 : -2147483648 ≤ x1) (dx1 : x1 ≤ 2147483647) (bx2 : -2147483648 ≤ x2) (dx2 : x2 ≤ 2147483647) : CP yX9_gearOf cX9_gearOf 3 (some .int) 2 [pR 1, pI x1, pI x2] h (fun x => -2147483648 ≤ x ∧ x ≤ 2147483647) := by
  refine CP.of (L0 := [some (pR 1), some (pI x1), some (pI x2)]) rfl (Nat.le_of_ble_eq_true rfl) rfl (fun Po hPo hav => ?_)
  refine g_iload_n dX9_gearOf_0 rfl (fun _ => ?_)
  refine g_if_ne 29 dX9_gearOf_1 (by decide) (fun q1 => ?_) (fun q1 => ?_)
  · skip
    refine g_aload_n dX9_gearOf_29 rfl ?_
    refine gR_X9_28 rfl dX9_gearOf_30 sh_1 (b := 12) (m_1_2 hM) ?_
    refine g_iload_n dX9_gearOf_33 rfl (fun _ => ?_)
    refine g_cVP (as := [_]) (c_X4_has_12 _ h hM (by omega) (by omega)) dX9_gearOf_34 mi_X4_has in_X4_has se_X4_has ml_X9_78 rfl rfl rfl sh_12 rfl rfl (Nat.le_of_ble_eq_true rfl) (fun v2 q3 => ?_)
    obtain ⟨v4, ev4⟩ : ∃ z, z = h 12 0 := ⟨_, rfl⟩
    have bv4 : 0 ≤ v4 ∧ v4 ≤ 8 := by rw [ev4]; exact (m_12_0 hM)
    rcases q3 with ⟨rfl, q3⟩ | ⟨rfl, q3⟩
    · skip
      refine g_if_eq 52 dX9_gearOf_37 (by decide) (fun _ => by exfalso; omega) (fun q5 => ?_)
      refine g_aload_n dX9_gearOf_40 rfl ?_
      refine gR_X9_28 rfl dX9_gearOf_41 sh_1 (b := 12) (m_1_2 hM) ?_
      refine gR_X9_79 rfl dX9_gearOf_44 sh_12 (b := 15) (m_12_3 hM) ?_
      refine g_iload_n dX9_gearOf_47 rfl (fun _ => ?_)
      refine g_ialdB dX9_gearOf_48 sh_15 (by omega) (by omega) (m_15 hM _) (fun v6 ev6 bv6 cv6 => ?_)
      refine g_goto 53 dX9_gearOf_49 (by decide) ?_
      exact g_ireturn dX9_gearOf_53 retI (hPo _ ⟨(by omega), (by omega)⟩)
    · skip
      refine g_if_eq 52 dX9_gearOf_37 (by decide) (fun q7 => ?_) (fun _ => by exfalso; omega)
      refine g_iconst dX9_gearOf_52 (inR_c rfl) ?_
      exact g_ireturn dX9_gearOf_53 retI (hPo _ ⟨(by omega), (by omega)⟩)
  · skip
    refine g_aload_n dX9_gearOf_4 rfl ?_
    refine gR_X9_21 rfl dX9_gearOf_5 sh_1 (b := 6) (m_1_1 hM) ?_
    refine g_iload_n dX9_gearOf_8 rfl (fun _ => ?_)
    refine g_cVP (as := [_]) (c_X0_has_6 _ h hM (by omega) (by omega)) dX9_gearOf_9 mi_X0_has in_X0_has se_X0_has ml_X9_71 rfl rfl rfl sh_6 rfl rfl (Nat.le_of_ble_eq_true rfl) (fun v8 q9 => ?_)
    obtain ⟨v10, ev10⟩ : ∃ z, z = h 6 0 := ⟨_, rfl⟩
    have bv10 : 0 ≤ v10 ∧ v10 ≤ 8 := by rw [ev10]; exact (m_6_0 hM)
    rcases q9 with ⟨rfl, q9⟩ | ⟨rfl, q9⟩
    · skip
      refine g_if_eq 27 dX9_gearOf_12 (by decide) (fun _ => by exfalso; omega) (fun q11 => ?_)
      refine g_aload_n dX9_gearOf_15 rfl ?_
      refine gR_X9_21 rfl dX9_gearOf_16 sh_1 (b := 6) (m_1_1 hM) ?_
      refine gR_X9_75 rfl dX9_gearOf_19 sh_6 (b := 9) (m_6_3 hM) ?_
      refine g_iload_n dX9_gearOf_22 rfl (fun _ => ?_)
      refine g_ialdB dX9_gearOf_23 sh_9 (by omega) (by omega) (m_9 hM _) (fun v12 ev12 bv12 cv12 => ?_)
      refine g_goto 28 dX9_gearOf_24 (by decide) ?_
      exact g_ireturn dX9_gearOf_28 retI (hPo _ ⟨(by omega), (by omega)⟩)
    · skip
      refine g_if_eq 27 dX9_gearOf_12 (by decide) (fun q13 => ?_) (fun _ => by exfalso; omega)
      refine g_iconst dX9_gearOf_27 (inR_c rfl) ?_
      exact g_ireturn dX9_gearOf_28 retI (hPo _ ⟨(by omega), (by omega)⟩)
set_option maxRecDepth 100000 in
set_option maxHeartbeats 4000000 in
theorem c_X9_putGear_1 (x1 x2 x3 : Int) (h : MEM) (hM : MBx h) (bx1 : -2147483648 ≤ x1) (dx1 : x1 ≤ 2147483647) (bx2 : -2147483648 ≤ x2) (dx2 : x2 ≤ 2147483647) (bx3 : 0 ≤ x3) (dx3 : x3 ≤ 1) : CV yX9_putGear cX9_putGear 4 (none) 2 [pR 1, pI x1, pI x2, pI x3] h (fun h' => MBx h' ∧ Fr [(9, 0), (15, 0)] h h') := by
  refine CV.of (L0 := [some (pR 1), some (pI x1), some (pI x2), some (pI x3)]) rfl (Nat.le_of_ble_eq_true rfl) rfl (fun Po hPo hav => ?_)
  refine g_iload_n dX9_putGear_0 rfl (fun _ => ?_)
  have c25 : ∀ (h1 : MEM), MBx h1 → Fr [(9, 0)] h h1 → G yX9_putGear cX9_putGear 4 (none) none Po (2, 120, 0, 0) 25 [some (pR 1), some (pI x1), some (pI x2), some (pI x3)] [] SH h1 0 0 := by
    intro h1 hMh1 hFh1
    refine g_iload_n dX9_putGear_25 rfl (fun _ => ?_)
    refine g_iconst dX9_putGear_26 (inR_c rfl) ?_
    refine g_icmp_ne 51 dX9_putGear_27 (by decide) (fun q2 => ?_) (fun q2 => ?_)
    · skip
      exact g_return dX9_putGear_51 rfl (hPo _ ⟨hMh1, (Fr.sub hFh1 rfl)⟩)
    · skip
      refine g_aload_n dX9_putGear_30 rfl ?_
      refine gR_X9_28 rfl dX9_putGear_31 sh_1 (b := 12) (m_1_2 hMh1) ?_
      refine g_iload_n dX9_putGear_34 rfl (fun _ => ?_)
      refine g_cVP (as := [_]) (c_X4_has_12 _ h1 hMh1 (by omega) (by omega)) dX9_putGear_35 mi_X4_has in_X4_has se_X4_has ml_X9_78 rfl rfl rfl sh_12 rfl rfl (Nat.le_of_ble_eq_true rfl) (fun v3 q4 => ?_)
      have q5 : h1 12 0 = h 12 0 := (hFh1 12 0 rfl)
      obtain ⟨v6, ev6⟩ : ∃ z, z = h1 12 0 := ⟨_, rfl⟩
      have bv6 : 0 ≤ v6 ∧ v6 ≤ 8 := by rw [ev6]; exact (m_12_0 hMh1)
      rcases q4 with ⟨rfl, q4⟩ | ⟨rfl, q4⟩
      · skip
        refine g_if_eq 51 dX9_putGear_38 (by decide) (fun _ => by exfalso; omega) (fun q7 => ?_)
        refine g_aload_n dX9_putGear_41 rfl ?_
        refine gR_X9_28 rfl dX9_putGear_42 sh_1 (b := 12) (m_1_2 hMh1) ?_
        refine gR_X9_79 rfl dX9_putGear_45 sh_12 (b := 15) (m_12_3 hMh1) ?_
        refine g_iload_n dX9_putGear_48 rfl (fun _ => ?_)
        refine g_iload_n dX9_putGear_49 rfl (fun _ => ?_)
        refine g_iastB dX9_putGear_50 sh_15 (by omega) (by omega) (fun h8 eh8 => ?_)
        have hFh8 := Fr.ar eh8
        have hMh8 := u_15 hMh1 eh8 (by omega) (by omega)
        exact g_return dX9_putGear_51 rfl (hPo _ ⟨hMh8, (Fr.tr (Fr.sub hFh1 rfl) hFh8 rfl)⟩)
      · skip
        refine g_if_eq 51 dX9_putGear_38 (by decide) (fun q9 => ?_) (fun _ => by exfalso; omega)
        exact g_return dX9_putGear_51 rfl (hPo _ ⟨hMh1, (Fr.sub hFh1 rfl)⟩)
  refine g_if_ne 25 dX9_putGear_1 (by decide) (fun q10 => ?_) (fun q10 => ?_)
  · skip
    exact c25 _ hM Fr.rf
  · skip
    refine g_aload_n dX9_putGear_4 rfl ?_
    refine gR_X9_21 rfl dX9_putGear_5 sh_1 (b := 6) (m_1_1 hM) ?_
    refine g_iload_n dX9_putGear_8 rfl (fun _ => ?_)
    refine g_cVP (as := [_]) (c_X0_has_6 _ h hM (by omega) (by omega)) dX9_putGear_9 mi_X0_has in_X0_has se_X0_has ml_X9_71 rfl rfl rfl sh_6 rfl rfl (Nat.le_of_ble_eq_true rfl) (fun v11 q12 => ?_)
    obtain ⟨v13, ev13⟩ : ∃ z, z = h 6 0 := ⟨_, rfl⟩
    have bv13 : 0 ≤ v13 ∧ v13 ≤ 8 := by rw [ev13]; exact (m_6_0 hM)
    rcases q12 with ⟨rfl, q12⟩ | ⟨rfl, q12⟩
    · skip
      refine g_if_eq 25 dX9_putGear_12 (by decide) (fun _ => by exfalso; omega) (fun q14 => ?_)
      refine g_aload_n dX9_putGear_15 rfl ?_
      refine gR_X9_21 rfl dX9_putGear_16 sh_1 (b := 6) (m_1_1 hM) ?_
      refine gR_X9_75 rfl dX9_putGear_19 sh_6 (b := 9) (m_6_3 hM) ?_
      refine g_iload_n dX9_putGear_22 rfl (fun _ => ?_)
      refine g_iload_n dX9_putGear_23 rfl (fun _ => ?_)
      refine g_iastB dX9_putGear_24 sh_9 (by omega) (by omega) (fun h15 eh15 => ?_)
      have hFh15 := Fr.ar eh15
      have hMh15 := u_9 hM eh15 (by omega) (by omega)
      exact c25 _ hMh15 (Fr.sub hFh15 rfl)
    · skip
      refine g_if_eq 25 dX9_putGear_12 (by decide) (fun q16 => ?_) (fun _ => by exfalso; omega)
      exact c25 _ hM Fr.rf
set_option maxRecDepth 100000 in
set_option maxHeartbeats 4000000 in
theorem c_X11_gear_0 (x1 x2 x3 : Int) (h : MEM) (hM : MBx h) (bx1 : -2147483648 ≤ x1) (dx1 : x1 ≤ 2147483647) (bx2 : -2147483648 ≤ x2) (dx2 : x2 ≤ 2147483647) (bx3 : 0 ≤ x3) (dx3 : x3 ≤ 1) : CI yX11_gear cX11_gear 5 (some .boolean) 3 [pR 0, pI x1, pI x2, pI x3] h (fun x h' => MBx h' ∧ Fr [(9, 0), (15, 0)] h h' ∧ 0 ≤ x ∧ x ≤ 1) := by
  refine CI.of (L0 := [some (pR 0), some (pI x1), some (pI x2), some (pI x3), none]) rfl (Nat.le_of_ble_eq_true rfl) rfl (fun Po hPo hav => ?_)
  refine g_iload_n dX11_gear_0 rfl (fun _ => ?_)
  have c9 : ∀ (y1 : Int) , 0 ≤ y1 → y1 ≤ 1 → G yX11_gear cX11_gear 5 (some .boolean) none Po (3, 180, 0, 0) 9 [some (pR 0), some (pI x1), some (pI x2), none, none] [(pI y1)] SH h 0 0 := by
    intro y1 by1 dy1
    refine g_istore dX11_gear_9 (by decide) rfl ?_
    refine g_aload_n dX11_gear_11 rfl ?_
    refine g_iload_n dX11_gear_12 rfl (fun _ => ?_)
    refine g_iload_n dX11_gear_13 rfl (fun _ => ?_)
    refine g_cVP (as := [_, _]) (c_X11_hasGearBearer_0 _ _ h hM (by omega) (by omega) (by omega) (by omega)) dX11_gear_14 mi_X11_hasGearBearer in_X11_hasGearBearer se_X11_hasGearBearer ml_X11_126 rfl rfl rfl sh_0 rfl rfl (Nat.le_of_ble_eq_true rfl) (fun v2 q3 => ?_)
    obtain ⟨bv2, cv2⟩ := q3
    refine g_if_eq 34 dX11_gear_17 (by decide) (fun q4 => ?_) (fun q4 => ?_)
    · skip
      refine g_iconst dX11_gear_34 (inR_c rfl) ?_
      exact g_ireturn dX11_gear_35 (retZ (by omega)) (hPo _ _ ⟨hM, Fr.rf, (by omega), (by omega)⟩)
    · skip
      refine g_aload_n dX11_gear_20 rfl ?_
      refine gR_X11_10 rfl dX11_gear_21 sh_0 (b := 1) (m_0_0 hM) ?_
      refine g_iload_n dX11_gear_24 rfl (fun _ => ?_)
      refine g_iload_n dX11_gear_25 rfl (fun _ => ?_)
      refine g_cVP (as := [_, _]) (c_X9_gearOf_1 _ _ h hM (by omega) (by omega) (by omega) (by omega)) dX11_gear_26 mi_X9_gearOf in_X9_gearOf se_X9_gearOf ml_X11_130 rfl rfl rfl sh_1 rfl rfl (Nat.le_of_ble_eq_true rfl) (fun v5 q6 => ?_)
      obtain ⟨bv5, cv5⟩ := q6
      refine g_iload dX11_gear_29 rfl (fun _ => ?_)
      refine g_icmp_ne 36 dX11_gear_31 (by decide) (fun q7 => ?_) (fun q7 => ?_)
      · skip
        refine g_aload_n dX11_gear_36 rfl ?_
        refine gR_X11_10 rfl dX11_gear_37 sh_0 (b := 1) (m_0_0 hM) ?_
        refine g_iload_n dX11_gear_40 rfl (fun _ => ?_)
        refine g_iload_n dX11_gear_41 rfl (fun _ => ?_)
        refine g_iload dX11_gear_42 rfl (fun _ => ?_)
        refine g_cVV (as := [_, _, _]) (c_X9_putGear_1 _ _ _ h hM (by omega) (by omega) (by omega) (by omega) (by omega) (by omega)) dX11_gear_44 mi_X9_putGear in_X9_putGear se_X9_putGear ml_X11_133 rfl rfl rfl sh_1 rfl rfl (Nat.le_of_ble_eq_true rfl) (fun h8 q9 => ?_)
        obtain ⟨hMh8, hFh8⟩ := q9
        refine g_iconst dX11_gear_47 (inR_c rfl) ?_
        exact g_ireturn dX11_gear_48 (retZ (by omega)) (hPo _ _ ⟨hMh8, (Fr.sub hFh8 rfl), (by omega), (by omega)⟩)
      · skip
        refine g_iconst dX11_gear_34 (inR_c rfl) ?_
        exact g_ireturn dX11_gear_35 (retZ (by omega)) (hPo _ _ ⟨hM, Fr.rf, (by omega), (by omega)⟩)
  refine g_if_eq 8 dX11_gear_1 (by decide) (fun q10 => ?_) (fun q10 => ?_)
  · skip
    refine g_iconst dX11_gear_8 (inR_c rfl) ?_
    refine g_drop 3 ?_
    exact c9 _ (by omega) (by omega)
  · skip
    refine g_iconst dX11_gear_4 (inR_c rfl) ?_
    refine g_goto 9 dX11_gear_5 (by decide) ?_
    refine g_drop 3 ?_
    exact c9 _ (by omega) (by omega)
set_option maxRecDepth 100000 in
set_option maxHeartbeats 4000000 in
theorem c_X11_snow_0 (x1 x2 : Int) (h : MEM) (hM : MBx h) (bx1 : -2147483648 ≤ x1) (dx1 : x1 ≤ 2147483647) (bx2 : 0 ≤ x2) (dx2 : x2 ≤ 1) : CI yX11_snow cX11_snow 4 (some .boolean) 2 [pR 0, pI x1, pI x2] h (fun x h' => MBx h' ∧ Fr [(19, 0)] h h' ∧ 0 ≤ x ∧ x ≤ 1 ∧ (SNQ 19 h h' x1 x2 x)) := by
  refine CI.of (L0 := [some (pR 0), some (pI x1), some (pI x2), none]) rfl (Nat.le_of_ble_eq_true rfl) rfl (fun Po hPo hav => ?_)
  refine g_iload_n dX11_snow_0 rfl (fun _ => ?_)
  refine g_if_eq 8 dX11_snow_1 (by decide) (fun q1 => ?_) (fun q1 => ?_)
  · skip
    refine g_iconst dX11_snow_8 (inR_c rfl) ?_
    refine g_istore_n dX11_snow_9 (by decide) rfl ?_
    refine g_iload_n dX11_snow_10 rfl (fun _ => ?_)
    refine g_iconst dX11_snow_11 (inR_c rfl) ?_
    refine g_bipush dX11_snow_12 (inR_c rfl) (by decide) ?_
    refine g_cSP (av := [_, _, _]) (c_X11_isWithin _ _ _ h hM (by omega) (by omega) (by omega) (by omega) (by omega) (by omega)) dX11_snow_14 mi_X11_isWithin st_X11_isWithin ml_X11_81 rfl rfl rfl rfl (Nat.le_of_ble_eq_true rfl) (fun v2 q3 => ?_)
    rcases q3 with ⟨rfl, q3⟩ | ⟨rfl, q3⟩
    · skip
      refine g_if_eq 33 dX11_snow_17 (by decide) (fun _ => by exfalso; omega) (fun q4 => ?_)
      refine g_aload_n dX11_snow_20 rfl ?_
      refine gR_X11_10 rfl dX11_snow_21 sh_0 (b := 1) (m_0_0 hM) ?_
      refine gR_X11_137 rfl dX11_snow_24 sh_1 (b := 19) (m_1_5 hM) ?_
      refine g_iload_n dX11_snow_27 rfl (fun _ => ?_)
      refine g_ialdB dX11_snow_28 sh_19 (by omega) (by omega) (m_19 hM _) (fun v5 ev5 bv5 cv5 => ?_)
      refine g_iload_n dX11_snow_29 rfl (fun _ => ?_)
      refine g_icmp_ne 35 dX11_snow_30 (by decide) (fun q6 => ?_) (fun q6 => ?_)
      · skip
        refine g_aload_n dX11_snow_35 rfl ?_
        refine gR_X11_10 rfl dX11_snow_36 sh_0 (b := 1) (m_0_0 hM) ?_
        refine gR_X11_137 rfl dX11_snow_39 sh_1 (b := 19) (m_1_5 hM) ?_
        refine g_iload_n dX11_snow_42 rfl (fun _ => ?_)
        refine g_iload_n dX11_snow_43 rfl (fun _ => ?_)
        refine g_iastB dX11_snow_44 sh_19 (by omega) (by omega) (fun h7 eh7 => ?_)
        have hFh7 := Fr.ar eh7
        have hMh7 := u_19 hM eh7 (by omega) (by omega)
        refine g_iconst dX11_snow_45 (inR_c rfl) ?_
        exact g_ireturn dX11_snow_46 (retZ (by omega)) (hPo _ _ ⟨hMh7, (Fr.sub hFh7 rfl), (by omega), (by omega), (by first | exact SNQ_y (by assumption) (by assumption) (by omega) (by omega) (by omega) (by omega) | exact SNQ_a (by omega) | exact SNQ_b (by assumption) (by omega))⟩)
      · skip
        refine g_iconst dX11_snow_33 (inR_c rfl) ?_
        exact g_ireturn dX11_snow_34 (retZ (by omega)) (hPo _ _ ⟨hM, Fr.rf, (by omega), (by omega), (by first | exact SNQ_y (by assumption) (by assumption) (by omega) (by omega) (by omega) (by omega) | exact SNQ_a (by omega) | exact SNQ_b (by assumption) (by omega))⟩)
    · skip
      refine g_if_eq 33 dX11_snow_17 (by decide) (fun q8 => ?_) (fun _ => by exfalso; omega)
      refine g_iconst dX11_snow_33 (inR_c rfl) ?_
      exact g_ireturn dX11_snow_34 (retZ (by omega)) (hPo _ _ ⟨hM, Fr.rf, (by omega), (by omega), (by first | exact SNQ_y (by assumption) (by assumption) (by omega) (by omega) (by omega) (by omega) | exact SNQ_a (by omega) | exact SNQ_b (by assumption) (by omega))⟩)
  · skip
    refine g_iconst dX11_snow_4 (inR_c rfl) ?_
    refine g_goto 9 dX11_snow_5 (by decide) ?_
    refine g_istore_n dX11_snow_9 (by decide) rfl ?_
    refine g_iload_n dX11_snow_10 rfl (fun _ => ?_)
    refine g_iconst dX11_snow_11 (inR_c rfl) ?_
    refine g_bipush dX11_snow_12 (inR_c rfl) (by decide) ?_
    refine g_cSP (av := [_, _, _]) (c_X11_isWithin _ _ _ h hM (by omega) (by omega) (by omega) (by omega) (by omega) (by omega)) dX11_snow_14 mi_X11_isWithin st_X11_isWithin ml_X11_81 rfl rfl rfl rfl (Nat.le_of_ble_eq_true rfl) (fun v9 q10 => ?_)
    rcases q10 with ⟨rfl, q10⟩ | ⟨rfl, q10⟩
    · skip
      refine g_if_eq 33 dX11_snow_17 (by decide) (fun _ => by exfalso; omega) (fun q11 => ?_)
      refine g_aload_n dX11_snow_20 rfl ?_
      refine gR_X11_10 rfl dX11_snow_21 sh_0 (b := 1) (m_0_0 hM) ?_
      refine gR_X11_137 rfl dX11_snow_24 sh_1 (b := 19) (m_1_5 hM) ?_
      refine g_iload_n dX11_snow_27 rfl (fun _ => ?_)
      refine g_ialdB dX11_snow_28 sh_19 (by omega) (by omega) (m_19 hM _) (fun v12 ev12 bv12 cv12 => ?_)
      refine g_iload_n dX11_snow_29 rfl (fun _ => ?_)
      refine g_icmp_ne 35 dX11_snow_30 (by decide) (fun q13 => ?_) (fun q13 => ?_)
      · skip
        refine g_aload_n dX11_snow_35 rfl ?_
        refine gR_X11_10 rfl dX11_snow_36 sh_0 (b := 1) (m_0_0 hM) ?_
        refine gR_X11_137 rfl dX11_snow_39 sh_1 (b := 19) (m_1_5 hM) ?_
        refine g_iload_n dX11_snow_42 rfl (fun _ => ?_)
        refine g_iload_n dX11_snow_43 rfl (fun _ => ?_)
        refine g_iastB dX11_snow_44 sh_19 (by omega) (by omega) (fun h14 eh14 => ?_)
        have hFh14 := Fr.ar eh14
        have hMh14 := u_19 hM eh14 (by omega) (by omega)
        refine g_iconst dX11_snow_45 (inR_c rfl) ?_
        exact g_ireturn dX11_snow_46 (retZ (by omega)) (hPo _ _ ⟨hMh14, (Fr.sub hFh14 rfl), (by omega), (by omega), (by first | exact SNQ_y (by assumption) (by assumption) (by omega) (by omega) (by omega) (by omega) | exact SNQ_a (by omega) | exact SNQ_b (by assumption) (by omega))⟩)
      · skip
        refine g_iconst dX11_snow_33 (inR_c rfl) ?_
        exact g_ireturn dX11_snow_34 (retZ (by omega)) (hPo _ _ ⟨hM, Fr.rf, (by omega), (by omega), (by first | exact SNQ_y (by assumption) (by assumption) (by omega) (by omega) (by omega) (by omega) | exact SNQ_a (by omega) | exact SNQ_b (by assumption) (by omega))⟩)
    · skip
      refine g_if_eq 33 dX11_snow_17 (by decide) (fun q15 => ?_) (fun _ => by exfalso; omega)
      refine g_iconst dX11_snow_33 (inR_c rfl) ?_
      exact g_ireturn dX11_snow_34 (retZ (by omega)) (hPo _ _ ⟨hM, Fr.rf, (by omega), (by omega), (by first | exact SNQ_y (by assumption) (by assumption) (by omega) (by omega) (by omega) (by omega) | exact SNQ_a (by omega) | exact SNQ_b (by assumption) (by omega))⟩)
set_option maxRecDepth 100000 in
set_option maxHeartbeats 4000000 in
theorem c_X10_append_61 (x1 : Int) (h : MEM) (hM : MBx h) (bx1 : -2147483648 ≤ x1) (dx1 : x1 ≤ 2147483647) : CV yX10_append cX10_append 3 (none) 1 [pR 61, pI x1] h (fun h' => MBx h' ∧ Fr [(61, 1), (62, 0)] h h') := by
  refine CV.of (L0 := [some (pR 61), some (pI x1), none]) rfl (Nat.le_of_ble_eq_true rfl) rfl (fun Po hPo hav => ?_)
  refine g_bipush dX10_append_0 (inR_c rfl) (by decide) ?_
  have c3 : ∀ (n : Nat) (y1 : Int) (h2 : MEM), MBx h2 → Fr [(61, 1), (62, 0)] h h2 → -8 ≤ y1 → y1 ≤ 24 → y1 - (-8) < (n : Int) → G yX10_append cX10_append 3 (none) none Po (1, 60, 0, 0) 3 [some (pR 61), some (pI x1), some (pI y1)] [] SH h2 0 0 := by
    intro n
    induction n with
    | zero =>
      intro y1 h2 hMh2 hFh2 by1 dy1 hn
      exfalso; omega
    | succ n ih3 =>
      intro y1 h2 hMh2 hFh2 by1 dy1 hn
      refine g_iload_n dX10_append_3 rfl (fun _ => ?_)
      refine g_if_lt 49 dX10_append_4 (by decide) (fun q3 => ?_) (fun q3 => ?_)
      · skip
        exact g_return dX10_append_49 rfl (hPo _ ⟨hMh2, (Fr.sub hFh2 rfl)⟩)
      · skip
        refine g_aload_n dX10_append_7 rfl ?_
        refine gI_X10_9 rfl dX10_append_8 sh_61 (m_61_0 hMh2) (fun v4 ev4 bv4 cv4 => ?_)
        refine g_sipush dX10_append_11 (inR_c rfl) (by decide) ?_
        refine g_icmp_ge 49 dX10_append_14 (by decide) (fun q5 => ?_) (fun q5 => ?_)
        · skip
          exact g_return dX10_append_49 rfl (hPo _ ⟨hMh2, (Fr.sub hFh2 rfl)⟩)
        · skip
          refine g_aload_n dX10_append_17 rfl ?_
          refine gR_X10_15 rfl dX10_append_18 sh_61 (b := 62) (m_61_1 hMh2) ?_
          refine g_aload_n dX10_append_21 rfl ?_
          refine gE_X10_9 rfl dX10_append_22 sh_61 ev4.symm ?_
          refine g_iload_n dX10_append_25 rfl (fun _ => ?_)
          refine g_iload_n dX10_append_26 rfl (fun _ => ?_)
          refine g_ishrF dX10_append_27 (fun v6 ev6 bv6 cv6 => ?_)
          refine g_sipush dX10_append_28 (inR_c rfl) (by decide) ?_
          refine g_iandX (lo := 0) (hi := 255) dX10_append_31 (iand_r (by omega) (by omega)) (fun v7 ev7 bv7 cv7 => ?_)
          refine g_iastB dX10_append_32 sh_62 (by omega) (by omega) (fun h8 eh8 => ?_)
          have hFh8 := Fr.ar eh8
          have hMh8 := u_62 hMh2 eh8 (by omega) (by omega)
          refine g_aload_n dX10_append_33 rfl ?_
          refine g_dup dX10_append_34 rfl ?_
          refine gE_X10_9 rfl dX10_append_35 sh_61 ((hFh8 61 0 rfl).trans ev4.symm) ?_
          refine g_iconst dX10_append_38 (inR_c rfl) ?_
          refine g_iaddB dX10_append_39 (by omega) (by omega) ?_
          refine pI_X10_9 rfl dX10_append_40 sh_61 (fun h9 eh9 => ?_)
          have hFh9 := Fr.st eh9
          have hMh9 := u_61_0 hMh8 eh9 (by omega) (by omega)
          refine g_iincB dX10_append_43 rfl rfl (by omega) (by omega) ?_
          refine g_goto 3 dX10_append_46 (by decide) ?_
          exact ih3 _ _ hMh9 (Fr.tr (Fr.tr (Fr.sub hFh2 rfl) hFh8 rfl) hFh9 rfl) (by omega) (by omega) (by omega)
  refine g_istore_n dX10_append_2 (by decide) rfl ?_
  exact c3 33 _ _ hM Fr.rf (by omega) (by omega) (by omega)
set_option maxRecDepth 100000 in
set_option maxHeartbeats 4000000 in
theorem c_X11_feed_0 (x1 x2 x3 x4 x5 : Int) (h : MEM) (hM : MBx h) (bx1 : -2147483648 ≤ x1) (dx1 : x1 ≤ 2147483647) (bx2 : -2147483648 ≤ x2) (dx2 : x2 ≤ 2147483647) (bx3 : -2147483648 ≤ x3) (dx3 : x3 ≤ 2147483647) (bx4 : -2147483648 ≤ x4) (dx4 : x4 ≤ 2147483647) (bx5 : -2147483648 ≤ x5) (dx5 : x5 ≤ 2147483647) : CI yX11_feed cX11_feed 6 (some .int) 2 [pR 0, pI x1, pI x2, pI x3, pI x4, pI x5] h (fun x h' => MBx h' ∧ Fr [(61, 1), (62, 0)] h h' ∧ -1 ≤ x ∧ x ≤ 220) := by
  refine CI.of (L0 := [some (pR 0), some (pI x1), some (pI x2), some (pI x3), some (pI x4), some (pI x5)]) rfl (Nat.le_of_ble_eq_true rfl) rfl (fun Po hPo hav => ?_)
  refine g_aload_n dX11_feed_0 rfl ?_
  refine gR_X11_25 rfl dX11_feed_1 sh_0 (b := 61) (m_0_3 hM) ?_
  refine gI_X11_140 rfl dX11_feed_4 sh_61 (m_61_0 hM) (fun v1 ev1 bv1 cv1 => ?_)
  refine g_bipush dX11_feed_7 (inR_c rfl) (by decide) ?_
  refine g_iaddB dX11_feed_9 (by omega) (by omega) ?_
  refine g_sipush dX11_feed_10 (inR_c rfl) (by decide) ?_
  refine g_icmp_le 18 dX11_feed_13 (by decide) (fun q2 => ?_) (fun q2 => ?_)
  · skip
    refine g_aload_n dX11_feed_18 rfl ?_
    refine gR_X11_25 rfl dX11_feed_19 sh_0 (b := 61) (m_0_3 hM) ?_
    refine g_iload_n dX11_feed_22 rfl (fun _ => ?_)
    refine g_cVV (as := [_]) (c_X10_append_61 _ h hM (by omega) (by omega)) dX11_feed_23 mi_X10_append in_X10_append se_X10_append ml_X11_144 rfl rfl rfl sh_61 rfl rfl (Nat.le_of_ble_eq_true rfl) (fun h3 q4 => ?_)
    obtain ⟨hMh3, hFh3⟩ := q4
    refine g_aload_n dX11_feed_26 rfl ?_
    refine gR_X11_25 rfl dX11_feed_27 sh_0 (b := 61) (m_0_3 hMh3) ?_
    refine g_iload_n dX11_feed_30 rfl (fun _ => ?_)
    refine g_cVV (as := [_]) (c_X10_append_61 _ h3 hMh3 (by omega) (by omega)) dX11_feed_31 mi_X10_append in_X10_append se_X10_append ml_X11_144 rfl rfl rfl sh_61 rfl rfl (Nat.le_of_ble_eq_true rfl) (fun h5 q6 => ?_)
    obtain ⟨hMh5, hFh5⟩ := q6
    refine g_aload_n dX11_feed_34 rfl ?_
    refine gR_X11_25 rfl dX11_feed_35 sh_0 (b := 61) (m_0_3 hMh5) ?_
    refine g_iload_n dX11_feed_38 rfl (fun _ => ?_)
    refine g_cVV (as := [_]) (c_X10_append_61 _ h5 hMh5 (by omega) (by omega)) dX11_feed_39 mi_X10_append in_X10_append se_X10_append ml_X11_144 rfl rfl rfl sh_61 rfl rfl (Nat.le_of_ble_eq_true rfl) (fun h7 q8 => ?_)
    obtain ⟨hMh7, hFh7⟩ := q8
    refine g_aload_n dX11_feed_42 rfl ?_
    refine gR_X11_25 rfl dX11_feed_43 sh_0 (b := 61) (m_0_3 hMh7) ?_
    refine g_iload dX11_feed_46 rfl (fun _ => ?_)
    refine g_cVV (as := [_]) (c_X10_append_61 _ h7 hMh7 (by omega) (by omega)) dX11_feed_48 mi_X10_append in_X10_append se_X10_append ml_X11_144 rfl rfl rfl sh_61 rfl rfl (Nat.le_of_ble_eq_true rfl) (fun h9 q10 => ?_)
    obtain ⟨hMh9, hFh9⟩ := q10
    refine g_aload_n dX11_feed_51 rfl ?_
    refine gR_X11_25 rfl dX11_feed_52 sh_0 (b := 61) (m_0_3 hMh9) ?_
    refine g_iload dX11_feed_55 rfl (fun _ => ?_)
    refine g_cVV (as := [_]) (c_X10_append_61 _ h9 hMh9 (by omega) (by omega)) dX11_feed_57 mi_X10_append in_X10_append se_X10_append ml_X11_144 rfl rfl rfl sh_61 rfl rfl (Nat.le_of_ble_eq_true rfl) (fun h11 q12 => ?_)
    obtain ⟨hMh11, hFh11⟩ := q12
    refine g_aload_n dX11_feed_60 rfl ?_
    refine gR_X11_25 rfl dX11_feed_61 sh_0 (b := 61) (m_0_3 hMh11) ?_
    refine gI_X11_140 rfl dX11_feed_64 sh_61 (m_61_0 hMh11) (fun v13 ev13 bv13 cv13 => ?_)
    exact g_ireturn dX11_feed_67 retI (hPo _ _ ⟨hMh11, (Fr.tr (Fr.tr (Fr.tr (Fr.tr (Fr.sub hFh3 rfl) hFh5 rfl) hFh7 rfl) hFh9 rfl) hFh11 rfl), (by omega), (by omega)⟩)
  · skip
    refine g_iconst dX11_feed_16 (inR_c rfl) ?_
    exact g_ireturn dX11_feed_17 retI (hPo _ _ ⟨hM, Fr.rf, (by omega), (by omega)⟩)
set_option maxRecDepth 100000 in
set_option maxHeartbeats 4000000 in
theorem c_X5_sign_65 (h : MEM) (hM : MBx h) : CP yX5_sign cX5_sign 1 (some .char) 1 [pR 65] h (fun x => 0 ≤ x ∧ x ≤ 255 ∧ (x = SGN h)) := by
  refine CP.of (L0 := [some (pR 65)]) rfl (Nat.le_of_ble_eq_true rfl) rfl (fun Po hPo hav => ?_)
  refine g_aload_n dX5_sign_0 rfl ?_
  refine gI_X5_19 rfl dX5_sign_1 sh_65 (m_65_2 hM) (fun v1 ev1 bv1 cv1 => ?_)
  refine g_if_lt 31 dX5_sign_4 (by decide) (fun q2 => ?_) (fun q2 => ?_)
  · skip
    refine g_iconst dX5_sign_31 (inR_c rfl) ?_
    exact g_ireturn dX5_sign_32 (retC (by omega) (by omega)) (hPo _ ⟨(by omega), (by omega), (by first | exact sgn_in (by assumption) (by assumption) (by omega) (by omega) (by assumption) | exact sgn_out (by assumption) (by assumption) (by omega) | exact sgn_ou (by assumption) (by omega))⟩)
  · skip
    refine g_aload_n dX5_sign_7 rfl ?_
    refine gE_X5_19 rfl dX5_sign_8 sh_65 ev1.symm ?_
    refine g_aload_n dX5_sign_11 rfl ?_
    refine gI_X5_15 rfl dX5_sign_12 sh_65 (m_65_1 hM) (fun v3 ev3 bv3 cv3 => ?_)
    refine g_icmp_ge 31 dX5_sign_15 (by decide) (fun q4 => ?_) (fun q4 => ?_)
    · skip
      refine g_iconst dX5_sign_31 (inR_c rfl) ?_
      exact g_ireturn dX5_sign_32 (retC (by omega) (by omega)) (hPo _ ⟨(by omega), (by omega), (by first | exact sgn_in (by assumption) (by assumption) (by omega) (by omega) (by assumption) | exact sgn_out (by assumption) (by assumption) (by omega) | exact sgn_ou (by assumption) (by omega))⟩)
    · skip
      refine g_aload_n dX5_sign_18 rfl ?_
      refine gR_X5_9 rfl dX5_sign_19 sh_65 (b := 66) (m_65_0 hM) ?_
      refine g_aload_n dX5_sign_22 rfl ?_
      refine gE_X5_19 rfl dX5_sign_23 sh_65 ev1.symm ?_
      refine g_ialdB dX5_sign_26 sh_66 (by omega) (by omega) (m_66 hM _) (fun v5 ev5 bv5 cv5 => ?_)
      refine g_i2cB dX5_sign_27 (by omega) (by omega) ?_
      refine g_goto 32 dX5_sign_28 (by decide) ?_
      exact g_ireturn dX5_sign_32 (retC (by omega) (by omega)) (hPo _ ⟨(by omega), (by omega), (by first | exact sgn_in (by assumption) (by assumption) (by omega) (by omega) (by assumption) | exact sgn_out (by assumption) (by assumption) (by omega) | exact sgn_ou (by assumption) (by omega))⟩)
set_option maxRecDepth 100000 in
set_option maxHeartbeats 4000000 in
theorem c_X2_beginClause_90 (x1 : Int) (h : MEM) (hM : MBx h) (bx1 : 0 ≤ x1) (dx1 : x1 ≤ 255) : CV yX2_beginClause cX2_beginClause 2 (none) 1 [pR 90, pI x1] h (fun h' => MBx h' ∧ Fr [(91, 0), (92, 0)] h h') := by
  refine CV.of (L0 := [some (pR 90), some (pI x1)]) rfl (Nat.le_of_ble_eq_true rfl) rfl (fun Po hPo hav => ?_)
  refine g_aload_n dX2_beginClause_0 rfl ?_
  refine gI_X2_9 rfl dX2_beginClause_1 sh_90 (m_90_0 hM) (fun v1 ev1 bv1 cv1 => ?_)
  refine g_bipush dX2_beginClause_4 (inR_c rfl) (by decide) ?_
  refine g_icmp_ge 32 dX2_beginClause_6 (by decide) (fun q2 => ?_) (fun q2 => ?_)
  · skip
    exact g_return dX2_beginClause_32 rfl (hPo _ ⟨hM, Fr.rf⟩)
  · skip
    refine g_aload_n dX2_beginClause_9 rfl ?_
    refine gR_X2_18 rfl dX2_beginClause_10 sh_90 (b := 91) (m_90_2 hM) ?_
    refine g_aload_n dX2_beginClause_13 rfl ?_
    refine gE_X2_9 rfl dX2_beginClause_14 sh_90 ev1.symm ?_
    refine g_iload_n dX2_beginClause_17 rfl (fun _ => ?_)
    refine g_iastB dX2_beginClause_18 sh_91 (by omega) (by omega) (fun h3 eh3 => ?_)
    have hFh3 := Fr.ar eh3
    have hMh3 := u_91 hM eh3 (by omega) (by omega)
    refine g_aload_n dX2_beginClause_19 rfl ?_
    refine gR_X2_22 rfl dX2_beginClause_20 sh_90 (b := 92) (m_90_3 hMh3) ?_
    refine g_aload_n dX2_beginClause_23 rfl ?_
    refine gE_X2_9 rfl dX2_beginClause_24 sh_90 ((hFh3 90 0 rfl).trans ev1.symm) ?_
    refine g_aload_n dX2_beginClause_27 rfl ?_
    refine gI_X2_15 rfl dX2_beginClause_28 sh_90 (m_90_1 hMh3) (fun v4 ev4 bv4 cv4 => ?_)
    refine g_iastB dX2_beginClause_31 sh_92 (by omega) (by omega) (fun h5 eh5 => ?_)
    have hFh5 := Fr.ar eh5
    have hMh5 := u_92 hMh3 eh5 (by omega) (by omega)
    exact g_return dX2_beginClause_32 rfl (hPo _ ⟨hMh5, (Fr.tr (Fr.sub hFh3 rfl) hFh5 rfl)⟩)
set_option maxRecDepth 100000 in
set_option maxHeartbeats 4000000 in
theorem c_X5_isDigit (x1 : Int) (h : MEM) (hM : MBx h) (bx1 : 0 ≤ x1) (dx1 : x1 ≤ 255) : CP yX5_isDigit cX5_isDigit 1 (some .boolean) 1 [pI x1] h (fun x => 0 ≤ x ∧ x ≤ 1) := by
  refine CP.of (L0 := [some (pI x1)]) rfl (Nat.le_of_ble_eq_true rfl) rfl (fun Po hPo hav => ?_)
  refine g_iload_n dX5_isDigit_0 rfl (fun _ => ?_)
  refine g_bipush dX5_isDigit_1 (inR_c rfl) (by decide) ?_
  refine g_icmp_lt 16 dX5_isDigit_3 (by decide) (fun q1 => ?_) (fun q1 => ?_)
  · skip
    refine g_iconst dX5_isDigit_16 (inR_c rfl) ?_
    exact g_ireturn dX5_isDigit_17 (retZ (by omega)) (hPo _ ⟨(by omega), (by omega)⟩)
  · skip
    refine g_iload_n dX5_isDigit_6 rfl (fun _ => ?_)
    refine g_bipush dX5_isDigit_7 (inR_c rfl) (by decide) ?_
    refine g_icmp_gt 16 dX5_isDigit_9 (by decide) (fun q2 => ?_) (fun q2 => ?_)
    · skip
      refine g_iconst dX5_isDigit_16 (inR_c rfl) ?_
      exact g_ireturn dX5_isDigit_17 (retZ (by omega)) (hPo _ ⟨(by omega), (by omega)⟩)
    · skip
      refine g_iconst dX5_isDigit_12 (inR_c rfl) ?_
      refine g_goto 17 dX5_isDigit_13 (by decide) ?_
      exact g_ireturn dX5_isDigit_17 (retZ (by omega)) (hPo _ ⟨(by omega), (by omega)⟩)
set_option maxRecDepth 100000 in
set_option maxHeartbeats 4000000 in
theorem c_X5_fail_65 (x1 : Int) (h : MEM) (hM : MBx h) (bx1 : 1 ≤ x1) (dx1 : x1 ≤ 5) : CV yX5_fail cX5_fail 2 (none) 1 [pR 65, pI x1] h (fun h' => MBx h' ∧ Fr [(65, 4), (65, 5)] h h' ∧ 1 ≤ h' 65 3 ∧ h' 65 3 ≤ 5) := by
  refine CV.of (L0 := [some (pR 65), some (pI x1)]) rfl (Nat.le_of_ble_eq_true rfl) rfl (fun Po hPo hav => ?_)
  refine g_aload_n dX5_fail_0 rfl ?_
  refine gI_X5_22 rfl dX5_fail_1 sh_65 (m_65_3 hM) (fun v1 ev1 bv1 cv1 => ?_)
  refine g_if_ne 20 dX5_fail_4 (by decide) (fun q2 => ?_) (fun q2 => ?_)
  · skip
    have q3 : h 65 3 = v1 := ev1.symm
    exact g_return dX5_fail_20 rfl (hPo _ ⟨hM, Fr.rf, (by omega), (by omega)⟩)
  · skip
    refine g_aload_n dX5_fail_7 rfl ?_
    refine g_iload_n dX5_fail_8 rfl (fun _ => ?_)
    refine pI_X5_22 rfl dX5_fail_9 sh_65 (fun h4 eh4 => ?_)
    have hFh4 := Fr.st eh4
    have hMh4 := u_65_3 hM eh4 (by omega) (by omega)
    refine g_aload_n dX5_fail_12 rfl ?_
    refine g_aload_n dX5_fail_13 rfl ?_
    refine gI_X5_19 rfl dX5_fail_14 sh_65 (m_65_2 hMh4) (fun v5 ev5 bv5 cv5 => ?_)
    refine pI_X5_25 rfl dX5_fail_17 sh_65 (fun h6 eh6 => ?_)
    have hFh6 := Fr.st eh6
    have hMh6 := u_65_4 hMh4 eh6 (by omega) (by omega)
    have q7 : h6 65 3 = x1 := ((hFh6 65 3 rfl).trans (st_at eh4))
    exact g_return dX5_fail_20 rfl (hPo _ ⟨hMh6, (Fr.tr (Fr.sub hFh4 rfl) hFh6 rfl), (by omega), (by omega)⟩)
set_option maxRecDepth 100000 in
set_option maxHeartbeats 4000000 in
theorem c_X2_addStep_90 (x1 x2 : Int) (h : MEM) (hM : MBx h) (bx1 : 0 ≤ x1) (dx1 : x1 ≤ 255) (bx2 : -2147483648 ≤ x2) (dx2 : x2 ≤ 2147483647) : CI yX2_addStep cX2_addStep 3 (some .int) 1 [pR 90, pI x1, pI x2] h (fun x h' => MBx h' ∧ Fr [(90, 2), (95, 0), (96, 0)] h h' ∧ -1 ≤ x ∧ x ≤ 199) := by
  refine CI.of (L0 := [some (pR 90), some (pI x1), some (pI x2)]) rfl (Nat.le_of_ble_eq_true rfl) rfl (fun Po hPo hav => ?_)
  refine g_aload_n dX2_addStep_0 rfl ?_
  refine gI_X2_15 rfl dX2_addStep_1 sh_90 (m_90_1 hM) (fun v1 ev1 bv1 cv1 => ?_)
  refine g_sipush dX2_addStep_4 (inR_c rfl) (by decide) ?_
  refine g_icmp_lt 12 dX2_addStep_7 (by decide) (fun q2 => ?_) (fun q2 => ?_)
  · skip
    refine g_aload_n dX2_addStep_12 rfl ?_
    refine gR_X2_31 rfl dX2_addStep_13 sh_90 (b := 95) (m_90_6 hM) ?_
    refine g_aload_n dX2_addStep_16 rfl ?_
    refine gE_X2_15 rfl dX2_addStep_17 sh_90 ev1.symm ?_
    refine g_iload_n dX2_addStep_20 rfl (fun _ => ?_)
    refine g_iastB dX2_addStep_21 sh_95 (by omega) (by omega) (fun h3 eh3 => ?_)
    have hFh3 := Fr.ar eh3
    have hMh3 := u_95 hM eh3 (by omega) (by omega)
    refine g_aload_n dX2_addStep_22 rfl ?_
    refine gR_X2_34 rfl dX2_addStep_23 sh_90 (b := 96) (m_90_7 hMh3) ?_
    refine g_aload_n dX2_addStep_26 rfl ?_
    refine gE_X2_15 rfl dX2_addStep_27 sh_90 ((hFh3 90 1 rfl).trans ev1.symm) ?_
    refine g_iload_n dX2_addStep_30 rfl (fun _ => ?_)
    refine g_iastB dX2_addStep_31 sh_96 (by omega) (by omega) (fun h4 eh4 => ?_)
    have hFh4 := Fr.ar eh4
    have hMh4 := u_96 hMh3 eh4 (by omega) (by omega)
    refine g_aload_n dX2_addStep_32 rfl ?_
    refine g_dup dX2_addStep_33 rfl ?_
    refine gE_X2_15 rfl dX2_addStep_34 sh_90 ((hFh4 90 1 rfl).trans ((hFh3 90 1 rfl).trans ev1.symm)) ?_
    refine g_iconst dX2_addStep_37 (inR_c rfl) ?_
    refine g_iaddB dX2_addStep_38 (by omega) (by omega) ?_
    refine pI_X2_15 rfl dX2_addStep_39 sh_90 (fun h5 eh5 => ?_)
    have hFh5 := Fr.st eh5
    have hMh5 := u_90_1 hMh4 eh5 (by omega) (by omega)
    refine g_aload_n dX2_addStep_42 rfl ?_
    refine gE_X2_15 rfl dX2_addStep_43 sh_90 (st_at eh5) ?_
    refine g_iconst dX2_addStep_46 (inR_c rfl) ?_
    refine g_isubB dX2_addStep_47 (by omega) (by omega) ?_
    exact g_ireturn dX2_addStep_48 retI (hPo _ _ ⟨hMh5, (Fr.tr (Fr.tr (Fr.sub hFh3 rfl) hFh4 rfl) hFh5 rfl), (by omega), (by omega)⟩)
  · skip
    refine g_iconst dX2_addStep_10 (inR_c rfl) ?_
    exact g_ireturn dX2_addStep_11 retI (hPo _ _ ⟨hM, Fr.rf, (by omega), (by omega)⟩)
set_option maxRecDepth 100000 in
set_option maxHeartbeats 4000000 in
theorem c_X5_readNumber_65_90 (h : MEM) (hM : MBx h) : CV yX5_readNumber cX5_readNumber 4 (none) 2 [pR 65, pR 90] h (fun h' => MBx h' ∧ Fr [(65, 3), (65, 4), (65, 5), (90, 2), (95, 0), (96, 0)] h h') := by
  refine CV.of (L0 := [some (pR 65), some (pR 90), none, none]) rfl (Nat.le_of_ble_eq_true rfl) rfl (fun Po hPo hav => ?_)
  refine g_iconst dX5_readNumber_0 (inR_c rfl) ?_
  refine g_istore_n dX5_readNumber_1 (by decide) rfl ?_
  refine g_iconst dX5_readNumber_2 (inR_c rfl) ?_
  have c4 : ∀ (n : Nat) (y1 y2 : Int) (h3 : MEM), MBx h3 → Fr [(65, 3)] h h3 → -2147483648 ≤ y1 → y1 ≤ 2147483647 → 0 ≤ y2 → y2 ≤ 5 → 5 - y2 < (n : Int) → G yX5_readNumber cX5_readNumber 4 (none) none Po (2, 120, 0, 0) 4 [some (pR 65), some (pR 90), some (pI y1), some (pI y2)] [] SH h3 0 0 := by
    intro n
    induction n with
    | zero =>
      intro y1 y2 h3 hMh3 hFh3 by1 dy1 by2 dy2 hn
      exfalso; omega
    | succ n ih4 =>
      intro y1 y2 h3 hMh3 hFh3 by1 dy1 by2 dy2 hn
      refine g_iload_n dX5_readNumber_4 rfl (fun _ => ?_)
      refine g_iconst dX5_readNumber_5 (inR_c rfl) ?_
      refine g_icmp_ge 48 dX5_readNumber_6 (by decide) (fun q4 => ?_) (fun q4 => ?_)
      · skip
        refine g_aload_n dX5_readNumber_48 rfl ?_
        refine g_cVP (as := []) (c_X5_sign_65  h3 hMh3) dX5_readNumber_49 mi_X5_sign in_X5_sign se_X5_sign ml_X5_56 rfl rfl rfl sh_65 rfl rfl (Nat.le_of_ble_eq_true rfl) (fun v5 q6 => ?_)
        obtain ⟨bv5, cv5, zv5⟩ := q6
        refine g_cSP (av := [_]) (c_X5_isDigit _ h3 hMh3 (by omega) (by omega)) dX5_readNumber_52 mi_X5_isDigit st_X5_isDigit ml_X5_117 rfl rfl rfl rfl (Nat.le_of_ble_eq_true rfl) (fun v7 q8 => ?_)
        obtain ⟨bv7, cv7⟩ := q8
        refine g_if_eq 63 dX5_readNumber_55 (by decide) (fun q9 => ?_) (fun q9 => ?_)
        · skip
          refine g_aload_n dX5_readNumber_63 rfl ?_
          refine g_iconst dX5_readNumber_64 (inR_c rfl) ?_
          refine g_iload_n dX5_readNumber_65 rfl (fun _ => ?_)
          refine g_cV (as := [_, _]) (c_X2_addStep_90 _ _ h3 hMh3 (by omega) (by omega) (by omega) (by omega)) dX5_readNumber_66 mi_X2_addStep in_X2_addStep se_X2_addStep ml_X5_90 rfl rfl rfl sh_90 rfl rfl (Nat.le_of_ble_eq_true rfl) (fun v10 h11 q12 => ?_)
          obtain ⟨hMh11, hFh11, bv10, cv10⟩ := q12
          refine g_pop dX5_readNumber_69 rfl ?_
          exact g_return dX5_readNumber_70 rfl (hPo _ ⟨hMh11, (Fr.tr (Fr.sub hFh3 rfl) hFh11 rfl)⟩)
        · skip
          refine g_aload_n dX5_readNumber_58 rfl ?_
          refine g_iconst dX5_readNumber_59 (inR_c rfl) ?_
          refine g_cVV (as := [_]) (c_X5_fail_65 _ h3 hMh3 (by omega) (by omega)) dX5_readNumber_60 mi_X5_fail in_X5_fail se_X5_fail ml_X5_60 rfl rfl rfl sh_65 rfl rfl (Nat.le_of_ble_eq_true rfl) (fun h13 q14 => ?_)
          obtain ⟨hMh13, hFh13, az15, bz15⟩ := q14
          obtain ⟨v16, ev16⟩ : ∃ z, z = h13 65 3 := ⟨_, rfl⟩
          have bv16 : 1 ≤ v16 ∧ v16 ≤ 5 := by rw [ev16]; exact ⟨az15, bz15⟩
          refine g_aload_n dX5_readNumber_63 rfl ?_
          refine g_iconst dX5_readNumber_64 (inR_c rfl) ?_
          refine g_iload_n dX5_readNumber_65 rfl (fun _ => ?_)
          refine g_cV (as := [_, _]) (c_X2_addStep_90 _ _ h13 hMh13 (by omega) (by omega) (by omega) (by omega)) dX5_readNumber_66 mi_X2_addStep in_X2_addStep se_X2_addStep ml_X5_90 rfl rfl rfl sh_90 rfl rfl (Nat.le_of_ble_eq_true rfl) (fun v17 h18 q19 => ?_)
          obtain ⟨hMh18, hFh18, bv17, cv17⟩ := q19
          refine g_pop dX5_readNumber_69 rfl ?_
          exact g_return dX5_readNumber_70 rfl (hPo _ ⟨hMh18, (Fr.tr (Fr.tr (Fr.sub hFh3 rfl) hFh13 rfl) hFh18 rfl)⟩)
      · skip
        refine g_aload_n dX5_readNumber_9 rfl ?_
        refine g_cVP (as := []) (c_X5_sign_65  h3 hMh3) dX5_readNumber_10 mi_X5_sign in_X5_sign se_X5_sign ml_X5_56 rfl rfl rfl sh_65 rfl rfl (Nat.le_of_ble_eq_true rfl) (fun v20 q21 => ?_)
        obtain ⟨bv20, cv20, zv20⟩ := q21
        refine g_cSP (av := [_]) (c_X5_isDigit _ h3 hMh3 (by omega) (by omega)) dX5_readNumber_13 mi_X5_isDigit st_X5_isDigit ml_X5_117 rfl rfl rfl rfl (Nat.le_of_ble_eq_true rfl) (fun v22 q23 => ?_)
        obtain ⟨bv22, cv22⟩ := q23
        refine g_if_eq 48 dX5_readNumber_16 (by decide) (fun q24 => ?_) (fun q24 => ?_)
        · skip
          refine g_aload_n dX5_readNumber_48 rfl ?_
          refine g_cVP (as := []) (c_X5_sign_65  h3 hMh3) dX5_readNumber_49 mi_X5_sign in_X5_sign se_X5_sign ml_X5_56 rfl rfl rfl sh_65 rfl rfl (Nat.le_of_ble_eq_true rfl) (fun v25 q26 => ?_)
          obtain ⟨bv25, cv25, zv25⟩ := q26
          have tv25 : v25 = v20 := by rw [zv25, zv20]
          refine g_cSP (av := [_]) (c_X5_isDigit _ h3 hMh3 (by omega) (by omega)) dX5_readNumber_52 mi_X5_isDigit st_X5_isDigit ml_X5_117 rfl rfl rfl rfl (Nat.le_of_ble_eq_true rfl) (fun v27 q28 => ?_)
          obtain ⟨bv27, cv27⟩ := q28
          refine g_if_eq 63 dX5_readNumber_55 (by decide) (fun q29 => ?_) (fun q29 => ?_)
          · skip
            refine g_aload_n dX5_readNumber_63 rfl ?_
            refine g_iconst dX5_readNumber_64 (inR_c rfl) ?_
            refine g_iload_n dX5_readNumber_65 rfl (fun _ => ?_)
            refine g_cV (as := [_, _]) (c_X2_addStep_90 _ _ h3 hMh3 (by omega) (by omega) (by omega) (by omega)) dX5_readNumber_66 mi_X2_addStep in_X2_addStep se_X2_addStep ml_X5_90 rfl rfl rfl sh_90 rfl rfl (Nat.le_of_ble_eq_true rfl) (fun v30 h31 q32 => ?_)
            obtain ⟨hMh31, hFh31, bv30, cv30⟩ := q32
            refine g_pop dX5_readNumber_69 rfl ?_
            exact g_return dX5_readNumber_70 rfl (hPo _ ⟨hMh31, (Fr.tr (Fr.sub hFh3 rfl) hFh31 rfl)⟩)
          · skip
            refine g_aload_n dX5_readNumber_58 rfl ?_
            refine g_iconst dX5_readNumber_59 (inR_c rfl) ?_
            refine g_cVV (as := [_]) (c_X5_fail_65 _ h3 hMh3 (by omega) (by omega)) dX5_readNumber_60 mi_X5_fail in_X5_fail se_X5_fail ml_X5_60 rfl rfl rfl sh_65 rfl rfl (Nat.le_of_ble_eq_true rfl) (fun h33 q34 => ?_)
            obtain ⟨hMh33, hFh33, az35, bz35⟩ := q34
            obtain ⟨v36, ev36⟩ : ∃ z, z = h33 65 3 := ⟨_, rfl⟩
            have bv36 : 1 ≤ v36 ∧ v36 ≤ 5 := by rw [ev36]; exact ⟨az35, bz35⟩
            refine g_aload_n dX5_readNumber_63 rfl ?_
            refine g_iconst dX5_readNumber_64 (inR_c rfl) ?_
            refine g_iload_n dX5_readNumber_65 rfl (fun _ => ?_)
            refine g_cV (as := [_, _]) (c_X2_addStep_90 _ _ h33 hMh33 (by omega) (by omega) (by omega) (by omega)) dX5_readNumber_66 mi_X2_addStep in_X2_addStep se_X2_addStep ml_X5_90 rfl rfl rfl sh_90 rfl rfl (Nat.le_of_ble_eq_true rfl) (fun v37 h38 q39 => ?_)
            obtain ⟨hMh38, hFh38, bv37, cv37⟩ := q39
            refine g_pop dX5_readNumber_69 rfl ?_
            exact g_return dX5_readNumber_70 rfl (hPo _ ⟨hMh38, (Fr.tr (Fr.tr (Fr.sub hFh3 rfl) hFh33 rfl) hFh38 rfl)⟩)
        · skip
          refine g_iload_n dX5_readNumber_19 rfl (fun _ => ?_)
          refine g_bipush dX5_readNumber_20 (inR_c rfl) (by decide) ?_
          refine g_imulF dX5_readNumber_22 (fun v40 bv40 cv40 => ?_)
          refine g_aload_n dX5_readNumber_23 rfl ?_
          refine g_cVP (as := []) (c_X5_sign_65  h3 hMh3) dX5_readNumber_24 mi_X5_sign in_X5_sign se_X5_sign ml_X5_56 rfl rfl rfl sh_65 rfl rfl (Nat.le_of_ble_eq_true rfl) (fun v41 q42 => ?_)
          obtain ⟨bv41, cv41, zv41⟩ := q42
          have tv41 : v41 = v20 := by rw [zv41, zv20]
          refine g_iaddF dX5_readNumber_27 (fun v43 bv43 cv43 => ?_)
          refine g_bipush dX5_readNumber_28 (inR_c rfl) (by decide) ?_
          refine g_isubF dX5_readNumber_30 (fun v44 bv44 cv44 => ?_)
          refine g_istore_n dX5_readNumber_31 (by decide) rfl ?_
          refine g_aload_n dX5_readNumber_32 rfl ?_
          refine g_dup dX5_readNumber_33 rfl ?_
          refine gI_X5_19 rfl dX5_readNumber_34 sh_65 (m_65_2 hMh3) (fun v45 ev45 bv45 cv45 => ?_)
          refine g_iconst dX5_readNumber_37 (inR_c rfl) ?_
          refine g_iaddF dX5_readNumber_38 (fun v46 bv46 cv46 => ?_)
          refine pI_X5_19 rfl dX5_readNumber_39 sh_65 (fun h47 eh47 => ?_)
          have hFh47 := Fr.st eh47
          have hMh47 := u_65_2 hMh3 eh47 (by omega) (by omega)
          refine g_iincB dX5_readNumber_42 rfl rfl (by omega) (by omega) ?_
          refine g_goto 4 dX5_readNumber_45 (by decide) ?_
          exact ih4 _ _ _ hMh47 (Fr.tr (Fr.sub hFh3 rfl) hFh47 rfl) (by omega) (by omega) (by omega) (by omega) (by omega)
  refine g_istore_n dX5_readNumber_3 (by decide) rfl ?_
  exact c4 6 _ _ _ hM Fr.rf (by omega) (by omega) (by omega) (by omega) (by omega)
set_option maxRecDepth 100000 in
set_option maxHeartbeats 4000000 in
theorem c_X5_readFactor_65_90_k6 (h : MEM) (hM : MBx h) : CV yX5_readFactor cX5_readFactor 5 (none) 6 [pR 65, pR 90, pI 6] h (fun h' => MBx h' ∧ Fr [(65, 3), (65, 4), (65, 5), (90, 2), (95, 0), (96, 0)] h h') := by
  refine CV.of (L0 := [some (pR 65), some (pR 90), some (pI 6), none, none]) rfl (Nat.le_of_ble_eq_true rfl) rfl (fun Po hPo hav => ?_)
  refine g_aload_n dX5_readFactor_0 rfl ?_
  refine g_cVP (as := []) (c_X5_sign_65  h hM) dX5_readFactor_1 mi_X5_sign in_X5_sign se_X5_sign ml_X5_56 rfl rfl rfl sh_65 rfl rfl (Nat.le_of_ble_eq_true rfl) (fun v1 q2 => ?_)
  obtain ⟨bv1, cv1, zv1⟩ := q2
  refine g_istore_n dX5_readFactor_4 (by decide) rfl ?_
  refine g_sidx_n1 rfl rfl dX5_readFactor_5 dX5_readFactor_7 dX5_readFactor_8 ml_X5_66 rfl (Nat.le_of_ble_eq_true rfl) (fun v3 bv3 cv3 => ?_)
  refine g_istore dX5_readFactor_11 (by decide) rfl ?_
  refine g_iload_n dX5_readFactor_13 rfl (fun _ => ?_)
  refine g_bipush dX5_readFactor_14 (inR_c rfl) (by decide) ?_
  refine g_icmp_ne 30 dX5_readFactor_16 (by decide) (fun q4 => ?_) (fun q4 => ?_)
  · skip
    refine g_aload_n dX5_readFactor_30 rfl ?_
    refine gI_X5_22 rfl dX5_readFactor_31 sh_65 (m_65_3 hM) (fun v5 ev5 bv5 cv5 => ?_)
    refine g_if_eq 38 dX5_readFactor_34 (by decide) (fun q6 => ?_) (fun q6 => ?_)
    · skip
      refine g_iload_n dX5_readFactor_38 rfl (fun _ => ?_)
      refine g_bipush dX5_readFactor_39 (inR_c rfl) (by decide) ?_
      refine g_icmp_ne 71 dX5_readFactor_41 (by decide) (fun q7 => ?_) (fun _ => by exfalso; omega)
      refine g_iload_n dX5_readFactor_71 rfl (fun _ => ?_)
      refine g_cSP (av := [_]) (c_X5_isDigit _ h hM (by omega) (by omega)) dX5_readFactor_72 mi_X5_isDigit st_X5_isDigit ml_X5_117 rfl rfl rfl rfl (Nat.le_of_ble_eq_true rfl) (fun v8 q9 => ?_)
      obtain ⟨bv8, cv8⟩ := q9
      refine g_if_eq 86 dX5_readFactor_75 (by decide) (fun q10 => ?_) (fun q10 => ?_)
      · skip
        refine g_iload dX5_readFactor_86 rfl (fun _ => ?_)
        refine g_if_lt 112 dX5_readFactor_88 (by decide) (fun q11 => ?_) (fun q11 => ?_)
        · skip
          refine g_aload_n dX5_readFactor_112 rfl ?_
          refine g_iconst dX5_readFactor_113 (inR_c rfl) ?_
          refine g_cVV (as := [_]) (c_X5_fail_65 _ h hM (by omega) (by omega)) dX5_readFactor_114 mi_X5_fail in_X5_fail se_X5_fail ml_X5_60 rfl rfl rfl sh_65 rfl rfl (Nat.le_of_ble_eq_true rfl) (fun h12 q13 => ?_)
          obtain ⟨hMh12, hFh12, az14, bz14⟩ := q13
          obtain ⟨v15, ev15⟩ : ∃ z, z = h12 65 3 := ⟨_, rfl⟩
          have bv15 : 1 ≤ v15 ∧ v15 ≤ 5 := by rw [ev15]; exact ⟨az14, bz14⟩
          exact g_return dX5_readFactor_117 rfl (hPo _ ⟨hMh12, (Fr.sub hFh12 rfl)⟩)
        · skip
          refine g_aload_n dX5_readFactor_91 rfl ?_
          refine g_dup dX5_readFactor_92 rfl ?_
          refine gI_X5_19 rfl dX5_readFactor_93 sh_65 (m_65_2 hM) (fun v16 ev16 bv16 cv16 => ?_)
          refine g_iconst dX5_readFactor_96 (inR_c rfl) ?_
          refine g_iaddF dX5_readFactor_97 (fun v17 bv17 cv17 => ?_)
          refine pI_X5_19 rfl dX5_readFactor_98 sh_65 (fun h18 eh18 => ?_)
          have hFh18 := Fr.st eh18
          have hMh18 := u_65_2 hM eh18 (by omega) (by omega)
          refine g_aload_n dX5_readFactor_101 rfl ?_
          refine g_iconst dX5_readFactor_102 (inR_c rfl) ?_
          refine g_iload dX5_readFactor_103 rfl (fun _ => ?_)
          refine g_cV (as := [_, _]) (c_X2_addStep_90 _ _ h18 hMh18 (by omega) (by omega) (by omega) (by omega)) dX5_readFactor_105 mi_X2_addStep in_X2_addStep se_X2_addStep ml_X5_90 rfl rfl rfl sh_90 rfl rfl (Nat.le_of_ble_eq_true rfl) (fun v19 h20 q21 => ?_)
          obtain ⟨hMh20, hFh20, bv19, cv19⟩ := q21
          refine g_pop dX5_readFactor_108 rfl ?_
          refine g_goto 117 dX5_readFactor_109 (by decide) ?_
          exact g_return dX5_readFactor_117 rfl (hPo _ ⟨hMh20, (Fr.tr (Fr.sub hFh18 rfl) hFh20 rfl)⟩)
      · skip
        refine g_aload_n dX5_readFactor_78 rfl ?_
        refine g_aload_n dX5_readFactor_79 rfl ?_
        refine g_cVV (as := [_]) (c_X5_readNumber_65_90  h hM) dX5_readFactor_80 mi_X5_readNumber in_X5_readNumber se_X5_readNumber ml_X5_120 rfl rfl rfl sh_65 rfl rfl (Nat.le_of_ble_eq_true rfl) (fun h22 q23 => ?_)
        obtain ⟨hMh22, hFh22⟩ := q23
        refine g_goto 117 dX5_readFactor_83 (by decide) ?_
        exact g_return dX5_readFactor_117 rfl (hPo _ ⟨hMh22, (Fr.sub hFh22 rfl)⟩)
    · skip
      exact g_return dX5_readFactor_37 rfl (hPo _ ⟨hM, Fr.rf⟩)
  · skip
    refine g_iload_n dX5_readFactor_19 rfl (fun _ => ?_)
    refine g_bipush dX5_readFactor_20 (inR_c rfl) (by decide) ?_
    refine g_icmp_lt 30 dX5_readFactor_22 (by decide) (fun _ => by exfalso; omega) (fun q24 => ?_)
    refine g_aload_n dX5_readFactor_25 rfl ?_
    refine g_iconst dX5_readFactor_26 (inR_c rfl) ?_
    refine g_cVV (as := [_]) (c_X5_fail_65 _ h hM (by omega) (by omega)) dX5_readFactor_27 mi_X5_fail in_X5_fail se_X5_fail ml_X5_60 rfl rfl rfl sh_65 rfl rfl (Nat.le_of_ble_eq_true rfl) (fun h25 q26 => ?_)
    obtain ⟨hMh25, hFh25, az27, bz27⟩ := q26
    obtain ⟨v28, ev28⟩ : ∃ z, z = h25 65 3 := ⟨_, rfl⟩
    have bv28 : 1 ≤ v28 ∧ v28 ≤ 5 := by rw [ev28]; exact ⟨az27, bz27⟩
    refine g_aload_n dX5_readFactor_30 rfl ?_
    refine gE_X5_22 rfl dX5_readFactor_31 sh_65 ev28.symm ?_
    refine g_if_eq 38 dX5_readFactor_34 (by decide) (fun _ => by exfalso; omega) (fun q29 => ?_)
    exact g_return dX5_readFactor_37 rfl (hPo _ ⟨hMh25, (Fr.sub hFh25 rfl)⟩)
set_option maxRecDepth 100000 in
set_option maxHeartbeats 4000000 in
theorem c_X5_isTermSign (x1 : Int) (h : MEM) (hM : MBx h) (bx1 : 0 ≤ x1) (dx1 : x1 ≤ 255) : CP yX5_isTermSign cX5_isTermSign 1 (some .boolean) 1 [pI x1] h (fun x => 0 ≤ x ∧ x ≤ 1) := by
  refine CP.of (L0 := [some (pI x1)]) rfl (Nat.le_of_ble_eq_true rfl) rfl (fun Po hPo hav => ?_)
  refine g_iload_n dX5_isTermSign_0 rfl (fun _ => ?_)
  refine g_bipush dX5_isTermSign_1 (inR_c rfl) (by decide) ?_
  refine g_icmp_eq 18 dX5_isTermSign_3 (by decide) (fun q1 => ?_) (fun q1 => ?_)
  · skip
    refine g_iconst dX5_isTermSign_18 (inR_c rfl) ?_
    refine g_goto 23 dX5_isTermSign_19 (by decide) ?_
    exact g_ireturn dX5_isTermSign_23 (retZ (by omega)) (hPo _ ⟨(by omega), (by omega)⟩)
  · skip
    refine g_iload_n dX5_isTermSign_6 rfl (fun _ => ?_)
    refine g_bipush dX5_isTermSign_7 (inR_c rfl) (by decide) ?_
    refine g_icmp_eq 18 dX5_isTermSign_9 (by decide) (fun q2 => ?_) (fun q2 => ?_)
    · skip
      refine g_iconst dX5_isTermSign_18 (inR_c rfl) ?_
      refine g_goto 23 dX5_isTermSign_19 (by decide) ?_
      exact g_ireturn dX5_isTermSign_23 (retZ (by omega)) (hPo _ ⟨(by omega), (by omega)⟩)
    · skip
      refine g_iload_n dX5_isTermSign_12 rfl (fun _ => ?_)
      refine g_bipush dX5_isTermSign_13 (inR_c rfl) (by decide) ?_
      refine g_icmp_ne 22 dX5_isTermSign_15 (by decide) (fun q3 => ?_) (fun q3 => ?_)
      · skip
        refine g_iconst dX5_isTermSign_22 (inR_c rfl) ?_
        exact g_ireturn dX5_isTermSign_23 (retZ (by omega)) (hPo _ ⟨(by omega), (by omega)⟩)
      · skip
        refine g_iconst dX5_isTermSign_18 (inR_c rfl) ?_
        refine g_goto 23 dX5_isTermSign_19 (by decide) ?_
        exact g_ireturn dX5_isTermSign_23 (retZ (by omega)) (hPo _ ⟨(by omega), (by omega)⟩)
set_option maxRecDepth 100000 in
set_option maxHeartbeats 4000000 in
theorem c_X5_readTerm_65_90_k6 (h : MEM) (hM : MBx h) : CV yX5_readTerm cX5_readTerm 5 (none) 7 [pR 65, pR 90, pI 6] h (fun h' => MBx h' ∧ Fr [(65, 3), (65, 4), (65, 5), (90, 2), (95, 0), (96, 0)] h h') := by
  refine CV.of (L0 := [some (pR 65), some (pR 90), some (pI 6), none, none]) rfl (Nat.le_of_ble_eq_true rfl) rfl (fun Po hPo hav => ?_)
  refine g_aload_n dX5_readTerm_0 rfl ?_
  refine g_aload_n dX5_readTerm_1 rfl ?_
  refine g_iload_n dX5_readTerm_2 rfl (fun _ => ?_)
  refine g_cVV (as := [_, _]) (c_X5_readFactor_65_90_k6  h hM) dX5_readTerm_3 mi_X5_readFactor in_X5_readFactor se_X5_readFactor ml_X5_108 rfl rfl rfl sh_65 rfl rfl (Nat.le_of_ble_eq_true rfl) (fun h1 q2 => ?_)
  obtain ⟨hMh1, hFh1⟩ := q2
  refine g_iconst dX5_readTerm_6 (inR_c rfl) ?_
  have c8 : ∀ (n : Nat) (y3 : Int) (h4 : MEM), MBx h4 → Fr [(65, 3), (65, 4), (65, 5), (90, 2), (95, 0), (96, 0)] h1 h4 → 0 ≤ y3 → y3 ≤ 200 → 200 - y3 < (n : Int) → G yX5_readTerm cX5_readTerm 5 (none) none Po (7, 420, 0, 0) 8 [some (pR 65), some (pR 90), some (pI 6), some (pI y3), none] [] SH h4 0 0 := by
    intro n
    induction n with
    | zero =>
      intro y3 h4 hMh4 hFh4 by3 dy3 hn
      exfalso; omega
    | succ n ih8 =>
      intro y3 h4 hMh4 hFh4 by3 dy3 hn
      refine g_iload_n dX5_readTerm_8 rfl (fun _ => ?_)
      refine g_sipush dX5_readTerm_9 (inR_c rfl) (by decide) ?_
      refine g_icmp_ge 68 dX5_readTerm_12 (by decide) (fun q5 => ?_) (fun q5 => ?_)
      · skip
        exact g_return dX5_readTerm_68 rfl (hPo _ ⟨hMh4, (Fr.tr (Fr.sub hFh1 rfl) hFh4 rfl)⟩)
      · skip
        refine g_aload_n dX5_readTerm_15 rfl ?_
        refine gI_X5_22 rfl dX5_readTerm_16 sh_65 (m_65_3 hMh4) (fun v6 ev6 bv6 cv6 => ?_)
        refine g_if_ne 68 dX5_readTerm_19 (by decide) (fun q7 => ?_) (fun q7 => ?_)
        · skip
          exact g_return dX5_readTerm_68 rfl (hPo _ ⟨hMh4, (Fr.tr (Fr.sub hFh1 rfl) hFh4 rfl)⟩)
        · skip
          refine g_aload_n dX5_readTerm_22 rfl ?_
          refine g_cVP (as := []) (c_X5_sign_65  h4 hMh4) dX5_readTerm_23 mi_X5_sign in_X5_sign se_X5_sign ml_X5_56 rfl rfl rfl sh_65 rfl rfl (Nat.le_of_ble_eq_true rfl) (fun v8 q9 => ?_)
          obtain ⟨bv8, cv8, zv8⟩ := q9
          refine g_cSP (av := [_]) (c_X5_isTermSign _ h4 hMh4 (by omega) (by omega)) dX5_readTerm_26 mi_X5_isTermSign st_X5_isTermSign ml_X5_111 rfl rfl rfl rfl (Nat.le_of_ble_eq_true rfl) (fun v10 q11 => ?_)
          obtain ⟨bv10, cv10⟩ := q11
          refine g_if_eq 68 dX5_readTerm_29 (by decide) (fun q12 => ?_) (fun q12 => ?_)
          · skip
            exact g_return dX5_readTerm_68 rfl (hPo _ ⟨hMh4, (Fr.tr (Fr.sub hFh1 rfl) hFh4 rfl)⟩)
          · skip
            refine g_aload_n dX5_readTerm_32 rfl ?_
            refine g_cVP (as := []) (c_X5_sign_65  h4 hMh4) dX5_readTerm_33 mi_X5_sign in_X5_sign se_X5_sign ml_X5_56 rfl rfl rfl sh_65 rfl rfl (Nat.le_of_ble_eq_true rfl) (fun v13 q14 => ?_)
            obtain ⟨bv13, cv13, zv13⟩ := q14
            have tv13 : v13 = v8 := by rw [zv13, zv8]
            refine g_istore dX5_readTerm_36 (by decide) rfl ?_
            refine g_aload_n dX5_readTerm_38 rfl ?_
            refine g_dup dX5_readTerm_39 rfl ?_
            refine gI_X5_19 rfl dX5_readTerm_40 sh_65 (m_65_2 hMh4) (fun v15 ev15 bv15 cv15 => ?_)
            refine g_iconst dX5_readTerm_43 (inR_c rfl) ?_
            refine g_iaddF dX5_readTerm_44 (fun v16 bv16 cv16 => ?_)
            refine pI_X5_19 rfl dX5_readTerm_45 sh_65 (fun h17 eh17 => ?_)
            have hFh17 := Fr.st eh17
            have hMh17 := u_65_2 hMh4 eh17 (by omega) (by omega)
            refine g_aload_n dX5_readTerm_48 rfl ?_
            refine g_aload_n dX5_readTerm_49 rfl ?_
            refine g_iload_n dX5_readTerm_50 rfl (fun _ => ?_)
            refine g_cVV (as := [_, _]) (c_X5_readFactor_65_90_k6  h17 hMh17) dX5_readTerm_51 mi_X5_readFactor in_X5_readFactor se_X5_readFactor ml_X5_108 rfl rfl rfl sh_65 rfl rfl (Nat.le_of_ble_eq_true rfl) (fun h18 q19 => ?_)
            obtain ⟨hMh18, hFh18⟩ := q19
            refine g_aload_n dX5_readTerm_54 rfl ?_
            refine g_iload dX5_readTerm_55 rfl (fun _ => ?_)
            refine g_iconst dX5_readTerm_57 (inR_c rfl) ?_
            refine g_cV (as := [_, _]) (c_X2_addStep_90 _ _ h18 hMh18 (by omega) (by omega) (by omega) (by omega)) dX5_readTerm_58 mi_X2_addStep in_X2_addStep se_X2_addStep ml_X5_90 rfl rfl rfl sh_90 rfl rfl (Nat.le_of_ble_eq_true rfl) (fun v20 h21 q22 => ?_)
            obtain ⟨hMh21, hFh21, bv20, cv20⟩ := q22
            refine g_pop dX5_readTerm_61 rfl ?_
            refine g_iincB dX5_readTerm_62 rfl rfl (by omega) (by omega) ?_
            refine g_goto 8 dX5_readTerm_65 (by decide) ?_
            refine g_drop 4 ?_
            exact ih8 _ _ hMh21 (Fr.tr (Fr.tr (Fr.tr (Fr.sub hFh4 rfl) hFh17 rfl) hFh18 rfl) hFh21 rfl) (by omega) (by omega) (by omega)
  refine g_istore_n dX5_readTerm_7 (by decide) rfl ?_
  exact c8 201 _ _ hMh1 Fr.rf (by omega) (by omega) (by omega)
set_option maxRecDepth 100000 in
set_option maxHeartbeats 4000000 in
theorem c_X5_readSum_65_90_k6 (h : MEM) (hM : MBx h) : CV yX5_readSum cX5_readSum 5 (none) 8 [pR 65, pR 90, pI 6] h (fun h' => MBx h' ∧ Fr [(65, 3), (65, 4), (65, 5), (90, 2), (95, 0), (96, 0)] h h') := by
  refine CV.of (L0 := [some (pR 65), some (pR 90), some (pI 6), none, none]) rfl (Nat.le_of_ble_eq_true rfl) rfl (fun Po hPo hav => ?_)
  refine g_aload_n dX5_readSum_0 rfl ?_
  refine g_aload_n dX5_readSum_1 rfl ?_
  refine g_iload_n dX5_readSum_2 rfl (fun _ => ?_)
  refine g_cVV (as := [_, _]) (c_X5_readTerm_65_90_k6  h hM) dX5_readSum_3 mi_X5_readTerm in_X5_readTerm se_X5_readTerm ml_X5_105 rfl rfl rfl sh_65 rfl rfl (Nat.le_of_ble_eq_true rfl) (fun h1 q2 => ?_)
  obtain ⟨hMh1, hFh1⟩ := q2
  refine g_iconst dX5_readSum_6 (inR_c rfl) ?_
  have c8 : ∀ (n : Nat) (y3 : Int) (h4 : MEM), MBx h4 → Fr [(65, 3), (65, 4), (65, 5), (90, 2), (95, 0), (96, 0)] h1 h4 → 0 ≤ y3 → y3 ≤ 200 → 200 - y3 < (n : Int) → G yX5_readSum cX5_readSum 5 (none) none Po (8, 480, 0, 0) 8 [some (pR 65), some (pR 90), some (pI 6), some (pI y3), none] [] SH h4 0 0 := by
    intro n
    induction n with
    | zero =>
      intro y3 h4 hMh4 hFh4 by3 dy3 hn
      exfalso; omega
    | succ n ih8 =>
      intro y3 h4 hMh4 hFh4 by3 dy3 hn
      refine g_iload_n dX5_readSum_8 rfl (fun _ => ?_)
      refine g_sipush dX5_readSum_9 (inR_c rfl) (by decide) ?_
      refine g_icmp_ge 76 dX5_readSum_12 (by decide) (fun q5 => ?_) (fun q5 => ?_)
      · skip
        exact g_return dX5_readSum_76 rfl (hPo _ ⟨hMh4, (Fr.tr (Fr.sub hFh1 rfl) hFh4 rfl)⟩)
      · skip
        refine g_aload_n dX5_readSum_15 rfl ?_
        refine gI_X5_22 rfl dX5_readSum_16 sh_65 (m_65_3 hMh4) (fun v6 ev6 bv6 cv6 => ?_)
        refine g_if_ne 76 dX5_readSum_19 (by decide) (fun q7 => ?_) (fun q7 => ?_)
        · skip
          exact g_return dX5_readSum_76 rfl (hPo _ ⟨hMh4, (Fr.tr (Fr.sub hFh1 rfl) hFh4 rfl)⟩)
        · skip
          refine g_aload_n dX5_readSum_22 rfl ?_
          refine g_cVP (as := []) (c_X5_sign_65  h4 hMh4) dX5_readSum_23 mi_X5_sign in_X5_sign se_X5_sign ml_X5_56 rfl rfl rfl sh_65 rfl rfl (Nat.le_of_ble_eq_true rfl) (fun v8 q9 => ?_)
          obtain ⟨bv8, cv8, zv8⟩ := q9
          refine g_bipush dX5_readSum_26 (inR_c rfl) (by decide) ?_
          have c40 : G yX5_readSum cX5_readSum 5 (none) none Po (8, 480, 0, 0) 40 [some (pR 65), some (pR 90), some (pI 6), some (pI y3), none] [] SH h4 0 0 := by
            refine g_aload_n dX5_readSum_40 rfl ?_
            refine g_cVP (as := []) (c_X5_sign_65  h4 hMh4) dX5_readSum_41 mi_X5_sign in_X5_sign se_X5_sign ml_X5_56 rfl rfl rfl sh_65 rfl rfl (Nat.le_of_ble_eq_true rfl) (fun v10 q11 => ?_)
            obtain ⟨bv10, cv10, zv10⟩ := q11
            have tv10 : v10 = v8 := by rw [zv10, zv8]
            refine g_istore dX5_readSum_44 (by decide) rfl ?_
            refine g_aload_n dX5_readSum_46 rfl ?_
            refine g_dup dX5_readSum_47 rfl ?_
            refine gI_X5_19 rfl dX5_readSum_48 sh_65 (m_65_2 hMh4) (fun v12 ev12 bv12 cv12 => ?_)
            refine g_iconst dX5_readSum_51 (inR_c rfl) ?_
            refine g_iaddF dX5_readSum_52 (fun v13 bv13 cv13 => ?_)
            refine pI_X5_19 rfl dX5_readSum_53 sh_65 (fun h14 eh14 => ?_)
            have hFh14 := Fr.st eh14
            have hMh14 := u_65_2 hMh4 eh14 (by omega) (by omega)
            refine g_aload_n dX5_readSum_56 rfl ?_
            refine g_aload_n dX5_readSum_57 rfl ?_
            refine g_iload_n dX5_readSum_58 rfl (fun _ => ?_)
            refine g_cVV (as := [_, _]) (c_X5_readTerm_65_90_k6  h14 hMh14) dX5_readSum_59 mi_X5_readTerm in_X5_readTerm se_X5_readTerm ml_X5_105 rfl rfl rfl sh_65 rfl rfl (Nat.le_of_ble_eq_true rfl) (fun h15 q16 => ?_)
            obtain ⟨hMh15, hFh15⟩ := q16
            refine g_aload_n dX5_readSum_62 rfl ?_
            refine g_iload dX5_readSum_63 rfl (fun _ => ?_)
            refine g_iconst dX5_readSum_65 (inR_c rfl) ?_
            refine g_cV (as := [_, _]) (c_X2_addStep_90 _ _ h15 hMh15 (by omega) (by omega) (by omega) (by omega)) dX5_readSum_66 mi_X2_addStep in_X2_addStep se_X2_addStep ml_X5_90 rfl rfl rfl sh_90 rfl rfl (Nat.le_of_ble_eq_true rfl) (fun v17 h18 q19 => ?_)
            obtain ⟨hMh18, hFh18, bv17, cv17⟩ := q19
            refine g_pop dX5_readSum_69 rfl ?_
            refine g_iincB dX5_readSum_70 rfl rfl (by omega) (by omega) ?_
            refine g_goto 8 dX5_readSum_73 (by decide) ?_
            refine g_drop 4 ?_
            exact ih8 _ _ hMh18 (Fr.tr (Fr.tr (Fr.tr (Fr.sub hFh4 rfl) hFh14 rfl) hFh15 rfl) hFh18 rfl) (by omega) (by omega) (by omega)
          refine g_icmp_eq 40 dX5_readSum_28 (by decide) (fun q20 => ?_) (fun q20 => ?_)
          · skip
            exact c40 
          · skip
            refine g_aload_n dX5_readSum_31 rfl ?_
            refine g_cVP (as := []) (c_X5_sign_65  h4 hMh4) dX5_readSum_32 mi_X5_sign in_X5_sign se_X5_sign ml_X5_56 rfl rfl rfl sh_65 rfl rfl (Nat.le_of_ble_eq_true rfl) (fun v21 q22 => ?_)
            obtain ⟨bv21, cv21, zv21⟩ := q22
            have tv21 : v21 = v8 := by rw [zv21, zv8]
            refine g_bipush dX5_readSum_35 (inR_c rfl) (by decide) ?_
            refine g_icmp_ne 76 dX5_readSum_37 (by decide) (fun q23 => ?_) (fun q23 => ?_)
            · skip
              exact g_return dX5_readSum_76 rfl (hPo _ ⟨hMh4, (Fr.tr (Fr.sub hFh1 rfl) hFh4 rfl)⟩)
            · skip
              exact c40 
  refine g_istore_n dX5_readSum_7 (by decide) rfl ?_
  exact c8 201 _ _ hMh1 Fr.rf (by omega) (by omega) (by omega)
set_option maxRecDepth 100000 in
set_option maxHeartbeats 4000000 in
theorem c_X5_expect_65 (x1 : Int) (h : MEM) (hM : MBx h) (bx1 : 40 ≤ x1) (dx1 : x1 ≤ 93) : CV yX5_expect cX5_expect 2 (none) 2 [pR 65, pI x1] h (fun h' => MBx h' ∧ Fr [(65, 3), (65, 4), (65, 5)] h h') := by
  refine CV.of (L0 := [some (pR 65), some (pI x1)]) rfl (Nat.le_of_ble_eq_true rfl) rfl (fun Po hPo hav => ?_)
  refine g_aload_n dX5_expect_0 rfl ?_
  refine gI_X5_22 rfl dX5_expect_1 sh_65 (m_65_3 hM) (fun v1 ev1 bv1 cv1 => ?_)
  refine g_if_ne 28 dX5_expect_4 (by decide) (fun q2 => ?_) (fun q2 => ?_)
  · skip
    refine g_aload_n dX5_expect_28 rfl ?_
    refine g_iconst dX5_expect_29 (inR_c rfl) ?_
    refine g_cVV (as := [_]) (c_X5_fail_65 _ h hM (by omega) (by omega)) dX5_expect_30 mi_X5_fail in_X5_fail se_X5_fail ml_X5_60 rfl rfl rfl sh_65 rfl rfl (Nat.le_of_ble_eq_true rfl) (fun h3 q4 => ?_)
    obtain ⟨hMh3, hFh3, az5, bz5⟩ := q4
    obtain ⟨v6, ev6⟩ : ∃ z, z = h3 65 3 := ⟨_, rfl⟩
    have bv6 : 1 ≤ v6 ∧ v6 ≤ 5 := by rw [ev6]; exact ⟨az5, bz5⟩
    exact g_return dX5_expect_33 rfl (hPo _ ⟨hMh3, (Fr.sub hFh3 rfl)⟩)
  · skip
    refine g_aload_n dX5_expect_7 rfl ?_
    refine g_cVP (as := []) (c_X5_sign_65  h hM) dX5_expect_8 mi_X5_sign in_X5_sign se_X5_sign ml_X5_56 rfl rfl rfl sh_65 rfl rfl (Nat.le_of_ble_eq_true rfl) (fun v7 q8 => ?_)
    obtain ⟨bv7, cv7, zv7⟩ := q8
    refine g_iload_n dX5_expect_11 rfl (fun _ => ?_)
    refine g_icmp_ne 28 dX5_expect_12 (by decide) (fun q9 => ?_) (fun q9 => ?_)
    · skip
      refine g_aload_n dX5_expect_28 rfl ?_
      refine g_iconst dX5_expect_29 (inR_c rfl) ?_
      refine g_cVV (as := [_]) (c_X5_fail_65 _ h hM (by omega) (by omega)) dX5_expect_30 mi_X5_fail in_X5_fail se_X5_fail ml_X5_60 rfl rfl rfl sh_65 rfl rfl (Nat.le_of_ble_eq_true rfl) (fun h10 q11 => ?_)
      obtain ⟨hMh10, hFh10, az12, bz12⟩ := q11
      obtain ⟨v13, ev13⟩ : ∃ z, z = h10 65 3 := ⟨_, rfl⟩
      have bv13 : 1 ≤ v13 ∧ v13 ≤ 5 := by rw [ev13]; exact ⟨az12, bz12⟩
      exact g_return dX5_expect_33 rfl (hPo _ ⟨hMh10, (Fr.sub hFh10 rfl)⟩)
    · skip
      refine g_aload_n dX5_expect_15 rfl ?_
      refine g_dup dX5_expect_16 rfl ?_
      refine gI_X5_19 rfl dX5_expect_17 sh_65 (m_65_2 hM) (fun v14 ev14 bv14 cv14 => ?_)
      refine g_iconst dX5_expect_20 (inR_c rfl) ?_
      refine g_iaddF dX5_expect_21 (fun v15 bv15 cv15 => ?_)
      refine pI_X5_19 rfl dX5_expect_22 sh_65 (fun h16 eh16 => ?_)
      have hFh16 := Fr.st eh16
      have hMh16 := u_65_2 hM eh16 (by omega) (by omega)
      refine g_goto 33 dX5_expect_25 (by decide) ?_
      exact g_return dX5_expect_33 rfl (hPo _ ⟨hMh16, (Fr.sub hFh16 rfl)⟩)
set_option maxRecDepth 100000 in
set_option maxHeartbeats 4000000 in
theorem c_X5_readFactor_65_90_k5 (h : MEM) (hM : MBx h) : CV yX5_readFactor cX5_readFactor 5 (none) 9 [pR 65, pR 90, pI 5] h (fun h' => MBx h' ∧ Fr [(65, 3), (65, 4), (65, 5), (90, 2), (95, 0), (96, 0)] h h') := by
  refine CV.of (L0 := [some (pR 65), some (pR 90), some (pI 5), none, none]) rfl (Nat.le_of_ble_eq_true rfl) rfl (fun Po hPo hav => ?_)
  refine g_aload_n dX5_readFactor_0 rfl ?_
  refine g_cVP (as := []) (c_X5_sign_65  h hM) dX5_readFactor_1 mi_X5_sign in_X5_sign se_X5_sign ml_X5_56 rfl rfl rfl sh_65 rfl rfl (Nat.le_of_ble_eq_true rfl) (fun v1 q2 => ?_)
  obtain ⟨bv1, cv1, zv1⟩ := q2
  refine g_istore_n dX5_readFactor_4 (by decide) rfl ?_
  refine g_sidx_n1 rfl rfl dX5_readFactor_5 dX5_readFactor_7 dX5_readFactor_8 ml_X5_66 rfl (Nat.le_of_ble_eq_true rfl) (fun v3 bv3 cv3 => ?_)
  refine g_istore dX5_readFactor_11 (by decide) rfl ?_
  refine g_iload_n dX5_readFactor_13 rfl (fun _ => ?_)
  refine g_bipush dX5_readFactor_14 (inR_c rfl) (by decide) ?_
  refine g_icmp_ne 30 dX5_readFactor_16 (by decide) (fun q4 => ?_) (fun q4 => ?_)
  · skip
    refine g_aload_n dX5_readFactor_30 rfl ?_
    refine gI_X5_22 rfl dX5_readFactor_31 sh_65 (m_65_3 hM) (fun v5 ev5 bv5 cv5 => ?_)
    refine g_if_eq 38 dX5_readFactor_34 (by decide) (fun q6 => ?_) (fun q6 => ?_)
    · skip
      refine g_iload_n dX5_readFactor_38 rfl (fun _ => ?_)
      refine g_bipush dX5_readFactor_39 (inR_c rfl) (by decide) ?_
      refine g_icmp_ne 71 dX5_readFactor_41 (by decide) (fun q7 => ?_) (fun _ => by exfalso; omega)
      refine g_iload_n dX5_readFactor_71 rfl (fun _ => ?_)
      refine g_cSP (av := [_]) (c_X5_isDigit _ h hM (by omega) (by omega)) dX5_readFactor_72 mi_X5_isDigit st_X5_isDigit ml_X5_117 rfl rfl rfl rfl (Nat.le_of_ble_eq_true rfl) (fun v8 q9 => ?_)
      obtain ⟨bv8, cv8⟩ := q9
      refine g_if_eq 86 dX5_readFactor_75 (by decide) (fun q10 => ?_) (fun q10 => ?_)
      · skip
        refine g_iload dX5_readFactor_86 rfl (fun _ => ?_)
        refine g_if_lt 112 dX5_readFactor_88 (by decide) (fun q11 => ?_) (fun q11 => ?_)
        · skip
          refine g_aload_n dX5_readFactor_112 rfl ?_
          refine g_iconst dX5_readFactor_113 (inR_c rfl) ?_
          refine g_cVV (as := [_]) (c_X5_fail_65 _ h hM (by omega) (by omega)) dX5_readFactor_114 mi_X5_fail in_X5_fail se_X5_fail ml_X5_60 rfl rfl rfl sh_65 rfl rfl (Nat.le_of_ble_eq_true rfl) (fun h12 q13 => ?_)
          obtain ⟨hMh12, hFh12, az14, bz14⟩ := q13
          obtain ⟨v15, ev15⟩ : ∃ z, z = h12 65 3 := ⟨_, rfl⟩
          have bv15 : 1 ≤ v15 ∧ v15 ≤ 5 := by rw [ev15]; exact ⟨az14, bz14⟩
          exact g_return dX5_readFactor_117 rfl (hPo _ ⟨hMh12, (Fr.sub hFh12 rfl)⟩)
        · skip
          refine g_aload_n dX5_readFactor_91 rfl ?_
          refine g_dup dX5_readFactor_92 rfl ?_
          refine gI_X5_19 rfl dX5_readFactor_93 sh_65 (m_65_2 hM) (fun v16 ev16 bv16 cv16 => ?_)
          refine g_iconst dX5_readFactor_96 (inR_c rfl) ?_
          refine g_iaddF dX5_readFactor_97 (fun v17 bv17 cv17 => ?_)
          refine pI_X5_19 rfl dX5_readFactor_98 sh_65 (fun h18 eh18 => ?_)
          have hFh18 := Fr.st eh18
          have hMh18 := u_65_2 hM eh18 (by omega) (by omega)
          refine g_aload_n dX5_readFactor_101 rfl ?_
          refine g_iconst dX5_readFactor_102 (inR_c rfl) ?_
          refine g_iload dX5_readFactor_103 rfl (fun _ => ?_)
          refine g_cV (as := [_, _]) (c_X2_addStep_90 _ _ h18 hMh18 (by omega) (by omega) (by omega) (by omega)) dX5_readFactor_105 mi_X2_addStep in_X2_addStep se_X2_addStep ml_X5_90 rfl rfl rfl sh_90 rfl rfl (Nat.le_of_ble_eq_true rfl) (fun v19 h20 q21 => ?_)
          obtain ⟨hMh20, hFh20, bv19, cv19⟩ := q21
          refine g_pop dX5_readFactor_108 rfl ?_
          refine g_goto 117 dX5_readFactor_109 (by decide) ?_
          exact g_return dX5_readFactor_117 rfl (hPo _ ⟨hMh20, (Fr.tr (Fr.sub hFh18 rfl) hFh20 rfl)⟩)
      · skip
        refine g_aload_n dX5_readFactor_78 rfl ?_
        refine g_aload_n dX5_readFactor_79 rfl ?_
        refine g_cVV (as := [_]) (c_X5_readNumber_65_90  h hM) dX5_readFactor_80 mi_X5_readNumber in_X5_readNumber se_X5_readNumber ml_X5_120 rfl rfl rfl sh_65 rfl rfl (Nat.le_of_ble_eq_true rfl) (fun h22 q23 => ?_)
        obtain ⟨hMh22, hFh22⟩ := q23
        refine g_goto 117 dX5_readFactor_83 (by decide) ?_
        exact g_return dX5_readFactor_117 rfl (hPo _ ⟨hMh22, (Fr.sub hFh22 rfl)⟩)
    · skip
      exact g_return dX5_readFactor_37 rfl (hPo _ ⟨hM, Fr.rf⟩)
  · skip
    refine g_iload_n dX5_readFactor_19 rfl (fun _ => ?_)
    refine g_bipush dX5_readFactor_20 (inR_c rfl) (by decide) ?_
    refine g_icmp_lt 30 dX5_readFactor_22 (by decide) (fun q24 => ?_) (fun _ => by exfalso; omega)
    refine g_aload_n dX5_readFactor_30 rfl ?_
    refine gI_X5_22 rfl dX5_readFactor_31 sh_65 (m_65_3 hM) (fun v25 ev25 bv25 cv25 => ?_)
    refine g_if_eq 38 dX5_readFactor_34 (by decide) (fun q26 => ?_) (fun q26 => ?_)
    · skip
      refine g_iload_n dX5_readFactor_38 rfl (fun _ => ?_)
      refine g_bipush dX5_readFactor_39 (inR_c rfl) (by decide) ?_
      refine g_icmp_ne 71 dX5_readFactor_41 (by decide) (fun _ => by exfalso; omega) (fun q27 => ?_)
      refine g_aload_n dX5_readFactor_44 rfl ?_
      refine g_dup dX5_readFactor_45 rfl ?_
      refine gI_X5_19 rfl dX5_readFactor_46 sh_65 (m_65_2 hM) (fun v28 ev28 bv28 cv28 => ?_)
      refine g_iconst dX5_readFactor_49 (inR_c rfl) ?_
      refine g_iaddF dX5_readFactor_50 (fun v29 bv29 cv29 => ?_)
      refine pI_X5_19 rfl dX5_readFactor_51 sh_65 (fun h30 eh30 => ?_)
      have hFh30 := Fr.st eh30
      have hMh30 := u_65_2 hM eh30 (by omega) (by omega)
      refine g_aload_n dX5_readFactor_54 rfl ?_
      refine g_aload_n dX5_readFactor_55 rfl ?_
      refine g_iload_n dX5_readFactor_56 rfl (fun _ => ?_)
      refine g_iconst dX5_readFactor_57 (inR_c rfl) ?_
      refine g_iaddB dX5_readFactor_58 (by omega) (by omega) ?_
      refine g_cVV (as := [_, _]) (c_X5_readSum_65_90_k6  h30 hMh30) dX5_readFactor_59 mi_X5_readSum in_X5_readSum se_X5_readSum ml_X5_74 rfl rfl rfl sh_65 rfl rfl (Nat.le_of_ble_eq_true rfl) (fun h31 q32 => ?_)
      obtain ⟨hMh31, hFh31⟩ := q32
      refine g_aload_n dX5_readFactor_62 rfl ?_
      refine g_bipush dX5_readFactor_63 (inR_c rfl) (by decide) ?_
      refine g_cVV (as := [_]) (c_X5_expect_65 _ h31 hMh31 (by omega) (by omega)) dX5_readFactor_65 mi_X5_expect in_X5_expect se_X5_expect ml_X5_52 rfl rfl rfl sh_65 rfl rfl (Nat.le_of_ble_eq_true rfl) (fun h33 q34 => ?_)
      obtain ⟨hMh33, hFh33⟩ := q34
      refine g_goto 117 dX5_readFactor_68 (by decide) ?_
      exact g_return dX5_readFactor_117 rfl (hPo _ ⟨hMh33, (Fr.tr (Fr.tr (Fr.sub hFh30 rfl) hFh31 rfl) hFh33 rfl)⟩)
    · skip
      exact g_return dX5_readFactor_37 rfl (hPo _ ⟨hM, Fr.rf⟩)
