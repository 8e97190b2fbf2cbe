set_option maxRecDepth 100000 in
set_option maxHeartbeats 4000000 in
theorem c_X11_owes_0 (x1 x2 x3 : Int) (h : MEM) (hM : MBx h) (bx1 : -2147483648 ≤ x1) (dx1 : x1 ≤ 2147483647) (bx2 : -2147483648 ≤ x2) (dx2 : x2 ≤ 2147483647) (bx3 : -2147483648 ≤ x3) (dx3 : x3 ≤ 2147483647) : CP yX11_owes cX11_owes 5 (some .int) 2 [pR 0, pI x1, pI x2, pI x3] h (fun x => x = -1) := by
  refine CP.of (L0 := [some (pR 0), some (pI x1), some (pI x2), some (pI x3), none]) rfl (Nat.le_of_ble_eq_true rfl) rfl (fun Po hPo hav => ?_)
  refine g_aload_n dX11_owes_0 rfl ?_
  refine gR_X11_10 rfl dX11_owes_1 sh_0 (b := 1) (m_0_0 hM) ?_
  refine gR_X11_95 rfl dX11_owes_4 sh_1 (b := 6) (m_1_1 hM) ?_
  refine g_iload_n dX11_owes_7 rfl (fun _ => ?_)
  refine g_cVP (as := [_]) (c_X0_has_6 _ h hM (by omega) (by omega)) dX11_owes_8 mi_X0_has in_X0_has se_X0_has ml_X11_113 rfl rfl rfl sh_6 rfl rfl (Nat.le_of_ble_eq_true rfl) (fun v1 q2 => ?_)
  obtain ⟨v3, ev3⟩ : ∃ z, z = h 6 0 := ⟨_, rfl⟩
  have bv3 : 0 ≤ v3 ∧ v3 ≤ 0 := by rw [ev3]; exact (m_6_0 hM)
  rcases q2 with ⟨rfl, q2⟩ | ⟨rfl, q2⟩
  · skip
    exfalso; omega
  · skip
    refine g_if_eq 37 dX11_owes_11 (by decide) (fun q4 => ?_) (fun _ => by exfalso; omega)
    refine g_iconst dX11_owes_37 (inR_c rfl) ?_
    exact g_ireturn dX11_owes_38 retI (hPo _ (by omega))
set_option maxRecDepth 100000 in
set_option maxHeartbeats 4000000 in
theorem c_X12_owes_98 (x1 x2 x3 : Int) (h : MEM) (hM : MBm h) (bx1 : -2147483648 ≤ x1) (dx1 : x1 ≤ 2147483647) (bx2 : -2147483648 ≤ x2) (dx2 : x2 ≤ 2147483647) (bx3 : -2147483648 ≤ x3) (dx3 : x3 ≤ 2147483647) : CP yX12_owes cX12_owes 4 (some .int) 3 [pR 98, pI x1, pI x2, pI x3] h (fun x => x = -1) := by
  refine CP.of (L0 := [some (pR 98), some (pI x1), some (pI x2), some (pI x3)]) rfl (Nat.le_of_ble_eq_true rfl) rfl (fun Po hPo hav => ?_)
  refine g_aload_n dX12_owes_0 rfl ?_
  refine g_iload_n dX12_owes_1 rfl (fun _ => ?_)
  refine g_cVP (as := [_]) (c_X12_isApprentice_98 _ h hM (by omega) (by omega)) dX12_owes_2 mi_X12_isApprentice in_X12_isApprentice se_X12_isApprentice ml_X12_195 rfl rfl rfl sh_98 rfl rfl (Nat.le_of_ble_eq_true rfl) (fun v1 q2 => ?_)
  obtain ⟨v3, ev3⟩ : ∃ z, z = h 98 3 := ⟨_, rfl⟩
  have bv3 : 0 ≤ v3 ∧ v3 ≤ 0 := by rw [ev3]; exact (m_98_3 hM)
  rcases q2 with ⟨rfl, q2⟩ | ⟨rfl, q2⟩
  · skip
    exfalso; omega
  · skip
    refine g_if_eq 26 dX12_owes_5 (by decide) (fun q4 => ?_) (fun _ => by exfalso; omega)
    refine g_iconst dX12_owes_26 (inR_c rfl) ?_
    exact g_ireturn dX12_owes_27 retI (hPo _ (by omega))
set_option maxRecDepth 100000 in
set_option maxHeartbeats 4000000 in
theorem c_X11_teachers_0 (x1 : Int) (h : MEM) (hM : MBx h) (bx1 : -2147483648 ≤ x1) (dx1 : x1 ≤ 2147483647) : CP yX11_teachers cX11_teachers 2 (some .int) 2 [pR 0, pI x1] h (fun x => x = -1) := by
  refine CP.of (L0 := [some (pR 0), some (pI x1)]) rfl (Nat.le_of_ble_eq_true rfl) rfl (fun Po hPo hav => ?_)
  refine g_aload_n dX11_teachers_0 rfl ?_
  refine gR_X11_10 rfl dX11_teachers_1 sh_0 (b := 1) (m_0_0 hM) ?_
  refine gR_X11_95 rfl dX11_teachers_4 sh_1 (b := 6) (m_1_1 hM) ?_
  refine g_iload_n dX11_teachers_7 rfl (fun _ => ?_)
  refine g_cVP (as := [_]) (c_X0_has_6 _ h hM (by omega) (by omega)) dX11_teachers_8 mi_X0_has in_X0_has se_X0_has ml_X11_113 rfl rfl rfl sh_6 rfl rfl (Nat.le_of_ble_eq_true rfl) (fun v1 q2 => ?_)
  obtain ⟨v3, ev3⟩ : ∃ z, z = h 6 0 := ⟨_, rfl⟩
  have bv3 : 0 ≤ v3 ∧ v3 ≤ 0 := by rw [ev3]; exact (m_6_0 hM)
  rcases q2 with ⟨rfl, q2⟩ | ⟨rfl, q2⟩
  · skip
    exfalso; omega
  · skip
    refine g_if_eq 25 dX11_teachers_11 (by decide) (fun q4 => ?_) (fun _ => by exfalso; omega)
    refine g_iconst dX11_teachers_25 (inR_c rfl) ?_
    exact g_ireturn dX11_teachers_26 retI (hPo _ (by omega))
set_option maxRecDepth 100000 in
set_option maxHeartbeats 4000000 in
theorem c_X12_teachers_98 (x1 : Int) (h : MEM) (hM : MBm h) (bx1 : -2147483648 ≤ x1) (dx1 : x1 ≤ 2147483647) : CP yX12_teachers cX12_teachers 2 (some .int) 3 [pR 98, pI x1] h (fun x => x = -1) := by
  refine CP.of (L0 := [some (pR 98), some (pI x1)]) rfl (Nat.le_of_ble_eq_true rfl) rfl (fun Po hPo hav => ?_)
  refine g_aload_n dX12_teachers_0 rfl ?_
  refine g_iload_n dX12_teachers_1 rfl (fun _ => ?_)
  refine g_cVP (as := [_]) (c_X12_isApprentice_98 _ h hM (by omega) (by omega)) dX12_teachers_2 mi_X12_isApprentice in_X12_isApprentice se_X12_isApprentice ml_X12_195 rfl rfl rfl sh_98 rfl rfl (Nat.le_of_ble_eq_true rfl) (fun v1 q2 => ?_)
  obtain ⟨v3, ev3⟩ : ∃ z, z = h 98 3 := ⟨_, rfl⟩
  have bv3 : 0 ≤ v3 ∧ v3 ≤ 0 := by rw [ev3]; exact (m_98_3 hM)
  rcases q2 with ⟨rfl, q2⟩ | ⟨rfl, q2⟩
  · skip
    exfalso; omega
  · skip
    refine g_if_eq 16 dX12_teachers_5 (by decide) (fun q4 => ?_) (fun _ => by exfalso; omega)
    refine g_iconst dX12_teachers_16 (inR_c rfl) ?_
    exact g_ireturn dX12_teachers_17 retI (hPo _ (by omega))
set_option maxRecDepth 100000 in
set_option maxHeartbeats 4000000 in
theorem c_X11_chain_0 (x1 x2 x3 : Int) (h : MEM) (hM : MBx h) (bx1 : -2147483648 ≤ x1) (dx1 : x1 ≤ 2147483647) (bx2 : -2147483648 ≤ x2) (dx2 : x2 ≤ 2147483647) (bx3 : -2147483648 ≤ x3) (dx3 : x3 ≤ 2147483647) : CP yX11_chain cX11_chain 4 (some .int) 2 [pR 0, pI x1, pI x2, pI x3] h (fun x => x = -3) := by
  refine CP.of (L0 := [some (pR 0), some (pI x1), some (pI x2), some (pI x3)]) rfl (Nat.le_of_ble_eq_true rfl) rfl (fun Po hPo hav => ?_)
  refine g_aload_n dX11_chain_0 rfl ?_
  refine gR_X11_10 rfl dX11_chain_1 sh_0 (b := 1) (m_0_0 hM) ?_
  refine gR_X11_104 rfl dX11_chain_4 sh_1 (b := 12) (m_1_2 hM) ?_
  refine g_iload_n dX11_chain_7 rfl (fun _ => ?_)
  refine g_cVP (as := [_]) (c_X4_has_12 _ h hM (by omega) (by omega)) dX11_chain_8 mi_X4_has in_X4_has se_X4_has ml_X11_124 rfl rfl rfl sh_12 rfl rfl (Nat.le_of_ble_eq_true rfl) (fun v1 q2 => ?_)
  obtain ⟨v3, ev3⟩ : ∃ z, z = h 12 0 := ⟨_, rfl⟩
  have bv3 : 0 ≤ v3 ∧ v3 ≤ 0 := by rw [ev3]; exact (m_12_0 hM)
  rcases q2 with ⟨rfl, q2⟩ | ⟨rfl, q2⟩
  · skip
    exfalso; omega
  · skip
    refine g_if_eq 38 dX11_chain_11 (by decide) (fun q4 => ?_) (fun _ => by exfalso; omega)
    refine g_bipush dX11_chain_38 (inR_c rfl) (by decide) ?_
    exact g_ireturn dX11_chain_40 retI (hPo _ (by omega))
set_option maxRecDepth 100000 in
set_option maxHeartbeats 4000000 in
theorem c_X12_chain_98 (x1 x2 x3 : Int) (h : MEM) (hM : MBm h) (bx1 : -2147483648 ≤ x1) (dx1 : x1 ≤ 2147483647) (bx2 : -2147483648 ≤ x2) (dx2 : x2 ≤ 2147483647) (bx3 : -2147483648 ≤ x3) (dx3 : x3 ≤ 2147483647) : CP yX12_chain cX12_chain 8 (some .int) 3 [pR 98, pI x1, pI x2, pI x3] h (fun x => x = -3) := by
  refine CP.of (L0 := [some (pR 98), some (pI x1), some (pI x2), some (pI x3), none, none, none, none]) rfl (Nat.le_of_ble_eq_true rfl) rfl (fun Po hPo hav => ?_)
  refine g_aload_n dX12_chain_0 rfl ?_
  refine g_iload_n dX12_chain_1 rfl (fun _ => ?_)
  refine g_cVP (as := [_]) (c_X12_isMaster_98 _ h hM (by omega) (by omega)) dX12_chain_2 mi_X12_isMaster in_X12_isMaster se_X12_isMaster ml_X12_201 rfl rfl rfl sh_98 rfl rfl (Nat.le_of_ble_eq_true rfl) (fun v1 q2 => ?_)
  obtain ⟨v3, ev3⟩ : ∃ z, z = h 98 4 := ⟨_, rfl⟩
  have bv3 : 0 ≤ v3 ∧ v3 ≤ 0 := by rw [ev3]; exact (m_98_4 hM)
  rcases q2 with ⟨rfl, q2⟩ | ⟨rfl, q2⟩
  · skip
    exfalso; omega
  · skip
    refine g_if_eq 30 dX12_chain_5 (by decide) (fun q4 => ?_) (fun _ => by exfalso; omega)
    refine g_bipush dX12_chain_30 (inR_c rfl) (by decide) ?_
    exact g_ireturn dX12_chain_32 retI (hPo _ (by omega))
set_option maxRecDepth 100000 in
set_option maxHeartbeats 4000000 in
theorem c_X11_odds_0 (x1 x2 x3 x4 : Int) (h : MEM) (hM : MBx h) (bx1 : -2147483648 ≤ x1) (dx1 : x1 ≤ 2147483647) (bx2 : -2147483648 ≤ x2) (dx2 : x2 ≤ 2147483647) (bx3 : -2147483648 ≤ x3) (dx3 : x3 ≤ 2147483647) (bx4 : -2147483648 ≤ x4) (dx4 : x4 ≤ 2147483647) : CP yX11_odds cX11_odds 8 (some .int) 2 [pR 0, pI x1, pI x2, pI x3, pI x4] h (fun x => x = -1) := by
  refine CP.of (L0 := [some (pR 0), some (pI x1), some (pI x2), some (pI x3), some (pI x4), none, none, none]) rfl (Nat.le_of_ble_eq_true rfl) rfl (fun Po hPo hav => ?_)
  refine g_aload_n dX11_odds_0 rfl ?_
  refine gR_X11_10 rfl dX11_odds_1 sh_0 (b := 1) (m_0_0 hM) ?_
  refine gR_X11_104 rfl dX11_odds_4 sh_1 (b := 12) (m_1_2 hM) ?_
  refine g_iload_n dX11_odds_7 rfl (fun _ => ?_)
  refine g_cVP (as := [_]) (c_X4_has_12 _ h hM (by omega) (by omega)) dX11_odds_8 mi_X4_has in_X4_has se_X4_has ml_X11_124 rfl rfl rfl sh_12 rfl rfl (Nat.le_of_ble_eq_true rfl) (fun v1 q2 => ?_)
  obtain ⟨v3, ev3⟩ : ∃ z, z = h 12 0 := ⟨_, rfl⟩
  have bv3 : 0 ≤ v3 ∧ v3 ≤ 0 := by rw [ev3]; exact (m_12_0 hM)
  rcases q2 with ⟨rfl, q2⟩ | ⟨rfl, q2⟩
  · skip
    exfalso; omega
  · skip
    refine g_if_eq 44 dX11_odds_11 (by decide) (fun q4 => ?_) (fun _ => by exfalso; omega)
    refine g_iconst dX11_odds_44 (inR_c rfl) ?_
    exact g_ireturn dX11_odds_45 retI (hPo _ (by omega))
set_option maxRecDepth 100000 in
set_option maxHeartbeats 4000000 in
theorem c_X12_odds_98 (x1 x2 x3 x4 : Int) (h : MEM) (hM : MBm h) (bx1 : -2147483648 ≤ x1) (dx1 : x1 ≤ 2147483647) (bx2 : -2147483648 ≤ x2) (dx2 : x2 ≤ 2147483647) (bx3 : -2147483648 ≤ x3) (dx3 : x3 ≤ 2147483647) (bx4 : -2147483648 ≤ x4) (dx4 : x4 ≤ 2147483647) : CP yX12_odds cX12_odds 10 (some .int) 3 [pR 98, pI x1, pI x2, pI x3, pI x4] h (fun x => x = -1) := by
  refine CP.of (L0 := [some (pR 98), some (pI x1), some (pI x2), some (pI x3), some (pI x4), none, none, none, none, none]) rfl (Nat.le_of_ble_eq_true rfl) rfl (fun Po hPo hav => ?_)
  refine g_aload_n dX12_odds_0 rfl ?_
  refine g_iload_n dX12_odds_1 rfl (fun _ => ?_)
  refine g_cVP (as := [_]) (c_X12_isMaster_98 _ h hM (by omega) (by omega)) dX12_odds_2 mi_X12_isMaster in_X12_isMaster se_X12_isMaster ml_X12_201 rfl rfl rfl sh_98 rfl rfl (Nat.le_of_ble_eq_true rfl) (fun v1 q2 => ?_)
  obtain ⟨v3, ev3⟩ : ∃ z, z = h 98 4 := ⟨_, rfl⟩
  have bv3 : 0 ≤ v3 ∧ v3 ≤ 0 := by rw [ev3]; exact (m_98_4 hM)
  rcases q2 with ⟨rfl, q2⟩ | ⟨rfl, q2⟩
  · skip
    exfalso; omega
  · skip
    refine g_if_eq 43 dX12_odds_5 (by decide) (fun q4 => ?_) (fun _ => by exfalso; omega)
    refine g_iconst dX12_odds_43 (inR_c rfl) ?_
    exact g_ireturn dX12_odds_44 retI (hPo _ (by omega))
set_option maxRecDepth 100000 in
set_option maxHeartbeats 4000000 in
theorem c_X11_seed_0 (x1 : Int) (h : MEM) (hM : MBx h) (bx1 : -2147483648 ≤ x1) (dx1 : x1 ≤ 2147483647) : CI yX11_seed cX11_seed 2 (some .boolean) 2 [pR 0, pI x1] h (fun x h' => Fr [(1, 8)] h h' ∧ ((0 ≤ x1 ∧ x1 ≤ 65535) ∧ x = 1 ∨ ¬ (0 ≤ x1 ∧ x1 ≤ 65535) ∧ x = 0)) := by
  refine CI.of (L0 := [some (pR 0), some (pI x1)]) rfl (Nat.le_of_ble_eq_true rfl) rfl (fun Po hPo hav => ?_)
  refine g_iload_n dX11_seed_0 rfl (fun _ => ?_)
  refine g_iconst dX11_seed_1 (inR_c rfl) ?_
  refine g_ldc_w (v := 65535) dX11_seed_2 kc_X11_299 (inR_c rfl) ?_
  refine g_cSP (av := [_, _, _]) (c_X11_isWithin _ _ _ h hM (by omega) (by omega) (by omega) (by omega) (by omega) (by omega)) dX11_seed_5 mi_X11_isWithin st_X11_isWithin ml_X11_81 rfl rfl rfl rfl (Nat.le_of_ble_eq_true rfl) (fun v1 q2 => ?_)
  rcases q2 with ⟨rfl, q2⟩ | ⟨rfl, q2⟩
  · skip
    refine g_if_ne 13 dX11_seed_8 (by decide) (fun q3 => ?_) (fun _ => by exfalso; omega)
    refine g_aload_n dX11_seed_13 rfl ?_
    refine gR_X11_10 rfl dX11_seed_14 sh_0 (b := 1) (m_0_0 hM) ?_
    refine g_iload_n dX11_seed_17 rfl (fun _ => ?_)
    refine pI_X11_300 rfl dX11_seed_18 sh_1 (fun h4 eh4 => ?_)
    have hFh4 := Fr.st eh4
    have hMh4 := u_1_7 hM eh4 (by omega) (by omega)
    refine g_iconst dX11_seed_21 (inR_c rfl) ?_
    exact g_ireturn dX11_seed_22 (retZ (by omega)) (hPo _ _ ⟨(Fr.sub hFh4 rfl), (by omega)⟩)
  · skip
    refine g_if_ne 13 dX11_seed_8 (by decide) (fun _ => by exfalso; omega) (fun q5 => ?_)
    refine g_iconst dX11_seed_11 (inR_c rfl) ?_
    exact g_ireturn dX11_seed_12 (retZ (by omega)) (hPo _ _ ⟨Fr.rf, (by omega)⟩)
set_option maxRecDepth 100000 in
set_option maxHeartbeats 4000000 in
theorem c_X12_seed_98 (x1 : Int) (h : MEM) (hM : MBm h) (bx1 : -2147483648 ≤ x1) (dx1 : x1 ≤ 2147483647) : CI yX12_seed cX12_seed 2 (some .boolean) 2 [pR 98, pI x1] h (fun x h' => Fr [(98, 7)] h h' ∧ ((0 ≤ x1 ∧ x1 ≤ 65535) ∧ x = 1 ∨ ¬ (0 ≤ x1 ∧ x1 ≤ 65535) ∧ x = 0)) := by
  refine CI.of (L0 := [some (pR 98), some (pI x1)]) rfl (Nat.le_of_ble_eq_true rfl) rfl (fun Po hPo hav => ?_)
  refine g_iload_n dX12_seed_0 rfl (fun _ => ?_)
  refine g_i2l dX12_seed_1 ?_
  refine g_lconst (v := 0) dX12_seed_2 rfl ?_
  refine g_ldc2 (v := 65535) dX12_seed_3 kl_X12_504 (by decide) ?_
  refine g_cSP (av := [_, _, _]) (c_X12_lies _ _ _ h hM (by omega) (by omega) (by omega) (by omega) (by omega) (by omega)) dX12_seed_6 mi_X12_lies st_X12_lies ml_X12_175 rfl rfl rfl rfl (Nat.le_of_ble_eq_true rfl) (fun v1 q2 => ?_)
  rcases q2 with ⟨rfl, q2⟩ | ⟨rfl, q2⟩
  · skip
    refine g_if_ne 14 dX12_seed_9 (by decide) (fun q3 => ?_) (fun _ => by exfalso; omega)
    refine g_aload_n dX12_seed_14 rfl ?_
    refine g_iload_n dX12_seed_15 rfl (fun _ => ?_)
    refine pI_X12_13 rfl dX12_seed_16 sh_98 (fun h4 eh4 => ?_)
    have hFh4 := Fr.st eh4
    have hMh4 := u_98_6 hM eh4 (by omega) (by omega)
    refine g_iconst dX12_seed_19 (inR_c rfl) ?_
    exact g_ireturn dX12_seed_20 (retZ (by omega)) (hPo _ _ ⟨(Fr.sub hFh4 rfl), (by omega)⟩)
  · skip
    refine g_if_ne 14 dX12_seed_9 (by decide) (fun _ => by exfalso; omega) (fun q5 => ?_)
    refine g_iconst dX12_seed_12 (inR_c rfl) ?_
    exact g_ireturn dX12_seed_13 (retZ (by omega)) (hPo _ _ ⟨Fr.rf, (by omega)⟩)
set_option maxRecDepth 100000 in
set_option maxHeartbeats 4000000 in
theorem c_X6_copyFrom_42_2 (h : MEM) (hM : MBx h) : CV yX6_copyFrom cX6_copyFrom 2 (none) 1 [pR 42, pR 2] h (fun h' => MBx h' ∧ Fr [(42, 1), (43, 0), (44, 0), (45, 0)] h h') := by
  refine CV.of (L0 := [some (pR 42), some (pR 2)]) rfl (Nat.le_of_ble_eq_true rfl) rfl (fun Po hPo hav => ?_)
  refine g_aload_n dX6_copyFrom_0 rfl ?_
  refine g_aload_n dX6_copyFrom_1 rfl ?_
  refine gI_X6_9 rfl dX6_copyFrom_2 sh_2 (m_2_0 hM) (fun v1 ev1 bv1 cv1 => ?_)
  refine pI_X6_9 rfl dX6_copyFrom_5 sh_42 (fun h2 eh2 => ?_)
  have hFh2 := Fr.st eh2
  have hMh2 := u_42_0 hM eh2 (by omega) (by omega)
  refine g_aload_n dX6_copyFrom_8 rfl ?_
  refine gR_X6_15 rfl dX6_copyFrom_9 sh_2 (b := 3) (m_2_1 hMh2) ?_
  refine g_iconst dX6_copyFrom_12 (inR_c rfl) ?_
  refine g_aload_n dX6_copyFrom_13 rfl ?_
  refine gR_X6_15 rfl dX6_copyFrom_14 sh_42 (b := 43) (m_42_1 hMh2) ?_
  refine g_iconst dX6_copyFrom_17 (inR_c rfl) ?_
  refine g_bipush dX6_copyFrom_18 (inR_c rfl) (by decide) ?_
  refine g_acopy dX6_copyFrom_20 ml_X6_25 sh_3 sh_43 (by decide) (by decide) (by decide) (by decide) (by decide) (by decide) (by decide) (fun h3 eh3 => ?_)
  have hFh3 := Fr.cp eh3
  have hMh3 := MBx.cp hMh2 eh3 (by decide) (p0 := (0, 0)) (p := (0, 0)) rfl rfl (by decide) (by decide)
  refine g_aload_n dX6_copyFrom_23 rfl ?_
  refine gR_X6_19 rfl dX6_copyFrom_24 sh_2 (b := 4) (m_2_2 hMh3) ?_
  refine g_iconst dX6_copyFrom_27 (inR_c rfl) ?_
  refine g_aload_n dX6_copyFrom_28 rfl ?_
  refine gR_X6_19 rfl dX6_copyFrom_29 sh_42 (b := 44) (m_42_2 hMh3) ?_
  refine g_iconst dX6_copyFrom_32 (inR_c rfl) ?_
  refine g_bipush dX6_copyFrom_33 (inR_c rfl) (by decide) ?_
  refine g_acopy dX6_copyFrom_35 ml_X6_25 sh_4 sh_44 (by decide) (by decide) (by decide) (by decide) (by decide) (by decide) (by decide) (fun h4 eh4 => ?_)
  have hFh4 := Fr.cp eh4
  have hMh4 := MBx.cp hMh3 eh4 (by decide) (p0 := (0, 0)) (p := (0, 0)) rfl rfl (by decide) (by decide)
  refine g_aload_n dX6_copyFrom_38 rfl ?_
  refine gR_X6_22 rfl dX6_copyFrom_39 sh_2 (b := 5) (m_2_3 hMh4) ?_
  refine g_iconst dX6_copyFrom_42 (inR_c rfl) ?_
  refine g_aload_n dX6_copyFrom_43 rfl ?_
  refine gR_X6_22 rfl dX6_copyFrom_44 sh_42 (b := 45) (m_42_3 hMh4) ?_
  refine g_iconst dX6_copyFrom_47 (inR_c rfl) ?_
  refine g_bipush dX6_copyFrom_48 (inR_c rfl) (by decide) ?_
  refine g_acopy dX6_copyFrom_50 ml_X6_25 sh_5 sh_45 (by decide) (by decide) (by decide) (by decide) (by decide) (by decide) (by decide) (fun h5 eh5 => ?_)
  have hFh5 := Fr.cp eh5
  have hMh5 := MBx.cp hMh4 eh5 (by decide) (p0 := (0, 0)) (p := (0, 0)) rfl rfl (by decide) (by decide)
  exact g_return dX6_copyFrom_53 rfl (hPo _ ⟨hMh5, (Fr.tr (Fr.tr (Fr.tr (Fr.sub hFh2 rfl) hFh3 rfl) hFh4 rfl) hFh5 rfl)⟩)
set_option maxRecDepth 100000 in
set_option maxHeartbeats 4000000 in
theorem c_X0_copyFrom_46_6 (h : MEM) (hM : MBx h) : CV yX0_copyFrom cX0_copyFrom 2 (none) 1 [pR 46, pR 6] h (fun h' => MBx h' ∧ Fr [(46, 1), (47, 0), (48, 0), (49, 0), (50, 0), (51, 0)] h h') := by
  refine CV.of (L0 := [some (pR 46), some (pR 6)]) rfl (Nat.le_of_ble_eq_true rfl) rfl (fun Po hPo hav => ?_)
  refine g_aload_n dX0_copyFrom_0 rfl ?_
  refine g_aload_n dX0_copyFrom_1 rfl ?_
  refine gI_X0_9 rfl dX0_copyFrom_2 sh_6 (m_6_0 hM) (fun v1 ev1 bv1 cv1 => ?_)
  refine pI_X0_9 rfl dX0_copyFrom_5 sh_46 (fun h2 eh2 => ?_)
  have hFh2 := Fr.st eh2
  have hMh2 := u_46_0 hM eh2 (by omega) (by omega)
  refine g_aload_n dX0_copyFrom_8 rfl ?_
  refine gR_X0_15 rfl dX0_copyFrom_9 sh_6 (b := 7) (m_6_1 hMh2) ?_
  refine g_iconst dX0_copyFrom_12 (inR_c rfl) ?_
  refine g_aload_n dX0_copyFrom_13 rfl ?_
  refine gR_X0_15 rfl dX0_copyFrom_14 sh_46 (b := 47) (m_46_1 hMh2) ?_
  refine g_iconst dX0_copyFrom_17 (inR_c rfl) ?_
  refine g_bipush dX0_copyFrom_18 (inR_c rfl) (by decide) ?_
  refine g_acopy dX0_copyFrom_20 ml_X0_35 sh_7 sh_47 (by decide) (by decide) (by decide) (by decide) (by decide) (by decide) (by decide) (fun h3 eh3 => ?_)
  have hFh3 := Fr.cp eh3
  have hMh3 := MBx.cp hMh2 eh3 (by decide) (p0 := (0, 0)) (p := (0, 0)) rfl rfl (by decide) (by decide)
  refine g_aload_n dX0_copyFrom_23 rfl ?_
  refine gR_X0_19 rfl dX0_copyFrom_24 sh_6 (b := 8) (m_6_2 hMh3) ?_
  refine g_iconst dX0_copyFrom_27 (inR_c rfl) ?_
  refine g_aload_n dX0_copyFrom_28 rfl ?_
  refine gR_X0_19 rfl dX0_copyFrom_29 sh_46 (b := 48) (m_46_2 hMh3) ?_
  refine g_iconst dX0_copyFrom_32 (inR_c rfl) ?_
  refine g_bipush dX0_copyFrom_33 (inR_c rfl) (by decide) ?_
  refine g_acopy dX0_copyFrom_35 ml_X0_35 sh_8 sh_48 (by decide) (by decide) (by decide) (by decide) (by decide) (by decide) (by decide) (fun h4 eh4 => ?_)
  have hFh4 := Fr.cp eh4
  have hMh4 := MBx.cp hMh3 eh4 (by decide) (p0 := (0, 0)) (p := (0, 0)) rfl rfl (by decide) (by decide)
  refine g_aload_n dX0_copyFrom_38 rfl ?_
  refine gR_X0_22 rfl dX0_copyFrom_39 sh_6 (b := 9) (m_6_3 hMh4) ?_
  refine g_iconst dX0_copyFrom_42 (inR_c rfl) ?_
  refine g_aload_n dX0_copyFrom_43 rfl ?_
  refine gR_X0_22 rfl dX0_copyFrom_44 sh_46 (b := 49) (m_46_3 hMh4) ?_
  refine g_iconst dX0_copyFrom_47 (inR_c rfl) ?_
  refine g_bipush dX0_copyFrom_48 (inR_c rfl) (by decide) ?_
  refine g_acopy dX0_copyFrom_50 ml_X0_35 sh_9 sh_49 (by decide) (by decide) (by decide) (by decide) (by decide) (by decide) (by decide) (fun h5 eh5 => ?_)
  have hFh5 := Fr.cp eh5
  have hMh5 := MBx.cp hMh4 eh5 (by decide) (p0 := (0, 0)) (p := (0, 0)) rfl rfl (by decide) (by decide)
  refine g_aload_n dX0_copyFrom_53 rfl ?_
  refine gR_X0_25 rfl dX0_copyFrom_54 sh_6 (b := 10) (m_6_4 hMh5) ?_
  refine g_iconst dX0_copyFrom_57 (inR_c rfl) ?_
  refine g_aload_n dX0_copyFrom_58 rfl ?_
  refine gR_X0_25 rfl dX0_copyFrom_59 sh_46 (b := 50) (m_46_4 hMh5) ?_
  refine g_iconst dX0_copyFrom_62 (inR_c rfl) ?_
  refine g_bipush dX0_copyFrom_63 (inR_c rfl) (by decide) ?_
  refine g_acopy dX0_copyFrom_65 ml_X0_35 sh_10 sh_50 (by decide) (by decide) (by decide) (by decide) (by decide) (by decide) (by decide) (fun h6 eh6 => ?_)
  have hFh6 := Fr.cp eh6
  have hMh6 := MBx.cp hMh5 eh6 (by decide) (p0 := (0, 0)) (p := (0, 0)) rfl rfl (by decide) (by decide)
  refine g_aload_n dX0_copyFrom_68 rfl ?_
  refine gR_X0_28 rfl dX0_copyFrom_69 sh_6 (b := 11) (m_6_5 hMh6) ?_
  refine g_iconst dX0_copyFrom_72 (inR_c rfl) ?_
  refine g_aload_n dX0_copyFrom_73 rfl ?_
  refine gR_X0_28 rfl dX0_copyFrom_74 sh_46 (b := 51) (m_46_5 hMh6) ?_
  refine g_iconst dX0_copyFrom_77 (inR_c rfl) ?_
  refine g_bipush dX0_copyFrom_78 (inR_c rfl) (by decide) ?_
  refine g_acopy dX0_copyFrom_80 ml_X0_35 sh_11 sh_51 (by decide) (by decide) (by decide) (by decide) (by decide) (by decide) (by decide) (fun h7 eh7 => ?_)
  have hFh7 := Fr.cp eh7
  have hMh7 := MBx.cp hMh6 eh7 (by decide) (p0 := (0, 0)) (p := (0, 0)) rfl rfl (by decide) (by decide)
  exact g_return dX0_copyFrom_83 rfl (hPo _ ⟨hMh7, (Fr.tr (Fr.tr (Fr.tr (Fr.tr (Fr.tr (Fr.sub hFh2 rfl) hFh3 rfl) hFh4 rfl) hFh5 rfl) hFh6 rfl) hFh7 rfl)⟩)
set_option maxRecDepth 100000 in
set_option maxHeartbeats 4000000 in
theorem c_X4_copyFrom_52_12 (h : MEM) (hM : MBx h) : CV yX4_copyFrom cX4_copyFrom 2 (none) 1 [pR 52, pR 12] h (fun h' => MBx h' ∧ Fr [(52, 1), (53, 0), (54, 0), (55, 0), (56, 0)] h h') := by
  refine CV.of (L0 := [some (pR 52), some (pR 12)]) rfl (Nat.le_of_ble_eq_true rfl) rfl (fun Po hPo hav => ?_)
  refine g_aload_n dX4_copyFrom_0 rfl ?_
  refine g_aload_n dX4_copyFrom_1 rfl ?_
  refine gI_X4_9 rfl dX4_copyFrom_2 sh_12 (m_12_0 hM) (fun v1 ev1 bv1 cv1 => ?_)
  refine pI_X4_9 rfl dX4_copyFrom_5 sh_52 (fun h2 eh2 => ?_)
  have hFh2 := Fr.st eh2
  have hMh2 := u_52_0 hM eh2 (by omega) (by omega)
  refine g_aload_n dX4_copyFrom_8 rfl ?_
  refine gR_X4_15 rfl dX4_copyFrom_9 sh_12 (b := 13) (m_12_1 hMh2) ?_
  refine g_iconst dX4_copyFrom_12 (inR_c rfl) ?_
  refine g_aload_n dX4_copyFrom_13 rfl ?_
  refine gR_X4_15 rfl dX4_copyFrom_14 sh_52 (b := 53) (m_52_1 hMh2) ?_
  refine g_iconst dX4_copyFrom_17 (inR_c rfl) ?_
  refine g_bipush dX4_copyFrom_18 (inR_c rfl) (by decide) ?_
  refine g_acopy dX4_copyFrom_20 ml_X4_28 sh_13 sh_53 (by decide) (by decide) (by decide) (by decide) (by decide) (by decide) (by decide) (fun h3 eh3 => ?_)
  have hFh3 := Fr.cp eh3
  have hMh3 := MBx.cp hMh2 eh3 (by decide) (p0 := (0, 0)) (p := (0, 0)) rfl rfl (by decide) (by decide)
  refine g_aload_n dX4_copyFrom_23 rfl ?_
  refine gR_X4_19 rfl dX4_copyFrom_24 sh_12 (b := 14) (m_12_2 hMh3) ?_
  refine g_iconst dX4_copyFrom_27 (inR_c rfl) ?_
  refine g_aload_n dX4_copyFrom_28 rfl ?_
  refine gR_X4_19 rfl dX4_copyFrom_29 sh_52 (b := 54) (m_52_2 hMh3) ?_
  refine g_iconst dX4_copyFrom_32 (inR_c rfl) ?_
  refine g_bipush dX4_copyFrom_33 (inR_c rfl) (by decide) ?_
  refine g_acopy dX4_copyFrom_35 ml_X4_28 sh_14 sh_54 (by decide) (by decide) (by decide) (by decide) (by decide) (by decide) (by decide) (fun h4 eh4 => ?_)
  have hFh4 := Fr.cp eh4
  have hMh4 := MBx.cp hMh3 eh4 (by decide) (p0 := (0, 0)) (p := (0, 0)) rfl rfl (by decide) (by decide)
  refine g_aload_n dX4_copyFrom_38 rfl ?_
  refine gR_X4_22 rfl dX4_copyFrom_39 sh_12 (b := 15) (m_12_3 hMh4) ?_
  refine g_iconst dX4_copyFrom_42 (inR_c rfl) ?_
  refine g_aload_n dX4_copyFrom_43 rfl ?_
  refine gR_X4_22 rfl dX4_copyFrom_44 sh_52 (b := 55) (m_52_3 hMh4) ?_
  refine g_iconst dX4_copyFrom_47 (inR_c rfl) ?_
  refine g_bipush dX4_copyFrom_48 (inR_c rfl) (by decide) ?_
  refine g_acopy dX4_copyFrom_50 ml_X4_28 sh_15 sh_55 (by decide) (by decide) (by decide) (by decide) (by decide) (by decide) (by decide) (fun h5 eh5 => ?_)
  have hFh5 := Fr.cp eh5
  have hMh5 := MBx.cp hMh4 eh5 (by decide) (p0 := (0, 0)) (p := (0, 0)) rfl rfl (by decide) (by decide)
  refine g_aload_n dX4_copyFrom_53 rfl ?_
  refine gR_X4_25 rfl dX4_copyFrom_54 sh_12 (b := 16) (m_12_4 hMh5) ?_
  refine g_iconst dX4_copyFrom_57 (inR_c rfl) ?_
  refine g_aload_n dX4_copyFrom_58 rfl ?_
  refine gR_X4_25 rfl dX4_copyFrom_59 sh_52 (b := 56) (m_52_4 hMh5) ?_
  refine g_iconst dX4_copyFrom_62 (inR_c rfl) ?_
  refine g_bipush dX4_copyFrom_63 (inR_c rfl) (by decide) ?_
  refine g_acopy dX4_copyFrom_65 ml_X4_28 sh_16 sh_56 (by decide) (by decide) (by decide) (by decide) (by decide) (by decide) (by decide) (fun h6 eh6 => ?_)
  have hFh6 := Fr.cp eh6
  have hMh6 := MBx.cp hMh5 eh6 (by decide) (p0 := (0, 0)) (p := (0, 0)) rfl rfl (by decide) (by decide)
  exact g_return dX4_copyFrom_68 rfl (hPo _ ⟨hMh6, (Fr.tr (Fr.tr (Fr.tr (Fr.tr (Fr.sub hFh2 rfl) hFh3 rfl) hFh4 rfl) hFh5 rfl) hFh6 rfl)⟩)
set_option maxRecDepth 100000 in
set_option maxHeartbeats 4000000 in
theorem c_X9_copyFrom_41_1 (h : MEM) (hM : MBx h) : CV yX9_copyFrom cX9_copyFrom 2 (none) 2 [pR 41, pR 1] h (fun h' => MBx h' ∧ Fr [(41, 7), (41, 8), (41, 9), (42, 1), (43, 0), (44, 0), (45, 0), (46, 1), (47, 0), (48, 0), (49, 0), (50, 0), (51, 0), (52, 1), (53, 0), (54, 0), (55, 0), (56, 0), (57, 0), (58, 0), (59, 0)] h h') := by
  refine CV.of (L0 := [some (pR 41), some (pR 1)]) rfl (Nat.le_of_ble_eq_true rfl) rfl (fun Po hPo hav => ?_)
  refine g_aload_n dX9_copyFrom_0 rfl ?_
  refine gR_X9_12 rfl dX9_copyFrom_1 sh_41 (b := 42) (m_41_0 hM) ?_
  refine g_aload_n dX9_copyFrom_4 rfl ?_
  refine gR_X9_12 rfl dX9_copyFrom_5 sh_1 (b := 2) (m_1_0 hM) ?_
  refine g_cVV (as := [_]) (c_X6_copyFrom_42_2  h hM) dX9_copyFrom_8 mi_X6_copyFrom in_X6_copyFrom se_X6_copyFrom ml_X9_55 rfl rfl rfl sh_42 rfl rfl (Nat.le_of_ble_eq_true rfl) (fun h1 q2 => ?_)
  obtain ⟨hMh1, hFh1⟩ := q2
  refine g_aload_n dX9_copyFrom_11 rfl ?_
  refine gR_X9_21 rfl dX9_copyFrom_12 sh_41 (b := 46) (m_41_1 hMh1) ?_
  refine g_aload_n dX9_copyFrom_15 rfl ?_
  refine gR_X9_21 rfl dX9_copyFrom_16 sh_1 (b := 6) (m_1_1 hMh1) ?_
  refine g_cVV (as := [_]) (c_X0_copyFrom_46_6  h1 hMh1) dX9_copyFrom_19 mi_X0_copyFrom in_X0_copyFrom se_X0_copyFrom ml_X9_59 rfl rfl rfl sh_46 rfl rfl (Nat.le_of_ble_eq_true rfl) (fun h3 q4 => ?_)
  obtain ⟨hMh3, hFh3⟩ := q4
  refine g_aload_n dX9_copyFrom_22 rfl ?_
  refine gR_X9_28 rfl dX9_copyFrom_23 sh_41 (b := 52) (m_41_2 hMh3) ?_
  refine g_aload_n dX9_copyFrom_26 rfl ?_
  refine gR_X9_28 rfl dX9_copyFrom_27 sh_1 (b := 12) (m_1_2 hMh3) ?_
  refine g_cVV (as := [_]) (c_X4_copyFrom_52_12  h3 hMh3) dX9_copyFrom_30 mi_X4_copyFrom in_X4_copyFrom se_X4_copyFrom ml_X9_62 rfl rfl rfl sh_52 rfl rfl (Nat.le_of_ble_eq_true rfl) (fun h5 q6 => ?_)
  obtain ⟨hMh5, hFh5⟩ := q6
  refine g_aload_n dX9_copyFrom_33 rfl ?_
  refine gR_X9_32 rfl dX9_copyFrom_34 sh_1 (b := 17) (m_1_3 hMh5) ?_
  refine g_iconst dX9_copyFrom_37 (inR_c rfl) ?_
  refine g_aload_n dX9_copyFrom_38 rfl ?_
  refine gR_X9_32 rfl dX9_copyFrom_39 sh_41 (b := 57) (m_41_3 hMh5) ?_
  refine g_iconst dX9_copyFrom_42 (inR_c rfl) ?_
  refine g_bipush dX9_copyFrom_43 (inR_c rfl) (by decide) ?_
  refine g_acopy dX9_copyFrom_45 ml_X9_65 sh_17 sh_57 (by decide) (by decide) (by decide) (by decide) (by decide) (by decide) (by decide) (fun h7 eh7 => ?_)
  have hFh7 := Fr.cp eh7
  have hMh7 := MBx.cp hMh5 eh7 (by decide) (p0 := (0, 0)) (p := (0, 0)) rfl rfl (by decide) (by decide)
  refine g_aload_n dX9_copyFrom_48 rfl ?_
  refine gR_X9_36 rfl dX9_copyFrom_49 sh_1 (b := 18) (m_1_4 hMh7) ?_
  refine g_iconst dX9_copyFrom_52 (inR_c rfl) ?_
  refine g_aload_n dX9_copyFrom_53 rfl ?_
  refine gR_X9_36 rfl dX9_copyFrom_54 sh_41 (b := 58) (m_41_4 hMh7) ?_
  refine g_iconst dX9_copyFrom_57 (inR_c rfl) ?_
  refine g_bipush dX9_copyFrom_58 (inR_c rfl) (by decide) ?_
  refine g_acopy dX9_copyFrom_60 ml_X9_65 sh_18 sh_58 (by decide) (by decide) (by decide) (by decide) (by decide) (by decide) (by decide) (fun h8 eh8 => ?_)
  have hFh8 := Fr.cp eh8
  have hMh8 := MBx.cp hMh7 eh8 (by decide) (p0 := (0, 0)) (p := (0, 0)) rfl rfl (by decide) (by decide)
  refine g_aload_n dX9_copyFrom_63 rfl ?_
  refine gR_X9_39 rfl dX9_copyFrom_64 sh_1 (b := 19) (m_1_5 hMh8) ?_
  refine g_iconst dX9_copyFrom_67 (inR_c rfl) ?_
  refine g_aload_n dX9_copyFrom_68 rfl ?_
  refine gR_X9_39 rfl dX9_copyFrom_69 sh_41 (b := 59) (m_41_5 hMh8) ?_
  refine g_iconst dX9_copyFrom_72 (inR_c rfl) ?_
  refine g_bipush dX9_copyFrom_73 (inR_c rfl) (by decide) ?_
  refine g_acopy dX9_copyFrom_75 ml_X9_65 sh_19 sh_59 (by decide) (by decide) (by decide) (by decide) (by decide) (by decide) (by decide) (fun h9 eh9 => ?_)
  have hFh9 := Fr.cp eh9
  have hMh9 := MBx.cp hMh8 eh9 (by decide) (p0 := (0, 0)) (p := (0, 0)) rfl rfl (by decide) (by decide)
  refine g_aload_n dX9_copyFrom_78 rfl ?_
  refine g_aload_n dX9_copyFrom_79 rfl ?_
  refine gI_X9_42 rfl dX9_copyFrom_80 sh_1 (m_1_6 hMh9) (fun v10 ev10 bv10 cv10 => ?_)
  refine pI_X9_42 rfl dX9_copyFrom_83 sh_41 (fun h11 eh11 => ?_)
  have hFh11 := Fr.st eh11
  have hMh11 := u_41_6 hMh9 eh11 (by omega) (by omega)
  refine g_aload_n dX9_copyFrom_86 rfl ?_
  refine g_aload_n dX9_copyFrom_87 rfl ?_
  refine gI_X9_46 rfl dX9_copyFrom_88 sh_1 (m_1_7 hMh11) (fun v12 ev12 bv12 cv12 => ?_)
  refine pI_X9_46 rfl dX9_copyFrom_91 sh_41 (fun h13 eh13 => ?_)
  have hFh13 := Fr.st eh13
  have hMh13 := u_41_7 hMh11 eh13 (by omega) (by omega)
  refine g_aload_n dX9_copyFrom_94 rfl ?_
  refine g_aload_n dX9_copyFrom_95 rfl ?_
  refine gI_X9_49 rfl dX9_copyFrom_96 sh_1 (m_1_8 hMh13) (fun v14 ev14 bv14 cv14 => ?_)
  refine pI_X9_49 rfl dX9_copyFrom_99 sh_41 (fun h15 eh15 => ?_)
  have hFh15 := Fr.st eh15
  have hMh15 := u_41_8 hMh13 eh15 (by omega) (by omega)
  exact g_return dX9_copyFrom_102 rfl (hPo _ ⟨hMh15, (Fr.tr (Fr.tr (Fr.tr (Fr.tr (Fr.tr (Fr.tr (Fr.tr (Fr.tr (Fr.sub hFh1 rfl) hFh3 rfl) hFh5 rfl) hFh7 rfl) hFh8 rfl) hFh9 rfl) hFh11 rfl) hFh13 rfl) hFh15 rfl)⟩)
set_option maxRecDepth 100000 in
set_option maxHeartbeats 4000000 in
theorem c_X10_copyFrom_63_61 (h : MEM) (hM : MBx h) : CV yX10_copyFrom cX10_copyFrom 2 (none) 1 [pR 63, pR 61] h (fun h' => MBx h' ∧ Fr [(63, 1), (64, 0)] h h') := by
  refine CV.of (L0 := [some (pR 63), some (pR 61)]) rfl (Nat.le_of_ble_eq_true rfl) rfl (fun Po hPo hav => ?_)
  refine g_aload_n dX10_copyFrom_0 rfl ?_
  refine g_aload_n dX10_copyFrom_1 rfl ?_
  refine gI_X10_9 rfl dX10_copyFrom_2 sh_61 (m_61_0 hM) (fun v1 ev1 bv1 cv1 => ?_)
  refine pI_X10_9 rfl dX10_copyFrom_5 sh_63 (fun h2 eh2 => ?_)
  have hFh2 := Fr.st eh2
  have hMh2 := u_63_0 hM eh2 (by omega) (by omega)
  refine g_aload_n dX10_copyFrom_8 rfl ?_
  refine gR_X10_15 rfl dX10_copyFrom_9 sh_61 (b := 62) (m_61_1 hMh2) ?_
  refine g_iconst dX10_copyFrom_12 (inR_c rfl) ?_
  refine g_aload_n dX10_copyFrom_13 rfl ?_
  refine gR_X10_15 rfl dX10_copyFrom_14 sh_63 (b := 64) (m_63_1 hMh2) ?_
  refine g_iconst dX10_copyFrom_17 (inR_c rfl) ?_
  refine g_sipush dX10_copyFrom_18 (inR_c rfl) (by decide) ?_
  refine g_acopy dX10_copyFrom_21 ml_X10_23 sh_62 sh_64 (by decide) (by decide) (by decide) (by decide) (by decide) (by decide) (by decide) (fun h3 eh3 => ?_)
  have hFh3 := Fr.cp eh3
  have hMh3 := MBx.cp hMh2 eh3 (by decide) (p0 := (0, 255)) (p := (0, 255)) rfl rfl (by decide) (by decide)
  exact g_return dX10_copyFrom_24 rfl (hPo _ ⟨hMh3, (Fr.tr (Fr.sub hFh2 rfl) hFh3 rfl)⟩)
set_option maxRecDepth 100000 in
set_option maxHeartbeats 4000000 in
theorem c_X6_allSlates_2 (h : MEM) (hM : MBx h) : CP yX6_allSlates cX6_allSlates 3 (some .int) 1 [pR 2] h (fun x => 0 ≤ x ∧ x ≤ 0) := by
  refine CP.of (L0 := [some (pR 2), none, none]) rfl (Nat.le_of_ble_eq_true rfl) rfl (fun Po hPo hav => ?_)
  refine g_iconst dX6_allSlates_0 (inR_c rfl) ?_
  refine g_istore_n dX6_allSlates_1 (by decide) rfl ?_
  refine g_iconst dX6_allSlates_2 (inR_c rfl) ?_
  refine g_istore_n dX6_allSlates_3 (by decide) rfl ?_
  refine g_iload_n dX6_allSlates_4 rfl (fun _ => ?_)
  refine g_aload_n dX6_allSlates_5 rfl ?_
  refine gI_X6_9 rfl dX6_allSlates_6 sh_2 (m_2_0 hM) (fun v1 ev1 bv1 cv1 => ?_)
  refine g_icmp_ge 27 dX6_allSlates_9 (by decide) (fun q2 => ?_) (fun _ => by exfalso; omega)
  refine g_iload_n dX6_allSlates_27 rfl (fun _ => ?_)
  exact g_ireturn dX6_allSlates_28 retI (hPo _ ⟨(by omega), (by omega)⟩)
set_option maxRecDepth 100000 in
set_option maxHeartbeats 4000000 in
theorem c_X11_keep_0 (h : MEM) (hM : MBx h) : CI yX11_keep cX11_keep 1 (some .int) 3 [pR 0] h (fun x h' => Fr [(0, 13), (41, 7), (41, 8), (41, 9), (42, 1), (43, 0), (44, 0), (45, 0), (46, 1), (47, 0), (48, 0), (49, 0), (50, 0), (51, 0), (52, 1), (53, 0), (54, 0), (55, 0), (56, 0), (57, 0), (58, 0), (59, 0), (63, 1), (64, 0)] h h' ∧ x = 0) := by
  refine CI.of (L0 := [some (pR 0)]) rfl (Nat.le_of_ble_eq_true rfl) rfl (fun Po hPo hav => ?_)
  refine g_aload_n dX11_keep_0 rfl ?_
  refine gR_X11_19 rfl dX11_keep_1 sh_0 (b := 41) (m_0_2 hM) ?_
  refine g_aload_n dX11_keep_4 rfl ?_
  refine gR_X11_10 rfl dX11_keep_5 sh_0 (b := 1) (m_0_0 hM) ?_
  refine g_cVV (as := [_]) (c_X9_copyFrom_41_1  h hM) dX11_keep_8 mi_X9_copyFrom in_X9_copyFrom se_X9_copyFrom ml_X11_202 rfl rfl rfl sh_41 rfl rfl (Nat.le_of_ble_eq_true rfl) (fun h1 q2 => ?_)
  obtain ⟨hMh1, hFh1⟩ := q2
  refine g_aload_n dX11_keep_11 rfl ?_
  refine gR_X11_29 rfl dX11_keep_12 sh_0 (b := 63) (m_0_4 hMh1) ?_
  refine g_aload_n dX11_keep_15 rfl ?_
  refine gR_X11_25 rfl dX11_keep_16 sh_0 (b := 61) (m_0_3 hMh1) ?_
  refine g_cVV (as := [_]) (c_X10_copyFrom_63_61  h1 hMh1) dX11_keep_19 mi_X10_copyFrom in_X10_copyFrom se_X10_copyFrom ml_X11_303 rfl rfl rfl sh_63 rfl rfl (Nat.le_of_ble_eq_true rfl) (fun h3 q4 => ?_)
  obtain ⟨hMh3, hFh3⟩ := q4
  refine g_aload_n dX11_keep_22 rfl ?_
  refine g_iconst dX11_keep_23 (inR_c rfl) ?_
  refine pI_X11_77 rfl dX11_keep_24 sh_0 (by omega) (fun h5 eh5 => ?_)
  have hFh5 := Fr.st eh5
  have hMh5 := u_0_12 hMh3 eh5 (by omega) (by omega)
  refine g_aload_n dX11_keep_27 rfl ?_
  refine gR_X11_10 rfl dX11_keep_28 sh_0 (b := 1) (m_0_0 hMh5) ?_
  refine gR_X11_85 rfl dX11_keep_31 sh_1 (b := 2) (m_1_0 hMh5) ?_
  refine g_cVP (as := []) (c_X6_allSlates_2  h5 hMh5) dX11_keep_34 mi_X6_allSlates in_X6_allSlates se_X6_allSlates ml_X11_206 rfl rfl rfl sh_2 rfl rfl (Nat.le_of_ble_eq_true rfl) (fun v6 q7 => ?_)
  obtain ⟨bv6, cv6⟩ := q7
  exact g_ireturn dX11_keep_37 retI (hPo _ _ ⟨(Fr.tr (Fr.tr (Fr.sub hFh1 rfl) hFh3 rfl) hFh5 rfl), (by omega)⟩)
set_option maxRecDepth 100000 in
set_option maxHeartbeats 4000000 in
theorem c_X12_setsAside_98_k1 (h : MEM) (hM : MBm h) : CV yX12_setsAside cX12_setsAside 3 (none) 1 [pR 98, pI 1] h (fun h' => MBm h' ∧ Fr [(130, 0), (131, 0), (132, 0), (133, 0), (134, 0), (135, 0), (136, 0), (137, 0), (138, 0), (139, 0), (140, 0), (141, 0), (142, 0), (143, 0), (144, 0), (145, 7), (145, 8), (145, 9), (145, 10), (145, 11), (145, 12)] h h') := by
  refine CV.of (L0 := [some (pR 98), some (pI 1), none]) rfl (Nat.le_of_ble_eq_true rfl) rfl (fun Po hPo hav => ?_)
  refine g_iconst dX12_setsAside_0 (inR_c rfl) ?_
  have c2 : ∀ (n : Nat) (y1 : Int) (h2 : MEM), MBm h2 → Fr [(130, 0), (131, 0), (132, 0)] h h2 → 0 ≤ y1 → y1 ≤ 10 → 10 - y1 < (n : Int) → G yX12_setsAside cX12_setsAside 3 (none) none Po (1, 60, 0, 0) 2 [some (pR 98), some (pI 1), some (pI y1)] [] SH h2 0 0 := by
    intro n
    induction n with
    | zero =>
      intro y1 h2 hMh2 hFh2 by1 dy1 hn
      exfalso; omega
    | succ n ih =>
      intro y1 h2 hMh2 hFh2 by1 dy1 hn
      refine g_iload_n dX12_setsAside_2 rfl (fun _ => ?_)
      refine g_bipush dX12_setsAside_3 (inR_c rfl) (by decide) ?_
      refine g_icmp_ge 65 dX12_setsAside_5 (by decide) (fun q3 => ?_) (fun q3 => ?_)
      · skip
        refine g_iconst dX12_setsAside_65 (inR_c rfl) ?_
        have c67 : ∀ (n : Nat) (y4 : Int) (h5 : MEM), MBm h5 → Fr [(133, 0), (134, 0), (136, 0), (137, 0), (138, 0), (139, 0), (140, 0), (141, 0)] h2 h5 → 0 ≤ y4 → y4 ≤ 8 → 8 - y4 < (n : Int) → G yX12_setsAside cX12_setsAside 3 (none) none Po (1, 60, 0, 0) 67 [some (pR 98), some (pI 1), some (pI y4)] [] SH h5 0 0 := by
          intro n
          induction n with
          | zero =>
            intro y4 h5 hMh5 hFh5 by4 dy4 hn
            exfalso; omega
          | succ n ih =>
            intro y4 h5 hMh5 hFh5 by4 dy4 hn
            refine g_iload_n dX12_setsAside_67 rfl (fun _ => ?_)
            refine g_bipush dX12_setsAside_68 (inR_c rfl) (by decide) ?_
            refine g_icmp_ge 215 dX12_setsAside_70 (by decide) (fun q6 => ?_) (fun q6 => ?_)
            · skip
              refine g_iconst dX12_setsAside_215 (inR_c rfl) ?_
              have c217 : ∀ (n : Nat) (y7 : Int) (h8 : MEM), MBm h8 → Fr [(135, 0)] h5 h8 → 0 ≤ y7 → y7 ≤ 40 → 40 - y7 < (n : Int) → G yX12_setsAside cX12_setsAside 3 (none) none Po (1, 60, 0, 0) 217 [some (pR 98), some (pI 1), some (pI y7)] [] SH h8 0 0 := by
                intro n
                induction n with
                | zero =>
                  intro y7 h8 hMh8 hFh8 by7 dy7 hn
                  exfalso; omega
                | succ n ih =>
                  intro y7 h8 hMh8 hFh8 by7 dy7 hn
                  refine g_iload_n dX12_setsAside_217 rfl (fun _ => ?_)
                  refine g_bipush dX12_setsAside_218 (inR_c rfl) (by decide) ?_
                  refine g_icmp_ge 246 dX12_setsAside_220 (by decide) (fun q9 => ?_) (fun q9 => ?_)
                  · skip
                    refine g_iconst dX12_setsAside_246 (inR_c rfl) ?_
                    have c248 : ∀ (n : Nat) (y10 : Int) (h11 : MEM), MBm h11 → Fr [(142, 0), (143, 0)] h8 h11 → 0 ≤ y10 → y10 ≤ 64 → 64 - y10 < (n : Int) → G yX12_setsAside cX12_setsAside 3 (none) none Po (1, 60, 0, 0) 248 [some (pR 98), some (pI 1), some (pI y10)] [] SH h11 0 0 := by
                      intro n
                      induction n with
                      | zero =>
                        intro y10 h11 hMh11 hFh11 by10 dy10 hn
                        exfalso; omega
                      | succ n ih =>
                        intro y10 h11 hMh11 hFh11 by10 dy10 hn
                        refine g_iload_n dX12_setsAside_248 rfl (fun _ => ?_)
                        refine g_bipush dX12_setsAside_249 (inR_c rfl) (by decide) ?_
                        refine g_icmp_ge 294 dX12_setsAside_251 (by decide) (fun q12 => ?_) (fun q12 => ?_)
                        · skip
                          refine g_iconst dX12_setsAside_294 (inR_c rfl) ?_
                          have c296 : ∀ (n : Nat) (y13 : Int) (h14 : MEM), MBm h14 → Fr [(144, 0)] h11 h14 → 0 ≤ y13 → y13 ≤ 100 → 100 - y13 < (n : Int) → G yX12_setsAside cX12_setsAside 3 (none) none Po (1, 60, 0, 0) 296 [some (pR 98), some (pI 1), some (pI y13)] [] SH h14 0 0 := by
                            intro n
                            induction n with
                            | zero =>
                              intro y13 h14 hMh14 hFh14 by13 dy13 hn
                              exfalso; omega
                            | succ n ih =>
                              intro y13 h14 hMh14 hFh14 by13 dy13 hn
                              refine g_iload_n dX12_setsAside_296 rfl (fun _ => ?_)
                              refine g_bipush dX12_setsAside_297 (inR_c rfl) (by decide) ?_
                              refine g_icmp_ge 325 dX12_setsAside_299 (by decide) (fun q15 => ?_) (fun q15 => ?_)
                              · skip
                                refine g_aload_n dX12_setsAside_325 rfl ?_
                                refine gR_X12_154 rfl dX12_setsAside_326 sh_98 (b := 145) (m_98_70 hMh14) ?_
                                refine g_bipush dX12_setsAside_329 (inR_c rfl) (by decide) ?_
                                refine g_iload_n dX12_setsAside_331 rfl (fun _ => ?_)
                                refine g_imulB dX12_setsAside_332 (by omega) (by omega) ?_
                                refine g_aload_n dX12_setsAside_333 rfl ?_
                                refine gI_X12_172 rfl dX12_setsAside_334 sh_98 (m_98_2 hMh14) (fun v16 ev16 bv16 cv16 => ?_)
                                refine g_iastB dX12_setsAside_337 sh_145 (by omega) (by omega) (fun h17 eh17 => ?_)
                                have hFh17 := Fr.st eh17
                                have hMh17 := u_145_6 hMh14 eh17 (by omega) (by omega)
                                refine g_aload_n dX12_setsAside_338 rfl ?_
                                refine gR_X12_154 rfl dX12_setsAside_339 sh_98 (b := 145) (m_98_70 hMh17) ?_
                                refine g_bipush dX12_setsAside_342 (inR_c rfl) (by decide) ?_
                                refine g_iload_n dX12_setsAside_344 rfl (fun _ => ?_)
                                refine g_imulB dX12_setsAside_345 (by omega) (by omega) ?_
                                refine g_iconst dX12_setsAside_346 (inR_c rfl) ?_
                                refine g_iaddB dX12_setsAside_347 (by omega) (by omega) ?_
                                refine g_aload_n dX12_setsAside_348 rfl ?_
                                refine gI_X12_179 rfl dX12_setsAside_349 sh_98 (m_98_3 hMh17) (fun v18 ev18 bv18 cv18 => ?_)
                                refine g_iastB dX12_setsAside_352 sh_145 (by omega) (by omega) (fun h19 eh19 => ?_)
                                have hFh19 := Fr.st eh19
                                have hMh19 := u_145_7 hMh17 eh19 (by omega) (by omega)
                                refine g_aload_n dX12_setsAside_353 rfl ?_
                                refine gR_X12_154 rfl dX12_setsAside_354 sh_98 (b := 145) (m_98_70 hMh19) ?_
                                refine g_bipush dX12_setsAside_357 (inR_c rfl) (by decide) ?_
                                refine g_iload_n dX12_setsAside_359 rfl (fun _ => ?_)
                                refine g_imulB dX12_setsAside_360 (by omega) (by omega) ?_
                                refine g_iconst dX12_setsAside_361 (inR_c rfl) ?_
                                refine g_iaddB dX12_setsAside_362 (by omega) (by omega) ?_
                                refine g_aload_n dX12_setsAside_363 rfl ?_
                                refine gI_X12_182 rfl dX12_setsAside_364 sh_98 (m_98_4 hMh19) (fun v20 ev20 bv20 cv20 => ?_)
                                refine g_iastB dX12_setsAside_367 sh_145 (by omega) (by omega) (fun h21 eh21 => ?_)
                                have hFh21 := Fr.st eh21
                                have hMh21 := u_145_8 hMh19 eh21 (by omega) (by omega)
                                refine g_aload_n dX12_setsAside_368 rfl ?_
                                refine gR_X12_154 rfl dX12_setsAside_369 sh_98 (b := 145) (m_98_70 hMh21) ?_
                                refine g_bipush dX12_setsAside_372 (inR_c rfl) (by decide) ?_
                                refine g_iload_n dX12_setsAside_374 rfl (fun _ => ?_)
                                refine g_imulB dX12_setsAside_375 (by omega) (by omega) ?_
                                refine g_iconst dX12_setsAside_376 (inR_c rfl) ?_
                                refine g_iaddB dX12_setsAside_377 (by omega) (by omega) ?_
                                refine g_aload_n dX12_setsAside_378 rfl ?_
                                refine gI_X12_334 rfl dX12_setsAside_379 sh_98 (m_98_5 hMh21) (fun v22 ev22 bv22 cv22 => ?_)
                                refine g_iastB dX12_setsAside_382 sh_145 (by omega) (by omega) (fun h23 eh23 => ?_)
                                have hFh23 := Fr.st eh23
                                have hMh23 := u_145_9 hMh21 eh23 (by omega) (by omega)
                                refine g_aload_n dX12_setsAside_383 rfl ?_
                                refine gR_X12_154 rfl dX12_setsAside_384 sh_98 (b := 145) (m_98_70 hMh23) ?_
                                refine g_bipush dX12_setsAside_387 (inR_c rfl) (by decide) ?_
                                refine g_iload_n dX12_setsAside_389 rfl (fun _ => ?_)
                                refine g_imulB dX12_setsAside_390 (by omega) (by omega) ?_
                                refine g_iconst dX12_setsAside_391 (inR_c rfl) ?_
                                refine g_iaddB dX12_setsAside_392 (by omega) (by omega) ?_
                                refine g_aload_n dX12_setsAside_393 rfl ?_
                                refine gI_X12_13 rfl dX12_setsAside_394 sh_98 (m_98_6 hMh23) (fun v24 ev24 bv24 cv24 => ?_)
                                refine g_iastB dX12_setsAside_397 sh_145 (by omega) (by omega) (fun h25 eh25 => ?_)
                                have hFh25 := Fr.st eh25
                                have hMh25 := u_145_10 hMh23 eh25 (by omega) (by omega)
                                refine g_aload_n dX12_setsAside_398 rfl ?_
                                refine gR_X12_154 rfl dX12_setsAside_399 sh_98 (b := 145) (m_98_70 hMh25) ?_
                                refine g_bipush dX12_setsAside_402 (inR_c rfl) (by decide) ?_
                                refine g_iload_n dX12_setsAside_404 rfl (fun _ => ?_)
                                refine g_imulB dX12_setsAside_405 (by omega) (by omega) ?_
                                refine g_iconst dX12_setsAside_406 (inR_c rfl) ?_
                                refine g_iaddB dX12_setsAside_407 (by omega) (by omega) ?_
                                refine g_aload_n dX12_setsAside_408 rfl ?_
                                refine gI_X12_372 rfl dX12_setsAside_409 sh_98 (m_98_7 hMh25) (fun v26 ev26 bv26 cv26 => ?_)
                                refine g_iastB dX12_setsAside_412 sh_145 (by omega) (by omega) (fun h27 eh27 => ?_)
                                have hFh27 := Fr.st eh27
                                have hMh27 := u_145_11 hMh25 eh27 (by omega) (by omega)
                                exact g_return dX12_setsAside_413 rfl (hPo _ ⟨hMh27, (Fr.tr (Fr.tr (Fr.tr (Fr.tr (Fr.tr (Fr.tr (Fr.tr (Fr.tr (Fr.tr (Fr.tr (Fr.sub hFh2 rfl) hFh5 rfl) hFh8 rfl) hFh11 rfl) hFh14 rfl) hFh17 rfl) hFh19 rfl) hFh21 rfl) hFh23 rfl) hFh25 rfl) hFh27 rfl)⟩)
                              · skip
                                refine g_aload_n dX12_setsAside_302 rfl ?_
                                refine gR_X12_151 rfl dX12_setsAside_303 sh_98 (b := 144) (m_98_69 hMh14) ?_
                                refine g_bipush dX12_setsAside_306 (inR_c rfl) (by decide) ?_
                                refine g_iload_n dX12_setsAside_308 rfl (fun _ => ?_)
                                refine g_imulB dX12_setsAside_309 (by omega) (by omega) ?_
                                refine g_iload_n dX12_setsAside_310 rfl (fun _ => ?_)
                                refine g_iaddB dX12_setsAside_311 (by omega) (by omega) ?_
                                refine g_aload_n dX12_setsAside_312 rfl ?_
                                refine gR_X12_61 rfl dX12_setsAside_313 sh_98 (b := 114) (m_98_22 hMh14) ?_
                                refine g_iload_n dX12_setsAside_316 rfl (fun _ => ?_)
                                refine g_zaldB dX12_setsAside_317 sh_114 (by omega) (by omega) (m_114 hMh14 _) (fun v28 ev28 bv28 cv28 => ?_)
                                refine g_zastB dX12_setsAside_318 sh_144 (by omega) (by omega) (by omega) (fun h29 eh29 => ?_)
                                have hFh29 := Fr.ar eh29
                                have hMh29 := u_144 hMh14 eh29 (by omega) (by omega)
                                refine g_iincB dX12_setsAside_319 rfl rfl (by omega) (by omega) ?_
                                refine g_goto 296 dX12_setsAside_322 (by decide) ?_
                                exact ih _ _ hMh29 (Fr.tr (Fr.sub hFh14 rfl) hFh29 rfl) (by omega) (by omega) (by omega)
                          refine g_istore_n dX12_setsAside_295 (by decide) rfl ?_
                          exact c296 101 _ _ hMh11 Fr.rf (by omega) (by omega) (by omega)
                        · skip
                          refine g_aload_n dX12_setsAside_254 rfl ?_
                          refine gR_X12_145 rfl dX12_setsAside_255 sh_98 (b := 142) (m_98_67 hMh11) ?_
                          refine g_bipush dX12_setsAside_258 (inR_c rfl) (by decide) ?_
                          refine g_iload_n dX12_setsAside_260 rfl (fun _ => ?_)
                          refine g_imulB dX12_setsAside_261 (by omega) (by omega) ?_
                          refine g_iload_n dX12_setsAside_262 rfl (fun _ => ?_)
                          refine g_iaddB dX12_setsAside_263 (by omega) (by omega) ?_
                          refine g_aload_n dX12_setsAside_264 rfl ?_
                          refine gR_X12_55 rfl dX12_setsAside_265 sh_98 (b := 112) (m_98_20 hMh11) ?_
                          refine g_iload_n dX12_setsAside_268 rfl (fun _ => ?_)
                          refine g_ialdB dX12_setsAside_269 sh_112 (by omega) (by omega) (m_112 hMh11 _) (fun v30 ev30 bv30 cv30 => ?_)
                          refine g_iastB dX12_setsAside_270 sh_142 (by omega) (by omega) (fun h31 eh31 => ?_)
                          have hFh31 := Fr.ar eh31
                          have hMh31 := u_142 hMh11 eh31 (by omega) (by omega)
                          refine g_aload_n dX12_setsAside_271 rfl ?_
                          refine gR_X12_148 rfl dX12_setsAside_272 sh_98 (b := 143) (m_98_68 hMh31) ?_
                          refine g_bipush dX12_setsAside_275 (inR_c rfl) (by decide) ?_
                          refine g_iload_n dX12_setsAside_277 rfl (fun _ => ?_)
                          refine g_imulB dX12_setsAside_278 (by omega) (by omega) ?_
                          refine g_iload_n dX12_setsAside_279 rfl (fun _ => ?_)
                          refine g_iaddB dX12_setsAside_280 (by omega) (by omega) ?_
                          refine g_aload_n dX12_setsAside_281 rfl ?_
                          refine gR_X12_58 rfl dX12_setsAside_282 sh_98 (b := 113) (m_98_21 hMh31) ?_
                          refine g_iload_n dX12_setsAside_285 rfl (fun _ => ?_)
                          refine g_ialdB dX12_setsAside_286 sh_113 (by omega) (by omega) (m_113 hMh31 _) (fun v32 ev32 bv32 cv32 => ?_)
                          refine g_iastB dX12_setsAside_287 sh_143 (by omega) (by omega) (fun h33 eh33 => ?_)
                          have hFh33 := Fr.ar eh33
                          have hMh33 := u_143 hMh31 eh33 (by omega) (by omega)
                          refine g_iincB dX12_setsAside_288 rfl rfl (by omega) (by omega) ?_
                          refine g_goto 248 dX12_setsAside_291 (by decide) ?_
                          exact ih _ _ hMh33 (Fr.tr (Fr.tr (Fr.sub hFh11 rfl) hFh31 rfl) hFh33 rfl) (by omega) (by omega) (by omega)
                    refine g_istore_n dX12_setsAside_247 (by decide) rfl ?_
                    exact c248 65 _ _ hMh8 Fr.rf (by omega) (by omega) (by omega)
                  · skip
                    refine g_aload_n dX12_setsAside_223 rfl ?_
                    refine gR_X12_124 rfl dX12_setsAside_224 sh_98 (b := 135) (m_98_60 hMh8) ?_
                    refine g_bipush dX12_setsAside_227 (inR_c rfl) (by decide) ?_
                    refine g_iload_n dX12_setsAside_229 rfl (fun _ => ?_)
                    refine g_imulB dX12_setsAside_230 (by omega) (by omega) ?_
                    refine g_iload_n dX12_setsAside_231 rfl (fun _ => ?_)
                    refine g_iaddB dX12_setsAside_232 (by omega) (by omega) ?_
                    refine g_aload_n dX12_setsAside_233 rfl ?_
                    refine gR_X12_33 rfl dX12_setsAside_234 sh_98 (b := 105) (m_98_13 hMh8) ?_
                    refine g_iload_n dX12_setsAside_237 rfl (fun _ => ?_)
                    refine g_ialdB dX12_setsAside_238 sh_105 (by omega) (by omega) (m_105 hMh8 _) (fun v34 ev34 bv34 cv34 => ?_)
                    refine g_iastB dX12_setsAside_239 sh_135 (by omega) (by omega) (fun h35 eh35 => ?_)
                    have hFh35 := Fr.ar eh35
                    have hMh35 := u_135 hMh8 eh35 (by omega) (by omega)
                    refine g_iincB dX12_setsAside_240 rfl rfl (by omega) (by omega) ?_
                    refine g_goto 217 dX12_setsAside_243 (by decide) ?_
                    exact ih _ _ hMh35 (Fr.tr (Fr.sub hFh8 rfl) hFh35 rfl) (by omega) (by omega) (by omega)
              refine g_istore_n dX12_setsAside_216 (by decide) rfl ?_
              exact c217 41 _ _ hMh5 Fr.rf (by omega) (by omega) (by omega)
            · skip
              refine g_aload_n dX12_setsAside_73 rfl ?_
              refine gR_X12_118 rfl dX12_setsAside_74 sh_98 (b := 133) (m_98_58 hMh5) ?_
              refine g_bipush dX12_setsAside_77 (inR_c rfl) (by decide) ?_
              refine g_iload_n dX12_setsAside_79 rfl (fun _ => ?_)
              refine g_imulB dX12_setsAside_80 (by omega) (by omega) ?_
              refine g_iload_n dX12_setsAside_81 rfl (fun _ => ?_)
              refine g_iaddB dX12_setsAside_82 (by omega) (by omega) ?_
              refine g_aload_n dX12_setsAside_83 rfl ?_
              refine gR_X12_27 rfl dX12_setsAside_84 sh_98 (b := 103) (m_98_11 hMh5) ?_
              refine g_iload_n dX12_setsAside_87 rfl (fun _ => ?_)
              refine g_ialdB dX12_setsAside_88 sh_103 (by omega) (by omega) (m_103 hMh5 _) (fun v36 ev36 bv36 cv36 => ?_)
              refine g_iastB dX12_setsAside_89 sh_133 (by omega) (by omega) (fun h37 eh37 => ?_)
              have hFh37 := Fr.ar eh37
              have hMh37 := u_133 hMh5 eh37 (by omega) (by omega)
              refine g_aload_n dX12_setsAside_90 rfl ?_
              refine gR_X12_121 rfl dX12_setsAside_91 sh_98 (b := 134) (m_98_59 hMh37) ?_
              refine g_bipush dX12_setsAside_94 (inR_c rfl) (by decide) ?_
              refine g_iload_n dX12_setsAside_96 rfl (fun _ => ?_)
              refine g_imulB dX12_setsAside_97 (by omega) (by omega) ?_
              refine g_iload_n dX12_setsAside_98 rfl (fun _ => ?_)
              refine g_iaddB dX12_setsAside_99 (by omega) (by omega) ?_
              refine g_aload_n dX12_setsAside_100 rfl ?_
              refine gR_X12_30 rfl dX12_setsAside_101 sh_98 (b := 104) (m_98_12 hMh37) ?_
              refine g_iload_n dX12_setsAside_104 rfl (fun _ => ?_)
              refine g_ialdB dX12_setsAside_105 sh_104 (by omega) (by omega) (m_104 hMh37 _) (fun v38 ev38 bv38 cv38 => ?_)
              refine g_iastB dX12_setsAside_106 sh_134 (by omega) (by omega) (fun h39 eh39 => ?_)
              have hFh39 := Fr.ar eh39
              have hMh39 := u_134 hMh37 eh39 (by omega) (by omega)
              refine g_aload_n dX12_setsAside_107 rfl ?_
              refine gR_X12_127 rfl dX12_setsAside_108 sh_98 (b := 136) (m_98_61 hMh39) ?_
              refine g_bipush dX12_setsAside_111 (inR_c rfl) (by decide) ?_
              refine g_iload_n dX12_setsAside_113 rfl (fun _ => ?_)
              refine g_imulB dX12_setsAside_114 (by omega) (by omega) ?_
              refine g_iload_n dX12_setsAside_115 rfl (fun _ => ?_)
              refine g_iaddB dX12_setsAside_116 (by omega) (by omega) ?_
              refine g_aload_n dX12_setsAside_117 rfl ?_
              refine gR_X12_36 rfl dX12_setsAside_118 sh_98 (b := 106) (m_98_14 hMh39) ?_
              refine g_iload_n dX12_setsAside_121 rfl (fun _ => ?_)
              refine g_zaldB dX12_setsAside_122 sh_106 (by omega) (by omega) (m_106 hMh39 _) (fun v40 ev40 bv40 cv40 => ?_)
              refine g_zastB dX12_setsAside_123 sh_136 (by omega) (by omega) (by omega) (fun h41 eh41 => ?_)
              have hFh41 := Fr.ar eh41
              have hMh41 := u_136 hMh39 eh41 (by omega) (by omega)
              refine g_aload_n dX12_setsAside_124 rfl ?_
              refine gR_X12_130 rfl dX12_setsAside_125 sh_98 (b := 137) (m_98_62 hMh41) ?_
              refine g_bipush dX12_setsAside_128 (inR_c rfl) (by decide) ?_
              refine g_iload_n dX12_setsAside_130 rfl (fun _ => ?_)
              refine g_imulB dX12_setsAside_131 (by omega) (by omega) ?_
              refine g_iload_n dX12_setsAside_132 rfl (fun _ => ?_)
              refine g_iaddB dX12_setsAside_133 (by omega) (by omega) ?_
              refine g_aload_n dX12_setsAside_134 rfl ?_
              refine gR_X12_40 rfl dX12_setsAside_135 sh_98 (b := 107) (m_98_15 hMh41) ?_
              refine g_iload_n dX12_setsAside_138 rfl (fun _ => ?_)
              refine g_ialdB dX12_setsAside_139 sh_107 (by omega) (by omega) (m_107 hMh41 _) (fun v42 ev42 bv42 cv42 => ?_)
              refine g_iastB dX12_setsAside_140 sh_137 (by omega) (by omega) (fun h43 eh43 => ?_)
              have hFh43 := Fr.ar eh43
              have hMh43 := u_137 hMh41 eh43 (by omega) (by omega)
              refine g_aload_n dX12_setsAside_141 rfl ?_
              refine gR_X12_133 rfl dX12_setsAside_142 sh_98 (b := 138) (m_98_63 hMh43) ?_
              refine g_bipush dX12_setsAside_145 (inR_c rfl) (by decide) ?_
              refine g_iload_n dX12_setsAside_147 rfl (fun _ => ?_)
              refine g_imulB dX12_setsAside_148 (by omega) (by omega) ?_
              refine g_iload_n dX12_setsAside_149 rfl (fun _ => ?_)
              refine g_iaddB dX12_setsAside_150 (by omega) (by omega) ?_
              refine g_aload_n dX12_setsAside_151 rfl ?_
              refine gR_X12_43 rfl dX12_setsAside_152 sh_98 (b := 108) (m_98_16 hMh43) ?_
              refine g_iload_n dX12_setsAside_155 rfl (fun _ => ?_)
              refine g_ialdB dX12_setsAside_156 sh_108 (by omega) (by omega) (m_108 hMh43 _) (fun v44 ev44 bv44 cv44 => ?_)
              refine g_iastB dX12_setsAside_157 sh_138 (by omega) (by omega) (fun h45 eh45 => ?_)
              have hFh45 := Fr.ar eh45
              have hMh45 := u_138 hMh43 eh45 (by omega) (by omega)
              refine g_aload_n dX12_setsAside_158 rfl ?_
              refine gR_X12_136 rfl dX12_setsAside_159 sh_98 (b := 139) (m_98_64 hMh45) ?_
              refine g_bipush dX12_setsAside_162 (inR_c rfl) (by decide) ?_
              refine g_iload_n dX12_setsAside_164 rfl (fun _ => ?_)
              refine g_imulB dX12_setsAside_165 (by omega) (by omega) ?_
              refine g_iload_n dX12_setsAside_166 rfl (fun _ => ?_)
              refine g_iaddB dX12_setsAside_167 (by omega) (by omega) ?_
              refine g_aload_n dX12_setsAside_168 rfl ?_
              refine gR_X12_46 rfl dX12_setsAside_169 sh_98 (b := 109) (m_98_17 hMh45) ?_
              refine g_iload_n dX12_setsAside_172 rfl (fun _ => ?_)
              refine g_ialdB dX12_setsAside_173 sh_109 (by omega) (by omega) (m_109 hMh45 _) (fun v46 ev46 bv46 cv46 => ?_)
              refine g_iastB dX12_setsAside_174 sh_139 (by omega) (by omega) (fun h47 eh47 => ?_)
              have hFh47 := Fr.ar eh47
              have hMh47 := u_139 hMh45 eh47 (by omega) (by omega)
              refine g_aload_n dX12_setsAside_175 rfl ?_
              refine gR_X12_139 rfl dX12_setsAside_176 sh_98 (b := 140) (m_98_65 hMh47) ?_
              refine g_bipush dX12_setsAside_179 (inR_c rfl) (by decide) ?_
              refine g_iload_n dX12_setsAside_181 rfl (fun _ => ?_)
              refine g_imulB dX12_setsAside_182 (by omega) (by omega) ?_
              refine g_iload_n dX12_setsAside_183 rfl (fun _ => ?_)
              refine g_iaddB dX12_setsAside_184 (by omega) (by omega) ?_
              refine g_aload_n dX12_setsAside_185 rfl ?_
              refine gR_X12_49 rfl dX12_setsAside_186 sh_98 (b := 110) (m_98_18 hMh47) ?_
              refine g_iload_n dX12_setsAside_189 rfl (fun _ => ?_)
              refine g_zaldB dX12_setsAside_190 sh_110 (by omega) (by omega) (m_110 hMh47 _) (fun v48 ev48 bv48 cv48 => ?_)
              refine g_zastB dX12_setsAside_191 sh_140 (by omega) (by omega) (by omega) (fun h49 eh49 => ?_)
              have hFh49 := Fr.ar eh49
              have hMh49 := u_140 hMh47 eh49 (by omega) (by omega)
              refine g_aload_n dX12_setsAside_192 rfl ?_
              refine gR_X12_142 rfl dX12_setsAside_193 sh_98 (b := 141) (m_98_66 hMh49) ?_
              refine g_bipush dX12_setsAside_196 (inR_c rfl) (by decide) ?_
              refine g_iload_n dX12_setsAside_198 rfl (fun _ => ?_)
              refine g_imulB dX12_setsAside_199 (by omega) (by omega) ?_
              refine g_iload_n dX12_setsAside_200 rfl (fun _ => ?_)
              refine g_iaddB dX12_setsAside_201 (by omega) (by omega) ?_
              refine g_aload_n dX12_setsAside_202 rfl ?_
              refine gR_X12_52 rfl dX12_setsAside_203 sh_98 (b := 111) (m_98_19 hMh49) ?_
              refine g_iload_n dX12_setsAside_206 rfl (fun _ => ?_)
              refine g_ialdB dX12_setsAside_207 sh_111 (by omega) (by omega) (m_111 hMh49 _) (fun v50 ev50 bv50 cv50 => ?_)
              refine g_iastB dX12_setsAside_208 sh_141 (by omega) (by omega) (fun h51 eh51 => ?_)
              have hFh51 := Fr.ar eh51
              have hMh51 := u_141 hMh49 eh51 (by omega) (by omega)
              refine g_iincB dX12_setsAside_209 rfl rfl (by omega) (by omega) ?_
              refine g_goto 67 dX12_setsAside_212 (by decide) ?_
              exact ih _ _ hMh51 (Fr.tr (Fr.tr (Fr.tr (Fr.tr (Fr.tr (Fr.tr (Fr.tr (Fr.tr (Fr.sub hFh5 rfl) hFh37 rfl) hFh39 rfl) hFh41 rfl) hFh43 rfl) hFh45 rfl) hFh47 rfl) hFh49 rfl) hFh51 rfl) (by omega) (by omega) (by omega)
        refine g_istore_n dX12_setsAside_66 (by decide) rfl ?_
        exact c67 9 _ _ hMh2 Fr.rf (by omega) (by omega) (by omega)
      · skip
        refine g_aload_n dX12_setsAside_8 rfl ?_
        refine gR_X12_109 rfl dX12_setsAside_9 sh_98 (b := 130) (m_98_55 hMh2) ?_
        refine g_bipush dX12_setsAside_12 (inR_c rfl) (by decide) ?_
        refine g_iload_n dX12_setsAside_14 rfl (fun _ => ?_)
        refine g_imulB dX12_setsAside_15 (by omega) (by omega) ?_
        refine g_iload_n dX12_setsAside_16 rfl (fun _ => ?_)
        refine g_iaddB dX12_setsAside_17 (by omega) (by omega) ?_
        refine g_aload_n dX12_setsAside_18 rfl ?_
        refine gR_X12_17 rfl dX12_setsAside_19 sh_98 (b := 100) (m_98_8 hMh2) ?_
        refine g_iload_n dX12_setsAside_22 rfl (fun _ => ?_)
        refine g_ialdB dX12_setsAside_23 sh_100 (by omega) (by omega) (m_100 hMh2 _) (fun v52 ev52 bv52 cv52 => ?_)
        refine g_iastB dX12_setsAside_24 sh_130 (by omega) (by omega) (fun h53 eh53 => ?_)
        have hFh53 := Fr.ar eh53
        have hMh53 := u_130 hMh2 eh53 (by omega) (by omega)
        refine g_aload_n dX12_setsAside_25 rfl ?_
        refine gR_X12_112 rfl dX12_setsAside_26 sh_98 (b := 131) (m_98_56 hMh53) ?_
        refine g_bipush dX12_setsAside_29 (inR_c rfl) (by decide) ?_
        refine g_iload_n dX12_setsAside_31 rfl (fun _ => ?_)
        refine g_imulB dX12_setsAside_32 (by omega) (by omega) ?_
        refine g_iload_n dX12_setsAside_33 rfl (fun _ => ?_)
        refine g_iaddB dX12_setsAside_34 (by omega) (by omega) ?_
        refine g_aload_n dX12_setsAside_35 rfl ?_
        refine gR_X12_21 rfl dX12_setsAside_36 sh_98 (b := 101) (m_98_9 hMh53) ?_
        refine g_iload_n dX12_setsAside_39 rfl (fun _ => ?_)
        refine g_ialdB dX12_setsAside_40 sh_101 (by omega) (by omega) (m_101 hMh53 _) (fun v54 ev54 bv54 cv54 => ?_)
        refine g_iastB dX12_setsAside_41 sh_131 (by omega) (by omega) (fun h55 eh55 => ?_)
        have hFh55 := Fr.ar eh55
        have hMh55 := u_131 hMh53 eh55 (by omega) (by omega)
        refine g_aload_n dX12_setsAside_42 rfl ?_
        refine gR_X12_115 rfl dX12_setsAside_43 sh_98 (b := 132) (m_98_57 hMh55) ?_
        refine g_bipush dX12_setsAside_46 (inR_c rfl) (by decide) ?_
        refine g_iload_n dX12_setsAside_48 rfl (fun _ => ?_)
        refine g_imulB dX12_setsAside_49 (by omega) (by omega) ?_
        refine g_iload_n dX12_setsAside_50 rfl (fun _ => ?_)
        refine g_iaddB dX12_setsAside_51 (by omega) (by omega) ?_
        refine g_aload_n dX12_setsAside_52 rfl ?_
        refine gR_X12_24 rfl dX12_setsAside_53 sh_98 (b := 102) (m_98_10 hMh55) ?_
        refine g_iload_n dX12_setsAside_56 rfl (fun _ => ?_)
        refine g_ialdB dX12_setsAside_57 sh_102 (by omega) (by omega) (m_102 hMh55 _) (fun v56 ev56 bv56 cv56 => ?_)
        refine g_iastB dX12_setsAside_58 sh_132 (by omega) (by omega) (fun h57 eh57 => ?_)
        have hFh57 := Fr.ar eh57
        have hMh57 := u_132 hMh55 eh57 (by omega) (by omega)
        refine g_iincB dX12_setsAside_59 rfl rfl (by omega) (by omega) ?_
        refine g_goto 2 dX12_setsAside_62 (by decide) ?_
        exact ih _ _ hMh57 (Fr.tr (Fr.tr (Fr.tr (Fr.sub hFh2 rfl) hFh53 rfl) hFh55 rfl) hFh57 rfl) (by omega) (by omega) (by omega)
  refine g_istore_n dX12_setsAside_1 (by decide) rfl ?_
  exact c2 11 _ _ hM Fr.rf (by omega) (by omega) (by omega)
set_option maxRecDepth 100000 in
set_option maxHeartbeats 4000000 in
theorem c_X12_keep_98 (h : MEM) (hM : MBm h) : CI yX12_keep cX12_keep 1 (some .int) 2 [pR 98] h (fun x h' => Fr [(98, 80), (130, 0), (131, 0), (132, 0), (133, 0), (134, 0), (135, 0), (136, 0), (137, 0), (138, 0), (139, 0), (140, 0), (141, 0), (142, 0), (143, 0), (144, 0), (145, 7), (145, 8), (145, 9), (145, 10), (145, 11), (145, 12)] h h' ∧ x = 0) := by
  refine CI.of (L0 := [some (pR 98)]) rfl (Nat.le_of_ble_eq_true rfl) rfl (fun Po hPo hav => ?_)
  refine g_aload_n dX12_keep_0 rfl ?_
  refine g_iconst dX12_keep_1 (inR_c rfl) ?_
  refine pI_X12_506 rfl dX12_keep_2 sh_98 (by omega) (fun h1 eh1 => ?_)
  have hFh1 := Fr.st eh1
  have hMh1 := u_98_79 hM eh1 (by omega) (by omega)
  refine g_aload_n dX12_keep_5 rfl ?_
  refine g_iconst dX12_keep_6 (inR_c rfl) ?_
  refine g_cVV (as := [_]) (c_X12_setsAside_98_k1  h1 hMh1) dX12_keep_7 mi_X12_setsAside in_X12_setsAside se_X12_setsAside ml_X12_419 rfl rfl rfl sh_98 rfl rfl (Nat.le_of_ble_eq_true rfl) (fun h2 q3 => ?_)
  obtain ⟨hMh2, hFh2⟩ := q3
  refine g_aload_n dX12_keep_10 rfl ?_
  refine g_cVP (as := []) (c_X12_allSlates_98  h2 hMh2) dX12_keep_11 mi_X12_allSlates in_X12_allSlates se_X12_allSlates ml_X12_422 rfl rfl rfl sh_98 rfl rfl (Nat.le_of_ble_eq_true rfl) (fun v4 q5 => ?_)
  obtain ⟨bv4, cv4⟩ := q5
  exact g_ireturn dX12_keep_14 retI (hPo _ _ ⟨(Fr.tr (Fr.sub hFh1 rfl) hFh2 rfl), (by omega)⟩)
set_option maxRecDepth 100000 in
set_option maxHeartbeats 4000000 in
theorem c_X11_undo_0 (h : MEM) (hM : MBx h) (p0_0 : 0 ≤ h 0 12) (p0_1 : h 0 12 ≤ 0) : CP yX11_undo cX11_undo 1 (some .boolean) 1 [pR 0] h (fun x => x = 0) := by
  refine CP.of (L0 := [some (pR 0)]) rfl (Nat.le_of_ble_eq_true rfl) rfl (fun Po hPo hav => ?_)
  obtain ⟨w0_12, ew0_12⟩ : ∃ z, z = h 0 12 := ⟨_, rfl⟩
  refine g_aload_n dX11_undo_0 rfl ?_
  refine gE_X11_77 rfl dX11_undo_1 sh_0 ew0_12.symm ?_
  refine g_if_ne 9 dX11_undo_4 (by decide) (fun _ => by exfalso; omega) (fun q1 => ?_)
  refine g_iconst dX11_undo_7 (inR_c rfl) ?_
  exact g_ireturn dX11_undo_8 (retZ (by omega)) (hPo _ (by omega))
set_option maxRecDepth 100000 in
set_option maxHeartbeats 4000000 in
theorem c_X12_undo_98 (h : MEM) (hM : MBm h) (p0_0 : 0 ≤ h 98 79) (p0_1 : h 98 79 ≤ 0) : CP yX12_undo cX12_undo 1 (some .boolean) 1 [pR 98] h (fun x => x = 0) := by
  refine CP.of (L0 := [some (pR 98)]) rfl (Nat.le_of_ble_eq_true rfl) rfl (fun Po hPo hav => ?_)
  obtain ⟨w98_79, ew98_79⟩ : ∃ z, z = h 98 79 := ⟨_, rfl⟩
  refine g_aload_n dX12_undo_0 rfl ?_
  refine gE_X12_506 rfl dX12_undo_1 sh_98 ew98_79.symm ?_
  refine g_if_ne 9 dX12_undo_4 (by decide) (fun _ => by exfalso; omega) (fun q1 => ?_)
  refine g_iconst dX12_undo_7 (inR_c rfl) ?_
  exact g_ireturn dX12_undo_8 (retZ (by omega)) (hPo _ (by omega))
set_option maxRecDepth 100000 in
set_option maxHeartbeats 4000000 in
theorem c_X11_check_0 (x1 : Int) (h : MEM) (hM : MBx h) (bx1 : -2147483648 ≤ x1) (dx1 : x1 ≤ 2147483647) (p0_0 : 0 ≤ h 61 0) (p0_1 : h 61 0 ≤ 0) : CI yX11_check cX11_check 3 (some .int) 2 [pR 0, pI x1] h (fun x h' => Fr [(61, 1)] h h' ∧ ((x1 = 0) ∧ x = -1 ∨ ¬ (x1 = 0) ∧ x = -2)) := by
  refine CI.of (L0 := [some (pR 0), some (pI x1), none]) rfl (Nat.le_of_ble_eq_true rfl) rfl (fun Po hPo hav => ?_)
  obtain ⟨w61_0, ew61_0⟩ : ∃ z, z = h 61 0 := ⟨_, rfl⟩
  refine g_iload_n dX11_check_0 rfl (fun _ => ?_)
  refine g_iconst dX11_check_1 (inR_c rfl) ?_
  refine g_bipush dX11_check_2 (inR_c rfl) (by decide) ?_
  refine g_cSP (av := [_, _, _]) (c_X11_isWithin _ _ _ h hM (by omega) (by omega) (by omega) (by omega) (by omega) (by omega)) dX11_check_4 mi_X11_isWithin st_X11_isWithin ml_X11_81 rfl rfl rfl rfl (Nat.le_of_ble_eq_true rfl) (fun v1 q2 => ?_)
  rcases q2 with ⟨rfl, q2⟩ | ⟨rfl, q2⟩
  · skip
    refine g_if_eq 23 dX11_check_7 (by decide) (fun _ => by exfalso; omega) (fun q3 => ?_)
    refine g_aload_n dX11_check_10 rfl ?_
    refine gR_X11_25 rfl dX11_check_11 sh_0 (b := 61) (m_0_3 hM) ?_
    refine gE_X11_140 rfl dX11_check_14 sh_61 ew61_0.symm ?_
    refine g_iconst dX11_check_17 (inR_c rfl) ?_
    refine g_iload_n dX11_check_18 rfl (fun _ => ?_)
    refine g_imulB dX11_check_19 (by omega) (by omega) ?_
    refine g_icmp_ge 26 dX11_check_20 (by decide) (fun q4 => ?_) (fun q4 => ?_)
    · skip
      refine g_aload_n dX11_check_26 rfl ?_
      refine gR_X11_25 rfl dX11_check_27 sh_0 (b := 61) (m_0_3 hM) ?_
      refine g_iconst dX11_check_30 (inR_c rfl) ?_
      refine pI_X11_140 rfl dX11_check_31 sh_61 (fun h5 eh5 => ?_)
      have hFh5 := Fr.st eh5
      have hMh5 := u_61_0 hM eh5 (by omega) (by omega)
      refine g_iconst dX11_check_34 (inR_c rfl) ?_
      refine g_istore_n dX11_check_35 (by decide) rfl ?_
      refine g_iload_n dX11_check_36 rfl (fun _ => ?_)
      refine g_iload_n dX11_check_37 rfl (fun _ => ?_)
      refine g_icmp_ge 88 dX11_check_38 (by decide) (fun q6 => ?_) (fun _ => by exfalso; omega)
      refine g_iconst dX11_check_88 (inR_c rfl) ?_
      exact g_ireturn dX11_check_89 retI (hPo _ _ ⟨(Fr.sub hFh5 rfl), (by omega)⟩)
    · skip
      refine g_bipush dX11_check_23 (inR_c rfl) (by decide) ?_
      exact g_ireturn dX11_check_25 retI (hPo _ _ ⟨Fr.rf, (by omega)⟩)
  · skip
    refine g_if_eq 23 dX11_check_7 (by decide) (fun q7 => ?_) (fun _ => by exfalso; omega)
    refine g_bipush dX11_check_23 (inR_c rfl) (by decide) ?_
    exact g_ireturn dX11_check_25 retI (hPo _ _ ⟨Fr.rf, (by omega)⟩)
set_option maxRecDepth 100000 in
set_option maxHeartbeats 4000000 in
theorem c_X12_check_98 (x1 : Int) (h : MEM) (hM : MBm h) (bx1 : -2147483648 ≤ x1) (dx1 : x1 ≤ 2147483647) (p0_0 : 0 ≤ h 98 1) (p0_1 : h 98 1 ≤ 0) : CI yX12_check cX12_check 3 (some .int) 2 [pR 98, pI x1] h (fun x h' => Fr [(98, 2)] h h' ∧ ((x1 = 0) ∧ x = -1 ∨ ¬ (x1 = 0) ∧ x = -2)) := by
  refine CI.of (L0 := [some (pR 98), some (pI x1), none]) rfl (Nat.le_of_ble_eq_true rfl) rfl (fun Po hPo hav => ?_)
  obtain ⟨w98_1, ew98_1⟩ : ∃ z, z = h 98 1 := ⟨_, rfl⟩
  refine g_iload_n dX12_check_0 rfl (fun _ => ?_)
  refine g_i2l dX12_check_1 ?_
  refine g_lconst (v := 0) dX12_check_2 rfl ?_
  refine g_ldc2 (v := 10) dX12_check_3 kl_X12_410 (by decide) ?_
  refine g_cSP (av := [_, _, _]) (c_X12_lies _ _ _ h hM (by omega) (by omega) (by omega) (by omega) (by omega) (by omega)) dX12_check_6 mi_X12_lies st_X12_lies ml_X12_175 rfl rfl rfl rfl (Nat.le_of_ble_eq_true rfl) (fun v1 q2 => ?_)
  rcases q2 with ⟨rfl, q2⟩ | ⟨rfl, q2⟩
  · skip
    refine g_if_eq 22 dX12_check_9 (by decide) (fun _ => by exfalso; omega) (fun q3 => ?_)
    refine g_iload_n dX12_check_12 rfl (fun _ => ?_)
    refine g_aload_n dX12_check_13 rfl ?_
    refine gE_X12_204 rfl dX12_check_14 sh_98 ew98_1.symm ?_
    refine g_iconst dX12_check_17 (inR_c rfl) ?_
    refine g_idivX (lo := 0) (hi := 0) dX12_check_18 (by omega) (idiv_b (by omega) (by omega) (by omega)) (fun v4 bv4 cv4 => ?_)
    refine g_icmp_le 25 dX12_check_19 (by decide) (fun q5 => ?_) (fun q5 => ?_)
    · skip
      refine g_aload_n dX12_check_25 rfl ?_
      refine g_iconst dX12_check_26 (inR_c rfl) ?_
      refine pI_X12_204 rfl dX12_check_27 sh_98 (fun h6 eh6 => ?_)
      have hFh6 := Fr.st eh6
      have hMh6 := u_98_1 hM eh6 (by omega) (by omega)
      refine g_iconst dX12_check_30 (inR_c rfl) ?_
      refine g_istore_n dX12_check_31 (by decide) rfl ?_
      refine g_iload_n dX12_check_32 rfl (fun _ => ?_)
      refine g_iload_n dX12_check_33 rfl (fun _ => ?_)
      refine g_icmp_ge 67 dX12_check_34 (by decide) (fun q7 => ?_) (fun _ => by exfalso; omega)
      refine g_iconst dX12_check_67 (inR_c rfl) ?_
      exact g_ireturn dX12_check_68 retI (hPo _ _ ⟨(Fr.sub hFh6 rfl), (by omega)⟩)
    · skip
      refine g_bipush dX12_check_22 (inR_c rfl) (by decide) ?_
      exact g_ireturn dX12_check_24 retI (hPo _ _ ⟨Fr.rf, (by omega)⟩)
  · skip
    refine g_if_eq 22 dX12_check_9 (by decide) (fun q8 => ?_) (fun _ => by exfalso; omega)
    refine g_bipush dX12_check_22 (inR_c rfl) (by decide) ?_
    exact g_ireturn dX12_check_24 retI (hPo _ _ ⟨Fr.rf, (by omega)⟩)
set_option maxRecDepth 100000 in
set_option maxHeartbeats 4000000 in
theorem c_X4_allBruises_12 (h : MEM) (hM : MBx h) : CP yX4_allBruises cX4_allBruises 3 (some .int) 1 [pR 12] h (fun x => 0 ≤ x ∧ x ≤ 0) := by
  refine CP.of (L0 := [some (pR 12), none, none]) rfl (Nat.le_of_ble_eq_true rfl) rfl (fun Po hPo hav => ?_)
  refine g_iconst dX4_allBruises_0 (inR_c rfl) ?_
  refine g_istore_n dX4_allBruises_1 (by decide) rfl ?_
  refine g_iconst dX4_allBruises_2 (inR_c rfl) ?_
  refine g_istore_n dX4_allBruises_3 (by decide) rfl ?_
  refine g_iload_n dX4_allBruises_4 rfl (fun _ => ?_)
  refine g_aload_n dX4_allBruises_5 rfl ?_
  refine gI_X4_9 rfl dX4_allBruises_6 sh_12 (m_12_0 hM) (fun v1 ev1 bv1 cv1 => ?_)
  refine g_icmp_ge 27 dX4_allBruises_9 (by decide) (fun q2 => ?_) (fun _ => by exfalso; omega)
  refine g_iload_n dX4_allBruises_27 rfl (fun _ => ?_)
  exact g_ireturn dX4_allBruises_28 retI (hPo _ ⟨(by omega), (by omega)⟩)
set_option maxRecDepth 100000 in
set_option maxHeartbeats 4000000 in
theorem c_X11_count_0 (x1 : Int) (h : MEM) (hM : MBx h) (bx1 : -2147483648 ≤ x1) (dx1 : x1 ≤ 2147483647) (p0_0 : 0 ≤ h 61 0) (p0_1 : h 61 0 ≤ 0) (p1_0 : 0 ≤ h 1 6) (p1_1 : h 1 6 ≤ 0) (p2_0 : 1 ≤ h 1 7) (p2_1 : h 1 7 ≤ 1) : CP yX11_count cX11_count 2 (some .int) 2 [pR 0, pI x1] h (fun x => (x1 = 6 ∧ x = 1 ∨ x1 ≠ 6 ∧ (0 ≤ x1 ∧ x1 ≤ 9 ∨ 100 ≤ x1 ∧ x1 ≤ 199) ∧ x = 0 ∨ ¬ (0 ≤ x1 ∧ x1 ≤ 9 ∨ 100 ≤ x1 ∧ x1 ≤ 199) ∧ x = -1)) := by
  refine CP.of (L0 := [some (pR 0), some (pI x1)]) rfl (Nat.le_of_ble_eq_true rfl) rfl (fun Po hPo hav => ?_)
  obtain ⟨w61_0, ew61_0⟩ : ∃ z, z = h 61 0 := ⟨_, rfl⟩
  obtain ⟨w1_6, ew1_6⟩ : ∃ z, z = h 1 6 := ⟨_, rfl⟩
  obtain ⟨w1_7, ew1_7⟩ : ∃ z, z = h 1 7 := ⟨_, rfl⟩
  refine g_iload_n dX11_count_0 rfl (fun _ => ?_)
  refine g_bipush dX11_count_1 (inR_c rfl) (by decide) ?_
  refine g_sipush dX11_count_3 (inR_c rfl) (by decide) ?_
  refine g_cSP (av := [_, _, _]) (c_X11_isWithin _ _ _ h hM (by omega) (by omega) (by omega) (by omega) (by omega) (by omega)) dX11_count_6 mi_X11_isWithin st_X11_isWithin ml_X11_81 rfl rfl rfl rfl (Nat.le_of_ble_eq_true rfl) (fun v1 q2 => ?_)
  rcases q2 with ⟨rfl, q2⟩ | ⟨rfl, q2⟩
  · skip
    refine g_if_eq 25 dX11_count_9 (by decide) (fun _ => by exfalso; omega) (fun q3 => ?_)
    refine g_aload_n dX11_count_12 rfl ?_
    refine gR_X11_10 rfl dX11_count_13 sh_0 (b := 1) (m_0_0 hM) ?_
    refine gR_X11_137 rfl dX11_count_16 sh_1 (b := 19) (m_1_5 hM) ?_
    refine g_iload_n dX11_count_19 rfl (fun _ => ?_)
    refine g_bipush dX11_count_20 (inR_c rfl) (by decide) ?_
    refine g_isubB dX11_count_22 (by omega) (by omega) ?_
    refine g_ialdB dX11_count_23 sh_19 (by omega) (by omega) (m_19 hM _) (fun v4 ev4 bv4 cv4 => ?_)
    exact g_ireturn dX11_count_24 retI (hPo _ (by omega))
  · skip
    refine g_if_eq 25 dX11_count_9 (by decide) (fun q5 => ?_) (fun _ => by exfalso; omega)
    refine g_iload_n dX11_count_25 rfl (fun _ => ?_)
    rcases (show x1 = 0 ∨ x1 = 1 ∨ x1 = 2 ∨ x1 = 3 ∨ x1 = 4 ∨ x1 = 5 ∨ x1 = 6 ∨ x1 = 7 ∨ x1 = 8 ∨ x1 = 9 ∨ (x1 < 0 ∨ 9 < x1) by omega) with q6 | q6 | q6 | q6 | q6 | q6 | q6 | q6 | q6 | q6 | q6
    · skip
      refine g_tableIn 80 0 dX11_count_26 (by omega) (by omega) rfl (by decide) ?_
      refine g_aload_n dX11_count_80 rfl ?_
      refine gR_X11_10 rfl dX11_count_81 sh_0 (b := 1) (m_0_0 hM) ?_
      refine gR_X11_85 rfl dX11_count_84 sh_1 (b := 2) (m_1_0 hM) ?_
      refine gI_X11_309 rfl dX11_count_87 sh_2 (m_2_0 hM) (fun v7 ev7 bv7 cv7 => ?_)
      exact g_ireturn dX11_count_90 retI (hPo _ (by omega))
    · skip
      refine g_tableIn 91 1 dX11_count_26 (by omega) (by omega) rfl (by decide) ?_
      refine g_aload_n dX11_count_91 rfl ?_
      refine gR_X11_10 rfl dX11_count_92 sh_0 (b := 1) (m_0_0 hM) ?_
      refine gR_X11_95 rfl dX11_count_95 sh_1 (b := 6) (m_1_1 hM) ?_
      refine gI_X11_310 rfl dX11_count_98 sh_6 (m_6_0 hM) (fun v8 ev8 bv8 cv8 => ?_)
      exact g_ireturn dX11_count_101 retI (hPo _ (by omega))
    · skip
      refine g_tableIn 102 2 dX11_count_26 (by omega) (by omega) rfl (by decide) ?_
      refine g_aload_n dX11_count_102 rfl ?_
      refine gR_X11_10 rfl dX11_count_103 sh_0 (b := 1) (m_0_0 hM) ?_
      refine gR_X11_104 rfl dX11_count_106 sh_1 (b := 12) (m_1_2 hM) ?_
      refine gI_X11_263 rfl dX11_count_109 sh_12 (m_12_0 hM) (fun v9 ev9 bv9 cv9 => ?_)
      exact g_ireturn dX11_count_112 retI (hPo _ (by omega))
    · skip
      refine g_tableIn 113 3 dX11_count_26 (by omega) (by omega) rfl (by decide) ?_
      refine g_aload_n dX11_count_113 rfl ?_
      refine gR_X11_70 rfl dX11_count_114 sh_0 (b := 82) (m_0_10 hM) ?_
      refine gI_X11_311 rfl dX11_count_117 sh_82 (m_82_0 hM) (fun v10 ev10 bv10 cv10 => ?_)
      exact g_ireturn dX11_count_120 retI (hPo _ (by omega))
    · skip
      refine g_tableIn 121 4 dX11_count_26 (by omega) (by omega) rfl (by decide) ?_
      refine g_aload_n dX11_count_121 rfl ?_
      refine gR_X11_25 rfl dX11_count_122 sh_0 (b := 61) (m_0_3 hM) ?_
      refine gE_X11_140 rfl dX11_count_125 sh_61 ew61_0.symm ?_
      exact g_ireturn dX11_count_128 retI (hPo _ (by omega))
    · skip
      refine g_tableIn 129 5 dX11_count_26 (by omega) (by omega) rfl (by decide) ?_
      refine g_aload_n dX11_count_129 rfl ?_
      refine gR_X11_10 rfl dX11_count_130 sh_0 (b := 1) (m_0_0 hM) ?_
      refine gE_X11_314 rfl dX11_count_133 sh_1 ew1_6.symm ?_
      exact g_ireturn dX11_count_136 retI (hPo _ (by omega))
    · skip
      refine g_tableIn 137 6 dX11_count_26 (by omega) (by omega) rfl (by decide) ?_
      refine g_aload_n dX11_count_137 rfl ?_
      refine gR_X11_10 rfl dX11_count_138 sh_0 (b := 1) (m_0_0 hM) ?_
      refine gE_X11_300 rfl dX11_count_141 sh_1 ew1_7.symm ?_
      exact g_ireturn dX11_count_144 retI (hPo _ (by omega))
    · skip
      refine g_tableIn 145 7 dX11_count_26 (by omega) (by omega) rfl (by decide) ?_
      refine g_aload_n dX11_count_145 rfl ?_
      refine gR_X11_10 rfl dX11_count_146 sh_0 (b := 1) (m_0_0 hM) ?_
      refine gI_X11_213 rfl dX11_count_149 sh_1 (m_1_8 hM) (fun v11 ev11 bv11 cv11 => ?_)
      exact g_ireturn dX11_count_152 retI (hPo _ (by omega))
    · skip
      refine g_tableIn 153 8 dX11_count_26 (by omega) (by omega) rfl (by decide) ?_
      refine g_aload_n dX11_count_153 rfl ?_
      refine gR_X11_10 rfl dX11_count_154 sh_0 (b := 1) (m_0_0 hM) ?_
      refine gR_X11_104 rfl dX11_count_157 sh_1 (b := 12) (m_1_2 hM) ?_
      refine g_cVP (as := []) (c_X4_allBruises_12  h hM) dX11_count_160 mi_X4_allBruises in_X4_allBruises se_X4_allBruises ml_X11_210 rfl rfl rfl sh_12 rfl rfl (Nat.le_of_ble_eq_true rfl) (fun v12 q13 => ?_)
      obtain ⟨bv12, cv12⟩ := q13
      exact g_ireturn dX11_count_163 retI (hPo _ (by omega))
    · skip
      refine g_tableIn 164 9 dX11_count_26 (by omega) (by omega) rfl (by decide) ?_
      refine g_aload_n dX11_count_164 rfl ?_
      refine gR_X11_10 rfl dX11_count_165 sh_0 (b := 1) (m_0_0 hM) ?_
      refine gR_X11_85 rfl dX11_count_168 sh_1 (b := 2) (m_1_0 hM) ?_
      refine g_cVP (as := []) (c_X6_allSlates_2  h hM) dX11_count_171 mi_X6_allSlates in_X6_allSlates se_X6_allSlates ml_X11_206 rfl rfl rfl sh_2 rfl rfl (Nat.le_of_ble_eq_true rfl) (fun v14 q15 => ?_)
      obtain ⟨bv14, cv14⟩ := q15
      exact g_ireturn dX11_count_174 retI (hPo _ (by omega))
    · skip
      refine g_tableOut 175 dX11_count_26 (by omega) (by decide) ?_
      refine g_iconst dX11_count_175 (inR_c rfl) ?_
      exact g_ireturn dX11_count_176 retI (hPo _ (by omega))
set_option maxRecDepth 100000 in
set_option maxHeartbeats 4000000 in
theorem c_X12_count_98 (x1 : Int) (h : MEM) (hM : MBm h) (bx1 : -2147483648 ≤ x1) (dx1 : x1 ≤ 2147483647) (p0_0 : 0 ≤ h 98 1) (p0_1 : h 98 1 ≤ 0) (p1_0 : 0 ≤ h 98 5) (p1_1 : h 98 5 ≤ 0) (p2_0 : 1 ≤ h 98 6) (p2_1 : h 98 6 ≤ 1) : CP yX12_count cX12_count 2 (some .int) 2 [pR 98, pI x1] h (fun x => (x1 = 6 ∧ x = 1 ∨ x1 ≠ 6 ∧ (0 ≤ x1 ∧ x1 ≤ 9 ∨ 100 ≤ x1 ∧ x1 ≤ 199) ∧ x = 0 ∨ ¬ (0 ≤ x1 ∧ x1 ≤ 9 ∨ 100 ≤ x1 ∧ x1 ≤ 199) ∧ x = -1)) := by
  refine CP.of (L0 := [some (pR 98), some (pI x1)]) rfl (Nat.le_of_ble_eq_true rfl) rfl (fun Po hPo hav => ?_)
  obtain ⟨w98_1, ew98_1⟩ : ∃ z, z = h 98 1 := ⟨_, rfl⟩
  obtain ⟨w98_5, ew98_5⟩ : ∃ z, z = h 98 5 := ⟨_, rfl⟩
  obtain ⟨w98_6, ew98_6⟩ : ∃ z, z = h 98 6 := ⟨_, rfl⟩
  refine g_iload_n dX12_count_0 rfl (fun _ => ?_)
  refine g_i2l dX12_count_1 ?_
  refine g_ldc2 (v := 100) dX12_count_2 kl_X12_512 (by decide) ?_
  refine g_ldc2 (v := 199) dX12_count_5 kl_X12_514 (by decide) ?_
  refine g_cSP (av := [_, _, _]) (c_X12_lies _ _ _ h hM (by omega) (by omega) (by omega) (by omega) (by omega) (by omega)) dX12_count_8 mi_X12_lies st_X12_lies ml_X12_175 rfl rfl rfl rfl (Nat.le_of_ble_eq_true rfl) (fun v1 q2 => ?_)
  rcases q2 with ⟨rfl, q2⟩ | ⟨rfl, q2⟩
  · skip
    refine g_if_eq 32 dX12_count_11 (by decide) (fun _ => by exfalso; omega) (fun q3 => ?_)
    refine g_aload_n dX12_count_14 rfl ?_
    refine gR_X12_61 rfl dX12_count_15 sh_98 (b := 114) (m_98_22 hM) ?_
    refine g_iload_n dX12_count_18 rfl (fun _ => ?_)
    refine g_bipush dX12_count_19 (inR_c rfl) (by decide) ?_
    refine g_isubB dX12_count_21 (by omega) (by omega) ?_
    refine g_zaldB dX12_count_22 sh_114 (by omega) (by omega) (m_114 hM _) (fun v4 ev4 bv4 cv4 => ?_)
    refine g_if_eq 30 dX12_count_23 (by decide) (fun q5 => ?_) (fun _ => by exfalso; omega)
    refine g_iconst dX12_count_30 (inR_c rfl) ?_
    exact g_ireturn dX12_count_31 retI (hPo _ (by omega))
  · skip
    refine g_if_eq 32 dX12_count_11 (by decide) (fun q6 => ?_) (fun _ => by exfalso; omega)
    refine g_iload_n dX12_count_32 rfl (fun _ => ?_)
    rcases (show x1 = 0 ∨ x1 = 1 ∨ x1 = 2 ∨ x1 = 3 ∨ x1 = 4 ∨ x1 = 5 ∨ x1 = 6 ∨ x1 = 7 ∨ x1 = 8 ∨ x1 = 9 ∨ (x1 < 0 ∨ 9 < x1) by omega) with q7 | q7 | q7 | q7 | q7 | q7 | q7 | q7 | q7 | q7 | q7
    · skip
      refine g_tableIn 88 0 dX12_count_33 (by omega) (by omega) rfl (by decide) ?_
      refine g_aload_n dX12_count_88 rfl ?_
      refine gI_X12_172 rfl dX12_count_89 sh_98 (m_98_2 hM) (fun v8 ev8 bv8 cv8 => ?_)
      exact g_ireturn dX12_count_92 retI (hPo _ (by omega))
    · skip
      refine g_tableIn 93 1 dX12_count_33 (by omega) (by omega) rfl (by decide) ?_
      refine g_aload_n dX12_count_93 rfl ?_
      refine gI_X12_179 rfl dX12_count_94 sh_98 (m_98_3 hM) (fun v9 ev9 bv9 cv9 => ?_)
      exact g_ireturn dX12_count_97 retI (hPo _ (by omega))
    · skip
      refine g_tableIn 98 2 dX12_count_33 (by omega) (by omega) rfl (by decide) ?_
      refine g_aload_n dX12_count_98 rfl ?_
      refine gI_X12_182 rfl dX12_count_99 sh_98 (m_98_4 hM) (fun v10 ev10 bv10 cv10 => ?_)
      exact g_ireturn dX12_count_102 retI (hPo _ (by omega))
    · skip
      refine g_tableIn 103 3 dX12_count_33 (by omega) (by omega) rfl (by decide) ?_
      refine g_aload_n dX12_count_103 rfl ?_
      refine gI_X12_321 rfl dX12_count_104 sh_98 (m_98_23 hM) (fun v11 ev11 bv11 cv11 => ?_)
      exact g_ireturn dX12_count_107 retI (hPo _ (by omega))
    · skip
      refine g_tableIn 108 4 dX12_count_33 (by omega) (by omega) rfl (by decide) ?_
      refine g_aload_n dX12_count_108 rfl ?_
      refine gE_X12_204 rfl dX12_count_109 sh_98 ew98_1.symm ?_
      exact g_ireturn dX12_count_112 retI (hPo _ (by omega))
    · skip
      refine g_tableIn 113 5 dX12_count_33 (by omega) (by omega) rfl (by decide) ?_
      refine g_aload_n dX12_count_113 rfl ?_
      refine gE_X12_334 rfl dX12_count_114 sh_98 ew98_5.symm ?_
      exact g_ireturn dX12_count_117 retI (hPo _ (by omega))
    · skip
      refine g_tableIn 118 6 dX12_count_33 (by omega) (by omega) rfl (by decide) ?_
      refine g_aload_n dX12_count_118 rfl ?_
      refine gE_X12_13 rfl dX12_count_119 sh_98 ew98_6.symm ?_
      exact g_ireturn dX12_count_122 retI (hPo _ (by omega))
    · skip
      refine g_tableIn 123 7 dX12_count_33 (by omega) (by omega) rfl (by decide) ?_
      refine g_aload_n dX12_count_123 rfl ?_
      refine gI_X12_372 rfl dX12_count_124 sh_98 (m_98_7 hM) (fun v12 ev12 bv12 cv12 => ?_)
      exact g_ireturn dX12_count_127 retI (hPo _ (by omega))
    · skip
      refine g_tableIn 128 8 dX12_count_33 (by omega) (by omega) rfl (by decide) ?_
      refine g_aload_n dX12_count_128 rfl ?_
      refine g_cVP (as := []) (c_X12_allBruises_98  h hM) dX12_count_129 mi_X12_allBruises in_X12_allBruises se_X12_allBruises ml_X12_425 rfl rfl rfl sh_98 rfl rfl (Nat.le_of_ble_eq_true rfl) (fun v13 q14 => ?_)
      obtain ⟨bv13, cv13⟩ := q14
      exact g_ireturn dX12_count_132 retI (hPo _ (by omega))
    · skip
      refine g_tableIn 133 9 dX12_count_33 (by omega) (by omega) rfl (by decide) ?_
      refine g_aload_n dX12_count_133 rfl ?_
      refine g_cVP (as := []) (c_X12_allSlates_98  h hM) dX12_count_134 mi_X12_allSlates in_X12_allSlates se_X12_allSlates ml_X12_422 rfl rfl rfl sh_98 rfl rfl (Nat.le_of_ble_eq_true rfl) (fun v15 q16 => ?_)
      obtain ⟨bv15, cv15⟩ := q16
      exact g_ireturn dX12_count_137 retI (hPo _ (by omega))
    · skip
      refine g_tableOut 138 dX12_count_33 (by omega) (by decide) ?_
      refine g_iconst dX12_count_138 (inR_c rfl) ?_
      exact g_ireturn dX12_count_139 retI (hPo _ (by omega))
