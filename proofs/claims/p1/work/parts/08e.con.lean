set_option maxRecDepth 100000 in
set_option maxHeartbeats 4000000 in
theorem c_X12_keep_98 (h : MEM) (hM : MBm h) : CI yX12_keep cX12_keep 1 (some .int) 2 [pR 98] h (fun x h' => Fr [(98, 80), (130, 0), (131, 0), (132, 0), (133, 0), (134, 0), (135, 0), (136, 0), (137, 0), (138, 0), (139, 0), (140, 0), (141, 0), (142, 0), (143, 0), (144, 0), (145, 7), (145, 8), (145, 9), (145, 10), (145, 11), (145, 12)] h h' ∧ x = 0) := by
  refine CI.of (L0 := [some (pR 98)]) rfl (Nat.le_of_ble_eq_true rfl) rfl (fun Po hPo hav => ?_)
  refine g_aload_n dX12_keep_0 rfl ?_
  refine g_iconst dX12_keep_1 (inR_c rfl) ?_
  refine pI_X12_506 rfl dX12_keep_2 sh_98 (by omega) (fun h1 eh1 => ?_)
  have hFh1 := Fr.st eh1
  have hMh1 := u_98_79 hM eh1 (by omega) (by omega)
  refine g_aload_n dX12_keep_5 rfl ?_
  refine g_iconst dX12_keep_6 (inR_c rfl) ?_
  have q2 : h1 98 5 = h 98 5 := (hFh1 98 5 rfl)
  obtain ⟨v3, ev3⟩ : ∃ z, z = h1 98 5 := ⟨_, rfl⟩
  have bv3 : 0 ≤ v3 ∧ v3 ≤ 2000000000 := by rw [ev3]; exact (m_98_5 hMh1)
  refine g_cVV (as := [_]) (c_X12_setsAside_98_k1  h1 hMh1) dX12_keep_7 mi_X12_setsAside in_X12_setsAside se_X12_setsAside ml_X12_419 rfl rfl rfl sh_98 rfl rfl (Nat.le_of_ble_eq_true rfl) (fun h4 q5 => ?_)
  obtain ⟨hMh4, hFh4, z6⟩ := q5
  have kz6 : h4 145 9 = v3 := by omega
  refine g_aload_n dX12_keep_10 rfl ?_
  refine g_cVP (as := []) (c_X12_allSlates_98  h4 hMh4) dX12_keep_11 mi_X12_allSlates in_X12_allSlates se_X12_allSlates ml_X12_422 rfl rfl rfl sh_98 rfl rfl (Nat.le_of_ble_eq_true rfl) (fun v7 q8 => ?_)
  obtain ⟨bv7, cv7⟩ := q8
  exact g_ireturn dX12_keep_14 retI (hPo _ _ ⟨(Fr.tr (Fr.sub hFh1 rfl) hFh4 rfl), (by omega)⟩)
set_option maxRecDepth 100000 in
set_option maxHeartbeats 4000000 in
theorem c_X11_undo_0 (h : MEM) (hM : MBx h) (p0_0 : 0 ≤ h 0 12) (p0_1 : h 0 12 ≤ 0) : CP yX11_undo cX11_undo 1 (some .boolean) 1 [pR 0] h (fun x => x = 0) := by
  refine CP.of (L0 := [some (pR 0)]) rfl (Nat.le_of_ble_eq_true rfl) rfl (fun Po hPo hav => ?_)
  obtain ⟨w0_12, ew0_12⟩ : ∃ z, z = h 0 12 := ⟨_, rfl⟩
  refine g_aload_n dX11_undo_0 rfl ?_
  refine gE_X11_77 rfl dX11_undo_1 sh_0 ew0_12.symm ?_
  refine g_if_ne 9 dX11_undo_4 (by decide) (fun _ => by exfalso; omega) (fun q1 => ?_)
  refine g_iconst dX11_undo_7 (inR_c rfl) ?_
  exact g_ireturn dX11_undo_8 (retZ (by omega)) (hPo _ (by omega))
set_option maxRecDepth 100000 in
set_option maxHeartbeats 4000000 in
theorem c_X12_undo_98 (h : MEM) (hM : MBm h) (p0_0 : 0 ≤ h 98 79) (p0_1 : h 98 79 ≤ 0) : CP yX12_undo cX12_undo 1 (some .boolean) 1 [pR 98] h (fun x => x = 0) := by
  refine CP.of (L0 := [some (pR 98)]) rfl (Nat.le_of_ble_eq_true rfl) rfl (fun Po hPo hav => ?_)
  obtain ⟨w98_79, ew98_79⟩ : ∃ z, z = h 98 79 := ⟨_, rfl⟩
  refine g_aload_n dX12_undo_0 rfl ?_
  refine gE_X12_506 rfl dX12_undo_1 sh_98 ew98_79.symm ?_
  refine g_if_ne 9 dX12_undo_4 (by decide) (fun _ => by exfalso; omega) (fun q1 => ?_)
  refine g_iconst dX12_undo_7 (inR_c rfl) ?_
  exact g_ireturn dX12_undo_8 (retZ (by omega)) (hPo _ (by omega))
set_option maxRecDepth 100000 in
set_option maxHeartbeats 4000000 in
theorem c_X11_check_0 (x1 : Int) (h : MEM) (hM : MBx h) (bx1 : -2147483648 ≤ x1) (dx1 : x1 ≤ 2147483647) (p0_0 : 0 ≤ h 61 0) (p0_1 : h 61 0 ≤ 0) : CI yX11_check cX11_check 3 (some .int) 2 [pR 0, pI x1] h (fun x h' => Fr [(61, 1)] h h' ∧ ((x1 = 0) ∧ x = -1 ∨ ¬ (x1 = 0) ∧ x = -2)) := by
  refine CI.of (L0 := [some (pR 0), some (pI x1), none]) rfl (Nat.le_of_ble_eq_true rfl) rfl (fun Po hPo hav => ?_)
  obtain ⟨w61_0, ew61_0⟩ : ∃ z, z = h 61 0 := ⟨_, rfl⟩
  refine g_iload_n dX11_check_0 rfl (fun _ => ?_)
  refine g_iconst dX11_check_1 (inR_c rfl) ?_
  refine g_bipush dX11_check_2 (inR_c rfl) (by decide) ?_
  refine g_cSP (av := [_, _, _]) (c_X11_isWithin _ _ _ h hM (by omega) (by omega) (by omega) (by omega) (by omega) (by omega)) dX11_check_4 mi_X11_isWithin st_X11_isWithin ml_X11_81 rfl rfl rfl rfl (Nat.le_of_ble_eq_true rfl) (fun v1 q2 => ?_)
  rcases q2 with ⟨rfl, q2⟩ | ⟨rfl, q2⟩
  · skip
    refine g_if_eq 23 dX11_check_7 (by decide) (fun _ => by exfalso; omega) (fun q3 => ?_)
    refine g_aload_n dX11_check_10 rfl ?_
    refine gR_X11_25 rfl dX11_check_11 sh_0 (b := 61) (m_0_3 hM) ?_
    refine gE_X11_140 rfl dX11_check_14 sh_61 ew61_0.symm ?_
    refine g_iconst dX11_check_17 (inR_c rfl) ?_
    refine g_iload_n dX11_check_18 rfl (fun _ => ?_)
    refine g_imulB dX11_check_19 (by omega) (by omega) ?_
    refine g_icmp_ge 26 dX11_check_20 (by decide) (fun q4 => ?_) (fun q4 => ?_)
    · skip
      refine g_aload_n dX11_check_26 rfl ?_
      refine gR_X11_25 rfl dX11_check_27 sh_0 (b := 61) (m_0_3 hM) ?_
      refine g_iconst dX11_check_30 (inR_c rfl) ?_
      refine pI_X11_140 rfl dX11_check_31 sh_61 (fun h5 eh5 => ?_)
      have hFh5 := Fr.st eh5
      have hMh5 := u_61_0 hM eh5 (by omega) (by omega)
      refine g_iconst dX11_check_34 (inR_c rfl) ?_
      refine g_istore_n dX11_check_35 (by decide) rfl ?_
      refine g_iload_n dX11_check_36 rfl (fun _ => ?_)
      refine g_iload_n dX11_check_37 rfl (fun _ => ?_)
      refine g_icmp_ge 88 dX11_check_38 (by decide) (fun q6 => ?_) (fun _ => by exfalso; omega)
      refine g_iconst dX11_check_88 (inR_c rfl) ?_
      exact g_ireturn dX11_check_89 retI (hPo _ _ ⟨(Fr.sub hFh5 rfl), (by omega)⟩)
    · skip
      refine g_bipush dX11_check_23 (inR_c rfl) (by decide) ?_
      exact g_ireturn dX11_check_25 retI (hPo _ _ ⟨Fr.rf, (by omega)⟩)
  · skip
    refine g_if_eq 23 dX11_check_7 (by decide) (fun q7 => ?_) (fun _ => by exfalso; omega)
    refine g_bipush dX11_check_23 (inR_c rfl) (by decide) ?_
    exact g_ireturn dX11_check_25 retI (hPo _ _ ⟨Fr.rf, (by omega)⟩)
set_option maxRecDepth 100000 in
set_option maxHeartbeats 4000000 in
theorem c_X12_check_98 (x1 : Int) (h : MEM) (hM : MBm h) (bx1 : -2147483648 ≤ x1) (dx1 : x1 ≤ 2147483647) (p0_0 : 0 ≤ h 98 1) (p0_1 : h 98 1 ≤ 0) : CI yX12_check cX12_check 3 (some .int) 2 [pR 98, pI x1] h (fun x h' => Fr [(98, 2)] h h' ∧ ((x1 = 0) ∧ x = -1 ∨ ¬ (x1 = 0) ∧ x = -2)) := by
  refine CI.of (L0 := [some (pR 98), some (pI x1), none]) rfl (Nat.le_of_ble_eq_true rfl) rfl (fun Po hPo hav => ?_)
  obtain ⟨w98_1, ew98_1⟩ : ∃ z, z = h 98 1 := ⟨_, rfl⟩
  refine g_iload_n dX12_check_0 rfl (fun _ => ?_)
  refine g_i2l dX12_check_1 ?_
  refine g_lconst (v := 0) dX12_check_2 rfl ?_
  refine g_ldc2 (v := 10) dX12_check_3 kl_X12_410 (by decide) ?_
  refine g_cSP (av := [_, _, _]) (c_X12_lies _ _ _ h hM (by omega) (by omega) (by omega) (by omega) (by omega) (by omega)) dX12_check_6 mi_X12_lies st_X12_lies ml_X12_175 rfl rfl rfl rfl (Nat.le_of_ble_eq_true rfl) (fun v1 q2 => ?_)
  rcases q2 with ⟨rfl, q2⟩ | ⟨rfl, q2⟩
  · skip
    refine g_if_eq 22 dX12_check_9 (by decide) (fun _ => by exfalso; omega) (fun q3 => ?_)
    refine g_iload_n dX12_check_12 rfl (fun _ => ?_)
    refine g_aload_n dX12_check_13 rfl ?_
    refine gE_X12_204 rfl dX12_check_14 sh_98 ew98_1.symm ?_
    refine g_iconst dX12_check_17 (inR_c rfl) ?_
    refine g_idivX (lo := 0) (hi := 0) dX12_check_18 (by omega) (idiv_b (by omega) (by omega) (by omega)) (fun v4 ev4 bv4 cv4 => ?_)
    refine g_icmp_le 25 dX12_check_19 (by decide) (fun q5 => ?_) (fun q5 => ?_)
    · skip
      refine g_aload_n dX12_check_25 rfl ?_
      refine g_iconst dX12_check_26 (inR_c rfl) ?_
      refine pI_X12_204 rfl dX12_check_27 sh_98 (fun h6 eh6 => ?_)
      have hFh6 := Fr.st eh6
      have hMh6 := u_98_1 hM eh6 (by omega) (by omega)
      refine g_iconst dX12_check_30 (inR_c rfl) ?_
      refine g_istore_n dX12_check_31 (by decide) rfl ?_
      refine g_iload_n dX12_check_32 rfl (fun _ => ?_)
      refine g_iload_n dX12_check_33 rfl (fun _ => ?_)
      refine g_icmp_ge 67 dX12_check_34 (by decide) (fun q7 => ?_) (fun _ => by exfalso; omega)
      refine g_iconst dX12_check_67 (inR_c rfl) ?_
      exact g_ireturn dX12_check_68 retI (hPo _ _ ⟨(Fr.sub hFh6 rfl), (by omega)⟩)
    · skip
      refine g_bipush dX12_check_22 (inR_c rfl) (by decide) ?_
      exact g_ireturn dX12_check_24 retI (hPo _ _ ⟨Fr.rf, (by omega)⟩)
  · skip
    refine g_if_eq 22 dX12_check_9 (by decide) (fun q8 => ?_) (fun _ => by exfalso; omega)
    refine g_bipush dX12_check_22 (inR_c rfl) (by decide) ?_
    exact g_ireturn dX12_check_24 retI (hPo _ _ ⟨Fr.rf, (by omega)⟩)
set_option maxRecDepth 100000 in
set_option maxHeartbeats 4000000 in
theorem c_X4_allBruises_12 (h : MEM) (hM : MBx h) : CP yX4_allBruises cX4_allBruises 3 (some .int) 1 [pR 12] h (fun x => 0 ≤ x ∧ x ≤ 0) := by
  refine CP.of (L0 := [some (pR 12), none, none]) rfl (Nat.le_of_ble_eq_true rfl) rfl (fun Po hPo hav => ?_)
  refine g_iconst dX4_allBruises_0 (inR_c rfl) ?_
  refine g_istore_n dX4_allBruises_1 (by decide) rfl ?_
  refine g_iconst dX4_allBruises_2 (inR_c rfl) ?_
  refine g_istore_n dX4_allBruises_3 (by decide) rfl ?_
  refine g_iload_n dX4_allBruises_4 rfl (fun _ => ?_)
  refine g_aload_n dX4_allBruises_5 rfl ?_
  refine gI_X4_9 rfl dX4_allBruises_6 sh_12 (m_12_0 hM) (fun v1 ev1 bv1 cv1 => ?_)
  refine g_icmp_ge 27 dX4_allBruises_9 (by decide) (fun q2 => ?_) (fun _ => by exfalso; omega)
  refine g_iload_n dX4_allBruises_27 rfl (fun _ => ?_)
  exact g_ireturn dX4_allBruises_28 retI (hPo _ ⟨(by omega), (by omega)⟩)
set_option maxRecDepth 100000 in
set_option maxHeartbeats 4000000 in
theorem c_X11_count_0 (x1 : Int) (h : MEM) (hM : MBx h) (bx1 : -2147483648 ≤ x1) (dx1 : x1 ≤ 2147483647) (p0_0 : 0 ≤ h 61 0) (p0_1 : h 61 0 ≤ 0) (p1_0 : 0 ≤ h 1 6) (p1_1 : h 1 6 ≤ 0) (p2_0 : 1 ≤ h 1 7) (p2_1 : h 1 7 ≤ 1) : CP yX11_count cX11_count 2 (some .int) 2 [pR 0, pI x1] h (fun x => (x1 = 6 ∧ x = 1 ∨ x1 ≠ 6 ∧ (0 ≤ x1 ∧ x1 ≤ 9 ∨ 100 ≤ x1 ∧ x1 ≤ 199) ∧ x = 0 ∨ ¬ (0 ≤ x1 ∧ x1 ≤ 9 ∨ 100 ≤ x1 ∧ x1 ≤ 199) ∧ x = -1)) := by
  refine CP.of (L0 := [some (pR 0), some (pI x1)]) rfl (Nat.le_of_ble_eq_true rfl) rfl (fun Po hPo hav => ?_)
  obtain ⟨w61_0, ew61_0⟩ : ∃ z, z = h 61 0 := ⟨_, rfl⟩
  obtain ⟨w1_6, ew1_6⟩ : ∃ z, z = h 1 6 := ⟨_, rfl⟩
  obtain ⟨w1_7, ew1_7⟩ : ∃ z, z = h 1 7 := ⟨_, rfl⟩
  refine g_iload_n dX11_count_0 rfl (fun _ => ?_)
  refine g_bipush dX11_count_1 (inR_c rfl) (by decide) ?_
  refine g_sipush dX11_count_3 (inR_c rfl) (by decide) ?_
  refine g_cSP (av := [_, _, _]) (c_X11_isWithin _ _ _ h hM (by omega) (by omega) (by omega) (by omega) (by omega) (by omega)) dX11_count_6 mi_X11_isWithin st_X11_isWithin ml_X11_81 rfl rfl rfl rfl (Nat.le_of_ble_eq_true rfl) (fun v1 q2 => ?_)
  rcases q2 with ⟨rfl, q2⟩ | ⟨rfl, q2⟩
  · skip
    refine g_if_eq 25 dX11_count_9 (by decide) (fun _ => by exfalso; omega) (fun q3 => ?_)
    refine g_aload_n dX11_count_12 rfl ?_
    refine gR_X11_10 rfl dX11_count_13 sh_0 (b := 1) (m_0_0 hM) ?_
    refine gR_X11_137 rfl dX11_count_16 sh_1 (b := 19) (m_1_5 hM) ?_
    refine g_iload_n dX11_count_19 rfl (fun _ => ?_)
    refine g_bipush dX11_count_20 (inR_c rfl) (by decide) ?_
    refine g_isubB dX11_count_22 (by omega) (by omega) ?_
    refine g_ialdB dX11_count_23 sh_19 (by omega) (by omega) (m_19 hM _) (fun v4 ev4 bv4 cv4 => ?_)
    exact g_ireturn dX11_count_24 retI (hPo _ (by omega))
  · skip
    refine g_if_eq 25 dX11_count_9 (by decide) (fun q5 => ?_) (fun _ => by exfalso; omega)
    refine g_iload_n dX11_count_25 rfl (fun _ => ?_)
    rcases (show x1 = 0 ∨ x1 = 1 ∨ x1 = 2 ∨ x1 = 3 ∨ x1 = 4 ∨ x1 = 5 ∨ x1 = 6 ∨ x1 = 7 ∨ x1 = 8 ∨ x1 = 9 ∨ (x1 < 0 ∨ 9 < x1) by omega) with q6 | q6 | q6 | q6 | q6 | q6 | q6 | q6 | q6 | q6 | q6
    · skip
      refine g_tableIn 80 0 dX11_count_26 (by omega) (by omega) rfl (by decide) ?_
      refine g_aload_n dX11_count_80 rfl ?_
      refine gR_X11_10 rfl dX11_count_81 sh_0 (b := 1) (m_0_0 hM) ?_
      refine gR_X11_85 rfl dX11_count_84 sh_1 (b := 2) (m_1_0 hM) ?_
      refine gI_X11_309 rfl dX11_count_87 sh_2 (m_2_0 hM) (fun v7 ev7 bv7 cv7 => ?_)
      exact g_ireturn dX11_count_90 retI (hPo _ (by omega))
    · skip
      refine g_tableIn 91 1 dX11_count_26 (by omega) (by omega) rfl (by decide) ?_
      refine g_aload_n dX11_count_91 rfl ?_
      refine gR_X11_10 rfl dX11_count_92 sh_0 (b := 1) (m_0_0 hM) ?_
      refine gR_X11_95 rfl dX11_count_95 sh_1 (b := 6) (m_1_1 hM) ?_
      refine gI_X11_310 rfl dX11_count_98 sh_6 (m_6_0 hM) (fun v8 ev8 bv8 cv8 => ?_)
      exact g_ireturn dX11_count_101 retI (hPo _ (by omega))
    · skip
      refine g_tableIn 102 2 dX11_count_26 (by omega) (by omega) rfl (by decide) ?_
      refine g_aload_n dX11_count_102 rfl ?_
      refine gR_X11_10 rfl dX11_count_103 sh_0 (b := 1) (m_0_0 hM) ?_
      refine gR_X11_104 rfl dX11_count_106 sh_1 (b := 12) (m_1_2 hM) ?_
      refine gI_X11_263 rfl dX11_count_109 sh_12 (m_12_0 hM) (fun v9 ev9 bv9 cv9 => ?_)
      exact g_ireturn dX11_count_112 retI (hPo _ (by omega))
    · skip
      refine g_tableIn 113 3 dX11_count_26 (by omega) (by omega) rfl (by decide) ?_
      refine g_aload_n dX11_count_113 rfl ?_
      refine gR_X11_70 rfl dX11_count_114 sh_0 (b := 82) (m_0_10 hM) ?_
      refine gI_X11_311 rfl dX11_count_117 sh_82 (m_82_0 hM) (fun v10 ev10 bv10 cv10 => ?_)
      exact g_ireturn dX11_count_120 retI (hPo _ (by omega))
    · skip
      refine g_tableIn 121 4 dX11_count_26 (by omega) (by omega) rfl (by decide) ?_
      refine g_aload_n dX11_count_121 rfl ?_
      refine gR_X11_25 rfl dX11_count_122 sh_0 (b := 61) (m_0_3 hM) ?_
      refine gE_X11_140 rfl dX11_count_125 sh_61 ew61_0.symm ?_
      exact g_ireturn dX11_count_128 retI (hPo _ (by omega))
    · skip
      refine g_tableIn 129 5 dX11_count_26 (by omega) (by omega) rfl (by decide) ?_
      refine g_aload_n dX11_count_129 rfl ?_
      refine gR_X11_10 rfl dX11_count_130 sh_0 (b := 1) (m_0_0 hM) ?_
      refine gE_X11_314 rfl dX11_count_133 sh_1 ew1_6.symm ?_
      exact g_ireturn dX11_count_136 retI (hPo _ (by omega))
    · skip
      refine g_tableIn 137 6 dX11_count_26 (by omega) (by omega) rfl (by decide) ?_
      refine g_aload_n dX11_count_137 rfl ?_
      refine gR_X11_10 rfl dX11_count_138 sh_0 (b := 1) (m_0_0 hM) ?_
      refine gE_X11_300 rfl dX11_count_141 sh_1 ew1_7.symm ?_
      exact g_ireturn dX11_count_144 retI (hPo _ (by omega))
    · skip
      refine g_tableIn 145 7 dX11_count_26 (by omega) (by omega) rfl (by decide) ?_
      refine g_aload_n dX11_count_145 rfl ?_
      refine gR_X11_10 rfl dX11_count_146 sh_0 (b := 1) (m_0_0 hM) ?_
      refine gI_X11_213 rfl dX11_count_149 sh_1 (m_1_8 hM) (fun v11 ev11 bv11 cv11 => ?_)
      exact g_ireturn dX11_count_152 retI (hPo _ (by omega))
    · skip
      refine g_tableIn 153 8 dX11_count_26 (by omega) (by omega) rfl (by decide) ?_
      refine g_aload_n dX11_count_153 rfl ?_
      refine gR_X11_10 rfl dX11_count_154 sh_0 (b := 1) (m_0_0 hM) ?_
      refine gR_X11_104 rfl dX11_count_157 sh_1 (b := 12) (m_1_2 hM) ?_
      refine g_cVP (as := []) (c_X4_allBruises_12  h hM) dX11_count_160 mi_X4_allBruises in_X4_allBruises se_X4_allBruises ml_X11_210 rfl rfl rfl sh_12 rfl rfl (Nat.le_of_ble_eq_true rfl) (fun v12 q13 => ?_)
      obtain ⟨bv12, cv12⟩ := q13
      exact g_ireturn dX11_count_163 retI (hPo _ (by omega))
    · skip
      refine g_tableIn 164 9 dX11_count_26 (by omega) (by omega) rfl (by decide) ?_
      refine g_aload_n dX11_count_164 rfl ?_
      refine gR_X11_10 rfl dX11_count_165 sh_0 (b := 1) (m_0_0 hM) ?_
      refine gR_X11_85 rfl dX11_count_168 sh_1 (b := 2) (m_1_0 hM) ?_
      refine g_cVP (as := []) (c_X6_allSlates_2  h hM) dX11_count_171 mi_X6_allSlates in_X6_allSlates se_X6_allSlates ml_X11_206 rfl rfl rfl sh_2 rfl rfl (Nat.le_of_ble_eq_true rfl) (fun v14 q15 => ?_)
      obtain ⟨bv14, cv14⟩ := q15
      exact g_ireturn dX11_count_174 retI (hPo _ (by omega))
    · skip
      refine g_tableOut 175 dX11_count_26 (by omega) (by decide) ?_
      refine g_iconst dX11_count_175 (inR_c rfl) ?_
      exact g_ireturn dX11_count_176 retI (hPo _ (by omega))
set_option maxRecDepth 100000 in
set_option maxHeartbeats 4000000 in
theorem c_X12_count_98 (x1 : Int) (h : MEM) (hM : MBm h) (bx1 : -2147483648 ≤ x1) (dx1 : x1 ≤ 2147483647) (p0_0 : 0 ≤ h 98 1) (p0_1 : h 98 1 ≤ 0) (p1_0 : 0 ≤ h 98 5) (p1_1 : h 98 5 ≤ 0) (p2_0 : 1 ≤ h 98 6) (p2_1 : h 98 6 ≤ 1) : CP yX12_count cX12_count 2 (some .int) 2 [pR 98, pI x1] h (fun x => (x1 = 6 ∧ x = 1 ∨ x1 ≠ 6 ∧ (0 ≤ x1 ∧ x1 ≤ 9 ∨ 100 ≤ x1 ∧ x1 ≤ 199) ∧ x = 0 ∨ ¬ (0 ≤ x1 ∧ x1 ≤ 9 ∨ 100 ≤ x1 ∧ x1 ≤ 199) ∧ x = -1)) := by
  refine CP.of (L0 := [some (pR 98), some (pI x1)]) rfl (Nat.le_of_ble_eq_true rfl) rfl (fun Po hPo hav => ?_)
  obtain ⟨w98_1, ew98_1⟩ : ∃ z, z = h 98 1 := ⟨_, rfl⟩
  obtain ⟨w98_5, ew98_5⟩ : ∃ z, z = h 98 5 := ⟨_, rfl⟩
  obtain ⟨w98_6, ew98_6⟩ : ∃ z, z = h 98 6 := ⟨_, rfl⟩
  refine g_iload_n dX12_count_0 rfl (fun _ => ?_)
  refine g_i2l dX12_count_1 ?_
  refine g_ldc2 (v := 100) dX12_count_2 kl_X12_512 (by decide) ?_
  refine g_ldc2 (v := 199) dX12_count_5 kl_X12_514 (by decide) ?_
  refine g_cSP (av := [_, _, _]) (c_X12_lies _ _ _ h hM (by omega) (by omega) (by omega) (by omega) (by omega) (by omega)) dX12_count_8 mi_X12_lies st_X12_lies ml_X12_175 rfl rfl rfl rfl (Nat.le_of_ble_eq_true rfl) (fun v1 q2 => ?_)
  rcases q2 with ⟨rfl, q2⟩ | ⟨rfl, q2⟩
  · skip
    refine g_if_eq 32 dX12_count_11 (by decide) (fun _ => by exfalso; omega) (fun q3 => ?_)
    refine g_aload_n dX12_count_14 rfl ?_
    refine gR_X12_61 rfl dX12_count_15 sh_98 (b := 114) (m_98_22 hM) ?_
    refine g_iload_n dX12_count_18 rfl (fun _ => ?_)
    refine g_bipush dX12_count_19 (inR_c rfl) (by decide) ?_
    refine g_isubB dX12_count_21 (by omega) (by omega) ?_
    refine g_zaldB dX12_count_22 sh_114 (by omega) (by omega) (m_114 hM _) (fun v4 ev4 bv4 cv4 => ?_)
    refine g_if_eq 30 dX12_count_23 (by decide) (fun q5 => ?_) (fun _ => by exfalso; omega)
    refine g_iconst dX12_count_30 (inR_c rfl) ?_
    exact g_ireturn dX12_count_31 retI (hPo _ (by omega))
  · skip
    refine g_if_eq 32 dX12_count_11 (by decide) (fun q6 => ?_) (fun _ => by exfalso; omega)
    refine g_iload_n dX12_count_32 rfl (fun _ => ?_)
    rcases (show x1 = 0 ∨ x1 = 1 ∨ x1 = 2 ∨ x1 = 3 ∨ x1 = 4 ∨ x1 = 5 ∨ x1 = 6 ∨ x1 = 7 ∨ x1 = 8 ∨ x1 = 9 ∨ (x1 < 0 ∨ 9 < x1) by omega) with q7 | q7 | q7 | q7 | q7 | q7 | q7 | q7 | q7 | q7 | q7
    · skip
      refine g_tableIn 88 0 dX12_count_33 (by omega) (by omega) rfl (by decide) ?_
      refine g_aload_n dX12_count_88 rfl ?_
      refine gI_X12_172 rfl dX12_count_89 sh_98 (m_98_2 hM) (fun v8 ev8 bv8 cv8 => ?_)
      exact g_ireturn dX12_count_92 retI (hPo _ (by omega))
    · skip
      refine g_tableIn 93 1 dX12_count_33 (by omega) (by omega) rfl (by decide) ?_
      refine g_aload_n dX12_count_93 rfl ?_
      refine gI_X12_179 rfl dX12_count_94 sh_98 (m_98_3 hM) (fun v9 ev9 bv9 cv9 => ?_)
      exact g_ireturn dX12_count_97 retI (hPo _ (by omega))
    · skip
      refine g_tableIn 98 2 dX12_count_33 (by omega) (by omega) rfl (by decide) ?_
      refine g_aload_n dX12_count_98 rfl ?_
      refine gI_X12_182 rfl dX12_count_99 sh_98 (m_98_4 hM) (fun v10 ev10 bv10 cv10 => ?_)
      exact g_ireturn dX12_count_102 retI (hPo _ (by omega))
    · skip
      refine g_tableIn 103 3 dX12_count_33 (by omega) (by omega) rfl (by decide) ?_
      refine g_aload_n dX12_count_103 rfl ?_
      refine gI_X12_321 rfl dX12_count_104 sh_98 (m_98_23 hM) (fun v11 ev11 bv11 cv11 => ?_)
      exact g_ireturn dX12_count_107 retI (hPo _ (by omega))
    · skip
      refine g_tableIn 108 4 dX12_count_33 (by omega) (by omega) rfl (by decide) ?_
      refine g_aload_n dX12_count_108 rfl ?_
      refine gE_X12_204 rfl dX12_count_109 sh_98 ew98_1.symm ?_
      exact g_ireturn dX12_count_112 retI (hPo _ (by omega))
    · skip
      refine g_tableIn 113 5 dX12_count_33 (by omega) (by omega) rfl (by decide) ?_
      refine g_aload_n dX12_count_113 rfl ?_
      refine gE_X12_334 rfl dX12_count_114 sh_98 ew98_5.symm ?_
      exact g_ireturn dX12_count_117 retI (hPo _ (by omega))
    · skip
      refine g_tableIn 118 6 dX12_count_33 (by omega) (by omega) rfl (by decide) ?_
      refine g_aload_n dX12_count_118 rfl ?_
      refine gE_X12_13 rfl dX12_count_119 sh_98 ew98_6.symm ?_
      exact g_ireturn dX12_count_122 retI (hPo _ (by omega))
    · skip
      refine g_tableIn 123 7 dX12_count_33 (by omega) (by omega) rfl (by decide) ?_
      refine g_aload_n dX12_count_123 rfl ?_
      refine gI_X12_372 rfl dX12_count_124 sh_98 (m_98_7 hM) (fun v12 ev12 bv12 cv12 => ?_)
      exact g_ireturn dX12_count_127 retI (hPo _ (by omega))
    · skip
      refine g_tableIn 128 8 dX12_count_33 (by omega) (by omega) rfl (by decide) ?_
      refine g_aload_n dX12_count_128 rfl ?_
      refine g_cVP (as := []) (c_X12_allBruises_98  h hM) dX12_count_129 mi_X12_allBruises in_X12_allBruises se_X12_allBruises ml_X12_425 rfl rfl rfl sh_98 rfl rfl (Nat.le_of_ble_eq_true rfl) (fun v13 q14 => ?_)
      obtain ⟨bv13, cv13⟩ := q14
      exact g_ireturn dX12_count_132 retI (hPo _ (by omega))
    · skip
      refine g_tableIn 133 9 dX12_count_33 (by omega) (by omega) rfl (by decide) ?_
      refine g_aload_n dX12_count_133 rfl ?_
      refine g_cVP (as := []) (c_X12_allSlates_98  h hM) dX12_count_134 mi_X12_allSlates in_X12_allSlates se_X12_allSlates ml_X12_422 rfl rfl rfl sh_98 rfl rfl (Nat.le_of_ble_eq_true rfl) (fun v15 q16 => ?_)
      obtain ⟨bv15, cv15⟩ := q16
      exact g_ireturn dX12_count_137 retI (hPo _ (by omega))
    · skip
      refine g_tableOut 138 dX12_count_33 (by omega) (by decide) ?_
      refine g_iconst dX12_count_138 (inR_c rfl) ?_
      exact g_ireturn dX12_count_139 retI (hPo _ (by omega))
