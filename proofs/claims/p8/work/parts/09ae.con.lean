set_option maxRecDepth 100000 in
set_option maxHeartbeats 4000000 in
theorem c_X12_sizeOf (x1 : Int) (h : MEM) (hM : MBm h) (bx1 : 0 ≤ x1) (dx1 : x1 ≤ 255) : CP yX12_sizeOf cX12_sizeOf 3 (some .int) 1 [pI x1] h (fun x => -2147483648 ≤ x ∧ x ≤ 2147483647) := by
  refine CP.of (L0 := [some (pI x1), none, none]) rfl (Nat.le_of_ble_eq_true rfl) rfl (fun Po hPo hav => ?_)
  refine g_iconst dX12_sizeOf_0 (inR_c rfl) ?_
  refine g_istore_n dX12_sizeOf_1 (by decide) rfl ?_
  refine g_iload_n dX12_sizeOf_2 rfl (fun _ => ?_)
  have c4 : ∀ (n : Nat) (y1 y2 : Int) , -2147483648 ≤ y1 → y1 ≤ 2147483647 → 0 ≤ y2 → y2 ≤ 255 → y2 < (n : Int) → G yX12_sizeOf cX12_sizeOf 3 (some .int) none Po (1, 60, 0, 0) 4 [none, some (pI y1), some (pI y2)] [] SH h 0 0 := by
    intro n
    induction n with
    | zero =>
      intro y1 y2 by1 dy1 by2 dy2 hn
      exfalso; omega
    | succ n ih4 =>
      intro y1 y2 by1 dy1 by2 dy2 hn
      refine g_iload_n dX12_sizeOf_4 rfl (fun _ => ?_)
      refine g_if_eq 20 dX12_sizeOf_5 (by decide) (fun q3 => ?_) (fun q3 => ?_)
      · skip
        refine g_iload_n dX12_sizeOf_20 rfl (fun _ => ?_)
        exact g_ireturn dX12_sizeOf_21 retI (hPo _ ⟨(by omega), (by omega)⟩)
      · skip
        refine g_iincF dX12_sizeOf_8 rfl rfl (fun v4 bv4 cv4 => ?_)
        refine g_iload_n dX12_sizeOf_11 rfl (fun _ => ?_)
        refine g_iload_n dX12_sizeOf_12 rfl (fun _ => ?_)
        refine g_iconst dX12_sizeOf_13 (inR_c rfl) ?_
        refine g_isubB dX12_sizeOf_14 (by omega) (by omega) ?_
        refine g_iandX (lo := 0) (hi := (y2 - 1)) dX12_sizeOf_15 (iand_r (by omega) (by omega)) (fun v5 ev5 bv5 cv5 => ?_)
        refine g_istore_n dX12_sizeOf_16 (by decide) rfl ?_
        refine g_goto 4 dX12_sizeOf_17 (by decide) ?_
        exact ih4 _ _ (by omega) (by omega) (by omega) (by omega) (by omega)
  refine g_istore_n dX12_sizeOf_3 (by decide) rfl ?_
  refine g_drop 0 ?_
  exact c4 257 _ _ (by omega) (by omega) (by omega) (by omega) (by omega)
set_option maxRecDepth 100000 in
set_option maxHeartbeats 4000000 in
theorem c_X12_powerOf_98 (x1 : Int) (h : MEM) (hM : MBm h) (bx1 : -8 ≤ x1) (dx1 : x1 ≤ 8) (p0_0 : 1 ≤ h 98 2) (p0_1 : h 98 2 ≤ 10) : CP yX12_powerOf cX12_powerOf 4 (some .int) 1 [pR 98, pI x1] h (fun x => 1 ≤ x ∧ x ≤ 100000000) := by
  refine CP.of (L0 := [some (pR 98), some (pI x1), none, none]) rfl (Nat.le_of_ble_eq_true rfl) rfl (fun Po hPo hav => ?_)
  obtain ⟨w98_2, ew98_2⟩ : ∃ z, z = h 98 2 := ⟨_, rfl⟩
  refine g_iconst dX12_powerOf_0 (inR_c rfl) ?_
  refine g_istore_n dX12_powerOf_1 (by decide) rfl ?_
  refine g_iconst dX12_powerOf_2 (inR_c rfl) ?_
  have c4 : ∀ (n : Nat) (y1 y2 : Int) , 1 ≤ y1 → y1 ≤ 100000000 → 0 ≤ y2 → y2 ≤ 8 → y2 ≤ 8 → (-1) * y1 ≤ -1 → PW y1 y2 → 8 - y2 < (n : Int) → G yX12_powerOf cX12_powerOf 4 (some .int) none Po (1, 60, 0, 0) 4 [some (pR 98), some (pI x1), some (pI y1), some (pI y2)] [] SH h 0 0 := by
    intro n
    induction n with
    | zero =>
      intro y1 y2 by1 dy1 by2 dy2 li4_0 li4_1 e4_0 hn
      exfalso; omega
    | succ n ih4 =>
      intro y1 y2 by1 dy1 by2 dy2 li4_0 li4_1 e4_0 hn
      refine g_iload_n dX12_powerOf_4 rfl (fun _ => ?_)
      refine g_iload_n dX12_powerOf_5 rfl (fun _ => ?_)
      refine g_icmp_ge 22 dX12_powerOf_6 (by decide) (fun q3 => ?_) (fun q3 => ?_)
      · skip
        refine g_iload_n dX12_powerOf_22 rfl (fun _ => ?_)
        exact g_ireturn dX12_powerOf_23 retI (hPo _ ⟨(by omega), (by omega)⟩)
      · skip
        refine g_iload_n dX12_powerOf_9 rfl (fun _ => ?_)
        have al4 : 1 ≤ y1 ∧ y1 ≤ 10000000 := ⟨by omega, PW_b e4_0 (by omega) (by omega)⟩
        refine g_aload_n dX12_powerOf_10 rfl ?_
        refine gE_X12_172 rfl dX12_powerOf_11 sh_98 ew98_2.symm ?_
        refine g_imulQ dX12_powerOf_14 (A := 1) (B := 10000000) (A2 := 1) (B2 := 10) (by omega) (by omega) (by omega) (by omega) (by decide) (by decide) (by decide) (fun v5 mv5 bv5 cv5 => ?_)
        refine g_istore_n dX12_powerOf_15 (by decide) rfl ?_
        refine g_iincB dX12_powerOf_16 rfl rfl (by omega) (by omega) ?_
        refine g_goto 4 dX12_powerOf_19 (by decide) ?_
        exact ih4 _ _ (by omega) (by omega) (by omega) (by omega) (by omega) (by omega) (by first | exact PW_0 | (refine PW_s e4_0 (by omega) (by omega) ?_ ?_ (by assumption) <;> omega)) (by omega)
  refine g_istore_n dX12_powerOf_3 (by decide) rfl ?_
  exact c4 9 _ _ (by omega) (by omega) (by omega) (by omega) (by omega) (by omega) (by first | exact PW_0 | (refine PW_s e4_0 (by omega) (by omega) ?_ ?_ (by assumption) <;> omega)) (by omega)
set_option maxRecDepth 100000 in
set_option maxHeartbeats 4000000 in
theorem c_X12_fullIn_98 (x1 x2 : Int) (h : MEM) (hM : MBm h) (bx1 : 0 ≤ x1) (dx1 : x1 ≤ 9) (bx2 : 1 ≤ x2) (dx2 : x2 ≤ 20) (p0_0 : 0 ≤ h 98 5) (p0_1 : h 98 5 ≤ 999800) (f_WFL : WFL h) : CI yX12_fullIn cX12_fullIn 4 (some .int) 9 [pR 98, pI x1, pI x2] h (fun x h' => MBm h' ∧ Fr [(98, 6), (98, 7), (98, 8), (98, 47), (98, 48), (98, 49), (98, 52), (101, 0), (105, 0), (107, 0), (111, 0), (112, 0), (113, 0), (128, 0), (129, 0)] h h' ∧ 0 ≤ x ∧ x ≤ 1000000000) := by
  refine CI.of (L0 := [some (pR 98), some (pI x1), some (pI x2), none]) rfl (Nat.le_of_ble_eq_true rfl) rfl (fun Po hPo hav => ?_)
  obtain ⟨w98_5, ew98_5⟩ : ∃ z, z = h 98 5 := ⟨_, rfl⟩
  have q1 : h 98 5 = w98_5 := ew98_5.symm
  obtain ⟨v2, ev2⟩ : ∃ z, z = h 98 2 := ⟨_, rfl⟩
  have bv2 : 0 ≤ v2 ∧ v2 ≤ 10 := by rw [ev2]; exact (m_98_2 hM)
  obtain ⟨v3, ev3⟩ : ∃ z, z = h 98 3 := ⟨_, rfl⟩
  have bv3 : 0 ≤ v3 ∧ v3 ≤ 8 := by rw [ev3]; exact (m_98_3 hM)
  obtain ⟨v4, ev4⟩ : ∃ z, z = h 98 4 := ⟨_, rfl⟩
  have bv4 : 0 ≤ v4 ∧ v4 ≤ 8 := by rw [ev4]; exact (m_98_4 hM)
  refine g_iconst dX12_fullIn_0 (inR_c rfl) ?_
  have c2 : ∀ (n : Nat) (y5 : Int) (h6 : MEM), MBm h6 → Fr [(98, 6), (98, 7), (98, 8), (98, 47), (98, 48), (98, 49), (98, 52), (101, 0), (105, 0), (107, 0), (111, 0), (112, 0), (113, 0), (128, 0), (129, 0)] h h6 → 0 ≤ y5 → y5 ≤ 21 → h6 98 5 ≤ h 98 5 + y5 → 0 ≤ h6 98 5 → 21 - y5 < (n : Int) → G yX12_fullIn cX12_fullIn 4 (some .int) none Po (9, 540, 0, 0) 2 [some (pR 98), some (pI x1), some (pI x2), some (pI y5)] [] SH h6 0 0 := by
    intro n
    induction n with
    | zero =>
      intro y5 h6 hMh6 hFh6 by5 dy5 e2_0 e2_1 hn
      exfalso; omega
    | succ n ih2 =>
      intro y5 h6 hMh6 hFh6 by5 dy5 e2_0 e2_1 hn
      refine g_iload_n dX12_fullIn_2 rfl (fun _ => ?_)
      refine g_iload_n dX12_fullIn_3 rfl (fun _ => ?_)
      refine g_icmp_gt 40 dX12_fullIn_4 (by decide) (fun q7 => ?_) (fun q7 => ?_)
      · skip
        refine g_ldc_w (v := 1000000000) dX12_fullIn_40 kc_X12_434 (inR_c rfl) ?_
        exact g_ireturn dX12_fullIn_43 retI (hPo _ _ ⟨hMh6, (Fr.sub hFh6 rfl), (by omega), (by omega)⟩)
      · skip
        refine g_aload_n dX12_fullIn_7 rfl ?_
        refine gR_X12_21 rfl dX12_fullIn_8 sh_98 (b := 101) (m_98_9 hMh6) ?_
        refine g_iload_n dX12_fullIn_11 rfl (fun _ => ?_)
        refine g_ialdB dX12_fullIn_12 sh_101 (by omega) (by omega) (m_101 hMh6 _) (fun v8 ev8 bv8 cv8 => ?_)
        refine g_aload_n dX12_fullIn_13 rfl ?_
        refine gR_X12_17 rfl dX12_fullIn_14 sh_98 (b := 100) (m_98_8 hMh6) ?_
        refine g_iload_n dX12_fullIn_17 rfl (fun _ => ?_)
        refine g_ialdB dX12_fullIn_18 sh_100 (by omega) (by omega) (m_100 hMh6 _) (fun v9 ev9 bv9 cv9 => ?_)
        refine g_icmp_ne 24 dX12_fullIn_19 (by decide) (fun q10 => ?_) (fun q10 => ?_)
        · skip
          refine g_iload_n dX12_fullIn_24 rfl (fun _ => ?_)
          refine g_iload_n dX12_fullIn_25 rfl (fun _ => ?_)
          refine g_icmp_ge 34 dX12_fullIn_26 (by decide) (fun q11 => ?_) (fun q11 => ?_)
          · skip
            refine g_iincB dX12_fullIn_34 rfl rfl (by omega) (by omega) ?_
            refine g_goto 2 dX12_fullIn_37 (by decide) ?_
            obtain ⟨v12, ev12⟩ : ∃ z, z = h6 98 5 := ⟨_, rfl⟩
            have bv12 : 0 ≤ v12 ∧ v12 ≤ 2000000000 := by rw [ev12]; exact (m_98_5 hMh6)
            exact ih2 _ _ hMh6 (Fr.sub hFh6 rfl) (by omega) (by omega) (by omega) (by omega) (by omega)
          · skip
            refine g_aload_n dX12_fullIn_29 rfl ?_
            refine g_iconst dX12_fullIn_30 (inR_c rfl) ?_
            obtain ⟨v13, ev13⟩ : ∃ z, z = h6 98 5 := ⟨_, rfl⟩
            have bv13 : 0 ≤ v13 ∧ v13 ≤ 2000000000 := by rw [ev13]; exact (m_98_5 hMh6)
            have q14 : h6 98 5 = v13 := ev13.symm
            refine g_cVV (as := [_]) (c_X12_goesOn_98 _ h6 hMh6 (by omega) (by omega) (by omega) (by omega) (WFL.fr (T := [(98, 6), (98, 7), (98, 8), (98, 47), (98, 48), (98, 49), (98, 52), (101, 0), (105, 0), (107, 0), (111, 0), (112, 0), (113, 0), (128, 0), (129, 0)]) f_WFL (Fr.sub hFh6 rfl) rfl)) dX12_fullIn_31 mi_X12_goesOn in_X12_goesOn se_X12_goesOn ml_X12_401 rfl rfl rfl sh_98 rfl rfl (Nat.le_of_ble_eq_true rfl) (fun h15 q16 => ?_)
            obtain ⟨hMh15, hFh15, z17⟩ := q16
            have kz17 : h15 98 5 = (v13 + 1) := by omega
            refine g_iincB dX12_fullIn_34 rfl rfl (by omega) (by omega) ?_
            refine g_goto 2 dX12_fullIn_37 (by decide) ?_
            have q18 : h15 98 5 = (v13 + 1) := kz17
            exact ih2 _ _ hMh15 (Fr.tr (Fr.sub hFh6 rfl) hFh15 rfl) (by omega) (by omega) (by omega) (by omega) (by omega)
        · skip
          refine g_iload_n dX12_fullIn_22 rfl (fun _ => ?_)
          exact g_ireturn dX12_fullIn_23 retI (hPo _ _ ⟨hMh6, (Fr.sub hFh6 rfl), (by omega), (by omega)⟩)
  refine g_istore_n dX12_fullIn_1 (by decide) rfl ?_
  have q19 : h 98 5 = w98_5 := ew98_5.symm
  exact c2 22 _ _ hM Fr.rf (by omega) (by omega) (by omega) (by omega) (by omega)
set_option maxRecDepth 100000 in
set_option maxHeartbeats 4000000 in
theorem c_X12_roofIn_98 (x1 x2 x3 : Int) (h : MEM) (hM : MBm h) (bx1 : 0 ≤ x1) (dx1 : x1 ≤ 2147483647) (bx2 : 0 ≤ x2) (dx2 : x2 ≤ 8) (bx3 : 0 ≤ x3) (dx3 : x3 ≤ 7) (p0_0 : 1 ≤ h 98 2) (p0_1 : h 98 2 ≤ 10) : CP yX12_roofIn cX12_roofIn 4 (some .int) 2 [pR 98, pI x1, pI x2, pI x3] h (fun x => 0 ≤ x ∧ x ≤ 9) := by
  refine CP.of (L0 := [some (pR 98), some (pI x1), some (pI x2), some (pI x3)]) rfl (Nat.le_of_ble_eq_true rfl) rfl (fun Po hPo hav => ?_)
  obtain ⟨w98_2, ew98_2⟩ : ∃ z, z = h 98 2 := ⟨_, rfl⟩
  refine g_iload_n dX12_roofIn_0 rfl (fun _ => ?_)
  refine g_aload_n dX12_roofIn_1 rfl ?_
  refine g_iload_n dX12_roofIn_2 rfl (fun _ => ?_)
  refine g_iconst dX12_roofIn_3 (inR_c rfl) ?_
  refine g_isubB dX12_roofIn_4 (by omega) (by omega) ?_
  refine g_iload_n dX12_roofIn_5 rfl (fun _ => ?_)
  refine g_isubB dX12_roofIn_6 (by omega) (by omega) ?_
  have q1 : h 98 2 = w98_2 := ew98_2.symm
  refine g_cVP (as := [_]) (c_X12_powerOf_98 _ h hM (by omega) (by omega) (by omega) (by omega)) dX12_roofIn_7 mi_X12_powerOf in_X12_powerOf se_X12_powerOf ml_X12_431 rfl rfl rfl sh_98 rfl rfl (Nat.le_of_ble_eq_true rfl) (fun v2 q3 => ?_)
  obtain ⟨bv2, cv2⟩ := q3
  refine g_idivX (lo := 0) (hi := x1) dX12_roofIn_10 (by omega) (idiv_b (by omega) (by omega) (by omega)) (fun v4 ev4 bv4 cv4 => ?_)
  refine g_aload_n dX12_roofIn_11 rfl ?_
  refine gE_X12_172 rfl dX12_roofIn_12 sh_98 ew98_2.symm ?_
  refine g_iremX (lo := 0) (hi := w98_2 - 1) dX12_roofIn_15 (by omega) (irem_b (by omega) (by omega) (by omega)) (fun v5 ev5 bv5 cv5 => ?_)
  exact g_ireturn dX12_roofIn_16 retI (hPo _ ⟨(by omega), (by omega)⟩)
set_option maxRecDepth 100000 in
set_option maxHeartbeats 4000000 in
theorem c_X12_findsSet_98 (x1 x2 x3 : Int) (gi gs : Nat → Int) (h : MEM) (hM : MBm h) (bx1 : 0 ≤ x1) (dx1 : x1 ≤ 8) (bx2 : 0 ≤ x2) (dx2 : x2 ≤ 9) (bx3 : 1 ≤ x3) (dx3 : x3 ≤ 20) (p0_0 : 1 ≤ h 98 2) (p0_1 : h 98 2 ≤ 10) (p1_0 : 0 ≤ h 98 5) (p1_1 : h 98 5 ≤ 999700) (f_WFL : WFL h) (f_IS : ISn gi h) (f_S1 : S1n gs h) : CV yX12_findsSet cX12_findsSet 8 (none) 10 [pR 98, pI x1, pI x2, pI x3] h (fun h' => MBm h' ∧ Fr [(98, 3), (98, 4), (98, 5), (98, 6), (98, 7), (98, 8), (98, 47), (98, 48), (98, 49), (98, 52), (98, 73), (98, 74), (98, 75), (100, 0), (101, 0), (102, 0), (103, 0), (104, 0), (105, 0), (106, 0), (107, 0), (108, 0), (109, 0), (110, 0), (111, 0), (112, 0), (113, 0), (114, 0), (128, 0), (129, 0), (130, 0), (131, 0), (132, 0), (133, 0), (134, 0), (135, 0), (136, 0), (137, 0), (138, 0), (139, 0), (140, 0), (141, 0), (142, 0), (143, 0), (144, 0), (145, 1), (145, 2), (145, 3), (145, 4), (145, 5), (145, 6)] h h' ∧ ISn gi h' ∧ S1n gs h' ∧ h' 98 2 = h 98 2 ∧ h' 98 3 = h 98 3 ∧ h' 98 4 = h 98 4 ∧ h' 98 5 = h 98 5) := by
  refine CV.of (L0 := [some (pR 98), some (pI x1), some (pI x2), some (pI x3), none, none, none, none]) rfl (Nat.le_of_ble_eq_true rfl) rfl (fun Po hPo hav => ?_)
  obtain ⟨v1, ev1⟩ : ∃ z, z = h 98 2 := ⟨_, rfl⟩
  have bv1 : 0 ≤ v1 ∧ v1 ≤ 10 := by rw [ev1]; exact (m_98_2 hM)
  obtain ⟨v2, ev2⟩ : ∃ z, z = h 98 3 := ⟨_, rfl⟩
  have bv2 : 0 ≤ v2 ∧ v2 ≤ 8 := by rw [ev2]; exact (m_98_3 hM)
  obtain ⟨v3, ev3⟩ : ∃ z, z = h 98 4 := ⟨_, rfl⟩
  have bv3 : 0 ≤ v3 ∧ v3 ≤ 8 := by rw [ev3]; exact (m_98_4 hM)
  obtain ⟨v4, ev4⟩ : ∃ z, z = h 98 5 := ⟨_, rfl⟩
  have bv4 : 0 ≤ v4 ∧ v4 ≤ 2000000000 := by rw [ev4]; exact (m_98_5 hM)
  obtain ⟨w98_2, ew98_2⟩ : ∃ z, z = h 98 2 := ⟨_, rfl⟩
  obtain ⟨w98_5, ew98_5⟩ : ∃ z, z = h 98 5 := ⟨_, rfl⟩
  have q5 : h 98 2 = w98_2 := ew98_2.symm
  have q6 : h 98 3 = v2 := ev2.symm
  have q7 : h 98 4 = v3 := ev3.symm
  have q8 : h 98 5 = w98_5 := ew98_5.symm
  refine g_aload_n dX12_findsSet_0 rfl ?_
  refine g_iconst dX12_findsSet_1 (inR_c rfl) ?_
  refine pI_X12_435 rfl dX12_findsSet_2 sh_98 (fun h9 eh9 => ?_)
  have hFh9 := Fr.st eh9
  have hMh9 := u_98_72 hM eh9 (by omega) (by omega)
  refine g_aload_n dX12_findsSet_5 rfl ?_
  refine g_ldc_w (v := 1000000000) dX12_findsSet_6 kc_X12_434 (inR_c rfl) ?_
  refine pI_X12_438 rfl dX12_findsSet_9 sh_98 (fun h10 eh10 => ?_)
  have hFh10 := Fr.st eh10
  have hMh10 := u_98_73 hMh9 eh10 (by omega) (by omega)
  refine g_aload_n dX12_findsSet_12 rfl ?_
  refine g_ldc_w (v := 1000000000) dX12_findsSet_13 kc_X12_434 (inR_c rfl) ?_
  refine pI_X12_441 rfl dX12_findsSet_16 sh_98 (fun h11 eh11 => ?_)
  have hFh11 := Fr.st eh11
  have hMh11 := u_98_74 hMh10 eh11 (by omega) (by omega)
  refine g_aload_n dX12_findsSet_19 rfl ?_
  refine g_iload_n dX12_findsSet_20 rfl (fun _ => ?_)
  have q12 : h11 98 2 = w98_2 := ((hFh11 98 2 rfl).trans ((hFh10 98 2 rfl).trans ((hFh9 98 2 rfl).trans ew98_2.symm)))
  refine g_cVP (as := [_]) (c_X12_powerOf_98 _ h11 hMh11 (by omega) (by omega) (by omega) (by omega)) dX12_findsSet_21 mi_X12_powerOf in_X12_powerOf se_X12_powerOf ml_X12_431 rfl rfl rfl sh_98 rfl rfl (Nat.le_of_ble_eq_true rfl) (fun v13 q14 => ?_)
  obtain ⟨bv13, cv13⟩ := q14
  refine g_istore dX12_findsSet_24 (by decide) rfl ?_
  refine g_iconst dX12_findsSet_26 (inR_c rfl) ?_
  have c29 : ∀ (n : Nat) (y15 : Int) (h16 : MEM), MBm h16 → Fr [(98, 3), (98, 4), (98, 5), (98, 6), (98, 7), (98, 8), (98, 47), (98, 48), (98, 49), (98, 52), (98, 73), (98, 74), (98, 75), (100, 0), (101, 0), (102, 0), (103, 0), (104, 0), (105, 0), (106, 0), (107, 0), (108, 0), (109, 0), (110, 0), (111, 0), (112, 0), (113, 0), (114, 0), (128, 0), (129, 0), (130, 0), (131, 0), (132, 0), (133, 0), (134, 0), (135, 0), (136, 0), (137, 0), (138, 0), (139, 0), (140, 0), (141, 0), (142, 0), (143, 0), (144, 0), (145, 1), (145, 2), (145, 3), (145, 4), (145, 5), (145, 6)] h11 h16 → 0 ≤ y15 → y15 ≤ 2147483647 → h16 98 2 = w98_2 → h16 98 3 = v2 → h16 98 4 = v3 → h16 98 5 = w98_5 → y15 + (-1) * v13 ≤ 0 → ISn gi h16 → S1n gs h16 → v13 + 0 - y15 < (n : Int) → G yX12_findsSet cX12_findsSet 8 (none) none Po (10, 600, 0, 0) 29 [some (pR 98), some (pI x1), some (pI x2), some (pI x3), some (pI v13), some (pI y15), none, none] [] SH h16 0 0 := by
    intro n
    induction n with
    | zero =>
      intro y15 h16 hMh16 hFh16 by15 dy15 kp29_98_2 kp29_98_3 kp29_98_4 kp29_98_5 li29_0 e29_0 e29_1 hn
      exfalso; omega
    | succ n ih29 =>
      intro y15 h16 hMh16 hFh16 by15 dy15 kp29_98_2 kp29_98_3 kp29_98_4 kp29_98_5 li29_0 e29_0 e29_1 hn
      refine g_iload dX12_findsSet_29 rfl (fun _ => ?_)
      refine g_iload dX12_findsSet_31 rfl (fun _ => ?_)
      refine g_icmp_ge 158 dX12_findsSet_33 (by decide) (fun q17 => ?_) (fun q17 => ?_)
      · skip
        have q18 : h16 98 2 = w98_2 := kp29_98_2
        have q19 : h16 98 3 = v2 := kp29_98_3
        have q20 : h16 98 4 = v3 := kp29_98_4
        have q21 : h16 98 5 = w98_5 := kp29_98_5
        exact g_return dX12_findsSet_158 rfl (hPo _ ⟨hMh16, (Fr.tr (Fr.tr (Fr.tr (Fr.sub hFh9 rfl) hFh10 rfl) hFh11 rfl) hFh16 rfl), e29_0, e29_1, (by omega), (by omega), (by omega), (by omega)⟩)
      · skip
        refine g_aload_n dX12_findsSet_36 rfl ?_
        refine g_iconst dX12_findsSet_37 (inR_c rfl) ?_
        have q22 : h16 98 2 = w98_2 := kp29_98_2
        have q23 : h16 98 3 = v2 := kp29_98_3
        have q24 : h16 98 4 = v3 := kp29_98_4
        have q25 : h16 98 5 = w98_5 := kp29_98_5
        refine g_cVV (as := [_]) (c_X12_setsAside_98_k0 _ _ h16 hMh16 e29_0 e29_1) dX12_findsSet_38 mi_X12_setsAside in_X12_setsAside se_X12_setsAside ml_X12_419 rfl rfl rfl sh_98 rfl rfl (Nat.le_of_ble_eq_true rfl) (fun h26 q27 => ?_)
        obtain ⟨hMh26, hFh26, z28, z29, z30, z31, z32, z33⟩ := q27
        have kz30 : h26 145 0 = w98_2 := by omega
        have kz31 : h26 145 1 = v2 := by omega
        have kz32 : h26 145 2 = v3 := by omega
        have kz33 : h26 145 3 = w98_5 := by omega
        refine g_iconst dX12_findsSet_41 (inR_c rfl) ?_
        have c44 : ∀ (n : Nat) (y34 : Int) (h35 : MEM), MBm h35 → Fr [(103, 0)] h26 h35 → 0 ≤ y34 → y34 ≤ 8 → 8 - y34 < (n : Int) → G yX12_findsSet cX12_findsSet 8 (none) none Po (10, 600, 0, 0) 44 [some (pR 98), some (pI x1), some (pI x2), some (pI x3), some (pI v13), some (pI y15), some (pI y34), none] [] SH h35 0 0 := by
          intro n
          induction n with
          | zero =>
            intro y34 h35 hMh35 hFh35 by34 dy34 hn
            exfalso; omega
          | succ n ih44 =>
            intro y34 h35 hMh35 hFh35 by34 dy34 hn
            refine g_iload dX12_findsSet_44 rfl (fun _ => ?_)
            refine g_iload_n dX12_findsSet_46 rfl (fun _ => ?_)
            refine g_icmp_ge 77 dX12_findsSet_47 (by decide) (fun q36 => ?_) (fun q36 => ?_)
            · skip
              refine g_aload_n dX12_findsSet_77 rfl ?_
              refine g_iload_n dX12_findsSet_78 rfl (fun _ => ?_)
              refine g_iload_n dX12_findsSet_79 rfl (fun _ => ?_)
              have q37 : h35 98 5 = w98_5 := ((hFh35 98 5 rfl).trans ((hFh26 98 5 rfl).trans kp29_98_5))
              refine g_cV (as := [_, _]) (c_X12_fullIn_98 _ _ h35 hMh35 (by omega) (by omega) (by omega) (by omega) (by omega) (by omega) (WFL.fr (T := [(98, 3), (98, 4), (98, 5), (98, 6), (98, 7), (98, 8), (98, 47), (98, 48), (98, 49), (98, 52), (98, 73), (98, 74), (98, 75), (100, 0), (101, 0), (102, 0), (103, 0), (104, 0), (105, 0), (106, 0), (107, 0), (108, 0), (109, 0), (110, 0), (111, 0), (112, 0), (113, 0), (114, 0), (128, 0), (129, 0), (130, 0), (131, 0), (132, 0), (133, 0), (134, 0), (135, 0), (136, 0), (137, 0), (138, 0), (139, 0), (140, 0), (141, 0), (142, 0), (143, 0), (144, 0), (145, 1), (145, 2), (145, 3), (145, 4), (145, 5), (145, 6)]) f_WFL (Fr.tr (Fr.tr (Fr.tr (Fr.tr (Fr.tr (Fr.sub hFh9 rfl) hFh10 rfl) hFh11 rfl) hFh16 rfl) hFh26 rfl) hFh35 rfl) rfl)) dX12_findsSet_80 mi_X12_fullIn in_X12_fullIn se_X12_fullIn ml_X12_447 rfl rfl rfl sh_98 rfl rfl (Nat.le_of_ble_eq_true rfl) (fun v38 h39 q40 => ?_)
              obtain ⟨hMh39, hFh39, bv38, cv38⟩ := q40
              refine g_istore dX12_findsSet_83 (by decide) rfl ?_
              refine g_aload_n dX12_findsSet_85 rfl ?_
              refine g_cVP (as := []) (c_X12_allBruises_98  h39 hMh39) dX12_findsSet_86 mi_X12_allBruises in_X12_allBruises se_X12_allBruises ml_X12_425 rfl rfl rfl sh_98 rfl rfl (Nat.le_of_ble_eq_true rfl) (fun v41 q42 => ?_)
              obtain ⟨bv41, cv41⟩ := q42
              refine g_istore dX12_findsSet_89 (by decide) rfl ?_
              refine g_aload_n dX12_findsSet_91 rfl ?_
              refine g_iconst dX12_findsSet_92 (inR_c rfl) ?_
              have q43 : h39 145 0 = w98_2 := ((hFh39 145 _ rfl).trans ((hFh35 145 _ rfl).trans kz30))
              have q44 : h39 145 1 = v2 := ((hFh39 145 _ rfl).trans ((hFh35 145 _ rfl).trans kz31))
              have q45 : h39 145 2 = v3 := ((hFh39 145 _ rfl).trans ((hFh35 145 _ rfl).trans kz32))
              have q46 : h39 145 3 = w98_5 := ((hFh39 145 _ rfl).trans ((hFh35 145 _ rfl).trans kz33))
              refine g_cVV (as := [_]) (c_X12_putsBack_98_k0 _ h39 hMh39 (S0n.fr (T := [(98, 6), (98, 7), (98, 8), (98, 47), (98, 48), (98, 49), (98, 52), (101, 0), (103, 0), (105, 0), (107, 0), (111, 0), (112, 0), (113, 0), (128, 0), (129, 0)]) z28 (Fr.tr (Fr.sub hFh35 rfl) hFh39 rfl) rfl)) dX12_findsSet_93 mi_X12_putsBack in_X12_putsBack se_X12_putsBack ml_X12_428 rfl rfl rfl sh_98 rfl rfl (Nat.le_of_ble_eq_true rfl) (fun h47 q48 => ?_)
              obtain ⟨hMh47, hFh47, z49, z50, z51, z52, z53⟩ := q48
              have kz50 : h47 98 2 = w98_2 := by omega
              have kz51 : h47 98 3 = v2 := by omega
              have kz52 : h47 98 4 = v3 := by omega
              have kz53 : h47 98 5 = w98_5 := by omega
              refine g_iload dX12_findsSet_96 rfl (fun _ => ?_)
              refine g_ldc_w (v := 1000000000) dX12_findsSet_98 kc_X12_434 (inR_c rfl) ?_
              refine g_icmp_eq 152 dX12_findsSet_101 (by decide) (fun q54 => ?_) (fun q54 => ?_)
              · skip
                refine g_iincB dX12_findsSet_152 rfl rfl (by omega) (by omega) ?_
                refine g_goto 29 dX12_findsSet_155 (by decide) ?_
                refine g_drop 6 ?_
                refine g_drop 7 ?_
                have q55 : h47 98 2 = w98_2 := kz50
                have q56 : h47 98 3 = v2 := kz51
                have q57 : h47 98 4 = v3 := kz52
                have q58 : h47 98 5 = w98_5 := kz53
                exact ih29 _ _ hMh47 (Fr.tr (Fr.tr (Fr.tr (Fr.tr (Fr.sub hFh16 rfl) hFh26 rfl) hFh35 rfl) hFh39 rfl) hFh47 rfl) (by omega) (by omega) (by omega) (by omega) (by omega) (by omega) (by omega) z49 (S1n.fr (T := [(98, 3), (98, 4), (98, 5), (98, 6), (98, 7), (98, 8), (98, 47), (98, 48), (98, 49), (98, 52), (100, 0), (101, 0), (102, 0), (103, 0), (104, 0), (105, 0), (106, 0), (107, 0), (108, 0), (109, 0), (110, 0), (111, 0), (112, 0), (113, 0), (114, 0), (128, 0), (129, 0)]) z29 (Fr.tr (Fr.tr (Fr.sub hFh35 rfl) hFh39 rfl) hFh47 rfl) rfl) (by omega)
              · skip
                refine g_iload dX12_findsSet_104 rfl (fun _ => ?_)
                refine g_aload_n dX12_findsSet_106 rfl ?_
                refine gI_X12_438 rfl dX12_findsSet_107 sh_98 (m_98_73 hMh47) (fun v59 ev59 bv59 cv59 => ?_)
                refine g_icmp_gt 152 dX12_findsSet_110 (by decide) (fun q60 => ?_) (fun q60 => ?_)
                · skip
                  refine g_iincB dX12_findsSet_152 rfl rfl (by omega) (by omega) ?_
                  refine g_goto 29 dX12_findsSet_155 (by decide) ?_
                  refine g_drop 6 ?_
                  refine g_drop 7 ?_
                  have q61 : h47 98 2 = w98_2 := kz50
                  have q62 : h47 98 3 = v2 := kz51
                  have q63 : h47 98 4 = v3 := kz52
                  have q64 : h47 98 5 = w98_5 := kz53
                  exact ih29 _ _ hMh47 (Fr.tr (Fr.tr (Fr.tr (Fr.tr (Fr.sub hFh16 rfl) hFh26 rfl) hFh35 rfl) hFh39 rfl) hFh47 rfl) (by omega) (by omega) (by omega) (by omega) (by omega) (by omega) (by omega) z49 (S1n.fr (T := [(98, 3), (98, 4), (98, 5), (98, 6), (98, 7), (98, 8), (98, 47), (98, 48), (98, 49), (98, 52), (100, 0), (101, 0), (102, 0), (103, 0), (104, 0), (105, 0), (106, 0), (107, 0), (108, 0), (109, 0), (110, 0), (111, 0), (112, 0), (113, 0), (114, 0), (128, 0), (129, 0)]) z29 (Fr.tr (Fr.tr (Fr.sub hFh35 rfl) hFh39 rfl) hFh47 rfl) rfl) (by omega)
                · skip
                  refine g_iload dX12_findsSet_113 rfl (fun _ => ?_)
                  refine g_aload_n dX12_findsSet_115 rfl ?_
                  refine gE_X12_438 rfl dX12_findsSet_116 sh_98 ev59.symm ?_
                  refine g_icmp_ne 134 dX12_findsSet_119 (by decide) (fun q65 => ?_) (fun q65 => ?_)
                  · skip
                    refine g_aload_n dX12_findsSet_134 rfl ?_
                    refine g_iload dX12_findsSet_135 rfl (fun _ => ?_)
                    refine pI_X12_435 rfl dX12_findsSet_137 sh_98 (fun h66 eh66 => ?_)
                    have hFh66 := Fr.st eh66
                    have hMh66 := u_98_72 hMh47 eh66 (by omega) (by omega)
                    refine g_aload_n dX12_findsSet_140 rfl ?_
                    refine g_iload dX12_findsSet_141 rfl (fun _ => ?_)
                    refine pI_X12_438 rfl dX12_findsSet_143 sh_98 (fun h67 eh67 => ?_)
                    have hFh67 := Fr.st eh67
                    have hMh67 := u_98_73 hMh66 eh67 (by omega) (by omega)
                    refine g_aload_n dX12_findsSet_146 rfl ?_
                    refine g_iload dX12_findsSet_147 rfl (fun _ => ?_)
                    refine pI_X12_441 rfl dX12_findsSet_149 sh_98 (fun h68 eh68 => ?_)
                    have hFh68 := Fr.st eh68
                    have hMh68 := u_98_74 hMh67 eh68 (by omega) (by omega)
                    refine g_iincB dX12_findsSet_152 rfl rfl (by omega) (by omega) ?_
                    refine g_goto 29 dX12_findsSet_155 (by decide) ?_
                    refine g_drop 6 ?_
                    refine g_drop 7 ?_
                    have q69 : h68 98 2 = w98_2 := ((hFh68 98 2 rfl).trans ((hFh67 98 2 rfl).trans ((hFh66 98 2 rfl).trans kz50)))
                    have q70 : h68 98 3 = v2 := ((hFh68 98 3 rfl).trans ((hFh67 98 3 rfl).trans ((hFh66 98 3 rfl).trans kz51)))
                    have q71 : h68 98 4 = v3 := ((hFh68 98 4 rfl).trans ((hFh67 98 4 rfl).trans ((hFh66 98 4 rfl).trans kz52)))
                    have q72 : h68 98 5 = w98_5 := ((hFh68 98 5 rfl).trans ((hFh67 98 5 rfl).trans ((hFh66 98 5 rfl).trans kz53)))
                    exact ih29 _ _ hMh68 (Fr.tr (Fr.tr (Fr.tr (Fr.tr (Fr.tr (Fr.tr (Fr.tr (Fr.sub hFh16 rfl) hFh26 rfl) hFh35 rfl) hFh39 rfl) hFh47 rfl) hFh66 rfl) hFh67 rfl) hFh68 rfl) (by omega) (by omega) (by omega) (by omega) (by omega) (by omega) (by omega) (ISn.fr (T := [(98, 73), (98, 74), (98, 75)]) z49 (Fr.tr (Fr.tr (Fr.sub hFh66 rfl) hFh67 rfl) hFh68 rfl) rfl) (S1n.fr (T := [(98, 3), (98, 4), (98, 5), (98, 6), (98, 7), (98, 8), (98, 47), (98, 48), (98, 49), (98, 52), (98, 73), (98, 74), (98, 75), (100, 0), (101, 0), (102, 0), (103, 0), (104, 0), (105, 0), (106, 0), (107, 0), (108, 0), (109, 0), (110, 0), (111, 0), (112, 0), (113, 0), (114, 0), (128, 0), (129, 0)]) z29 (Fr.tr (Fr.tr (Fr.tr (Fr.tr (Fr.tr (Fr.sub hFh35 rfl) hFh39 rfl) hFh47 rfl) hFh66 rfl) hFh67 rfl) hFh68 rfl) rfl) (by omega)
                  · skip
                    refine g_iload dX12_findsSet_122 rfl (fun _ => ?_)
                    refine g_aload_n dX12_findsSet_124 rfl ?_
                    refine gI_X12_441 rfl dX12_findsSet_125 sh_98 (m_98_74 hMh47) (fun v73 ev73 bv73 cv73 => ?_)
                    refine g_icmp_lt 134 dX12_findsSet_128 (by decide) (fun q74 => ?_) (fun q74 => ?_)
                    · skip
                      refine g_aload_n dX12_findsSet_134 rfl ?_
                      refine g_iload dX12_findsSet_135 rfl (fun _ => ?_)
                      refine pI_X12_435 rfl dX12_findsSet_137 sh_98 (fun h75 eh75 => ?_)
                      have hFh75 := Fr.st eh75
                      have hMh75 := u_98_72 hMh47 eh75 (by omega) (by omega)
                      refine g_aload_n dX12_findsSet_140 rfl ?_
                      refine g_iload dX12_findsSet_141 rfl (fun _ => ?_)
                      refine pI_X12_438 rfl dX12_findsSet_143 sh_98 (fun h76 eh76 => ?_)
                      have hFh76 := Fr.st eh76
                      have hMh76 := u_98_73 hMh75 eh76 (by omega) (by omega)
                      refine g_aload_n dX12_findsSet_146 rfl ?_
                      refine g_iload dX12_findsSet_147 rfl (fun _ => ?_)
                      refine pI_X12_441 rfl dX12_findsSet_149 sh_98 (fun h77 eh77 => ?_)
                      have hFh77 := Fr.st eh77
                      have hMh77 := u_98_74 hMh76 eh77 (by omega) (by omega)
                      refine g_iincB dX12_findsSet_152 rfl rfl (by omega) (by omega) ?_
                      refine g_goto 29 dX12_findsSet_155 (by decide) ?_
                      refine g_drop 6 ?_
                      refine g_drop 7 ?_
                      have q78 : h77 98 2 = w98_2 := ((hFh77 98 2 rfl).trans ((hFh76 98 2 rfl).trans ((hFh75 98 2 rfl).trans kz50)))
                      have q79 : h77 98 3 = v2 := ((hFh77 98 3 rfl).trans ((hFh76 98 3 rfl).trans ((hFh75 98 3 rfl).trans kz51)))
                      have q80 : h77 98 4 = v3 := ((hFh77 98 4 rfl).trans ((hFh76 98 4 rfl).trans ((hFh75 98 4 rfl).trans kz52)))
                      have q81 : h77 98 5 = w98_5 := ((hFh77 98 5 rfl).trans ((hFh76 98 5 rfl).trans ((hFh75 98 5 rfl).trans kz53)))
                      exact ih29 _ _ hMh77 (Fr.tr (Fr.tr (Fr.tr (Fr.tr (Fr.tr (Fr.tr (Fr.tr (Fr.sub hFh16 rfl) hFh26 rfl) hFh35 rfl) hFh39 rfl) hFh47 rfl) hFh75 rfl) hFh76 rfl) hFh77 rfl) (by omega) (by omega) (by omega) (by omega) (by omega) (by omega) (by omega) (ISn.fr (T := [(98, 73), (98, 74), (98, 75)]) z49 (Fr.tr (Fr.tr (Fr.sub hFh75 rfl) hFh76 rfl) hFh77 rfl) rfl) (S1n.fr (T := [(98, 3), (98, 4), (98, 5), (98, 6), (98, 7), (98, 8), (98, 47), (98, 48), (98, 49), (98, 52), (98, 73), (98, 74), (98, 75), (100, 0), (101, 0), (102, 0), (103, 0), (104, 0), (105, 0), (106, 0), (107, 0), (108, 0), (109, 0), (110, 0), (111, 0), (112, 0), (113, 0), (114, 0), (128, 0), (129, 0)]) z29 (Fr.tr (Fr.tr (Fr.tr (Fr.tr (Fr.tr (Fr.sub hFh35 rfl) hFh39 rfl) hFh47 rfl) hFh75 rfl) hFh76 rfl) hFh77 rfl) rfl) (by omega)
                    · skip
                      refine g_goto 152 dX12_findsSet_131 (by decide) ?_
                      refine g_iincB dX12_findsSet_152 rfl rfl (by omega) (by omega) ?_
                      refine g_goto 29 dX12_findsSet_155 (by decide) ?_
                      refine g_drop 6 ?_
                      refine g_drop 7 ?_
                      have q82 : h47 98 2 = w98_2 := kz50
                      have q83 : h47 98 3 = v2 := kz51
                      have q84 : h47 98 4 = v3 := kz52
                      have q85 : h47 98 5 = w98_5 := kz53
                      exact ih29 _ _ hMh47 (Fr.tr (Fr.tr (Fr.tr (Fr.tr (Fr.sub hFh16 rfl) hFh26 rfl) hFh35 rfl) hFh39 rfl) hFh47 rfl) (by omega) (by omega) (by omega) (by omega) (by omega) (by omega) (by omega) z49 (S1n.fr (T := [(98, 3), (98, 4), (98, 5), (98, 6), (98, 7), (98, 8), (98, 47), (98, 48), (98, 49), (98, 52), (100, 0), (101, 0), (102, 0), (103, 0), (104, 0), (105, 0), (106, 0), (107, 0), (108, 0), (109, 0), (110, 0), (111, 0), (112, 0), (113, 0), (114, 0), (128, 0), (129, 0)]) z29 (Fr.tr (Fr.tr (Fr.sub hFh35 rfl) hFh39 rfl) hFh47 rfl) rfl) (by omega)
            · skip
              refine g_aload_n dX12_findsSet_50 rfl ?_
              refine gR_X12_27 rfl dX12_findsSet_51 sh_98 (b := 103) (m_98_11 hMh35) ?_
              refine g_aload_n dX12_findsSet_54 rfl ?_
              refine gR_X12_157 rfl dX12_findsSet_55 sh_98 (b := 146) (m_98_71 hMh35) ?_
              refine g_iload dX12_findsSet_58 rfl (fun _ => ?_)
              refine g_ialdB dX12_findsSet_60 sh_146 (by omega) (by omega) (m_146 hMh35 _) (fun v86 ev86 bv86 cv86 => ?_)
              refine g_aload_n dX12_findsSet_61 rfl ?_
              refine g_iload dX12_findsSet_62 rfl (fun _ => ?_)
              refine g_iload_n dX12_findsSet_64 rfl (fun _ => ?_)
              refine g_iload dX12_findsSet_65 rfl (fun _ => ?_)
              have q87 : h35 98 2 = w98_2 := ((hFh35 98 2 rfl).trans ((hFh26 98 2 rfl).trans kp29_98_2))
              refine g_cVP (as := [_, _, _]) (c_X12_roofIn_98 _ _ _ h35 hMh35 (by omega) (by omega) (by omega) (by omega) (by omega) (by omega) (by omega) (by omega)) dX12_findsSet_67 mi_X12_roofIn in_X12_roofIn se_X12_roofIn ml_X12_444 rfl rfl rfl sh_98 rfl rfl (Nat.le_of_ble_eq_true rfl) (fun v88 q89 => ?_)
              obtain ⟨bv88, cv88⟩ := q89
              refine g_iastB dX12_findsSet_70 sh_103 (by omega) (by omega) (fun h90 eh90 => ?_)
              have hFh90 := Fr.ar eh90
              have hMh90 := u_103 hMh35 eh90 (by omega) (by omega)
              refine g_iincB dX12_findsSet_71 rfl rfl (by omega) (by omega) ?_
              refine g_goto 44 dX12_findsSet_74 (by decide) ?_
              exact ih44 _ _ hMh90 (Fr.tr (Fr.sub hFh35 rfl) hFh90 rfl) (by omega) (by omega) (by omega)
        refine g_istore dX12_findsSet_42 (by decide) rfl ?_
        exact c44 9 _ _ hMh26 Fr.rf (by omega) (by omega) (by omega)
  refine g_istore dX12_findsSet_27 (by decide) rfl ?_
  have q91 : h11 98 2 = w98_2 := ((hFh11 98 2 rfl).trans ((hFh10 98 2 rfl).trans ((hFh9 98 2 rfl).trans ew98_2.symm)))
  have q92 : h11 98 3 = v2 := ((hFh11 98 3 rfl).trans ((hFh10 98 3 rfl).trans ((hFh9 98 3 rfl).trans ev2.symm)))
  have q93 : h11 98 4 = v3 := ((hFh11 98 4 rfl).trans ((hFh10 98 4 rfl).trans ((hFh9 98 4 rfl).trans ev3.symm)))
  have q94 : h11 98 5 = w98_5 := ((hFh11 98 5 rfl).trans ((hFh10 98 5 rfl).trans ((hFh9 98 5 rfl).trans ew98_5.symm)))
  exact c29 100000001 _ _ hMh11 Fr.rf (by omega) (by omega) (by omega) (by omega) (by omega) (by omega) (by omega) (ISn.fr (T := [(98, 73), (98, 74), (98, 75)]) f_IS (Fr.tr (Fr.tr (Fr.sub hFh9 rfl) hFh10 rfl) hFh11 rfl) rfl) (S1n.fr (T := [(98, 73), (98, 74), (98, 75)]) f_S1 (Fr.tr (Fr.tr (Fr.sub hFh9 rfl) hFh10 rfl) hFh11 rfl) rfl) (by omega)
set_option maxRecDepth 100000 in
set_option maxHeartbeats 4000000 in
theorem c_X12_set_98 (x1 x2 x3 x4 : Int) (gi gs : Nat → Int) (h : MEM) (hM : MBm h) (bx1 : -2147483648 ≤ x1) (dx1 : x1 ≤ 2147483647) (bx2 : -2147483648 ≤ x2) (dx2 : x2 ≤ 2147483647) (bx3 : -2147483648 ≤ x3) (dx3 : x3 ≤ 2147483647) (bx4 : -2147483648 ≤ x4) (dx4 : x4 ≤ 2147483647) (p0_0 : 0 ≤ h 98 5) (p0_1 : h 98 5 ≤ 999600) (f_WFL : WFL h) (f_IS : ISn gi h) (f_S1 : S1n gs h) : CI yX12_set cX12_set 8 (some .int) 11 [pR 98, pI x1, pI x2, pI x3, pI x4] h (fun x h' => MBm h' ∧ Fr [(98, 3), (98, 4), (98, 5), (98, 6), (98, 7), (98, 8), (98, 47), (98, 48), (98, 49), (98, 52), (98, 73), (98, 74), (98, 75), (100, 0), (101, 0), (102, 0), (103, 0), (104, 0), (105, 0), (106, 0), (107, 0), (108, 0), (109, 0), (110, 0), (111, 0), (112, 0), (113, 0), (114, 0), (128, 0), (129, 0), (130, 0), (131, 0), (132, 0), (133, 0), (134, 0), (135, 0), (136, 0), (137, 0), (138, 0), (139, 0), (140, 0), (141, 0), (142, 0), (143, 0), (144, 0), (145, 1), (145, 2), (145, 3), (145, 4), (145, 5), (145, 6), (146, 0)] h h' ∧ -2147483648 ≤ x ∧ x ≤ 2147483647 ∧ ISn gi h' ∧ S1n gs h' ∧ h' 98 2 = h 98 2 ∧ h' 98 3 = h 98 3 ∧ h' 98 4 = h 98 4 ∧ h' 98 5 = h 98 5) := by
  refine CI.of (L0 := [some (pR 98), some (pI x1), some (pI x2), some (pI x3), some (pI x4), none, none, none]) rfl (Nat.le_of_ble_eq_true rfl) rfl (fun Po hPo hav => ?_)
  obtain ⟨v1, ev1⟩ : ∃ z, z = h 98 2 := ⟨_, rfl⟩
  have bv1 : 0 ≤ v1 ∧ v1 ≤ 10 := by rw [ev1]; exact (m_98_2 hM)
  obtain ⟨v2, ev2⟩ : ∃ z, z = h 98 3 := ⟨_, rfl⟩
  have bv2 : 0 ≤ v2 ∧ v2 ≤ 8 := by rw [ev2]; exact (m_98_3 hM)
  obtain ⟨v3, ev3⟩ : ∃ z, z = h 98 4 := ⟨_, rfl⟩
  have bv3 : 0 ≤ v3 ∧ v3 ≤ 8 := by rw [ev3]; exact (m_98_4 hM)
  obtain ⟨v4, ev4⟩ : ∃ z, z = h 98 5 := ⟨_, rfl⟩
  have bv4 : 0 ≤ v4 ∧ v4 ≤ 2000000000 := by rw [ev4]; exact (m_98_5 hM)
  obtain ⟨w98_5, ew98_5⟩ : ∃ z, z = h 98 5 := ⟨_, rfl⟩
  have q5 : h 98 2 = v1 := ev1.symm
  have q6 : h 98 3 = v2 := ev2.symm
  have q7 : h 98 4 = v3 := ev3.symm
  have q8 : h 98 5 = w98_5 := ew98_5.symm
  refine g_iload_n dX12_set_0 rfl (fun _ => ?_)
  refine g_i2l dX12_set_1 ?_
  refine g_lconst (v := 1) dX12_set_2 rfl ?_
  refine g_iconst dX12_set_3 (inR_c rfl) ?_
  refine g_aload_n dX12_set_4 rfl ?_
  refine gE_X12_179 rfl dX12_set_5 sh_98 ev2.symm ?_
  refine g_ishlX (lo := 1) (hi := 256) dX12_set_8 (ishl1_b 8 (by decide) (by omega) (by omega)) (fun v9 ev9 bv9 cv9 => ?_)
  refine g_iconst dX12_set_9 (inR_c rfl) ?_
  refine g_isubB dX12_set_10 (by omega) (by omega) ?_
  refine g_i2l dX12_set_11 ?_
  refine g_cSP (av := [_, _, _]) (c_X12_lies _ _ _ h hM (by omega) (by omega) (by omega) (by omega) (by omega) (by omega)) dX12_set_12 mi_X12_lies st_X12_lies ml_X12_175 rfl rfl rfl rfl (Nat.le_of_ble_eq_true rfl) (fun v10 q11 => ?_)
  rcases q11 with ⟨rfl, q11⟩ | ⟨rfl, q11⟩
  · skip
    refine g_if_eq 79 dX12_set_15 (by decide) (fun _ => by exfalso; omega) (fun q12 => ?_)
    refine g_iload_n dX12_set_18 rfl (fun _ => ?_)
    refine g_cSP (av := [_]) (c_X12_sizeOf _ h hM (by omega) (by omega)) dX12_set_19 mi_X12_sizeOf st_X12_sizeOf ml_X12_450 rfl rfl rfl rfl (Nat.le_of_ble_eq_true rfl) (fun v13 q14 => ?_)
    obtain ⟨bv13, cv13⟩ := q14
    refine g_iconst dX12_set_22 (inR_c rfl) ?_
    refine g_icmp_gt 79 dX12_set_23 (by decide) (fun q15 => ?_) (fun q15 => ?_)
    · skip
      refine g_iconst dX12_set_79 (inR_c rfl) ?_
      have q16 : h 98 2 = v1 := ev1.symm
      have q17 : h 98 3 = v2 := ev2.symm
      have q18 : h 98 4 = v3 := ev3.symm
      have q19 : h 98 5 = w98_5 := ew98_5.symm
      exact g_ireturn dX12_set_80 retI (hPo _ _ ⟨hM, Fr.rf, (by omega), (by omega), f_IS, f_S1, (by omega), (by omega), (by omega), (by omega)⟩)
    · skip
      refine g_aload_n dX12_set_26 rfl ?_
      refine g_iload_n dX12_set_27 rfl (fun _ => ?_)
      refine g_cVP (as := [_]) (c_X12_isRoof_98 _ h hM (by omega) (by omega)) dX12_set_28 mi_X12_isRoof in_X12_isRoof se_X12_isRoof ml_X12_198 rfl rfl rfl sh_98 rfl rfl (Nat.le_of_ble_eq_true rfl) (fun v20 q21 => ?_)
      have q22 : h 98 2 = v1 := ev1.symm
      rcases q21 with ⟨rfl, q21⟩ | ⟨rfl, q21⟩
      · skip
        refine g_if_eq 79 dX12_set_31 (by decide) (fun _ => by exfalso; omega) (fun q23 => ?_)
        refine g_iload_n dX12_set_34 rfl (fun _ => ?_)
        refine g_i2l dX12_set_35 ?_
        refine g_lconst (v := 1) dX12_set_36 rfl ?_
        refine g_ldc2 (v := 20) dX12_set_37 kl_X12_453 (by decide) ?_
        refine g_cSP (av := [_, _, _]) (c_X12_lies _ _ _ h hM (by omega) (by omega) (by omega) (by omega) (by omega) (by omega)) dX12_set_40 mi_X12_lies st_X12_lies ml_X12_175 rfl rfl rfl rfl (Nat.le_of_ble_eq_true rfl) (fun v24 q25 => ?_)
        rcases q25 with ⟨rfl, q25⟩ | ⟨rfl, q25⟩
        · skip
          refine g_if_eq 79 dX12_set_43 (by decide) (fun _ => by exfalso; omega) (fun q26 => ?_)
          refine g_iload dX12_set_46 rfl (fun _ => ?_)
          refine g_i2l dX12_set_48 ?_
          refine g_ldc2 (v := 10) dX12_set_49 kl_X12_410 (by decide) ?_
          refine g_ldc2 (v := 12) dX12_set_52 kl_X12_455 (by decide) ?_
          refine g_cSP (av := [_, _, _]) (c_X12_lies _ _ _ h hM (by omega) (by omega) (by omega) (by omega) (by omega) (by omega)) dX12_set_55 mi_X12_lies st_X12_lies ml_X12_175 rfl rfl rfl rfl (Nat.le_of_ble_eq_true rfl) (fun v27 q28 => ?_)
          rcases q28 with ⟨rfl, q28⟩ | ⟨rfl, q28⟩
          · skip
            refine g_if_ne 81 dX12_set_58 (by decide) (fun q29 => ?_) (fun _ => by exfalso; omega)
            refine g_iconst dX12_set_81 (inR_c rfl) ?_
            refine g_istore dX12_set_82 (by decide) rfl ?_
            refine g_iconst dX12_set_84 (inR_c rfl) ?_
            refine g_istore dX12_set_85 (by decide) rfl ?_
            refine g_iconst dX12_set_87 (inR_c rfl) ?_
            have c90 : ∀ (n : Nat) (y30 y31 y32 : Int) (h33 : MEM), MBm h33 → Fr [(146, 0)] h h33 → 0 ≤ y30 → y30 ≤ 8 → 0 ≤ y31 → y31 ≤ 7 → 0 ≤ y32 → y32 ≤ 8 → y30 + (-1) * y32 ≤ 0 → 8 - y32 < (n : Int) → G yX12_set cX12_set 8 (some .int) none Po (11, 660, 0, 0) 90 [some (pR 98), some (pI x1), some (pI x2), some (pI x3), some (pI x4), some (pI y30), some (pI y31), some (pI y32)] [] SH h33 0 0 := by
              intro n
              induction n with
              | zero =>
                intro y30 y31 y32 h33 hMh33 hFh33 by30 dy30 by31 dy31 by32 dy32 li90_0 hn
                exfalso; omega
              | succ n ih90 =>
                intro y30 y31 y32 h33 hMh33 hFh33 by30 dy30 by31 dy31 by32 dy32 li90_0 hn
                refine g_iload dX12_set_90 rfl (fun _ => ?_)
                refine g_aload_n dX12_set_92 rfl ?_
                refine gE_X12_179 rfl dX12_set_93 sh_98 ((hFh33 98 3 rfl).trans ev2.symm) ?_
                refine g_icmp_ge 145 dX12_set_96 (by decide) (fun q34 => ?_) (fun q34 => ?_)
                · skip
                  refine g_aload_n dX12_set_145 rfl ?_
                  refine g_iload dX12_set_146 rfl (fun _ => ?_)
                  refine g_iload_n dX12_set_148 rfl (fun _ => ?_)
                  refine g_iload_n dX12_set_149 rfl (fun _ => ?_)
                  have q35 : h33 98 2 = v1 := ((hFh33 98 2 rfl).trans ev1.symm)
                  have q36 : h33 98 5 = w98_5 := ((hFh33 98 5 rfl).trans ew98_5.symm)
                  have q37 : h33 98 2 = v1 := ((hFh33 98 2 rfl).trans ev1.symm)
                  have q38 : h33 98 3 = v2 := ((hFh33 98 3 rfl).trans ev2.symm)
                  have q39 : h33 98 4 = v3 := ((hFh33 98 4 rfl).trans ev3.symm)
                  have q40 : h33 98 5 = w98_5 := ((hFh33 98 5 rfl).trans ew98_5.symm)
                  refine g_cVV (as := [_, _, _]) (c_X12_findsSet_98 _ _ _ _ _ h33 hMh33 (by omega) (by omega) (by omega) (by omega) (by omega) (by omega) (by omega) (by omega) (by omega) (by omega) (WFL.fr (T := [(146, 0)]) f_WFL (Fr.sub hFh33 rfl) rfl) (ISn.fr (T := [(146, 0)]) f_IS (Fr.sub hFh33 rfl) rfl) (S1n.fr (T := [(146, 0)]) f_S1 (Fr.sub hFh33 rfl) rfl)) dX12_set_150 mi_X12_findsSet in_X12_findsSet se_X12_findsSet ml_X12_457 rfl rfl rfl sh_98 rfl rfl (Nat.le_of_ble_eq_true rfl) (fun h41 q42 => ?_)
                  obtain ⟨hMh41, hFh41, z43, z44, z45, z46, z47, z48⟩ := q42
                  have kz45 : h41 98 2 = v1 := by omega
                  have kz46 : h41 98 3 = v2 := by omega
                  have kz47 : h41 98 4 = v3 := by omega
                  have kz48 : h41 98 5 = w98_5 := by omega
                  refine g_aload_n dX12_set_153 rfl ?_
                  refine gI_X12_435 rfl dX12_set_154 sh_98 (m_98_72 hMh41) (fun v49 ev49 bv49 cv49 => ?_)
                  refine g_iconst dX12_set_157 (inR_c rfl) ?_
                  refine g_icmp_ne 164 dX12_set_158 (by decide) (fun q50 => ?_) (fun q50 => ?_)
                  · skip
                    refine g_iconst dX12_set_164 (inR_c rfl) ?_
                    have c167 : ∀ (n : Nat) (y51 : Int) (h52 : MEM), MBm h52 → Fr [(103, 0)] h41 h52 → 0 ≤ y51 → y51 ≤ 8 → 8 - y51 < (n : Int) → G yX12_set cX12_set 8 (some .int) none Po (11, 660, 0, 0) 167 [some (pR 98), none, none, none, some (pI x4), some (pI y30), some (pI y31), some (pI y51)] [] SH h52 0 0 := by
                      intro n
                      induction n with
                      | zero =>
                        intro y51 h52 hMh52 hFh52 by51 dy51 hn
                        exfalso; omega
                      | succ n ih167 =>
                        intro y51 h52 hMh52 hFh52 by51 dy51 hn
                        refine g_iload dX12_set_167 rfl (fun _ => ?_)
                        refine g_iload dX12_set_169 rfl (fun _ => ?_)
                        refine g_icmp_ge 211 dX12_set_171 (by decide) (fun q53 => ?_) (fun q53 => ?_)
                        · skip
                          refine g_iload dX12_set_211 rfl (fun _ => ?_)
                          refine g_bipush dX12_set_213 (inR_c rfl) (by decide) ?_
                          refine g_icmp_eq 225 dX12_set_215 (by decide) (fun q54 => ?_) (fun q54 => ?_)
                          · skip
                            refine g_aload_n dX12_set_225 rfl ?_
                            refine gI_X12_438 rfl dX12_set_226 sh_98 (m_98_73 hMh52) (fun v55 ev55 bv55 cv55 => ?_)
                            refine g_goto 258 dX12_set_229 (by decide) ?_
                            have q56 : h52 98 2 = v1 := ((hFh52 98 2 rfl).trans kz45)
                            have q57 : h52 98 3 = v2 := ((hFh52 98 3 rfl).trans kz46)
                            have q58 : h52 98 4 = v3 := ((hFh52 98 4 rfl).trans kz47)
                            have q59 : h52 98 5 = w98_5 := ((hFh52 98 5 rfl).trans kz48)
                            exact g_ireturn dX12_set_258 retI (hPo _ _ ⟨hMh52, (Fr.tr (Fr.tr (Fr.sub hFh33 rfl) hFh41 rfl) hFh52 rfl), (by omega), (by omega), (ISn.fr (T := [(103, 0)]) z43 (Fr.sub hFh52 rfl) rfl), (S1n.fr (T := [(103, 0)]) z44 (Fr.sub hFh52 rfl) rfl), (by omega), (by omega), (by omega), (by omega)⟩)
                          · skip
                            refine g_iload dX12_set_218 rfl (fun _ => ?_)
                            refine g_bipush dX12_set_220 (inR_c rfl) (by decide) ?_
                            refine g_icmp_ne 232 dX12_set_222 (by decide) (fun q60 => ?_) (fun q60 => ?_)
                            · skip
                              refine g_iload dX12_set_232 rfl (fun _ => ?_)
                              refine g_bipush dX12_set_234 (inR_c rfl) (by decide) ?_
                              refine g_icmp_ne 246 dX12_set_236 (by decide) (fun _ => by exfalso; omega) (fun q61 => ?_)
                              refine g_aload_n dX12_set_239 rfl ?_
                              refine gI_X12_441 rfl dX12_set_240 sh_98 (m_98_74 hMh52) (fun v62 ev62 bv62 cv62 => ?_)
                              refine g_goto 258 dX12_set_243 (by decide) ?_
                              have q63 : h52 98 2 = v1 := ((hFh52 98 2 rfl).trans kz45)
                              have q64 : h52 98 3 = v2 := ((hFh52 98 3 rfl).trans kz46)
                              have q65 : h52 98 4 = v3 := ((hFh52 98 4 rfl).trans kz47)
                              have q66 : h52 98 5 = w98_5 := ((hFh52 98 5 rfl).trans kz48)
                              exact g_ireturn dX12_set_258 retI (hPo _ _ ⟨hMh52, (Fr.tr (Fr.tr (Fr.sub hFh33 rfl) hFh41 rfl) hFh52 rfl), (by omega), (by omega), (ISn.fr (T := [(103, 0)]) z43 (Fr.sub hFh52 rfl) rfl), (S1n.fr (T := [(103, 0)]) z44 (Fr.sub hFh52 rfl) rfl), (by omega), (by omega), (by omega), (by omega)⟩)
                            · skip
                              refine g_aload_n dX12_set_225 rfl ?_
                              refine gI_X12_438 rfl dX12_set_226 sh_98 (m_98_73 hMh52) (fun v67 ev67 bv67 cv67 => ?_)
                              refine g_goto 258 dX12_set_229 (by decide) ?_
                              have q68 : h52 98 2 = v1 := ((hFh52 98 2 rfl).trans kz45)
                              have q69 : h52 98 3 = v2 := ((hFh52 98 3 rfl).trans kz46)
                              have q70 : h52 98 4 = v3 := ((hFh52 98 4 rfl).trans kz47)
                              have q71 : h52 98 5 = w98_5 := ((hFh52 98 5 rfl).trans kz48)
                              exact g_ireturn dX12_set_258 retI (hPo _ _ ⟨hMh52, (Fr.tr (Fr.tr (Fr.sub hFh33 rfl) hFh41 rfl) hFh52 rfl), (by omega), (by omega), (ISn.fr (T := [(103, 0)]) z43 (Fr.sub hFh52 rfl) rfl), (S1n.fr (T := [(103, 0)]) z44 (Fr.sub hFh52 rfl) rfl), (by omega), (by omega), (by omega), (by omega)⟩)
                        · skip
                          refine g_iload dX12_set_174 rfl (fun _ => ?_)
                          refine g_bipush dX12_set_176 (inR_c rfl) (by decide) ?_
                          refine g_icmp_ne 211 dX12_set_178 (by decide) (fun q72 => ?_) (fun q72 => ?_)
                          · skip
                            refine g_iload dX12_set_211 rfl (fun _ => ?_)
                            refine g_bipush dX12_set_213 (inR_c rfl) (by decide) ?_
                            refine g_icmp_eq 225 dX12_set_215 (by decide) (fun q73 => ?_) (fun q73 => ?_)
                            · skip
                              refine g_aload_n dX12_set_225 rfl ?_
                              refine gI_X12_438 rfl dX12_set_226 sh_98 (m_98_73 hMh52) (fun v74 ev74 bv74 cv74 => ?_)
                              refine g_goto 258 dX12_set_229 (by decide) ?_
                              have q75 : h52 98 2 = v1 := ((hFh52 98 2 rfl).trans kz45)
                              have q76 : h52 98 3 = v2 := ((hFh52 98 3 rfl).trans kz46)
                              have q77 : h52 98 4 = v3 := ((hFh52 98 4 rfl).trans kz47)
                              have q78 : h52 98 5 = w98_5 := ((hFh52 98 5 rfl).trans kz48)
                              exact g_ireturn dX12_set_258 retI (hPo _ _ ⟨hMh52, (Fr.tr (Fr.tr (Fr.sub hFh33 rfl) hFh41 rfl) hFh52 rfl), (by omega), (by omega), (ISn.fr (T := [(103, 0)]) z43 (Fr.sub hFh52 rfl) rfl), (S1n.fr (T := [(103, 0)]) z44 (Fr.sub hFh52 rfl) rfl), (by omega), (by omega), (by omega), (by omega)⟩)
                            · skip
                              refine g_iload dX12_set_218 rfl (fun _ => ?_)
                              refine g_bipush dX12_set_220 (inR_c rfl) (by decide) ?_
                              refine g_icmp_ne 232 dX12_set_222 (by decide) (fun q79 => ?_) (fun _ => by exfalso; omega)
                              refine g_iload dX12_set_232 rfl (fun _ => ?_)
                              refine g_bipush dX12_set_234 (inR_c rfl) (by decide) ?_
                              refine g_icmp_ne 246 dX12_set_236 (by decide) (fun _ => by exfalso; omega) (fun q80 => ?_)
                              refine g_aload_n dX12_set_239 rfl ?_
                              refine gI_X12_441 rfl dX12_set_240 sh_98 (m_98_74 hMh52) (fun v81 ev81 bv81 cv81 => ?_)
                              refine g_goto 258 dX12_set_243 (by decide) ?_
                              have q82 : h52 98 2 = v1 := ((hFh52 98 2 rfl).trans kz45)
                              have q83 : h52 98 3 = v2 := ((hFh52 98 3 rfl).trans kz46)
                              have q84 : h52 98 4 = v3 := ((hFh52 98 4 rfl).trans kz47)
                              have q85 : h52 98 5 = w98_5 := ((hFh52 98 5 rfl).trans kz48)
                              exact g_ireturn dX12_set_258 retI (hPo _ _ ⟨hMh52, (Fr.tr (Fr.tr (Fr.sub hFh33 rfl) hFh41 rfl) hFh52 rfl), (by omega), (by omega), (ISn.fr (T := [(103, 0)]) z43 (Fr.sub hFh52 rfl) rfl), (S1n.fr (T := [(103, 0)]) z44 (Fr.sub hFh52 rfl) rfl), (by omega), (by omega), (by omega), (by omega)⟩)
                          · skip
                            refine g_aload_n dX12_set_181 rfl ?_
                            refine gR_X12_27 rfl dX12_set_182 sh_98 (b := 103) (m_98_11 hMh52) ?_
                            refine g_aload_n dX12_set_185 rfl ?_
                            refine gR_X12_157 rfl dX12_set_186 sh_98 (b := 146) (m_98_71 hMh52) ?_
                            refine g_iload dX12_set_189 rfl (fun _ => ?_)
                            refine g_ialdB dX12_set_191 sh_146 (by omega) (by omega) (m_146 hMh52 _) (fun v86 ev86 bv86 cv86 => ?_)
                            refine g_aload_n dX12_set_192 rfl ?_
                            refine g_aload_n dX12_set_193 rfl ?_
                            refine gE_X12_435 rfl dX12_set_194 sh_98 ((hFh52 98 72 rfl).trans ev49.symm) ?_
                            refine g_iload dX12_set_197 rfl (fun _ => ?_)
                            refine g_iload dX12_set_199 rfl (fun _ => ?_)
                            have q87 : h52 98 2 = v1 := ((hFh52 98 2 rfl).trans kz45)
                            refine g_cVP (as := [_, _, _]) (c_X12_roofIn_98 _ _ _ h52 hMh52 (by omega) (by omega) (by omega) (by omega) (by omega) (by omega) (by omega) (by omega)) dX12_set_201 mi_X12_roofIn in_X12_roofIn se_X12_roofIn ml_X12_444 rfl rfl rfl sh_98 rfl rfl (Nat.le_of_ble_eq_true rfl) (fun v88 q89 => ?_)
                            obtain ⟨bv88, cv88⟩ := q89
                            refine g_iastB dX12_set_204 sh_103 (by omega) (by omega) (fun h90 eh90 => ?_)
                            have hFh90 := Fr.ar eh90
                            have hMh90 := u_103 hMh52 eh90 (by omega) (by omega)
                            refine g_iincB dX12_set_205 rfl rfl (by omega) (by omega) ?_
                            refine g_goto 167 dX12_set_208 (by decide) ?_
                            exact ih167 _ _ hMh90 (Fr.tr (Fr.sub hFh52 rfl) hFh90 rfl) (by omega) (by omega) (by omega)
                    refine g_istore dX12_set_165 (by decide) rfl ?_
                    refine g_drop 1 ?_
                    refine g_drop 2 ?_
                    refine g_drop 3 ?_
                    exact c167 9 _ _ hMh41 Fr.rf (by omega) (by omega) (by omega)
                  · skip
                    refine g_bipush dX12_set_161 (inR_c rfl) (by decide) ?_
                    have q91 : h41 98 2 = v1 := kz45
                    have q92 : h41 98 3 = v2 := kz46
                    have q93 : h41 98 4 = v3 := kz47
                    have q94 : h41 98 5 = w98_5 := kz48
                    exact g_ireturn dX12_set_163 retI (hPo _ _ ⟨hMh41, (Fr.tr (Fr.sub hFh33 rfl) hFh41 rfl), (by omega), (by omega), z43, z44, (by omega), (by omega), (by omega), (by omega)⟩)
                · skip
                  refine g_iload_n dX12_set_99 rfl (fun _ => ?_)
                  refine g_iload dX12_set_100 rfl (fun _ => ?_)
                  refine g_cSP (av := [_, _]) (c_X12_has _ _ h33 hMh33 (by omega) (by omega) (by omega) (by omega)) dX12_set_102 mi_X12_has st_X12_has ml_X12_362 rfl rfl rfl rfl (Nat.le_of_ble_eq_true rfl) (fun v95 q96 => ?_)
                  obtain ⟨bv95, cv95, zv95⟩ := q96
                  refine g_if_ne 111 dX12_set_105 (by decide) (fun q97 => ?_) (fun q97 => ?_)
                  · skip
                    refine g_iload dX12_set_111 rfl (fun _ => ?_)
                    refine g_iload dX12_set_113 rfl (fun _ => ?_)
                    refine g_icmp_ne 123 dX12_set_115 (by decide) (fun q98 => ?_) (fun _ => by exfalso; omega)
                    refine g_iload dX12_set_123 rfl (fun _ => ?_)
                    refine g_istore dX12_set_125 (by decide) rfl ?_
                    refine g_aload_n dX12_set_127 rfl ?_
                    refine gR_X12_157 rfl dX12_set_128 sh_98 (b := 146) (m_98_71 hMh33) ?_
                    refine g_iload dX12_set_131 rfl (fun _ => ?_)
                    refine g_iload dX12_set_133 rfl (fun _ => ?_)
                    refine g_iastB dX12_set_135 sh_146 (by omega) (by omega) (fun h99 eh99 => ?_)
                    have hFh99 := Fr.ar eh99
                    have hMh99 := u_146 hMh33 eh99 (by omega) (by omega)
                    refine g_iincB dX12_set_136 rfl rfl (by omega) (by omega) ?_
                    refine g_iincB dX12_set_139 rfl rfl (by omega) (by omega) ?_
                    refine g_goto 90 dX12_set_142 (by decide) ?_
                    exact ih90 _ _ _ _ hMh99 (Fr.tr (Fr.sub hFh33 rfl) hFh99 rfl) (by omega) (by omega) (by omega) (by omega) (by omega) (by omega) (by omega) (by omega)
                  · skip
                    refine g_goto 139 dX12_set_108 (by decide) ?_
                    refine g_iincB dX12_set_139 rfl rfl (by omega) (by omega) ?_
                    refine g_goto 90 dX12_set_142 (by decide) ?_
                    exact ih90 _ _ _ _ hMh33 (Fr.sub hFh33 rfl) (by omega) (by omega) (by omega) (by omega) (by omega) (by omega) (by omega) (by omega)
            refine g_istore dX12_set_88 (by decide) rfl ?_
            exact c90 9 _ _ _ _ hM Fr.rf (by omega) (by omega) (by omega) (by omega) (by omega) (by omega) (by omega) (by omega)
          · skip
            refine g_if_ne 81 dX12_set_58 (by decide) (fun _ => by exfalso; omega) (fun q100 => ?_)
            refine g_aload_n dX12_set_61 rfl ?_
            refine g_iload dX12_set_62 rfl (fun _ => ?_)
            refine g_cVP (as := [_]) (c_X12_isApprentice_98 _ h hM (by omega) (by omega)) dX12_set_64 mi_X12_isApprentice in_X12_isApprentice se_X12_isApprentice ml_X12_195 rfl rfl rfl sh_98 rfl rfl (Nat.le_of_ble_eq_true rfl) (fun v101 q102 => ?_)
            have q103 : h 98 3 = v2 := ev2.symm
            rcases q102 with ⟨rfl, q102⟩ | ⟨rfl, q102⟩
            · skip
              refine g_if_eq 79 dX12_set_67 (by decide) (fun _ => by exfalso; omega) (fun q104 => ?_)
              refine g_iload_n dX12_set_70 rfl (fun _ => ?_)
              refine g_iload dX12_set_71 rfl (fun _ => ?_)
              refine g_cSP (av := [_, _]) (c_X12_has _ _ h hM (by omega) (by omega) (by omega) (by omega)) dX12_set_73 mi_X12_has st_X12_has ml_X12_362 rfl rfl rfl rfl (Nat.le_of_ble_eq_true rfl) (fun v105 q106 => ?_)
              obtain ⟨bv105, cv105, zv105⟩ := q106
              refine g_if_ne 81 dX12_set_76 (by decide) (fun q107 => ?_) (fun q107 => ?_)
              · skip
                refine g_iconst dX12_set_81 (inR_c rfl) ?_
                refine g_istore dX12_set_82 (by decide) rfl ?_
                refine g_iconst dX12_set_84 (inR_c rfl) ?_
                refine g_istore dX12_set_85 (by decide) rfl ?_
                refine g_iconst dX12_set_87 (inR_c rfl) ?_
                have c90 : ∀ (n : Nat) (y108 y109 y110 : Int) (h111 : MEM), MBm h111 → Fr [(146, 0)] h h111 → 0 ≤ y108 → y108 ≤ 8 → 0 ≤ y109 → y109 ≤ 7 → 0 ≤ y110 → y110 ≤ 8 → y108 + (-1) * y110 ≤ 0 → 8 - y110 < (n : Int) → G yX12_set cX12_set 8 (some .int) none Po (11, 660, 0, 0) 90 [some (pR 98), some (pI x1), some (pI x2), some (pI x3), some (pI x4), some (pI y108), some (pI y109), some (pI y110)] [] SH h111 0 0 := by
                  intro n
                  induction n with
                  | zero =>
                    intro y108 y109 y110 h111 hMh111 hFh111 by108 dy108 by109 dy109 by110 dy110 li90_0 hn
                    exfalso; omega
                  | succ n ih90 =>
                    intro y108 y109 y110 h111 hMh111 hFh111 by108 dy108 by109 dy109 by110 dy110 li90_0 hn
                    refine g_iload dX12_set_90 rfl (fun _ => ?_)
                    refine g_aload_n dX12_set_92 rfl ?_
                    refine gE_X12_179 rfl dX12_set_93 sh_98 ((hFh111 98 3 rfl).trans ev2.symm) ?_
                    refine g_icmp_ge 145 dX12_set_96 (by decide) (fun q112 => ?_) (fun q112 => ?_)
                    · skip
                      refine g_aload_n dX12_set_145 rfl ?_
                      refine g_iload dX12_set_146 rfl (fun _ => ?_)
                      refine g_iload_n dX12_set_148 rfl (fun _ => ?_)
                      refine g_iload_n dX12_set_149 rfl (fun _ => ?_)
                      have q113 : h111 98 2 = v1 := ((hFh111 98 2 rfl).trans ev1.symm)
                      have q114 : h111 98 5 = w98_5 := ((hFh111 98 5 rfl).trans ew98_5.symm)
                      have q115 : h111 98 2 = v1 := ((hFh111 98 2 rfl).trans ev1.symm)
                      have q116 : h111 98 3 = v2 := ((hFh111 98 3 rfl).trans ev2.symm)
                      have q117 : h111 98 4 = v3 := ((hFh111 98 4 rfl).trans ev3.symm)
                      have q118 : h111 98 5 = w98_5 := ((hFh111 98 5 rfl).trans ew98_5.symm)
                      refine g_cVV (as := [_, _, _]) (c_X12_findsSet_98 _ _ _ _ _ h111 hMh111 (by omega) (by omega) (by omega) (by omega) (by omega) (by omega) (by omega) (by omega) (by omega) (by omega) (WFL.fr (T := [(146, 0)]) f_WFL (Fr.sub hFh111 rfl) rfl) (ISn.fr (T := [(146, 0)]) f_IS (Fr.sub hFh111 rfl) rfl) (S1n.fr (T := [(146, 0)]) f_S1 (Fr.sub hFh111 rfl) rfl)) dX12_set_150 mi_X12_findsSet in_X12_findsSet se_X12_findsSet ml_X12_457 rfl rfl rfl sh_98 rfl rfl (Nat.le_of_ble_eq_true rfl) (fun h119 q120 => ?_)
                      obtain ⟨hMh119, hFh119, z121, z122, z123, z124, z125, z126⟩ := q120
                      have kz123 : h119 98 2 = v1 := by omega
                      have kz124 : h119 98 3 = v2 := by omega
                      have kz125 : h119 98 4 = v3 := by omega
                      have kz126 : h119 98 5 = w98_5 := by omega
                      refine g_aload_n dX12_set_153 rfl ?_
                      refine gI_X12_435 rfl dX12_set_154 sh_98 (m_98_72 hMh119) (fun v127 ev127 bv127 cv127 => ?_)
                      refine g_iconst dX12_set_157 (inR_c rfl) ?_
                      refine g_icmp_ne 164 dX12_set_158 (by decide) (fun q128 => ?_) (fun q128 => ?_)
                      · skip
                        refine g_iconst dX12_set_164 (inR_c rfl) ?_
                        have c167 : ∀ (n : Nat) (y129 : Int) (h130 : MEM), MBm h130 → Fr [(103, 0)] h119 h130 → 0 ≤ y129 → y129 ≤ 8 → 8 - y129 < (n : Int) → G yX12_set cX12_set 8 (some .int) none Po (11, 660, 0, 0) 167 [some (pR 98), none, none, none, some (pI x4), some (pI y108), some (pI y109), some (pI y129)] [] SH h130 0 0 := by
                          intro n
                          induction n with
                          | zero =>
                            intro y129 h130 hMh130 hFh130 by129 dy129 hn
                            exfalso; omega
                          | succ n ih167 =>
                            intro y129 h130 hMh130 hFh130 by129 dy129 hn
                            refine g_iload dX12_set_167 rfl (fun _ => ?_)
                            refine g_iload dX12_set_169 rfl (fun _ => ?_)
                            refine g_icmp_ge 211 dX12_set_171 (by decide) (fun q131 => ?_) (fun q131 => ?_)
                            · skip
                              refine g_iload dX12_set_211 rfl (fun _ => ?_)
                              refine g_bipush dX12_set_213 (inR_c rfl) (by decide) ?_
                              refine g_icmp_eq 225 dX12_set_215 (by decide) (fun _ => by exfalso; omega) (fun q132 => ?_)
                              refine g_iload dX12_set_218 rfl (fun _ => ?_)
                              refine g_bipush dX12_set_220 (inR_c rfl) (by decide) ?_
                              refine g_icmp_ne 232 dX12_set_222 (by decide) (fun q133 => ?_) (fun _ => by exfalso; omega)
                              refine g_iload dX12_set_232 rfl (fun _ => ?_)
                              refine g_bipush dX12_set_234 (inR_c rfl) (by decide) ?_
                              refine g_icmp_ne 246 dX12_set_236 (by decide) (fun q134 => ?_) (fun _ => by exfalso; omega)
                              refine g_aload_n dX12_set_246 rfl ?_
                              refine g_aload_n dX12_set_247 rfl ?_
                              refine gE_X12_435 rfl dX12_set_248 sh_98 ((hFh130 98 72 rfl).trans ev127.symm) ?_
                              refine g_iload dX12_set_251 rfl (fun _ => ?_)
                              refine g_iload dX12_set_253 rfl (fun _ => ?_)
                              have q135 : h130 98 2 = v1 := ((hFh130 98 2 rfl).trans kz123)
                              refine g_cVP (as := [_, _, _]) (c_X12_roofIn_98 _ _ _ h130 hMh130 (by omega) (by omega) (by omega) (by omega) (by omega) (by omega) (by omega) (by omega)) dX12_set_255 mi_X12_roofIn in_X12_roofIn se_X12_roofIn ml_X12_444 rfl rfl rfl sh_98 rfl rfl (Nat.le_of_ble_eq_true rfl) (fun v136 q137 => ?_)
                              obtain ⟨bv136, cv136⟩ := q137
                              have q138 : h130 98 2 = v1 := ((hFh130 98 2 rfl).trans kz123)
                              have q139 : h130 98 3 = v2 := ((hFh130 98 3 rfl).trans kz124)
                              have q140 : h130 98 4 = v3 := ((hFh130 98 4 rfl).trans kz125)
                              have q141 : h130 98 5 = w98_5 := ((hFh130 98 5 rfl).trans kz126)
                              exact g_ireturn dX12_set_258 retI (hPo _ _ ⟨hMh130, (Fr.tr (Fr.tr (Fr.sub hFh111 rfl) hFh119 rfl) hFh130 rfl), (by omega), (by omega), (ISn.fr (T := [(103, 0)]) z121 (Fr.sub hFh130 rfl) rfl), (S1n.fr (T := [(103, 0)]) z122 (Fr.sub hFh130 rfl) rfl), (by omega), (by omega), (by omega), (by omega)⟩)
                            · skip
                              refine g_iload dX12_set_174 rfl (fun _ => ?_)
                              refine g_bipush dX12_set_176 (inR_c rfl) (by decide) ?_
                              refine g_icmp_ne 211 dX12_set_178 (by decide) (fun q142 => ?_) (fun _ => by exfalso; omega)
                              refine g_iload dX12_set_211 rfl (fun _ => ?_)
                              refine g_bipush dX12_set_213 (inR_c rfl) (by decide) ?_
                              refine g_icmp_eq 225 dX12_set_215 (by decide) (fun _ => by exfalso; omega) (fun q143 => ?_)
                              refine g_iload dX12_set_218 rfl (fun _ => ?_)
                              refine g_bipush dX12_set_220 (inR_c rfl) (by decide) ?_
                              refine g_icmp_ne 232 dX12_set_222 (by decide) (fun q144 => ?_) (fun _ => by exfalso; omega)
                              refine g_iload dX12_set_232 rfl (fun _ => ?_)
                              refine g_bipush dX12_set_234 (inR_c rfl) (by decide) ?_
                              refine g_icmp_ne 246 dX12_set_236 (by decide) (fun q145 => ?_) (fun _ => by exfalso; omega)
                              refine g_aload_n dX12_set_246 rfl ?_
                              refine g_aload_n dX12_set_247 rfl ?_
                              refine gE_X12_435 rfl dX12_set_248 sh_98 ((hFh130 98 72 rfl).trans ev127.symm) ?_
                              refine g_iload dX12_set_251 rfl (fun _ => ?_)
                              refine g_iload dX12_set_253 rfl (fun _ => ?_)
                              have q146 : h130 98 2 = v1 := ((hFh130 98 2 rfl).trans kz123)
                              refine g_cVP (as := [_, _, _]) (c_X12_roofIn_98 _ _ _ h130 hMh130 (by omega) (by omega) (by omega) (by omega) (by omega) (by omega) (by omega) (by omega)) dX12_set_255 mi_X12_roofIn in_X12_roofIn se_X12_roofIn ml_X12_444 rfl rfl rfl sh_98 rfl rfl (Nat.le_of_ble_eq_true rfl) (fun v147 q148 => ?_)
                              obtain ⟨bv147, cv147⟩ := q148
                              have q149 : h130 98 2 = v1 := ((hFh130 98 2 rfl).trans kz123)
                              have q150 : h130 98 3 = v2 := ((hFh130 98 3 rfl).trans kz124)
                              have q151 : h130 98 4 = v3 := ((hFh130 98 4 rfl).trans kz125)
                              have q152 : h130 98 5 = w98_5 := ((hFh130 98 5 rfl).trans kz126)
                              exact g_ireturn dX12_set_258 retI (hPo _ _ ⟨hMh130, (Fr.tr (Fr.tr (Fr.sub hFh111 rfl) hFh119 rfl) hFh130 rfl), (by omega), (by omega), (ISn.fr (T := [(103, 0)]) z121 (Fr.sub hFh130 rfl) rfl), (S1n.fr (T := [(103, 0)]) z122 (Fr.sub hFh130 rfl) rfl), (by omega), (by omega), (by omega), (by omega)⟩)
                        refine g_istore dX12_set_165 (by decide) rfl ?_
                        refine g_drop 1 ?_
                        refine g_drop 2 ?_
                        refine g_drop 3 ?_
                        exact c167 9 _ _ hMh119 Fr.rf (by omega) (by omega) (by omega)
                      · skip
                        refine g_bipush dX12_set_161 (inR_c rfl) (by decide) ?_
                        have q153 : h119 98 2 = v1 := kz123
                        have q154 : h119 98 3 = v2 := kz124
                        have q155 : h119 98 4 = v3 := kz125
                        have q156 : h119 98 5 = w98_5 := kz126
                        exact g_ireturn dX12_set_163 retI (hPo _ _ ⟨hMh119, (Fr.tr (Fr.sub hFh111 rfl) hFh119 rfl), (by omega), (by omega), z121, z122, (by omega), (by omega), (by omega), (by omega)⟩)
                    · skip
                      refine g_iload_n dX12_set_99 rfl (fun _ => ?_)
                      refine g_iload dX12_set_100 rfl (fun _ => ?_)
                      refine g_cSP (av := [_, _]) (c_X12_has _ _ h111 hMh111 (by omega) (by omega) (by omega) (by omega)) dX12_set_102 mi_X12_has st_X12_has ml_X12_362 rfl rfl rfl rfl (Nat.le_of_ble_eq_true rfl) (fun v157 q158 => ?_)
                      obtain ⟨bv157, cv157, zv157⟩ := q158
                      refine g_if_ne 111 dX12_set_105 (by decide) (fun q159 => ?_) (fun q159 => ?_)
                      · skip
                        refine g_iload dX12_set_111 rfl (fun _ => ?_)
                        refine g_iload dX12_set_113 rfl (fun _ => ?_)
                        refine g_icmp_ne 123 dX12_set_115 (by decide) (fun q160 => ?_) (fun q160 => ?_)
                        · skip
                          refine g_iload dX12_set_123 rfl (fun _ => ?_)
                          refine g_istore dX12_set_125 (by decide) rfl ?_
                          refine g_aload_n dX12_set_127 rfl ?_
                          refine gR_X12_157 rfl dX12_set_128 sh_98 (b := 146) (m_98_71 hMh111) ?_
                          refine g_iload dX12_set_131 rfl (fun _ => ?_)
                          refine g_iload dX12_set_133 rfl (fun _ => ?_)
                          refine g_iastB dX12_set_135 sh_146 (by omega) (by omega) (fun h161 eh161 => ?_)
                          have hFh161 := Fr.ar eh161
                          have hMh161 := u_146 hMh111 eh161 (by omega) (by omega)
                          refine g_iincB dX12_set_136 rfl rfl (by omega) (by omega) ?_
                          refine g_iincB dX12_set_139 rfl rfl (by omega) (by omega) ?_
                          refine g_goto 90 dX12_set_142 (by decide) ?_
                          exact ih90 _ _ _ _ hMh161 (Fr.tr (Fr.sub hFh111 rfl) hFh161 rfl) (by omega) (by omega) (by omega) (by omega) (by omega) (by omega) (by omega) (by omega)
                        · skip
                          refine g_iload dX12_set_118 rfl (fun _ => ?_)
                          refine g_goto 125 dX12_set_120 (by decide) ?_
                          refine g_istore dX12_set_125 (by decide) rfl ?_
                          refine g_aload_n dX12_set_127 rfl ?_
                          refine gR_X12_157 rfl dX12_set_128 sh_98 (b := 146) (m_98_71 hMh111) ?_
                          refine g_iload dX12_set_131 rfl (fun _ => ?_)
                          refine g_iload dX12_set_133 rfl (fun _ => ?_)
                          refine g_iastB dX12_set_135 sh_146 (by omega) (by omega) (fun h162 eh162 => ?_)
                          have hFh162 := Fr.ar eh162
                          have hMh162 := u_146 hMh111 eh162 (by omega) (by omega)
                          refine g_iincB dX12_set_136 rfl rfl (by omega) (by omega) ?_
                          refine g_iincB dX12_set_139 rfl rfl (by omega) (by omega) ?_
                          refine g_goto 90 dX12_set_142 (by decide) ?_
                          exact ih90 _ _ _ _ hMh162 (Fr.tr (Fr.sub hFh111 rfl) hFh162 rfl) (by omega) (by omega) (by omega) (by omega) (by omega) (by omega) (by omega) (by omega)
                      · skip
                        refine g_goto 139 dX12_set_108 (by decide) ?_
                        refine g_iincB dX12_set_139 rfl rfl (by omega) (by omega) ?_
                        refine g_goto 90 dX12_set_142 (by decide) ?_
                        exact ih90 _ _ _ _ hMh111 (Fr.sub hFh111 rfl) (by omega) (by omega) (by omega) (by omega) (by omega) (by omega) (by omega) (by omega)
                refine g_istore dX12_set_88 (by decide) rfl ?_
                exact c90 9 _ _ _ _ hM Fr.rf (by omega) (by omega) (by omega) (by omega) (by omega) (by omega) (by omega) (by omega)
              · skip
                refine g_iconst dX12_set_79 (inR_c rfl) ?_
                have q163 : h 98 2 = v1 := ev1.symm
                have q164 : h 98 3 = v2 := ev2.symm
                have q165 : h 98 4 = v3 := ev3.symm
                have q166 : h 98 5 = w98_5 := ew98_5.symm
                exact g_ireturn dX12_set_80 retI (hPo _ _ ⟨hM, Fr.rf, (by omega), (by omega), f_IS, f_S1, (by omega), (by omega), (by omega), (by omega)⟩)
            · skip
              refine g_if_eq 79 dX12_set_67 (by decide) (fun q167 => ?_) (fun _ => by exfalso; omega)
              refine g_iconst dX12_set_79 (inR_c rfl) ?_
              have q168 : h 98 2 = v1 := ev1.symm
              have q169 : h 98 3 = v2 := ev2.symm
              have q170 : h 98 4 = v3 := ev3.symm
              have q171 : h 98 5 = w98_5 := ew98_5.symm
              exact g_ireturn dX12_set_80 retI (hPo _ _ ⟨hM, Fr.rf, (by omega), (by omega), f_IS, f_S1, (by omega), (by omega), (by omega), (by omega)⟩)
        · skip
          refine g_if_eq 79 dX12_set_43 (by decide) (fun q172 => ?_) (fun _ => by exfalso; omega)
          refine g_iconst dX12_set_79 (inR_c rfl) ?_
          have q173 : h 98 2 = v1 := ev1.symm
          have q174 : h 98 3 = v2 := ev2.symm
          have q175 : h 98 4 = v3 := ev3.symm
          have q176 : h 98 5 = w98_5 := ew98_5.symm
          exact g_ireturn dX12_set_80 retI (hPo _ _ ⟨hM, Fr.rf, (by omega), (by omega), f_IS, f_S1, (by omega), (by omega), (by omega), (by omega)⟩)
      · skip
        refine g_if_eq 79 dX12_set_31 (by decide) (fun q177 => ?_) (fun _ => by exfalso; omega)
        refine g_iconst dX12_set_79 (inR_c rfl) ?_
        have q178 : h 98 2 = v1 := ev1.symm
        have q179 : h 98 3 = v2 := ev2.symm
        have q180 : h 98 4 = v3 := ev3.symm
        have q181 : h 98 5 = w98_5 := ew98_5.symm
        exact g_ireturn dX12_set_80 retI (hPo _ _ ⟨hM, Fr.rf, (by omega), (by omega), f_IS, f_S1, (by omega), (by omega), (by omega), (by omega)⟩)
  · skip
    refine g_if_eq 79 dX12_set_15 (by decide) (fun q182 => ?_) (fun _ => by exfalso; omega)
    refine g_iconst dX12_set_79 (inR_c rfl) ?_
    have q183 : h 98 2 = v1 := ev1.symm
    have q184 : h 98 3 = v2 := ev2.symm
    have q185 : h 98 4 = v3 := ev3.symm
    have q186 : h 98 5 = w98_5 := ew98_5.symm
    exact g_ireturn dX12_set_80 retI (hPo _ _ ⟨hM, Fr.rf, (by omega), (by omega), f_IS, f_S1, (by omega), (by omega), (by omega), (by omega)⟩)
set_option maxRecDepth 100000 in
set_option maxHeartbeats 4000000 in
theorem c_X12_free_98 (x1 x2 x3 : Int) (gi gs : Nat → Int) (h : MEM) (hM : MBm h) (bx1 : -2147483648 ≤ x1) (dx1 : x1 ≤ 2147483647) (bx2 : -2147483648 ≤ x2) (dx2 : x2 ≤ 2147483647) (bx3 : -2147483648 ≤ x3) (dx3 : x3 ≤ 2147483647) (p0_0 : 0 ≤ h 98 5) (p0_1 : h 98 5 ≤ 999600) (f_WFL : WFL h) (f_IS : ISn gi h) (f_S1 : S1n gs h) : CI yX12_free cX12_free 11 (some .int) 9 [pR 98, pI x1, pI x2, pI x3] h (fun x h' => MBm h' ∧ Fr [(98, 3), (98, 4), (98, 5), (98, 6), (98, 7), (98, 8), (98, 47), (98, 48), (98, 49), (98, 52), (98, 53), (98, 54), (98, 55), (100, 0), (101, 0), (102, 0), (103, 0), (104, 0), (105, 0), (106, 0), (107, 0), (108, 0), (109, 0), (110, 0), (111, 0), (112, 0), (113, 0), (114, 0), (128, 0), (129, 0), (130, 0), (131, 0), (132, 0), (133, 0), (134, 0), (135, 0), (136, 0), (137, 0), (138, 0), (139, 0), (140, 0), (141, 0), (142, 0), (143, 0), (144, 0), (145, 1), (145, 2), (145, 3), (145, 4), (145, 5), (145, 6)] h h' ∧ -2147483648 ≤ x ∧ x ≤ 2147483647 ∧ ISn gi h' ∧ S1n gs h' ∧ h' 98 2 = h 98 2 ∧ h' 98 3 = h 98 3 ∧ h' 98 4 = h 98 4 ∧ h' 98 5 = h 98 5) := by
  refine CI.of (L0 := [some (pR 98), some (pI x1), some (pI x2), some (pI x3), none, none, none, none, none, none, none]) rfl (Nat.le_of_ble_eq_true rfl) rfl (fun Po hPo hav => ?_)
  obtain ⟨v1, ev1⟩ : ∃ z, z = h 98 2 := ⟨_, rfl⟩
  have bv1 : 0 ≤ v1 ∧ v1 ≤ 10 := by rw [ev1]; exact (m_98_2 hM)
  obtain ⟨v2, ev2⟩ : ∃ z, z = h 98 3 := ⟨_, rfl⟩
  have bv2 : 0 ≤ v2 ∧ v2 ≤ 8 := by rw [ev2]; exact (m_98_3 hM)
  obtain ⟨v3, ev3⟩ : ∃ z, z = h 98 4 := ⟨_, rfl⟩
  have bv3 : 0 ≤ v3 ∧ v3 ≤ 8 := by rw [ev3]; exact (m_98_4 hM)
  obtain ⟨v4, ev4⟩ : ∃ z, z = h 98 5 := ⟨_, rfl⟩
  have bv4 : 0 ≤ v4 ∧ v4 ≤ 2000000000 := by rw [ev4]; exact (m_98_5 hM)
  obtain ⟨w98_5, ew98_5⟩ : ∃ z, z = h 98 5 := ⟨_, rfl⟩
  have q5 : h 98 2 = v1 := ev1.symm
  have q6 : h 98 3 = v2 := ev2.symm
  have q7 : h 98 4 = v3 := ev3.symm
  have q8 : h 98 5 = w98_5 := ew98_5.symm
  refine g_iload_n dX12_free_0 rfl (fun _ => ?_)
  refine g_i2l dX12_free_1 ?_
  refine g_lconst (v := 1) dX12_free_2 rfl ?_
  refine g_ldc2 (v := 8) dX12_free_3 kl_X12_461 (by decide) ?_
  refine g_cSP (av := [_, _, _]) (c_X12_lies _ _ _ h hM (by omega) (by omega) (by omega) (by omega) (by omega) (by omega)) dX12_free_6 mi_X12_lies st_X12_lies ml_X12_175 rfl rfl rfl rfl (Nat.le_of_ble_eq_true rfl) (fun v9 q10 => ?_)
  rcases q10 with ⟨rfl, q10⟩ | ⟨rfl, q10⟩
  · skip
    refine g_if_eq 36 dX12_free_9 (by decide) (fun _ => by exfalso; omega) (fun q11 => ?_)
    refine g_iload_n dX12_free_12 rfl (fun _ => ?_)
    refine g_i2l dX12_free_13 ?_
    refine g_lconst (v := 0) dX12_free_14 rfl ?_
    refine g_ldc2 (v := 8) dX12_free_15 kl_X12_461 (by decide) ?_
    refine g_cSP (av := [_, _, _]) (c_X12_lies _ _ _ h hM (by omega) (by omega) (by omega) (by omega) (by omega) (by omega)) dX12_free_18 mi_X12_lies st_X12_lies ml_X12_175 rfl rfl rfl rfl (Nat.le_of_ble_eq_true rfl) (fun v12 q13 => ?_)
    rcases q13 with ⟨rfl, q13⟩ | ⟨rfl, q13⟩
    · skip
      refine g_if_eq 36 dX12_free_21 (by decide) (fun _ => by exfalso; omega) (fun q14 => ?_)
      refine g_iload_n dX12_free_24 rfl (fun _ => ?_)
      refine g_i2l dX12_free_25 ?_
      refine g_lconst (v := 0) dX12_free_26 rfl ?_
      refine g_ldc2 (v := 2) dX12_free_27 kl_X12_463 (by decide) ?_
      refine g_cSP (av := [_, _, _]) (c_X12_lies _ _ _ h hM (by omega) (by omega) (by omega) (by omega) (by omega) (by omega)) dX12_free_30 mi_X12_lies st_X12_lies ml_X12_175 rfl rfl rfl rfl (Nat.le_of_ble_eq_true rfl) (fun v15 q16 => ?_)
      rcases q16 with ⟨rfl, q16⟩ | ⟨rfl, q16⟩
      · skip
        refine g_if_ne 38 dX12_free_33 (by decide) (fun q17 => ?_) (fun _ => by exfalso; omega)
        refine g_iconst dX12_free_38 (inR_c rfl) ?_
        refine g_istore dX12_free_39 (by decide) rfl ?_
        refine g_iconst dX12_free_41 (inR_c rfl) ?_
        have c44 : ∀ (n : Nat) (y18 y19 : Int) , 0 ≤ y18 → y18 ≤ 255 → 0 ≤ y19 → y19 ≤ 8 → 8 - y19 < (n : Int) → G yX12_free cX12_free 11 (some .int) none Po (9, 540, 0, 0) 44 [some (pR 98), some (pI x1), some (pI x2), some (pI x3), some (pI y18), some (pI y19), none, none, none, none, none] [] SH h 0 0 := by
          intro n
          induction n with
          | zero =>
            intro y18 y19 by18 dy18 by19 dy19 hn
            exfalso; omega
          | succ n ih44 =>
            intro y18 y19 by18 dy18 by19 dy19 hn
            refine g_iload dX12_free_44 rfl (fun _ => ?_)
            refine g_iload_n dX12_free_46 rfl (fun _ => ?_)
            refine g_icmp_ge 96 dX12_free_47 (by decide) (fun q20 => ?_) (fun q20 => ?_)
            · skip
              refine g_iload dX12_free_96 rfl (fun _ => ?_)
              refine g_cSP (av := [_]) (c_X12_sizeOf _ h hM (by omega) (by omega)) dX12_free_98 mi_X12_sizeOf st_X12_sizeOf ml_X12_450 rfl rfl rfl rfl (Nat.le_of_ble_eq_true rfl) (fun v21 q22 => ?_)
              obtain ⟨bv21, cv21⟩ := q22
              refine g_iload_n dX12_free_101 rfl (fun _ => ?_)
              refine g_icmp_ge 108 dX12_free_102 (by decide) (fun q23 => ?_) (fun q23 => ?_)
              · skip
                refine g_iconst dX12_free_108 (inR_c rfl) ?_
                refine g_istore dX12_free_109 (by decide) rfl ?_
                refine g_iconst dX12_free_111 (inR_c rfl) ?_
                refine g_istore dX12_free_112 (by decide) rfl ?_
                refine g_iconst dX12_free_114 (inR_c rfl) ?_
                refine g_istore dX12_free_115 (by decide) rfl ?_
                refine g_aload_n dX12_free_117 rfl ?_
                refine g_aload_n dX12_free_118 rfl ?_
                refine gE_X12_334 rfl dX12_free_119 sh_98 ew98_5.symm ?_
                refine pI_X12_353 rfl dX12_free_122 sh_98 (fun h24 eh24 => ?_)
                have hFh24 := Fr.st eh24
                have hMh24 := u_98_52 hM eh24 (by omega) (by omega)
                refine g_aload_n dX12_free_125 rfl ?_
                refine g_iload_n dX12_free_126 rfl (fun _ => ?_)
                refine pI_X12_356 rfl dX12_free_127 sh_98 (fun h25 eh25 => ?_)
                have hFh25 := Fr.st eh25
                have hMh25 := u_98_53 hMh24 eh25 (by omega) (by omega)
                refine g_iconst dX12_free_130 (inR_c rfl) ?_
                have c133 : ∀ (n : Nat) (y26 y27 y28 y29 : Int) (h30 : MEM), MBm h30 → Fr [(98, 3), (98, 4), (98, 5), (98, 6), (98, 7), (98, 8), (98, 47), (98, 48), (98, 49), (98, 52), (98, 55), (100, 0), (101, 0), (102, 0), (103, 0), (104, 0), (105, 0), (106, 0), (107, 0), (108, 0), (109, 0), (110, 0), (111, 0), (112, 0), (113, 0), (114, 0), (128, 0), (129, 0), (130, 0), (131, 0), (132, 0), (133, 0), (134, 0), (135, 0), (136, 0), (137, 0), (138, 0), (139, 0), (140, 0), (141, 0), (142, 0), (143, 0), (144, 0), (145, 1), (145, 2), (145, 3), (145, 4), (145, 5), (145, 6)] h25 h30 → -1 ≤ y26 → y26 ≤ 255 → -2147483648 ≤ y27 → y27 ≤ 2147483647 → -2147483648 ≤ y28 → y28 ≤ 2147483647 → 0 ≤ y29 → y29 ≤ 256 → h30 98 2 = v1 → h30 98 3 = v2 → h30 98 4 = v3 → h30 98 5 = w98_5 → ISn gi h30 → S1n gs h30 → 256 - y29 < (n : Int) → G yX12_free cX12_free 11 (some .int) none Po (9, 540, 0, 0) 133 [some (pR 98), some (pI x1), some (pI x2), some (pI x3), some (pI y18), some (pI y26), some (pI y27), some (pI y28), some (pI y29), none, none] [] SH h30 0 0 := by
                  intro n
                  induction n with
                  | zero =>
                    intro y26 y27 y28 y29 h30 hMh30 hFh30 by26 dy26 by27 dy27 by28 dy28 by29 dy29 kp133_98_2 kp133_98_3 kp133_98_4 kp133_98_5 e133_0 e133_1 hn
                    exfalso; omega
                  | succ n ih133 =>
                    intro y26 y27 y28 y29 h30 hMh30 hFh30 by26 dy26 by27 dy27 by28 dy28 by29 dy29 kp133_98_2 kp133_98_3 kp133_98_4 kp133_98_5 e133_0 e133_1 hn
                    refine g_iload dX12_free_133 rfl (fun _ => ?_)
                    refine g_iconst dX12_free_135 (inR_c rfl) ?_
                    refine g_iload_n dX12_free_136 rfl (fun _ => ?_)
                    refine g_ishlX (lo := 1) (hi := 256) dX12_free_137 (ishl1_b 8 (by decide) (by omega) (by omega)) (fun v31 ev31 bv31 cv31 => ?_)
                    refine g_icmp_ge 244 dX12_free_138 (by decide) (fun q32 => ?_) (fun q32 => ?_)
                    · skip
                      refine g_aload_n dX12_free_244 rfl ?_
                      refine g_iconst dX12_free_245 (inR_c rfl) ?_
                      refine pI_X12_356 rfl dX12_free_246 sh_98 (fun h33 eh33 => ?_)
                      have hFh33 := Fr.st eh33
                      have hMh33 := u_98_53 hMh30 eh33 (by omega) (by omega)
                      refine g_iload_n dX12_free_249 rfl (fun _ => ?_)
                      refine g_if_ne 258 dX12_free_250 (by decide) (fun q34 => ?_) (fun q34 => ?_)
                      · skip
                        refine g_iload_n dX12_free_258 rfl (fun _ => ?_)
                        refine g_iconst dX12_free_259 (inR_c rfl) ?_
                        refine g_icmp_ne 268 dX12_free_260 (by decide) (fun q35 => ?_) (fun q35 => ?_)
                        · skip
                          refine g_iload dX12_free_268 rfl (fun _ => ?_)
                          have q36 : h33 98 2 = v1 := ((hFh33 98 2 rfl).trans kp133_98_2)
                          have q37 : h33 98 3 = v2 := ((hFh33 98 3 rfl).trans kp133_98_3)
                          have q38 : h33 98 4 = v3 := ((hFh33 98 4 rfl).trans kp133_98_4)
                          have q39 : h33 98 5 = w98_5 := ((hFh33 98 5 rfl).trans kp133_98_5)
                          exact g_ireturn dX12_free_270 retI (hPo _ _ ⟨hMh33, (Fr.tr (Fr.tr (Fr.tr (Fr.sub hFh24 rfl) hFh25 rfl) hFh30 rfl) hFh33 rfl), (by omega), (by omega), (ISn.fr (T := [(98, 54)]) e133_0 (Fr.sub hFh33 rfl) rfl), (S1n.fr (T := [(98, 54)]) e133_1 (Fr.sub hFh33 rfl) rfl), (by omega), (by omega), (by omega), (by omega)⟩)
                        · skip
                          refine g_iload dX12_free_263 rfl (fun _ => ?_)
                          refine g_goto 270 dX12_free_265 (by decide) ?_
                          have q40 : h33 98 2 = v1 := ((hFh33 98 2 rfl).trans kp133_98_2)
                          have q41 : h33 98 3 = v2 := ((hFh33 98 3 rfl).trans kp133_98_3)
                          have q42 : h33 98 4 = v3 := ((hFh33 98 4 rfl).trans kp133_98_4)
                          have q43 : h33 98 5 = w98_5 := ((hFh33 98 5 rfl).trans kp133_98_5)
                          exact g_ireturn dX12_free_270 retI (hPo _ _ ⟨hMh33, (Fr.tr (Fr.tr (Fr.tr (Fr.sub hFh24 rfl) hFh25 rfl) hFh30 rfl) hFh33 rfl), (by omega), (by omega), (ISn.fr (T := [(98, 54)]) e133_0 (Fr.sub hFh33 rfl) rfl), (S1n.fr (T := [(98, 54)]) e133_1 (Fr.sub hFh33 rfl) rfl), (by omega), (by omega), (by omega), (by omega)⟩)
                      · skip
                        refine g_iload dX12_free_253 rfl (fun _ => ?_)
                        refine g_goto 270 dX12_free_255 (by decide) ?_
                        have q44 : h33 98 2 = v1 := ((hFh33 98 2 rfl).trans kp133_98_2)
                        have q45 : h33 98 3 = v2 := ((hFh33 98 3 rfl).trans kp133_98_3)
                        have q46 : h33 98 4 = v3 := ((hFh33 98 4 rfl).trans kp133_98_4)
                        have q47 : h33 98 5 = w98_5 := ((hFh33 98 5 rfl).trans kp133_98_5)
                        exact g_ireturn dX12_free_270 retI (hPo _ _ ⟨hMh33, (Fr.tr (Fr.tr (Fr.tr (Fr.sub hFh24 rfl) hFh25 rfl) hFh30 rfl) hFh33 rfl), (by omega), (by omega), (ISn.fr (T := [(98, 54)]) e133_0 (Fr.sub hFh33 rfl) rfl), (S1n.fr (T := [(98, 54)]) e133_1 (Fr.sub hFh33 rfl) rfl), (by omega), (by omega), (by omega), (by omega)⟩)
                    · skip
                      refine g_iload dX12_free_141 rfl (fun _ => ?_)
                      refine g_iload dX12_free_143 rfl (fun _ => ?_)
                      refine g_iconst dX12_free_145 (inR_c rfl) ?_
                      refine g_ixorF dX12_free_146 (fun v48 ev48 bv48 cv48 => ?_)
                      refine g_iandX (lo := 0) (hi := y29) dX12_free_147 (iand_l (by omega) (by omega)) (fun v49 ev49 bv49 cv49 => ?_)
                      refine g_if_ne 238 dX12_free_148 (by decide) (fun q50 => ?_) (fun q50 => ?_)
                      · skip
                        refine g_iincB dX12_free_238 rfl rfl (by omega) (by omega) ?_
                        refine g_goto 133 dX12_free_241 (by decide) ?_
                        have q51 : h30 98 2 = v1 := kp133_98_2
                        have q52 : h30 98 3 = v2 := kp133_98_3
                        have q53 : h30 98 4 = v3 := kp133_98_4
                        have q54 : h30 98 5 = w98_5 := kp133_98_5
                        exact ih133 _ _ _ _ _ hMh30 (Fr.sub hFh30 rfl) (by omega) (by omega) (by omega) (by omega) (by omega) (by omega) (by omega) (by omega) (by omega) (by omega) (by omega) (by omega) e133_0 e133_1 (by omega)
                      · skip
                        refine g_iload dX12_free_151 rfl (fun _ => ?_)
                        refine g_cSP (av := [_]) (c_X12_sizeOf _ h30 hMh30 (by omega) (by omega)) dX12_free_153 mi_X12_sizeOf st_X12_sizeOf ml_X12_450 rfl rfl rfl rfl (Nat.le_of_ble_eq_true rfl) (fun v55 q56 => ?_)
                        obtain ⟨bv55, cv55⟩ := q56
                        refine g_iload_n dX12_free_156 rfl (fun _ => ?_)
                        refine g_icmp_eq 163 dX12_free_157 (by decide) (fun q57 => ?_) (fun q57 => ?_)
                        · skip
                          refine g_aload_n dX12_free_163 rfl ?_
                          refine g_iload dX12_free_164 rfl (fun _ => ?_)
                          refine pI_X12_359 rfl dX12_free_166 sh_98 (fun h58 eh58 => ?_)
                          have hFh58 := Fr.st eh58
                          have hMh58 := u_98_54 hMh30 eh58 (by omega) (by omega)
                          refine g_aload_n dX12_free_169 rfl ?_
                          refine g_iconst dX12_free_170 (inR_c rfl) ?_
                          have q59 : h58 98 2 = v1 := ((hFh58 98 2 rfl).trans kp133_98_2)
                          have q60 : h58 98 3 = v2 := ((hFh58 98 3 rfl).trans kp133_98_3)
                          have q61 : h58 98 4 = v3 := ((hFh58 98 4 rfl).trans kp133_98_4)
                          have q62 : h58 98 5 = w98_5 := ((hFh58 98 5 rfl).trans kp133_98_5)
                          refine g_cVV (as := [_]) (c_X12_setsAside_98_k0 _ _ h58 hMh58 (ISn.fr (T := [(98, 55)]) e133_0 (Fr.sub hFh58 rfl) rfl) (S1n.fr (T := [(98, 55)]) e133_1 (Fr.sub hFh58 rfl) rfl)) dX12_free_171 mi_X12_setsAside in_X12_setsAside se_X12_setsAside ml_X12_419 rfl rfl rfl sh_98 rfl rfl (Nat.le_of_ble_eq_true rfl) (fun h63 q64 => ?_)
                          obtain ⟨hMh63, hFh63, z65, z66, z67, z68, z69, z70⟩ := q64
                          have kz67 : h63 145 0 = v1 := by omega
                          have kz68 : h63 145 1 = v2 := by omega
                          have kz69 : h63 145 2 = v3 := by omega
                          have kz70 : h63 145 3 = w98_5 := by omega
                          refine g_aload_n dX12_free_174 rfl ?_
                          refine g_iload_n dX12_free_175 rfl (fun _ => ?_)
                          have q71 : h63 98 5 = w98_5 := ((hFh63 98 5 rfl).trans ((hFh58 98 5 rfl).trans kp133_98_5))
                          have q72 : h63 98 5 = w98_5 := ((hFh63 98 5 rfl).trans ((hFh58 98 5 rfl).trans kp133_98_5))
                          refine g_cVV (as := [_]) (c_X12_goesOn_98 _ h63 hMh63 (by omega) (by omega) (by omega) (by omega) (WFL.fr (T := [(98, 3), (98, 4), (98, 5), (98, 6), (98, 7), (98, 8), (98, 47), (98, 48), (98, 49), (98, 52), (98, 53), (98, 54), (98, 55), (100, 0), (101, 0), (102, 0), (103, 0), (104, 0), (105, 0), (106, 0), (107, 0), (108, 0), (109, 0), (110, 0), (111, 0), (112, 0), (113, 0), (114, 0), (128, 0), (129, 0), (130, 0), (131, 0), (132, 0), (133, 0), (134, 0), (135, 0), (136, 0), (137, 0), (138, 0), (139, 0), (140, 0), (141, 0), (142, 0), (143, 0), (144, 0), (145, 1), (145, 2), (145, 3), (145, 4), (145, 5), (145, 6)]) f_WFL (Fr.tr (Fr.tr (Fr.tr (Fr.tr (Fr.sub hFh24 rfl) hFh25 rfl) hFh30 rfl) hFh58 rfl) hFh63 rfl) rfl)) dX12_free_176 mi_X12_goesOn in_X12_goesOn se_X12_goesOn ml_X12_401 rfl rfl rfl sh_98 rfl rfl (Nat.le_of_ble_eq_true rfl) (fun h73 q74 => ?_)
                          obtain ⟨hMh73, hFh73, z75⟩ := q74
                          have kz75 : h73 98 5 = (w98_5 + x1) := by omega
                          refine g_aload_n dX12_free_179 rfl ?_
                          refine g_cVP (as := []) (c_X12_allBruises_98  h73 hMh73) dX12_free_180 mi_X12_allBruises in_X12_allBruises se_X12_allBruises ml_X12_425 rfl rfl rfl sh_98 rfl rfl (Nat.le_of_ble_eq_true rfl) (fun v76 q77 => ?_)
                          obtain ⟨bv76, cv76⟩ := q77
                          refine g_istore dX12_free_183 (by decide) rfl ?_
                          refine g_aload_n dX12_free_185 rfl ?_
                          refine g_cVP (as := []) (c_X12_allSlates_98  h73 hMh73) dX12_free_186 mi_X12_allSlates in_X12_allSlates se_X12_allSlates ml_X12_422 rfl rfl rfl sh_98 rfl rfl (Nat.le_of_ble_eq_true rfl) (fun v78 q79 => ?_)
                          obtain ⟨bv78, cv78⟩ := q79
                          refine g_istore dX12_free_189 (by decide) rfl ?_
                          refine g_aload_n dX12_free_191 rfl ?_
                          refine g_iconst dX12_free_192 (inR_c rfl) ?_
                          have q80 : h73 145 0 = v1 := ((hFh73 145 _ rfl).trans kz67)
                          have q81 : h73 145 1 = v2 := ((hFh73 145 _ rfl).trans kz68)
                          have q82 : h73 145 2 = v3 := ((hFh73 145 _ rfl).trans kz69)
                          have q83 : h73 145 3 = w98_5 := ((hFh73 145 _ rfl).trans kz70)
                          refine g_cVV (as := [_]) (c_X12_putsBack_98_k0 _ h73 hMh73 (S0n.fr (T := [(98, 6), (98, 7), (98, 8), (98, 47), (98, 48), (98, 49), (98, 52), (101, 0), (105, 0), (107, 0), (111, 0), (112, 0), (113, 0), (128, 0), (129, 0)]) z65 (Fr.sub hFh73 rfl) rfl)) dX12_free_193 mi_X12_putsBack in_X12_putsBack se_X12_putsBack ml_X12_428 rfl rfl rfl sh_98 rfl rfl (Nat.le_of_ble_eq_true rfl) (fun h84 q85 => ?_)
                          obtain ⟨hMh84, hFh84, z86, z87, z88, z89, z90⟩ := q85
                          have kz87 : h84 98 2 = v1 := by omega
                          have kz88 : h84 98 3 = v2 := by omega
                          have kz89 : h84 98 4 = v3 := by omega
                          have kz90 : h84 98 5 = w98_5 := by omega
                          refine g_iload dX12_free_196 rfl (fun _ => ?_)
                          refine g_iconst dX12_free_198 (inR_c rfl) ?_
                          refine g_icmp_eq 226 dX12_free_199 (by decide) (fun q91 => ?_) (fun q91 => ?_)
                          · skip
                            refine g_iload dX12_free_226 rfl (fun _ => ?_)
                            refine g_istore dX12_free_228 (by decide) rfl ?_
                            refine g_iload dX12_free_230 rfl (fun _ => ?_)
                            refine g_istore dX12_free_232 (by decide) rfl ?_
                            refine g_iload dX12_free_234 rfl (fun _ => ?_)
                            refine g_istore dX12_free_236 (by decide) rfl ?_
                            refine g_iincB dX12_free_238 rfl rfl (by omega) (by omega) ?_
                            refine g_goto 133 dX12_free_241 (by decide) ?_
                            refine g_drop 9 ?_
                            refine g_drop 10 ?_
                            have q92 : h84 98 2 = v1 := kz87
                            have q93 : h84 98 3 = v2 := kz88
                            have q94 : h84 98 4 = v3 := kz89
                            have q95 : h84 98 5 = w98_5 := kz90
                            exact ih133 _ _ _ _ _ hMh84 (Fr.tr (Fr.tr (Fr.tr (Fr.tr (Fr.sub hFh30 rfl) hFh58 rfl) hFh63 rfl) hFh73 rfl) hFh84 rfl) (by omega) (by omega) (by omega) (by omega) (by omega) (by omega) (by omega) (by omega) (by omega) (by omega) (by omega) (by omega) z86 (S1n.fr (T := [(98, 3), (98, 4), (98, 5), (98, 6), (98, 7), (98, 8), (98, 47), (98, 48), (98, 49), (98, 52), (100, 0), (101, 0), (102, 0), (103, 0), (104, 0), (105, 0), (106, 0), (107, 0), (108, 0), (109, 0), (110, 0), (111, 0), (112, 0), (113, 0), (114, 0), (128, 0), (129, 0)]) z66 (Fr.tr (Fr.sub hFh73 rfl) hFh84 rfl) rfl) (by omega)
                          · skip
                            refine g_iload dX12_free_202 rfl (fun _ => ?_)
                            refine g_iload dX12_free_204 rfl (fun _ => ?_)
                            refine g_icmp_gt 238 dX12_free_206 (by decide) (fun q96 => ?_) (fun q96 => ?_)
                            · skip
                              refine g_iincB dX12_free_238 rfl rfl (by omega) (by omega) ?_
                              refine g_goto 133 dX12_free_241 (by decide) ?_
                              refine g_drop 9 ?_
                              refine g_drop 10 ?_
                              have q97 : h84 98 2 = v1 := kz87
                              have q98 : h84 98 3 = v2 := kz88
                              have q99 : h84 98 4 = v3 := kz89
                              have q100 : h84 98 5 = w98_5 := kz90
                              exact ih133 _ _ _ _ _ hMh84 (Fr.tr (Fr.tr (Fr.tr (Fr.tr (Fr.sub hFh30 rfl) hFh58 rfl) hFh63 rfl) hFh73 rfl) hFh84 rfl) (by omega) (by omega) (by omega) (by omega) (by omega) (by omega) (by omega) (by omega) (by omega) (by omega) (by omega) (by omega) z86 (S1n.fr (T := [(98, 3), (98, 4), (98, 5), (98, 6), (98, 7), (98, 8), (98, 47), (98, 48), (98, 49), (98, 52), (100, 0), (101, 0), (102, 0), (103, 0), (104, 0), (105, 0), (106, 0), (107, 0), (108, 0), (109, 0), (110, 0), (111, 0), (112, 0), (113, 0), (114, 0), (128, 0), (129, 0)]) z66 (Fr.tr (Fr.sub hFh73 rfl) hFh84 rfl) rfl) (by omega)
                            · skip
                              refine g_iload dX12_free_209 rfl (fun _ => ?_)
                              refine g_iload dX12_free_211 rfl (fun _ => ?_)
                              refine g_icmp_ne 226 dX12_free_213 (by decide) (fun q101 => ?_) (fun q101 => ?_)
                              · skip
                                refine g_iload dX12_free_226 rfl (fun _ => ?_)
                                refine g_istore dX12_free_228 (by decide) rfl ?_
                                refine g_iload dX12_free_230 rfl (fun _ => ?_)
                                refine g_istore dX12_free_232 (by decide) rfl ?_
                                refine g_iload dX12_free_234 rfl (fun _ => ?_)
                                refine g_istore dX12_free_236 (by decide) rfl ?_
                                refine g_iincB dX12_free_238 rfl rfl (by omega) (by omega) ?_
                                refine g_goto 133 dX12_free_241 (by decide) ?_
                                refine g_drop 9 ?_
                                refine g_drop 10 ?_
                                have q102 : h84 98 2 = v1 := kz87
                                have q103 : h84 98 3 = v2 := kz88
                                have q104 : h84 98 4 = v3 := kz89
                                have q105 : h84 98 5 = w98_5 := kz90
                                exact ih133 _ _ _ _ _ hMh84 (Fr.tr (Fr.tr (Fr.tr (Fr.tr (Fr.sub hFh30 rfl) hFh58 rfl) hFh63 rfl) hFh73 rfl) hFh84 rfl) (by omega) (by omega) (by omega) (by omega) (by omega) (by omega) (by omega) (by omega) (by omega) (by omega) (by omega) (by omega) z86 (S1n.fr (T := [(98, 3), (98, 4), (98, 5), (98, 6), (98, 7), (98, 8), (98, 47), (98, 48), (98, 49), (98, 52), (100, 0), (101, 0), (102, 0), (103, 0), (104, 0), (105, 0), (106, 0), (107, 0), (108, 0), (109, 0), (110, 0), (111, 0), (112, 0), (113, 0), (114, 0), (128, 0), (129, 0)]) z66 (Fr.tr (Fr.sub hFh73 rfl) hFh84 rfl) rfl) (by omega)
                              · skip
                                refine g_iload dX12_free_216 rfl (fun _ => ?_)
                                refine g_iload dX12_free_218 rfl (fun _ => ?_)
                                refine g_icmp_gt 226 dX12_free_220 (by decide) (fun q106 => ?_) (fun q106 => ?_)
                                · skip
                                  refine g_iload dX12_free_226 rfl (fun _ => ?_)
                                  refine g_istore dX12_free_228 (by decide) rfl ?_
                                  refine g_iload dX12_free_230 rfl (fun _ => ?_)
                                  refine g_istore dX12_free_232 (by decide) rfl ?_
                                  refine g_iload dX12_free_234 rfl (fun _ => ?_)
                                  refine g_istore dX12_free_236 (by decide) rfl ?_
                                  refine g_iincB dX12_free_238 rfl rfl (by omega) (by omega) ?_
                                  refine g_goto 133 dX12_free_241 (by decide) ?_
                                  refine g_drop 9 ?_
                                  refine g_drop 10 ?_
                                  have q107 : h84 98 2 = v1 := kz87
                                  have q108 : h84 98 3 = v2 := kz88
                                  have q109 : h84 98 4 = v3 := kz89
                                  have q110 : h84 98 5 = w98_5 := kz90
                                  exact ih133 _ _ _ _ _ hMh84 (Fr.tr (Fr.tr (Fr.tr (Fr.tr (Fr.sub hFh30 rfl) hFh58 rfl) hFh63 rfl) hFh73 rfl) hFh84 rfl) (by omega) (by omega) (by omega) (by omega) (by omega) (by omega) (by omega) (by omega) (by omega) (by omega) (by omega) (by omega) z86 (S1n.fr (T := [(98, 3), (98, 4), (98, 5), (98, 6), (98, 7), (98, 8), (98, 47), (98, 48), (98, 49), (98, 52), (100, 0), (101, 0), (102, 0), (103, 0), (104, 0), (105, 0), (106, 0), (107, 0), (108, 0), (109, 0), (110, 0), (111, 0), (112, 0), (113, 0), (114, 0), (128, 0), (129, 0)]) z66 (Fr.tr (Fr.sub hFh73 rfl) hFh84 rfl) rfl) (by omega)
                                · skip
                                  refine g_goto 238 dX12_free_223 (by decide) ?_
                                  refine g_iincB dX12_free_238 rfl rfl (by omega) (by omega) ?_
                                  refine g_goto 133 dX12_free_241 (by decide) ?_
                                  refine g_drop 9 ?_
                                  refine g_drop 10 ?_
                                  have q111 : h84 98 2 = v1 := kz87
                                  have q112 : h84 98 3 = v2 := kz88
                                  have q113 : h84 98 4 = v3 := kz89
                                  have q114 : h84 98 5 = w98_5 := kz90
                                  exact ih133 _ _ _ _ _ hMh84 (Fr.tr (Fr.tr (Fr.tr (Fr.tr (Fr.sub hFh30 rfl) hFh58 rfl) hFh63 rfl) hFh73 rfl) hFh84 rfl) (by omega) (by omega) (by omega) (by omega) (by omega) (by omega) (by omega) (by omega) (by omega) (by omega) (by omega) (by omega) z86 (S1n.fr (T := [(98, 3), (98, 4), (98, 5), (98, 6), (98, 7), (98, 8), (98, 47), (98, 48), (98, 49), (98, 52), (100, 0), (101, 0), (102, 0), (103, 0), (104, 0), (105, 0), (106, 0), (107, 0), (108, 0), (109, 0), (110, 0), (111, 0), (112, 0), (113, 0), (114, 0), (128, 0), (129, 0)]) z66 (Fr.tr (Fr.sub hFh73 rfl) hFh84 rfl) rfl) (by omega)
                        · skip
                          refine g_goto 238 dX12_free_160 (by decide) ?_
                          refine g_iincB dX12_free_238 rfl rfl (by omega) (by omega) ?_
                          refine g_goto 133 dX12_free_241 (by decide) ?_
                          have q115 : h30 98 2 = v1 := kp133_98_2
                          have q116 : h30 98 3 = v2 := kp133_98_3
                          have q117 : h30 98 4 = v3 := kp133_98_4
                          have q118 : h30 98 5 = w98_5 := kp133_98_5
                          exact ih133 _ _ _ _ _ hMh30 (Fr.sub hFh30 rfl) (by omega) (by omega) (by omega) (by omega) (by omega) (by omega) (by omega) (by omega) (by omega) (by omega) (by omega) (by omega) e133_0 e133_1 (by omega)
                refine g_istore dX12_free_131 (by decide) rfl ?_
                have q119 : h25 98 2 = v1 := ((hFh25 98 2 rfl).trans ((hFh24 98 2 rfl).trans ev1.symm))
                have q120 : h25 98 3 = v2 := ((hFh25 98 3 rfl).trans ((hFh24 98 3 rfl).trans ev2.symm))
                have q121 : h25 98 4 = v3 := ((hFh25 98 4 rfl).trans ((hFh24 98 4 rfl).trans ev3.symm))
                have q122 : h25 98 5 = w98_5 := ((hFh25 98 5 rfl).trans ((hFh24 98 5 rfl).trans ew98_5.symm))
                exact c133 257 _ _ _ _ _ hMh25 Fr.rf (by omega) (by omega) (by omega) (by omega) (by omega) (by omega) (by omega) (by omega) (by omega) (by omega) (by omega) (by omega) (ISn.fr (T := [(98, 53), (98, 54)]) f_IS (Fr.tr (Fr.sub hFh24 rfl) hFh25 rfl) rfl) (S1n.fr (T := [(98, 53), (98, 54)]) f_S1 (Fr.tr (Fr.sub hFh24 rfl) hFh25 rfl) rfl) (by omega)
              · skip
                refine g_bipush dX12_free_105 (inR_c rfl) (by decide) ?_
                have q123 : h 98 2 = v1 := ev1.symm
                have q124 : h 98 3 = v2 := ev2.symm
                have q125 : h 98 4 = v3 := ev3.symm
                have q126 : h 98 5 = w98_5 := ew98_5.symm
                exact g_ireturn dX12_free_107 retI (hPo _ _ ⟨hM, Fr.rf, (by omega), (by omega), f_IS, f_S1, (by omega), (by omega), (by omega), (by omega)⟩)
            · skip
              refine g_iload dX12_free_50 rfl (fun _ => ?_)
              refine g_aload_n dX12_free_52 rfl ?_
              refine gE_X12_334 rfl dX12_free_53 sh_98 ew98_5.symm ?_
              refine g_iload dX12_free_56 rfl (fun _ => ?_)
              refine g_iaddB dX12_free_58 (by omega) (by omega) ?_
              refine g_bipush dX12_free_59 (inR_c rfl) (by decide) ?_
              refine g_icmp_ge 86 dX12_free_61 (by decide) (fun q127 => ?_) (fun q127 => ?_)
              · skip
                refine g_iconst dX12_free_86 (inR_c rfl) ?_
                refine g_iorX (lo := 0) (hi := 255) dX12_free_87 (ior_b 8 (by decide) (by omega) (by omega) (by omega) (by omega)) (fun v128 ev128 bv128 cv128 => ?_)
                refine g_istore dX12_free_88 (by decide) rfl ?_
                refine g_iincB dX12_free_90 rfl rfl (by omega) (by omega) ?_
                refine g_goto 44 dX12_free_93 (by decide) ?_
                exact ih44 _ _ (by omega) (by omega) (by omega) (by omega) (by omega)
              · skip
                refine g_aload_n dX12_free_64 rfl ?_
                refine gR_X12_61 rfl dX12_free_65 sh_98 (b := 114) (m_98_22 hM) ?_
                refine g_aload_n dX12_free_68 rfl ?_
                refine gE_X12_334 rfl dX12_free_69 sh_98 ew98_5.symm ?_
                refine g_iload dX12_free_72 rfl (fun _ => ?_)
                refine g_iaddB dX12_free_74 (by omega) (by omega) ?_
                refine g_zaldB dX12_free_75 sh_114 (by omega) (by omega) (m_114 hM _) (fun v129 ev129 bv129 cv129 => ?_)
                refine g_if_ne 86 dX12_free_76 (by decide) (fun q130 => ?_) (fun q130 => ?_)
                · skip
                  refine g_iconst dX12_free_86 (inR_c rfl) ?_
                  refine g_iorX (lo := 0) (hi := 255) dX12_free_87 (ior_b 8 (by decide) (by omega) (by omega) (by omega) (by omega)) (fun v131 ev131 bv131 cv131 => ?_)
                  refine g_istore dX12_free_88 (by decide) rfl ?_
                  refine g_iincB dX12_free_90 rfl rfl (by omega) (by omega) ?_
                  refine g_goto 44 dX12_free_93 (by decide) ?_
                  exact ih44 _ _ (by omega) (by omega) (by omega) (by omega) (by omega)
                · skip
                  refine g_iconst dX12_free_79 (inR_c rfl) ?_
                  refine g_iload dX12_free_80 rfl (fun _ => ?_)
                  refine g_ishlX (lo := 1) (hi := 128) dX12_free_82 (ishl1_b 7 (by decide) (by omega) (by omega)) (fun v132 ev132 bv132 cv132 => ?_)
                  refine g_goto 87 dX12_free_83 (by decide) ?_
                  refine g_iorX (lo := 0) (hi := 255) dX12_free_87 (ior_b 8 (by decide) (by omega) (by omega) (by omega) (by omega)) (fun v133 ev133 bv133 cv133 => ?_)
                  refine g_istore dX12_free_88 (by decide) rfl ?_
                  refine g_iincB dX12_free_90 rfl rfl (by omega) (by omega) ?_
                  refine g_goto 44 dX12_free_93 (by decide) ?_
                  exact ih44 _ _ (by omega) (by omega) (by omega) (by omega) (by omega)
        refine g_istore dX12_free_42 (by decide) rfl ?_
        exact c44 9 _ _ (by omega) (by omega) (by omega) (by omega) (by omega)
      · skip
        refine g_if_ne 38 dX12_free_33 (by decide) (fun _ => by exfalso; omega) (fun q134 => ?_)
        refine g_iconst dX12_free_36 (inR_c rfl) ?_
        have q135 : h 98 2 = v1 := ev1.symm
        have q136 : h 98 3 = v2 := ev2.symm
        have q137 : h 98 4 = v3 := ev3.symm
        have q138 : h 98 5 = w98_5 := ew98_5.symm
        exact g_ireturn dX12_free_37 retI (hPo _ _ ⟨hM, Fr.rf, (by omega), (by omega), f_IS, f_S1, (by omega), (by omega), (by omega), (by omega)⟩)
    · skip
      refine g_if_eq 36 dX12_free_21 (by decide) (fun q139 => ?_) (fun _ => by exfalso; omega)
      refine g_iconst dX12_free_36 (inR_c rfl) ?_
      have q140 : h 98 2 = v1 := ev1.symm
      have q141 : h 98 3 = v2 := ev2.symm
      have q142 : h 98 4 = v3 := ev3.symm
      have q143 : h 98 5 = w98_5 := ew98_5.symm
      exact g_ireturn dX12_free_37 retI (hPo _ _ ⟨hM, Fr.rf, (by omega), (by omega), f_IS, f_S1, (by omega), (by omega), (by omega), (by omega)⟩)
  · skip
    refine g_if_eq 36 dX12_free_9 (by decide) (fun q144 => ?_) (fun _ => by exfalso; omega)
    refine g_iconst dX12_free_36 (inR_c rfl) ?_
    have q145 : h 98 2 = v1 := ev1.symm
    have q146 : h 98 3 = v2 := ev2.symm
    have q147 : h 98 4 = v3 := ev3.symm
    have q148 : h 98 5 = w98_5 := ew98_5.symm
    exact g_ireturn dX12_free_37 retI (hPo _ _ ⟨hM, Fr.rf, (by omega), (by omega), f_IS, f_S1, (by omega), (by omega), (by omega), (by omega)⟩)
set_option maxRecDepth 100000 in
set_option maxHeartbeats 4000000 in
theorem c_X12_hurtIn_98 (x1 : Int) (gi : Nat → Int) (h : MEM) (hM : MBm h) (bx1 : 1 ≤ x1) (dx1 : x1 ≤ 40) (p0_0 : 0 ≤ h 98 5) (p0_1 : h 98 5 ≤ 999600) (f_WFL : WFL h) (f_S0 : S0n gi h) : CI yX12_hurtIn cX12_hurtIn 3 (some .int) 9 [pR 98, pI x1] h (fun x h' => MBm h' ∧ Fr [(98, 3), (98, 4), (98, 5), (98, 6), (98, 7), (98, 8), (98, 47), (98, 48), (98, 49), (98, 52), (100, 0), (101, 0), (102, 0), (103, 0), (104, 0), (105, 0), (106, 0), (107, 0), (108, 0), (109, 0), (110, 0), (111, 0), (112, 0), (113, 0), (114, 0), (128, 0), (129, 0)] h h' ∧ -2147483648 ≤ x ∧ x ≤ 2147483647 ∧ ISn gi h' ∧ h' 98 2 = h 145 0 ∧ h' 98 3 = h 145 1 ∧ h' 98 4 = h 145 2 ∧ h' 98 5 = h 145 3) := by
  refine CI.of (L0 := [some (pR 98), some (pI x1), none]) rfl (Nat.le_of_ble_eq_true rfl) rfl (fun Po hPo hav => ?_)
  obtain ⟨v1, ev1⟩ : ∃ z, z = h 145 0 := ⟨_, rfl⟩
  have bv1 : 0 ≤ v1 ∧ v1 ≤ 10 := by rw [ev1]; exact (m_145_0 hM)
  obtain ⟨v2, ev2⟩ : ∃ z, z = h 145 1 := ⟨_, rfl⟩
  have bv2 : 0 ≤ v2 ∧ v2 ≤ 8 := by rw [ev2]; exact (m_145_1 hM)
  obtain ⟨v3, ev3⟩ : ∃ z, z = h 145 2 := ⟨_, rfl⟩
  have bv3 : 0 ≤ v3 ∧ v3 ≤ 8 := by rw [ev3]; exact (m_145_2 hM)
  obtain ⟨v4, ev4⟩ : ∃ z, z = h 145 3 := ⟨_, rfl⟩
  have bv4 : 0 ≤ v4 ∧ v4 ≤ 2000000000 := by rw [ev4]; exact (m_145_3 hM)
  obtain ⟨w98_5, ew98_5⟩ : ∃ z, z = h 98 5 := ⟨_, rfl⟩
  refine g_aload_n dX12_hurtIn_0 rfl ?_
  refine g_iload_n dX12_hurtIn_1 rfl (fun _ => ?_)
  have q5 : h 98 5 = w98_5 := ew98_5.symm
  have q6 : h 98 5 = w98_5 := ew98_5.symm
  refine g_cVV (as := [_]) (c_X12_goesOn_98 _ h hM (by omega) (by omega) (by omega) (by omega) f_WFL) dX12_hurtIn_2 mi_X12_goesOn in_X12_goesOn se_X12_goesOn ml_X12_401 rfl rfl rfl sh_98 rfl rfl (Nat.le_of_ble_eq_true rfl) (fun h7 q8 => ?_)
  obtain ⟨hMh7, hFh7, z9⟩ := q8
  have kz9 : h7 98 5 = (w98_5 + x1) := by omega
  refine g_aload_n dX12_hurtIn_5 rfl ?_
  refine g_cVP (as := []) (c_X12_allBruises_98  h7 hMh7) dX12_hurtIn_6 mi_X12_allBruises in_X12_allBruises se_X12_allBruises ml_X12_425 rfl rfl rfl sh_98 rfl rfl (Nat.le_of_ble_eq_true rfl) (fun v10 q11 => ?_)
  obtain ⟨bv10, cv10⟩ := q11
  refine g_istore_n dX12_hurtIn_9 (by decide) rfl ?_
  refine g_aload_n dX12_hurtIn_10 rfl ?_
  refine g_iconst dX12_hurtIn_11 (inR_c rfl) ?_
  have q12 : h7 145 0 = v1 := ((hFh7 145 _ rfl).trans ev1.symm)
  have q13 : h7 145 1 = v2 := ((hFh7 145 _ rfl).trans ev2.symm)
  have q14 : h7 145 2 = v3 := ((hFh7 145 _ rfl).trans ev3.symm)
  have q15 : h7 145 3 = v4 := ((hFh7 145 _ rfl).trans ev4.symm)
  refine g_cVV (as := [_]) (c_X12_putsBack_98_k0 _ h7 hMh7 (S0n.fr (T := [(98, 6), (98, 7), (98, 8), (98, 47), (98, 48), (98, 49), (98, 52), (101, 0), (105, 0), (107, 0), (111, 0), (112, 0), (113, 0), (128, 0), (129, 0)]) f_S0 (Fr.sub hFh7 rfl) rfl)) dX12_hurtIn_12 mi_X12_putsBack in_X12_putsBack se_X12_putsBack ml_X12_428 rfl rfl rfl sh_98 rfl rfl (Nat.le_of_ble_eq_true rfl) (fun h16 q17 => ?_)
  obtain ⟨hMh16, hFh16, z18, z19, z20, z21, z22⟩ := q17
  have kz19 : h16 98 2 = v1 := by omega
  have kz20 : h16 98 3 = v2 := by omega
  have kz21 : h16 98 4 = v3 := by omega
  have kz22 : h16 98 5 = v4 := by omega
  refine g_iload_n dX12_hurtIn_15 rfl (fun _ => ?_)
  have q23 : h16 98 2 = v1 := kz19
  have q24 : h16 98 3 = v2 := kz20
  have q25 : h16 98 4 = v3 := kz21
  have q26 : h16 98 5 = v4 := kz22
  exact g_ireturn dX12_hurtIn_16 retI (hPo _ _ ⟨hMh16, (Fr.tr (Fr.sub hFh7 rfl) hFh16 rfl), (by omega), (by omega), z18, (by omega), (by omega), (by omega), (by omega)⟩)
set_option maxRecDepth 100000 in
set_option maxHeartbeats 4000000 in
theorem c_X12_worth_98 (x1 x2 x3 : Int) (gi gs : Nat → Int) (h : MEM) (hM : MBm h) (bx1 : -2147483648 ≤ x1) (dx1 : x1 ≤ 2147483647) (bx2 : -2147483648 ≤ x2) (dx2 : x2 ≤ 2147483647) (bx3 : -2147483648 ≤ x3) (dx3 : x3 ≤ 2147483647) (p0_0 : 0 ≤ h 98 5) (p0_1 : h 98 5 ≤ 999600) (f_WFL : WFL h) (f_IS : ISn gi h) (f_S1 : S1n gs h) : CI yX12_worth cX12_worth 5 (some .int) 10 [pR 98, pI x1, pI x2, pI x3] h (fun x h' => MBm h' ∧ Fr [(98, 3), (98, 4), (98, 5), (98, 6), (98, 7), (98, 8), (98, 47), (98, 48), (98, 49), (98, 52), (100, 0), (101, 0), (102, 0), (103, 0), (104, 0), (105, 0), (106, 0), (107, 0), (108, 0), (109, 0), (110, 0), (111, 0), (112, 0), (113, 0), (114, 0), (128, 0), (129, 0), (130, 0), (131, 0), (132, 0), (133, 0), (134, 0), (135, 0), (136, 0), (137, 0), (138, 0), (139, 0), (140, 0), (141, 0), (142, 0), (143, 0), (144, 0), (145, 1), (145, 2), (145, 3), (145, 4), (145, 5), (145, 6)] h h' ∧ -2147483648 ≤ x ∧ x ≤ 2147483647 ∧ ISn gi h' ∧ S1n gs h' ∧ h' 98 2 = h 98 2 ∧ h' 98 3 = h 98 3 ∧ h' 98 4 = h 98 4 ∧ h' 98 5 = h 98 5) := by
  refine CI.of (L0 := [some (pR 98), some (pI x1), some (pI x2), some (pI x3), none]) rfl (Nat.le_of_ble_eq_true rfl) rfl (fun Po hPo hav => ?_)
  obtain ⟨v1, ev1⟩ : ∃ z, z = h 98 2 := ⟨_, rfl⟩
  have bv1 : 0 ≤ v1 ∧ v1 ≤ 10 := by rw [ev1]; exact (m_98_2 hM)
  obtain ⟨v2, ev2⟩ : ∃ z, z = h 98 3 := ⟨_, rfl⟩
  have bv2 : 0 ≤ v2 ∧ v2 ≤ 8 := by rw [ev2]; exact (m_98_3 hM)
  obtain ⟨v3, ev3⟩ : ∃ z, z = h 98 4 := ⟨_, rfl⟩
  have bv3 : 0 ≤ v3 ∧ v3 ≤ 8 := by rw [ev3]; exact (m_98_4 hM)
  obtain ⟨v4, ev4⟩ : ∃ z, z = h 98 5 := ⟨_, rfl⟩
  have bv4 : 0 ≤ v4 ∧ v4 ≤ 2000000000 := by rw [ev4]; exact (m_98_5 hM)
  obtain ⟨w98_5, ew98_5⟩ : ∃ z, z = h 98 5 := ⟨_, rfl⟩
  refine g_iload_n dX12_worth_0 rfl (fun _ => ?_)
  refine g_cSP (av := [_]) (c_X12_areHours _ h hM (by omega) (by omega)) dX12_worth_1 mi_X12_areHours st_X12_areHours ml_X12_398 rfl rfl rfl rfl (Nat.le_of_ble_eq_true rfl) (fun v5 q6 => ?_)
  rcases q6 with ⟨rfl, q6⟩ | ⟨rfl, q6⟩
  · skip
    refine g_if_eq 58 dX12_worth_4 (by decide) (fun _ => by exfalso; omega) (fun q7 => ?_)
    refine g_iload_n dX12_worth_7 rfl (fun _ => ?_)
    refine g_i2l dX12_worth_8 ?_
    refine g_lconst (v := 0) dX12_worth_9 rfl ?_
    refine g_lconst (v := 1) dX12_worth_10 rfl ?_
    refine g_cSP (av := [_, _, _]) (c_X12_lies _ _ _ h hM (by omega) (by omega) (by omega) (by omega) (by omega) (by omega)) dX12_worth_11 mi_X12_lies st_X12_lies ml_X12_175 rfl rfl rfl rfl (Nat.le_of_ble_eq_true rfl) (fun v8 q9 => ?_)
    rcases q9 with ⟨rfl, q9⟩ | ⟨rfl, q9⟩
    · skip
      refine g_if_eq 58 dX12_worth_14 (by decide) (fun _ => by exfalso; omega) (fun q10 => ?_)
      refine g_iload_n dX12_worth_17 rfl (fun _ => ?_)
      refine g_if_ne 41 dX12_worth_18 (by decide) (fun q11 => ?_) (fun q11 => ?_)
      · skip
        refine g_aload_n dX12_worth_41 rfl ?_
        refine g_iload_n dX12_worth_42 rfl (fun _ => ?_)
        refine g_cVP (as := [_]) (c_X12_isMaster_98 _ h hM (by omega) (by omega)) dX12_worth_43 mi_X12_isMaster in_X12_isMaster se_X12_isMaster ml_X12_201 rfl rfl rfl sh_98 rfl rfl (Nat.le_of_ble_eq_true rfl) (fun v12 q13 => ?_)
        have q14 : h 98 4 = v3 := ev3.symm
        rcases q13 with ⟨rfl, q13⟩ | ⟨rfl, q13⟩
        · skip
          refine g_if_eq 58 dX12_worth_46 (by decide) (fun _ => by exfalso; omega) (fun q15 => ?_)
          refine g_aload_n dX12_worth_49 rfl ?_
          refine gR_X12_49 rfl dX12_worth_50 sh_98 (b := 110) (m_98_18 hM) ?_
          refine g_iload_n dX12_worth_53 rfl (fun _ => ?_)
          refine g_zaldB dX12_worth_54 sh_110 (by omega) (by omega) (m_110 hM _) (fun v16 ev16 bv16 cv16 => ?_)
          refine g_if_eq 62 dX12_worth_55 (by decide) (fun q17 => ?_) (fun q17 => ?_)
          · skip
            refine g_aload_n dX12_worth_62 rfl ?_
            refine g_iconst dX12_worth_63 (inR_c rfl) ?_
            have q18 : h 98 2 = v1 := ev1.symm
            have q19 : h 98 3 = v2 := ev2.symm
            have q20 : h 98 4 = v3 := ev3.symm
            have q21 : h 98 5 = w98_5 := ew98_5.symm
            refine g_cVV (as := [_]) (c_X12_setsAside_98_k0 _ _ h hM f_IS f_S1) dX12_worth_64 mi_X12_setsAside in_X12_setsAside se_X12_setsAside ml_X12_419 rfl rfl rfl sh_98 rfl rfl (Nat.le_of_ble_eq_true rfl) (fun h22 q23 => ?_)
            obtain ⟨hMh22, hFh22, z24, z25, z26, z27, z28, z29⟩ := q23
            have kz26 : h22 145 0 = v1 := by omega
            have kz27 : h22 145 1 = v2 := by omega
            have kz28 : h22 145 2 = v3 := by omega
            have kz29 : h22 145 3 = w98_5 := by omega
            refine g_aload_n dX12_worth_67 rfl ?_
            refine g_iload_n dX12_worth_68 rfl (fun _ => ?_)
            have q30 : h22 98 5 = w98_5 := ((hFh22 98 5 rfl).trans ew98_5.symm)
            have q31 : h22 145 0 = v1 := kz26
            have q32 : h22 145 1 = v2 := kz27
            have q33 : h22 145 2 = v3 := kz28
            have q34 : h22 145 3 = w98_5 := kz29
            refine g_cV (as := [_]) (c_X12_hurtIn_98 _ _ h22 hMh22 (by omega) (by omega) (by omega) (by omega) (WFL.fr (T := [(130, 0), (131, 0), (132, 0), (133, 0), (134, 0), (135, 0), (136, 0), (137, 0), (138, 0), (139, 0), (140, 0), (141, 0), (142, 0), (143, 0), (144, 0), (145, 1), (145, 2), (145, 3), (145, 4), (145, 5), (145, 6)]) f_WFL (Fr.sub hFh22 rfl) rfl) z24) dX12_worth_69 mi_X12_hurtIn in_X12_hurtIn se_X12_hurtIn ml_X12_465 rfl rfl rfl sh_98 rfl rfl (Nat.le_of_ble_eq_true rfl) (fun v35 h36 q37 => ?_)
            obtain ⟨hMh36, hFh36, bv35, cv35, z38, z39, z40, z41, z42⟩ := q37
            have kz39 : h36 98 2 = v1 := by omega
            have kz40 : h36 98 3 = v2 := by omega
            have kz41 : h36 98 4 = v3 := by omega
            have kz42 : h36 98 5 = w98_5 := by omega
            refine g_istore dX12_worth_72 (by decide) rfl ?_
            refine g_aload_n dX12_worth_74 rfl ?_
            refine g_iconst dX12_worth_75 (inR_c rfl) ?_
            have q43 : h36 98 2 = v1 := kz39
            have q44 : h36 98 3 = v2 := kz40
            have q45 : h36 98 4 = v3 := kz41
            have q46 : h36 98 5 = w98_5 := kz42
            refine g_cVV (as := [_]) (c_X12_setsAside_98_k0 _ _ h36 hMh36 z38 (S1n.fr (T := [(98, 3), (98, 4), (98, 5), (98, 6), (98, 7), (98, 8), (98, 47), (98, 48), (98, 49), (98, 52), (100, 0), (101, 0), (102, 0), (103, 0), (104, 0), (105, 0), (106, 0), (107, 0), (108, 0), (109, 0), (110, 0), (111, 0), (112, 0), (113, 0), (114, 0), (128, 0), (129, 0)]) z25 (Fr.sub hFh36 rfl) rfl)) dX12_worth_76 mi_X12_setsAside in_X12_setsAside se_X12_setsAside ml_X12_419 rfl rfl rfl sh_98 rfl rfl (Nat.le_of_ble_eq_true rfl) (fun h47 q48 => ?_)
            obtain ⟨hMh47, hFh47, z49, z50, z51, z52, z53, z54⟩ := q48
            have kz51 : h47 145 0 = v1 := by omega
            have kz52 : h47 145 1 = v2 := by omega
            have kz53 : h47 145 2 = v3 := by omega
            have kz54 : h47 145 3 = w98_5 := by omega
            refine g_iload_n dX12_worth_79 rfl (fun _ => ?_)
            refine g_if_ne 93 dX12_worth_80 (by decide) (fun q55 => ?_) (fun _ => by exfalso; omega)
            refine g_aload_n dX12_worth_93 rfl ?_
            refine gR_X12_49 rfl dX12_worth_94 sh_98 (b := 110) (m_98_18 hMh47) ?_
            refine g_iload_n dX12_worth_97 rfl (fun _ => ?_)
            refine g_iconst dX12_worth_98 (inR_c rfl) ?_
            refine g_zastB dX12_worth_99 sh_110 (by omega) (by omega) (by omega) (fun h56 eh56 => ?_)
            have hFh56 := Fr.ar eh56
            have hMh56 := u_110 hMh47 eh56 (by omega) (by omega)
            refine g_iload dX12_worth_100 rfl (fun _ => ?_)
            refine g_aload_n dX12_worth_102 rfl ?_
            refine g_iload_n dX12_worth_103 rfl (fun _ => ?_)
            have q57 : h56 98 5 = w98_5 := ((hFh56 98 5 rfl).trans ((hFh47 98 5 rfl).trans kz42))
            have q58 : h56 145 0 = v1 := ((hFh56 145 _ rfl).trans kz51)
            have q59 : h56 145 1 = v2 := ((hFh56 145 _ rfl).trans kz52)
            have q60 : h56 145 2 = v3 := ((hFh56 145 _ rfl).trans kz53)
            have q61 : h56 145 3 = w98_5 := ((hFh56 145 _ rfl).trans kz54)
            refine g_cV (as := [_]) (c_X12_hurtIn_98 _ _ h56 hMh56 (by omega) (by omega) (by omega) (by omega) (WFL.fr (T := [(98, 3), (98, 4), (98, 5), (98, 6), (98, 7), (98, 8), (98, 47), (98, 48), (98, 49), (98, 52), (100, 0), (101, 0), (102, 0), (103, 0), (104, 0), (105, 0), (106, 0), (107, 0), (108, 0), (109, 0), (110, 0), (111, 0), (112, 0), (113, 0), (114, 0), (128, 0), (129, 0), (130, 0), (131, 0), (132, 0), (133, 0), (134, 0), (135, 0), (136, 0), (137, 0), (138, 0), (139, 0), (140, 0), (141, 0), (142, 0), (143, 0), (144, 0), (145, 1), (145, 2), (145, 3), (145, 4), (145, 5), (145, 6)]) f_WFL (Fr.tr (Fr.tr (Fr.tr (Fr.sub hFh22 rfl) hFh36 rfl) hFh47 rfl) hFh56 rfl) rfl) (S0n.fr (T := [(110, 0)]) z49 (Fr.sub hFh56 rfl) rfl)) dX12_worth_104 mi_X12_hurtIn in_X12_hurtIn se_X12_hurtIn ml_X12_465 rfl rfl rfl sh_98 rfl rfl (Nat.le_of_ble_eq_true rfl) (fun v62 h63 q64 => ?_)
            obtain ⟨hMh63, hFh63, bv62, cv62, z65, z66, z67, z68, z69⟩ := q64
            have kz66 : h63 98 2 = v1 := by omega
            have kz67 : h63 98 3 = v2 := by omega
            have kz68 : h63 98 4 = v3 := by omega
            have kz69 : h63 98 5 = w98_5 := by omega
            refine g_isubF dX12_worth_107 (fun v70 bv70 cv70 => ?_)
            have q71 : h63 98 2 = v1 := kz66
            have q72 : h63 98 3 = v2 := kz67
            have q73 : h63 98 4 = v3 := kz68
            have q74 : h63 98 5 = w98_5 := kz69
            exact g_ireturn dX12_worth_108 retI (hPo _ _ ⟨hMh63, (Fr.tr (Fr.tr (Fr.tr (Fr.tr (Fr.sub hFh22 rfl) hFh36 rfl) hFh47 rfl) hFh56 rfl) hFh63 rfl), (by omega), (by omega), z65, (S1n.fr (T := [(98, 3), (98, 4), (98, 5), (98, 6), (98, 7), (98, 8), (98, 47), (98, 48), (98, 49), (98, 52), (100, 0), (101, 0), (102, 0), (103, 0), (104, 0), (105, 0), (106, 0), (107, 0), (108, 0), (109, 0), (110, 0), (111, 0), (112, 0), (113, 0), (114, 0), (128, 0), (129, 0)]) z50 (Fr.tr (Fr.sub hFh56 rfl) hFh63 rfl) rfl), (by omega), (by omega), (by omega), (by omega)⟩)
          · skip
            refine g_sipush dX12_worth_58 (inR_c rfl) (by decide) ?_
            have q75 : h 98 2 = v1 := ev1.symm
            have q76 : h 98 3 = v2 := ev2.symm
            have q77 : h 98 4 = v3 := ev3.symm
            have q78 : h 98 5 = w98_5 := ew98_5.symm
            exact g_ireturn dX12_worth_61 retI (hPo _ _ ⟨hM, Fr.rf, (by omega), (by omega), f_IS, f_S1, (by omega), (by omega), (by omega), (by omega)⟩)
        · skip
          refine g_if_eq 58 dX12_worth_46 (by decide) (fun q79 => ?_) (fun _ => by exfalso; omega)
          refine g_sipush dX12_worth_58 (inR_c rfl) (by decide) ?_
          have q80 : h 98 2 = v1 := ev1.symm
          have q81 : h 98 3 = v2 := ev2.symm
          have q82 : h 98 4 = v3 := ev3.symm
          have q83 : h 98 5 = w98_5 := ew98_5.symm
          exact g_ireturn dX12_worth_61 retI (hPo _ _ ⟨hM, Fr.rf, (by omega), (by omega), f_IS, f_S1, (by omega), (by omega), (by omega), (by omega)⟩)
      · skip
        refine g_aload_n dX12_worth_21 rfl ?_
        refine g_iload_n dX12_worth_22 rfl (fun _ => ?_)
        refine g_cVP (as := [_]) (c_X12_isApprentice_98 _ h hM (by omega) (by omega)) dX12_worth_23 mi_X12_isApprentice in_X12_isApprentice se_X12_isApprentice ml_X12_195 rfl rfl rfl sh_98 rfl rfl (Nat.le_of_ble_eq_true rfl) (fun v84 q85 => ?_)
        have q86 : h 98 3 = v2 := ev2.symm
        rcases q85 with ⟨rfl, q85⟩ | ⟨rfl, q85⟩
        · skip
          refine g_if_eq 58 dX12_worth_26 (by decide) (fun _ => by exfalso; omega) (fun q87 => ?_)
          refine g_aload_n dX12_worth_29 rfl ?_
          refine gR_X12_36 rfl dX12_worth_30 sh_98 (b := 106) (m_98_14 hM) ?_
          refine g_iload_n dX12_worth_33 rfl (fun _ => ?_)
          refine g_zaldB dX12_worth_34 sh_106 (by omega) (by omega) (m_106 hM _) (fun v88 ev88 bv88 cv88 => ?_)
          refine g_if_eq 62 dX12_worth_35 (by decide) (fun q89 => ?_) (fun q89 => ?_)
          · skip
            refine g_aload_n dX12_worth_62 rfl ?_
            refine g_iconst dX12_worth_63 (inR_c rfl) ?_
            have q90 : h 98 2 = v1 := ev1.symm
            have q91 : h 98 3 = v2 := ev2.symm
            have q92 : h 98 4 = v3 := ev3.symm
            have q93 : h 98 5 = w98_5 := ew98_5.symm
            refine g_cVV (as := [_]) (c_X12_setsAside_98_k0 _ _ h hM f_IS f_S1) dX12_worth_64 mi_X12_setsAside in_X12_setsAside se_X12_setsAside ml_X12_419 rfl rfl rfl sh_98 rfl rfl (Nat.le_of_ble_eq_true rfl) (fun h94 q95 => ?_)
            obtain ⟨hMh94, hFh94, z96, z97, z98, z99, z100, z101⟩ := q95
            have kz98 : h94 145 0 = v1 := by omega
            have kz99 : h94 145 1 = v2 := by omega
            have kz100 : h94 145 2 = v3 := by omega
            have kz101 : h94 145 3 = w98_5 := by omega
            refine g_aload_n dX12_worth_67 rfl ?_
            refine g_iload_n dX12_worth_68 rfl (fun _ => ?_)
            have q102 : h94 98 5 = w98_5 := ((hFh94 98 5 rfl).trans ew98_5.symm)
            have q103 : h94 145 0 = v1 := kz98
            have q104 : h94 145 1 = v2 := kz99
            have q105 : h94 145 2 = v3 := kz100
            have q106 : h94 145 3 = w98_5 := kz101
            refine g_cV (as := [_]) (c_X12_hurtIn_98 _ _ h94 hMh94 (by omega) (by omega) (by omega) (by omega) (WFL.fr (T := [(130, 0), (131, 0), (132, 0), (133, 0), (134, 0), (135, 0), (136, 0), (137, 0), (138, 0), (139, 0), (140, 0), (141, 0), (142, 0), (143, 0), (144, 0), (145, 1), (145, 2), (145, 3), (145, 4), (145, 5), (145, 6)]) f_WFL (Fr.sub hFh94 rfl) rfl) z96) dX12_worth_69 mi_X12_hurtIn in_X12_hurtIn se_X12_hurtIn ml_X12_465 rfl rfl rfl sh_98 rfl rfl (Nat.le_of_ble_eq_true rfl) (fun v107 h108 q109 => ?_)
            obtain ⟨hMh108, hFh108, bv107, cv107, z110, z111, z112, z113, z114⟩ := q109
            have kz111 : h108 98 2 = v1 := by omega
            have kz112 : h108 98 3 = v2 := by omega
            have kz113 : h108 98 4 = v3 := by omega
            have kz114 : h108 98 5 = w98_5 := by omega
            refine g_istore dX12_worth_72 (by decide) rfl ?_
            refine g_aload_n dX12_worth_74 rfl ?_
            refine g_iconst dX12_worth_75 (inR_c rfl) ?_
            have q115 : h108 98 2 = v1 := kz111
            have q116 : h108 98 3 = v2 := kz112
            have q117 : h108 98 4 = v3 := kz113
            have q118 : h108 98 5 = w98_5 := kz114
            refine g_cVV (as := [_]) (c_X12_setsAside_98_k0 _ _ h108 hMh108 z110 (S1n.fr (T := [(98, 3), (98, 4), (98, 5), (98, 6), (98, 7), (98, 8), (98, 47), (98, 48), (98, 49), (98, 52), (100, 0), (101, 0), (102, 0), (103, 0), (104, 0), (105, 0), (106, 0), (107, 0), (108, 0), (109, 0), (110, 0), (111, 0), (112, 0), (113, 0), (114, 0), (128, 0), (129, 0)]) z97 (Fr.sub hFh108 rfl) rfl)) dX12_worth_76 mi_X12_setsAside in_X12_setsAside se_X12_setsAside ml_X12_419 rfl rfl rfl sh_98 rfl rfl (Nat.le_of_ble_eq_true rfl) (fun h119 q120 => ?_)
            obtain ⟨hMh119, hFh119, z121, z122, z123, z124, z125, z126⟩ := q120
            have kz123 : h119 145 0 = v1 := by omega
            have kz124 : h119 145 1 = v2 := by omega
            have kz125 : h119 145 2 = v3 := by omega
            have kz126 : h119 145 3 = w98_5 := by omega
            refine g_iload_n dX12_worth_79 rfl (fun _ => ?_)
            refine g_if_ne 93 dX12_worth_80 (by decide) (fun _ => by exfalso; omega) (fun q127 => ?_)
            refine g_aload_n dX12_worth_83 rfl ?_
            refine gR_X12_36 rfl dX12_worth_84 sh_98 (b := 106) (m_98_14 hMh119) ?_
            refine g_iload_n dX12_worth_87 rfl (fun _ => ?_)
            refine g_iconst dX12_worth_88 (inR_c rfl) ?_
            refine g_zastB dX12_worth_89 sh_106 (by omega) (by omega) (by omega) (fun h128 eh128 => ?_)
            have hFh128 := Fr.ar eh128
            have hMh128 := u_106 hMh119 eh128 (by omega) (by omega)
            refine g_goto 100 dX12_worth_90 (by decide) ?_
            refine g_iload dX12_worth_100 rfl (fun _ => ?_)
            refine g_aload_n dX12_worth_102 rfl ?_
            refine g_iload_n dX12_worth_103 rfl (fun _ => ?_)
            have q129 : h128 98 5 = w98_5 := ((hFh128 98 5 rfl).trans ((hFh119 98 5 rfl).trans kz114))
            have q130 : h128 145 0 = v1 := ((hFh128 145 _ rfl).trans kz123)
            have q131 : h128 145 1 = v2 := ((hFh128 145 _ rfl).trans kz124)
            have q132 : h128 145 2 = v3 := ((hFh128 145 _ rfl).trans kz125)
            have q133 : h128 145 3 = w98_5 := ((hFh128 145 _ rfl).trans kz126)
            refine g_cV (as := [_]) (c_X12_hurtIn_98 _ _ h128 hMh128 (by omega) (by omega) (by omega) (by omega) (WFL.fr (T := [(98, 3), (98, 4), (98, 5), (98, 6), (98, 7), (98, 8), (98, 47), (98, 48), (98, 49), (98, 52), (100, 0), (101, 0), (102, 0), (103, 0), (104, 0), (105, 0), (106, 0), (107, 0), (108, 0), (109, 0), (110, 0), (111, 0), (112, 0), (113, 0), (114, 0), (128, 0), (129, 0), (130, 0), (131, 0), (132, 0), (133, 0), (134, 0), (135, 0), (136, 0), (137, 0), (138, 0), (139, 0), (140, 0), (141, 0), (142, 0), (143, 0), (144, 0), (145, 1), (145, 2), (145, 3), (145, 4), (145, 5), (145, 6)]) f_WFL (Fr.tr (Fr.tr (Fr.tr (Fr.sub hFh94 rfl) hFh108 rfl) hFh119 rfl) hFh128 rfl) rfl) (S0n.fr (T := [(106, 0)]) z121 (Fr.sub hFh128 rfl) rfl)) dX12_worth_104 mi_X12_hurtIn in_X12_hurtIn se_X12_hurtIn ml_X12_465 rfl rfl rfl sh_98 rfl rfl (Nat.le_of_ble_eq_true rfl) (fun v134 h135 q136 => ?_)
            obtain ⟨hMh135, hFh135, bv134, cv134, z137, z138, z139, z140, z141⟩ := q136
            have kz138 : h135 98 2 = v1 := by omega
            have kz139 : h135 98 3 = v2 := by omega
            have kz140 : h135 98 4 = v3 := by omega
            have kz141 : h135 98 5 = w98_5 := by omega
            refine g_isubF dX12_worth_107 (fun v142 bv142 cv142 => ?_)
            have q143 : h135 98 2 = v1 := kz138
            have q144 : h135 98 3 = v2 := kz139
            have q145 : h135 98 4 = v3 := kz140
            have q146 : h135 98 5 = w98_5 := kz141
            exact g_ireturn dX12_worth_108 retI (hPo _ _ ⟨hMh135, (Fr.tr (Fr.tr (Fr.tr (Fr.tr (Fr.sub hFh94 rfl) hFh108 rfl) hFh119 rfl) hFh128 rfl) hFh135 rfl), (by omega), (by omega), z137, (S1n.fr (T := [(98, 3), (98, 4), (98, 5), (98, 6), (98, 7), (98, 8), (98, 47), (98, 48), (98, 49), (98, 52), (100, 0), (101, 0), (102, 0), (103, 0), (104, 0), (105, 0), (106, 0), (107, 0), (108, 0), (109, 0), (110, 0), (111, 0), (112, 0), (113, 0), (114, 0), (128, 0), (129, 0)]) z122 (Fr.tr (Fr.sub hFh128 rfl) hFh135 rfl) rfl), (by omega), (by omega), (by omega), (by omega)⟩)
          · skip
            refine g_goto 58 dX12_worth_38 (by decide) ?_
            refine g_sipush dX12_worth_58 (inR_c rfl) (by decide) ?_
            have q147 : h 98 2 = v1 := ev1.symm
            have q148 : h 98 3 = v2 := ev2.symm
            have q149 : h 98 4 = v3 := ev3.symm
            have q150 : h 98 5 = w98_5 := ew98_5.symm
            exact g_ireturn dX12_worth_61 retI (hPo _ _ ⟨hM, Fr.rf, (by omega), (by omega), f_IS, f_S1, (by omega), (by omega), (by omega), (by omega)⟩)
        · skip
          refine g_if_eq 58 dX12_worth_26 (by decide) (fun q151 => ?_) (fun _ => by exfalso; omega)
          refine g_sipush dX12_worth_58 (inR_c rfl) (by decide) ?_
          have q152 : h 98 2 = v1 := ev1.symm
          have q153 : h 98 3 = v2 := ev2.symm
          have q154 : h 98 4 = v3 := ev3.symm
          have q155 : h 98 5 = w98_5 := ew98_5.symm
          exact g_ireturn dX12_worth_61 retI (hPo _ _ ⟨hM, Fr.rf, (by omega), (by omega), f_IS, f_S1, (by omega), (by omega), (by omega), (by omega)⟩)
    · skip
      refine g_if_eq 58 dX12_worth_14 (by decide) (fun q156 => ?_) (fun _ => by exfalso; omega)
      refine g_sipush dX12_worth_58 (inR_c rfl) (by decide) ?_
      have q157 : h 98 2 = v1 := ev1.symm
      have q158 : h 98 3 = v2 := ev2.symm
      have q159 : h 98 4 = v3 := ev3.symm
      have q160 : h 98 5 = w98_5 := ew98_5.symm
      exact g_ireturn dX12_worth_61 retI (hPo _ _ ⟨hM, Fr.rf, (by omega), (by omega), f_IS, f_S1, (by omega), (by omega), (by omega), (by omega)⟩)
  · skip
    refine g_if_eq 58 dX12_worth_4 (by decide) (fun q161 => ?_) (fun _ => by exfalso; omega)
    refine g_sipush dX12_worth_58 (inR_c rfl) (by decide) ?_
    have q162 : h 98 2 = v1 := ev1.symm
    have q163 : h 98 3 = v2 := ev2.symm
    have q164 : h 98 4 = v3 := ev3.symm
    have q165 : h 98 5 = w98_5 := ew98_5.symm
    exact g_ireturn dX12_worth_61 retI (hPo _ _ ⟨hM, Fr.rf, (by omega), (by omega), f_IS, f_S1, (by omega), (by omega), (by omega), (by omega)⟩)
set_option maxRecDepth 100000 in
set_option maxHeartbeats 4000000 in
theorem c_X12_canLend_98 (x1 x2 x3 : Int) (h : MEM) (hM : MBm h) (bx1 : 0 ≤ x1) (dx1 : x1 ≤ 7) (bx2 : 0 ≤ x2) (dx2 : x2 ≤ 7) (bx3 : 1 ≤ x3) (dx3 : x3 ≤ 99) : CP yX12_canLend cX12_canLend 4 (some .boolean) 1 [pR 98, pI x1, pI x2, pI x3] h (fun x => 0 ≤ x ∧ x ≤ 1) := by
  refine CP.of (L0 := [some (pR 98), some (pI x1), some (pI x2), some (pI x3)]) rfl (Nat.le_of_ble_eq_true rfl) rfl (fun Po hPo hav => ?_)
  refine g_aload_n dX12_canLend_0 rfl ?_
  refine gR_X12_52 rfl dX12_canLend_1 sh_98 (b := 111) (m_98_19 hM) ?_
  refine g_iload_n dX12_canLend_4 rfl (fun _ => ?_)
  refine g_ialdB dX12_canLend_5 sh_111 (by omega) (by omega) (m_111 hM _) (fun v1 ev1 bv1 cv1 => ?_)
  refine g_if_le 37 dX12_canLend_6 (by decide) (fun q2 => ?_) (fun q2 => ?_)
  · skip
    refine g_iconst dX12_canLend_37 (inR_c rfl) ?_
    exact g_ireturn dX12_canLend_38 (retZ (by omega)) (hPo _ ⟨(by omega), (by omega)⟩)
  · skip
    refine g_aload_n dX12_canLend_9 rfl ?_
    refine gR_X12_36 rfl dX12_canLend_10 sh_98 (b := 106) (m_98_14 hM) ?_
    refine g_iload_n dX12_canLend_13 rfl (fun _ => ?_)
    refine g_zaldB dX12_canLend_14 sh_106 (by omega) (by omega) (m_106 hM _) (fun v3 ev3 bv3 cv3 => ?_)
    refine g_if_ne 37 dX12_canLend_15 (by decide) (fun q4 => ?_) (fun q4 => ?_)
    · skip
      refine g_iconst dX12_canLend_37 (inR_c rfl) ?_
      exact g_ireturn dX12_canLend_38 (retZ (by omega)) (hPo _ ⟨(by omega), (by omega)⟩)
    · skip
      refine g_aload_n dX12_canLend_18 rfl ?_
      refine gR_X12_58 rfl dX12_canLend_19 sh_98 (b := 113) (m_98_21 hM) ?_
      refine g_bipush dX12_canLend_22 (inR_c rfl) (by decide) ?_
      refine g_iload_n dX12_canLend_24 rfl (fun _ => ?_)
      refine g_imulB dX12_canLend_25 (by omega) (by omega) ?_
      refine g_iload_n dX12_canLend_26 rfl (fun _ => ?_)
      refine g_iaddB dX12_canLend_27 (by omega) (by omega) ?_
      refine g_ialdB dX12_canLend_28 sh_113 (by omega) (by omega) (m_113 hM _) (fun v5 ev5 bv5 cv5 => ?_)
      refine g_iload_n dX12_canLend_29 rfl (fun _ => ?_)
      refine g_icmp_lt 37 dX12_canLend_30 (by decide) (fun q6 => ?_) (fun q6 => ?_)
      · skip
        refine g_iconst dX12_canLend_37 (inR_c rfl) ?_
        exact g_ireturn dX12_canLend_38 (retZ (by omega)) (hPo _ ⟨(by omega), (by omega)⟩)
      · skip
        refine g_iconst dX12_canLend_33 (inR_c rfl) ?_
        refine g_goto 38 dX12_canLend_34 (by decide) ?_
        exact g_ireturn dX12_canLend_38 (retZ (by omega)) (hPo _ ⟨(by omega), (by omega)⟩)
