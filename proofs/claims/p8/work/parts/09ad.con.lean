set_option maxRecDepth 100000 in
set_option maxHeartbeats 4000000 in
theorem c_X12_passes_98 (x1 : Int) (h : MEM) (hM : MBm h) (bx1 : 0 ≤ x1) (dx1 : x1 ≤ 9) (p0_0 : 0 ≤ h 98 5) (p0_1 : h 98 5 ≤ 1000000) (f_WFL : WFL h) : CV yX12_passes cX12_passes 2 (none) 7 [pR 98, pI x1] h (fun h' => MBm h' ∧ Fr [(98, 6), (98, 8), (98, 47), (98, 48), (98, 49), (98, 52), (101, 0), (105, 0), (107, 0), (111, 0), (112, 0), (113, 0), (128, 0), (129, 0)] h h' ∧ h' 98 5 = h 98 5 + 1) := by
  refine CV.of (L0 := [some (pR 98), some (pI x1)]) rfl (Nat.le_of_ble_eq_true rfl) rfl (fun Po hPo hav => ?_)
  obtain ⟨w98_5, ew98_5⟩ : ∃ z, z = h 98 5 := ⟨_, rfl⟩
  refine g_aload_n dX12_passes_0 rfl ?_
  have q1 : h 98 5 = w98_5 := ew98_5.symm
  refine g_cVP (as := []) (c_X12_isFree_98  h hM (by omega) (by omega)) dX12_passes_1 mi_X12_isFree in_X12_isFree se_X12_isFree ml_X12_386 rfl rfl rfl sh_98 rfl rfl (Nat.le_of_ble_eq_true rfl) (fun v2 q3 => ?_)
  obtain ⟨bv2, cv2⟩ := q3
  refine g_if_ne 12 dX12_passes_4 (by decide) (fun q4 => ?_) (fun q4 => ?_)
  · skip
    refine g_aload_n dX12_passes_12 rfl ?_
    refine g_dup dX12_passes_13 rfl ?_
    refine gE_X12_334 rfl dX12_passes_14 sh_98 ew98_5.symm ?_
    refine g_iconst dX12_passes_17 (inR_c rfl) ?_
    refine g_iaddB dX12_passes_18 (by omega) (by omega) ?_
    refine pI_X12_334 rfl dX12_passes_19 sh_98 (fun h5 eh5 => ?_)
    have hFh5 := Fr.st eh5
    have hMh5 := u_98_5 hM eh5 (by omega) (by omega)
    have q6 : h5 98 5 = (w98_5 + 1) := (st_at eh5)
    exact g_return dX12_passes_22 rfl (hPo _ ⟨hMh5, (Fr.sub hFh5 rfl), (by omega)⟩)
  · skip
    refine g_aload_n dX12_passes_7 rfl ?_
    refine g_iload_n dX12_passes_8 rfl (fun _ => ?_)
    refine g_cVV (as := [_]) (c_X12_worksOne_98 _ h hM (by omega) (by omega) f_WFL) dX12_passes_9 mi_X12_worksOne in_X12_worksOne se_X12_worksOne ml_X12_389 rfl rfl rfl sh_98 rfl rfl (Nat.le_of_ble_eq_true rfl) (fun h7 q8 => ?_)
    obtain ⟨hMh7, hFh7⟩ := q8
    refine g_aload_n dX12_passes_12 rfl ?_
    refine g_dup dX12_passes_13 rfl ?_
    refine gE_X12_334 rfl dX12_passes_14 sh_98 ((hFh7 98 5 rfl).trans ew98_5.symm) ?_
    refine g_iconst dX12_passes_17 (inR_c rfl) ?_
    refine g_iaddB dX12_passes_18 (by omega) (by omega) ?_
    refine pI_X12_334 rfl dX12_passes_19 sh_98 (fun h9 eh9 => ?_)
    have hFh9 := Fr.st eh9
    have hMh9 := u_98_5 hMh7 eh9 (by omega) (by omega)
    have q10 : h9 98 5 = (w98_5 + 1) := (st_at eh9)
    exact g_return dX12_passes_22 rfl (hPo _ ⟨hMh9, (Fr.tr (Fr.sub hFh7 rfl) hFh9 rfl), (by omega)⟩)
set_option maxRecDepth 100000 in
set_option maxHeartbeats 4000000 in
theorem c_X12_goesOn_98 (x1 : Int) (h : MEM) (hM : MBm h) (bx1 : 1 ≤ x1) (dx1 : x1 ≤ 40) (p0_0 : 0 ≤ h 98 5) (p0_1 : h 98 5 ≤ 999950) (f_WFL : WFL h) : CV yX12_goesOn cX12_goesOn 3 (none) 8 [pR 98, pI x1] h (fun h' => MBm h' ∧ Fr [(98, 6), (98, 7), (98, 8), (98, 47), (98, 48), (98, 49), (98, 52), (101, 0), (105, 0), (107, 0), (111, 0), (112, 0), (113, 0), (128, 0), (129, 0)] h h' ∧ h' 98 5 = h 98 5 + 0 + x1) := by
  refine CV.of (L0 := [some (pR 98), some (pI x1), none]) rfl (Nat.le_of_ble_eq_true rfl) rfl (fun Po hPo hav => ?_)
  obtain ⟨w98_5, ew98_5⟩ : ∃ z, z = h 98 5 := ⟨_, rfl⟩
  refine g_iconst dX12_goesOn_0 (inR_c rfl) ?_
  have c2 : ∀ (n : Nat) (y1 : Int) (h2 : MEM), MBm h2 → Fr [(98, 6), (98, 7), (98, 8), (98, 47), (98, 48), (98, 49), (98, 52), (101, 0), (105, 0), (107, 0), (111, 0), (112, 0), (113, 0), (128, 0), (129, 0)] h h2 → 0 ≤ y1 → y1 ≤ 40 → h2 98 5 = h 98 5 + y1 → y1 ≤ x1 → 40 - y1 < (n : Int) → G yX12_goesOn cX12_goesOn 3 (none) none Po (8, 480, 0, 0) 2 [some (pR 98), some (pI x1), some (pI y1)] [] SH h2 0 0 := by
    intro n
    induction n with
    | zero =>
      intro y1 h2 hMh2 hFh2 by1 dy1 e2_0 e2_1 hn
      exfalso; omega
    | succ n ih2 =>
      intro y1 h2 hMh2 hFh2 by1 dy1 e2_0 e2_1 hn
      refine g_iload_n dX12_goesOn_2 rfl (fun _ => ?_)
      refine g_iload_n dX12_goesOn_3 rfl (fun _ => ?_)
      refine g_icmp_ge 44 dX12_goesOn_4 (by decide) (fun q3 => ?_) (fun q3 => ?_)
      · skip
        obtain ⟨v4, ev4⟩ : ∃ z, z = h2 98 5 := ⟨_, rfl⟩
        have bv4 : 0 ≤ v4 ∧ v4 ≤ 2000000000 := by rw [ev4]; exact (m_98_5 hMh2)
        exact g_return dX12_goesOn_44 rfl (hPo _ ⟨hMh2, (Fr.sub hFh2 rfl), (by omega)⟩)
      · skip
        refine g_aload_n dX12_goesOn_7 rfl ?_
        refine g_sipush dX12_goesOn_8 (inR_c rfl) (by decide) ?_
        refine g_aload_n dX12_goesOn_11 rfl ?_
        refine gI_X12_13 rfl dX12_goesOn_12 sh_98 (m_98_6 hMh2) (fun v5 ev5 bv5 cv5 => ?_)
        refine g_imulB dX12_goesOn_15 (by omega) (by omega) ?_
        refine g_sipush dX12_goesOn_16 (inR_c rfl) (by decide) ?_
        refine g_iaddB dX12_goesOn_19 (by omega) (by omega) ?_
        refine g_ldc_w (v := 65536) dX12_goesOn_20 kc_X12_392 (inR_c rfl) ?_
        refine g_iremX (lo := 0) (hi := 65535) dX12_goesOn_23 (by omega) (irem_b (by omega) (by omega) (by omega)) (fun v6 ev6 bv6 cv6 => ?_)
        refine pI_X12_13 rfl dX12_goesOn_24 sh_98 (fun h7 eh7 => ?_)
        have hFh7 := Fr.st eh7
        have hMh7 := u_98_6 hMh2 eh7 (by omega) (by omega)
        refine g_aload_n dX12_goesOn_27 rfl ?_
        refine g_aload_n dX12_goesOn_28 rfl ?_
        refine gE_X12_13 rfl dX12_goesOn_29 sh_98 (st_at eh7) ?_
        refine g_bipush dX12_goesOn_32 (inR_c rfl) (by decide) ?_
        refine g_iremX (lo := 0) (hi := 9) dX12_goesOn_34 (by omega) (irem_b (by omega) (by omega) (by omega)) (fun v8 ev8 bv8 cv8 => ?_)
        have q9 : h7 98 5 = h2 98 5 := (hFh7 98 5 rfl)
        obtain ⟨v10, ev10⟩ : ∃ z, z = h7 98 5 := ⟨_, rfl⟩
        have bv10 : 0 ≤ v10 ∧ v10 ≤ 2000000000 := by rw [ev10]; exact (m_98_5 hMh7)
        have q11 : h7 98 5 = v10 := ev10.symm
        refine g_cVV (as := [_]) (c_X12_passes_98 _ h7 hMh7 (by omega) (by omega) (by omega) (by omega) (WFL.fr (T := [(98, 6), (98, 7), (98, 8), (98, 47), (98, 48), (98, 49), (98, 52), (101, 0), (105, 0), (107, 0), (111, 0), (112, 0), (113, 0), (128, 0), (129, 0)]) f_WFL (Fr.tr (Fr.sub hFh2 rfl) hFh7 rfl) rfl)) dX12_goesOn_35 mi_X12_passes in_X12_passes se_X12_passes ml_X12_393 rfl rfl rfl sh_98 rfl rfl (Nat.le_of_ble_eq_true rfl) (fun h12 q13 => ?_)
        obtain ⟨hMh12, hFh12, z14⟩ := q13
        have kz14 : h12 98 5 = (v10 + 1) := by omega
        refine g_iincB dX12_goesOn_38 rfl rfl (by omega) (by omega) ?_
        refine g_goto 2 dX12_goesOn_41 (by decide) ?_
        have q15 : h12 98 5 = (v10 + 1) := kz14
        exact ih2 _ _ hMh12 (Fr.tr (Fr.tr (Fr.sub hFh2 rfl) hFh7 rfl) hFh12 rfl) (by omega) (by omega) (by omega) (by omega) (by omega)
  refine g_istore_n dX12_goesOn_1 (by decide) rfl ?_
  have q16 : h 98 5 = w98_5 := ew98_5.symm
  exact c2 41 _ _ hM Fr.rf (by omega) (by omega) (by omega) (by omega) (by omega)
set_option maxRecDepth 100000 in
set_option maxHeartbeats 4000000 in
theorem c_X12_hours_98 (x1 : Int) (h : MEM) (hM : MBm h) (bx1 : -2147483648 ≤ x1) (dx1 : x1 ≤ 2147483647) (p0_0 : 0 ≤ h 98 5) (p0_1 : h 98 5 ≤ 999600) (f_WFL : WFL h) : CI yX12_hours cX12_hours 2 (some .int) 9 [pR 98, pI x1] h (fun x h' => MBm h' ∧ Fr [(98, 6), (98, 7), (98, 8), (98, 47), (98, 48), (98, 49), (98, 52), (101, 0), (105, 0), (107, 0), (111, 0), (112, 0), (113, 0), (128, 0), (129, 0)] h h' ∧ -2147483648 ≤ x ∧ x ≤ 2147483647 ∧ (h' 98 5 ≤ h 98 5 + 40 ∧ 0 ≤ h' 98 5)) := by
  refine CI.of (L0 := [some (pR 98), some (pI x1)]) rfl (Nat.le_of_ble_eq_true rfl) rfl (fun Po hPo hav => ?_)
  obtain ⟨w98_5, ew98_5⟩ : ∃ z, z = h 98 5 := ⟨_, rfl⟩
  have q1 : h 98 5 = w98_5 := ew98_5.symm
  refine g_iload_n dX12_hours_0 rfl (fun _ => ?_)
  refine g_cSP (av := [_]) (c_X12_areHours _ h hM (by omega) (by omega)) dX12_hours_1 mi_X12_areHours st_X12_areHours ml_X12_398 rfl rfl rfl rfl (Nat.le_of_ble_eq_true rfl) (fun v2 q3 => ?_)
  rcases q3 with ⟨rfl, q3⟩ | ⟨rfl, q3⟩
  · skip
    refine g_if_ne 9 dX12_hours_4 (by decide) (fun q4 => ?_) (fun _ => by exfalso; omega)
    refine g_aload_n dX12_hours_9 rfl ?_
    refine g_iconst dX12_hours_10 (inR_c rfl) ?_
    refine pI_X12_366 rfl dX12_hours_11 sh_98 (fun h5 eh5 => ?_)
    have hFh5 := Fr.st eh5
    have hMh5 := u_98_51 hM eh5 (by omega) (by omega)
    refine g_aload_n dX12_hours_14 rfl ?_
    refine g_iload_n dX12_hours_15 rfl (fun _ => ?_)
    have q6 : h5 98 5 = w98_5 := ((hFh5 98 5 rfl).trans ew98_5.symm)
    have q7 : h5 98 5 = w98_5 := ((hFh5 98 5 rfl).trans ew98_5.symm)
    refine g_cVV (as := [_]) (c_X12_goesOn_98 _ h5 hMh5 (by omega) (by omega) (by omega) (by omega) (WFL.fr (T := [(98, 52)]) f_WFL (Fr.sub hFh5 rfl) rfl)) dX12_hours_16 mi_X12_goesOn in_X12_goesOn se_X12_goesOn ml_X12_401 rfl rfl rfl sh_98 rfl rfl (Nat.le_of_ble_eq_true rfl) (fun h8 q9 => ?_)
    obtain ⟨hMh8, hFh8, z10⟩ := q9
    have kz10 : h8 98 5 = (w98_5 + x1) := by omega
    refine g_aload_n dX12_hours_19 rfl ?_
    refine gI_X12_366 rfl dX12_hours_20 sh_98 (m_98_51 hMh8) (fun v11 ev11 bv11 cv11 => ?_)
    exact g_ireturn dX12_hours_23 retI (hPo _ _ ⟨hMh8, (Fr.tr (Fr.sub hFh5 rfl) hFh8 rfl), (by omega), (by omega), ⟨by omega, by omega⟩⟩)
  · skip
    refine g_if_ne 9 dX12_hours_4 (by decide) (fun _ => by exfalso; omega) (fun q12 => ?_)
    refine g_iconst dX12_hours_7 (inR_c rfl) ?_
    exact g_ireturn dX12_hours_8 retI (hPo _ _ ⟨hM, Fr.rf, (by omega), (by omega), ⟨by omega, by omega⟩⟩)
set_option maxRecDepth 100000 in
set_option maxHeartbeats 4000000 in
theorem c_X12_hour_98 (x1 : Int) (h : MEM) (hM : MBm h) (bx1 : -2147483648 ≤ x1) (dx1 : x1 ≤ 2147483647) (p0_0 : 0 ≤ h 98 5) (p0_1 : h 98 5 ≤ 999600) (f_WFL : WFL h) : CI yX12_hour cX12_hour 2 (some .int) 8 [pR 98, pI x1] h (fun x h' => MBm h' ∧ Fr [(98, 6), (98, 8), (98, 47), (98, 48), (98, 49), (98, 52), (101, 0), (105, 0), (107, 0), (111, 0), (112, 0), (113, 0), (128, 0), (129, 0)] h h' ∧ -2147483648 ≤ x ∧ x ≤ 2147483647 ∧ (h' 98 5 ≤ h 98 5 + 40 ∧ 0 ≤ h' 98 5)) := by
  refine CI.of (L0 := [some (pR 98), some (pI x1)]) rfl (Nat.le_of_ble_eq_true rfl) rfl (fun Po hPo hav => ?_)
  obtain ⟨w98_5, ew98_5⟩ : ∃ z, z = h 98 5 := ⟨_, rfl⟩
  have q1 : h 98 5 = w98_5 := ew98_5.symm
  refine g_iload_n dX12_hour_0 rfl (fun _ => ?_)
  refine g_cSP (av := [_]) (c_X12_isDigit _ h hM (by omega) (by omega)) dX12_hour_1 mi_X12_isDigit st_X12_isDigit ml_X12_189 rfl rfl rfl rfl (Nat.le_of_ble_eq_true rfl) (fun v2 q3 => ?_)
  rcases q3 with ⟨rfl, q3⟩ | ⟨rfl, q3⟩
  · skip
    refine g_if_ne 9 dX12_hour_4 (by decide) (fun q4 => ?_) (fun _ => by exfalso; omega)
    refine g_aload_n dX12_hour_9 rfl ?_
    refine g_iconst dX12_hour_10 (inR_c rfl) ?_
    refine pI_X12_366 rfl dX12_hour_11 sh_98 (fun h5 eh5 => ?_)
    have hFh5 := Fr.st eh5
    have hMh5 := u_98_51 hM eh5 (by omega) (by omega)
    refine g_aload_n dX12_hour_14 rfl ?_
    refine g_iload_n dX12_hour_15 rfl (fun _ => ?_)
    have q6 : h5 98 5 = w98_5 := ((hFh5 98 5 rfl).trans ew98_5.symm)
    have q7 : h5 98 5 = w98_5 := ((hFh5 98 5 rfl).trans ew98_5.symm)
    refine g_cVV (as := [_]) (c_X12_passes_98 _ h5 hMh5 (by omega) (by omega) (by omega) (by omega) (WFL.fr (T := [(98, 52)]) f_WFL (Fr.sub hFh5 rfl) rfl)) dX12_hour_16 mi_X12_passes in_X12_passes se_X12_passes ml_X12_393 rfl rfl rfl sh_98 rfl rfl (Nat.le_of_ble_eq_true rfl) (fun h8 q9 => ?_)
    obtain ⟨hMh8, hFh8, z10⟩ := q9
    have kz10 : h8 98 5 = (w98_5 + 1) := by omega
    refine g_aload_n dX12_hour_19 rfl ?_
    refine gI_X12_366 rfl dX12_hour_20 sh_98 (m_98_51 hMh8) (fun v11 ev11 bv11 cv11 => ?_)
    exact g_ireturn dX12_hour_23 retI (hPo _ _ ⟨hMh8, (Fr.tr (Fr.sub hFh5 rfl) hFh8 rfl), (by omega), (by omega), ⟨by omega, by omega⟩⟩)
  · skip
    refine g_if_ne 9 dX12_hour_4 (by decide) (fun _ => by exfalso; omega) (fun q12 => ?_)
    refine g_iconst dX12_hour_7 (inR_c rfl) ?_
    exact g_ireturn dX12_hour_8 retI (hPo _ _ ⟨hM, Fr.rf, (by omega), (by omega), ⟨by omega, by omega⟩⟩)
set_option maxRecDepth 100000 in
set_option maxHeartbeats 4000000 in
theorem c_X12_bitsOn_98 (x1 : Int) (h : MEM) (hM : MBm h) (bx1 : 0 ≤ x1) (dx1 : x1 ≤ 9) : CP yX12_bitsOn cX12_bitsOn 4 (some .int) 1 [pR 98, pI x1] h (fun x => 0 ≤ x ∧ x ≤ 255) := by
  refine CP.of (L0 := [some (pR 98), some (pI x1), none, none]) rfl (Nat.le_of_ble_eq_true rfl) rfl (fun Po hPo hav => ?_)
  refine g_iconst dX12_bitsOn_0 (inR_c rfl) ?_
  refine g_istore_n dX12_bitsOn_1 (by decide) rfl ?_
  refine g_iconst dX12_bitsOn_2 (inR_c rfl) ?_
  have c4 : ∀ (n : Nat) (y1 y2 : Int) , 0 ≤ y1 → y1 ≤ 255 → 0 ≤ y2 → y2 ≤ 8 → 8 - y2 < (n : Int) → G yX12_bitsOn cX12_bitsOn 4 (some .int) none Po (1, 60, 0, 0) 4 [some (pR 98), some (pI x1), some (pI y1), some (pI y2)] [] SH h 0 0 := by
    intro n
    induction n with
    | zero =>
      intro y1 y2 by1 dy1 by2 dy2 hn
      exfalso; omega
    | succ n ih4 =>
      intro y1 y2 by1 dy1 by2 dy2 hn
      refine g_iload_n dX12_bitsOn_4 rfl (fun _ => ?_)
      refine g_aload_n dX12_bitsOn_5 rfl ?_
      refine gI_X12_179 rfl dX12_bitsOn_6 sh_98 (m_98_3 hM) (fun v3 ev3 bv3 cv3 => ?_)
      refine g_icmp_ge 38 dX12_bitsOn_9 (by decide) (fun q4 => ?_) (fun q4 => ?_)
      · skip
        refine g_iload_n dX12_bitsOn_38 rfl (fun _ => ?_)
        exact g_ireturn dX12_bitsOn_39 retI (hPo _ ⟨(by omega), (by omega)⟩)
      · skip
        refine g_iload_n dX12_bitsOn_12 rfl (fun _ => ?_)
        refine g_aload_n dX12_bitsOn_13 rfl ?_
        refine gR_X12_27 rfl dX12_bitsOn_14 sh_98 (b := 103) (m_98_11 hM) ?_
        refine g_iload_n dX12_bitsOn_17 rfl (fun _ => ?_)
        refine g_ialdB dX12_bitsOn_18 sh_103 (by omega) (by omega) (m_103 hM _) (fun v5 ev5 bv5 cv5 => ?_)
        refine g_iload_n dX12_bitsOn_19 rfl (fun _ => ?_)
        refine g_icmp_ne 29 dX12_bitsOn_20 (by decide) (fun q6 => ?_) (fun q6 => ?_)
        · skip
          refine g_iconst dX12_bitsOn_29 (inR_c rfl) ?_
          refine g_iorX (lo := 0) (hi := 255) dX12_bitsOn_30 (ior_b 8 (by decide) (by omega) (by omega) (by omega) (by omega)) (fun v7 ev7 bv7 cv7 => ?_)
          refine g_istore_n dX12_bitsOn_31 (by decide) rfl ?_
          refine g_iincB dX12_bitsOn_32 rfl rfl (by omega) (by omega) ?_
          refine g_goto 4 dX12_bitsOn_35 (by decide) ?_
          exact ih4 _ _ (by omega) (by omega) (by omega) (by omega) (by omega)
        · skip
          refine g_iconst dX12_bitsOn_23 (inR_c rfl) ?_
          refine g_iload_n dX12_bitsOn_24 rfl (fun _ => ?_)
          refine g_ishlX (lo := 1) (hi := 128) dX12_bitsOn_25 (ishl1_b 7 (by decide) (by omega) (by omega)) (fun v8 ev8 bv8 cv8 => ?_)
          refine g_goto 30 dX12_bitsOn_26 (by decide) ?_
          refine g_iorX (lo := 0) (hi := 255) dX12_bitsOn_30 (ior_b 8 (by decide) (by omega) (by omega) (by omega) (by omega)) (fun v9 ev9 bv9 cv9 => ?_)
          refine g_istore_n dX12_bitsOn_31 (by decide) rfl ?_
          refine g_iincB dX12_bitsOn_32 rfl rfl (by omega) (by omega) ?_
          refine g_goto 4 dX12_bitsOn_35 (by decide) ?_
          exact ih4 _ _ (by omega) (by omega) (by omega) (by omega) (by omega)
  refine g_istore_n dX12_bitsOn_3 (by decide) rfl ?_
  exact c4 9 _ _ (by omega) (by omega) (by omega) (by omega) (by omega)
set_option maxRecDepth 100000 in
set_option maxHeartbeats 4000000 in
theorem c_X12_bitsBelow_98 (x1 : Int) (h : MEM) (hM : MBm h) (bx1 : 0 ≤ x1) (dx1 : x1 ≤ 9) : CP yX12_bitsBelow cX12_bitsBelow 4 (some .int) 1 [pR 98, pI x1] h (fun x => 0 ≤ x ∧ x ≤ 255) := by
  refine CP.of (L0 := [some (pR 98), some (pI x1), none, none]) rfl (Nat.le_of_ble_eq_true rfl) rfl (fun Po hPo hav => ?_)
  refine g_iconst dX12_bitsBelow_0 (inR_c rfl) ?_
  refine g_istore_n dX12_bitsBelow_1 (by decide) rfl ?_
  refine g_iconst dX12_bitsBelow_2 (inR_c rfl) ?_
  have c4 : ∀ (n : Nat) (y1 y2 : Int) , 0 ≤ y1 → y1 ≤ 255 → 0 ≤ y2 → y2 ≤ 8 → 8 - y2 < (n : Int) → G yX12_bitsBelow cX12_bitsBelow 4 (some .int) none Po (1, 60, 0, 0) 4 [some (pR 98), some (pI x1), some (pI y1), some (pI y2)] [] SH h 0 0 := by
    intro n
    induction n with
    | zero =>
      intro y1 y2 by1 dy1 by2 dy2 hn
      exfalso; omega
    | succ n ih4 =>
      intro y1 y2 by1 dy1 by2 dy2 hn
      refine g_iload_n dX12_bitsBelow_4 rfl (fun _ => ?_)
      refine g_aload_n dX12_bitsBelow_5 rfl ?_
      refine gI_X12_182 rfl dX12_bitsBelow_6 sh_98 (m_98_4 hM) (fun v3 ev3 bv3 cv3 => ?_)
      refine g_icmp_ge 38 dX12_bitsBelow_9 (by decide) (fun q4 => ?_) (fun q4 => ?_)
      · skip
        refine g_iload_n dX12_bitsBelow_38 rfl (fun _ => ?_)
        exact g_ireturn dX12_bitsBelow_39 retI (hPo _ ⟨(by omega), (by omega)⟩)
      · skip
        refine g_iload_n dX12_bitsBelow_12 rfl (fun _ => ?_)
        refine g_aload_n dX12_bitsBelow_13 rfl ?_
        refine gR_X12_46 rfl dX12_bitsBelow_14 sh_98 (b := 109) (m_98_17 hM) ?_
        refine g_iload_n dX12_bitsBelow_17 rfl (fun _ => ?_)
        refine g_ialdB dX12_bitsBelow_18 sh_109 (by omega) (by omega) (m_109 hM _) (fun v5 ev5 bv5 cv5 => ?_)
        refine g_iload_n dX12_bitsBelow_19 rfl (fun _ => ?_)
        refine g_icmp_ne 29 dX12_bitsBelow_20 (by decide) (fun q6 => ?_) (fun q6 => ?_)
        · skip
          refine g_iconst dX12_bitsBelow_29 (inR_c rfl) ?_
          refine g_iorX (lo := 0) (hi := 255) dX12_bitsBelow_30 (ior_b 8 (by decide) (by omega) (by omega) (by omega) (by omega)) (fun v7 ev7 bv7 cv7 => ?_)
          refine g_istore_n dX12_bitsBelow_31 (by decide) rfl ?_
          refine g_iincB dX12_bitsBelow_32 rfl rfl (by omega) (by omega) ?_
          refine g_goto 4 dX12_bitsBelow_35 (by decide) ?_
          exact ih4 _ _ (by omega) (by omega) (by omega) (by omega) (by omega)
        · skip
          refine g_iconst dX12_bitsBelow_23 (inR_c rfl) ?_
          refine g_iload_n dX12_bitsBelow_24 rfl (fun _ => ?_)
          refine g_ishlX (lo := 1) (hi := 128) dX12_bitsBelow_25 (ishl1_b 7 (by decide) (by omega) (by omega)) (fun v8 ev8 bv8 cv8 => ?_)
          refine g_goto 30 dX12_bitsBelow_26 (by decide) ?_
          refine g_iorX (lo := 0) (hi := 255) dX12_bitsBelow_30 (ior_b 8 (by decide) (by omega) (by omega) (by omega) (by omega)) (fun v9 ev9 bv9 cv9 => ?_)
          refine g_istore_n dX12_bitsBelow_31 (by decide) rfl ?_
          refine g_iincB dX12_bitsBelow_32 rfl rfl (by omega) (by omega) ?_
          refine g_goto 4 dX12_bitsBelow_35 (by decide) ?_
          exact ih4 _ _ (by omega) (by omega) (by omega) (by omega) (by omega)
  refine g_istore_n dX12_bitsBelow_3 (by decide) rfl ?_
  exact c4 9 _ _ (by omega) (by omega) (by omega) (by omega) (by omega)
set_option maxRecDepth 100000 in
set_option maxHeartbeats 4000000 in
theorem c_X12_roofIs_98 (x1 x2 : Int) (h : MEM) (hM : MBm h) (bx1 : -2147483648 ≤ x1) (dx1 : x1 ≤ 2147483647) (bx2 : -2147483648 ≤ x2) (dx2 : x2 ≤ 2147483647) : CP yX12_roofIs cX12_roofIs 3 (some .int) 3 [pR 98, pI x1, pI x2] h (fun x => -2147483648 ≤ x ∧ x ≤ 2147483647) := by
  refine CP.of (L0 := [some (pR 98), some (pI x1), some (pI x2)]) rfl (Nat.le_of_ble_eq_true rfl) rfl (fun Po hPo hav => ?_)
  refine g_aload_n dX12_roofIs_0 rfl ?_
  refine g_iload_n dX12_roofIs_1 rfl (fun _ => ?_)
  refine g_cVP (as := [_]) (c_X12_isRoof_98 _ h hM (by omega) (by omega)) dX12_roofIs_2 mi_X12_isRoof in_X12_isRoof se_X12_isRoof ml_X12_198 rfl rfl rfl sh_98 rfl rfl (Nat.le_of_ble_eq_true rfl) (fun v1 q2 => ?_)
  obtain ⟨v3, ev3⟩ : ∃ z, z = h 98 2 := ⟨_, rfl⟩
  have bv3 : 0 ≤ v3 ∧ v3 ≤ 10 := by rw [ev3]; exact (m_98_2 hM)
  rcases q2 with ⟨rfl, q2⟩ | ⟨rfl, q2⟩
  · skip
    refine g_if_ne 10 dX12_roofIs_5 (by decide) (fun q4 => ?_) (fun _ => by exfalso; omega)
    refine g_iload_n dX12_roofIs_10 rfl (fun _ => ?_)
    rcases (show x2 = 0 ∨ x2 = 1 ∨ x2 = 2 ∨ x2 = 3 ∨ x2 = 4 ∨ (x2 < 0 ∨ 4 < x2) by omega) with q5 | q5 | q5 | q5 | q5 | q5
    · skip
      refine g_tableIn 44 0 dX12_roofIs_11 (by omega) (by omega) rfl (by decide) ?_
      refine g_aload_n dX12_roofIs_44 rfl ?_
      refine gR_X12_17 rfl dX12_roofIs_45 sh_98 (b := 100) (m_98_8 hM) ?_
      refine g_iload_n dX12_roofIs_48 rfl (fun _ => ?_)
      refine g_ialdB dX12_roofIs_49 sh_100 (by omega) (by omega) (m_100 hM _) (fun v6 ev6 bv6 cv6 => ?_)
      exact g_ireturn dX12_roofIs_50 retI (hPo _ ⟨(by omega), (by omega)⟩)
    · skip
      refine g_tableIn 51 1 dX12_roofIs_11 (by omega) (by omega) rfl (by decide) ?_
      refine g_aload_n dX12_roofIs_51 rfl ?_
      refine gR_X12_21 rfl dX12_roofIs_52 sh_98 (b := 101) (m_98_9 hM) ?_
      refine g_iload_n dX12_roofIs_55 rfl (fun _ => ?_)
      refine g_ialdB dX12_roofIs_56 sh_101 (by omega) (by omega) (m_101 hM _) (fun v7 ev7 bv7 cv7 => ?_)
      exact g_ireturn dX12_roofIs_57 retI (hPo _ ⟨(by omega), (by omega)⟩)
    · skip
      refine g_tableIn 58 2 dX12_roofIs_11 (by omega) (by omega) rfl (by decide) ?_
      refine g_aload_n dX12_roofIs_58 rfl ?_
      refine gR_X12_24 rfl dX12_roofIs_59 sh_98 (b := 102) (m_98_10 hM) ?_
      refine g_iload_n dX12_roofIs_62 rfl (fun _ => ?_)
      refine g_ialdB dX12_roofIs_63 sh_102 (by omega) (by omega) (m_102 hM _) (fun v8 ev8 bv8 cv8 => ?_)
      exact g_ireturn dX12_roofIs_64 retI (hPo _ ⟨(by omega), (by omega)⟩)
    · skip
      refine g_tableIn 65 3 dX12_roofIs_11 (by omega) (by omega) rfl (by decide) ?_
      refine g_aload_n dX12_roofIs_65 rfl ?_
      refine g_iload_n dX12_roofIs_66 rfl (fun _ => ?_)
      refine g_cVP (as := [_]) (c_X12_bitsOn_98 _ h hM (by omega) (by omega)) dX12_roofIs_67 mi_X12_bitsOn in_X12_bitsOn se_X12_bitsOn ml_X12_404 rfl rfl rfl sh_98 rfl rfl (Nat.le_of_ble_eq_true rfl) (fun v9 q10 => ?_)
      obtain ⟨bv9, cv9⟩ := q10
      exact g_ireturn dX12_roofIs_70 retI (hPo _ ⟨(by omega), (by omega)⟩)
    · skip
      refine g_tableIn 71 4 dX12_roofIs_11 (by omega) (by omega) rfl (by decide) ?_
      refine g_aload_n dX12_roofIs_71 rfl ?_
      refine g_iload_n dX12_roofIs_72 rfl (fun _ => ?_)
      refine g_cVP (as := [_]) (c_X12_bitsBelow_98 _ h hM (by omega) (by omega)) dX12_roofIs_73 mi_X12_bitsBelow in_X12_bitsBelow se_X12_bitsBelow ml_X12_407 rfl rfl rfl sh_98 rfl rfl (Nat.le_of_ble_eq_true rfl) (fun v11 q12 => ?_)
      obtain ⟨bv11, cv11⟩ := q12
      exact g_ireturn dX12_roofIs_76 retI (hPo _ ⟨(by omega), (by omega)⟩)
    · skip
      refine g_tableOut 77 dX12_roofIs_11 (by omega) (by decide) ?_
      refine g_iconst dX12_roofIs_77 (inR_c rfl) ?_
      exact g_ireturn dX12_roofIs_78 retI (hPo _ ⟨(by omega), (by omega)⟩)
  · skip
    refine g_if_ne 10 dX12_roofIs_5 (by decide) (fun _ => by exfalso; omega) (fun q13 => ?_)
    refine g_iconst dX12_roofIs_8 (inR_c rfl) ?_
    exact g_ireturn dX12_roofIs_9 retI (hPo _ ⟨(by omega), (by omega)⟩)
set_option maxRecDepth 100000 in
set_option maxHeartbeats 4000000 in
theorem c_X12_owed_98 (x1 x2 : Int) (h : MEM) (hM : MBm h) (bx1 : -1 ≤ x1) (dx1 : x1 ≤ 7) (bx2 : -1 ≤ x2) (dx2 : x2 ≤ 7) : CP yX12_owed cX12_owed 6 (some .int) 1 [pR 98, pI x1, pI x2] h (fun x => -2147483648 ≤ x ∧ x ≤ 2147483647) := by
  refine CP.of (L0 := [some (pR 98), some (pI x1), some (pI x2), none, none, none]) rfl (Nat.le_of_ble_eq_true rfl) rfl (fun Po hPo hav => ?_)
  refine g_iconst dX12_owed_0 (inR_c rfl) ?_
  refine g_istore_n dX12_owed_1 (by decide) rfl ?_
  refine g_iconst dX12_owed_2 (inR_c rfl) ?_
  have c5 : ∀ (n : Nat) (y1 y2 : Int) , -2147483648 ≤ y1 → y1 ≤ 2147483647 → 0 ≤ y2 → y2 ≤ 8 → 8 - y2 < (n : Int) → G yX12_owed cX12_owed 6 (some .int) none Po (1, 60, 0, 0) 5 [some (pR 98), some (pI x1), some (pI x2), some (pI y1), some (pI y2), none] [] SH h 0 0 := by
    intro n
    induction n with
    | zero =>
      intro y1 y2 by1 dy1 by2 dy2 hn
      exfalso; omega
    | succ n ih5 =>
      intro y1 y2 by1 dy1 by2 dy2 hn
      refine g_iload dX12_owed_5 rfl (fun _ => ?_)
      refine g_aload_n dX12_owed_7 rfl ?_
      refine gI_X12_179 rfl dX12_owed_8 sh_98 (m_98_3 hM) (fun v3 ev3 bv3 cv3 => ?_)
      refine g_icmp_ge 80 dX12_owed_11 (by decide) (fun q4 => ?_) (fun q4 => ?_)
      · skip
        refine g_iload_n dX12_owed_80 rfl (fun _ => ?_)
        exact g_ireturn dX12_owed_81 retI (hPo _ ⟨(by omega), (by omega)⟩)
      · skip
        refine g_iconst dX12_owed_14 (inR_c rfl) ?_
        have c17 : ∀ (n : Nat) (y5 y6 : Int) , -2147483648 ≤ y5 → y5 ≤ 2147483647 → 0 ≤ y6 → y6 ≤ 8 → 8 - y6 < (n : Int) → G yX12_owed cX12_owed 6 (some .int) none Po (1, 60, 0, 0) 17 [some (pR 98), some (pI x1), some (pI x2), some (pI y5), some (pI y2), some (pI y6)] [] SH h 0 0 := by
          intro n
          induction n with
          | zero =>
            intro y5 y6 by5 dy5 by6 dy6 hn
            exfalso; omega
          | succ n ih17 =>
            intro y5 y6 by5 dy5 by6 dy6 hn
            refine g_iload dX12_owed_17 rfl (fun _ => ?_)
            refine g_aload_n dX12_owed_19 rfl ?_
            refine gI_X12_182 rfl dX12_owed_20 sh_98 (m_98_4 hM) (fun v7 ev7 bv7 cv7 => ?_)
            refine g_icmp_ge 74 dX12_owed_23 (by decide) (fun q8 => ?_) (fun q8 => ?_)
            · skip
              refine g_iincB dX12_owed_74 rfl rfl (by omega) (by omega) ?_
              refine g_goto 5 dX12_owed_77 (by decide) ?_
              refine g_drop 5 ?_
              exact ih5 _ _ (by omega) (by omega) (by omega) (by omega) (by omega)
            · skip
              refine g_iload_n dX12_owed_26 rfl (fun _ => ?_)
              refine g_iload_n dX12_owed_27 rfl (fun _ => ?_)
              refine g_iconst dX12_owed_28 (inR_c rfl) ?_
              have c38 : G yX12_owed cX12_owed 6 (some .int) none Po (1, 60, 0, 0) 38 [some (pR 98), some (pI x1), some (pI x2), none, some (pI y2), some (pI y6)] [(pI y5)] SH h 0 0 := by
                refine g_iload_n dX12_owed_38 rfl (fun _ => ?_)
                refine g_iconst dX12_owed_39 (inR_c rfl) ?_
                refine g_icmp_eq 49 dX12_owed_40 (by decide) (fun q9 => ?_) (fun q9 => ?_)
                · skip
                  refine g_aload_n dX12_owed_49 rfl ?_
                  refine gR_X12_55 rfl dX12_owed_50 sh_98 (b := 112) (m_98_20 hM) ?_
                  refine g_bipush dX12_owed_53 (inR_c rfl) (by decide) ?_
                  refine g_iload dX12_owed_55 rfl (fun _ => ?_)
                  refine g_imulB dX12_owed_57 (by omega) (by omega) ?_
                  refine g_iload dX12_owed_58 rfl (fun _ => ?_)
                  refine g_iaddB dX12_owed_60 (by omega) (by omega) ?_
                  refine g_ialdB dX12_owed_61 sh_112 (by omega) (by omega) (m_112 hM _) (fun v10 ev10 bv10 cv10 => ?_)
                  refine g_goto 66 dX12_owed_62 (by decide) ?_
                  refine g_iaddF dX12_owed_66 (fun v11 bv11 cv11 => ?_)
                  refine g_istore_n dX12_owed_67 (by decide) rfl ?_
                  refine g_iincB dX12_owed_68 rfl rfl (by omega) (by omega) ?_
                  refine g_goto 17 dX12_owed_71 (by decide) ?_
                  exact ih17 _ _ (by omega) (by omega) (by omega) (by omega) (by omega)
                · skip
                  refine g_iload_n dX12_owed_43 rfl (fun _ => ?_)
                  refine g_iload dX12_owed_44 rfl (fun _ => ?_)
                  refine g_icmp_ne 65 dX12_owed_46 (by decide) (fun q12 => ?_) (fun q12 => ?_)
                  · skip
                    refine g_iconst dX12_owed_65 (inR_c rfl) ?_
                    refine g_iaddB dX12_owed_66 (by omega) (by omega) ?_
                    refine g_istore_n dX12_owed_67 (by decide) rfl ?_
                    refine g_iincB dX12_owed_68 rfl rfl (by omega) (by omega) ?_
                    refine g_goto 17 dX12_owed_71 (by decide) ?_
                    exact ih17 _ _ (by omega) (by omega) (by omega) (by omega) (by omega)
                  · skip
                    refine g_aload_n dX12_owed_49 rfl ?_
                    refine gR_X12_55 rfl dX12_owed_50 sh_98 (b := 112) (m_98_20 hM) ?_
                    refine g_bipush dX12_owed_53 (inR_c rfl) (by decide) ?_
                    refine g_iload dX12_owed_55 rfl (fun _ => ?_)
                    refine g_imulB dX12_owed_57 (by omega) (by omega) ?_
                    refine g_iload dX12_owed_58 rfl (fun _ => ?_)
                    refine g_iaddB dX12_owed_60 (by omega) (by omega) ?_
                    refine g_ialdB dX12_owed_61 sh_112 (by omega) (by omega) (m_112 hM _) (fun v13 ev13 bv13 cv13 => ?_)
                    refine g_goto 66 dX12_owed_62 (by decide) ?_
                    refine g_iaddF dX12_owed_66 (fun v14 bv14 cv14 => ?_)
                    refine g_istore_n dX12_owed_67 (by decide) rfl ?_
                    refine g_iincB dX12_owed_68 rfl rfl (by omega) (by omega) ?_
                    refine g_goto 17 dX12_owed_71 (by decide) ?_
                    exact ih17 _ _ (by omega) (by omega) (by omega) (by omega) (by omega)
              refine g_icmp_eq 38 dX12_owed_29 (by decide) (fun q15 => ?_) (fun q15 => ?_)
              · skip
                refine g_drop 3 ?_
                exact c38 
              · skip
                refine g_iload_n dX12_owed_32 rfl (fun _ => ?_)
                refine g_iload dX12_owed_33 rfl (fun _ => ?_)
                refine g_icmp_ne 65 dX12_owed_35 (by decide) (fun q16 => ?_) (fun q16 => ?_)
                · skip
                  refine g_iconst dX12_owed_65 (inR_c rfl) ?_
                  refine g_iaddB dX12_owed_66 (by omega) (by omega) ?_
                  refine g_istore_n dX12_owed_67 (by decide) rfl ?_
                  refine g_iincB dX12_owed_68 rfl rfl (by omega) (by omega) ?_
                  refine g_goto 17 dX12_owed_71 (by decide) ?_
                  exact ih17 _ _ (by omega) (by omega) (by omega) (by omega) (by omega)
                · skip
                  refine g_drop 3 ?_
                  exact c38 
        refine g_istore dX12_owed_15 (by decide) rfl ?_
        exact c17 9 _ _ (by omega) (by omega) (by omega) (by omega) (by omega)
  refine g_istore dX12_owed_3 (by decide) rfl ?_
  exact c5 9 _ _ (by omega) (by omega) (by omega) (by omega) (by omega)
set_option maxRecDepth 100000 in
set_option maxHeartbeats 4000000 in
theorem c_X12_apprenticeIs_98 (x1 x2 : Int) (h : MEM) (hM : MBm h) (bx1 : -2147483648 ≤ x1) (dx1 : x1 ≤ 2147483647) (bx2 : -2147483648 ≤ x2) (dx2 : x2 ≤ 2147483647) : CP yX12_apprenticeIs cX12_apprenticeIs 3 (some .int) 3 [pR 98, pI x1, pI x2] h (fun x => -2147483648 ≤ x ∧ x ≤ 2147483647) := by
  refine CP.of (L0 := [some (pR 98), some (pI x1), some (pI x2)]) rfl (Nat.le_of_ble_eq_true rfl) rfl (fun Po hPo hav => ?_)
  refine g_aload_n dX12_apprenticeIs_0 rfl ?_
  refine g_iload_n dX12_apprenticeIs_1 rfl (fun _ => ?_)
  refine g_cVP (as := [_]) (c_X12_isApprentice_98 _ h hM (by omega) (by omega)) dX12_apprenticeIs_2 mi_X12_isApprentice in_X12_isApprentice se_X12_isApprentice ml_X12_195 rfl rfl rfl sh_98 rfl rfl (Nat.le_of_ble_eq_true rfl) (fun v1 q2 => ?_)
  obtain ⟨v3, ev3⟩ : ∃ z, z = h 98 3 := ⟨_, rfl⟩
  have bv3 : 0 ≤ v3 ∧ v3 ≤ 8 := by rw [ev3]; exact (m_98_3 hM)
  rcases q2 with ⟨rfl, q2⟩ | ⟨rfl, q2⟩
  · skip
    refine g_if_ne 10 dX12_apprenticeIs_5 (by decide) (fun q4 => ?_) (fun _ => by exfalso; omega)
    refine g_iload_n dX12_apprenticeIs_10 rfl (fun _ => ?_)
    refine g_i2l dX12_apprenticeIs_11 ?_
    refine g_ldc2 (v := 10) dX12_apprenticeIs_12 kl_X12_410 (by decide) ?_
    refine g_ldc2 (v := 14) dX12_apprenticeIs_15 kl_X12_412 (by decide) ?_
    refine g_cSP (av := [_, _, _]) (c_X12_lies _ _ _ h hM (by omega) (by omega) (by omega) (by omega) (by omega) (by omega)) dX12_apprenticeIs_18 mi_X12_lies st_X12_lies ml_X12_175 rfl rfl rfl rfl (Nat.le_of_ble_eq_true rfl) (fun v5 q6 => ?_)
    rcases q6 with ⟨rfl, q6⟩ | ⟨rfl, q6⟩
    · skip
      refine g_if_eq 38 dX12_apprenticeIs_21 (by decide) (fun _ => by exfalso; omega) (fun q7 => ?_)
      refine g_aload_n dX12_apprenticeIs_24 rfl ?_
      refine gR_X12_33 rfl dX12_apprenticeIs_25 sh_98 (b := 105) (m_98_13 hM) ?_
      refine g_iconst dX12_apprenticeIs_28 (inR_c rfl) ?_
      refine g_iload_n dX12_apprenticeIs_29 rfl (fun _ => ?_)
      refine g_imulB dX12_apprenticeIs_30 (by omega) (by omega) ?_
      refine g_iload_n dX12_apprenticeIs_31 rfl (fun _ => ?_)
      refine g_iaddB dX12_apprenticeIs_32 (by omega) (by omega) ?_
      refine g_bipush dX12_apprenticeIs_33 (inR_c rfl) (by decide) ?_
      refine g_isubB dX12_apprenticeIs_35 (by omega) (by omega) ?_
      refine g_ialdB dX12_apprenticeIs_36 sh_105 (by omega) (by omega) (m_105 hM _) (fun v8 ev8 bv8 cv8 => ?_)
      exact g_ireturn dX12_apprenticeIs_37 retI (hPo _ ⟨(by omega), (by omega)⟩)
    · skip
      refine g_if_eq 38 dX12_apprenticeIs_21 (by decide) (fun q9 => ?_) (fun _ => by exfalso; omega)
      refine g_iload_n dX12_apprenticeIs_38 rfl (fun _ => ?_)
      rcases (show x2 = 0 ∨ x2 = 1 ∨ x2 = 2 ∨ x2 = 3 ∨ x2 = 4 ∨ (x2 < 0 ∨ 4 < x2) by omega) with q10 | q10 | q10 | q10 | q10 | q10
      · skip
        refine g_tableIn 72 0 dX12_apprenticeIs_39 (by omega) (by omega) rfl (by decide) ?_
        refine g_aload_n dX12_apprenticeIs_72 rfl ?_
        refine gR_X12_27 rfl dX12_apprenticeIs_73 sh_98 (b := 103) (m_98_11 hM) ?_
        refine g_iload_n dX12_apprenticeIs_76 rfl (fun _ => ?_)
        refine g_ialdB dX12_apprenticeIs_77 sh_103 (by omega) (by omega) (m_103 hM _) (fun v11 ev11 bv11 cv11 => ?_)
        exact g_ireturn dX12_apprenticeIs_78 retI (hPo _ ⟨(by omega), (by omega)⟩)
      · skip
        refine g_tableIn 79 1 dX12_apprenticeIs_39 (by omega) (by omega) rfl (by decide) ?_
        refine g_aload_n dX12_apprenticeIs_79 rfl ?_
        refine gR_X12_30 rfl dX12_apprenticeIs_80 sh_98 (b := 104) (m_98_12 hM) ?_
        refine g_iload_n dX12_apprenticeIs_83 rfl (fun _ => ?_)
        refine g_ialdB dX12_apprenticeIs_84 sh_104 (by omega) (by omega) (m_104 hM _) (fun v12 ev12 bv12 cv12 => ?_)
        exact g_ireturn dX12_apprenticeIs_85 retI (hPo _ ⟨(by omega), (by omega)⟩)
      · skip
        refine g_tableIn 86 2 dX12_apprenticeIs_39 (by omega) (by omega) rfl (by decide) ?_
        refine g_aload_n dX12_apprenticeIs_86 rfl ?_
        refine gR_X12_36 rfl dX12_apprenticeIs_87 sh_98 (b := 106) (m_98_14 hM) ?_
        refine g_iload_n dX12_apprenticeIs_90 rfl (fun _ => ?_)
        refine g_zaldB dX12_apprenticeIs_91 sh_106 (by omega) (by omega) (m_106 hM _) (fun v13 ev13 bv13 cv13 => ?_)
        refine g_if_eq 99 dX12_apprenticeIs_92 (by decide) (fun q14 => ?_) (fun q14 => ?_)
        · skip
          refine g_iconst dX12_apprenticeIs_99 (inR_c rfl) ?_
          exact g_ireturn dX12_apprenticeIs_100 retI (hPo _ ⟨(by omega), (by omega)⟩)
        · skip
          refine g_iconst dX12_apprenticeIs_95 (inR_c rfl) ?_
          refine g_goto 100 dX12_apprenticeIs_96 (by decide) ?_
          exact g_ireturn dX12_apprenticeIs_100 retI (hPo _ ⟨(by omega), (by omega)⟩)
      · skip
        refine g_tableIn 101 3 dX12_apprenticeIs_39 (by omega) (by omega) rfl (by decide) ?_
        refine g_aload_n dX12_apprenticeIs_101 rfl ?_
        refine g_iload_n dX12_apprenticeIs_102 rfl (fun _ => ?_)
        refine g_iconst dX12_apprenticeIs_103 (inR_c rfl) ?_
        refine g_cVP (as := [_, _]) (c_X12_owed_98 _ _ h hM (by omega) (by omega) (by omega) (by omega)) dX12_apprenticeIs_104 mi_X12_owed in_X12_owed se_X12_owed ml_X12_414 rfl rfl rfl sh_98 rfl rfl (Nat.le_of_ble_eq_true rfl) (fun v15 q16 => ?_)
        obtain ⟨bv15, cv15⟩ := q16
        exact g_ireturn dX12_apprenticeIs_107 retI (hPo _ ⟨(by omega), (by omega)⟩)
      · skip
        refine g_tableIn 108 4 dX12_apprenticeIs_39 (by omega) (by omega) rfl (by decide) ?_
        refine g_aload_n dX12_apprenticeIs_108 rfl ?_
        refine gR_X12_40 rfl dX12_apprenticeIs_109 sh_98 (b := 107) (m_98_15 hM) ?_
        refine g_iload_n dX12_apprenticeIs_112 rfl (fun _ => ?_)
        refine g_ialdB dX12_apprenticeIs_113 sh_107 (by omega) (by omega) (m_107 hM _) (fun v17 ev17 bv17 cv17 => ?_)
        exact g_ireturn dX12_apprenticeIs_114 retI (hPo _ ⟨(by omega), (by omega)⟩)
      · skip
        refine g_tableOut 115 dX12_apprenticeIs_39 (by omega) (by decide) ?_
        refine g_iconst dX12_apprenticeIs_115 (inR_c rfl) ?_
        exact g_ireturn dX12_apprenticeIs_116 retI (hPo _ ⟨(by omega), (by omega)⟩)
  · skip
    refine g_if_ne 10 dX12_apprenticeIs_5 (by decide) (fun _ => by exfalso; omega) (fun q18 => ?_)
    refine g_iconst dX12_apprenticeIs_8 (inR_c rfl) ?_
    exact g_ireturn dX12_apprenticeIs_9 retI (hPo _ ⟨(by omega), (by omega)⟩)
set_option maxRecDepth 100000 in
set_option maxHeartbeats 4000000 in
theorem c_X12_masterIs_98 (x1 x2 : Int) (h : MEM) (hM : MBm h) (bx1 : -2147483648 ≤ x1) (dx1 : x1 ≤ 2147483647) (bx2 : -2147483648 ≤ x2) (dx2 : x2 ≤ 2147483647) : CP yX12_masterIs cX12_masterIs 3 (some .int) 3 [pR 98, pI x1, pI x2] h (fun x => -2147483648 ≤ x ∧ x ≤ 2147483647) := by
  refine CP.of (L0 := [some (pR 98), some (pI x1), some (pI x2)]) rfl (Nat.le_of_ble_eq_true rfl) rfl (fun Po hPo hav => ?_)
  refine g_aload_n dX12_masterIs_0 rfl ?_
  refine g_iload_n dX12_masterIs_1 rfl (fun _ => ?_)
  refine g_cVP (as := [_]) (c_X12_isMaster_98 _ h hM (by omega) (by omega)) dX12_masterIs_2 mi_X12_isMaster in_X12_isMaster se_X12_isMaster ml_X12_201 rfl rfl rfl sh_98 rfl rfl (Nat.le_of_ble_eq_true rfl) (fun v1 q2 => ?_)
  obtain ⟨v3, ev3⟩ : ∃ z, z = h 98 4 := ⟨_, rfl⟩
  have bv3 : 0 ≤ v3 ∧ v3 ≤ 8 := by rw [ev3]; exact (m_98_4 hM)
  rcases q2 with ⟨rfl, q2⟩ | ⟨rfl, q2⟩
  · skip
    refine g_if_ne 10 dX12_masterIs_5 (by decide) (fun q4 => ?_) (fun _ => by exfalso; omega)
    refine g_iload_n dX12_masterIs_10 rfl (fun _ => ?_)
    rcases (show x2 = 0 ∨ x2 = 1 ∨ x2 = 2 ∨ x2 = 3 ∨ x2 = 4 ∨ (x2 < 0 ∨ 4 < x2) by omega) with q5 | q5 | q5 | q5 | q5 | q5
    · skip
      refine g_tableIn 44 0 dX12_masterIs_11 (by omega) (by omega) rfl (by decide) ?_
      refine g_aload_n dX12_masterIs_44 rfl ?_
      refine gR_X12_46 rfl dX12_masterIs_45 sh_98 (b := 109) (m_98_17 hM) ?_
      refine g_iload_n dX12_masterIs_48 rfl (fun _ => ?_)
      refine g_ialdB dX12_masterIs_49 sh_109 (by omega) (by omega) (m_109 hM _) (fun v6 ev6 bv6 cv6 => ?_)
      exact g_ireturn dX12_masterIs_50 retI (hPo _ ⟨(by omega), (by omega)⟩)
    · skip
      refine g_tableIn 51 1 dX12_masterIs_11 (by omega) (by omega) rfl (by decide) ?_
      refine g_aload_n dX12_masterIs_51 rfl ?_
      refine gR_X12_43 rfl dX12_masterIs_52 sh_98 (b := 108) (m_98_16 hM) ?_
      refine g_iload_n dX12_masterIs_55 rfl (fun _ => ?_)
      refine g_ialdB dX12_masterIs_56 sh_108 (by omega) (by omega) (m_108 hM _) (fun v7 ev7 bv7 cv7 => ?_)
      exact g_ireturn dX12_masterIs_57 retI (hPo _ ⟨(by omega), (by omega)⟩)
    · skip
      refine g_tableIn 58 2 dX12_masterIs_11 (by omega) (by omega) rfl (by decide) ?_
      refine g_aload_n dX12_masterIs_58 rfl ?_
      refine gR_X12_49 rfl dX12_masterIs_59 sh_98 (b := 110) (m_98_18 hM) ?_
      refine g_iload_n dX12_masterIs_62 rfl (fun _ => ?_)
      refine g_zaldB dX12_masterIs_63 sh_110 (by omega) (by omega) (m_110 hM _) (fun v8 ev8 bv8 cv8 => ?_)
      refine g_if_eq 71 dX12_masterIs_64 (by decide) (fun q9 => ?_) (fun q9 => ?_)
      · skip
        refine g_iconst dX12_masterIs_71 (inR_c rfl) ?_
        exact g_ireturn dX12_masterIs_72 retI (hPo _ ⟨(by omega), (by omega)⟩)
      · skip
        refine g_iconst dX12_masterIs_67 (inR_c rfl) ?_
        refine g_goto 72 dX12_masterIs_68 (by decide) ?_
        exact g_ireturn dX12_masterIs_72 retI (hPo _ ⟨(by omega), (by omega)⟩)
    · skip
      refine g_tableIn 73 3 dX12_masterIs_11 (by omega) (by omega) rfl (by decide) ?_
      refine g_aload_n dX12_masterIs_73 rfl ?_
      refine g_iconst dX12_masterIs_74 (inR_c rfl) ?_
      refine g_iload_n dX12_masterIs_75 rfl (fun _ => ?_)
      refine g_cVP (as := [_, _]) (c_X12_owed_98 _ _ h hM (by omega) (by omega) (by omega) (by omega)) dX12_masterIs_76 mi_X12_owed in_X12_owed se_X12_owed ml_X12_414 rfl rfl rfl sh_98 rfl rfl (Nat.le_of_ble_eq_true rfl) (fun v10 q11 => ?_)
      obtain ⟨bv10, cv10⟩ := q11
      exact g_ireturn dX12_masterIs_79 retI (hPo _ ⟨(by omega), (by omega)⟩)
    · skip
      refine g_tableIn 80 4 dX12_masterIs_11 (by omega) (by omega) rfl (by decide) ?_
      refine g_aload_n dX12_masterIs_80 rfl ?_
      refine gR_X12_52 rfl dX12_masterIs_81 sh_98 (b := 111) (m_98_19 hM) ?_
      refine g_iload_n dX12_masterIs_84 rfl (fun _ => ?_)
      refine g_ialdB dX12_masterIs_85 sh_111 (by omega) (by omega) (m_111 hM _) (fun v12 ev12 bv12 cv12 => ?_)
      exact g_ireturn dX12_masterIs_86 retI (hPo _ ⟨(by omega), (by omega)⟩)
    · skip
      refine g_tableOut 87 dX12_masterIs_11 (by omega) (by decide) ?_
      refine g_iconst dX12_masterIs_87 (inR_c rfl) ?_
      exact g_ireturn dX12_masterIs_88 retI (hPo _ ⟨(by omega), (by omega)⟩)
  · skip
    refine g_if_ne 10 dX12_masterIs_5 (by decide) (fun _ => by exfalso; omega) (fun q13 => ?_)
    refine g_iconst dX12_masterIs_8 (inR_c rfl) ?_
    exact g_ireturn dX12_masterIs_9 retI (hPo _ ⟨(by omega), (by omega)⟩)
set_option maxRecDepth 100000 in
set_option maxHeartbeats 4000000 in
theorem c_X12_setsAside_98_k0 (gi gs : Nat → Int) (h : MEM) (hM : MBm h) (f_IS : ISn gi h) (f_S1 : S1n gs h) : CV yX12_setsAside cX12_setsAside 3 (none) 1 [pR 98, pI 0] h (fun h' => MBm h' ∧ Fr [(130, 0), (131, 0), (132, 0), (133, 0), (134, 0), (135, 0), (136, 0), (137, 0), (138, 0), (139, 0), (140, 0), (141, 0), (142, 0), (143, 0), (144, 0), (145, 1), (145, 2), (145, 3), (145, 4), (145, 5), (145, 6)] h h' ∧ S0n gi h' ∧ S1n gs h' ∧ h' 145 0 = h 98 2 ∧ h' 145 1 = h 98 3 ∧ h' 145 2 = h 98 4 ∧ h' 145 3 = h 98 5) := by
  refine CV.of (L0 := [some (pR 98), some (pI 0), none]) rfl (Nat.le_of_ble_eq_true rfl) rfl (fun Po hPo hav => ?_)
  obtain ⟨v1, ev1⟩ : ∃ z, z = h 98 2 := ⟨_, rfl⟩
  have bv1 : 0 ≤ v1 ∧ v1 ≤ 10 := by rw [ev1]; exact (m_98_2 hM)
  obtain ⟨v2, ev2⟩ : ∃ z, z = h 98 3 := ⟨_, rfl⟩
  have bv2 : 0 ≤ v2 ∧ v2 ≤ 8 := by rw [ev2]; exact (m_98_3 hM)
  obtain ⟨v3, ev3⟩ : ∃ z, z = h 98 4 := ⟨_, rfl⟩
  have bv3 : 0 ≤ v3 ∧ v3 ≤ 8 := by rw [ev3]; exact (m_98_4 hM)
  obtain ⟨v4, ev4⟩ : ∃ z, z = h 98 5 := ⟨_, rfl⟩
  have bv4 : 0 ≤ v4 ∧ v4 ≤ 2000000000 := by rw [ev4]; exact (m_98_5 hM)
  refine g_iconst dX12_setsAside_0 (inR_c rfl) ?_
  have c2 : ∀ (n : Nat) (y5 : Int) (h6 : MEM), MBm h6 → Fr [(130, 0), (131, 0), (132, 0)] h h6 → 0 ≤ y5 → y5 ≤ 10 → 10 - y5 < (n : Int) → G yX12_setsAside cX12_setsAside 3 (none) none Po (1, 60, 0, 0) 2 [some (pR 98), some (pI 0), some (pI y5)] [] SH h6 0 0 := by
    intro n
    induction n with
    | zero =>
      intro y5 h6 hMh6 hFh6 by5 dy5 hn
      exfalso; omega
    | succ n ih2 =>
      intro y5 h6 hMh6 hFh6 by5 dy5 hn
      refine g_iload_n dX12_setsAside_2 rfl (fun _ => ?_)
      refine g_bipush dX12_setsAside_3 (inR_c rfl) (by decide) ?_
      refine g_icmp_ge 65 dX12_setsAside_5 (by decide) (fun q7 => ?_) (fun q7 => ?_)
      · skip
        refine g_iconst dX12_setsAside_65 (inR_c rfl) ?_
        have c67 : ∀ (n : Nat) (y8 : Int) (h9 : MEM), MBm h9 → Fr [(133, 0), (134, 0), (136, 0), (137, 0), (138, 0), (139, 0), (140, 0), (141, 0)] h6 h9 → 0 ≤ y8 → y8 ≤ 8 → 8 - y8 < (n : Int) → G yX12_setsAside cX12_setsAside 3 (none) none Po (1, 60, 0, 0) 67 [some (pR 98), some (pI 0), some (pI y8)] [] SH h9 0 0 := by
          intro n
          induction n with
          | zero =>
            intro y8 h9 hMh9 hFh9 by8 dy8 hn
            exfalso; omega
          | succ n ih67 =>
            intro y8 h9 hMh9 hFh9 by8 dy8 hn
            refine g_iload_n dX12_setsAside_67 rfl (fun _ => ?_)
            refine g_bipush dX12_setsAside_68 (inR_c rfl) (by decide) ?_
            refine g_icmp_ge 215 dX12_setsAside_70 (by decide) (fun q10 => ?_) (fun q10 => ?_)
            · skip
              refine g_iconst dX12_setsAside_215 (inR_c rfl) ?_
              have c217 : ∀ (n : Nat) (y11 : Int) (h12 : MEM), MBm h12 → Fr [(135, 0)] h9 h12 → 0 ≤ y11 → y11 ≤ 40 → 40 - y11 < (n : Int) → G yX12_setsAside cX12_setsAside 3 (none) none Po (1, 60, 0, 0) 217 [some (pR 98), some (pI 0), some (pI y11)] [] SH h12 0 0 := by
                intro n
                induction n with
                | zero =>
                  intro y11 h12 hMh12 hFh12 by11 dy11 hn
                  exfalso; omega
                | succ n ih217 =>
                  intro y11 h12 hMh12 hFh12 by11 dy11 hn
                  refine g_iload_n dX12_setsAside_217 rfl (fun _ => ?_)
                  refine g_bipush dX12_setsAside_218 (inR_c rfl) (by decide) ?_
                  refine g_icmp_ge 246 dX12_setsAside_220 (by decide) (fun q13 => ?_) (fun q13 => ?_)
                  · skip
                    refine g_iconst dX12_setsAside_246 (inR_c rfl) ?_
                    have c248 : ∀ (n : Nat) (y14 : Int) (h15 : MEM), MBm h15 → Fr [(142, 0), (143, 0)] h12 h15 → 0 ≤ y14 → y14 ≤ 64 → 64 - y14 < (n : Int) → G yX12_setsAside cX12_setsAside 3 (none) none Po (1, 60, 0, 0) 248 [some (pR 98), some (pI 0), some (pI y14)] [] SH h15 0 0 := by
                      intro n
                      induction n with
                      | zero =>
                        intro y14 h15 hMh15 hFh15 by14 dy14 hn
                        exfalso; omega
                      | succ n ih248 =>
                        intro y14 h15 hMh15 hFh15 by14 dy14 hn
                        refine g_iload_n dX12_setsAside_248 rfl (fun _ => ?_)
                        refine g_bipush dX12_setsAside_249 (inR_c rfl) (by decide) ?_
                        refine g_icmp_ge 294 dX12_setsAside_251 (by decide) (fun q16 => ?_) (fun q16 => ?_)
                        · skip
                          refine g_iconst dX12_setsAside_294 (inR_c rfl) ?_
                          have c296 : ∀ (n : Nat) (y17 : Int) (h18 : MEM), MBm h18 → Fr [(144, 0)] h15 h18 → 0 ≤ y17 → y17 ≤ 100 → SA0 gi y17 h18 → S1n gs h18 → 100 - y17 < (n : Int) → G yX12_setsAside cX12_setsAside 3 (none) none Po (1, 60, 0, 0) 296 [some (pR 98), some (pI 0), some (pI y17)] [] SH h18 0 0 := by
                            intro n
                            induction n with
                            | zero =>
                              intro y17 h18 hMh18 hFh18 by17 dy17 e296_0 e296_1 hn
                              exfalso; omega
                            | succ n ih296 =>
                              intro y17 h18 hMh18 hFh18 by17 dy17 e296_0 e296_1 hn
                              refine g_iload_n dX12_setsAside_296 rfl (fun _ => ?_)
                              refine g_bipush dX12_setsAside_297 (inR_c rfl) (by decide) ?_
                              refine g_icmp_ge 325 dX12_setsAside_299 (by decide) (fun q19 => ?_) (fun q19 => ?_)
                              · skip
                                refine g_aload_n dX12_setsAside_325 rfl ?_
                                have s0f : S0n gi h18 := SA0_e e296_0 (by omega)
                                refine gR_X12_154 rfl dX12_setsAside_326 sh_98 (b := 145) (m_98_70 hMh18) ?_
                                refine g_bipush dX12_setsAside_329 (inR_c rfl) (by decide) ?_
                                refine g_iload_n dX12_setsAside_331 rfl (fun _ => ?_)
                                refine g_imulB dX12_setsAside_332 (by omega) (by omega) ?_
                                refine g_aload_n dX12_setsAside_333 rfl ?_
                                refine gE_X12_172 rfl dX12_setsAside_334 sh_98 ((hFh18 98 2 rfl).trans ((hFh15 98 2 rfl).trans ((hFh12 98 2 rfl).trans ((hFh9 98 2 rfl).trans ((hFh6 98 2 rfl).trans ev1.symm))))) ?_
                                refine g_iastB dX12_setsAside_337 sh_145 (by omega) (by omega) (fun h20 eh20 => ?_)
                                have hFh20 := Fr.st eh20
                                have hMh20 := u_145_0 hMh18 eh20 (by omega) (by omega)
                                refine g_aload_n dX12_setsAside_338 rfl ?_
                                refine gR_X12_154 rfl dX12_setsAside_339 sh_98 (b := 145) (m_98_70 hMh20) ?_
                                refine g_bipush dX12_setsAside_342 (inR_c rfl) (by decide) ?_
                                refine g_iload_n dX12_setsAside_344 rfl (fun _ => ?_)
                                refine g_imulB dX12_setsAside_345 (by omega) (by omega) ?_
                                refine g_iconst dX12_setsAside_346 (inR_c rfl) ?_
                                refine g_iaddB dX12_setsAside_347 (by omega) (by omega) ?_
                                refine g_aload_n dX12_setsAside_348 rfl ?_
                                refine gE_X12_179 rfl dX12_setsAside_349 sh_98 ((hFh20 98 3 rfl).trans ((hFh18 98 3 rfl).trans ((hFh15 98 3 rfl).trans ((hFh12 98 3 rfl).trans ((hFh9 98 3 rfl).trans ((hFh6 98 3 rfl).trans ev2.symm)))))) ?_
                                refine g_iastB dX12_setsAside_352 sh_145 (by omega) (by omega) (fun h21 eh21 => ?_)
                                have hFh21 := Fr.st eh21
                                have hMh21 := u_145_1 hMh20 eh21 (by omega) (by omega)
                                refine g_aload_n dX12_setsAside_353 rfl ?_
                                refine gR_X12_154 rfl dX12_setsAside_354 sh_98 (b := 145) (m_98_70 hMh21) ?_
                                refine g_bipush dX12_setsAside_357 (inR_c rfl) (by decide) ?_
                                refine g_iload_n dX12_setsAside_359 rfl (fun _ => ?_)
                                refine g_imulB dX12_setsAside_360 (by omega) (by omega) ?_
                                refine g_iconst dX12_setsAside_361 (inR_c rfl) ?_
                                refine g_iaddB dX12_setsAside_362 (by omega) (by omega) ?_
                                refine g_aload_n dX12_setsAside_363 rfl ?_
                                refine gE_X12_182 rfl dX12_setsAside_364 sh_98 ((hFh21 98 4 rfl).trans ((hFh20 98 4 rfl).trans ((hFh18 98 4 rfl).trans ((hFh15 98 4 rfl).trans ((hFh12 98 4 rfl).trans ((hFh9 98 4 rfl).trans ((hFh6 98 4 rfl).trans ev3.symm))))))) ?_
                                refine g_iastB dX12_setsAside_367 sh_145 (by omega) (by omega) (fun h22 eh22 => ?_)
                                have hFh22 := Fr.st eh22
                                have hMh22 := u_145_2 hMh21 eh22 (by omega) (by omega)
                                refine g_aload_n dX12_setsAside_368 rfl ?_
                                refine gR_X12_154 rfl dX12_setsAside_369 sh_98 (b := 145) (m_98_70 hMh22) ?_
                                refine g_bipush dX12_setsAside_372 (inR_c rfl) (by decide) ?_
                                refine g_iload_n dX12_setsAside_374 rfl (fun _ => ?_)
                                refine g_imulB dX12_setsAside_375 (by omega) (by omega) ?_
                                refine g_iconst dX12_setsAside_376 (inR_c rfl) ?_
                                refine g_iaddB dX12_setsAside_377 (by omega) (by omega) ?_
                                refine g_aload_n dX12_setsAside_378 rfl ?_
                                refine gE_X12_334 rfl dX12_setsAside_379 sh_98 ((hFh22 98 5 rfl).trans ((hFh21 98 5 rfl).trans ((hFh20 98 5 rfl).trans ((hFh18 98 5 rfl).trans ((hFh15 98 5 rfl).trans ((hFh12 98 5 rfl).trans ((hFh9 98 5 rfl).trans ((hFh6 98 5 rfl).trans ev4.symm)))))))) ?_
                                refine g_iastB dX12_setsAside_382 sh_145 (by omega) (by omega) (fun h23 eh23 => ?_)
                                have hFh23 := Fr.st eh23
                                have hMh23 := u_145_3 hMh22 eh23 (by omega) (by omega)
                                refine g_aload_n dX12_setsAside_383 rfl ?_
                                refine gR_X12_154 rfl dX12_setsAside_384 sh_98 (b := 145) (m_98_70 hMh23) ?_
                                refine g_bipush dX12_setsAside_387 (inR_c rfl) (by decide) ?_
                                refine g_iload_n dX12_setsAside_389 rfl (fun _ => ?_)
                                refine g_imulB dX12_setsAside_390 (by omega) (by omega) ?_
                                refine g_iconst dX12_setsAside_391 (inR_c rfl) ?_
                                refine g_iaddB dX12_setsAside_392 (by omega) (by omega) ?_
                                refine g_aload_n dX12_setsAside_393 rfl ?_
                                refine gI_X12_13 rfl dX12_setsAside_394 sh_98 (m_98_6 hMh23) (fun v24 ev24 bv24 cv24 => ?_)
                                refine g_iastB dX12_setsAside_397 sh_145 (by omega) (by omega) (fun h25 eh25 => ?_)
                                have hFh25 := Fr.st eh25
                                have hMh25 := u_145_4 hMh23 eh25 (by omega) (by omega)
                                refine g_aload_n dX12_setsAside_398 rfl ?_
                                refine gR_X12_154 rfl dX12_setsAside_399 sh_98 (b := 145) (m_98_70 hMh25) ?_
                                refine g_bipush dX12_setsAside_402 (inR_c rfl) (by decide) ?_
                                refine g_iload_n dX12_setsAside_404 rfl (fun _ => ?_)
                                refine g_imulB dX12_setsAside_405 (by omega) (by omega) ?_
                                refine g_iconst dX12_setsAside_406 (inR_c rfl) ?_
                                refine g_iaddB dX12_setsAside_407 (by omega) (by omega) ?_
                                refine g_aload_n dX12_setsAside_408 rfl ?_
                                refine gI_X12_372 rfl dX12_setsAside_409 sh_98 (m_98_7 hMh25) (fun v26 ev26 bv26 cv26 => ?_)
                                refine g_iastB dX12_setsAside_412 sh_145 (by omega) (by omega) (fun h27 eh27 => ?_)
                                have hFh27 := Fr.st eh27
                                have hMh27 := u_145_5 hMh25 eh27 (by omega) (by omega)
                                have q28 : h27 145 0 = v1 := ((hFh27 145 _ rfl).trans ((hFh25 145 _ rfl).trans ((hFh23 145 _ rfl).trans ((hFh22 145 _ rfl).trans ((hFh21 145 _ rfl).trans (st_at eh20))))))
                                have q29 : h27 145 1 = v2 := ((hFh27 145 _ rfl).trans ((hFh25 145 _ rfl).trans ((hFh23 145 _ rfl).trans ((hFh22 145 _ rfl).trans (st_at eh21)))))
                                have q30 : h27 145 2 = v3 := ((hFh27 145 _ rfl).trans ((hFh25 145 _ rfl).trans ((hFh23 145 _ rfl).trans (st_at eh22))))
                                have q31 : h27 145 3 = v4 := ((hFh27 145 _ rfl).trans ((hFh25 145 _ rfl).trans (st_at eh23)))
                                exact g_return dX12_setsAside_413 rfl (hPo _ ⟨hMh27, (Fr.tr (Fr.tr (Fr.tr (Fr.tr (Fr.tr (Fr.tr (Fr.tr (Fr.tr (Fr.tr (Fr.tr (Fr.sub hFh6 rfl) hFh9 rfl) hFh12 rfl) hFh15 rfl) hFh18 rfl) hFh20 rfl) hFh21 rfl) hFh22 rfl) hFh23 rfl) hFh25 rfl) hFh27 rfl), (S0n.fr (T := [(145, 1), (145, 2), (145, 3), (145, 4), (145, 5), (145, 6)]) s0f (Fr.tr (Fr.tr (Fr.tr (Fr.tr (Fr.tr (Fr.sub hFh20 rfl) hFh21 rfl) hFh22 rfl) hFh23 rfl) hFh25 rfl) hFh27 rfl) rfl), (S1n.fr (T := [(145, 1), (145, 2), (145, 3), (145, 4), (145, 5), (145, 6)]) e296_1 (Fr.tr (Fr.tr (Fr.tr (Fr.tr (Fr.tr (Fr.sub hFh20 rfl) hFh21 rfl) hFh22 rfl) hFh23 rfl) hFh25 rfl) hFh27 rfl) rfl), (by omega), (by omega), (by omega), (by omega)⟩)
                              · skip
                                refine g_aload_n dX12_setsAside_302 rfl ?_
                                refine gR_X12_151 rfl dX12_setsAside_303 sh_98 (b := 144) (m_98_69 hMh18) ?_
                                refine g_bipush dX12_setsAside_306 (inR_c rfl) (by decide) ?_
                                refine g_iload_n dX12_setsAside_308 rfl (fun _ => ?_)
                                refine g_imulB dX12_setsAside_309 (by omega) (by omega) ?_
                                refine g_iload_n dX12_setsAside_310 rfl (fun _ => ?_)
                                refine g_iaddB dX12_setsAside_311 (by omega) (by omega) ?_
                                refine g_aload_n dX12_setsAside_312 rfl ?_
                                refine gR_X12_61 rfl dX12_setsAside_313 sh_98 (b := 114) (m_98_22 hMh18) ?_
                                refine g_iload_n dX12_setsAside_316 rfl (fun _ => ?_)
                                refine g_zaldB dX12_setsAside_317 sh_114 (by omega) (by omega) (m_114 hMh18 _) (fun v32 ev32 bv32 cv32 => ?_)
                                have sv1 := e296_1
                                have si1 := (ISn.fr (T := [(130, 0), (131, 0), (132, 0), (133, 0), (134, 0), (135, 0), (136, 0), (137, 0), (138, 0), (139, 0), (140, 0), (141, 0), (142, 0), (143, 0), (144, 0)]) f_IS (Fr.tr (Fr.tr (Fr.tr (Fr.tr (Fr.sub hFh6 rfl) hFh9 rfl) hFh12 rfl) hFh15 rfl) hFh18 rfl) rfl)
                                refine g_zastB dX12_setsAside_318 sh_144 (by omega) (by omega) (by omega) (fun h33 eh33 => ?_)
                                have hFh33 := Fr.ar eh33
                                have hMh33 := u_144 hMh18 eh33 (by omega) (by omega)
                                have sa2 : SA0 gi (y17 + 1) h33 := SA0_s e296_0 si1 (by assumption) (by assumption) (by omega) (by omega)
                                have s12 : S1n gs h33 := S1_s0 sv1 (by assumption) (by omega) (by omega)
                                refine g_iincB dX12_setsAside_319 rfl rfl (by omega) (by omega) ?_
                                refine g_goto 296 dX12_setsAside_322 (by decide) ?_
                                exact ih296 _ _ hMh33 (Fr.tr (Fr.sub hFh18 rfl) hFh33 rfl) (by omega) (by omega) (by first | exact SA0_0 | exact sa2) s12 (by omega)
                          refine g_istore_n dX12_setsAside_295 (by decide) rfl ?_
                          exact c296 101 _ _ hMh15 Fr.rf (by omega) (by omega) (by first | exact SA0_0 | exact sa2) (S1n.fr (T := [(130, 0), (131, 0), (132, 0), (133, 0), (134, 0), (135, 0), (136, 0), (137, 0), (138, 0), (139, 0), (140, 0), (141, 0), (142, 0), (143, 0)]) f_S1 (Fr.tr (Fr.tr (Fr.tr (Fr.sub hFh6 rfl) hFh9 rfl) hFh12 rfl) hFh15 rfl) rfl) (by omega)
                        · skip
                          refine g_aload_n dX12_setsAside_254 rfl ?_
                          refine gR_X12_145 rfl dX12_setsAside_255 sh_98 (b := 142) (m_98_67 hMh15) ?_
                          refine g_bipush dX12_setsAside_258 (inR_c rfl) (by decide) ?_
                          refine g_iload_n dX12_setsAside_260 rfl (fun _ => ?_)
                          refine g_imulB dX12_setsAside_261 (by omega) (by omega) ?_
                          refine g_iload_n dX12_setsAside_262 rfl (fun _ => ?_)
                          refine g_iaddB dX12_setsAside_263 (by omega) (by omega) ?_
                          refine g_aload_n dX12_setsAside_264 rfl ?_
                          refine gR_X12_55 rfl dX12_setsAside_265 sh_98 (b := 112) (m_98_20 hMh15) ?_
                          refine g_iload_n dX12_setsAside_268 rfl (fun _ => ?_)
                          refine g_ialdB dX12_setsAside_269 sh_112 (by omega) (by omega) (m_112 hMh15 _) (fun v34 ev34 bv34 cv34 => ?_)
                          refine g_iastB dX12_setsAside_270 sh_142 (by omega) (by omega) (fun h35 eh35 => ?_)
                          have hFh35 := Fr.ar eh35
                          have hMh35 := u_142 hMh15 eh35 (by omega) (by omega)
                          refine g_aload_n dX12_setsAside_271 rfl ?_
                          refine gR_X12_148 rfl dX12_setsAside_272 sh_98 (b := 143) (m_98_68 hMh35) ?_
                          refine g_bipush dX12_setsAside_275 (inR_c rfl) (by decide) ?_
                          refine g_iload_n dX12_setsAside_277 rfl (fun _ => ?_)
                          refine g_imulB dX12_setsAside_278 (by omega) (by omega) ?_
                          refine g_iload_n dX12_setsAside_279 rfl (fun _ => ?_)
                          refine g_iaddB dX12_setsAside_280 (by omega) (by omega) ?_
                          refine g_aload_n dX12_setsAside_281 rfl ?_
                          refine gR_X12_58 rfl dX12_setsAside_282 sh_98 (b := 113) (m_98_21 hMh35) ?_
                          refine g_iload_n dX12_setsAside_285 rfl (fun _ => ?_)
                          refine g_ialdB dX12_setsAside_286 sh_113 (by omega) (by omega) (m_113 hMh35 _) (fun v36 ev36 bv36 cv36 => ?_)
                          refine g_iastB dX12_setsAside_287 sh_143 (by omega) (by omega) (fun h37 eh37 => ?_)
                          have hFh37 := Fr.ar eh37
                          have hMh37 := u_143 hMh35 eh37 (by omega) (by omega)
                          refine g_iincB dX12_setsAside_288 rfl rfl (by omega) (by omega) ?_
                          refine g_goto 248 dX12_setsAside_291 (by decide) ?_
                          exact ih248 _ _ hMh37 (Fr.tr (Fr.tr (Fr.sub hFh15 rfl) hFh35 rfl) hFh37 rfl) (by omega) (by omega) (by omega)
                    refine g_istore_n dX12_setsAside_247 (by decide) rfl ?_
                    exact c248 65 _ _ hMh12 Fr.rf (by omega) (by omega) (by omega)
                  · skip
                    refine g_aload_n dX12_setsAside_223 rfl ?_
                    refine gR_X12_124 rfl dX12_setsAside_224 sh_98 (b := 135) (m_98_60 hMh12) ?_
                    refine g_bipush dX12_setsAside_227 (inR_c rfl) (by decide) ?_
                    refine g_iload_n dX12_setsAside_229 rfl (fun _ => ?_)
                    refine g_imulB dX12_setsAside_230 (by omega) (by omega) ?_
                    refine g_iload_n dX12_setsAside_231 rfl (fun _ => ?_)
                    refine g_iaddB dX12_setsAside_232 (by omega) (by omega) ?_
                    refine g_aload_n dX12_setsAside_233 rfl ?_
                    refine gR_X12_33 rfl dX12_setsAside_234 sh_98 (b := 105) (m_98_13 hMh12) ?_
                    refine g_iload_n dX12_setsAside_237 rfl (fun _ => ?_)
                    refine g_ialdB dX12_setsAside_238 sh_105 (by omega) (by omega) (m_105 hMh12 _) (fun v38 ev38 bv38 cv38 => ?_)
                    refine g_iastB dX12_setsAside_239 sh_135 (by omega) (by omega) (fun h39 eh39 => ?_)
                    have hFh39 := Fr.ar eh39
                    have hMh39 := u_135 hMh12 eh39 (by omega) (by omega)
                    refine g_iincB dX12_setsAside_240 rfl rfl (by omega) (by omega) ?_
                    refine g_goto 217 dX12_setsAside_243 (by decide) ?_
                    exact ih217 _ _ hMh39 (Fr.tr (Fr.sub hFh12 rfl) hFh39 rfl) (by omega) (by omega) (by omega)
              refine g_istore_n dX12_setsAside_216 (by decide) rfl ?_
              exact c217 41 _ _ hMh9 Fr.rf (by omega) (by omega) (by omega)
            · skip
              refine g_aload_n dX12_setsAside_73 rfl ?_
              refine gR_X12_118 rfl dX12_setsAside_74 sh_98 (b := 133) (m_98_58 hMh9) ?_
              refine g_bipush dX12_setsAside_77 (inR_c rfl) (by decide) ?_
              refine g_iload_n dX12_setsAside_79 rfl (fun _ => ?_)
              refine g_imulB dX12_setsAside_80 (by omega) (by omega) ?_
              refine g_iload_n dX12_setsAside_81 rfl (fun _ => ?_)
              refine g_iaddB dX12_setsAside_82 (by omega) (by omega) ?_
              refine g_aload_n dX12_setsAside_83 rfl ?_
              refine gR_X12_27 rfl dX12_setsAside_84 sh_98 (b := 103) (m_98_11 hMh9) ?_
              refine g_iload_n dX12_setsAside_87 rfl (fun _ => ?_)
              refine g_ialdB dX12_setsAside_88 sh_103 (by omega) (by omega) (m_103 hMh9 _) (fun v40 ev40 bv40 cv40 => ?_)
              refine g_iastB dX12_setsAside_89 sh_133 (by omega) (by omega) (fun h41 eh41 => ?_)
              have hFh41 := Fr.ar eh41
              have hMh41 := u_133 hMh9 eh41 (by omega) (by omega)
              refine g_aload_n dX12_setsAside_90 rfl ?_
              refine gR_X12_121 rfl dX12_setsAside_91 sh_98 (b := 134) (m_98_59 hMh41) ?_
              refine g_bipush dX12_setsAside_94 (inR_c rfl) (by decide) ?_
              refine g_iload_n dX12_setsAside_96 rfl (fun _ => ?_)
              refine g_imulB dX12_setsAside_97 (by omega) (by omega) ?_
              refine g_iload_n dX12_setsAside_98 rfl (fun _ => ?_)
              refine g_iaddB dX12_setsAside_99 (by omega) (by omega) ?_
              refine g_aload_n dX12_setsAside_100 rfl ?_
              refine gR_X12_30 rfl dX12_setsAside_101 sh_98 (b := 104) (m_98_12 hMh41) ?_
              refine g_iload_n dX12_setsAside_104 rfl (fun _ => ?_)
              refine g_ialdB dX12_setsAside_105 sh_104 (by omega) (by omega) (m_104 hMh41 _) (fun v42 ev42 bv42 cv42 => ?_)
              refine g_iastB dX12_setsAside_106 sh_134 (by omega) (by omega) (fun h43 eh43 => ?_)
              have hFh43 := Fr.ar eh43
              have hMh43 := u_134 hMh41 eh43 (by omega) (by omega)
              refine g_aload_n dX12_setsAside_107 rfl ?_
              refine gR_X12_127 rfl dX12_setsAside_108 sh_98 (b := 136) (m_98_61 hMh43) ?_
              refine g_bipush dX12_setsAside_111 (inR_c rfl) (by decide) ?_
              refine g_iload_n dX12_setsAside_113 rfl (fun _ => ?_)
              refine g_imulB dX12_setsAside_114 (by omega) (by omega) ?_
              refine g_iload_n dX12_setsAside_115 rfl (fun _ => ?_)
              refine g_iaddB dX12_setsAside_116 (by omega) (by omega) ?_
              refine g_aload_n dX12_setsAside_117 rfl ?_
              refine gR_X12_36 rfl dX12_setsAside_118 sh_98 (b := 106) (m_98_14 hMh43) ?_
              refine g_iload_n dX12_setsAside_121 rfl (fun _ => ?_)
              refine g_zaldB dX12_setsAside_122 sh_106 (by omega) (by omega) (m_106 hMh43 _) (fun v44 ev44 bv44 cv44 => ?_)
              refine g_zastB dX12_setsAside_123 sh_136 (by omega) (by omega) (by omega) (fun h45 eh45 => ?_)
              have hFh45 := Fr.ar eh45
              have hMh45 := u_136 hMh43 eh45 (by omega) (by omega)
              refine g_aload_n dX12_setsAside_124 rfl ?_
              refine gR_X12_130 rfl dX12_setsAside_125 sh_98 (b := 137) (m_98_62 hMh45) ?_
              refine g_bipush dX12_setsAside_128 (inR_c rfl) (by decide) ?_
              refine g_iload_n dX12_setsAside_130 rfl (fun _ => ?_)
              refine g_imulB dX12_setsAside_131 (by omega) (by omega) ?_
              refine g_iload_n dX12_setsAside_132 rfl (fun _ => ?_)
              refine g_iaddB dX12_setsAside_133 (by omega) (by omega) ?_
              refine g_aload_n dX12_setsAside_134 rfl ?_
              refine gR_X12_40 rfl dX12_setsAside_135 sh_98 (b := 107) (m_98_15 hMh45) ?_
              refine g_iload_n dX12_setsAside_138 rfl (fun _ => ?_)
              refine g_ialdB dX12_setsAside_139 sh_107 (by omega) (by omega) (m_107 hMh45 _) (fun v46 ev46 bv46 cv46 => ?_)
              refine g_iastB dX12_setsAside_140 sh_137 (by omega) (by omega) (fun h47 eh47 => ?_)
              have hFh47 := Fr.ar eh47
              have hMh47 := u_137 hMh45 eh47 (by omega) (by omega)
              refine g_aload_n dX12_setsAside_141 rfl ?_
              refine gR_X12_133 rfl dX12_setsAside_142 sh_98 (b := 138) (m_98_63 hMh47) ?_
              refine g_bipush dX12_setsAside_145 (inR_c rfl) (by decide) ?_
              refine g_iload_n dX12_setsAside_147 rfl (fun _ => ?_)
              refine g_imulB dX12_setsAside_148 (by omega) (by omega) ?_
              refine g_iload_n dX12_setsAside_149 rfl (fun _ => ?_)
              refine g_iaddB dX12_setsAside_150 (by omega) (by omega) ?_
              refine g_aload_n dX12_setsAside_151 rfl ?_
              refine gR_X12_43 rfl dX12_setsAside_152 sh_98 (b := 108) (m_98_16 hMh47) ?_
              refine g_iload_n dX12_setsAside_155 rfl (fun _ => ?_)
              refine g_ialdB dX12_setsAside_156 sh_108 (by omega) (by omega) (m_108 hMh47 _) (fun v48 ev48 bv48 cv48 => ?_)
              refine g_iastB dX12_setsAside_157 sh_138 (by omega) (by omega) (fun h49 eh49 => ?_)
              have hFh49 := Fr.ar eh49
              have hMh49 := u_138 hMh47 eh49 (by omega) (by omega)
              refine g_aload_n dX12_setsAside_158 rfl ?_
              refine gR_X12_136 rfl dX12_setsAside_159 sh_98 (b := 139) (m_98_64 hMh49) ?_
              refine g_bipush dX12_setsAside_162 (inR_c rfl) (by decide) ?_
              refine g_iload_n dX12_setsAside_164 rfl (fun _ => ?_)
              refine g_imulB dX12_setsAside_165 (by omega) (by omega) ?_
              refine g_iload_n dX12_setsAside_166 rfl (fun _ => ?_)
              refine g_iaddB dX12_setsAside_167 (by omega) (by omega) ?_
              refine g_aload_n dX12_setsAside_168 rfl ?_
              refine gR_X12_46 rfl dX12_setsAside_169 sh_98 (b := 109) (m_98_17 hMh49) ?_
              refine g_iload_n dX12_setsAside_172 rfl (fun _ => ?_)
              refine g_ialdB dX12_setsAside_173 sh_109 (by omega) (by omega) (m_109 hMh49 _) (fun v50 ev50 bv50 cv50 => ?_)
              refine g_iastB dX12_setsAside_174 sh_139 (by omega) (by omega) (fun h51 eh51 => ?_)
              have hFh51 := Fr.ar eh51
              have hMh51 := u_139 hMh49 eh51 (by omega) (by omega)
              refine g_aload_n dX12_setsAside_175 rfl ?_
              refine gR_X12_139 rfl dX12_setsAside_176 sh_98 (b := 140) (m_98_65 hMh51) ?_
              refine g_bipush dX12_setsAside_179 (inR_c rfl) (by decide) ?_
              refine g_iload_n dX12_setsAside_181 rfl (fun _ => ?_)
              refine g_imulB dX12_setsAside_182 (by omega) (by omega) ?_
              refine g_iload_n dX12_setsAside_183 rfl (fun _ => ?_)
              refine g_iaddB dX12_setsAside_184 (by omega) (by omega) ?_
              refine g_aload_n dX12_setsAside_185 rfl ?_
              refine gR_X12_49 rfl dX12_setsAside_186 sh_98 (b := 110) (m_98_18 hMh51) ?_
              refine g_iload_n dX12_setsAside_189 rfl (fun _ => ?_)
              refine g_zaldB dX12_setsAside_190 sh_110 (by omega) (by omega) (m_110 hMh51 _) (fun v52 ev52 bv52 cv52 => ?_)
              refine g_zastB dX12_setsAside_191 sh_140 (by omega) (by omega) (by omega) (fun h53 eh53 => ?_)
              have hFh53 := Fr.ar eh53
              have hMh53 := u_140 hMh51 eh53 (by omega) (by omega)
              refine g_aload_n dX12_setsAside_192 rfl ?_
              refine gR_X12_142 rfl dX12_setsAside_193 sh_98 (b := 141) (m_98_66 hMh53) ?_
              refine g_bipush dX12_setsAside_196 (inR_c rfl) (by decide) ?_
              refine g_iload_n dX12_setsAside_198 rfl (fun _ => ?_)
              refine g_imulB dX12_setsAside_199 (by omega) (by omega) ?_
              refine g_iload_n dX12_setsAside_200 rfl (fun _ => ?_)
              refine g_iaddB dX12_setsAside_201 (by omega) (by omega) ?_
              refine g_aload_n dX12_setsAside_202 rfl ?_
              refine gR_X12_52 rfl dX12_setsAside_203 sh_98 (b := 111) (m_98_19 hMh53) ?_
              refine g_iload_n dX12_setsAside_206 rfl (fun _ => ?_)
              refine g_ialdB dX12_setsAside_207 sh_111 (by omega) (by omega) (m_111 hMh53 _) (fun v54 ev54 bv54 cv54 => ?_)
              refine g_iastB dX12_setsAside_208 sh_141 (by omega) (by omega) (fun h55 eh55 => ?_)
              have hFh55 := Fr.ar eh55
              have hMh55 := u_141 hMh53 eh55 (by omega) (by omega)
              refine g_iincB dX12_setsAside_209 rfl rfl (by omega) (by omega) ?_
              refine g_goto 67 dX12_setsAside_212 (by decide) ?_
              exact ih67 _ _ hMh55 (Fr.tr (Fr.tr (Fr.tr (Fr.tr (Fr.tr (Fr.tr (Fr.tr (Fr.tr (Fr.sub hFh9 rfl) hFh41 rfl) hFh43 rfl) hFh45 rfl) hFh47 rfl) hFh49 rfl) hFh51 rfl) hFh53 rfl) hFh55 rfl) (by omega) (by omega) (by omega)
        refine g_istore_n dX12_setsAside_66 (by decide) rfl ?_
        exact c67 9 _ _ hMh6 Fr.rf (by omega) (by omega) (by omega)
      · skip
        refine g_aload_n dX12_setsAside_8 rfl ?_
        refine gR_X12_109 rfl dX12_setsAside_9 sh_98 (b := 130) (m_98_55 hMh6) ?_
        refine g_bipush dX12_setsAside_12 (inR_c rfl) (by decide) ?_
        refine g_iload_n dX12_setsAside_14 rfl (fun _ => ?_)
        refine g_imulB dX12_setsAside_15 (by omega) (by omega) ?_
        refine g_iload_n dX12_setsAside_16 rfl (fun _ => ?_)
        refine g_iaddB dX12_setsAside_17 (by omega) (by omega) ?_
        refine g_aload_n dX12_setsAside_18 rfl ?_
        refine gR_X12_17 rfl dX12_setsAside_19 sh_98 (b := 100) (m_98_8 hMh6) ?_
        refine g_iload_n dX12_setsAside_22 rfl (fun _ => ?_)
        refine g_ialdB dX12_setsAside_23 sh_100 (by omega) (by omega) (m_100 hMh6 _) (fun v56 ev56 bv56 cv56 => ?_)
        refine g_iastB dX12_setsAside_24 sh_130 (by omega) (by omega) (fun h57 eh57 => ?_)
        have hFh57 := Fr.ar eh57
        have hMh57 := u_130 hMh6 eh57 (by omega) (by omega)
        refine g_aload_n dX12_setsAside_25 rfl ?_
        refine gR_X12_112 rfl dX12_setsAside_26 sh_98 (b := 131) (m_98_56 hMh57) ?_
        refine g_bipush dX12_setsAside_29 (inR_c rfl) (by decide) ?_
        refine g_iload_n dX12_setsAside_31 rfl (fun _ => ?_)
        refine g_imulB dX12_setsAside_32 (by omega) (by omega) ?_
        refine g_iload_n dX12_setsAside_33 rfl (fun _ => ?_)
        refine g_iaddB dX12_setsAside_34 (by omega) (by omega) ?_
        refine g_aload_n dX12_setsAside_35 rfl ?_
        refine gR_X12_21 rfl dX12_setsAside_36 sh_98 (b := 101) (m_98_9 hMh57) ?_
        refine g_iload_n dX12_setsAside_39 rfl (fun _ => ?_)
        refine g_ialdB dX12_setsAside_40 sh_101 (by omega) (by omega) (m_101 hMh57 _) (fun v58 ev58 bv58 cv58 => ?_)
        refine g_iastB dX12_setsAside_41 sh_131 (by omega) (by omega) (fun h59 eh59 => ?_)
        have hFh59 := Fr.ar eh59
        have hMh59 := u_131 hMh57 eh59 (by omega) (by omega)
        refine g_aload_n dX12_setsAside_42 rfl ?_
        refine gR_X12_115 rfl dX12_setsAside_43 sh_98 (b := 132) (m_98_57 hMh59) ?_
        refine g_bipush dX12_setsAside_46 (inR_c rfl) (by decide) ?_
        refine g_iload_n dX12_setsAside_48 rfl (fun _ => ?_)
        refine g_imulB dX12_setsAside_49 (by omega) (by omega) ?_
        refine g_iload_n dX12_setsAside_50 rfl (fun _ => ?_)
        refine g_iaddB dX12_setsAside_51 (by omega) (by omega) ?_
        refine g_aload_n dX12_setsAside_52 rfl ?_
        refine gR_X12_24 rfl dX12_setsAside_53 sh_98 (b := 102) (m_98_10 hMh59) ?_
        refine g_iload_n dX12_setsAside_56 rfl (fun _ => ?_)
        refine g_ialdB dX12_setsAside_57 sh_102 (by omega) (by omega) (m_102 hMh59 _) (fun v60 ev60 bv60 cv60 => ?_)
        refine g_iastB dX12_setsAside_58 sh_132 (by omega) (by omega) (fun h61 eh61 => ?_)
        have hFh61 := Fr.ar eh61
        have hMh61 := u_132 hMh59 eh61 (by omega) (by omega)
        refine g_iincB dX12_setsAside_59 rfl rfl (by omega) (by omega) ?_
        refine g_goto 2 dX12_setsAside_62 (by decide) ?_
        exact ih2 _ _ hMh61 (Fr.tr (Fr.tr (Fr.tr (Fr.sub hFh6 rfl) hFh57 rfl) hFh59 rfl) hFh61 rfl) (by omega) (by omega) (by omega)
  refine g_istore_n dX12_setsAside_1 (by decide) rfl ?_
  exact c2 11 _ _ hM Fr.rf (by omega) (by omega) (by omega)
set_option maxRecDepth 100000 in
set_option maxHeartbeats 4000000 in
theorem c_X12_putsBack_98_k0 (gi : Nat → Int) (h : MEM) (hM : MBm h) (f_S0 : S0n gi h) : CV yX12_putsBack cX12_putsBack 3 (none) 1 [pR 98, pI 0] h (fun h' => MBm h' ∧ Fr [(98, 3), (98, 4), (98, 5), (98, 6), (98, 7), (98, 8), (100, 0), (101, 0), (102, 0), (103, 0), (104, 0), (105, 0), (106, 0), (107, 0), (108, 0), (109, 0), (110, 0), (111, 0), (112, 0), (113, 0), (114, 0)] h h' ∧ ISn gi h' ∧ h' 98 2 = h 145 0 ∧ h' 98 3 = h 145 1 ∧ h' 98 4 = h 145 2 ∧ h' 98 5 = h 145 3) := by
  refine CV.of (L0 := [some (pR 98), some (pI 0), none]) rfl (Nat.le_of_ble_eq_true rfl) rfl (fun Po hPo hav => ?_)
  obtain ⟨v1, ev1⟩ : ∃ z, z = h 145 0 := ⟨_, rfl⟩
  have bv1 : 0 ≤ v1 ∧ v1 ≤ 10 := by rw [ev1]; exact (m_145_0 hM)
  obtain ⟨v2, ev2⟩ : ∃ z, z = h 145 1 := ⟨_, rfl⟩
  have bv2 : 0 ≤ v2 ∧ v2 ≤ 8 := by rw [ev2]; exact (m_145_1 hM)
  obtain ⟨v3, ev3⟩ : ∃ z, z = h 145 2 := ⟨_, rfl⟩
  have bv3 : 0 ≤ v3 ∧ v3 ≤ 8 := by rw [ev3]; exact (m_145_2 hM)
  obtain ⟨v4, ev4⟩ : ∃ z, z = h 145 3 := ⟨_, rfl⟩
  have bv4 : 0 ≤ v4 ∧ v4 ≤ 2000000000 := by rw [ev4]; exact (m_145_3 hM)
  refine g_iconst dX12_putsBack_0 (inR_c rfl) ?_
  have c2 : ∀ (n : Nat) (y5 : Int) (h6 : MEM), MBm h6 → Fr [(100, 0), (101, 0), (102, 0)] h h6 → 0 ≤ y5 → y5 ≤ 10 → 10 - y5 < (n : Int) → G yX12_putsBack cX12_putsBack 3 (none) none Po (1, 60, 0, 0) 2 [some (pR 98), some (pI 0), some (pI y5)] [] SH h6 0 0 := by
    intro n
    induction n with
    | zero =>
      intro y5 h6 hMh6 hFh6 by5 dy5 hn
      exfalso; omega
    | succ n ih2 =>
      intro y5 h6 hMh6 hFh6 by5 dy5 hn
      refine g_iload_n dX12_putsBack_2 rfl (fun _ => ?_)
      refine g_bipush dX12_putsBack_3 (inR_c rfl) (by decide) ?_
      refine g_icmp_ge 65 dX12_putsBack_5 (by decide) (fun q7 => ?_) (fun q7 => ?_)
      · skip
        refine g_iconst dX12_putsBack_65 (inR_c rfl) ?_
        have c67 : ∀ (n : Nat) (y8 : Int) (h9 : MEM), MBm h9 → Fr [(103, 0), (104, 0), (106, 0), (107, 0), (108, 0), (109, 0), (110, 0), (111, 0)] h6 h9 → 0 ≤ y8 → y8 ≤ 8 → 8 - y8 < (n : Int) → G yX12_putsBack cX12_putsBack 3 (none) none Po (1, 60, 0, 0) 67 [some (pR 98), some (pI 0), some (pI y8)] [] SH h9 0 0 := by
          intro n
          induction n with
          | zero =>
            intro y8 h9 hMh9 hFh9 by8 dy8 hn
            exfalso; omega
          | succ n ih67 =>
            intro y8 h9 hMh9 hFh9 by8 dy8 hn
            refine g_iload_n dX12_putsBack_67 rfl (fun _ => ?_)
            refine g_bipush dX12_putsBack_68 (inR_c rfl) (by decide) ?_
            refine g_icmp_ge 215 dX12_putsBack_70 (by decide) (fun q10 => ?_) (fun q10 => ?_)
            · skip
              refine g_iconst dX12_putsBack_215 (inR_c rfl) ?_
              have c217 : ∀ (n : Nat) (y11 : Int) (h12 : MEM), MBm h12 → Fr [(105, 0)] h9 h12 → 0 ≤ y11 → y11 ≤ 40 → 40 - y11 < (n : Int) → G yX12_putsBack cX12_putsBack 3 (none) none Po (1, 60, 0, 0) 217 [some (pR 98), some (pI 0), some (pI y11)] [] SH h12 0 0 := by
                intro n
                induction n with
                | zero =>
                  intro y11 h12 hMh12 hFh12 by11 dy11 hn
                  exfalso; omega
                | succ n ih217 =>
                  intro y11 h12 hMh12 hFh12 by11 dy11 hn
                  refine g_iload_n dX12_putsBack_217 rfl (fun _ => ?_)
                  refine g_bipush dX12_putsBack_218 (inR_c rfl) (by decide) ?_
                  refine g_icmp_ge 246 dX12_putsBack_220 (by decide) (fun q13 => ?_) (fun q13 => ?_)
                  · skip
                    refine g_iconst dX12_putsBack_246 (inR_c rfl) ?_
                    have c248 : ∀ (n : Nat) (y14 : Int) (h15 : MEM), MBm h15 → Fr [(112, 0), (113, 0)] h12 h15 → 0 ≤ y14 → y14 ≤ 64 → 64 - y14 < (n : Int) → G yX12_putsBack cX12_putsBack 3 (none) none Po (1, 60, 0, 0) 248 [some (pR 98), some (pI 0), some (pI y14)] [] SH h15 0 0 := by
                      intro n
                      induction n with
                      | zero =>
                        intro y14 h15 hMh15 hFh15 by14 dy14 hn
                        exfalso; omega
                      | succ n ih248 =>
                        intro y14 h15 hMh15 hFh15 by14 dy14 hn
                        refine g_iload_n dX12_putsBack_248 rfl (fun _ => ?_)
                        refine g_bipush dX12_putsBack_249 (inR_c rfl) (by decide) ?_
                        refine g_icmp_ge 294 dX12_putsBack_251 (by decide) (fun q16 => ?_) (fun q16 => ?_)
                        · skip
                          refine g_iconst dX12_putsBack_294 (inR_c rfl) ?_
                          have c296 : ∀ (n : Nat) (y17 : Int) (h18 : MEM), MBm h18 → Fr [(114, 0)] h15 h18 → 0 ≤ y17 → y17 ≤ 100 → PB gi y17 h18 → 100 - y17 < (n : Int) → G yX12_putsBack cX12_putsBack 3 (none) none Po (1, 60, 0, 0) 296 [some (pR 98), some (pI 0), some (pI y17)] [] SH h18 0 0 := by
                            intro n
                            induction n with
                            | zero =>
                              intro y17 h18 hMh18 hFh18 by17 dy17 e296_0 hn
                              exfalso; omega
                            | succ n ih296 =>
                              intro y17 h18 hMh18 hFh18 by17 dy17 e296_0 hn
                              refine g_iload_n dX12_putsBack_296 rfl (fun _ => ?_)
                              refine g_bipush dX12_putsBack_297 (inR_c rfl) (by decide) ?_
                              refine g_icmp_ge 325 dX12_putsBack_299 (by decide) (fun q19 => ?_) (fun q19 => ?_)
                              · skip
                                refine g_aload_n dX12_putsBack_325 rfl ?_
                                have s0f : ISn gi h18 := PB_e e296_0 (by omega)
                                refine g_aload_n dX12_putsBack_326 rfl ?_
                                refine gR_X12_154 rfl dX12_putsBack_327 sh_98 (b := 145) (m_98_70 hMh18) ?_
                                refine g_bipush dX12_putsBack_330 (inR_c rfl) (by decide) ?_
                                refine g_iload_n dX12_putsBack_332 rfl (fun _ => ?_)
                                refine g_imulB dX12_putsBack_333 (by omega) (by omega) ?_
                                refine g_ialdE dX12_putsBack_334 sh_145 (by omega) (by omega) ((hFh18 145 _ rfl).trans ((hFh15 145 _ rfl).trans ((hFh12 145 _ rfl).trans ((hFh9 145 _ rfl).trans ((hFh6 145 _ rfl).trans ev1.symm))))) ?_
                                refine pI_X12_172 rfl dX12_putsBack_335 sh_98 (fun h20 eh20 => ?_)
                                have hFh20 := Fr.st eh20
                                have hMh20 := u_98_2 hMh18 eh20 (by omega) (by omega)
                                refine g_aload_n dX12_putsBack_338 rfl ?_
                                refine g_aload_n dX12_putsBack_339 rfl ?_
                                refine gR_X12_154 rfl dX12_putsBack_340 sh_98 (b := 145) (m_98_70 hMh20) ?_
                                refine g_bipush dX12_putsBack_343 (inR_c rfl) (by decide) ?_
                                refine g_iload_n dX12_putsBack_345 rfl (fun _ => ?_)
                                refine g_imulB dX12_putsBack_346 (by omega) (by omega) ?_
                                refine g_iconst dX12_putsBack_347 (inR_c rfl) ?_
                                refine g_iaddB dX12_putsBack_348 (by omega) (by omega) ?_
                                refine g_ialdE dX12_putsBack_349 sh_145 (by omega) (by omega) ((hFh20 145 _ rfl).trans ((hFh18 145 _ rfl).trans ((hFh15 145 _ rfl).trans ((hFh12 145 _ rfl).trans ((hFh9 145 _ rfl).trans ((hFh6 145 _ rfl).trans ev2.symm)))))) ?_
                                refine pI_X12_179 rfl dX12_putsBack_350 sh_98 (fun h21 eh21 => ?_)
                                have hFh21 := Fr.st eh21
                                have hMh21 := u_98_3 hMh20 eh21 (by omega) (by omega)
                                refine g_aload_n dX12_putsBack_353 rfl ?_
                                refine g_aload_n dX12_putsBack_354 rfl ?_
                                refine gR_X12_154 rfl dX12_putsBack_355 sh_98 (b := 145) (m_98_70 hMh21) ?_
                                refine g_bipush dX12_putsBack_358 (inR_c rfl) (by decide) ?_
                                refine g_iload_n dX12_putsBack_360 rfl (fun _ => ?_)
                                refine g_imulB dX12_putsBack_361 (by omega) (by omega) ?_
                                refine g_iconst dX12_putsBack_362 (inR_c rfl) ?_
                                refine g_iaddB dX12_putsBack_363 (by omega) (by omega) ?_
                                refine g_ialdE dX12_putsBack_364 sh_145 (by omega) (by omega) ((hFh21 145 _ rfl).trans ((hFh20 145 _ rfl).trans ((hFh18 145 _ rfl).trans ((hFh15 145 _ rfl).trans ((hFh12 145 _ rfl).trans ((hFh9 145 _ rfl).trans ((hFh6 145 _ rfl).trans ev3.symm))))))) ?_
                                refine pI_X12_182 rfl dX12_putsBack_365 sh_98 (fun h22 eh22 => ?_)
                                have hFh22 := Fr.st eh22
                                have hMh22 := u_98_4 hMh21 eh22 (by omega) (by omega)
                                refine g_aload_n dX12_putsBack_368 rfl ?_
                                refine g_aload_n dX12_putsBack_369 rfl ?_
                                refine gR_X12_154 rfl dX12_putsBack_370 sh_98 (b := 145) (m_98_70 hMh22) ?_
                                refine g_bipush dX12_putsBack_373 (inR_c rfl) (by decide) ?_
                                refine g_iload_n dX12_putsBack_375 rfl (fun _ => ?_)
                                refine g_imulB dX12_putsBack_376 (by omega) (by omega) ?_
                                refine g_iconst dX12_putsBack_377 (inR_c rfl) ?_
                                refine g_iaddB dX12_putsBack_378 (by omega) (by omega) ?_
                                refine g_ialdE dX12_putsBack_379 sh_145 (by omega) (by omega) ((hFh22 145 _ rfl).trans ((hFh21 145 _ rfl).trans ((hFh20 145 _ rfl).trans ((hFh18 145 _ rfl).trans ((hFh15 145 _ rfl).trans ((hFh12 145 _ rfl).trans ((hFh9 145 _ rfl).trans ((hFh6 145 _ rfl).trans ev4.symm)))))))) ?_
                                refine pI_X12_334 rfl dX12_putsBack_380 sh_98 (fun h23 eh23 => ?_)
                                have hFh23 := Fr.st eh23
                                have hMh23 := u_98_5 hMh22 eh23 (by omega) (by omega)
                                refine g_aload_n dX12_putsBack_383 rfl ?_
                                refine g_aload_n dX12_putsBack_384 rfl ?_
                                refine gR_X12_154 rfl dX12_putsBack_385 sh_98 (b := 145) (m_98_70 hMh23) ?_
                                refine g_bipush dX12_putsBack_388 (inR_c rfl) (by decide) ?_
                                refine g_iload_n dX12_putsBack_390 rfl (fun _ => ?_)
                                refine g_imulB dX12_putsBack_391 (by omega) (by omega) ?_
                                refine g_iconst dX12_putsBack_392 (inR_c rfl) ?_
                                refine g_iaddB dX12_putsBack_393 (by omega) (by omega) ?_
                                refine g_ialdB dX12_putsBack_394 sh_145 (by omega) (by omega) (m_145_4 hMh23) (fun v24 ev24 bv24 cv24 => ?_)
                                refine pI_X12_13 rfl dX12_putsBack_395 sh_98 (fun h25 eh25 => ?_)
                                have hFh25 := Fr.st eh25
                                have hMh25 := u_98_6 hMh23 eh25 (by omega) (by omega)
                                refine g_aload_n dX12_putsBack_398 rfl ?_
                                refine g_aload_n dX12_putsBack_399 rfl ?_
                                refine gR_X12_154 rfl dX12_putsBack_400 sh_98 (b := 145) (m_98_70 hMh25) ?_
                                refine g_bipush dX12_putsBack_403 (inR_c rfl) (by decide) ?_
                                refine g_iload_n dX12_putsBack_405 rfl (fun _ => ?_)
                                refine g_imulB dX12_putsBack_406 (by omega) (by omega) ?_
                                refine g_iconst dX12_putsBack_407 (inR_c rfl) ?_
                                refine g_iaddB dX12_putsBack_408 (by omega) (by omega) ?_
                                refine g_ialdB dX12_putsBack_409 sh_145 (by omega) (by omega) (m_145_5 hMh25) (fun v26 ev26 bv26 cv26 => ?_)
                                refine pI_X12_372 rfl dX12_putsBack_410 sh_98 (fun h27 eh27 => ?_)
                                have hFh27 := Fr.st eh27
                                have hMh27 := u_98_7 hMh25 eh27 (by omega) (by omega)
                                have q28 : h27 98 2 = v1 := ((hFh27 98 2 rfl).trans ((hFh25 98 2 rfl).trans ((hFh23 98 2 rfl).trans ((hFh22 98 2 rfl).trans ((hFh21 98 2 rfl).trans (st_at eh20))))))
                                have q29 : h27 98 3 = v2 := ((hFh27 98 3 rfl).trans ((hFh25 98 3 rfl).trans ((hFh23 98 3 rfl).trans ((hFh22 98 3 rfl).trans (st_at eh21)))))
                                have q30 : h27 98 4 = v3 := ((hFh27 98 4 rfl).trans ((hFh25 98 4 rfl).trans ((hFh23 98 4 rfl).trans (st_at eh22))))
                                have q31 : h27 98 5 = v4 := ((hFh27 98 5 rfl).trans ((hFh25 98 5 rfl).trans (st_at eh23)))
                                exact g_return dX12_putsBack_413 rfl (hPo _ ⟨hMh27, (Fr.tr (Fr.tr (Fr.tr (Fr.tr (Fr.tr (Fr.tr (Fr.tr (Fr.tr (Fr.tr (Fr.tr (Fr.sub hFh6 rfl) hFh9 rfl) hFh12 rfl) hFh15 rfl) hFh18 rfl) hFh20 rfl) hFh21 rfl) hFh22 rfl) hFh23 rfl) hFh25 rfl) hFh27 rfl), (ISn.fr (T := [(98, 3), (98, 4), (98, 5), (98, 6), (98, 7), (98, 8)]) s0f (Fr.tr (Fr.tr (Fr.tr (Fr.tr (Fr.tr (Fr.sub hFh20 rfl) hFh21 rfl) hFh22 rfl) hFh23 rfl) hFh25 rfl) hFh27 rfl) rfl), (by omega), (by omega), (by omega), (by omega)⟩)
                              · skip
                                refine g_aload_n dX12_putsBack_302 rfl ?_
                                refine gR_X12_61 rfl dX12_putsBack_303 sh_98 (b := 114) (m_98_22 hMh18) ?_
                                refine g_iload_n dX12_putsBack_306 rfl (fun _ => ?_)
                                refine g_aload_n dX12_putsBack_307 rfl ?_
                                refine gR_X12_151 rfl dX12_putsBack_308 sh_98 (b := 144) (m_98_69 hMh18) ?_
                                refine g_bipush dX12_putsBack_311 (inR_c rfl) (by decide) ?_
                                refine g_iload_n dX12_putsBack_313 rfl (fun _ => ?_)
                                refine g_imulB dX12_putsBack_314 (by omega) (by omega) ?_
                                refine g_iload_n dX12_putsBack_315 rfl (fun _ => ?_)
                                refine g_iaddB dX12_putsBack_316 (by omega) (by omega) ?_
                                refine g_zaldB dX12_putsBack_317 sh_144 (by omega) (by omega) (m_144 hMh18 _) (fun v32 ev32 bv32 cv32 => ?_)
                                have sv1 := (S0n.fr (T := [(100, 0), (101, 0), (102, 0), (103, 0), (104, 0), (105, 0), (106, 0), (107, 0), (108, 0), (109, 0), (110, 0), (111, 0), (112, 0), (113, 0), (114, 0)]) f_S0 (Fr.tr (Fr.tr (Fr.tr (Fr.tr (Fr.sub hFh6 rfl) hFh9 rfl) hFh12 rfl) hFh15 rfl) hFh18 rfl) rfl)
                                refine g_zastB dX12_putsBack_318 sh_114 (by omega) (by omega) (by omega) (fun h33 eh33 => ?_)
                                have hFh33 := Fr.ar eh33
                                have hMh33 := u_114 hMh18 eh33 (by omega) (by omega)
                                have pb2 : PB gi (y17 + 1) h33 := PB_s0 e296_0 sv1 (by assumption) (by assumption) (by omega) (by omega)
                                refine g_iincB dX12_putsBack_319 rfl rfl (by omega) (by omega) ?_
                                refine g_goto 296 dX12_putsBack_322 (by decide) ?_
                                exact ih296 _ _ hMh33 (Fr.tr (Fr.sub hFh18 rfl) hFh33 rfl) (by omega) (by omega) (by first | exact PB_0 | exact pb2) (by omega)
                          refine g_istore_n dX12_putsBack_295 (by decide) rfl ?_
                          exact c296 101 _ _ hMh15 Fr.rf (by omega) (by omega) (by first | exact PB_0 | exact pb2) (by omega)
                        · skip
                          refine g_aload_n dX12_putsBack_254 rfl ?_
                          refine gR_X12_55 rfl dX12_putsBack_255 sh_98 (b := 112) (m_98_20 hMh15) ?_
                          refine g_iload_n dX12_putsBack_258 rfl (fun _ => ?_)
                          refine g_aload_n dX12_putsBack_259 rfl ?_
                          refine gR_X12_145 rfl dX12_putsBack_260 sh_98 (b := 142) (m_98_67 hMh15) ?_
                          refine g_bipush dX12_putsBack_263 (inR_c rfl) (by decide) ?_
                          refine g_iload_n dX12_putsBack_265 rfl (fun _ => ?_)
                          refine g_imulB dX12_putsBack_266 (by omega) (by omega) ?_
                          refine g_iload_n dX12_putsBack_267 rfl (fun _ => ?_)
                          refine g_iaddB dX12_putsBack_268 (by omega) (by omega) ?_
                          refine g_ialdB dX12_putsBack_269 sh_142 (by omega) (by omega) (m_142 hMh15 _) (fun v34 ev34 bv34 cv34 => ?_)
                          refine g_iastB dX12_putsBack_270 sh_112 (by omega) (by omega) (fun h35 eh35 => ?_)
                          have hFh35 := Fr.ar eh35
                          have hMh35 := u_112 hMh15 eh35 (by omega) (by omega)
                          refine g_aload_n dX12_putsBack_271 rfl ?_
                          refine gR_X12_58 rfl dX12_putsBack_272 sh_98 (b := 113) (m_98_21 hMh35) ?_
                          refine g_iload_n dX12_putsBack_275 rfl (fun _ => ?_)
                          refine g_aload_n dX12_putsBack_276 rfl ?_
                          refine gR_X12_148 rfl dX12_putsBack_277 sh_98 (b := 143) (m_98_68 hMh35) ?_
                          refine g_bipush dX12_putsBack_280 (inR_c rfl) (by decide) ?_
                          refine g_iload_n dX12_putsBack_282 rfl (fun _ => ?_)
                          refine g_imulB dX12_putsBack_283 (by omega) (by omega) ?_
                          refine g_iload_n dX12_putsBack_284 rfl (fun _ => ?_)
                          refine g_iaddB dX12_putsBack_285 (by omega) (by omega) ?_
                          refine g_ialdB dX12_putsBack_286 sh_143 (by omega) (by omega) (m_143 hMh35 _) (fun v36 ev36 bv36 cv36 => ?_)
                          refine g_iastB dX12_putsBack_287 sh_113 (by omega) (by omega) (fun h37 eh37 => ?_)
                          have hFh37 := Fr.ar eh37
                          have hMh37 := u_113 hMh35 eh37 (by omega) (by omega)
                          refine g_iincB dX12_putsBack_288 rfl rfl (by omega) (by omega) ?_
                          refine g_goto 248 dX12_putsBack_291 (by decide) ?_
                          exact ih248 _ _ hMh37 (Fr.tr (Fr.tr (Fr.sub hFh15 rfl) hFh35 rfl) hFh37 rfl) (by omega) (by omega) (by omega)
                    refine g_istore_n dX12_putsBack_247 (by decide) rfl ?_
                    exact c248 65 _ _ hMh12 Fr.rf (by omega) (by omega) (by omega)
                  · skip
                    refine g_aload_n dX12_putsBack_223 rfl ?_
                    refine gR_X12_33 rfl dX12_putsBack_224 sh_98 (b := 105) (m_98_13 hMh12) ?_
                    refine g_iload_n dX12_putsBack_227 rfl (fun _ => ?_)
                    refine g_aload_n dX12_putsBack_228 rfl ?_
                    refine gR_X12_124 rfl dX12_putsBack_229 sh_98 (b := 135) (m_98_60 hMh12) ?_
                    refine g_bipush dX12_putsBack_232 (inR_c rfl) (by decide) ?_
                    refine g_iload_n dX12_putsBack_234 rfl (fun _ => ?_)
                    refine g_imulB dX12_putsBack_235 (by omega) (by omega) ?_
                    refine g_iload_n dX12_putsBack_236 rfl (fun _ => ?_)
                    refine g_iaddB dX12_putsBack_237 (by omega) (by omega) ?_
                    refine g_ialdB dX12_putsBack_238 sh_135 (by omega) (by omega) (m_135 hMh12 _) (fun v38 ev38 bv38 cv38 => ?_)
                    refine g_iastB dX12_putsBack_239 sh_105 (by omega) (by omega) (fun h39 eh39 => ?_)
                    have hFh39 := Fr.ar eh39
                    have hMh39 := u_105 hMh12 eh39 (by omega) (by omega)
                    refine g_iincB dX12_putsBack_240 rfl rfl (by omega) (by omega) ?_
                    refine g_goto 217 dX12_putsBack_243 (by decide) ?_
                    exact ih217 _ _ hMh39 (Fr.tr (Fr.sub hFh12 rfl) hFh39 rfl) (by omega) (by omega) (by omega)
              refine g_istore_n dX12_putsBack_216 (by decide) rfl ?_
              exact c217 41 _ _ hMh9 Fr.rf (by omega) (by omega) (by omega)
            · skip
              refine g_aload_n dX12_putsBack_73 rfl ?_
              refine gR_X12_27 rfl dX12_putsBack_74 sh_98 (b := 103) (m_98_11 hMh9) ?_
              refine g_iload_n dX12_putsBack_77 rfl (fun _ => ?_)
              refine g_aload_n dX12_putsBack_78 rfl ?_
              refine gR_X12_118 rfl dX12_putsBack_79 sh_98 (b := 133) (m_98_58 hMh9) ?_
              refine g_bipush dX12_putsBack_82 (inR_c rfl) (by decide) ?_
              refine g_iload_n dX12_putsBack_84 rfl (fun _ => ?_)
              refine g_imulB dX12_putsBack_85 (by omega) (by omega) ?_
              refine g_iload_n dX12_putsBack_86 rfl (fun _ => ?_)
              refine g_iaddB dX12_putsBack_87 (by omega) (by omega) ?_
              refine g_ialdB dX12_putsBack_88 sh_133 (by omega) (by omega) (m_133 hMh9 _) (fun v40 ev40 bv40 cv40 => ?_)
              refine g_iastB dX12_putsBack_89 sh_103 (by omega) (by omega) (fun h41 eh41 => ?_)
              have hFh41 := Fr.ar eh41
              have hMh41 := u_103 hMh9 eh41 (by omega) (by omega)
              refine g_aload_n dX12_putsBack_90 rfl ?_
              refine gR_X12_30 rfl dX12_putsBack_91 sh_98 (b := 104) (m_98_12 hMh41) ?_
              refine g_iload_n dX12_putsBack_94 rfl (fun _ => ?_)
              refine g_aload_n dX12_putsBack_95 rfl ?_
              refine gR_X12_121 rfl dX12_putsBack_96 sh_98 (b := 134) (m_98_59 hMh41) ?_
              refine g_bipush dX12_putsBack_99 (inR_c rfl) (by decide) ?_
              refine g_iload_n dX12_putsBack_101 rfl (fun _ => ?_)
              refine g_imulB dX12_putsBack_102 (by omega) (by omega) ?_
              refine g_iload_n dX12_putsBack_103 rfl (fun _ => ?_)
              refine g_iaddB dX12_putsBack_104 (by omega) (by omega) ?_
              refine g_ialdB dX12_putsBack_105 sh_134 (by omega) (by omega) (m_134 hMh41 _) (fun v42 ev42 bv42 cv42 => ?_)
              refine g_iastB dX12_putsBack_106 sh_104 (by omega) (by omega) (fun h43 eh43 => ?_)
              have hFh43 := Fr.ar eh43
              have hMh43 := u_104 hMh41 eh43 (by omega) (by omega)
              refine g_aload_n dX12_putsBack_107 rfl ?_
              refine gR_X12_36 rfl dX12_putsBack_108 sh_98 (b := 106) (m_98_14 hMh43) ?_
              refine g_iload_n dX12_putsBack_111 rfl (fun _ => ?_)
              refine g_aload_n dX12_putsBack_112 rfl ?_
              refine gR_X12_127 rfl dX12_putsBack_113 sh_98 (b := 136) (m_98_61 hMh43) ?_
              refine g_bipush dX12_putsBack_116 (inR_c rfl) (by decide) ?_
              refine g_iload_n dX12_putsBack_118 rfl (fun _ => ?_)
              refine g_imulB dX12_putsBack_119 (by omega) (by omega) ?_
              refine g_iload_n dX12_putsBack_120 rfl (fun _ => ?_)
              refine g_iaddB dX12_putsBack_121 (by omega) (by omega) ?_
              refine g_zaldB dX12_putsBack_122 sh_136 (by omega) (by omega) (m_136 hMh43 _) (fun v44 ev44 bv44 cv44 => ?_)
              refine g_zastB dX12_putsBack_123 sh_106 (by omega) (by omega) (by omega) (fun h45 eh45 => ?_)
              have hFh45 := Fr.ar eh45
              have hMh45 := u_106 hMh43 eh45 (by omega) (by omega)
              refine g_aload_n dX12_putsBack_124 rfl ?_
              refine gR_X12_40 rfl dX12_putsBack_125 sh_98 (b := 107) (m_98_15 hMh45) ?_
              refine g_iload_n dX12_putsBack_128 rfl (fun _ => ?_)
              refine g_aload_n dX12_putsBack_129 rfl ?_
              refine gR_X12_130 rfl dX12_putsBack_130 sh_98 (b := 137) (m_98_62 hMh45) ?_
              refine g_bipush dX12_putsBack_133 (inR_c rfl) (by decide) ?_
              refine g_iload_n dX12_putsBack_135 rfl (fun _ => ?_)
              refine g_imulB dX12_putsBack_136 (by omega) (by omega) ?_
              refine g_iload_n dX12_putsBack_137 rfl (fun _ => ?_)
              refine g_iaddB dX12_putsBack_138 (by omega) (by omega) ?_
              refine g_ialdB dX12_putsBack_139 sh_137 (by omega) (by omega) (m_137 hMh45 _) (fun v46 ev46 bv46 cv46 => ?_)
              refine g_iastB dX12_putsBack_140 sh_107 (by omega) (by omega) (fun h47 eh47 => ?_)
              have hFh47 := Fr.ar eh47
              have hMh47 := u_107 hMh45 eh47 (by omega) (by omega)
              refine g_aload_n dX12_putsBack_141 rfl ?_
              refine gR_X12_43 rfl dX12_putsBack_142 sh_98 (b := 108) (m_98_16 hMh47) ?_
              refine g_iload_n dX12_putsBack_145 rfl (fun _ => ?_)
              refine g_aload_n dX12_putsBack_146 rfl ?_
              refine gR_X12_133 rfl dX12_putsBack_147 sh_98 (b := 138) (m_98_63 hMh47) ?_
              refine g_bipush dX12_putsBack_150 (inR_c rfl) (by decide) ?_
              refine g_iload_n dX12_putsBack_152 rfl (fun _ => ?_)
              refine g_imulB dX12_putsBack_153 (by omega) (by omega) ?_
              refine g_iload_n dX12_putsBack_154 rfl (fun _ => ?_)
              refine g_iaddB dX12_putsBack_155 (by omega) (by omega) ?_
              refine g_ialdB dX12_putsBack_156 sh_138 (by omega) (by omega) (m_138 hMh47 _) (fun v48 ev48 bv48 cv48 => ?_)
              refine g_iastB dX12_putsBack_157 sh_108 (by omega) (by omega) (fun h49 eh49 => ?_)
              have hFh49 := Fr.ar eh49
              have hMh49 := u_108 hMh47 eh49 (by omega) (by omega)
              refine g_aload_n dX12_putsBack_158 rfl ?_
              refine gR_X12_46 rfl dX12_putsBack_159 sh_98 (b := 109) (m_98_17 hMh49) ?_
              refine g_iload_n dX12_putsBack_162 rfl (fun _ => ?_)
              refine g_aload_n dX12_putsBack_163 rfl ?_
              refine gR_X12_136 rfl dX12_putsBack_164 sh_98 (b := 139) (m_98_64 hMh49) ?_
              refine g_bipush dX12_putsBack_167 (inR_c rfl) (by decide) ?_
              refine g_iload_n dX12_putsBack_169 rfl (fun _ => ?_)
              refine g_imulB dX12_putsBack_170 (by omega) (by omega) ?_
              refine g_iload_n dX12_putsBack_171 rfl (fun _ => ?_)
              refine g_iaddB dX12_putsBack_172 (by omega) (by omega) ?_
              refine g_ialdB dX12_putsBack_173 sh_139 (by omega) (by omega) (m_139 hMh49 _) (fun v50 ev50 bv50 cv50 => ?_)
              refine g_iastB dX12_putsBack_174 sh_109 (by omega) (by omega) (fun h51 eh51 => ?_)
              have hFh51 := Fr.ar eh51
              have hMh51 := u_109 hMh49 eh51 (by omega) (by omega)
              refine g_aload_n dX12_putsBack_175 rfl ?_
              refine gR_X12_49 rfl dX12_putsBack_176 sh_98 (b := 110) (m_98_18 hMh51) ?_
              refine g_iload_n dX12_putsBack_179 rfl (fun _ => ?_)
              refine g_aload_n dX12_putsBack_180 rfl ?_
              refine gR_X12_139 rfl dX12_putsBack_181 sh_98 (b := 140) (m_98_65 hMh51) ?_
              refine g_bipush dX12_putsBack_184 (inR_c rfl) (by decide) ?_
              refine g_iload_n dX12_putsBack_186 rfl (fun _ => ?_)
              refine g_imulB dX12_putsBack_187 (by omega) (by omega) ?_
              refine g_iload_n dX12_putsBack_188 rfl (fun _ => ?_)
              refine g_iaddB dX12_putsBack_189 (by omega) (by omega) ?_
              refine g_zaldB dX12_putsBack_190 sh_140 (by omega) (by omega) (m_140 hMh51 _) (fun v52 ev52 bv52 cv52 => ?_)
              refine g_zastB dX12_putsBack_191 sh_110 (by omega) (by omega) (by omega) (fun h53 eh53 => ?_)
              have hFh53 := Fr.ar eh53
              have hMh53 := u_110 hMh51 eh53 (by omega) (by omega)
              refine g_aload_n dX12_putsBack_192 rfl ?_
              refine gR_X12_52 rfl dX12_putsBack_193 sh_98 (b := 111) (m_98_19 hMh53) ?_
              refine g_iload_n dX12_putsBack_196 rfl (fun _ => ?_)
              refine g_aload_n dX12_putsBack_197 rfl ?_
              refine gR_X12_142 rfl dX12_putsBack_198 sh_98 (b := 141) (m_98_66 hMh53) ?_
              refine g_bipush dX12_putsBack_201 (inR_c rfl) (by decide) ?_
              refine g_iload_n dX12_putsBack_203 rfl (fun _ => ?_)
              refine g_imulB dX12_putsBack_204 (by omega) (by omega) ?_
              refine g_iload_n dX12_putsBack_205 rfl (fun _ => ?_)
              refine g_iaddB dX12_putsBack_206 (by omega) (by omega) ?_
              refine g_ialdB dX12_putsBack_207 sh_141 (by omega) (by omega) (m_141 hMh53 _) (fun v54 ev54 bv54 cv54 => ?_)
              refine g_iastB dX12_putsBack_208 sh_111 (by omega) (by omega) (fun h55 eh55 => ?_)
              have hFh55 := Fr.ar eh55
              have hMh55 := u_111 hMh53 eh55 (by omega) (by omega)
              refine g_iincB dX12_putsBack_209 rfl rfl (by omega) (by omega) ?_
              refine g_goto 67 dX12_putsBack_212 (by decide) ?_
              exact ih67 _ _ hMh55 (Fr.tr (Fr.tr (Fr.tr (Fr.tr (Fr.tr (Fr.tr (Fr.tr (Fr.tr (Fr.sub hFh9 rfl) hFh41 rfl) hFh43 rfl) hFh45 rfl) hFh47 rfl) hFh49 rfl) hFh51 rfl) hFh53 rfl) hFh55 rfl) (by omega) (by omega) (by omega)
        refine g_istore_n dX12_putsBack_66 (by decide) rfl ?_
        exact c67 9 _ _ hMh6 Fr.rf (by omega) (by omega) (by omega)
      · skip
        refine g_aload_n dX12_putsBack_8 rfl ?_
        refine gR_X12_17 rfl dX12_putsBack_9 sh_98 (b := 100) (m_98_8 hMh6) ?_
        refine g_iload_n dX12_putsBack_12 rfl (fun _ => ?_)
        refine g_aload_n dX12_putsBack_13 rfl ?_
        refine gR_X12_109 rfl dX12_putsBack_14 sh_98 (b := 130) (m_98_55 hMh6) ?_
        refine g_bipush dX12_putsBack_17 (inR_c rfl) (by decide) ?_
        refine g_iload_n dX12_putsBack_19 rfl (fun _ => ?_)
        refine g_imulB dX12_putsBack_20 (by omega) (by omega) ?_
        refine g_iload_n dX12_putsBack_21 rfl (fun _ => ?_)
        refine g_iaddB dX12_putsBack_22 (by omega) (by omega) ?_
        refine g_ialdB dX12_putsBack_23 sh_130 (by omega) (by omega) (m_130 hMh6 _) (fun v56 ev56 bv56 cv56 => ?_)
        refine g_iastB dX12_putsBack_24 sh_100 (by omega) (by omega) (fun h57 eh57 => ?_)
        have hFh57 := Fr.ar eh57
        have hMh57 := u_100 hMh6 eh57 (by omega) (by omega)
        refine g_aload_n dX12_putsBack_25 rfl ?_
        refine gR_X12_21 rfl dX12_putsBack_26 sh_98 (b := 101) (m_98_9 hMh57) ?_
        refine g_iload_n dX12_putsBack_29 rfl (fun _ => ?_)
        refine g_aload_n dX12_putsBack_30 rfl ?_
        refine gR_X12_112 rfl dX12_putsBack_31 sh_98 (b := 131) (m_98_56 hMh57) ?_
        refine g_bipush dX12_putsBack_34 (inR_c rfl) (by decide) ?_
        refine g_iload_n dX12_putsBack_36 rfl (fun _ => ?_)
        refine g_imulB dX12_putsBack_37 (by omega) (by omega) ?_
        refine g_iload_n dX12_putsBack_38 rfl (fun _ => ?_)
        refine g_iaddB dX12_putsBack_39 (by omega) (by omega) ?_
        refine g_ialdB dX12_putsBack_40 sh_131 (by omega) (by omega) (m_131 hMh57 _) (fun v58 ev58 bv58 cv58 => ?_)
        refine g_iastB dX12_putsBack_41 sh_101 (by omega) (by omega) (fun h59 eh59 => ?_)
        have hFh59 := Fr.ar eh59
        have hMh59 := u_101 hMh57 eh59 (by omega) (by omega)
        refine g_aload_n dX12_putsBack_42 rfl ?_
        refine gR_X12_24 rfl dX12_putsBack_43 sh_98 (b := 102) (m_98_10 hMh59) ?_
        refine g_iload_n dX12_putsBack_46 rfl (fun _ => ?_)
        refine g_aload_n dX12_putsBack_47 rfl ?_
        refine gR_X12_115 rfl dX12_putsBack_48 sh_98 (b := 132) (m_98_57 hMh59) ?_
        refine g_bipush dX12_putsBack_51 (inR_c rfl) (by decide) ?_
        refine g_iload_n dX12_putsBack_53 rfl (fun _ => ?_)
        refine g_imulB dX12_putsBack_54 (by omega) (by omega) ?_
        refine g_iload_n dX12_putsBack_55 rfl (fun _ => ?_)
        refine g_iaddB dX12_putsBack_56 (by omega) (by omega) ?_
        refine g_ialdB dX12_putsBack_57 sh_132 (by omega) (by omega) (m_132 hMh59 _) (fun v60 ev60 bv60 cv60 => ?_)
        refine g_iastB dX12_putsBack_58 sh_102 (by omega) (by omega) (fun h61 eh61 => ?_)
        have hFh61 := Fr.ar eh61
        have hMh61 := u_102 hMh59 eh61 (by omega) (by omega)
        refine g_iincB dX12_putsBack_59 rfl rfl (by omega) (by omega) ?_
        refine g_goto 2 dX12_putsBack_62 (by decide) ?_
        exact ih2 _ _ hMh61 (Fr.tr (Fr.tr (Fr.tr (Fr.sub hFh6 rfl) hFh57 rfl) hFh59 rfl) hFh61 rfl) (by omega) (by omega) (by omega)
  refine g_istore_n dX12_putsBack_1 (by decide) rfl ?_
  exact c2 11 _ _ hM Fr.rf (by omega) (by omega) (by omega)
set_option maxRecDepth 100000 in
set_option maxHeartbeats 4000000 in
theorem c_X12_allBruises_98 (h : MEM) (hM : MBm h) : CP yX12_allBruises cX12_allBruises 3 (some .int) 1 [pR 98] h (fun x => -2147483648 ≤ x ∧ x ≤ 2147483647) := by
  refine CP.of (L0 := [some (pR 98), none, none]) rfl (Nat.le_of_ble_eq_true rfl) rfl (fun Po hPo hav => ?_)
  refine g_iconst dX12_allBruises_0 (inR_c rfl) ?_
  refine g_istore_n dX12_allBruises_1 (by decide) rfl ?_
  refine g_iconst dX12_allBruises_2 (inR_c rfl) ?_
  have c4 : ∀ (n : Nat) (y1 y2 : Int) , -2147483648 ≤ y1 → y1 ≤ 2147483647 → 0 ≤ y2 → y2 ≤ 8 → 8 - y2 < (n : Int) → G yX12_allBruises cX12_allBruises 3 (some .int) none Po (1, 60, 0, 0) 4 [some (pR 98), some (pI y1), some (pI y2)] [] SH h 0 0 := by
    intro n
    induction n with
    | zero =>
      intro y1 y2 by1 dy1 by2 dy2 hn
      exfalso; omega
    | succ n ih4 =>
      intro y1 y2 by1 dy1 by2 dy2 hn
      refine g_iload_n dX12_allBruises_4 rfl (fun _ => ?_)
      refine g_aload_n dX12_allBruises_5 rfl ?_
      refine gI_X12_182 rfl dX12_allBruises_6 sh_98 (m_98_4 hM) (fun v3 ev3 bv3 cv3 => ?_)
      refine g_icmp_ge 27 dX12_allBruises_9 (by decide) (fun q4 => ?_) (fun q4 => ?_)
      · skip
        refine g_iload_n dX12_allBruises_27 rfl (fun _ => ?_)
        exact g_ireturn dX12_allBruises_28 retI (hPo _ ⟨(by omega), (by omega)⟩)
      · skip
        refine g_iload_n dX12_allBruises_12 rfl (fun _ => ?_)
        refine g_aload_n dX12_allBruises_13 rfl ?_
        refine gR_X12_52 rfl dX12_allBruises_14 sh_98 (b := 111) (m_98_19 hM) ?_
        refine g_iload_n dX12_allBruises_17 rfl (fun _ => ?_)
        refine g_ialdB dX12_allBruises_18 sh_111 (by omega) (by omega) (m_111 hM _) (fun v5 ev5 bv5 cv5 => ?_)
        refine g_iaddF dX12_allBruises_19 (fun v6 bv6 cv6 => ?_)
        refine g_istore_n dX12_allBruises_20 (by decide) rfl ?_
        refine g_iincB dX12_allBruises_21 rfl rfl (by omega) (by omega) ?_
        refine g_goto 4 dX12_allBruises_24 (by decide) ?_
        exact ih4 _ _ (by omega) (by omega) (by omega) (by omega) (by omega)
  refine g_istore_n dX12_allBruises_3 (by decide) rfl ?_
  exact c4 9 _ _ (by omega) (by omega) (by omega) (by omega) (by omega)
set_option maxRecDepth 100000 in
set_option maxHeartbeats 4000000 in
theorem c_X12_allSlates_98 (h : MEM) (hM : MBm h) : CP yX12_allSlates cX12_allSlates 3 (some .int) 1 [pR 98] h (fun x => -2147483648 ≤ x ∧ x ≤ 2147483647) := by
  refine CP.of (L0 := [some (pR 98), none, none]) rfl (Nat.le_of_ble_eq_true rfl) rfl (fun Po hPo hav => ?_)
  refine g_iconst dX12_allSlates_0 (inR_c rfl) ?_
  refine g_istore_n dX12_allSlates_1 (by decide) rfl ?_
  refine g_iconst dX12_allSlates_2 (inR_c rfl) ?_
  have c4 : ∀ (n : Nat) (y1 y2 : Int) , -2147483648 ≤ y1 → y1 ≤ 2147483647 → 0 ≤ y2 → y2 ≤ 10 → 10 - y2 < (n : Int) → G yX12_allSlates cX12_allSlates 3 (some .int) none Po (1, 60, 0, 0) 4 [some (pR 98), some (pI y1), some (pI y2)] [] SH h 0 0 := by
    intro n
    induction n with
    | zero =>
      intro y1 y2 by1 dy1 by2 dy2 hn
      exfalso; omega
    | succ n ih4 =>
      intro y1 y2 by1 dy1 by2 dy2 hn
      refine g_iload_n dX12_allSlates_4 rfl (fun _ => ?_)
      refine g_aload_n dX12_allSlates_5 rfl ?_
      refine gI_X12_172 rfl dX12_allSlates_6 sh_98 (m_98_2 hM) (fun v3 ev3 bv3 cv3 => ?_)
      refine g_icmp_ge 27 dX12_allSlates_9 (by decide) (fun q4 => ?_) (fun q4 => ?_)
      · skip
        refine g_iload_n dX12_allSlates_27 rfl (fun _ => ?_)
        exact g_ireturn dX12_allSlates_28 retI (hPo _ ⟨(by omega), (by omega)⟩)
      · skip
        refine g_iload_n dX12_allSlates_12 rfl (fun _ => ?_)
        refine g_aload_n dX12_allSlates_13 rfl ?_
        refine gR_X12_21 rfl dX12_allSlates_14 sh_98 (b := 101) (m_98_9 hM) ?_
        refine g_iload_n dX12_allSlates_17 rfl (fun _ => ?_)
        refine g_ialdB dX12_allSlates_18 sh_101 (by omega) (by omega) (m_101 hM _) (fun v5 ev5 bv5 cv5 => ?_)
        refine g_iaddF dX12_allSlates_19 (fun v6 bv6 cv6 => ?_)
        refine g_istore_n dX12_allSlates_20 (by decide) rfl ?_
        refine g_iincB dX12_allSlates_21 rfl rfl (by omega) (by omega) ?_
        refine g_goto 4 dX12_allSlates_24 (by decide) ?_
        exact ih4 _ _ (by omega) (by omega) (by omega) (by omega) (by omega)
  refine g_istore_n dX12_allSlates_3 (by decide) rfl ?_
  exact c4 11 _ _ (by omega) (by omega) (by omega) (by omega) (by omega)
set_option maxRecDepth 100000 in
set_option maxHeartbeats 4000000 in
theorem c_X12_tried_98 (x1 x2 : Int) (gi gs : Nat → Int) (h : MEM) (hM : MBm h) (bx1 : -2147483648 ≤ x1) (dx1 : x1 ≤ 2147483647) (bx2 : -2147483648 ≤ x2) (dx2 : x2 ≤ 2147483647) (p0_0 : 0 ≤ h 98 5) (p0_1 : h 98 5 ≤ 999600) (f_WFL : WFL h) (f_IS : ISn gi h) (f_S1 : S1n gs h) : CI yX12_tried cX12_tried 4 (some .int) 9 [pR 98, pI x1, pI x2] h (fun x h' => MBm h' ∧ Fr [(98, 3), (98, 4), (98, 5), (98, 6), (98, 7), (98, 8), (98, 47), (98, 48), (98, 49), (98, 52), (100, 0), (101, 0), (102, 0), (103, 0), (104, 0), (105, 0), (106, 0), (107, 0), (108, 0), (109, 0), (110, 0), (111, 0), (112, 0), (113, 0), (114, 0), (128, 0), (129, 0), (130, 0), (131, 0), (132, 0), (133, 0), (134, 0), (135, 0), (136, 0), (137, 0), (138, 0), (139, 0), (140, 0), (141, 0), (142, 0), (143, 0), (144, 0), (145, 1), (145, 2), (145, 3), (145, 4), (145, 5), (145, 6)] h h' ∧ -2147483648 ≤ x ∧ x ≤ 2147483647 ∧ ISn gi h' ∧ S1n gs h' ∧ h' 98 2 = h 98 2 ∧ h' 98 3 = h 98 3 ∧ h' 98 4 = h 98 4 ∧ h' 98 5 = h 98 5) := by
  refine CI.of (L0 := [some (pR 98), some (pI x1), some (pI x2), none]) rfl (Nat.le_of_ble_eq_true rfl) rfl (fun Po hPo hav => ?_)
  obtain ⟨v1, ev1⟩ : ∃ z, z = h 98 2 := ⟨_, rfl⟩
  have bv1 : 0 ≤ v1 ∧ v1 ≤ 10 := by rw [ev1]; exact (m_98_2 hM)
  obtain ⟨v2, ev2⟩ : ∃ z, z = h 98 3 := ⟨_, rfl⟩
  have bv2 : 0 ≤ v2 ∧ v2 ≤ 8 := by rw [ev2]; exact (m_98_3 hM)
  obtain ⟨v3, ev3⟩ : ∃ z, z = h 98 4 := ⟨_, rfl⟩
  have bv3 : 0 ≤ v3 ∧ v3 ≤ 8 := by rw [ev3]; exact (m_98_4 hM)
  obtain ⟨v4, ev4⟩ : ∃ z, z = h 98 5 := ⟨_, rfl⟩
  have bv4 : 0 ≤ v4 ∧ v4 ≤ 2000000000 := by rw [ev4]; exact (m_98_5 hM)
  obtain ⟨w98_5, ew98_5⟩ : ∃ z, z = h 98 5 := ⟨_, rfl⟩
  refine g_iload_n dX12_tried_0 rfl (fun _ => ?_)
  refine g_cSP (av := [_]) (c_X12_areHours _ h hM (by omega) (by omega)) dX12_tried_1 mi_X12_areHours st_X12_areHours ml_X12_398 rfl rfl rfl rfl (Nat.le_of_ble_eq_true rfl) (fun v5 q6 => ?_)
  rcases q6 with ⟨rfl, q6⟩ | ⟨rfl, q6⟩
  · skip
    refine g_if_eq 41 dX12_tried_4 (by decide) (fun _ => by exfalso; omega) (fun q7 => ?_)
    refine g_iload_n dX12_tried_7 rfl (fun _ => ?_)
    refine g_i2l dX12_tried_8 ?_
    refine g_lconst (v := 0) dX12_tried_9 rfl ?_
    refine g_ldc2 (v := 3) dX12_tried_10 kl_X12_417 (by decide) ?_
    refine g_cSP (av := [_, _, _]) (c_X12_lies _ _ _ h hM (by omega) (by omega) (by omega) (by omega) (by omega) (by omega)) dX12_tried_13 mi_X12_lies st_X12_lies ml_X12_175 rfl rfl rfl rfl (Nat.le_of_ble_eq_true rfl) (fun v8 q9 => ?_)
    rcases q9 with ⟨rfl, q9⟩ | ⟨rfl, q9⟩
    · skip
      refine g_if_ne 43 dX12_tried_16 (by decide) (fun q10 => ?_) (fun _ => by exfalso; omega)
      refine g_aload_n dX12_tried_43 rfl ?_
      refine g_iconst dX12_tried_44 (inR_c rfl) ?_
      have q11 : h 98 2 = v1 := ev1.symm
      have q12 : h 98 3 = v2 := ev2.symm
      have q13 : h 98 4 = v3 := ev3.symm
      have q14 : h 98 5 = w98_5 := ew98_5.symm
      refine g_cVV (as := [_]) (c_X12_setsAside_98_k0 _ _ h hM f_IS f_S1) dX12_tried_45 mi_X12_setsAside in_X12_setsAside se_X12_setsAside ml_X12_419 rfl rfl rfl sh_98 rfl rfl (Nat.le_of_ble_eq_true rfl) (fun h15 q16 => ?_)
      obtain ⟨hMh15, hFh15, z17, z18, z19, z20, z21, z22⟩ := q16
      have kz19 : h15 145 0 = v1 := by omega
      have kz20 : h15 145 1 = v2 := by omega
      have kz21 : h15 145 2 = v3 := by omega
      have kz22 : h15 145 3 = w98_5 := by omega
      refine g_aload_n dX12_tried_48 rfl ?_
      refine g_iconst dX12_tried_49 (inR_c rfl) ?_
      refine pI_X12_366 rfl dX12_tried_50 sh_98 (fun h23 eh23 => ?_)
      have hFh23 := Fr.st eh23
      have hMh23 := u_98_51 hMh15 eh23 (by omega) (by omega)
      refine g_aload_n dX12_tried_53 rfl ?_
      refine g_iload_n dX12_tried_54 rfl (fun _ => ?_)
      have q24 : h23 98 5 = w98_5 := ((hFh23 98 5 rfl).trans ((hFh15 98 5 rfl).trans ew98_5.symm))
      have q25 : h23 98 5 = w98_5 := ((hFh23 98 5 rfl).trans ((hFh15 98 5 rfl).trans ew98_5.symm))
      refine g_cVV (as := [_]) (c_X12_goesOn_98 _ h23 hMh23 (by omega) (by omega) (by omega) (by omega) (WFL.fr (T := [(98, 52), (130, 0), (131, 0), (132, 0), (133, 0), (134, 0), (135, 0), (136, 0), (137, 0), (138, 0), (139, 0), (140, 0), (141, 0), (142, 0), (143, 0), (144, 0), (145, 1), (145, 2), (145, 3), (145, 4), (145, 5), (145, 6)]) f_WFL (Fr.tr (Fr.sub hFh15 rfl) hFh23 rfl) rfl)) dX12_tried_55 mi_X12_goesOn in_X12_goesOn se_X12_goesOn ml_X12_401 rfl rfl rfl sh_98 rfl rfl (Nat.le_of_ble_eq_true rfl) (fun h26 q27 => ?_)
      obtain ⟨hMh26, hFh26, z28⟩ := q27
      have kz28 : h26 98 5 = (w98_5 + x1) := by omega
      refine g_iload_n dX12_tried_58 rfl (fun _ => ?_)
      refine g_if_ne 69 dX12_tried_59 (by decide) (fun q29 => ?_) (fun q29 => ?_)
      · skip
        refine g_iload_n dX12_tried_69 rfl (fun _ => ?_)
        refine g_iconst dX12_tried_70 (inR_c rfl) ?_
        refine g_icmp_ne 81 dX12_tried_71 (by decide) (fun q30 => ?_) (fun q30 => ?_)
        · skip
          refine g_iload_n dX12_tried_81 rfl (fun _ => ?_)
          refine g_iconst dX12_tried_82 (inR_c rfl) ?_
          refine g_icmp_ne 93 dX12_tried_83 (by decide) (fun q31 => ?_) (fun q31 => ?_)
          · skip
            refine g_iload_n dX12_tried_93 rfl (fun _ => ?_)
            refine g_iconst dX12_tried_94 (inR_c rfl) ?_
            refine g_icmp_ne 105 dX12_tried_95 (by decide) (fun _ => by exfalso; omega) (fun q32 => ?_)
            refine g_aload_n dX12_tried_98 rfl ?_
            refine gI_X12_372 rfl dX12_tried_99 sh_98 (m_98_7 hMh26) (fun v33 ev33 bv33 cv33 => ?_)
            refine g_goto 132 dX12_tried_102 (by decide) ?_
            refine g_istore_n dX12_tried_132 (by decide) rfl ?_
            refine g_aload_n dX12_tried_133 rfl ?_
            refine g_iconst dX12_tried_134 (inR_c rfl) ?_
            have q34 : h26 145 0 = v1 := ((hFh26 145 _ rfl).trans ((hFh23 145 _ rfl).trans kz19))
            have q35 : h26 145 1 = v2 := ((hFh26 145 _ rfl).trans ((hFh23 145 _ rfl).trans kz20))
            have q36 : h26 145 2 = v3 := ((hFh26 145 _ rfl).trans ((hFh23 145 _ rfl).trans kz21))
            have q37 : h26 145 3 = w98_5 := ((hFh26 145 _ rfl).trans ((hFh23 145 _ rfl).trans kz22))
            refine g_cVV (as := [_]) (c_X12_putsBack_98_k0 _ h26 hMh26 (S0n.fr (T := [(98, 6), (98, 7), (98, 8), (98, 47), (98, 48), (98, 49), (98, 52), (101, 0), (105, 0), (107, 0), (111, 0), (112, 0), (113, 0), (128, 0), (129, 0)]) z17 (Fr.tr (Fr.sub hFh23 rfl) hFh26 rfl) rfl)) dX12_tried_135 mi_X12_putsBack in_X12_putsBack se_X12_putsBack ml_X12_428 rfl rfl rfl sh_98 rfl rfl (Nat.le_of_ble_eq_true rfl) (fun h38 q39 => ?_)
            obtain ⟨hMh38, hFh38, z40, z41, z42, z43, z44⟩ := q39
            have kz41 : h38 98 2 = v1 := by omega
            have kz42 : h38 98 3 = v2 := by omega
            have kz43 : h38 98 4 = v3 := by omega
            have kz44 : h38 98 5 = w98_5 := by omega
            refine g_iload_n dX12_tried_138 rfl (fun _ => ?_)
            have q45 : h38 98 2 = v1 := kz41
            have q46 : h38 98 3 = v2 := kz42
            have q47 : h38 98 4 = v3 := kz43
            have q48 : h38 98 5 = w98_5 := kz44
            exact g_ireturn dX12_tried_139 retI (hPo _ _ ⟨hMh38, (Fr.tr (Fr.tr (Fr.tr (Fr.sub hFh15 rfl) hFh23 rfl) hFh26 rfl) hFh38 rfl), (by omega), (by omega), z40, (S1n.fr (T := [(98, 3), (98, 4), (98, 5), (98, 6), (98, 7), (98, 8), (98, 47), (98, 48), (98, 49), (98, 52), (100, 0), (101, 0), (102, 0), (103, 0), (104, 0), (105, 0), (106, 0), (107, 0), (108, 0), (109, 0), (110, 0), (111, 0), (112, 0), (113, 0), (114, 0), (128, 0), (129, 0)]) z18 (Fr.tr (Fr.tr (Fr.sub hFh23 rfl) hFh26 rfl) hFh38 rfl) rfl), (by omega), (by omega), (by omega), (by omega)⟩)
          · skip
            refine g_aload_n dX12_tried_86 rfl ?_
            refine g_cVP (as := []) (c_X12_allBruises_98  h26 hMh26) dX12_tried_87 mi_X12_allBruises in_X12_allBruises se_X12_allBruises ml_X12_425 rfl rfl rfl sh_98 rfl rfl (Nat.le_of_ble_eq_true rfl) (fun v49 q50 => ?_)
            obtain ⟨bv49, cv49⟩ := q50
            refine g_goto 132 dX12_tried_90 (by decide) ?_
            refine g_istore_n dX12_tried_132 (by decide) rfl ?_
            refine g_aload_n dX12_tried_133 rfl ?_
            refine g_iconst dX12_tried_134 (inR_c rfl) ?_
            have q51 : h26 145 0 = v1 := ((hFh26 145 _ rfl).trans ((hFh23 145 _ rfl).trans kz19))
            have q52 : h26 145 1 = v2 := ((hFh26 145 _ rfl).trans ((hFh23 145 _ rfl).trans kz20))
            have q53 : h26 145 2 = v3 := ((hFh26 145 _ rfl).trans ((hFh23 145 _ rfl).trans kz21))
            have q54 : h26 145 3 = w98_5 := ((hFh26 145 _ rfl).trans ((hFh23 145 _ rfl).trans kz22))
            refine g_cVV (as := [_]) (c_X12_putsBack_98_k0 _ h26 hMh26 (S0n.fr (T := [(98, 6), (98, 7), (98, 8), (98, 47), (98, 48), (98, 49), (98, 52), (101, 0), (105, 0), (107, 0), (111, 0), (112, 0), (113, 0), (128, 0), (129, 0)]) z17 (Fr.tr (Fr.sub hFh23 rfl) hFh26 rfl) rfl)) dX12_tried_135 mi_X12_putsBack in_X12_putsBack se_X12_putsBack ml_X12_428 rfl rfl rfl sh_98 rfl rfl (Nat.le_of_ble_eq_true rfl) (fun h55 q56 => ?_)
            obtain ⟨hMh55, hFh55, z57, z58, z59, z60, z61⟩ := q56
            have kz58 : h55 98 2 = v1 := by omega
            have kz59 : h55 98 3 = v2 := by omega
            have kz60 : h55 98 4 = v3 := by omega
            have kz61 : h55 98 5 = w98_5 := by omega
            refine g_iload_n dX12_tried_138 rfl (fun _ => ?_)
            have q62 : h55 98 2 = v1 := kz58
            have q63 : h55 98 3 = v2 := kz59
            have q64 : h55 98 4 = v3 := kz60
            have q65 : h55 98 5 = w98_5 := kz61
            exact g_ireturn dX12_tried_139 retI (hPo _ _ ⟨hMh55, (Fr.tr (Fr.tr (Fr.tr (Fr.sub hFh15 rfl) hFh23 rfl) hFh26 rfl) hFh55 rfl), (by omega), (by omega), z57, (S1n.fr (T := [(98, 3), (98, 4), (98, 5), (98, 6), (98, 7), (98, 8), (98, 47), (98, 48), (98, 49), (98, 52), (100, 0), (101, 0), (102, 0), (103, 0), (104, 0), (105, 0), (106, 0), (107, 0), (108, 0), (109, 0), (110, 0), (111, 0), (112, 0), (113, 0), (114, 0), (128, 0), (129, 0)]) z18 (Fr.tr (Fr.tr (Fr.sub hFh23 rfl) hFh26 rfl) hFh55 rfl) rfl), (by omega), (by omega), (by omega), (by omega)⟩)
        · skip
          refine g_aload_n dX12_tried_74 rfl ?_
          refine gI_X12_366 rfl dX12_tried_75 sh_98 (m_98_51 hMh26) (fun v66 ev66 bv66 cv66 => ?_)
          refine g_goto 132 dX12_tried_78 (by decide) ?_
          refine g_istore_n dX12_tried_132 (by decide) rfl ?_
          refine g_aload_n dX12_tried_133 rfl ?_
          refine g_iconst dX12_tried_134 (inR_c rfl) ?_
          have q67 : h26 145 0 = v1 := ((hFh26 145 _ rfl).trans ((hFh23 145 _ rfl).trans kz19))
          have q68 : h26 145 1 = v2 := ((hFh26 145 _ rfl).trans ((hFh23 145 _ rfl).trans kz20))
          have q69 : h26 145 2 = v3 := ((hFh26 145 _ rfl).trans ((hFh23 145 _ rfl).trans kz21))
          have q70 : h26 145 3 = w98_5 := ((hFh26 145 _ rfl).trans ((hFh23 145 _ rfl).trans kz22))
          refine g_cVV (as := [_]) (c_X12_putsBack_98_k0 _ h26 hMh26 (S0n.fr (T := [(98, 6), (98, 7), (98, 8), (98, 47), (98, 48), (98, 49), (98, 52), (101, 0), (105, 0), (107, 0), (111, 0), (112, 0), (113, 0), (128, 0), (129, 0)]) z17 (Fr.tr (Fr.sub hFh23 rfl) hFh26 rfl) rfl)) dX12_tried_135 mi_X12_putsBack in_X12_putsBack se_X12_putsBack ml_X12_428 rfl rfl rfl sh_98 rfl rfl (Nat.le_of_ble_eq_true rfl) (fun h71 q72 => ?_)
          obtain ⟨hMh71, hFh71, z73, z74, z75, z76, z77⟩ := q72
          have kz74 : h71 98 2 = v1 := by omega
          have kz75 : h71 98 3 = v2 := by omega
          have kz76 : h71 98 4 = v3 := by omega
          have kz77 : h71 98 5 = w98_5 := by omega
          refine g_iload_n dX12_tried_138 rfl (fun _ => ?_)
          have q78 : h71 98 2 = v1 := kz74
          have q79 : h71 98 3 = v2 := kz75
          have q80 : h71 98 4 = v3 := kz76
          have q81 : h71 98 5 = w98_5 := kz77
          exact g_ireturn dX12_tried_139 retI (hPo _ _ ⟨hMh71, (Fr.tr (Fr.tr (Fr.tr (Fr.sub hFh15 rfl) hFh23 rfl) hFh26 rfl) hFh71 rfl), (by omega), (by omega), z73, (S1n.fr (T := [(98, 3), (98, 4), (98, 5), (98, 6), (98, 7), (98, 8), (98, 47), (98, 48), (98, 49), (98, 52), (100, 0), (101, 0), (102, 0), (103, 0), (104, 0), (105, 0), (106, 0), (107, 0), (108, 0), (109, 0), (110, 0), (111, 0), (112, 0), (113, 0), (114, 0), (128, 0), (129, 0)]) z18 (Fr.tr (Fr.tr (Fr.sub hFh23 rfl) hFh26 rfl) hFh71 rfl) rfl), (by omega), (by omega), (by omega), (by omega)⟩)
      · skip
        refine g_aload_n dX12_tried_62 rfl ?_
        refine g_cVP (as := []) (c_X12_allSlates_98  h26 hMh26) dX12_tried_63 mi_X12_allSlates in_X12_allSlates se_X12_allSlates ml_X12_422 rfl rfl rfl sh_98 rfl rfl (Nat.le_of_ble_eq_true rfl) (fun v82 q83 => ?_)
        obtain ⟨bv82, cv82⟩ := q83
        refine g_goto 132 dX12_tried_66 (by decide) ?_
        refine g_istore_n dX12_tried_132 (by decide) rfl ?_
        refine g_aload_n dX12_tried_133 rfl ?_
        refine g_iconst dX12_tried_134 (inR_c rfl) ?_
        have q84 : h26 145 0 = v1 := ((hFh26 145 _ rfl).trans ((hFh23 145 _ rfl).trans kz19))
        have q85 : h26 145 1 = v2 := ((hFh26 145 _ rfl).trans ((hFh23 145 _ rfl).trans kz20))
        have q86 : h26 145 2 = v3 := ((hFh26 145 _ rfl).trans ((hFh23 145 _ rfl).trans kz21))
        have q87 : h26 145 3 = w98_5 := ((hFh26 145 _ rfl).trans ((hFh23 145 _ rfl).trans kz22))
        refine g_cVV (as := [_]) (c_X12_putsBack_98_k0 _ h26 hMh26 (S0n.fr (T := [(98, 6), (98, 7), (98, 8), (98, 47), (98, 48), (98, 49), (98, 52), (101, 0), (105, 0), (107, 0), (111, 0), (112, 0), (113, 0), (128, 0), (129, 0)]) z17 (Fr.tr (Fr.sub hFh23 rfl) hFh26 rfl) rfl)) dX12_tried_135 mi_X12_putsBack in_X12_putsBack se_X12_putsBack ml_X12_428 rfl rfl rfl sh_98 rfl rfl (Nat.le_of_ble_eq_true rfl) (fun h88 q89 => ?_)
        obtain ⟨hMh88, hFh88, z90, z91, z92, z93, z94⟩ := q89
        have kz91 : h88 98 2 = v1 := by omega
        have kz92 : h88 98 3 = v2 := by omega
        have kz93 : h88 98 4 = v3 := by omega
        have kz94 : h88 98 5 = w98_5 := by omega
        refine g_iload_n dX12_tried_138 rfl (fun _ => ?_)
        have q95 : h88 98 2 = v1 := kz91
        have q96 : h88 98 3 = v2 := kz92
        have q97 : h88 98 4 = v3 := kz93
        have q98 : h88 98 5 = w98_5 := kz94
        exact g_ireturn dX12_tried_139 retI (hPo _ _ ⟨hMh88, (Fr.tr (Fr.tr (Fr.tr (Fr.sub hFh15 rfl) hFh23 rfl) hFh26 rfl) hFh88 rfl), (by omega), (by omega), z90, (S1n.fr (T := [(98, 3), (98, 4), (98, 5), (98, 6), (98, 7), (98, 8), (98, 47), (98, 48), (98, 49), (98, 52), (100, 0), (101, 0), (102, 0), (103, 0), (104, 0), (105, 0), (106, 0), (107, 0), (108, 0), (109, 0), (110, 0), (111, 0), (112, 0), (113, 0), (114, 0), (128, 0), (129, 0)]) z18 (Fr.tr (Fr.tr (Fr.sub hFh23 rfl) hFh26 rfl) hFh88 rfl) rfl), (by omega), (by omega), (by omega), (by omega)⟩)
    · skip
      refine g_if_ne 43 dX12_tried_16 (by decide) (fun _ => by exfalso; omega) (fun q99 => ?_)
      refine g_aload_n dX12_tried_19 rfl ?_
      refine g_iload_n dX12_tried_20 rfl (fun _ => ?_)
      refine g_bipush dX12_tried_21 (inR_c rfl) (by decide) ?_
      rcases (show (x2 - 10) < -2147483648 ∨ (-2147483648 ≤ (x2 - 10) ∧ (x2 - 10) ≤ 2147483647) by omega) with q100 | q100
      · skip
        refine g_isubV (v := ((x2 - 10) + 4294967296)) dX12_tried_23 (by unfold w32; omega) ?_
        refine g_cVP (as := [_]) (c_X12_isRoof_98 _ h hM (by omega) (by omega)) dX12_tried_24 mi_X12_isRoof in_X12_isRoof se_X12_isRoof ml_X12_198 rfl rfl rfl sh_98 rfl rfl (Nat.le_of_ble_eq_true rfl) (fun v101 q102 => ?_)
        have q103 : h 98 2 = v1 := ev1.symm
        rcases q102 with ⟨rfl, q102⟩ | ⟨rfl, q102⟩
        · skip
          exfalso; omega
        · skip
          refine g_if_ne 43 dX12_tried_27 (by decide) (fun _ => by exfalso; omega) (fun q104 => ?_)
          refine g_aload_n dX12_tried_30 rfl ?_
          refine g_iload_n dX12_tried_31 rfl (fun _ => ?_)
          refine g_bipush dX12_tried_32 (inR_c rfl) (by decide) ?_
          rcases (show (x2 - 20) < -2147483648 ∨ (-2147483648 ≤ (x2 - 20) ∧ (x2 - 20) ≤ 2147483647) by omega) with q105 | q105
          · skip
            refine g_isubV (v := ((x2 - 20) + 4294967296)) dX12_tried_34 (by unfold w32; omega) ?_
            refine g_cVP (as := [_]) (c_X12_isMaster_98 _ h hM (by omega) (by omega)) dX12_tried_35 mi_X12_isMaster in_X12_isMaster se_X12_isMaster ml_X12_201 rfl rfl rfl sh_98 rfl rfl (Nat.le_of_ble_eq_true rfl) (fun v106 q107 => ?_)
            have q108 : h 98 4 = v3 := ev3.symm
            rcases q107 with ⟨rfl, q107⟩ | ⟨rfl, q107⟩
            · skip
              exfalso; omega
            · skip
              refine g_if_ne 43 dX12_tried_38 (by decide) (fun _ => by exfalso; omega) (fun q109 => ?_)
              refine g_iconst dX12_tried_41 (inR_c rfl) ?_
              have q110 : h 98 2 = v1 := ev1.symm
              have q111 : h 98 3 = v2 := ev2.symm
              have q112 : h 98 4 = v3 := ev3.symm
              have q113 : h 98 5 = w98_5 := ew98_5.symm
              exact g_ireturn dX12_tried_42 retI (hPo _ _ ⟨hM, Fr.rf, (by omega), (by omega), f_IS, f_S1, (by omega), (by omega), (by omega), (by omega)⟩)
          · skip
            refine g_isubB dX12_tried_34 (by omega) (by omega) ?_
            exfalso; omega
      · skip
        refine g_isubB dX12_tried_23 (by omega) (by omega) ?_
        refine g_cVP (as := [_]) (c_X12_isRoof_98 _ h hM (by omega) (by omega)) dX12_tried_24 mi_X12_isRoof in_X12_isRoof se_X12_isRoof ml_X12_198 rfl rfl rfl sh_98 rfl rfl (Nat.le_of_ble_eq_true rfl) (fun v114 q115 => ?_)
        have q116 : h 98 2 = v1 := ev1.symm
        rcases q115 with ⟨rfl, q115⟩ | ⟨rfl, q115⟩
        · skip
          refine g_if_ne 43 dX12_tried_27 (by decide) (fun q117 => ?_) (fun _ => by exfalso; omega)
          refine g_aload_n dX12_tried_43 rfl ?_
          refine g_iconst dX12_tried_44 (inR_c rfl) ?_
          have q118 : h 98 2 = v1 := ev1.symm
          have q119 : h 98 3 = v2 := ev2.symm
          have q120 : h 98 4 = v3 := ev3.symm
          have q121 : h 98 5 = w98_5 := ew98_5.symm
          refine g_cVV (as := [_]) (c_X12_setsAside_98_k0 _ _ h hM f_IS f_S1) dX12_tried_45 mi_X12_setsAside in_X12_setsAside se_X12_setsAside ml_X12_419 rfl rfl rfl sh_98 rfl rfl (Nat.le_of_ble_eq_true rfl) (fun h122 q123 => ?_)
          obtain ⟨hMh122, hFh122, z124, z125, z126, z127, z128, z129⟩ := q123
          have kz126 : h122 145 0 = v1 := by omega
          have kz127 : h122 145 1 = v2 := by omega
          have kz128 : h122 145 2 = v3 := by omega
          have kz129 : h122 145 3 = w98_5 := by omega
          refine g_aload_n dX12_tried_48 rfl ?_
          refine g_iconst dX12_tried_49 (inR_c rfl) ?_
          refine pI_X12_366 rfl dX12_tried_50 sh_98 (fun h130 eh130 => ?_)
          have hFh130 := Fr.st eh130
          have hMh130 := u_98_51 hMh122 eh130 (by omega) (by omega)
          refine g_aload_n dX12_tried_53 rfl ?_
          refine g_iload_n dX12_tried_54 rfl (fun _ => ?_)
          have q131 : h130 98 5 = w98_5 := ((hFh130 98 5 rfl).trans ((hFh122 98 5 rfl).trans ew98_5.symm))
          have q132 : h130 98 5 = w98_5 := ((hFh130 98 5 rfl).trans ((hFh122 98 5 rfl).trans ew98_5.symm))
          refine g_cVV (as := [_]) (c_X12_goesOn_98 _ h130 hMh130 (by omega) (by omega) (by omega) (by omega) (WFL.fr (T := [(98, 52), (130, 0), (131, 0), (132, 0), (133, 0), (134, 0), (135, 0), (136, 0), (137, 0), (138, 0), (139, 0), (140, 0), (141, 0), (142, 0), (143, 0), (144, 0), (145, 1), (145, 2), (145, 3), (145, 4), (145, 5), (145, 6)]) f_WFL (Fr.tr (Fr.sub hFh122 rfl) hFh130 rfl) rfl)) dX12_tried_55 mi_X12_goesOn in_X12_goesOn se_X12_goesOn ml_X12_401 rfl rfl rfl sh_98 rfl rfl (Nat.le_of_ble_eq_true rfl) (fun h133 q134 => ?_)
          obtain ⟨hMh133, hFh133, z135⟩ := q134
          have kz135 : h133 98 5 = (w98_5 + x1) := by omega
          refine g_iload_n dX12_tried_58 rfl (fun _ => ?_)
          refine g_if_ne 69 dX12_tried_59 (by decide) (fun q136 => ?_) (fun _ => by exfalso; omega)
          refine g_iload_n dX12_tried_69 rfl (fun _ => ?_)
          refine g_iconst dX12_tried_70 (inR_c rfl) ?_
          refine g_icmp_ne 81 dX12_tried_71 (by decide) (fun q137 => ?_) (fun _ => by exfalso; omega)
          refine g_iload_n dX12_tried_81 rfl (fun _ => ?_)
          refine g_iconst dX12_tried_82 (inR_c rfl) ?_
          refine g_icmp_ne 93 dX12_tried_83 (by decide) (fun q138 => ?_) (fun _ => by exfalso; omega)
          refine g_iload_n dX12_tried_93 rfl (fun _ => ?_)
          refine g_iconst dX12_tried_94 (inR_c rfl) ?_
          refine g_icmp_ne 105 dX12_tried_95 (by decide) (fun q139 => ?_) (fun _ => by exfalso; omega)
          refine g_iload_n dX12_tried_105 rfl (fun _ => ?_)
          refine g_bipush dX12_tried_106 (inR_c rfl) (by decide) ?_
          refine g_icmp_ge 123 dX12_tried_108 (by decide) (fun _ => by exfalso; omega) (fun q140 => ?_)
          refine g_aload_n dX12_tried_111 rfl ?_
          refine gR_X12_21 rfl dX12_tried_112 sh_98 (b := 101) (m_98_9 hMh133) ?_
          refine g_iload_n dX12_tried_115 rfl (fun _ => ?_)
          refine g_bipush dX12_tried_116 (inR_c rfl) (by decide) ?_
          refine g_isubB dX12_tried_118 (by omega) (by omega) ?_
          refine g_ialdB dX12_tried_119 sh_101 (by omega) (by omega) (m_101 hMh133 _) (fun v141 ev141 bv141 cv141 => ?_)
          refine g_goto 132 dX12_tried_120 (by decide) ?_
          refine g_istore_n dX12_tried_132 (by decide) rfl ?_
          refine g_aload_n dX12_tried_133 rfl ?_
          refine g_iconst dX12_tried_134 (inR_c rfl) ?_
          have q142 : h133 145 0 = v1 := ((hFh133 145 _ rfl).trans ((hFh130 145 _ rfl).trans kz126))
          have q143 : h133 145 1 = v2 := ((hFh133 145 _ rfl).trans ((hFh130 145 _ rfl).trans kz127))
          have q144 : h133 145 2 = v3 := ((hFh133 145 _ rfl).trans ((hFh130 145 _ rfl).trans kz128))
          have q145 : h133 145 3 = w98_5 := ((hFh133 145 _ rfl).trans ((hFh130 145 _ rfl).trans kz129))
          refine g_cVV (as := [_]) (c_X12_putsBack_98_k0 _ h133 hMh133 (S0n.fr (T := [(98, 6), (98, 7), (98, 8), (98, 47), (98, 48), (98, 49), (98, 52), (101, 0), (105, 0), (107, 0), (111, 0), (112, 0), (113, 0), (128, 0), (129, 0)]) z124 (Fr.tr (Fr.sub hFh130 rfl) hFh133 rfl) rfl)) dX12_tried_135 mi_X12_putsBack in_X12_putsBack se_X12_putsBack ml_X12_428 rfl rfl rfl sh_98 rfl rfl (Nat.le_of_ble_eq_true rfl) (fun h146 q147 => ?_)
          obtain ⟨hMh146, hFh146, z148, z149, z150, z151, z152⟩ := q147
          have kz149 : h146 98 2 = v1 := by omega
          have kz150 : h146 98 3 = v2 := by omega
          have kz151 : h146 98 4 = v3 := by omega
          have kz152 : h146 98 5 = w98_5 := by omega
          refine g_iload_n dX12_tried_138 rfl (fun _ => ?_)
          have q153 : h146 98 2 = v1 := kz149
          have q154 : h146 98 3 = v2 := kz150
          have q155 : h146 98 4 = v3 := kz151
          have q156 : h146 98 5 = w98_5 := kz152
          exact g_ireturn dX12_tried_139 retI (hPo _ _ ⟨hMh146, (Fr.tr (Fr.tr (Fr.tr (Fr.sub hFh122 rfl) hFh130 rfl) hFh133 rfl) hFh146 rfl), (by omega), (by omega), z148, (S1n.fr (T := [(98, 3), (98, 4), (98, 5), (98, 6), (98, 7), (98, 8), (98, 47), (98, 48), (98, 49), (98, 52), (100, 0), (101, 0), (102, 0), (103, 0), (104, 0), (105, 0), (106, 0), (107, 0), (108, 0), (109, 0), (110, 0), (111, 0), (112, 0), (113, 0), (114, 0), (128, 0), (129, 0)]) z125 (Fr.tr (Fr.tr (Fr.sub hFh130 rfl) hFh133 rfl) hFh146 rfl) rfl), (by omega), (by omega), (by omega), (by omega)⟩)
        · skip
          refine g_if_ne 43 dX12_tried_27 (by decide) (fun _ => by exfalso; omega) (fun q157 => ?_)
          refine g_aload_n dX12_tried_30 rfl ?_
          refine g_iload_n dX12_tried_31 rfl (fun _ => ?_)
          refine g_bipush dX12_tried_32 (inR_c rfl) (by decide) ?_
          rcases (show (x2 - 20) < -2147483648 ∨ (-2147483648 ≤ (x2 - 20) ∧ (x2 - 20) ≤ 2147483647) by omega) with q158 | q158
          · skip
            refine g_isubV (v := ((x2 - 20) + 4294967296)) dX12_tried_34 (by unfold w32; omega) ?_
            refine g_cVP (as := [_]) (c_X12_isMaster_98 _ h hM (by omega) (by omega)) dX12_tried_35 mi_X12_isMaster in_X12_isMaster se_X12_isMaster ml_X12_201 rfl rfl rfl sh_98 rfl rfl (Nat.le_of_ble_eq_true rfl) (fun v159 q160 => ?_)
            have q161 : h 98 4 = v3 := ev3.symm
            rcases q160 with ⟨rfl, q160⟩ | ⟨rfl, q160⟩
            · skip
              exfalso; omega
            · skip
              refine g_if_ne 43 dX12_tried_38 (by decide) (fun _ => by exfalso; omega) (fun q162 => ?_)
              refine g_iconst dX12_tried_41 (inR_c rfl) ?_
              have q163 : h 98 2 = v1 := ev1.symm
              have q164 : h 98 3 = v2 := ev2.symm
              have q165 : h 98 4 = v3 := ev3.symm
              have q166 : h 98 5 = w98_5 := ew98_5.symm
              exact g_ireturn dX12_tried_42 retI (hPo _ _ ⟨hM, Fr.rf, (by omega), (by omega), f_IS, f_S1, (by omega), (by omega), (by omega), (by omega)⟩)
          · skip
            refine g_isubB dX12_tried_34 (by omega) (by omega) ?_
            refine g_cVP (as := [_]) (c_X12_isMaster_98 _ h hM (by omega) (by omega)) dX12_tried_35 mi_X12_isMaster in_X12_isMaster se_X12_isMaster ml_X12_201 rfl rfl rfl sh_98 rfl rfl (Nat.le_of_ble_eq_true rfl) (fun v167 q168 => ?_)
            have q169 : h 98 4 = v3 := ev3.symm
            rcases q168 with ⟨rfl, q168⟩ | ⟨rfl, q168⟩
            · skip
              refine g_if_ne 43 dX12_tried_38 (by decide) (fun q170 => ?_) (fun _ => by exfalso; omega)
              refine g_aload_n dX12_tried_43 rfl ?_
              refine g_iconst dX12_tried_44 (inR_c rfl) ?_
              have q171 : h 98 2 = v1 := ev1.symm
              have q172 : h 98 3 = v2 := ev2.symm
              have q173 : h 98 4 = v3 := ev3.symm
              have q174 : h 98 5 = w98_5 := ew98_5.symm
              refine g_cVV (as := [_]) (c_X12_setsAside_98_k0 _ _ h hM f_IS f_S1) dX12_tried_45 mi_X12_setsAside in_X12_setsAside se_X12_setsAside ml_X12_419 rfl rfl rfl sh_98 rfl rfl (Nat.le_of_ble_eq_true rfl) (fun h175 q176 => ?_)
              obtain ⟨hMh175, hFh175, z177, z178, z179, z180, z181, z182⟩ := q176
              have kz179 : h175 145 0 = v1 := by omega
              have kz180 : h175 145 1 = v2 := by omega
              have kz181 : h175 145 2 = v3 := by omega
              have kz182 : h175 145 3 = w98_5 := by omega
              refine g_aload_n dX12_tried_48 rfl ?_
              refine g_iconst dX12_tried_49 (inR_c rfl) ?_
              refine pI_X12_366 rfl dX12_tried_50 sh_98 (fun h183 eh183 => ?_)
              have hFh183 := Fr.st eh183
              have hMh183 := u_98_51 hMh175 eh183 (by omega) (by omega)
              refine g_aload_n dX12_tried_53 rfl ?_
              refine g_iload_n dX12_tried_54 rfl (fun _ => ?_)
              have q184 : h183 98 5 = w98_5 := ((hFh183 98 5 rfl).trans ((hFh175 98 5 rfl).trans ew98_5.symm))
              have q185 : h183 98 5 = w98_5 := ((hFh183 98 5 rfl).trans ((hFh175 98 5 rfl).trans ew98_5.symm))
              refine g_cVV (as := [_]) (c_X12_goesOn_98 _ h183 hMh183 (by omega) (by omega) (by omega) (by omega) (WFL.fr (T := [(98, 52), (130, 0), (131, 0), (132, 0), (133, 0), (134, 0), (135, 0), (136, 0), (137, 0), (138, 0), (139, 0), (140, 0), (141, 0), (142, 0), (143, 0), (144, 0), (145, 1), (145, 2), (145, 3), (145, 4), (145, 5), (145, 6)]) f_WFL (Fr.tr (Fr.sub hFh175 rfl) hFh183 rfl) rfl)) dX12_tried_55 mi_X12_goesOn in_X12_goesOn se_X12_goesOn ml_X12_401 rfl rfl rfl sh_98 rfl rfl (Nat.le_of_ble_eq_true rfl) (fun h186 q187 => ?_)
              obtain ⟨hMh186, hFh186, z188⟩ := q187
              have kz188 : h186 98 5 = (w98_5 + x1) := by omega
              refine g_iload_n dX12_tried_58 rfl (fun _ => ?_)
              refine g_if_ne 69 dX12_tried_59 (by decide) (fun q189 => ?_) (fun _ => by exfalso; omega)
              refine g_iload_n dX12_tried_69 rfl (fun _ => ?_)
              refine g_iconst dX12_tried_70 (inR_c rfl) ?_
              refine g_icmp_ne 81 dX12_tried_71 (by decide) (fun q190 => ?_) (fun _ => by exfalso; omega)
              refine g_iload_n dX12_tried_81 rfl (fun _ => ?_)
              refine g_iconst dX12_tried_82 (inR_c rfl) ?_
              refine g_icmp_ne 93 dX12_tried_83 (by decide) (fun q191 => ?_) (fun _ => by exfalso; omega)
              refine g_iload_n dX12_tried_93 rfl (fun _ => ?_)
              refine g_iconst dX12_tried_94 (inR_c rfl) ?_
              refine g_icmp_ne 105 dX12_tried_95 (by decide) (fun q192 => ?_) (fun _ => by exfalso; omega)
              refine g_iload_n dX12_tried_105 rfl (fun _ => ?_)
              refine g_bipush dX12_tried_106 (inR_c rfl) (by decide) ?_
              refine g_icmp_ge 123 dX12_tried_108 (by decide) (fun q193 => ?_) (fun _ => by exfalso; omega)
              refine g_aload_n dX12_tried_123 rfl ?_
              refine gR_X12_52 rfl dX12_tried_124 sh_98 (b := 111) (m_98_19 hMh186) ?_
              refine g_iload_n dX12_tried_127 rfl (fun _ => ?_)
              refine g_bipush dX12_tried_128 (inR_c rfl) (by decide) ?_
              refine g_isubB dX12_tried_130 (by omega) (by omega) ?_
              refine g_ialdB dX12_tried_131 sh_111 (by omega) (by omega) (m_111 hMh186 _) (fun v194 ev194 bv194 cv194 => ?_)
              refine g_istore_n dX12_tried_132 (by decide) rfl ?_
              refine g_aload_n dX12_tried_133 rfl ?_
              refine g_iconst dX12_tried_134 (inR_c rfl) ?_
              have q195 : h186 145 0 = v1 := ((hFh186 145 _ rfl).trans ((hFh183 145 _ rfl).trans kz179))
              have q196 : h186 145 1 = v2 := ((hFh186 145 _ rfl).trans ((hFh183 145 _ rfl).trans kz180))
              have q197 : h186 145 2 = v3 := ((hFh186 145 _ rfl).trans ((hFh183 145 _ rfl).trans kz181))
              have q198 : h186 145 3 = w98_5 := ((hFh186 145 _ rfl).trans ((hFh183 145 _ rfl).trans kz182))
              refine g_cVV (as := [_]) (c_X12_putsBack_98_k0 _ h186 hMh186 (S0n.fr (T := [(98, 6), (98, 7), (98, 8), (98, 47), (98, 48), (98, 49), (98, 52), (101, 0), (105, 0), (107, 0), (111, 0), (112, 0), (113, 0), (128, 0), (129, 0)]) z177 (Fr.tr (Fr.sub hFh183 rfl) hFh186 rfl) rfl)) dX12_tried_135 mi_X12_putsBack in_X12_putsBack se_X12_putsBack ml_X12_428 rfl rfl rfl sh_98 rfl rfl (Nat.le_of_ble_eq_true rfl) (fun h199 q200 => ?_)
              obtain ⟨hMh199, hFh199, z201, z202, z203, z204, z205⟩ := q200
              have kz202 : h199 98 2 = v1 := by omega
              have kz203 : h199 98 3 = v2 := by omega
              have kz204 : h199 98 4 = v3 := by omega
              have kz205 : h199 98 5 = w98_5 := by omega
              refine g_iload_n dX12_tried_138 rfl (fun _ => ?_)
              have q206 : h199 98 2 = v1 := kz202
              have q207 : h199 98 3 = v2 := kz203
              have q208 : h199 98 4 = v3 := kz204
              have q209 : h199 98 5 = w98_5 := kz205
              exact g_ireturn dX12_tried_139 retI (hPo _ _ ⟨hMh199, (Fr.tr (Fr.tr (Fr.tr (Fr.sub hFh175 rfl) hFh183 rfl) hFh186 rfl) hFh199 rfl), (by omega), (by omega), z201, (S1n.fr (T := [(98, 3), (98, 4), (98, 5), (98, 6), (98, 7), (98, 8), (98, 47), (98, 48), (98, 49), (98, 52), (100, 0), (101, 0), (102, 0), (103, 0), (104, 0), (105, 0), (106, 0), (107, 0), (108, 0), (109, 0), (110, 0), (111, 0), (112, 0), (113, 0), (114, 0), (128, 0), (129, 0)]) z178 (Fr.tr (Fr.tr (Fr.sub hFh183 rfl) hFh186 rfl) hFh199 rfl) rfl), (by omega), (by omega), (by omega), (by omega)⟩)
            · skip
              refine g_if_ne 43 dX12_tried_38 (by decide) (fun _ => by exfalso; omega) (fun q210 => ?_)
              refine g_iconst dX12_tried_41 (inR_c rfl) ?_
              have q211 : h 98 2 = v1 := ev1.symm
              have q212 : h 98 3 = v2 := ev2.symm
              have q213 : h 98 4 = v3 := ev3.symm
              have q214 : h 98 5 = w98_5 := ew98_5.symm
              exact g_ireturn dX12_tried_42 retI (hPo _ _ ⟨hM, Fr.rf, (by omega), (by omega), f_IS, f_S1, (by omega), (by omega), (by omega), (by omega)⟩)
  · skip
    refine g_if_eq 41 dX12_tried_4 (by decide) (fun q215 => ?_) (fun _ => by exfalso; omega)
    refine g_iconst dX12_tried_41 (inR_c rfl) ?_
    have q216 : h 98 2 = v1 := ev1.symm
    have q217 : h 98 3 = v2 := ev2.symm
    have q218 : h 98 4 = v3 := ev3.symm
    have q219 : h 98 5 = w98_5 := ew98_5.symm
    exact g_ireturn dX12_tried_42 retI (hPo _ _ ⟨hM, Fr.rf, (by omega), (by omega), f_IS, f_S1, (by omega), (by omega), (by omega), (by omega)⟩)
