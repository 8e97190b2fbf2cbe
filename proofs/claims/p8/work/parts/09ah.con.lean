set_option maxRecDepth 100000 in
set_option maxHeartbeats 4000000 in
theorem c_X12_undo_98 (gi gs : Nat → Int) (h : MEM) (hM : MBm h) (f_IS : ISn gi h) (f_S1 : S1n gs h) : CI yX12_undo cX12_undo 1 (some .boolean) 2 [pR 98] h (fun x h' => MBm h' ∧ Fr [(98, 3), (98, 4), (98, 5), (98, 6), (98, 7), (98, 8), (100, 0), (101, 0), (102, 0), (103, 0), (104, 0), (105, 0), (106, 0), (107, 0), (108, 0), (109, 0), (110, 0), (111, 0), (112, 0), (113, 0), (114, 0)] h h' ∧ 0 ≤ x ∧ x ≤ 1 ∧ ((h 98 79 = 1 ∧ x = 1 ∧ h' 98 2 = h 145 6 ∧ h' 98 3 = h 145 7 ∧ h' 98 4 = h 145 8 ∧ h' 98 5 = h 145 9) ∨ (h 98 79 = 0 ∧ x = 0 ∧ h' 98 2 = h 98 2 ∧ h' 98 3 = h 98 3 ∧ h' 98 4 = h 98 4 ∧ h' 98 5 = h 98 5)) ∧ (h 98 79 = 1 → ISn gs h') ∧ (h 98 79 = 0 → ISn gi h')) := by
  refine CI.of (L0 := [some (pR 98)]) rfl (Nat.le_of_ble_eq_true rfl) rfl (fun Po hPo hav => ?_)
  obtain ⟨v1, ev1⟩ : ∃ z, z = h 98 79 := ⟨_, rfl⟩
  have bv1 : 0 ≤ v1 ∧ v1 ≤ 1 := by rw [ev1]; exact (m_98_79 hM)
  obtain ⟨v2, ev2⟩ : ∃ z, z = h 98 2 := ⟨_, rfl⟩
  have bv2 : 0 ≤ v2 ∧ v2 ≤ 10 := by rw [ev2]; exact (m_98_2 hM)
  obtain ⟨v3, ev3⟩ : ∃ z, z = h 98 3 := ⟨_, rfl⟩
  have bv3 : 0 ≤ v3 ∧ v3 ≤ 8 := by rw [ev3]; exact (m_98_3 hM)
  obtain ⟨v4, ev4⟩ : ∃ z, z = h 98 4 := ⟨_, rfl⟩
  have bv4 : 0 ≤ v4 ∧ v4 ≤ 8 := by rw [ev4]; exact (m_98_4 hM)
  obtain ⟨v5, ev5⟩ : ∃ z, z = h 98 5 := ⟨_, rfl⟩
  have bv5 : 0 ≤ v5 ∧ v5 ≤ 2000000000 := by rw [ev5]; exact (m_98_5 hM)
  obtain ⟨v6, ev6⟩ : ∃ z, z = h 145 6 := ⟨_, rfl⟩
  have bv6 : 0 ≤ v6 ∧ v6 ≤ 10 := by rw [ev6]; exact (m_145_6 hM)
  obtain ⟨v7, ev7⟩ : ∃ z, z = h 145 7 := ⟨_, rfl⟩
  have bv7 : 0 ≤ v7 ∧ v7 ≤ 8 := by rw [ev7]; exact (m_145_7 hM)
  obtain ⟨v8, ev8⟩ : ∃ z, z = h 145 8 := ⟨_, rfl⟩
  have bv8 : 0 ≤ v8 ∧ v8 ≤ 8 := by rw [ev8]; exact (m_145_8 hM)
  obtain ⟨v9, ev9⟩ : ∃ z, z = h 145 9 := ⟨_, rfl⟩
  have bv9 : 0 ≤ v9 ∧ v9 ≤ 2000000000 := by rw [ev9]; exact (m_145_9 hM)
  refine g_aload_n dX12_undo_0 rfl ?_
  refine gE_X12_506 rfl dX12_undo_1 sh_98 ev1.symm ?_
  refine g_if_ne 9 dX12_undo_4 (by decide) (fun q10 => ?_) (fun q10 => ?_)
  · skip
    refine g_aload_n dX12_undo_9 rfl ?_
    refine g_iconst dX12_undo_10 (inR_c rfl) ?_
    have q11 : h 145 6 = v6 := ev6.symm
    have q12 : h 145 7 = v7 := ev7.symm
    have q13 : h 145 8 = v8 := ev8.symm
    have q14 : h 145 9 = v9 := ev9.symm
    refine g_cVV (as := [_]) (c_X12_putsBack_98_k1 _ h hM f_S1) dX12_undo_11 mi_X12_putsBack in_X12_putsBack se_X12_putsBack ml_X12_428 rfl rfl rfl sh_98 rfl rfl (Nat.le_of_ble_eq_true rfl) (fun h15 q16 => ?_)
    obtain ⟨hMh15, hFh15, z17, z18, z19, z20, z21⟩ := q16
    have kz18 : h15 98 2 = v6 := by omega
    have kz19 : h15 98 3 = v7 := by omega
    have kz20 : h15 98 4 = v8 := by omega
    have kz21 : h15 98 5 = v9 := by omega
    refine g_iconst dX12_undo_14 (inR_c rfl) ?_
    have q22 : h15 98 2 = v6 := kz18
    have q23 : h15 98 3 = v7 := kz19
    have q24 : h15 98 4 = v8 := kz20
    have q25 : h15 98 5 = v9 := kz21
    exact g_ireturn dX12_undo_15 (retZ (by omega)) (hPo _ _ ⟨hMh15, (Fr.sub hFh15 rfl), (by omega), (by omega), (by omega), (fun _ => z17), (fun _ => (by exfalso; omega))⟩)
  · skip
    refine g_iconst dX12_undo_7 (inR_c rfl) ?_
    have q26 : h 98 2 = v2 := ev2.symm
    have q27 : h 98 3 = v3 := ev3.symm
    have q28 : h 98 4 = v4 := ev4.symm
    have q29 : h 98 5 = v5 := ev5.symm
    exact g_ireturn dX12_undo_8 (retZ (by omega)) (hPo _ _ ⟨hM, Fr.rf, (by omega), (by omega), (by omega), (fun _ => (by exfalso; omega)), (fun _ => f_IS)⟩)
set_option maxRecDepth 100000 in
set_option maxHeartbeats 4000000 in
theorem c_X12_numberAt_98 (x1 : Int) (h : MEM) (hM : MBm h) (bx1 : 0 ≤ x1) (dx1 : x1 ≤ 9) : CP yX12_numberAt cX12_numberAt 4 (some .int) 1 [pR 98, pI x1] h (fun x => -2147483648 ≤ x ∧ x ≤ 2147483647) := by
  refine CP.of (L0 := [some (pR 98), some (pI x1), none, none]) rfl (Nat.le_of_ble_eq_true rfl) rfl (fun Po hPo hav => ?_)
  refine g_iconst dX12_numberAt_0 (inR_c rfl) ?_
  refine g_istore_n dX12_numberAt_1 (by decide) rfl ?_
  refine g_iconst dX12_numberAt_2 (inR_c rfl) ?_
  have c4 : ∀ (n : Nat) (y1 y2 : Int) , -2147483648 ≤ y1 → y1 ≤ 2147483647 → 0 ≤ y2 → y2 ≤ 4 → 4 - y2 < (n : Int) → G yX12_numberAt cX12_numberAt 4 (some .int) none Po (1, 60, 0, 0) 4 [some (pR 98), some (pI x1), some (pI y1), some (pI y2)] [] SH h 0 0 := by
    intro n
    induction n with
    | zero =>
      intro y1 y2 by1 dy1 by2 dy2 hn
      exfalso; omega
    | succ n ih4 =>
      intro y1 y2 by1 dy1 by2 dy2 hn
      refine g_iload_n dX12_numberAt_4 rfl (fun _ => ?_)
      refine g_iconst dX12_numberAt_5 (inR_c rfl) ?_
      refine g_icmp_ge 35 dX12_numberAt_6 (by decide) (fun q3 => ?_) (fun q3 => ?_)
      · skip
        refine g_iload_n dX12_numberAt_35 rfl (fun _ => ?_)
        exact g_ireturn dX12_numberAt_36 retI (hPo _ ⟨(by omega), (by omega)⟩)
      · skip
        refine g_iload_n dX12_numberAt_9 rfl (fun _ => ?_)
        refine g_bipush dX12_numberAt_10 (inR_c rfl) (by decide) ?_
        refine g_ishlF dX12_numberAt_12 (fun v4 ev4 bv4 cv4 => ?_)
        refine g_aload_n dX12_numberAt_13 rfl ?_
        refine gR_X12_7 rfl dX12_numberAt_14 sh_98 (b := 99) (m_98_0 hM) ?_
        refine g_iconst dX12_numberAt_17 (inR_c rfl) ?_
        refine g_iload_n dX12_numberAt_18 rfl (fun _ => ?_)
        refine g_imulB dX12_numberAt_19 (by omega) (by omega) ?_
        refine g_iload_n dX12_numberAt_20 rfl (fun _ => ?_)
        refine g_iaddB dX12_numberAt_21 (by omega) (by omega) ?_
        refine g_baldB dX12_numberAt_22 sh_99 (by omega) (by omega) (m_99 hM _) (fun v5 ev5 bv5 cv5 => ?_)
        refine g_sipush dX12_numberAt_23 (inR_c rfl) (by decide) ?_
        refine g_iandX (lo := 0) (hi := 255) dX12_numberAt_26 (iand_r (by omega) (by omega)) (fun v6 ev6 bv6 cv6 => ?_)
        refine g_iorF dX12_numberAt_27 (fun v7 ev7 bv7 cv7 => ?_)
        refine g_istore_n dX12_numberAt_28 (by decide) rfl ?_
        refine g_iincB dX12_numberAt_29 rfl rfl (by omega) (by omega) ?_
        refine g_goto 4 dX12_numberAt_32 (by decide) ?_
        exact ih4 _ _ (by omega) (by omega) (by omega) (by omega) (by omega)
  refine g_istore_n dX12_numberAt_3 (by decide) rfl ?_
  exact c4 5 _ _ (by omega) (by omega) (by omega) (by omega) (by omega)
set_option maxRecDepth 100000 in
set_option maxHeartbeats 4000000 in
theorem c_X12_check_98 (x1 : Int) (h : MEM) (hM : MBm h) (bx1 : -2147483648 ≤ x1) (dx1 : x1 ≤ 2147483647) : CI yX12_check cX12_check 3 (some .int) 2 [pR 98, pI x1] h (fun x h' => MBm h' ∧ Fr [(98, 2)] h h' ∧ -2 ≤ x ∧ x ≤ 9) := by
  refine CI.of (L0 := [some (pR 98), some (pI x1), none]) rfl (Nat.le_of_ble_eq_true rfl) rfl (fun Po hPo hav => ?_)
  refine g_iload_n dX12_check_0 rfl (fun _ => ?_)
  refine g_i2l dX12_check_1 ?_
  refine g_lconst (v := 0) dX12_check_2 rfl ?_
  refine g_ldc2 (v := 10) dX12_check_3 kl_X12_410 (by decide) ?_
  refine g_cSP (av := [_, _, _]) (c_X12_lies _ _ _ h hM (by omega) (by omega) (by omega) (by omega) (by omega) (by omega)) dX12_check_6 mi_X12_lies st_X12_lies ml_X12_175 rfl rfl rfl rfl (Nat.le_of_ble_eq_true rfl) (fun v1 q2 => ?_)
  rcases q2 with ⟨rfl, q2⟩ | ⟨rfl, q2⟩
  · skip
    refine g_if_eq 22 dX12_check_9 (by decide) (fun _ => by exfalso; omega) (fun q3 => ?_)
    refine g_iload_n dX12_check_12 rfl (fun _ => ?_)
    refine g_aload_n dX12_check_13 rfl ?_
    refine gI_X12_204 rfl dX12_check_14 sh_98 (m_98_1 hM) (fun v4 ev4 bv4 cv4 => ?_)
    refine g_iconst dX12_check_17 (inR_c rfl) ?_
    refine g_idivX (lo := 0) (hi := v4) dX12_check_18 (by omega) (idiv_b (by omega) (by omega) (by omega)) (fun v5 ev5 bv5 cv5 => ?_)
    refine g_icmp_le 25 dX12_check_19 (by decide) (fun q6 => ?_) (fun q6 => ?_)
    · skip
      refine g_aload_n dX12_check_25 rfl ?_
      refine g_iconst dX12_check_26 (inR_c rfl) ?_
      refine pI_X12_204 rfl dX12_check_27 sh_98 (fun h7 eh7 => ?_)
      have hFh7 := Fr.st eh7
      have hMh7 := u_98_1 hM eh7 (by omega) (by omega)
      refine g_iconst dX12_check_30 (inR_c rfl) ?_
      have c32 : ∀ (n : Nat) (y8 : Int) , 0 ≤ y8 → y8 ≤ 10 → 10 - y8 < (n : Int) → G yX12_check cX12_check 3 (some .int) none Po (2, 120, 0, 0) 32 [some (pR 98), some (pI x1), some (pI y8)] [] SH h7 0 0 := by
        intro n
        induction n with
        | zero =>
          intro y8 by8 dy8 hn
          exfalso; omega
        | succ n ih32 =>
          intro y8 by8 dy8 hn
          refine g_iload_n dX12_check_32 rfl (fun _ => ?_)
          refine g_iload_n dX12_check_33 rfl (fun _ => ?_)
          refine g_icmp_ge 67 dX12_check_34 (by decide) (fun q9 => ?_) (fun q9 => ?_)
          · skip
            refine g_iconst dX12_check_67 (inR_c rfl) ?_
            exact g_ireturn dX12_check_68 retI (hPo _ _ ⟨hMh7, (Fr.sub hFh7 rfl), (by omega), (by omega)⟩)
          · skip
            refine g_iload_n dX12_check_37 rfl (fun _ => ?_)
            refine g_aload_n dX12_check_38 rfl ?_
            refine gI_X12_172 rfl dX12_check_39 sh_98 (m_98_2 hMh7) (fun v10 ev10 bv10 cv10 => ?_)
            refine g_icmp_eq 59 dX12_check_42 (by decide) (fun q11 => ?_) (fun q11 => ?_)
            · skip
              refine g_iload_n dX12_check_59 rfl (fun _ => ?_)
              exact g_ireturn dX12_check_60 retI (hPo _ _ ⟨hMh7, (Fr.sub hFh7 rfl), (by omega), (by omega)⟩)
            · skip
              refine g_aload_n dX12_check_45 rfl ?_
              refine g_iload_n dX12_check_46 rfl (fun _ => ?_)
              refine g_cVP (as := [_]) (c_X12_numberAt_98 _ h7 hMh7 (by omega) (by omega)) dX12_check_47 mi_X12_numberAt in_X12_numberAt se_X12_numberAt ml_X12_509 rfl rfl rfl sh_98 rfl rfl (Nat.le_of_ble_eq_true rfl) (fun v12 q13 => ?_)
              obtain ⟨bv12, cv12⟩ := q13
              refine g_aload_n dX12_check_50 rfl ?_
              refine gR_X12_21 rfl dX12_check_51 sh_98 (b := 101) (m_98_9 hMh7) ?_
              refine g_iload_n dX12_check_54 rfl (fun _ => ?_)
              refine g_ialdB dX12_check_55 sh_101 (by omega) (by omega) (m_101 hMh7 _) (fun v14 ev14 bv14 cv14 => ?_)
              refine g_icmp_eq 61 dX12_check_56 (by decide) (fun q15 => ?_) (fun q15 => ?_)
              · skip
                refine g_iincB dX12_check_61 rfl rfl (by omega) (by omega) ?_
                refine g_goto 32 dX12_check_64 (by decide) ?_
                exact ih32 _ (by omega) (by omega) (by omega)
              · skip
                refine g_iload_n dX12_check_59 rfl (fun _ => ?_)
                exact g_ireturn dX12_check_60 retI (hPo _ _ ⟨hMh7, (Fr.sub hFh7 rfl), (by omega), (by omega)⟩)
      refine g_istore_n dX12_check_31 (by decide) rfl ?_
      exact c32 11 _ (by omega) (by omega) (by omega)
    · skip
      refine g_bipush dX12_check_22 (inR_c rfl) (by decide) ?_
      exact g_ireturn dX12_check_24 retI (hPo _ _ ⟨hM, Fr.rf, (by omega), (by omega)⟩)
  · skip
    refine g_if_eq 22 dX12_check_9 (by decide) (fun q16 => ?_) (fun _ => by exfalso; omega)
    refine g_bipush dX12_check_22 (inR_c rfl) (by decide) ?_
    exact g_ireturn dX12_check_24 retI (hPo _ _ ⟨hM, Fr.rf, (by omega), (by omega)⟩)
set_option maxRecDepth 100000 in
set_option maxHeartbeats 4000000 in
theorem c_X12_count_98 (x1 : Int) (h : MEM) (hM : MBm h) (bx1 : -2147483648 ≤ x1) (dx1 : x1 ≤ 2147483647) : CP yX12_count cX12_count 2 (some .int) 2 [pR 98, pI x1] h (fun x => -2147483648 ≤ x ∧ x ≤ 2147483647) := by
  refine CP.of (L0 := [some (pR 98), some (pI x1)]) rfl (Nat.le_of_ble_eq_true rfl) rfl (fun Po hPo hav => ?_)
  refine g_iload_n dX12_count_0 rfl (fun _ => ?_)
  refine g_i2l dX12_count_1 ?_
  refine g_ldc2 (v := 100) dX12_count_2 kl_X12_512 (by decide) ?_
  refine g_ldc2 (v := 199) dX12_count_5 kl_X12_514 (by decide) ?_
  refine g_cSP (av := [_, _, _]) (c_X12_lies _ _ _ h hM (by omega) (by omega) (by omega) (by omega) (by omega) (by omega)) dX12_count_8 mi_X12_lies st_X12_lies ml_X12_175 rfl rfl rfl rfl (Nat.le_of_ble_eq_true rfl) (fun v1 q2 => ?_)
  rcases q2 with ⟨rfl, q2⟩ | ⟨rfl, q2⟩
  · skip
    refine g_if_eq 32 dX12_count_11 (by decide) (fun _ => by exfalso; omega) (fun q3 => ?_)
    refine g_aload_n dX12_count_14 rfl ?_
    refine gR_X12_61 rfl dX12_count_15 sh_98 (b := 114) (m_98_22 hM) ?_
    refine g_iload_n dX12_count_18 rfl (fun _ => ?_)
    refine g_bipush dX12_count_19 (inR_c rfl) (by decide) ?_
    refine g_isubB dX12_count_21 (by omega) (by omega) ?_
    refine g_zaldB dX12_count_22 sh_114 (by omega) (by omega) (m_114 hM _) (fun v4 ev4 bv4 cv4 => ?_)
    refine g_if_eq 30 dX12_count_23 (by decide) (fun q5 => ?_) (fun q5 => ?_)
    · skip
      refine g_iconst dX12_count_30 (inR_c rfl) ?_
      exact g_ireturn dX12_count_31 retI (hPo _ ⟨(by omega), (by omega)⟩)
    · skip
      refine g_iconst dX12_count_26 (inR_c rfl) ?_
      refine g_goto 31 dX12_count_27 (by decide) ?_
      exact g_ireturn dX12_count_31 retI (hPo _ ⟨(by omega), (by omega)⟩)
  · skip
    refine g_if_eq 32 dX12_count_11 (by decide) (fun q6 => ?_) (fun _ => by exfalso; omega)
    refine g_iload_n dX12_count_32 rfl (fun _ => ?_)
    rcases (show x1 = 0 ∨ x1 = 1 ∨ x1 = 2 ∨ x1 = 3 ∨ x1 = 4 ∨ x1 = 5 ∨ x1 = 6 ∨ x1 = 7 ∨ x1 = 8 ∨ x1 = 9 ∨ (x1 < 0 ∨ 9 < x1) by omega) with q7 | q7 | q7 | q7 | q7 | q7 | q7 | q7 | q7 | q7 | q7
    · skip
      refine g_tableIn 88 0 dX12_count_33 (by omega) (by omega) rfl (by decide) ?_
      refine g_aload_n dX12_count_88 rfl ?_
      refine gI_X12_172 rfl dX12_count_89 sh_98 (m_98_2 hM) (fun v8 ev8 bv8 cv8 => ?_)
      exact g_ireturn dX12_count_92 retI (hPo _ ⟨(by omega), (by omega)⟩)
    · skip
      refine g_tableIn 93 1 dX12_count_33 (by omega) (by omega) rfl (by decide) ?_
      refine g_aload_n dX12_count_93 rfl ?_
      refine gI_X12_179 rfl dX12_count_94 sh_98 (m_98_3 hM) (fun v9 ev9 bv9 cv9 => ?_)
      exact g_ireturn dX12_count_97 retI (hPo _ ⟨(by omega), (by omega)⟩)
    · skip
      refine g_tableIn 98 2 dX12_count_33 (by omega) (by omega) rfl (by decide) ?_
      refine g_aload_n dX12_count_98 rfl ?_
      refine gI_X12_182 rfl dX12_count_99 sh_98 (m_98_4 hM) (fun v10 ev10 bv10 cv10 => ?_)
      exact g_ireturn dX12_count_102 retI (hPo _ ⟨(by omega), (by omega)⟩)
    · skip
      refine g_tableIn 103 3 dX12_count_33 (by omega) (by omega) rfl (by decide) ?_
      refine g_aload_n dX12_count_103 rfl ?_
      refine gI_X12_321 rfl dX12_count_104 sh_98 (m_98_23 hM) (fun v11 ev11 bv11 cv11 => ?_)
      exact g_ireturn dX12_count_107 retI (hPo _ ⟨(by omega), (by omega)⟩)
    · skip
      refine g_tableIn 108 4 dX12_count_33 (by omega) (by omega) rfl (by decide) ?_
      refine g_aload_n dX12_count_108 rfl ?_
      refine gI_X12_204 rfl dX12_count_109 sh_98 (m_98_1 hM) (fun v12 ev12 bv12 cv12 => ?_)
      exact g_ireturn dX12_count_112 retI (hPo _ ⟨(by omega), (by omega)⟩)
    · skip
      refine g_tableIn 113 5 dX12_count_33 (by omega) (by omega) rfl (by decide) ?_
      refine g_aload_n dX12_count_113 rfl ?_
      refine gI_X12_334 rfl dX12_count_114 sh_98 (m_98_5 hM) (fun v13 ev13 bv13 cv13 => ?_)
      exact g_ireturn dX12_count_117 retI (hPo _ ⟨(by omega), (by omega)⟩)
    · skip
      refine g_tableIn 118 6 dX12_count_33 (by omega) (by omega) rfl (by decide) ?_
      refine g_aload_n dX12_count_118 rfl ?_
      refine gI_X12_13 rfl dX12_count_119 sh_98 (m_98_6 hM) (fun v14 ev14 bv14 cv14 => ?_)
      exact g_ireturn dX12_count_122 retI (hPo _ ⟨(by omega), (by omega)⟩)
    · skip
      refine g_tableIn 123 7 dX12_count_33 (by omega) (by omega) rfl (by decide) ?_
      refine g_aload_n dX12_count_123 rfl ?_
      refine gI_X12_372 rfl dX12_count_124 sh_98 (m_98_7 hM) (fun v15 ev15 bv15 cv15 => ?_)
      exact g_ireturn dX12_count_127 retI (hPo _ ⟨(by omega), (by omega)⟩)
    · skip
      refine g_tableIn 128 8 dX12_count_33 (by omega) (by omega) rfl (by decide) ?_
      refine g_aload_n dX12_count_128 rfl ?_
      refine g_cVP (as := []) (c_X12_allBruises_98  h hM) dX12_count_129 mi_X12_allBruises in_X12_allBruises se_X12_allBruises ml_X12_425 rfl rfl rfl sh_98 rfl rfl (Nat.le_of_ble_eq_true rfl) (fun v16 q17 => ?_)
      obtain ⟨bv16, cv16⟩ := q17
      exact g_ireturn dX12_count_132 retI (hPo _ ⟨(by omega), (by omega)⟩)
    · skip
      refine g_tableIn 133 9 dX12_count_33 (by omega) (by omega) rfl (by decide) ?_
      refine g_aload_n dX12_count_133 rfl ?_
      refine g_cVP (as := []) (c_X12_allSlates_98  h hM) dX12_count_134 mi_X12_allSlates in_X12_allSlates se_X12_allSlates ml_X12_422 rfl rfl rfl sh_98 rfl rfl (Nat.le_of_ble_eq_true rfl) (fun v18 q19 => ?_)
      obtain ⟨bv18, cv18⟩ := q19
      exact g_ireturn dX12_count_137 retI (hPo _ ⟨(by omega), (by omega)⟩)
    · skip
      refine g_tableOut 138 dX12_count_33 (by omega) (by decide) ?_
      refine g_iconst dX12_count_138 (inR_c rfl) ?_
      exact g_ireturn dX12_count_139 retI (hPo _ ⟨(by omega), (by omega)⟩)
