set_option maxRecDepth 100000 in
set_option maxHeartbeats 4000000 in
theorem c_X11_isWithin (x1 x2 x3 : Int) (h : MEM) (hM : MBx h) (bx1 : -2147483648 ≤ x1) (dx1 : x1 ≤ 2147483647) (bx2 : 0 ≤ x2) (dx2 : x2 ≤ 100) (bx3 : 0 ≤ x3) (dx3 : x3 ≤ 65535) : CP yX11_isWithin cX11_isWithin 3 (some .boolean) 1 [pI x1, pI x2, pI x3] h (fun x => (x = 1 ∧ x2 ≤ x1 + (0) ∧ x1 ≤ x3 + (0) ∨ x = 0 ∧ ¬ (x2 ≤ x1 + (0) ∧ x1 ≤ x3 + (0)))) := by
  refine CP.of (L0 := [some (pI x1), some (pI x2), some (pI x3)]) rfl (Nat.le_of_ble_eq_true rfl) rfl (fun Po hPo hav => ?_)
  refine g_iload_n dX11_isWithin_0 rfl (fun _ => ?_)
  refine g_iload_n dX11_isWithin_1 rfl (fun _ => ?_)
  refine g_icmp_lt 14 dX11_isWithin_2 (by decide) (fun q1 => ?_) (fun q1 => ?_)
  · skip
    refine g_iconst dX11_isWithin_14 (inR_c rfl) ?_
    exact g_ireturn dX11_isWithin_15 (retZ (by omega)) (hPo _ (by omega))
  · skip
    refine g_iload_n dX11_isWithin_5 rfl (fun _ => ?_)
    refine g_iload_n dX11_isWithin_6 rfl (fun _ => ?_)
    refine g_icmp_gt 14 dX11_isWithin_7 (by decide) (fun q2 => ?_) (fun q2 => ?_)
    · skip
      refine g_iconst dX11_isWithin_14 (inR_c rfl) ?_
      exact g_ireturn dX11_isWithin_15 (retZ (by omega)) (hPo _ (by omega))
    · skip
      refine g_iconst dX11_isWithin_10 (inR_c rfl) ?_
      refine g_goto 15 dX11_isWithin_11 (by decide) ?_
      exact g_ireturn dX11_isWithin_15 (retZ (by omega)) (hPo _ (by omega))
set_option maxRecDepth 100000 in
set_option maxHeartbeats 4000000 in
theorem c_X6_add_2 (x1 x2 x3 : Int) (h : MEM) (hM : MBx h) (bx1 : 0 ≤ x1) (dx1 : x1 ≤ 99) (bx2 : 0 ≤ x2) (dx2 : x2 ≤ 99) (bx3 : 0 ≤ x3) (dx3 : x3 ≤ 9) : CI yX6_add cX6_add 4 (some .int) 1 [pR 2, pI x1, pI x2, pI x3] h (fun x h' => Fr [(2, 1), (3, 0), (4, 0), (5, 0)] h h' ∧ 0 ≤ x ∧ x ≤ 0) := by
  refine CI.of (L0 := [some (pR 2), some (pI x1), some (pI x2), some (pI x3)]) rfl (Nat.le_of_ble_eq_true rfl) rfl (fun Po hPo hav => ?_)
  refine g_aload_n dX6_add_0 rfl ?_
  refine gI_X6_9 rfl dX6_add_1 sh_2 (m_2_0 hM) (fun v1 ev1 bv1 cv1 => ?_)
  refine g_bipush dX6_add_4 (inR_c rfl) (by decide) ?_
  refine g_icmp_lt 11 dX6_add_6 (by decide) (fun q2 => ?_) (fun _ => by exfalso; omega)
  refine g_aload_n dX6_add_11 rfl ?_
  refine gR_X6_15 rfl dX6_add_12 sh_2 (b := 3) (m_2_1 hM) ?_
  refine g_aload_n dX6_add_15 rfl ?_
  refine gE_X6_9 rfl dX6_add_16 sh_2 ev1.symm ?_
  refine g_iload_n dX6_add_19 rfl (fun _ => ?_)
  refine g_iastB dX6_add_20 sh_3 (by omega) (by omega) (fun h3 eh3 => ?_)
  have hFh3 := Fr.ar eh3
  refine g_aload_n dX6_add_21 rfl ?_
  refine gR_X6_19 rfl dX6_add_22 sh_2 (b := 4) ((hFh3 2 2 rfl).trans (m_2_2 hM)) ?_
  refine g_aload_n dX6_add_25 rfl ?_
  refine gE_X6_9 rfl dX6_add_26 sh_2 ((hFh3 2 0 rfl).trans ev1.symm) ?_
  refine g_iload_n dX6_add_29 rfl (fun _ => ?_)
  refine g_iastB dX6_add_30 sh_4 (by omega) (by omega) (fun h4 eh4 => ?_)
  have hFh4 := Fr.ar eh4
  refine g_aload_n dX6_add_31 rfl ?_
  refine gR_X6_22 rfl dX6_add_32 sh_2 (b := 5) ((hFh4 2 3 rfl).trans ((hFh3 2 3 rfl).trans (m_2_3 hM))) ?_
  refine g_aload_n dX6_add_35 rfl ?_
  refine gE_X6_9 rfl dX6_add_36 sh_2 ((hFh4 2 0 rfl).trans ((hFh3 2 0 rfl).trans ev1.symm)) ?_
  refine g_iload_n dX6_add_39 rfl (fun _ => ?_)
  refine g_iastB dX6_add_40 sh_5 (by omega) (by omega) (fun h5 eh5 => ?_)
  have hFh5 := Fr.ar eh5
  refine g_aload_n dX6_add_41 rfl ?_
  refine g_dup dX6_add_42 rfl ?_
  refine gE_X6_9 rfl dX6_add_43 sh_2 ((hFh5 2 0 rfl).trans ((hFh4 2 0 rfl).trans ((hFh3 2 0 rfl).trans ev1.symm))) ?_
  refine g_iconst dX6_add_46 (inR_c rfl) ?_
  refine g_iaddB dX6_add_47 (by omega) (by omega) ?_
  refine pI_X6_9 rfl dX6_add_48 sh_2 (fun h6 eh6 => ?_)
  have hFh6 := Fr.st eh6
  refine g_aload_n dX6_add_51 rfl ?_
  refine gE_X6_9 rfl dX6_add_52 sh_2 (st_at eh6) ?_
  refine g_iconst dX6_add_55 (inR_c rfl) ?_
  refine g_isubB dX6_add_56 (by omega) (by omega) ?_
  exact g_ireturn dX6_add_57 retI (hPo _ _ ⟨(Fr.tr (Fr.tr (Fr.tr (Fr.sub hFh3 rfl) hFh4 rfl) hFh5 rfl) hFh6 rfl), (by omega), (by omega)⟩)
set_option maxRecDepth 100000 in
set_option maxHeartbeats 4000000 in
theorem c_X11_roof_0 (x1 x2 x3 : Int) (h : MEM) (hM : MBx h) (bx1 : -2147483648 ≤ x1) (dx1 : x1 ≤ 2147483647) (bx2 : -2147483648 ≤ x2) (dx2 : x2 ≤ 2147483647) (bx3 : -2147483648 ≤ x3) (dx3 : x3 ≤ 2147483647) : CI yX11_roof cX11_roof 4 (some .int) 2 [pR 0, pI x1, pI x2, pI x3] h (fun x h' => Fr [(2, 1), (3, 0), (4, 0), (5, 0)] h h' ∧ ((0 ≤ x1 ∧ x1 ≤ 99 ∧ 0 ≤ x2 ∧ x2 ≤ x1 ∧ 0 ≤ x3 ∧ x3 ≤ 9) ∧ x = 0 ∨ ¬ (0 ≤ x1 ∧ x1 ≤ 99 ∧ 0 ≤ x2 ∧ x2 ≤ x1 ∧ 0 ≤ x3 ∧ x3 ≤ 9) ∧ x = -1)) := by
  refine CI.of (L0 := [some (pR 0), some (pI x1), some (pI x2), some (pI x3)]) rfl (Nat.le_of_ble_eq_true rfl) rfl (fun Po hPo hav => ?_)
  refine g_iload_n dX11_roof_0 rfl (fun _ => ?_)
  refine g_iconst dX11_roof_1 (inR_c rfl) ?_
  refine g_bipush dX11_roof_2 (inR_c rfl) (by decide) ?_
  refine g_cSP (av := [_, _, _]) (c_X11_isWithin _ _ _ h hM (by omega) (by omega) (by omega) (by omega) (by omega) (by omega)) dX11_roof_4 mi_X11_isWithin st_X11_isWithin ml_X11_81 rfl rfl rfl rfl (Nat.le_of_ble_eq_true rfl) (fun v1 q2 => ?_)
  rcases q2 with ⟨rfl, q2⟩ | ⟨rfl, q2⟩
  · skip
    refine g_if_eq 29 dX11_roof_7 (by decide) (fun _ => by exfalso; omega) (fun q3 => ?_)
    refine g_iload_n dX11_roof_10 rfl (fun _ => ?_)
    refine g_iconst dX11_roof_11 (inR_c rfl) ?_
    refine g_iload_n dX11_roof_12 rfl (fun _ => ?_)
    refine g_cSP (av := [_, _, _]) (c_X11_isWithin _ _ _ h hM (by omega) (by omega) (by omega) (by omega) (by omega) (by omega)) dX11_roof_13 mi_X11_isWithin st_X11_isWithin ml_X11_81 rfl rfl rfl rfl (Nat.le_of_ble_eq_true rfl) (fun v4 q5 => ?_)
    rcases q5 with ⟨rfl, q5⟩ | ⟨rfl, q5⟩
    · skip
      refine g_if_eq 29 dX11_roof_16 (by decide) (fun _ => by exfalso; omega) (fun q6 => ?_)
      refine g_iload_n dX11_roof_19 rfl (fun _ => ?_)
      refine g_iconst dX11_roof_20 (inR_c rfl) ?_
      refine g_bipush dX11_roof_21 (inR_c rfl) (by decide) ?_
      refine g_cSP (av := [_, _, _]) (c_X11_isWithin _ _ _ h hM (by omega) (by omega) (by omega) (by omega) (by omega) (by omega)) dX11_roof_23 mi_X11_isWithin st_X11_isWithin ml_X11_81 rfl rfl rfl rfl (Nat.le_of_ble_eq_true rfl) (fun v7 q8 => ?_)
      rcases q8 with ⟨rfl, q8⟩ | ⟨rfl, q8⟩
      · skip
        refine g_if_ne 31 dX11_roof_26 (by decide) (fun q9 => ?_) (fun _ => by exfalso; omega)
        refine g_aload_n dX11_roof_31 rfl ?_
        refine gR_X11_10 rfl dX11_roof_32 sh_0 (b := 1) (m_0_0 hM) ?_
        refine gR_X11_85 rfl dX11_roof_35 sh_1 (b := 2) (m_1_0 hM) ?_
        refine g_iload_n dX11_roof_38 rfl (fun _ => ?_)
        refine g_iload_n dX11_roof_39 rfl (fun _ => ?_)
        refine g_iload_n dX11_roof_40 rfl (fun _ => ?_)
        refine g_cV (as := [_, _, _]) (c_X6_add_2 _ _ _ h hM (by omega) (by omega) (by omega) (by omega) (by omega) (by omega)) dX11_roof_41 mi_X6_add in_X6_add se_X6_add ml_X11_89 rfl rfl rfl sh_2 rfl rfl (Nat.le_of_ble_eq_true rfl) (fun v10 h11 q12 => ?_)
        obtain ⟨hFh11, bv10, cv10⟩ := q12
        exact g_ireturn dX11_roof_44 retI (hPo _ _ ⟨(Fr.sub hFh11 rfl), (by omega)⟩)
      · skip
        refine g_if_ne 31 dX11_roof_26 (by decide) (fun _ => by exfalso; omega) (fun q13 => ?_)
        refine g_iconst dX11_roof_29 (inR_c rfl) ?_
        exact g_ireturn dX11_roof_30 retI (hPo _ _ ⟨Fr.rf, (by omega)⟩)
    · skip
      refine g_if_eq 29 dX11_roof_16 (by decide) (fun q14 => ?_) (fun _ => by exfalso; omega)
      refine g_iconst dX11_roof_29 (inR_c rfl) ?_
      exact g_ireturn dX11_roof_30 retI (hPo _ _ ⟨Fr.rf, (by omega)⟩)
  · skip
    refine g_if_eq 29 dX11_roof_7 (by decide) (fun q15 => ?_) (fun _ => by exfalso; omega)
    refine g_iconst dX11_roof_29 (inR_c rfl) ?_
    exact g_ireturn dX11_roof_30 retI (hPo _ _ ⟨Fr.rf, (by omega)⟩)
set_option maxRecDepth 100000 in
set_option maxHeartbeats 4000000 in
theorem c_X12_lies (x1 x2 x3 : Int) (h : MEM) (hM : MBm h) (bx1 : -2147483648 ≤ x1) (dx1 : x1 ≤ 2147483647) (bx2 : -2147483648 ≤ x2) (dx2 : x2 ≤ 2147483647) (bx3 : -2147483648 ≤ x3) (dx3 : x3 ≤ 2147483647) : CP yX12_lies cX12_lies 6 (some .boolean) 1 [pL x1, pL x2, pL x3] h (fun x => (x = 1 ∧ x2 ≤ x1 + (0) ∧ x1 ≤ x3 + (0) ∨ x = 0 ∧ ¬ (x2 ≤ x1 + (0) ∧ x1 ≤ x3 + (0)))) := by
  refine CP.of (L0 := [some (pL x1), none, some (pL x2), none, some (pL x3), none]) rfl (Nat.le_of_ble_eq_true rfl) rfl (fun Po hPo hav => ?_)
  refine g_lload_n dX12_lies_0 rfl (fun _ => ?_)
  refine g_lload_n dX12_lies_1 rfl (fun _ => ?_)
  refine g_lcmp dX12_lies_2 ?_
  refine g_if_lt 17 dX12_lies_3 (by decide) (fun q1 => ?_) (fun q1 => ?_)
  · refine g_iconst dX12_lies_17 (inR_c rfl) ?_
    exact g_ireturn dX12_lies_18 (retZ (by omega)) (hPo _ (by split at q1 <;> (try split at q1) <;> omega))
  · refine g_lload_n dX12_lies_6 rfl (fun _ => ?_)
    refine g_lload dX12_lies_7 rfl (fun _ => ?_)
    refine g_lcmp dX12_lies_9 ?_
    refine g_if_gt 17 dX12_lies_10 (by decide) (fun q2 => ?_) (fun q2 => ?_)
    · refine g_iconst dX12_lies_17 (inR_c rfl) ?_
      exact g_ireturn dX12_lies_18 (retZ (by omega)) (hPo _ (by split at q1 <;> (try split at q1) <;> split at q2 <;> (try split at q2) <;> omega))
    · refine g_iconst dX12_lies_13 (inR_c rfl) ?_
      refine g_goto 18 dX12_lies_14 (by decide) ?_
      exact g_ireturn dX12_lies_18 (retZ (by omega)) (hPo _ (by split at q1 <;> (try split at q1) <;> split at q2 <;> (try split at q2) <;> omega))

set_option maxRecDepth 100000 in
set_option maxHeartbeats 4000000 in
theorem c_X12_isDigit (x1 : Int) (h : MEM) (hM : MBm h) (bx1 : -2147483648 ≤ x1) (dx1 : x1 ≤ 2147483647) : CP yX12_isDigit cX12_isDigit 1 (some .boolean) 2 [pI x1] h (fun x => (x = 1 ∧ 0 ≤ x1 + (0) ∧ x1 ≤ 9 + (0) ∨ x = 0 ∧ ¬ (0 ≤ x1 + (0) ∧ x1 ≤ 9 + (0)))) := by
  refine CP.of (L0 := [some (pI x1)]) rfl (Nat.le_of_ble_eq_true rfl) rfl (fun Po hPo hav => ?_)
  refine g_iload_n dX12_isDigit_0 rfl (fun _ => ?_)
  refine g_i2l dX12_isDigit_1 ?_
  refine g_lconst (v := 0) dX12_isDigit_2 rfl ?_
  refine g_ldc2 (v := 9) dX12_isDigit_3 kl_X12_185 (by decide) ?_
  refine g_cSP (av := [_, _, _]) (c_X12_lies _ _ _ h hM (by omega) (by omega) (by omega) (by omega) (by omega) (by omega)) dX12_isDigit_6 mi_X12_lies st_X12_lies ml_X12_175 rfl rfl rfl rfl (Nat.le_of_ble_eq_true rfl) (fun v1 q2 => ?_)
  rcases q2 with ⟨rfl, q2⟩ | ⟨rfl, q2⟩
  · skip
    exact g_ireturn dX12_isDigit_9 (retZ (by omega)) (hPo _ (by omega))
  · skip
    exact g_ireturn dX12_isDigit_9 (retZ (by omega)) (hPo _ (by omega))
set_option maxRecDepth 100000 in
set_option maxHeartbeats 4000000 in
theorem c_X12_roof_98 (x1 x2 x3 : Int) (h : MEM) (hM : MBm h) (bx1 : -2147483648 ≤ x1) (dx1 : x1 ≤ 2147483647) (bx2 : -2147483648 ≤ x2) (dx2 : x2 ≤ 2147483647) (bx3 : -2147483648 ≤ x3) (dx3 : x3 ≤ 2147483647) : CI yX12_roof cX12_roof 4 (some .int) 3 [pR 98, pI x1, pI x2, pI x3] h (fun x h' => Fr [(98, 3), (100, 0), (101, 0), (102, 0)] h h' ∧ ((0 ≤ x1 ∧ x1 ≤ 99 ∧ 0 ≤ x2 ∧ x2 ≤ x1 ∧ 0 ≤ x3 ∧ x3 ≤ 9) ∧ x = 0 ∨ ¬ (0 ≤ x1 ∧ x1 ≤ 99 ∧ 0 ≤ x2 ∧ x2 ≤ x1 ∧ 0 ≤ x3 ∧ x3 ≤ 9) ∧ x = -1)) := by
  refine CI.of (L0 := [some (pR 98), some (pI x1), some (pI x2), some (pI x3)]) rfl (Nat.le_of_ble_eq_true rfl) rfl (fun Po hPo hav => ?_)
  refine g_iload_n dX12_roof_0 rfl (fun _ => ?_)
  refine g_i2l dX12_roof_1 ?_
  refine g_lconst (v := 0) dX12_roof_2 rfl ?_
  refine g_ldc2 (v := 99) dX12_roof_3 kl_X12_187 (by decide) ?_
  refine g_cSP (av := [_, _, _]) (c_X12_lies _ _ _ h hM (by omega) (by omega) (by omega) (by omega) (by omega) (by omega)) dX12_roof_6 mi_X12_lies st_X12_lies ml_X12_175 rfl rfl rfl rfl (Nat.le_of_ble_eq_true rfl) (fun v1 q2 => ?_)
  rcases q2 with ⟨rfl, q2⟩ | ⟨rfl, q2⟩
  · skip
    refine g_if_eq 39 dX12_roof_9 (by decide) (fun _ => by exfalso; omega) (fun q3 => ?_)
    refine g_iload_n dX12_roof_12 rfl (fun _ => ?_)
    refine g_i2l dX12_roof_13 ?_
    refine g_lconst (v := 0) dX12_roof_14 rfl ?_
    refine g_iload_n dX12_roof_15 rfl (fun _ => ?_)
    refine g_i2l dX12_roof_16 ?_
    refine g_cSP (av := [_, _, _]) (c_X12_lies _ _ _ h hM (by omega) (by omega) (by omega) (by omega) (by omega) (by omega)) dX12_roof_17 mi_X12_lies st_X12_lies ml_X12_175 rfl rfl rfl rfl (Nat.le_of_ble_eq_true rfl) (fun v4 q5 => ?_)
    rcases q5 with ⟨rfl, q5⟩ | ⟨rfl, q5⟩
    · skip
      refine g_if_eq 39 dX12_roof_20 (by decide) (fun _ => by exfalso; omega) (fun q6 => ?_)
      refine g_iload_n dX12_roof_23 rfl (fun _ => ?_)
      refine g_cSP (av := [_]) (c_X12_isDigit _ h hM (by omega) (by omega)) dX12_roof_24 mi_X12_isDigit st_X12_isDigit ml_X12_189 rfl rfl rfl rfl (Nat.le_of_ble_eq_true rfl) (fun v7 q8 => ?_)
      rcases q8 with ⟨rfl, q8⟩ | ⟨rfl, q8⟩
      · skip
        refine g_if_eq 39 dX12_roof_27 (by decide) (fun _ => by exfalso; omega) (fun q9 => ?_)
        refine g_aload_n dX12_roof_30 rfl ?_
        refine gI_X12_172 rfl dX12_roof_31 sh_98 (m_98_2 hM) (fun v10 ev10 bv10 cv10 => ?_)
        refine g_bipush dX12_roof_34 (inR_c rfl) (by decide) ?_
        refine g_icmp_ne 41 dX12_roof_36 (by decide) (fun q11 => ?_) (fun _ => by exfalso; omega)
        refine g_aload_n dX12_roof_41 rfl ?_
        refine gR_X12_17 rfl dX12_roof_42 sh_98 (b := 100) (m_98_8 hM) ?_
        refine g_aload_n dX12_roof_45 rfl ?_
        refine gE_X12_172 rfl dX12_roof_46 sh_98 ev10.symm ?_
        refine g_iload_n dX12_roof_49 rfl (fun _ => ?_)
        refine g_iastB dX12_roof_50 sh_100 (by omega) (by omega) (fun h12 eh12 => ?_)
        have hFh12 := Fr.ar eh12
        refine g_aload_n dX12_roof_51 rfl ?_
        refine gR_X12_21 rfl dX12_roof_52 sh_98 (b := 101) ((hFh12 98 9 rfl).trans (m_98_9 hM)) ?_
        refine g_aload_n dX12_roof_55 rfl ?_
        refine gE_X12_172 rfl dX12_roof_56 sh_98 ((hFh12 98 2 rfl).trans ev10.symm) ?_
        refine g_iload_n dX12_roof_59 rfl (fun _ => ?_)
        refine g_iastB dX12_roof_60 sh_101 (by omega) (by omega) (fun h13 eh13 => ?_)
        have hFh13 := Fr.ar eh13
        refine g_aload_n dX12_roof_61 rfl ?_
        refine gR_X12_24 rfl dX12_roof_62 sh_98 (b := 102) ((hFh13 98 10 rfl).trans ((hFh12 98 10 rfl).trans (m_98_10 hM))) ?_
        refine g_aload_n dX12_roof_65 rfl ?_
        refine gE_X12_172 rfl dX12_roof_66 sh_98 ((hFh13 98 2 rfl).trans ((hFh12 98 2 rfl).trans ev10.symm)) ?_
        refine g_iload_n dX12_roof_69 rfl (fun _ => ?_)
        refine g_iastB dX12_roof_70 sh_102 (by omega) (by omega) (fun h14 eh14 => ?_)
        have hFh14 := Fr.ar eh14
        refine g_aload_n dX12_roof_71 rfl ?_
        refine g_dup dX12_roof_72 rfl ?_
        refine gE_X12_172 rfl dX12_roof_73 sh_98 ((hFh14 98 2 rfl).trans ((hFh13 98 2 rfl).trans ((hFh12 98 2 rfl).trans ev10.symm))) ?_
        refine g_iconst dX12_roof_76 (inR_c rfl) ?_
        refine g_iaddB dX12_roof_77 (by omega) (by omega) ?_
        refine pI_X12_172 rfl dX12_roof_78 sh_98 (fun h15 eh15 => ?_)
        have hFh15 := Fr.st eh15
        refine g_aload_n dX12_roof_81 rfl ?_
        refine gE_X12_172 rfl dX12_roof_82 sh_98 (st_at eh15) ?_
        refine g_iconst dX12_roof_85 (inR_c rfl) ?_
        refine g_isubB dX12_roof_86 (by omega) (by omega) ?_
        exact g_ireturn dX12_roof_87 retI (hPo _ _ ⟨(Fr.tr (Fr.tr (Fr.tr (Fr.sub hFh12 rfl) hFh13 rfl) hFh14 rfl) hFh15 rfl), (by omega)⟩)
      · skip
        refine g_if_eq 39 dX12_roof_27 (by decide) (fun q16 => ?_) (fun _ => by exfalso; omega)
        refine g_iconst dX12_roof_39 (inR_c rfl) ?_
        exact g_ireturn dX12_roof_40 retI (hPo _ _ ⟨Fr.rf, (by omega)⟩)
    · skip
      refine g_if_eq 39 dX12_roof_20 (by decide) (fun q17 => ?_) (fun _ => by exfalso; omega)
      refine g_iconst dX12_roof_39 (inR_c rfl) ?_
      exact g_ireturn dX12_roof_40 retI (hPo _ _ ⟨Fr.rf, (by omega)⟩)
  · skip
    refine g_if_eq 39 dX12_roof_9 (by decide) (fun q18 => ?_) (fun _ => by exfalso; omega)
    refine g_iconst dX12_roof_39 (inR_c rfl) ?_
    exact g_ireturn dX12_roof_40 retI (hPo _ _ ⟨Fr.rf, (by omega)⟩)
set_option maxRecDepth 100000 in
set_option maxHeartbeats 4000000 in
theorem c_X0_add_6 (x1 : Int) (h : MEM) (hM : MBx h) (bx1 : 0 ≤ x1) (dx1 : x1 ≤ 9) : CI yX0_add cX0_add 2 (some .int) 1 [pR 6, pI x1] h (fun x h' => Fr [(6, 1), (7, 0), (8, 0)] h h' ∧ 0 ≤ x ∧ x ≤ 0) := by
  refine CI.of (L0 := [some (pR 6), some (pI x1)]) rfl (Nat.le_of_ble_eq_true rfl) rfl (fun Po hPo hav => ?_)
  refine g_aload_n dX0_add_0 rfl ?_
  refine gI_X0_9 rfl dX0_add_1 sh_6 (m_6_0 hM) (fun v1 ev1 bv1 cv1 => ?_)
  refine g_bipush dX0_add_4 (inR_c rfl) (by decide) ?_
  refine g_icmp_lt 11 dX0_add_6 (by decide) (fun q2 => ?_) (fun _ => by exfalso; omega)
  refine g_aload_n dX0_add_11 rfl ?_
  refine gR_X0_15 rfl dX0_add_12 sh_6 (b := 7) (m_6_1 hM) ?_
  refine g_aload_n dX0_add_15 rfl ?_
  refine gE_X0_9 rfl dX0_add_16 sh_6 ev1.symm ?_
  refine g_bipush dX0_add_19 (inR_c rfl) (by decide) ?_
  refine g_iastB dX0_add_21 sh_7 (by omega) (by omega) (fun h3 eh3 => ?_)
  have hFh3 := Fr.ar eh3
  refine g_aload_n dX0_add_22 rfl ?_
  refine gR_X0_19 rfl dX0_add_23 sh_6 (b := 8) ((hFh3 6 2 rfl).trans (m_6_2 hM)) ?_
  refine g_aload_n dX0_add_26 rfl ?_
  refine gE_X0_9 rfl dX0_add_27 sh_6 ((hFh3 6 0 rfl).trans ev1.symm) ?_
  refine g_iload_n dX0_add_30 rfl (fun _ => ?_)
  refine g_iastB dX0_add_31 sh_8 (by omega) (by omega) (fun h4 eh4 => ?_)
  have hFh4 := Fr.ar eh4
  refine g_aload_n dX0_add_32 rfl ?_
  refine g_dup dX0_add_33 rfl ?_
  refine gE_X0_9 rfl dX0_add_34 sh_6 ((hFh4 6 0 rfl).trans ((hFh3 6 0 rfl).trans ev1.symm)) ?_
  refine g_iconst dX0_add_37 (inR_c rfl) ?_
  refine g_iaddB dX0_add_38 (by omega) (by omega) ?_
  refine pI_X0_9 rfl dX0_add_39 sh_6 (fun h5 eh5 => ?_)
  have hFh5 := Fr.st eh5
  refine g_aload_n dX0_add_42 rfl ?_
  refine gE_X0_9 rfl dX0_add_43 sh_6 (st_at eh5) ?_
  refine g_iconst dX0_add_46 (inR_c rfl) ?_
  refine g_isubB dX0_add_47 (by omega) (by omega) ?_
  exact g_ireturn dX0_add_48 retI (hPo _ _ ⟨(Fr.tr (Fr.tr (Fr.sub hFh3 rfl) hFh4 rfl) hFh5 rfl), (by omega), (by omega)⟩)
set_option maxRecDepth 100000 in
set_option maxHeartbeats 4000000 in
theorem c_X11_apprentice_0 (x1 : Int) (h : MEM) (hM : MBx h) (bx1 : -2147483648 ≤ x1) (dx1 : x1 ≤ 2147483647) : CI yX11_apprentice cX11_apprentice 2 (some .int) 2 [pR 0, pI x1] h (fun x h' => Fr [(6, 1), (7, 0), (8, 0)] h h' ∧ ((0 ≤ x1 ∧ x1 ≤ 9) ∧ x = 0 ∨ ¬ (0 ≤ x1 ∧ x1 ≤ 9) ∧ x = -1)) := by
  refine CI.of (L0 := [some (pR 0), some (pI x1)]) rfl (Nat.le_of_ble_eq_true rfl) rfl (fun Po hPo hav => ?_)
  refine g_iload_n dX11_apprentice_0 rfl (fun _ => ?_)
  refine g_iconst dX11_apprentice_1 (inR_c rfl) ?_
  refine g_bipush dX11_apprentice_2 (inR_c rfl) (by decide) ?_
  refine g_cSP (av := [_, _, _]) (c_X11_isWithin _ _ _ h hM (by omega) (by omega) (by omega) (by omega) (by omega) (by omega)) dX11_apprentice_4 mi_X11_isWithin st_X11_isWithin ml_X11_81 rfl rfl rfl rfl (Nat.le_of_ble_eq_true rfl) (fun v1 q2 => ?_)
  rcases q2 with ⟨rfl, q2⟩ | ⟨rfl, q2⟩
  · skip
    refine g_if_eq 24 dX11_apprentice_7 (by decide) (fun _ => by exfalso; omega) (fun q3 => ?_)
    refine g_aload_n dX11_apprentice_10 rfl ?_
    refine gR_X11_10 rfl dX11_apprentice_11 sh_0 (b := 1) (m_0_0 hM) ?_
    refine gR_X11_95 rfl dX11_apprentice_14 sh_1 (b := 6) (m_1_1 hM) ?_
    refine g_iload_n dX11_apprentice_17 rfl (fun _ => ?_)
    refine g_cV (as := [_]) (c_X0_add_6 _ h hM (by omega) (by omega)) dX11_apprentice_18 mi_X0_add in_X0_add se_X0_add ml_X11_99 rfl rfl rfl sh_6 rfl rfl (Nat.le_of_ble_eq_true rfl) (fun v4 h5 q6 => ?_)
    obtain ⟨hFh5, bv4, cv4⟩ := q6
    refine g_goto 25 dX11_apprentice_21 (by decide) ?_
    exact g_ireturn dX11_apprentice_25 retI (hPo _ _ ⟨(Fr.sub hFh5 rfl), (by omega)⟩)
  · skip
    refine g_if_eq 24 dX11_apprentice_7 (by decide) (fun q7 => ?_) (fun _ => by exfalso; omega)
    refine g_iconst dX11_apprentice_24 (inR_c rfl) ?_
    exact g_ireturn dX11_apprentice_25 retI (hPo _ _ ⟨Fr.rf, (by omega)⟩)
set_option maxRecDepth 100000 in
set_option maxHeartbeats 4000000 in
theorem c_X12_apprentice_98 (x1 : Int) (h : MEM) (hM : MBm h) (bx1 : -2147483648 ≤ x1) (dx1 : x1 ≤ 2147483647) : CI yX12_apprentice cX12_apprentice 3 (some .int) 3 [pR 98, pI x1] h (fun x h' => Fr [(98, 4), (103, 0), (104, 0), (105, 0), (106, 0), (107, 0), (112, 0), (113, 0)] h h' ∧ ((0 ≤ x1 ∧ x1 ≤ 9) ∧ x = 0 ∨ ¬ (0 ≤ x1 ∧ x1 ≤ 9) ∧ x = -1)) := by
  refine CI.of (L0 := [some (pR 98), some (pI x1), none]) rfl (Nat.le_of_ble_eq_true rfl) rfl (fun Po hPo hav => ?_)
  refine g_iload_n dX12_apprentice_0 rfl (fun _ => ?_)
  refine g_cSP (av := [_]) (c_X12_isDigit _ h hM (by omega) (by omega)) dX12_apprentice_1 mi_X12_isDigit st_X12_isDigit ml_X12_189 rfl rfl rfl rfl (Nat.le_of_ble_eq_true rfl) (fun v1 q2 => ?_)
  rcases q2 with ⟨rfl, q2⟩ | ⟨rfl, q2⟩
  · skip
    refine g_if_eq 16 dX12_apprentice_4 (by decide) (fun _ => by exfalso; omega) (fun q3 => ?_)
    refine g_aload_n dX12_apprentice_7 rfl ?_
    refine gI_X12_179 rfl dX12_apprentice_8 sh_98 (m_98_3 hM) (fun v4 ev4 bv4 cv4 => ?_)
    refine g_bipush dX12_apprentice_11 (inR_c rfl) (by decide) ?_
    refine g_icmp_ne 18 dX12_apprentice_13 (by decide) (fun q5 => ?_) (fun _ => by exfalso; omega)
    refine g_aload_n dX12_apprentice_18 rfl ?_
    refine gR_X12_27 rfl dX12_apprentice_19 sh_98 (b := 103) (m_98_11 hM) ?_
    refine g_aload_n dX12_apprentice_22 rfl ?_
    refine gE_X12_179 rfl dX12_apprentice_23 sh_98 ev4.symm ?_
    refine g_bipush dX12_apprentice_26 (inR_c rfl) (by decide) ?_
    refine g_iastB dX12_apprentice_28 sh_103 (by omega) (by omega) (fun h6 eh6 => ?_)
    have hFh6 := Fr.ar eh6
    refine g_aload_n dX12_apprentice_29 rfl ?_
    refine gR_X12_30 rfl dX12_apprentice_30 sh_98 (b := 104) ((hFh6 98 12 rfl).trans (m_98_12 hM)) ?_
    refine g_aload_n dX12_apprentice_33 rfl ?_
    refine gE_X12_179 rfl dX12_apprentice_34 sh_98 ((hFh6 98 3 rfl).trans ev4.symm) ?_
    refine g_iload_n dX12_apprentice_37 rfl (fun _ => ?_)
    refine g_iastB dX12_apprentice_38 sh_104 (by omega) (by omega) (fun h7 eh7 => ?_)
    have hFh7 := Fr.ar eh7
    refine g_aload_n dX12_apprentice_39 rfl ?_
    refine gR_X12_36 rfl dX12_apprentice_40 sh_98 (b := 106) ((hFh7 98 14 rfl).trans ((hFh6 98 14 rfl).trans (m_98_14 hM))) ?_
    refine g_aload_n dX12_apprentice_43 rfl ?_
    refine gE_X12_179 rfl dX12_apprentice_44 sh_98 ((hFh7 98 3 rfl).trans ((hFh6 98 3 rfl).trans ev4.symm)) ?_
    refine g_iconst dX12_apprentice_47 (inR_c rfl) ?_
    refine g_zastB dX12_apprentice_48 sh_106 (by omega) (by omega) (by omega) (fun h8 eh8 => ?_)
    have hFh8 := Fr.ar eh8
    refine g_aload_n dX12_apprentice_49 rfl ?_
    refine gR_X12_40 rfl dX12_apprentice_50 sh_98 (b := 107) ((hFh8 98 15 rfl).trans ((hFh7 98 15 rfl).trans ((hFh6 98 15 rfl).trans (m_98_15 hM)))) ?_
    refine g_aload_n dX12_apprentice_53 rfl ?_
    refine gE_X12_179 rfl dX12_apprentice_54 sh_98 ((hFh8 98 3 rfl).trans ((hFh7 98 3 rfl).trans ((hFh6 98 3 rfl).trans ev4.symm))) ?_
    refine g_iconst dX12_apprentice_57 (inR_c rfl) ?_
    refine g_iastB dX12_apprentice_58 sh_107 (by omega) (by omega) (fun h9 eh9 => ?_)
    have hFh9 := Fr.ar eh9
    refine g_iconst dX12_apprentice_59 (inR_c rfl) ?_
    have c61 : ∀ (n : Nat) (y10 : Int) (h11 : MEM), Fr [(105, 0)] h9 h11 → 0 ≤ y10 → y10 ≤ 5 → 5 - y10 < (n : Int) → G yX12_apprentice cX12_apprentice 3 (some .int) none Po (3, 180, 0, 0) 61 [some (pR 98), none, some (pI y10)] [] SH h11 0 0 := by
      intro n
      induction n with
      | zero =>
        intro y10 h11 hFh11 by10 dy10 hn
        exfalso; omega
      | succ n ih =>
        intro y10 h11 hFh11 by10 dy10 hn
        refine g_iload_n dX12_apprentice_61 rfl (fun _ => ?_)
        refine g_iconst dX12_apprentice_62 (inR_c rfl) ?_
        refine g_icmp_ge 86 dX12_apprentice_63 (by decide) (fun q12 => ?_) (fun q12 => ?_)
        · skip
          refine g_iconst dX12_apprentice_86 (inR_c rfl) ?_
          have c88 : ∀ (n : Nat) (y13 : Int) (h14 : MEM), Fr [(112, 0), (113, 0)] h11 h14 → 0 ≤ y13 → y13 ≤ 8 → 8 - y13 < (n : Int) → G yX12_apprentice cX12_apprentice 3 (some .int) none Po (3, 180, 0, 0) 88 [some (pR 98), none, some (pI y13)] [] SH h14 0 0 := by
            intro n
            induction n with
            | zero =>
              intro y13 h14 hFh14 by13 dy13 hn
              exfalso; omega
            | succ n ih =>
              intro y13 h14 hFh14 by13 dy13 hn
              refine g_iload_n dX12_apprentice_88 rfl (fun _ => ?_)
              refine g_bipush dX12_apprentice_89 (inR_c rfl) (by decide) ?_
              refine g_icmp_ge 130 dX12_apprentice_91 (by decide) (fun q15 => ?_) (fun q15 => ?_)
              · skip
                refine g_aload_n dX12_apprentice_130 rfl ?_
                refine g_dup dX12_apprentice_131 rfl ?_
                refine gE_X12_179 rfl dX12_apprentice_132 sh_98 ((hFh14 98 3 rfl).trans ((hFh11 98 3 rfl).trans ((hFh9 98 3 rfl).trans ((hFh8 98 3 rfl).trans ((hFh7 98 3 rfl).trans ((hFh6 98 3 rfl).trans ev4.symm)))))) ?_
                refine g_iconst dX12_apprentice_135 (inR_c rfl) ?_
                refine g_iaddB dX12_apprentice_136 (by omega) (by omega) ?_
                refine pI_X12_179 rfl dX12_apprentice_137 sh_98 (fun h16 eh16 => ?_)
                have hFh16 := Fr.st eh16
                refine g_aload_n dX12_apprentice_140 rfl ?_
                refine gE_X12_179 rfl dX12_apprentice_141 sh_98 (st_at eh16) ?_
                refine g_iconst dX12_apprentice_144 (inR_c rfl) ?_
                refine g_isubB dX12_apprentice_145 (by omega) (by omega) ?_
                exact g_ireturn dX12_apprentice_146 retI (hPo _ _ ⟨(Fr.tr (Fr.tr (Fr.tr (Fr.tr (Fr.tr (Fr.tr (Fr.sub hFh6 rfl) hFh7 rfl) hFh8 rfl) hFh9 rfl) hFh11 rfl) hFh14 rfl) hFh16 rfl), (by omega)⟩)
              · skip
                refine g_aload_n dX12_apprentice_94 rfl ?_
                refine gR_X12_55 rfl dX12_apprentice_95 sh_98 (b := 112) ((hFh14 98 20 rfl).trans ((hFh11 98 20 rfl).trans ((hFh9 98 20 rfl).trans ((hFh8 98 20 rfl).trans ((hFh7 98 20 rfl).trans ((hFh6 98 20 rfl).trans (m_98_20 hM))))))) ?_
                refine g_bipush dX12_apprentice_98 (inR_c rfl) (by decide) ?_
                refine g_aload_n dX12_apprentice_100 rfl ?_
                refine gE_X12_179 rfl dX12_apprentice_101 sh_98 ((hFh14 98 3 rfl).trans ((hFh11 98 3 rfl).trans ((hFh9 98 3 rfl).trans ((hFh8 98 3 rfl).trans ((hFh7 98 3 rfl).trans ((hFh6 98 3 rfl).trans ev4.symm)))))) ?_
                refine g_imulB dX12_apprentice_104 (by omega) (by omega) ?_
                refine g_iload_n dX12_apprentice_105 rfl (fun _ => ?_)
                refine g_iaddB dX12_apprentice_106 (by omega) (by omega) ?_
                refine g_iconst dX12_apprentice_107 (inR_c rfl) ?_
                refine g_iastB dX12_apprentice_108 sh_112 (by omega) (by omega) (fun h17 eh17 => ?_)
                have hFh17 := Fr.ar eh17
                refine g_aload_n dX12_apprentice_109 rfl ?_
                refine gR_X12_58 rfl dX12_apprentice_110 sh_98 (b := 113) ((hFh17 98 21 rfl).trans ((hFh14 98 21 rfl).trans ((hFh11 98 21 rfl).trans ((hFh9 98 21 rfl).trans ((hFh8 98 21 rfl).trans ((hFh7 98 21 rfl).trans ((hFh6 98 21 rfl).trans (m_98_21 hM)))))))) ?_
                refine g_bipush dX12_apprentice_113 (inR_c rfl) (by decide) ?_
                refine g_aload_n dX12_apprentice_115 rfl ?_
                refine gE_X12_179 rfl dX12_apprentice_116 sh_98 ((hFh17 98 3 rfl).trans ((hFh14 98 3 rfl).trans ((hFh11 98 3 rfl).trans ((hFh9 98 3 rfl).trans ((hFh8 98 3 rfl).trans ((hFh7 98 3 rfl).trans ((hFh6 98 3 rfl).trans ev4.symm))))))) ?_
                refine g_imulB dX12_apprentice_119 (by omega) (by omega) ?_
                refine g_iload_n dX12_apprentice_120 rfl (fun _ => ?_)
                refine g_iaddB dX12_apprentice_121 (by omega) (by omega) ?_
                refine g_iconst dX12_apprentice_122 (inR_c rfl) ?_
                refine g_iastB dX12_apprentice_123 sh_113 (by omega) (by omega) (fun h18 eh18 => ?_)
                have hFh18 := Fr.ar eh18
                refine g_iincB dX12_apprentice_124 rfl rfl (by omega) (by omega) ?_
                refine g_goto 88 dX12_apprentice_127 (by decide) ?_
                exact ih _ _ (Fr.tr (Fr.tr (Fr.sub hFh14 rfl) hFh17 rfl) hFh18 rfl) (by omega) (by omega) (by omega)
          refine g_istore_n dX12_apprentice_87 (by decide) rfl ?_
          exact c88 9 _ _ Fr.rf (by omega) (by omega) (by omega)
        · skip
          refine g_aload_n dX12_apprentice_66 rfl ?_
          refine gR_X12_33 rfl dX12_apprentice_67 sh_98 (b := 105) ((hFh11 98 13 rfl).trans ((hFh9 98 13 rfl).trans ((hFh8 98 13 rfl).trans ((hFh7 98 13 rfl).trans ((hFh6 98 13 rfl).trans (m_98_13 hM)))))) ?_
          refine g_iconst dX12_apprentice_70 (inR_c rfl) ?_
          refine g_aload_n dX12_apprentice_71 rfl ?_
          refine gE_X12_179 rfl dX12_apprentice_72 sh_98 ((hFh11 98 3 rfl).trans ((hFh9 98 3 rfl).trans ((hFh8 98 3 rfl).trans ((hFh7 98 3 rfl).trans ((hFh6 98 3 rfl).trans ev4.symm))))) ?_
          refine g_imulB dX12_apprentice_75 (by omega) (by omega) ?_
          refine g_iload_n dX12_apprentice_76 rfl (fun _ => ?_)
          refine g_iaddB dX12_apprentice_77 (by omega) (by omega) ?_
          refine g_iconst dX12_apprentice_78 (inR_c rfl) ?_
          refine g_iastB dX12_apprentice_79 sh_105 (by omega) (by omega) (fun h19 eh19 => ?_)
          have hFh19 := Fr.ar eh19
          refine g_iincB dX12_apprentice_80 rfl rfl (by omega) (by omega) ?_
          refine g_goto 61 dX12_apprentice_83 (by decide) ?_
          exact ih _ _ (Fr.tr (Fr.sub hFh11 rfl) hFh19 rfl) (by omega) (by omega) (by omega)
    refine g_istore_n dX12_apprentice_60 (by decide) rfl ?_
    refine g_drop 1 ?_
    exact c61 6 _ _ Fr.rf (by omega) (by omega) (by omega)
  · skip
    refine g_if_eq 16 dX12_apprentice_4 (by decide) (fun q20 => ?_) (fun _ => by exfalso; omega)
    refine g_iconst dX12_apprentice_16 (inR_c rfl) ?_
    exact g_ireturn dX12_apprentice_17 retI (hPo _ _ ⟨Fr.rf, (by omega)⟩)
set_option maxRecDepth 100000 in
set_option maxHeartbeats 4000000 in
theorem c_X4_add_12 (x1 x2 : Int) (h : MEM) (hM : MBx h) (bx1 : 0 ≤ x1) (dx1 : x1 ≤ 4) (bx2 : 0 ≤ x2) (dx2 : x2 ≤ 1) : CI yX4_add cX4_add 3 (some .int) 1 [pR 12, pI x1, pI x2] h (fun x h' => Fr [(12, 1), (13, 0), (14, 0), (15, 0)] h h' ∧ 0 ≤ x ∧ x ≤ 0) := by
  refine CI.of (L0 := [some (pR 12), some (pI x1), some (pI x2)]) rfl (Nat.le_of_ble_eq_true rfl) rfl (fun Po hPo hav => ?_)
  refine g_aload_n dX4_add_0 rfl ?_
  refine gI_X4_9 rfl dX4_add_1 sh_12 (m_12_0 hM) (fun v1 ev1 bv1 cv1 => ?_)
  refine g_bipush dX4_add_4 (inR_c rfl) (by decide) ?_
  refine g_icmp_lt 11 dX4_add_6 (by decide) (fun q2 => ?_) (fun _ => by exfalso; omega)
  refine g_aload_n dX4_add_11 rfl ?_
  refine gR_X4_15 rfl dX4_add_12 sh_12 (b := 13) (m_12_1 hM) ?_
  refine g_aload_n dX4_add_15 rfl ?_
  refine gE_X4_9 rfl dX4_add_16 sh_12 ev1.symm ?_
  refine g_bipush dX4_add_19 (inR_c rfl) (by decide) ?_
  refine g_iastB dX4_add_21 sh_13 (by omega) (by omega) (fun h3 eh3 => ?_)
  have hFh3 := Fr.ar eh3
  refine g_aload_n dX4_add_22 rfl ?_
  refine gR_X4_19 rfl dX4_add_23 sh_12 (b := 14) ((hFh3 12 2 rfl).trans (m_12_2 hM)) ?_
  refine g_aload_n dX4_add_26 rfl ?_
  refine gE_X4_9 rfl dX4_add_27 sh_12 ((hFh3 12 0 rfl).trans ev1.symm) ?_
  refine g_iload_n dX4_add_30 rfl (fun _ => ?_)
  refine g_iastB dX4_add_31 sh_14 (by omega) (by omega) (fun h4 eh4 => ?_)
  have hFh4 := Fr.ar eh4
  refine g_aload_n dX4_add_32 rfl ?_
  refine gR_X4_22 rfl dX4_add_33 sh_12 (b := 15) ((hFh4 12 3 rfl).trans ((hFh3 12 3 rfl).trans (m_12_3 hM))) ?_
  refine g_aload_n dX4_add_36 rfl ?_
  refine gE_X4_9 rfl dX4_add_37 sh_12 ((hFh4 12 0 rfl).trans ((hFh3 12 0 rfl).trans ev1.symm)) ?_
  refine g_iload_n dX4_add_40 rfl (fun _ => ?_)
  refine g_iastB dX4_add_41 sh_15 (by omega) (by omega) (fun h5 eh5 => ?_)
  have hFh5 := Fr.ar eh5
  refine g_aload_n dX4_add_42 rfl ?_
  refine g_dup dX4_add_43 rfl ?_
  refine gE_X4_9 rfl dX4_add_44 sh_12 ((hFh5 12 0 rfl).trans ((hFh4 12 0 rfl).trans ((hFh3 12 0 rfl).trans ev1.symm))) ?_
  refine g_iconst dX4_add_47 (inR_c rfl) ?_
  refine g_iaddB dX4_add_48 (by omega) (by omega) ?_
  refine pI_X4_9 rfl dX4_add_49 sh_12 (fun h6 eh6 => ?_)
  have hFh6 := Fr.st eh6
  refine g_aload_n dX4_add_52 rfl ?_
  refine gE_X4_9 rfl dX4_add_53 sh_12 (st_at eh6) ?_
  refine g_iconst dX4_add_56 (inR_c rfl) ?_
  refine g_isubB dX4_add_57 (by omega) (by omega) ?_
  exact g_ireturn dX4_add_58 retI (hPo _ _ ⟨(Fr.tr (Fr.tr (Fr.tr (Fr.sub hFh3 rfl) hFh4 rfl) hFh5 rfl) hFh6 rfl), (by omega), (by omega)⟩)
set_option maxRecDepth 100000 in
set_option maxHeartbeats 4000000 in
theorem c_X11_master_0 (x1 x2 : Int) (h : MEM) (hM : MBx h) (bx1 : -2147483648 ≤ x1) (dx1 : x1 ≤ 2147483647) (bx2 : 0 ≤ x2) (dx2 : x2 ≤ 1) : CI yX11_master cX11_master 3 (some .int) 2 [pR 0, pI x1, pI x2] h (fun x h' => Fr [(12, 1), (13, 0), (14, 0), (15, 0)] h h' ∧ ((0 ≤ x1 ∧ x1 ≤ 4) ∧ x = 0 ∨ ¬ (0 ≤ x1 ∧ x1 ≤ 4) ∧ x = -1)) := by
  refine CI.of (L0 := [some (pR 0), some (pI x1), some (pI x2)]) rfl (Nat.le_of_ble_eq_true rfl) rfl (fun Po hPo hav => ?_)
  refine g_iload_n dX11_master_0 rfl (fun _ => ?_)
  refine g_iconst dX11_master_1 (inR_c rfl) ?_
  refine g_iconst dX11_master_2 (inR_c rfl) ?_
  refine g_cSP (av := [_, _, _]) (c_X11_isWithin _ _ _ h hM (by omega) (by omega) (by omega) (by omega) (by omega) (by omega)) dX11_master_3 mi_X11_isWithin st_X11_isWithin ml_X11_81 rfl rfl rfl rfl (Nat.le_of_ble_eq_true rfl) (fun v1 q2 => ?_)
  rcases q2 with ⟨rfl, q2⟩ | ⟨rfl, q2⟩
  · skip
    refine g_if_eq 32 dX11_master_6 (by decide) (fun _ => by exfalso; omega) (fun q3 => ?_)
    refine g_aload_n dX11_master_9 rfl ?_
    refine gR_X11_10 rfl dX11_master_10 sh_0 (b := 1) (m_0_0 hM) ?_
    refine gR_X11_104 rfl dX11_master_13 sh_1 (b := 12) (m_1_2 hM) ?_
    refine g_iload_n dX11_master_16 rfl (fun _ => ?_)
    refine g_iload_n dX11_master_17 rfl (fun _ => ?_)
    refine g_if_eq 25 dX11_master_18 (by decide) (fun q4 => ?_) (fun q4 => ?_)
    · skip
      refine g_iconst dX11_master_25 (inR_c rfl) ?_
      refine g_cV (as := [_, _]) (c_X4_add_12 _ _ h hM (by omega) (by omega) (by omega) (by omega)) dX11_master_26 mi_X4_add in_X4_add se_X4_add ml_X11_108 rfl rfl rfl sh_12 rfl rfl (Nat.le_of_ble_eq_true rfl) (fun v5 h6 q7 => ?_)
      obtain ⟨hFh6, bv5, cv5⟩ := q7
      refine g_goto 33 dX11_master_29 (by decide) ?_
      exact g_ireturn dX11_master_33 retI (hPo _ _ ⟨(Fr.sub hFh6 rfl), (by omega)⟩)
    · skip
      refine g_iconst dX11_master_21 (inR_c rfl) ?_
      refine g_goto 26 dX11_master_22 (by decide) ?_
      refine g_cV (as := [_, _]) (c_X4_add_12 _ _ h hM (by omega) (by omega) (by omega) (by omega)) dX11_master_26 mi_X4_add in_X4_add se_X4_add ml_X11_108 rfl rfl rfl sh_12 rfl rfl (Nat.le_of_ble_eq_true rfl) (fun v8 h9 q10 => ?_)
      obtain ⟨hFh9, bv8, cv8⟩ := q10
      refine g_goto 33 dX11_master_29 (by decide) ?_
      exact g_ireturn dX11_master_33 retI (hPo _ _ ⟨(Fr.sub hFh9 rfl), (by omega)⟩)
  · skip
    refine g_if_eq 32 dX11_master_6 (by decide) (fun q11 => ?_) (fun _ => by exfalso; omega)
    refine g_iconst dX11_master_32 (inR_c rfl) ?_
    exact g_ireturn dX11_master_33 retI (hPo _ _ ⟨Fr.rf, (by omega)⟩)
set_option maxRecDepth 100000 in
set_option maxHeartbeats 4000000 in
theorem c_X12_master_98 (x1 x2 : Int) (h : MEM) (hM : MBm h) (bx1 : -2147483648 ≤ x1) (dx1 : x1 ≤ 2147483647) (bx2 : 0 ≤ x2) (dx2 : x2 ≤ 1) : CI yX12_master cX12_master 4 (some .int) 2 [pR 98, pI x1, pI x2] h (fun x h' => Fr [(98, 5), (108, 0), (109, 0), (110, 0), (111, 0), (112, 0), (113, 0)] h h' ∧ ((0 ≤ x1 ∧ x1 ≤ 4) ∧ x = 0 ∨ ¬ (0 ≤ x1 ∧ x1 ≤ 4) ∧ x = -1)) := by
  refine CI.of (L0 := [some (pR 98), some (pI x1), some (pI x2), none]) rfl (Nat.le_of_ble_eq_true rfl) rfl (fun Po hPo hav => ?_)
  refine g_iload_n dX12_master_0 rfl (fun _ => ?_)
  refine g_i2l dX12_master_1 ?_
  refine g_lconst (v := 0) dX12_master_2 rfl ?_
  refine g_ldc2 (v := 4) dX12_master_3 kl_X12_193 (by decide) ?_
  refine g_cSP (av := [_, _, _]) (c_X12_lies _ _ _ h hM (by omega) (by omega) (by omega) (by omega) (by omega) (by omega)) dX12_master_6 mi_X12_lies st_X12_lies ml_X12_175 rfl rfl rfl rfl (Nat.le_of_ble_eq_true rfl) (fun v1 q2 => ?_)
  rcases q2 with ⟨rfl, q2⟩ | ⟨rfl, q2⟩
  · skip
    refine g_if_eq 21 dX12_master_9 (by decide) (fun _ => by exfalso; omega) (fun q3 => ?_)
    refine g_aload_n dX12_master_12 rfl ?_
    refine gI_X12_182 rfl dX12_master_13 sh_98 (m_98_4 hM) (fun v4 ev4 bv4 cv4 => ?_)
    refine g_bipush dX12_master_16 (inR_c rfl) (by decide) ?_
    refine g_icmp_ne 23 dX12_master_18 (by decide) (fun q5 => ?_) (fun _ => by exfalso; omega)
    refine g_aload_n dX12_master_23 rfl ?_
    refine gR_X12_43 rfl dX12_master_24 sh_98 (b := 108) (m_98_16 hM) ?_
    refine g_aload_n dX12_master_27 rfl ?_
    refine gE_X12_182 rfl dX12_master_28 sh_98 ev4.symm ?_
    refine g_iload_n dX12_master_31 rfl (fun _ => ?_)
    refine g_iastB dX12_master_32 sh_108 (by omega) (by omega) (fun h6 eh6 => ?_)
    have hFh6 := Fr.ar eh6
    refine g_aload_n dX12_master_33 rfl ?_
    refine gR_X12_46 rfl dX12_master_34 sh_98 (b := 109) ((hFh6 98 17 rfl).trans (m_98_17 hM)) ?_
    refine g_aload_n dX12_master_37 rfl ?_
    refine gE_X12_182 rfl dX12_master_38 sh_98 ((hFh6 98 4 rfl).trans ev4.symm) ?_
    refine g_bipush dX12_master_41 (inR_c rfl) (by decide) ?_
    refine g_iastB dX12_master_43 sh_109 (by omega) (by omega) (fun h7 eh7 => ?_)
    have hFh7 := Fr.ar eh7
    refine g_aload_n dX12_master_44 rfl ?_
    refine gR_X12_49 rfl dX12_master_45 sh_98 (b := 110) ((hFh7 98 18 rfl).trans ((hFh6 98 18 rfl).trans (m_98_18 hM))) ?_
    refine g_aload_n dX12_master_48 rfl ?_
    refine gE_X12_182 rfl dX12_master_49 sh_98 ((hFh7 98 4 rfl).trans ((hFh6 98 4 rfl).trans ev4.symm)) ?_
    refine g_iload_n dX12_master_52 rfl (fun _ => ?_)
    refine g_zastB dX12_master_53 sh_110 (by omega) (by omega) (by omega) (fun h8 eh8 => ?_)
    have hFh8 := Fr.ar eh8
    refine g_aload_n dX12_master_54 rfl ?_
    refine gR_X12_52 rfl dX12_master_55 sh_98 (b := 111) ((hFh8 98 19 rfl).trans ((hFh7 98 19 rfl).trans ((hFh6 98 19 rfl).trans (m_98_19 hM)))) ?_
    refine g_aload_n dX12_master_58 rfl ?_
    refine gE_X12_182 rfl dX12_master_59 sh_98 ((hFh8 98 4 rfl).trans ((hFh7 98 4 rfl).trans ((hFh6 98 4 rfl).trans ev4.symm))) ?_
    refine g_iconst dX12_master_62 (inR_c rfl) ?_
    refine g_iastB dX12_master_63 sh_111 (by omega) (by omega) (fun h9 eh9 => ?_)
    have hFh9 := Fr.ar eh9
    refine g_iconst dX12_master_64 (inR_c rfl) ?_
    have c66 : ∀ (n : Nat) (y10 : Int) (h11 : MEM), Fr [(112, 0), (113, 0)] h9 h11 → 0 ≤ y10 → y10 ≤ 8 → 8 - y10 < (n : Int) → G yX12_master cX12_master 4 (some .int) none Po (2, 120, 0, 0) 66 [some (pR 98), none, none, some (pI y10)] [] SH h11 0 0 := by
      intro n
      induction n with
      | zero =>
        intro y10 h11 hFh11 by10 dy10 hn
        exfalso; omega
      | succ n ih =>
        intro y10 h11 hFh11 by10 dy10 hn
        refine g_iload_n dX12_master_66 rfl (fun _ => ?_)
        refine g_bipush dX12_master_67 (inR_c rfl) (by decide) ?_
        refine g_icmp_ge 108 dX12_master_69 (by decide) (fun q12 => ?_) (fun q12 => ?_)
        · skip
          refine g_aload_n dX12_master_108 rfl ?_
          refine g_dup dX12_master_109 rfl ?_
          refine gE_X12_182 rfl dX12_master_110 sh_98 ((hFh11 98 4 rfl).trans ((hFh9 98 4 rfl).trans ((hFh8 98 4 rfl).trans ((hFh7 98 4 rfl).trans ((hFh6 98 4 rfl).trans ev4.symm))))) ?_
          refine g_iconst dX12_master_113 (inR_c rfl) ?_
          refine g_iaddB dX12_master_114 (by omega) (by omega) ?_
          refine pI_X12_182 rfl dX12_master_115 sh_98 (fun h13 eh13 => ?_)
          have hFh13 := Fr.st eh13
          refine g_aload_n dX12_master_118 rfl ?_
          refine gE_X12_182 rfl dX12_master_119 sh_98 (st_at eh13) ?_
          refine g_iconst dX12_master_122 (inR_c rfl) ?_
          refine g_isubB dX12_master_123 (by omega) (by omega) ?_
          exact g_ireturn dX12_master_124 retI (hPo _ _ ⟨(Fr.tr (Fr.tr (Fr.tr (Fr.tr (Fr.tr (Fr.sub hFh6 rfl) hFh7 rfl) hFh8 rfl) hFh9 rfl) hFh11 rfl) hFh13 rfl), (by omega)⟩)
        · skip
          refine g_aload_n dX12_master_72 rfl ?_
          refine gR_X12_55 rfl dX12_master_73 sh_98 (b := 112) ((hFh11 98 20 rfl).trans ((hFh9 98 20 rfl).trans ((hFh8 98 20 rfl).trans ((hFh7 98 20 rfl).trans ((hFh6 98 20 rfl).trans (m_98_20 hM)))))) ?_
          refine g_bipush dX12_master_76 (inR_c rfl) (by decide) ?_
          refine g_iload_n dX12_master_78 rfl (fun _ => ?_)
          refine g_imulB dX12_master_79 (by omega) (by omega) ?_
          refine g_aload_n dX12_master_80 rfl ?_
          refine gE_X12_182 rfl dX12_master_81 sh_98 ((hFh11 98 4 rfl).trans ((hFh9 98 4 rfl).trans ((hFh8 98 4 rfl).trans ((hFh7 98 4 rfl).trans ((hFh6 98 4 rfl).trans ev4.symm))))) ?_
          refine g_iaddB dX12_master_84 (by omega) (by omega) ?_
          refine g_iconst dX12_master_85 (inR_c rfl) ?_
          refine g_iastB dX12_master_86 sh_112 (by omega) (by omega) (fun h14 eh14 => ?_)
          have hFh14 := Fr.ar eh14
          refine g_aload_n dX12_master_87 rfl ?_
          refine gR_X12_58 rfl dX12_master_88 sh_98 (b := 113) ((hFh14 98 21 rfl).trans ((hFh11 98 21 rfl).trans ((hFh9 98 21 rfl).trans ((hFh8 98 21 rfl).trans ((hFh7 98 21 rfl).trans ((hFh6 98 21 rfl).trans (m_98_21 hM))))))) ?_
          refine g_bipush dX12_master_91 (inR_c rfl) (by decide) ?_
          refine g_iload_n dX12_master_93 rfl (fun _ => ?_)
          refine g_imulB dX12_master_94 (by omega) (by omega) ?_
          refine g_aload_n dX12_master_95 rfl ?_
          refine gE_X12_182 rfl dX12_master_96 sh_98 ((hFh14 98 4 rfl).trans ((hFh11 98 4 rfl).trans ((hFh9 98 4 rfl).trans ((hFh8 98 4 rfl).trans ((hFh7 98 4 rfl).trans ((hFh6 98 4 rfl).trans ev4.symm)))))) ?_
          refine g_iaddB dX12_master_99 (by omega) (by omega) ?_
          refine g_iconst dX12_master_100 (inR_c rfl) ?_
          refine g_iastB dX12_master_101 sh_113 (by omega) (by omega) (fun h15 eh15 => ?_)
          have hFh15 := Fr.ar eh15
          refine g_iincB dX12_master_102 rfl rfl (by omega) (by omega) ?_
          refine g_goto 66 dX12_master_105 (by decide) ?_
          exact ih _ _ (Fr.tr (Fr.tr (Fr.sub hFh11 rfl) hFh14 rfl) hFh15 rfl) (by omega) (by omega) (by omega)
    refine g_istore_n dX12_master_65 (by decide) rfl ?_
    refine g_drop 1 ?_
    refine g_drop 2 ?_
    exact c66 9 _ _ Fr.rf (by omega) (by omega) (by omega)
  · skip
    refine g_if_eq 21 dX12_master_9 (by decide) (fun q16 => ?_) (fun _ => by exfalso; omega)
    refine g_iconst dX12_master_21 (inR_c rfl) ?_
    exact g_ireturn dX12_master_22 retI (hPo _ _ ⟨Fr.rf, (by omega)⟩)
set_option maxRecDepth 100000 in
set_option maxHeartbeats 4000000 in
theorem c_X0_has_6 (x1 : Int) (h : MEM) (hM : MBx h) (bx1 : -2147483648 ≤ x1) (dx1 : x1 ≤ 2147483647) : CP yX0_has cX0_has 2 (some .boolean) 1 [pR 6, pI x1] h (fun x => (x = 1 ∧ 0 ≤ x1 + (0) ∧ x1 ≤ h 6 0 + (-1) ∨ x = 0 ∧ ¬ (0 ≤ x1 + (0) ∧ x1 ≤ h 6 0 + (-1)))) := by
  refine CP.of (L0 := [some (pR 6), some (pI x1)]) rfl (Nat.le_of_ble_eq_true rfl) rfl (fun Po hPo hav => ?_)
  refine g_iload_n dX0_has_0 rfl (fun _ => ?_)
  refine g_if_lt 16 dX0_has_1 (by decide) (fun q1 => ?_) (fun q1 => ?_)
  · skip
    refine g_iconst dX0_has_16 (inR_c rfl) ?_
    exact g_ireturn dX0_has_17 (retZ (by omega)) (hPo _ (by omega))
  · skip
    refine g_iload_n dX0_has_4 rfl (fun _ => ?_)
    refine g_aload_n dX0_has_5 rfl ?_
    refine gI_X0_9 rfl dX0_has_6 sh_6 (m_6_0 hM) (fun v2 ev2 bv2 cv2 => ?_)
    refine g_icmp_ge 16 dX0_has_9 (by decide) (fun q3 => ?_) (fun _ => by exfalso; omega)
    refine g_iconst dX0_has_16 (inR_c rfl) ?_
    exact g_ireturn dX0_has_17 (retZ (by omega)) (hPo _ (by omega))
set_option maxRecDepth 100000 in
set_option maxHeartbeats 4000000 in
theorem c_X11_on_0 (x1 x2 : Int) (h : MEM) (hM : MBx h) (bx1 : -2147483648 ≤ x1) (dx1 : x1 ≤ 2147483647) (bx2 : -2147483648 ≤ x2) (dx2 : x2 ≤ 2147483647) : CP yX11_on cX11_on 3 (some .boolean) 2 [pR 0, pI x1, pI x2] h (fun x => x = 0) := by
  refine CP.of (L0 := [some (pR 0), some (pI x1), some (pI x2)]) rfl (Nat.le_of_ble_eq_true rfl) rfl (fun Po hPo hav => ?_)
  refine g_aload_n dX11_on_0 rfl ?_
  refine gR_X11_10 rfl dX11_on_1 sh_0 (b := 1) (m_0_0 hM) ?_
  refine gR_X11_95 rfl dX11_on_4 sh_1 (b := 6) (m_1_1 hM) ?_
  refine g_iload_n dX11_on_7 rfl (fun _ => ?_)
  refine g_cVP (as := [_]) (c_X0_has_6 _ h hM (by omega) (by omega)) dX11_on_8 mi_X0_has in_X0_has se_X0_has ml_X11_113 rfl rfl rfl sh_6 rfl rfl (Nat.le_of_ble_eq_true rfl) (fun v1 q2 => ?_)
  obtain ⟨v3, ev3⟩ : ∃ z, z = h 6 0 := ⟨_, rfl⟩
  have bv3 : 0 ≤ v3 ∧ v3 ≤ 0 := by rw [ev3]; exact (m_6_0 hM)
  rcases q2 with ⟨rfl, q2⟩ | ⟨rfl, q2⟩
  · skip
    exfalso; omega
  · skip
    refine g_if_eq 22 dX11_on_11 (by decide) (fun q4 => ?_) (fun _ => by exfalso; omega)
    refine g_iconst dX11_on_22 (inR_c rfl) ?_
    exact g_ireturn dX11_on_23 (retZ (by omega)) (hPo _ (by omega))
set_option maxRecDepth 100000 in
set_option maxHeartbeats 4000000 in
theorem c_X12_isApprentice_98 (x1 : Int) (h : MEM) (hM : MBm h) (bx1 : -2147483648 ≤ x1) (dx1 : x1 ≤ 2147483647) : CP yX12_isApprentice cX12_isApprentice 2 (some .boolean) 2 [pR 98, pI x1] h (fun x => (x = 1 ∧ 0 ≤ x1 + (0) ∧ x1 ≤ h 98 3 + (-1) ∨ x = 0 ∧ ¬ (0 ≤ x1 + (0) ∧ x1 ≤ h 98 3 + (-1)))) := by
  refine CP.of (L0 := [some (pR 98), some (pI x1)]) rfl (Nat.le_of_ble_eq_true rfl) rfl (fun Po hPo hav => ?_)
  refine g_iload_n dX12_isApprentice_0 rfl (fun _ => ?_)
  refine g_i2l dX12_isApprentice_1 ?_
  refine g_lconst (v := 0) dX12_isApprentice_2 rfl ?_
  refine g_aload_n dX12_isApprentice_3 rfl ?_
  refine gI_X12_179 rfl dX12_isApprentice_4 sh_98 (m_98_3 hM) (fun v1 ev1 bv1 cv1 => ?_)
  refine g_iconst dX12_isApprentice_7 (inR_c rfl) ?_
  refine g_isubB dX12_isApprentice_8 (by omega) (by omega) ?_
  refine g_i2l dX12_isApprentice_9 ?_
  refine g_cSP (av := [_, _, _]) (c_X12_lies _ _ _ h hM (by omega) (by omega) (by omega) (by omega) (by omega) (by omega)) dX12_isApprentice_10 mi_X12_lies st_X12_lies ml_X12_175 rfl rfl rfl rfl (Nat.le_of_ble_eq_true rfl) (fun v2 q3 => ?_)
  rcases q3 with ⟨rfl, q3⟩ | ⟨rfl, q3⟩
  · skip
    exfalso; omega
  · skip
    exact g_ireturn dX12_isApprentice_13 (retZ (by omega)) (hPo _ (by omega))
set_option maxRecDepth 100000 in
set_option maxHeartbeats 4000000 in
theorem c_X12_on_98 (x1 x2 : Int) (h : MEM) (hM : MBm h) (bx1 : -2147483648 ≤ x1) (dx1 : x1 ≤ 2147483647) (bx2 : -2147483648 ≤ x2) (dx2 : x2 ≤ 2147483647) : CP yX12_on cX12_on 3 (some .boolean) 3 [pR 98, pI x1, pI x2] h (fun x => x = 0) := by
  refine CP.of (L0 := [some (pR 98), some (pI x1), some (pI x2)]) rfl (Nat.le_of_ble_eq_true rfl) rfl (fun Po hPo hav => ?_)
  refine g_aload_n dX12_on_0 rfl ?_
  refine g_iload_n dX12_on_1 rfl (fun _ => ?_)
  refine g_cVP (as := [_]) (c_X12_isApprentice_98 _ h hM (by omega) (by omega)) dX12_on_2 mi_X12_isApprentice in_X12_isApprentice se_X12_isApprentice ml_X12_195 rfl rfl rfl sh_98 rfl rfl (Nat.le_of_ble_eq_true rfl) (fun v1 q2 => ?_)
  obtain ⟨v3, ev3⟩ : ∃ z, z = h 98 3 := ⟨_, rfl⟩
  have bv3 : 0 ≤ v3 ∧ v3 ≤ 0 := by rw [ev3]; exact (m_98_3 hM)
  rcases q2 with ⟨rfl, q2⟩ | ⟨rfl, q2⟩
  · skip
    exfalso; omega
  · skip
    refine g_if_eq 21 dX12_on_5 (by decide) (fun q4 => ?_) (fun _ => by exfalso; omega)
    refine g_iconst dX12_on_21 (inR_c rfl) ?_
    exact g_ireturn dX12_on_22 (retZ (by omega)) (hPo _ (by omega))
set_option maxRecDepth 100000 in
set_option maxHeartbeats 4000000 in
theorem c_X4_has_12 (x1 : Int) (h : MEM) (hM : MBx h) (bx1 : -2147483648 ≤ x1) (dx1 : x1 ≤ 2147483647) : CP yX4_has cX4_has 2 (some .boolean) 1 [pR 12, pI x1] h (fun x => (x = 1 ∧ 0 ≤ x1 + (0) ∧ x1 ≤ h 12 0 + (-1) ∨ x = 0 ∧ ¬ (0 ≤ x1 + (0) ∧ x1 ≤ h 12 0 + (-1)))) := by
  refine CP.of (L0 := [some (pR 12), some (pI x1)]) rfl (Nat.le_of_ble_eq_true rfl) rfl (fun Po hPo hav => ?_)
  refine g_iload_n dX4_has_0 rfl (fun _ => ?_)
  refine g_if_lt 16 dX4_has_1 (by decide) (fun q1 => ?_) (fun q1 => ?_)
  · skip
    refine g_iconst dX4_has_16 (inR_c rfl) ?_
    exact g_ireturn dX4_has_17 (retZ (by omega)) (hPo _ (by omega))
  · skip
    refine g_iload_n dX4_has_4 rfl (fun _ => ?_)
    refine g_aload_n dX4_has_5 rfl ?_
    refine gI_X4_9 rfl dX4_has_6 sh_12 (m_12_0 hM) (fun v2 ev2 bv2 cv2 => ?_)
    refine g_icmp_ge 16 dX4_has_9 (by decide) (fun q3 => ?_) (fun _ => by exfalso; omega)
    refine g_iconst dX4_has_16 (inR_c rfl) ?_
    exact g_ireturn dX4_has_17 (retZ (by omega)) (hPo _ (by omega))
set_option maxRecDepth 100000 in
set_option maxHeartbeats 4000000 in
theorem c_X11_below_0 (x1 x2 : Int) (h : MEM) (hM : MBx h) (bx1 : -2147483648 ≤ x1) (dx1 : x1 ≤ 2147483647) (bx2 : -2147483648 ≤ x2) (dx2 : x2 ≤ 2147483647) : CP yX11_below cX11_below 3 (some .boolean) 2 [pR 0, pI x1, pI x2] h (fun x => x = 0) := by
  refine CP.of (L0 := [some (pR 0), some (pI x1), some (pI x2)]) rfl (Nat.le_of_ble_eq_true rfl) rfl (fun Po hPo hav => ?_)
  refine g_aload_n dX11_below_0 rfl ?_
  refine gR_X11_10 rfl dX11_below_1 sh_0 (b := 1) (m_0_0 hM) ?_
  refine gR_X11_104 rfl dX11_below_4 sh_1 (b := 12) (m_1_2 hM) ?_
  refine g_iload_n dX11_below_7 rfl (fun _ => ?_)
  refine g_cVP (as := [_]) (c_X4_has_12 _ h hM (by omega) (by omega)) dX11_below_8 mi_X4_has in_X4_has se_X4_has ml_X11_124 rfl rfl rfl sh_12 rfl rfl (Nat.le_of_ble_eq_true rfl) (fun v1 q2 => ?_)
  obtain ⟨v3, ev3⟩ : ∃ z, z = h 12 0 := ⟨_, rfl⟩
  have bv3 : 0 ≤ v3 ∧ v3 ≤ 0 := by rw [ev3]; exact (m_12_0 hM)
  rcases q2 with ⟨rfl, q2⟩ | ⟨rfl, q2⟩
  · skip
    exfalso; omega
  · skip
    refine g_if_eq 22 dX11_below_11 (by decide) (fun q4 => ?_) (fun _ => by exfalso; omega)
    refine g_iconst dX11_below_22 (inR_c rfl) ?_
    exact g_ireturn dX11_below_23 (retZ (by omega)) (hPo _ (by omega))
set_option maxRecDepth 100000 in
set_option maxHeartbeats 4000000 in
theorem c_X12_isMaster_98 (x1 : Int) (h : MEM) (hM : MBm h) (bx1 : -2147483648 ≤ x1) (dx1 : x1 ≤ 2147483647) : CP yX12_isMaster cX12_isMaster 2 (some .boolean) 2 [pR 98, pI x1] h (fun x => (x = 1 ∧ 0 ≤ x1 + (0) ∧ x1 ≤ h 98 4 + (-1) ∨ x = 0 ∧ ¬ (0 ≤ x1 + (0) ∧ x1 ≤ h 98 4 + (-1)))) := by
  refine CP.of (L0 := [some (pR 98), some (pI x1)]) rfl (Nat.le_of_ble_eq_true rfl) rfl (fun Po hPo hav => ?_)
  refine g_iload_n dX12_isMaster_0 rfl (fun _ => ?_)
  refine g_i2l dX12_isMaster_1 ?_
  refine g_lconst (v := 0) dX12_isMaster_2 rfl ?_
  refine g_aload_n dX12_isMaster_3 rfl ?_
  refine gI_X12_182 rfl dX12_isMaster_4 sh_98 (m_98_4 hM) (fun v1 ev1 bv1 cv1 => ?_)
  refine g_iconst dX12_isMaster_7 (inR_c rfl) ?_
  refine g_isubB dX12_isMaster_8 (by omega) (by omega) ?_
  refine g_i2l dX12_isMaster_9 ?_
  refine g_cSP (av := [_, _, _]) (c_X12_lies _ _ _ h hM (by omega) (by omega) (by omega) (by omega) (by omega) (by omega)) dX12_isMaster_10 mi_X12_lies st_X12_lies ml_X12_175 rfl rfl rfl rfl (Nat.le_of_ble_eq_true rfl) (fun v2 q3 => ?_)
  rcases q3 with ⟨rfl, q3⟩ | ⟨rfl, q3⟩
  · skip
    exfalso; omega
  · skip
    exact g_ireturn dX12_isMaster_13 (retZ (by omega)) (hPo _ (by omega))
set_option maxRecDepth 100000 in
set_option maxHeartbeats 4000000 in
theorem c_X12_below_98 (x1 x2 : Int) (h : MEM) (hM : MBm h) (bx1 : -2147483648 ≤ x1) (dx1 : x1 ≤ 2147483647) (bx2 : -2147483648 ≤ x2) (dx2 : x2 ≤ 2147483647) : CP yX12_below cX12_below 3 (some .boolean) 3 [pR 98, pI x1, pI x2] h (fun x => x = 0) := by
  refine CP.of (L0 := [some (pR 98), some (pI x1), some (pI x2)]) rfl (Nat.le_of_ble_eq_true rfl) rfl (fun Po hPo hav => ?_)
  refine g_aload_n dX12_below_0 rfl ?_
  refine g_iload_n dX12_below_1 rfl (fun _ => ?_)
  refine g_cVP (as := [_]) (c_X12_isMaster_98 _ h hM (by omega) (by omega)) dX12_below_2 mi_X12_isMaster in_X12_isMaster se_X12_isMaster ml_X12_201 rfl rfl rfl sh_98 rfl rfl (Nat.le_of_ble_eq_true rfl) (fun v1 q2 => ?_)
  obtain ⟨v3, ev3⟩ : ∃ z, z = h 98 4 := ⟨_, rfl⟩
  have bv3 : 0 ≤ v3 ∧ v3 ≤ 0 := by rw [ev3]; exact (m_98_4 hM)
  rcases q2 with ⟨rfl, q2⟩ | ⟨rfl, q2⟩
  · skip
    exfalso; omega
  · skip
    refine g_if_eq 21 dX12_below_5 (by decide) (fun q4 => ?_) (fun _ => by exfalso; omega)
    refine g_iconst dX12_below_21 (inR_c rfl) ?_
    exact g_ireturn dX12_below_22 (retZ (by omega)) (hPo _ (by omega))
set_option maxRecDepth 100000 in
set_option maxHeartbeats 4000000 in
theorem c_X11_hasGearBearer_0 (x1 x2 : Int) (h : MEM) (hM : MBx h) (bx1 : -2147483648 ≤ x1) (dx1 : x1 ≤ 2147483647) (bx2 : -2147483648 ≤ x2) (dx2 : x2 ≤ 2147483647) : CP yX11_hasGearBearer cX11_hasGearBearer 3 (some .boolean) 2 [pR 0, pI x1, pI x2] h (fun x => 0 ≤ x ∧ x ≤ 0) := by
  refine CP.of (L0 := [some (pR 0), some (pI x1), some (pI x2)]) rfl (Nat.le_of_ble_eq_true rfl) rfl (fun Po hPo hav => ?_)
  refine g_iload_n dX11_hasGearBearer_0 rfl (fun _ => ?_)
  refine g_if_ne 18 dX11_hasGearBearer_1 (by decide) (fun q1 => ?_) (fun q1 => ?_)
  · skip
    refine g_iload_n dX11_hasGearBearer_18 rfl (fun _ => ?_)
    refine g_iconst dX11_hasGearBearer_19 (inR_c rfl) ?_
    refine g_icmp_ne 41 dX11_hasGearBearer_20 (by decide) (fun q2 => ?_) (fun q2 => ?_)
    · skip
      refine g_iconst dX11_hasGearBearer_41 (inR_c rfl) ?_
      exact g_ireturn dX11_hasGearBearer_42 (retZ (by omega)) (hPo _ ⟨(by omega), (by omega)⟩)
    · skip
      refine g_aload_n dX11_hasGearBearer_23 rfl ?_
      refine gR_X11_10 rfl dX11_hasGearBearer_24 sh_0 (b := 1) (m_0_0 hM) ?_
      refine gR_X11_104 rfl dX11_hasGearBearer_27 sh_1 (b := 12) (m_1_2 hM) ?_
      refine g_iload_n dX11_hasGearBearer_30 rfl (fun _ => ?_)
      refine g_cVP (as := [_]) (c_X4_has_12 _ h hM (by omega) (by omega)) dX11_hasGearBearer_31 mi_X4_has in_X4_has se_X4_has ml_X11_124 rfl rfl rfl sh_12 rfl rfl (Nat.le_of_ble_eq_true rfl) (fun v3 q4 => ?_)
      obtain ⟨v5, ev5⟩ : ∃ z, z = h 12 0 := ⟨_, rfl⟩
      have bv5 : 0 ≤ v5 ∧ v5 ≤ 0 := by rw [ev5]; exact (m_12_0 hM)
      rcases q4 with ⟨rfl, q4⟩ | ⟨rfl, q4⟩
      · skip
        exfalso; omega
      · skip
        refine g_if_eq 41 dX11_hasGearBearer_34 (by decide) (fun q6 => ?_) (fun _ => by exfalso; omega)
        refine g_iconst dX11_hasGearBearer_41 (inR_c rfl) ?_
        exact g_ireturn dX11_hasGearBearer_42 (retZ (by omega)) (hPo _ ⟨(by omega), (by omega)⟩)
  · skip
    refine g_aload_n dX11_hasGearBearer_4 rfl ?_
    refine gR_X11_10 rfl dX11_hasGearBearer_5 sh_0 (b := 1) (m_0_0 hM) ?_
    refine gR_X11_95 rfl dX11_hasGearBearer_8 sh_1 (b := 6) (m_1_1 hM) ?_
    refine g_iload_n dX11_hasGearBearer_11 rfl (fun _ => ?_)
    refine g_cVP (as := [_]) (c_X0_has_6 _ h hM (by omega) (by omega)) dX11_hasGearBearer_12 mi_X0_has in_X0_has se_X0_has ml_X11_113 rfl rfl rfl sh_6 rfl rfl (Nat.le_of_ble_eq_true rfl) (fun v7 q8 => ?_)
    obtain ⟨v9, ev9⟩ : ∃ z, z = h 6 0 := ⟨_, rfl⟩
    have bv9 : 0 ≤ v9 ∧ v9 ≤ 0 := by rw [ev9]; exact (m_6_0 hM)
    rcases q8 with ⟨rfl, q8⟩ | ⟨rfl, q8⟩
    · skip
      exfalso; omega
    · skip
      refine g_goto 42 dX11_hasGearBearer_15 (by decide) ?_
      exact g_ireturn dX11_hasGearBearer_42 (retZ (by omega)) (hPo _ ⟨(by omega), (by omega)⟩)
set_option maxRecDepth 100000 in
set_option maxHeartbeats 4000000 in
theorem c_X11_gear_0 (x1 x2 x3 : Int) (h : MEM) (hM : MBx h) (bx1 : -2147483648 ≤ x1) (dx1 : x1 ≤ 2147483647) (bx2 : -2147483648 ≤ x2) (dx2 : x2 ≤ 2147483647) (bx3 : 0 ≤ x3) (dx3 : x3 ≤ 1) : CP yX11_gear cX11_gear 5 (some .boolean) 3 [pR 0, pI x1, pI x2, pI x3] h (fun x => x = 0) := by
  refine CP.of (L0 := [some (pR 0), some (pI x1), some (pI x2), some (pI x3), none]) rfl (Nat.le_of_ble_eq_true rfl) rfl (fun Po hPo hav => ?_)
  refine g_iload_n dX11_gear_0 rfl (fun _ => ?_)
  refine g_if_eq 8 dX11_gear_1 (by decide) (fun q1 => ?_) (fun q1 => ?_)
  · skip
    refine g_iconst dX11_gear_8 (inR_c rfl) ?_
    refine g_istore dX11_gear_9 (by decide) rfl ?_
    refine g_aload_n dX11_gear_11 rfl ?_
    refine g_iload_n dX11_gear_12 rfl (fun _ => ?_)
    refine g_iload_n dX11_gear_13 rfl (fun _ => ?_)
    refine g_cVP (as := [_, _]) (c_X11_hasGearBearer_0 _ _ h hM (by omega) (by omega) (by omega) (by omega)) dX11_gear_14 mi_X11_hasGearBearer in_X11_hasGearBearer se_X11_hasGearBearer ml_X11_126 rfl rfl rfl sh_0 rfl rfl (Nat.le_of_ble_eq_true rfl) (fun v2 q3 => ?_)
    obtain ⟨bv2, cv2⟩ := q3
    refine g_if_eq 34 dX11_gear_17 (by decide) (fun q4 => ?_) (fun _ => by exfalso; omega)
    refine g_iconst dX11_gear_34 (inR_c rfl) ?_
    exact g_ireturn dX11_gear_35 (retZ (by omega)) (hPo _ (by omega))
  · skip
    refine g_iconst dX11_gear_4 (inR_c rfl) ?_
    refine g_goto 9 dX11_gear_5 (by decide) ?_
    refine g_istore dX11_gear_9 (by decide) rfl ?_
    refine g_aload_n dX11_gear_11 rfl ?_
    refine g_iload_n dX11_gear_12 rfl (fun _ => ?_)
    refine g_iload_n dX11_gear_13 rfl (fun _ => ?_)
    refine g_cVP (as := [_, _]) (c_X11_hasGearBearer_0 _ _ h hM (by omega) (by omega) (by omega) (by omega)) dX11_gear_14 mi_X11_hasGearBearer in_X11_hasGearBearer se_X11_hasGearBearer ml_X11_126 rfl rfl rfl sh_0 rfl rfl (Nat.le_of_ble_eq_true rfl) (fun v5 q6 => ?_)
    obtain ⟨bv5, cv5⟩ := q6
    refine g_if_eq 34 dX11_gear_17 (by decide) (fun q7 => ?_) (fun _ => by exfalso; omega)
    refine g_iconst dX11_gear_34 (inR_c rfl) ?_
    exact g_ireturn dX11_gear_35 (retZ (by omega)) (hPo _ (by omega))
set_option maxRecDepth 100000 in
set_option maxHeartbeats 4000000 in
theorem c_X12_gear_98 (x1 x2 x3 : Int) (h : MEM) (hM : MBm h) (bx1 : -2147483648 ≤ x1) (dx1 : x1 ≤ 2147483647) (bx2 : -2147483648 ≤ x2) (dx2 : x2 ≤ 2147483647) (bx3 : 0 ≤ x3) (dx3 : x3 ≤ 1) : CP yX12_gear cX12_gear 4 (some .boolean) 3 [pR 98, pI x1, pI x2, pI x3] h (fun x => x = 0) := by
  refine CP.of (L0 := [some (pR 98), some (pI x1), some (pI x2), some (pI x3)]) rfl (Nat.le_of_ble_eq_true rfl) rfl (fun Po hPo hav => ?_)
  refine g_iload_n dX12_gear_0 rfl (fun _ => ?_)
  refine g_if_ne 31 dX12_gear_1 (by decide) (fun q1 => ?_) (fun q1 => ?_)
  · skip
    refine g_iload_n dX12_gear_31 rfl (fun _ => ?_)
    refine g_iconst dX12_gear_32 (inR_c rfl) ?_
    refine g_icmp_ne 54 dX12_gear_33 (by decide) (fun q2 => ?_) (fun q2 => ?_)
    · skip
      refine g_iconst dX12_gear_54 (inR_c rfl) ?_
      exact g_ireturn dX12_gear_55 (retZ (by omega)) (hPo _ (by omega))
    · skip
      refine g_aload_n dX12_gear_36 rfl ?_
      refine g_iload_n dX12_gear_37 rfl (fun _ => ?_)
      refine g_cVP (as := [_]) (c_X12_isMaster_98 _ h hM (by omega) (by omega)) dX12_gear_38 mi_X12_isMaster in_X12_isMaster se_X12_isMaster ml_X12_201 rfl rfl rfl sh_98 rfl rfl (Nat.le_of_ble_eq_true rfl) (fun v3 q4 => ?_)
      obtain ⟨v5, ev5⟩ : ∃ z, z = h 98 4 := ⟨_, rfl⟩
      have bv5 : 0 ≤ v5 ∧ v5 ≤ 0 := by rw [ev5]; exact (m_98_4 hM)
      rcases q4 with ⟨rfl, q4⟩ | ⟨rfl, q4⟩
      · skip
        exfalso; omega
      · skip
        refine g_if_eq 54 dX12_gear_41 (by decide) (fun q6 => ?_) (fun _ => by exfalso; omega)
        refine g_iconst dX12_gear_54 (inR_c rfl) ?_
        exact g_ireturn dX12_gear_55 (retZ (by omega)) (hPo _ (by omega))
  · skip
    refine g_aload_n dX12_gear_4 rfl ?_
    refine g_iload_n dX12_gear_5 rfl (fun _ => ?_)
    refine g_cVP (as := [_]) (c_X12_isApprentice_98 _ h hM (by omega) (by omega)) dX12_gear_6 mi_X12_isApprentice in_X12_isApprentice se_X12_isApprentice ml_X12_195 rfl rfl rfl sh_98 rfl rfl (Nat.le_of_ble_eq_true rfl) (fun v7 q8 => ?_)
    obtain ⟨v9, ev9⟩ : ∃ z, z = h 98 3 := ⟨_, rfl⟩
    have bv9 : 0 ≤ v9 ∧ v9 ≤ 0 := by rw [ev9]; exact (m_98_3 hM)
    rcases q8 with ⟨rfl, q8⟩ | ⟨rfl, q8⟩
    · skip
      exfalso; omega
    · skip
      refine g_if_eq 31 dX12_gear_9 (by decide) (fun q10 => ?_) (fun _ => by exfalso; omega)
      refine g_iload_n dX12_gear_31 rfl (fun _ => ?_)
      refine g_iconst dX12_gear_32 (inR_c rfl) ?_
      refine g_icmp_ne 54 dX12_gear_33 (by decide) (fun q11 => ?_) (fun _ => by exfalso; omega)
      refine g_iconst dX12_gear_54 (inR_c rfl) ?_
      exact g_ireturn dX12_gear_55 (retZ (by omega)) (hPo _ (by omega))
set_option maxRecDepth 100000 in
set_option maxHeartbeats 4000000 in
theorem c_X11_snow_0 (x1 x2 : Int) (h : MEM) (hM : MBx h) (bx1 : -2147483648 ≤ x1) (dx1 : x1 ≤ 2147483647) (bx2 : 0 ≤ x2) (dx2 : x2 ≤ 1) : CI yX11_snow cX11_snow 4 (some .boolean) 2 [pR 0, pI x1, pI x2] h (fun x h' => Fr [(19, 0)] h h' ∧ ((0 ≤ x1 ∧ x1 ≤ 99 ∧ x2 = 1) ∧ x = 1 ∨ ¬ (0 ≤ x1 ∧ x1 ≤ 99 ∧ x2 = 1) ∧ x = 0)) := by
  refine CI.of (L0 := [some (pR 0), some (pI x1), some (pI x2), none]) rfl (Nat.le_of_ble_eq_true rfl) rfl (fun Po hPo hav => ?_)
  refine g_iload_n dX11_snow_0 rfl (fun _ => ?_)
  refine g_if_eq 8 dX11_snow_1 (by decide) (fun q1 => ?_) (fun q1 => ?_)
  · skip
    refine g_iconst dX11_snow_8 (inR_c rfl) ?_
    refine g_istore_n dX11_snow_9 (by decide) rfl ?_
    refine g_iload_n dX11_snow_10 rfl (fun _ => ?_)
    refine g_iconst dX11_snow_11 (inR_c rfl) ?_
    refine g_bipush dX11_snow_12 (inR_c rfl) (by decide) ?_
    refine g_cSP (av := [_, _, _]) (c_X11_isWithin _ _ _ h hM (by omega) (by omega) (by omega) (by omega) (by omega) (by omega)) dX11_snow_14 mi_X11_isWithin st_X11_isWithin ml_X11_81 rfl rfl rfl rfl (Nat.le_of_ble_eq_true rfl) (fun v2 q3 => ?_)
    rcases q3 with ⟨rfl, q3⟩ | ⟨rfl, q3⟩
    · skip
      refine g_if_eq 33 dX11_snow_17 (by decide) (fun _ => by exfalso; omega) (fun q4 => ?_)
      refine g_aload_n dX11_snow_20 rfl ?_
      refine gR_X11_10 rfl dX11_snow_21 sh_0 (b := 1) (m_0_0 hM) ?_
      refine gR_X11_137 rfl dX11_snow_24 sh_1 (b := 19) (m_1_5 hM) ?_
      refine g_iload_n dX11_snow_27 rfl (fun _ => ?_)
      refine g_ialdB dX11_snow_28 sh_19 (by omega) (by omega) (m_19 hM _) (fun v5 ev5 bv5 cv5 => ?_)
      refine g_iload_n dX11_snow_29 rfl (fun _ => ?_)
      refine g_icmp_ne 35 dX11_snow_30 (by decide) (fun _ => by exfalso; omega) (fun q6 => ?_)
      refine g_iconst dX11_snow_33 (inR_c rfl) ?_
      exact g_ireturn dX11_snow_34 (retZ (by omega)) (hPo _ _ ⟨Fr.rf, (by omega)⟩)
    · skip
      refine g_if_eq 33 dX11_snow_17 (by decide) (fun q7 => ?_) (fun _ => by exfalso; omega)
      refine g_iconst dX11_snow_33 (inR_c rfl) ?_
      exact g_ireturn dX11_snow_34 (retZ (by omega)) (hPo _ _ ⟨Fr.rf, (by omega)⟩)
  · skip
    refine g_iconst dX11_snow_4 (inR_c rfl) ?_
    refine g_goto 9 dX11_snow_5 (by decide) ?_
    refine g_istore_n dX11_snow_9 (by decide) rfl ?_
    refine g_iload_n dX11_snow_10 rfl (fun _ => ?_)
    refine g_iconst dX11_snow_11 (inR_c rfl) ?_
    refine g_bipush dX11_snow_12 (inR_c rfl) (by decide) ?_
    refine g_cSP (av := [_, _, _]) (c_X11_isWithin _ _ _ h hM (by omega) (by omega) (by omega) (by omega) (by omega) (by omega)) dX11_snow_14 mi_X11_isWithin st_X11_isWithin ml_X11_81 rfl rfl rfl rfl (Nat.le_of_ble_eq_true rfl) (fun v8 q9 => ?_)
    rcases q9 with ⟨rfl, q9⟩ | ⟨rfl, q9⟩
    · skip
      refine g_if_eq 33 dX11_snow_17 (by decide) (fun _ => by exfalso; omega) (fun q10 => ?_)
      refine g_aload_n dX11_snow_20 rfl ?_
      refine gR_X11_10 rfl dX11_snow_21 sh_0 (b := 1) (m_0_0 hM) ?_
      refine gR_X11_137 rfl dX11_snow_24 sh_1 (b := 19) (m_1_5 hM) ?_
      refine g_iload_n dX11_snow_27 rfl (fun _ => ?_)
      refine g_ialdB dX11_snow_28 sh_19 (by omega) (by omega) (m_19 hM _) (fun v11 ev11 bv11 cv11 => ?_)
      refine g_iload_n dX11_snow_29 rfl (fun _ => ?_)
      refine g_icmp_ne 35 dX11_snow_30 (by decide) (fun q12 => ?_) (fun _ => by exfalso; omega)
      refine g_aload_n dX11_snow_35 rfl ?_
      refine gR_X11_10 rfl dX11_snow_36 sh_0 (b := 1) (m_0_0 hM) ?_
      refine gR_X11_137 rfl dX11_snow_39 sh_1 (b := 19) (m_1_5 hM) ?_
      refine g_iload_n dX11_snow_42 rfl (fun _ => ?_)
      refine g_iload_n dX11_snow_43 rfl (fun _ => ?_)
      refine g_iastB dX11_snow_44 sh_19 (by omega) (by omega) (fun h13 eh13 => ?_)
      have hFh13 := Fr.ar eh13
      refine g_iconst dX11_snow_45 (inR_c rfl) ?_
      exact g_ireturn dX11_snow_46 (retZ (by omega)) (hPo _ _ ⟨(Fr.sub hFh13 rfl), (by omega)⟩)
    · skip
      refine g_if_eq 33 dX11_snow_17 (by decide) (fun q14 => ?_) (fun _ => by exfalso; omega)
      refine g_iconst dX11_snow_33 (inR_c rfl) ?_
      exact g_ireturn dX11_snow_34 (retZ (by omega)) (hPo _ _ ⟨Fr.rf, (by omega)⟩)
set_option maxRecDepth 100000 in
set_option maxHeartbeats 4000000 in
theorem c_X12_snow_98 (x1 x2 : Int) (h : MEM) (hM : MBm h) (bx1 : -2147483648 ≤ x1) (dx1 : x1 ≤ 2147483647) (bx2 : 0 ≤ x2) (dx2 : x2 ≤ 1) : CI yX12_snow cX12_snow 3 (some .boolean) 2 [pR 98, pI x1, pI x2] h (fun x h' => Fr [(114, 0)] h h' ∧ ((0 ≤ x1 ∧ x1 ≤ 99 ∧ x2 = 1) ∧ x = 1 ∨ ¬ (0 ≤ x1 ∧ x1 ≤ 99 ∧ x2 = 1) ∧ x = 0)) := by
  refine CI.of (L0 := [some (pR 98), some (pI x1), some (pI x2)]) rfl (Nat.le_of_ble_eq_true rfl) rfl (fun Po hPo hav => ?_)
  refine g_iload_n dX12_snow_0 rfl (fun _ => ?_)
  refine g_i2l dX12_snow_1 ?_
  refine g_lconst (v := 0) dX12_snow_2 rfl ?_
  refine g_ldc2 (v := 99) dX12_snow_3 kl_X12_187 (by decide) ?_
  refine g_cSP (av := [_, _, _]) (c_X12_lies _ _ _ h hM (by omega) (by omega) (by omega) (by omega) (by omega) (by omega)) dX12_snow_6 mi_X12_lies st_X12_lies ml_X12_175 rfl rfl rfl rfl (Nat.le_of_ble_eq_true rfl) (fun v1 q2 => ?_)
  rcases q2 with ⟨rfl, q2⟩ | ⟨rfl, q2⟩
  · skip
    refine g_if_eq 22 dX12_snow_9 (by decide) (fun _ => by exfalso; omega) (fun q3 => ?_)
    refine g_aload_n dX12_snow_12 rfl ?_
    refine gR_X12_61 rfl dX12_snow_13 sh_98 (b := 114) (m_98_22 hM) ?_
    refine g_iload_n dX12_snow_16 rfl (fun _ => ?_)
    refine g_zaldB dX12_snow_17 sh_114 (by omega) (by omega) (m_114 hM _) (fun v4 ev4 bv4 cv4 => ?_)
    refine g_iload_n dX12_snow_18 rfl (fun _ => ?_)
    refine g_icmp_ne 24 dX12_snow_19 (by decide) (fun q5 => ?_) (fun q5 => ?_)
    · skip
      refine g_aload_n dX12_snow_24 rfl ?_
      refine gR_X12_61 rfl dX12_snow_25 sh_98 (b := 114) (m_98_22 hM) ?_
      refine g_iload_n dX12_snow_28 rfl (fun _ => ?_)
      refine g_iload_n dX12_snow_29 rfl (fun _ => ?_)
      refine g_zastB dX12_snow_30 sh_114 (by omega) (by omega) (by omega) (fun h6 eh6 => ?_)
      have hFh6 := Fr.ar eh6
      refine g_iconst dX12_snow_31 (inR_c rfl) ?_
      exact g_ireturn dX12_snow_32 (retZ (by omega)) (hPo _ _ ⟨(Fr.sub hFh6 rfl), (by omega)⟩)
    · skip
      refine g_iconst dX12_snow_22 (inR_c rfl) ?_
      exact g_ireturn dX12_snow_23 (retZ (by omega)) (hPo _ _ ⟨Fr.rf, (by omega)⟩)
  · skip
    refine g_if_eq 22 dX12_snow_9 (by decide) (fun q7 => ?_) (fun _ => by exfalso; omega)
    refine g_iconst dX12_snow_22 (inR_c rfl) ?_
    exact g_ireturn dX12_snow_23 (retZ (by omega)) (hPo _ _ ⟨Fr.rf, (by omega)⟩)
set_option maxRecDepth 100000 in
set_option maxHeartbeats 4000000 in
theorem c_X10_append_61 (x1 : Int) (h : MEM) (hM : MBx h) (bx1 : -2147483648 ≤ x1) (dx1 : x1 ≤ 2147483647) (p0_0 : 0 ≤ h 61 0) (p0_1 : h 61 0 ≤ 216) : CV yX10_append cX10_append 3 (none) 1 [pR 61, pI x1] h (fun h' => MBx h' ∧ Fr [(61, 1), (62, 0)] h h' ∧ h' 61 0 = h 61 0 + 4) := by
  refine CV.of (L0 := [some (pR 61), some (pI x1), none]) rfl (Nat.le_of_ble_eq_true rfl) rfl (fun Po hPo hav => ?_)
  obtain ⟨w61_0, ew61_0⟩ : ∃ z, z = h 61 0 := ⟨_, rfl⟩
  refine g_bipush dX10_append_0 (inR_c rfl) (by decide) ?_
  have c3 : ∀ (n : Nat) (y1 : Int) (h2 : MEM), MBx h2 → Fr [(61, 1), (62, 0)] h h2 → -8 ≤ y1 → y1 ≤ 24 → 8 * h2 61 0 = 8 * h 61 0 + 24 - y1 → y1 - (-8) < (n : Int) → G yX10_append cX10_append 3 (none) none Po (1, 60, 0, 0) 3 [some (pR 61), some (pI x1), some (pI y1)] [] SH h2 0 0 := by
    intro n
    induction n with
    | zero =>
      intro y1 h2 hMh2 hFh2 by1 dy1 e3_0 hn
      exfalso; omega
    | succ n ih =>
      intro y1 h2 hMh2 hFh2 by1 dy1 e3_0 hn
      refine g_iload_n dX10_append_3 rfl (fun _ => ?_)
      refine g_if_lt 49 dX10_append_4 (by decide) (fun q3 => ?_) (fun q3 => ?_)
      · skip
        obtain ⟨v4, ev4⟩ : ∃ z, z = h2 61 0 := ⟨_, rfl⟩
        have bv4 : 0 ≤ v4 ∧ v4 ≤ 220 := by rw [ev4]; exact (m_61_0 hMh2)
        exact g_return dX10_append_49 rfl (hPo _ ⟨hMh2, (Fr.sub hFh2 rfl), (by omega)⟩)
      · skip
        refine g_aload_n dX10_append_7 rfl ?_
        refine gI_X10_9 rfl dX10_append_8 sh_61 (m_61_0 hMh2) (fun v5 ev5 bv5 cv5 => ?_)
        have a8 : 0 ≤ v5 ∧ v5 ≤ 219 := by omega
        refine g_sipush dX10_append_11 (inR_c rfl) (by decide) ?_
        refine g_icmp_ge 49 dX10_append_14 (by decide) (fun _ => by exfalso; omega) (fun q6 => ?_)
        refine g_aload_n dX10_append_17 rfl ?_
        refine gR_X10_15 rfl dX10_append_18 sh_61 (b := 62) (m_61_1 hMh2) ?_
        refine g_aload_n dX10_append_21 rfl ?_
        refine gE_X10_9 rfl dX10_append_22 sh_61 ev5.symm ?_
        refine g_iload_n dX10_append_25 rfl (fun _ => ?_)
        refine g_iload_n dX10_append_26 rfl (fun _ => ?_)
        refine g_ishrF dX10_append_27 (fun v7 ev7 bv7 cv7 => ?_)
        refine g_sipush dX10_append_28 (inR_c rfl) (by decide) ?_
        refine g_iandX (lo := 0) (hi := 255) dX10_append_31 (iand_r (by omega) (by omega)) (fun v8 ev8 bv8 cv8 => ?_)
        refine g_iastB dX10_append_32 sh_62 (by omega) (by omega) (fun h9 eh9 => ?_)
        have hFh9 := Fr.ar eh9
        have hMh9 := u_62 hMh2 eh9 (by omega) (by omega)
        refine g_aload_n dX10_append_33 rfl ?_
        refine g_dup dX10_append_34 rfl ?_
        refine gE_X10_9 rfl dX10_append_35 sh_61 ((hFh9 61 0 rfl).trans ev5.symm) ?_
        refine g_iconst dX10_append_38 (inR_c rfl) ?_
        refine g_iaddB dX10_append_39 (by omega) (by omega) ?_
        refine pI_X10_9 rfl dX10_append_40 sh_61 (fun h10 eh10 => ?_)
        have hFh10 := Fr.st eh10
        have hMh10 := u_61_0 hMh9 eh10 (by omega) (by omega)
        refine g_iincB dX10_append_43 rfl rfl (by omega) (by omega) ?_
        refine g_goto 3 dX10_append_46 (by decide) ?_
        have q11 : h10 61 0 = (v5 + 1) := (st_at eh10)
        exact ih _ _ hMh10 (Fr.tr (Fr.tr (Fr.sub hFh2 rfl) hFh9 rfl) hFh10 rfl) (by omega) (by omega) (by omega) (by omega)
  refine g_istore_n dX10_append_2 (by decide) rfl ?_
  have q12 : h 61 0 = w61_0 := ew61_0.symm
  exact c3 33 _ _ hM Fr.rf (by omega) (by omega) (by omega) (by omega)
set_option maxRecDepth 100000 in
set_option maxHeartbeats 4000000 in
theorem c_X11_feed_0 (x1 x2 x3 x4 x5 : Int) (h : MEM) (hM : MBx h) (bx1 : -2147483648 ≤ x1) (dx1 : x1 ≤ 2147483647) (bx2 : -2147483648 ≤ x2) (dx2 : x2 ≤ 2147483647) (bx3 : -2147483648 ≤ x3) (dx3 : x3 ≤ 2147483647) (bx4 : -2147483648 ≤ x4) (dx4 : x4 ≤ 2147483647) (bx5 : -2147483648 ≤ x5) (dx5 : x5 ≤ 2147483647) (p0_0 : 0 ≤ h 61 0) (p0_1 : h 61 0 ≤ 0) : CI yX11_feed cX11_feed 6 (some .int) 2 [pR 0, pI x1, pI x2, pI x3, pI x4, pI x5] h (fun x h' => Fr [(61, 1), (62, 0)] h h' ∧ x = 20) := by
  refine CI.of (L0 := [some (pR 0), some (pI x1), some (pI x2), some (pI x3), some (pI x4), some (pI x5)]) rfl (Nat.le_of_ble_eq_true rfl) rfl (fun Po hPo hav => ?_)
  obtain ⟨w61_0, ew61_0⟩ : ∃ z, z = h 61 0 := ⟨_, rfl⟩
  refine g_aload_n dX11_feed_0 rfl ?_
  refine gR_X11_25 rfl dX11_feed_1 sh_0 (b := 61) (m_0_3 hM) ?_
  refine gE_X11_140 rfl dX11_feed_4 sh_61 ew61_0.symm ?_
  refine g_bipush dX11_feed_7 (inR_c rfl) (by decide) ?_
  refine g_iaddB dX11_feed_9 (by omega) (by omega) ?_
  refine g_sipush dX11_feed_10 (inR_c rfl) (by decide) ?_
  refine g_icmp_le 18 dX11_feed_13 (by decide) (fun q1 => ?_) (fun _ => by exfalso; omega)
  refine g_aload_n dX11_feed_18 rfl ?_
  refine gR_X11_25 rfl dX11_feed_19 sh_0 (b := 61) (m_0_3 hM) ?_
  refine g_iload_n dX11_feed_22 rfl (fun _ => ?_)
  have q2 : h 61 0 = w61_0 := ew61_0.symm
  have q3 : h 61 0 = w61_0 := ew61_0.symm
  refine g_cVV (as := [_]) (c_X10_append_61 _ h hM (by omega) (by omega) (by omega) (by omega)) dX11_feed_23 mi_X10_append in_X10_append se_X10_append ml_X11_144 rfl rfl rfl sh_61 rfl rfl (Nat.le_of_ble_eq_true rfl) (fun h4 q5 => ?_)
  obtain ⟨hMh4, hFh4, z6⟩ := q5
  have kz6 : h4 61 0 = (w61_0 + 4) := by omega
  refine g_aload_n dX11_feed_26 rfl ?_
  refine gR_X11_25 rfl dX11_feed_27 sh_0 (b := 61) (m_0_3 hMh4) ?_
  refine g_iload_n dX11_feed_30 rfl (fun _ => ?_)
  have q7 : h4 61 0 = (w61_0 + 4) := kz6
  have q8 : h4 61 0 = (w61_0 + 4) := kz6
  refine g_cVV (as := [_]) (c_X10_append_61 _ h4 hMh4 (by omega) (by omega) (by omega) (by omega)) dX11_feed_31 mi_X10_append in_X10_append se_X10_append ml_X11_144 rfl rfl rfl sh_61 rfl rfl (Nat.le_of_ble_eq_true rfl) (fun h9 q10 => ?_)
  obtain ⟨hMh9, hFh9, z11⟩ := q10
  have kz11 : h9 61 0 = ((w61_0 + 4) + 4) := by omega
  refine g_aload_n dX11_feed_34 rfl ?_
  refine gR_X11_25 rfl dX11_feed_35 sh_0 (b := 61) (m_0_3 hMh9) ?_
  refine g_iload_n dX11_feed_38 rfl (fun _ => ?_)
  have q12 : h9 61 0 = ((w61_0 + 4) + 4) := kz11
  have q13 : h9 61 0 = ((w61_0 + 4) + 4) := kz11
  refine g_cVV (as := [_]) (c_X10_append_61 _ h9 hMh9 (by omega) (by omega) (by omega) (by omega)) dX11_feed_39 mi_X10_append in_X10_append se_X10_append ml_X11_144 rfl rfl rfl sh_61 rfl rfl (Nat.le_of_ble_eq_true rfl) (fun h14 q15 => ?_)
  obtain ⟨hMh14, hFh14, z16⟩ := q15
  have kz16 : h14 61 0 = (((w61_0 + 4) + 4) + 4) := by omega
  refine g_aload_n dX11_feed_42 rfl ?_
  refine gR_X11_25 rfl dX11_feed_43 sh_0 (b := 61) (m_0_3 hMh14) ?_
  refine g_iload dX11_feed_46 rfl (fun _ => ?_)
  have q17 : h14 61 0 = (((w61_0 + 4) + 4) + 4) := kz16
  have q18 : h14 61 0 = (((w61_0 + 4) + 4) + 4) := kz16
  refine g_cVV (as := [_]) (c_X10_append_61 _ h14 hMh14 (by omega) (by omega) (by omega) (by omega)) dX11_feed_48 mi_X10_append in_X10_append se_X10_append ml_X11_144 rfl rfl rfl sh_61 rfl rfl (Nat.le_of_ble_eq_true rfl) (fun h19 q20 => ?_)
  obtain ⟨hMh19, hFh19, z21⟩ := q20
  have kz21 : h19 61 0 = ((((w61_0 + 4) + 4) + 4) + 4) := by omega
  refine g_aload_n dX11_feed_51 rfl ?_
  refine gR_X11_25 rfl dX11_feed_52 sh_0 (b := 61) (m_0_3 hMh19) ?_
  refine g_iload dX11_feed_55 rfl (fun _ => ?_)
  have q22 : h19 61 0 = ((((w61_0 + 4) + 4) + 4) + 4) := kz21
  have q23 : h19 61 0 = ((((w61_0 + 4) + 4) + 4) + 4) := kz21
  refine g_cVV (as := [_]) (c_X10_append_61 _ h19 hMh19 (by omega) (by omega) (by omega) (by omega)) dX11_feed_57 mi_X10_append in_X10_append se_X10_append ml_X11_144 rfl rfl rfl sh_61 rfl rfl (Nat.le_of_ble_eq_true rfl) (fun h24 q25 => ?_)
  obtain ⟨hMh24, hFh24, z26⟩ := q25
  have kz26 : h24 61 0 = (((((w61_0 + 4) + 4) + 4) + 4) + 4) := by omega
  refine g_aload_n dX11_feed_60 rfl ?_
  refine gR_X11_25 rfl dX11_feed_61 sh_0 (b := 61) (m_0_3 hMh24) ?_
  refine gE_X11_140 rfl dX11_feed_64 sh_61 kz26 ?_
  exact g_ireturn dX11_feed_67 retI (hPo _ _ ⟨(Fr.tr (Fr.tr (Fr.tr (Fr.tr (Fr.sub hFh4 rfl) hFh9 rfl) hFh14 rfl) hFh19 rfl) hFh24 rfl), (by omega)⟩)
set_option maxRecDepth 100000 in
set_option maxHeartbeats 4000000 in
theorem c_X12_push_98 (x1 : Int) (h : MEM) (hM : MBm h) (bx1 : -2147483648 ≤ x1) (dx1 : x1 ≤ 2147483647) (p0_0 : 0 ≤ h 98 1) (p0_1 : h 98 1 ≤ 216) : CV yX12_push cX12_push 3 (none) 1 [pR 98, pI x1] h (fun h' => MBm h' ∧ Fr [(98, 2), (99, 0)] h h' ∧ h' 98 1 = h 98 1 + 4) := by
  refine CV.of (L0 := [some (pR 98), some (pI x1), none]) rfl (Nat.le_of_ble_eq_true rfl) rfl (fun Po hPo hav => ?_)
  obtain ⟨w98_1, ew98_1⟩ : ∃ z, z = h 98 1 := ⟨_, rfl⟩
  refine g_bipush dX12_push_0 (inR_c rfl) (by decide) ?_
  have c3 : ∀ (n : Nat) (y1 : Int) (h2 : MEM), MBm h2 → Fr [(98, 2), (99, 0)] h h2 → -8 ≤ y1 → y1 ≤ 24 → 8 * h2 98 1 = 8 * h 98 1 + 24 - y1 → y1 - (-8) < (n : Int) → G yX12_push cX12_push 3 (none) none Po (1, 60, 0, 0) 3 [some (pR 98), some (pI x1), some (pI y1)] [] SH h2 0 0 := by
    intro n
    induction n with
    | zero =>
      intro y1 h2 hMh2 hFh2 by1 dy1 e3_0 hn
      exfalso; omega
    | succ n ih =>
      intro y1 h2 hMh2 hFh2 by1 dy1 e3_0 hn
      refine g_iload_n dX12_push_3 rfl (fun _ => ?_)
      refine g_if_lt 36 dX12_push_4 (by decide) (fun q3 => ?_) (fun q3 => ?_)
      · skip
        obtain ⟨v4, ev4⟩ : ∃ z, z = h2 98 1 := ⟨_, rfl⟩
        have bv4 : 0 ≤ v4 ∧ v4 ≤ 220 := by rw [ev4]; exact (m_98_1 hMh2)
        exact g_return dX12_push_36 rfl (hPo _ ⟨hMh2, (Fr.sub hFh2 rfl), (by omega)⟩)
      · skip
        refine g_aload_n dX12_push_7 rfl ?_
        refine gR_X12_7 rfl dX12_push_8 sh_98 (b := 99) (m_98_0 hMh2) ?_
        refine g_aload_n dX12_push_11 rfl ?_
        refine gI_X12_204 rfl dX12_push_12 sh_98 (m_98_1 hMh2) (fun v5 ev5 bv5 cv5 => ?_)
        have a12 : 0 ≤ v5 ∧ v5 ≤ 219 := by omega
        refine g_iload_n dX12_push_15 rfl (fun _ => ?_)
        refine g_iload_n dX12_push_16 rfl (fun _ => ?_)
        refine g_ishrF dX12_push_17 (fun v6 ev6 bv6 cv6 => ?_)
        refine g_i2bF dX12_push_18 (fun v7 bv7 cv7 => ?_)
        refine g_bastB dX12_push_19 sh_99 (by omega) (by omega) (by omega) (by omega) (fun h8 eh8 => ?_)
        have hFh8 := Fr.ar eh8
        have hMh8 := u_99 hMh2 eh8 (by omega) (by omega)
        refine g_aload_n dX12_push_20 rfl ?_
        refine g_dup dX12_push_21 rfl ?_
        refine gE_X12_204 rfl dX12_push_22 sh_98 ((hFh8 98 1 rfl).trans ev5.symm) ?_
        refine g_iconst dX12_push_25 (inR_c rfl) ?_
        refine g_iaddB dX12_push_26 (by omega) (by omega) ?_
        refine pI_X12_204 rfl dX12_push_27 sh_98 (fun h9 eh9 => ?_)
        have hFh9 := Fr.st eh9
        have hMh9 := u_98_1 hMh8 eh9 (by omega) (by omega)
        refine g_iincB dX12_push_30 rfl rfl (by omega) (by omega) ?_
        refine g_goto 3 dX12_push_33 (by decide) ?_
        have q10 : h9 98 1 = (v5 + 1) := (st_at eh9)
        exact ih _ _ hMh9 (Fr.tr (Fr.tr (Fr.sub hFh2 rfl) hFh8 rfl) hFh9 rfl) (by omega) (by omega) (by omega) (by omega)
  refine g_istore_n dX12_push_2 (by decide) rfl ?_
  have q11 : h 98 1 = w98_1 := ew98_1.symm
  exact c3 33 _ _ hM Fr.rf (by omega) (by omega) (by omega) (by omega)
set_option maxRecDepth 100000 in
set_option maxHeartbeats 4000000 in
theorem c_X12_feed_98 (x1 x2 x3 x4 x5 : Int) (h : MEM) (hM : MBm h) (bx1 : -2147483648 ≤ x1) (dx1 : x1 ≤ 2147483647) (bx2 : -2147483648 ≤ x2) (dx2 : x2 ≤ 2147483647) (bx3 : -2147483648 ≤ x3) (dx3 : x3 ≤ 2147483647) (bx4 : -2147483648 ≤ x4) (dx4 : x4 ≤ 2147483647) (bx5 : -2147483648 ≤ x5) (dx5 : x5 ≤ 2147483647) (p0_0 : 0 ≤ h 98 1) (p0_1 : h 98 1 ≤ 0) : CI yX12_feed cX12_feed 6 (some .int) 2 [pR 98, pI x1, pI x2, pI x3, pI x4, pI x5] h (fun x h' => Fr [(98, 2), (99, 0)] h h' ∧ x = 20) := by
  refine CI.of (L0 := [some (pR 98), some (pI x1), some (pI x2), some (pI x3), some (pI x4), some (pI x5)]) rfl (Nat.le_of_ble_eq_true rfl) rfl (fun Po hPo hav => ?_)
  obtain ⟨w98_1, ew98_1⟩ : ∃ z, z = h 98 1 := ⟨_, rfl⟩
  refine g_aload_n dX12_feed_0 rfl ?_
  refine gE_X12_204 rfl dX12_feed_1 sh_98 ew98_1.symm ?_
  refine g_bipush dX12_feed_4 (inR_c rfl) (by decide) ?_
  refine g_iaddB dX12_feed_6 (by omega) (by omega) ?_
  refine g_sipush dX12_feed_7 (inR_c rfl) (by decide) ?_
  refine g_icmp_le 15 dX12_feed_10 (by decide) (fun q1 => ?_) (fun _ => by exfalso; omega)
  refine g_aload_n dX12_feed_15 rfl ?_
  refine g_iload_n dX12_feed_16 rfl (fun _ => ?_)
  have q2 : h 98 1 = w98_1 := ew98_1.symm
  have q3 : h 98 1 = w98_1 := ew98_1.symm
  refine g_cVV (as := [_]) (c_X12_push_98 _ h hM (by omega) (by omega) (by omega) (by omega)) dX12_feed_17 mi_X12_push in_X12_push se_X12_push ml_X12_207 rfl rfl rfl sh_98 rfl rfl (Nat.le_of_ble_eq_true rfl) (fun h4 q5 => ?_)
  obtain ⟨hMh4, hFh4, z6⟩ := q5
  have kz6 : h4 98 1 = (w98_1 + 4) := by omega
  refine g_aload_n dX12_feed_20 rfl ?_
  refine g_iload_n dX12_feed_21 rfl (fun _ => ?_)
  have q7 : h4 98 1 = (w98_1 + 4) := kz6
  have q8 : h4 98 1 = (w98_1 + 4) := kz6
  refine g_cVV (as := [_]) (c_X12_push_98 _ h4 hMh4 (by omega) (by omega) (by omega) (by omega)) dX12_feed_22 mi_X12_push in_X12_push se_X12_push ml_X12_207 rfl rfl rfl sh_98 rfl rfl (Nat.le_of_ble_eq_true rfl) (fun h9 q10 => ?_)
  obtain ⟨hMh9, hFh9, z11⟩ := q10
  have kz11 : h9 98 1 = ((w98_1 + 4) + 4) := by omega
  refine g_aload_n dX12_feed_25 rfl ?_
  refine g_iload_n dX12_feed_26 rfl (fun _ => ?_)
  have q12 : h9 98 1 = ((w98_1 + 4) + 4) := kz11
  have q13 : h9 98 1 = ((w98_1 + 4) + 4) := kz11
  refine g_cVV (as := [_]) (c_X12_push_98 _ h9 hMh9 (by omega) (by omega) (by omega) (by omega)) dX12_feed_27 mi_X12_push in_X12_push se_X12_push ml_X12_207 rfl rfl rfl sh_98 rfl rfl (Nat.le_of_ble_eq_true rfl) (fun h14 q15 => ?_)
  obtain ⟨hMh14, hFh14, z16⟩ := q15
  have kz16 : h14 98 1 = (((w98_1 + 4) + 4) + 4) := by omega
  refine g_aload_n dX12_feed_30 rfl ?_
  refine g_iload dX12_feed_31 rfl (fun _ => ?_)
  have q17 : h14 98 1 = (((w98_1 + 4) + 4) + 4) := kz16
  have q18 : h14 98 1 = (((w98_1 + 4) + 4) + 4) := kz16
  refine g_cVV (as := [_]) (c_X12_push_98 _ h14 hMh14 (by omega) (by omega) (by omega) (by omega)) dX12_feed_33 mi_X12_push in_X12_push se_X12_push ml_X12_207 rfl rfl rfl sh_98 rfl rfl (Nat.le_of_ble_eq_true rfl) (fun h19 q20 => ?_)
  obtain ⟨hMh19, hFh19, z21⟩ := q20
  have kz21 : h19 98 1 = ((((w98_1 + 4) + 4) + 4) + 4) := by omega
  refine g_aload_n dX12_feed_36 rfl ?_
  refine g_iload dX12_feed_37 rfl (fun _ => ?_)
  have q22 : h19 98 1 = ((((w98_1 + 4) + 4) + 4) + 4) := kz21
  have q23 : h19 98 1 = ((((w98_1 + 4) + 4) + 4) + 4) := kz21
  refine g_cVV (as := [_]) (c_X12_push_98 _ h19 hMh19 (by omega) (by omega) (by omega) (by omega)) dX12_feed_39 mi_X12_push in_X12_push se_X12_push ml_X12_207 rfl rfl rfl sh_98 rfl rfl (Nat.le_of_ble_eq_true rfl) (fun h24 q25 => ?_)
  obtain ⟨hMh24, hFh24, z26⟩ := q25
  have kz26 : h24 98 1 = (((((w98_1 + 4) + 4) + 4) + 4) + 4) := by omega
  refine g_aload_n dX12_feed_42 rfl ?_
  refine gE_X12_204 rfl dX12_feed_43 sh_98 kz26 ?_
  exact g_ireturn dX12_feed_46 retI (hPo _ _ ⟨(Fr.tr (Fr.tr (Fr.tr (Fr.tr (Fr.sub hFh4 rfl) hFh9 rfl) hFh14 rfl) hFh19 rfl) hFh24 rfl), (by omega)⟩)
set_option maxRecDepth 100000 in
set_option maxHeartbeats 4000000 in
theorem c_X11_law_0 (x1 : Int) (h : MEM) (hM : MBx h) (bx1 : -2147483648 ≤ x1) (dx1 : x1 ≤ 2147483647) (p0_0 : 0 ≤ h 61 0) (p0_1 : h 61 0 ≤ 0) : CP yX11_law cX11_law 4 (some .int) 2 [pR 0, pI x1] h (fun x => x = -1) := by
  refine CP.of (L0 := [some (pR 0), some (pI x1), none, none]) rfl (Nat.le_of_ble_eq_true rfl) rfl (fun Po hPo hav => ?_)
  obtain ⟨w61_0, ew61_0⟩ : ∃ z, z = h 61 0 := ⟨_, rfl⟩
  refine g_iload_n dX11_law_0 rfl (fun _ => ?_)
  refine g_iconst dX11_law_1 (inR_c rfl) ?_
  refine g_sipush dX11_law_2 (inR_c rfl) (by decide) ?_
  refine g_cSP (av := [_, _, _]) (c_X11_isWithin _ _ _ h hM (by omega) (by omega) (by omega) (by omega) (by omega) (by omega)) dX11_law_5 mi_X11_isWithin st_X11_isWithin ml_X11_81 rfl rfl rfl rfl (Nat.le_of_ble_eq_true rfl) (fun v1 q2 => ?_)
  rcases q2 with ⟨rfl, q2⟩ | ⟨rfl, q2⟩
  · skip
    refine g_if_eq 22 dX11_law_8 (by decide) (fun _ => by exfalso; omega) (fun q3 => ?_)
    refine g_iload_n dX11_law_11 rfl (fun _ => ?_)
    refine g_aload_n dX11_law_12 rfl ?_
    refine gR_X11_25 rfl dX11_law_13 sh_0 (b := 61) (m_0_3 hM) ?_
    refine gE_X11_140 rfl dX11_law_16 sh_61 ew61_0.symm ?_
    refine g_icmp_le 24 dX11_law_19 (by decide) (fun _ => by exfalso; omega) (fun q4 => ?_)
    refine g_iconst dX11_law_22 (inR_c rfl) ?_
    exact g_ireturn dX11_law_23 retI (hPo _ (by omega))
  · skip
    refine g_if_eq 22 dX11_law_8 (by decide) (fun q5 => ?_) (fun _ => by exfalso; omega)
    refine g_iconst dX11_law_22 (inR_c rfl) ?_
    exact g_ireturn dX11_law_23 retI (hPo _ (by omega))
set_option maxRecDepth 100000 in
set_option maxHeartbeats 4000000 in
theorem c_X12_law_98 (x1 : Int) (h : MEM) (hM : MBm h) (bx1 : -2147483648 ≤ x1) (dx1 : x1 ≤ 2147483647) (p0_0 : 0 ≤ h 98 1) (p0_1 : h 98 1 ≤ 0) : CP yX12_law cX12_law 4 (some .int) 2 [pR 98, pI x1] h (fun x => x = -1) := by
  refine CP.of (L0 := [some (pR 98), some (pI x1), none, none]) rfl (Nat.le_of_ble_eq_true rfl) rfl (fun Po hPo hav => ?_)
  obtain ⟨w98_1, ew98_1⟩ : ∃ z, z = h 98 1 := ⟨_, rfl⟩
  refine g_iload_n dX12_law_0 rfl (fun _ => ?_)
  refine g_i2l dX12_law_1 ?_
  refine g_lconst (v := 1) dX12_law_2 rfl ?_
  refine g_ldc2 (v := 200) dX12_law_3 kl_X12_316 (by decide) ?_
  refine g_cSP (av := [_, _, _]) (c_X12_lies _ _ _ h hM (by omega) (by omega) (by omega) (by omega) (by omega) (by omega)) dX12_law_6 mi_X12_lies st_X12_lies ml_X12_175 rfl rfl rfl rfl (Nat.le_of_ble_eq_true rfl) (fun v1 q2 => ?_)
  rcases q2 with ⟨rfl, q2⟩ | ⟨rfl, q2⟩
  · skip
    refine g_if_eq 20 dX12_law_9 (by decide) (fun _ => by exfalso; omega) (fun q3 => ?_)
    refine g_iload_n dX12_law_12 rfl (fun _ => ?_)
    refine g_aload_n dX12_law_13 rfl ?_
    refine gE_X12_204 rfl dX12_law_14 sh_98 ew98_1.symm ?_
    refine g_icmp_le 22 dX12_law_17 (by decide) (fun _ => by exfalso; omega) (fun q4 => ?_)
    refine g_iconst dX12_law_20 (inR_c rfl) ?_
    exact g_ireturn dX12_law_21 retI (hPo _ (by omega))
  · skip
    refine g_if_eq 20 dX12_law_9 (by decide) (fun q5 => ?_) (fun _ => by exfalso; omega)
    refine g_iconst dX12_law_20 (inR_c rfl) ?_
    exact g_ireturn dX12_law_21 retI (hPo _ (by omega))
set_option maxRecDepth 100000 in
set_option maxHeartbeats 4000000 in
theorem c_X9_nextWind_1 (h : MEM) (hM : MBx h) : CI yX9_nextWind cX9_nextWind 1 (some .int) 1 [pR 1] h (fun x h' => MBx h' ∧ Fr [(1, 8)] h h' ∧ 0 ≤ x ∧ x ≤ 9) := by
  refine CI.of (L0 := [some (pR 1)]) rfl (Nat.le_of_ble_eq_true rfl) rfl (fun Po hPo hav => ?_)
  refine g_aload_n dX9_nextWind_0 rfl ?_
  refine g_sipush dX9_nextWind_1 (inR_c rfl) (by decide) ?_
  refine g_aload_n dX9_nextWind_4 rfl ?_
  refine gI_X9_46 rfl dX9_nextWind_5 sh_1 (m_1_7 hM) (fun v1 ev1 bv1 cv1 => ?_)
  refine g_imulB dX9_nextWind_8 (by omega) (by omega) ?_
  refine g_sipush dX9_nextWind_9 (inR_c rfl) (by decide) ?_
  refine g_iaddB dX9_nextWind_12 (by omega) (by omega) ?_
  refine g_ldc (v := 65535) dX9_nextWind_13 kc_X9_86 (inR_c rfl) ?_
  refine g_iandX (lo := 0) (hi := 65535) dX9_nextWind_15 (iand_r (by omega) (by omega)) (fun v2 ev2 bv2 cv2 => ?_)
  refine pI_X9_46 rfl dX9_nextWind_16 sh_1 (fun h3 eh3 => ?_)
  have hFh3 := Fr.st eh3
  have hMh3 := u_1_7 hM eh3 (by omega) (by omega)
  refine g_aload_n dX9_nextWind_19 rfl ?_
  refine gE_X9_46 rfl dX9_nextWind_20 sh_1 (st_at eh3) ?_
  refine g_bipush dX9_nextWind_23 (inR_c rfl) (by decide) ?_
  refine g_iremX (lo := 0) (hi := 9) dX9_nextWind_25 (by omega) (irem_b (by omega) (by omega) (by omega)) (fun v4 ev4 bv4 cv4 => ?_)
  exact g_ireturn dX9_nextWind_26 retI (hPo _ _ ⟨hMh3, (Fr.sub hFh3 rfl), (by omega), (by omega)⟩)
set_option maxRecDepth 100000 in
set_option maxHeartbeats 4000000 in
theorem c_X9_passHour_1_82 (x1 : Int) (h : MEM) (hM : MBx h) (bx1 : 0 ≤ x1) (dx1 : x1 ≤ 9) : CI yX9_passHour cX9_passHour 6 (some .int) 1 [pR 1, pR 82, pI x1] h (fun x h' => MBx h' ∧ Fr [(1, 7)] h h' ∧ 0 ≤ x ∧ x ≤ 0) := by
  refine CI.of (L0 := [some (pR 1), some (pR 82), some (pI x1), none, none, none]) rfl (Nat.le_of_ble_eq_true rfl) rfl (fun Po hPo hav => ?_)
  refine g_iconst dX9_passHour_0 (inR_c rfl) ?_
  refine g_istore_n dX9_passHour_1 (by decide) rfl ?_
  refine g_aload_n dX9_passHour_2 rfl ?_
  refine gI_X9_42 rfl dX9_passHour_3 sh_1 (m_1_6 hM) (fun v1 ev1 bv1 cv1 => ?_)
  refine g_if_lt 35 dX9_passHour_6 (by decide) (fun q2 => ?_) (fun q2 => ?_)
  · skip
    refine g_iconst dX9_passHour_35 (inR_c rfl) ?_
    refine g_istore dX9_passHour_36 (by decide) rfl ?_
    refine g_iload dX9_passHour_38 rfl (fun _ => ?_)
    refine g_if_ne 104 dX9_passHour_40 (by decide) (fun _ => by exfalso; omega) (fun q3 => ?_)
    refine g_iconst dX9_passHour_43 (inR_c rfl) ?_
    refine g_istore dX9_passHour_44 (by decide) rfl ?_
    refine g_iload dX9_passHour_46 rfl (fun _ => ?_)
    refine g_aload_n dX9_passHour_48 rfl ?_
    refine gR_X9_21 rfl dX9_passHour_49 sh_1 (b := 6) (m_1_1 hM) ?_
    refine gI_X9_85 rfl dX9_passHour_52 sh_6 (m_6_0 hM) (fun v4 ev4 bv4 cv4 => ?_)
    refine g_icmp_ge 72 dX9_passHour_55 (by decide) (fun q5 => ?_) (fun _ => by exfalso; omega)
    refine g_iconst dX9_passHour_72 (inR_c rfl) ?_
    refine g_istore dX9_passHour_73 (by decide) rfl ?_
    refine g_iload dX9_passHour_75 rfl (fun _ => ?_)
    refine g_aload_n dX9_passHour_77 rfl ?_
    refine gR_X9_21 rfl dX9_passHour_78 sh_1 (b := 6) (m_1_1 hM) ?_
    refine gE_X9_85 rfl dX9_passHour_81 sh_6 ev4.symm ?_
    refine g_icmp_ge 104 dX9_passHour_84 (by decide) (fun q6 => ?_) (fun _ => by exfalso; omega)
    refine g_aload_n dX9_passHour_104 rfl ?_
    refine g_dup dX9_passHour_105 rfl ?_
    refine gE_X9_42 rfl dX9_passHour_106 sh_1 ev1.symm ?_
    refine g_iconst dX9_passHour_109 (inR_c rfl) ?_
    refine g_iaddB dX9_passHour_110 (by omega) (by omega) ?_
    refine pI_X9_42 rfl dX9_passHour_111 sh_1 (fun h7 eh7 => ?_)
    have hFh7 := Fr.st eh7
    have hMh7 := u_1_6 hM eh7 (by omega) (by omega)
    refine g_iload_n dX9_passHour_114 rfl (fun _ => ?_)
    exact g_ireturn dX9_passHour_115 retI (hPo _ _ ⟨hMh7, (Fr.sub hFh7 rfl), (by omega), (by omega)⟩)
  · skip
    refine g_aload_n dX9_passHour_9 rfl ?_
    refine gE_X9_42 rfl dX9_passHour_10 sh_1 ev1.symm ?_
    refine g_bipush dX9_passHour_13 (inR_c rfl) (by decide) ?_
    refine g_icmp_ge 35 dX9_passHour_15 (by decide) (fun q8 => ?_) (fun q8 => ?_)
    · skip
      refine g_iconst dX9_passHour_35 (inR_c rfl) ?_
      refine g_istore dX9_passHour_36 (by decide) rfl ?_
      refine g_iload dX9_passHour_38 rfl (fun _ => ?_)
      refine g_if_ne 104 dX9_passHour_40 (by decide) (fun _ => by exfalso; omega) (fun q9 => ?_)
      refine g_iconst dX9_passHour_43 (inR_c rfl) ?_
      refine g_istore dX9_passHour_44 (by decide) rfl ?_
      refine g_iload dX9_passHour_46 rfl (fun _ => ?_)
      refine g_aload_n dX9_passHour_48 rfl ?_
      refine gR_X9_21 rfl dX9_passHour_49 sh_1 (b := 6) (m_1_1 hM) ?_
      refine gI_X9_85 rfl dX9_passHour_52 sh_6 (m_6_0 hM) (fun v10 ev10 bv10 cv10 => ?_)
      refine g_icmp_ge 72 dX9_passHour_55 (by decide) (fun q11 => ?_) (fun _ => by exfalso; omega)
      refine g_iconst dX9_passHour_72 (inR_c rfl) ?_
      refine g_istore dX9_passHour_73 (by decide) rfl ?_
      refine g_iload dX9_passHour_75 rfl (fun _ => ?_)
      refine g_aload_n dX9_passHour_77 rfl ?_
      refine gR_X9_21 rfl dX9_passHour_78 sh_1 (b := 6) (m_1_1 hM) ?_
      refine gE_X9_85 rfl dX9_passHour_81 sh_6 ev10.symm ?_
      refine g_icmp_ge 104 dX9_passHour_84 (by decide) (fun q12 => ?_) (fun _ => by exfalso; omega)
      refine g_aload_n dX9_passHour_104 rfl ?_
      refine g_dup dX9_passHour_105 rfl ?_
      refine gE_X9_42 rfl dX9_passHour_106 sh_1 ev1.symm ?_
      refine g_iconst dX9_passHour_109 (inR_c rfl) ?_
      refine g_iaddF dX9_passHour_110 (fun v13 bv13 cv13 => ?_)
      refine pI_X9_42 rfl dX9_passHour_111 sh_1 (fun h14 eh14 => ?_)
      have hFh14 := Fr.st eh14
      have hMh14 := u_1_6 hM eh14 (by omega) (by omega)
      refine g_iload_n dX9_passHour_114 rfl (fun _ => ?_)
      exact g_ireturn dX9_passHour_115 retI (hPo _ _ ⟨hMh14, (Fr.sub hFh14 rfl), (by omega), (by omega)⟩)
    · skip
      refine g_aload_n dX9_passHour_18 rfl ?_
      refine gR_X9_39 rfl dX9_passHour_19 sh_1 (b := 19) (m_1_5 hM) ?_
      refine g_aload_n dX9_passHour_22 rfl ?_
      refine gE_X9_42 rfl dX9_passHour_23 sh_1 ev1.symm ?_
      refine g_ialdB dX9_passHour_26 sh_19 (by omega) (by omega) (m_19 hM _) (fun v15 ev15 bv15 cv15 => ?_)
      refine g_iconst dX9_passHour_27 (inR_c rfl) ?_
      refine g_icmp_ne 35 dX9_passHour_28 (by decide) (fun q16 => ?_) (fun _ => by exfalso; omega)
      refine g_iconst dX9_passHour_35 (inR_c rfl) ?_
      refine g_istore dX9_passHour_36 (by decide) rfl ?_
      refine g_iload dX9_passHour_38 rfl (fun _ => ?_)
      refine g_if_ne 104 dX9_passHour_40 (by decide) (fun _ => by exfalso; omega) (fun q17 => ?_)
      refine g_iconst dX9_passHour_43 (inR_c rfl) ?_
      refine g_istore dX9_passHour_44 (by decide) rfl ?_
      refine g_iload dX9_passHour_46 rfl (fun _ => ?_)
      refine g_aload_n dX9_passHour_48 rfl ?_
      refine gR_X9_21 rfl dX9_passHour_49 sh_1 (b := 6) (m_1_1 hM) ?_
      refine gI_X9_85 rfl dX9_passHour_52 sh_6 (m_6_0 hM) (fun v18 ev18 bv18 cv18 => ?_)
      refine g_icmp_ge 72 dX9_passHour_55 (by decide) (fun q19 => ?_) (fun _ => by exfalso; omega)
      refine g_iconst dX9_passHour_72 (inR_c rfl) ?_
      refine g_istore dX9_passHour_73 (by decide) rfl ?_
      refine g_iload dX9_passHour_75 rfl (fun _ => ?_)
      refine g_aload_n dX9_passHour_77 rfl ?_
      refine gR_X9_21 rfl dX9_passHour_78 sh_1 (b := 6) (m_1_1 hM) ?_
      refine gE_X9_85 rfl dX9_passHour_81 sh_6 ev18.symm ?_
      refine g_icmp_ge 104 dX9_passHour_84 (by decide) (fun q20 => ?_) (fun _ => by exfalso; omega)
      refine g_aload_n dX9_passHour_104 rfl ?_
      refine g_dup dX9_passHour_105 rfl ?_
      refine gE_X9_42 rfl dX9_passHour_106 sh_1 ev1.symm ?_
      refine g_iconst dX9_passHour_109 (inR_c rfl) ?_
      refine g_iaddB dX9_passHour_110 (by omega) (by omega) ?_
      refine pI_X9_42 rfl dX9_passHour_111 sh_1 (fun h21 eh21 => ?_)
      have hFh21 := Fr.st eh21
      have hMh21 := u_1_6 hM eh21 (by omega) (by omega)
      refine g_iload_n dX9_passHour_114 rfl (fun _ => ?_)
      exact g_ireturn dX9_passHour_115 retI (hPo _ _ ⟨hMh21, (Fr.sub hFh21 rfl), (by omega), (by omega)⟩)
