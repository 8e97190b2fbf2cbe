set_option maxRecDepth 100000 in
set_option maxHeartbeats 4000000 in
theorem c_X11_worth_0 (x1 x2 x3 : Int) (h : MEM) (hM : MBx h) (bx1 : -2147483648 ≤ x1) (dx1 : x1 ≤ 2147483647) (bx2 : -2147483648 ≤ x2) (dx2 : x2 ≤ 2147483647) (bx3 : -2147483648 ≤ x3) (dx3 : x3 ≤ 2147483647) : CP yX11_worth cX11_worth 5 (some .int) 3 [pR 0, pI x1, pI x2, pI x3] h (fun x => x = -10000) := by
  refine CP.of (L0 := [some (pR 0), some (pI x1), some (pI x2), some (pI x3), none]) rfl (Nat.le_of_ble_eq_true rfl) rfl (fun Po hPo hav => ?_)
  refine g_aload_n dX11_worth_0 rfl ?_
  refine g_iload_n dX11_worth_1 rfl (fun _ => ?_)
  refine g_iload_n dX11_worth_2 rfl (fun _ => ?_)
  refine g_cVP (as := [_, _]) (c_X11_hasGearBearer_0 _ _ h hM (by omega) (by omega) (by omega) (by omega)) dX11_worth_3 mi_X11_hasGearBearer in_X11_hasGearBearer se_X11_hasGearBearer ml_X11_126 rfl rfl rfl sh_0 rfl rfl (Nat.le_of_ble_eq_true rfl) (fun v1 q2 => ?_)
  obtain ⟨bv1, cv1⟩ := q2
  refine g_if_eq 32 dX11_worth_6 (by decide) (fun q3 => ?_) (fun _ => by exfalso; omega)
  refine g_sipush dX11_worth_32 (inR_c rfl) (by decide) ?_
  exact g_ireturn dX11_worth_35 retI (hPo _ (by omega))
set_option maxRecDepth 100000 in
set_option maxHeartbeats 4000000 in
theorem c_X12_worth_98 (x1 x2 x3 : Int) (h : MEM) (hM : MBm h) (bx1 : -2147483648 ≤ x1) (dx1 : x1 ≤ 2147483647) (bx2 : -2147483648 ≤ x2) (dx2 : x2 ≤ 2147483647) (bx3 : -2147483648 ≤ x3) (dx3 : x3 ≤ 2147483647) (p0_0 : 0 ≤ h 98 5) (p0_1 : h 98 5 ≤ 0) : CP yX12_worth cX12_worth 5 (some .int) 3 [pR 98, pI x1, pI x2, pI x3] h (fun x => x = -10000) := by
  refine CP.of (L0 := [some (pR 98), some (pI x1), some (pI x2), some (pI x3), none]) rfl (Nat.le_of_ble_eq_true rfl) rfl (fun Po hPo hav => ?_)
  obtain ⟨w98_5, ew98_5⟩ : ∃ z, z = h 98 5 := ⟨_, rfl⟩
  refine g_iload_n dX12_worth_0 rfl (fun _ => ?_)
  refine g_cSP (av := [_]) (c_X12_areHours _ h hM (by omega) (by omega)) dX12_worth_1 mi_X12_areHours st_X12_areHours ml_X12_398 rfl rfl rfl rfl (Nat.le_of_ble_eq_true rfl) (fun v1 q2 => ?_)
  rcases q2 with ⟨rfl, q2⟩ | ⟨rfl, q2⟩
  · skip
    refine g_if_eq 58 dX12_worth_4 (by decide) (fun _ => by exfalso; omega) (fun q3 => ?_)
    refine g_iload_n dX12_worth_7 rfl (fun _ => ?_)
    refine g_i2l dX12_worth_8 ?_
    refine g_lconst (v := 0) dX12_worth_9 rfl ?_
    refine g_lconst (v := 1) dX12_worth_10 rfl ?_
    refine g_cSP (av := [_, _, _]) (c_X12_lies _ _ _ h hM (by omega) (by omega) (by omega) (by omega) (by omega) (by omega)) dX12_worth_11 mi_X12_lies st_X12_lies ml_X12_175 rfl rfl rfl rfl (Nat.le_of_ble_eq_true rfl) (fun v4 q5 => ?_)
    rcases q5 with ⟨rfl, q5⟩ | ⟨rfl, q5⟩
    · skip
      refine g_if_eq 58 dX12_worth_14 (by decide) (fun _ => by exfalso; omega) (fun q6 => ?_)
      refine g_iload_n dX12_worth_17 rfl (fun _ => ?_)
      refine g_if_ne 41 dX12_worth_18 (by decide) (fun q7 => ?_) (fun q7 => ?_)
      · skip
        refine g_aload_n dX12_worth_41 rfl ?_
        refine g_iload_n dX12_worth_42 rfl (fun _ => ?_)
        refine g_cVP (as := [_]) (c_X12_isMaster_98 _ h hM (by omega) (by omega)) dX12_worth_43 mi_X12_isMaster in_X12_isMaster se_X12_isMaster ml_X12_201 rfl rfl rfl sh_98 rfl rfl (Nat.le_of_ble_eq_true rfl) (fun v8 q9 => ?_)
        obtain ⟨v10, ev10⟩ : ∃ z, z = h 98 4 := ⟨_, rfl⟩
        have bv10 : 0 ≤ v10 ∧ v10 ≤ 0 := by rw [ev10]; exact (m_98_4 hM)
        rcases q9 with ⟨rfl, q9⟩ | ⟨rfl, q9⟩
        · skip
          exfalso; omega
        · skip
          refine g_if_eq 58 dX12_worth_46 (by decide) (fun q11 => ?_) (fun _ => by exfalso; omega)
          refine g_sipush dX12_worth_58 (inR_c rfl) (by decide) ?_
          exact g_ireturn dX12_worth_61 retI (hPo _ (by omega))
      · skip
        refine g_aload_n dX12_worth_21 rfl ?_
        refine g_iload_n dX12_worth_22 rfl (fun _ => ?_)
        refine g_cVP (as := [_]) (c_X12_isApprentice_98 _ h hM (by omega) (by omega)) dX12_worth_23 mi_X12_isApprentice in_X12_isApprentice se_X12_isApprentice ml_X12_195 rfl rfl rfl sh_98 rfl rfl (Nat.le_of_ble_eq_true rfl) (fun v12 q13 => ?_)
        obtain ⟨v14, ev14⟩ : ∃ z, z = h 98 3 := ⟨_, rfl⟩
        have bv14 : 0 ≤ v14 ∧ v14 ≤ 0 := by rw [ev14]; exact (m_98_3 hM)
        rcases q13 with ⟨rfl, q13⟩ | ⟨rfl, q13⟩
        · skip
          exfalso; omega
        · skip
          refine g_if_eq 58 dX12_worth_26 (by decide) (fun q15 => ?_) (fun _ => by exfalso; omega)
          refine g_sipush dX12_worth_58 (inR_c rfl) (by decide) ?_
          exact g_ireturn dX12_worth_61 retI (hPo _ (by omega))
    · skip
      refine g_if_eq 58 dX12_worth_14 (by decide) (fun q16 => ?_) (fun _ => by exfalso; omega)
      refine g_sipush dX12_worth_58 (inR_c rfl) (by decide) ?_
      exact g_ireturn dX12_worth_61 retI (hPo _ (by omega))
  · skip
    refine g_if_eq 58 dX12_worth_4 (by decide) (fun q17 => ?_) (fun _ => by exfalso; omega)
    refine g_sipush dX12_worth_58 (inR_c rfl) (by decide) ?_
    exact g_ireturn dX12_worth_61 retI (hPo _ (by omega))
set_option maxRecDepth 100000 in
set_option maxHeartbeats 4000000 in
theorem c_X3_tellRow_71 (x1 : Int) (h : MEM) (hM : MBx h) (bx1 : 0 ≤ x1) (dx1 : x1 ≤ 0) : CV yX3_tellRow cX3_tellRow 4 (none) 1 [pR 71, pI x1] h (fun h' => h' = h) := by
  refine CV.of (L0 := [some (pR 71), some (pI x1), none, none]) rfl (Nat.le_of_ble_eq_true rfl) rfl (fun Po hPo hav => ?_)
  replace hPo : ∀ _ : Unit, True → Po none SH h := fun _ _ => hPo h rfl
  refine g_iconst dX3_tellRow_0 (inR_c rfl) ?_
  refine g_istore_n dX3_tellRow_1 (by decide) rfl ?_
  refine g_iconst dX3_tellRow_2 (inR_c rfl) ?_
  refine g_istore_n dX3_tellRow_3 (by decide) rfl ?_
  refine g_iload_n dX3_tellRow_4 rfl (fun _ => ?_)
  refine g_iload_n dX3_tellRow_5 rfl (fun _ => ?_)
  refine g_icmp_ge 49 dX3_tellRow_6 (by decide) (fun q1 => ?_) (fun _ => by exfalso; omega)
  exact g_return dX3_tellRow_49 rfl (hPo () trivial)
set_option maxRecDepth 100000 in
set_option maxHeartbeats 4000000 in
theorem c_X3_plan_71_1 (x1 : Int) (h : MEM) (hM : MBx h) (bx1 : 1 ≤ x1) (dx1 : x1 ≤ 99) : CV yX3_plan cX3_plan 7 (none) 2 [pR 71, pR 1, pI x1] h (fun h' => MBx h' ∧ Fr [(71, 1), (74, 0)] h h') := by
  refine CV.of (L0 := [some (pR 71), some (pR 1), some (pI x1), none, none, none, none]) rfl (Nat.le_of_ble_eq_true rfl) rfl (fun Po hPo hav => ?_)
  refine g_aload_n dX3_plan_0 rfl ?_
  refine gR_X3_25 rfl dX3_plan_1 sh_1 (b := 12) (m_1_2 hM) ?_
  refine gI_X3_31 rfl dX3_plan_4 sh_12 (m_12_0 hM) (fun v1 ev1 bv1 cv1 => ?_)
  refine g_istore_n dX3_plan_7 (by decide) rfl ?_
  refine g_iconst dX3_plan_8 (inR_c rfl) ?_
  refine g_aload_n dX3_plan_9 rfl ?_
  refine gR_X3_36 rfl dX3_plan_10 sh_1 (b := 6) (m_1_1 hM) ?_
  refine gI_X3_40 rfl dX3_plan_13 sh_6 (m_6_0 hM) (fun v2 ev2 bv2 cv2 => ?_)
  refine g_ishlX (lo := 1) (hi := 1) dX3_plan_16 (ishl1_b 0 (by decide) (by omega) (by omega)) (fun v3 ev3 bv3 cv3 => ?_)
  refine g_istore dX3_plan_17 (by decide) rfl ?_
  refine g_iconst dX3_plan_19 (inR_c rfl) ?_
  refine g_istore dX3_plan_20 (by decide) rfl ?_
  refine g_iload dX3_plan_22 rfl (fun _ => ?_)
  refine g_iload_n dX3_plan_24 rfl (fun _ => ?_)
  refine g_icmp_ge 48 dX3_plan_25 (by decide) (fun q4 => ?_) (fun _ => by exfalso; omega)
  refine g_iconst dX3_plan_48 (inR_c rfl) ?_
  have c51 : ∀ (n : Nat) (y5 : Int) (h6 : MEM), MBx h6 → Fr [(74, 0)] h h6 → 0 ≤ y5 → y5 ≤ 1 → 1 - y5 < (n : Int) → G yX3_plan cX3_plan 7 (none) none Po (2, 120, 0, 0) 51 [some (pR 71), none, none, some (pI v1), some (pI v3), some (pI y5), none] [] SH h6 0 0 := by
    intro n
    induction n with
    | zero =>
      intro y5 h6 hMh6 hFh6 by5 dy5 hn
      exfalso; omega
    | succ n ih =>
      intro y5 h6 hMh6 hFh6 by5 dy5 hn
      refine g_iload dX3_plan_51 rfl (fun _ => ?_)
      refine g_iload dX3_plan_53 rfl (fun _ => ?_)
      refine g_icmp_ge 78 dX3_plan_55 (by decide) (fun q7 => ?_) (fun q7 => ?_)
      · skip
        refine g_iload_n dX3_plan_78 rfl (fun _ => ?_)
        refine g_iconst dX3_plan_79 (inR_c rfl) ?_
        refine g_isubB dX3_plan_80 (by omega) (by omega) ?_
        refine g_istore dX3_plan_81 (by decide) rfl ?_
        refine g_iload dX3_plan_83 rfl (fun _ => ?_)
        refine g_if_lt 132 dX3_plan_85 (by decide) (fun q8 => ?_) (fun _ => by exfalso; omega)
        refine g_aload_n dX3_plan_132 rfl ?_
        refine g_aload_n dX3_plan_133 rfl ?_
        refine gR_X3_22 rfl dX3_plan_134 sh_71 (b := 74) (m_71_3 hMh6) ?_
        refine g_iconst dX3_plan_137 (inR_c rfl) ?_
        refine g_ialdB dX3_plan_138 sh_74 (by omega) (by omega) (m_74 hMh6 _) (fun v9 ev9 bv9 cv9 => ?_)
        refine pI_X3_9 rfl dX3_plan_139 sh_71 (fun h10 eh10 => ?_)
        have hFh10 := Fr.st eh10
        have hMh10 := u_71_0 hMh6 eh10 (by omega) (by omega)
        refine g_aload_n dX3_plan_142 rfl ?_
        refine g_iload_n dX3_plan_143 rfl (fun _ => ?_)
        refine g_cVVP (as := [_]) (c_X3_tellRow_71 _ h10 hMh10 (by omega) (by omega)) dX3_plan_144 mi_X3_tellRow in_X3_tellRow se_X3_tellRow ml_X3_51 rfl rfl rfl sh_71 rfl rfl (Nat.le_of_ble_eq_true rfl) (fun q11 => ?_)
        exact g_return dX3_plan_147 rfl (hPo _ ⟨hMh10, (Fr.tr (Fr.sub hFh6 rfl) hFh10 rfl)⟩)
      · skip
        refine g_aload_n dX3_plan_58 rfl ?_
        refine gR_X3_22 rfl dX3_plan_59 sh_71 (b := 74) (m_71_3 hMh6) ?_
        refine g_iload_n dX3_plan_62 rfl (fun _ => ?_)
        refine g_sipush dX3_plan_63 (inR_c rfl) (by decide) ?_
        refine g_imulB dX3_plan_66 (by omega) (by omega) ?_
        refine g_iload dX3_plan_67 rfl (fun _ => ?_)
        refine g_iaddB dX3_plan_69 (by omega) (by omega) ?_
        refine g_iconst dX3_plan_70 (inR_c rfl) ?_
        refine g_iastB dX3_plan_71 sh_74 (by omega) (by omega) (fun h12 eh12 => ?_)
        have hFh12 := Fr.ar eh12
        have hMh12 := u_74 hMh6 eh12 (by omega) (by omega)
        refine g_iincB dX3_plan_72 rfl rfl (by omega) (by omega) ?_
        refine g_goto 51 dX3_plan_75 (by decide) ?_
        exact ih _ _ hMh12 (Fr.tr (Fr.sub hFh6 rfl) hFh12 rfl) (by omega) (by omega) (by omega)
  refine g_istore dX3_plan_49 (by decide) rfl ?_
  refine g_drop 1 ?_
  refine g_drop 2 ?_
  exact c51 2 _ _ hM Fr.rf (by omega) (by omega) (by omega)
set_option maxRecDepth 100000 in
set_option maxHeartbeats 4000000 in
theorem c_X3_handOut_71_1 (h : MEM) (hM : MBx h) : CV yX3_handOut cX3_handOut 3 (none) 1 [pR 71, pR 1] h (fun h' => h' = h) := by
  refine CV.of (L0 := [some (pR 71), some (pR 1), none]) rfl (Nat.le_of_ble_eq_true rfl) rfl (fun Po hPo hav => ?_)
  replace hPo : ∀ _ : Unit, True → Po none SH h := fun _ _ => hPo h rfl
  refine g_iconst dX3_handOut_0 (inR_c rfl) ?_
  refine g_istore_n dX3_handOut_1 (by decide) rfl ?_
  refine g_iload_n dX3_handOut_2 rfl (fun _ => ?_)
  refine g_aload_n dX3_handOut_3 rfl ?_
  refine gR_X3_25 rfl dX3_handOut_4 sh_1 (b := 12) (m_1_2 hM) ?_
  refine gI_X3_31 rfl dX3_handOut_7 sh_12 (m_12_0 hM) (fun v1 ev1 bv1 cv1 => ?_)
  refine g_icmp_ge 50 dX3_handOut_10 (by decide) (fun q2 => ?_) (fun _ => by exfalso; omega)
  exact g_return dX3_handOut_50 rfl (hPo () trivial)
set_option maxRecDepth 100000 in
set_option maxHeartbeats 4000000 in
theorem c_X11_lent_0 (x1 x2 : Int) (h : MEM) (hM : MBx h) (bx1 : -2147483648 ≤ x1) (dx1 : x1 ≤ 2147483647) (bx2 : -2147483648 ≤ x2) (dx2 : x2 ≤ 2147483647) : CI yX11_lent cX11_lent 4 (some .int) 3 [pR 0, pI x1, pI x2] h (fun x h' => Fr [(71, 1), (74, 0)] h h' ∧ ((1 ≤ x1 ∧ x1 ≤ 99 ∧ 10 ≤ x2 ∧ x2 ≤ 11) ∧ x = 0 ∨ ¬ (1 ≤ x1 ∧ x1 ≤ 99 ∧ 10 ≤ x2 ∧ x2 ≤ 11) ∧ x = -1)) := by
  refine CI.of (L0 := [some (pR 0), some (pI x1), some (pI x2), none]) rfl (Nat.le_of_ble_eq_true rfl) rfl (fun Po hPo hav => ?_)
  refine g_aload_n dX11_lent_0 rfl ?_
  refine gR_X11_10 rfl dX11_lent_1 sh_0 (b := 1) (m_0_0 hM) ?_
  refine gR_X11_104 rfl dX11_lent_4 sh_1 (b := 12) (m_1_2 hM) ?_
  refine g_iload_n dX11_lent_7 rfl (fun _ => ?_)
  refine g_cVP (as := [_]) (c_X4_has_12 _ h hM (by omega) (by omega)) dX11_lent_8 mi_X4_has in_X4_has se_X4_has ml_X11_124 rfl rfl rfl sh_12 rfl rfl (Nat.le_of_ble_eq_true rfl) (fun v1 q2 => ?_)
  obtain ⟨v3, ev3⟩ : ∃ z, z = h 12 0 := ⟨_, rfl⟩
  have bv3 : 0 ≤ v3 ∧ v3 ≤ 0 := by rw [ev3]; exact (m_12_0 hM)
  rcases q2 with ⟨rfl, q2⟩ | ⟨rfl, q2⟩
  · skip
    exfalso; omega
  · skip
    refine g_istore_n dX11_lent_11 (by decide) rfl ?_
    refine g_iload_n dX11_lent_12 rfl (fun _ => ?_)
    refine g_iconst dX11_lent_13 (inR_c rfl) ?_
    refine g_bipush dX11_lent_14 (inR_c rfl) (by decide) ?_
    refine g_cSP (av := [_, _, _]) (c_X11_isWithin _ _ _ h hM (by omega) (by omega) (by omega) (by omega) (by omega) (by omega)) dX11_lent_16 mi_X11_isWithin st_X11_isWithin ml_X11_81 rfl rfl rfl rfl (Nat.le_of_ble_eq_true rfl) (fun v4 q5 => ?_)
    rcases q5 with ⟨rfl, q5⟩ | ⟨rfl, q5⟩
    · skip
      refine g_if_eq 38 dX11_lent_19 (by decide) (fun _ => by exfalso; omega) (fun q6 => ?_)
      refine g_iload_n dX11_lent_22 rfl (fun _ => ?_)
      refine g_bipush dX11_lent_23 (inR_c rfl) (by decide) ?_
      refine g_icmp_eq 40 dX11_lent_25 (by decide) (fun q7 => ?_) (fun q7 => ?_)
      · skip
        refine g_aload_n dX11_lent_40 rfl ?_
        refine gR_X11_49 rfl dX11_lent_41 sh_0 (b := 71) (m_0_7 hM) ?_
        refine g_aload_n dX11_lent_44 rfl ?_
        refine gR_X11_10 rfl dX11_lent_45 sh_0 (b := 1) (m_0_0 hM) ?_
        refine g_iload_n dX11_lent_48 rfl (fun _ => ?_)
        refine g_cVV (as := [_, _]) (c_X3_plan_71_1 _ h hM (by omega) (by omega)) dX11_lent_49 mi_X3_plan in_X3_plan se_X3_plan ml_X11_250 rfl rfl rfl sh_71 rfl rfl (Nat.le_of_ble_eq_true rfl) (fun h8 q9 => ?_)
        obtain ⟨hMh8, hFh8⟩ := q9
        refine g_iload_n dX11_lent_52 rfl (fun _ => ?_)
        refine g_if_eq 66 dX11_lent_53 (by decide) (fun q10 => ?_) (fun _ => by exfalso; omega)
        refine g_iload_n dX11_lent_66 rfl (fun _ => ?_)
        refine g_bipush dX11_lent_67 (inR_c rfl) (by decide) ?_
        refine g_icmp_ne 83 dX11_lent_69 (by decide) (fun q11 => ?_) (fun _ => by exfalso; omega)
        refine g_aload_n dX11_lent_83 rfl ?_
        refine gR_X11_49 rfl dX11_lent_84 sh_0 (b := 71) (m_0_7 hMh8) ?_
        refine gI_X11_260 rfl dX11_lent_87 sh_71 (m_71_0 hMh8) (fun v12 ev12 bv12 cv12 => ?_)
        exact g_ireturn dX11_lent_90 retI (hPo _ _ ⟨(Fr.sub hFh8 rfl), (by omega)⟩)
      · skip
        refine g_iload_n dX11_lent_28 rfl (fun _ => ?_)
        refine g_bipush dX11_lent_29 (inR_c rfl) (by decide) ?_
        refine g_icmp_eq 40 dX11_lent_31 (by decide) (fun q13 => ?_) (fun q13 => ?_)
        · skip
          refine g_aload_n dX11_lent_40 rfl ?_
          refine gR_X11_49 rfl dX11_lent_41 sh_0 (b := 71) (m_0_7 hM) ?_
          refine g_aload_n dX11_lent_44 rfl ?_
          refine gR_X11_10 rfl dX11_lent_45 sh_0 (b := 1) (m_0_0 hM) ?_
          refine g_iload_n dX11_lent_48 rfl (fun _ => ?_)
          refine g_cVV (as := [_, _]) (c_X3_plan_71_1 _ h hM (by omega) (by omega)) dX11_lent_49 mi_X3_plan in_X3_plan se_X3_plan ml_X11_250 rfl rfl rfl sh_71 rfl rfl (Nat.le_of_ble_eq_true rfl) (fun h14 q15 => ?_)
          obtain ⟨hMh14, hFh14⟩ := q15
          refine g_iload_n dX11_lent_52 rfl (fun _ => ?_)
          refine g_if_eq 66 dX11_lent_53 (by decide) (fun q16 => ?_) (fun _ => by exfalso; omega)
          refine g_iload_n dX11_lent_66 rfl (fun _ => ?_)
          refine g_bipush dX11_lent_67 (inR_c rfl) (by decide) ?_
          refine g_icmp_ne 83 dX11_lent_69 (by decide) (fun _ => by exfalso; omega) (fun q17 => ?_)
          refine g_aload_n dX11_lent_72 rfl ?_
          refine gR_X11_49 rfl dX11_lent_73 sh_0 (b := 71) (m_0_7 hMh14) ?_
          refine g_aload_n dX11_lent_76 rfl ?_
          refine gR_X11_10 rfl dX11_lent_77 sh_0 (b := 1) (m_0_0 hMh14) ?_
          refine g_cVVP (as := [_]) (c_X3_handOut_71_1  h14 hMh14) dX11_lent_80 mi_X3_handOut in_X3_handOut se_X3_handOut ml_X11_257 rfl rfl rfl sh_71 rfl rfl (Nat.le_of_ble_eq_true rfl) (fun q18 => ?_)
          refine g_aload_n dX11_lent_83 rfl ?_
          refine gR_X11_49 rfl dX11_lent_84 sh_0 (b := 71) (m_0_7 hMh14) ?_
          refine gI_X11_260 rfl dX11_lent_87 sh_71 (m_71_0 hMh14) (fun v19 ev19 bv19 cv19 => ?_)
          exact g_ireturn dX11_lent_90 retI (hPo _ _ ⟨(Fr.sub hFh14 rfl), (by omega)⟩)
        · skip
          refine g_iload_n dX11_lent_34 rfl (fun _ => ?_)
          refine g_if_ne 40 dX11_lent_35 (by decide) (fun _ => by exfalso; omega) (fun q20 => ?_)
          refine g_iconst dX11_lent_38 (inR_c rfl) ?_
          exact g_ireturn dX11_lent_39 retI (hPo _ _ ⟨Fr.rf, (by omega)⟩)
    · skip
      refine g_if_eq 38 dX11_lent_19 (by decide) (fun q21 => ?_) (fun _ => by exfalso; omega)
      refine g_iconst dX11_lent_38 (inR_c rfl) ?_
      exact g_ireturn dX11_lent_39 retI (hPo _ _ ⟨Fr.rf, (by omega)⟩)
set_option maxRecDepth 100000 in
set_option maxHeartbeats 4000000 in
theorem c_X12_sizeOf_k0 (h : MEM) (hM : MBm h) : CP yX12_sizeOf cX12_sizeOf 3 (some .int) 1 [pI 0] h (fun x => 0 ≤ x ∧ x ≤ 0 ∧ x = pcZ 0) := by
  refine CP.of (L0 := [some (pI 0), none, none]) rfl (Nat.le_of_ble_eq_true rfl) rfl (fun Po hPo hav => ?_)
  refine g_iconst dX12_sizeOf_0 (inR_c rfl) ?_
  refine g_istore_n dX12_sizeOf_1 (by decide) rfl ?_
  refine g_iload_n dX12_sizeOf_2 rfl (fun _ => ?_)
  refine g_istore_n dX12_sizeOf_3 (by decide) rfl ?_
  refine g_iload_n dX12_sizeOf_4 rfl (fun _ => ?_)
  refine g_if_eq 20 dX12_sizeOf_5 (by decide) (fun q1 => ?_) (fun _ => by exfalso; omega)
  refine g_iload_n dX12_sizeOf_20 rfl (fun _ => ?_)
  exact g_ireturn dX12_sizeOf_21 retI (hPo _ ⟨(by omega), (by omega), (by have := pcZ_0; first | omega | (subst_vars; omega) | (simp_all; omega))⟩)
set_option maxRecDepth 100000 in
set_option maxHeartbeats 4000000 in
theorem c_X12_lent_98 (x1 x2 : Int) (h : MEM) (hM : MBm h) (bx1 : -2147483648 ≤ x1) (dx1 : x1 ≤ 2147483647) (bx2 : -2147483648 ≤ x2) (dx2 : x2 ≤ 2147483647) : CI yX12_lent cX12_lent 8 (some .int) 3 [pR 98, pI x1, pI x2] h (fun x h' => Fr [(147, 0)] h h' ∧ ((1 ≤ x1 ∧ x1 ≤ 99 ∧ 10 ≤ x2 ∧ x2 ≤ 11) ∧ x = 0 ∨ ¬ (1 ≤ x1 ∧ x1 ≤ 99 ∧ 10 ≤ x2 ∧ x2 ≤ 11) ∧ x = -1)) := by
  refine CI.of (L0 := [some (pR 98), some (pI x1), some (pI x2), none, none, none, none, none]) rfl (Nat.le_of_ble_eq_true rfl) rfl (fun Po hPo hav => ?_)
  refine g_iload_n dX12_lent_0 rfl (fun _ => ?_)
  refine g_i2l dX12_lent_1 ?_
  refine g_lconst (v := 1) dX12_lent_2 rfl ?_
  refine g_ldc2 (v := 99) dX12_lent_3 kl_X12_187 (by decide) ?_
  refine g_cSP (av := [_, _, _]) (c_X12_lies _ _ _ h hM (by omega) (by omega) (by omega) (by omega) (by omega) (by omega)) dX12_lent_6 mi_X12_lies st_X12_lies ml_X12_175 rfl rfl rfl rfl (Nat.le_of_ble_eq_true rfl) (fun v1 q2 => ?_)
  rcases q2 with ⟨rfl, q2⟩ | ⟨rfl, q2⟩
  · skip
    refine g_if_eq 34 dX12_lent_9 (by decide) (fun _ => by exfalso; omega) (fun q3 => ?_)
    refine g_iload_n dX12_lent_12 rfl (fun _ => ?_)
    refine g_i2l dX12_lent_13 ?_
    refine g_ldc2 (v := 10) dX12_lent_14 kl_X12_410 (by decide) ?_
    refine g_ldc2 (v := 11) dX12_lent_17 kl_X12_468 (by decide) ?_
    refine g_cSP (av := [_, _, _]) (c_X12_lies _ _ _ h hM (by omega) (by omega) (by omega) (by omega) (by omega) (by omega)) dX12_lent_20 mi_X12_lies st_X12_lies ml_X12_175 rfl rfl rfl rfl (Nat.le_of_ble_eq_true rfl) (fun v4 q5 => ?_)
    rcases q5 with ⟨rfl, q5⟩ | ⟨rfl, q5⟩
    · skip
      refine g_if_ne 36 dX12_lent_23 (by decide) (fun q6 => ?_) (fun _ => by exfalso; omega)
      refine g_iconst dX12_lent_36 (inR_c rfl) ?_
      have c38 : ∀ (n : Nat) (y7 : Int) (h8 : MEM), MBm h8 → Fr [(147, 0)] h h8 → 0 ≤ y7 → y7 ≤ 256 → 256 - y7 < (n : Int) → G yX12_lent cX12_lent 8 (some .int) none Po (3, 180, 0, 0) 38 [some (pR 98), some (pI x1), some (pI x2), some (pI y7), none, none, none, none] [] SH h8 0 0 := by
        intro n
        induction n with
        | zero =>
          intro y7 h8 hMh8 hFh8 by7 dy7 hn
          exfalso; omega
        | succ n ih =>
          intro y7 h8 hMh8 hFh8 by7 dy7 hn
          refine g_iload_n dX12_lent_38 rfl (fun _ => ?_)
          refine g_sipush dX12_lent_39 (inR_c rfl) (by decide) ?_
          refine g_icmp_ge 67 dX12_lent_42 (by decide) (fun q9 => ?_) (fun q9 => ?_)
          · skip
            refine g_aload_n dX12_lent_67 rfl ?_
            refine gI_X12_182 rfl dX12_lent_68 sh_98 (m_98_4 hMh8) (fun v10 ev10 bv10 cv10 => ?_)
            refine g_iconst dX12_lent_71 (inR_c rfl) ?_
            refine g_isubB dX12_lent_72 (by omega) (by omega) ?_
            refine g_istore_n dX12_lent_73 (by decide) rfl ?_
            refine g_iload_n dX12_lent_74 rfl (fun _ => ?_)
            refine g_if_lt 197 dX12_lent_75 (by decide) (fun q11 => ?_) (fun _ => by exfalso; omega)
            refine g_iload_n dX12_lent_197 rfl (fun _ => ?_)
            refine g_bipush dX12_lent_198 (inR_c rfl) (by decide) ?_
            refine g_icmp_ne 210 dX12_lent_200 (by decide) (fun q12 => ?_) (fun q12 => ?_)
            · skip
              refine g_iconst dX12_lent_210 (inR_c rfl) ?_
              refine g_istore_n dX12_lent_211 (by decide) rfl ?_
              refine g_iconst dX12_lent_212 (inR_c rfl) ?_
              refine g_istore dX12_lent_213 (by decide) rfl ?_
              refine g_iconst dX12_lent_215 (inR_c rfl) ?_
              refine g_istore dX12_lent_216 (by decide) rfl ?_
              refine g_iload dX12_lent_218 rfl (fun _ => ?_)
              refine g_aload_n dX12_lent_220 rfl ?_
              refine gE_X12_182 rfl dX12_lent_221 sh_98 ev10.symm ?_
              refine g_icmp_ge 334 dX12_lent_224 (by decide) (fun q13 => ?_) (fun _ => by exfalso; omega)
              refine g_iload_n dX12_lent_334 rfl (fun _ => ?_)
              refine g_bipush dX12_lent_335 (inR_c rfl) (by decide) ?_
              refine g_icmp_eq 343 dX12_lent_337 (by decide) (fun q14 => ?_) (fun _ => by exfalso; omega)
              refine g_iconst dX12_lent_343 (inR_c rfl) ?_
              refine g_istore dX12_lent_344 (by decide) rfl ?_
              refine g_iload dX12_lent_346 rfl (fun _ => ?_)
              refine g_aload_n dX12_lent_348 rfl ?_
              refine gI_X12_179 rfl dX12_lent_349 sh_98 (m_98_3 hMh8) (fun v15 ev15 bv15 cv15 => ?_)
              refine g_icmp_ge 378 dX12_lent_352 (by decide) (fun q16 => ?_) (fun _ => by exfalso; omega)
              refine g_iload_n dX12_lent_378 rfl (fun _ => ?_)
              refine g_cSP (av := [_]) (c_X12_sizeOf_k0  h8 hMh8) dX12_lent_379 mi_X12_sizeOf st_X12_sizeOf ml_X12_450 rfl rfl rfl rfl (Nat.le_of_ble_eq_true rfl) (fun v17 q18 => ?_)
              obtain ⟨bv17, cv17, zv17⟩ := q18
              exact g_ireturn dX12_lent_382 retI (hPo _ _ ⟨(Fr.sub hFh8 rfl), (by omega)⟩)
            · skip
              refine g_aload_n dX12_lent_203 rfl ?_
              refine gR_X12_160 rfl dX12_lent_204 sh_98 (b := 147) (m_98_75 hMh8) ?_
              refine g_iconst dX12_lent_207 (inR_c rfl) ?_
              refine g_ialdB dX12_lent_208 sh_147 (by omega) (by omega) (m_147 hMh8 _) (fun v19 ev19 bv19 cv19 => ?_)
              exact g_ireturn dX12_lent_209 retI (hPo _ _ ⟨(Fr.sub hFh8 rfl), (by omega)⟩)
          · skip
            refine g_aload_n dX12_lent_45 rfl ?_
            refine gR_X12_160 rfl dX12_lent_46 sh_98 (b := 147) (m_98_75 hMh8) ?_
            refine g_sipush dX12_lent_49 (inR_c rfl) (by decide) ?_
            refine g_aload_n dX12_lent_52 rfl ?_
            refine gI_X12_182 rfl dX12_lent_53 sh_98 (m_98_4 hMh8) (fun v20 ev20 bv20 cv20 => ?_)
            refine g_imulB dX12_lent_56 (by omega) (by omega) ?_
            refine g_iload_n dX12_lent_57 rfl (fun _ => ?_)
            refine g_iaddB dX12_lent_58 (by omega) (by omega) ?_
            refine g_iconst dX12_lent_59 (inR_c rfl) ?_
            refine g_iastB dX12_lent_60 sh_147 (by omega) (by omega) (fun h21 eh21 => ?_)
            have hFh21 := Fr.ar eh21
            have hMh21 := u_147 hMh8 eh21 (by omega) (by omega)
            refine g_iincB dX12_lent_61 rfl rfl (by omega) (by omega) ?_
            refine g_goto 38 dX12_lent_64 (by decide) ?_
            exact ih _ _ hMh21 (Fr.tr (Fr.sub hFh8 rfl) hFh21 rfl) (by omega) (by omega) (by omega)
      refine g_istore_n dX12_lent_37 (by decide) rfl ?_
      exact c38 257 _ _ hM Fr.rf (by omega) (by omega) (by omega)
    · skip
      refine g_if_ne 36 dX12_lent_23 (by decide) (fun _ => by exfalso; omega) (fun q22 => ?_)
      refine g_aload_n dX12_lent_26 rfl ?_
      refine g_iload_n dX12_lent_27 rfl (fun _ => ?_)
      refine g_cVP (as := [_]) (c_X12_isMaster_98 _ h hM (by omega) (by omega)) dX12_lent_28 mi_X12_isMaster in_X12_isMaster se_X12_isMaster ml_X12_201 rfl rfl rfl sh_98 rfl rfl (Nat.le_of_ble_eq_true rfl) (fun v23 q24 => ?_)
      obtain ⟨v25, ev25⟩ : ∃ z, z = h 98 4 := ⟨_, rfl⟩
      have bv25 : 0 ≤ v25 ∧ v25 ≤ 0 := by rw [ev25]; exact (m_98_4 hM)
      rcases q24 with ⟨rfl, q24⟩ | ⟨rfl, q24⟩
      · skip
        exfalso; omega
      · skip
        refine g_if_ne 36 dX12_lent_31 (by decide) (fun _ => by exfalso; omega) (fun q26 => ?_)
        refine g_iconst dX12_lent_34 (inR_c rfl) ?_
        exact g_ireturn dX12_lent_35 retI (hPo _ _ ⟨Fr.rf, (by omega)⟩)
  · skip
    refine g_if_eq 34 dX12_lent_9 (by decide) (fun q27 => ?_) (fun _ => by exfalso; omega)
    refine g_iconst dX12_lent_34 (inR_c rfl) ?_
    exact g_ireturn dX12_lent_35 retI (hPo _ _ ⟨Fr.rf, (by omega)⟩)
set_option maxRecDepth 100000 in
set_option maxHeartbeats 4000000 in
theorem c_X11_letGo_0 (x1 x2 x3 : Int) (h : MEM) (hM : MBx h) (bx1 : -2147483648 ≤ x1) (dx1 : x1 ≤ 2147483647) (bx2 : -2147483648 ≤ x2) (dx2 : x2 ≤ 2147483647) (bx3 : -2147483648 ≤ x3) (dx3 : x3 ≤ 2147483647) (p0_0 : 0 ≤ h 61 0) (p0_1 : h 61 0 ≤ 0) : CP yX11_letGo cX11_letGo 9 (some .int) 2 [pR 0, pI x1, pI x2, pI x3] h (fun x => x = -1) := by
  refine CP.of (L0 := [some (pR 0), some (pI x1), some (pI x2), some (pI x3), none, none, none, none, none]) rfl (Nat.le_of_ble_eq_true rfl) rfl (fun Po hPo hav => ?_)
  obtain ⟨w61_0, ew61_0⟩ : ∃ z, z = h 61 0 := ⟨_, rfl⟩
  refine g_aload_n dX11_letGo_0 rfl ?_
  refine gR_X11_10 rfl dX11_letGo_1 sh_0 (b := 1) (m_0_0 hM) ?_
  refine gR_X11_104 rfl dX11_letGo_4 sh_1 (b := 12) (m_1_2 hM) ?_
  refine gI_X11_263 rfl dX11_letGo_7 sh_12 (m_12_0 hM) (fun v1 ev1 bv1 cv1 => ?_)
  refine g_istore dX11_letGo_10 (by decide) rfl ?_
  refine g_aload_n dX11_letGo_12 rfl ?_
  refine gR_X11_10 rfl dX11_letGo_13 sh_0 (b := 1) (m_0_0 hM) ?_
  refine gR_X11_95 rfl dX11_letGo_16 sh_1 (b := 6) (m_1_1 hM) ?_
  refine g_iload_n dX11_letGo_19 rfl (fun _ => ?_)
  refine g_cVP (as := [_]) (c_X0_has_6 _ h hM (by omega) (by omega)) dX11_letGo_20 mi_X0_has in_X0_has se_X0_has ml_X11_113 rfl rfl rfl sh_6 rfl rfl (Nat.le_of_ble_eq_true rfl) (fun v2 q3 => ?_)
  obtain ⟨v4, ev4⟩ : ∃ z, z = h 6 0 := ⟨_, rfl⟩
  have bv4 : 0 ≤ v4 ∧ v4 ≤ 0 := by rw [ev4]; exact (m_6_0 hM)
  rcases q3 with ⟨rfl, q3⟩ | ⟨rfl, q3⟩
  · skip
    exfalso; omega
  · skip
    refine g_if_eq 62 dX11_letGo_23 (by decide) (fun q5 => ?_) (fun _ => by exfalso; omega)
    refine g_iconst dX11_letGo_62 (inR_c rfl) ?_
    exact g_ireturn dX11_letGo_63 retI (hPo _ (by omega))
set_option maxRecDepth 100000 in
set_option maxHeartbeats 4000000 in
theorem c_X12_letGo_98 (x1 x2 x3 : Int) (h : MEM) (hM : MBm h) (bx1 : -2147483648 ≤ x1) (dx1 : x1 ≤ 2147483647) (bx2 : -2147483648 ≤ x2) (dx2 : x2 ≤ 2147483647) (bx3 : -2147483648 ≤ x3) (dx3 : x3 ≤ 2147483647) (p0_0 : 0 ≤ h 98 1) (p0_1 : h 98 1 ≤ 0) : CP yX12_letGo cX12_letGo 9 (some .int) 3 [pR 98, pI x1, pI x2, pI x3] h (fun x => x = -1) := by
  refine CP.of (L0 := [some (pR 98), some (pI x1), some (pI x2), some (pI x3), none, none, none, none, none]) rfl (Nat.le_of_ble_eq_true rfl) rfl (fun Po hPo hav => ?_)
  obtain ⟨w98_1, ew98_1⟩ : ∃ z, z = h 98 1 := ⟨_, rfl⟩
  refine g_aload_n dX12_letGo_0 rfl ?_
  refine g_iload_n dX12_letGo_1 rfl (fun _ => ?_)
  refine g_cVP (as := [_]) (c_X12_isApprentice_98 _ h hM (by omega) (by omega)) dX12_letGo_2 mi_X12_isApprentice in_X12_isApprentice se_X12_isApprentice ml_X12_195 rfl rfl rfl sh_98 rfl rfl (Nat.le_of_ble_eq_true rfl) (fun v1 q2 => ?_)
  obtain ⟨v3, ev3⟩ : ∃ z, z = h 98 3 := ⟨_, rfl⟩
  have bv3 : 0 ≤ v3 ∧ v3 ≤ 0 := by rw [ev3]; exact (m_98_3 hM)
  rcases q2 with ⟨rfl, q2⟩ | ⟨rfl, q2⟩
  · skip
    exfalso; omega
  · skip
    refine g_if_eq 50 dX12_letGo_5 (by decide) (fun q4 => ?_) (fun _ => by exfalso; omega)
    refine g_iconst dX12_letGo_50 (inR_c rfl) ?_
    exact g_ireturn dX12_letGo_51 retI (hPo _ (by omega))
set_option maxRecDepth 100000 in
set_option maxHeartbeats 4000000 in
theorem c_X8_gather_75_1 (h : MEM) (hM : MBx h) : CI yX8_gather cX8_gather 4 (some .boolean) 1 [pR 75, pR 1] h (fun x h' => MBx h' ∧ Fr [(75, 1)] h h' ∧ 1 ≤ x ∧ x ≤ 1) := by
  refine CI.of (L0 := [some (pR 75), some (pR 1), none, none]) rfl (Nat.le_of_ble_eq_true rfl) rfl (fun Po hPo hav => ?_)
  refine g_aload_n dX8_gather_0 rfl ?_
  refine g_iconst dX8_gather_1 (inR_c rfl) ?_
  refine pI_X8_9 rfl dX8_gather_2 sh_75 (fun h1 eh1 => ?_)
  have hFh1 := Fr.st eh1
  have hMh1 := u_75_0 hM eh1 (by omega) (by omega)
  refine g_iconst dX8_gather_5 (inR_c rfl) ?_
  refine g_istore_n dX8_gather_6 (by decide) rfl ?_
  refine g_iconst dX8_gather_7 (inR_c rfl) ?_
  refine g_istore_n dX8_gather_8 (by decide) rfl ?_
  refine g_iload_n dX8_gather_9 rfl (fun _ => ?_)
  refine g_aload_n dX8_gather_10 rfl ?_
  refine gR_X8_22 rfl dX8_gather_11 sh_1 (b := 6) (m_1_1 hMh1) ?_
  refine gI_X8_28 rfl dX8_gather_14 sh_6 (m_6_0 hMh1) (fun v2 ev2 bv2 cv2 => ?_)
  refine g_icmp_ge 49 dX8_gather_17 (by decide) (fun q3 => ?_) (fun _ => by exfalso; omega)
  refine g_iconst dX8_gather_49 (inR_c rfl) ?_
  refine g_istore_n dX8_gather_50 (by decide) rfl ?_
  refine g_iload_n dX8_gather_51 rfl (fun _ => ?_)
  refine g_aload_n dX8_gather_52 rfl ?_
  refine gR_X8_39 rfl dX8_gather_53 sh_1 (b := 12) (m_1_2 hMh1) ?_
  refine gI_X8_43 rfl dX8_gather_56 sh_12 (m_12_0 hMh1) (fun v4 ev4 bv4 cv4 => ?_)
  refine g_icmp_ge 90 dX8_gather_59 (by decide) (fun q5 => ?_) (fun _ => by exfalso; omega)
  refine g_iload_n dX8_gather_90 rfl (fun _ => ?_)
  exact g_ireturn dX8_gather_91 (retZ (by omega)) (hPo _ _ ⟨hMh1, (Fr.sub hFh1 rfl), (by omega), (by omega)⟩)
set_option maxRecDepth 100000 in
set_option maxHeartbeats 4000000 in
theorem c_X8_mostSets_75 (h : MEM) (hM : MBx h) : CI yX8_mostSets cX8_mostSets 6 (some .int) 1 [pR 75] h (fun x h' => MBx h' ∧ Fr [(77, 0)] h h' ∧ 0 ≤ x ∧ x ≤ 0) := by
  refine CI.of (L0 := [some (pR 75), none, none, none, none, none]) rfl (Nat.le_of_ble_eq_true rfl) rfl (fun Po hPo hav => ?_)
  refine g_iconst dX8_mostSets_0 (inR_c rfl) ?_
  refine g_aload_n dX8_mostSets_1 rfl ?_
  refine gI_X8_9 rfl dX8_mostSets_2 sh_75 (m_75_0 hM) (fun v1 ev1 bv1 cv1 => ?_)
  refine g_ishlX (lo := 1) (hi := 1) dX8_mostSets_5 (ishl1_b 0 (by decide) (by omega) (by omega)) (fun v2 ev2 bv2 cv2 => ?_)
  refine g_iconst dX8_mostSets_6 (inR_c rfl) ?_
  refine g_isubB dX8_mostSets_7 (by omega) (by omega) ?_
  refine g_istore_n dX8_mostSets_8 (by decide) rfl ?_
  refine g_aload_n dX8_mostSets_9 rfl ?_
  refine gR_X8_19 rfl dX8_mostSets_10 sh_75 (b := 77) (m_75_2 hM) ?_
  refine g_iconst dX8_mostSets_13 (inR_c rfl) ?_
  refine g_iconst dX8_mostSets_14 (inR_c rfl) ?_
  refine g_iastB dX8_mostSets_15 sh_77 (by omega) (by omega) (fun h3 eh3 => ?_)
  have hFh3 := Fr.ar eh3
  have hMh3 := u_77 hM eh3 (by omega) (by omega)
  refine g_iconst dX8_mostSets_16 (inR_c rfl) ?_
  refine g_istore_n dX8_mostSets_17 (by decide) rfl ?_
  refine g_iload_n dX8_mostSets_18 rfl (fun _ => ?_)
  refine g_iload_n dX8_mostSets_19 rfl (fun _ => ?_)
  refine g_icmp_gt 109 dX8_mostSets_20 (by decide) (fun q4 => ?_) (fun _ => by exfalso; omega)
  refine g_aload_n dX8_mostSets_109 rfl ?_
  refine gR_X8_19 rfl dX8_mostSets_110 sh_75 (b := 77) (m_75_2 hMh3) ?_
  refine g_iload_n dX8_mostSets_113 rfl (fun _ => ?_)
  refine g_ialdB dX8_mostSets_114 sh_77 (by omega) (by omega) (m_77 hMh3 _) (fun v5 ev5 bv5 cv5 => ?_)
  exact g_ireturn dX8_mostSets_115 retI (hPo _ _ ⟨hMh3, (Fr.sub hFh3 rfl), (by omega), (by omega)⟩)
set_option maxRecDepth 100000 in
set_option maxHeartbeats 4000000 in
theorem c_X11_settled_0 (x1 : Int) (h : MEM) (hM : MBx h) (bx1 : -2147483648 ≤ x1) (dx1 : x1 ≤ 2147483647) : CI yX11_settled cX11_settled 3 (some .int) 2 [pR 0, pI x1] h (fun x h' => Fr [(75, 1), (77, 0)] h h' ∧ ((0 ≤ x1 ∧ x1 ≤ 1) ∧ x = 0 ∨ ¬ (0 ≤ x1 ∧ x1 ≤ 1) ∧ x = -1)) := by
  refine CI.of (L0 := [some (pR 0), some (pI x1), none]) rfl (Nat.le_of_ble_eq_true rfl) rfl (fun Po hPo hav => ?_)
  refine g_iload_n dX11_settled_0 rfl (fun _ => ?_)
  refine g_iconst dX11_settled_1 (inR_c rfl) ?_
  refine g_iconst dX11_settled_2 (inR_c rfl) ?_
  refine g_cSP (av := [_, _, _]) (c_X11_isWithin _ _ _ h hM (by omega) (by omega) (by omega) (by omega) (by omega) (by omega)) dX11_settled_3 mi_X11_isWithin st_X11_isWithin ml_X11_81 rfl rfl rfl rfl (Nat.le_of_ble_eq_true rfl) (fun v1 q2 => ?_)
  rcases q2 with ⟨rfl, q2⟩ | ⟨rfl, q2⟩
  · skip
    refine g_if_ne 11 dX11_settled_6 (by decide) (fun q3 => ?_) (fun _ => by exfalso; omega)
    refine g_aload_n dX11_settled_11 rfl ?_
    refine gR_X11_56 rfl dX11_settled_12 sh_0 (b := 75) (m_0_8 hM) ?_
    refine g_aload_n dX11_settled_15 rfl ?_
    refine gR_X11_10 rfl dX11_settled_16 sh_0 (b := 1) (m_0_0 hM) ?_
    refine g_cV (as := [_]) (c_X8_gather_75_1  h hM) dX11_settled_19 mi_X8_gather in_X8_gather se_X8_gather ml_X11_269 rfl rfl rfl sh_75 rfl rfl (Nat.le_of_ble_eq_true rfl) (fun v4 h5 q6 => ?_)
    obtain ⟨hMh5, hFh5, bv4, cv4⟩ := q6
    refine g_if_ne 28 dX11_settled_22 (by decide) (fun q7 => ?_) (fun _ => by exfalso; omega)
    refine g_aload_n dX11_settled_28 rfl ?_
    refine gR_X11_56 rfl dX11_settled_29 sh_0 (b := 75) (m_0_8 hMh5) ?_
    refine g_cV (as := []) (c_X8_mostSets_75  h5 hMh5) dX11_settled_32 mi_X8_mostSets in_X8_mostSets se_X8_mostSets ml_X11_273 rfl rfl rfl sh_75 rfl rfl (Nat.le_of_ble_eq_true rfl) (fun v8 h9 q10 => ?_)
    obtain ⟨hMh9, hFh9, bv8, cv8⟩ := q10
    refine g_istore_n dX11_settled_35 (by decide) rfl ?_
    refine g_iload_n dX11_settled_36 rfl (fun _ => ?_)
    refine g_if_ne 52 dX11_settled_37 (by decide) (fun q11 => ?_) (fun q11 => ?_)
    · skip
      refine g_iload_n dX11_settled_52 rfl (fun _ => ?_)
      exact g_ireturn dX11_settled_53 retI (hPo _ _ ⟨(Fr.tr (Fr.sub hFh5 rfl) hFh9 rfl), (by omega)⟩)
    · skip
      refine g_aload_n dX11_settled_40 rfl ?_
      refine gR_X11_56 rfl dX11_settled_41 sh_0 (b := 75) (m_0_8 hMh9) ?_
      refine gI_X11_276 rfl dX11_settled_44 sh_75 (m_75_0 hMh9) (fun v12 ev12 bv12 cv12 => ?_)
      refine g_iload_n dX11_settled_47 rfl (fun _ => ?_)
      refine g_isubB dX11_settled_48 (by omega) (by omega) ?_
      refine g_goto 53 dX11_settled_49 (by decide) ?_
      exact g_ireturn dX11_settled_53 retI (hPo _ _ ⟨(Fr.tr (Fr.sub hFh5 rfl) hFh9 rfl), (by omega)⟩)
  · skip
    refine g_if_ne 11 dX11_settled_6 (by decide) (fun _ => by exfalso; omega) (fun q13 => ?_)
    refine g_iconst dX11_settled_9 (inR_c rfl) ?_
    exact g_ireturn dX11_settled_10 retI (hPo _ _ ⟨Fr.rf, (by omega)⟩)
set_option maxRecDepth 100000 in
set_option maxHeartbeats 4000000 in
theorem c_X12_settled_98 (x1 : Int) (h : MEM) (hM : MBm h) (bx1 : -2147483648 ≤ x1) (dx1 : x1 ≤ 2147483647) : CI yX12_settled cX12_settled 7 (some .int) 2 [pR 98, pI x1] h (fun x h' => Fr [(149, 0)] h h' ∧ ((0 ≤ x1 ∧ x1 ≤ 1) ∧ x = 0 ∨ ¬ (0 ≤ x1 ∧ x1 ≤ 1) ∧ x = -1)) := by
  refine CI.of (L0 := [some (pR 98), some (pI x1), none, none, none, none, none]) rfl (Nat.le_of_ble_eq_true rfl) rfl (fun Po hPo hav => ?_)
  refine g_iload_n dX12_settled_0 rfl (fun _ => ?_)
  refine g_i2l dX12_settled_1 ?_
  refine g_lconst (v := 0) dX12_settled_2 rfl ?_
  refine g_lconst (v := 1) dX12_settled_3 rfl ?_
  refine g_cSP (av := [_, _, _]) (c_X12_lies _ _ _ h hM (by omega) (by omega) (by omega) (by omega) (by omega) (by omega)) dX12_settled_4 mi_X12_lies st_X12_lies ml_X12_175 rfl rfl rfl rfl (Nat.le_of_ble_eq_true rfl) (fun v1 q2 => ?_)
  rcases q2 with ⟨rfl, q2⟩ | ⟨rfl, q2⟩
  · skip
    refine g_if_ne 12 dX12_settled_7 (by decide) (fun q3 => ?_) (fun _ => by exfalso; omega)
    refine g_iconst dX12_settled_12 (inR_c rfl) ?_
    refine g_istore_n dX12_settled_13 (by decide) rfl ?_
    refine g_iconst dX12_settled_14 (inR_c rfl) ?_
    have c16 : ∀ (n : Nat) (y4 : Int) , 0 ≤ y4 → y4 ≤ 16 → 16 - y4 < (n : Int) → G yX12_settled cX12_settled 7 (some .int) none Po (2, 120, 0, 0) 16 [some (pR 98), some (pI x1), some (pI 0), some (pI y4), none, none, none] [] SH h 0 0 := by
      intro n
      induction n with
      | zero =>
        intro y4 by4 dy4 hn
        exfalso; omega
      | succ n ih =>
        intro y4 by4 dy4 hn
        refine g_iload_n dX12_settled_16 rfl (fun _ => ?_)
        refine g_bipush dX12_settled_17 (inR_c rfl) (by decide) ?_
        refine g_icmp_ge 101 dX12_settled_19 (by decide) (fun q5 => ?_) (fun q5 => ?_)
        · skip
          refine g_iload_n dX12_settled_101 rfl (fun _ => ?_)
          refine g_bipush dX12_settled_102 (inR_c rfl) (by decide) ?_
          refine g_icmp_le 110 dX12_settled_104 (by decide) (fun q6 => ?_) (fun _ => by exfalso; omega)
          refine g_iconst dX12_settled_110 (inR_c rfl) ?_
          have c112 : ∀ (n : Nat) (y7 : Int) (h8 : MEM), MBm h8 → Fr [(149, 0)] h h8 → 0 ≤ y7 → y7 ≤ 1 → 1 - y7 < (n : Int) → G yX12_settled cX12_settled 7 (some .int) none Po (2, 120, 0, 0) 112 [some (pR 98), some (pI x1), some (pI 0), some (pI y7), none, none, none] [] SH h8 0 0 := by
            intro n
            induction n with
            | zero =>
              intro y7 h8 hMh8 hFh8 by7 dy7 hn
              exfalso; omega
            | succ n ih =>
              intro y7 h8 hMh8 hFh8 by7 dy7 hn
              refine g_iload_n dX12_settled_112 rfl (fun _ => ?_)
              refine g_iconst dX12_settled_113 (inR_c rfl) ?_
              refine g_iload_n dX12_settled_114 rfl (fun _ => ?_)
              refine g_ishlX (lo := 1) (hi := 1) dX12_settled_115 (ishl1_b 0 (by decide) (by omega) (by omega)) (fun v9 ev9 bv9 cv9 => ?_)
              refine g_icmp_ge 257 dX12_settled_116 (by decide) (fun q10 => ?_) (fun q10 => ?_)
              · skip
                refine g_aload_n dX12_settled_257 rfl ?_
                refine gR_X12_166 rfl dX12_settled_258 sh_98 (b := 149) (m_98_77 hMh8) ?_
                refine g_iconst dX12_settled_261 (inR_c rfl) ?_
                refine g_iload_n dX12_settled_262 rfl (fun _ => ?_)
                refine g_ishlX (lo := 1) (hi := 1) dX12_settled_263 (ishl1_b 0 (by decide) (by omega) (by omega)) (fun v11 ev11 bv11 cv11 => ?_)
                refine g_iconst dX12_settled_264 (inR_c rfl) ?_
                refine g_isubB dX12_settled_265 (by omega) (by omega) ?_
                refine g_ialdB dX12_settled_266 sh_149 (by omega) (by omega) (m_149 hMh8 _) (fun v12 ev12 bv12 cv12 => ?_)
                refine g_istore_n dX12_settled_267 (by decide) rfl ?_
                refine g_iload_n dX12_settled_268 rfl (fun _ => ?_)
                refine g_if_ne 278 dX12_settled_269 (by decide) (fun q13 => ?_) (fun q13 => ?_)
                · skip
                  refine g_iload_n dX12_settled_278 rfl (fun _ => ?_)
                  exact g_ireturn dX12_settled_279 retI (hPo _ _ ⟨(Fr.sub hFh8 rfl), (by omega)⟩)
                · skip
                  refine g_iload_n dX12_settled_272 rfl (fun _ => ?_)
                  refine g_iload_n dX12_settled_273 rfl (fun _ => ?_)
                  refine g_isubB dX12_settled_274 (by omega) (by omega) ?_
                  refine g_goto 279 dX12_settled_275 (by decide) ?_
                  exact g_ireturn dX12_settled_279 retI (hPo _ _ ⟨(Fr.sub hFh8 rfl), (by omega)⟩)
              · skip
                refine g_iconst dX12_settled_119 (inR_c rfl) ?_
                refine g_istore dX12_settled_120 (by decide) rfl ?_
                refine g_iconst dX12_settled_122 (inR_c rfl) ?_
                refine g_istore dX12_settled_123 (by decide) rfl ?_
                refine g_iload dX12_settled_125 rfl (fun _ => ?_)
                refine g_iload_n dX12_settled_127 rfl (fun _ => ?_)
                refine g_icmp_ge 162 dX12_settled_128 (by decide) (fun q14 => ?_) (fun _ => by exfalso; omega)
                refine g_aload_n dX12_settled_162 rfl ?_
                refine gR_X12_166 rfl dX12_settled_163 sh_98 (b := 149) (m_98_77 hMh8) ?_
                refine g_iload_n dX12_settled_166 rfl (fun _ => ?_)
                refine g_iload_n dX12_settled_167 rfl (fun _ => ?_)
                refine g_if_ne 175 dX12_settled_168 (by decide) (fun _ => by exfalso; omega) (fun q15 => ?_)
                refine g_iconst dX12_settled_171 (inR_c rfl) ?_
                refine g_goto 187 dX12_settled_172 (by decide) ?_
                refine g_iastB dX12_settled_187 sh_149 (by omega) (by omega) (fun h16 eh16 => ?_)
                have hFh16 := Fr.ar eh16
                have hMh16 := u_149 hMh8 eh16 (by omega) (by omega)
                refine g_iload_n dX12_settled_188 rfl (fun _ => ?_)
                refine g_iconst dX12_settled_189 (inR_c rfl) ?_
                refine g_isubB dX12_settled_190 (by omega) (by omega) ?_
                refine g_iload_n dX12_settled_191 rfl (fun _ => ?_)
                refine g_iandX (lo := 0) (hi := 0) dX12_settled_192 (iand_r (by omega) (by omega)) (fun v17 ev17 bv17 cv17 => ?_)
                refine g_istore dX12_settled_193 (by decide) rfl ?_
                refine g_iload dX12_settled_195 rfl (fun _ => ?_)
                refine g_if_le 251 dX12_settled_197 (by decide) (fun q18 => ?_) (fun _ => by exfalso; omega)
                refine g_iincB dX12_settled_251 rfl rfl (by omega) (by omega) ?_
                refine g_goto 112 dX12_settled_254 (by decide) ?_
                refine g_drop 4 ?_
                refine g_drop 5 ?_
                exact ih _ _ hMh16 (Fr.tr (Fr.sub hFh8 rfl) hFh16 rfl) (by omega) (by omega) (by omega)
          refine g_istore_n dX12_settled_111 (by decide) rfl ?_
          exact c112 2 _ _ hM Fr.rf (by omega) (by omega) (by omega)
        · skip
          refine g_iload_n dX12_settled_22 rfl (fun _ => ?_)
          refine g_bipush dX12_settled_23 (inR_c rfl) (by decide) ?_
          refine g_icmp_ge 50 dX12_settled_25 (by decide) (fun q19 => ?_) (fun q19 => ?_)
          · skip
            refine g_iload_n dX12_settled_50 rfl (fun _ => ?_)
            refine g_bipush dX12_settled_51 (inR_c rfl) (by decide) ?_
            refine g_isubB dX12_settled_53 (by omega) (by omega) ?_
            refine g_aload_n dX12_settled_54 rfl ?_
            refine gI_X12_182 rfl dX12_settled_55 sh_98 (m_98_4 hM) (fun v20 ev20 bv20 cv20 => ?_)
            refine g_icmp_ge 73 dX12_settled_58 (by decide) (fun q21 => ?_) (fun _ => by exfalso; omega)
            refine g_iconst dX12_settled_73 (inR_c rfl) ?_
            refine g_istore dX12_settled_74 (by decide) rfl ?_
            refine g_iload dX12_settled_76 rfl (fun _ => ?_)
            refine g_if_ne 84 dX12_settled_78 (by decide) (fun _ => by exfalso; omega) (fun q22 => ?_)
            refine g_goto 95 dX12_settled_81 (by decide) ?_
            refine g_iincB dX12_settled_95 rfl rfl (by omega) (by omega) ?_
            refine g_goto 16 dX12_settled_98 (by decide) ?_
            refine g_drop 4 ?_
            exact ih _ (by omega) (by omega) (by omega)
          · skip
            refine g_iload_n dX12_settled_28 rfl (fun _ => ?_)
            refine g_aload_n dX12_settled_29 rfl ?_
            refine gI_X12_179 rfl dX12_settled_30 sh_98 (m_98_3 hM) (fun v23 ev23 bv23 cv23 => ?_)
            refine g_icmp_ge 46 dX12_settled_33 (by decide) (fun q24 => ?_) (fun _ => by exfalso; omega)
            refine g_iconst dX12_settled_46 (inR_c rfl) ?_
            refine g_goto 74 dX12_settled_47 (by decide) ?_
            refine g_istore dX12_settled_74 (by decide) rfl ?_
            refine g_iload dX12_settled_76 rfl (fun _ => ?_)
            refine g_if_ne 84 dX12_settled_78 (by decide) (fun _ => by exfalso; omega) (fun q25 => ?_)
            refine g_goto 95 dX12_settled_81 (by decide) ?_
            refine g_iincB dX12_settled_95 rfl rfl (by omega) (by omega) ?_
            refine g_goto 16 dX12_settled_98 (by decide) ?_
            refine g_drop 4 ?_
            exact ih _ (by omega) (by omega) (by omega)
    refine g_istore_n dX12_settled_15 (by decide) rfl ?_
    exact c16 17 _ (by omega) (by omega) (by omega)
  · skip
    refine g_if_ne 12 dX12_settled_7 (by decide) (fun _ => by exfalso; omega) (fun q26 => ?_)
    refine g_iconst dX12_settled_10 (inR_c rfl) ?_
    exact g_ireturn dX12_settled_11 retI (hPo _ _ ⟨Fr.rf, (by omega)⟩)
set_option maxRecDepth 100000 in
set_option maxHeartbeats 4000000 in
theorem c_X11_owes_0 (x1 x2 x3 : Int) (h : MEM) (hM : MBx h) (bx1 : -2147483648 ≤ x1) (dx1 : x1 ≤ 2147483647) (bx2 : -2147483648 ≤ x2) (dx2 : x2 ≤ 2147483647) (bx3 : -2147483648 ≤ x3) (dx3 : x3 ≤ 2147483647) : CP yX11_owes cX11_owes 5 (some .int) 2 [pR 0, pI x1, pI x2, pI x3] h (fun x => x = -1) := by
  refine CP.of (L0 := [some (pR 0), some (pI x1), some (pI x2), some (pI x3), none]) rfl (Nat.le_of_ble_eq_true rfl) rfl (fun Po hPo hav => ?_)
  refine g_aload_n dX11_owes_0 rfl ?_
  refine gR_X11_10 rfl dX11_owes_1 sh_0 (b := 1) (m_0_0 hM) ?_
  refine gR_X11_95 rfl dX11_owes_4 sh_1 (b := 6) (m_1_1 hM) ?_
  refine g_iload_n dX11_owes_7 rfl (fun _ => ?_)
  refine g_cVP (as := [_]) (c_X0_has_6 _ h hM (by omega) (by omega)) dX11_owes_8 mi_X0_has in_X0_has se_X0_has ml_X11_113 rfl rfl rfl sh_6 rfl rfl (Nat.le_of_ble_eq_true rfl) (fun v1 q2 => ?_)
  obtain ⟨v3, ev3⟩ : ∃ z, z = h 6 0 := ⟨_, rfl⟩
  have bv3 : 0 ≤ v3 ∧ v3 ≤ 0 := by rw [ev3]; exact (m_6_0 hM)
  rcases q2 with ⟨rfl, q2⟩ | ⟨rfl, q2⟩
  · skip
    exfalso; omega
  · skip
    refine g_if_eq 37 dX11_owes_11 (by decide) (fun q4 => ?_) (fun _ => by exfalso; omega)
    refine g_iconst dX11_owes_37 (inR_c rfl) ?_
    exact g_ireturn dX11_owes_38 retI (hPo _ (by omega))
set_option maxRecDepth 100000 in
set_option maxHeartbeats 4000000 in
theorem c_X12_owes_98 (x1 x2 x3 : Int) (h : MEM) (hM : MBm h) (bx1 : -2147483648 ≤ x1) (dx1 : x1 ≤ 2147483647) (bx2 : -2147483648 ≤ x2) (dx2 : x2 ≤ 2147483647) (bx3 : -2147483648 ≤ x3) (dx3 : x3 ≤ 2147483647) : CP yX12_owes cX12_owes 4 (some .int) 3 [pR 98, pI x1, pI x2, pI x3] h (fun x => x = -1) := by
  refine CP.of (L0 := [some (pR 98), some (pI x1), some (pI x2), some (pI x3)]) rfl (Nat.le_of_ble_eq_true rfl) rfl (fun Po hPo hav => ?_)
  refine g_aload_n dX12_owes_0 rfl ?_
  refine g_iload_n dX12_owes_1 rfl (fun _ => ?_)
  refine g_cVP (as := [_]) (c_X12_isApprentice_98 _ h hM (by omega) (by omega)) dX12_owes_2 mi_X12_isApprentice in_X12_isApprentice se_X12_isApprentice ml_X12_195 rfl rfl rfl sh_98 rfl rfl (Nat.le_of_ble_eq_true rfl) (fun v1 q2 => ?_)
  obtain ⟨v3, ev3⟩ : ∃ z, z = h 98 3 := ⟨_, rfl⟩
  have bv3 : 0 ≤ v3 ∧ v3 ≤ 0 := by rw [ev3]; exact (m_98_3 hM)
  rcases q2 with ⟨rfl, q2⟩ | ⟨rfl, q2⟩
  · skip
    exfalso; omega
  · skip
    refine g_if_eq 26 dX12_owes_5 (by decide) (fun q4 => ?_) (fun _ => by exfalso; omega)
    refine g_iconst dX12_owes_26 (inR_c rfl) ?_
    exact g_ireturn dX12_owes_27 retI (hPo _ (by omega))
set_option maxRecDepth 100000 in
set_option maxHeartbeats 4000000 in
theorem c_X11_teachers_0 (x1 : Int) (h : MEM) (hM : MBx h) (bx1 : -2147483648 ≤ x1) (dx1 : x1 ≤ 2147483647) : CP yX11_teachers cX11_teachers 2 (some .int) 2 [pR 0, pI x1] h (fun x => x = -1) := by
  refine CP.of (L0 := [some (pR 0), some (pI x1)]) rfl (Nat.le_of_ble_eq_true rfl) rfl (fun Po hPo hav => ?_)
  refine g_aload_n dX11_teachers_0 rfl ?_
  refine gR_X11_10 rfl dX11_teachers_1 sh_0 (b := 1) (m_0_0 hM) ?_
  refine gR_X11_95 rfl dX11_teachers_4 sh_1 (b := 6) (m_1_1 hM) ?_
  refine g_iload_n dX11_teachers_7 rfl (fun _ => ?_)
  refine g_cVP (as := [_]) (c_X0_has_6 _ h hM (by omega) (by omega)) dX11_teachers_8 mi_X0_has in_X0_has se_X0_has ml_X11_113 rfl rfl rfl sh_6 rfl rfl (Nat.le_of_ble_eq_true rfl) (fun v1 q2 => ?_)
  obtain ⟨v3, ev3⟩ : ∃ z, z = h 6 0 := ⟨_, rfl⟩
  have bv3 : 0 ≤ v3 ∧ v3 ≤ 0 := by rw [ev3]; exact (m_6_0 hM)
  rcases q2 with ⟨rfl, q2⟩ | ⟨rfl, q2⟩
  · skip
    exfalso; omega
  · skip
    refine g_if_eq 25 dX11_teachers_11 (by decide) (fun q4 => ?_) (fun _ => by exfalso; omega)
    refine g_iconst dX11_teachers_25 (inR_c rfl) ?_
    exact g_ireturn dX11_teachers_26 retI (hPo _ (by omega))
set_option maxRecDepth 100000 in
set_option maxHeartbeats 4000000 in
theorem c_X12_teachers_98 (x1 : Int) (h : MEM) (hM : MBm h) (bx1 : -2147483648 ≤ x1) (dx1 : x1 ≤ 2147483647) : CP yX12_teachers cX12_teachers 2 (some .int) 3 [pR 98, pI x1] h (fun x => x = -1) := by
  refine CP.of (L0 := [some (pR 98), some (pI x1)]) rfl (Nat.le_of_ble_eq_true rfl) rfl (fun Po hPo hav => ?_)
  refine g_aload_n dX12_teachers_0 rfl ?_
  refine g_iload_n dX12_teachers_1 rfl (fun _ => ?_)
  refine g_cVP (as := [_]) (c_X12_isApprentice_98 _ h hM (by omega) (by omega)) dX12_teachers_2 mi_X12_isApprentice in_X12_isApprentice se_X12_isApprentice ml_X12_195 rfl rfl rfl sh_98 rfl rfl (Nat.le_of_ble_eq_true rfl) (fun v1 q2 => ?_)
  obtain ⟨v3, ev3⟩ : ∃ z, z = h 98 3 := ⟨_, rfl⟩
  have bv3 : 0 ≤ v3 ∧ v3 ≤ 0 := by rw [ev3]; exact (m_98_3 hM)
  rcases q2 with ⟨rfl, q2⟩ | ⟨rfl, q2⟩
  · skip
    exfalso; omega
  · skip
    refine g_if_eq 16 dX12_teachers_5 (by decide) (fun q4 => ?_) (fun _ => by exfalso; omega)
    refine g_iconst dX12_teachers_16 (inR_c rfl) ?_
    exact g_ireturn dX12_teachers_17 retI (hPo _ (by omega))
set_option maxRecDepth 100000 in
set_option maxHeartbeats 4000000 in
theorem c_X11_chain_0 (x1 x2 x3 : Int) (h : MEM) (hM : MBx h) (bx1 : -2147483648 ≤ x1) (dx1 : x1 ≤ 2147483647) (bx2 : -2147483648 ≤ x2) (dx2 : x2 ≤ 2147483647) (bx3 : -2147483648 ≤ x3) (dx3 : x3 ≤ 2147483647) : CP yX11_chain cX11_chain 4 (some .int) 2 [pR 0, pI x1, pI x2, pI x3] h (fun x => x = -3) := by
  refine CP.of (L0 := [some (pR 0), some (pI x1), some (pI x2), some (pI x3)]) rfl (Nat.le_of_ble_eq_true rfl) rfl (fun Po hPo hav => ?_)
  refine g_aload_n dX11_chain_0 rfl ?_
  refine gR_X11_10 rfl dX11_chain_1 sh_0 (b := 1) (m_0_0 hM) ?_
  refine gR_X11_104 rfl dX11_chain_4 sh_1 (b := 12) (m_1_2 hM) ?_
  refine g_iload_n dX11_chain_7 rfl (fun _ => ?_)
  refine g_cVP (as := [_]) (c_X4_has_12 _ h hM (by omega) (by omega)) dX11_chain_8 mi_X4_has in_X4_has se_X4_has ml_X11_124 rfl rfl rfl sh_12 rfl rfl (Nat.le_of_ble_eq_true rfl) (fun v1 q2 => ?_)
  obtain ⟨v3, ev3⟩ : ∃ z, z = h 12 0 := ⟨_, rfl⟩
  have bv3 : 0 ≤ v3 ∧ v3 ≤ 0 := by rw [ev3]; exact (m_12_0 hM)
  rcases q2 with ⟨rfl, q2⟩ | ⟨rfl, q2⟩
  · skip
    exfalso; omega
  · skip
    refine g_if_eq 38 dX11_chain_11 (by decide) (fun q4 => ?_) (fun _ => by exfalso; omega)
    refine g_bipush dX11_chain_38 (inR_c rfl) (by decide) ?_
    exact g_ireturn dX11_chain_40 retI (hPo _ (by omega))
set_option maxRecDepth 100000 in
set_option maxHeartbeats 4000000 in
theorem c_X12_chain_98 (x1 x2 x3 : Int) (h : MEM) (hM : MBm h) (bx1 : -2147483648 ≤ x1) (dx1 : x1 ≤ 2147483647) (bx2 : -2147483648 ≤ x2) (dx2 : x2 ≤ 2147483647) (bx3 : -2147483648 ≤ x3) (dx3 : x3 ≤ 2147483647) : CP yX12_chain cX12_chain 8 (some .int) 3 [pR 98, pI x1, pI x2, pI x3] h (fun x => x = -3) := by
  refine CP.of (L0 := [some (pR 98), some (pI x1), some (pI x2), some (pI x3), none, none, none, none]) rfl (Nat.le_of_ble_eq_true rfl) rfl (fun Po hPo hav => ?_)
  refine g_aload_n dX12_chain_0 rfl ?_
  refine g_iload_n dX12_chain_1 rfl (fun _ => ?_)
  refine g_cVP (as := [_]) (c_X12_isMaster_98 _ h hM (by omega) (by omega)) dX12_chain_2 mi_X12_isMaster in_X12_isMaster se_X12_isMaster ml_X12_201 rfl rfl rfl sh_98 rfl rfl (Nat.le_of_ble_eq_true rfl) (fun v1 q2 => ?_)
  obtain ⟨v3, ev3⟩ : ∃ z, z = h 98 4 := ⟨_, rfl⟩
  have bv3 : 0 ≤ v3 ∧ v3 ≤ 0 := by rw [ev3]; exact (m_98_4 hM)
  rcases q2 with ⟨rfl, q2⟩ | ⟨rfl, q2⟩
  · skip
    exfalso; omega
  · skip
    refine g_if_eq 30 dX12_chain_5 (by decide) (fun q4 => ?_) (fun _ => by exfalso; omega)
    refine g_bipush dX12_chain_30 (inR_c rfl) (by decide) ?_
    exact g_ireturn dX12_chain_32 retI (hPo _ (by omega))
set_option maxRecDepth 100000 in
set_option maxHeartbeats 4000000 in
theorem c_X11_odds_0 (x1 x2 x3 x4 : Int) (h : MEM) (hM : MBx h) (bx1 : -2147483648 ≤ x1) (dx1 : x1 ≤ 2147483647) (bx2 : -2147483648 ≤ x2) (dx2 : x2 ≤ 2147483647) (bx3 : -2147483648 ≤ x3) (dx3 : x3 ≤ 2147483647) (bx4 : -2147483648 ≤ x4) (dx4 : x4 ≤ 2147483647) : CP yX11_odds cX11_odds 8 (some .int) 2 [pR 0, pI x1, pI x2, pI x3, pI x4] h (fun x => x = -1) := by
  refine CP.of (L0 := [some (pR 0), some (pI x1), some (pI x2), some (pI x3), some (pI x4), none, none, none]) rfl (Nat.le_of_ble_eq_true rfl) rfl (fun Po hPo hav => ?_)
  refine g_aload_n dX11_odds_0 rfl ?_
  refine gR_X11_10 rfl dX11_odds_1 sh_0 (b := 1) (m_0_0 hM) ?_
  refine gR_X11_104 rfl dX11_odds_4 sh_1 (b := 12) (m_1_2 hM) ?_
  refine g_iload_n dX11_odds_7 rfl (fun _ => ?_)
  refine g_cVP (as := [_]) (c_X4_has_12 _ h hM (by omega) (by omega)) dX11_odds_8 mi_X4_has in_X4_has se_X4_has ml_X11_124 rfl rfl rfl sh_12 rfl rfl (Nat.le_of_ble_eq_true rfl) (fun v1 q2 => ?_)
  obtain ⟨v3, ev3⟩ : ∃ z, z = h 12 0 := ⟨_, rfl⟩
  have bv3 : 0 ≤ v3 ∧ v3 ≤ 0 := by rw [ev3]; exact (m_12_0 hM)
  rcases q2 with ⟨rfl, q2⟩ | ⟨rfl, q2⟩
  · skip
    exfalso; omega
  · skip
    refine g_if_eq 44 dX11_odds_11 (by decide) (fun q4 => ?_) (fun _ => by exfalso; omega)
    refine g_iconst dX11_odds_44 (inR_c rfl) ?_
    exact g_ireturn dX11_odds_45 retI (hPo _ (by omega))
set_option maxRecDepth 100000 in
set_option maxHeartbeats 4000000 in
theorem c_X12_odds_98 (x1 x2 x3 x4 : Int) (h : MEM) (hM : MBm h) (bx1 : -2147483648 ≤ x1) (dx1 : x1 ≤ 2147483647) (bx2 : -2147483648 ≤ x2) (dx2 : x2 ≤ 2147483647) (bx3 : -2147483648 ≤ x3) (dx3 : x3 ≤ 2147483647) (bx4 : -2147483648 ≤ x4) (dx4 : x4 ≤ 2147483647) : CP yX12_odds cX12_odds 10 (some .int) 3 [pR 98, pI x1, pI x2, pI x3, pI x4] h (fun x => x = -1) := by
  refine CP.of (L0 := [some (pR 98), some (pI x1), some (pI x2), some (pI x3), some (pI x4), none, none, none, none, none]) rfl (Nat.le_of_ble_eq_true rfl) rfl (fun Po hPo hav => ?_)
  refine g_aload_n dX12_odds_0 rfl ?_
  refine g_iload_n dX12_odds_1 rfl (fun _ => ?_)
  refine g_cVP (as := [_]) (c_X12_isMaster_98 _ h hM (by omega) (by omega)) dX12_odds_2 mi_X12_isMaster in_X12_isMaster se_X12_isMaster ml_X12_201 rfl rfl rfl sh_98 rfl rfl (Nat.le_of_ble_eq_true rfl) (fun v1 q2 => ?_)
  obtain ⟨v3, ev3⟩ : ∃ z, z = h 98 4 := ⟨_, rfl⟩
  have bv3 : 0 ≤ v3 ∧ v3 ≤ 0 := by rw [ev3]; exact (m_98_4 hM)
  rcases q2 with ⟨rfl, q2⟩ | ⟨rfl, q2⟩
  · skip
    exfalso; omega
  · skip
    refine g_if_eq 43 dX12_odds_5 (by decide) (fun q4 => ?_) (fun _ => by exfalso; omega)
    refine g_iconst dX12_odds_43 (inR_c rfl) ?_
    exact g_ireturn dX12_odds_44 retI (hPo _ (by omega))
set_option maxRecDepth 100000 in
set_option maxHeartbeats 4000000 in
theorem c_X11_seed_0 (x1 : Int) (h : MEM) (hM : MBx h) (bx1 : -2147483648 ≤ x1) (dx1 : x1 ≤ 2147483647) : CI yX11_seed cX11_seed 2 (some .boolean) 2 [pR 0, pI x1] h (fun x h' => Fr [(1, 8)] h h' ∧ ((0 ≤ x1 ∧ x1 ≤ 65535) ∧ x = 1 ∨ ¬ (0 ≤ x1 ∧ x1 ≤ 65535) ∧ x = 0)) := by
  refine CI.of (L0 := [some (pR 0), some (pI x1)]) rfl (Nat.le_of_ble_eq_true rfl) rfl (fun Po hPo hav => ?_)
  refine g_iload_n dX11_seed_0 rfl (fun _ => ?_)
  refine g_iconst dX11_seed_1 (inR_c rfl) ?_
  refine g_ldc_w (v := 65535) dX11_seed_2 kc_X11_299 (inR_c rfl) ?_
  refine g_cSP (av := [_, _, _]) (c_X11_isWithin _ _ _ h hM (by omega) (by omega) (by omega) (by omega) (by omega) (by omega)) dX11_seed_5 mi_X11_isWithin st_X11_isWithin ml_X11_81 rfl rfl rfl rfl (Nat.le_of_ble_eq_true rfl) (fun v1 q2 => ?_)
  rcases q2 with ⟨rfl, q2⟩ | ⟨rfl, q2⟩
  · skip
    refine g_if_ne 13 dX11_seed_8 (by decide) (fun q3 => ?_) (fun _ => by exfalso; omega)
    refine g_aload_n dX11_seed_13 rfl ?_
    refine gR_X11_10 rfl dX11_seed_14 sh_0 (b := 1) (m_0_0 hM) ?_
    refine g_iload_n dX11_seed_17 rfl (fun _ => ?_)
    refine pI_X11_300 rfl dX11_seed_18 sh_1 (fun h4 eh4 => ?_)
    have hFh4 := Fr.st eh4
    have hMh4 := u_1_7 hM eh4 (by omega) (by omega)
    refine g_iconst dX11_seed_21 (inR_c rfl) ?_
    exact g_ireturn dX11_seed_22 (retZ (by omega)) (hPo _ _ ⟨(Fr.sub hFh4 rfl), (by omega)⟩)
  · skip
    refine g_if_ne 13 dX11_seed_8 (by decide) (fun _ => by exfalso; omega) (fun q5 => ?_)
    refine g_iconst dX11_seed_11 (inR_c rfl) ?_
    exact g_ireturn dX11_seed_12 (retZ (by omega)) (hPo _ _ ⟨Fr.rf, (by omega)⟩)
set_option maxRecDepth 100000 in
set_option maxHeartbeats 4000000 in
theorem c_X12_seed_98 (x1 : Int) (h : MEM) (hM : MBm h) (bx1 : -2147483648 ≤ x1) (dx1 : x1 ≤ 2147483647) : CI yX12_seed cX12_seed 2 (some .boolean) 2 [pR 98, pI x1] h (fun x h' => Fr [(98, 7)] h h' ∧ ((0 ≤ x1 ∧ x1 ≤ 65535) ∧ x = 1 ∨ ¬ (0 ≤ x1 ∧ x1 ≤ 65535) ∧ x = 0)) := by
  refine CI.of (L0 := [some (pR 98), some (pI x1)]) rfl (Nat.le_of_ble_eq_true rfl) rfl (fun Po hPo hav => ?_)
  refine g_iload_n dX12_seed_0 rfl (fun _ => ?_)
  refine g_i2l dX12_seed_1 ?_
  refine g_lconst (v := 0) dX12_seed_2 rfl ?_
  refine g_ldc2 (v := 65535) dX12_seed_3 kl_X12_504 (by decide) ?_
  refine g_cSP (av := [_, _, _]) (c_X12_lies _ _ _ h hM (by omega) (by omega) (by omega) (by omega) (by omega) (by omega)) dX12_seed_6 mi_X12_lies st_X12_lies ml_X12_175 rfl rfl rfl rfl (Nat.le_of_ble_eq_true rfl) (fun v1 q2 => ?_)
  rcases q2 with ⟨rfl, q2⟩ | ⟨rfl, q2⟩
  · skip
    refine g_if_ne 14 dX12_seed_9 (by decide) (fun q3 => ?_) (fun _ => by exfalso; omega)
    refine g_aload_n dX12_seed_14 rfl ?_
    refine g_iload_n dX12_seed_15 rfl (fun _ => ?_)
    refine pI_X12_13 rfl dX12_seed_16 sh_98 (fun h4 eh4 => ?_)
    have hFh4 := Fr.st eh4
    have hMh4 := u_98_6 hM eh4 (by omega) (by omega)
    refine g_iconst dX12_seed_19 (inR_c rfl) ?_
    exact g_ireturn dX12_seed_20 (retZ (by omega)) (hPo _ _ ⟨(Fr.sub hFh4 rfl), (by omega)⟩)
  · skip
    refine g_if_ne 14 dX12_seed_9 (by decide) (fun _ => by exfalso; omega) (fun q5 => ?_)
    refine g_iconst dX12_seed_12 (inR_c rfl) ?_
    exact g_ireturn dX12_seed_13 (retZ (by omega)) (hPo _ _ ⟨Fr.rf, (by omega)⟩)
set_option maxRecDepth 100000 in
set_option maxHeartbeats 4000000 in
theorem c_X6_copyFrom_42_2 (h : MEM) (hM : MBx h) : CV yX6_copyFrom cX6_copyFrom 2 (none) 1 [pR 42, pR 2] h (fun h' => MBx h' ∧ Fr [(42, 1), (43, 0), (44, 0), (45, 0)] h h') := by
  refine CV.of (L0 := [some (pR 42), some (pR 2)]) rfl (Nat.le_of_ble_eq_true rfl) rfl (fun Po hPo hav => ?_)
  refine g_aload_n dX6_copyFrom_0 rfl ?_
  refine g_aload_n dX6_copyFrom_1 rfl ?_
  refine gI_X6_9 rfl dX6_copyFrom_2 sh_2 (m_2_0 hM) (fun v1 ev1 bv1 cv1 => ?_)
  refine pI_X6_9 rfl dX6_copyFrom_5 sh_42 (fun h2 eh2 => ?_)
  have hFh2 := Fr.st eh2
  have hMh2 := u_42_0 hM eh2 (by omega) (by omega)
  refine g_aload_n dX6_copyFrom_8 rfl ?_
  refine gR_X6_15 rfl dX6_copyFrom_9 sh_2 (b := 3) (m_2_1 hMh2) ?_
  refine g_iconst dX6_copyFrom_12 (inR_c rfl) ?_
  refine g_aload_n dX6_copyFrom_13 rfl ?_
  refine gR_X6_15 rfl dX6_copyFrom_14 sh_42 (b := 43) (m_42_1 hMh2) ?_
  refine g_iconst dX6_copyFrom_17 (inR_c rfl) ?_
  refine g_bipush dX6_copyFrom_18 (inR_c rfl) (by decide) ?_
  refine g_acopy dX6_copyFrom_20 ml_X6_25 sh_3 sh_43 (by decide) (by decide) (by decide) (by decide) (by decide) (by decide) (by decide) (fun h3 eh3 => ?_)
  have hFh3 := Fr.cp eh3
  have hMh3 := MBx.cp hMh2 eh3 (by decide) (p0 := (0, 0)) (p := (0, 0)) rfl rfl (by decide) (by decide)
  refine g_aload_n dX6_copyFrom_23 rfl ?_
  refine gR_X6_19 rfl dX6_copyFrom_24 sh_2 (b := 4) (m_2_2 hMh3) ?_
  refine g_iconst dX6_copyFrom_27 (inR_c rfl) ?_
  refine g_aload_n dX6_copyFrom_28 rfl ?_
  refine gR_X6_19 rfl dX6_copyFrom_29 sh_42 (b := 44) (m_42_2 hMh3) ?_
  refine g_iconst dX6_copyFrom_32 (inR_c rfl) ?_
  refine g_bipush dX6_copyFrom_33 (inR_c rfl) (by decide) ?_
  refine g_acopy dX6_copyFrom_35 ml_X6_25 sh_4 sh_44 (by decide) (by decide) (by decide) (by decide) (by decide) (by decide) (by decide) (fun h4 eh4 => ?_)
  have hFh4 := Fr.cp eh4
  have hMh4 := MBx.cp hMh3 eh4 (by decide) (p0 := (0, 0)) (p := (0, 0)) rfl rfl (by decide) (by decide)
  refine g_aload_n dX6_copyFrom_38 rfl ?_
  refine gR_X6_22 rfl dX6_copyFrom_39 sh_2 (b := 5) (m_2_3 hMh4) ?_
  refine g_iconst dX6_copyFrom_42 (inR_c rfl) ?_
  refine g_aload_n dX6_copyFrom_43 rfl ?_
  refine gR_X6_22 rfl dX6_copyFrom_44 sh_42 (b := 45) (m_42_3 hMh4) ?_
  refine g_iconst dX6_copyFrom_47 (inR_c rfl) ?_
  refine g_bipush dX6_copyFrom_48 (inR_c rfl) (by decide) ?_
  refine g_acopy dX6_copyFrom_50 ml_X6_25 sh_5 sh_45 (by decide) (by decide) (by decide) (by decide) (by decide) (by decide) (by decide) (fun h5 eh5 => ?_)
  have hFh5 := Fr.cp eh5
  have hMh5 := MBx.cp hMh4 eh5 (by decide) (p0 := (0, 0)) (p := (0, 0)) rfl rfl (by decide) (by decide)
  exact g_return dX6_copyFrom_53 rfl (hPo _ ⟨hMh5, (Fr.tr (Fr.tr (Fr.tr (Fr.sub hFh2 rfl) hFh3 rfl) hFh4 rfl) hFh5 rfl)⟩)
set_option maxRecDepth 100000 in
set_option maxHeartbeats 4000000 in
theorem c_X0_copyFrom_46_6 (h : MEM) (hM : MBx h) : CV yX0_copyFrom cX0_copyFrom 2 (none) 1 [pR 46, pR 6] h (fun h' => MBx h' ∧ Fr [(46, 1), (47, 0), (48, 0), (49, 0), (50, 0), (51, 0)] h h') := by
  refine CV.of (L0 := [some (pR 46), some (pR 6)]) rfl (Nat.le_of_ble_eq_true rfl) rfl (fun Po hPo hav => ?_)
  refine g_aload_n dX0_copyFrom_0 rfl ?_
  refine g_aload_n dX0_copyFrom_1 rfl ?_
  refine gI_X0_9 rfl dX0_copyFrom_2 sh_6 (m_6_0 hM) (fun v1 ev1 bv1 cv1 => ?_)
  refine pI_X0_9 rfl dX0_copyFrom_5 sh_46 (fun h2 eh2 => ?_)
  have hFh2 := Fr.st eh2
  have hMh2 := u_46_0 hM eh2 (by omega) (by omega)
  refine g_aload_n dX0_copyFrom_8 rfl ?_
  refine gR_X0_15 rfl dX0_copyFrom_9 sh_6 (b := 7) (m_6_1 hMh2) ?_
  refine g_iconst dX0_copyFrom_12 (inR_c rfl) ?_
  refine g_aload_n dX0_copyFrom_13 rfl ?_
  refine gR_X0_15 rfl dX0_copyFrom_14 sh_46 (b := 47) (m_46_1 hMh2) ?_
  refine g_iconst dX0_copyFrom_17 (inR_c rfl) ?_
  refine g_bipush dX0_copyFrom_18 (inR_c rfl) (by decide) ?_
  refine g_acopy dX0_copyFrom_20 ml_X0_35 sh_7 sh_47 (by decide) (by decide) (by decide) (by decide) (by decide) (by decide) (by decide) (fun h3 eh3 => ?_)
  have hFh3 := Fr.cp eh3
  have hMh3 := MBx.cp hMh2 eh3 (by decide) (p0 := (0, 0)) (p := (0, 0)) rfl rfl (by decide) (by decide)
  refine g_aload_n dX0_copyFrom_23 rfl ?_
  refine gR_X0_19 rfl dX0_copyFrom_24 sh_6 (b := 8) (m_6_2 hMh3) ?_
  refine g_iconst dX0_copyFrom_27 (inR_c rfl) ?_
  refine g_aload_n dX0_copyFrom_28 rfl ?_
  refine gR_X0_19 rfl dX0_copyFrom_29 sh_46 (b := 48) (m_46_2 hMh3) ?_
  refine g_iconst dX0_copyFrom_32 (inR_c rfl) ?_
  refine g_bipush dX0_copyFrom_33 (inR_c rfl) (by decide) ?_
  refine g_acopy dX0_copyFrom_35 ml_X0_35 sh_8 sh_48 (by decide) (by decide) (by decide) (by decide) (by decide) (by decide) (by decide) (fun h4 eh4 => ?_)
  have hFh4 := Fr.cp eh4
  have hMh4 := MBx.cp hMh3 eh4 (by decide) (p0 := (0, 0)) (p := (0, 0)) rfl rfl (by decide) (by decide)
  refine g_aload_n dX0_copyFrom_38 rfl ?_
  refine gR_X0_22 rfl dX0_copyFrom_39 sh_6 (b := 9) (m_6_3 hMh4) ?_
  refine g_iconst dX0_copyFrom_42 (inR_c rfl) ?_
  refine g_aload_n dX0_copyFrom_43 rfl ?_
  refine gR_X0_22 rfl dX0_copyFrom_44 sh_46 (b := 49) (m_46_3 hMh4) ?_
  refine g_iconst dX0_copyFrom_47 (inR_c rfl) ?_
  refine g_bipush dX0_copyFrom_48 (inR_c rfl) (by decide) ?_
  refine g_acopy dX0_copyFrom_50 ml_X0_35 sh_9 sh_49 (by decide) (by decide) (by decide) (by decide) (by decide) (by decide) (by decide) (fun h5 eh5 => ?_)
  have hFh5 := Fr.cp eh5
  have hMh5 := MBx.cp hMh4 eh5 (by decide) (p0 := (0, 0)) (p := (0, 0)) rfl rfl (by decide) (by decide)
  refine g_aload_n dX0_copyFrom_53 rfl ?_
  refine gR_X0_25 rfl dX0_copyFrom_54 sh_6 (b := 10) (m_6_4 hMh5) ?_
  refine g_iconst dX0_copyFrom_57 (inR_c rfl) ?_
  refine g_aload_n dX0_copyFrom_58 rfl ?_
  refine gR_X0_25 rfl dX0_copyFrom_59 sh_46 (b := 50) (m_46_4 hMh5) ?_
  refine g_iconst dX0_copyFrom_62 (inR_c rfl) ?_
  refine g_bipush dX0_copyFrom_63 (inR_c rfl) (by decide) ?_
  refine g_acopy dX0_copyFrom_65 ml_X0_35 sh_10 sh_50 (by decide) (by decide) (by decide) (by decide) (by decide) (by decide) (by decide) (fun h6 eh6 => ?_)
  have hFh6 := Fr.cp eh6
  have hMh6 := MBx.cp hMh5 eh6 (by decide) (p0 := (0, 0)) (p := (0, 0)) rfl rfl (by decide) (by decide)
  refine g_aload_n dX0_copyFrom_68 rfl ?_
  refine gR_X0_28 rfl dX0_copyFrom_69 sh_6 (b := 11) (m_6_5 hMh6) ?_
  refine g_iconst dX0_copyFrom_72 (inR_c rfl) ?_
  refine g_aload_n dX0_copyFrom_73 rfl ?_
  refine gR_X0_28 rfl dX0_copyFrom_74 sh_46 (b := 51) (m_46_5 hMh6) ?_
  refine g_iconst dX0_copyFrom_77 (inR_c rfl) ?_
  refine g_bipush dX0_copyFrom_78 (inR_c rfl) (by decide) ?_
  refine g_acopy dX0_copyFrom_80 ml_X0_35 sh_11 sh_51 (by decide) (by decide) (by decide) (by decide) (by decide) (by decide) (by decide) (fun h7 eh7 => ?_)
  have hFh7 := Fr.cp eh7
  have hMh7 := MBx.cp hMh6 eh7 (by decide) (p0 := (0, 0)) (p := (0, 0)) rfl rfl (by decide) (by decide)
  exact g_return dX0_copyFrom_83 rfl (hPo _ ⟨hMh7, (Fr.tr (Fr.tr (Fr.tr (Fr.tr (Fr.tr (Fr.sub hFh2 rfl) hFh3 rfl) hFh4 rfl) hFh5 rfl) hFh6 rfl) hFh7 rfl)⟩)
set_option maxRecDepth 100000 in
set_option maxHeartbeats 4000000 in
theorem c_X4_copyFrom_52_12 (h : MEM) (hM : MBx h) : CV yX4_copyFrom cX4_copyFrom 2 (none) 1 [pR 52, pR 12] h (fun h' => MBx h' ∧ Fr [(52, 1), (53, 0), (54, 0), (55, 0), (56, 0)] h h') := by
  refine CV.of (L0 := [some (pR 52), some (pR 12)]) rfl (Nat.le_of_ble_eq_true rfl) rfl (fun Po hPo hav => ?_)
  refine g_aload_n dX4_copyFrom_0 rfl ?_
  refine g_aload_n dX4_copyFrom_1 rfl ?_
  refine gI_X4_9 rfl dX4_copyFrom_2 sh_12 (m_12_0 hM) (fun v1 ev1 bv1 cv1 => ?_)
  refine pI_X4_9 rfl dX4_copyFrom_5 sh_52 (fun h2 eh2 => ?_)
  have hFh2 := Fr.st eh2
  have hMh2 := u_52_0 hM eh2 (by omega) (by omega)
  refine g_aload_n dX4_copyFrom_8 rfl ?_
  refine gR_X4_15 rfl dX4_copyFrom_9 sh_12 (b := 13) (m_12_1 hMh2) ?_
  refine g_iconst dX4_copyFrom_12 (inR_c rfl) ?_
  refine g_aload_n dX4_copyFrom_13 rfl ?_
  refine gR_X4_15 rfl dX4_copyFrom_14 sh_52 (b := 53) (m_52_1 hMh2) ?_
  refine g_iconst dX4_copyFrom_17 (inR_c rfl) ?_
  refine g_bipush dX4_copyFrom_18 (inR_c rfl) (by decide) ?_
  refine g_acopy dX4_copyFrom_20 ml_X4_28 sh_13 sh_53 (by decide) (by decide) (by decide) (by decide) (by decide) (by decide) (by decide) (fun h3 eh3 => ?_)
  have hFh3 := Fr.cp eh3
  have hMh3 := MBx.cp hMh2 eh3 (by decide) (p0 := (0, 0)) (p := (0, 0)) rfl rfl (by decide) (by decide)
  refine g_aload_n dX4_copyFrom_23 rfl ?_
  refine gR_X4_19 rfl dX4_copyFrom_24 sh_12 (b := 14) (m_12_2 hMh3) ?_
  refine g_iconst dX4_copyFrom_27 (inR_c rfl) ?_
  refine g_aload_n dX4_copyFrom_28 rfl ?_
  refine gR_X4_19 rfl dX4_copyFrom_29 sh_52 (b := 54) (m_52_2 hMh3) ?_
  refine g_iconst dX4_copyFrom_32 (inR_c rfl) ?_
  refine g_bipush dX4_copyFrom_33 (inR_c rfl) (by decide) ?_
  refine g_acopy dX4_copyFrom_35 ml_X4_28 sh_14 sh_54 (by decide) (by decide) (by decide) (by decide) (by decide) (by decide) (by decide) (fun h4 eh4 => ?_)
  have hFh4 := Fr.cp eh4
  have hMh4 := MBx.cp hMh3 eh4 (by decide) (p0 := (0, 0)) (p := (0, 0)) rfl rfl (by decide) (by decide)
  refine g_aload_n dX4_copyFrom_38 rfl ?_
  refine gR_X4_22 rfl dX4_copyFrom_39 sh_12 (b := 15) (m_12_3 hMh4) ?_
  refine g_iconst dX4_copyFrom_42 (inR_c rfl) ?_
  refine g_aload_n dX4_copyFrom_43 rfl ?_
  refine gR_X4_22 rfl dX4_copyFrom_44 sh_52 (b := 55) (m_52_3 hMh4) ?_
  refine g_iconst dX4_copyFrom_47 (inR_c rfl) ?_
  refine g_bipush dX4_copyFrom_48 (inR_c rfl) (by decide) ?_
  refine g_acopy dX4_copyFrom_50 ml_X4_28 sh_15 sh_55 (by decide) (by decide) (by decide) (by decide) (by decide) (by decide) (by decide) (fun h5 eh5 => ?_)
  have hFh5 := Fr.cp eh5
  have hMh5 := MBx.cp hMh4 eh5 (by decide) (p0 := (0, 0)) (p := (0, 0)) rfl rfl (by decide) (by decide)
  refine g_aload_n dX4_copyFrom_53 rfl ?_
  refine gR_X4_25 rfl dX4_copyFrom_54 sh_12 (b := 16) (m_12_4 hMh5) ?_
  refine g_iconst dX4_copyFrom_57 (inR_c rfl) ?_
  refine g_aload_n dX4_copyFrom_58 rfl ?_
  refine gR_X4_25 rfl dX4_copyFrom_59 sh_52 (b := 56) (m_52_4 hMh5) ?_
  refine g_iconst dX4_copyFrom_62 (inR_c rfl) ?_
  refine g_bipush dX4_copyFrom_63 (inR_c rfl) (by decide) ?_
  refine g_acopy dX4_copyFrom_65 ml_X4_28 sh_16 sh_56 (by decide) (by decide) (by decide) (by decide) (by decide) (by decide) (by decide) (fun h6 eh6 => ?_)
  have hFh6 := Fr.cp eh6
  have hMh6 := MBx.cp hMh5 eh6 (by decide) (p0 := (0, 0)) (p := (0, 0)) rfl rfl (by decide) (by decide)
  exact g_return dX4_copyFrom_68 rfl (hPo _ ⟨hMh6, (Fr.tr (Fr.tr (Fr.tr (Fr.tr (Fr.sub hFh2 rfl) hFh3 rfl) hFh4 rfl) hFh5 rfl) hFh6 rfl)⟩)
set_option maxRecDepth 100000 in
set_option maxHeartbeats 4000000 in
theorem c_X9_copyFrom_41_1 (h : MEM) (hM : MBx h) : CV yX9_copyFrom cX9_copyFrom 2 (none) 2 [pR 41, pR 1] h (fun h' => MBx h' ∧ Fr [(41, 7), (41, 8), (41, 9), (42, 1), (43, 0), (44, 0), (45, 0), (46, 1), (47, 0), (48, 0), (49, 0), (50, 0), (51, 0), (52, 1), (53, 0), (54, 0), (55, 0), (56, 0), (57, 0), (58, 0), (59, 0)] h h') := by
  refine CV.of (L0 := [some (pR 41), some (pR 1)]) rfl (Nat.le_of_ble_eq_true rfl) rfl (fun Po hPo hav => ?_)
  refine g_aload_n dX9_copyFrom_0 rfl ?_
  refine gR_X9_12 rfl dX9_copyFrom_1 sh_41 (b := 42) (m_41_0 hM) ?_
  refine g_aload_n dX9_copyFrom_4 rfl ?_
  refine gR_X9_12 rfl dX9_copyFrom_5 sh_1 (b := 2) (m_1_0 hM) ?_
  refine g_cVV (as := [_]) (c_X6_copyFrom_42_2  h hM) dX9_copyFrom_8 mi_X6_copyFrom in_X6_copyFrom se_X6_copyFrom ml_X9_55 rfl rfl rfl sh_42 rfl rfl (Nat.le_of_ble_eq_true rfl) (fun h1 q2 => ?_)
  obtain ⟨hMh1, hFh1⟩ := q2
  refine g_aload_n dX9_copyFrom_11 rfl ?_
  refine gR_X9_21 rfl dX9_copyFrom_12 sh_41 (b := 46) (m_41_1 hMh1) ?_
  refine g_aload_n dX9_copyFrom_15 rfl ?_
  refine gR_X9_21 rfl dX9_copyFrom_16 sh_1 (b := 6) (m_1_1 hMh1) ?_
  refine g_cVV (as := [_]) (c_X0_copyFrom_46_6  h1 hMh1) dX9_copyFrom_19 mi_X0_copyFrom in_X0_copyFrom se_X0_copyFrom ml_X9_59 rfl rfl rfl sh_46 rfl rfl (Nat.le_of_ble_eq_true rfl) (fun h3 q4 => ?_)
  obtain ⟨hMh3, hFh3⟩ := q4
  refine g_aload_n dX9_copyFrom_22 rfl ?_
  refine gR_X9_28 rfl dX9_copyFrom_23 sh_41 (b := 52) (m_41_2 hMh3) ?_
  refine g_aload_n dX9_copyFrom_26 rfl ?_
  refine gR_X9_28 rfl dX9_copyFrom_27 sh_1 (b := 12) (m_1_2 hMh3) ?_
  refine g_cVV (as := [_]) (c_X4_copyFrom_52_12  h3 hMh3) dX9_copyFrom_30 mi_X4_copyFrom in_X4_copyFrom se_X4_copyFrom ml_X9_62 rfl rfl rfl sh_52 rfl rfl (Nat.le_of_ble_eq_true rfl) (fun h5 q6 => ?_)
  obtain ⟨hMh5, hFh5⟩ := q6
  refine g_aload_n dX9_copyFrom_33 rfl ?_
  refine gR_X9_32 rfl dX9_copyFrom_34 sh_1 (b := 17) (m_1_3 hMh5) ?_
  refine g_iconst dX9_copyFrom_37 (inR_c rfl) ?_
  refine g_aload_n dX9_copyFrom_38 rfl ?_
  refine gR_X9_32 rfl dX9_copyFrom_39 sh_41 (b := 57) (m_41_3 hMh5) ?_
  refine g_iconst dX9_copyFrom_42 (inR_c rfl) ?_
  refine g_bipush dX9_copyFrom_43 (inR_c rfl) (by decide) ?_
  refine g_acopy dX9_copyFrom_45 ml_X9_65 sh_17 sh_57 (by decide) (by decide) (by decide) (by decide) (by decide) (by decide) (by decide) (fun h7 eh7 => ?_)
  have hFh7 := Fr.cp eh7
  have hMh7 := MBx.cp hMh5 eh7 (by decide) (p0 := (0, 0)) (p := (0, 0)) rfl rfl (by decide) (by decide)
  refine g_aload_n dX9_copyFrom_48 rfl ?_
  refine gR_X9_36 rfl dX9_copyFrom_49 sh_1 (b := 18) (m_1_4 hMh7) ?_
  refine g_iconst dX9_copyFrom_52 (inR_c rfl) ?_
  refine g_aload_n dX9_copyFrom_53 rfl ?_
  refine gR_X9_36 rfl dX9_copyFrom_54 sh_41 (b := 58) (m_41_4 hMh7) ?_
  refine g_iconst dX9_copyFrom_57 (inR_c rfl) ?_
  refine g_bipush dX9_copyFrom_58 (inR_c rfl) (by decide) ?_
  refine g_acopy dX9_copyFrom_60 ml_X9_65 sh_18 sh_58 (by decide) (by decide) (by decide) (by decide) (by decide) (by decide) (by decide) (fun h8 eh8 => ?_)
  have hFh8 := Fr.cp eh8
  have hMh8 := MBx.cp hMh7 eh8 (by decide) (p0 := (0, 0)) (p := (0, 0)) rfl rfl (by decide) (by decide)
  refine g_aload_n dX9_copyFrom_63 rfl ?_
  refine gR_X9_39 rfl dX9_copyFrom_64 sh_1 (b := 19) (m_1_5 hMh8) ?_
  refine g_iconst dX9_copyFrom_67 (inR_c rfl) ?_
  refine g_aload_n dX9_copyFrom_68 rfl ?_
  refine gR_X9_39 rfl dX9_copyFrom_69 sh_41 (b := 59) (m_41_5 hMh8) ?_
  refine g_iconst dX9_copyFrom_72 (inR_c rfl) ?_
  refine g_bipush dX9_copyFrom_73 (inR_c rfl) (by decide) ?_
  refine g_acopy dX9_copyFrom_75 ml_X9_65 sh_19 sh_59 (by decide) (by decide) (by decide) (by decide) (by decide) (by decide) (by decide) (fun h9 eh9 => ?_)
  have hFh9 := Fr.cp eh9
  have hMh9 := MBx.cp hMh8 eh9 (by decide) (p0 := (0, 0)) (p := (0, 0)) rfl rfl (by decide) (by decide)
  refine g_aload_n dX9_copyFrom_78 rfl ?_
  refine g_aload_n dX9_copyFrom_79 rfl ?_
  refine gI_X9_42 rfl dX9_copyFrom_80 sh_1 (m_1_6 hMh9) (fun v10 ev10 bv10 cv10 => ?_)
  refine pI_X9_42 rfl dX9_copyFrom_83 sh_41 (fun h11 eh11 => ?_)
  have hFh11 := Fr.st eh11
  have hMh11 := u_41_6 hMh9 eh11 (by omega) (by omega)
  refine g_aload_n dX9_copyFrom_86 rfl ?_
  refine g_aload_n dX9_copyFrom_87 rfl ?_
  refine gI_X9_46 rfl dX9_copyFrom_88 sh_1 (m_1_7 hMh11) (fun v12 ev12 bv12 cv12 => ?_)
  refine pI_X9_46 rfl dX9_copyFrom_91 sh_41 (fun h13 eh13 => ?_)
  have hFh13 := Fr.st eh13
  have hMh13 := u_41_7 hMh11 eh13 (by omega) (by omega)
  refine g_aload_n dX9_copyFrom_94 rfl ?_
  refine g_aload_n dX9_copyFrom_95 rfl ?_
  refine gI_X9_49 rfl dX9_copyFrom_96 sh_1 (m_1_8 hMh13) (fun v14 ev14 bv14 cv14 => ?_)
  refine pI_X9_49 rfl dX9_copyFrom_99 sh_41 (fun h15 eh15 => ?_)
  have hFh15 := Fr.st eh15
  have hMh15 := u_41_8 hMh13 eh15 (by omega) (by omega)
  exact g_return dX9_copyFrom_102 rfl (hPo _ ⟨hMh15, (Fr.tr (Fr.tr (Fr.tr (Fr.tr (Fr.tr (Fr.tr (Fr.tr (Fr.tr (Fr.sub hFh1 rfl) hFh3 rfl) hFh5 rfl) hFh7 rfl) hFh8 rfl) hFh9 rfl) hFh11 rfl) hFh13 rfl) hFh15 rfl)⟩)
set_option maxRecDepth 100000 in
set_option maxHeartbeats 4000000 in
theorem c_X10_copyFrom_63_61 (h : MEM) (hM : MBx h) : CV yX10_copyFrom cX10_copyFrom 2 (none) 1 [pR 63, pR 61] h (fun h' => MBx h' ∧ Fr [(63, 1), (64, 0)] h h') := by
  refine CV.of (L0 := [some (pR 63), some (pR 61)]) rfl (Nat.le_of_ble_eq_true rfl) rfl (fun Po hPo hav => ?_)
  refine g_aload_n dX10_copyFrom_0 rfl ?_
  refine g_aload_n dX10_copyFrom_1 rfl ?_
  refine gI_X10_9 rfl dX10_copyFrom_2 sh_61 (m_61_0 hM) (fun v1 ev1 bv1 cv1 => ?_)
  refine pI_X10_9 rfl dX10_copyFrom_5 sh_63 (fun h2 eh2 => ?_)
  have hFh2 := Fr.st eh2
  have hMh2 := u_63_0 hM eh2 (by omega) (by omega)
  refine g_aload_n dX10_copyFrom_8 rfl ?_
  refine gR_X10_15 rfl dX10_copyFrom_9 sh_61 (b := 62) (m_61_1 hMh2) ?_
  refine g_iconst dX10_copyFrom_12 (inR_c rfl) ?_
  refine g_aload_n dX10_copyFrom_13 rfl ?_
  refine gR_X10_15 rfl dX10_copyFrom_14 sh_63 (b := 64) (m_63_1 hMh2) ?_
  refine g_iconst dX10_copyFrom_17 (inR_c rfl) ?_
  refine g_sipush dX10_copyFrom_18 (inR_c rfl) (by decide) ?_
  refine g_acopy dX10_copyFrom_21 ml_X10_23 sh_62 sh_64 (by decide) (by decide) (by decide) (by decide) (by decide) (by decide) (by decide) (fun h3 eh3 => ?_)
  have hFh3 := Fr.cp eh3
  have hMh3 := MBx.cp hMh2 eh3 (by decide) (p0 := (0, 255)) (p := (0, 255)) rfl rfl (by decide) (by decide)
  exact g_return dX10_copyFrom_24 rfl (hPo _ ⟨hMh3, (Fr.tr (Fr.sub hFh2 rfl) hFh3 rfl)⟩)
set_option maxRecDepth 100000 in
set_option maxHeartbeats 4000000 in
theorem c_X6_allSlates_2 (h : MEM) (hM : MBx h) : CP yX6_allSlates cX6_allSlates 3 (some .int) 1 [pR 2] h (fun x => 0 ≤ x ∧ x ≤ 0) := by
  refine CP.of (L0 := [some (pR 2), none, none]) rfl (Nat.le_of_ble_eq_true rfl) rfl (fun Po hPo hav => ?_)
  refine g_iconst dX6_allSlates_0 (inR_c rfl) ?_
  refine g_istore_n dX6_allSlates_1 (by decide) rfl ?_
  refine g_iconst dX6_allSlates_2 (inR_c rfl) ?_
  refine g_istore_n dX6_allSlates_3 (by decide) rfl ?_
  refine g_iload_n dX6_allSlates_4 rfl (fun _ => ?_)
  refine g_aload_n dX6_allSlates_5 rfl ?_
  refine gI_X6_9 rfl dX6_allSlates_6 sh_2 (m_2_0 hM) (fun v1 ev1 bv1 cv1 => ?_)
  refine g_icmp_ge 27 dX6_allSlates_9 (by decide) (fun q2 => ?_) (fun _ => by exfalso; omega)
  refine g_iload_n dX6_allSlates_27 rfl (fun _ => ?_)
  exact g_ireturn dX6_allSlates_28 retI (hPo _ ⟨(by omega), (by omega)⟩)
set_option maxRecDepth 100000 in
set_option maxHeartbeats 4000000 in
theorem c_X11_keep_0 (h : MEM) (hM : MBx h) : CI yX11_keep cX11_keep 1 (some .int) 3 [pR 0] h (fun x h' => Fr [(0, 13), (41, 7), (41, 8), (41, 9), (42, 1), (43, 0), (44, 0), (45, 0), (46, 1), (47, 0), (48, 0), (49, 0), (50, 0), (51, 0), (52, 1), (53, 0), (54, 0), (55, 0), (56, 0), (57, 0), (58, 0), (59, 0), (63, 1), (64, 0)] h h' ∧ x = 0) := by
  refine CI.of (L0 := [some (pR 0)]) rfl (Nat.le_of_ble_eq_true rfl) rfl (fun Po hPo hav => ?_)
  refine g_aload_n dX11_keep_0 rfl ?_
  refine gR_X11_19 rfl dX11_keep_1 sh_0 (b := 41) (m_0_2 hM) ?_
  refine g_aload_n dX11_keep_4 rfl ?_
  refine gR_X11_10 rfl dX11_keep_5 sh_0 (b := 1) (m_0_0 hM) ?_
  refine g_cVV (as := [_]) (c_X9_copyFrom_41_1  h hM) dX11_keep_8 mi_X9_copyFrom in_X9_copyFrom se_X9_copyFrom ml_X11_202 rfl rfl rfl sh_41 rfl rfl (Nat.le_of_ble_eq_true rfl) (fun h1 q2 => ?_)
  obtain ⟨hMh1, hFh1⟩ := q2
  refine g_aload_n dX11_keep_11 rfl ?_
  refine gR_X11_29 rfl dX11_keep_12 sh_0 (b := 63) (m_0_4 hMh1) ?_
  refine g_aload_n dX11_keep_15 rfl ?_
  refine gR_X11_25 rfl dX11_keep_16 sh_0 (b := 61) (m_0_3 hMh1) ?_
  refine g_cVV (as := [_]) (c_X10_copyFrom_63_61  h1 hMh1) dX11_keep_19 mi_X10_copyFrom in_X10_copyFrom se_X10_copyFrom ml_X11_303 rfl rfl rfl sh_63 rfl rfl (Nat.le_of_ble_eq_true rfl) (fun h3 q4 => ?_)
  obtain ⟨hMh3, hFh3⟩ := q4
  refine g_aload_n dX11_keep_22 rfl ?_
  refine g_iconst dX11_keep_23 (inR_c rfl) ?_
  refine pI_X11_77 rfl dX11_keep_24 sh_0 (by omega) (fun h5 eh5 => ?_)
  have hFh5 := Fr.st eh5
  have hMh5 := u_0_12 hMh3 eh5 (by omega) (by omega)
  refine g_aload_n dX11_keep_27 rfl ?_
  refine gR_X11_10 rfl dX11_keep_28 sh_0 (b := 1) (m_0_0 hMh5) ?_
  refine gR_X11_85 rfl dX11_keep_31 sh_1 (b := 2) (m_1_0 hMh5) ?_
  refine g_cVP (as := []) (c_X6_allSlates_2  h5 hMh5) dX11_keep_34 mi_X6_allSlates in_X6_allSlates se_X6_allSlates ml_X11_206 rfl rfl rfl sh_2 rfl rfl (Nat.le_of_ble_eq_true rfl) (fun v6 q7 => ?_)
  obtain ⟨bv6, cv6⟩ := q7
  exact g_ireturn dX11_keep_37 retI (hPo _ _ ⟨(Fr.tr (Fr.tr (Fr.sub hFh1 rfl) hFh3 rfl) hFh5 rfl), (by omega)⟩)
set_option maxRecDepth 100000 in
set_option maxHeartbeats 4000000 in
theorem c_X12_setsAside_98_k1 (h : MEM) (hM : MBm h) : CV yX12_setsAside cX12_setsAside 3 (none) 1 [pR 98, pI 1] h (fun h' => MBm h' ∧ Fr [(130, 0), (131, 0), (132, 0), (133, 0), (134, 0), (135, 0), (136, 0), (137, 0), (138, 0), (139, 0), (140, 0), (141, 0), (142, 0), (143, 0), (144, 0), (145, 7), (145, 8), (145, 9), (145, 10), (145, 11), (145, 12)] h h' ∧ h' 145 9 = h 98 5) := by
  refine CV.of (L0 := [some (pR 98), some (pI 1), none]) rfl (Nat.le_of_ble_eq_true rfl) rfl (fun Po hPo hav => ?_)
  obtain ⟨v1, ev1⟩ : ∃ z, z = h 98 5 := ⟨_, rfl⟩
  have bv1 : 0 ≤ v1 ∧ v1 ≤ 2000000000 := by rw [ev1]; exact (m_98_5 hM)
  refine g_iconst dX12_setsAside_0 (inR_c rfl) ?_
  have c2 : ∀ (n : Nat) (y2 : Int) (h3 : MEM), MBm h3 → Fr [(130, 0), (131, 0), (132, 0)] h h3 → 0 ≤ y2 → y2 ≤ 10 → 10 - y2 < (n : Int) → G yX12_setsAside cX12_setsAside 3 (none) none Po (1, 60, 0, 0) 2 [some (pR 98), some (pI 1), some (pI y2)] [] SH h3 0 0 := by
    intro n
    induction n with
    | zero =>
      intro y2 h3 hMh3 hFh3 by2 dy2 hn
      exfalso; omega
    | succ n ih =>
      intro y2 h3 hMh3 hFh3 by2 dy2 hn
      refine g_iload_n dX12_setsAside_2 rfl (fun _ => ?_)
      refine g_bipush dX12_setsAside_3 (inR_c rfl) (by decide) ?_
      refine g_icmp_ge 65 dX12_setsAside_5 (by decide) (fun q4 => ?_) (fun q4 => ?_)
      · skip
        refine g_iconst dX12_setsAside_65 (inR_c rfl) ?_
        have c67 : ∀ (n : Nat) (y5 : Int) (h6 : MEM), MBm h6 → Fr [(133, 0), (134, 0), (136, 0), (137, 0), (138, 0), (139, 0), (140, 0), (141, 0)] h3 h6 → 0 ≤ y5 → y5 ≤ 8 → 8 - y5 < (n : Int) → G yX12_setsAside cX12_setsAside 3 (none) none Po (1, 60, 0, 0) 67 [some (pR 98), some (pI 1), some (pI y5)] [] SH h6 0 0 := by
          intro n
          induction n with
          | zero =>
            intro y5 h6 hMh6 hFh6 by5 dy5 hn
            exfalso; omega
          | succ n ih =>
            intro y5 h6 hMh6 hFh6 by5 dy5 hn
            refine g_iload_n dX12_setsAside_67 rfl (fun _ => ?_)
            refine g_bipush dX12_setsAside_68 (inR_c rfl) (by decide) ?_
            refine g_icmp_ge 215 dX12_setsAside_70 (by decide) (fun q7 => ?_) (fun q7 => ?_)
            · skip
              refine g_iconst dX12_setsAside_215 (inR_c rfl) ?_
              have c217 : ∀ (n : Nat) (y8 : Int) (h9 : MEM), MBm h9 → Fr [(135, 0)] h6 h9 → 0 ≤ y8 → y8 ≤ 40 → 40 - y8 < (n : Int) → G yX12_setsAside cX12_setsAside 3 (none) none Po (1, 60, 0, 0) 217 [some (pR 98), some (pI 1), some (pI y8)] [] SH h9 0 0 := by
                intro n
                induction n with
                | zero =>
                  intro y8 h9 hMh9 hFh9 by8 dy8 hn
                  exfalso; omega
                | succ n ih =>
                  intro y8 h9 hMh9 hFh9 by8 dy8 hn
                  refine g_iload_n dX12_setsAside_217 rfl (fun _ => ?_)
                  refine g_bipush dX12_setsAside_218 (inR_c rfl) (by decide) ?_
                  refine g_icmp_ge 246 dX12_setsAside_220 (by decide) (fun q10 => ?_) (fun q10 => ?_)
                  · skip
                    refine g_iconst dX12_setsAside_246 (inR_c rfl) ?_
                    have c248 : ∀ (n : Nat) (y11 : Int) (h12 : MEM), MBm h12 → Fr [(142, 0), (143, 0)] h9 h12 → 0 ≤ y11 → y11 ≤ 64 → 64 - y11 < (n : Int) → G yX12_setsAside cX12_setsAside 3 (none) none Po (1, 60, 0, 0) 248 [some (pR 98), some (pI 1), some (pI y11)] [] SH h12 0 0 := by
                      intro n
                      induction n with
                      | zero =>
                        intro y11 h12 hMh12 hFh12 by11 dy11 hn
                        exfalso; omega
                      | succ n ih =>
                        intro y11 h12 hMh12 hFh12 by11 dy11 hn
                        refine g_iload_n dX12_setsAside_248 rfl (fun _ => ?_)
                        refine g_bipush dX12_setsAside_249 (inR_c rfl) (by decide) ?_
                        refine g_icmp_ge 294 dX12_setsAside_251 (by decide) (fun q13 => ?_) (fun q13 => ?_)
                        · skip
                          refine g_iconst dX12_setsAside_294 (inR_c rfl) ?_
                          have c296 : ∀ (n : Nat) (y14 : Int) (h15 : MEM), MBm h15 → Fr [(144, 0)] h12 h15 → 0 ≤ y14 → y14 ≤ 100 → 100 - y14 < (n : Int) → G yX12_setsAside cX12_setsAside 3 (none) none Po (1, 60, 0, 0) 296 [some (pR 98), some (pI 1), some (pI y14)] [] SH h15 0 0 := by
                            intro n
                            induction n with
                            | zero =>
                              intro y14 h15 hMh15 hFh15 by14 dy14 hn
                              exfalso; omega
                            | succ n ih =>
                              intro y14 h15 hMh15 hFh15 by14 dy14 hn
                              refine g_iload_n dX12_setsAside_296 rfl (fun _ => ?_)
                              refine g_bipush dX12_setsAside_297 (inR_c rfl) (by decide) ?_
                              refine g_icmp_ge 325 dX12_setsAside_299 (by decide) (fun q16 => ?_) (fun q16 => ?_)
                              · skip
                                refine g_aload_n dX12_setsAside_325 rfl ?_
                                refine gR_X12_154 rfl dX12_setsAside_326 sh_98 (b := 145) (m_98_70 hMh15) ?_
                                refine g_bipush dX12_setsAside_329 (inR_c rfl) (by decide) ?_
                                refine g_iload_n dX12_setsAside_331 rfl (fun _ => ?_)
                                refine g_imulB dX12_setsAside_332 (by omega) (by omega) ?_
                                refine g_aload_n dX12_setsAside_333 rfl ?_
                                refine gI_X12_172 rfl dX12_setsAside_334 sh_98 (m_98_2 hMh15) (fun v17 ev17 bv17 cv17 => ?_)
                                refine g_iastB dX12_setsAside_337 sh_145 (by omega) (by omega) (fun h18 eh18 => ?_)
                                have hFh18 := Fr.st eh18
                                have hMh18 := u_145_6 hMh15 eh18 (by omega) (by omega)
                                refine g_aload_n dX12_setsAside_338 rfl ?_
                                refine gR_X12_154 rfl dX12_setsAside_339 sh_98 (b := 145) (m_98_70 hMh18) ?_
                                refine g_bipush dX12_setsAside_342 (inR_c rfl) (by decide) ?_
                                refine g_iload_n dX12_setsAside_344 rfl (fun _ => ?_)
                                refine g_imulB dX12_setsAside_345 (by omega) (by omega) ?_
                                refine g_iconst dX12_setsAside_346 (inR_c rfl) ?_
                                refine g_iaddB dX12_setsAside_347 (by omega) (by omega) ?_
                                refine g_aload_n dX12_setsAside_348 rfl ?_
                                refine gI_X12_179 rfl dX12_setsAside_349 sh_98 (m_98_3 hMh18) (fun v19 ev19 bv19 cv19 => ?_)
                                refine g_iastB dX12_setsAside_352 sh_145 (by omega) (by omega) (fun h20 eh20 => ?_)
                                have hFh20 := Fr.st eh20
                                have hMh20 := u_145_7 hMh18 eh20 (by omega) (by omega)
                                refine g_aload_n dX12_setsAside_353 rfl ?_
                                refine gR_X12_154 rfl dX12_setsAside_354 sh_98 (b := 145) (m_98_70 hMh20) ?_
                                refine g_bipush dX12_setsAside_357 (inR_c rfl) (by decide) ?_
                                refine g_iload_n dX12_setsAside_359 rfl (fun _ => ?_)
                                refine g_imulB dX12_setsAside_360 (by omega) (by omega) ?_
                                refine g_iconst dX12_setsAside_361 (inR_c rfl) ?_
                                refine g_iaddB dX12_setsAside_362 (by omega) (by omega) ?_
                                refine g_aload_n dX12_setsAside_363 rfl ?_
                                refine gI_X12_182 rfl dX12_setsAside_364 sh_98 (m_98_4 hMh20) (fun v21 ev21 bv21 cv21 => ?_)
                                refine g_iastB dX12_setsAside_367 sh_145 (by omega) (by omega) (fun h22 eh22 => ?_)
                                have hFh22 := Fr.st eh22
                                have hMh22 := u_145_8 hMh20 eh22 (by omega) (by omega)
                                refine g_aload_n dX12_setsAside_368 rfl ?_
                                refine gR_X12_154 rfl dX12_setsAside_369 sh_98 (b := 145) (m_98_70 hMh22) ?_
                                refine g_bipush dX12_setsAside_372 (inR_c rfl) (by decide) ?_
                                refine g_iload_n dX12_setsAside_374 rfl (fun _ => ?_)
                                refine g_imulB dX12_setsAside_375 (by omega) (by omega) ?_
                                refine g_iconst dX12_setsAside_376 (inR_c rfl) ?_
                                refine g_iaddB dX12_setsAside_377 (by omega) (by omega) ?_
                                refine g_aload_n dX12_setsAside_378 rfl ?_
                                refine gE_X12_334 rfl dX12_setsAside_379 sh_98 ((hFh22 98 5 rfl).trans ((hFh20 98 5 rfl).trans ((hFh18 98 5 rfl).trans ((hFh15 98 5 rfl).trans ((hFh12 98 5 rfl).trans ((hFh9 98 5 rfl).trans ((hFh6 98 5 rfl).trans ((hFh3 98 5 rfl).trans ev1.symm)))))))) ?_
                                refine g_iastB dX12_setsAside_382 sh_145 (by omega) (by omega) (fun h23 eh23 => ?_)
                                have hFh23 := Fr.st eh23
                                have hMh23 := u_145_9 hMh22 eh23 (by omega) (by omega)
                                refine g_aload_n dX12_setsAside_383 rfl ?_
                                refine gR_X12_154 rfl dX12_setsAside_384 sh_98 (b := 145) (m_98_70 hMh23) ?_
                                refine g_bipush dX12_setsAside_387 (inR_c rfl) (by decide) ?_
                                refine g_iload_n dX12_setsAside_389 rfl (fun _ => ?_)
                                refine g_imulB dX12_setsAside_390 (by omega) (by omega) ?_
                                refine g_iconst dX12_setsAside_391 (inR_c rfl) ?_
                                refine g_iaddB dX12_setsAside_392 (by omega) (by omega) ?_
                                refine g_aload_n dX12_setsAside_393 rfl ?_
                                refine gI_X12_13 rfl dX12_setsAside_394 sh_98 (m_98_6 hMh23) (fun v24 ev24 bv24 cv24 => ?_)
                                refine g_iastB dX12_setsAside_397 sh_145 (by omega) (by omega) (fun h25 eh25 => ?_)
                                have hFh25 := Fr.st eh25
                                have hMh25 := u_145_10 hMh23 eh25 (by omega) (by omega)
                                refine g_aload_n dX12_setsAside_398 rfl ?_
                                refine gR_X12_154 rfl dX12_setsAside_399 sh_98 (b := 145) (m_98_70 hMh25) ?_
                                refine g_bipush dX12_setsAside_402 (inR_c rfl) (by decide) ?_
                                refine g_iload_n dX12_setsAside_404 rfl (fun _ => ?_)
                                refine g_imulB dX12_setsAside_405 (by omega) (by omega) ?_
                                refine g_iconst dX12_setsAside_406 (inR_c rfl) ?_
                                refine g_iaddB dX12_setsAside_407 (by omega) (by omega) ?_
                                refine g_aload_n dX12_setsAside_408 rfl ?_
                                refine gI_X12_372 rfl dX12_setsAside_409 sh_98 (m_98_7 hMh25) (fun v26 ev26 bv26 cv26 => ?_)
                                refine g_iastB dX12_setsAside_412 sh_145 (by omega) (by omega) (fun h27 eh27 => ?_)
                                have hFh27 := Fr.st eh27
                                have hMh27 := u_145_11 hMh25 eh27 (by omega) (by omega)
                                have q28 : h27 145 9 = v1 := ((hFh27 145 _ rfl).trans ((hFh25 145 _ rfl).trans (st_at eh23)))
                                exact g_return dX12_setsAside_413 rfl (hPo _ ⟨hMh27, (Fr.tr (Fr.tr (Fr.tr (Fr.tr (Fr.tr (Fr.tr (Fr.tr (Fr.tr (Fr.tr (Fr.tr (Fr.sub hFh3 rfl) hFh6 rfl) hFh9 rfl) hFh12 rfl) hFh15 rfl) hFh18 rfl) hFh20 rfl) hFh22 rfl) hFh23 rfl) hFh25 rfl) hFh27 rfl), (by omega)⟩)
                              · skip
                                refine g_aload_n dX12_setsAside_302 rfl ?_
                                refine gR_X12_151 rfl dX12_setsAside_303 sh_98 (b := 144) (m_98_69 hMh15) ?_
                                refine g_bipush dX12_setsAside_306 (inR_c rfl) (by decide) ?_
                                refine g_iload_n dX12_setsAside_308 rfl (fun _ => ?_)
                                refine g_imulB dX12_setsAside_309 (by omega) (by omega) ?_
                                refine g_iload_n dX12_setsAside_310 rfl (fun _ => ?_)
                                refine g_iaddB dX12_setsAside_311 (by omega) (by omega) ?_
                                refine g_aload_n dX12_setsAside_312 rfl ?_
                                refine gR_X12_61 rfl dX12_setsAside_313 sh_98 (b := 114) (m_98_22 hMh15) ?_
                                refine g_iload_n dX12_setsAside_316 rfl (fun _ => ?_)
                                refine g_zaldB dX12_setsAside_317 sh_114 (by omega) (by omega) (m_114 hMh15 _) (fun v29 ev29 bv29 cv29 => ?_)
                                refine g_zastB dX12_setsAside_318 sh_144 (by omega) (by omega) (by omega) (fun h30 eh30 => ?_)
                                have hFh30 := Fr.ar eh30
                                have hMh30 := u_144 hMh15 eh30 (by omega) (by omega)
                                refine g_iincB dX12_setsAside_319 rfl rfl (by omega) (by omega) ?_
                                refine g_goto 296 dX12_setsAside_322 (by decide) ?_
                                exact ih _ _ hMh30 (Fr.tr (Fr.sub hFh15 rfl) hFh30 rfl) (by omega) (by omega) (by omega)
                          refine g_istore_n dX12_setsAside_295 (by decide) rfl ?_
                          exact c296 101 _ _ hMh12 Fr.rf (by omega) (by omega) (by omega)
                        · skip
                          refine g_aload_n dX12_setsAside_254 rfl ?_
                          refine gR_X12_145 rfl dX12_setsAside_255 sh_98 (b := 142) (m_98_67 hMh12) ?_
                          refine g_bipush dX12_setsAside_258 (inR_c rfl) (by decide) ?_
                          refine g_iload_n dX12_setsAside_260 rfl (fun _ => ?_)
                          refine g_imulB dX12_setsAside_261 (by omega) (by omega) ?_
                          refine g_iload_n dX12_setsAside_262 rfl (fun _ => ?_)
                          refine g_iaddB dX12_setsAside_263 (by omega) (by omega) ?_
                          refine g_aload_n dX12_setsAside_264 rfl ?_
                          refine gR_X12_55 rfl dX12_setsAside_265 sh_98 (b := 112) (m_98_20 hMh12) ?_
                          refine g_iload_n dX12_setsAside_268 rfl (fun _ => ?_)
                          refine g_ialdB dX12_setsAside_269 sh_112 (by omega) (by omega) (m_112 hMh12 _) (fun v31 ev31 bv31 cv31 => ?_)
                          refine g_iastB dX12_setsAside_270 sh_142 (by omega) (by omega) (fun h32 eh32 => ?_)
                          have hFh32 := Fr.ar eh32
                          have hMh32 := u_142 hMh12 eh32 (by omega) (by omega)
                          refine g_aload_n dX12_setsAside_271 rfl ?_
                          refine gR_X12_148 rfl dX12_setsAside_272 sh_98 (b := 143) (m_98_68 hMh32) ?_
                          refine g_bipush dX12_setsAside_275 (inR_c rfl) (by decide) ?_
                          refine g_iload_n dX12_setsAside_277 rfl (fun _ => ?_)
                          refine g_imulB dX12_setsAside_278 (by omega) (by omega) ?_
                          refine g_iload_n dX12_setsAside_279 rfl (fun _ => ?_)
                          refine g_iaddB dX12_setsAside_280 (by omega) (by omega) ?_
                          refine g_aload_n dX12_setsAside_281 rfl ?_
                          refine gR_X12_58 rfl dX12_setsAside_282 sh_98 (b := 113) (m_98_21 hMh32) ?_
                          refine g_iload_n dX12_setsAside_285 rfl (fun _ => ?_)
                          refine g_ialdB dX12_setsAside_286 sh_113 (by omega) (by omega) (m_113 hMh32 _) (fun v33 ev33 bv33 cv33 => ?_)
                          refine g_iastB dX12_setsAside_287 sh_143 (by omega) (by omega) (fun h34 eh34 => ?_)
                          have hFh34 := Fr.ar eh34
                          have hMh34 := u_143 hMh32 eh34 (by omega) (by omega)
                          refine g_iincB dX12_setsAside_288 rfl rfl (by omega) (by omega) ?_
                          refine g_goto 248 dX12_setsAside_291 (by decide) ?_
                          exact ih _ _ hMh34 (Fr.tr (Fr.tr (Fr.sub hFh12 rfl) hFh32 rfl) hFh34 rfl) (by omega) (by omega) (by omega)
                    refine g_istore_n dX12_setsAside_247 (by decide) rfl ?_
                    exact c248 65 _ _ hMh9 Fr.rf (by omega) (by omega) (by omega)
                  · skip
                    refine g_aload_n dX12_setsAside_223 rfl ?_
                    refine gR_X12_124 rfl dX12_setsAside_224 sh_98 (b := 135) (m_98_60 hMh9) ?_
                    refine g_bipush dX12_setsAside_227 (inR_c rfl) (by decide) ?_
                    refine g_iload_n dX12_setsAside_229 rfl (fun _ => ?_)
                    refine g_imulB dX12_setsAside_230 (by omega) (by omega) ?_
                    refine g_iload_n dX12_setsAside_231 rfl (fun _ => ?_)
                    refine g_iaddB dX12_setsAside_232 (by omega) (by omega) ?_
                    refine g_aload_n dX12_setsAside_233 rfl ?_
                    refine gR_X12_33 rfl dX12_setsAside_234 sh_98 (b := 105) (m_98_13 hMh9) ?_
                    refine g_iload_n dX12_setsAside_237 rfl (fun _ => ?_)
                    refine g_ialdB dX12_setsAside_238 sh_105 (by omega) (by omega) (m_105 hMh9 _) (fun v35 ev35 bv35 cv35 => ?_)
                    refine g_iastB dX12_setsAside_239 sh_135 (by omega) (by omega) (fun h36 eh36 => ?_)
                    have hFh36 := Fr.ar eh36
                    have hMh36 := u_135 hMh9 eh36 (by omega) (by omega)
                    refine g_iincB dX12_setsAside_240 rfl rfl (by omega) (by omega) ?_
                    refine g_goto 217 dX12_setsAside_243 (by decide) ?_
                    exact ih _ _ hMh36 (Fr.tr (Fr.sub hFh9 rfl) hFh36 rfl) (by omega) (by omega) (by omega)
              refine g_istore_n dX12_setsAside_216 (by decide) rfl ?_
              exact c217 41 _ _ hMh6 Fr.rf (by omega) (by omega) (by omega)
            · skip
              refine g_aload_n dX12_setsAside_73 rfl ?_
              refine gR_X12_118 rfl dX12_setsAside_74 sh_98 (b := 133) (m_98_58 hMh6) ?_
              refine g_bipush dX12_setsAside_77 (inR_c rfl) (by decide) ?_
              refine g_iload_n dX12_setsAside_79 rfl (fun _ => ?_)
              refine g_imulB dX12_setsAside_80 (by omega) (by omega) ?_
              refine g_iload_n dX12_setsAside_81 rfl (fun _ => ?_)
              refine g_iaddB dX12_setsAside_82 (by omega) (by omega) ?_
              refine g_aload_n dX12_setsAside_83 rfl ?_
              refine gR_X12_27 rfl dX12_setsAside_84 sh_98 (b := 103) (m_98_11 hMh6) ?_
              refine g_iload_n dX12_setsAside_87 rfl (fun _ => ?_)
              refine g_ialdB dX12_setsAside_88 sh_103 (by omega) (by omega) (m_103 hMh6 _) (fun v37 ev37 bv37 cv37 => ?_)
              refine g_iastB dX12_setsAside_89 sh_133 (by omega) (by omega) (fun h38 eh38 => ?_)
              have hFh38 := Fr.ar eh38
              have hMh38 := u_133 hMh6 eh38 (by omega) (by omega)
              refine g_aload_n dX12_setsAside_90 rfl ?_
              refine gR_X12_121 rfl dX12_setsAside_91 sh_98 (b := 134) (m_98_59 hMh38) ?_
              refine g_bipush dX12_setsAside_94 (inR_c rfl) (by decide) ?_
              refine g_iload_n dX12_setsAside_96 rfl (fun _ => ?_)
              refine g_imulB dX12_setsAside_97 (by omega) (by omega) ?_
              refine g_iload_n dX12_setsAside_98 rfl (fun _ => ?_)
              refine g_iaddB dX12_setsAside_99 (by omega) (by omega) ?_
              refine g_aload_n dX12_setsAside_100 rfl ?_
              refine gR_X12_30 rfl dX12_setsAside_101 sh_98 (b := 104) (m_98_12 hMh38) ?_
              refine g_iload_n dX12_setsAside_104 rfl (fun _ => ?_)
              refine g_ialdB dX12_setsAside_105 sh_104 (by omega) (by omega) (m_104 hMh38 _) (fun v39 ev39 bv39 cv39 => ?_)
              refine g_iastB dX12_setsAside_106 sh_134 (by omega) (by omega) (fun h40 eh40 => ?_)
              have hFh40 := Fr.ar eh40
              have hMh40 := u_134 hMh38 eh40 (by omega) (by omega)
              refine g_aload_n dX12_setsAside_107 rfl ?_
              refine gR_X12_127 rfl dX12_setsAside_108 sh_98 (b := 136) (m_98_61 hMh40) ?_
              refine g_bipush dX12_setsAside_111 (inR_c rfl) (by decide) ?_
              refine g_iload_n dX12_setsAside_113 rfl (fun _ => ?_)
              refine g_imulB dX12_setsAside_114 (by omega) (by omega) ?_
              refine g_iload_n dX12_setsAside_115 rfl (fun _ => ?_)
              refine g_iaddB dX12_setsAside_116 (by omega) (by omega) ?_
              refine g_aload_n dX12_setsAside_117 rfl ?_
              refine gR_X12_36 rfl dX12_setsAside_118 sh_98 (b := 106) (m_98_14 hMh40) ?_
              refine g_iload_n dX12_setsAside_121 rfl (fun _ => ?_)
              refine g_zaldB dX12_setsAside_122 sh_106 (by omega) (by omega) (m_106 hMh40 _) (fun v41 ev41 bv41 cv41 => ?_)
              refine g_zastB dX12_setsAside_123 sh_136 (by omega) (by omega) (by omega) (fun h42 eh42 => ?_)
              have hFh42 := Fr.ar eh42
              have hMh42 := u_136 hMh40 eh42 (by omega) (by omega)
              refine g_aload_n dX12_setsAside_124 rfl ?_
              refine gR_X12_130 rfl dX12_setsAside_125 sh_98 (b := 137) (m_98_62 hMh42) ?_
              refine g_bipush dX12_setsAside_128 (inR_c rfl) (by decide) ?_
              refine g_iload_n dX12_setsAside_130 rfl (fun _ => ?_)
              refine g_imulB dX12_setsAside_131 (by omega) (by omega) ?_
              refine g_iload_n dX12_setsAside_132 rfl (fun _ => ?_)
              refine g_iaddB dX12_setsAside_133 (by omega) (by omega) ?_
              refine g_aload_n dX12_setsAside_134 rfl ?_
              refine gR_X12_40 rfl dX12_setsAside_135 sh_98 (b := 107) (m_98_15 hMh42) ?_
              refine g_iload_n dX12_setsAside_138 rfl (fun _ => ?_)
              refine g_ialdB dX12_setsAside_139 sh_107 (by omega) (by omega) (m_107 hMh42 _) (fun v43 ev43 bv43 cv43 => ?_)
              refine g_iastB dX12_setsAside_140 sh_137 (by omega) (by omega) (fun h44 eh44 => ?_)
              have hFh44 := Fr.ar eh44
              have hMh44 := u_137 hMh42 eh44 (by omega) (by omega)
              refine g_aload_n dX12_setsAside_141 rfl ?_
              refine gR_X12_133 rfl dX12_setsAside_142 sh_98 (b := 138) (m_98_63 hMh44) ?_
              refine g_bipush dX12_setsAside_145 (inR_c rfl) (by decide) ?_
              refine g_iload_n dX12_setsAside_147 rfl (fun _ => ?_)
              refine g_imulB dX12_setsAside_148 (by omega) (by omega) ?_
              refine g_iload_n dX12_setsAside_149 rfl (fun _ => ?_)
              refine g_iaddB dX12_setsAside_150 (by omega) (by omega) ?_
              refine g_aload_n dX12_setsAside_151 rfl ?_
              refine gR_X12_43 rfl dX12_setsAside_152 sh_98 (b := 108) (m_98_16 hMh44) ?_
              refine g_iload_n dX12_setsAside_155 rfl (fun _ => ?_)
              refine g_ialdB dX12_setsAside_156 sh_108 (by omega) (by omega) (m_108 hMh44 _) (fun v45 ev45 bv45 cv45 => ?_)
              refine g_iastB dX12_setsAside_157 sh_138 (by omega) (by omega) (fun h46 eh46 => ?_)
              have hFh46 := Fr.ar eh46
              have hMh46 := u_138 hMh44 eh46 (by omega) (by omega)
              refine g_aload_n dX12_setsAside_158 rfl ?_
              refine gR_X12_136 rfl dX12_setsAside_159 sh_98 (b := 139) (m_98_64 hMh46) ?_
              refine g_bipush dX12_setsAside_162 (inR_c rfl) (by decide) ?_
              refine g_iload_n dX12_setsAside_164 rfl (fun _ => ?_)
              refine g_imulB dX12_setsAside_165 (by omega) (by omega) ?_
              refine g_iload_n dX12_setsAside_166 rfl (fun _ => ?_)
              refine g_iaddB dX12_setsAside_167 (by omega) (by omega) ?_
              refine g_aload_n dX12_setsAside_168 rfl ?_
              refine gR_X12_46 rfl dX12_setsAside_169 sh_98 (b := 109) (m_98_17 hMh46) ?_
              refine g_iload_n dX12_setsAside_172 rfl (fun _ => ?_)
              refine g_ialdB dX12_setsAside_173 sh_109 (by omega) (by omega) (m_109 hMh46 _) (fun v47 ev47 bv47 cv47 => ?_)
              refine g_iastB dX12_setsAside_174 sh_139 (by omega) (by omega) (fun h48 eh48 => ?_)
              have hFh48 := Fr.ar eh48
              have hMh48 := u_139 hMh46 eh48 (by omega) (by omega)
              refine g_aload_n dX12_setsAside_175 rfl ?_
              refine gR_X12_139 rfl dX12_setsAside_176 sh_98 (b := 140) (m_98_65 hMh48) ?_
              refine g_bipush dX12_setsAside_179 (inR_c rfl) (by decide) ?_
              refine g_iload_n dX12_setsAside_181 rfl (fun _ => ?_)
              refine g_imulB dX12_setsAside_182 (by omega) (by omega) ?_
              refine g_iload_n dX12_setsAside_183 rfl (fun _ => ?_)
              refine g_iaddB dX12_setsAside_184 (by omega) (by omega) ?_
              refine g_aload_n dX12_setsAside_185 rfl ?_
              refine gR_X12_49 rfl dX12_setsAside_186 sh_98 (b := 110) (m_98_18 hMh48) ?_
              refine g_iload_n dX12_setsAside_189 rfl (fun _ => ?_)
              refine g_zaldB dX12_setsAside_190 sh_110 (by omega) (by omega) (m_110 hMh48 _) (fun v49 ev49 bv49 cv49 => ?_)
              refine g_zastB dX12_setsAside_191 sh_140 (by omega) (by omega) (by omega) (fun h50 eh50 => ?_)
              have hFh50 := Fr.ar eh50
              have hMh50 := u_140 hMh48 eh50 (by omega) (by omega)
              refine g_aload_n dX12_setsAside_192 rfl ?_
              refine gR_X12_142 rfl dX12_setsAside_193 sh_98 (b := 141) (m_98_66 hMh50) ?_
              refine g_bipush dX12_setsAside_196 (inR_c rfl) (by decide) ?_
              refine g_iload_n dX12_setsAside_198 rfl (fun _ => ?_)
              refine g_imulB dX12_setsAside_199 (by omega) (by omega) ?_
              refine g_iload_n dX12_setsAside_200 rfl (fun _ => ?_)
              refine g_iaddB dX12_setsAside_201 (by omega) (by omega) ?_
              refine g_aload_n dX12_setsAside_202 rfl ?_
              refine gR_X12_52 rfl dX12_setsAside_203 sh_98 (b := 111) (m_98_19 hMh50) ?_
              refine g_iload_n dX12_setsAside_206 rfl (fun _ => ?_)
              refine g_ialdB dX12_setsAside_207 sh_111 (by omega) (by omega) (m_111 hMh50 _) (fun v51 ev51 bv51 cv51 => ?_)
              refine g_iastB dX12_setsAside_208 sh_141 (by omega) (by omega) (fun h52 eh52 => ?_)
              have hFh52 := Fr.ar eh52
              have hMh52 := u_141 hMh50 eh52 (by omega) (by omega)
              refine g_iincB dX12_setsAside_209 rfl rfl (by omega) (by omega) ?_
              refine g_goto 67 dX12_setsAside_212 (by decide) ?_
              exact ih _ _ hMh52 (Fr.tr (Fr.tr (Fr.tr (Fr.tr (Fr.tr (Fr.tr (Fr.tr (Fr.tr (Fr.sub hFh6 rfl) hFh38 rfl) hFh40 rfl) hFh42 rfl) hFh44 rfl) hFh46 rfl) hFh48 rfl) hFh50 rfl) hFh52 rfl) (by omega) (by omega) (by omega)
        refine g_istore_n dX12_setsAside_66 (by decide) rfl ?_
        exact c67 9 _ _ hMh3 Fr.rf (by omega) (by omega) (by omega)
      · skip
        refine g_aload_n dX12_setsAside_8 rfl ?_
        refine gR_X12_109 rfl dX12_setsAside_9 sh_98 (b := 130) (m_98_55 hMh3) ?_
        refine g_bipush dX12_setsAside_12 (inR_c rfl) (by decide) ?_
        refine g_iload_n dX12_setsAside_14 rfl (fun _ => ?_)
        refine g_imulB dX12_setsAside_15 (by omega) (by omega) ?_
        refine g_iload_n dX12_setsAside_16 rfl (fun _ => ?_)
        refine g_iaddB dX12_setsAside_17 (by omega) (by omega) ?_
        refine g_aload_n dX12_setsAside_18 rfl ?_
        refine gR_X12_17 rfl dX12_setsAside_19 sh_98 (b := 100) (m_98_8 hMh3) ?_
        refine g_iload_n dX12_setsAside_22 rfl (fun _ => ?_)
        refine g_ialdB dX12_setsAside_23 sh_100 (by omega) (by omega) (m_100 hMh3 _) (fun v53 ev53 bv53 cv53 => ?_)
        refine g_iastB dX12_setsAside_24 sh_130 (by omega) (by omega) (fun h54 eh54 => ?_)
        have hFh54 := Fr.ar eh54
        have hMh54 := u_130 hMh3 eh54 (by omega) (by omega)
        refine g_aload_n dX12_setsAside_25 rfl ?_
        refine gR_X12_112 rfl dX12_setsAside_26 sh_98 (b := 131) (m_98_56 hMh54) ?_
        refine g_bipush dX12_setsAside_29 (inR_c rfl) (by decide) ?_
        refine g_iload_n dX12_setsAside_31 rfl (fun _ => ?_)
        refine g_imulB dX12_setsAside_32 (by omega) (by omega) ?_
        refine g_iload_n dX12_setsAside_33 rfl (fun _ => ?_)
        refine g_iaddB dX12_setsAside_34 (by omega) (by omega) ?_
        refine g_aload_n dX12_setsAside_35 rfl ?_
        refine gR_X12_21 rfl dX12_setsAside_36 sh_98 (b := 101) (m_98_9 hMh54) ?_
        refine g_iload_n dX12_setsAside_39 rfl (fun _ => ?_)
        refine g_ialdB dX12_setsAside_40 sh_101 (by omega) (by omega) (m_101 hMh54 _) (fun v55 ev55 bv55 cv55 => ?_)
        refine g_iastB dX12_setsAside_41 sh_131 (by omega) (by omega) (fun h56 eh56 => ?_)
        have hFh56 := Fr.ar eh56
        have hMh56 := u_131 hMh54 eh56 (by omega) (by omega)
        refine g_aload_n dX12_setsAside_42 rfl ?_
        refine gR_X12_115 rfl dX12_setsAside_43 sh_98 (b := 132) (m_98_57 hMh56) ?_
        refine g_bipush dX12_setsAside_46 (inR_c rfl) (by decide) ?_
        refine g_iload_n dX12_setsAside_48 rfl (fun _ => ?_)
        refine g_imulB dX12_setsAside_49 (by omega) (by omega) ?_
        refine g_iload_n dX12_setsAside_50 rfl (fun _ => ?_)
        refine g_iaddB dX12_setsAside_51 (by omega) (by omega) ?_
        refine g_aload_n dX12_setsAside_52 rfl ?_
        refine gR_X12_24 rfl dX12_setsAside_53 sh_98 (b := 102) (m_98_10 hMh56) ?_
        refine g_iload_n dX12_setsAside_56 rfl (fun _ => ?_)
        refine g_ialdB dX12_setsAside_57 sh_102 (by omega) (by omega) (m_102 hMh56 _) (fun v57 ev57 bv57 cv57 => ?_)
        refine g_iastB dX12_setsAside_58 sh_132 (by omega) (by omega) (fun h58 eh58 => ?_)
        have hFh58 := Fr.ar eh58
        have hMh58 := u_132 hMh56 eh58 (by omega) (by omega)
        refine g_iincB dX12_setsAside_59 rfl rfl (by omega) (by omega) ?_
        refine g_goto 2 dX12_setsAside_62 (by decide) ?_
        exact ih _ _ hMh58 (Fr.tr (Fr.tr (Fr.tr (Fr.sub hFh3 rfl) hFh54 rfl) hFh56 rfl) hFh58 rfl) (by omega) (by omega) (by omega)
  refine g_istore_n dX12_setsAside_1 (by decide) rfl ?_
  exact c2 11 _ _ hM Fr.rf (by omega) (by omega) (by omega)
