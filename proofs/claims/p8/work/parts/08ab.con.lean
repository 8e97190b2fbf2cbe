set_option maxRecDepth 100000 in
set_option maxHeartbeats 4000000 in
theorem c_X5_readTerm_65_90_k5 (h : MEM) (hM : MBx h) : CV yX5_readTerm cX5_readTerm 5 (none) 10 [pR 65, pR 90, pI 5] h (fun h' => MBx h' ∧ Fr [(65, 3), (65, 4), (65, 5), (90, 2), (95, 0), (96, 0)] h h') := by
  refine CV.of (L0 := [some (pR 65), some (pR 90), some (pI 5), none, none]) rfl (Nat.le_of_ble_eq_true rfl) rfl (fun Po hPo hav => ?_)
  refine g_aload_n dX5_readTerm_0 rfl ?_
  refine g_aload_n dX5_readTerm_1 rfl ?_
  refine g_iload_n dX5_readTerm_2 rfl (fun _ => ?_)
  refine g_cVV (as := [_, _]) (c_X5_readFactor_65_90_k5  h hM) dX5_readTerm_3 mi_X5_readFactor in_X5_readFactor se_X5_readFactor ml_X5_108 rfl rfl rfl sh_65 rfl rfl (Nat.le_of_ble_eq_true rfl) (fun h1 q2 => ?_)
  obtain ⟨hMh1, hFh1⟩ := q2
  refine g_iconst dX5_readTerm_6 (inR_c rfl) ?_
  have c8 : ∀ (n : Nat) (y3 : Int) (h4 : MEM), MBx h4 → Fr [(65, 3), (65, 4), (65, 5), (90, 2), (95, 0), (96, 0)] h1 h4 → 0 ≤ y3 → y3 ≤ 200 → 200 - y3 < (n : Int) → G yX5_readTerm cX5_readTerm 5 (none) none Po (10, 600, 0, 0) 8 [some (pR 65), some (pR 90), some (pI 5), some (pI y3), none] [] SH h4 0 0 := by
    intro n
    induction n with
    | zero =>
      intro y3 h4 hMh4 hFh4 by3 dy3 hn
      exfalso; omega
    | succ n ih8 =>
      intro y3 h4 hMh4 hFh4 by3 dy3 hn
      refine g_iload_n dX5_readTerm_8 rfl (fun _ => ?_)
      refine g_sipush dX5_readTerm_9 (inR_c rfl) (by decide) ?_
      refine g_icmp_ge 68 dX5_readTerm_12 (by decide) (fun q5 => ?_) (fun q5 => ?_)
      · skip
        exact g_return dX5_readTerm_68 rfl (hPo _ ⟨hMh4, (Fr.tr (Fr.sub hFh1 rfl) hFh4 rfl)⟩)
      · skip
        refine g_aload_n dX5_readTerm_15 rfl ?_
        refine gI_X5_22 rfl dX5_readTerm_16 sh_65 (m_65_3 hMh4) (fun v6 ev6 bv6 cv6 => ?_)
        refine g_if_ne 68 dX5_readTerm_19 (by decide) (fun q7 => ?_) (fun q7 => ?_)
        · skip
          exact g_return dX5_readTerm_68 rfl (hPo _ ⟨hMh4, (Fr.tr (Fr.sub hFh1 rfl) hFh4 rfl)⟩)
        · skip
          refine g_aload_n dX5_readTerm_22 rfl ?_
          refine g_cVP (as := []) (c_X5_sign_65  h4 hMh4) dX5_readTerm_23 mi_X5_sign in_X5_sign se_X5_sign ml_X5_56 rfl rfl rfl sh_65 rfl rfl (Nat.le_of_ble_eq_true rfl) (fun v8 q9 => ?_)
          obtain ⟨bv8, cv8, zv8⟩ := q9
          refine g_cSP (av := [_]) (c_X5_isTermSign _ h4 hMh4 (by omega) (by omega)) dX5_readTerm_26 mi_X5_isTermSign st_X5_isTermSign ml_X5_111 rfl rfl rfl rfl (Nat.le_of_ble_eq_true rfl) (fun v10 q11 => ?_)
          obtain ⟨bv10, cv10⟩ := q11
          refine g_if_eq 68 dX5_readTerm_29 (by decide) (fun q12 => ?_) (fun q12 => ?_)
          · skip
            exact g_return dX5_readTerm_68 rfl (hPo _ ⟨hMh4, (Fr.tr (Fr.sub hFh1 rfl) hFh4 rfl)⟩)
          · skip
            refine g_aload_n dX5_readTerm_32 rfl ?_
            refine g_cVP (as := []) (c_X5_sign_65  h4 hMh4) dX5_readTerm_33 mi_X5_sign in_X5_sign se_X5_sign ml_X5_56 rfl rfl rfl sh_65 rfl rfl (Nat.le_of_ble_eq_true rfl) (fun v13 q14 => ?_)
            obtain ⟨bv13, cv13, zv13⟩ := q14
            have tv13 : v13 = v8 := by rw [zv13, zv8]
            refine g_istore dX5_readTerm_36 (by decide) rfl ?_
            refine g_aload_n dX5_readTerm_38 rfl ?_
            refine g_dup dX5_readTerm_39 rfl ?_
            refine gI_X5_19 rfl dX5_readTerm_40 sh_65 (m_65_2 hMh4) (fun v15 ev15 bv15 cv15 => ?_)
            refine g_iconst dX5_readTerm_43 (inR_c rfl) ?_
            refine g_iaddF dX5_readTerm_44 (fun v16 bv16 cv16 => ?_)
            refine pI_X5_19 rfl dX5_readTerm_45 sh_65 (fun h17 eh17 => ?_)
            have hFh17 := Fr.st eh17
            have hMh17 := u_65_2 hMh4 eh17 (by omega) (by omega)
            refine g_aload_n dX5_readTerm_48 rfl ?_
            refine g_aload_n dX5_readTerm_49 rfl ?_
            refine g_iload_n dX5_readTerm_50 rfl (fun _ => ?_)
            refine g_cVV (as := [_, _]) (c_X5_readFactor_65_90_k5  h17 hMh17) dX5_readTerm_51 mi_X5_readFactor in_X5_readFactor se_X5_readFactor ml_X5_108 rfl rfl rfl sh_65 rfl rfl (Nat.le_of_ble_eq_true rfl) (fun h18 q19 => ?_)
            obtain ⟨hMh18, hFh18⟩ := q19
            refine g_aload_n dX5_readTerm_54 rfl ?_
            refine g_iload dX5_readTerm_55 rfl (fun _ => ?_)
            refine g_iconst dX5_readTerm_57 (inR_c rfl) ?_
            refine g_cV (as := [_, _]) (c_X2_addStep_90 _ _ h18 hMh18 (by omega) (by omega) (by omega) (by omega)) dX5_readTerm_58 mi_X2_addStep in_X2_addStep se_X2_addStep ml_X5_90 rfl rfl rfl sh_90 rfl rfl (Nat.le_of_ble_eq_true rfl) (fun v20 h21 q22 => ?_)
            obtain ⟨hMh21, hFh21, bv20, cv20⟩ := q22
            refine g_pop dX5_readTerm_61 rfl ?_
            refine g_iincB dX5_readTerm_62 rfl rfl (by omega) (by omega) ?_
            refine g_goto 8 dX5_readTerm_65 (by decide) ?_
            refine g_drop 4 ?_
            exact ih8 _ _ hMh21 (Fr.tr (Fr.tr (Fr.tr (Fr.sub hFh4 rfl) hFh17 rfl) hFh18 rfl) hFh21 rfl) (by omega) (by omega) (by omega)
  refine g_istore_n dX5_readTerm_7 (by decide) rfl ?_
  exact c8 201 _ _ hMh1 Fr.rf (by omega) (by omega) (by omega)
set_option maxRecDepth 100000 in
set_option maxHeartbeats 4000000 in
theorem c_X5_readSum_65_90_k5 (h : MEM) (hM : MBx h) : CV yX5_readSum cX5_readSum 5 (none) 11 [pR 65, pR 90, pI 5] h (fun h' => MBx h' ∧ Fr [(65, 3), (65, 4), (65, 5), (90, 2), (95, 0), (96, 0)] h h') := by
  refine CV.of (L0 := [some (pR 65), some (pR 90), some (pI 5), none, none]) rfl (Nat.le_of_ble_eq_true rfl) rfl (fun Po hPo hav => ?_)
  refine g_aload_n dX5_readSum_0 rfl ?_
  refine g_aload_n dX5_readSum_1 rfl ?_
  refine g_iload_n dX5_readSum_2 rfl (fun _ => ?_)
  refine g_cVV (as := [_, _]) (c_X5_readTerm_65_90_k5  h hM) dX5_readSum_3 mi_X5_readTerm in_X5_readTerm se_X5_readTerm ml_X5_105 rfl rfl rfl sh_65 rfl rfl (Nat.le_of_ble_eq_true rfl) (fun h1 q2 => ?_)
  obtain ⟨hMh1, hFh1⟩ := q2
  refine g_iconst dX5_readSum_6 (inR_c rfl) ?_
  have c8 : ∀ (n : Nat) (y3 : Int) (h4 : MEM), MBx h4 → Fr [(65, 3), (65, 4), (65, 5), (90, 2), (95, 0), (96, 0)] h1 h4 → 0 ≤ y3 → y3 ≤ 200 → 200 - y3 < (n : Int) → G yX5_readSum cX5_readSum 5 (none) none Po (11, 660, 0, 0) 8 [some (pR 65), some (pR 90), some (pI 5), some (pI y3), none] [] SH h4 0 0 := by
    intro n
    induction n with
    | zero =>
      intro y3 h4 hMh4 hFh4 by3 dy3 hn
      exfalso; omega
    | succ n ih8 =>
      intro y3 h4 hMh4 hFh4 by3 dy3 hn
      refine g_iload_n dX5_readSum_8 rfl (fun _ => ?_)
      refine g_sipush dX5_readSum_9 (inR_c rfl) (by decide) ?_
      refine g_icmp_ge 76 dX5_readSum_12 (by decide) (fun q5 => ?_) (fun q5 => ?_)
      · skip
        exact g_return dX5_readSum_76 rfl (hPo _ ⟨hMh4, (Fr.tr (Fr.sub hFh1 rfl) hFh4 rfl)⟩)
      · skip
        refine g_aload_n dX5_readSum_15 rfl ?_
        refine gI_X5_22 rfl dX5_readSum_16 sh_65 (m_65_3 hMh4) (fun v6 ev6 bv6 cv6 => ?_)
        refine g_if_ne 76 dX5_readSum_19 (by decide) (fun q7 => ?_) (fun q7 => ?_)
        · skip
          exact g_return dX5_readSum_76 rfl (hPo _ ⟨hMh4, (Fr.tr (Fr.sub hFh1 rfl) hFh4 rfl)⟩)
        · skip
          refine g_aload_n dX5_readSum_22 rfl ?_
          refine g_cVP (as := []) (c_X5_sign_65  h4 hMh4) dX5_readSum_23 mi_X5_sign in_X5_sign se_X5_sign ml_X5_56 rfl rfl rfl sh_65 rfl rfl (Nat.le_of_ble_eq_true rfl) (fun v8 q9 => ?_)
          obtain ⟨bv8, cv8, zv8⟩ := q9
          refine g_bipush dX5_readSum_26 (inR_c rfl) (by decide) ?_
          have c40 : G yX5_readSum cX5_readSum 5 (none) none Po (11, 660, 0, 0) 40 [some (pR 65), some (pR 90), some (pI 5), some (pI y3), none] [] SH h4 0 0 := by
            refine g_aload_n dX5_readSum_40 rfl ?_
            refine g_cVP (as := []) (c_X5_sign_65  h4 hMh4) dX5_readSum_41 mi_X5_sign in_X5_sign se_X5_sign ml_X5_56 rfl rfl rfl sh_65 rfl rfl (Nat.le_of_ble_eq_true rfl) (fun v10 q11 => ?_)
            obtain ⟨bv10, cv10, zv10⟩ := q11
            have tv10 : v10 = v8 := by rw [zv10, zv8]
            refine g_istore dX5_readSum_44 (by decide) rfl ?_
            refine g_aload_n dX5_readSum_46 rfl ?_
            refine g_dup dX5_readSum_47 rfl ?_
            refine gI_X5_19 rfl dX5_readSum_48 sh_65 (m_65_2 hMh4) (fun v12 ev12 bv12 cv12 => ?_)
            refine g_iconst dX5_readSum_51 (inR_c rfl) ?_
            refine g_iaddF dX5_readSum_52 (fun v13 bv13 cv13 => ?_)
            refine pI_X5_19 rfl dX5_readSum_53 sh_65 (fun h14 eh14 => ?_)
            have hFh14 := Fr.st eh14
            have hMh14 := u_65_2 hMh4 eh14 (by omega) (by omega)
            refine g_aload_n dX5_readSum_56 rfl ?_
            refine g_aload_n dX5_readSum_57 rfl ?_
            refine g_iload_n dX5_readSum_58 rfl (fun _ => ?_)
            refine g_cVV (as := [_, _]) (c_X5_readTerm_65_90_k5  h14 hMh14) dX5_readSum_59 mi_X5_readTerm in_X5_readTerm se_X5_readTerm ml_X5_105 rfl rfl rfl sh_65 rfl rfl (Nat.le_of_ble_eq_true rfl) (fun h15 q16 => ?_)
            obtain ⟨hMh15, hFh15⟩ := q16
            refine g_aload_n dX5_readSum_62 rfl ?_
            refine g_iload dX5_readSum_63 rfl (fun _ => ?_)
            refine g_iconst dX5_readSum_65 (inR_c rfl) ?_
            refine g_cV (as := [_, _]) (c_X2_addStep_90 _ _ h15 hMh15 (by omega) (by omega) (by omega) (by omega)) dX5_readSum_66 mi_X2_addStep in_X2_addStep se_X2_addStep ml_X5_90 rfl rfl rfl sh_90 rfl rfl (Nat.le_of_ble_eq_true rfl) (fun v17 h18 q19 => ?_)
            obtain ⟨hMh18, hFh18, bv17, cv17⟩ := q19
            refine g_pop dX5_readSum_69 rfl ?_
            refine g_iincB dX5_readSum_70 rfl rfl (by omega) (by omega) ?_
            refine g_goto 8 dX5_readSum_73 (by decide) ?_
            refine g_drop 4 ?_
            exact ih8 _ _ hMh18 (Fr.tr (Fr.tr (Fr.tr (Fr.sub hFh4 rfl) hFh14 rfl) hFh15 rfl) hFh18 rfl) (by omega) (by omega) (by omega)
          refine g_icmp_eq 40 dX5_readSum_28 (by decide) (fun q20 => ?_) (fun q20 => ?_)
          · skip
            exact c40 
          · skip
            refine g_aload_n dX5_readSum_31 rfl ?_
            refine g_cVP (as := []) (c_X5_sign_65  h4 hMh4) dX5_readSum_32 mi_X5_sign in_X5_sign se_X5_sign ml_X5_56 rfl rfl rfl sh_65 rfl rfl (Nat.le_of_ble_eq_true rfl) (fun v21 q22 => ?_)
            obtain ⟨bv21, cv21, zv21⟩ := q22
            have tv21 : v21 = v8 := by rw [zv21, zv8]
            refine g_bipush dX5_readSum_35 (inR_c rfl) (by decide) ?_
            refine g_icmp_ne 76 dX5_readSum_37 (by decide) (fun q23 => ?_) (fun q23 => ?_)
            · skip
              exact g_return dX5_readSum_76 rfl (hPo _ ⟨hMh4, (Fr.tr (Fr.sub hFh1 rfl) hFh4 rfl)⟩)
            · skip
              exact c40 
  refine g_istore_n dX5_readSum_7 (by decide) rfl ?_
  exact c8 201 _ _ hMh1 Fr.rf (by omega) (by omega) (by omega)
set_option maxRecDepth 100000 in
set_option maxHeartbeats 4000000 in
theorem c_X5_readFactor_65_90_k4 (h : MEM) (hM : MBx h) : CV yX5_readFactor cX5_readFactor 5 (none) 12 [pR 65, pR 90, pI 4] h (fun h' => MBx h' ∧ Fr [(65, 3), (65, 4), (65, 5), (90, 2), (95, 0), (96, 0)] h h') := by
  refine CV.of (L0 := [some (pR 65), some (pR 90), some (pI 4), none, none]) rfl (Nat.le_of_ble_eq_true rfl) rfl (fun Po hPo hav => ?_)
  refine g_aload_n dX5_readFactor_0 rfl ?_
  refine g_cVP (as := []) (c_X5_sign_65  h hM) dX5_readFactor_1 mi_X5_sign in_X5_sign se_X5_sign ml_X5_56 rfl rfl rfl sh_65 rfl rfl (Nat.le_of_ble_eq_true rfl) (fun v1 q2 => ?_)
  obtain ⟨bv1, cv1, zv1⟩ := q2
  refine g_istore_n dX5_readFactor_4 (by decide) rfl ?_
  refine g_sidx_n1 rfl rfl dX5_readFactor_5 dX5_readFactor_7 dX5_readFactor_8 ml_X5_66 rfl (Nat.le_of_ble_eq_true rfl) (fun v3 bv3 cv3 => ?_)
  refine g_istore dX5_readFactor_11 (by decide) rfl ?_
  refine g_iload_n dX5_readFactor_13 rfl (fun _ => ?_)
  refine g_bipush dX5_readFactor_14 (inR_c rfl) (by decide) ?_
  refine g_icmp_ne 30 dX5_readFactor_16 (by decide) (fun q4 => ?_) (fun q4 => ?_)
  · skip
    refine g_aload_n dX5_readFactor_30 rfl ?_
    refine gI_X5_22 rfl dX5_readFactor_31 sh_65 (m_65_3 hM) (fun v5 ev5 bv5 cv5 => ?_)
    refine g_if_eq 38 dX5_readFactor_34 (by decide) (fun q6 => ?_) (fun q6 => ?_)
    · skip
      refine g_iload_n dX5_readFactor_38 rfl (fun _ => ?_)
      refine g_bipush dX5_readFactor_39 (inR_c rfl) (by decide) ?_
      refine g_icmp_ne 71 dX5_readFactor_41 (by decide) (fun q7 => ?_) (fun _ => by exfalso; omega)
      refine g_iload_n dX5_readFactor_71 rfl (fun _ => ?_)
      refine g_cSP (av := [_]) (c_X5_isDigit _ h hM (by omega) (by omega)) dX5_readFactor_72 mi_X5_isDigit st_X5_isDigit ml_X5_117 rfl rfl rfl rfl (Nat.le_of_ble_eq_true rfl) (fun v8 q9 => ?_)
      obtain ⟨bv8, cv8⟩ := q9
      refine g_if_eq 86 dX5_readFactor_75 (by decide) (fun q10 => ?_) (fun q10 => ?_)
      · skip
        refine g_iload dX5_readFactor_86 rfl (fun _ => ?_)
        refine g_if_lt 112 dX5_readFactor_88 (by decide) (fun q11 => ?_) (fun q11 => ?_)
        · skip
          refine g_aload_n dX5_readFactor_112 rfl ?_
          refine g_iconst dX5_readFactor_113 (inR_c rfl) ?_
          refine g_cVV (as := [_]) (c_X5_fail_65 _ h hM (by omega) (by omega)) dX5_readFactor_114 mi_X5_fail in_X5_fail se_X5_fail ml_X5_60 rfl rfl rfl sh_65 rfl rfl (Nat.le_of_ble_eq_true rfl) (fun h12 q13 => ?_)
          obtain ⟨hMh12, hFh12, az14, bz14⟩ := q13
          obtain ⟨v15, ev15⟩ : ∃ z, z = h12 65 3 := ⟨_, rfl⟩
          have bv15 : 1 ≤ v15 ∧ v15 ≤ 5 := by rw [ev15]; exact ⟨az14, bz14⟩
          exact g_return dX5_readFactor_117 rfl (hPo _ ⟨hMh12, (Fr.sub hFh12 rfl)⟩)
        · skip
          refine g_aload_n dX5_readFactor_91 rfl ?_
          refine g_dup dX5_readFactor_92 rfl ?_
          refine gI_X5_19 rfl dX5_readFactor_93 sh_65 (m_65_2 hM) (fun v16 ev16 bv16 cv16 => ?_)
          refine g_iconst dX5_readFactor_96 (inR_c rfl) ?_
          refine g_iaddF dX5_readFactor_97 (fun v17 bv17 cv17 => ?_)
          refine pI_X5_19 rfl dX5_readFactor_98 sh_65 (fun h18 eh18 => ?_)
          have hFh18 := Fr.st eh18
          have hMh18 := u_65_2 hM eh18 (by omega) (by omega)
          refine g_aload_n dX5_readFactor_101 rfl ?_
          refine g_iconst dX5_readFactor_102 (inR_c rfl) ?_
          refine g_iload dX5_readFactor_103 rfl (fun _ => ?_)
          refine g_cV (as := [_, _]) (c_X2_addStep_90 _ _ h18 hMh18 (by omega) (by omega) (by omega) (by omega)) dX5_readFactor_105 mi_X2_addStep in_X2_addStep se_X2_addStep ml_X5_90 rfl rfl rfl sh_90 rfl rfl (Nat.le_of_ble_eq_true rfl) (fun v19 h20 q21 => ?_)
          obtain ⟨hMh20, hFh20, bv19, cv19⟩ := q21
          refine g_pop dX5_readFactor_108 rfl ?_
          refine g_goto 117 dX5_readFactor_109 (by decide) ?_
          exact g_return dX5_readFactor_117 rfl (hPo _ ⟨hMh20, (Fr.tr (Fr.sub hFh18 rfl) hFh20 rfl)⟩)
      · skip
        refine g_aload_n dX5_readFactor_78 rfl ?_
        refine g_aload_n dX5_readFactor_79 rfl ?_
        refine g_cVV (as := [_]) (c_X5_readNumber_65_90  h hM) dX5_readFactor_80 mi_X5_readNumber in_X5_readNumber se_X5_readNumber ml_X5_120 rfl rfl rfl sh_65 rfl rfl (Nat.le_of_ble_eq_true rfl) (fun h22 q23 => ?_)
        obtain ⟨hMh22, hFh22⟩ := q23
        refine g_goto 117 dX5_readFactor_83 (by decide) ?_
        exact g_return dX5_readFactor_117 rfl (hPo _ ⟨hMh22, (Fr.sub hFh22 rfl)⟩)
    · skip
      exact g_return dX5_readFactor_37 rfl (hPo _ ⟨hM, Fr.rf⟩)
  · skip
    refine g_iload_n dX5_readFactor_19 rfl (fun _ => ?_)
    refine g_bipush dX5_readFactor_20 (inR_c rfl) (by decide) ?_
    refine g_icmp_lt 30 dX5_readFactor_22 (by decide) (fun q24 => ?_) (fun _ => by exfalso; omega)
    refine g_aload_n dX5_readFactor_30 rfl ?_
    refine gI_X5_22 rfl dX5_readFactor_31 sh_65 (m_65_3 hM) (fun v25 ev25 bv25 cv25 => ?_)
    refine g_if_eq 38 dX5_readFactor_34 (by decide) (fun q26 => ?_) (fun q26 => ?_)
    · skip
      refine g_iload_n dX5_readFactor_38 rfl (fun _ => ?_)
      refine g_bipush dX5_readFactor_39 (inR_c rfl) (by decide) ?_
      refine g_icmp_ne 71 dX5_readFactor_41 (by decide) (fun _ => by exfalso; omega) (fun q27 => ?_)
      refine g_aload_n dX5_readFactor_44 rfl ?_
      refine g_dup dX5_readFactor_45 rfl ?_
      refine gI_X5_19 rfl dX5_readFactor_46 sh_65 (m_65_2 hM) (fun v28 ev28 bv28 cv28 => ?_)
      refine g_iconst dX5_readFactor_49 (inR_c rfl) ?_
      refine g_iaddF dX5_readFactor_50 (fun v29 bv29 cv29 => ?_)
      refine pI_X5_19 rfl dX5_readFactor_51 sh_65 (fun h30 eh30 => ?_)
      have hFh30 := Fr.st eh30
      have hMh30 := u_65_2 hM eh30 (by omega) (by omega)
      refine g_aload_n dX5_readFactor_54 rfl ?_
      refine g_aload_n dX5_readFactor_55 rfl ?_
      refine g_iload_n dX5_readFactor_56 rfl (fun _ => ?_)
      refine g_iconst dX5_readFactor_57 (inR_c rfl) ?_
      refine g_iaddB dX5_readFactor_58 (by omega) (by omega) ?_
      refine g_cVV (as := [_, _]) (c_X5_readSum_65_90_k5  h30 hMh30) dX5_readFactor_59 mi_X5_readSum in_X5_readSum se_X5_readSum ml_X5_74 rfl rfl rfl sh_65 rfl rfl (Nat.le_of_ble_eq_true rfl) (fun h31 q32 => ?_)
      obtain ⟨hMh31, hFh31⟩ := q32
      refine g_aload_n dX5_readFactor_62 rfl ?_
      refine g_bipush dX5_readFactor_63 (inR_c rfl) (by decide) ?_
      refine g_cVV (as := [_]) (c_X5_expect_65 _ h31 hMh31 (by omega) (by omega)) dX5_readFactor_65 mi_X5_expect in_X5_expect se_X5_expect ml_X5_52 rfl rfl rfl sh_65 rfl rfl (Nat.le_of_ble_eq_true rfl) (fun h33 q34 => ?_)
      obtain ⟨hMh33, hFh33⟩ := q34
      refine g_goto 117 dX5_readFactor_68 (by decide) ?_
      exact g_return dX5_readFactor_117 rfl (hPo _ ⟨hMh33, (Fr.tr (Fr.tr (Fr.sub hFh30 rfl) hFh31 rfl) hFh33 rfl)⟩)
    · skip
      exact g_return dX5_readFactor_37 rfl (hPo _ ⟨hM, Fr.rf⟩)
set_option maxRecDepth 100000 in
set_option maxHeartbeats 4000000 in
theorem c_X5_readTerm_65_90_k4 (h : MEM) (hM : MBx h) : CV yX5_readTerm cX5_readTerm 5 (none) 13 [pR 65, pR 90, pI 4] h (fun h' => MBx h' ∧ Fr [(65, 3), (65, 4), (65, 5), (90, 2), (95, 0), (96, 0)] h h') := by
  refine CV.of (L0 := [some (pR 65), some (pR 90), some (pI 4), none, none]) rfl (Nat.le_of_ble_eq_true rfl) rfl (fun Po hPo hav => ?_)
  refine g_aload_n dX5_readTerm_0 rfl ?_
  refine g_aload_n dX5_readTerm_1 rfl ?_
  refine g_iload_n dX5_readTerm_2 rfl (fun _ => ?_)
  refine g_cVV (as := [_, _]) (c_X5_readFactor_65_90_k4  h hM) dX5_readTerm_3 mi_X5_readFactor in_X5_readFactor se_X5_readFactor ml_X5_108 rfl rfl rfl sh_65 rfl rfl (Nat.le_of_ble_eq_true rfl) (fun h1 q2 => ?_)
  obtain ⟨hMh1, hFh1⟩ := q2
  refine g_iconst dX5_readTerm_6 (inR_c rfl) ?_
  have c8 : ∀ (n : Nat) (y3 : Int) (h4 : MEM), MBx h4 → Fr [(65, 3), (65, 4), (65, 5), (90, 2), (95, 0), (96, 0)] h1 h4 → 0 ≤ y3 → y3 ≤ 200 → 200 - y3 < (n : Int) → G yX5_readTerm cX5_readTerm 5 (none) none Po (13, 780, 0, 0) 8 [some (pR 65), some (pR 90), some (pI 4), some (pI y3), none] [] SH h4 0 0 := by
    intro n
    induction n with
    | zero =>
      intro y3 h4 hMh4 hFh4 by3 dy3 hn
      exfalso; omega
    | succ n ih8 =>
      intro y3 h4 hMh4 hFh4 by3 dy3 hn
      refine g_iload_n dX5_readTerm_8 rfl (fun _ => ?_)
      refine g_sipush dX5_readTerm_9 (inR_c rfl) (by decide) ?_
      refine g_icmp_ge 68 dX5_readTerm_12 (by decide) (fun q5 => ?_) (fun q5 => ?_)
      · skip
        exact g_return dX5_readTerm_68 rfl (hPo _ ⟨hMh4, (Fr.tr (Fr.sub hFh1 rfl) hFh4 rfl)⟩)
      · skip
        refine g_aload_n dX5_readTerm_15 rfl ?_
        refine gI_X5_22 rfl dX5_readTerm_16 sh_65 (m_65_3 hMh4) (fun v6 ev6 bv6 cv6 => ?_)
        refine g_if_ne 68 dX5_readTerm_19 (by decide) (fun q7 => ?_) (fun q7 => ?_)
        · skip
          exact g_return dX5_readTerm_68 rfl (hPo _ ⟨hMh4, (Fr.tr (Fr.sub hFh1 rfl) hFh4 rfl)⟩)
        · skip
          refine g_aload_n dX5_readTerm_22 rfl ?_
          refine g_cVP (as := []) (c_X5_sign_65  h4 hMh4) dX5_readTerm_23 mi_X5_sign in_X5_sign se_X5_sign ml_X5_56 rfl rfl rfl sh_65 rfl rfl (Nat.le_of_ble_eq_true rfl) (fun v8 q9 => ?_)
          obtain ⟨bv8, cv8, zv8⟩ := q9
          refine g_cSP (av := [_]) (c_X5_isTermSign _ h4 hMh4 (by omega) (by omega)) dX5_readTerm_26 mi_X5_isTermSign st_X5_isTermSign ml_X5_111 rfl rfl rfl rfl (Nat.le_of_ble_eq_true rfl) (fun v10 q11 => ?_)
          obtain ⟨bv10, cv10⟩ := q11
          refine g_if_eq 68 dX5_readTerm_29 (by decide) (fun q12 => ?_) (fun q12 => ?_)
          · skip
            exact g_return dX5_readTerm_68 rfl (hPo _ ⟨hMh4, (Fr.tr (Fr.sub hFh1 rfl) hFh4 rfl)⟩)
          · skip
            refine g_aload_n dX5_readTerm_32 rfl ?_
            refine g_cVP (as := []) (c_X5_sign_65  h4 hMh4) dX5_readTerm_33 mi_X5_sign in_X5_sign se_X5_sign ml_X5_56 rfl rfl rfl sh_65 rfl rfl (Nat.le_of_ble_eq_true rfl) (fun v13 q14 => ?_)
            obtain ⟨bv13, cv13, zv13⟩ := q14
            have tv13 : v13 = v8 := by rw [zv13, zv8]
            refine g_istore dX5_readTerm_36 (by decide) rfl ?_
            refine g_aload_n dX5_readTerm_38 rfl ?_
            refine g_dup dX5_readTerm_39 rfl ?_
            refine gI_X5_19 rfl dX5_readTerm_40 sh_65 (m_65_2 hMh4) (fun v15 ev15 bv15 cv15 => ?_)
            refine g_iconst dX5_readTerm_43 (inR_c rfl) ?_
            refine g_iaddF dX5_readTerm_44 (fun v16 bv16 cv16 => ?_)
            refine pI_X5_19 rfl dX5_readTerm_45 sh_65 (fun h17 eh17 => ?_)
            have hFh17 := Fr.st eh17
            have hMh17 := u_65_2 hMh4 eh17 (by omega) (by omega)
            refine g_aload_n dX5_readTerm_48 rfl ?_
            refine g_aload_n dX5_readTerm_49 rfl ?_
            refine g_iload_n dX5_readTerm_50 rfl (fun _ => ?_)
            refine g_cVV (as := [_, _]) (c_X5_readFactor_65_90_k4  h17 hMh17) dX5_readTerm_51 mi_X5_readFactor in_X5_readFactor se_X5_readFactor ml_X5_108 rfl rfl rfl sh_65 rfl rfl (Nat.le_of_ble_eq_true rfl) (fun h18 q19 => ?_)
            obtain ⟨hMh18, hFh18⟩ := q19
            refine g_aload_n dX5_readTerm_54 rfl ?_
            refine g_iload dX5_readTerm_55 rfl (fun _ => ?_)
            refine g_iconst dX5_readTerm_57 (inR_c rfl) ?_
            refine g_cV (as := [_, _]) (c_X2_addStep_90 _ _ h18 hMh18 (by omega) (by omega) (by omega) (by omega)) dX5_readTerm_58 mi_X2_addStep in_X2_addStep se_X2_addStep ml_X5_90 rfl rfl rfl sh_90 rfl rfl (Nat.le_of_ble_eq_true rfl) (fun v20 h21 q22 => ?_)
            obtain ⟨hMh21, hFh21, bv20, cv20⟩ := q22
            refine g_pop dX5_readTerm_61 rfl ?_
            refine g_iincB dX5_readTerm_62 rfl rfl (by omega) (by omega) ?_
            refine g_goto 8 dX5_readTerm_65 (by decide) ?_
            refine g_drop 4 ?_
            exact ih8 _ _ hMh21 (Fr.tr (Fr.tr (Fr.tr (Fr.sub hFh4 rfl) hFh17 rfl) hFh18 rfl) hFh21 rfl) (by omega) (by omega) (by omega)
  refine g_istore_n dX5_readTerm_7 (by decide) rfl ?_
  exact c8 201 _ _ hMh1 Fr.rf (by omega) (by omega) (by omega)
set_option maxRecDepth 100000 in
set_option maxHeartbeats 4000000 in
theorem c_X5_readSum_65_90_k4 (h : MEM) (hM : MBx h) : CV yX5_readSum cX5_readSum 5 (none) 14 [pR 65, pR 90, pI 4] h (fun h' => MBx h' ∧ Fr [(65, 3), (65, 4), (65, 5), (90, 2), (95, 0), (96, 0)] h h') := by
  refine CV.of (L0 := [some (pR 65), some (pR 90), some (pI 4), none, none]) rfl (Nat.le_of_ble_eq_true rfl) rfl (fun Po hPo hav => ?_)
  refine g_aload_n dX5_readSum_0 rfl ?_
  refine g_aload_n dX5_readSum_1 rfl ?_
  refine g_iload_n dX5_readSum_2 rfl (fun _ => ?_)
  refine g_cVV (as := [_, _]) (c_X5_readTerm_65_90_k4  h hM) dX5_readSum_3 mi_X5_readTerm in_X5_readTerm se_X5_readTerm ml_X5_105 rfl rfl rfl sh_65 rfl rfl (Nat.le_of_ble_eq_true rfl) (fun h1 q2 => ?_)
  obtain ⟨hMh1, hFh1⟩ := q2
  refine g_iconst dX5_readSum_6 (inR_c rfl) ?_
  have c8 : ∀ (n : Nat) (y3 : Int) (h4 : MEM), MBx h4 → Fr [(65, 3), (65, 4), (65, 5), (90, 2), (95, 0), (96, 0)] h1 h4 → 0 ≤ y3 → y3 ≤ 200 → 200 - y3 < (n : Int) → G yX5_readSum cX5_readSum 5 (none) none Po (14, 840, 0, 0) 8 [some (pR 65), some (pR 90), some (pI 4), some (pI y3), none] [] SH h4 0 0 := by
    intro n
    induction n with
    | zero =>
      intro y3 h4 hMh4 hFh4 by3 dy3 hn
      exfalso; omega
    | succ n ih8 =>
      intro y3 h4 hMh4 hFh4 by3 dy3 hn
      refine g_iload_n dX5_readSum_8 rfl (fun _ => ?_)
      refine g_sipush dX5_readSum_9 (inR_c rfl) (by decide) ?_
      refine g_icmp_ge 76 dX5_readSum_12 (by decide) (fun q5 => ?_) (fun q5 => ?_)
      · skip
        exact g_return dX5_readSum_76 rfl (hPo _ ⟨hMh4, (Fr.tr (Fr.sub hFh1 rfl) hFh4 rfl)⟩)
      · skip
        refine g_aload_n dX5_readSum_15 rfl ?_
        refine gI_X5_22 rfl dX5_readSum_16 sh_65 (m_65_3 hMh4) (fun v6 ev6 bv6 cv6 => ?_)
        refine g_if_ne 76 dX5_readSum_19 (by decide) (fun q7 => ?_) (fun q7 => ?_)
        · skip
          exact g_return dX5_readSum_76 rfl (hPo _ ⟨hMh4, (Fr.tr (Fr.sub hFh1 rfl) hFh4 rfl)⟩)
        · skip
          refine g_aload_n dX5_readSum_22 rfl ?_
          refine g_cVP (as := []) (c_X5_sign_65  h4 hMh4) dX5_readSum_23 mi_X5_sign in_X5_sign se_X5_sign ml_X5_56 rfl rfl rfl sh_65 rfl rfl (Nat.le_of_ble_eq_true rfl) (fun v8 q9 => ?_)
          obtain ⟨bv8, cv8, zv8⟩ := q9
          refine g_bipush dX5_readSum_26 (inR_c rfl) (by decide) ?_
          have c40 : G yX5_readSum cX5_readSum 5 (none) none Po (14, 840, 0, 0) 40 [some (pR 65), some (pR 90), some (pI 4), some (pI y3), none] [] SH h4 0 0 := by
            refine g_aload_n dX5_readSum_40 rfl ?_
            refine g_cVP (as := []) (c_X5_sign_65  h4 hMh4) dX5_readSum_41 mi_X5_sign in_X5_sign se_X5_sign ml_X5_56 rfl rfl rfl sh_65 rfl rfl (Nat.le_of_ble_eq_true rfl) (fun v10 q11 => ?_)
            obtain ⟨bv10, cv10, zv10⟩ := q11
            have tv10 : v10 = v8 := by rw [zv10, zv8]
            refine g_istore dX5_readSum_44 (by decide) rfl ?_
            refine g_aload_n dX5_readSum_46 rfl ?_
            refine g_dup dX5_readSum_47 rfl ?_
            refine gI_X5_19 rfl dX5_readSum_48 sh_65 (m_65_2 hMh4) (fun v12 ev12 bv12 cv12 => ?_)
            refine g_iconst dX5_readSum_51 (inR_c rfl) ?_
            refine g_iaddF dX5_readSum_52 (fun v13 bv13 cv13 => ?_)
            refine pI_X5_19 rfl dX5_readSum_53 sh_65 (fun h14 eh14 => ?_)
            have hFh14 := Fr.st eh14
            have hMh14 := u_65_2 hMh4 eh14 (by omega) (by omega)
            refine g_aload_n dX5_readSum_56 rfl ?_
            refine g_aload_n dX5_readSum_57 rfl ?_
            refine g_iload_n dX5_readSum_58 rfl (fun _ => ?_)
            refine g_cVV (as := [_, _]) (c_X5_readTerm_65_90_k4  h14 hMh14) dX5_readSum_59 mi_X5_readTerm in_X5_readTerm se_X5_readTerm ml_X5_105 rfl rfl rfl sh_65 rfl rfl (Nat.le_of_ble_eq_true rfl) (fun h15 q16 => ?_)
            obtain ⟨hMh15, hFh15⟩ := q16
            refine g_aload_n dX5_readSum_62 rfl ?_
            refine g_iload dX5_readSum_63 rfl (fun _ => ?_)
            refine g_iconst dX5_readSum_65 (inR_c rfl) ?_
            refine g_cV (as := [_, _]) (c_X2_addStep_90 _ _ h15 hMh15 (by omega) (by omega) (by omega) (by omega)) dX5_readSum_66 mi_X2_addStep in_X2_addStep se_X2_addStep ml_X5_90 rfl rfl rfl sh_90 rfl rfl (Nat.le_of_ble_eq_true rfl) (fun v17 h18 q19 => ?_)
            obtain ⟨hMh18, hFh18, bv17, cv17⟩ := q19
            refine g_pop dX5_readSum_69 rfl ?_
            refine g_iincB dX5_readSum_70 rfl rfl (by omega) (by omega) ?_
            refine g_goto 8 dX5_readSum_73 (by decide) ?_
            refine g_drop 4 ?_
            exact ih8 _ _ hMh18 (Fr.tr (Fr.tr (Fr.tr (Fr.sub hFh4 rfl) hFh14 rfl) hFh15 rfl) hFh18 rfl) (by omega) (by omega) (by omega)
          refine g_icmp_eq 40 dX5_readSum_28 (by decide) (fun q20 => ?_) (fun q20 => ?_)
          · skip
            exact c40 
          · skip
            refine g_aload_n dX5_readSum_31 rfl ?_
            refine g_cVP (as := []) (c_X5_sign_65  h4 hMh4) dX5_readSum_32 mi_X5_sign in_X5_sign se_X5_sign ml_X5_56 rfl rfl rfl sh_65 rfl rfl (Nat.le_of_ble_eq_true rfl) (fun v21 q22 => ?_)
            obtain ⟨bv21, cv21, zv21⟩ := q22
            have tv21 : v21 = v8 := by rw [zv21, zv8]
            refine g_bipush dX5_readSum_35 (inR_c rfl) (by decide) ?_
            refine g_icmp_ne 76 dX5_readSum_37 (by decide) (fun q23 => ?_) (fun q23 => ?_)
            · skip
              exact g_return dX5_readSum_76 rfl (hPo _ ⟨hMh4, (Fr.tr (Fr.sub hFh1 rfl) hFh4 rfl)⟩)
            · skip
              exact c40 
  refine g_istore_n dX5_readSum_7 (by decide) rfl ?_
  exact c8 201 _ _ hMh1 Fr.rf (by omega) (by omega) (by omega)
set_option maxRecDepth 100000 in
set_option maxHeartbeats 4000000 in
theorem c_X5_readFactor_65_90_k3 (h : MEM) (hM : MBx h) : CV yX5_readFactor cX5_readFactor 5 (none) 15 [pR 65, pR 90, pI 3] h (fun h' => MBx h' ∧ Fr [(65, 3), (65, 4), (65, 5), (90, 2), (95, 0), (96, 0)] h h') := by
  refine CV.of (L0 := [some (pR 65), some (pR 90), some (pI 3), none, none]) rfl (Nat.le_of_ble_eq_true rfl) rfl (fun Po hPo hav => ?_)
  refine g_aload_n dX5_readFactor_0 rfl ?_
  refine g_cVP (as := []) (c_X5_sign_65  h hM) dX5_readFactor_1 mi_X5_sign in_X5_sign se_X5_sign ml_X5_56 rfl rfl rfl sh_65 rfl rfl (Nat.le_of_ble_eq_true rfl) (fun v1 q2 => ?_)
  obtain ⟨bv1, cv1, zv1⟩ := q2
  refine g_istore_n dX5_readFactor_4 (by decide) rfl ?_
  refine g_sidx_n1 rfl rfl dX5_readFactor_5 dX5_readFactor_7 dX5_readFactor_8 ml_X5_66 rfl (Nat.le_of_ble_eq_true rfl) (fun v3 bv3 cv3 => ?_)
  refine g_istore dX5_readFactor_11 (by decide) rfl ?_
  refine g_iload_n dX5_readFactor_13 rfl (fun _ => ?_)
  refine g_bipush dX5_readFactor_14 (inR_c rfl) (by decide) ?_
  refine g_icmp_ne 30 dX5_readFactor_16 (by decide) (fun q4 => ?_) (fun q4 => ?_)
  · skip
    refine g_aload_n dX5_readFactor_30 rfl ?_
    refine gI_X5_22 rfl dX5_readFactor_31 sh_65 (m_65_3 hM) (fun v5 ev5 bv5 cv5 => ?_)
    refine g_if_eq 38 dX5_readFactor_34 (by decide) (fun q6 => ?_) (fun q6 => ?_)
    · skip
      refine g_iload_n dX5_readFactor_38 rfl (fun _ => ?_)
      refine g_bipush dX5_readFactor_39 (inR_c rfl) (by decide) ?_
      refine g_icmp_ne 71 dX5_readFactor_41 (by decide) (fun q7 => ?_) (fun _ => by exfalso; omega)
      refine g_iload_n dX5_readFactor_71 rfl (fun _ => ?_)
      refine g_cSP (av := [_]) (c_X5_isDigit _ h hM (by omega) (by omega)) dX5_readFactor_72 mi_X5_isDigit st_X5_isDigit ml_X5_117 rfl rfl rfl rfl (Nat.le_of_ble_eq_true rfl) (fun v8 q9 => ?_)
      obtain ⟨bv8, cv8⟩ := q9
      refine g_if_eq 86 dX5_readFactor_75 (by decide) (fun q10 => ?_) (fun q10 => ?_)
      · skip
        refine g_iload dX5_readFactor_86 rfl (fun _ => ?_)
        refine g_if_lt 112 dX5_readFactor_88 (by decide) (fun q11 => ?_) (fun q11 => ?_)
        · skip
          refine g_aload_n dX5_readFactor_112 rfl ?_
          refine g_iconst dX5_readFactor_113 (inR_c rfl) ?_
          refine g_cVV (as := [_]) (c_X5_fail_65 _ h hM (by omega) (by omega)) dX5_readFactor_114 mi_X5_fail in_X5_fail se_X5_fail ml_X5_60 rfl rfl rfl sh_65 rfl rfl (Nat.le_of_ble_eq_true rfl) (fun h12 q13 => ?_)
          obtain ⟨hMh12, hFh12, az14, bz14⟩ := q13
          obtain ⟨v15, ev15⟩ : ∃ z, z = h12 65 3 := ⟨_, rfl⟩
          have bv15 : 1 ≤ v15 ∧ v15 ≤ 5 := by rw [ev15]; exact ⟨az14, bz14⟩
          exact g_return dX5_readFactor_117 rfl (hPo _ ⟨hMh12, (Fr.sub hFh12 rfl)⟩)
        · skip
          refine g_aload_n dX5_readFactor_91 rfl ?_
          refine g_dup dX5_readFactor_92 rfl ?_
          refine gI_X5_19 rfl dX5_readFactor_93 sh_65 (m_65_2 hM) (fun v16 ev16 bv16 cv16 => ?_)
          refine g_iconst dX5_readFactor_96 (inR_c rfl) ?_
          refine g_iaddF dX5_readFactor_97 (fun v17 bv17 cv17 => ?_)
          refine pI_X5_19 rfl dX5_readFactor_98 sh_65 (fun h18 eh18 => ?_)
          have hFh18 := Fr.st eh18
          have hMh18 := u_65_2 hM eh18 (by omega) (by omega)
          refine g_aload_n dX5_readFactor_101 rfl ?_
          refine g_iconst dX5_readFactor_102 (inR_c rfl) ?_
          refine g_iload dX5_readFactor_103 rfl (fun _ => ?_)
          refine g_cV (as := [_, _]) (c_X2_addStep_90 _ _ h18 hMh18 (by omega) (by omega) (by omega) (by omega)) dX5_readFactor_105 mi_X2_addStep in_X2_addStep se_X2_addStep ml_X5_90 rfl rfl rfl sh_90 rfl rfl (Nat.le_of_ble_eq_true rfl) (fun v19 h20 q21 => ?_)
          obtain ⟨hMh20, hFh20, bv19, cv19⟩ := q21
          refine g_pop dX5_readFactor_108 rfl ?_
          refine g_goto 117 dX5_readFactor_109 (by decide) ?_
          exact g_return dX5_readFactor_117 rfl (hPo _ ⟨hMh20, (Fr.tr (Fr.sub hFh18 rfl) hFh20 rfl)⟩)
      · skip
        refine g_aload_n dX5_readFactor_78 rfl ?_
        refine g_aload_n dX5_readFactor_79 rfl ?_
        refine g_cVV (as := [_]) (c_X5_readNumber_65_90  h hM) dX5_readFactor_80 mi_X5_readNumber in_X5_readNumber se_X5_readNumber ml_X5_120 rfl rfl rfl sh_65 rfl rfl (Nat.le_of_ble_eq_true rfl) (fun h22 q23 => ?_)
        obtain ⟨hMh22, hFh22⟩ := q23
        refine g_goto 117 dX5_readFactor_83 (by decide) ?_
        exact g_return dX5_readFactor_117 rfl (hPo _ ⟨hMh22, (Fr.sub hFh22 rfl)⟩)
    · skip
      exact g_return dX5_readFactor_37 rfl (hPo _ ⟨hM, Fr.rf⟩)
  · skip
    refine g_iload_n dX5_readFactor_19 rfl (fun _ => ?_)
    refine g_bipush dX5_readFactor_20 (inR_c rfl) (by decide) ?_
    refine g_icmp_lt 30 dX5_readFactor_22 (by decide) (fun q24 => ?_) (fun _ => by exfalso; omega)
    refine g_aload_n dX5_readFactor_30 rfl ?_
    refine gI_X5_22 rfl dX5_readFactor_31 sh_65 (m_65_3 hM) (fun v25 ev25 bv25 cv25 => ?_)
    refine g_if_eq 38 dX5_readFactor_34 (by decide) (fun q26 => ?_) (fun q26 => ?_)
    · skip
      refine g_iload_n dX5_readFactor_38 rfl (fun _ => ?_)
      refine g_bipush dX5_readFactor_39 (inR_c rfl) (by decide) ?_
      refine g_icmp_ne 71 dX5_readFactor_41 (by decide) (fun _ => by exfalso; omega) (fun q27 => ?_)
      refine g_aload_n dX5_readFactor_44 rfl ?_
      refine g_dup dX5_readFactor_45 rfl ?_
      refine gI_X5_19 rfl dX5_readFactor_46 sh_65 (m_65_2 hM) (fun v28 ev28 bv28 cv28 => ?_)
      refine g_iconst dX5_readFactor_49 (inR_c rfl) ?_
      refine g_iaddF dX5_readFactor_50 (fun v29 bv29 cv29 => ?_)
      refine pI_X5_19 rfl dX5_readFactor_51 sh_65 (fun h30 eh30 => ?_)
      have hFh30 := Fr.st eh30
      have hMh30 := u_65_2 hM eh30 (by omega) (by omega)
      refine g_aload_n dX5_readFactor_54 rfl ?_
      refine g_aload_n dX5_readFactor_55 rfl ?_
      refine g_iload_n dX5_readFactor_56 rfl (fun _ => ?_)
      refine g_iconst dX5_readFactor_57 (inR_c rfl) ?_
      refine g_iaddB dX5_readFactor_58 (by omega) (by omega) ?_
      refine g_cVV (as := [_, _]) (c_X5_readSum_65_90_k4  h30 hMh30) dX5_readFactor_59 mi_X5_readSum in_X5_readSum se_X5_readSum ml_X5_74 rfl rfl rfl sh_65 rfl rfl (Nat.le_of_ble_eq_true rfl) (fun h31 q32 => ?_)
      obtain ⟨hMh31, hFh31⟩ := q32
      refine g_aload_n dX5_readFactor_62 rfl ?_
      refine g_bipush dX5_readFactor_63 (inR_c rfl) (by decide) ?_
      refine g_cVV (as := [_]) (c_X5_expect_65 _ h31 hMh31 (by omega) (by omega)) dX5_readFactor_65 mi_X5_expect in_X5_expect se_X5_expect ml_X5_52 rfl rfl rfl sh_65 rfl rfl (Nat.le_of_ble_eq_true rfl) (fun h33 q34 => ?_)
      obtain ⟨hMh33, hFh33⟩ := q34
      refine g_goto 117 dX5_readFactor_68 (by decide) ?_
      exact g_return dX5_readFactor_117 rfl (hPo _ ⟨hMh33, (Fr.tr (Fr.tr (Fr.sub hFh30 rfl) hFh31 rfl) hFh33 rfl)⟩)
    · skip
      exact g_return dX5_readFactor_37 rfl (hPo _ ⟨hM, Fr.rf⟩)
set_option maxRecDepth 100000 in
set_option maxHeartbeats 4000000 in
theorem c_X5_readTerm_65_90_k3 (h : MEM) (hM : MBx h) : CV yX5_readTerm cX5_readTerm 5 (none) 16 [pR 65, pR 90, pI 3] h (fun h' => MBx h' ∧ Fr [(65, 3), (65, 4), (65, 5), (90, 2), (95, 0), (96, 0)] h h') := by
  refine CV.of (L0 := [some (pR 65), some (pR 90), some (pI 3), none, none]) rfl (Nat.le_of_ble_eq_true rfl) rfl (fun Po hPo hav => ?_)
  refine g_aload_n dX5_readTerm_0 rfl ?_
  refine g_aload_n dX5_readTerm_1 rfl ?_
  refine g_iload_n dX5_readTerm_2 rfl (fun _ => ?_)
  refine g_cVV (as := [_, _]) (c_X5_readFactor_65_90_k3  h hM) dX5_readTerm_3 mi_X5_readFactor in_X5_readFactor se_X5_readFactor ml_X5_108 rfl rfl rfl sh_65 rfl rfl (Nat.le_of_ble_eq_true rfl) (fun h1 q2 => ?_)
  obtain ⟨hMh1, hFh1⟩ := q2
  refine g_iconst dX5_readTerm_6 (inR_c rfl) ?_
  have c8 : ∀ (n : Nat) (y3 : Int) (h4 : MEM), MBx h4 → Fr [(65, 3), (65, 4), (65, 5), (90, 2), (95, 0), (96, 0)] h1 h4 → 0 ≤ y3 → y3 ≤ 200 → 200 - y3 < (n : Int) → G yX5_readTerm cX5_readTerm 5 (none) none Po (16, 960, 0, 0) 8 [some (pR 65), some (pR 90), some (pI 3), some (pI y3), none] [] SH h4 0 0 := by
    intro n
    induction n with
    | zero =>
      intro y3 h4 hMh4 hFh4 by3 dy3 hn
      exfalso; omega
    | succ n ih8 =>
      intro y3 h4 hMh4 hFh4 by3 dy3 hn
      refine g_iload_n dX5_readTerm_8 rfl (fun _ => ?_)
      refine g_sipush dX5_readTerm_9 (inR_c rfl) (by decide) ?_
      refine g_icmp_ge 68 dX5_readTerm_12 (by decide) (fun q5 => ?_) (fun q5 => ?_)
      · skip
        exact g_return dX5_readTerm_68 rfl (hPo _ ⟨hMh4, (Fr.tr (Fr.sub hFh1 rfl) hFh4 rfl)⟩)
      · skip
        refine g_aload_n dX5_readTerm_15 rfl ?_
        refine gI_X5_22 rfl dX5_readTerm_16 sh_65 (m_65_3 hMh4) (fun v6 ev6 bv6 cv6 => ?_)
        refine g_if_ne 68 dX5_readTerm_19 (by decide) (fun q7 => ?_) (fun q7 => ?_)
        · skip
          exact g_return dX5_readTerm_68 rfl (hPo _ ⟨hMh4, (Fr.tr (Fr.sub hFh1 rfl) hFh4 rfl)⟩)
        · skip
          refine g_aload_n dX5_readTerm_22 rfl ?_
          refine g_cVP (as := []) (c_X5_sign_65  h4 hMh4) dX5_readTerm_23 mi_X5_sign in_X5_sign se_X5_sign ml_X5_56 rfl rfl rfl sh_65 rfl rfl (Nat.le_of_ble_eq_true rfl) (fun v8 q9 => ?_)
          obtain ⟨bv8, cv8, zv8⟩ := q9
          refine g_cSP (av := [_]) (c_X5_isTermSign _ h4 hMh4 (by omega) (by omega)) dX5_readTerm_26 mi_X5_isTermSign st_X5_isTermSign ml_X5_111 rfl rfl rfl rfl (Nat.le_of_ble_eq_true rfl) (fun v10 q11 => ?_)
          obtain ⟨bv10, cv10⟩ := q11
          refine g_if_eq 68 dX5_readTerm_29 (by decide) (fun q12 => ?_) (fun q12 => ?_)
          · skip
            exact g_return dX5_readTerm_68 rfl (hPo _ ⟨hMh4, (Fr.tr (Fr.sub hFh1 rfl) hFh4 rfl)⟩)
          · skip
            refine g_aload_n dX5_readTerm_32 rfl ?_
            refine g_cVP (as := []) (c_X5_sign_65  h4 hMh4) dX5_readTerm_33 mi_X5_sign in_X5_sign se_X5_sign ml_X5_56 rfl rfl rfl sh_65 rfl rfl (Nat.le_of_ble_eq_true rfl) (fun v13 q14 => ?_)
            obtain ⟨bv13, cv13, zv13⟩ := q14
            have tv13 : v13 = v8 := by rw [zv13, zv8]
            refine g_istore dX5_readTerm_36 (by decide) rfl ?_
            refine g_aload_n dX5_readTerm_38 rfl ?_
            refine g_dup dX5_readTerm_39 rfl ?_
            refine gI_X5_19 rfl dX5_readTerm_40 sh_65 (m_65_2 hMh4) (fun v15 ev15 bv15 cv15 => ?_)
            refine g_iconst dX5_readTerm_43 (inR_c rfl) ?_
            refine g_iaddF dX5_readTerm_44 (fun v16 bv16 cv16 => ?_)
            refine pI_X5_19 rfl dX5_readTerm_45 sh_65 (fun h17 eh17 => ?_)
            have hFh17 := Fr.st eh17
            have hMh17 := u_65_2 hMh4 eh17 (by omega) (by omega)
            refine g_aload_n dX5_readTerm_48 rfl ?_
            refine g_aload_n dX5_readTerm_49 rfl ?_
            refine g_iload_n dX5_readTerm_50 rfl (fun _ => ?_)
            refine g_cVV (as := [_, _]) (c_X5_readFactor_65_90_k3  h17 hMh17) dX5_readTerm_51 mi_X5_readFactor in_X5_readFactor se_X5_readFactor ml_X5_108 rfl rfl rfl sh_65 rfl rfl (Nat.le_of_ble_eq_true rfl) (fun h18 q19 => ?_)
            obtain ⟨hMh18, hFh18⟩ := q19
            refine g_aload_n dX5_readTerm_54 rfl ?_
            refine g_iload dX5_readTerm_55 rfl (fun _ => ?_)
            refine g_iconst dX5_readTerm_57 (inR_c rfl) ?_
            refine g_cV (as := [_, _]) (c_X2_addStep_90 _ _ h18 hMh18 (by omega) (by omega) (by omega) (by omega)) dX5_readTerm_58 mi_X2_addStep in_X2_addStep se_X2_addStep ml_X5_90 rfl rfl rfl sh_90 rfl rfl (Nat.le_of_ble_eq_true rfl) (fun v20 h21 q22 => ?_)
            obtain ⟨hMh21, hFh21, bv20, cv20⟩ := q22
            refine g_pop dX5_readTerm_61 rfl ?_
            refine g_iincB dX5_readTerm_62 rfl rfl (by omega) (by omega) ?_
            refine g_goto 8 dX5_readTerm_65 (by decide) ?_
            refine g_drop 4 ?_
            exact ih8 _ _ hMh21 (Fr.tr (Fr.tr (Fr.tr (Fr.sub hFh4 rfl) hFh17 rfl) hFh18 rfl) hFh21 rfl) (by omega) (by omega) (by omega)
  refine g_istore_n dX5_readTerm_7 (by decide) rfl ?_
  exact c8 201 _ _ hMh1 Fr.rf (by omega) (by omega) (by omega)
set_option maxRecDepth 100000 in
set_option maxHeartbeats 4000000 in
theorem c_X5_readSum_65_90_k3 (h : MEM) (hM : MBx h) : CV yX5_readSum cX5_readSum 5 (none) 17 [pR 65, pR 90, pI 3] h (fun h' => MBx h' ∧ Fr [(65, 3), (65, 4), (65, 5), (90, 2), (95, 0), (96, 0)] h h') := by
  refine CV.of (L0 := [some (pR 65), some (pR 90), some (pI 3), none, none]) rfl (Nat.le_of_ble_eq_true rfl) rfl (fun Po hPo hav => ?_)
  refine g_aload_n dX5_readSum_0 rfl ?_
  refine g_aload_n dX5_readSum_1 rfl ?_
  refine g_iload_n dX5_readSum_2 rfl (fun _ => ?_)
  refine g_cVV (as := [_, _]) (c_X5_readTerm_65_90_k3  h hM) dX5_readSum_3 mi_X5_readTerm in_X5_readTerm se_X5_readTerm ml_X5_105 rfl rfl rfl sh_65 rfl rfl (Nat.le_of_ble_eq_true rfl) (fun h1 q2 => ?_)
  obtain ⟨hMh1, hFh1⟩ := q2
  refine g_iconst dX5_readSum_6 (inR_c rfl) ?_
  have c8 : ∀ (n : Nat) (y3 : Int) (h4 : MEM), MBx h4 → Fr [(65, 3), (65, 4), (65, 5), (90, 2), (95, 0), (96, 0)] h1 h4 → 0 ≤ y3 → y3 ≤ 200 → 200 - y3 < (n : Int) → G yX5_readSum cX5_readSum 5 (none) none Po (17, 1020, 0, 0) 8 [some (pR 65), some (pR 90), some (pI 3), some (pI y3), none] [] SH h4 0 0 := by
    intro n
    induction n with
    | zero =>
      intro y3 h4 hMh4 hFh4 by3 dy3 hn
      exfalso; omega
    | succ n ih8 =>
      intro y3 h4 hMh4 hFh4 by3 dy3 hn
      refine g_iload_n dX5_readSum_8 rfl (fun _ => ?_)
      refine g_sipush dX5_readSum_9 (inR_c rfl) (by decide) ?_
      refine g_icmp_ge 76 dX5_readSum_12 (by decide) (fun q5 => ?_) (fun q5 => ?_)
      · skip
        exact g_return dX5_readSum_76 rfl (hPo _ ⟨hMh4, (Fr.tr (Fr.sub hFh1 rfl) hFh4 rfl)⟩)
      · skip
        refine g_aload_n dX5_readSum_15 rfl ?_
        refine gI_X5_22 rfl dX5_readSum_16 sh_65 (m_65_3 hMh4) (fun v6 ev6 bv6 cv6 => ?_)
        refine g_if_ne 76 dX5_readSum_19 (by decide) (fun q7 => ?_) (fun q7 => ?_)
        · skip
          exact g_return dX5_readSum_76 rfl (hPo _ ⟨hMh4, (Fr.tr (Fr.sub hFh1 rfl) hFh4 rfl)⟩)
        · skip
          refine g_aload_n dX5_readSum_22 rfl ?_
          refine g_cVP (as := []) (c_X5_sign_65  h4 hMh4) dX5_readSum_23 mi_X5_sign in_X5_sign se_X5_sign ml_X5_56 rfl rfl rfl sh_65 rfl rfl (Nat.le_of_ble_eq_true rfl) (fun v8 q9 => ?_)
          obtain ⟨bv8, cv8, zv8⟩ := q9
          refine g_bipush dX5_readSum_26 (inR_c rfl) (by decide) ?_
          have c40 : G yX5_readSum cX5_readSum 5 (none) none Po (17, 1020, 0, 0) 40 [some (pR 65), some (pR 90), some (pI 3), some (pI y3), none] [] SH h4 0 0 := by
            refine g_aload_n dX5_readSum_40 rfl ?_
            refine g_cVP (as := []) (c_X5_sign_65  h4 hMh4) dX5_readSum_41 mi_X5_sign in_X5_sign se_X5_sign ml_X5_56 rfl rfl rfl sh_65 rfl rfl (Nat.le_of_ble_eq_true rfl) (fun v10 q11 => ?_)
            obtain ⟨bv10, cv10, zv10⟩ := q11
            have tv10 : v10 = v8 := by rw [zv10, zv8]
            refine g_istore dX5_readSum_44 (by decide) rfl ?_
            refine g_aload_n dX5_readSum_46 rfl ?_
            refine g_dup dX5_readSum_47 rfl ?_
            refine gI_X5_19 rfl dX5_readSum_48 sh_65 (m_65_2 hMh4) (fun v12 ev12 bv12 cv12 => ?_)
            refine g_iconst dX5_readSum_51 (inR_c rfl) ?_
            refine g_iaddF dX5_readSum_52 (fun v13 bv13 cv13 => ?_)
            refine pI_X5_19 rfl dX5_readSum_53 sh_65 (fun h14 eh14 => ?_)
            have hFh14 := Fr.st eh14
            have hMh14 := u_65_2 hMh4 eh14 (by omega) (by omega)
            refine g_aload_n dX5_readSum_56 rfl ?_
            refine g_aload_n dX5_readSum_57 rfl ?_
            refine g_iload_n dX5_readSum_58 rfl (fun _ => ?_)
            refine g_cVV (as := [_, _]) (c_X5_readTerm_65_90_k3  h14 hMh14) dX5_readSum_59 mi_X5_readTerm in_X5_readTerm se_X5_readTerm ml_X5_105 rfl rfl rfl sh_65 rfl rfl (Nat.le_of_ble_eq_true rfl) (fun h15 q16 => ?_)
            obtain ⟨hMh15, hFh15⟩ := q16
            refine g_aload_n dX5_readSum_62 rfl ?_
            refine g_iload dX5_readSum_63 rfl (fun _ => ?_)
            refine g_iconst dX5_readSum_65 (inR_c rfl) ?_
            refine g_cV (as := [_, _]) (c_X2_addStep_90 _ _ h15 hMh15 (by omega) (by omega) (by omega) (by omega)) dX5_readSum_66 mi_X2_addStep in_X2_addStep se_X2_addStep ml_X5_90 rfl rfl rfl sh_90 rfl rfl (Nat.le_of_ble_eq_true rfl) (fun v17 h18 q19 => ?_)
            obtain ⟨hMh18, hFh18, bv17, cv17⟩ := q19
            refine g_pop dX5_readSum_69 rfl ?_
            refine g_iincB dX5_readSum_70 rfl rfl (by omega) (by omega) ?_
            refine g_goto 8 dX5_readSum_73 (by decide) ?_
            refine g_drop 4 ?_
            exact ih8 _ _ hMh18 (Fr.tr (Fr.tr (Fr.tr (Fr.sub hFh4 rfl) hFh14 rfl) hFh15 rfl) hFh18 rfl) (by omega) (by omega) (by omega)
          refine g_icmp_eq 40 dX5_readSum_28 (by decide) (fun q20 => ?_) (fun q20 => ?_)
          · skip
            exact c40 
          · skip
            refine g_aload_n dX5_readSum_31 rfl ?_
            refine g_cVP (as := []) (c_X5_sign_65  h4 hMh4) dX5_readSum_32 mi_X5_sign in_X5_sign se_X5_sign ml_X5_56 rfl rfl rfl sh_65 rfl rfl (Nat.le_of_ble_eq_true rfl) (fun v21 q22 => ?_)
            obtain ⟨bv21, cv21, zv21⟩ := q22
            have tv21 : v21 = v8 := by rw [zv21, zv8]
            refine g_bipush dX5_readSum_35 (inR_c rfl) (by decide) ?_
            refine g_icmp_ne 76 dX5_readSum_37 (by decide) (fun q23 => ?_) (fun q23 => ?_)
            · skip
              exact g_return dX5_readSum_76 rfl (hPo _ ⟨hMh4, (Fr.tr (Fr.sub hFh1 rfl) hFh4 rfl)⟩)
            · skip
              exact c40 
  refine g_istore_n dX5_readSum_7 (by decide) rfl ?_
  exact c8 201 _ _ hMh1 Fr.rf (by omega) (by omega) (by omega)
set_option maxRecDepth 100000 in
set_option maxHeartbeats 4000000 in
theorem c_X5_readFactor_65_90_k2 (h : MEM) (hM : MBx h) : CV yX5_readFactor cX5_readFactor 5 (none) 18 [pR 65, pR 90, pI 2] h (fun h' => MBx h' ∧ Fr [(65, 3), (65, 4), (65, 5), (90, 2), (95, 0), (96, 0)] h h') := by
  refine CV.of (L0 := [some (pR 65), some (pR 90), some (pI 2), none, none]) rfl (Nat.le_of_ble_eq_true rfl) rfl (fun Po hPo hav => ?_)
  refine g_aload_n dX5_readFactor_0 rfl ?_
  refine g_cVP (as := []) (c_X5_sign_65  h hM) dX5_readFactor_1 mi_X5_sign in_X5_sign se_X5_sign ml_X5_56 rfl rfl rfl sh_65 rfl rfl (Nat.le_of_ble_eq_true rfl) (fun v1 q2 => ?_)
  obtain ⟨bv1, cv1, zv1⟩ := q2
  refine g_istore_n dX5_readFactor_4 (by decide) rfl ?_
  refine g_sidx_n1 rfl rfl dX5_readFactor_5 dX5_readFactor_7 dX5_readFactor_8 ml_X5_66 rfl (Nat.le_of_ble_eq_true rfl) (fun v3 bv3 cv3 => ?_)
  refine g_istore dX5_readFactor_11 (by decide) rfl ?_
  refine g_iload_n dX5_readFactor_13 rfl (fun _ => ?_)
  refine g_bipush dX5_readFactor_14 (inR_c rfl) (by decide) ?_
  refine g_icmp_ne 30 dX5_readFactor_16 (by decide) (fun q4 => ?_) (fun q4 => ?_)
  · skip
    refine g_aload_n dX5_readFactor_30 rfl ?_
    refine gI_X5_22 rfl dX5_readFactor_31 sh_65 (m_65_3 hM) (fun v5 ev5 bv5 cv5 => ?_)
    refine g_if_eq 38 dX5_readFactor_34 (by decide) (fun q6 => ?_) (fun q6 => ?_)
    · skip
      refine g_iload_n dX5_readFactor_38 rfl (fun _ => ?_)
      refine g_bipush dX5_readFactor_39 (inR_c rfl) (by decide) ?_
      refine g_icmp_ne 71 dX5_readFactor_41 (by decide) (fun q7 => ?_) (fun _ => by exfalso; omega)
      refine g_iload_n dX5_readFactor_71 rfl (fun _ => ?_)
      refine g_cSP (av := [_]) (c_X5_isDigit _ h hM (by omega) (by omega)) dX5_readFactor_72 mi_X5_isDigit st_X5_isDigit ml_X5_117 rfl rfl rfl rfl (Nat.le_of_ble_eq_true rfl) (fun v8 q9 => ?_)
      obtain ⟨bv8, cv8⟩ := q9
      refine g_if_eq 86 dX5_readFactor_75 (by decide) (fun q10 => ?_) (fun q10 => ?_)
      · skip
        refine g_iload dX5_readFactor_86 rfl (fun _ => ?_)
        refine g_if_lt 112 dX5_readFactor_88 (by decide) (fun q11 => ?_) (fun q11 => ?_)
        · skip
          refine g_aload_n dX5_readFactor_112 rfl ?_
          refine g_iconst dX5_readFactor_113 (inR_c rfl) ?_
          refine g_cVV (as := [_]) (c_X5_fail_65 _ h hM (by omega) (by omega)) dX5_readFactor_114 mi_X5_fail in_X5_fail se_X5_fail ml_X5_60 rfl rfl rfl sh_65 rfl rfl (Nat.le_of_ble_eq_true rfl) (fun h12 q13 => ?_)
          obtain ⟨hMh12, hFh12, az14, bz14⟩ := q13
          obtain ⟨v15, ev15⟩ : ∃ z, z = h12 65 3 := ⟨_, rfl⟩
          have bv15 : 1 ≤ v15 ∧ v15 ≤ 5 := by rw [ev15]; exact ⟨az14, bz14⟩
          exact g_return dX5_readFactor_117 rfl (hPo _ ⟨hMh12, (Fr.sub hFh12 rfl)⟩)
        · skip
          refine g_aload_n dX5_readFactor_91 rfl ?_
          refine g_dup dX5_readFactor_92 rfl ?_
          refine gI_X5_19 rfl dX5_readFactor_93 sh_65 (m_65_2 hM) (fun v16 ev16 bv16 cv16 => ?_)
          refine g_iconst dX5_readFactor_96 (inR_c rfl) ?_
          refine g_iaddF dX5_readFactor_97 (fun v17 bv17 cv17 => ?_)
          refine pI_X5_19 rfl dX5_readFactor_98 sh_65 (fun h18 eh18 => ?_)
          have hFh18 := Fr.st eh18
          have hMh18 := u_65_2 hM eh18 (by omega) (by omega)
          refine g_aload_n dX5_readFactor_101 rfl ?_
          refine g_iconst dX5_readFactor_102 (inR_c rfl) ?_
          refine g_iload dX5_readFactor_103 rfl (fun _ => ?_)
          refine g_cV (as := [_, _]) (c_X2_addStep_90 _ _ h18 hMh18 (by omega) (by omega) (by omega) (by omega)) dX5_readFactor_105 mi_X2_addStep in_X2_addStep se_X2_addStep ml_X5_90 rfl rfl rfl sh_90 rfl rfl (Nat.le_of_ble_eq_true rfl) (fun v19 h20 q21 => ?_)
          obtain ⟨hMh20, hFh20, bv19, cv19⟩ := q21
          refine g_pop dX5_readFactor_108 rfl ?_
          refine g_goto 117 dX5_readFactor_109 (by decide) ?_
          exact g_return dX5_readFactor_117 rfl (hPo _ ⟨hMh20, (Fr.tr (Fr.sub hFh18 rfl) hFh20 rfl)⟩)
      · skip
        refine g_aload_n dX5_readFactor_78 rfl ?_
        refine g_aload_n dX5_readFactor_79 rfl ?_
        refine g_cVV (as := [_]) (c_X5_readNumber_65_90  h hM) dX5_readFactor_80 mi_X5_readNumber in_X5_readNumber se_X5_readNumber ml_X5_120 rfl rfl rfl sh_65 rfl rfl (Nat.le_of_ble_eq_true rfl) (fun h22 q23 => ?_)
        obtain ⟨hMh22, hFh22⟩ := q23
        refine g_goto 117 dX5_readFactor_83 (by decide) ?_
        exact g_return dX5_readFactor_117 rfl (hPo _ ⟨hMh22, (Fr.sub hFh22 rfl)⟩)
    · skip
      exact g_return dX5_readFactor_37 rfl (hPo _ ⟨hM, Fr.rf⟩)
  · skip
    refine g_iload_n dX5_readFactor_19 rfl (fun _ => ?_)
    refine g_bipush dX5_readFactor_20 (inR_c rfl) (by decide) ?_
    refine g_icmp_lt 30 dX5_readFactor_22 (by decide) (fun q24 => ?_) (fun _ => by exfalso; omega)
    refine g_aload_n dX5_readFactor_30 rfl ?_
    refine gI_X5_22 rfl dX5_readFactor_31 sh_65 (m_65_3 hM) (fun v25 ev25 bv25 cv25 => ?_)
    refine g_if_eq 38 dX5_readFactor_34 (by decide) (fun q26 => ?_) (fun q26 => ?_)
    · skip
      refine g_iload_n dX5_readFactor_38 rfl (fun _ => ?_)
      refine g_bipush dX5_readFactor_39 (inR_c rfl) (by decide) ?_
      refine g_icmp_ne 71 dX5_readFactor_41 (by decide) (fun _ => by exfalso; omega) (fun q27 => ?_)
      refine g_aload_n dX5_readFactor_44 rfl ?_
      refine g_dup dX5_readFactor_45 rfl ?_
      refine gI_X5_19 rfl dX5_readFactor_46 sh_65 (m_65_2 hM) (fun v28 ev28 bv28 cv28 => ?_)
      refine g_iconst dX5_readFactor_49 (inR_c rfl) ?_
      refine g_iaddF dX5_readFactor_50 (fun v29 bv29 cv29 => ?_)
      refine pI_X5_19 rfl dX5_readFactor_51 sh_65 (fun h30 eh30 => ?_)
      have hFh30 := Fr.st eh30
      have hMh30 := u_65_2 hM eh30 (by omega) (by omega)
      refine g_aload_n dX5_readFactor_54 rfl ?_
      refine g_aload_n dX5_readFactor_55 rfl ?_
      refine g_iload_n dX5_readFactor_56 rfl (fun _ => ?_)
      refine g_iconst dX5_readFactor_57 (inR_c rfl) ?_
      refine g_iaddB dX5_readFactor_58 (by omega) (by omega) ?_
      refine g_cVV (as := [_, _]) (c_X5_readSum_65_90_k3  h30 hMh30) dX5_readFactor_59 mi_X5_readSum in_X5_readSum se_X5_readSum ml_X5_74 rfl rfl rfl sh_65 rfl rfl (Nat.le_of_ble_eq_true rfl) (fun h31 q32 => ?_)
      obtain ⟨hMh31, hFh31⟩ := q32
      refine g_aload_n dX5_readFactor_62 rfl ?_
      refine g_bipush dX5_readFactor_63 (inR_c rfl) (by decide) ?_
      refine g_cVV (as := [_]) (c_X5_expect_65 _ h31 hMh31 (by omega) (by omega)) dX5_readFactor_65 mi_X5_expect in_X5_expect se_X5_expect ml_X5_52 rfl rfl rfl sh_65 rfl rfl (Nat.le_of_ble_eq_true rfl) (fun h33 q34 => ?_)
      obtain ⟨hMh33, hFh33⟩ := q34
      refine g_goto 117 dX5_readFactor_68 (by decide) ?_
      exact g_return dX5_readFactor_117 rfl (hPo _ ⟨hMh33, (Fr.tr (Fr.tr (Fr.sub hFh30 rfl) hFh31 rfl) hFh33 rfl)⟩)
    · skip
      exact g_return dX5_readFactor_37 rfl (hPo _ ⟨hM, Fr.rf⟩)
set_option maxRecDepth 100000 in
set_option maxHeartbeats 4000000 in
theorem c_X5_readTerm_65_90_k2 (h : MEM) (hM : MBx h) : CV yX5_readTerm cX5_readTerm 5 (none) 19 [pR 65, pR 90, pI 2] h (fun h' => MBx h' ∧ Fr [(65, 3), (65, 4), (65, 5), (90, 2), (95, 0), (96, 0)] h h') := by
  refine CV.of (L0 := [some (pR 65), some (pR 90), some (pI 2), none, none]) rfl (Nat.le_of_ble_eq_true rfl) rfl (fun Po hPo hav => ?_)
  refine g_aload_n dX5_readTerm_0 rfl ?_
  refine g_aload_n dX5_readTerm_1 rfl ?_
  refine g_iload_n dX5_readTerm_2 rfl (fun _ => ?_)
  refine g_cVV (as := [_, _]) (c_X5_readFactor_65_90_k2  h hM) dX5_readTerm_3 mi_X5_readFactor in_X5_readFactor se_X5_readFactor ml_X5_108 rfl rfl rfl sh_65 rfl rfl (Nat.le_of_ble_eq_true rfl) (fun h1 q2 => ?_)
  obtain ⟨hMh1, hFh1⟩ := q2
  refine g_iconst dX5_readTerm_6 (inR_c rfl) ?_
  have c8 : ∀ (n : Nat) (y3 : Int) (h4 : MEM), MBx h4 → Fr [(65, 3), (65, 4), (65, 5), (90, 2), (95, 0), (96, 0)] h1 h4 → 0 ≤ y3 → y3 ≤ 200 → 200 - y3 < (n : Int) → G yX5_readTerm cX5_readTerm 5 (none) none Po (19, 1140, 0, 0) 8 [some (pR 65), some (pR 90), some (pI 2), some (pI y3), none] [] SH h4 0 0 := by
    intro n
    induction n with
    | zero =>
      intro y3 h4 hMh4 hFh4 by3 dy3 hn
      exfalso; omega
    | succ n ih8 =>
      intro y3 h4 hMh4 hFh4 by3 dy3 hn
      refine g_iload_n dX5_readTerm_8 rfl (fun _ => ?_)
      refine g_sipush dX5_readTerm_9 (inR_c rfl) (by decide) ?_
      refine g_icmp_ge 68 dX5_readTerm_12 (by decide) (fun q5 => ?_) (fun q5 => ?_)
      · skip
        exact g_return dX5_readTerm_68 rfl (hPo _ ⟨hMh4, (Fr.tr (Fr.sub hFh1 rfl) hFh4 rfl)⟩)
      · skip
        refine g_aload_n dX5_readTerm_15 rfl ?_
        refine gI_X5_22 rfl dX5_readTerm_16 sh_65 (m_65_3 hMh4) (fun v6 ev6 bv6 cv6 => ?_)
        refine g_if_ne 68 dX5_readTerm_19 (by decide) (fun q7 => ?_) (fun q7 => ?_)
        · skip
          exact g_return dX5_readTerm_68 rfl (hPo _ ⟨hMh4, (Fr.tr (Fr.sub hFh1 rfl) hFh4 rfl)⟩)
        · skip
          refine g_aload_n dX5_readTerm_22 rfl ?_
          refine g_cVP (as := []) (c_X5_sign_65  h4 hMh4) dX5_readTerm_23 mi_X5_sign in_X5_sign se_X5_sign ml_X5_56 rfl rfl rfl sh_65 rfl rfl (Nat.le_of_ble_eq_true rfl) (fun v8 q9 => ?_)
          obtain ⟨bv8, cv8, zv8⟩ := q9
          refine g_cSP (av := [_]) (c_X5_isTermSign _ h4 hMh4 (by omega) (by omega)) dX5_readTerm_26 mi_X5_isTermSign st_X5_isTermSign ml_X5_111 rfl rfl rfl rfl (Nat.le_of_ble_eq_true rfl) (fun v10 q11 => ?_)
          obtain ⟨bv10, cv10⟩ := q11
          refine g_if_eq 68 dX5_readTerm_29 (by decide) (fun q12 => ?_) (fun q12 => ?_)
          · skip
            exact g_return dX5_readTerm_68 rfl (hPo _ ⟨hMh4, (Fr.tr (Fr.sub hFh1 rfl) hFh4 rfl)⟩)
          · skip
            refine g_aload_n dX5_readTerm_32 rfl ?_
            refine g_cVP (as := []) (c_X5_sign_65  h4 hMh4) dX5_readTerm_33 mi_X5_sign in_X5_sign se_X5_sign ml_X5_56 rfl rfl rfl sh_65 rfl rfl (Nat.le_of_ble_eq_true rfl) (fun v13 q14 => ?_)
            obtain ⟨bv13, cv13, zv13⟩ := q14
            have tv13 : v13 = v8 := by rw [zv13, zv8]
            refine g_istore dX5_readTerm_36 (by decide) rfl ?_
            refine g_aload_n dX5_readTerm_38 rfl ?_
            refine g_dup dX5_readTerm_39 rfl ?_
            refine gI_X5_19 rfl dX5_readTerm_40 sh_65 (m_65_2 hMh4) (fun v15 ev15 bv15 cv15 => ?_)
            refine g_iconst dX5_readTerm_43 (inR_c rfl) ?_
            refine g_iaddF dX5_readTerm_44 (fun v16 bv16 cv16 => ?_)
            refine pI_X5_19 rfl dX5_readTerm_45 sh_65 (fun h17 eh17 => ?_)
            have hFh17 := Fr.st eh17
            have hMh17 := u_65_2 hMh4 eh17 (by omega) (by omega)
            refine g_aload_n dX5_readTerm_48 rfl ?_
            refine g_aload_n dX5_readTerm_49 rfl ?_
            refine g_iload_n dX5_readTerm_50 rfl (fun _ => ?_)
            refine g_cVV (as := [_, _]) (c_X5_readFactor_65_90_k2  h17 hMh17) dX5_readTerm_51 mi_X5_readFactor in_X5_readFactor se_X5_readFactor ml_X5_108 rfl rfl rfl sh_65 rfl rfl (Nat.le_of_ble_eq_true rfl) (fun h18 q19 => ?_)
            obtain ⟨hMh18, hFh18⟩ := q19
            refine g_aload_n dX5_readTerm_54 rfl ?_
            refine g_iload dX5_readTerm_55 rfl (fun _ => ?_)
            refine g_iconst dX5_readTerm_57 (inR_c rfl) ?_
            refine g_cV (as := [_, _]) (c_X2_addStep_90 _ _ h18 hMh18 (by omega) (by omega) (by omega) (by omega)) dX5_readTerm_58 mi_X2_addStep in_X2_addStep se_X2_addStep ml_X5_90 rfl rfl rfl sh_90 rfl rfl (Nat.le_of_ble_eq_true rfl) (fun v20 h21 q22 => ?_)
            obtain ⟨hMh21, hFh21, bv20, cv20⟩ := q22
            refine g_pop dX5_readTerm_61 rfl ?_
            refine g_iincB dX5_readTerm_62 rfl rfl (by omega) (by omega) ?_
            refine g_goto 8 dX5_readTerm_65 (by decide) ?_
            refine g_drop 4 ?_
            exact ih8 _ _ hMh21 (Fr.tr (Fr.tr (Fr.tr (Fr.sub hFh4 rfl) hFh17 rfl) hFh18 rfl) hFh21 rfl) (by omega) (by omega) (by omega)
  refine g_istore_n dX5_readTerm_7 (by decide) rfl ?_
  exact c8 201 _ _ hMh1 Fr.rf (by omega) (by omega) (by omega)
set_option maxRecDepth 100000 in
set_option maxHeartbeats 4000000 in
theorem c_X5_readSum_65_90_k2 (h : MEM) (hM : MBx h) : CV yX5_readSum cX5_readSum 5 (none) 20 [pR 65, pR 90, pI 2] h (fun h' => MBx h' ∧ Fr [(65, 3), (65, 4), (65, 5), (90, 2), (95, 0), (96, 0)] h h') := by
  refine CV.of (L0 := [some (pR 65), some (pR 90), some (pI 2), none, none]) rfl (Nat.le_of_ble_eq_true rfl) rfl (fun Po hPo hav => ?_)
  refine g_aload_n dX5_readSum_0 rfl ?_
  refine g_aload_n dX5_readSum_1 rfl ?_
  refine g_iload_n dX5_readSum_2 rfl (fun _ => ?_)
  refine g_cVV (as := [_, _]) (c_X5_readTerm_65_90_k2  h hM) dX5_readSum_3 mi_X5_readTerm in_X5_readTerm se_X5_readTerm ml_X5_105 rfl rfl rfl sh_65 rfl rfl (Nat.le_of_ble_eq_true rfl) (fun h1 q2 => ?_)
  obtain ⟨hMh1, hFh1⟩ := q2
  refine g_iconst dX5_readSum_6 (inR_c rfl) ?_
  have c8 : ∀ (n : Nat) (y3 : Int) (h4 : MEM), MBx h4 → Fr [(65, 3), (65, 4), (65, 5), (90, 2), (95, 0), (96, 0)] h1 h4 → 0 ≤ y3 → y3 ≤ 200 → 200 - y3 < (n : Int) → G yX5_readSum cX5_readSum 5 (none) none Po (20, 1200, 0, 0) 8 [some (pR 65), some (pR 90), some (pI 2), some (pI y3), none] [] SH h4 0 0 := by
    intro n
    induction n with
    | zero =>
      intro y3 h4 hMh4 hFh4 by3 dy3 hn
      exfalso; omega
    | succ n ih8 =>
      intro y3 h4 hMh4 hFh4 by3 dy3 hn
      refine g_iload_n dX5_readSum_8 rfl (fun _ => ?_)
      refine g_sipush dX5_readSum_9 (inR_c rfl) (by decide) ?_
      refine g_icmp_ge 76 dX5_readSum_12 (by decide) (fun q5 => ?_) (fun q5 => ?_)
      · skip
        exact g_return dX5_readSum_76 rfl (hPo _ ⟨hMh4, (Fr.tr (Fr.sub hFh1 rfl) hFh4 rfl)⟩)
      · skip
        refine g_aload_n dX5_readSum_15 rfl ?_
        refine gI_X5_22 rfl dX5_readSum_16 sh_65 (m_65_3 hMh4) (fun v6 ev6 bv6 cv6 => ?_)
        refine g_if_ne 76 dX5_readSum_19 (by decide) (fun q7 => ?_) (fun q7 => ?_)
        · skip
          exact g_return dX5_readSum_76 rfl (hPo _ ⟨hMh4, (Fr.tr (Fr.sub hFh1 rfl) hFh4 rfl)⟩)
        · skip
          refine g_aload_n dX5_readSum_22 rfl ?_
          refine g_cVP (as := []) (c_X5_sign_65  h4 hMh4) dX5_readSum_23 mi_X5_sign in_X5_sign se_X5_sign ml_X5_56 rfl rfl rfl sh_65 rfl rfl (Nat.le_of_ble_eq_true rfl) (fun v8 q9 => ?_)
          obtain ⟨bv8, cv8, zv8⟩ := q9
          refine g_bipush dX5_readSum_26 (inR_c rfl) (by decide) ?_
          have c40 : G yX5_readSum cX5_readSum 5 (none) none Po (20, 1200, 0, 0) 40 [some (pR 65), some (pR 90), some (pI 2), some (pI y3), none] [] SH h4 0 0 := by
            refine g_aload_n dX5_readSum_40 rfl ?_
            refine g_cVP (as := []) (c_X5_sign_65  h4 hMh4) dX5_readSum_41 mi_X5_sign in_X5_sign se_X5_sign ml_X5_56 rfl rfl rfl sh_65 rfl rfl (Nat.le_of_ble_eq_true rfl) (fun v10 q11 => ?_)
            obtain ⟨bv10, cv10, zv10⟩ := q11
            have tv10 : v10 = v8 := by rw [zv10, zv8]
            refine g_istore dX5_readSum_44 (by decide) rfl ?_
            refine g_aload_n dX5_readSum_46 rfl ?_
            refine g_dup dX5_readSum_47 rfl ?_
            refine gI_X5_19 rfl dX5_readSum_48 sh_65 (m_65_2 hMh4) (fun v12 ev12 bv12 cv12 => ?_)
            refine g_iconst dX5_readSum_51 (inR_c rfl) ?_
            refine g_iaddF dX5_readSum_52 (fun v13 bv13 cv13 => ?_)
            refine pI_X5_19 rfl dX5_readSum_53 sh_65 (fun h14 eh14 => ?_)
            have hFh14 := Fr.st eh14
            have hMh14 := u_65_2 hMh4 eh14 (by omega) (by omega)
            refine g_aload_n dX5_readSum_56 rfl ?_
            refine g_aload_n dX5_readSum_57 rfl ?_
            refine g_iload_n dX5_readSum_58 rfl (fun _ => ?_)
            refine g_cVV (as := [_, _]) (c_X5_readTerm_65_90_k2  h14 hMh14) dX5_readSum_59 mi_X5_readTerm in_X5_readTerm se_X5_readTerm ml_X5_105 rfl rfl rfl sh_65 rfl rfl (Nat.le_of_ble_eq_true rfl) (fun h15 q16 => ?_)
            obtain ⟨hMh15, hFh15⟩ := q16
            refine g_aload_n dX5_readSum_62 rfl ?_
            refine g_iload dX5_readSum_63 rfl (fun _ => ?_)
            refine g_iconst dX5_readSum_65 (inR_c rfl) ?_
            refine g_cV (as := [_, _]) (c_X2_addStep_90 _ _ h15 hMh15 (by omega) (by omega) (by omega) (by omega)) dX5_readSum_66 mi_X2_addStep in_X2_addStep se_X2_addStep ml_X5_90 rfl rfl rfl sh_90 rfl rfl (Nat.le_of_ble_eq_true rfl) (fun v17 h18 q19 => ?_)
            obtain ⟨hMh18, hFh18, bv17, cv17⟩ := q19
            refine g_pop dX5_readSum_69 rfl ?_
            refine g_iincB dX5_readSum_70 rfl rfl (by omega) (by omega) ?_
            refine g_goto 8 dX5_readSum_73 (by decide) ?_
            refine g_drop 4 ?_
            exact ih8 _ _ hMh18 (Fr.tr (Fr.tr (Fr.tr (Fr.sub hFh4 rfl) hFh14 rfl) hFh15 rfl) hFh18 rfl) (by omega) (by omega) (by omega)
          refine g_icmp_eq 40 dX5_readSum_28 (by decide) (fun q20 => ?_) (fun q20 => ?_)
          · skip
            exact c40 
          · skip
            refine g_aload_n dX5_readSum_31 rfl ?_
            refine g_cVP (as := []) (c_X5_sign_65  h4 hMh4) dX5_readSum_32 mi_X5_sign in_X5_sign se_X5_sign ml_X5_56 rfl rfl rfl sh_65 rfl rfl (Nat.le_of_ble_eq_true rfl) (fun v21 q22 => ?_)
            obtain ⟨bv21, cv21, zv21⟩ := q22
            have tv21 : v21 = v8 := by rw [zv21, zv8]
            refine g_bipush dX5_readSum_35 (inR_c rfl) (by decide) ?_
            refine g_icmp_ne 76 dX5_readSum_37 (by decide) (fun q23 => ?_) (fun q23 => ?_)
            · skip
              exact g_return dX5_readSum_76 rfl (hPo _ ⟨hMh4, (Fr.tr (Fr.sub hFh1 rfl) hFh4 rfl)⟩)
            · skip
              exact c40 
  refine g_istore_n dX5_readSum_7 (by decide) rfl ?_
  exact c8 201 _ _ hMh1 Fr.rf (by omega) (by omega) (by omega)
set_option maxRecDepth 100000 in
set_option maxHeartbeats 4000000 in
theorem c_X5_readFactor_65_90_k1 (h : MEM) (hM : MBx h) : CV yX5_readFactor cX5_readFactor 5 (none) 21 [pR 65, pR 90, pI 1] h (fun h' => MBx h' ∧ Fr [(65, 3), (65, 4), (65, 5), (90, 2), (95, 0), (96, 0)] h h') := by
  refine CV.of (L0 := [some (pR 65), some (pR 90), some (pI 1), none, none]) rfl (Nat.le_of_ble_eq_true rfl) rfl (fun Po hPo hav => ?_)
  refine g_aload_n dX5_readFactor_0 rfl ?_
  refine g_cVP (as := []) (c_X5_sign_65  h hM) dX5_readFactor_1 mi_X5_sign in_X5_sign se_X5_sign ml_X5_56 rfl rfl rfl sh_65 rfl rfl (Nat.le_of_ble_eq_true rfl) (fun v1 q2 => ?_)
  obtain ⟨bv1, cv1, zv1⟩ := q2
  refine g_istore_n dX5_readFactor_4 (by decide) rfl ?_
  refine g_sidx_n1 rfl rfl dX5_readFactor_5 dX5_readFactor_7 dX5_readFactor_8 ml_X5_66 rfl (Nat.le_of_ble_eq_true rfl) (fun v3 bv3 cv3 => ?_)
  refine g_istore dX5_readFactor_11 (by decide) rfl ?_
  refine g_iload_n dX5_readFactor_13 rfl (fun _ => ?_)
  refine g_bipush dX5_readFactor_14 (inR_c rfl) (by decide) ?_
  refine g_icmp_ne 30 dX5_readFactor_16 (by decide) (fun q4 => ?_) (fun q4 => ?_)
  · skip
    refine g_aload_n dX5_readFactor_30 rfl ?_
    refine gI_X5_22 rfl dX5_readFactor_31 sh_65 (m_65_3 hM) (fun v5 ev5 bv5 cv5 => ?_)
    refine g_if_eq 38 dX5_readFactor_34 (by decide) (fun q6 => ?_) (fun q6 => ?_)
    · skip
      refine g_iload_n dX5_readFactor_38 rfl (fun _ => ?_)
      refine g_bipush dX5_readFactor_39 (inR_c rfl) (by decide) ?_
      refine g_icmp_ne 71 dX5_readFactor_41 (by decide) (fun q7 => ?_) (fun _ => by exfalso; omega)
      refine g_iload_n dX5_readFactor_71 rfl (fun _ => ?_)
      refine g_cSP (av := [_]) (c_X5_isDigit _ h hM (by omega) (by omega)) dX5_readFactor_72 mi_X5_isDigit st_X5_isDigit ml_X5_117 rfl rfl rfl rfl (Nat.le_of_ble_eq_true rfl) (fun v8 q9 => ?_)
      obtain ⟨bv8, cv8⟩ := q9
      refine g_if_eq 86 dX5_readFactor_75 (by decide) (fun q10 => ?_) (fun q10 => ?_)
      · skip
        refine g_iload dX5_readFactor_86 rfl (fun _ => ?_)
        refine g_if_lt 112 dX5_readFactor_88 (by decide) (fun q11 => ?_) (fun q11 => ?_)
        · skip
          refine g_aload_n dX5_readFactor_112 rfl ?_
          refine g_iconst dX5_readFactor_113 (inR_c rfl) ?_
          refine g_cVV (as := [_]) (c_X5_fail_65 _ h hM (by omega) (by omega)) dX5_readFactor_114 mi_X5_fail in_X5_fail se_X5_fail ml_X5_60 rfl rfl rfl sh_65 rfl rfl (Nat.le_of_ble_eq_true rfl) (fun h12 q13 => ?_)
          obtain ⟨hMh12, hFh12, az14, bz14⟩ := q13
          obtain ⟨v15, ev15⟩ : ∃ z, z = h12 65 3 := ⟨_, rfl⟩
          have bv15 : 1 ≤ v15 ∧ v15 ≤ 5 := by rw [ev15]; exact ⟨az14, bz14⟩
          exact g_return dX5_readFactor_117 rfl (hPo _ ⟨hMh12, (Fr.sub hFh12 rfl)⟩)
        · skip
          refine g_aload_n dX5_readFactor_91 rfl ?_
          refine g_dup dX5_readFactor_92 rfl ?_
          refine gI_X5_19 rfl dX5_readFactor_93 sh_65 (m_65_2 hM) (fun v16 ev16 bv16 cv16 => ?_)
          refine g_iconst dX5_readFactor_96 (inR_c rfl) ?_
          refine g_iaddF dX5_readFactor_97 (fun v17 bv17 cv17 => ?_)
          refine pI_X5_19 rfl dX5_readFactor_98 sh_65 (fun h18 eh18 => ?_)
          have hFh18 := Fr.st eh18
          have hMh18 := u_65_2 hM eh18 (by omega) (by omega)
          refine g_aload_n dX5_readFactor_101 rfl ?_
          refine g_iconst dX5_readFactor_102 (inR_c rfl) ?_
          refine g_iload dX5_readFactor_103 rfl (fun _ => ?_)
          refine g_cV (as := [_, _]) (c_X2_addStep_90 _ _ h18 hMh18 (by omega) (by omega) (by omega) (by omega)) dX5_readFactor_105 mi_X2_addStep in_X2_addStep se_X2_addStep ml_X5_90 rfl rfl rfl sh_90 rfl rfl (Nat.le_of_ble_eq_true rfl) (fun v19 h20 q21 => ?_)
          obtain ⟨hMh20, hFh20, bv19, cv19⟩ := q21
          refine g_pop dX5_readFactor_108 rfl ?_
          refine g_goto 117 dX5_readFactor_109 (by decide) ?_
          exact g_return dX5_readFactor_117 rfl (hPo _ ⟨hMh20, (Fr.tr (Fr.sub hFh18 rfl) hFh20 rfl)⟩)
      · skip
        refine g_aload_n dX5_readFactor_78 rfl ?_
        refine g_aload_n dX5_readFactor_79 rfl ?_
        refine g_cVV (as := [_]) (c_X5_readNumber_65_90  h hM) dX5_readFactor_80 mi_X5_readNumber in_X5_readNumber se_X5_readNumber ml_X5_120 rfl rfl rfl sh_65 rfl rfl (Nat.le_of_ble_eq_true rfl) (fun h22 q23 => ?_)
        obtain ⟨hMh22, hFh22⟩ := q23
        refine g_goto 117 dX5_readFactor_83 (by decide) ?_
        exact g_return dX5_readFactor_117 rfl (hPo _ ⟨hMh22, (Fr.sub hFh22 rfl)⟩)
    · skip
      exact g_return dX5_readFactor_37 rfl (hPo _ ⟨hM, Fr.rf⟩)
  · skip
    refine g_iload_n dX5_readFactor_19 rfl (fun _ => ?_)
    refine g_bipush dX5_readFactor_20 (inR_c rfl) (by decide) ?_
    refine g_icmp_lt 30 dX5_readFactor_22 (by decide) (fun q24 => ?_) (fun _ => by exfalso; omega)
    refine g_aload_n dX5_readFactor_30 rfl ?_
    refine gI_X5_22 rfl dX5_readFactor_31 sh_65 (m_65_3 hM) (fun v25 ev25 bv25 cv25 => ?_)
    refine g_if_eq 38 dX5_readFactor_34 (by decide) (fun q26 => ?_) (fun q26 => ?_)
    · skip
      refine g_iload_n dX5_readFactor_38 rfl (fun _ => ?_)
      refine g_bipush dX5_readFactor_39 (inR_c rfl) (by decide) ?_
      refine g_icmp_ne 71 dX5_readFactor_41 (by decide) (fun _ => by exfalso; omega) (fun q27 => ?_)
      refine g_aload_n dX5_readFactor_44 rfl ?_
      refine g_dup dX5_readFactor_45 rfl ?_
      refine gI_X5_19 rfl dX5_readFactor_46 sh_65 (m_65_2 hM) (fun v28 ev28 bv28 cv28 => ?_)
      refine g_iconst dX5_readFactor_49 (inR_c rfl) ?_
      refine g_iaddF dX5_readFactor_50 (fun v29 bv29 cv29 => ?_)
      refine pI_X5_19 rfl dX5_readFactor_51 sh_65 (fun h30 eh30 => ?_)
      have hFh30 := Fr.st eh30
      have hMh30 := u_65_2 hM eh30 (by omega) (by omega)
      refine g_aload_n dX5_readFactor_54 rfl ?_
      refine g_aload_n dX5_readFactor_55 rfl ?_
      refine g_iload_n dX5_readFactor_56 rfl (fun _ => ?_)
      refine g_iconst dX5_readFactor_57 (inR_c rfl) ?_
      refine g_iaddB dX5_readFactor_58 (by omega) (by omega) ?_
      refine g_cVV (as := [_, _]) (c_X5_readSum_65_90_k2  h30 hMh30) dX5_readFactor_59 mi_X5_readSum in_X5_readSum se_X5_readSum ml_X5_74 rfl rfl rfl sh_65 rfl rfl (Nat.le_of_ble_eq_true rfl) (fun h31 q32 => ?_)
      obtain ⟨hMh31, hFh31⟩ := q32
      refine g_aload_n dX5_readFactor_62 rfl ?_
      refine g_bipush dX5_readFactor_63 (inR_c rfl) (by decide) ?_
      refine g_cVV (as := [_]) (c_X5_expect_65 _ h31 hMh31 (by omega) (by omega)) dX5_readFactor_65 mi_X5_expect in_X5_expect se_X5_expect ml_X5_52 rfl rfl rfl sh_65 rfl rfl (Nat.le_of_ble_eq_true rfl) (fun h33 q34 => ?_)
      obtain ⟨hMh33, hFh33⟩ := q34
      refine g_goto 117 dX5_readFactor_68 (by decide) ?_
      exact g_return dX5_readFactor_117 rfl (hPo _ ⟨hMh33, (Fr.tr (Fr.tr (Fr.sub hFh30 rfl) hFh31 rfl) hFh33 rfl)⟩)
    · skip
      exact g_return dX5_readFactor_37 rfl (hPo _ ⟨hM, Fr.rf⟩)
set_option maxRecDepth 100000 in
set_option maxHeartbeats 4000000 in
theorem c_X5_readTerm_65_90_k1 (h : MEM) (hM : MBx h) : CV yX5_readTerm cX5_readTerm 5 (none) 22 [pR 65, pR 90, pI 1] h (fun h' => MBx h' ∧ Fr [(65, 3), (65, 4), (65, 5), (90, 2), (95, 0), (96, 0)] h h') := by
  refine CV.of (L0 := [some (pR 65), some (pR 90), some (pI 1), none, none]) rfl (Nat.le_of_ble_eq_true rfl) rfl (fun Po hPo hav => ?_)
  refine g_aload_n dX5_readTerm_0 rfl ?_
  refine g_aload_n dX5_readTerm_1 rfl ?_
  refine g_iload_n dX5_readTerm_2 rfl (fun _ => ?_)
  refine g_cVV (as := [_, _]) (c_X5_readFactor_65_90_k1  h hM) dX5_readTerm_3 mi_X5_readFactor in_X5_readFactor se_X5_readFactor ml_X5_108 rfl rfl rfl sh_65 rfl rfl (Nat.le_of_ble_eq_true rfl) (fun h1 q2 => ?_)
  obtain ⟨hMh1, hFh1⟩ := q2
  refine g_iconst dX5_readTerm_6 (inR_c rfl) ?_
  have c8 : ∀ (n : Nat) (y3 : Int) (h4 : MEM), MBx h4 → Fr [(65, 3), (65, 4), (65, 5), (90, 2), (95, 0), (96, 0)] h1 h4 → 0 ≤ y3 → y3 ≤ 200 → 200 - y3 < (n : Int) → G yX5_readTerm cX5_readTerm 5 (none) none Po (22, 1320, 0, 0) 8 [some (pR 65), some (pR 90), some (pI 1), some (pI y3), none] [] SH h4 0 0 := by
    intro n
    induction n with
    | zero =>
      intro y3 h4 hMh4 hFh4 by3 dy3 hn
      exfalso; omega
    | succ n ih8 =>
      intro y3 h4 hMh4 hFh4 by3 dy3 hn
      refine g_iload_n dX5_readTerm_8 rfl (fun _ => ?_)
      refine g_sipush dX5_readTerm_9 (inR_c rfl) (by decide) ?_
      refine g_icmp_ge 68 dX5_readTerm_12 (by decide) (fun q5 => ?_) (fun q5 => ?_)
      · skip
        exact g_return dX5_readTerm_68 rfl (hPo _ ⟨hMh4, (Fr.tr (Fr.sub hFh1 rfl) hFh4 rfl)⟩)
      · skip
        refine g_aload_n dX5_readTerm_15 rfl ?_
        refine gI_X5_22 rfl dX5_readTerm_16 sh_65 (m_65_3 hMh4) (fun v6 ev6 bv6 cv6 => ?_)
        refine g_if_ne 68 dX5_readTerm_19 (by decide) (fun q7 => ?_) (fun q7 => ?_)
        · skip
          exact g_return dX5_readTerm_68 rfl (hPo _ ⟨hMh4, (Fr.tr (Fr.sub hFh1 rfl) hFh4 rfl)⟩)
        · skip
          refine g_aload_n dX5_readTerm_22 rfl ?_
          refine g_cVP (as := []) (c_X5_sign_65  h4 hMh4) dX5_readTerm_23 mi_X5_sign in_X5_sign se_X5_sign ml_X5_56 rfl rfl rfl sh_65 rfl rfl (Nat.le_of_ble_eq_true rfl) (fun v8 q9 => ?_)
          obtain ⟨bv8, cv8, zv8⟩ := q9
          refine g_cSP (av := [_]) (c_X5_isTermSign _ h4 hMh4 (by omega) (by omega)) dX5_readTerm_26 mi_X5_isTermSign st_X5_isTermSign ml_X5_111 rfl rfl rfl rfl (Nat.le_of_ble_eq_true rfl) (fun v10 q11 => ?_)
          obtain ⟨bv10, cv10⟩ := q11
          refine g_if_eq 68 dX5_readTerm_29 (by decide) (fun q12 => ?_) (fun q12 => ?_)
          · skip
            exact g_return dX5_readTerm_68 rfl (hPo _ ⟨hMh4, (Fr.tr (Fr.sub hFh1 rfl) hFh4 rfl)⟩)
          · skip
            refine g_aload_n dX5_readTerm_32 rfl ?_
            refine g_cVP (as := []) (c_X5_sign_65  h4 hMh4) dX5_readTerm_33 mi_X5_sign in_X5_sign se_X5_sign ml_X5_56 rfl rfl rfl sh_65 rfl rfl (Nat.le_of_ble_eq_true rfl) (fun v13 q14 => ?_)
            obtain ⟨bv13, cv13, zv13⟩ := q14
            have tv13 : v13 = v8 := by rw [zv13, zv8]
            refine g_istore dX5_readTerm_36 (by decide) rfl ?_
            refine g_aload_n dX5_readTerm_38 rfl ?_
            refine g_dup dX5_readTerm_39 rfl ?_
            refine gI_X5_19 rfl dX5_readTerm_40 sh_65 (m_65_2 hMh4) (fun v15 ev15 bv15 cv15 => ?_)
            refine g_iconst dX5_readTerm_43 (inR_c rfl) ?_
            refine g_iaddF dX5_readTerm_44 (fun v16 bv16 cv16 => ?_)
            refine pI_X5_19 rfl dX5_readTerm_45 sh_65 (fun h17 eh17 => ?_)
            have hFh17 := Fr.st eh17
            have hMh17 := u_65_2 hMh4 eh17 (by omega) (by omega)
            refine g_aload_n dX5_readTerm_48 rfl ?_
            refine g_aload_n dX5_readTerm_49 rfl ?_
            refine g_iload_n dX5_readTerm_50 rfl (fun _ => ?_)
            refine g_cVV (as := [_, _]) (c_X5_readFactor_65_90_k1  h17 hMh17) dX5_readTerm_51 mi_X5_readFactor in_X5_readFactor se_X5_readFactor ml_X5_108 rfl rfl rfl sh_65 rfl rfl (Nat.le_of_ble_eq_true rfl) (fun h18 q19 => ?_)
            obtain ⟨hMh18, hFh18⟩ := q19
            refine g_aload_n dX5_readTerm_54 rfl ?_
            refine g_iload dX5_readTerm_55 rfl (fun _ => ?_)
            refine g_iconst dX5_readTerm_57 (inR_c rfl) ?_
            refine g_cV (as := [_, _]) (c_X2_addStep_90 _ _ h18 hMh18 (by omega) (by omega) (by omega) (by omega)) dX5_readTerm_58 mi_X2_addStep in_X2_addStep se_X2_addStep ml_X5_90 rfl rfl rfl sh_90 rfl rfl (Nat.le_of_ble_eq_true rfl) (fun v20 h21 q22 => ?_)
            obtain ⟨hMh21, hFh21, bv20, cv20⟩ := q22
            refine g_pop dX5_readTerm_61 rfl ?_
            refine g_iincB dX5_readTerm_62 rfl rfl (by omega) (by omega) ?_
            refine g_goto 8 dX5_readTerm_65 (by decide) ?_
            refine g_drop 4 ?_
            exact ih8 _ _ hMh21 (Fr.tr (Fr.tr (Fr.tr (Fr.sub hFh4 rfl) hFh17 rfl) hFh18 rfl) hFh21 rfl) (by omega) (by omega) (by omega)
  refine g_istore_n dX5_readTerm_7 (by decide) rfl ?_
  exact c8 201 _ _ hMh1 Fr.rf (by omega) (by omega) (by omega)
set_option maxRecDepth 100000 in
set_option maxHeartbeats 4000000 in
theorem c_X5_readSum_65_90_k1 (h : MEM) (hM : MBx h) : CV yX5_readSum cX5_readSum 5 (none) 23 [pR 65, pR 90, pI 1] h (fun h' => MBx h' ∧ Fr [(65, 3), (65, 4), (65, 5), (90, 2), (95, 0), (96, 0)] h h') := by
  refine CV.of (L0 := [some (pR 65), some (pR 90), some (pI 1), none, none]) rfl (Nat.le_of_ble_eq_true rfl) rfl (fun Po hPo hav => ?_)
  refine g_aload_n dX5_readSum_0 rfl ?_
  refine g_aload_n dX5_readSum_1 rfl ?_
  refine g_iload_n dX5_readSum_2 rfl (fun _ => ?_)
  refine g_cVV (as := [_, _]) (c_X5_readTerm_65_90_k1  h hM) dX5_readSum_3 mi_X5_readTerm in_X5_readTerm se_X5_readTerm ml_X5_105 rfl rfl rfl sh_65 rfl rfl (Nat.le_of_ble_eq_true rfl) (fun h1 q2 => ?_)
  obtain ⟨hMh1, hFh1⟩ := q2
  refine g_iconst dX5_readSum_6 (inR_c rfl) ?_
  have c8 : ∀ (n : Nat) (y3 : Int) (h4 : MEM), MBx h4 → Fr [(65, 3), (65, 4), (65, 5), (90, 2), (95, 0), (96, 0)] h1 h4 → 0 ≤ y3 → y3 ≤ 200 → 200 - y3 < (n : Int) → G yX5_readSum cX5_readSum 5 (none) none Po (23, 1380, 0, 0) 8 [some (pR 65), some (pR 90), some (pI 1), some (pI y3), none] [] SH h4 0 0 := by
    intro n
    induction n with
    | zero =>
      intro y3 h4 hMh4 hFh4 by3 dy3 hn
      exfalso; omega
    | succ n ih8 =>
      intro y3 h4 hMh4 hFh4 by3 dy3 hn
      refine g_iload_n dX5_readSum_8 rfl (fun _ => ?_)
      refine g_sipush dX5_readSum_9 (inR_c rfl) (by decide) ?_
      refine g_icmp_ge 76 dX5_readSum_12 (by decide) (fun q5 => ?_) (fun q5 => ?_)
      · skip
        exact g_return dX5_readSum_76 rfl (hPo _ ⟨hMh4, (Fr.tr (Fr.sub hFh1 rfl) hFh4 rfl)⟩)
      · skip
        refine g_aload_n dX5_readSum_15 rfl ?_
        refine gI_X5_22 rfl dX5_readSum_16 sh_65 (m_65_3 hMh4) (fun v6 ev6 bv6 cv6 => ?_)
        refine g_if_ne 76 dX5_readSum_19 (by decide) (fun q7 => ?_) (fun q7 => ?_)
        · skip
          exact g_return dX5_readSum_76 rfl (hPo _ ⟨hMh4, (Fr.tr (Fr.sub hFh1 rfl) hFh4 rfl)⟩)
        · skip
          refine g_aload_n dX5_readSum_22 rfl ?_
          refine g_cVP (as := []) (c_X5_sign_65  h4 hMh4) dX5_readSum_23 mi_X5_sign in_X5_sign se_X5_sign ml_X5_56 rfl rfl rfl sh_65 rfl rfl (Nat.le_of_ble_eq_true rfl) (fun v8 q9 => ?_)
          obtain ⟨bv8, cv8, zv8⟩ := q9
          refine g_bipush dX5_readSum_26 (inR_c rfl) (by decide) ?_
          have c40 : G yX5_readSum cX5_readSum 5 (none) none Po (23, 1380, 0, 0) 40 [some (pR 65), some (pR 90), some (pI 1), some (pI y3), none] [] SH h4 0 0 := by
            refine g_aload_n dX5_readSum_40 rfl ?_
            refine g_cVP (as := []) (c_X5_sign_65  h4 hMh4) dX5_readSum_41 mi_X5_sign in_X5_sign se_X5_sign ml_X5_56 rfl rfl rfl sh_65 rfl rfl (Nat.le_of_ble_eq_true rfl) (fun v10 q11 => ?_)
            obtain ⟨bv10, cv10, zv10⟩ := q11
            have tv10 : v10 = v8 := by rw [zv10, zv8]
            refine g_istore dX5_readSum_44 (by decide) rfl ?_
            refine g_aload_n dX5_readSum_46 rfl ?_
            refine g_dup dX5_readSum_47 rfl ?_
            refine gI_X5_19 rfl dX5_readSum_48 sh_65 (m_65_2 hMh4) (fun v12 ev12 bv12 cv12 => ?_)
            refine g_iconst dX5_readSum_51 (inR_c rfl) ?_
            refine g_iaddF dX5_readSum_52 (fun v13 bv13 cv13 => ?_)
            refine pI_X5_19 rfl dX5_readSum_53 sh_65 (fun h14 eh14 => ?_)
            have hFh14 := Fr.st eh14
            have hMh14 := u_65_2 hMh4 eh14 (by omega) (by omega)
            refine g_aload_n dX5_readSum_56 rfl ?_
            refine g_aload_n dX5_readSum_57 rfl ?_
            refine g_iload_n dX5_readSum_58 rfl (fun _ => ?_)
            refine g_cVV (as := [_, _]) (c_X5_readTerm_65_90_k1  h14 hMh14) dX5_readSum_59 mi_X5_readTerm in_X5_readTerm se_X5_readTerm ml_X5_105 rfl rfl rfl sh_65 rfl rfl (Nat.le_of_ble_eq_true rfl) (fun h15 q16 => ?_)
            obtain ⟨hMh15, hFh15⟩ := q16
            refine g_aload_n dX5_readSum_62 rfl ?_
            refine g_iload dX5_readSum_63 rfl (fun _ => ?_)
            refine g_iconst dX5_readSum_65 (inR_c rfl) ?_
            refine g_cV (as := [_, _]) (c_X2_addStep_90 _ _ h15 hMh15 (by omega) (by omega) (by omega) (by omega)) dX5_readSum_66 mi_X2_addStep in_X2_addStep se_X2_addStep ml_X5_90 rfl rfl rfl sh_90 rfl rfl (Nat.le_of_ble_eq_true rfl) (fun v17 h18 q19 => ?_)
            obtain ⟨hMh18, hFh18, bv17, cv17⟩ := q19
            refine g_pop dX5_readSum_69 rfl ?_
            refine g_iincB dX5_readSum_70 rfl rfl (by omega) (by omega) ?_
            refine g_goto 8 dX5_readSum_73 (by decide) ?_
            refine g_drop 4 ?_
            exact ih8 _ _ hMh18 (Fr.tr (Fr.tr (Fr.tr (Fr.sub hFh4 rfl) hFh14 rfl) hFh15 rfl) hFh18 rfl) (by omega) (by omega) (by omega)
          refine g_icmp_eq 40 dX5_readSum_28 (by decide) (fun q20 => ?_) (fun q20 => ?_)
          · skip
            exact c40 
          · skip
            refine g_aload_n dX5_readSum_31 rfl ?_
            refine g_cVP (as := []) (c_X5_sign_65  h4 hMh4) dX5_readSum_32 mi_X5_sign in_X5_sign se_X5_sign ml_X5_56 rfl rfl rfl sh_65 rfl rfl (Nat.le_of_ble_eq_true rfl) (fun v21 q22 => ?_)
            obtain ⟨bv21, cv21, zv21⟩ := q22
            have tv21 : v21 = v8 := by rw [zv21, zv8]
            refine g_bipush dX5_readSum_35 (inR_c rfl) (by decide) ?_
            refine g_icmp_ne 76 dX5_readSum_37 (by decide) (fun q23 => ?_) (fun q23 => ?_)
            · skip
              exact g_return dX5_readSum_76 rfl (hPo _ ⟨hMh4, (Fr.tr (Fr.sub hFh1 rfl) hFh4 rfl)⟩)
            · skip
              exact c40 
  refine g_istore_n dX5_readSum_7 (by decide) rfl ?_
  exact c8 201 _ _ hMh1 Fr.rf (by omega) (by omega) (by omega)
set_option maxRecDepth 100000 in
set_option maxHeartbeats 4000000 in
theorem c_X5_readFactor_65_90_k0 (h : MEM) (hM : MBx h) : CV yX5_readFactor cX5_readFactor 5 (none) 24 [pR 65, pR 90, pI 0] h (fun h' => MBx h' ∧ Fr [(65, 3), (65, 4), (65, 5), (90, 2), (95, 0), (96, 0)] h h') := by
  refine CV.of (L0 := [some (pR 65), some (pR 90), some (pI 0), none, none]) rfl (Nat.le_of_ble_eq_true rfl) rfl (fun Po hPo hav => ?_)
  refine g_aload_n dX5_readFactor_0 rfl ?_
  refine g_cVP (as := []) (c_X5_sign_65  h hM) dX5_readFactor_1 mi_X5_sign in_X5_sign se_X5_sign ml_X5_56 rfl rfl rfl sh_65 rfl rfl (Nat.le_of_ble_eq_true rfl) (fun v1 q2 => ?_)
  obtain ⟨bv1, cv1, zv1⟩ := q2
  refine g_istore_n dX5_readFactor_4 (by decide) rfl ?_
  refine g_sidx_n1 rfl rfl dX5_readFactor_5 dX5_readFactor_7 dX5_readFactor_8 ml_X5_66 rfl (Nat.le_of_ble_eq_true rfl) (fun v3 bv3 cv3 => ?_)
  refine g_istore dX5_readFactor_11 (by decide) rfl ?_
  refine g_iload_n dX5_readFactor_13 rfl (fun _ => ?_)
  refine g_bipush dX5_readFactor_14 (inR_c rfl) (by decide) ?_
  refine g_icmp_ne 30 dX5_readFactor_16 (by decide) (fun q4 => ?_) (fun q4 => ?_)
  · skip
    refine g_aload_n dX5_readFactor_30 rfl ?_
    refine gI_X5_22 rfl dX5_readFactor_31 sh_65 (m_65_3 hM) (fun v5 ev5 bv5 cv5 => ?_)
    refine g_if_eq 38 dX5_readFactor_34 (by decide) (fun q6 => ?_) (fun q6 => ?_)
    · skip
      refine g_iload_n dX5_readFactor_38 rfl (fun _ => ?_)
      refine g_bipush dX5_readFactor_39 (inR_c rfl) (by decide) ?_
      refine g_icmp_ne 71 dX5_readFactor_41 (by decide) (fun q7 => ?_) (fun _ => by exfalso; omega)
      refine g_iload_n dX5_readFactor_71 rfl (fun _ => ?_)
      refine g_cSP (av := [_]) (c_X5_isDigit _ h hM (by omega) (by omega)) dX5_readFactor_72 mi_X5_isDigit st_X5_isDigit ml_X5_117 rfl rfl rfl rfl (Nat.le_of_ble_eq_true rfl) (fun v8 q9 => ?_)
      obtain ⟨bv8, cv8⟩ := q9
      refine g_if_eq 86 dX5_readFactor_75 (by decide) (fun q10 => ?_) (fun q10 => ?_)
      · skip
        refine g_iload dX5_readFactor_86 rfl (fun _ => ?_)
        refine g_if_lt 112 dX5_readFactor_88 (by decide) (fun q11 => ?_) (fun q11 => ?_)
        · skip
          refine g_aload_n dX5_readFactor_112 rfl ?_
          refine g_iconst dX5_readFactor_113 (inR_c rfl) ?_
          refine g_cVV (as := [_]) (c_X5_fail_65 _ h hM (by omega) (by omega)) dX5_readFactor_114 mi_X5_fail in_X5_fail se_X5_fail ml_X5_60 rfl rfl rfl sh_65 rfl rfl (Nat.le_of_ble_eq_true rfl) (fun h12 q13 => ?_)
          obtain ⟨hMh12, hFh12, az14, bz14⟩ := q13
          obtain ⟨v15, ev15⟩ : ∃ z, z = h12 65 3 := ⟨_, rfl⟩
          have bv15 : 1 ≤ v15 ∧ v15 ≤ 5 := by rw [ev15]; exact ⟨az14, bz14⟩
          exact g_return dX5_readFactor_117 rfl (hPo _ ⟨hMh12, (Fr.sub hFh12 rfl)⟩)
        · skip
          refine g_aload_n dX5_readFactor_91 rfl ?_
          refine g_dup dX5_readFactor_92 rfl ?_
          refine gI_X5_19 rfl dX5_readFactor_93 sh_65 (m_65_2 hM) (fun v16 ev16 bv16 cv16 => ?_)
          refine g_iconst dX5_readFactor_96 (inR_c rfl) ?_
          refine g_iaddF dX5_readFactor_97 (fun v17 bv17 cv17 => ?_)
          refine pI_X5_19 rfl dX5_readFactor_98 sh_65 (fun h18 eh18 => ?_)
          have hFh18 := Fr.st eh18
          have hMh18 := u_65_2 hM eh18 (by omega) (by omega)
          refine g_aload_n dX5_readFactor_101 rfl ?_
          refine g_iconst dX5_readFactor_102 (inR_c rfl) ?_
          refine g_iload dX5_readFactor_103 rfl (fun _ => ?_)
          refine g_cV (as := [_, _]) (c_X2_addStep_90 _ _ h18 hMh18 (by omega) (by omega) (by omega) (by omega)) dX5_readFactor_105 mi_X2_addStep in_X2_addStep se_X2_addStep ml_X5_90 rfl rfl rfl sh_90 rfl rfl (Nat.le_of_ble_eq_true rfl) (fun v19 h20 q21 => ?_)
          obtain ⟨hMh20, hFh20, bv19, cv19⟩ := q21
          refine g_pop dX5_readFactor_108 rfl ?_
          refine g_goto 117 dX5_readFactor_109 (by decide) ?_
          exact g_return dX5_readFactor_117 rfl (hPo _ ⟨hMh20, (Fr.tr (Fr.sub hFh18 rfl) hFh20 rfl)⟩)
      · skip
        refine g_aload_n dX5_readFactor_78 rfl ?_
        refine g_aload_n dX5_readFactor_79 rfl ?_
        refine g_cVV (as := [_]) (c_X5_readNumber_65_90  h hM) dX5_readFactor_80 mi_X5_readNumber in_X5_readNumber se_X5_readNumber ml_X5_120 rfl rfl rfl sh_65 rfl rfl (Nat.le_of_ble_eq_true rfl) (fun h22 q23 => ?_)
        obtain ⟨hMh22, hFh22⟩ := q23
        refine g_goto 117 dX5_readFactor_83 (by decide) ?_
        exact g_return dX5_readFactor_117 rfl (hPo _ ⟨hMh22, (Fr.sub hFh22 rfl)⟩)
    · skip
      exact g_return dX5_readFactor_37 rfl (hPo _ ⟨hM, Fr.rf⟩)
  · skip
    refine g_iload_n dX5_readFactor_19 rfl (fun _ => ?_)
    refine g_bipush dX5_readFactor_20 (inR_c rfl) (by decide) ?_
    refine g_icmp_lt 30 dX5_readFactor_22 (by decide) (fun q24 => ?_) (fun _ => by exfalso; omega)
    refine g_aload_n dX5_readFactor_30 rfl ?_
    refine gI_X5_22 rfl dX5_readFactor_31 sh_65 (m_65_3 hM) (fun v25 ev25 bv25 cv25 => ?_)
    refine g_if_eq 38 dX5_readFactor_34 (by decide) (fun q26 => ?_) (fun q26 => ?_)
    · skip
      refine g_iload_n dX5_readFactor_38 rfl (fun _ => ?_)
      refine g_bipush dX5_readFactor_39 (inR_c rfl) (by decide) ?_
      refine g_icmp_ne 71 dX5_readFactor_41 (by decide) (fun _ => by exfalso; omega) (fun q27 => ?_)
      refine g_aload_n dX5_readFactor_44 rfl ?_
      refine g_dup dX5_readFactor_45 rfl ?_
      refine gI_X5_19 rfl dX5_readFactor_46 sh_65 (m_65_2 hM) (fun v28 ev28 bv28 cv28 => ?_)
      refine g_iconst dX5_readFactor_49 (inR_c rfl) ?_
      refine g_iaddF dX5_readFactor_50 (fun v29 bv29 cv29 => ?_)
      refine pI_X5_19 rfl dX5_readFactor_51 sh_65 (fun h30 eh30 => ?_)
      have hFh30 := Fr.st eh30
      have hMh30 := u_65_2 hM eh30 (by omega) (by omega)
      refine g_aload_n dX5_readFactor_54 rfl ?_
      refine g_aload_n dX5_readFactor_55 rfl ?_
      refine g_iload_n dX5_readFactor_56 rfl (fun _ => ?_)
      refine g_iconst dX5_readFactor_57 (inR_c rfl) ?_
      refine g_iaddB dX5_readFactor_58 (by omega) (by omega) ?_
      refine g_cVV (as := [_, _]) (c_X5_readSum_65_90_k1  h30 hMh30) dX5_readFactor_59 mi_X5_readSum in_X5_readSum se_X5_readSum ml_X5_74 rfl rfl rfl sh_65 rfl rfl (Nat.le_of_ble_eq_true rfl) (fun h31 q32 => ?_)
      obtain ⟨hMh31, hFh31⟩ := q32
      refine g_aload_n dX5_readFactor_62 rfl ?_
      refine g_bipush dX5_readFactor_63 (inR_c rfl) (by decide) ?_
      refine g_cVV (as := [_]) (c_X5_expect_65 _ h31 hMh31 (by omega) (by omega)) dX5_readFactor_65 mi_X5_expect in_X5_expect se_X5_expect ml_X5_52 rfl rfl rfl sh_65 rfl rfl (Nat.le_of_ble_eq_true rfl) (fun h33 q34 => ?_)
      obtain ⟨hMh33, hFh33⟩ := q34
      refine g_goto 117 dX5_readFactor_68 (by decide) ?_
      exact g_return dX5_readFactor_117 rfl (hPo _ ⟨hMh33, (Fr.tr (Fr.tr (Fr.sub hFh30 rfl) hFh31 rfl) hFh33 rfl)⟩)
    · skip
      exact g_return dX5_readFactor_37 rfl (hPo _ ⟨hM, Fr.rf⟩)
set_option maxRecDepth 100000 in
set_option maxHeartbeats 4000000 in
theorem c_X5_readTerm_65_90_k0 (h : MEM) (hM : MBx h) : CV yX5_readTerm cX5_readTerm 5 (none) 25 [pR 65, pR 90, pI 0] h (fun h' => MBx h' ∧ Fr [(65, 3), (65, 4), (65, 5), (90, 2), (95, 0), (96, 0)] h h') := by
  refine CV.of (L0 := [some (pR 65), some (pR 90), some (pI 0), none, none]) rfl (Nat.le_of_ble_eq_true rfl) rfl (fun Po hPo hav => ?_)
  refine g_aload_n dX5_readTerm_0 rfl ?_
  refine g_aload_n dX5_readTerm_1 rfl ?_
  refine g_iload_n dX5_readTerm_2 rfl (fun _ => ?_)
  refine g_cVV (as := [_, _]) (c_X5_readFactor_65_90_k0  h hM) dX5_readTerm_3 mi_X5_readFactor in_X5_readFactor se_X5_readFactor ml_X5_108 rfl rfl rfl sh_65 rfl rfl (Nat.le_of_ble_eq_true rfl) (fun h1 q2 => ?_)
  obtain ⟨hMh1, hFh1⟩ := q2
  refine g_iconst dX5_readTerm_6 (inR_c rfl) ?_
  have c8 : ∀ (n : Nat) (y3 : Int) (h4 : MEM), MBx h4 → Fr [(65, 3), (65, 4), (65, 5), (90, 2), (95, 0), (96, 0)] h1 h4 → 0 ≤ y3 → y3 ≤ 200 → 200 - y3 < (n : Int) → G yX5_readTerm cX5_readTerm 5 (none) none Po (25, 1500, 0, 0) 8 [some (pR 65), some (pR 90), some (pI 0), some (pI y3), none] [] SH h4 0 0 := by
    intro n
    induction n with
    | zero =>
      intro y3 h4 hMh4 hFh4 by3 dy3 hn
      exfalso; omega
    | succ n ih8 =>
      intro y3 h4 hMh4 hFh4 by3 dy3 hn
      refine g_iload_n dX5_readTerm_8 rfl (fun _ => ?_)
      refine g_sipush dX5_readTerm_9 (inR_c rfl) (by decide) ?_
      refine g_icmp_ge 68 dX5_readTerm_12 (by decide) (fun q5 => ?_) (fun q5 => ?_)
      · skip
        exact g_return dX5_readTerm_68 rfl (hPo _ ⟨hMh4, (Fr.tr (Fr.sub hFh1 rfl) hFh4 rfl)⟩)
      · skip
        refine g_aload_n dX5_readTerm_15 rfl ?_
        refine gI_X5_22 rfl dX5_readTerm_16 sh_65 (m_65_3 hMh4) (fun v6 ev6 bv6 cv6 => ?_)
        refine g_if_ne 68 dX5_readTerm_19 (by decide) (fun q7 => ?_) (fun q7 => ?_)
        · skip
          exact g_return dX5_readTerm_68 rfl (hPo _ ⟨hMh4, (Fr.tr (Fr.sub hFh1 rfl) hFh4 rfl)⟩)
        · skip
          refine g_aload_n dX5_readTerm_22 rfl ?_
          refine g_cVP (as := []) (c_X5_sign_65  h4 hMh4) dX5_readTerm_23 mi_X5_sign in_X5_sign se_X5_sign ml_X5_56 rfl rfl rfl sh_65 rfl rfl (Nat.le_of_ble_eq_true rfl) (fun v8 q9 => ?_)
          obtain ⟨bv8, cv8, zv8⟩ := q9
          refine g_cSP (av := [_]) (c_X5_isTermSign _ h4 hMh4 (by omega) (by omega)) dX5_readTerm_26 mi_X5_isTermSign st_X5_isTermSign ml_X5_111 rfl rfl rfl rfl (Nat.le_of_ble_eq_true rfl) (fun v10 q11 => ?_)
          obtain ⟨bv10, cv10⟩ := q11
          refine g_if_eq 68 dX5_readTerm_29 (by decide) (fun q12 => ?_) (fun q12 => ?_)
          · skip
            exact g_return dX5_readTerm_68 rfl (hPo _ ⟨hMh4, (Fr.tr (Fr.sub hFh1 rfl) hFh4 rfl)⟩)
          · skip
            refine g_aload_n dX5_readTerm_32 rfl ?_
            refine g_cVP (as := []) (c_X5_sign_65  h4 hMh4) dX5_readTerm_33 mi_X5_sign in_X5_sign se_X5_sign ml_X5_56 rfl rfl rfl sh_65 rfl rfl (Nat.le_of_ble_eq_true rfl) (fun v13 q14 => ?_)
            obtain ⟨bv13, cv13, zv13⟩ := q14
            have tv13 : v13 = v8 := by rw [zv13, zv8]
            refine g_istore dX5_readTerm_36 (by decide) rfl ?_
            refine g_aload_n dX5_readTerm_38 rfl ?_
            refine g_dup dX5_readTerm_39 rfl ?_
            refine gI_X5_19 rfl dX5_readTerm_40 sh_65 (m_65_2 hMh4) (fun v15 ev15 bv15 cv15 => ?_)
            refine g_iconst dX5_readTerm_43 (inR_c rfl) ?_
            refine g_iaddF dX5_readTerm_44 (fun v16 bv16 cv16 => ?_)
            refine pI_X5_19 rfl dX5_readTerm_45 sh_65 (fun h17 eh17 => ?_)
            have hFh17 := Fr.st eh17
            have hMh17 := u_65_2 hMh4 eh17 (by omega) (by omega)
            refine g_aload_n dX5_readTerm_48 rfl ?_
            refine g_aload_n dX5_readTerm_49 rfl ?_
            refine g_iload_n dX5_readTerm_50 rfl (fun _ => ?_)
            refine g_cVV (as := [_, _]) (c_X5_readFactor_65_90_k0  h17 hMh17) dX5_readTerm_51 mi_X5_readFactor in_X5_readFactor se_X5_readFactor ml_X5_108 rfl rfl rfl sh_65 rfl rfl (Nat.le_of_ble_eq_true rfl) (fun h18 q19 => ?_)
            obtain ⟨hMh18, hFh18⟩ := q19
            refine g_aload_n dX5_readTerm_54 rfl ?_
            refine g_iload dX5_readTerm_55 rfl (fun _ => ?_)
            refine g_iconst dX5_readTerm_57 (inR_c rfl) ?_
            refine g_cV (as := [_, _]) (c_X2_addStep_90 _ _ h18 hMh18 (by omega) (by omega) (by omega) (by omega)) dX5_readTerm_58 mi_X2_addStep in_X2_addStep se_X2_addStep ml_X5_90 rfl rfl rfl sh_90 rfl rfl (Nat.le_of_ble_eq_true rfl) (fun v20 h21 q22 => ?_)
            obtain ⟨hMh21, hFh21, bv20, cv20⟩ := q22
            refine g_pop dX5_readTerm_61 rfl ?_
            refine g_iincB dX5_readTerm_62 rfl rfl (by omega) (by omega) ?_
            refine g_goto 8 dX5_readTerm_65 (by decide) ?_
            refine g_drop 4 ?_
            exact ih8 _ _ hMh21 (Fr.tr (Fr.tr (Fr.tr (Fr.sub hFh4 rfl) hFh17 rfl) hFh18 rfl) hFh21 rfl) (by omega) (by omega) (by omega)
  refine g_istore_n dX5_readTerm_7 (by decide) rfl ?_
  exact c8 201 _ _ hMh1 Fr.rf (by omega) (by omega) (by omega)
set_option maxRecDepth 100000 in
set_option maxHeartbeats 4000000 in
theorem c_X5_readSum_65_90_k0 (h : MEM) (hM : MBx h) : CV yX5_readSum cX5_readSum 5 (none) 26 [pR 65, pR 90, pI 0] h (fun h' => MBx h' ∧ Fr [(65, 3), (65, 4), (65, 5), (90, 2), (95, 0), (96, 0)] h h') := by
  refine CV.of (L0 := [some (pR 65), some (pR 90), some (pI 0), none, none]) rfl (Nat.le_of_ble_eq_true rfl) rfl (fun Po hPo hav => ?_)
  refine g_aload_n dX5_readSum_0 rfl ?_
  refine g_aload_n dX5_readSum_1 rfl ?_
  refine g_iload_n dX5_readSum_2 rfl (fun _ => ?_)
  refine g_cVV (as := [_, _]) (c_X5_readTerm_65_90_k0  h hM) dX5_readSum_3 mi_X5_readTerm in_X5_readTerm se_X5_readTerm ml_X5_105 rfl rfl rfl sh_65 rfl rfl (Nat.le_of_ble_eq_true rfl) (fun h1 q2 => ?_)
  obtain ⟨hMh1, hFh1⟩ := q2
  refine g_iconst dX5_readSum_6 (inR_c rfl) ?_
  have c8 : ∀ (n : Nat) (y3 : Int) (h4 : MEM), MBx h4 → Fr [(65, 3), (65, 4), (65, 5), (90, 2), (95, 0), (96, 0)] h1 h4 → 0 ≤ y3 → y3 ≤ 200 → 200 - y3 < (n : Int) → G yX5_readSum cX5_readSum 5 (none) none Po (26, 1560, 0, 0) 8 [some (pR 65), some (pR 90), some (pI 0), some (pI y3), none] [] SH h4 0 0 := by
    intro n
    induction n with
    | zero =>
      intro y3 h4 hMh4 hFh4 by3 dy3 hn
      exfalso; omega
    | succ n ih8 =>
      intro y3 h4 hMh4 hFh4 by3 dy3 hn
      refine g_iload_n dX5_readSum_8 rfl (fun _ => ?_)
      refine g_sipush dX5_readSum_9 (inR_c rfl) (by decide) ?_
      refine g_icmp_ge 76 dX5_readSum_12 (by decide) (fun q5 => ?_) (fun q5 => ?_)
      · skip
        exact g_return dX5_readSum_76 rfl (hPo _ ⟨hMh4, (Fr.tr (Fr.sub hFh1 rfl) hFh4 rfl)⟩)
      · skip
        refine g_aload_n dX5_readSum_15 rfl ?_
        refine gI_X5_22 rfl dX5_readSum_16 sh_65 (m_65_3 hMh4) (fun v6 ev6 bv6 cv6 => ?_)
        refine g_if_ne 76 dX5_readSum_19 (by decide) (fun q7 => ?_) (fun q7 => ?_)
        · skip
          exact g_return dX5_readSum_76 rfl (hPo _ ⟨hMh4, (Fr.tr (Fr.sub hFh1 rfl) hFh4 rfl)⟩)
        · skip
          refine g_aload_n dX5_readSum_22 rfl ?_
          refine g_cVP (as := []) (c_X5_sign_65  h4 hMh4) dX5_readSum_23 mi_X5_sign in_X5_sign se_X5_sign ml_X5_56 rfl rfl rfl sh_65 rfl rfl (Nat.le_of_ble_eq_true rfl) (fun v8 q9 => ?_)
          obtain ⟨bv8, cv8, zv8⟩ := q9
          refine g_bipush dX5_readSum_26 (inR_c rfl) (by decide) ?_
          have c40 : G yX5_readSum cX5_readSum 5 (none) none Po (26, 1560, 0, 0) 40 [some (pR 65), some (pR 90), some (pI 0), some (pI y3), none] [] SH h4 0 0 := by
            refine g_aload_n dX5_readSum_40 rfl ?_
            refine g_cVP (as := []) (c_X5_sign_65  h4 hMh4) dX5_readSum_41 mi_X5_sign in_X5_sign se_X5_sign ml_X5_56 rfl rfl rfl sh_65 rfl rfl (Nat.le_of_ble_eq_true rfl) (fun v10 q11 => ?_)
            obtain ⟨bv10, cv10, zv10⟩ := q11
            have tv10 : v10 = v8 := by rw [zv10, zv8]
            refine g_istore dX5_readSum_44 (by decide) rfl ?_
            refine g_aload_n dX5_readSum_46 rfl ?_
            refine g_dup dX5_readSum_47 rfl ?_
            refine gI_X5_19 rfl dX5_readSum_48 sh_65 (m_65_2 hMh4) (fun v12 ev12 bv12 cv12 => ?_)
            refine g_iconst dX5_readSum_51 (inR_c rfl) ?_
            refine g_iaddF dX5_readSum_52 (fun v13 bv13 cv13 => ?_)
            refine pI_X5_19 rfl dX5_readSum_53 sh_65 (fun h14 eh14 => ?_)
            have hFh14 := Fr.st eh14
            have hMh14 := u_65_2 hMh4 eh14 (by omega) (by omega)
            refine g_aload_n dX5_readSum_56 rfl ?_
            refine g_aload_n dX5_readSum_57 rfl ?_
            refine g_iload_n dX5_readSum_58 rfl (fun _ => ?_)
            refine g_cVV (as := [_, _]) (c_X5_readTerm_65_90_k0  h14 hMh14) dX5_readSum_59 mi_X5_readTerm in_X5_readTerm se_X5_readTerm ml_X5_105 rfl rfl rfl sh_65 rfl rfl (Nat.le_of_ble_eq_true rfl) (fun h15 q16 => ?_)
            obtain ⟨hMh15, hFh15⟩ := q16
            refine g_aload_n dX5_readSum_62 rfl ?_
            refine g_iload dX5_readSum_63 rfl (fun _ => ?_)
            refine g_iconst dX5_readSum_65 (inR_c rfl) ?_
            refine g_cV (as := [_, _]) (c_X2_addStep_90 _ _ h15 hMh15 (by omega) (by omega) (by omega) (by omega)) dX5_readSum_66 mi_X2_addStep in_X2_addStep se_X2_addStep ml_X5_90 rfl rfl rfl sh_90 rfl rfl (Nat.le_of_ble_eq_true rfl) (fun v17 h18 q19 => ?_)
            obtain ⟨hMh18, hFh18, bv17, cv17⟩ := q19
            refine g_pop dX5_readSum_69 rfl ?_
            refine g_iincB dX5_readSum_70 rfl rfl (by omega) (by omega) ?_
            refine g_goto 8 dX5_readSum_73 (by decide) ?_
            refine g_drop 4 ?_
            exact ih8 _ _ hMh18 (Fr.tr (Fr.tr (Fr.tr (Fr.sub hFh4 rfl) hFh14 rfl) hFh15 rfl) hFh18 rfl) (by omega) (by omega) (by omega)
          refine g_icmp_eq 40 dX5_readSum_28 (by decide) (fun q20 => ?_) (fun q20 => ?_)
          · skip
            exact c40 
          · skip
            refine g_aload_n dX5_readSum_31 rfl ?_
            refine g_cVP (as := []) (c_X5_sign_65  h4 hMh4) dX5_readSum_32 mi_X5_sign in_X5_sign se_X5_sign ml_X5_56 rfl rfl rfl sh_65 rfl rfl (Nat.le_of_ble_eq_true rfl) (fun v21 q22 => ?_)
            obtain ⟨bv21, cv21, zv21⟩ := q22
            have tv21 : v21 = v8 := by rw [zv21, zv8]
            refine g_bipush dX5_readSum_35 (inR_c rfl) (by decide) ?_
            refine g_icmp_ne 76 dX5_readSum_37 (by decide) (fun q23 => ?_) (fun q23 => ?_)
            · skip
              exact g_return dX5_readSum_76 rfl (hPo _ ⟨hMh4, (Fr.tr (Fr.sub hFh1 rfl) hFh4 rfl)⟩)
            · skip
              exact c40 
  refine g_istore_n dX5_readSum_7 (by decide) rfl ?_
  exact c8 201 _ _ hMh1 Fr.rf (by omega) (by omega) (by omega)
set_option maxRecDepth 100000 in
set_option maxHeartbeats 4000000 in
theorem c_X2_beginCondition_90 (h : MEM) (hM : MBx h) : CV yX2_beginCondition cX2_beginCondition 1 (none) 1 [pR 90] h (fun h' => MBx h' ∧ Fr [(93, 0)] h h') := by
  refine CV.of (L0 := [some (pR 90)]) rfl (Nat.le_of_ble_eq_true rfl) rfl (fun Po hPo hav => ?_)
  refine g_aload_n dX2_beginCondition_0 rfl ?_
  refine gI_X2_9 rfl dX2_beginCondition_1 sh_90 (m_90_0 hM) (fun v1 ev1 bv1 cv1 => ?_)
  refine g_bipush dX2_beginCondition_4 (inR_c rfl) (by decide) ?_
  refine g_icmp_ge 22 dX2_beginCondition_6 (by decide) (fun q2 => ?_) (fun q2 => ?_)
  · skip
    exact g_return dX2_beginCondition_22 rfl (hPo _ ⟨hM, Fr.rf⟩)
  · skip
    refine g_aload_n dX2_beginCondition_9 rfl ?_
    refine gR_X2_25 rfl dX2_beginCondition_10 sh_90 (b := 93) (m_90_4 hM) ?_
    refine g_aload_n dX2_beginCondition_13 rfl ?_
    refine gE_X2_9 rfl dX2_beginCondition_14 sh_90 ev1.symm ?_
    refine g_aload_n dX2_beginCondition_17 rfl ?_
    refine gI_X2_15 rfl dX2_beginCondition_18 sh_90 (m_90_1 hM) (fun v3 ev3 bv3 cv3 => ?_)
    refine g_iastB dX2_beginCondition_21 sh_93 (by omega) (by omega) (fun h4 eh4 => ?_)
    have hFh4 := Fr.ar eh4
    have hMh4 := u_93 hM eh4 (by omega) (by omega)
    exact g_return dX2_beginCondition_22 rfl (hPo _ ⟨hMh4, (Fr.sub hFh4 rfl)⟩)
set_option maxRecDepth 100000 in
set_option maxHeartbeats 4000000 in
theorem c_X5_readComparison_65_90_k1 (h : MEM) (hM : MBx h) : CV yX5_readComparison cX5_readComparison 4 (none) 24 [pR 65, pR 90, pI 1] h (fun h' => MBx h' ∧ Fr [(65, 3), (65, 4), (65, 5), (90, 2), (95, 0), (96, 0)] h h') := by
  refine CV.of (L0 := [some (pR 65), some (pR 90), some (pI 1), none]) rfl (Nat.le_of_ble_eq_true rfl) rfl (fun Po hPo hav => ?_)
  refine g_aload_n dX5_readComparison_0 rfl ?_
  refine g_aload_n dX5_readComparison_1 rfl ?_
  refine g_iload_n dX5_readComparison_2 rfl (fun _ => ?_)
  refine g_cVV (as := [_, _]) (c_X5_readSum_65_90_k1  h hM) dX5_readComparison_3 mi_X5_readSum in_X5_readSum se_X5_readSum ml_X5_74 rfl rfl rfl sh_65 rfl rfl (Nat.le_of_ble_eq_true rfl) (fun h1 q2 => ?_)
  obtain ⟨hMh1, hFh1⟩ := q2
  refine g_aload_n dX5_readComparison_6 rfl ?_
  refine g_cVP (as := []) (c_X5_sign_65  h1 hMh1) dX5_readComparison_7 mi_X5_sign in_X5_sign se_X5_sign ml_X5_56 rfl rfl rfl sh_65 rfl rfl (Nat.le_of_ble_eq_true rfl) (fun v3 q4 => ?_)
  obtain ⟨bv3, cv3, zv3⟩ := q4
  refine g_istore_n dX5_readComparison_10 (by decide) rfl ?_
  refine g_aload_n dX5_readComparison_11 rfl ?_
  refine gI_X5_22 rfl dX5_readComparison_12 sh_65 (m_65_3 hMh1) (fun v5 ev5 bv5 cv5 => ?_)
  refine g_if_ne 27 dX5_readComparison_15 (by decide) (fun q6 => ?_) (fun q6 => ?_)
  · skip
    refine g_aload_n dX5_readComparison_27 rfl ?_
    refine g_iconst dX5_readComparison_28 (inR_c rfl) ?_
    refine g_cVV (as := [_]) (c_X5_fail_65 _ h1 hMh1 (by omega) (by omega)) dX5_readComparison_29 mi_X5_fail in_X5_fail se_X5_fail ml_X5_60 rfl rfl rfl sh_65 rfl rfl (Nat.le_of_ble_eq_true rfl) (fun h7 q8 => ?_)
    obtain ⟨hMh7, hFh7, az9, bz9⟩ := q8
    obtain ⟨v10, ev10⟩ : ∃ z, z = h7 65 3 := ⟨_, rfl⟩
    have bv10 : 1 ≤ v10 ∧ v10 ≤ 5 := by rw [ev10]; exact ⟨az9, bz9⟩
    exact g_return dX5_readComparison_32 rfl (hPo _ ⟨hMh7, (Fr.tr (Fr.sub hFh1 rfl) hFh7 rfl)⟩)
  · skip
    refine g_sidx_n2 rfl rfl dX5_readComparison_18 dX5_readComparison_20 dX5_readComparison_21 ml_X5_66 rfl (Nat.le_of_ble_eq_true rfl) (fun v11 bv11 cv11 => ?_)
    refine g_if_ge 33 dX5_readComparison_24 (by decide) (fun q12 => ?_) (fun q12 => ?_)
    · skip
      refine g_aload_n dX5_readComparison_33 rfl ?_
      refine g_dup dX5_readComparison_34 rfl ?_
      refine gI_X5_19 rfl dX5_readComparison_35 sh_65 (m_65_2 hMh1) (fun v13 ev13 bv13 cv13 => ?_)
      refine g_iconst dX5_readComparison_38 (inR_c rfl) ?_
      refine g_iaddF dX5_readComparison_39 (fun v14 bv14 cv14 => ?_)
      refine pI_X5_19 rfl dX5_readComparison_40 sh_65 (fun h15 eh15 => ?_)
      have hFh15 := Fr.st eh15
      have hMh15 := u_65_2 hMh1 eh15 (by omega) (by omega)
      refine g_aload_n dX5_readComparison_43 rfl ?_
      refine g_aload_n dX5_readComparison_44 rfl ?_
      refine g_iload_n dX5_readComparison_45 rfl (fun _ => ?_)
      refine g_cVV (as := [_, _]) (c_X5_readSum_65_90_k1  h15 hMh15) dX5_readComparison_46 mi_X5_readSum in_X5_readSum se_X5_readSum ml_X5_74 rfl rfl rfl sh_65 rfl rfl (Nat.le_of_ble_eq_true rfl) (fun h16 q17 => ?_)
      obtain ⟨hMh16, hFh16⟩ := q17
      refine g_aload_n dX5_readComparison_49 rfl ?_
      refine g_iload_n dX5_readComparison_50 rfl (fun _ => ?_)
      refine g_iconst dX5_readComparison_51 (inR_c rfl) ?_
      refine g_cV (as := [_, _]) (c_X2_addStep_90 _ _ h16 hMh16 (by omega) (by omega) (by omega) (by omega)) dX5_readComparison_52 mi_X2_addStep in_X2_addStep se_X2_addStep ml_X5_90 rfl rfl rfl sh_90 rfl rfl (Nat.le_of_ble_eq_true rfl) (fun v18 h19 q20 => ?_)
      obtain ⟨hMh19, hFh19, bv18, cv18⟩ := q20
      refine g_pop dX5_readComparison_55 rfl ?_
      exact g_return dX5_readComparison_56 rfl (hPo _ ⟨hMh19, (Fr.tr (Fr.tr (Fr.tr (Fr.sub hFh1 rfl) hFh15 rfl) hFh16 rfl) hFh19 rfl)⟩)
    · skip
      refine g_aload_n dX5_readComparison_27 rfl ?_
      refine g_iconst dX5_readComparison_28 (inR_c rfl) ?_
      refine g_cVV (as := [_]) (c_X5_fail_65 _ h1 hMh1 (by omega) (by omega)) dX5_readComparison_29 mi_X5_fail in_X5_fail se_X5_fail ml_X5_60 rfl rfl rfl sh_65 rfl rfl (Nat.le_of_ble_eq_true rfl) (fun h21 q22 => ?_)
      obtain ⟨hMh21, hFh21, az23, bz23⟩ := q22
      obtain ⟨v24, ev24⟩ : ∃ z, z = h21 65 3 := ⟨_, rfl⟩
      have bv24 : 1 ≤ v24 ∧ v24 ≤ 5 := by rw [ev24]; exact ⟨az23, bz23⟩
      exact g_return dX5_readComparison_32 rfl (hPo _ ⟨hMh21, (Fr.tr (Fr.sub hFh1 rfl) hFh21 rfl)⟩)
set_option maxRecDepth 100000 in
set_option maxHeartbeats 4000000 in
theorem c_X5_readComparison_65_90_k2 (h : MEM) (hM : MBx h) : CV yX5_readComparison cX5_readComparison 4 (none) 21 [pR 65, pR 90, pI 2] h (fun h' => MBx h' ∧ Fr [(65, 3), (65, 4), (65, 5), (90, 2), (95, 0), (96, 0)] h h') := by
  refine CV.of (L0 := [some (pR 65), some (pR 90), some (pI 2), none]) rfl (Nat.le_of_ble_eq_true rfl) rfl (fun Po hPo hav => ?_)
  refine g_aload_n dX5_readComparison_0 rfl ?_
  refine g_aload_n dX5_readComparison_1 rfl ?_
  refine g_iload_n dX5_readComparison_2 rfl (fun _ => ?_)
  refine g_cVV (as := [_, _]) (c_X5_readSum_65_90_k2  h hM) dX5_readComparison_3 mi_X5_readSum in_X5_readSum se_X5_readSum ml_X5_74 rfl rfl rfl sh_65 rfl rfl (Nat.le_of_ble_eq_true rfl) (fun h1 q2 => ?_)
  obtain ⟨hMh1, hFh1⟩ := q2
  refine g_aload_n dX5_readComparison_6 rfl ?_
  refine g_cVP (as := []) (c_X5_sign_65  h1 hMh1) dX5_readComparison_7 mi_X5_sign in_X5_sign se_X5_sign ml_X5_56 rfl rfl rfl sh_65 rfl rfl (Nat.le_of_ble_eq_true rfl) (fun v3 q4 => ?_)
  obtain ⟨bv3, cv3, zv3⟩ := q4
  refine g_istore_n dX5_readComparison_10 (by decide) rfl ?_
  refine g_aload_n dX5_readComparison_11 rfl ?_
  refine gI_X5_22 rfl dX5_readComparison_12 sh_65 (m_65_3 hMh1) (fun v5 ev5 bv5 cv5 => ?_)
  refine g_if_ne 27 dX5_readComparison_15 (by decide) (fun q6 => ?_) (fun q6 => ?_)
  · skip
    refine g_aload_n dX5_readComparison_27 rfl ?_
    refine g_iconst dX5_readComparison_28 (inR_c rfl) ?_
    refine g_cVV (as := [_]) (c_X5_fail_65 _ h1 hMh1 (by omega) (by omega)) dX5_readComparison_29 mi_X5_fail in_X5_fail se_X5_fail ml_X5_60 rfl rfl rfl sh_65 rfl rfl (Nat.le_of_ble_eq_true rfl) (fun h7 q8 => ?_)
    obtain ⟨hMh7, hFh7, az9, bz9⟩ := q8
    obtain ⟨v10, ev10⟩ : ∃ z, z = h7 65 3 := ⟨_, rfl⟩
    have bv10 : 1 ≤ v10 ∧ v10 ≤ 5 := by rw [ev10]; exact ⟨az9, bz9⟩
    exact g_return dX5_readComparison_32 rfl (hPo _ ⟨hMh7, (Fr.tr (Fr.sub hFh1 rfl) hFh7 rfl)⟩)
  · skip
    refine g_sidx_n2 rfl rfl dX5_readComparison_18 dX5_readComparison_20 dX5_readComparison_21 ml_X5_66 rfl (Nat.le_of_ble_eq_true rfl) (fun v11 bv11 cv11 => ?_)
    refine g_if_ge 33 dX5_readComparison_24 (by decide) (fun q12 => ?_) (fun q12 => ?_)
    · skip
      refine g_aload_n dX5_readComparison_33 rfl ?_
      refine g_dup dX5_readComparison_34 rfl ?_
      refine gI_X5_19 rfl dX5_readComparison_35 sh_65 (m_65_2 hMh1) (fun v13 ev13 bv13 cv13 => ?_)
      refine g_iconst dX5_readComparison_38 (inR_c rfl) ?_
      refine g_iaddF dX5_readComparison_39 (fun v14 bv14 cv14 => ?_)
      refine pI_X5_19 rfl dX5_readComparison_40 sh_65 (fun h15 eh15 => ?_)
      have hFh15 := Fr.st eh15
      have hMh15 := u_65_2 hMh1 eh15 (by omega) (by omega)
      refine g_aload_n dX5_readComparison_43 rfl ?_
      refine g_aload_n dX5_readComparison_44 rfl ?_
      refine g_iload_n dX5_readComparison_45 rfl (fun _ => ?_)
      refine g_cVV (as := [_, _]) (c_X5_readSum_65_90_k2  h15 hMh15) dX5_readComparison_46 mi_X5_readSum in_X5_readSum se_X5_readSum ml_X5_74 rfl rfl rfl sh_65 rfl rfl (Nat.le_of_ble_eq_true rfl) (fun h16 q17 => ?_)
      obtain ⟨hMh16, hFh16⟩ := q17
      refine g_aload_n dX5_readComparison_49 rfl ?_
      refine g_iload_n dX5_readComparison_50 rfl (fun _ => ?_)
      refine g_iconst dX5_readComparison_51 (inR_c rfl) ?_
      refine g_cV (as := [_, _]) (c_X2_addStep_90 _ _ h16 hMh16 (by omega) (by omega) (by omega) (by omega)) dX5_readComparison_52 mi_X2_addStep in_X2_addStep se_X2_addStep ml_X5_90 rfl rfl rfl sh_90 rfl rfl (Nat.le_of_ble_eq_true rfl) (fun v18 h19 q20 => ?_)
      obtain ⟨hMh19, hFh19, bv18, cv18⟩ := q20
      refine g_pop dX5_readComparison_55 rfl ?_
      exact g_return dX5_readComparison_56 rfl (hPo _ ⟨hMh19, (Fr.tr (Fr.tr (Fr.tr (Fr.sub hFh1 rfl) hFh15 rfl) hFh16 rfl) hFh19 rfl)⟩)
    · skip
      refine g_aload_n dX5_readComparison_27 rfl ?_
      refine g_iconst dX5_readComparison_28 (inR_c rfl) ?_
      refine g_cVV (as := [_]) (c_X5_fail_65 _ h1 hMh1 (by omega) (by omega)) dX5_readComparison_29 mi_X5_fail in_X5_fail se_X5_fail ml_X5_60 rfl rfl rfl sh_65 rfl rfl (Nat.le_of_ble_eq_true rfl) (fun h21 q22 => ?_)
      obtain ⟨hMh21, hFh21, az23, bz23⟩ := q22
      obtain ⟨v24, ev24⟩ : ∃ z, z = h21 65 3 := ⟨_, rfl⟩
      have bv24 : 1 ≤ v24 ∧ v24 ≤ 5 := by rw [ev24]; exact ⟨az23, bz23⟩
      exact g_return dX5_readComparison_32 rfl (hPo _ ⟨hMh21, (Fr.tr (Fr.sub hFh1 rfl) hFh21 rfl)⟩)
