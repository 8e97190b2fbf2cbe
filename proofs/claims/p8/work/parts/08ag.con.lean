set_option maxRecDepth 100000 in
set_option maxHeartbeats 4000000 in
theorem c_X5_readPart_65_82_k3 (h : MEM) (hM : MBx h) : CV yX5_readPart cX5_readPart 6 (none) 20 [pR 65, pR 82, pI 3] h (fun h' => MBx h' ∧ Fr [(65, 3), (65, 4), (65, 5), (82, 2), (87, 0), (88, 0)] h h') := by
  refine CV.of (L0 := [some (pR 65), some (pR 82), some (pI 3), none, none, none]) rfl (Nat.le_of_ble_eq_true rfl) rfl (fun Po hPo hav => ?_)
  refine g_aload_n dX5_readPart_0 rfl ?_
  refine g_aload_n dX5_readPart_1 rfl ?_
  refine g_iload_n dX5_readPart_2 rfl (fun _ => ?_)
  refine g_cVV (as := [_, _]) (c_X5_readPiece_65_82_k3  h hM) dX5_readPart_3 mi_X5_readPiece in_X5_readPiece se_X5_readPiece ml_X5_97 rfl rfl rfl sh_65 rfl rfl (Nat.le_of_ble_eq_true rfl) (fun h1 q2 => ?_)
  obtain ⟨hMh1, hFh1⟩ := q2
  refine g_iconst dX5_readPart_6 (inR_c rfl) ?_
  refine g_istore_n dX5_readPart_7 (by decide) rfl ?_
  refine g_iconst dX5_readPart_8 (inR_c rfl) ?_
  have c11 : ∀ (n : Nat) (y3 y4 : Int) (h5 : MEM), MBx h5 → Fr [(65, 3), (65, 4), (65, 5), (82, 2), (87, 0), (88, 0)] h1 h5 → -1 ≤ y3 → y3 ≤ 199 → 0 ≤ y4 → y4 ≤ 200 → 200 - y4 < (n : Int) → G yX5_readPart cX5_readPart 6 (none) none Po (20, 1200, 0, 0) 11 [some (pR 65), some (pR 82), some (pI 3), some (pI y3), some (pI y4), none] [] SH h5 0 0 := by
    intro n
    induction n with
    | zero =>
      intro y3 y4 h5 hMh5 hFh5 by3 dy3 by4 dy4 hn
      exfalso; omega
    | succ n ih11 =>
      intro y3 y4 h5 hMh5 hFh5 by3 dy3 by4 dy4 hn
      refine g_iload dX5_readPart_11 rfl (fun _ => ?_)
      refine g_sipush dX5_readPart_13 (inR_c rfl) (by decide) ?_
      refine g_icmp_ge 75 dX5_readPart_16 (by decide) (fun q6 => ?_) (fun q6 => ?_)
      · skip
        refine g_aload_n dX5_readPart_75 rfl ?_
        refine g_iload_n dX5_readPart_76 rfl (fun _ => ?_)
        refine g_aload_n dX5_readPart_77 rfl ?_
        refine gI_X5_45 rfl dX5_readPart_78 sh_82 (m_82_1 hMh5) (fun v7 ev7 bv7 cv7 => ?_)
        refine g_cVV (as := [_, _]) (c_X2_aim_82 _ _ h5 hMh5 (by omega) (by omega) (by omega) (by omega)) dX5_readPart_81 mi_X2_aim in_X2_aim se_X2_aim ml_X5_93 rfl rfl rfl sh_82 rfl rfl (Nat.le_of_ble_eq_true rfl) (fun h8 q9 => ?_)
        obtain ⟨hMh8, hFh8⟩ := q9
        exact g_return dX5_readPart_84 rfl (hPo _ ⟨hMh8, (Fr.tr (Fr.tr (Fr.sub hFh1 rfl) hFh5 rfl) hFh8 rfl)⟩)
      · skip
        refine g_aload_n dX5_readPart_19 rfl ?_
        refine gI_X5_22 rfl dX5_readPart_20 sh_65 (m_65_3 hMh5) (fun v10 ev10 bv10 cv10 => ?_)
        refine g_if_ne 75 dX5_readPart_23 (by decide) (fun q11 => ?_) (fun q11 => ?_)
        · skip
          refine g_aload_n dX5_readPart_75 rfl ?_
          refine g_iload_n dX5_readPart_76 rfl (fun _ => ?_)
          refine g_aload_n dX5_readPart_77 rfl ?_
          refine gI_X5_45 rfl dX5_readPart_78 sh_82 (m_82_1 hMh5) (fun v12 ev12 bv12 cv12 => ?_)
          refine g_cVV (as := [_, _]) (c_X2_aim_82 _ _ h5 hMh5 (by omega) (by omega) (by omega) (by omega)) dX5_readPart_81 mi_X2_aim in_X2_aim se_X2_aim ml_X5_93 rfl rfl rfl sh_82 rfl rfl (Nat.le_of_ble_eq_true rfl) (fun h13 q14 => ?_)
          obtain ⟨hMh13, hFh13⟩ := q14
          exact g_return dX5_readPart_84 rfl (hPo _ ⟨hMh13, (Fr.tr (Fr.tr (Fr.sub hFh1 rfl) hFh5 rfl) hFh13 rfl)⟩)
        · skip
          refine g_aload_n dX5_readPart_26 rfl ?_
          refine g_cVP (as := []) (c_X5_sign_65  h5 hMh5) dX5_readPart_27 mi_X5_sign in_X5_sign se_X5_sign ml_X5_56 rfl rfl rfl sh_65 rfl rfl (Nat.le_of_ble_eq_true rfl) (fun v15 q16 => ?_)
          obtain ⟨bv15, cv15, zv15⟩ := q16
          refine g_bipush dX5_readPart_30 (inR_c rfl) (by decide) ?_
          refine g_icmp_ne 75 dX5_readPart_32 (by decide) (fun q17 => ?_) (fun q17 => ?_)
          · skip
            refine g_aload_n dX5_readPart_75 rfl ?_
            refine g_iload_n dX5_readPart_76 rfl (fun _ => ?_)
            refine g_aload_n dX5_readPart_77 rfl ?_
            refine gI_X5_45 rfl dX5_readPart_78 sh_82 (m_82_1 hMh5) (fun v18 ev18 bv18 cv18 => ?_)
            refine g_cVV (as := [_, _]) (c_X2_aim_82 _ _ h5 hMh5 (by omega) (by omega) (by omega) (by omega)) dX5_readPart_81 mi_X2_aim in_X2_aim se_X2_aim ml_X5_93 rfl rfl rfl sh_82 rfl rfl (Nat.le_of_ble_eq_true rfl) (fun h19 q20 => ?_)
            obtain ⟨hMh19, hFh19⟩ := q20
            exact g_return dX5_readPart_84 rfl (hPo _ ⟨hMh19, (Fr.tr (Fr.tr (Fr.sub hFh1 rfl) hFh5 rfl) hFh19 rfl)⟩)
          · skip
            refine g_aload_n dX5_readPart_35 rfl ?_
            refine g_dup dX5_readPart_36 rfl ?_
            refine gI_X5_19 rfl dX5_readPart_37 sh_65 (m_65_2 hMh5) (fun v21 ev21 bv21 cv21 => ?_)
            refine g_iconst dX5_readPart_40 (inR_c rfl) ?_
            refine g_iaddF dX5_readPart_41 (fun v22 bv22 cv22 => ?_)
            refine pI_X5_19 rfl dX5_readPart_42 sh_65 (fun h23 eh23 => ?_)
            have hFh23 := Fr.st eh23
            have hMh23 := u_65_2 hMh5 eh23 (by omega) (by omega)
            refine g_aload_n dX5_readPart_45 rfl ?_
            refine g_iconst dX5_readPart_46 (inR_c rfl) ?_
            refine g_iconst dX5_readPart_47 (inR_c rfl) ?_
            refine g_cV (as := [_, _]) (c_X2_addStep_82 _ _ h23 hMh23 (by omega) (by omega) (by omega) (by omega)) dX5_readPart_48 mi_X2_addStep in_X2_addStep se_X2_addStep ml_X5_90 rfl rfl rfl sh_82 rfl rfl (Nat.le_of_ble_eq_true rfl) (fun v24 h25 q26 => ?_)
            obtain ⟨hMh25, hFh25, bv24, cv24⟩ := q26
            refine g_istore dX5_readPart_51 (by decide) rfl ?_
            refine g_aload_n dX5_readPart_53 rfl ?_
            refine g_iload_n dX5_readPart_54 rfl (fun _ => ?_)
            refine g_iload dX5_readPart_55 rfl (fun _ => ?_)
            refine g_cVV (as := [_, _]) (c_X2_aim_82 _ _ h25 hMh25 (by omega) (by omega) (by omega) (by omega)) dX5_readPart_57 mi_X2_aim in_X2_aim se_X2_aim ml_X5_93 rfl rfl rfl sh_82 rfl rfl (Nat.le_of_ble_eq_true rfl) (fun h27 q28 => ?_)
            obtain ⟨hMh27, hFh27⟩ := q28
            refine g_iload dX5_readPart_60 rfl (fun _ => ?_)
            refine g_istore_n dX5_readPart_62 (by decide) rfl ?_
            refine g_aload_n dX5_readPart_63 rfl ?_
            refine g_aload_n dX5_readPart_64 rfl ?_
            refine g_iload_n dX5_readPart_65 rfl (fun _ => ?_)
            refine g_cVV (as := [_, _]) (c_X5_readPiece_65_82_k3  h27 hMh27) dX5_readPart_66 mi_X5_readPiece in_X5_readPiece se_X5_readPiece ml_X5_97 rfl rfl rfl sh_65 rfl rfl (Nat.le_of_ble_eq_true rfl) (fun h29 q30 => ?_)
            obtain ⟨hMh29, hFh29⟩ := q30
            refine g_iincB dX5_readPart_69 rfl rfl (by omega) (by omega) ?_
            refine g_goto 11 dX5_readPart_72 (by decide) ?_
            refine g_drop 5 ?_
            exact ih11 _ _ _ hMh29 (Fr.tr (Fr.tr (Fr.tr (Fr.tr (Fr.sub hFh5 rfl) hFh23 rfl) hFh25 rfl) hFh27 rfl) hFh29 rfl) (by omega) (by omega) (by omega) (by omega) (by omega)
  refine g_istore dX5_readPart_9 (by decide) rfl ?_
  exact c11 201 _ _ _ hMh1 Fr.rf (by omega) (by omega) (by omega) (by omega) (by omega)
set_option maxRecDepth 100000 in
set_option maxHeartbeats 4000000 in
theorem c_X5_readCondition_65_82_k3 (h : MEM) (hM : MBx h) : CV yX5_readCondition cX5_readCondition 6 (none) 21 [pR 65, pR 82, pI 3] h (fun h' => MBx h' ∧ Fr [(65, 3), (65, 4), (65, 5), (82, 2), (87, 0), (88, 0)] h h') := by
  refine CV.of (L0 := [some (pR 65), some (pR 82), some (pI 3), none, none, none]) rfl (Nat.le_of_ble_eq_true rfl) rfl (fun Po hPo hav => ?_)
  refine g_aload_n dX5_readCondition_0 rfl ?_
  refine g_aload_n dX5_readCondition_1 rfl ?_
  refine g_iload_n dX5_readCondition_2 rfl (fun _ => ?_)
  refine g_cVV (as := [_, _]) (c_X5_readPart_65_82_k3  h hM) dX5_readCondition_3 mi_X5_readPart in_X5_readPart se_X5_readPart ml_X5_87 rfl rfl rfl sh_65 rfl rfl (Nat.le_of_ble_eq_true rfl) (fun h1 q2 => ?_)
  obtain ⟨hMh1, hFh1⟩ := q2
  refine g_iconst dX5_readCondition_6 (inR_c rfl) ?_
  refine g_istore_n dX5_readCondition_7 (by decide) rfl ?_
  refine g_iconst dX5_readCondition_8 (inR_c rfl) ?_
  have c11 : ∀ (n : Nat) (y3 y4 : Int) (h5 : MEM), MBx h5 → Fr [(65, 3), (65, 4), (65, 5), (82, 2), (87, 0), (88, 0)] h1 h5 → -1 ≤ y3 → y3 ≤ 199 → 0 ≤ y4 → y4 ≤ 200 → 200 - y4 < (n : Int) → G yX5_readCondition cX5_readCondition 6 (none) none Po (21, 1260, 0, 0) 11 [some (pR 65), some (pR 82), some (pI 3), some (pI y3), some (pI y4), none] [] SH h5 0 0 := by
    intro n
    induction n with
    | zero =>
      intro y3 y4 h5 hMh5 hFh5 by3 dy3 by4 dy4 hn
      exfalso; omega
    | succ n ih11 =>
      intro y3 y4 h5 hMh5 hFh5 by3 dy3 by4 dy4 hn
      refine g_iload dX5_readCondition_11 rfl (fun _ => ?_)
      refine g_sipush dX5_readCondition_13 (inR_c rfl) (by decide) ?_
      refine g_icmp_ge 75 dX5_readCondition_16 (by decide) (fun q6 => ?_) (fun q6 => ?_)
      · skip
        refine g_aload_n dX5_readCondition_75 rfl ?_
        refine g_iload_n dX5_readCondition_76 rfl (fun _ => ?_)
        refine g_aload_n dX5_readCondition_77 rfl ?_
        refine gI_X5_45 rfl dX5_readCondition_78 sh_82 (m_82_1 hMh5) (fun v7 ev7 bv7 cv7 => ?_)
        refine g_cVV (as := [_, _]) (c_X2_aim_82 _ _ h5 hMh5 (by omega) (by omega) (by omega) (by omega)) dX5_readCondition_81 mi_X2_aim in_X2_aim se_X2_aim ml_X5_93 rfl rfl rfl sh_82 rfl rfl (Nat.le_of_ble_eq_true rfl) (fun h8 q9 => ?_)
        obtain ⟨hMh8, hFh8⟩ := q9
        exact g_return dX5_readCondition_84 rfl (hPo _ ⟨hMh8, (Fr.tr (Fr.tr (Fr.sub hFh1 rfl) hFh5 rfl) hFh8 rfl)⟩)
      · skip
        refine g_aload_n dX5_readCondition_19 rfl ?_
        refine gI_X5_22 rfl dX5_readCondition_20 sh_65 (m_65_3 hMh5) (fun v10 ev10 bv10 cv10 => ?_)
        refine g_if_ne 75 dX5_readCondition_23 (by decide) (fun q11 => ?_) (fun q11 => ?_)
        · skip
          refine g_aload_n dX5_readCondition_75 rfl ?_
          refine g_iload_n dX5_readCondition_76 rfl (fun _ => ?_)
          refine g_aload_n dX5_readCondition_77 rfl ?_
          refine gI_X5_45 rfl dX5_readCondition_78 sh_82 (m_82_1 hMh5) (fun v12 ev12 bv12 cv12 => ?_)
          refine g_cVV (as := [_, _]) (c_X2_aim_82 _ _ h5 hMh5 (by omega) (by omega) (by omega) (by omega)) dX5_readCondition_81 mi_X2_aim in_X2_aim se_X2_aim ml_X5_93 rfl rfl rfl sh_82 rfl rfl (Nat.le_of_ble_eq_true rfl) (fun h13 q14 => ?_)
          obtain ⟨hMh13, hFh13⟩ := q14
          exact g_return dX5_readCondition_84 rfl (hPo _ ⟨hMh13, (Fr.tr (Fr.tr (Fr.sub hFh1 rfl) hFh5 rfl) hFh13 rfl)⟩)
        · skip
          refine g_aload_n dX5_readCondition_26 rfl ?_
          refine g_cVP (as := []) (c_X5_sign_65  h5 hMh5) dX5_readCondition_27 mi_X5_sign in_X5_sign se_X5_sign ml_X5_56 rfl rfl rfl sh_65 rfl rfl (Nat.le_of_ble_eq_true rfl) (fun v15 q16 => ?_)
          obtain ⟨bv15, cv15, zv15⟩ := q16
          refine g_bipush dX5_readCondition_30 (inR_c rfl) (by decide) ?_
          refine g_icmp_ne 75 dX5_readCondition_32 (by decide) (fun q17 => ?_) (fun q17 => ?_)
          · skip
            refine g_aload_n dX5_readCondition_75 rfl ?_
            refine g_iload_n dX5_readCondition_76 rfl (fun _ => ?_)
            refine g_aload_n dX5_readCondition_77 rfl ?_
            refine gI_X5_45 rfl dX5_readCondition_78 sh_82 (m_82_1 hMh5) (fun v18 ev18 bv18 cv18 => ?_)
            refine g_cVV (as := [_, _]) (c_X2_aim_82 _ _ h5 hMh5 (by omega) (by omega) (by omega) (by omega)) dX5_readCondition_81 mi_X2_aim in_X2_aim se_X2_aim ml_X5_93 rfl rfl rfl sh_82 rfl rfl (Nat.le_of_ble_eq_true rfl) (fun h19 q20 => ?_)
            obtain ⟨hMh19, hFh19⟩ := q20
            exact g_return dX5_readCondition_84 rfl (hPo _ ⟨hMh19, (Fr.tr (Fr.tr (Fr.sub hFh1 rfl) hFh5 rfl) hFh19 rfl)⟩)
          · skip
            refine g_aload_n dX5_readCondition_35 rfl ?_
            refine g_dup dX5_readCondition_36 rfl ?_
            refine gI_X5_19 rfl dX5_readCondition_37 sh_65 (m_65_2 hMh5) (fun v21 ev21 bv21 cv21 => ?_)
            refine g_iconst dX5_readCondition_40 (inR_c rfl) ?_
            refine g_iaddF dX5_readCondition_41 (fun v22 bv22 cv22 => ?_)
            refine pI_X5_19 rfl dX5_readCondition_42 sh_65 (fun h23 eh23 => ?_)
            have hFh23 := Fr.st eh23
            have hMh23 := u_65_2 hMh5 eh23 (by omega) (by omega)
            refine g_aload_n dX5_readCondition_45 rfl ?_
            refine g_iconst dX5_readCondition_46 (inR_c rfl) ?_
            refine g_iconst dX5_readCondition_47 (inR_c rfl) ?_
            refine g_cV (as := [_, _]) (c_X2_addStep_82 _ _ h23 hMh23 (by omega) (by omega) (by omega) (by omega)) dX5_readCondition_48 mi_X2_addStep in_X2_addStep se_X2_addStep ml_X5_90 rfl rfl rfl sh_82 rfl rfl (Nat.le_of_ble_eq_true rfl) (fun v24 h25 q26 => ?_)
            obtain ⟨hMh25, hFh25, bv24, cv24⟩ := q26
            refine g_istore dX5_readCondition_51 (by decide) rfl ?_
            refine g_aload_n dX5_readCondition_53 rfl ?_
            refine g_iload_n dX5_readCondition_54 rfl (fun _ => ?_)
            refine g_iload dX5_readCondition_55 rfl (fun _ => ?_)
            refine g_cVV (as := [_, _]) (c_X2_aim_82 _ _ h25 hMh25 (by omega) (by omega) (by omega) (by omega)) dX5_readCondition_57 mi_X2_aim in_X2_aim se_X2_aim ml_X5_93 rfl rfl rfl sh_82 rfl rfl (Nat.le_of_ble_eq_true rfl) (fun h27 q28 => ?_)
            obtain ⟨hMh27, hFh27⟩ := q28
            refine g_iload dX5_readCondition_60 rfl (fun _ => ?_)
            refine g_istore_n dX5_readCondition_62 (by decide) rfl ?_
            refine g_aload_n dX5_readCondition_63 rfl ?_
            refine g_aload_n dX5_readCondition_64 rfl ?_
            refine g_iload_n dX5_readCondition_65 rfl (fun _ => ?_)
            refine g_cVV (as := [_, _]) (c_X5_readPart_65_82_k3  h27 hMh27) dX5_readCondition_66 mi_X5_readPart in_X5_readPart se_X5_readPart ml_X5_87 rfl rfl rfl sh_65 rfl rfl (Nat.le_of_ble_eq_true rfl) (fun h29 q30 => ?_)
            obtain ⟨hMh29, hFh29⟩ := q30
            refine g_iincB dX5_readCondition_69 rfl rfl (by omega) (by omega) ?_
            refine g_goto 11 dX5_readCondition_72 (by decide) ?_
            refine g_drop 5 ?_
            exact ih11 _ _ _ hMh29 (Fr.tr (Fr.tr (Fr.tr (Fr.tr (Fr.sub hFh5 rfl) hFh23 rfl) hFh25 rfl) hFh27 rfl) hFh29 rfl) (by omega) (by omega) (by omega) (by omega) (by omega)
  refine g_istore dX5_readCondition_9 (by decide) rfl ?_
  exact c11 201 _ _ _ hMh1 Fr.rf (by omega) (by omega) (by omega) (by omega) (by omega)
set_option maxRecDepth 100000 in
set_option maxHeartbeats 4000000 in
theorem c_X5_readPiece_65_82_k2 (h : MEM) (hM : MBx h) : CV yX5_readPiece cX5_readPiece 5 (none) 22 [pR 65, pR 82, pI 2] h (fun h' => MBx h' ∧ Fr [(65, 3), (65, 4), (65, 5), (82, 2), (87, 0), (88, 0)] h h') := by
  refine CV.of (L0 := [some (pR 65), some (pR 82), some (pI 2), none, none]) rfl (Nat.le_of_ble_eq_true rfl) rfl (fun Po hPo hav => ?_)
  refine g_aload_n dX5_readPiece_0 rfl ?_
  refine gI_X5_22 rfl dX5_readPiece_1 sh_65 (m_65_3 hM) (fun v1 ev1 bv1 cv1 => ?_)
  refine g_if_eq 8 dX5_readPiece_4 (by decide) (fun q2 => ?_) (fun q2 => ?_)
  · skip
    refine g_iload_n dX5_readPiece_8 rfl (fun _ => ?_)
    refine g_istore_n dX5_readPiece_9 (by decide) rfl ?_
    refine g_iconst dX5_readPiece_10 (inR_c rfl) ?_
    have c13 : ∀ (n : Nat) (y3 y4 : Int) (h5 : MEM), MBx h5 → Fr [(65, 3)] h h5 → 2 ≤ y3 → y3 ≤ 6 → 0 ≤ y4 → y4 ≤ 6 → 6 - y3 < (n : Int) → G yX5_readPiece cX5_readPiece 5 (none) none Po (22, 1320, 0, 0) 13 [some (pR 65), some (pR 82), some (pI 2), some (pI y3), some (pI y4)] [] SH h5 0 0 := by
      intro n
      induction n with
      | zero =>
        intro y3 y4 h5 hMh5 hFh5 by3 dy3 by4 dy4 hn
        exfalso; omega
      | succ n ih13 =>
        intro y3 y4 h5 hMh5 hFh5 by3 dy3 by4 dy4 hn
        refine g_iload dX5_readPiece_13 rfl (fun _ => ?_)
        refine g_bipush dX5_readPiece_15 (inR_c rfl) (by decide) ?_
        have c54 : G yX5_readPiece cX5_readPiece 5 (none) none Po (22, 1320, 0, 0) 54 [some (pR 65), some (pR 82), some (pI 2), some (pI y3), none] [] SH h5 0 0 := by
          refine g_iload_n dX5_readPiece_54 rfl (fun _ => ?_)
          refine g_bipush dX5_readPiece_55 (inR_c rfl) (by decide) ?_
          have c128 : ∀ (h6 : MEM), MBx h6 → Fr [(65, 3), (65, 4), (65, 5), (82, 2), (87, 0), (88, 0)] h5 h6 → G yX5_readPiece cX5_readPiece 5 (none) none Po (22, 1320, 0, 0) 128 [none, some (pR 82), some (pI 2), some (pI y3), none] [] SH h6 0 0 := by
            intro h6 hMh6 hFh6
            refine g_iload_n dX5_readPiece_128 rfl (fun _ => ?_)
            have c131 : ∀ (n : Nat) (y7 : Int) (h8 : MEM), MBx h8 → Fr [(82, 2), (87, 0), (88, 0)] h6 h8 → 2 ≤ y7 → y7 ≤ 6 → 6 - y7 < (n : Int) → G yX5_readPiece cX5_readPiece 5 (none) none Po (22, 1320, 0, 0) 131 [none, some (pR 82), none, some (pI y3), some (pI y7)] [] SH h8 0 0 := by
              intro n
              induction n with
              | zero =>
                intro y7 h8 hMh8 hFh8 by7 dy7 hn
                exfalso; omega
              | succ n ih131 =>
                intro y7 h8 hMh8 hFh8 by7 dy7 hn
                refine g_iload dX5_readPiece_131 rfl (fun _ => ?_)
                refine g_iload_n dX5_readPiece_133 rfl (fun _ => ?_)
                refine g_icmp_ge 150 dX5_readPiece_134 (by decide) (fun q9 => ?_) (fun q9 => ?_)
                · skip
                  exact g_return dX5_readPiece_150 rfl (hPo _ ⟨hMh8, (Fr.tr (Fr.tr (Fr.sub hFh5 rfl) hFh6 rfl) hFh8 rfl)⟩)
                · skip
                  refine g_aload_n dX5_readPiece_137 rfl ?_
                  refine g_iconst dX5_readPiece_138 (inR_c rfl) ?_
                  refine g_iconst dX5_readPiece_139 (inR_c rfl) ?_
                  refine g_cV (as := [_, _]) (c_X2_addStep_82 _ _ h8 hMh8 (by omega) (by omega) (by omega) (by omega)) dX5_readPiece_140 mi_X2_addStep in_X2_addStep se_X2_addStep ml_X5_90 rfl rfl rfl sh_82 rfl rfl (Nat.le_of_ble_eq_true rfl) (fun v10 h11 q12 => ?_)
                  obtain ⟨hMh11, hFh11, bv10, cv10⟩ := q12
                  refine g_pop dX5_readPiece_143 rfl ?_
                  refine g_iincB dX5_readPiece_144 rfl rfl (by omega) (by omega) ?_
                  refine g_goto 131 dX5_readPiece_147 (by decide) ?_
                  exact ih131 _ _ hMh11 (Fr.tr (Fr.sub hFh8 rfl) hFh11 rfl) (by omega) (by omega) (by omega)
            refine g_istore dX5_readPiece_129 (by decide) rfl ?_
            refine g_drop 2 ?_
            exact c131 5 _ _ hMh6 Fr.rf (by omega) (by omega) (by omega)
          refine g_icmp_lt 86 dX5_readPiece_57 (by decide) (fun q13 => ?_) (fun q13 => ?_)
          · skip
            refine g_aload_n dX5_readPiece_86 rfl ?_
            refine g_cVP (as := []) (c_X5_sign_65  h5 hMh5) dX5_readPiece_87 mi_X5_sign in_X5_sign se_X5_sign ml_X5_56 rfl rfl rfl sh_65 rfl rfl (Nat.le_of_ble_eq_true rfl) (fun v14 q15 => ?_)
            obtain ⟨bv14, cv14, zv14⟩ := q15
            refine g_bipush dX5_readPiece_90 (inR_c rfl) (by decide) ?_
            refine g_icmp_ne 122 dX5_readPiece_92 (by decide) (fun q16 => ?_) (fun q16 => ?_)
            · skip
              refine g_aload_n dX5_readPiece_122 rfl ?_
              refine g_aload_n dX5_readPiece_123 rfl ?_
              refine g_iload_n dX5_readPiece_124 rfl (fun _ => ?_)
              rcases (show y3 = 2 ∨ y3 = 3 ∨ y3 = 4 ∨ y3 = 5 by omega) with q17 | q17 | q17 | q17
              · skip
                refine g_stk (S' := [(pI 2), (pR 82), (pR 65)]) (by rw [q17]) ?_
                refine g_cVV (as := [_, _]) (c_X5_readComparison_65_82_k2  h5 hMh5) dX5_readPiece_125 mi_X5_readComparison in_X5_readComparison se_X5_readComparison ml_X5_100 rfl rfl rfl sh_65 rfl rfl (Nat.le_of_ble_eq_true rfl) (fun h18 q19 => ?_)
                obtain ⟨hMh18, hFh18⟩ := q19
                refine g_drop 0 ?_
                exact c128 _ hMh18 (Fr.sub hFh18 rfl)
              · skip
                refine g_stk (S' := [(pI 3), (pR 82), (pR 65)]) (by rw [q17]) ?_
                refine g_cVV (as := [_, _]) (c_X5_readComparison_65_82_k3  h5 hMh5) dX5_readPiece_125 mi_X5_readComparison in_X5_readComparison se_X5_readComparison ml_X5_100 rfl rfl rfl sh_65 rfl rfl (Nat.le_of_ble_eq_true rfl) (fun h20 q21 => ?_)
                obtain ⟨hMh20, hFh20⟩ := q21
                refine g_drop 0 ?_
                exact c128 _ hMh20 (Fr.sub hFh20 rfl)
              · skip
                refine g_stk (S' := [(pI 4), (pR 82), (pR 65)]) (by rw [q17]) ?_
                refine g_cVV (as := [_, _]) (c_X5_readComparison_65_82_k4  h5 hMh5) dX5_readPiece_125 mi_X5_readComparison in_X5_readComparison se_X5_readComparison ml_X5_100 rfl rfl rfl sh_65 rfl rfl (Nat.le_of_ble_eq_true rfl) (fun h22 q23 => ?_)
                obtain ⟨hMh22, hFh22⟩ := q23
                refine g_drop 0 ?_
                exact c128 _ hMh22 (Fr.sub hFh22 rfl)
              · skip
                refine g_stk (S' := [(pI 5), (pR 82), (pR 65)]) (by rw [q17]) ?_
                refine g_cVV (as := [_, _]) (c_X5_readComparison_65_82_k5  h5 hMh5) dX5_readPiece_125 mi_X5_readComparison in_X5_readComparison se_X5_readComparison ml_X5_100 rfl rfl rfl sh_65 rfl rfl (Nat.le_of_ble_eq_true rfl) (fun h24 q25 => ?_)
                obtain ⟨hMh24, hFh24⟩ := q25
                refine g_drop 0 ?_
                exact c128 _ hMh24 (Fr.sub hFh24 rfl)
            · skip
              refine g_aload_n dX5_readPiece_95 rfl ?_
              refine g_dup dX5_readPiece_96 rfl ?_
              refine gI_X5_19 rfl dX5_readPiece_97 sh_65 (m_65_2 hMh5) (fun v26 ev26 bv26 cv26 => ?_)
              refine g_iconst dX5_readPiece_100 (inR_c rfl) ?_
              refine g_iaddF dX5_readPiece_101 (fun v27 bv27 cv27 => ?_)
              refine pI_X5_19 rfl dX5_readPiece_102 sh_65 (fun h28 eh28 => ?_)
              have hFh28 := Fr.st eh28
              have hMh28 := u_65_2 hMh5 eh28 (by omega) (by omega)
              refine g_aload_n dX5_readPiece_105 rfl ?_
              refine g_aload_n dX5_readPiece_106 rfl ?_
              refine g_iload_n dX5_readPiece_107 rfl (fun _ => ?_)
              refine g_iconst dX5_readPiece_108 (inR_c rfl) ?_
              refine g_iaddB dX5_readPiece_109 (by omega) (by omega) ?_
              rcases (show (y3 + 1) = 3 ∨ (y3 + 1) = 4 ∨ (y3 + 1) = 5 ∨ (y3 + 1) = 6 by omega) with q29 | q29 | q29 | q29
              · skip
                refine g_stk (S' := [(pI 3), (pR 82), (pR 65)]) (by rw [q29]) ?_
                refine g_cVV (as := [_, _]) (c_X5_readCondition_65_82_k3  h28 hMh28) dX5_readPiece_110 mi_X5_readCondition in_X5_readCondition se_X5_readCondition ml_X5_81 rfl rfl rfl sh_65 rfl rfl (Nat.le_of_ble_eq_true rfl) (fun h30 q31 => ?_)
                obtain ⟨hMh30, hFh30⟩ := q31
                refine g_aload_n dX5_readPiece_113 rfl ?_
                refine g_bipush dX5_readPiece_114 (inR_c rfl) (by decide) ?_
                refine g_cVV (as := [_]) (c_X5_expect_65 _ h30 hMh30 (by omega) (by omega)) dX5_readPiece_116 mi_X5_expect in_X5_expect se_X5_expect ml_X5_52 rfl rfl rfl sh_65 rfl rfl (Nat.le_of_ble_eq_true rfl) (fun h32 q33 => ?_)
                obtain ⟨hMh32, hFh32⟩ := q33
                refine g_goto 128 dX5_readPiece_119 (by decide) ?_
                refine g_drop 0 ?_
                exact c128 _ hMh32 (Fr.tr (Fr.tr (Fr.sub hFh28 rfl) hFh30 rfl) hFh32 rfl)
              · skip
                refine g_stk (S' := [(pI 4), (pR 82), (pR 65)]) (by rw [q29]) ?_
                refine g_cVV (as := [_, _]) (c_X5_readCondition_65_82_k4  h28 hMh28) dX5_readPiece_110 mi_X5_readCondition in_X5_readCondition se_X5_readCondition ml_X5_81 rfl rfl rfl sh_65 rfl rfl (Nat.le_of_ble_eq_true rfl) (fun h34 q35 => ?_)
                obtain ⟨hMh34, hFh34⟩ := q35
                refine g_aload_n dX5_readPiece_113 rfl ?_
                refine g_bipush dX5_readPiece_114 (inR_c rfl) (by decide) ?_
                refine g_cVV (as := [_]) (c_X5_expect_65 _ h34 hMh34 (by omega) (by omega)) dX5_readPiece_116 mi_X5_expect in_X5_expect se_X5_expect ml_X5_52 rfl rfl rfl sh_65 rfl rfl (Nat.le_of_ble_eq_true rfl) (fun h36 q37 => ?_)
                obtain ⟨hMh36, hFh36⟩ := q37
                refine g_goto 128 dX5_readPiece_119 (by decide) ?_
                refine g_drop 0 ?_
                exact c128 _ hMh36 (Fr.tr (Fr.tr (Fr.sub hFh28 rfl) hFh34 rfl) hFh36 rfl)
              · skip
                refine g_stk (S' := [(pI 5), (pR 82), (pR 65)]) (by rw [q29]) ?_
                refine g_cVV (as := [_, _]) (c_X5_readCondition_65_82_k5  h28 hMh28) dX5_readPiece_110 mi_X5_readCondition in_X5_readCondition se_X5_readCondition ml_X5_81 rfl rfl rfl sh_65 rfl rfl (Nat.le_of_ble_eq_true rfl) (fun h38 q39 => ?_)
                obtain ⟨hMh38, hFh38⟩ := q39
                refine g_aload_n dX5_readPiece_113 rfl ?_
                refine g_bipush dX5_readPiece_114 (inR_c rfl) (by decide) ?_
                refine g_cVV (as := [_]) (c_X5_expect_65 _ h38 hMh38 (by omega) (by omega)) dX5_readPiece_116 mi_X5_expect in_X5_expect se_X5_expect ml_X5_52 rfl rfl rfl sh_65 rfl rfl (Nat.le_of_ble_eq_true rfl) (fun h40 q41 => ?_)
                obtain ⟨hMh40, hFh40⟩ := q41
                refine g_goto 128 dX5_readPiece_119 (by decide) ?_
                refine g_drop 0 ?_
                exact c128 _ hMh40 (Fr.tr (Fr.tr (Fr.sub hFh28 rfl) hFh38 rfl) hFh40 rfl)
              · skip
                refine g_stk (S' := [(pI 6), (pR 82), (pR 65)]) (by rw [q29]) ?_
                refine g_cVV (as := [_, _]) (c_X5_readCondition_65_82_k6  h28 hMh28) dX5_readPiece_110 mi_X5_readCondition in_X5_readCondition se_X5_readCondition ml_X5_81 rfl rfl rfl sh_65 rfl rfl (Nat.le_of_ble_eq_true rfl) (fun h42 q43 => ?_)
                obtain ⟨hMh42, hFh42⟩ := q43
                refine g_aload_n dX5_readPiece_113 rfl ?_
                refine g_bipush dX5_readPiece_114 (inR_c rfl) (by decide) ?_
                refine g_cVV (as := [_]) (c_X5_expect_65 _ h42 hMh42 (by omega) (by omega)) dX5_readPiece_116 mi_X5_expect in_X5_expect se_X5_expect ml_X5_52 rfl rfl rfl sh_65 rfl rfl (Nat.le_of_ble_eq_true rfl) (fun h44 q45 => ?_)
                obtain ⟨hMh44, hFh44⟩ := q45
                refine g_goto 128 dX5_readPiece_119 (by decide) ?_
                refine g_drop 0 ?_
                exact c128 _ hMh44 (Fr.tr (Fr.tr (Fr.sub hFh28 rfl) hFh42 rfl) hFh44 rfl)
          · skip
            refine g_aload_n dX5_readPiece_60 rfl ?_
            refine g_cVP (as := []) (c_X5_sign_65  h5 hMh5) dX5_readPiece_61 mi_X5_sign in_X5_sign se_X5_sign ml_X5_56 rfl rfl rfl sh_65 rfl rfl (Nat.le_of_ble_eq_true rfl) (fun v46 q47 => ?_)
            obtain ⟨bv46, cv46, zv46⟩ := q47
            refine g_bipush dX5_readPiece_64 (inR_c rfl) (by decide) ?_
            have c78 : G yX5_readPiece cX5_readPiece 5 (none) none Po (22, 1320, 0, 0) 78 [some (pR 65), some (pR 82), some (pI 2), some (pI y3), none] [] SH h5 0 0 := by
              refine g_aload_n dX5_readPiece_78 rfl ?_
              refine g_iconst dX5_readPiece_79 (inR_c rfl) ?_
              refine g_cVV (as := [_]) (c_X5_fail_65 _ h5 hMh5 (by omega) (by omega)) dX5_readPiece_80 mi_X5_fail in_X5_fail se_X5_fail ml_X5_60 rfl rfl rfl sh_65 rfl rfl (Nat.le_of_ble_eq_true rfl) (fun h48 q49 => ?_)
              obtain ⟨hMh48, hFh48, az50, bz50⟩ := q49
              obtain ⟨v51, ev51⟩ : ∃ z, z = h48 65 3 := ⟨_, rfl⟩
              have bv51 : 1 ≤ v51 ∧ v51 ≤ 5 := by rw [ev51]; exact ⟨az50, bz50⟩
              refine g_goto 128 dX5_readPiece_83 (by decide) ?_
              refine g_drop 0 ?_
              exact c128 _ hMh48 (Fr.sub hFh48 rfl)
            refine g_icmp_eq 78 dX5_readPiece_66 (by decide) (fun q52 => ?_) (fun q52 => ?_)
            · skip
              exact c78 
            · skip
              refine g_aload_n dX5_readPiece_69 rfl ?_
              refine g_cVP (as := []) (c_X5_sign_65  h5 hMh5) dX5_readPiece_70 mi_X5_sign in_X5_sign se_X5_sign ml_X5_56 rfl rfl rfl sh_65 rfl rfl (Nat.le_of_ble_eq_true rfl) (fun v53 q54 => ?_)
              obtain ⟨bv53, cv53, zv53⟩ := q54
              have tv53 : v53 = v46 := by rw [zv53, zv46]
              refine g_bipush dX5_readPiece_73 (inR_c rfl) (by decide) ?_
              refine g_icmp_ne 86 dX5_readPiece_75 (by decide) (fun q55 => ?_) (fun q55 => ?_)
              · skip
                refine g_aload_n dX5_readPiece_86 rfl ?_
                refine g_cVP (as := []) (c_X5_sign_65  h5 hMh5) dX5_readPiece_87 mi_X5_sign in_X5_sign se_X5_sign ml_X5_56 rfl rfl rfl sh_65 rfl rfl (Nat.le_of_ble_eq_true rfl) (fun v56 q57 => ?_)
                obtain ⟨bv56, cv56, zv56⟩ := q57
                have tv56 : v56 = v46 := by rw [zv56, zv46]
                refine g_bipush dX5_readPiece_90 (inR_c rfl) (by decide) ?_
                refine g_icmp_ne 122 dX5_readPiece_92 (by decide) (fun q58 => ?_) (fun _ => by exfalso; omega)
                refine g_aload_n dX5_readPiece_122 rfl ?_
                refine g_aload_n dX5_readPiece_123 rfl ?_
                refine g_iload_n dX5_readPiece_124 rfl (fun _ => ?_)
                have q59 : y3 = 6 := by omega
                refine g_stk (S' := [(pI 6), (pR 82), (pR 65)]) (by rw [q59]) ?_
                refine g_cVV (as := [_, _]) (c_X5_readComparison_65_82_k6  h5 hMh5) dX5_readPiece_125 mi_X5_readComparison in_X5_readComparison se_X5_readComparison ml_X5_100 rfl rfl rfl sh_65 rfl rfl (Nat.le_of_ble_eq_true rfl) (fun h60 q61 => ?_)
                obtain ⟨hMh60, hFh60⟩ := q61
                refine g_drop 0 ?_
                exact c128 _ hMh60 (Fr.sub hFh60 rfl)
              · skip
                exact c78 
        refine g_icmp_ge 54 dX5_readPiece_17 (by decide) (fun q62 => ?_) (fun q62 => ?_)
        · skip
          refine g_drop 4 ?_
          exact c54 
        · skip
          refine g_iload_n dX5_readPiece_20 rfl (fun _ => ?_)
          refine g_bipush dX5_readPiece_21 (inR_c rfl) (by decide) ?_
          refine g_icmp_ge 54 dX5_readPiece_23 (by decide) (fun q63 => ?_) (fun q63 => ?_)
          · skip
            refine g_drop 4 ?_
            exact c54 
          · skip
            refine g_aload_n dX5_readPiece_26 rfl ?_
            refine g_cVP (as := []) (c_X5_sign_65  h5 hMh5) dX5_readPiece_27 mi_X5_sign in_X5_sign se_X5_sign ml_X5_56 rfl rfl rfl sh_65 rfl rfl (Nat.le_of_ble_eq_true rfl) (fun v64 q65 => ?_)
            obtain ⟨bv64, cv64, zv64⟩ := q65
            refine g_bipush dX5_readPiece_30 (inR_c rfl) (by decide) ?_
            refine g_icmp_ne 54 dX5_readPiece_32 (by decide) (fun q66 => ?_) (fun q66 => ?_)
            · skip
              refine g_drop 4 ?_
              exact c54 
            · skip
              refine g_aload_n dX5_readPiece_35 rfl ?_
              refine g_dup dX5_readPiece_36 rfl ?_
              refine gI_X5_19 rfl dX5_readPiece_37 sh_65 (m_65_2 hMh5) (fun v67 ev67 bv67 cv67 => ?_)
              refine g_iconst dX5_readPiece_40 (inR_c rfl) ?_
              refine g_iaddF dX5_readPiece_41 (fun v68 bv68 cv68 => ?_)
              refine pI_X5_19 rfl dX5_readPiece_42 sh_65 (fun h69 eh69 => ?_)
              have hFh69 := Fr.st eh69
              have hMh69 := u_65_2 hMh5 eh69 (by omega) (by omega)
              refine g_iincB dX5_readPiece_45 rfl rfl (by omega) (by omega) ?_
              refine g_iincB dX5_readPiece_48 rfl rfl (by omega) (by omega) ?_
              refine g_goto 13 dX5_readPiece_51 (by decide) ?_
              exact ih13 _ _ _ hMh69 (Fr.tr (Fr.sub hFh5 rfl) hFh69 rfl) (by omega) (by omega) (by omega) (by omega) (by omega)
    refine g_istore dX5_readPiece_11 (by decide) rfl ?_
    exact c13 5 _ _ _ hM Fr.rf (by omega) (by omega) (by omega) (by omega) (by omega)
  · skip
    exact g_return dX5_readPiece_7 rfl (hPo _ ⟨hM, Fr.rf⟩)
set_option maxRecDepth 100000 in
set_option maxHeartbeats 4000000 in
theorem c_X5_readPart_65_82_k2 (h : MEM) (hM : MBx h) : CV yX5_readPart cX5_readPart 6 (none) 23 [pR 65, pR 82, pI 2] h (fun h' => MBx h' ∧ Fr [(65, 3), (65, 4), (65, 5), (82, 2), (87, 0), (88, 0)] h h') := by
  refine CV.of (L0 := [some (pR 65), some (pR 82), some (pI 2), none, none, none]) rfl (Nat.le_of_ble_eq_true rfl) rfl (fun Po hPo hav => ?_)
  refine g_aload_n dX5_readPart_0 rfl ?_
  refine g_aload_n dX5_readPart_1 rfl ?_
  refine g_iload_n dX5_readPart_2 rfl (fun _ => ?_)
  refine g_cVV (as := [_, _]) (c_X5_readPiece_65_82_k2  h hM) dX5_readPart_3 mi_X5_readPiece in_X5_readPiece se_X5_readPiece ml_X5_97 rfl rfl rfl sh_65 rfl rfl (Nat.le_of_ble_eq_true rfl) (fun h1 q2 => ?_)
  obtain ⟨hMh1, hFh1⟩ := q2
  refine g_iconst dX5_readPart_6 (inR_c rfl) ?_
  refine g_istore_n dX5_readPart_7 (by decide) rfl ?_
  refine g_iconst dX5_readPart_8 (inR_c rfl) ?_
  have c11 : ∀ (n : Nat) (y3 y4 : Int) (h5 : MEM), MBx h5 → Fr [(65, 3), (65, 4), (65, 5), (82, 2), (87, 0), (88, 0)] h1 h5 → -1 ≤ y3 → y3 ≤ 199 → 0 ≤ y4 → y4 ≤ 200 → 200 - y4 < (n : Int) → G yX5_readPart cX5_readPart 6 (none) none Po (23, 1380, 0, 0) 11 [some (pR 65), some (pR 82), some (pI 2), some (pI y3), some (pI y4), none] [] SH h5 0 0 := by
    intro n
    induction n with
    | zero =>
      intro y3 y4 h5 hMh5 hFh5 by3 dy3 by4 dy4 hn
      exfalso; omega
    | succ n ih11 =>
      intro y3 y4 h5 hMh5 hFh5 by3 dy3 by4 dy4 hn
      refine g_iload dX5_readPart_11 rfl (fun _ => ?_)
      refine g_sipush dX5_readPart_13 (inR_c rfl) (by decide) ?_
      refine g_icmp_ge 75 dX5_readPart_16 (by decide) (fun q6 => ?_) (fun q6 => ?_)
      · skip
        refine g_aload_n dX5_readPart_75 rfl ?_
        refine g_iload_n dX5_readPart_76 rfl (fun _ => ?_)
        refine g_aload_n dX5_readPart_77 rfl ?_
        refine gI_X5_45 rfl dX5_readPart_78 sh_82 (m_82_1 hMh5) (fun v7 ev7 bv7 cv7 => ?_)
        refine g_cVV (as := [_, _]) (c_X2_aim_82 _ _ h5 hMh5 (by omega) (by omega) (by omega) (by omega)) dX5_readPart_81 mi_X2_aim in_X2_aim se_X2_aim ml_X5_93 rfl rfl rfl sh_82 rfl rfl (Nat.le_of_ble_eq_true rfl) (fun h8 q9 => ?_)
        obtain ⟨hMh8, hFh8⟩ := q9
        exact g_return dX5_readPart_84 rfl (hPo _ ⟨hMh8, (Fr.tr (Fr.tr (Fr.sub hFh1 rfl) hFh5 rfl) hFh8 rfl)⟩)
      · skip
        refine g_aload_n dX5_readPart_19 rfl ?_
        refine gI_X5_22 rfl dX5_readPart_20 sh_65 (m_65_3 hMh5) (fun v10 ev10 bv10 cv10 => ?_)
        refine g_if_ne 75 dX5_readPart_23 (by decide) (fun q11 => ?_) (fun q11 => ?_)
        · skip
          refine g_aload_n dX5_readPart_75 rfl ?_
          refine g_iload_n dX5_readPart_76 rfl (fun _ => ?_)
          refine g_aload_n dX5_readPart_77 rfl ?_
          refine gI_X5_45 rfl dX5_readPart_78 sh_82 (m_82_1 hMh5) (fun v12 ev12 bv12 cv12 => ?_)
          refine g_cVV (as := [_, _]) (c_X2_aim_82 _ _ h5 hMh5 (by omega) (by omega) (by omega) (by omega)) dX5_readPart_81 mi_X2_aim in_X2_aim se_X2_aim ml_X5_93 rfl rfl rfl sh_82 rfl rfl (Nat.le_of_ble_eq_true rfl) (fun h13 q14 => ?_)
          obtain ⟨hMh13, hFh13⟩ := q14
          exact g_return dX5_readPart_84 rfl (hPo _ ⟨hMh13, (Fr.tr (Fr.tr (Fr.sub hFh1 rfl) hFh5 rfl) hFh13 rfl)⟩)
        · skip
          refine g_aload_n dX5_readPart_26 rfl ?_
          refine g_cVP (as := []) (c_X5_sign_65  h5 hMh5) dX5_readPart_27 mi_X5_sign in_X5_sign se_X5_sign ml_X5_56 rfl rfl rfl sh_65 rfl rfl (Nat.le_of_ble_eq_true rfl) (fun v15 q16 => ?_)
          obtain ⟨bv15, cv15, zv15⟩ := q16
          refine g_bipush dX5_readPart_30 (inR_c rfl) (by decide) ?_
          refine g_icmp_ne 75 dX5_readPart_32 (by decide) (fun q17 => ?_) (fun q17 => ?_)
          · skip
            refine g_aload_n dX5_readPart_75 rfl ?_
            refine g_iload_n dX5_readPart_76 rfl (fun _ => ?_)
            refine g_aload_n dX5_readPart_77 rfl ?_
            refine gI_X5_45 rfl dX5_readPart_78 sh_82 (m_82_1 hMh5) (fun v18 ev18 bv18 cv18 => ?_)
            refine g_cVV (as := [_, _]) (c_X2_aim_82 _ _ h5 hMh5 (by omega) (by omega) (by omega) (by omega)) dX5_readPart_81 mi_X2_aim in_X2_aim se_X2_aim ml_X5_93 rfl rfl rfl sh_82 rfl rfl (Nat.le_of_ble_eq_true rfl) (fun h19 q20 => ?_)
            obtain ⟨hMh19, hFh19⟩ := q20
            exact g_return dX5_readPart_84 rfl (hPo _ ⟨hMh19, (Fr.tr (Fr.tr (Fr.sub hFh1 rfl) hFh5 rfl) hFh19 rfl)⟩)
          · skip
            refine g_aload_n dX5_readPart_35 rfl ?_
            refine g_dup dX5_readPart_36 rfl ?_
            refine gI_X5_19 rfl dX5_readPart_37 sh_65 (m_65_2 hMh5) (fun v21 ev21 bv21 cv21 => ?_)
            refine g_iconst dX5_readPart_40 (inR_c rfl) ?_
            refine g_iaddF dX5_readPart_41 (fun v22 bv22 cv22 => ?_)
            refine pI_X5_19 rfl dX5_readPart_42 sh_65 (fun h23 eh23 => ?_)
            have hFh23 := Fr.st eh23
            have hMh23 := u_65_2 hMh5 eh23 (by omega) (by omega)
            refine g_aload_n dX5_readPart_45 rfl ?_
            refine g_iconst dX5_readPart_46 (inR_c rfl) ?_
            refine g_iconst dX5_readPart_47 (inR_c rfl) ?_
            refine g_cV (as := [_, _]) (c_X2_addStep_82 _ _ h23 hMh23 (by omega) (by omega) (by omega) (by omega)) dX5_readPart_48 mi_X2_addStep in_X2_addStep se_X2_addStep ml_X5_90 rfl rfl rfl sh_82 rfl rfl (Nat.le_of_ble_eq_true rfl) (fun v24 h25 q26 => ?_)
            obtain ⟨hMh25, hFh25, bv24, cv24⟩ := q26
            refine g_istore dX5_readPart_51 (by decide) rfl ?_
            refine g_aload_n dX5_readPart_53 rfl ?_
            refine g_iload_n dX5_readPart_54 rfl (fun _ => ?_)
            refine g_iload dX5_readPart_55 rfl (fun _ => ?_)
            refine g_cVV (as := [_, _]) (c_X2_aim_82 _ _ h25 hMh25 (by omega) (by omega) (by omega) (by omega)) dX5_readPart_57 mi_X2_aim in_X2_aim se_X2_aim ml_X5_93 rfl rfl rfl sh_82 rfl rfl (Nat.le_of_ble_eq_true rfl) (fun h27 q28 => ?_)
            obtain ⟨hMh27, hFh27⟩ := q28
            refine g_iload dX5_readPart_60 rfl (fun _ => ?_)
            refine g_istore_n dX5_readPart_62 (by decide) rfl ?_
            refine g_aload_n dX5_readPart_63 rfl ?_
            refine g_aload_n dX5_readPart_64 rfl ?_
            refine g_iload_n dX5_readPart_65 rfl (fun _ => ?_)
            refine g_cVV (as := [_, _]) (c_X5_readPiece_65_82_k2  h27 hMh27) dX5_readPart_66 mi_X5_readPiece in_X5_readPiece se_X5_readPiece ml_X5_97 rfl rfl rfl sh_65 rfl rfl (Nat.le_of_ble_eq_true rfl) (fun h29 q30 => ?_)
            obtain ⟨hMh29, hFh29⟩ := q30
            refine g_iincB dX5_readPart_69 rfl rfl (by omega) (by omega) ?_
            refine g_goto 11 dX5_readPart_72 (by decide) ?_
            refine g_drop 5 ?_
            exact ih11 _ _ _ hMh29 (Fr.tr (Fr.tr (Fr.tr (Fr.tr (Fr.sub hFh5 rfl) hFh23 rfl) hFh25 rfl) hFh27 rfl) hFh29 rfl) (by omega) (by omega) (by omega) (by omega) (by omega)
  refine g_istore dX5_readPart_9 (by decide) rfl ?_
  exact c11 201 _ _ _ hMh1 Fr.rf (by omega) (by omega) (by omega) (by omega) (by omega)
set_option maxRecDepth 100000 in
set_option maxHeartbeats 4000000 in
theorem c_X5_readCondition_65_82_k2 (h : MEM) (hM : MBx h) : CV yX5_readCondition cX5_readCondition 6 (none) 24 [pR 65, pR 82, pI 2] h (fun h' => MBx h' ∧ Fr [(65, 3), (65, 4), (65, 5), (82, 2), (87, 0), (88, 0)] h h') := by
  refine CV.of (L0 := [some (pR 65), some (pR 82), some (pI 2), none, none, none]) rfl (Nat.le_of_ble_eq_true rfl) rfl (fun Po hPo hav => ?_)
  refine g_aload_n dX5_readCondition_0 rfl ?_
  refine g_aload_n dX5_readCondition_1 rfl ?_
  refine g_iload_n dX5_readCondition_2 rfl (fun _ => ?_)
  refine g_cVV (as := [_, _]) (c_X5_readPart_65_82_k2  h hM) dX5_readCondition_3 mi_X5_readPart in_X5_readPart se_X5_readPart ml_X5_87 rfl rfl rfl sh_65 rfl rfl (Nat.le_of_ble_eq_true rfl) (fun h1 q2 => ?_)
  obtain ⟨hMh1, hFh1⟩ := q2
  refine g_iconst dX5_readCondition_6 (inR_c rfl) ?_
  refine g_istore_n dX5_readCondition_7 (by decide) rfl ?_
  refine g_iconst dX5_readCondition_8 (inR_c rfl) ?_
  have c11 : ∀ (n : Nat) (y3 y4 : Int) (h5 : MEM), MBx h5 → Fr [(65, 3), (65, 4), (65, 5), (82, 2), (87, 0), (88, 0)] h1 h5 → -1 ≤ y3 → y3 ≤ 199 → 0 ≤ y4 → y4 ≤ 200 → 200 - y4 < (n : Int) → G yX5_readCondition cX5_readCondition 6 (none) none Po (24, 1440, 0, 0) 11 [some (pR 65), some (pR 82), some (pI 2), some (pI y3), some (pI y4), none] [] SH h5 0 0 := by
    intro n
    induction n with
    | zero =>
      intro y3 y4 h5 hMh5 hFh5 by3 dy3 by4 dy4 hn
      exfalso; omega
    | succ n ih11 =>
      intro y3 y4 h5 hMh5 hFh5 by3 dy3 by4 dy4 hn
      refine g_iload dX5_readCondition_11 rfl (fun _ => ?_)
      refine g_sipush dX5_readCondition_13 (inR_c rfl) (by decide) ?_
      refine g_icmp_ge 75 dX5_readCondition_16 (by decide) (fun q6 => ?_) (fun q6 => ?_)
      · skip
        refine g_aload_n dX5_readCondition_75 rfl ?_
        refine g_iload_n dX5_readCondition_76 rfl (fun _ => ?_)
        refine g_aload_n dX5_readCondition_77 rfl ?_
        refine gI_X5_45 rfl dX5_readCondition_78 sh_82 (m_82_1 hMh5) (fun v7 ev7 bv7 cv7 => ?_)
        refine g_cVV (as := [_, _]) (c_X2_aim_82 _ _ h5 hMh5 (by omega) (by omega) (by omega) (by omega)) dX5_readCondition_81 mi_X2_aim in_X2_aim se_X2_aim ml_X5_93 rfl rfl rfl sh_82 rfl rfl (Nat.le_of_ble_eq_true rfl) (fun h8 q9 => ?_)
        obtain ⟨hMh8, hFh8⟩ := q9
        exact g_return dX5_readCondition_84 rfl (hPo _ ⟨hMh8, (Fr.tr (Fr.tr (Fr.sub hFh1 rfl) hFh5 rfl) hFh8 rfl)⟩)
      · skip
        refine g_aload_n dX5_readCondition_19 rfl ?_
        refine gI_X5_22 rfl dX5_readCondition_20 sh_65 (m_65_3 hMh5) (fun v10 ev10 bv10 cv10 => ?_)
        refine g_if_ne 75 dX5_readCondition_23 (by decide) (fun q11 => ?_) (fun q11 => ?_)
        · skip
          refine g_aload_n dX5_readCondition_75 rfl ?_
          refine g_iload_n dX5_readCondition_76 rfl (fun _ => ?_)
          refine g_aload_n dX5_readCondition_77 rfl ?_
          refine gI_X5_45 rfl dX5_readCondition_78 sh_82 (m_82_1 hMh5) (fun v12 ev12 bv12 cv12 => ?_)
          refine g_cVV (as := [_, _]) (c_X2_aim_82 _ _ h5 hMh5 (by omega) (by omega) (by omega) (by omega)) dX5_readCondition_81 mi_X2_aim in_X2_aim se_X2_aim ml_X5_93 rfl rfl rfl sh_82 rfl rfl (Nat.le_of_ble_eq_true rfl) (fun h13 q14 => ?_)
          obtain ⟨hMh13, hFh13⟩ := q14
          exact g_return dX5_readCondition_84 rfl (hPo _ ⟨hMh13, (Fr.tr (Fr.tr (Fr.sub hFh1 rfl) hFh5 rfl) hFh13 rfl)⟩)
        · skip
          refine g_aload_n dX5_readCondition_26 rfl ?_
          refine g_cVP (as := []) (c_X5_sign_65  h5 hMh5) dX5_readCondition_27 mi_X5_sign in_X5_sign se_X5_sign ml_X5_56 rfl rfl rfl sh_65 rfl rfl (Nat.le_of_ble_eq_true rfl) (fun v15 q16 => ?_)
          obtain ⟨bv15, cv15, zv15⟩ := q16
          refine g_bipush dX5_readCondition_30 (inR_c rfl) (by decide) ?_
          refine g_icmp_ne 75 dX5_readCondition_32 (by decide) (fun q17 => ?_) (fun q17 => ?_)
          · skip
            refine g_aload_n dX5_readCondition_75 rfl ?_
            refine g_iload_n dX5_readCondition_76 rfl (fun _ => ?_)
            refine g_aload_n dX5_readCondition_77 rfl ?_
            refine gI_X5_45 rfl dX5_readCondition_78 sh_82 (m_82_1 hMh5) (fun v18 ev18 bv18 cv18 => ?_)
            refine g_cVV (as := [_, _]) (c_X2_aim_82 _ _ h5 hMh5 (by omega) (by omega) (by omega) (by omega)) dX5_readCondition_81 mi_X2_aim in_X2_aim se_X2_aim ml_X5_93 rfl rfl rfl sh_82 rfl rfl (Nat.le_of_ble_eq_true rfl) (fun h19 q20 => ?_)
            obtain ⟨hMh19, hFh19⟩ := q20
            exact g_return dX5_readCondition_84 rfl (hPo _ ⟨hMh19, (Fr.tr (Fr.tr (Fr.sub hFh1 rfl) hFh5 rfl) hFh19 rfl)⟩)
          · skip
            refine g_aload_n dX5_readCondition_35 rfl ?_
            refine g_dup dX5_readCondition_36 rfl ?_
            refine gI_X5_19 rfl dX5_readCondition_37 sh_65 (m_65_2 hMh5) (fun v21 ev21 bv21 cv21 => ?_)
            refine g_iconst dX5_readCondition_40 (inR_c rfl) ?_
            refine g_iaddF dX5_readCondition_41 (fun v22 bv22 cv22 => ?_)
            refine pI_X5_19 rfl dX5_readCondition_42 sh_65 (fun h23 eh23 => ?_)
            have hFh23 := Fr.st eh23
            have hMh23 := u_65_2 hMh5 eh23 (by omega) (by omega)
            refine g_aload_n dX5_readCondition_45 rfl ?_
            refine g_iconst dX5_readCondition_46 (inR_c rfl) ?_
            refine g_iconst dX5_readCondition_47 (inR_c rfl) ?_
            refine g_cV (as := [_, _]) (c_X2_addStep_82 _ _ h23 hMh23 (by omega) (by omega) (by omega) (by omega)) dX5_readCondition_48 mi_X2_addStep in_X2_addStep se_X2_addStep ml_X5_90 rfl rfl rfl sh_82 rfl rfl (Nat.le_of_ble_eq_true rfl) (fun v24 h25 q26 => ?_)
            obtain ⟨hMh25, hFh25, bv24, cv24⟩ := q26
            refine g_istore dX5_readCondition_51 (by decide) rfl ?_
            refine g_aload_n dX5_readCondition_53 rfl ?_
            refine g_iload_n dX5_readCondition_54 rfl (fun _ => ?_)
            refine g_iload dX5_readCondition_55 rfl (fun _ => ?_)
            refine g_cVV (as := [_, _]) (c_X2_aim_82 _ _ h25 hMh25 (by omega) (by omega) (by omega) (by omega)) dX5_readCondition_57 mi_X2_aim in_X2_aim se_X2_aim ml_X5_93 rfl rfl rfl sh_82 rfl rfl (Nat.le_of_ble_eq_true rfl) (fun h27 q28 => ?_)
            obtain ⟨hMh27, hFh27⟩ := q28
            refine g_iload dX5_readCondition_60 rfl (fun _ => ?_)
            refine g_istore_n dX5_readCondition_62 (by decide) rfl ?_
            refine g_aload_n dX5_readCondition_63 rfl ?_
            refine g_aload_n dX5_readCondition_64 rfl ?_
            refine g_iload_n dX5_readCondition_65 rfl (fun _ => ?_)
            refine g_cVV (as := [_, _]) (c_X5_readPart_65_82_k2  h27 hMh27) dX5_readCondition_66 mi_X5_readPart in_X5_readPart se_X5_readPart ml_X5_87 rfl rfl rfl sh_65 rfl rfl (Nat.le_of_ble_eq_true rfl) (fun h29 q30 => ?_)
            obtain ⟨hMh29, hFh29⟩ := q30
            refine g_iincB dX5_readCondition_69 rfl rfl (by omega) (by omega) ?_
            refine g_goto 11 dX5_readCondition_72 (by decide) ?_
            refine g_drop 5 ?_
            exact ih11 _ _ _ hMh29 (Fr.tr (Fr.tr (Fr.tr (Fr.tr (Fr.sub hFh5 rfl) hFh23 rfl) hFh25 rfl) hFh27 rfl) hFh29 rfl) (by omega) (by omega) (by omega) (by omega) (by omega)
  refine g_istore dX5_readCondition_9 (by decide) rfl ?_
  exact c11 201 _ _ _ hMh1 Fr.rf (by omega) (by omega) (by omega) (by omega) (by omega)
set_option maxRecDepth 100000 in
set_option maxHeartbeats 4000000 in
theorem c_X5_readPiece_65_82_k1 (h : MEM) (hM : MBx h) : CV yX5_readPiece cX5_readPiece 5 (none) 25 [pR 65, pR 82, pI 1] h (fun h' => MBx h' ∧ Fr [(65, 3), (65, 4), (65, 5), (82, 2), (87, 0), (88, 0)] h h') := by
  refine CV.of (L0 := [some (pR 65), some (pR 82), some (pI 1), none, none]) rfl (Nat.le_of_ble_eq_true rfl) rfl (fun Po hPo hav => ?_)
  refine g_aload_n dX5_readPiece_0 rfl ?_
  refine gI_X5_22 rfl dX5_readPiece_1 sh_65 (m_65_3 hM) (fun v1 ev1 bv1 cv1 => ?_)
  refine g_if_eq 8 dX5_readPiece_4 (by decide) (fun q2 => ?_) (fun q2 => ?_)
  · skip
    refine g_iload_n dX5_readPiece_8 rfl (fun _ => ?_)
    refine g_istore_n dX5_readPiece_9 (by decide) rfl ?_
    refine g_iconst dX5_readPiece_10 (inR_c rfl) ?_
    have c13 : ∀ (n : Nat) (y3 y4 : Int) (h5 : MEM), MBx h5 → Fr [(65, 3)] h h5 → 1 ≤ y3 → y3 ≤ 6 → 0 ≤ y4 → y4 ≤ 6 → 6 - y3 < (n : Int) → G yX5_readPiece cX5_readPiece 5 (none) none Po (25, 1500, 0, 0) 13 [some (pR 65), some (pR 82), some (pI 1), some (pI y3), some (pI y4)] [] SH h5 0 0 := by
      intro n
      induction n with
      | zero =>
        intro y3 y4 h5 hMh5 hFh5 by3 dy3 by4 dy4 hn
        exfalso; omega
      | succ n ih13 =>
        intro y3 y4 h5 hMh5 hFh5 by3 dy3 by4 dy4 hn
        refine g_iload dX5_readPiece_13 rfl (fun _ => ?_)
        refine g_bipush dX5_readPiece_15 (inR_c rfl) (by decide) ?_
        have c54 : G yX5_readPiece cX5_readPiece 5 (none) none Po (25, 1500, 0, 0) 54 [some (pR 65), some (pR 82), some (pI 1), some (pI y3), none] [] SH h5 0 0 := by
          refine g_iload_n dX5_readPiece_54 rfl (fun _ => ?_)
          refine g_bipush dX5_readPiece_55 (inR_c rfl) (by decide) ?_
          have c128 : ∀ (h6 : MEM), MBx h6 → Fr [(65, 3), (65, 4), (65, 5), (82, 2), (87, 0), (88, 0)] h5 h6 → G yX5_readPiece cX5_readPiece 5 (none) none Po (25, 1500, 0, 0) 128 [none, some (pR 82), some (pI 1), some (pI y3), none] [] SH h6 0 0 := by
            intro h6 hMh6 hFh6
            refine g_iload_n dX5_readPiece_128 rfl (fun _ => ?_)
            have c131 : ∀ (n : Nat) (y7 : Int) (h8 : MEM), MBx h8 → Fr [(82, 2), (87, 0), (88, 0)] h6 h8 → 1 ≤ y7 → y7 ≤ 6 → 6 - y7 < (n : Int) → G yX5_readPiece cX5_readPiece 5 (none) none Po (25, 1500, 0, 0) 131 [none, some (pR 82), none, some (pI y3), some (pI y7)] [] SH h8 0 0 := by
              intro n
              induction n with
              | zero =>
                intro y7 h8 hMh8 hFh8 by7 dy7 hn
                exfalso; omega
              | succ n ih131 =>
                intro y7 h8 hMh8 hFh8 by7 dy7 hn
                refine g_iload dX5_readPiece_131 rfl (fun _ => ?_)
                refine g_iload_n dX5_readPiece_133 rfl (fun _ => ?_)
                refine g_icmp_ge 150 dX5_readPiece_134 (by decide) (fun q9 => ?_) (fun q9 => ?_)
                · skip
                  exact g_return dX5_readPiece_150 rfl (hPo _ ⟨hMh8, (Fr.tr (Fr.tr (Fr.sub hFh5 rfl) hFh6 rfl) hFh8 rfl)⟩)
                · skip
                  refine g_aload_n dX5_readPiece_137 rfl ?_
                  refine g_iconst dX5_readPiece_138 (inR_c rfl) ?_
                  refine g_iconst dX5_readPiece_139 (inR_c rfl) ?_
                  refine g_cV (as := [_, _]) (c_X2_addStep_82 _ _ h8 hMh8 (by omega) (by omega) (by omega) (by omega)) dX5_readPiece_140 mi_X2_addStep in_X2_addStep se_X2_addStep ml_X5_90 rfl rfl rfl sh_82 rfl rfl (Nat.le_of_ble_eq_true rfl) (fun v10 h11 q12 => ?_)
                  obtain ⟨hMh11, hFh11, bv10, cv10⟩ := q12
                  refine g_pop dX5_readPiece_143 rfl ?_
                  refine g_iincB dX5_readPiece_144 rfl rfl (by omega) (by omega) ?_
                  refine g_goto 131 dX5_readPiece_147 (by decide) ?_
                  exact ih131 _ _ hMh11 (Fr.tr (Fr.sub hFh8 rfl) hFh11 rfl) (by omega) (by omega) (by omega)
            refine g_istore dX5_readPiece_129 (by decide) rfl ?_
            refine g_drop 2 ?_
            exact c131 6 _ _ hMh6 Fr.rf (by omega) (by omega) (by omega)
          refine g_icmp_lt 86 dX5_readPiece_57 (by decide) (fun q13 => ?_) (fun q13 => ?_)
          · skip
            refine g_aload_n dX5_readPiece_86 rfl ?_
            refine g_cVP (as := []) (c_X5_sign_65  h5 hMh5) dX5_readPiece_87 mi_X5_sign in_X5_sign se_X5_sign ml_X5_56 rfl rfl rfl sh_65 rfl rfl (Nat.le_of_ble_eq_true rfl) (fun v14 q15 => ?_)
            obtain ⟨bv14, cv14, zv14⟩ := q15
            refine g_bipush dX5_readPiece_90 (inR_c rfl) (by decide) ?_
            refine g_icmp_ne 122 dX5_readPiece_92 (by decide) (fun q16 => ?_) (fun q16 => ?_)
            · skip
              refine g_aload_n dX5_readPiece_122 rfl ?_
              refine g_aload_n dX5_readPiece_123 rfl ?_
              refine g_iload_n dX5_readPiece_124 rfl (fun _ => ?_)
              rcases (show y3 = 1 ∨ y3 = 2 ∨ y3 = 3 ∨ y3 = 4 ∨ y3 = 5 by omega) with q17 | q17 | q17 | q17 | q17
              · skip
                refine g_stk (S' := [(pI 1), (pR 82), (pR 65)]) (by rw [q17]) ?_
                refine g_cVV (as := [_, _]) (c_X5_readComparison_65_82_k1  h5 hMh5) dX5_readPiece_125 mi_X5_readComparison in_X5_readComparison se_X5_readComparison ml_X5_100 rfl rfl rfl sh_65 rfl rfl (Nat.le_of_ble_eq_true rfl) (fun h18 q19 => ?_)
                obtain ⟨hMh18, hFh18⟩ := q19
                refine g_drop 0 ?_
                exact c128 _ hMh18 (Fr.sub hFh18 rfl)
              · skip
                refine g_stk (S' := [(pI 2), (pR 82), (pR 65)]) (by rw [q17]) ?_
                refine g_cVV (as := [_, _]) (c_X5_readComparison_65_82_k2  h5 hMh5) dX5_readPiece_125 mi_X5_readComparison in_X5_readComparison se_X5_readComparison ml_X5_100 rfl rfl rfl sh_65 rfl rfl (Nat.le_of_ble_eq_true rfl) (fun h20 q21 => ?_)
                obtain ⟨hMh20, hFh20⟩ := q21
                refine g_drop 0 ?_
                exact c128 _ hMh20 (Fr.sub hFh20 rfl)
              · skip
                refine g_stk (S' := [(pI 3), (pR 82), (pR 65)]) (by rw [q17]) ?_
                refine g_cVV (as := [_, _]) (c_X5_readComparison_65_82_k3  h5 hMh5) dX5_readPiece_125 mi_X5_readComparison in_X5_readComparison se_X5_readComparison ml_X5_100 rfl rfl rfl sh_65 rfl rfl (Nat.le_of_ble_eq_true rfl) (fun h22 q23 => ?_)
                obtain ⟨hMh22, hFh22⟩ := q23
                refine g_drop 0 ?_
                exact c128 _ hMh22 (Fr.sub hFh22 rfl)
              · skip
                refine g_stk (S' := [(pI 4), (pR 82), (pR 65)]) (by rw [q17]) ?_
                refine g_cVV (as := [_, _]) (c_X5_readComparison_65_82_k4  h5 hMh5) dX5_readPiece_125 mi_X5_readComparison in_X5_readComparison se_X5_readComparison ml_X5_100 rfl rfl rfl sh_65 rfl rfl (Nat.le_of_ble_eq_true rfl) (fun h24 q25 => ?_)
                obtain ⟨hMh24, hFh24⟩ := q25
                refine g_drop 0 ?_
                exact c128 _ hMh24 (Fr.sub hFh24 rfl)
              · skip
                refine g_stk (S' := [(pI 5), (pR 82), (pR 65)]) (by rw [q17]) ?_
                refine g_cVV (as := [_, _]) (c_X5_readComparison_65_82_k5  h5 hMh5) dX5_readPiece_125 mi_X5_readComparison in_X5_readComparison se_X5_readComparison ml_X5_100 rfl rfl rfl sh_65 rfl rfl (Nat.le_of_ble_eq_true rfl) (fun h26 q27 => ?_)
                obtain ⟨hMh26, hFh26⟩ := q27
                refine g_drop 0 ?_
                exact c128 _ hMh26 (Fr.sub hFh26 rfl)
            · skip
              refine g_aload_n dX5_readPiece_95 rfl ?_
              refine g_dup dX5_readPiece_96 rfl ?_
              refine gI_X5_19 rfl dX5_readPiece_97 sh_65 (m_65_2 hMh5) (fun v28 ev28 bv28 cv28 => ?_)
              refine g_iconst dX5_readPiece_100 (inR_c rfl) ?_
              refine g_iaddF dX5_readPiece_101 (fun v29 bv29 cv29 => ?_)
              refine pI_X5_19 rfl dX5_readPiece_102 sh_65 (fun h30 eh30 => ?_)
              have hFh30 := Fr.st eh30
              have hMh30 := u_65_2 hMh5 eh30 (by omega) (by omega)
              refine g_aload_n dX5_readPiece_105 rfl ?_
              refine g_aload_n dX5_readPiece_106 rfl ?_
              refine g_iload_n dX5_readPiece_107 rfl (fun _ => ?_)
              refine g_iconst dX5_readPiece_108 (inR_c rfl) ?_
              refine g_iaddB dX5_readPiece_109 (by omega) (by omega) ?_
              rcases (show (y3 + 1) = 2 ∨ (y3 + 1) = 3 ∨ (y3 + 1) = 4 ∨ (y3 + 1) = 5 ∨ (y3 + 1) = 6 by omega) with q31 | q31 | q31 | q31 | q31
              · skip
                refine g_stk (S' := [(pI 2), (pR 82), (pR 65)]) (by rw [q31]) ?_
                refine g_cVV (as := [_, _]) (c_X5_readCondition_65_82_k2  h30 hMh30) dX5_readPiece_110 mi_X5_readCondition in_X5_readCondition se_X5_readCondition ml_X5_81 rfl rfl rfl sh_65 rfl rfl (Nat.le_of_ble_eq_true rfl) (fun h32 q33 => ?_)
                obtain ⟨hMh32, hFh32⟩ := q33
                refine g_aload_n dX5_readPiece_113 rfl ?_
                refine g_bipush dX5_readPiece_114 (inR_c rfl) (by decide) ?_
                refine g_cVV (as := [_]) (c_X5_expect_65 _ h32 hMh32 (by omega) (by omega)) dX5_readPiece_116 mi_X5_expect in_X5_expect se_X5_expect ml_X5_52 rfl rfl rfl sh_65 rfl rfl (Nat.le_of_ble_eq_true rfl) (fun h34 q35 => ?_)
                obtain ⟨hMh34, hFh34⟩ := q35
                refine g_goto 128 dX5_readPiece_119 (by decide) ?_
                refine g_drop 0 ?_
                exact c128 _ hMh34 (Fr.tr (Fr.tr (Fr.sub hFh30 rfl) hFh32 rfl) hFh34 rfl)
              · skip
                refine g_stk (S' := [(pI 3), (pR 82), (pR 65)]) (by rw [q31]) ?_
                refine g_cVV (as := [_, _]) (c_X5_readCondition_65_82_k3  h30 hMh30) dX5_readPiece_110 mi_X5_readCondition in_X5_readCondition se_X5_readCondition ml_X5_81 rfl rfl rfl sh_65 rfl rfl (Nat.le_of_ble_eq_true rfl) (fun h36 q37 => ?_)
                obtain ⟨hMh36, hFh36⟩ := q37
                refine g_aload_n dX5_readPiece_113 rfl ?_
                refine g_bipush dX5_readPiece_114 (inR_c rfl) (by decide) ?_
                refine g_cVV (as := [_]) (c_X5_expect_65 _ h36 hMh36 (by omega) (by omega)) dX5_readPiece_116 mi_X5_expect in_X5_expect se_X5_expect ml_X5_52 rfl rfl rfl sh_65 rfl rfl (Nat.le_of_ble_eq_true rfl) (fun h38 q39 => ?_)
                obtain ⟨hMh38, hFh38⟩ := q39
                refine g_goto 128 dX5_readPiece_119 (by decide) ?_
                refine g_drop 0 ?_
                exact c128 _ hMh38 (Fr.tr (Fr.tr (Fr.sub hFh30 rfl) hFh36 rfl) hFh38 rfl)
              · skip
                refine g_stk (S' := [(pI 4), (pR 82), (pR 65)]) (by rw [q31]) ?_
                refine g_cVV (as := [_, _]) (c_X5_readCondition_65_82_k4  h30 hMh30) dX5_readPiece_110 mi_X5_readCondition in_X5_readCondition se_X5_readCondition ml_X5_81 rfl rfl rfl sh_65 rfl rfl (Nat.le_of_ble_eq_true rfl) (fun h40 q41 => ?_)
                obtain ⟨hMh40, hFh40⟩ := q41
                refine g_aload_n dX5_readPiece_113 rfl ?_
                refine g_bipush dX5_readPiece_114 (inR_c rfl) (by decide) ?_
                refine g_cVV (as := [_]) (c_X5_expect_65 _ h40 hMh40 (by omega) (by omega)) dX5_readPiece_116 mi_X5_expect in_X5_expect se_X5_expect ml_X5_52 rfl rfl rfl sh_65 rfl rfl (Nat.le_of_ble_eq_true rfl) (fun h42 q43 => ?_)
                obtain ⟨hMh42, hFh42⟩ := q43
                refine g_goto 128 dX5_readPiece_119 (by decide) ?_
                refine g_drop 0 ?_
                exact c128 _ hMh42 (Fr.tr (Fr.tr (Fr.sub hFh30 rfl) hFh40 rfl) hFh42 rfl)
              · skip
                refine g_stk (S' := [(pI 5), (pR 82), (pR 65)]) (by rw [q31]) ?_
                refine g_cVV (as := [_, _]) (c_X5_readCondition_65_82_k5  h30 hMh30) dX5_readPiece_110 mi_X5_readCondition in_X5_readCondition se_X5_readCondition ml_X5_81 rfl rfl rfl sh_65 rfl rfl (Nat.le_of_ble_eq_true rfl) (fun h44 q45 => ?_)
                obtain ⟨hMh44, hFh44⟩ := q45
                refine g_aload_n dX5_readPiece_113 rfl ?_
                refine g_bipush dX5_readPiece_114 (inR_c rfl) (by decide) ?_
                refine g_cVV (as := [_]) (c_X5_expect_65 _ h44 hMh44 (by omega) (by omega)) dX5_readPiece_116 mi_X5_expect in_X5_expect se_X5_expect ml_X5_52 rfl rfl rfl sh_65 rfl rfl (Nat.le_of_ble_eq_true rfl) (fun h46 q47 => ?_)
                obtain ⟨hMh46, hFh46⟩ := q47
                refine g_goto 128 dX5_readPiece_119 (by decide) ?_
                refine g_drop 0 ?_
                exact c128 _ hMh46 (Fr.tr (Fr.tr (Fr.sub hFh30 rfl) hFh44 rfl) hFh46 rfl)
              · skip
                refine g_stk (S' := [(pI 6), (pR 82), (pR 65)]) (by rw [q31]) ?_
                refine g_cVV (as := [_, _]) (c_X5_readCondition_65_82_k6  h30 hMh30) dX5_readPiece_110 mi_X5_readCondition in_X5_readCondition se_X5_readCondition ml_X5_81 rfl rfl rfl sh_65 rfl rfl (Nat.le_of_ble_eq_true rfl) (fun h48 q49 => ?_)
                obtain ⟨hMh48, hFh48⟩ := q49
                refine g_aload_n dX5_readPiece_113 rfl ?_
                refine g_bipush dX5_readPiece_114 (inR_c rfl) (by decide) ?_
                refine g_cVV (as := [_]) (c_X5_expect_65 _ h48 hMh48 (by omega) (by omega)) dX5_readPiece_116 mi_X5_expect in_X5_expect se_X5_expect ml_X5_52 rfl rfl rfl sh_65 rfl rfl (Nat.le_of_ble_eq_true rfl) (fun h50 q51 => ?_)
                obtain ⟨hMh50, hFh50⟩ := q51
                refine g_goto 128 dX5_readPiece_119 (by decide) ?_
                refine g_drop 0 ?_
                exact c128 _ hMh50 (Fr.tr (Fr.tr (Fr.sub hFh30 rfl) hFh48 rfl) hFh50 rfl)
          · skip
            refine g_aload_n dX5_readPiece_60 rfl ?_
            refine g_cVP (as := []) (c_X5_sign_65  h5 hMh5) dX5_readPiece_61 mi_X5_sign in_X5_sign se_X5_sign ml_X5_56 rfl rfl rfl sh_65 rfl rfl (Nat.le_of_ble_eq_true rfl) (fun v52 q53 => ?_)
            obtain ⟨bv52, cv52, zv52⟩ := q53
            refine g_bipush dX5_readPiece_64 (inR_c rfl) (by decide) ?_
            have c78 : G yX5_readPiece cX5_readPiece 5 (none) none Po (25, 1500, 0, 0) 78 [some (pR 65), some (pR 82), some (pI 1), some (pI y3), none] [] SH h5 0 0 := by
              refine g_aload_n dX5_readPiece_78 rfl ?_
              refine g_iconst dX5_readPiece_79 (inR_c rfl) ?_
              refine g_cVV (as := [_]) (c_X5_fail_65 _ h5 hMh5 (by omega) (by omega)) dX5_readPiece_80 mi_X5_fail in_X5_fail se_X5_fail ml_X5_60 rfl rfl rfl sh_65 rfl rfl (Nat.le_of_ble_eq_true rfl) (fun h54 q55 => ?_)
              obtain ⟨hMh54, hFh54, az56, bz56⟩ := q55
              obtain ⟨v57, ev57⟩ : ∃ z, z = h54 65 3 := ⟨_, rfl⟩
              have bv57 : 1 ≤ v57 ∧ v57 ≤ 5 := by rw [ev57]; exact ⟨az56, bz56⟩
              refine g_goto 128 dX5_readPiece_83 (by decide) ?_
              refine g_drop 0 ?_
              exact c128 _ hMh54 (Fr.sub hFh54 rfl)
            refine g_icmp_eq 78 dX5_readPiece_66 (by decide) (fun q58 => ?_) (fun q58 => ?_)
            · skip
              exact c78 
            · skip
              refine g_aload_n dX5_readPiece_69 rfl ?_
              refine g_cVP (as := []) (c_X5_sign_65  h5 hMh5) dX5_readPiece_70 mi_X5_sign in_X5_sign se_X5_sign ml_X5_56 rfl rfl rfl sh_65 rfl rfl (Nat.le_of_ble_eq_true rfl) (fun v59 q60 => ?_)
              obtain ⟨bv59, cv59, zv59⟩ := q60
              have tv59 : v59 = v52 := by rw [zv59, zv52]
              refine g_bipush dX5_readPiece_73 (inR_c rfl) (by decide) ?_
              refine g_icmp_ne 86 dX5_readPiece_75 (by decide) (fun q61 => ?_) (fun q61 => ?_)
              · skip
                refine g_aload_n dX5_readPiece_86 rfl ?_
                refine g_cVP (as := []) (c_X5_sign_65  h5 hMh5) dX5_readPiece_87 mi_X5_sign in_X5_sign se_X5_sign ml_X5_56 rfl rfl rfl sh_65 rfl rfl (Nat.le_of_ble_eq_true rfl) (fun v62 q63 => ?_)
                obtain ⟨bv62, cv62, zv62⟩ := q63
                have tv62 : v62 = v52 := by rw [zv62, zv52]
                refine g_bipush dX5_readPiece_90 (inR_c rfl) (by decide) ?_
                refine g_icmp_ne 122 dX5_readPiece_92 (by decide) (fun q64 => ?_) (fun _ => by exfalso; omega)
                refine g_aload_n dX5_readPiece_122 rfl ?_
                refine g_aload_n dX5_readPiece_123 rfl ?_
                refine g_iload_n dX5_readPiece_124 rfl (fun _ => ?_)
                have q65 : y3 = 6 := by omega
                refine g_stk (S' := [(pI 6), (pR 82), (pR 65)]) (by rw [q65]) ?_
                refine g_cVV (as := [_, _]) (c_X5_readComparison_65_82_k6  h5 hMh5) dX5_readPiece_125 mi_X5_readComparison in_X5_readComparison se_X5_readComparison ml_X5_100 rfl rfl rfl sh_65 rfl rfl (Nat.le_of_ble_eq_true rfl) (fun h66 q67 => ?_)
                obtain ⟨hMh66, hFh66⟩ := q67
                refine g_drop 0 ?_
                exact c128 _ hMh66 (Fr.sub hFh66 rfl)
              · skip
                exact c78 
        refine g_icmp_ge 54 dX5_readPiece_17 (by decide) (fun q68 => ?_) (fun q68 => ?_)
        · skip
          refine g_drop 4 ?_
          exact c54 
        · skip
          refine g_iload_n dX5_readPiece_20 rfl (fun _ => ?_)
          refine g_bipush dX5_readPiece_21 (inR_c rfl) (by decide) ?_
          refine g_icmp_ge 54 dX5_readPiece_23 (by decide) (fun q69 => ?_) (fun q69 => ?_)
          · skip
            refine g_drop 4 ?_
            exact c54 
          · skip
            refine g_aload_n dX5_readPiece_26 rfl ?_
            refine g_cVP (as := []) (c_X5_sign_65  h5 hMh5) dX5_readPiece_27 mi_X5_sign in_X5_sign se_X5_sign ml_X5_56 rfl rfl rfl sh_65 rfl rfl (Nat.le_of_ble_eq_true rfl) (fun v70 q71 => ?_)
            obtain ⟨bv70, cv70, zv70⟩ := q71
            refine g_bipush dX5_readPiece_30 (inR_c rfl) (by decide) ?_
            refine g_icmp_ne 54 dX5_readPiece_32 (by decide) (fun q72 => ?_) (fun q72 => ?_)
            · skip
              refine g_drop 4 ?_
              exact c54 
            · skip
              refine g_aload_n dX5_readPiece_35 rfl ?_
              refine g_dup dX5_readPiece_36 rfl ?_
              refine gI_X5_19 rfl dX5_readPiece_37 sh_65 (m_65_2 hMh5) (fun v73 ev73 bv73 cv73 => ?_)
              refine g_iconst dX5_readPiece_40 (inR_c rfl) ?_
              refine g_iaddF dX5_readPiece_41 (fun v74 bv74 cv74 => ?_)
              refine pI_X5_19 rfl dX5_readPiece_42 sh_65 (fun h75 eh75 => ?_)
              have hFh75 := Fr.st eh75
              have hMh75 := u_65_2 hMh5 eh75 (by omega) (by omega)
              refine g_iincB dX5_readPiece_45 rfl rfl (by omega) (by omega) ?_
              refine g_iincB dX5_readPiece_48 rfl rfl (by omega) (by omega) ?_
              refine g_goto 13 dX5_readPiece_51 (by decide) ?_
              exact ih13 _ _ _ hMh75 (Fr.tr (Fr.sub hFh5 rfl) hFh75 rfl) (by omega) (by omega) (by omega) (by omega) (by omega)
    refine g_istore dX5_readPiece_11 (by decide) rfl ?_
    exact c13 6 _ _ _ hM Fr.rf (by omega) (by omega) (by omega) (by omega) (by omega)
  · skip
    exact g_return dX5_readPiece_7 rfl (hPo _ ⟨hM, Fr.rf⟩)
set_option maxRecDepth 100000 in
set_option maxHeartbeats 4000000 in
theorem c_X5_readPart_65_82_k1 (h : MEM) (hM : MBx h) : CV yX5_readPart cX5_readPart 6 (none) 26 [pR 65, pR 82, pI 1] h (fun h' => MBx h' ∧ Fr [(65, 3), (65, 4), (65, 5), (82, 2), (87, 0), (88, 0)] h h') := by
  refine CV.of (L0 := [some (pR 65), some (pR 82), some (pI 1), none, none, none]) rfl (Nat.le_of_ble_eq_true rfl) rfl (fun Po hPo hav => ?_)
  refine g_aload_n dX5_readPart_0 rfl ?_
  refine g_aload_n dX5_readPart_1 rfl ?_
  refine g_iload_n dX5_readPart_2 rfl (fun _ => ?_)
  refine g_cVV (as := [_, _]) (c_X5_readPiece_65_82_k1  h hM) dX5_readPart_3 mi_X5_readPiece in_X5_readPiece se_X5_readPiece ml_X5_97 rfl rfl rfl sh_65 rfl rfl (Nat.le_of_ble_eq_true rfl) (fun h1 q2 => ?_)
  obtain ⟨hMh1, hFh1⟩ := q2
  refine g_iconst dX5_readPart_6 (inR_c rfl) ?_
  refine g_istore_n dX5_readPart_7 (by decide) rfl ?_
  refine g_iconst dX5_readPart_8 (inR_c rfl) ?_
  have c11 : ∀ (n : Nat) (y3 y4 : Int) (h5 : MEM), MBx h5 → Fr [(65, 3), (65, 4), (65, 5), (82, 2), (87, 0), (88, 0)] h1 h5 → -1 ≤ y3 → y3 ≤ 199 → 0 ≤ y4 → y4 ≤ 200 → 200 - y4 < (n : Int) → G yX5_readPart cX5_readPart 6 (none) none Po (26, 1560, 0, 0) 11 [some (pR 65), some (pR 82), some (pI 1), some (pI y3), some (pI y4), none] [] SH h5 0 0 := by
    intro n
    induction n with
    | zero =>
      intro y3 y4 h5 hMh5 hFh5 by3 dy3 by4 dy4 hn
      exfalso; omega
    | succ n ih11 =>
      intro y3 y4 h5 hMh5 hFh5 by3 dy3 by4 dy4 hn
      refine g_iload dX5_readPart_11 rfl (fun _ => ?_)
      refine g_sipush dX5_readPart_13 (inR_c rfl) (by decide) ?_
      refine g_icmp_ge 75 dX5_readPart_16 (by decide) (fun q6 => ?_) (fun q6 => ?_)
      · skip
        refine g_aload_n dX5_readPart_75 rfl ?_
        refine g_iload_n dX5_readPart_76 rfl (fun _ => ?_)
        refine g_aload_n dX5_readPart_77 rfl ?_
        refine gI_X5_45 rfl dX5_readPart_78 sh_82 (m_82_1 hMh5) (fun v7 ev7 bv7 cv7 => ?_)
        refine g_cVV (as := [_, _]) (c_X2_aim_82 _ _ h5 hMh5 (by omega) (by omega) (by omega) (by omega)) dX5_readPart_81 mi_X2_aim in_X2_aim se_X2_aim ml_X5_93 rfl rfl rfl sh_82 rfl rfl (Nat.le_of_ble_eq_true rfl) (fun h8 q9 => ?_)
        obtain ⟨hMh8, hFh8⟩ := q9
        exact g_return dX5_readPart_84 rfl (hPo _ ⟨hMh8, (Fr.tr (Fr.tr (Fr.sub hFh1 rfl) hFh5 rfl) hFh8 rfl)⟩)
      · skip
        refine g_aload_n dX5_readPart_19 rfl ?_
        refine gI_X5_22 rfl dX5_readPart_20 sh_65 (m_65_3 hMh5) (fun v10 ev10 bv10 cv10 => ?_)
        refine g_if_ne 75 dX5_readPart_23 (by decide) (fun q11 => ?_) (fun q11 => ?_)
        · skip
          refine g_aload_n dX5_readPart_75 rfl ?_
          refine g_iload_n dX5_readPart_76 rfl (fun _ => ?_)
          refine g_aload_n dX5_readPart_77 rfl ?_
          refine gI_X5_45 rfl dX5_readPart_78 sh_82 (m_82_1 hMh5) (fun v12 ev12 bv12 cv12 => ?_)
          refine g_cVV (as := [_, _]) (c_X2_aim_82 _ _ h5 hMh5 (by omega) (by omega) (by omega) (by omega)) dX5_readPart_81 mi_X2_aim in_X2_aim se_X2_aim ml_X5_93 rfl rfl rfl sh_82 rfl rfl (Nat.le_of_ble_eq_true rfl) (fun h13 q14 => ?_)
          obtain ⟨hMh13, hFh13⟩ := q14
          exact g_return dX5_readPart_84 rfl (hPo _ ⟨hMh13, (Fr.tr (Fr.tr (Fr.sub hFh1 rfl) hFh5 rfl) hFh13 rfl)⟩)
        · skip
          refine g_aload_n dX5_readPart_26 rfl ?_
          refine g_cVP (as := []) (c_X5_sign_65  h5 hMh5) dX5_readPart_27 mi_X5_sign in_X5_sign se_X5_sign ml_X5_56 rfl rfl rfl sh_65 rfl rfl (Nat.le_of_ble_eq_true rfl) (fun v15 q16 => ?_)
          obtain ⟨bv15, cv15, zv15⟩ := q16
          refine g_bipush dX5_readPart_30 (inR_c rfl) (by decide) ?_
          refine g_icmp_ne 75 dX5_readPart_32 (by decide) (fun q17 => ?_) (fun q17 => ?_)
          · skip
            refine g_aload_n dX5_readPart_75 rfl ?_
            refine g_iload_n dX5_readPart_76 rfl (fun _ => ?_)
            refine g_aload_n dX5_readPart_77 rfl ?_
            refine gI_X5_45 rfl dX5_readPart_78 sh_82 (m_82_1 hMh5) (fun v18 ev18 bv18 cv18 => ?_)
            refine g_cVV (as := [_, _]) (c_X2_aim_82 _ _ h5 hMh5 (by omega) (by omega) (by omega) (by omega)) dX5_readPart_81 mi_X2_aim in_X2_aim se_X2_aim ml_X5_93 rfl rfl rfl sh_82 rfl rfl (Nat.le_of_ble_eq_true rfl) (fun h19 q20 => ?_)
            obtain ⟨hMh19, hFh19⟩ := q20
            exact g_return dX5_readPart_84 rfl (hPo _ ⟨hMh19, (Fr.tr (Fr.tr (Fr.sub hFh1 rfl) hFh5 rfl) hFh19 rfl)⟩)
          · skip
            refine g_aload_n dX5_readPart_35 rfl ?_
            refine g_dup dX5_readPart_36 rfl ?_
            refine gI_X5_19 rfl dX5_readPart_37 sh_65 (m_65_2 hMh5) (fun v21 ev21 bv21 cv21 => ?_)
            refine g_iconst dX5_readPart_40 (inR_c rfl) ?_
            refine g_iaddF dX5_readPart_41 (fun v22 bv22 cv22 => ?_)
            refine pI_X5_19 rfl dX5_readPart_42 sh_65 (fun h23 eh23 => ?_)
            have hFh23 := Fr.st eh23
            have hMh23 := u_65_2 hMh5 eh23 (by omega) (by omega)
            refine g_aload_n dX5_readPart_45 rfl ?_
            refine g_iconst dX5_readPart_46 (inR_c rfl) ?_
            refine g_iconst dX5_readPart_47 (inR_c rfl) ?_
            refine g_cV (as := [_, _]) (c_X2_addStep_82 _ _ h23 hMh23 (by omega) (by omega) (by omega) (by omega)) dX5_readPart_48 mi_X2_addStep in_X2_addStep se_X2_addStep ml_X5_90 rfl rfl rfl sh_82 rfl rfl (Nat.le_of_ble_eq_true rfl) (fun v24 h25 q26 => ?_)
            obtain ⟨hMh25, hFh25, bv24, cv24⟩ := q26
            refine g_istore dX5_readPart_51 (by decide) rfl ?_
            refine g_aload_n dX5_readPart_53 rfl ?_
            refine g_iload_n dX5_readPart_54 rfl (fun _ => ?_)
            refine g_iload dX5_readPart_55 rfl (fun _ => ?_)
            refine g_cVV (as := [_, _]) (c_X2_aim_82 _ _ h25 hMh25 (by omega) (by omega) (by omega) (by omega)) dX5_readPart_57 mi_X2_aim in_X2_aim se_X2_aim ml_X5_93 rfl rfl rfl sh_82 rfl rfl (Nat.le_of_ble_eq_true rfl) (fun h27 q28 => ?_)
            obtain ⟨hMh27, hFh27⟩ := q28
            refine g_iload dX5_readPart_60 rfl (fun _ => ?_)
            refine g_istore_n dX5_readPart_62 (by decide) rfl ?_
            refine g_aload_n dX5_readPart_63 rfl ?_
            refine g_aload_n dX5_readPart_64 rfl ?_
            refine g_iload_n dX5_readPart_65 rfl (fun _ => ?_)
            refine g_cVV (as := [_, _]) (c_X5_readPiece_65_82_k1  h27 hMh27) dX5_readPart_66 mi_X5_readPiece in_X5_readPiece se_X5_readPiece ml_X5_97 rfl rfl rfl sh_65 rfl rfl (Nat.le_of_ble_eq_true rfl) (fun h29 q30 => ?_)
            obtain ⟨hMh29, hFh29⟩ := q30
            refine g_iincB dX5_readPart_69 rfl rfl (by omega) (by omega) ?_
            refine g_goto 11 dX5_readPart_72 (by decide) ?_
            refine g_drop 5 ?_
            exact ih11 _ _ _ hMh29 (Fr.tr (Fr.tr (Fr.tr (Fr.tr (Fr.sub hFh5 rfl) hFh23 rfl) hFh25 rfl) hFh27 rfl) hFh29 rfl) (by omega) (by omega) (by omega) (by omega) (by omega)
  refine g_istore dX5_readPart_9 (by decide) rfl ?_
  exact c11 201 _ _ _ hMh1 Fr.rf (by omega) (by omega) (by omega) (by omega) (by omega)
set_option maxRecDepth 100000 in
set_option maxHeartbeats 4000000 in
theorem c_X5_readCondition_65_82_k1 (h : MEM) (hM : MBx h) : CV yX5_readCondition cX5_readCondition 6 (none) 27 [pR 65, pR 82, pI 1] h (fun h' => MBx h' ∧ Fr [(65, 3), (65, 4), (65, 5), (82, 2), (87, 0), (88, 0)] h h') := by
  refine CV.of (L0 := [some (pR 65), some (pR 82), some (pI 1), none, none, none]) rfl (Nat.le_of_ble_eq_true rfl) rfl (fun Po hPo hav => ?_)
  refine g_aload_n dX5_readCondition_0 rfl ?_
  refine g_aload_n dX5_readCondition_1 rfl ?_
  refine g_iload_n dX5_readCondition_2 rfl (fun _ => ?_)
  refine g_cVV (as := [_, _]) (c_X5_readPart_65_82_k1  h hM) dX5_readCondition_3 mi_X5_readPart in_X5_readPart se_X5_readPart ml_X5_87 rfl rfl rfl sh_65 rfl rfl (Nat.le_of_ble_eq_true rfl) (fun h1 q2 => ?_)
  obtain ⟨hMh1, hFh1⟩ := q2
  refine g_iconst dX5_readCondition_6 (inR_c rfl) ?_
  refine g_istore_n dX5_readCondition_7 (by decide) rfl ?_
  refine g_iconst dX5_readCondition_8 (inR_c rfl) ?_
  have c11 : ∀ (n : Nat) (y3 y4 : Int) (h5 : MEM), MBx h5 → Fr [(65, 3), (65, 4), (65, 5), (82, 2), (87, 0), (88, 0)] h1 h5 → -1 ≤ y3 → y3 ≤ 199 → 0 ≤ y4 → y4 ≤ 200 → 200 - y4 < (n : Int) → G yX5_readCondition cX5_readCondition 6 (none) none Po (27, 1620, 0, 0) 11 [some (pR 65), some (pR 82), some (pI 1), some (pI y3), some (pI y4), none] [] SH h5 0 0 := by
    intro n
    induction n with
    | zero =>
      intro y3 y4 h5 hMh5 hFh5 by3 dy3 by4 dy4 hn
      exfalso; omega
    | succ n ih11 =>
      intro y3 y4 h5 hMh5 hFh5 by3 dy3 by4 dy4 hn
      refine g_iload dX5_readCondition_11 rfl (fun _ => ?_)
      refine g_sipush dX5_readCondition_13 (inR_c rfl) (by decide) ?_
      refine g_icmp_ge 75 dX5_readCondition_16 (by decide) (fun q6 => ?_) (fun q6 => ?_)
      · skip
        refine g_aload_n dX5_readCondition_75 rfl ?_
        refine g_iload_n dX5_readCondition_76 rfl (fun _ => ?_)
        refine g_aload_n dX5_readCondition_77 rfl ?_
        refine gI_X5_45 rfl dX5_readCondition_78 sh_82 (m_82_1 hMh5) (fun v7 ev7 bv7 cv7 => ?_)
        refine g_cVV (as := [_, _]) (c_X2_aim_82 _ _ h5 hMh5 (by omega) (by omega) (by omega) (by omega)) dX5_readCondition_81 mi_X2_aim in_X2_aim se_X2_aim ml_X5_93 rfl rfl rfl sh_82 rfl rfl (Nat.le_of_ble_eq_true rfl) (fun h8 q9 => ?_)
        obtain ⟨hMh8, hFh8⟩ := q9
        exact g_return dX5_readCondition_84 rfl (hPo _ ⟨hMh8, (Fr.tr (Fr.tr (Fr.sub hFh1 rfl) hFh5 rfl) hFh8 rfl)⟩)
      · skip
        refine g_aload_n dX5_readCondition_19 rfl ?_
        refine gI_X5_22 rfl dX5_readCondition_20 sh_65 (m_65_3 hMh5) (fun v10 ev10 bv10 cv10 => ?_)
        refine g_if_ne 75 dX5_readCondition_23 (by decide) (fun q11 => ?_) (fun q11 => ?_)
        · skip
          refine g_aload_n dX5_readCondition_75 rfl ?_
          refine g_iload_n dX5_readCondition_76 rfl (fun _ => ?_)
          refine g_aload_n dX5_readCondition_77 rfl ?_
          refine gI_X5_45 rfl dX5_readCondition_78 sh_82 (m_82_1 hMh5) (fun v12 ev12 bv12 cv12 => ?_)
          refine g_cVV (as := [_, _]) (c_X2_aim_82 _ _ h5 hMh5 (by omega) (by omega) (by omega) (by omega)) dX5_readCondition_81 mi_X2_aim in_X2_aim se_X2_aim ml_X5_93 rfl rfl rfl sh_82 rfl rfl (Nat.le_of_ble_eq_true rfl) (fun h13 q14 => ?_)
          obtain ⟨hMh13, hFh13⟩ := q14
          exact g_return dX5_readCondition_84 rfl (hPo _ ⟨hMh13, (Fr.tr (Fr.tr (Fr.sub hFh1 rfl) hFh5 rfl) hFh13 rfl)⟩)
        · skip
          refine g_aload_n dX5_readCondition_26 rfl ?_
          refine g_cVP (as := []) (c_X5_sign_65  h5 hMh5) dX5_readCondition_27 mi_X5_sign in_X5_sign se_X5_sign ml_X5_56 rfl rfl rfl sh_65 rfl rfl (Nat.le_of_ble_eq_true rfl) (fun v15 q16 => ?_)
          obtain ⟨bv15, cv15, zv15⟩ := q16
          refine g_bipush dX5_readCondition_30 (inR_c rfl) (by decide) ?_
          refine g_icmp_ne 75 dX5_readCondition_32 (by decide) (fun q17 => ?_) (fun q17 => ?_)
          · skip
            refine g_aload_n dX5_readCondition_75 rfl ?_
            refine g_iload_n dX5_readCondition_76 rfl (fun _ => ?_)
            refine g_aload_n dX5_readCondition_77 rfl ?_
            refine gI_X5_45 rfl dX5_readCondition_78 sh_82 (m_82_1 hMh5) (fun v18 ev18 bv18 cv18 => ?_)
            refine g_cVV (as := [_, _]) (c_X2_aim_82 _ _ h5 hMh5 (by omega) (by omega) (by omega) (by omega)) dX5_readCondition_81 mi_X2_aim in_X2_aim se_X2_aim ml_X5_93 rfl rfl rfl sh_82 rfl rfl (Nat.le_of_ble_eq_true rfl) (fun h19 q20 => ?_)
            obtain ⟨hMh19, hFh19⟩ := q20
            exact g_return dX5_readCondition_84 rfl (hPo _ ⟨hMh19, (Fr.tr (Fr.tr (Fr.sub hFh1 rfl) hFh5 rfl) hFh19 rfl)⟩)
          · skip
            refine g_aload_n dX5_readCondition_35 rfl ?_
            refine g_dup dX5_readCondition_36 rfl ?_
            refine gI_X5_19 rfl dX5_readCondition_37 sh_65 (m_65_2 hMh5) (fun v21 ev21 bv21 cv21 => ?_)
            refine g_iconst dX5_readCondition_40 (inR_c rfl) ?_
            refine g_iaddF dX5_readCondition_41 (fun v22 bv22 cv22 => ?_)
            refine pI_X5_19 rfl dX5_readCondition_42 sh_65 (fun h23 eh23 => ?_)
            have hFh23 := Fr.st eh23
            have hMh23 := u_65_2 hMh5 eh23 (by omega) (by omega)
            refine g_aload_n dX5_readCondition_45 rfl ?_
            refine g_iconst dX5_readCondition_46 (inR_c rfl) ?_
            refine g_iconst dX5_readCondition_47 (inR_c rfl) ?_
            refine g_cV (as := [_, _]) (c_X2_addStep_82 _ _ h23 hMh23 (by omega) (by omega) (by omega) (by omega)) dX5_readCondition_48 mi_X2_addStep in_X2_addStep se_X2_addStep ml_X5_90 rfl rfl rfl sh_82 rfl rfl (Nat.le_of_ble_eq_true rfl) (fun v24 h25 q26 => ?_)
            obtain ⟨hMh25, hFh25, bv24, cv24⟩ := q26
            refine g_istore dX5_readCondition_51 (by decide) rfl ?_
            refine g_aload_n dX5_readCondition_53 rfl ?_
            refine g_iload_n dX5_readCondition_54 rfl (fun _ => ?_)
            refine g_iload dX5_readCondition_55 rfl (fun _ => ?_)
            refine g_cVV (as := [_, _]) (c_X2_aim_82 _ _ h25 hMh25 (by omega) (by omega) (by omega) (by omega)) dX5_readCondition_57 mi_X2_aim in_X2_aim se_X2_aim ml_X5_93 rfl rfl rfl sh_82 rfl rfl (Nat.le_of_ble_eq_true rfl) (fun h27 q28 => ?_)
            obtain ⟨hMh27, hFh27⟩ := q28
            refine g_iload dX5_readCondition_60 rfl (fun _ => ?_)
            refine g_istore_n dX5_readCondition_62 (by decide) rfl ?_
            refine g_aload_n dX5_readCondition_63 rfl ?_
            refine g_aload_n dX5_readCondition_64 rfl ?_
            refine g_iload_n dX5_readCondition_65 rfl (fun _ => ?_)
            refine g_cVV (as := [_, _]) (c_X5_readPart_65_82_k1  h27 hMh27) dX5_readCondition_66 mi_X5_readPart in_X5_readPart se_X5_readPart ml_X5_87 rfl rfl rfl sh_65 rfl rfl (Nat.le_of_ble_eq_true rfl) (fun h29 q30 => ?_)
            obtain ⟨hMh29, hFh29⟩ := q30
            refine g_iincB dX5_readCondition_69 rfl rfl (by omega) (by omega) ?_
            refine g_goto 11 dX5_readCondition_72 (by decide) ?_
            refine g_drop 5 ?_
            exact ih11 _ _ _ hMh29 (Fr.tr (Fr.tr (Fr.tr (Fr.tr (Fr.sub hFh5 rfl) hFh23 rfl) hFh25 rfl) hFh27 rfl) hFh29 rfl) (by omega) (by omega) (by omega) (by omega) (by omega)
  refine g_istore dX5_readCondition_9 (by decide) rfl ?_
  exact c11 201 _ _ _ hMh1 Fr.rf (by omega) (by omega) (by omega) (by omega) (by omega)
set_option maxRecDepth 100000 in
set_option maxHeartbeats 4000000 in
theorem c_X2_endClause_82 (h : MEM) (hM : MBx h) : CV yX2_endClause cX2_endClause 1 (none) 1 [pR 82] h (fun h' => MBx h' ∧ Fr [(82, 1), (86, 0)] h h') := by
  refine CV.of (L0 := [some (pR 82)]) rfl (Nat.le_of_ble_eq_true rfl) rfl (fun Po hPo hav => ?_)
  refine g_aload_n dX2_endClause_0 rfl ?_
  refine gI_X2_9 rfl dX2_endClause_1 sh_82 (m_82_0 hM) (fun v1 ev1 bv1 cv1 => ?_)
  refine g_bipush dX2_endClause_4 (inR_c rfl) (by decide) ?_
  refine g_icmp_ge 32 dX2_endClause_6 (by decide) (fun q2 => ?_) (fun q2 => ?_)
  · skip
    exact g_return dX2_endClause_32 rfl (hPo _ ⟨hM, Fr.rf⟩)
  · skip
    refine g_aload_n dX2_endClause_9 rfl ?_
    refine gR_X2_28 rfl dX2_endClause_10 sh_82 (b := 86) (m_82_5 hM) ?_
    refine g_aload_n dX2_endClause_13 rfl ?_
    refine gE_X2_9 rfl dX2_endClause_14 sh_82 ev1.symm ?_
    refine g_aload_n dX2_endClause_17 rfl ?_
    refine gI_X2_15 rfl dX2_endClause_18 sh_82 (m_82_1 hM) (fun v3 ev3 bv3 cv3 => ?_)
    refine g_iastB dX2_endClause_21 sh_86 (by omega) (by omega) (fun h4 eh4 => ?_)
    have hFh4 := Fr.ar eh4
    have hMh4 := u_86 hM eh4 (by omega) (by omega)
    refine g_aload_n dX2_endClause_22 rfl ?_
    refine g_dup dX2_endClause_23 rfl ?_
    refine gE_X2_9 rfl dX2_endClause_24 sh_82 ((hFh4 82 0 rfl).trans ev1.symm) ?_
    refine g_iconst dX2_endClause_27 (inR_c rfl) ?_
    refine g_iaddB dX2_endClause_28 (by omega) (by omega) ?_
    refine pI_X2_9 rfl dX2_endClause_29 sh_82 (fun h5 eh5 => ?_)
    have hFh5 := Fr.st eh5
    have hMh5 := u_82_0 hMh4 eh5 (by omega) (by omega)
    exact g_return dX2_endClause_32 rfl (hPo _ ⟨hMh5, (Fr.tr (Fr.sub hFh4 rfl) hFh5 rfl)⟩)
set_option maxRecDepth 100000 in
set_option maxHeartbeats 4000000 in
theorem c_X5_readClause_65_82 (h : MEM) (hM : MBx h) : CV yX5_readClause cX5_readClause 3 (none) 28 [pR 65, pR 82] h (fun h' => MBx h' ∧ Fr [(65, 3), (65, 4), (65, 5), (82, 1), (82, 2), (83, 0), (84, 0), (85, 0), (86, 0), (87, 0), (88, 0)] h h') := by
  refine CV.of (L0 := [some (pR 65), some (pR 82), none]) rfl (Nat.le_of_ble_eq_true rfl) rfl (fun Po hPo hav => ?_)
  refine g_aload_n dX5_readClause_0 rfl ?_
  refine g_cVP (as := []) (c_X5_sign_65  h hM) dX5_readClause_1 mi_X5_sign in_X5_sign se_X5_sign ml_X5_56 rfl rfl rfl sh_65 rfl rfl (Nat.le_of_ble_eq_true rfl) (fun v1 q2 => ?_)
  obtain ⟨bv1, cv1, zv1⟩ := q2
  refine g_istore_n dX5_readClause_4 (by decide) rfl ?_
  refine g_aload_n dX5_readClause_5 rfl ?_
  refine gI_X5_22 rfl dX5_readClause_6 sh_65 (m_65_3 hM) (fun v3 ev3 bv3 cv3 => ?_)
  have c35 : ∀ (h4 : MEM), MBx h4 → Fr [(65, 4), (65, 5)] h h4 → G yX5_readClause cX5_readClause 3 (none) none Po (28, 1680, 0, 0) 35 [some (pR 65), some (pR 82), some (pI v1)] [] SH h4 0 0 := by
    intro h4 hMh4 hFh4
    refine g_sidx_n0 rfl rfl dX5_readClause_35 dX5_readClause_37 dX5_readClause_38 ml_X5_66 rfl (Nat.le_of_ble_eq_true rfl) (fun v5 bv5 cv5 => ?_)
    have c49 : ∀ (h6 : MEM), MBx h6 → Fr [(65, 4), (65, 5)] h4 h6 → G yX5_readClause cX5_readClause 3 (none) none Po (28, 1680, 0, 0) 49 [some (pR 65), some (pR 82), some (pI v1)] [] SH h6 0 0 := by
      intro h6 hMh6 hFh6
      refine g_aload_n dX5_readClause_49 rfl ?_
      refine gI_X5_22 rfl dX5_readClause_50 sh_65 (m_65_3 hMh6) (fun v7 ev7 bv7 cv7 => ?_)
      refine g_if_eq 57 dX5_readClause_53 (by decide) (fun q8 => ?_) (fun q8 => ?_)
      · skip
        refine g_aload_n dX5_readClause_57 rfl ?_
        refine g_dup dX5_readClause_58 rfl ?_
        refine gI_X5_19 rfl dX5_readClause_59 sh_65 (m_65_2 hMh6) (fun v9 ev9 bv9 cv9 => ?_)
        refine g_iconst dX5_readClause_62 (inR_c rfl) ?_
        refine g_iaddF dX5_readClause_63 (fun v10 bv10 cv10 => ?_)
        refine pI_X5_19 rfl dX5_readClause_64 sh_65 (fun h11 eh11 => ?_)
        have hFh11 := Fr.st eh11
        have hMh11 := u_65_2 hMh6 eh11 (by omega) (by omega)
        refine g_aload_n dX5_readClause_67 rfl ?_
        refine g_iload_n dX5_readClause_68 rfl (fun _ => ?_)
        refine g_cVV (as := [_]) (c_X2_beginClause_82 _ h11 hMh11 (by omega) (by omega)) dX5_readClause_69 mi_X2_beginClause in_X2_beginClause se_X2_beginClause ml_X5_71 rfl rfl rfl sh_82 rfl rfl (Nat.le_of_ble_eq_true rfl) (fun h12 q13 => ?_)
        obtain ⟨hMh12, hFh12⟩ := q13
        refine g_aload_n dX5_readClause_72 rfl ?_
        refine g_aload_n dX5_readClause_73 rfl ?_
        refine g_iconst dX5_readClause_74 (inR_c rfl) ?_
        refine g_cVV (as := [_, _]) (c_X5_readSum_65_82_k0  h12 hMh12) dX5_readClause_75 mi_X5_readSum in_X5_readSum se_X5_readSum ml_X5_74 rfl rfl rfl sh_65 rfl rfl (Nat.le_of_ble_eq_true rfl) (fun h14 q15 => ?_)
        obtain ⟨hMh14, hFh14⟩ := q15
        refine g_aload_n dX5_readClause_78 rfl ?_
        refine g_cVV (as := []) (c_X2_beginCondition_82  h14 hMh14) dX5_readClause_79 mi_X2_beginCondition in_X2_beginCondition se_X2_beginCondition ml_X5_78 rfl rfl rfl sh_82 rfl rfl (Nat.le_of_ble_eq_true rfl) (fun h16 q17 => ?_)
        obtain ⟨hMh16, hFh16⟩ := q17
        refine g_aload_n dX5_readClause_82 rfl ?_
        refine g_bipush dX5_readClause_83 (inR_c rfl) (by decide) ?_
        refine g_cVV (as := [_]) (c_X5_expect_65 _ h16 hMh16 (by omega) (by omega)) dX5_readClause_85 mi_X5_expect in_X5_expect se_X5_expect ml_X5_52 rfl rfl rfl sh_65 rfl rfl (Nat.le_of_ble_eq_true rfl) (fun h18 q19 => ?_)
        obtain ⟨hMh18, hFh18⟩ := q19
        refine g_aload_n dX5_readClause_88 rfl ?_
        refine g_aload_n dX5_readClause_89 rfl ?_
        refine g_iconst dX5_readClause_90 (inR_c rfl) ?_
        refine g_cVV (as := [_, _]) (c_X5_readCondition_65_82_k1  h18 hMh18) dX5_readClause_91 mi_X5_readCondition in_X5_readCondition se_X5_readCondition ml_X5_81 rfl rfl rfl sh_65 rfl rfl (Nat.le_of_ble_eq_true rfl) (fun h20 q21 => ?_)
        obtain ⟨hMh20, hFh20⟩ := q21
        refine g_aload_n dX5_readClause_94 rfl ?_
        refine g_bipush dX5_readClause_95 (inR_c rfl) (by decide) ?_
        refine g_cVV (as := [_]) (c_X5_expect_65 _ h20 hMh20 (by omega) (by omega)) dX5_readClause_97 mi_X5_expect in_X5_expect se_X5_expect ml_X5_52 rfl rfl rfl sh_65 rfl rfl (Nat.le_of_ble_eq_true rfl) (fun h22 q23 => ?_)
        obtain ⟨hMh22, hFh22⟩ := q23
        refine g_aload_n dX5_readClause_100 rfl ?_
        refine g_cVV (as := []) (c_X2_endClause_82  h22 hMh22) dX5_readClause_101 mi_X2_endClause in_X2_endClause se_X2_endClause ml_X5_84 rfl rfl rfl sh_82 rfl rfl (Nat.le_of_ble_eq_true rfl) (fun h24 q25 => ?_)
        obtain ⟨hMh24, hFh24⟩ := q25
        exact g_return dX5_readClause_104 rfl (hPo _ ⟨hMh24, (Fr.tr (Fr.tr (Fr.tr (Fr.tr (Fr.tr (Fr.tr (Fr.tr (Fr.tr (Fr.tr (Fr.sub hFh4 rfl) hFh6 rfl) hFh11 rfl) hFh12 rfl) hFh14 rfl) hFh16 rfl) hFh18 rfl) hFh20 rfl) hFh22 rfl) hFh24 rfl)⟩)
      · skip
        exact g_return dX5_readClause_56 rfl (hPo _ ⟨hMh6, (Fr.tr (Fr.sub hFh4 rfl) hFh6 rfl)⟩)
    refine g_if_ge 49 dX5_readClause_41 (by decide) (fun q26 => ?_) (fun q26 => ?_)
    · skip
      exact c49 _ hMh4 Fr.rf
    · skip
      refine g_aload_n dX5_readClause_44 rfl ?_
      refine g_iconst dX5_readClause_45 (inR_c rfl) ?_
      refine g_cVV (as := [_]) (c_X5_fail_65 _ h4 hMh4 (by omega) (by omega)) dX5_readClause_46 mi_X5_fail in_X5_fail se_X5_fail ml_X5_60 rfl rfl rfl sh_65 rfl rfl (Nat.le_of_ble_eq_true rfl) (fun h27 q28 => ?_)
      obtain ⟨hMh27, hFh27, az29, bz29⟩ := q28
      obtain ⟨v30, ev30⟩ : ∃ z, z = h27 65 3 := ⟨_, rfl⟩
      have bv30 : 1 ≤ v30 ∧ v30 ≤ 5 := by rw [ev30]; exact ⟨az29, bz29⟩
      exact c49 _ hMh27 (Fr.sub hFh27 rfl)
  refine g_if_ne 35 dX5_readClause_9 (by decide) (fun q31 => ?_) (fun q31 => ?_)
  · skip
    exact c35 _ hM Fr.rf
  · skip
    refine g_sidx_n0 rfl rfl dX5_readClause_12 dX5_readClause_14 dX5_readClause_15 ml_X5_66 rfl (Nat.le_of_ble_eq_true rfl) (fun v32 bv32 cv32 => ?_)
    refine g_if_lt 35 dX5_readClause_18 (by decide) (fun q33 => ?_) (fun q33 => ?_)
    · skip
      exact c35 _ hM Fr.rf
    · skip
      refine g_aload_n dX5_readClause_21 rfl ?_
      refine gI_X5_40 rfl dX5_readClause_22 sh_82 (m_82_0 hM) (fun v34 ev34 bv34 cv34 => ?_)
      refine g_bipush dX5_readClause_25 (inR_c rfl) (by decide) ?_
      refine g_icmp_lt 35 dX5_readClause_27 (by decide) (fun q35 => ?_) (fun q35 => ?_)
      · skip
        exact c35 _ hM Fr.rf
      · skip
        refine g_aload_n dX5_readClause_30 rfl ?_
        refine g_iconst dX5_readClause_31 (inR_c rfl) ?_
        refine g_cVV (as := [_]) (c_X5_fail_65 _ h hM (by omega) (by omega)) dX5_readClause_32 mi_X5_fail in_X5_fail se_X5_fail ml_X5_60 rfl rfl rfl sh_65 rfl rfl (Nat.le_of_ble_eq_true rfl) (fun h36 q37 => ?_)
        obtain ⟨hMh36, hFh36, az38, bz38⟩ := q37
        obtain ⟨v39, ev39⟩ : ∃ z, z = h36 65 3 := ⟨_, rfl⟩
        have bv39 : 1 ≤ v39 ∧ v39 ≤ 5 := by rw [ev39]; exact ⟨az38, bz38⟩
        exact c35 _ hMh36 (Fr.sub hFh36 rfl)
set_option maxRecDepth 100000 in
set_option maxHeartbeats 4000000 in
theorem c_X5_readLaw_65_61_82 (x1 : Int) (h : MEM) (hM : MBx h) (bx1 : 1 ≤ x1) (dx1 : x1 ≤ 200) : CI yX5_readLaw cX5_readLaw 5 (some .int) 29 [pR 65, pR 61, pI x1, pR 82] h (fun x h' => MBx h' ∧ Fr [(65, 2), (65, 3), (65, 4), (65, 5), (66, 0), (82, 1), (82, 2), (83, 0), (84, 0), (85, 0), (86, 0), (87, 0), (88, 0)] h h' ∧ -2147483648 ≤ x ∧ x ≤ 2147483647) := by
  refine CI.of (L0 := [some (pR 65), some (pR 61), some (pI x1), some (pR 82), none]) rfl (Nat.le_of_ble_eq_true rfl) rfl (fun Po hPo hav => ?_)
  refine g_aload_n dX5_readLaw_0 rfl ?_
  refine g_iload_n dX5_readLaw_1 rfl (fun _ => ?_)
  refine g_sipush dX5_readLaw_2 (inR_c rfl) (by decide) ?_
  refine g_mmin dX5_readLaw_5 ml_X5_28 (Nat.le_of_ble_eq_true rfl) (Nat.le_of_ble_eq_true rfl) trivial (fun v1 ev1 => ?_)
  have bv1 : 1 ≤ v1 ∧ v1 ≤ 200 := by omega
  refine pI_X5_15 rfl dX5_readLaw_8 sh_65 (fun h2 eh2 => ?_)
  have hFh2 := Fr.st eh2
  have hMh2 := u_65_1 hM eh2 (by omega) (by omega)
  refine g_iconst dX5_readLaw_11 (inR_c rfl) ?_
  have c14 : ∀ (n : Nat) (y3 : Int) (h4 : MEM), MBx h4 → Fr [(66, 0)] h2 h4 → 0 ≤ y3 → y3 ≤ 200 → 200 - y3 < (n : Int) → G yX5_readLaw cX5_readLaw 5 (some .int) none Po (29, 1740, 0, 0) 14 [some (pR 65), some (pR 61), none, some (pR 82), some (pI y3)] [] SH h4 0 0 := by
    intro n
    induction n with
    | zero =>
      intro y3 h4 hMh4 hFh4 by3 dy3 hn
      exfalso; omega
    | succ n ih14 =>
      intro y3 h4 hMh4 hFh4 by3 dy3 hn
      refine g_iload dX5_readLaw_14 rfl (fun _ => ?_)
      refine g_aload_n dX5_readLaw_16 rfl ?_
      refine gE_X5_15 rfl dX5_readLaw_17 sh_65 ((hFh4 65 1 rfl).trans (st_at eh2)) ?_
      refine g_icmp_ge 42 dX5_readLaw_20 (by decide) (fun q5 => ?_) (fun q5 => ?_)
      · skip
        refine g_aload_n dX5_readLaw_42 rfl ?_
        refine g_iconst dX5_readLaw_43 (inR_c rfl) ?_
        refine pI_X5_19 rfl dX5_readLaw_44 sh_65 (fun h6 eh6 => ?_)
        have hFh6 := Fr.st eh6
        have hMh6 := u_65_2 hMh4 eh6 (by omega) (by omega)
        refine g_aload_n dX5_readLaw_47 rfl ?_
        refine g_iconst dX5_readLaw_48 (inR_c rfl) ?_
        refine pI_X5_22 rfl dX5_readLaw_49 sh_65 (fun h7 eh7 => ?_)
        have hFh7 := Fr.st eh7
        have hMh7 := u_65_3 hMh6 eh7 (by omega) (by omega)
        refine g_aload_n dX5_readLaw_52 rfl ?_
        refine g_iconst dX5_readLaw_53 (inR_c rfl) ?_
        refine pI_X5_40 rfl dX5_readLaw_54 sh_82 (fun h8 eh8 => ?_)
        have hFh8 := Fr.st eh8
        have hMh8 := u_82_0 hMh7 eh8 (by omega) (by omega)
        refine g_aload_n dX5_readLaw_57 rfl ?_
        refine g_iconst dX5_readLaw_58 (inR_c rfl) ?_
        refine pI_X5_45 rfl dX5_readLaw_59 sh_82 (fun h9 eh9 => ?_)
        have hFh9 := Fr.st eh9
        have hMh9 := u_82_1 hMh8 eh9 (by omega) (by omega)
        refine g_aload_n dX5_readLaw_62 rfl ?_
        refine g_aload_n dX5_readLaw_63 rfl ?_
        refine g_cVV (as := [_]) (c_X5_readClause_65_82  h9 hMh9) dX5_readLaw_64 mi_X5_readClause in_X5_readClause se_X5_readClause ml_X5_48 rfl rfl rfl sh_65 rfl rfl (Nat.le_of_ble_eq_true rfl) (fun h10 q11 => ?_)
        obtain ⟨hMh10, hFh10⟩ := q11
        refine g_iconst dX5_readLaw_67 (inR_c rfl) ?_
        have c70 : ∀ (n : Nat) (y12 : Int) (h13 : MEM), MBx h13 → Fr [(65, 3), (65, 4), (65, 5), (82, 1), (82, 2), (83, 0), (84, 0), (85, 0), (86, 0), (87, 0), (88, 0)] h10 h13 → 0 ≤ y12 → y12 ≤ 200 → 200 - y12 < (n : Int) → G yX5_readLaw cX5_readLaw 5 (some .int) none Po (29, 1740, 0, 0) 70 [some (pR 65), none, none, some (pR 82), some (pI y12)] [] SH h13 0 0 := by
          intro n
          induction n with
          | zero =>
            intro y12 h13 hMh13 hFh13 by12 dy12 hn
            exfalso; omega
          | succ n ih70 =>
            intro y12 h13 hMh13 hFh13 by12 dy12 hn
            refine g_iload dX5_readLaw_70 rfl (fun _ => ?_)
            refine g_sipush dX5_readLaw_72 (inR_c rfl) (by decide) ?_
            refine g_icmp_ge 113 dX5_readLaw_75 (by decide) (fun q14 => ?_) (fun q14 => ?_)
            · skip
              refine g_aload_n dX5_readLaw_113 rfl ?_
              refine gI_X5_22 rfl dX5_readLaw_114 sh_65 (m_65_3 hMh13) (fun v15 ev15 bv15 cv15 => ?_)
              refine g_if_ne 127 dX5_readLaw_117 (by decide) (fun q16 => ?_) (fun q16 => ?_)
              · skip
                refine g_sipush dX5_readLaw_127 (inR_c rfl) (by decide) ?_
                refine g_aload_n dX5_readLaw_130 rfl ?_
                refine gE_X5_22 rfl dX5_readLaw_131 sh_65 ev15.symm ?_
                refine g_imulB dX5_readLaw_134 (by omega) (by omega) ?_
                refine g_aload_n dX5_readLaw_135 rfl ?_
                refine gI_X5_25 rfl dX5_readLaw_136 sh_65 (m_65_4 hMh13) (fun v17 ev17 bv17 cv17 => ?_)
                refine g_isubF dX5_readLaw_139 (fun v18 bv18 cv18 => ?_)
                exact g_ireturn dX5_readLaw_140 retI (hPo _ _ ⟨hMh13, (Fr.tr (Fr.tr (Fr.tr (Fr.tr (Fr.tr (Fr.tr (Fr.tr (Fr.sub hFh2 rfl) hFh4 rfl) hFh6 rfl) hFh7 rfl) hFh8 rfl) hFh9 rfl) hFh10 rfl) hFh13 rfl), (by omega), (by omega)⟩)
              · skip
                refine g_aload_n dX5_readLaw_120 rfl ?_
                refine gI_X5_40 rfl dX5_readLaw_121 sh_82 (m_82_0 hMh13) (fun v19 ev19 bv19 cv19 => ?_)
                refine g_goto 140 dX5_readLaw_124 (by decide) ?_
                exact g_ireturn dX5_readLaw_140 retI (hPo _ _ ⟨hMh13, (Fr.tr (Fr.tr (Fr.tr (Fr.tr (Fr.tr (Fr.tr (Fr.tr (Fr.sub hFh2 rfl) hFh4 rfl) hFh6 rfl) hFh7 rfl) hFh8 rfl) hFh9 rfl) hFh10 rfl) hFh13 rfl), (by omega), (by omega)⟩)
            · skip
              refine g_aload_n dX5_readLaw_78 rfl ?_
              refine gI_X5_22 rfl dX5_readLaw_79 sh_65 (m_65_3 hMh13) (fun v20 ev20 bv20 cv20 => ?_)
              refine g_if_ne 113 dX5_readLaw_82 (by decide) (fun q21 => ?_) (fun q21 => ?_)
              · skip
                refine g_aload_n dX5_readLaw_113 rfl ?_
                refine gE_X5_22 rfl dX5_readLaw_114 sh_65 ev20.symm ?_
                refine g_if_ne 127 dX5_readLaw_117 (by decide) (fun q22 => ?_) (fun _ => by exfalso; omega)
                refine g_sipush dX5_readLaw_127 (inR_c rfl) (by decide) ?_
                refine g_aload_n dX5_readLaw_130 rfl ?_
                refine gE_X5_22 rfl dX5_readLaw_131 sh_65 ev20.symm ?_
                refine g_imulB dX5_readLaw_134 (by omega) (by omega) ?_
                refine g_aload_n dX5_readLaw_135 rfl ?_
                refine gI_X5_25 rfl dX5_readLaw_136 sh_65 (m_65_4 hMh13) (fun v23 ev23 bv23 cv23 => ?_)
                refine g_isubF dX5_readLaw_139 (fun v24 bv24 cv24 => ?_)
                exact g_ireturn dX5_readLaw_140 retI (hPo _ _ ⟨hMh13, (Fr.tr (Fr.tr (Fr.tr (Fr.tr (Fr.tr (Fr.tr (Fr.tr (Fr.sub hFh2 rfl) hFh4 rfl) hFh6 rfl) hFh7 rfl) hFh8 rfl) hFh9 rfl) hFh10 rfl) hFh13 rfl), (by omega), (by omega)⟩)
              · skip
                refine g_aload_n dX5_readLaw_85 rfl ?_
                refine gI_X5_19 rfl dX5_readLaw_86 sh_65 (m_65_2 hMh13) (fun v25 ev25 bv25 cv25 => ?_)
                refine g_aload_n dX5_readLaw_89 rfl ?_
                refine gE_X5_15 rfl dX5_readLaw_90 sh_65 ((hFh13 65 1 rfl).trans ((hFh10 65 1 rfl).trans ((hFh9 65 1 rfl).trans ((hFh8 65 1 rfl).trans ((hFh7 65 1 rfl).trans ((hFh6 65 1 rfl).trans ((hFh4 65 1 rfl).trans (st_at eh2)))))))) ?_
                refine g_icmp_ge 113 dX5_readLaw_93 (by decide) (fun q26 => ?_) (fun q26 => ?_)
                · skip
                  refine g_aload_n dX5_readLaw_113 rfl ?_
                  refine gE_X5_22 rfl dX5_readLaw_114 sh_65 ev20.symm ?_
                  refine g_if_ne 127 dX5_readLaw_117 (by decide) (fun _ => by exfalso; omega) (fun q27 => ?_)
                  refine g_aload_n dX5_readLaw_120 rfl ?_
                  refine gI_X5_40 rfl dX5_readLaw_121 sh_82 (m_82_0 hMh13) (fun v28 ev28 bv28 cv28 => ?_)
                  refine g_goto 140 dX5_readLaw_124 (by decide) ?_
                  exact g_ireturn dX5_readLaw_140 retI (hPo _ _ ⟨hMh13, (Fr.tr (Fr.tr (Fr.tr (Fr.tr (Fr.tr (Fr.tr (Fr.tr (Fr.sub hFh2 rfl) hFh4 rfl) hFh6 rfl) hFh7 rfl) hFh8 rfl) hFh9 rfl) hFh10 rfl) hFh13 rfl), (by omega), (by omega)⟩)
                · skip
                  refine g_aload_n dX5_readLaw_96 rfl ?_
                  refine g_bipush dX5_readLaw_97 (inR_c rfl) (by decide) ?_
                  refine g_cVV (as := [_]) (c_X5_expect_65 _ h13 hMh13 (by omega) (by omega)) dX5_readLaw_99 mi_X5_expect in_X5_expect se_X5_expect ml_X5_52 rfl rfl rfl sh_65 rfl rfl (Nat.le_of_ble_eq_true rfl) (fun h29 q30 => ?_)
                  obtain ⟨hMh29, hFh29⟩ := q30
                  refine g_aload_n dX5_readLaw_102 rfl ?_
                  refine g_aload_n dX5_readLaw_103 rfl ?_
                  refine g_cVV (as := [_]) (c_X5_readClause_65_82  h29 hMh29) dX5_readLaw_104 mi_X5_readClause in_X5_readClause se_X5_readClause ml_X5_48 rfl rfl rfl sh_65 rfl rfl (Nat.le_of_ble_eq_true rfl) (fun h31 q32 => ?_)
                  obtain ⟨hMh31, hFh31⟩ := q32
                  refine g_iincB dX5_readLaw_107 rfl rfl (by omega) (by omega) ?_
                  refine g_goto 70 dX5_readLaw_110 (by decide) ?_
                  exact ih70 _ _ hMh31 (Fr.tr (Fr.tr (Fr.sub hFh13 rfl) hFh29 rfl) hFh31 rfl) (by omega) (by omega) (by omega)
        refine g_istore dX5_readLaw_68 (by decide) rfl ?_
        refine g_drop 1 ?_
        exact c70 201 _ _ hMh10 Fr.rf (by omega) (by omega) (by omega)
      · skip
        refine g_aload_n dX5_readLaw_23 rfl ?_
        refine gR_X5_9 rfl dX5_readLaw_24 sh_65 (b := 66) (m_65_0 hMh4) ?_
        refine g_iload dX5_readLaw_27 rfl (fun _ => ?_)
        refine g_aload_n dX5_readLaw_29 rfl ?_
        refine g_iload dX5_readLaw_30 rfl (fun _ => ?_)
        refine g_cVP (as := [_]) (c_X10_byteAt_61 _ h4 hMh4 (by omega) (by omega)) dX5_readLaw_32 mi_X10_byteAt in_X10_byteAt se_X10_byteAt ml_X5_34 rfl rfl rfl sh_61 rfl rfl (Nat.le_of_ble_eq_true rfl) (fun v33 q34 => ?_)
        obtain ⟨bv33, cv33⟩ := q34
        refine g_iastB dX5_readLaw_35 sh_66 (by omega) (by omega) (fun h35 eh35 => ?_)
        have hFh35 := Fr.ar eh35
        have hMh35 := u_66 hMh4 eh35 (by omega) (by omega)
        refine g_iincB dX5_readLaw_36 rfl rfl (by omega) (by omega) ?_
        refine g_goto 14 dX5_readLaw_39 (by decide) ?_
        exact ih14 _ _ hMh35 (Fr.tr (Fr.sub hFh4 rfl) hFh35 rfl) (by omega) (by omega) (by omega)
  refine g_istore dX5_readLaw_12 (by decide) rfl ?_
  refine g_drop 2 ?_
  exact c14 201 _ _ hMh2 Fr.rf (by omega) (by omega) (by omega)
set_option maxRecDepth 100000 in
set_option maxHeartbeats 4000000 in
theorem c_X11_law_0 (x1 : Int) (h : MEM) (hM : MBx h) (bx1 : -2147483648 ≤ x1) (dx1 : x1 ≤ 2147483647) (f_LD : LD h) : CI yX11_law cX11_law 4 (some .int) 30 [pR 0, pI x1] h (fun x h' => MBx h' ∧ Fr [(0, 11), (0, 12), (61, 1), (65, 2), (65, 3), (65, 4), (65, 5), (66, 0), (82, 1), (82, 2), (83, 0), (84, 0), (85, 0), (86, 0), (87, 0), (88, 0), (90, 1), (90, 2), (91, 0), (92, 0), (93, 0), (94, 0), (95, 0), (96, 0)] h h' ∧ -2147483648 ≤ x ∧ x ≤ 2147483647 ∧ LD h') := by
  refine CI.of (L0 := [some (pR 0), some (pI x1), none, none]) rfl (Nat.le_of_ble_eq_true rfl) rfl (fun Po hPo hav => ?_)
  rcases id f_LD with ⟨er0_10, er0_11⟩ | ⟨er0_10, er0_11⟩
  · skip
    refine g_iload_n dX11_law_0 rfl (fun _ => ?_)
    refine g_iconst dX11_law_1 (inR_c rfl) ?_
    refine g_sipush dX11_law_2 (inR_c rfl) (by decide) ?_
    refine g_cSP (av := [_, _, _]) (c_X11_isWithin _ _ _ h hM (by omega) (by omega) (by omega) (by omega) (by omega) (by omega)) dX11_law_5 mi_X11_isWithin st_X11_isWithin ml_X11_81 rfl rfl rfl rfl (Nat.le_of_ble_eq_true rfl) (fun v1 q2 => ?_)
    rcases q2 with ⟨rfl, q2⟩ | ⟨rfl, q2⟩
    · skip
      refine g_if_eq 22 dX11_law_8 (by decide) (fun _ => by exfalso; omega) (fun q3 => ?_)
      refine g_iload_n dX11_law_11 rfl (fun _ => ?_)
      refine g_aload_n dX11_law_12 rfl ?_
      refine gR_X11_25 rfl dX11_law_13 sh_0 (b := 61) (m_0_3 hM) ?_
      refine gI_X11_140 rfl dX11_law_16 sh_61 (m_61_0 hM) (fun v4 ev4 bv4 cv4 => ?_)
      refine g_icmp_le 24 dX11_law_19 (by decide) (fun q5 => ?_) (fun q5 => ?_)
      · skip
        refine g_aload_n dX11_law_24 rfl ?_
        refine gR_X11_35 rfl dX11_law_25 sh_0 (b := 65) (m_0_5 hM) ?_
        refine g_aload_n dX11_law_28 rfl ?_
        refine gR_X11_25 rfl dX11_law_29 sh_0 (b := 61) (m_0_3 hM) ?_
        refine g_iload_n dX11_law_32 rfl (fun _ => ?_)
        refine g_aload_n dX11_law_33 rfl ?_
        refine gR_X11_74 rfl dX11_law_34 sh_0 (b := 90) er0_11 ?_
        refine g_cV (as := [_, _, _]) (c_X5_readLaw_65_61_90 _ h hM (by omega) (by omega)) dX11_law_37 mi_X5_readLaw in_X5_readLaw se_X5_readLaw ml_X11_148 rfl rfl rfl sh_65 rfl rfl (Nat.le_of_ble_eq_true rfl) (fun v6 h7 q8 => ?_)
        obtain ⟨hMh7, hFh7, bv6, cv6⟩ := q8
        refine g_istore_n dX11_law_40 (by decide) rfl ?_
        refine g_aload_n dX11_law_41 rfl ?_
        refine gR_X11_25 rfl dX11_law_42 sh_0 (b := 61) (m_0_3 hMh7) ?_
        refine g_iconst dX11_law_45 (inR_c rfl) ?_
        refine pI_X11_140 rfl dX11_law_46 sh_61 (fun h9 eh9 => ?_)
        have hFh9 := Fr.st eh9
        have hMh9 := u_61_0 hMh7 eh9 (by omega) (by omega)
        refine g_iload_n dX11_law_49 rfl (fun _ => ?_)
        refine g_if_lt 71 dX11_law_50 (by decide) (fun q10 => ?_) (fun q10 => ?_)
        · skip
          refine g_iload_n dX11_law_71 rfl (fun _ => ?_)
          exact g_ireturn dX11_law_72 retI (hPo _ _ ⟨hMh9, (Fr.tr (Fr.sub hFh7 rfl) hFh9 rfl), (by omega), (by omega), (LD.fr (T := [(61, 1), (65, 2), (65, 3), (65, 4), (65, 5), (66, 0), (90, 1), (90, 2), (91, 0), (92, 0), (93, 0), (94, 0), (95, 0), (96, 0)]) f_LD (Fr.tr (Fr.sub hFh7 rfl) hFh9 rfl) rfl)⟩)
        · skip
          refine g_aload_n dX11_law_53 rfl ?_
          refine gR_X11_70 rfl dX11_law_54 sh_0 (b := 82) ((hFh9 0 10 rfl).trans ((hFh7 0 10 rfl).trans er0_10)) ?_
          refine g_astore_n dX11_law_57 (by decide) rfl ?_
          refine g_aload_n dX11_law_58 rfl ?_
          refine g_aload_n dX11_law_59 rfl ?_
          refine gR_X11_74 rfl dX11_law_60 sh_0 (b := 90) ((hFh9 0 11 rfl).trans ((hFh7 0 11 rfl).trans er0_11)) ?_
          refine pR_X11_70 rfl dX11_law_63 sh_0 (by decide) (fun h11 eh11 => ?_)
          have hFh11 := Fr.st eh11
          have hMh11 := u_0_10 hMh9 eh11 (by decide) (by decide)
          refine g_aload_n dX11_law_66 rfl ?_
          refine g_aload_n dX11_law_67 rfl ?_
          refine pR_X11_74 rfl dX11_law_68 sh_0 (by decide) (fun h12 eh12 => ?_)
          have hFh12 := Fr.st eh12
          have hMh12 := u_0_11 hMh11 eh12 (by decide) (by decide)
          refine g_iload_n dX11_law_71 rfl (fun _ => ?_)
          exact g_ireturn dX11_law_72 retI (hPo _ _ ⟨hMh12, (Fr.tr (Fr.tr (Fr.tr (Fr.sub hFh7 rfl) hFh9 rfl) hFh11 rfl) hFh12 rfl), (by omega), (by omega), (Or.inr ⟨((hFh12 0 10 rfl).trans (st_at eh11)), (st_at eh12)⟩)⟩)
      · skip
        refine g_iconst dX11_law_22 (inR_c rfl) ?_
        exact g_ireturn dX11_law_23 retI (hPo _ _ ⟨hM, Fr.rf, (by omega), (by omega), f_LD⟩)
    · skip
      refine g_if_eq 22 dX11_law_8 (by decide) (fun q13 => ?_) (fun _ => by exfalso; omega)
      refine g_iconst dX11_law_22 (inR_c rfl) ?_
      exact g_ireturn dX11_law_23 retI (hPo _ _ ⟨hM, Fr.rf, (by omega), (by omega), f_LD⟩)
  · skip
    refine g_iload_n dX11_law_0 rfl (fun _ => ?_)
    refine g_iconst dX11_law_1 (inR_c rfl) ?_
    refine g_sipush dX11_law_2 (inR_c rfl) (by decide) ?_
    refine g_cSP (av := [_, _, _]) (c_X11_isWithin _ _ _ h hM (by omega) (by omega) (by omega) (by omega) (by omega) (by omega)) dX11_law_5 mi_X11_isWithin st_X11_isWithin ml_X11_81 rfl rfl rfl rfl (Nat.le_of_ble_eq_true rfl) (fun v14 q15 => ?_)
    rcases q15 with ⟨rfl, q15⟩ | ⟨rfl, q15⟩
    · skip
      refine g_if_eq 22 dX11_law_8 (by decide) (fun _ => by exfalso; omega) (fun q16 => ?_)
      refine g_iload_n dX11_law_11 rfl (fun _ => ?_)
      refine g_aload_n dX11_law_12 rfl ?_
      refine gR_X11_25 rfl dX11_law_13 sh_0 (b := 61) (m_0_3 hM) ?_
      refine gI_X11_140 rfl dX11_law_16 sh_61 (m_61_0 hM) (fun v17 ev17 bv17 cv17 => ?_)
      refine g_icmp_le 24 dX11_law_19 (by decide) (fun q18 => ?_) (fun q18 => ?_)
      · skip
        refine g_aload_n dX11_law_24 rfl ?_
        refine gR_X11_35 rfl dX11_law_25 sh_0 (b := 65) (m_0_5 hM) ?_
        refine g_aload_n dX11_law_28 rfl ?_
        refine gR_X11_25 rfl dX11_law_29 sh_0 (b := 61) (m_0_3 hM) ?_
        refine g_iload_n dX11_law_32 rfl (fun _ => ?_)
        refine g_aload_n dX11_law_33 rfl ?_
        refine gR_X11_74 rfl dX11_law_34 sh_0 (b := 82) er0_11 ?_
        refine g_cV (as := [_, _, _]) (c_X5_readLaw_65_61_82 _ h hM (by omega) (by omega)) dX11_law_37 mi_X5_readLaw in_X5_readLaw se_X5_readLaw ml_X11_148 rfl rfl rfl sh_65 rfl rfl (Nat.le_of_ble_eq_true rfl) (fun v19 h20 q21 => ?_)
        obtain ⟨hMh20, hFh20, bv19, cv19⟩ := q21
        refine g_istore_n dX11_law_40 (by decide) rfl ?_
        refine g_aload_n dX11_law_41 rfl ?_
        refine gR_X11_25 rfl dX11_law_42 sh_0 (b := 61) (m_0_3 hMh20) ?_
        refine g_iconst dX11_law_45 (inR_c rfl) ?_
        refine pI_X11_140 rfl dX11_law_46 sh_61 (fun h22 eh22 => ?_)
        have hFh22 := Fr.st eh22
        have hMh22 := u_61_0 hMh20 eh22 (by omega) (by omega)
        refine g_iload_n dX11_law_49 rfl (fun _ => ?_)
        refine g_if_lt 71 dX11_law_50 (by decide) (fun q23 => ?_) (fun q23 => ?_)
        · skip
          refine g_iload_n dX11_law_71 rfl (fun _ => ?_)
          exact g_ireturn dX11_law_72 retI (hPo _ _ ⟨hMh22, (Fr.tr (Fr.sub hFh20 rfl) hFh22 rfl), (by omega), (by omega), (LD.fr (T := [(61, 1), (65, 2), (65, 3), (65, 4), (65, 5), (66, 0), (82, 1), (82, 2), (83, 0), (84, 0), (85, 0), (86, 0), (87, 0), (88, 0)]) f_LD (Fr.tr (Fr.sub hFh20 rfl) hFh22 rfl) rfl)⟩)
        · skip
          refine g_aload_n dX11_law_53 rfl ?_
          refine gR_X11_70 rfl dX11_law_54 sh_0 (b := 90) ((hFh22 0 10 rfl).trans ((hFh20 0 10 rfl).trans er0_10)) ?_
          refine g_astore_n dX11_law_57 (by decide) rfl ?_
          refine g_aload_n dX11_law_58 rfl ?_
          refine g_aload_n dX11_law_59 rfl ?_
          refine gR_X11_74 rfl dX11_law_60 sh_0 (b := 82) ((hFh22 0 11 rfl).trans ((hFh20 0 11 rfl).trans er0_11)) ?_
          refine pR_X11_70 rfl dX11_law_63 sh_0 (by decide) (fun h24 eh24 => ?_)
          have hFh24 := Fr.st eh24
          have hMh24 := u_0_10 hMh22 eh24 (by decide) (by decide)
          refine g_aload_n dX11_law_66 rfl ?_
          refine g_aload_n dX11_law_67 rfl ?_
          refine pR_X11_74 rfl dX11_law_68 sh_0 (by decide) (fun h25 eh25 => ?_)
          have hFh25 := Fr.st eh25
          have hMh25 := u_0_11 hMh24 eh25 (by decide) (by decide)
          refine g_iload_n dX11_law_71 rfl (fun _ => ?_)
          exact g_ireturn dX11_law_72 retI (hPo _ _ ⟨hMh25, (Fr.tr (Fr.tr (Fr.tr (Fr.sub hFh20 rfl) hFh22 rfl) hFh24 rfl) hFh25 rfl), (by omega), (by omega), (Or.inl ⟨((hFh25 0 10 rfl).trans (st_at eh24)), (st_at eh25)⟩)⟩)
      · skip
        refine g_iconst dX11_law_22 (inR_c rfl) ?_
        exact g_ireturn dX11_law_23 retI (hPo _ _ ⟨hM, Fr.rf, (by omega), (by omega), f_LD⟩)
    · skip
      refine g_if_eq 22 dX11_law_8 (by decide) (fun q26 => ?_) (fun _ => by exfalso; omega)
      refine g_iconst dX11_law_22 (inR_c rfl) ?_
      exact g_ireturn dX11_law_23 retI (hPo _ _ ⟨hM, Fr.rf, (by omega), (by omega), f_LD⟩)
set_option maxRecDepth 100000 in
set_option maxHeartbeats 4000000 in
theorem c_X9_nextWind_1 (h : MEM) (hM : MBx h) : CI yX9_nextWind cX9_nextWind 1 (some .int) 1 [pR 1] h (fun x h' => MBx h' ∧ Fr [(1, 8)] h h' ∧ 0 ≤ x ∧ x ≤ 9) := by
  refine CI.of (L0 := [some (pR 1)]) rfl (Nat.le_of_ble_eq_true rfl) rfl (fun Po hPo hav => ?_)
  refine g_aload_n dX9_nextWind_0 rfl ?_
  refine g_sipush dX9_nextWind_1 (inR_c rfl) (by decide) ?_
  refine g_aload_n dX9_nextWind_4 rfl ?_
  refine gI_X9_46 rfl dX9_nextWind_5 sh_1 (m_1_7 hM) (fun v1 ev1 bv1 cv1 => ?_)
  refine g_imulB dX9_nextWind_8 (by omega) (by omega) ?_
  refine g_sipush dX9_nextWind_9 (inR_c rfl) (by decide) ?_
  refine g_iaddB dX9_nextWind_12 (by omega) (by omega) ?_
  refine g_ldc (v := 65535) dX9_nextWind_13 kc_X9_86 (inR_c rfl) ?_
  refine g_iandX (lo := 0) (hi := 65535) dX9_nextWind_15 (iand_r (by omega) (by omega)) (fun v2 ev2 bv2 cv2 => ?_)
  refine pI_X9_46 rfl dX9_nextWind_16 sh_1 (fun h3 eh3 => ?_)
  have hFh3 := Fr.st eh3
  have hMh3 := u_1_7 hM eh3 (by omega) (by omega)
  refine g_aload_n dX9_nextWind_19 rfl ?_
  refine gE_X9_46 rfl dX9_nextWind_20 sh_1 (st_at eh3) ?_
  refine g_bipush dX9_nextWind_23 (inR_c rfl) (by decide) ?_
  refine g_iremX (lo := 0) (hi := 9) dX9_nextWind_25 (by omega) (irem_b (by omega) (by omega) (by omega)) (fun v4 ev4 bv4 cv4 => ?_)
  exact g_ireturn dX9_nextWind_26 retI (hPo _ _ ⟨hMh3, (Fr.sub hFh3 rfl), (by omega), (by omega)⟩)
set_option maxRecDepth 100000 in
set_option maxHeartbeats 4000000 in
theorem c_X0_skillInAll_6 (x1 : Int) (h : MEM) (hM : MBx h) (bx1 : 0 ≤ x1) (dx1 : x1 ≤ 7) : CP yX0_skillInAll cX0_skillInAll 4 (some .int) 2 [pR 6, pI x1] h (fun x => -2147483648 ≤ x ∧ x ≤ 2147483647) := by
  refine CP.of (L0 := [some (pR 6), some (pI x1), none, none]) rfl (Nat.le_of_ble_eq_true rfl) rfl (fun Po hPo hav => ?_)
  refine g_iconst dX0_skillInAll_0 (inR_c rfl) ?_
  refine g_istore_n dX0_skillInAll_1 (by decide) rfl ?_
  refine g_iconst dX0_skillInAll_2 (inR_c rfl) ?_
  have c4 : ∀ (n : Nat) (y1 y2 : Int) , -2147483648 ≤ y1 → y1 ≤ 2147483647 → 0 ≤ y2 → y2 ≤ 5 → 5 - y2 < (n : Int) → G yX0_skillInAll cX0_skillInAll 4 (some .int) none Po (2, 120, 0, 0) 4 [some (pR 6), some (pI x1), some (pI y1), some (pI y2)] [] SH h 0 0 := by
    intro n
    induction n with
    | zero =>
      intro y1 y2 by1 dy1 by2 dy2 hn
      exfalso; omega
    | succ n ih4 =>
      intro y1 y2 by1 dy1 by2 dy2 hn
      refine g_iload_n dX0_skillInAll_4 rfl (fun _ => ?_)
      refine g_iconst dX0_skillInAll_5 (inR_c rfl) ?_
      refine g_icmp_ge 36 dX0_skillInAll_6 (by decide) (fun q3 => ?_) (fun q3 => ?_)
      · skip
        refine g_iload_n dX0_skillInAll_36 rfl (fun _ => ?_)
        exact g_ireturn dX0_skillInAll_37 retI (hPo _ ⟨(by omega), (by omega)⟩)
      · skip
        refine g_aload_n dX0_skillInAll_9 rfl ?_
        refine g_iload_n dX0_skillInAll_10 rfl (fun _ => ?_)
        refine g_cVP (as := [_]) (c_X0_has_6 _ h hM (by omega) (by omega)) dX0_skillInAll_11 mi_X0_has in_X0_has se_X0_has ml_X0_31 rfl rfl rfl sh_6 rfl rfl (Nat.le_of_ble_eq_true rfl) (fun v4 q5 => ?_)
        obtain ⟨v6, ev6⟩ : ∃ z, z = h 6 0 := ⟨_, rfl⟩
        have bv6 : 0 ≤ v6 ∧ v6 ≤ 8 := by rw [ev6]; exact (m_6_0 hM)
        rcases q5 with ⟨rfl, q5⟩ | ⟨rfl, q5⟩
        · skip
          refine g_if_eq 36 dX0_skillInAll_14 (by decide) (fun _ => by exfalso; omega) (fun q7 => ?_)
          refine g_iload_n dX0_skillInAll_17 rfl (fun _ => ?_)
          refine g_aload_n dX0_skillInAll_18 rfl ?_
          refine gR_X0_28 rfl dX0_skillInAll_19 sh_6 (b := 11) (m_6_5 hM) ?_
          refine g_iload_n dX0_skillInAll_22 rfl (fun _ => ?_)
          refine g_iconst dX0_skillInAll_23 (inR_c rfl) ?_
          refine g_imulB dX0_skillInAll_24 (by omega) (by omega) ?_
          refine g_iload_n dX0_skillInAll_25 rfl (fun _ => ?_)
          refine g_iaddB dX0_skillInAll_26 (by omega) (by omega) ?_
          refine g_ialdB dX0_skillInAll_27 sh_11 (by omega) (by omega) (m_11 hM _) (fun v8 ev8 bv8 cv8 => ?_)
          refine g_iaddF dX0_skillInAll_28 (fun v9 bv9 cv9 => ?_)
          refine g_istore_n dX0_skillInAll_29 (by decide) rfl ?_
          refine g_iincB dX0_skillInAll_30 rfl rfl (by omega) (by omega) ?_
          refine g_goto 4 dX0_skillInAll_33 (by decide) ?_
          exact ih4 _ _ (by omega) (by omega) (by omega) (by omega) (by omega)
        · skip
          refine g_if_eq 36 dX0_skillInAll_14 (by decide) (fun q10 => ?_) (fun _ => by exfalso; omega)
          refine g_iload_n dX0_skillInAll_36 rfl (fun _ => ?_)
          exact g_ireturn dX0_skillInAll_37 retI (hPo _ ⟨(by omega), (by omega)⟩)
  refine g_istore_n dX0_skillInAll_3 (by decide) rfl ?_
  exact c4 6 _ _ (by omega) (by omega) (by omega) (by omega) (by omega)
set_option maxRecDepth 100000 in
set_option maxHeartbeats 4000000 in
theorem c_X9_tell_1 (x1 x2 x3 : Int) (h : MEM) (hM : MBx h) (bx1 : 0 ≤ x1) (dx1 : x1 ≤ 7) (bx2 : 0 ≤ x2) (dx2 : x2 ≤ 9) (bx3 : 0 ≤ x3) (dx3 : x3 ≤ 9) : CV yX9_tell cX9_tell 4 (none) 3 [pR 1, pI x1, pI x2, pI x3] h (fun h' => MBx h' ∧ Fr [(20, 0)] h h') := by
  refine CV.of (L0 := [some (pR 1), some (pI x1), some (pI x2), some (pI x3)]) rfl (Nat.le_of_ble_eq_true rfl) rfl (fun Po hPo hav => ?_)
  refine g_aload_n dX9_tell_0 rfl ?_
  refine gR_X9_52 rfl dX9_tell_1 sh_1 (b := 20) (m_1_9 hM) ?_
  refine g_iconst dX9_tell_4 (inR_c rfl) ?_
  refine g_iload_n dX9_tell_5 rfl (fun _ => ?_)
  refine g_iastB dX9_tell_6 sh_20 (by omega) (by omega) (fun h1 eh1 => ?_)
  have hFh1 := Fr.ar eh1
  have hMh1 := u_20 hM eh1 (by omega) (by omega)
  refine g_aload_n dX9_tell_7 rfl ?_
  refine gR_X9_52 rfl dX9_tell_8 sh_1 (b := 20) (m_1_9 hMh1) ?_
  refine g_iconst dX9_tell_11 (inR_c rfl) ?_
  refine g_aload_n dX9_tell_12 rfl ?_
  refine gR_X9_21 rfl dX9_tell_13 sh_1 (b := 6) (m_1_1 hMh1) ?_
  refine gR_X9_153 rfl dX9_tell_16 sh_6 (b := 8) (m_6_2 hMh1) ?_
  refine g_iload_n dX9_tell_19 rfl (fun _ => ?_)
  refine g_ialdB dX9_tell_20 sh_8 (by omega) (by omega) (m_8 hMh1 _) (fun v2 ev2 bv2 cv2 => ?_)
  refine g_iastB dX9_tell_21 sh_20 (by omega) (by omega) (fun h3 eh3 => ?_)
  have hFh3 := Fr.ar eh3
  have hMh3 := u_20 hMh1 eh3 (by omega) (by omega)
  refine g_aload_n dX9_tell_22 rfl ?_
  refine gR_X9_52 rfl dX9_tell_23 sh_1 (b := 20) (m_1_9 hMh3) ?_
  refine g_iconst dX9_tell_26 (inR_c rfl) ?_
  refine g_aload_n dX9_tell_27 rfl ?_
  refine gR_X9_21 rfl dX9_tell_28 sh_1 (b := 6) (m_1_1 hMh3) ?_
  refine g_iload_n dX9_tell_31 rfl (fun _ => ?_)
  refine g_cVP (as := [_]) (c_X0_skillInAll_6 _ h3 hMh3 (by omega) (by omega)) dX9_tell_32 mi_X0_skillInAll in_X0_skillInAll se_X0_skillInAll ml_X9_156 rfl rfl rfl sh_6 rfl rfl (Nat.le_of_ble_eq_true rfl) (fun v4 q5 => ?_)
  obtain ⟨bv4, cv4⟩ := q5
  refine g_iastB dX9_tell_35 sh_20 (by omega) (by omega) (fun h6 eh6 => ?_)
  have hFh6 := Fr.ar eh6
  have hMh6 := u_20 hMh3 eh6 (by omega) (by omega)
  refine g_aload_n dX9_tell_36 rfl ?_
  refine gR_X9_52 rfl dX9_tell_37 sh_1 (b := 20) (m_1_9 hMh6) ?_
  refine g_iconst dX9_tell_40 (inR_c rfl) ?_
  refine g_aload_n dX9_tell_41 rfl ?_
  refine gR_X9_21 rfl dX9_tell_42 sh_1 (b := 6) (m_1_1 hMh6) ?_
  refine gR_X9_75 rfl dX9_tell_45 sh_6 (b := 9) (m_6_3 hMh6) ?_
  refine g_iload_n dX9_tell_48 rfl (fun _ => ?_)
  refine g_ialdB dX9_tell_49 sh_9 (by omega) (by omega) (m_9 hMh6 _) (fun v7 ev7 bv7 cv7 => ?_)
  refine g_iastB dX9_tell_50 sh_20 (by omega) (by omega) (fun h8 eh8 => ?_)
  have hFh8 := Fr.ar eh8
  have hMh8 := u_20 hMh6 eh8 (by omega) (by omega)
  refine g_aload_n dX9_tell_51 rfl ?_
  refine gR_X9_52 rfl dX9_tell_52 sh_1 (b := 20) (m_1_9 hMh8) ?_
  refine g_iconst dX9_tell_55 (inR_c rfl) ?_
  refine g_iload_n dX9_tell_56 rfl (fun _ => ?_)
  refine g_iastB dX9_tell_57 sh_20 (by omega) (by omega) (fun h9 eh9 => ?_)
  have hFh9 := Fr.ar eh9
  have hMh9 := u_20 hMh8 eh9 (by omega) (by omega)
  refine g_aload_n dX9_tell_58 rfl ?_
  refine gR_X9_52 rfl dX9_tell_59 sh_1 (b := 20) (m_1_9 hMh9) ?_
  refine g_iconst dX9_tell_62 (inR_c rfl) ?_
  refine g_aload_n dX9_tell_63 rfl ?_
  refine gR_X9_12 rfl dX9_tell_64 sh_1 (b := 2) (m_1_0 hMh9) ?_
  refine gR_X9_111 rfl dX9_tell_67 sh_2 (b := 4) (m_2_2 hMh9) ?_
  refine g_iload_n dX9_tell_70 rfl (fun _ => ?_)
  refine g_ialdB dX9_tell_71 sh_4 (by omega) (by omega) (m_4 hMh9 _) (fun v10 ev10 bv10 cv10 => ?_)
  refine g_iastB dX9_tell_72 sh_20 (by omega) (by omega) (fun h11 eh11 => ?_)
  have hFh11 := Fr.ar eh11
  have hMh11 := u_20 hMh9 eh11 (by omega) (by omega)
  refine g_aload_n dX9_tell_73 rfl ?_
  refine gR_X9_52 rfl dX9_tell_74 sh_1 (b := 20) (m_1_9 hMh11) ?_
  refine g_bipush dX9_tell_77 (inR_c rfl) (by decide) ?_
  refine g_aload_n dX9_tell_79 rfl ?_
  refine gR_X9_12 rfl dX9_tell_80 sh_1 (b := 2) (m_1_0 hMh11) ?_
  refine gR_X9_159 rfl dX9_tell_83 sh_2 (b := 5) (m_2_3 hMh11) ?_
  refine g_iload_n dX9_tell_86 rfl (fun _ => ?_)
  refine g_ialdB dX9_tell_87 sh_5 (by omega) (by omega) (m_5 hMh11 _) (fun v12 ev12 bv12 cv12 => ?_)
  refine g_iastB dX9_tell_88 sh_20 (by omega) (by omega) (fun h13 eh13 => ?_)
  have hFh13 := Fr.ar eh13
  have hMh13 := u_20 hMh11 eh13 (by omega) (by omega)
  refine g_aload_n dX9_tell_89 rfl ?_
  refine gR_X9_52 rfl dX9_tell_90 sh_1 (b := 20) (m_1_9 hMh13) ?_
  refine g_bipush dX9_tell_93 (inR_c rfl) (by decide) ?_
  refine g_aload_n dX9_tell_95 rfl ?_
  refine gI_X9_42 rfl dX9_tell_96 sh_1 (m_1_6 hMh13) (fun v14 ev14 bv14 cv14 => ?_)
  refine g_iastB dX9_tell_99 sh_20 (by omega) (by omega) (fun h15 eh15 => ?_)
  have hFh15 := Fr.ar eh15
  have hMh15 := u_20 hMh13 eh15 (by omega) (by omega)
  refine g_aload_n dX9_tell_100 rfl ?_
  refine gR_X9_52 rfl dX9_tell_101 sh_1 (b := 20) (m_1_9 hMh15) ?_
  refine g_bipush dX9_tell_104 (inR_c rfl) (by decide) ?_
  refine g_iload_n dX9_tell_106 rfl (fun _ => ?_)
  refine g_iastB dX9_tell_107 sh_20 (by omega) (by omega) (fun h16 eh16 => ?_)
  have hFh16 := Fr.ar eh16
  have hMh16 := u_20 hMh15 eh16 (by omega) (by omega)
  refine g_aload_n dX9_tell_108 rfl ?_
  refine gR_X9_52 rfl dX9_tell_109 sh_1 (b := 20) (m_1_9 hMh16) ?_
  refine g_bipush dX9_tell_112 (inR_c rfl) (by decide) ?_
  refine g_iconst dX9_tell_114 (inR_c rfl) ?_
  refine g_iastB dX9_tell_115 sh_20 (by omega) (by omega) (fun h17 eh17 => ?_)
  have hFh17 := Fr.ar eh17
  have hMh17 := u_20 hMh16 eh17 (by omega) (by omega)
  refine g_aload_n dX9_tell_116 rfl ?_
  refine gR_X9_52 rfl dX9_tell_117 sh_1 (b := 20) (m_1_9 hMh17) ?_
  refine g_bipush dX9_tell_120 (inR_c rfl) (by decide) ?_
  refine g_iconst dX9_tell_122 (inR_c rfl) ?_
  refine g_iastB dX9_tell_123 sh_20 (by omega) (by omega) (fun h18 eh18 => ?_)
  have hFh18 := Fr.ar eh18
  have hMh18 := u_20 hMh17 eh18 (by omega) (by omega)
  refine g_aload_n dX9_tell_124 rfl ?_
  refine gR_X9_52 rfl dX9_tell_125 sh_1 (b := 20) (m_1_9 hMh18) ?_
  refine g_bipush dX9_tell_128 (inR_c rfl) (by decide) ?_
  refine g_iconst dX9_tell_130 (inR_c rfl) ?_
  refine g_iastB dX9_tell_131 sh_20 (by omega) (by omega) (fun h19 eh19 => ?_)
  have hFh19 := Fr.ar eh19
  have hMh19 := u_20 hMh18 eh19 (by omega) (by omega)
  exact g_return dX9_tell_132 rfl (hPo _ ⟨hMh19, (Fr.tr (Fr.tr (Fr.tr (Fr.tr (Fr.tr (Fr.tr (Fr.tr (Fr.tr (Fr.tr (Fr.tr (Fr.tr (Fr.sub hFh1 rfl) hFh3 rfl) hFh6 rfl) hFh8 rfl) hFh9 rfl) hFh11 rfl) hFh13 rfl) hFh15 rfl) hFh16 rfl) hFh17 rfl) hFh18 rfl) hFh19 rfl)⟩)
