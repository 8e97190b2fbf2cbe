set_option maxRecDepth 100000 in
set_option maxHeartbeats 4000000 in
theorem c_X11_areTold_0 (x1 : Int) (h : MEM) (hM : MBx h) (bx1 : -2147483648 ≤ x1) (dx1 : x1 ≤ 2147483647) : CP yX11_areTold cX11_areTold 2 (some .boolean) 2 [pR 0, pI x1] h (fun x => 0 ≤ x ∧ x ≤ 1) := by
  refine CP.of (L0 := [some (pR 0), some (pI x1)]) rfl (Nat.le_of_ble_eq_true rfl) rfl (fun Po hPo hav => ?_)
  refine g_iload_n dX11_areTold_0 rfl (fun _ => ?_)
  refine g_if_le 31 dX11_areTold_1 (by decide) (fun q1 => ?_) (fun q1 => ?_)
  · skip
    refine g_iconst dX11_areTold_31 (inR_c rfl) ?_
    exact g_ireturn dX11_areTold_32 (retZ (by omega)) (hPo _ ⟨(by omega), (by omega)⟩)
  · skip
    refine g_iload_n dX11_areTold_4 rfl (fun _ => ?_)
    refine g_aload_n dX11_areTold_5 rfl ?_
    refine gR_X11_10 rfl dX11_areTold_6 sh_0 (b := 1) (m_0_0 hM) ?_
    refine gR_X11_95 rfl dX11_areTold_9 sh_1 (b := 6) (m_1_1 hM) ?_
    refine gI_X11_310 rfl dX11_areTold_12 sh_6 (m_6_0 hM) (fun v2 ev2 bv2 cv2 => ?_)
    refine g_ishrF dX11_areTold_15 (fun v3 ev3 bv3 cv3 => ?_)
    refine g_if_ne 31 dX11_areTold_16 (by decide) (fun q4 => ?_) (fun q4 => ?_)
    · skip
      refine g_iconst dX11_areTold_31 (inR_c rfl) ?_
      exact g_ireturn dX11_areTold_32 (retZ (by omega)) (hPo _ ⟨(by omega), (by omega)⟩)
    · skip
      refine g_iload_n dX11_areTold_19 rfl (fun _ => ?_)
      refine g_bitc dX11_areTold_20 ml_X11_241 rfl (Nat.le_of_ble_eq_true rfl) (fun v5 ev5 bv5 cv5 => ?_)
      refine g_iconst dX11_areTold_23 (inR_c rfl) ?_
      refine g_icmp_gt 31 dX11_areTold_24 (by decide) (fun q6 => ?_) (fun q6 => ?_)
      · skip
        refine g_iconst dX11_areTold_31 (inR_c rfl) ?_
        exact g_ireturn dX11_areTold_32 (retZ (by omega)) (hPo _ ⟨(by omega), (by omega)⟩)
      · skip
        refine g_iconst dX11_areTold_27 (inR_c rfl) ?_
        refine g_goto 32 dX11_areTold_28 (by decide) ?_
        exact g_ireturn dX11_areTold_32 (retZ (by omega)) (hPo _ ⟨(by omega), (by omega)⟩)
set_option maxRecDepth 100000 in
set_option maxHeartbeats 4000000 in
theorem c_X7_tellWho_67_1 (x1 : Int) (h : MEM) (hM : MBx h) (bx1 : -2147483648 ≤ x1) (dx1 : x1 ≤ 2147483647) : CV yX7_tellWho cX7_tellWho 4 (none) 1 [pR 67, pR 1, pI x1] h (fun h' => MBx h' ∧ Fr [(67, 4), (69, 0)] h h') := by
  refine CV.of (L0 := [some (pR 67), some (pR 1), some (pI x1), none]) rfl (Nat.le_of_ble_eq_true rfl) rfl (fun Po hPo hav => ?_)
  refine g_aload_n dX7_tellWho_0 rfl ?_
  refine g_iconst dX7_tellWho_1 (inR_c rfl) ?_
  refine pI_X7_22 rfl dX7_tellWho_2 sh_67 (fun h1 eh1 => ?_)
  have hFh1 := Fr.st eh1
  have hMh1 := u_67_3 hM eh1 (by omega) (by omega)
  refine g_iconst dX7_tellWho_5 (inR_c rfl) ?_
  have c7 : ∀ (n : Nat) (y2 : Int) (h3 : MEM), MBx h3 → Fr [(67, 4), (69, 0)] h1 h3 → 0 ≤ y2 → y2 ≤ 8 → 8 - y2 < (n : Int) → G yX7_tellWho cX7_tellWho 4 (none) none Po (1, 60, 0, 0) 7 [some (pR 67), some (pR 1), some (pI x1), some (pI y2)] [] SH h3 0 0 := by
    intro n
    induction n with
    | zero =>
      intro y2 h3 hMh3 hFh3 by2 dy2 hn
      exfalso; omega
    | succ n ih7 =>
      intro y2 h3 hMh3 hFh3 by2 dy2 hn
      refine g_iload_n dX7_tellWho_7 rfl (fun _ => ?_)
      refine g_aload_n dX7_tellWho_8 rfl ?_
      refine gR_X7_60 rfl dX7_tellWho_9 sh_1 (b := 6) (m_1_1 hMh3) ?_
      refine gI_X7_64 rfl dX7_tellWho_12 sh_6 (m_6_0 hMh3) (fun v4 ev4 bv4 cv4 => ?_)
      refine g_icmp_ge 61 dX7_tellWho_15 (by decide) (fun q5 => ?_) (fun q5 => ?_)
      · skip
        exact g_return dX7_tellWho_61 rfl (hPo _ ⟨hMh3, (Fr.tr (Fr.sub hFh1 rfl) hFh3 rfl)⟩)
      · skip
        refine g_iload_n dX7_tellWho_18 rfl (fun _ => ?_)
        refine g_iload_n dX7_tellWho_19 rfl (fun _ => ?_)
        refine g_ishrF dX7_tellWho_20 (fun v6 ev6 bv6 cv6 => ?_)
        refine g_iconst dX7_tellWho_21 (inR_c rfl) ?_
        refine g_iandX (lo := 0) (hi := 1) dX7_tellWho_22 (iand_r (by omega) (by omega)) (fun v7 ev7 bv7 cv7 => ?_)
        refine g_iconst dX7_tellWho_23 (inR_c rfl) ?_
        refine g_icmp_ne 55 dX7_tellWho_24 (by decide) (fun q8 => ?_) (fun q8 => ?_)
        · skip
          refine g_iincB dX7_tellWho_55 rfl rfl (by omega) (by omega) ?_
          refine g_goto 7 dX7_tellWho_58 (by decide) ?_
          exact ih7 _ _ hMh3 (Fr.sub hFh3 rfl) (by omega) (by omega) (by omega)
        · skip
          refine g_aload_n dX7_tellWho_27 rfl ?_
          refine gI_X7_22 rfl dX7_tellWho_28 sh_67 (m_67_3 hMh3) (fun v9 ev9 bv9 cv9 => ?_)
          refine g_iconst dX7_tellWho_31 (inR_c rfl) ?_
          refine g_icmp_ge 55 dX7_tellWho_32 (by decide) (fun q10 => ?_) (fun q10 => ?_)
          · skip
            refine g_iincB dX7_tellWho_55 rfl rfl (by omega) (by omega) ?_
            refine g_goto 7 dX7_tellWho_58 (by decide) ?_
            exact ih7 _ _ hMh3 (Fr.sub hFh3 rfl) (by omega) (by omega) (by omega)
          · skip
            refine g_aload_n dX7_tellWho_35 rfl ?_
            refine gR_X7_25 rfl dX7_tellWho_36 sh_67 (b := 69) (m_67_4 hMh3) ?_
            refine g_aload_n dX7_tellWho_39 rfl ?_
            refine gE_X7_22 rfl dX7_tellWho_40 sh_67 ev9.symm ?_
            refine g_iload_n dX7_tellWho_43 rfl (fun _ => ?_)
            refine g_iastB dX7_tellWho_44 sh_69 (by omega) (by omega) (fun h11 eh11 => ?_)
            have hFh11 := Fr.ar eh11
            have hMh11 := u_69 hMh3 eh11 (by omega) (by omega)
            refine g_aload_n dX7_tellWho_45 rfl ?_
            refine g_dup dX7_tellWho_46 rfl ?_
            refine gE_X7_22 rfl dX7_tellWho_47 sh_67 ((hFh11 67 3 rfl).trans ev9.symm) ?_
            refine g_iconst dX7_tellWho_50 (inR_c rfl) ?_
            refine g_iaddB dX7_tellWho_51 (by omega) (by omega) ?_
            refine pI_X7_22 rfl dX7_tellWho_52 sh_67 (fun h12 eh12 => ?_)
            have hFh12 := Fr.st eh12
            have hMh12 := u_67_3 hMh11 eh12 (by omega) (by omega)
            refine g_iincB dX7_tellWho_55 rfl rfl (by omega) (by omega) ?_
            refine g_goto 7 dX7_tellWho_58 (by decide) ?_
            exact ih7 _ _ hMh12 (Fr.tr (Fr.tr (Fr.sub hFh3 rfl) hFh11 rfl) hFh12 rfl) (by omega) (by omega) (by omega)
  refine g_istore_n dX7_tellWho_6 (by decide) rfl ?_
  exact c7 9 _ _ hMh1 Fr.rf (by omega) (by omega) (by omega)
set_option maxRecDepth 100000 in
set_option maxHeartbeats 4000000 in
theorem c_X7_placeOn_67_21_70 (h : MEM) (hM : MBx h) : CV yX7_placeOn cX7_placeOn 4 (none) 2 [pR 67, pR 21, pR 70] h (fun h' => MBx h' ∧ Fr [(27, 0)] h h') := by
  refine CV.of (L0 := [some (pR 67), some (pR 21), some (pR 70), none]) rfl (Nat.le_of_ble_eq_true rfl) rfl (fun Po hPo hav => ?_)
  refine g_iconst dX7_placeOn_0 (inR_c rfl) ?_
  have c2 : ∀ (n : Nat) (y1 : Int) (h2 : MEM), MBx h2 → Fr [(27, 0)] h h2 → 0 ≤ y1 → y1 ≤ 3 → 3 - y1 < (n : Int) → G yX7_placeOn cX7_placeOn 4 (none) none Po (2, 120, 0, 0) 2 [some (pR 67), some (pR 21), some (pR 70), some (pI y1)] [] SH h2 0 0 := by
    intro n
    induction n with
    | zero =>
      intro y1 h2 hMh2 hFh2 by1 dy1 hn
      exfalso; omega
    | succ n ih2 =>
      intro y1 h2 hMh2 hFh2 by1 dy1 hn
      refine g_iload_n dX7_placeOn_2 rfl (fun _ => ?_)
      refine g_aload_n dX7_placeOn_3 rfl ?_
      refine gI_X7_22 rfl dX7_placeOn_4 sh_67 (m_67_3 hMh2) (fun v3 ev3 bv3 cv3 => ?_)
      refine g_icmp_ge 55 dX7_placeOn_7 (by decide) (fun q4 => ?_) (fun q4 => ?_)
      · skip
        exact g_return dX7_placeOn_55 rfl (hPo _ ⟨hMh2, (Fr.sub hFh2 rfl)⟩)
      · skip
        refine g_iload_n dX7_placeOn_10 rfl (fun _ => ?_)
        refine g_aload_n dX7_placeOn_11 rfl ?_
        refine g_alen dX7_placeOn_12 sh_70 (by decide) (by decide) ?_
        refine g_icmp_ge 55 dX7_placeOn_13 (by decide) (fun _ => by exfalso; omega) (fun q5 => ?_)
        refine g_aload_n dX7_placeOn_16 rfl ?_
        refine gR_X7_60 rfl dX7_placeOn_17 sh_21 (b := 26) (m_21_1 hMh2) ?_
        refine g_aload_n dX7_placeOn_20 rfl ?_
        refine gR_X7_25 rfl dX7_placeOn_21 sh_67 (b := 69) (m_67_4 hMh2) ?_
        refine g_iload_n dX7_placeOn_24 rfl (fun _ => ?_)
        refine g_ialdB dX7_placeOn_25 sh_69 (by omega) (by omega) (m_69 hMh2 _) (fun v6 ev6 bv6 cv6 => ?_)
        refine g_cVP (as := [_]) (c_X0_has_26 _ h2 hMh2 (by omega) (by omega)) dX7_placeOn_26 mi_X0_has in_X0_has se_X0_has ml_X7_104 rfl rfl rfl sh_26 rfl rfl (Nat.le_of_ble_eq_true rfl) (fun v7 q8 => ?_)
        have q9 : h2 26 0 = h 26 0 := (hFh2 26 0 rfl)
        obtain ⟨v10, ev10⟩ : ∃ z, z = h2 26 0 := ⟨_, rfl⟩
        have bv10 : 0 ≤ v10 ∧ v10 ≤ 8 := by rw [ev10]; exact (m_26_0 hMh2)
        rcases q8 with ⟨rfl, q8⟩ | ⟨rfl, q8⟩
        · skip
          refine g_if_eq 49 dX7_placeOn_29 (by decide) (fun _ => by exfalso; omega) (fun q11 => ?_)
          refine g_aload_n dX7_placeOn_32 rfl ?_
          refine gR_X7_60 rfl dX7_placeOn_33 sh_21 (b := 26) (m_21_1 hMh2) ?_
          refine gR_X7_105 rfl dX7_placeOn_36 sh_26 (b := 27) (m_26_1 hMh2) ?_
          refine g_aload_n dX7_placeOn_39 rfl ?_
          refine gR_X7_25 rfl dX7_placeOn_40 sh_67 (b := 69) (m_67_4 hMh2) ?_
          refine g_iload_n dX7_placeOn_43 rfl (fun _ => ?_)
          refine g_ialdE dX7_placeOn_44 sh_69 (by omega) (by omega) ev6.symm ?_
          refine g_aload_n dX7_placeOn_45 rfl ?_
          refine g_iload_n dX7_placeOn_46 rfl (fun _ => ?_)
          refine g_ialdB dX7_placeOn_47 sh_70 (by omega) (by omega) (m_70 hMh2 _) (fun v12 ev12 bv12 cv12 => ?_)
          refine g_iastB dX7_placeOn_48 sh_27 (by omega) (by omega) (fun h13 eh13 => ?_)
          have hFh13 := Fr.ar eh13
          have hMh13 := u_27 hMh2 eh13 (by omega) (by omega)
          refine g_iincB dX7_placeOn_49 rfl rfl (by omega) (by omega) ?_
          refine g_goto 2 dX7_placeOn_52 (by decide) ?_
          exact ih2 _ _ hMh13 (Fr.tr (Fr.sub hFh2 rfl) hFh13 rfl) (by omega) (by omega) (by omega)
        · skip
          refine g_if_eq 49 dX7_placeOn_29 (by decide) (fun q14 => ?_) (fun _ => by exfalso; omega)
          refine g_iincB dX7_placeOn_49 rfl rfl (by omega) (by omega) ?_
          refine g_goto 2 dX7_placeOn_52 (by decide) ?_
          exact ih2 _ _ hMh2 (Fr.sub hFh2 rfl) (by omega) (by omega) (by omega)
  refine g_istore_n dX7_placeOn_1 (by decide) rfl ?_
  exact c2 4 _ _ hM Fr.rf (by omega) (by omega) (by omega)
set_option maxRecDepth 100000 in
set_option maxHeartbeats 4000000 in
theorem c_X7_take_67 (x1 x2 : Int) (h : MEM) (hM : MBx h) (bx1 : 0 ≤ x1) (dx1 : x1 ≤ 20) (bx2 : -2147483648 ≤ x2) (dx2 : x2 ≤ 2147483647) : CV yX7_take cX7_take 3 (none) 1 [pR 67, pI x1, pI x2] h (fun h' => MBx h' ∧ Fr [(67, 1), (67, 2), (68, 0)] h h' ∧ ((h' 67 0 = h 67 0 ∨ h' 67 0 = x1))) := by
  refine CV.of (L0 := [some (pR 67), some (pI x1), some (pI x2)]) rfl (Nat.le_of_ble_eq_true rfl) rfl (fun Po hPo hav => ?_)
  obtain ⟨v1, ev1⟩ : ∃ z, z = h 67 0 := ⟨_, rfl⟩
  have bv1 : -2147483648 ≤ v1 ∧ v1 ≤ 2147483647 := by rw [ev1]; exact (m_67_0 hM)
  refine g_aload_n dX7_take_0 rfl ?_
  refine gE_X7_9 rfl dX7_take_1 sh_67 ev1.symm ?_
  refine g_iconst dX7_take_4 (inR_c rfl) ?_
  refine g_icmp_eq 32 dX7_take_5 (by decide) (fun q2 => ?_) (fun q2 => ?_)
  · skip
    refine g_aload_n dX7_take_32 rfl ?_
    refine g_iload_n dX7_take_33 rfl (fun _ => ?_)
    refine pI_X7_9 rfl dX7_take_34 sh_67 (fun h3 eh3 => ?_)
    have hFh3 := Fr.st eh3
    have hMh3 := u_67_0 hM eh3 (by omega) (by omega)
    refine g_aload_n dX7_take_37 rfl ?_
    refine g_iload_n dX7_take_38 rfl (fun _ => ?_)
    refine pI_X7_15 rfl dX7_take_39 sh_67 (fun h4 eh4 => ?_)
    have hFh4 := Fr.st eh4
    have hMh4 := u_67_1 hMh3 eh4 (by omega) (by omega)
    refine g_aload_n dX7_take_42 rfl ?_
    refine gR_X7_28 rfl dX7_take_43 sh_67 (b := 70) (m_67_5 hMh4) ?_
    refine g_iconst dX7_take_46 (inR_c rfl) ?_
    refine g_aload_n dX7_take_47 rfl ?_
    refine gR_X7_18 rfl dX7_take_48 sh_67 (b := 68) (m_67_2 hMh4) ?_
    refine g_iconst dX7_take_51 (inR_c rfl) ?_
    refine g_iconst dX7_take_52 (inR_c rfl) ?_
    refine g_acopy dX7_take_53 ml_X7_98 sh_70 sh_68 (by decide) (by decide) (by decide) (by decide) (by decide) (by decide) (by decide) (fun h5 eh5 => ?_)
    have hFh5 := Fr.cp eh5
    have hMh5 := MBx.cp hMh4 eh5 (by decide) (p0 := (-2147483648, 2147483647)) (p := (-2147483648, 2147483647)) rfl rfl (by decide) (by decide)
    have q6 : h5 67 0 = x1 := ((hFh5 67 0 rfl).trans ((hFh4 67 0 rfl).trans (st_at eh3)))
    exact g_return dX7_take_56 rfl (hPo _ ⟨hMh5, (Fr.tr (Fr.tr (Fr.sub hFh3 rfl) hFh4 rfl) hFh5 rfl), (by omega)⟩)
  · skip
    refine g_iload_n dX7_take_8 rfl (fun _ => ?_)
    refine g_aload_n dX7_take_9 rfl ?_
    refine gE_X7_9 rfl dX7_take_10 sh_67 ev1.symm ?_
    refine g_icmp_lt 32 dX7_take_13 (by decide) (fun q7 => ?_) (fun q7 => ?_)
    · skip
      refine g_aload_n dX7_take_32 rfl ?_
      refine g_iload_n dX7_take_33 rfl (fun _ => ?_)
      refine pI_X7_9 rfl dX7_take_34 sh_67 (fun h8 eh8 => ?_)
      have hFh8 := Fr.st eh8
      have hMh8 := u_67_0 hM eh8 (by omega) (by omega)
      refine g_aload_n dX7_take_37 rfl ?_
      refine g_iload_n dX7_take_38 rfl (fun _ => ?_)
      refine pI_X7_15 rfl dX7_take_39 sh_67 (fun h9 eh9 => ?_)
      have hFh9 := Fr.st eh9
      have hMh9 := u_67_1 hMh8 eh9 (by omega) (by omega)
      refine g_aload_n dX7_take_42 rfl ?_
      refine gR_X7_28 rfl dX7_take_43 sh_67 (b := 70) (m_67_5 hMh9) ?_
      refine g_iconst dX7_take_46 (inR_c rfl) ?_
      refine g_aload_n dX7_take_47 rfl ?_
      refine gR_X7_18 rfl dX7_take_48 sh_67 (b := 68) (m_67_2 hMh9) ?_
      refine g_iconst dX7_take_51 (inR_c rfl) ?_
      refine g_iconst dX7_take_52 (inR_c rfl) ?_
      refine g_acopy dX7_take_53 ml_X7_98 sh_70 sh_68 (by decide) (by decide) (by decide) (by decide) (by decide) (by decide) (by decide) (fun h10 eh10 => ?_)
      have hFh10 := Fr.cp eh10
      have hMh10 := MBx.cp hMh9 eh10 (by decide) (p0 := (-2147483648, 2147483647)) (p := (-2147483648, 2147483647)) rfl rfl (by decide) (by decide)
      have q11 : h10 67 0 = x1 := ((hFh10 67 0 rfl).trans ((hFh9 67 0 rfl).trans (st_at eh8)))
      exact g_return dX7_take_56 rfl (hPo _ ⟨hMh10, (Fr.tr (Fr.tr (Fr.sub hFh8 rfl) hFh9 rfl) hFh10 rfl), (by omega)⟩)
    · skip
      refine g_iload_n dX7_take_16 rfl (fun _ => ?_)
      refine g_aload_n dX7_take_17 rfl ?_
      refine gE_X7_9 rfl dX7_take_18 sh_67 ev1.symm ?_
      refine g_icmp_ne 56 dX7_take_21 (by decide) (fun q12 => ?_) (fun q12 => ?_)
      · skip
        have q13 : h 67 0 = v1 := ev1.symm
        exact g_return dX7_take_56 rfl (hPo _ ⟨hM, Fr.rf, (by omega)⟩)
      · skip
        refine g_iload_n dX7_take_24 rfl (fun _ => ?_)
        refine g_aload_n dX7_take_25 rfl ?_
        refine gI_X7_15 rfl dX7_take_26 sh_67 (m_67_1 hM) (fun v14 ev14 bv14 cv14 => ?_)
        refine g_icmp_ge 56 dX7_take_29 (by decide) (fun q15 => ?_) (fun q15 => ?_)
        · skip
          have q16 : h 67 0 = v1 := ev1.symm
          exact g_return dX7_take_56 rfl (hPo _ ⟨hM, Fr.rf, (by omega)⟩)
        · skip
          refine g_aload_n dX7_take_32 rfl ?_
          refine g_iload_n dX7_take_33 rfl (fun _ => ?_)
          refine pI_X7_9 rfl dX7_take_34 sh_67 (fun h17 eh17 => ?_)
          have hFh17 := Fr.st eh17
          have hMh17 := u_67_0 hM eh17 (by omega) (by omega)
          refine g_aload_n dX7_take_37 rfl ?_
          refine g_iload_n dX7_take_38 rfl (fun _ => ?_)
          refine pI_X7_15 rfl dX7_take_39 sh_67 (fun h18 eh18 => ?_)
          have hFh18 := Fr.st eh18
          have hMh18 := u_67_1 hMh17 eh18 (by omega) (by omega)
          refine g_aload_n dX7_take_42 rfl ?_
          refine gR_X7_28 rfl dX7_take_43 sh_67 (b := 70) (m_67_5 hMh18) ?_
          refine g_iconst dX7_take_46 (inR_c rfl) ?_
          refine g_aload_n dX7_take_47 rfl ?_
          refine gR_X7_18 rfl dX7_take_48 sh_67 (b := 68) (m_67_2 hMh18) ?_
          refine g_iconst dX7_take_51 (inR_c rfl) ?_
          refine g_iconst dX7_take_52 (inR_c rfl) ?_
          refine g_acopy dX7_take_53 ml_X7_98 sh_70 sh_68 (by decide) (by decide) (by decide) (by decide) (by decide) (by decide) (by decide) (fun h19 eh19 => ?_)
          have hFh19 := Fr.cp eh19
          have hMh19 := MBx.cp hMh18 eh19 (by decide) (p0 := (-2147483648, 2147483647)) (p := (-2147483648, 2147483647)) rfl rfl (by decide) (by decide)
          have q20 : h19 67 0 = x1 := ((hFh19 67 0 rfl).trans ((hFh18 67 0 rfl).trans (st_at eh17)))
          exact g_return dX7_take_56 rfl (hPo _ ⟨hMh19, (Fr.tr (Fr.tr (Fr.sub hFh17 rfl) hFh18 rfl) hFh19 rfl), (by omega)⟩)
set_option maxRecDepth 100000 in
set_option maxHeartbeats 4000000 in
theorem c_X7_tryRow_67_21_82 (x1 x2 : Int) (h : MEM) (hM : MBx h) (bx1 : 0 ≤ x1) (dx1 : x1 ≤ 9) (bx2 : 0 ≤ x2) (dx2 : x2 ≤ 20) : CV yX7_tryRow cX7_tryRow 6 (none) 6 [pR 67, pR 21, pR 82, pI x1, pI x2] h (fun h' => MBx h' ∧ Fr [(21, 7), (21, 8), (21, 9), (24, 0), (30, 0), (31, 0), (36, 0), (37, 0), (38, 0), (40, 0), (67, 1), (67, 2), (68, 0), (89, 0)] h h' ∧ ((h' 67 0 = h 67 0 ∨ (0 ≤ h' 67 0 ∧ h' 67 0 ≤ x2)))) := by
  refine CV.of (L0 := [some (pR 67), some (pR 21), some (pR 82), some (pI x1), some (pI x2), none]) rfl (Nat.le_of_ble_eq_true rfl) rfl (fun Po hPo hav => ?_)
  obtain ⟨v1, ev1⟩ : ∃ z, z = h 67 0 := ⟨_, rfl⟩
  have bv1 : -2147483648 ≤ v1 ∧ v1 ≤ 2147483647 := by rw [ev1]; exact (m_67_0 hM)
  have q2 : h 67 0 = v1 := ev1.symm
  refine g_aload_n dX7_tryRow_0 rfl ?_
  refine gR_X7_35 rfl dX7_tryRow_1 sh_21 (b := 22) (m_21_0 hM) ?_
  refine g_iload_n dX7_tryRow_4 rfl (fun _ => ?_)
  refine g_cVP (as := [_]) (c_X6_has_22 _ h hM (by omega) (by omega)) dX7_tryRow_5 mi_X6_has in_X6_has se_X6_has ml_X7_67 rfl rfl rfl sh_22 rfl rfl (Nat.le_of_ble_eq_true rfl) (fun v3 q4 => ?_)
  obtain ⟨v5, ev5⟩ : ∃ z, z = h 22 0 := ⟨_, rfl⟩
  have bv5 : 0 ≤ v5 ∧ v5 ≤ 10 := by rw [ev5]; exact (m_22_0 hM)
  rcases q4 with ⟨rfl, q4⟩ | ⟨rfl, q4⟩
  · skip
    refine g_if_ne 12 dX7_tryRow_8 (by decide) (fun q6 => ?_) (fun _ => by exfalso; omega)
    refine g_iconst dX7_tryRow_12 (inR_c rfl) ?_
    have c15 : ∀ (n : Nat) (y7 : Int) (h8 : MEM), MBx h8 → Fr [(21, 7), (21, 8), (21, 9), (24, 0), (30, 0), (31, 0), (36, 0), (37, 0), (38, 0), (40, 0), (89, 0)] h h8 → 0 ≤ y7 → y7 ≤ 21 → y7 + (-1) * x2 ≤ 1 → 21 - y7 < (n : Int) → G yX7_tryRow cX7_tryRow 6 (none) none Po (6, 360, 0, 0) 15 [some (pR 67), some (pR 21), some (pR 82), some (pI x1), some (pI x2), some (pI y7)] [] SH h8 0 0 := by
      intro n
      induction n with
      | zero =>
        intro y7 h8 hMh8 hFh8 by7 dy7 li15_0 hn
        exfalso; omega
      | succ n ih15 =>
        intro y7 h8 hMh8 hFh8 by7 dy7 li15_0 hn
        refine g_iload dX7_tryRow_15 rfl (fun _ => ?_)
        refine g_iload dX7_tryRow_17 rfl (fun _ => ?_)
        refine g_icmp_gt 80 dX7_tryRow_19 (by decide) (fun q9 => ?_) (fun q9 => ?_)
        · skip
          have q10 : h8 67 0 = v1 := ((hFh8 67 0 rfl).trans ev1.symm)
          exact g_return dX7_tryRow_80 rfl (hPo _ ⟨hMh8, (Fr.sub hFh8 rfl), (by omega)⟩)
        · skip
          refine g_aload_n dX7_tryRow_22 rfl ?_
          refine gR_X7_35 rfl dX7_tryRow_23 sh_21 (b := 22) (m_21_0 hMh8) ?_
          refine gR_X7_71 rfl dX7_tryRow_26 sh_22 (b := 24) (m_22_2 hMh8) ?_
          refine g_iload_n dX7_tryRow_29 rfl (fun _ => ?_)
          refine g_ialdB dX7_tryRow_30 sh_24 (by omega) (by omega) (m_24 hMh8 _) (fun v11 ev11 bv11 cv11 => ?_)
          refine g_aload_n dX7_tryRow_31 rfl ?_
          refine gR_X7_35 rfl dX7_tryRow_32 sh_21 (b := 22) (m_21_0 hMh8) ?_
          refine gR_X7_74 rfl dX7_tryRow_35 sh_22 (b := 23) (m_22_1 hMh8) ?_
          refine g_iload_n dX7_tryRow_38 rfl (fun _ => ?_)
          refine g_ialdB dX7_tryRow_39 sh_23 (by omega) (by omega) (m_23 hMh8 _) (fun v12 ev12 bv12 cv12 => ?_)
          refine g_icmp_ne 57 dX7_tryRow_40 (by decide) (fun q13 => ?_) (fun q13 => ?_)
          · skip
            refine g_iload dX7_tryRow_57 rfl (fun _ => ?_)
            refine g_iload dX7_tryRow_59 rfl (fun _ => ?_)
            refine g_icmp_ge 74 dX7_tryRow_61 (by decide) (fun q14 => ?_) (fun q14 => ?_)
            · skip
              refine g_iincB dX7_tryRow_74 rfl rfl (by omega) (by omega) ?_
              refine g_goto 15 dX7_tryRow_77 (by decide) ?_
              exact ih15 _ _ hMh8 (Fr.sub hFh8 rfl) (by omega) (by omega) (by omega) (by omega)
            · skip
              refine g_aload_n dX7_tryRow_64 rfl ?_
              refine g_aload_n dX7_tryRow_65 rfl ?_
              refine g_aload_n dX7_tryRow_66 rfl ?_
              refine g_cV (as := []) (c_X9_nextWind_21  h8 hMh8) dX7_tryRow_67 mi_X9_nextWind in_X9_nextWind se_X9_nextWind ml_X7_91 rfl rfl rfl sh_21 rfl rfl (Nat.le_of_ble_eq_true rfl) (fun v15 h16 q17 => ?_)
              obtain ⟨hMh16, hFh16, bv15, cv15⟩ := q17
              refine g_cV (as := [_, _]) (c_X9_passHour_21_82 _ h16 hMh16 (by omega) (by omega)) dX7_tryRow_70 mi_X9_passHour in_X9_passHour se_X9_passHour ml_X7_94 rfl rfl rfl sh_21 rfl rfl (Nat.le_of_ble_eq_true rfl) (fun v18 h19 q20 => ?_)
              obtain ⟨hMh19, hFh19, bv18, cv18⟩ := q20
              refine g_pop dX7_tryRow_73 rfl ?_
              refine g_iincB dX7_tryRow_74 rfl rfl (by omega) (by omega) ?_
              refine g_goto 15 dX7_tryRow_77 (by decide) ?_
              exact ih15 _ _ hMh19 (Fr.tr (Fr.tr (Fr.sub hFh8 rfl) hFh16 rfl) hFh19 rfl) (by omega) (by omega) (by omega) (by omega)
          · skip
            refine g_aload_n dX7_tryRow_43 rfl ?_
            refine g_iload dX7_tryRow_44 rfl (fun _ => ?_)
            have q21 : h8 67 0 = v1 := ((hFh8 67 0 rfl).trans ev1.symm)
            refine g_aload_n dX7_tryRow_46 rfl ?_
            refine gR_X7_77 rfl dX7_tryRow_47 sh_21 (b := 32) (m_21_2 hMh8) ?_
            refine g_cVP (as := []) (c_X4_allBruises_32  h8 hMh8) dX7_tryRow_50 mi_X4_allBruises in_X4_allBruises se_X4_allBruises ml_X7_81 rfl rfl rfl sh_32 rfl rfl (Nat.le_of_ble_eq_true rfl) (fun v22 q23 => ?_)
            obtain ⟨bv22, cv22⟩ := q23
            refine g_cVV (as := [_, _]) (c_X7_take_67 _ _ h8 hMh8 (by omega) (by omega) (by omega) (by omega)) dX7_tryRow_53 mi_X7_take in_X7_take se_X7_take ml_X7_87 rfl rfl rfl sh_67 rfl rfl (Nat.le_of_ble_eq_true rfl) (fun h24 q25 => ?_)
            obtain ⟨hMh24, hFh24, zh24⟩ := q25
            obtain ⟨v26, ev26⟩ : ∃ z, z = h24 67 0 := ⟨_, rfl⟩
            have bv26 : -2147483648 ≤ v26 ∧ v26 ≤ 2147483647 := by rw [ev26]; exact (m_67_0 hMh24)
            exact g_return dX7_tryRow_56 rfl (hPo _ ⟨hMh24, (Fr.tr (Fr.sub hFh8 rfl) hFh24 rfl), (by omega)⟩)
    refine g_istore dX7_tryRow_13 (by decide) rfl ?_
    exact c15 22 _ _ hM Fr.rf (by omega) (by omega) (by omega) (by omega)
  · skip
    refine g_if_ne 12 dX7_tryRow_8 (by decide) (fun _ => by exfalso; omega) (fun q27 => ?_)
    have q28 : h 67 0 = v1 := ev1.symm
    exact g_return dX7_tryRow_11 rfl (hPo _ ⟨hM, Fr.rf, (by omega)⟩)
set_option maxRecDepth 100000 in
set_option maxHeartbeats 4000000 in
theorem c_X7_stepRow_67 (x1 : Int) (h : MEM) (hM : MBx h) (bx1 : 0 ≤ x1) (dx1 : x1 ≤ 10) : CV yX7_stepRow cX7_stepRow 3 (none) 1 [pR 67, pI x1] h (fun h' => MBx h' ∧ Fr [(70, 0)] h h') := by
  refine CV.of (L0 := [some (pR 67), some (pI x1), none]) rfl (Nat.le_of_ble_eq_true rfl) rfl (fun Po hPo hav => ?_)
  refine g_aload_n dX7_stepRow_0 rfl ?_
  refine gI_X7_22 rfl dX7_stepRow_1 sh_67 (m_67_3 hM) (fun v1 ev1 bv1 cv1 => ?_)
  refine g_iconst dX7_stepRow_4 (inR_c rfl) ?_
  refine g_isubB dX7_stepRow_5 (by omega) (by omega) ?_
  have c7 : ∀ (n : Nat) (y2 : Int) (h3 : MEM), MBx h3 → Fr [(70, 0)] h h3 → -1 ≤ y2 → y2 ≤ 2 → y2 - (-1) < (n : Int) → G yX7_stepRow cX7_stepRow 3 (none) none Po (1, 60, 0, 0) 7 [some (pR 67), some (pI x1), some (pI y2)] [] SH h3 0 0 := by
    intro n
    induction n with
    | zero =>
      intro y2 h3 hMh3 hFh3 by2 dy2 hn
      exfalso; omega
    | succ n ih7 =>
      intro y2 h3 hMh3 hFh3 by2 dy2 hn
      refine g_iload_n dX7_stepRow_7 rfl (fun _ => ?_)
      refine g_if_lt 45 dX7_stepRow_8 (by decide) (fun q4 => ?_) (fun q4 => ?_)
      · skip
        exact g_return dX7_stepRow_45 rfl (hPo _ ⟨hMh3, (Fr.sub hFh3 rfl)⟩)
      · skip
        refine g_aload_n dX7_stepRow_11 rfl ?_
        refine gR_X7_28 rfl dX7_stepRow_12 sh_67 (b := 70) (m_67_5 hMh3) ?_
        refine g_iload_n dX7_stepRow_15 rfl (fun _ => ?_)
        refine g_dup2 dX7_stepRow_16 rfl rfl ?_
        refine g_ialdB dX7_stepRow_17 sh_70 (by omega) (by omega) (m_70 hMh3 _) (fun v5 ev5 bv5 cv5 => ?_)
        refine g_iconst dX7_stepRow_18 (inR_c rfl) ?_
        refine g_iaddF dX7_stepRow_19 (fun v6 bv6 cv6 => ?_)
        refine g_iastB dX7_stepRow_20 sh_70 (by omega) (by omega) (fun h7 eh7 => ?_)
        have hFh7 := Fr.ar eh7
        have hMh7 := u_70 hMh3 eh7 (by omega) (by omega)
        refine g_aload_n dX7_stepRow_21 rfl ?_
        refine gR_X7_28 rfl dX7_stepRow_22 sh_67 (b := 70) (m_67_5 hMh7) ?_
        refine g_iload_n dX7_stepRow_25 rfl (fun _ => ?_)
        refine g_ialdE dX7_stepRow_26 sh_70 (by omega) (by omega) (st_at eh7) ?_
        refine g_iload_n dX7_stepRow_27 rfl (fun _ => ?_)
        refine g_icmp_ge 32 dX7_stepRow_28 (by decide) (fun q8 => ?_) (fun q8 => ?_)
        · skip
          refine g_aload_n dX7_stepRow_32 rfl ?_
          refine gR_X7_28 rfl dX7_stepRow_33 sh_67 (b := 70) (m_67_5 hMh7) ?_
          refine g_iload_n dX7_stepRow_36 rfl (fun _ => ?_)
          refine g_iconst dX7_stepRow_37 (inR_c rfl) ?_
          refine g_iastB dX7_stepRow_38 sh_70 (by omega) (by omega) (fun h9 eh9 => ?_)
          have hFh9 := Fr.ar eh9
          have hMh9 := u_70 hMh7 eh9 (by omega) (by omega)
          refine g_iincB dX7_stepRow_39 rfl rfl (by omega) (by omega) ?_
          refine g_goto 7 dX7_stepRow_42 (by decide) ?_
          exact ih7 _ _ hMh9 (Fr.tr (Fr.tr (Fr.sub hFh3 rfl) hFh7 rfl) hFh9 rfl) (by omega) (by omega) (by omega)
        · skip
          exact g_return dX7_stepRow_31 rfl (hPo _ ⟨hMh7, (Fr.tr (Fr.sub hFh3 rfl) hFh7 rfl)⟩)
  refine g_istore_n dX7_stepRow_6 (by decide) rfl ?_
  exact c7 4 _ _ hM Fr.rf (by omega) (by omega) (by omega)
set_option maxRecDepth 100000 in
set_option maxHeartbeats 4000000 in
theorem c_X7_search_67_1_21_82 (x1 x2 x3 : Int) (h : MEM) (hM : MBx h) (bx1 : -2147483648 ≤ x1) (dx1 : x1 ≤ 2147483647) (bx2 : 0 ≤ x2) (dx2 : x2 ≤ 9) (bx3 : 1 ≤ x3) (dx3 : x3 ≤ 20) : CV yX7_search cX7_search 9 (none) 7 [pR 67, pR 1, pR 21, pR 82, pI x1, pI x2, pI x3] h (fun h' => MBx h' ∧ Fr [(21, 7), (21, 8), (21, 9), (22, 1), (23, 0), (24, 0), (25, 0), (26, 1), (27, 0), (28, 0), (29, 0), (30, 0), (31, 0), (32, 1), (33, 0), (34, 0), (35, 0), (36, 0), (37, 0), (38, 0), (39, 0), (40, 0), (67, 1), (67, 2), (67, 4), (68, 0), (69, 0), (70, 0), (89, 0)] h h') := by
  refine CV.of (L0 := [some (pR 67), some (pR 1), some (pR 21), some (pR 82), some (pI x1), some (pI x2), some (pI x3), none, none]) rfl (Nat.le_of_ble_eq_true rfl) rfl (fun Po hPo hav => ?_)
  refine g_aload_n dX7_search_0 rfl ?_
  refine g_iconst dX7_search_1 (inR_c rfl) ?_
  refine pI_X7_9 rfl dX7_search_2 sh_67 (fun h1 eh1 => ?_)
  have hFh1 := Fr.st eh1
  have hMh1 := u_67_0 hM eh1 (by omega) (by omega)
  refine g_aload_n dX7_search_5 rfl ?_
  refine g_aload_n dX7_search_6 rfl ?_
  refine g_iload dX7_search_7 rfl (fun _ => ?_)
  refine g_cVV (as := [_, _]) (c_X7_tellWho_67_1 _ h1 hMh1 (by omega) (by omega)) dX7_search_9 mi_X7_tellWho in_X7_tellWho se_X7_tellWho ml_X7_31 rfl rfl rfl sh_67 rfl rfl (Nat.le_of_ble_eq_true rfl) (fun h2 q3 => ?_)
  obtain ⟨hMh2, hFh2⟩ := q3
  refine g_iconst dX7_search_12 (inR_c rfl) ?_
  refine g_istore dX7_search_13 (by decide) rfl ?_
  refine g_iconst dX7_search_15 (inR_c rfl) ?_
  have c18 : ∀ (n : Nat) (y4 y5 : Int) (h6 : MEM), MBx h6 → Fr [(70, 0)] h2 h6 → 0 ≤ y4 → y4 ≤ 100000000 → 0 ≤ y5 → y5 ≤ 3 → y5 ≤ 3 → (-1) * y4 ≤ 0 → PW y4 y5 → 3 - y5 < (n : Int) → G yX7_search cX7_search 9 (none) none Po (7, 420, 0, 0) 18 [some (pR 67), some (pR 1), some (pR 21), some (pR 82), none, some (pI x2), some (pI x3), some (pI y4), some (pI y5)] [] SH h6 0 0 := by
    intro n
    induction n with
    | zero =>
      intro y4 y5 h6 hMh6 hFh6 by4 dy4 by5 dy5 li18_0 li18_1 e18_0 hn
      exfalso; omega
    | succ n ih18 =>
      intro y4 y5 h6 hMh6 hFh6 by4 dy4 by5 dy5 li18_0 li18_1 e18_0 hn
      refine g_iload dX7_search_18 rfl (fun _ => ?_)
      refine g_aload_n dX7_search_20 rfl ?_
      refine gI_X7_22 rfl dX7_search_21 sh_67 (m_67_3 hMh6) (fun v7 ev7 bv7 cv7 => ?_)
      refine g_icmp_ge 53 dX7_search_24 (by decide) (fun q8 => ?_) (fun q8 => ?_)
      · skip
        refine g_iconst dX7_search_53 (inR_c rfl) ?_
        have c56 : ∀ (n : Nat) (y9 : Int) (h10 : MEM), MBx h10 → Fr [(21, 7), (21, 8), (21, 9), (22, 1), (23, 0), (24, 0), (25, 0), (26, 1), (27, 0), (28, 0), (29, 0), (30, 0), (31, 0), (32, 1), (33, 0), (34, 0), (35, 0), (36, 0), (37, 0), (38, 0), (39, 0), (40, 0), (67, 1), (67, 2), (68, 0), (70, 0), (89, 0)] h6 h10 → 0 ≤ y9 → y9 ≤ 100000000 → y9 + (-1) * y4 ≤ 0 → -1 ≤ h10 67 0 → h10 67 0 ≤ 20 → 100000000 - y9 < (n : Int) → G yX7_search cX7_search 9 (none) none Po (7, 420, 0, 0) 56 [some (pR 67), some (pR 1), some (pR 21), some (pR 82), none, some (pI x2), some (pI x3), some (pI y4), some (pI y9)] [] SH h10 0 0 := by
          intro n
          induction n with
          | zero =>
            intro y9 h10 hMh10 hFh10 by9 dy9 li56_0 e56_0 e56_1 hn
            exfalso; omega
          | succ n ih56 =>
            intro y9 h10 hMh10 hFh10 by9 dy9 li56_0 e56_0 e56_1 hn
            refine g_iload dX7_search_56 rfl (fun _ => ?_)
            refine g_iload dX7_search_58 rfl (fun _ => ?_)
            refine g_icmp_ge 119 dX7_search_60 (by decide) (fun q11 => ?_) (fun q11 => ?_)
            · skip
              exact g_return dX7_search_119 rfl (hPo _ ⟨hMh10, (Fr.tr (Fr.tr (Fr.tr (Fr.sub hFh1 rfl) hFh2 rfl) hFh6 rfl) hFh10 rfl)⟩)
            · skip
              refine g_aload_n dX7_search_63 rfl ?_
              obtain ⟨v12, ev12⟩ : ∃ z, z = h10 67 0 := ⟨_, rfl⟩
              have bv12 : -2147483648 ≤ v12 ∧ v12 ≤ 2147483647 := by rw [ev12]; exact (m_67_0 hMh10)
              refine g_aload_n dX7_search_64 rfl ?_
              have q13 : h10 2 0 = h 2 0 := ((hFh10 2 0 rfl).trans ((hFh6 2 0 rfl).trans ((hFh2 2 0 rfl).trans (hFh1 2 0 rfl))))
              obtain ⟨v14, ev14⟩ : ∃ z, z = h10 2 0 := ⟨_, rfl⟩
              have bv14 : 0 ≤ v14 ∧ v14 ≤ 10 := by rw [ev14]; exact (m_2_0 hMh10)
              have q15 : h10 6 0 = h 6 0 := ((hFh10 6 0 rfl).trans ((hFh6 6 0 rfl).trans ((hFh2 6 0 rfl).trans (hFh1 6 0 rfl))))
              obtain ⟨v16, ev16⟩ : ∃ z, z = h10 6 0 := ⟨_, rfl⟩
              have bv16 : 0 ≤ v16 ∧ v16 ≤ 8 := by rw [ev16]; exact (m_6_0 hMh10)
              have q17 : h10 12 0 = h 12 0 := ((hFh10 12 0 rfl).trans ((hFh6 12 0 rfl).trans ((hFh2 12 0 rfl).trans (hFh1 12 0 rfl))))
              obtain ⟨v18, ev18⟩ : ∃ z, z = h10 12 0 := ⟨_, rfl⟩
              have bv18 : 0 ≤ v18 ∧ v18 ≤ 8 := by rw [ev18]; exact (m_12_0 hMh10)
              refine g_cVV (as := [_]) (c_X9_copyFrom_21_1  h10 hMh10) dX7_search_65 mi_X9_copyFrom in_X9_copyFrom se_X9_copyFrom ml_X7_44 rfl rfl rfl sh_21 rfl rfl (Nat.le_of_ble_eq_true rfl) (fun h19 q20 => ?_)
              obtain ⟨hMh19, hFh19, z21, z22, z23⟩ := q20
              have kz21 : h19 22 0 = v14 := by omega
              have kz22 : h19 26 0 = v16 := by omega
              have kz23 : h19 32 0 = v18 := by omega
              refine g_aload_n dX7_search_68 rfl ?_
              refine g_aload_n dX7_search_69 rfl ?_
              refine g_aload_n dX7_search_70 rfl ?_
              refine gR_X7_28 rfl dX7_search_71 sh_67 (b := 70) (m_67_5 hMh19) ?_
              refine g_cVV (as := [_, _]) (c_X7_placeOn_67_21_70  h19 hMh19) dX7_search_74 mi_X7_placeOn in_X7_placeOn se_X7_placeOn ml_X7_48 rfl rfl rfl sh_67 rfl rfl (Nat.le_of_ble_eq_true rfl) (fun h24 q25 => ?_)
              obtain ⟨hMh24, hFh24⟩ := q25
              refine g_aload_n dX7_search_77 rfl ?_
              refine g_aload_n dX7_search_78 rfl ?_
              refine g_aload_n dX7_search_79 rfl ?_
              refine g_iload dX7_search_80 rfl (fun _ => ?_)
              have q26 : h24 67 0 = v12 := ((hFh24 67 0 rfl).trans ((hFh19 67 0 rfl).trans ev12.symm))
              refine g_aload_n dX7_search_82 rfl ?_
              refine gE_X7_9 rfl dX7_search_83 sh_67 ((hFh24 67 0 rfl).trans ((hFh19 67 0 rfl).trans ev12.symm)) ?_
              have a83 : -1 ≤ v12 ∧ v12 ≤ 20 := (by omega)
              refine g_iconst dX7_search_86 (inR_c rfl) ?_
              refine g_icmp_ne 95 dX7_search_87 (by decide) (fun q27 => ?_) (fun q27 => ?_)
              · skip
                refine g_aload_n dX7_search_95 rfl ?_
                refine gE_X7_9 rfl dX7_search_96 sh_67 ((hFh24 67 0 rfl).trans ((hFh19 67 0 rfl).trans ev12.symm)) ?_
                refine g_cVV (as := [_, _, _, _]) (c_X7_tryRow_67_21_82 _ _ h24 hMh24 (by omega) (by omega) (by omega) (by omega)) dX7_search_99 mi_X7_tryRow in_X7_tryRow se_X7_tryRow ml_X7_52 rfl rfl rfl sh_67 rfl rfl (Nat.le_of_ble_eq_true rfl) (fun h28 q29 => ?_)
                obtain ⟨hMh28, hFh28, zh28⟩ := q29
                refine g_aload_n dX7_search_102 rfl ?_
                refine g_aload_n dX7_search_103 rfl ?_
                refine gR_X7_35 rfl dX7_search_104 sh_1 (b := 2) (m_1_0 hMh28) ?_
                refine gE_X7_41 rfl dX7_search_107 sh_2 ((hFh28 2 0 rfl).trans ((hFh24 2 0 rfl).trans ((hFh19 2 0 rfl).trans ev14.symm))) ?_
                refine g_cVV (as := [_]) (c_X7_stepRow_67 _ h28 hMh28 (by omega) (by omega)) dX7_search_110 mi_X7_stepRow in_X7_stepRow se_X7_stepRow ml_X7_56 rfl rfl rfl sh_67 rfl rfl (Nat.le_of_ble_eq_true rfl) (fun h30 q31 => ?_)
                obtain ⟨hMh30, hFh30⟩ := q31
                refine g_iincB dX7_search_113 rfl rfl (by omega) (by omega) ?_
                refine g_goto 56 dX7_search_116 (by decide) ?_
                have q32 : h30 67 0 = h28 67 0 := (hFh30 67 0 rfl)
                obtain ⟨v33, ev33⟩ : ∃ z, z = h30 67 0 := ⟨_, rfl⟩
                have bv33 : -2147483648 ≤ v33 ∧ v33 ≤ 2147483647 := by rw [ev33]; exact (m_67_0 hMh30)
                exact ih56 _ _ hMh30 (Fr.tr (Fr.tr (Fr.tr (Fr.tr (Fr.sub hFh10 rfl) hFh19 rfl) hFh24 rfl) hFh28 rfl) hFh30 rfl) (by omega) (by omega) (by omega) (by omega) (by omega) (by omega)
              · skip
                refine g_iload dX7_search_90 rfl (fun _ => ?_)
                refine g_goto 99 dX7_search_92 (by decide) ?_
                refine g_cVV (as := [_, _, _, _]) (c_X7_tryRow_67_21_82 _ _ h24 hMh24 (by omega) (by omega) (by omega) (by omega)) dX7_search_99 mi_X7_tryRow in_X7_tryRow se_X7_tryRow ml_X7_52 rfl rfl rfl sh_67 rfl rfl (Nat.le_of_ble_eq_true rfl) (fun h34 q35 => ?_)
                obtain ⟨hMh34, hFh34, zh34⟩ := q35
                refine g_aload_n dX7_search_102 rfl ?_
                refine g_aload_n dX7_search_103 rfl ?_
                refine gR_X7_35 rfl dX7_search_104 sh_1 (b := 2) (m_1_0 hMh34) ?_
                refine gE_X7_41 rfl dX7_search_107 sh_2 ((hFh34 2 0 rfl).trans ((hFh24 2 0 rfl).trans ((hFh19 2 0 rfl).trans ev14.symm))) ?_
                refine g_cVV (as := [_]) (c_X7_stepRow_67 _ h34 hMh34 (by omega) (by omega)) dX7_search_110 mi_X7_stepRow in_X7_stepRow se_X7_stepRow ml_X7_56 rfl rfl rfl sh_67 rfl rfl (Nat.le_of_ble_eq_true rfl) (fun h36 q37 => ?_)
                obtain ⟨hMh36, hFh36⟩ := q37
                refine g_iincB dX7_search_113 rfl rfl (by omega) (by omega) ?_
                refine g_goto 56 dX7_search_116 (by decide) ?_
                have q38 : h36 67 0 = h34 67 0 := (hFh36 67 0 rfl)
                obtain ⟨v39, ev39⟩ : ∃ z, z = h36 67 0 := ⟨_, rfl⟩
                have bv39 : -2147483648 ≤ v39 ∧ v39 ≤ 2147483647 := by rw [ev39]; exact (m_67_0 hMh36)
                exact ih56 _ _ hMh36 (Fr.tr (Fr.tr (Fr.tr (Fr.tr (Fr.sub hFh10 rfl) hFh19 rfl) hFh24 rfl) hFh34 rfl) hFh36 rfl) (by omega) (by omega) (by omega) (by omega) (by omega) (by omega)
        refine g_istore dX7_search_54 (by decide) rfl ?_
        have q40 : h6 67 0 = (-1) := ((hFh6 67 0 rfl).trans ((hFh2 67 0 rfl).trans (st_at eh1)))
        exact c56 100000001 _ _ hMh6 Fr.rf (by omega) (by omega) (by omega) (by omega) (by omega) (by omega)
      · skip
        refine g_iload dX7_search_27 rfl (fun _ => ?_)
        have al41 : 0 ≤ y4 ∧ y4 ≤ 10000000 := ⟨by omega, PW_b e18_0 (by omega) (by omega)⟩
        refine g_aload_n dX7_search_29 rfl ?_
        refine gR_X7_35 rfl dX7_search_30 sh_1 (b := 2) (m_1_0 hMh6) ?_
        refine gI_X7_41 rfl dX7_search_33 sh_2 (m_2_0 hMh6) (fun v42 ev42 bv42 cv42 => ?_)
        refine g_imulQ dX7_search_36 (A := 0) (B := 10000000) (A2 := 0) (B2 := 10) (by omega) (by omega) (by omega) (by omega) (by decide) (by decide) (by decide) (fun v43 mv43 bv43 cv43 => ?_)
        refine g_istore dX7_search_37 (by decide) rfl ?_
        refine g_aload_n dX7_search_39 rfl ?_
        refine gR_X7_28 rfl dX7_search_40 sh_67 (b := 70) (m_67_5 hMh6) ?_
        refine g_iload dX7_search_43 rfl (fun _ => ?_)
        refine g_iconst dX7_search_45 (inR_c rfl) ?_
        refine g_iastB dX7_search_46 sh_70 (by omega) (by omega) (fun h44 eh44 => ?_)
        have hFh44 := Fr.ar eh44
        have hMh44 := u_70 hMh6 eh44 (by omega) (by omega)
        refine g_iincB dX7_search_47 rfl rfl (by omega) (by omega) ?_
        refine g_goto 18 dX7_search_50 (by decide) ?_
        exact ih18 _ _ _ hMh44 (Fr.tr (Fr.sub hFh6 rfl) hFh44 rfl) (by omega) (by omega) (by omega) (by omega) (by omega) (by omega) (by first | exact PW_0 | exact PW_t e18_0 (by omega) (by omega) (by omega) (by omega) (by assumption)) (by omega)
  refine g_istore dX7_search_16 (by decide) rfl ?_
  refine g_drop 4 ?_
  exact c18 4 _ _ _ hMh2 Fr.rf (by omega) (by omega) (by omega) (by omega) (by omega) (by omega) (by first | exact PW_0 | exact PW_t e18_0 (by omega) (by omega) (by omega) (by omega) (by assumption)) (by omega)
set_option maxRecDepth 100000 in
set_option maxHeartbeats 4000000 in
theorem c_X7_roofOf_67 (x1 : Int) (h : MEM) (hM : MBx h) (bx1 : -2147483648 ≤ x1) (dx1 : x1 ≤ 2147483647) : CP yX7_roofOf cX7_roofOf 3 (some .int) 1 [pR 67, pI x1] h (fun x => -2147483648 ≤ x ∧ x ≤ 2147483647) := by
  refine CP.of (L0 := [some (pR 67), some (pI x1), none]) rfl (Nat.le_of_ble_eq_true rfl) rfl (fun Po hPo hav => ?_)
  refine g_iconst dX7_roofOf_0 (inR_c rfl) ?_
  have c2 : ∀ (n : Nat) (y1 : Int) , 0 ≤ y1 → y1 ≤ 3 → 3 - y1 < (n : Int) → G yX7_roofOf cX7_roofOf 3 (some .int) none Po (1, 60, 0, 0) 2 [some (pR 67), some (pI x1), some (pI y1)] [] SH h 0 0 := by
    intro n
    induction n with
    | zero =>
      intro y1 by1 dy1 hn
      exfalso; omega
    | succ n ih2 =>
      intro y1 by1 dy1 hn
      refine g_iload_n dX7_roofOf_2 rfl (fun _ => ?_)
      refine g_aload_n dX7_roofOf_3 rfl ?_
      refine gI_X7_22 rfl dX7_roofOf_4 sh_67 (m_67_3 hM) (fun v2 ev2 bv2 cv2 => ?_)
      refine g_icmp_ge 33 dX7_roofOf_7 (by decide) (fun q3 => ?_) (fun q3 => ?_)
      · skip
        refine g_iconst dX7_roofOf_33 (inR_c rfl) ?_
        exact g_ireturn dX7_roofOf_34 retI (hPo _ ⟨(by omega), (by omega)⟩)
      · skip
        refine g_aload_n dX7_roofOf_10 rfl ?_
        refine gR_X7_25 rfl dX7_roofOf_11 sh_67 (b := 69) (m_67_4 hM) ?_
        refine g_iload_n dX7_roofOf_14 rfl (fun _ => ?_)
        refine g_ialdB dX7_roofOf_15 sh_69 (by omega) (by omega) (m_69 hM _) (fun v4 ev4 bv4 cv4 => ?_)
        refine g_iload_n dX7_roofOf_16 rfl (fun _ => ?_)
        refine g_icmp_ne 27 dX7_roofOf_17 (by decide) (fun q5 => ?_) (fun q5 => ?_)
        · skip
          refine g_iincB dX7_roofOf_27 rfl rfl (by omega) (by omega) ?_
          refine g_goto 2 dX7_roofOf_30 (by decide) ?_
          exact ih2 _ (by omega) (by omega) (by omega)
        · skip
          refine g_aload_n dX7_roofOf_20 rfl ?_
          refine gR_X7_18 rfl dX7_roofOf_21 sh_67 (b := 68) (m_67_2 hM) ?_
          refine g_iload_n dX7_roofOf_24 rfl (fun _ => ?_)
          refine g_ialdB dX7_roofOf_25 sh_68 (by omega) (by omega) (m_68 hM _) (fun v6 ev6 bv6 cv6 => ?_)
          exact g_ireturn dX7_roofOf_26 retI (hPo _ ⟨(by omega), (by omega)⟩)
  refine g_istore_n dX7_roofOf_1 (by decide) rfl ?_
  exact c2 4 _ (by omega) (by omega) (by omega)
set_option maxRecDepth 100000 in
set_option maxHeartbeats 4000000 in
theorem c_X7_placeOn_67_1_68 (h : MEM) (hM : MBx h) : CV yX7_placeOn cX7_placeOn 4 (none) 2 [pR 67, pR 1, pR 68] h (fun h' => MBx h' ∧ Fr [(7, 0)] h h') := by
  refine CV.of (L0 := [some (pR 67), some (pR 1), some (pR 68), none]) rfl (Nat.le_of_ble_eq_true rfl) rfl (fun Po hPo hav => ?_)
  refine g_iconst dX7_placeOn_0 (inR_c rfl) ?_
  have c2 : ∀ (n : Nat) (y1 : Int) (h2 : MEM), MBx h2 → Fr [(7, 0)] h h2 → 0 ≤ y1 → y1 ≤ 3 → 3 - y1 < (n : Int) → G yX7_placeOn cX7_placeOn 4 (none) none Po (2, 120, 0, 0) 2 [some (pR 67), some (pR 1), some (pR 68), some (pI y1)] [] SH h2 0 0 := by
    intro n
    induction n with
    | zero =>
      intro y1 h2 hMh2 hFh2 by1 dy1 hn
      exfalso; omega
    | succ n ih2 =>
      intro y1 h2 hMh2 hFh2 by1 dy1 hn
      refine g_iload_n dX7_placeOn_2 rfl (fun _ => ?_)
      refine g_aload_n dX7_placeOn_3 rfl ?_
      refine gI_X7_22 rfl dX7_placeOn_4 sh_67 (m_67_3 hMh2) (fun v3 ev3 bv3 cv3 => ?_)
      refine g_icmp_ge 55 dX7_placeOn_7 (by decide) (fun q4 => ?_) (fun q4 => ?_)
      · skip
        exact g_return dX7_placeOn_55 rfl (hPo _ ⟨hMh2, (Fr.sub hFh2 rfl)⟩)
      · skip
        refine g_iload_n dX7_placeOn_10 rfl (fun _ => ?_)
        refine g_aload_n dX7_placeOn_11 rfl ?_
        refine g_alen dX7_placeOn_12 sh_68 (by decide) (by decide) ?_
        refine g_icmp_ge 55 dX7_placeOn_13 (by decide) (fun _ => by exfalso; omega) (fun q5 => ?_)
        refine g_aload_n dX7_placeOn_16 rfl ?_
        refine gR_X7_60 rfl dX7_placeOn_17 sh_1 (b := 6) (m_1_1 hMh2) ?_
        refine g_aload_n dX7_placeOn_20 rfl ?_
        refine gR_X7_25 rfl dX7_placeOn_21 sh_67 (b := 69) (m_67_4 hMh2) ?_
        refine g_iload_n dX7_placeOn_24 rfl (fun _ => ?_)
        refine g_ialdB dX7_placeOn_25 sh_69 (by omega) (by omega) (m_69 hMh2 _) (fun v6 ev6 bv6 cv6 => ?_)
        refine g_cVP (as := [_]) (c_X0_has_6 _ h2 hMh2 (by omega) (by omega)) dX7_placeOn_26 mi_X0_has in_X0_has se_X0_has ml_X7_104 rfl rfl rfl sh_6 rfl rfl (Nat.le_of_ble_eq_true rfl) (fun v7 q8 => ?_)
        have q9 : h2 6 0 = h 6 0 := (hFh2 6 0 rfl)
        obtain ⟨v10, ev10⟩ : ∃ z, z = h2 6 0 := ⟨_, rfl⟩
        have bv10 : 0 ≤ v10 ∧ v10 ≤ 8 := by rw [ev10]; exact (m_6_0 hMh2)
        rcases q8 with ⟨rfl, q8⟩ | ⟨rfl, q8⟩
        · skip
          refine g_if_eq 49 dX7_placeOn_29 (by decide) (fun _ => by exfalso; omega) (fun q11 => ?_)
          refine g_aload_n dX7_placeOn_32 rfl ?_
          refine gR_X7_60 rfl dX7_placeOn_33 sh_1 (b := 6) (m_1_1 hMh2) ?_
          refine gR_X7_105 rfl dX7_placeOn_36 sh_6 (b := 7) (m_6_1 hMh2) ?_
          refine g_aload_n dX7_placeOn_39 rfl ?_
          refine gR_X7_25 rfl dX7_placeOn_40 sh_67 (b := 69) (m_67_4 hMh2) ?_
          refine g_iload_n dX7_placeOn_43 rfl (fun _ => ?_)
          refine g_ialdE dX7_placeOn_44 sh_69 (by omega) (by omega) ev6.symm ?_
          refine g_aload_n dX7_placeOn_45 rfl ?_
          refine g_iload_n dX7_placeOn_46 rfl (fun _ => ?_)
          refine g_ialdB dX7_placeOn_47 sh_68 (by omega) (by omega) (m_68 hMh2 _) (fun v12 ev12 bv12 cv12 => ?_)
          refine g_iastB dX7_placeOn_48 sh_7 (by omega) (by omega) (fun h13 eh13 => ?_)
          have hFh13 := Fr.ar eh13
          have hMh13 := u_7 hMh2 eh13 (by omega) (by omega)
          refine g_iincB dX7_placeOn_49 rfl rfl (by omega) (by omega) ?_
          refine g_goto 2 dX7_placeOn_52 (by decide) ?_
          exact ih2 _ _ hMh13 (Fr.tr (Fr.sub hFh2 rfl) hFh13 rfl) (by omega) (by omega) (by omega)
        · skip
          refine g_if_eq 49 dX7_placeOn_29 (by decide) (fun q14 => ?_) (fun _ => by exfalso; omega)
          refine g_iincB dX7_placeOn_49 rfl rfl (by omega) (by omega) ?_
          refine g_goto 2 dX7_placeOn_52 (by decide) ?_
          exact ih2 _ _ hMh2 (Fr.sub hFh2 rfl) (by omega) (by omega) (by omega)
  refine g_istore_n dX7_placeOn_1 (by decide) rfl ?_
  exact c2 4 _ _ hM Fr.rf (by omega) (by omega) (by omega)
set_option maxRecDepth 100000 in
set_option maxHeartbeats 4000000 in
theorem c_X7_tryRow_67_21_90 (x1 x2 : Int) (h : MEM) (hM : MBx h) (bx1 : 0 ≤ x1) (dx1 : x1 ≤ 9) (bx2 : 0 ≤ x2) (dx2 : x2 ≤ 20) : CV yX7_tryRow cX7_tryRow 6 (none) 6 [pR 67, pR 21, pR 90, pI x1, pI x2] h (fun h' => MBx h' ∧ Fr [(21, 7), (21, 8), (21, 9), (24, 0), (30, 0), (31, 0), (36, 0), (37, 0), (38, 0), (40, 0), (67, 1), (67, 2), (68, 0), (97, 0)] h h' ∧ ((h' 67 0 = h 67 0 ∨ (0 ≤ h' 67 0 ∧ h' 67 0 ≤ x2)))) := by
  refine CV.of (L0 := [some (pR 67), some (pR 21), some (pR 90), some (pI x1), some (pI x2), none]) rfl (Nat.le_of_ble_eq_true rfl) rfl (fun Po hPo hav => ?_)
  obtain ⟨v1, ev1⟩ : ∃ z, z = h 67 0 := ⟨_, rfl⟩
  have bv1 : -2147483648 ≤ v1 ∧ v1 ≤ 2147483647 := by rw [ev1]; exact (m_67_0 hM)
  have q2 : h 67 0 = v1 := ev1.symm
  refine g_aload_n dX7_tryRow_0 rfl ?_
  refine gR_X7_35 rfl dX7_tryRow_1 sh_21 (b := 22) (m_21_0 hM) ?_
  refine g_iload_n dX7_tryRow_4 rfl (fun _ => ?_)
  refine g_cVP (as := [_]) (c_X6_has_22 _ h hM (by omega) (by omega)) dX7_tryRow_5 mi_X6_has in_X6_has se_X6_has ml_X7_67 rfl rfl rfl sh_22 rfl rfl (Nat.le_of_ble_eq_true rfl) (fun v3 q4 => ?_)
  obtain ⟨v5, ev5⟩ : ∃ z, z = h 22 0 := ⟨_, rfl⟩
  have bv5 : 0 ≤ v5 ∧ v5 ≤ 10 := by rw [ev5]; exact (m_22_0 hM)
  rcases q4 with ⟨rfl, q4⟩ | ⟨rfl, q4⟩
  · skip
    refine g_if_ne 12 dX7_tryRow_8 (by decide) (fun q6 => ?_) (fun _ => by exfalso; omega)
    refine g_iconst dX7_tryRow_12 (inR_c rfl) ?_
    have c15 : ∀ (n : Nat) (y7 : Int) (h8 : MEM), MBx h8 → Fr [(21, 7), (21, 8), (21, 9), (24, 0), (30, 0), (31, 0), (36, 0), (37, 0), (38, 0), (40, 0), (97, 0)] h h8 → 0 ≤ y7 → y7 ≤ 21 → y7 + (-1) * x2 ≤ 1 → 21 - y7 < (n : Int) → G yX7_tryRow cX7_tryRow 6 (none) none Po (6, 360, 0, 0) 15 [some (pR 67), some (pR 21), some (pR 90), some (pI x1), some (pI x2), some (pI y7)] [] SH h8 0 0 := by
      intro n
      induction n with
      | zero =>
        intro y7 h8 hMh8 hFh8 by7 dy7 li15_0 hn
        exfalso; omega
      | succ n ih15 =>
        intro y7 h8 hMh8 hFh8 by7 dy7 li15_0 hn
        refine g_iload dX7_tryRow_15 rfl (fun _ => ?_)
        refine g_iload dX7_tryRow_17 rfl (fun _ => ?_)
        refine g_icmp_gt 80 dX7_tryRow_19 (by decide) (fun q9 => ?_) (fun q9 => ?_)
        · skip
          have q10 : h8 67 0 = v1 := ((hFh8 67 0 rfl).trans ev1.symm)
          exact g_return dX7_tryRow_80 rfl (hPo _ ⟨hMh8, (Fr.sub hFh8 rfl), (by omega)⟩)
        · skip
          refine g_aload_n dX7_tryRow_22 rfl ?_
          refine gR_X7_35 rfl dX7_tryRow_23 sh_21 (b := 22) (m_21_0 hMh8) ?_
          refine gR_X7_71 rfl dX7_tryRow_26 sh_22 (b := 24) (m_22_2 hMh8) ?_
          refine g_iload_n dX7_tryRow_29 rfl (fun _ => ?_)
          refine g_ialdB dX7_tryRow_30 sh_24 (by omega) (by omega) (m_24 hMh8 _) (fun v11 ev11 bv11 cv11 => ?_)
          refine g_aload_n dX7_tryRow_31 rfl ?_
          refine gR_X7_35 rfl dX7_tryRow_32 sh_21 (b := 22) (m_21_0 hMh8) ?_
          refine gR_X7_74 rfl dX7_tryRow_35 sh_22 (b := 23) (m_22_1 hMh8) ?_
          refine g_iload_n dX7_tryRow_38 rfl (fun _ => ?_)
          refine g_ialdB dX7_tryRow_39 sh_23 (by omega) (by omega) (m_23 hMh8 _) (fun v12 ev12 bv12 cv12 => ?_)
          refine g_icmp_ne 57 dX7_tryRow_40 (by decide) (fun q13 => ?_) (fun q13 => ?_)
          · skip
            refine g_iload dX7_tryRow_57 rfl (fun _ => ?_)
            refine g_iload dX7_tryRow_59 rfl (fun _ => ?_)
            refine g_icmp_ge 74 dX7_tryRow_61 (by decide) (fun q14 => ?_) (fun q14 => ?_)
            · skip
              refine g_iincB dX7_tryRow_74 rfl rfl (by omega) (by omega) ?_
              refine g_goto 15 dX7_tryRow_77 (by decide) ?_
              exact ih15 _ _ hMh8 (Fr.sub hFh8 rfl) (by omega) (by omega) (by omega) (by omega)
            · skip
              refine g_aload_n dX7_tryRow_64 rfl ?_
              refine g_aload_n dX7_tryRow_65 rfl ?_
              refine g_aload_n dX7_tryRow_66 rfl ?_
              refine g_cV (as := []) (c_X9_nextWind_21  h8 hMh8) dX7_tryRow_67 mi_X9_nextWind in_X9_nextWind se_X9_nextWind ml_X7_91 rfl rfl rfl sh_21 rfl rfl (Nat.le_of_ble_eq_true rfl) (fun v15 h16 q17 => ?_)
              obtain ⟨hMh16, hFh16, bv15, cv15⟩ := q17
              refine g_cV (as := [_, _]) (c_X9_passHour_21_90 _ h16 hMh16 (by omega) (by omega)) dX7_tryRow_70 mi_X9_passHour in_X9_passHour se_X9_passHour ml_X7_94 rfl rfl rfl sh_21 rfl rfl (Nat.le_of_ble_eq_true rfl) (fun v18 h19 q20 => ?_)
              obtain ⟨hMh19, hFh19, bv18, cv18⟩ := q20
              refine g_pop dX7_tryRow_73 rfl ?_
              refine g_iincB dX7_tryRow_74 rfl rfl (by omega) (by omega) ?_
              refine g_goto 15 dX7_tryRow_77 (by decide) ?_
              exact ih15 _ _ hMh19 (Fr.tr (Fr.tr (Fr.sub hFh8 rfl) hFh16 rfl) hFh19 rfl) (by omega) (by omega) (by omega) (by omega)
          · skip
            refine g_aload_n dX7_tryRow_43 rfl ?_
            refine g_iload dX7_tryRow_44 rfl (fun _ => ?_)
            have q21 : h8 67 0 = v1 := ((hFh8 67 0 rfl).trans ev1.symm)
            refine g_aload_n dX7_tryRow_46 rfl ?_
            refine gR_X7_77 rfl dX7_tryRow_47 sh_21 (b := 32) (m_21_2 hMh8) ?_
            refine g_cVP (as := []) (c_X4_allBruises_32  h8 hMh8) dX7_tryRow_50 mi_X4_allBruises in_X4_allBruises se_X4_allBruises ml_X7_81 rfl rfl rfl sh_32 rfl rfl (Nat.le_of_ble_eq_true rfl) (fun v22 q23 => ?_)
            obtain ⟨bv22, cv22⟩ := q23
            refine g_cVV (as := [_, _]) (c_X7_take_67 _ _ h8 hMh8 (by omega) (by omega) (by omega) (by omega)) dX7_tryRow_53 mi_X7_take in_X7_take se_X7_take ml_X7_87 rfl rfl rfl sh_67 rfl rfl (Nat.le_of_ble_eq_true rfl) (fun h24 q25 => ?_)
            obtain ⟨hMh24, hFh24, zh24⟩ := q25
            obtain ⟨v26, ev26⟩ : ∃ z, z = h24 67 0 := ⟨_, rfl⟩
            have bv26 : -2147483648 ≤ v26 ∧ v26 ≤ 2147483647 := by rw [ev26]; exact (m_67_0 hMh24)
            exact g_return dX7_tryRow_56 rfl (hPo _ ⟨hMh24, (Fr.tr (Fr.sub hFh8 rfl) hFh24 rfl), (by omega)⟩)
    refine g_istore dX7_tryRow_13 (by decide) rfl ?_
    exact c15 22 _ _ hM Fr.rf (by omega) (by omega) (by omega) (by omega)
  · skip
    refine g_if_ne 12 dX7_tryRow_8 (by decide) (fun _ => by exfalso; omega) (fun q27 => ?_)
    have q28 : h 67 0 = v1 := ev1.symm
    exact g_return dX7_tryRow_11 rfl (hPo _ ⟨hM, Fr.rf, (by omega)⟩)
set_option maxRecDepth 100000 in
set_option maxHeartbeats 4000000 in
theorem c_X7_search_67_1_21_90 (x1 x2 x3 : Int) (h : MEM) (hM : MBx h) (bx1 : -2147483648 ≤ x1) (dx1 : x1 ≤ 2147483647) (bx2 : 0 ≤ x2) (dx2 : x2 ≤ 9) (bx3 : 1 ≤ x3) (dx3 : x3 ≤ 20) : CV yX7_search cX7_search 9 (none) 7 [pR 67, pR 1, pR 21, pR 90, pI x1, pI x2, pI x3] h (fun h' => MBx h' ∧ Fr [(21, 7), (21, 8), (21, 9), (22, 1), (23, 0), (24, 0), (25, 0), (26, 1), (27, 0), (28, 0), (29, 0), (30, 0), (31, 0), (32, 1), (33, 0), (34, 0), (35, 0), (36, 0), (37, 0), (38, 0), (39, 0), (40, 0), (67, 1), (67, 2), (67, 4), (68, 0), (69, 0), (70, 0), (97, 0)] h h') := by
  refine CV.of (L0 := [some (pR 67), some (pR 1), some (pR 21), some (pR 90), some (pI x1), some (pI x2), some (pI x3), none, none]) rfl (Nat.le_of_ble_eq_true rfl) rfl (fun Po hPo hav => ?_)
  refine g_aload_n dX7_search_0 rfl ?_
  refine g_iconst dX7_search_1 (inR_c rfl) ?_
  refine pI_X7_9 rfl dX7_search_2 sh_67 (fun h1 eh1 => ?_)
  have hFh1 := Fr.st eh1
  have hMh1 := u_67_0 hM eh1 (by omega) (by omega)
  refine g_aload_n dX7_search_5 rfl ?_
  refine g_aload_n dX7_search_6 rfl ?_
  refine g_iload dX7_search_7 rfl (fun _ => ?_)
  refine g_cVV (as := [_, _]) (c_X7_tellWho_67_1 _ h1 hMh1 (by omega) (by omega)) dX7_search_9 mi_X7_tellWho in_X7_tellWho se_X7_tellWho ml_X7_31 rfl rfl rfl sh_67 rfl rfl (Nat.le_of_ble_eq_true rfl) (fun h2 q3 => ?_)
  obtain ⟨hMh2, hFh2⟩ := q3
  refine g_iconst dX7_search_12 (inR_c rfl) ?_
  refine g_istore dX7_search_13 (by decide) rfl ?_
  refine g_iconst dX7_search_15 (inR_c rfl) ?_
  have c18 : ∀ (n : Nat) (y4 y5 : Int) (h6 : MEM), MBx h6 → Fr [(70, 0)] h2 h6 → 0 ≤ y4 → y4 ≤ 100000000 → 0 ≤ y5 → y5 ≤ 3 → y5 ≤ 3 → (-1) * y4 ≤ 0 → PW y4 y5 → 3 - y5 < (n : Int) → G yX7_search cX7_search 9 (none) none Po (7, 420, 0, 0) 18 [some (pR 67), some (pR 1), some (pR 21), some (pR 90), none, some (pI x2), some (pI x3), some (pI y4), some (pI y5)] [] SH h6 0 0 := by
    intro n
    induction n with
    | zero =>
      intro y4 y5 h6 hMh6 hFh6 by4 dy4 by5 dy5 li18_0 li18_1 e18_0 hn
      exfalso; omega
    | succ n ih18 =>
      intro y4 y5 h6 hMh6 hFh6 by4 dy4 by5 dy5 li18_0 li18_1 e18_0 hn
      refine g_iload dX7_search_18 rfl (fun _ => ?_)
      refine g_aload_n dX7_search_20 rfl ?_
      refine gI_X7_22 rfl dX7_search_21 sh_67 (m_67_3 hMh6) (fun v7 ev7 bv7 cv7 => ?_)
      refine g_icmp_ge 53 dX7_search_24 (by decide) (fun q8 => ?_) (fun q8 => ?_)
      · skip
        refine g_iconst dX7_search_53 (inR_c rfl) ?_
        have c56 : ∀ (n : Nat) (y9 : Int) (h10 : MEM), MBx h10 → Fr [(21, 7), (21, 8), (21, 9), (22, 1), (23, 0), (24, 0), (25, 0), (26, 1), (27, 0), (28, 0), (29, 0), (30, 0), (31, 0), (32, 1), (33, 0), (34, 0), (35, 0), (36, 0), (37, 0), (38, 0), (39, 0), (40, 0), (67, 1), (67, 2), (68, 0), (70, 0), (97, 0)] h6 h10 → 0 ≤ y9 → y9 ≤ 100000000 → y9 + (-1) * y4 ≤ 0 → -1 ≤ h10 67 0 → h10 67 0 ≤ 20 → 100000000 - y9 < (n : Int) → G yX7_search cX7_search 9 (none) none Po (7, 420, 0, 0) 56 [some (pR 67), some (pR 1), some (pR 21), some (pR 90), none, some (pI x2), some (pI x3), some (pI y4), some (pI y9)] [] SH h10 0 0 := by
          intro n
          induction n with
          | zero =>
            intro y9 h10 hMh10 hFh10 by9 dy9 li56_0 e56_0 e56_1 hn
            exfalso; omega
          | succ n ih56 =>
            intro y9 h10 hMh10 hFh10 by9 dy9 li56_0 e56_0 e56_1 hn
            refine g_iload dX7_search_56 rfl (fun _ => ?_)
            refine g_iload dX7_search_58 rfl (fun _ => ?_)
            refine g_icmp_ge 119 dX7_search_60 (by decide) (fun q11 => ?_) (fun q11 => ?_)
            · skip
              exact g_return dX7_search_119 rfl (hPo _ ⟨hMh10, (Fr.tr (Fr.tr (Fr.tr (Fr.sub hFh1 rfl) hFh2 rfl) hFh6 rfl) hFh10 rfl)⟩)
            · skip
              refine g_aload_n dX7_search_63 rfl ?_
              obtain ⟨v12, ev12⟩ : ∃ z, z = h10 67 0 := ⟨_, rfl⟩
              have bv12 : -2147483648 ≤ v12 ∧ v12 ≤ 2147483647 := by rw [ev12]; exact (m_67_0 hMh10)
              refine g_aload_n dX7_search_64 rfl ?_
              have q13 : h10 2 0 = h 2 0 := ((hFh10 2 0 rfl).trans ((hFh6 2 0 rfl).trans ((hFh2 2 0 rfl).trans (hFh1 2 0 rfl))))
              obtain ⟨v14, ev14⟩ : ∃ z, z = h10 2 0 := ⟨_, rfl⟩
              have bv14 : 0 ≤ v14 ∧ v14 ≤ 10 := by rw [ev14]; exact (m_2_0 hMh10)
              have q15 : h10 6 0 = h 6 0 := ((hFh10 6 0 rfl).trans ((hFh6 6 0 rfl).trans ((hFh2 6 0 rfl).trans (hFh1 6 0 rfl))))
              obtain ⟨v16, ev16⟩ : ∃ z, z = h10 6 0 := ⟨_, rfl⟩
              have bv16 : 0 ≤ v16 ∧ v16 ≤ 8 := by rw [ev16]; exact (m_6_0 hMh10)
              have q17 : h10 12 0 = h 12 0 := ((hFh10 12 0 rfl).trans ((hFh6 12 0 rfl).trans ((hFh2 12 0 rfl).trans (hFh1 12 0 rfl))))
              obtain ⟨v18, ev18⟩ : ∃ z, z = h10 12 0 := ⟨_, rfl⟩
              have bv18 : 0 ≤ v18 ∧ v18 ≤ 8 := by rw [ev18]; exact (m_12_0 hMh10)
              refine g_cVV (as := [_]) (c_X9_copyFrom_21_1  h10 hMh10) dX7_search_65 mi_X9_copyFrom in_X9_copyFrom se_X9_copyFrom ml_X7_44 rfl rfl rfl sh_21 rfl rfl (Nat.le_of_ble_eq_true rfl) (fun h19 q20 => ?_)
              obtain ⟨hMh19, hFh19, z21, z22, z23⟩ := q20
              have kz21 : h19 22 0 = v14 := by omega
              have kz22 : h19 26 0 = v16 := by omega
              have kz23 : h19 32 0 = v18 := by omega
              refine g_aload_n dX7_search_68 rfl ?_
              refine g_aload_n dX7_search_69 rfl ?_
              refine g_aload_n dX7_search_70 rfl ?_
              refine gR_X7_28 rfl dX7_search_71 sh_67 (b := 70) (m_67_5 hMh19) ?_
              refine g_cVV (as := [_, _]) (c_X7_placeOn_67_21_70  h19 hMh19) dX7_search_74 mi_X7_placeOn in_X7_placeOn se_X7_placeOn ml_X7_48 rfl rfl rfl sh_67 rfl rfl (Nat.le_of_ble_eq_true rfl) (fun h24 q25 => ?_)
              obtain ⟨hMh24, hFh24⟩ := q25
              refine g_aload_n dX7_search_77 rfl ?_
              refine g_aload_n dX7_search_78 rfl ?_
              refine g_aload_n dX7_search_79 rfl ?_
              refine g_iload dX7_search_80 rfl (fun _ => ?_)
              have q26 : h24 67 0 = v12 := ((hFh24 67 0 rfl).trans ((hFh19 67 0 rfl).trans ev12.symm))
              refine g_aload_n dX7_search_82 rfl ?_
              refine gE_X7_9 rfl dX7_search_83 sh_67 ((hFh24 67 0 rfl).trans ((hFh19 67 0 rfl).trans ev12.symm)) ?_
              have a83 : -1 ≤ v12 ∧ v12 ≤ 20 := (by omega)
              refine g_iconst dX7_search_86 (inR_c rfl) ?_
              refine g_icmp_ne 95 dX7_search_87 (by decide) (fun q27 => ?_) (fun q27 => ?_)
              · skip
                refine g_aload_n dX7_search_95 rfl ?_
                refine gE_X7_9 rfl dX7_search_96 sh_67 ((hFh24 67 0 rfl).trans ((hFh19 67 0 rfl).trans ev12.symm)) ?_
                refine g_cVV (as := [_, _, _, _]) (c_X7_tryRow_67_21_90 _ _ h24 hMh24 (by omega) (by omega) (by omega) (by omega)) dX7_search_99 mi_X7_tryRow in_X7_tryRow se_X7_tryRow ml_X7_52 rfl rfl rfl sh_67 rfl rfl (Nat.le_of_ble_eq_true rfl) (fun h28 q29 => ?_)
                obtain ⟨hMh28, hFh28, zh28⟩ := q29
                refine g_aload_n dX7_search_102 rfl ?_
                refine g_aload_n dX7_search_103 rfl ?_
                refine gR_X7_35 rfl dX7_search_104 sh_1 (b := 2) (m_1_0 hMh28) ?_
                refine gE_X7_41 rfl dX7_search_107 sh_2 ((hFh28 2 0 rfl).trans ((hFh24 2 0 rfl).trans ((hFh19 2 0 rfl).trans ev14.symm))) ?_
                refine g_cVV (as := [_]) (c_X7_stepRow_67 _ h28 hMh28 (by omega) (by omega)) dX7_search_110 mi_X7_stepRow in_X7_stepRow se_X7_stepRow ml_X7_56 rfl rfl rfl sh_67 rfl rfl (Nat.le_of_ble_eq_true rfl) (fun h30 q31 => ?_)
                obtain ⟨hMh30, hFh30⟩ := q31
                refine g_iincB dX7_search_113 rfl rfl (by omega) (by omega) ?_
                refine g_goto 56 dX7_search_116 (by decide) ?_
                have q32 : h30 67 0 = h28 67 0 := (hFh30 67 0 rfl)
                obtain ⟨v33, ev33⟩ : ∃ z, z = h30 67 0 := ⟨_, rfl⟩
                have bv33 : -2147483648 ≤ v33 ∧ v33 ≤ 2147483647 := by rw [ev33]; exact (m_67_0 hMh30)
                exact ih56 _ _ hMh30 (Fr.tr (Fr.tr (Fr.tr (Fr.tr (Fr.sub hFh10 rfl) hFh19 rfl) hFh24 rfl) hFh28 rfl) hFh30 rfl) (by omega) (by omega) (by omega) (by omega) (by omega) (by omega)
              · skip
                refine g_iload dX7_search_90 rfl (fun _ => ?_)
                refine g_goto 99 dX7_search_92 (by decide) ?_
                refine g_cVV (as := [_, _, _, _]) (c_X7_tryRow_67_21_90 _ _ h24 hMh24 (by omega) (by omega) (by omega) (by omega)) dX7_search_99 mi_X7_tryRow in_X7_tryRow se_X7_tryRow ml_X7_52 rfl rfl rfl sh_67 rfl rfl (Nat.le_of_ble_eq_true rfl) (fun h34 q35 => ?_)
                obtain ⟨hMh34, hFh34, zh34⟩ := q35
                refine g_aload_n dX7_search_102 rfl ?_
                refine g_aload_n dX7_search_103 rfl ?_
                refine gR_X7_35 rfl dX7_search_104 sh_1 (b := 2) (m_1_0 hMh34) ?_
                refine gE_X7_41 rfl dX7_search_107 sh_2 ((hFh34 2 0 rfl).trans ((hFh24 2 0 rfl).trans ((hFh19 2 0 rfl).trans ev14.symm))) ?_
                refine g_cVV (as := [_]) (c_X7_stepRow_67 _ h34 hMh34 (by omega) (by omega)) dX7_search_110 mi_X7_stepRow in_X7_stepRow se_X7_stepRow ml_X7_56 rfl rfl rfl sh_67 rfl rfl (Nat.le_of_ble_eq_true rfl) (fun h36 q37 => ?_)
                obtain ⟨hMh36, hFh36⟩ := q37
                refine g_iincB dX7_search_113 rfl rfl (by omega) (by omega) ?_
                refine g_goto 56 dX7_search_116 (by decide) ?_
                have q38 : h36 67 0 = h34 67 0 := (hFh36 67 0 rfl)
                obtain ⟨v39, ev39⟩ : ∃ z, z = h36 67 0 := ⟨_, rfl⟩
                have bv39 : -2147483648 ≤ v39 ∧ v39 ≤ 2147483647 := by rw [ev39]; exact (m_67_0 hMh36)
                exact ih56 _ _ hMh36 (Fr.tr (Fr.tr (Fr.tr (Fr.tr (Fr.sub hFh10 rfl) hFh19 rfl) hFh24 rfl) hFh34 rfl) hFh36 rfl) (by omega) (by omega) (by omega) (by omega) (by omega) (by omega)
        refine g_istore dX7_search_54 (by decide) rfl ?_
        have q40 : h6 67 0 = (-1) := ((hFh6 67 0 rfl).trans ((hFh2 67 0 rfl).trans (st_at eh1)))
        exact c56 100000001 _ _ hMh6 Fr.rf (by omega) (by omega) (by omega) (by omega) (by omega) (by omega)
      · skip
        refine g_iload dX7_search_27 rfl (fun _ => ?_)
        have al41 : 0 ≤ y4 ∧ y4 ≤ 10000000 := ⟨by omega, PW_b e18_0 (by omega) (by omega)⟩
        refine g_aload_n dX7_search_29 rfl ?_
        refine gR_X7_35 rfl dX7_search_30 sh_1 (b := 2) (m_1_0 hMh6) ?_
        refine gI_X7_41 rfl dX7_search_33 sh_2 (m_2_0 hMh6) (fun v42 ev42 bv42 cv42 => ?_)
        refine g_imulQ dX7_search_36 (A := 0) (B := 10000000) (A2 := 0) (B2 := 10) (by omega) (by omega) (by omega) (by omega) (by decide) (by decide) (by decide) (fun v43 mv43 bv43 cv43 => ?_)
        refine g_istore dX7_search_37 (by decide) rfl ?_
        refine g_aload_n dX7_search_39 rfl ?_
        refine gR_X7_28 rfl dX7_search_40 sh_67 (b := 70) (m_67_5 hMh6) ?_
        refine g_iload dX7_search_43 rfl (fun _ => ?_)
        refine g_iconst dX7_search_45 (inR_c rfl) ?_
        refine g_iastB dX7_search_46 sh_70 (by omega) (by omega) (fun h44 eh44 => ?_)
        have hFh44 := Fr.ar eh44
        have hMh44 := u_70 hMh6 eh44 (by omega) (by omega)
        refine g_iincB dX7_search_47 rfl rfl (by omega) (by omega) ?_
        refine g_goto 18 dX7_search_50 (by decide) ?_
        exact ih18 _ _ _ hMh44 (Fr.tr (Fr.sub hFh6 rfl) hFh44 rfl) (by omega) (by omega) (by omega) (by omega) (by omega) (by omega) (by first | exact PW_0 | exact PW_t e18_0 (by omega) (by omega) (by omega) (by omega) (by assumption)) (by omega)
  refine g_istore dX7_search_16 (by decide) rfl ?_
  refine g_drop 4 ?_
  exact c18 4 _ _ _ hMh2 Fr.rf (by omega) (by omega) (by omega) (by omega) (by omega) (by omega) (by first | exact PW_0 | exact PW_t e18_0 (by omega) (by omega) (by omega) (by omega) (by assumption)) (by omega)
set_option maxRecDepth 100000 in
set_option maxHeartbeats 4000000 in
theorem c_X11_set_0 (x1 x2 x3 x4 : Int) (h : MEM) (hM : MBx h) (bx1 : -2147483648 ≤ x1) (dx1 : x1 ≤ 2147483647) (bx2 : -2147483648 ≤ x2) (dx2 : x2 ≤ 2147483647) (bx3 : -2147483648 ≤ x3) (dx3 : x3 ≤ 2147483647) (bx4 : -2147483648 ≤ x4) (dx4 : x4 ≤ 2147483647) (f_LD : LD h) : CI yX11_set cX11_set 6 (some .int) 8 [pR 0, pI x1, pI x2, pI x3, pI x4] h (fun x h' => MBx h' ∧ Fr [(7, 0), (21, 7), (21, 8), (21, 9), (22, 1), (23, 0), (24, 0), (25, 0), (26, 1), (27, 0), (28, 0), (29, 0), (30, 0), (31, 0), (32, 1), (33, 0), (34, 0), (35, 0), (36, 0), (37, 0), (38, 0), (39, 0), (40, 0), (67, 1), (67, 2), (67, 4), (68, 0), (69, 0), (70, 0), (89, 0), (97, 0)] h h' ∧ -2147483648 ≤ x ∧ x ≤ 2147483647) := by
  refine CI.of (L0 := [some (pR 0), some (pI x1), some (pI x2), some (pI x3), some (pI x4), none]) rfl (Nat.le_of_ble_eq_true rfl) rfl (fun Po hPo hav => ?_)
  rcases id f_LD with ⟨er0_10, er0_11⟩ | ⟨er0_10, er0_11⟩
  · skip
    refine g_aload_n dX11_set_0 rfl ?_
    refine gR_X11_10 rfl dX11_set_1 sh_0 (b := 1) (m_0_0 hM) ?_
    refine gR_X11_95 rfl dX11_set_4 sh_1 (b := 6) (m_1_1 hM) ?_
    refine g_iload dX11_set_7 rfl (fun _ => ?_)
    refine g_cVP (as := [_]) (c_X0_has_6 _ h hM (by omega) (by omega)) dX11_set_9 mi_X0_has in_X0_has se_X0_has ml_X11_113 rfl rfl rfl sh_6 rfl rfl (Nat.le_of_ble_eq_true rfl) (fun v1 q2 => ?_)
    obtain ⟨v3, ev3⟩ : ∃ z, z = h 6 0 := ⟨_, rfl⟩
    have bv3 : 0 ≤ v3 ∧ v3 ≤ 8 := by rw [ev3]; exact (m_6_0 hM)
    rcases q2 with ⟨rfl, q2⟩ | ⟨rfl, q2⟩
    · skip
      have c30 : ∀ (y4 : Int) , 0 ≤ y4 → y4 ≤ 1 → G yX11_set cX11_set 6 (some .int) none Po (8, 480, 0, 0) 30 [some (pR 0), some (pI x1), some (pI x2), some (pI x3), some (pI x4), none] [(pI y4)] SH h 0 0 := by
        intro y4 by4 dy4
        refine g_istore dX11_set_30 (by decide) rfl ?_
        refine g_aload_n dX11_set_32 rfl ?_
        refine g_iload_n dX11_set_33 rfl (fun _ => ?_)
        refine g_cVP (as := [_]) (c_X11_areTold_0 _ h hM (by omega) (by omega)) dX11_set_34 mi_X11_areTold in_X11_areTold se_X11_areTold ml_X11_216 rfl rfl rfl sh_0 rfl rfl (Nat.le_of_ble_eq_true rfl) (fun v5 q6 => ?_)
        obtain ⟨bv5, cv5⟩ := q6
        refine g_if_eq 81 dX11_set_37 (by decide) (fun q7 => ?_) (fun q7 => ?_)
        · skip
          refine g_iconst dX11_set_81 (inR_c rfl) ?_
          exact g_ireturn dX11_set_82 retI (hPo _ _ ⟨hM, Fr.rf, (by omega), (by omega)⟩)
        · skip
          refine g_aload_n dX11_set_40 rfl ?_
          refine gR_X11_10 rfl dX11_set_41 sh_0 (b := 1) (m_0_0 hM) ?_
          refine gR_X11_85 rfl dX11_set_44 sh_1 (b := 2) (m_1_0 hM) ?_
          refine g_iload_n dX11_set_47 rfl (fun _ => ?_)
          refine g_cVP (as := [_]) (c_X6_has_2 _ h hM (by omega) (by omega)) dX11_set_48 mi_X6_has in_X6_has se_X6_has ml_X11_159 rfl rfl rfl sh_2 rfl rfl (Nat.le_of_ble_eq_true rfl) (fun v8 q9 => ?_)
          obtain ⟨v10, ev10⟩ : ∃ z, z = h 2 0 := ⟨_, rfl⟩
          have bv10 : 0 ≤ v10 ∧ v10 ≤ 10 := by rw [ev10]; exact (m_2_0 hM)
          rcases q9 with ⟨rfl, q9⟩ | ⟨rfl, q9⟩
          · skip
            refine g_if_eq 81 dX11_set_51 (by decide) (fun _ => by exfalso; omega) (fun q11 => ?_)
            refine g_iload_n dX11_set_54 rfl (fun _ => ?_)
            refine g_iconst dX11_set_55 (inR_c rfl) ?_
            refine g_bipush dX11_set_56 (inR_c rfl) (by decide) ?_
            refine g_cSP (av := [_, _, _]) (c_X11_isWithin _ _ _ h hM (by omega) (by omega) (by omega) (by omega) (by omega) (by omega)) dX11_set_58 mi_X11_isWithin st_X11_isWithin ml_X11_81 rfl rfl rfl rfl (Nat.le_of_ble_eq_true rfl) (fun v12 q13 => ?_)
            rcases q13 with ⟨rfl, q13⟩ | ⟨rfl, q13⟩
            · skip
              refine g_if_eq 81 dX11_set_61 (by decide) (fun _ => by exfalso; omega) (fun q14 => ?_)
              refine g_iload dX11_set_64 rfl (fun _ => ?_)
              refine g_bipush dX11_set_66 (inR_c rfl) (by decide) ?_
              refine g_bipush dX11_set_68 (inR_c rfl) (by decide) ?_
              refine g_cSP (av := [_, _, _]) (c_X11_isWithin _ _ _ h hM (by omega) (by omega) (by omega) (by omega) (by omega) (by omega)) dX11_set_70 mi_X11_isWithin st_X11_isWithin ml_X11_81 rfl rfl rfl rfl (Nat.le_of_ble_eq_true rfl) (fun v15 q16 => ?_)
              rcases q16 with ⟨rfl, q16⟩ | ⟨rfl, q16⟩
              · skip
                exfalso; omega
              · skip
                have c83 : G yX11_set cX11_set 6 (some .int) none Po (8, 480, 0, 0) 83 [some (pR 0), some (pI x1), some (pI x2), some (pI x3), some (pI x4), some (pI y4)] [] SH h 0 0 := by
                  refine g_aload_n dX11_set_83 rfl ?_
                  refine gR_X11_42 rfl dX11_set_84 sh_0 (b := 67) (m_0_6 hM) ?_
                  refine g_aload_n dX11_set_87 rfl ?_
                  refine gR_X11_10 rfl dX11_set_88 sh_0 (b := 1) (m_0_0 hM) ?_
                  refine g_aload_n dX11_set_91 rfl ?_
                  refine gR_X11_16 rfl dX11_set_92 sh_0 (b := 21) (m_0_1 hM) ?_
                  refine g_aload_n dX11_set_95 rfl ?_
                  refine gR_X11_70 rfl dX11_set_96 sh_0 (b := 82) er0_10 ?_
                  refine g_iload_n dX11_set_99 rfl (fun _ => ?_)
                  refine g_iload_n dX11_set_100 rfl (fun _ => ?_)
                  refine g_iload_n dX11_set_101 rfl (fun _ => ?_)
                  refine g_cVV (as := [_, _, _, _, _, _]) (c_X7_search_67_1_21_82 _ _ _ h hM (by omega) (by omega) (by omega) (by omega) (by omega) (by omega)) dX11_set_102 mi_X7_search in_X7_search se_X7_search ml_X11_219 rfl rfl rfl sh_67 rfl rfl (Nat.le_of_ble_eq_true rfl) (fun h17 q18 => ?_)
                  obtain ⟨hMh17, hFh17⟩ := q18
                  refine g_aload_n dX11_set_105 rfl ?_
                  refine gR_X11_42 rfl dX11_set_106 sh_0 (b := 67) (m_0_6 hMh17) ?_
                  refine gI_X11_223 rfl dX11_set_109 sh_67 (m_67_0 hMh17) (fun v19 ev19 bv19 cv19 => ?_)
                  refine g_iconst dX11_set_112 (inR_c rfl) ?_
                  refine g_icmp_ne 119 dX11_set_113 (by decide) (fun q20 => ?_) (fun q20 => ?_)
                  · skip
                    refine g_iload dX11_set_119 rfl (fun _ => ?_)
                    refine g_bipush dX11_set_121 (inR_c rfl) (by decide) ?_
                    have c144 : ∀ (h21 : MEM), MBx h21 → Fr [(7, 0)] h17 h21 → G yX11_set cX11_set 6 (some .int) none Po (8, 480, 0, 0) 144 [some (pR 0), none, none, none, some (pI x4), some (pI y4)] [] SH h21 0 0 := by
                      intro h21 hMh21 hFh21
                      refine g_iload dX11_set_144 rfl (fun _ => ?_)
                      refine g_bipush dX11_set_146 (inR_c rfl) (by decide) ?_
                      refine g_icmp_ne 159 dX11_set_148 (by decide) (fun q22 => ?_) (fun _ => by exfalso; omega)
                      refine g_iload dX11_set_159 rfl (fun _ => ?_)
                      refine g_if_eq 176 dX11_set_161 (by decide) (fun q23 => ?_) (fun q23 => ?_)
                      · skip
                        refine g_aload_n dX11_set_176 rfl ?_
                        refine gR_X11_42 rfl dX11_set_177 sh_0 (b := 67) (m_0_6 hMh21) ?_
                        refine gE_X11_223 rfl dX11_set_180 sh_67 ((hFh21 67 0 rfl).trans ev19.symm) ?_
                        exact g_ireturn dX11_set_183 retI (hPo _ _ ⟨hMh21, (Fr.tr (Fr.sub hFh17 rfl) hFh21 rfl), (by omega), (by omega)⟩)
                      · skip
                        refine g_aload_n dX11_set_164 rfl ?_
                        refine gR_X11_42 rfl dX11_set_165 sh_0 (b := 67) (m_0_6 hMh21) ?_
                        refine g_iload dX11_set_168 rfl (fun _ => ?_)
                        refine g_cVP (as := [_]) (c_X7_roofOf_67 _ h21 hMh21 (by omega) (by omega)) dX11_set_170 mi_X7_roofOf in_X7_roofOf se_X7_roofOf ml_X11_235 rfl rfl rfl sh_67 rfl rfl (Nat.le_of_ble_eq_true rfl) (fun v24 q25 => ?_)
                        obtain ⟨bv24, cv24⟩ := q25
                        refine g_goto 183 dX11_set_173 (by decide) ?_
                        exact g_ireturn dX11_set_183 retI (hPo _ _ ⟨hMh21, (Fr.tr (Fr.sub hFh17 rfl) hFh21 rfl), (by omega), (by omega)⟩)
                    refine g_icmp_ne 144 dX11_set_123 (by decide) (fun q26 => ?_) (fun _ => by exfalso; omega)
                    refine g_drop 1 ?_
                    refine g_drop 2 ?_
                    refine g_drop 3 ?_
                    exact c144 _ hMh17 Fr.rf
                  · skip
                    refine g_bipush dX11_set_116 (inR_c rfl) (by decide) ?_
                    exact g_ireturn dX11_set_118 retI (hPo _ _ ⟨hMh17, (Fr.sub hFh17 rfl), (by omega), (by omega)⟩)
                refine g_if_ne 83 dX11_set_73 (by decide) (fun _ => by exfalso; omega) (fun q27 => ?_)
                refine g_iload dX11_set_76 rfl (fun _ => ?_)
                refine g_if_ne 83 dX11_set_78 (by decide) (fun q28 => ?_) (fun q28 => ?_)
                · skip
                  exact c83 
                · skip
                  refine g_iconst dX11_set_81 (inR_c rfl) ?_
                  exact g_ireturn dX11_set_82 retI (hPo _ _ ⟨hM, Fr.rf, (by omega), (by omega)⟩)
            · skip
              refine g_if_eq 81 dX11_set_61 (by decide) (fun q29 => ?_) (fun _ => by exfalso; omega)
              refine g_iconst dX11_set_81 (inR_c rfl) ?_
              exact g_ireturn dX11_set_82 retI (hPo _ _ ⟨hM, Fr.rf, (by omega), (by omega)⟩)
          · skip
            refine g_if_eq 81 dX11_set_51 (by decide) (fun q30 => ?_) (fun _ => by exfalso; omega)
            refine g_iconst dX11_set_81 (inR_c rfl) ?_
            exact g_ireturn dX11_set_82 retI (hPo _ _ ⟨hM, Fr.rf, (by omega), (by omega)⟩)
      have c29 : G yX11_set cX11_set 6 (some .int) none Po (8, 480, 0, 0) 29 [some (pR 0), some (pI x1), some (pI x2), some (pI x3), some (pI x4), none] [] SH h 0 0 := by
        refine g_iconst dX11_set_29 (inR_c rfl) ?_
        exact c30 _ (by omega) (by omega)
      refine g_if_eq 29 dX11_set_12 (by decide) (fun _ => by exfalso; omega) (fun q31 => ?_)
      refine g_iload_n dX11_set_15 rfl (fun _ => ?_)
      refine g_iload dX11_set_16 rfl (fun _ => ?_)
      refine g_ishrF dX11_set_18 (fun v32 ev32 bv32 cv32 => ?_)
      refine g_iconst dX11_set_19 (inR_c rfl) ?_
      refine g_iandX (lo := 0) (hi := 1) dX11_set_20 (iand_r (by omega) (by omega)) (fun v33 ev33 bv33 cv33 => ?_)
      refine g_iconst dX11_set_21 (inR_c rfl) ?_
      refine g_icmp_ne 29 dX11_set_22 (by decide) (fun q34 => ?_) (fun q34 => ?_)
      · skip
        exact c29 
      · skip
        refine g_iconst dX11_set_25 (inR_c rfl) ?_
        refine g_goto 30 dX11_set_26 (by decide) ?_
        exact c30 _ (by omega) (by omega)
    · skip
      have c30 : ∀ (y35 : Int) , 0 ≤ y35 → y35 ≤ 1 → G yX11_set cX11_set 6 (some .int) none Po (8, 480, 0, 0) 30 [some (pR 0), some (pI x1), some (pI x2), some (pI x3), some (pI x4), none] [(pI y35)] SH h 0 0 := by
        intro y35 by35 dy35
        refine g_istore dX11_set_30 (by decide) rfl ?_
        refine g_aload_n dX11_set_32 rfl ?_
        refine g_iload_n dX11_set_33 rfl (fun _ => ?_)
        refine g_cVP (as := [_]) (c_X11_areTold_0 _ h hM (by omega) (by omega)) dX11_set_34 mi_X11_areTold in_X11_areTold se_X11_areTold ml_X11_216 rfl rfl rfl sh_0 rfl rfl (Nat.le_of_ble_eq_true rfl) (fun v36 q37 => ?_)
        obtain ⟨bv36, cv36⟩ := q37
        refine g_if_eq 81 dX11_set_37 (by decide) (fun q38 => ?_) (fun q38 => ?_)
        · skip
          refine g_iconst dX11_set_81 (inR_c rfl) ?_
          exact g_ireturn dX11_set_82 retI (hPo _ _ ⟨hM, Fr.rf, (by omega), (by omega)⟩)
        · skip
          refine g_aload_n dX11_set_40 rfl ?_
          refine gR_X11_10 rfl dX11_set_41 sh_0 (b := 1) (m_0_0 hM) ?_
          refine gR_X11_85 rfl dX11_set_44 sh_1 (b := 2) (m_1_0 hM) ?_
          refine g_iload_n dX11_set_47 rfl (fun _ => ?_)
          refine g_cVP (as := [_]) (c_X6_has_2 _ h hM (by omega) (by omega)) dX11_set_48 mi_X6_has in_X6_has se_X6_has ml_X11_159 rfl rfl rfl sh_2 rfl rfl (Nat.le_of_ble_eq_true rfl) (fun v39 q40 => ?_)
          obtain ⟨v41, ev41⟩ : ∃ z, z = h 2 0 := ⟨_, rfl⟩
          have bv41 : 0 ≤ v41 ∧ v41 ≤ 10 := by rw [ev41]; exact (m_2_0 hM)
          rcases q40 with ⟨rfl, q40⟩ | ⟨rfl, q40⟩
          · skip
            refine g_if_eq 81 dX11_set_51 (by decide) (fun _ => by exfalso; omega) (fun q42 => ?_)
            refine g_iload_n dX11_set_54 rfl (fun _ => ?_)
            refine g_iconst dX11_set_55 (inR_c rfl) ?_
            refine g_bipush dX11_set_56 (inR_c rfl) (by decide) ?_
            refine g_cSP (av := [_, _, _]) (c_X11_isWithin _ _ _ h hM (by omega) (by omega) (by omega) (by omega) (by omega) (by omega)) dX11_set_58 mi_X11_isWithin st_X11_isWithin ml_X11_81 rfl rfl rfl rfl (Nat.le_of_ble_eq_true rfl) (fun v43 q44 => ?_)
            rcases q44 with ⟨rfl, q44⟩ | ⟨rfl, q44⟩
            · skip
              refine g_if_eq 81 dX11_set_61 (by decide) (fun _ => by exfalso; omega) (fun q45 => ?_)
              refine g_iload dX11_set_64 rfl (fun _ => ?_)
              refine g_bipush dX11_set_66 (inR_c rfl) (by decide) ?_
              refine g_bipush dX11_set_68 (inR_c rfl) (by decide) ?_
              refine g_cSP (av := [_, _, _]) (c_X11_isWithin _ _ _ h hM (by omega) (by omega) (by omega) (by omega) (by omega) (by omega)) dX11_set_70 mi_X11_isWithin st_X11_isWithin ml_X11_81 rfl rfl rfl rfl (Nat.le_of_ble_eq_true rfl) (fun v46 q47 => ?_)
              rcases q47 with ⟨rfl, q47⟩ | ⟨rfl, q47⟩
              · skip
                have c83 : G yX11_set cX11_set 6 (some .int) none Po (8, 480, 0, 0) 83 [some (pR 0), some (pI x1), some (pI x2), some (pI x3), some (pI x4), some (pI y35)] [] SH h 0 0 := by
                  refine g_aload_n dX11_set_83 rfl ?_
                  refine gR_X11_42 rfl dX11_set_84 sh_0 (b := 67) (m_0_6 hM) ?_
                  refine g_aload_n dX11_set_87 rfl ?_
                  refine gR_X11_10 rfl dX11_set_88 sh_0 (b := 1) (m_0_0 hM) ?_
                  refine g_aload_n dX11_set_91 rfl ?_
                  refine gR_X11_16 rfl dX11_set_92 sh_0 (b := 21) (m_0_1 hM) ?_
                  refine g_aload_n dX11_set_95 rfl ?_
                  refine gR_X11_70 rfl dX11_set_96 sh_0 (b := 82) er0_10 ?_
                  refine g_iload_n dX11_set_99 rfl (fun _ => ?_)
                  refine g_iload_n dX11_set_100 rfl (fun _ => ?_)
                  refine g_iload_n dX11_set_101 rfl (fun _ => ?_)
                  refine g_cVV (as := [_, _, _, _, _, _]) (c_X7_search_67_1_21_82 _ _ _ h hM (by omega) (by omega) (by omega) (by omega) (by omega) (by omega)) dX11_set_102 mi_X7_search in_X7_search se_X7_search ml_X11_219 rfl rfl rfl sh_67 rfl rfl (Nat.le_of_ble_eq_true rfl) (fun h48 q49 => ?_)
                  obtain ⟨hMh48, hFh48⟩ := q49
                  refine g_aload_n dX11_set_105 rfl ?_
                  refine gR_X11_42 rfl dX11_set_106 sh_0 (b := 67) (m_0_6 hMh48) ?_
                  refine gI_X11_223 rfl dX11_set_109 sh_67 (m_67_0 hMh48) (fun v50 ev50 bv50 cv50 => ?_)
                  refine g_iconst dX11_set_112 (inR_c rfl) ?_
                  refine g_icmp_ne 119 dX11_set_113 (by decide) (fun q51 => ?_) (fun q51 => ?_)
                  · skip
                    refine g_iload dX11_set_119 rfl (fun _ => ?_)
                    refine g_bipush dX11_set_121 (inR_c rfl) (by decide) ?_
                    have c144 : ∀ (h52 : MEM), MBx h52 → Fr [(7, 0)] h48 h52 → G yX11_set cX11_set 6 (some .int) none Po (8, 480, 0, 0) 144 [some (pR 0), none, none, none, some (pI x4), some (pI y35)] [] SH h52 0 0 := by
                      intro h52 hMh52 hFh52
                      refine g_iload dX11_set_144 rfl (fun _ => ?_)
                      refine g_bipush dX11_set_146 (inR_c rfl) (by decide) ?_
                      refine g_icmp_ne 159 dX11_set_148 (by decide) (fun q53 => ?_) (fun q53 => ?_)
                      · skip
                        refine g_iload dX11_set_159 rfl (fun _ => ?_)
                        refine g_if_eq 176 dX11_set_161 (by decide) (fun q54 => ?_) (fun q54 => ?_)
                        · skip
                          refine g_aload_n dX11_set_176 rfl ?_
                          refine gR_X11_42 rfl dX11_set_177 sh_0 (b := 67) (m_0_6 hMh52) ?_
                          refine gE_X11_223 rfl dX11_set_180 sh_67 ((hFh52 67 0 rfl).trans ev50.symm) ?_
                          exact g_ireturn dX11_set_183 retI (hPo _ _ ⟨hMh52, (Fr.tr (Fr.sub hFh48 rfl) hFh52 rfl), (by omega), (by omega)⟩)
                        · skip
                          refine g_aload_n dX11_set_164 rfl ?_
                          refine gR_X11_42 rfl dX11_set_165 sh_0 (b := 67) (m_0_6 hMh52) ?_
                          refine g_iload dX11_set_168 rfl (fun _ => ?_)
                          refine g_cVP (as := [_]) (c_X7_roofOf_67 _ h52 hMh52 (by omega) (by omega)) dX11_set_170 mi_X7_roofOf in_X7_roofOf se_X7_roofOf ml_X11_235 rfl rfl rfl sh_67 rfl rfl (Nat.le_of_ble_eq_true rfl) (fun v55 q56 => ?_)
                          obtain ⟨bv55, cv55⟩ := q56
                          refine g_goto 183 dX11_set_173 (by decide) ?_
                          exact g_ireturn dX11_set_183 retI (hPo _ _ ⟨hMh52, (Fr.tr (Fr.sub hFh48 rfl) hFh52 rfl), (by omega), (by omega)⟩)
                      · skip
                        refine g_aload_n dX11_set_151 rfl ?_
                        refine gR_X11_42 rfl dX11_set_152 sh_0 (b := 67) (m_0_6 hMh52) ?_
                        refine gI_X11_233 rfl dX11_set_155 sh_67 (m_67_1 hMh52) (fun v57 ev57 bv57 cv57 => ?_)
                        exact g_ireturn dX11_set_158 retI (hPo _ _ ⟨hMh52, (Fr.tr (Fr.sub hFh48 rfl) hFh52 rfl), (by omega), (by omega)⟩)
                    refine g_icmp_ne 144 dX11_set_123 (by decide) (fun q58 => ?_) (fun q58 => ?_)
                    · skip
                      refine g_drop 1 ?_
                      refine g_drop 2 ?_
                      refine g_drop 3 ?_
                      exact c144 _ hMh48 Fr.rf
                    · skip
                      refine g_aload_n dX11_set_126 rfl ?_
                      refine gR_X11_42 rfl dX11_set_127 sh_0 (b := 67) (m_0_6 hMh48) ?_
                      refine g_aload_n dX11_set_130 rfl ?_
                      refine gR_X11_10 rfl dX11_set_131 sh_0 (b := 1) (m_0_0 hMh48) ?_
                      refine g_aload_n dX11_set_134 rfl ?_
                      refine gR_X11_42 rfl dX11_set_135 sh_0 (b := 67) (m_0_6 hMh48) ?_
                      refine gR_X11_226 rfl dX11_set_138 sh_67 (b := 68) (m_67_2 hMh48) ?_
                      refine g_cVV (as := [_, _]) (c_X7_placeOn_67_1_68  h48 hMh48) dX11_set_141 mi_X7_placeOn in_X7_placeOn se_X7_placeOn ml_X11_229 rfl rfl rfl sh_67 rfl rfl (Nat.le_of_ble_eq_true rfl) (fun h59 q60 => ?_)
                      obtain ⟨hMh59, hFh59⟩ := q60
                      refine g_drop 1 ?_
                      refine g_drop 2 ?_
                      refine g_drop 3 ?_
                      exact c144 _ hMh59 (Fr.sub hFh59 rfl)
                  · skip
                    refine g_bipush dX11_set_116 (inR_c rfl) (by decide) ?_
                    exact g_ireturn dX11_set_118 retI (hPo _ _ ⟨hMh48, (Fr.sub hFh48 rfl), (by omega), (by omega)⟩)
                refine g_if_ne 83 dX11_set_73 (by decide) (fun q61 => ?_) (fun _ => by exfalso; omega)
                exact c83 
              · skip
                have c83 : G yX11_set cX11_set 6 (some .int) none Po (8, 480, 0, 0) 83 [some (pR 0), some (pI x1), some (pI x2), some (pI x3), some (pI x4), some (pI y35)] [] SH h 0 0 := by
                  refine g_aload_n dX11_set_83 rfl ?_
                  refine gR_X11_42 rfl dX11_set_84 sh_0 (b := 67) (m_0_6 hM) ?_
                  refine g_aload_n dX11_set_87 rfl ?_
                  refine gR_X11_10 rfl dX11_set_88 sh_0 (b := 1) (m_0_0 hM) ?_
                  refine g_aload_n dX11_set_91 rfl ?_
                  refine gR_X11_16 rfl dX11_set_92 sh_0 (b := 21) (m_0_1 hM) ?_
                  refine g_aload_n dX11_set_95 rfl ?_
                  refine gR_X11_70 rfl dX11_set_96 sh_0 (b := 82) er0_10 ?_
                  refine g_iload_n dX11_set_99 rfl (fun _ => ?_)
                  refine g_iload_n dX11_set_100 rfl (fun _ => ?_)
                  refine g_iload_n dX11_set_101 rfl (fun _ => ?_)
                  refine g_cVV (as := [_, _, _, _, _, _]) (c_X7_search_67_1_21_82 _ _ _ h hM (by omega) (by omega) (by omega) (by omega) (by omega) (by omega)) dX11_set_102 mi_X7_search in_X7_search se_X7_search ml_X11_219 rfl rfl rfl sh_67 rfl rfl (Nat.le_of_ble_eq_true rfl) (fun h62 q63 => ?_)
                  obtain ⟨hMh62, hFh62⟩ := q63
                  refine g_aload_n dX11_set_105 rfl ?_
                  refine gR_X11_42 rfl dX11_set_106 sh_0 (b := 67) (m_0_6 hMh62) ?_
                  refine gI_X11_223 rfl dX11_set_109 sh_67 (m_67_0 hMh62) (fun v64 ev64 bv64 cv64 => ?_)
                  refine g_iconst dX11_set_112 (inR_c rfl) ?_
                  refine g_icmp_ne 119 dX11_set_113 (by decide) (fun q65 => ?_) (fun q65 => ?_)
                  · skip
                    refine g_iload dX11_set_119 rfl (fun _ => ?_)
                    refine g_bipush dX11_set_121 (inR_c rfl) (by decide) ?_
                    have c144 : ∀ (h66 : MEM), MBx h66 → Fr [(7, 0)] h62 h66 → G yX11_set cX11_set 6 (some .int) none Po (8, 480, 0, 0) 144 [some (pR 0), none, none, none, some (pI x4), some (pI y35)] [] SH h66 0 0 := by
                      intro h66 hMh66 hFh66
                      refine g_iload dX11_set_144 rfl (fun _ => ?_)
                      refine g_bipush dX11_set_146 (inR_c rfl) (by decide) ?_
                      refine g_icmp_ne 159 dX11_set_148 (by decide) (fun q67 => ?_) (fun q67 => ?_)
                      · skip
                        refine g_iload dX11_set_159 rfl (fun _ => ?_)
                        refine g_if_eq 176 dX11_set_161 (by decide) (fun q68 => ?_) (fun q68 => ?_)
                        · skip
                          refine g_aload_n dX11_set_176 rfl ?_
                          refine gR_X11_42 rfl dX11_set_177 sh_0 (b := 67) (m_0_6 hMh66) ?_
                          refine gE_X11_223 rfl dX11_set_180 sh_67 ((hFh66 67 0 rfl).trans ev64.symm) ?_
                          exact g_ireturn dX11_set_183 retI (hPo _ _ ⟨hMh66, (Fr.tr (Fr.sub hFh62 rfl) hFh66 rfl), (by omega), (by omega)⟩)
                        · skip
                          refine g_aload_n dX11_set_164 rfl ?_
                          refine gR_X11_42 rfl dX11_set_165 sh_0 (b := 67) (m_0_6 hMh66) ?_
                          refine g_iload dX11_set_168 rfl (fun _ => ?_)
                          refine g_cVP (as := [_]) (c_X7_roofOf_67 _ h66 hMh66 (by omega) (by omega)) dX11_set_170 mi_X7_roofOf in_X7_roofOf se_X7_roofOf ml_X11_235 rfl rfl rfl sh_67 rfl rfl (Nat.le_of_ble_eq_true rfl) (fun v69 q70 => ?_)
                          obtain ⟨bv69, cv69⟩ := q70
                          refine g_goto 183 dX11_set_173 (by decide) ?_
                          exact g_ireturn dX11_set_183 retI (hPo _ _ ⟨hMh66, (Fr.tr (Fr.sub hFh62 rfl) hFh66 rfl), (by omega), (by omega)⟩)
                      · skip
                        refine g_aload_n dX11_set_151 rfl ?_
                        refine gR_X11_42 rfl dX11_set_152 sh_0 (b := 67) (m_0_6 hMh66) ?_
                        refine gI_X11_233 rfl dX11_set_155 sh_67 (m_67_1 hMh66) (fun v71 ev71 bv71 cv71 => ?_)
                        exact g_ireturn dX11_set_158 retI (hPo _ _ ⟨hMh66, (Fr.tr (Fr.sub hFh62 rfl) hFh66 rfl), (by omega), (by omega)⟩)
                    refine g_icmp_ne 144 dX11_set_123 (by decide) (fun q72 => ?_) (fun q72 => ?_)
                    · skip
                      refine g_drop 1 ?_
                      refine g_drop 2 ?_
                      refine g_drop 3 ?_
                      exact c144 _ hMh62 Fr.rf
                    · skip
                      refine g_aload_n dX11_set_126 rfl ?_
                      refine gR_X11_42 rfl dX11_set_127 sh_0 (b := 67) (m_0_6 hMh62) ?_
                      refine g_aload_n dX11_set_130 rfl ?_
                      refine gR_X11_10 rfl dX11_set_131 sh_0 (b := 1) (m_0_0 hMh62) ?_
                      refine g_aload_n dX11_set_134 rfl ?_
                      refine gR_X11_42 rfl dX11_set_135 sh_0 (b := 67) (m_0_6 hMh62) ?_
                      refine gR_X11_226 rfl dX11_set_138 sh_67 (b := 68) (m_67_2 hMh62) ?_
                      refine g_cVV (as := [_, _]) (c_X7_placeOn_67_1_68  h62 hMh62) dX11_set_141 mi_X7_placeOn in_X7_placeOn se_X7_placeOn ml_X11_229 rfl rfl rfl sh_67 rfl rfl (Nat.le_of_ble_eq_true rfl) (fun h73 q74 => ?_)
                      obtain ⟨hMh73, hFh73⟩ := q74
                      refine g_drop 1 ?_
                      refine g_drop 2 ?_
                      refine g_drop 3 ?_
                      exact c144 _ hMh73 (Fr.sub hFh73 rfl)
                  · skip
                    refine g_bipush dX11_set_116 (inR_c rfl) (by decide) ?_
                    exact g_ireturn dX11_set_118 retI (hPo _ _ ⟨hMh62, (Fr.sub hFh62 rfl), (by omega), (by omega)⟩)
                refine g_if_ne 83 dX11_set_73 (by decide) (fun _ => by exfalso; omega) (fun q75 => ?_)
                refine g_iload dX11_set_76 rfl (fun _ => ?_)
                refine g_if_ne 83 dX11_set_78 (by decide) (fun q76 => ?_) (fun q76 => ?_)
                · skip
                  exact c83 
                · skip
                  refine g_iconst dX11_set_81 (inR_c rfl) ?_
                  exact g_ireturn dX11_set_82 retI (hPo _ _ ⟨hM, Fr.rf, (by omega), (by omega)⟩)
            · skip
              refine g_if_eq 81 dX11_set_61 (by decide) (fun q77 => ?_) (fun _ => by exfalso; omega)
              refine g_iconst dX11_set_81 (inR_c rfl) ?_
              exact g_ireturn dX11_set_82 retI (hPo _ _ ⟨hM, Fr.rf, (by omega), (by omega)⟩)
          · skip
            refine g_if_eq 81 dX11_set_51 (by decide) (fun q78 => ?_) (fun _ => by exfalso; omega)
            refine g_iconst dX11_set_81 (inR_c rfl) ?_
            exact g_ireturn dX11_set_82 retI (hPo _ _ ⟨hM, Fr.rf, (by omega), (by omega)⟩)
      have c29 : G yX11_set cX11_set 6 (some .int) none Po (8, 480, 0, 0) 29 [some (pR 0), some (pI x1), some (pI x2), some (pI x3), some (pI x4), none] [] SH h 0 0 := by
        refine g_iconst dX11_set_29 (inR_c rfl) ?_
        exact c30 _ (by omega) (by omega)
      refine g_if_eq 29 dX11_set_12 (by decide) (fun q79 => ?_) (fun _ => by exfalso; omega)
      exact c29 
  · skip
    refine g_aload_n dX11_set_0 rfl ?_
    refine gR_X11_10 rfl dX11_set_1 sh_0 (b := 1) (m_0_0 hM) ?_
    refine gR_X11_95 rfl dX11_set_4 sh_1 (b := 6) (m_1_1 hM) ?_
    refine g_iload dX11_set_7 rfl (fun _ => ?_)
    refine g_cVP (as := [_]) (c_X0_has_6 _ h hM (by omega) (by omega)) dX11_set_9 mi_X0_has in_X0_has se_X0_has ml_X11_113 rfl rfl rfl sh_6 rfl rfl (Nat.le_of_ble_eq_true rfl) (fun v80 q81 => ?_)
    obtain ⟨v82, ev82⟩ : ∃ z, z = h 6 0 := ⟨_, rfl⟩
    have bv82 : 0 ≤ v82 ∧ v82 ≤ 8 := by rw [ev82]; exact (m_6_0 hM)
    rcases q81 with ⟨rfl, q81⟩ | ⟨rfl, q81⟩
    · skip
      have c30 : ∀ (y83 : Int) , 0 ≤ y83 → y83 ≤ 1 → G yX11_set cX11_set 6 (some .int) none Po (8, 480, 0, 0) 30 [some (pR 0), some (pI x1), some (pI x2), some (pI x3), some (pI x4), none] [(pI y83)] SH h 0 0 := by
        intro y83 by83 dy83
        refine g_istore dX11_set_30 (by decide) rfl ?_
        refine g_aload_n dX11_set_32 rfl ?_
        refine g_iload_n dX11_set_33 rfl (fun _ => ?_)
        refine g_cVP (as := [_]) (c_X11_areTold_0 _ h hM (by omega) (by omega)) dX11_set_34 mi_X11_areTold in_X11_areTold se_X11_areTold ml_X11_216 rfl rfl rfl sh_0 rfl rfl (Nat.le_of_ble_eq_true rfl) (fun v84 q85 => ?_)
        obtain ⟨bv84, cv84⟩ := q85
        refine g_if_eq 81 dX11_set_37 (by decide) (fun q86 => ?_) (fun q86 => ?_)
        · skip
          refine g_iconst dX11_set_81 (inR_c rfl) ?_
          exact g_ireturn dX11_set_82 retI (hPo _ _ ⟨hM, Fr.rf, (by omega), (by omega)⟩)
        · skip
          refine g_aload_n dX11_set_40 rfl ?_
          refine gR_X11_10 rfl dX11_set_41 sh_0 (b := 1) (m_0_0 hM) ?_
          refine gR_X11_85 rfl dX11_set_44 sh_1 (b := 2) (m_1_0 hM) ?_
          refine g_iload_n dX11_set_47 rfl (fun _ => ?_)
          refine g_cVP (as := [_]) (c_X6_has_2 _ h hM (by omega) (by omega)) dX11_set_48 mi_X6_has in_X6_has se_X6_has ml_X11_159 rfl rfl rfl sh_2 rfl rfl (Nat.le_of_ble_eq_true rfl) (fun v87 q88 => ?_)
          obtain ⟨v89, ev89⟩ : ∃ z, z = h 2 0 := ⟨_, rfl⟩
          have bv89 : 0 ≤ v89 ∧ v89 ≤ 10 := by rw [ev89]; exact (m_2_0 hM)
          rcases q88 with ⟨rfl, q88⟩ | ⟨rfl, q88⟩
          · skip
            refine g_if_eq 81 dX11_set_51 (by decide) (fun _ => by exfalso; omega) (fun q90 => ?_)
            refine g_iload_n dX11_set_54 rfl (fun _ => ?_)
            refine g_iconst dX11_set_55 (inR_c rfl) ?_
            refine g_bipush dX11_set_56 (inR_c rfl) (by decide) ?_
            refine g_cSP (av := [_, _, _]) (c_X11_isWithin _ _ _ h hM (by omega) (by omega) (by omega) (by omega) (by omega) (by omega)) dX11_set_58 mi_X11_isWithin st_X11_isWithin ml_X11_81 rfl rfl rfl rfl (Nat.le_of_ble_eq_true rfl) (fun v91 q92 => ?_)
            rcases q92 with ⟨rfl, q92⟩ | ⟨rfl, q92⟩
            · skip
              refine g_if_eq 81 dX11_set_61 (by decide) (fun _ => by exfalso; omega) (fun q93 => ?_)
              refine g_iload dX11_set_64 rfl (fun _ => ?_)
              refine g_bipush dX11_set_66 (inR_c rfl) (by decide) ?_
              refine g_bipush dX11_set_68 (inR_c rfl) (by decide) ?_
              refine g_cSP (av := [_, _, _]) (c_X11_isWithin _ _ _ h hM (by omega) (by omega) (by omega) (by omega) (by omega) (by omega)) dX11_set_70 mi_X11_isWithin st_X11_isWithin ml_X11_81 rfl rfl rfl rfl (Nat.le_of_ble_eq_true rfl) (fun v94 q95 => ?_)
              rcases q95 with ⟨rfl, q95⟩ | ⟨rfl, q95⟩
              · skip
                exfalso; omega
              · skip
                have c83 : G yX11_set cX11_set 6 (some .int) none Po (8, 480, 0, 0) 83 [some (pR 0), some (pI x1), some (pI x2), some (pI x3), some (pI x4), some (pI y83)] [] SH h 0 0 := by
                  refine g_aload_n dX11_set_83 rfl ?_
                  refine gR_X11_42 rfl dX11_set_84 sh_0 (b := 67) (m_0_6 hM) ?_
                  refine g_aload_n dX11_set_87 rfl ?_
                  refine gR_X11_10 rfl dX11_set_88 sh_0 (b := 1) (m_0_0 hM) ?_
                  refine g_aload_n dX11_set_91 rfl ?_
                  refine gR_X11_16 rfl dX11_set_92 sh_0 (b := 21) (m_0_1 hM) ?_
                  refine g_aload_n dX11_set_95 rfl ?_
                  refine gR_X11_70 rfl dX11_set_96 sh_0 (b := 90) er0_10 ?_
                  refine g_iload_n dX11_set_99 rfl (fun _ => ?_)
                  refine g_iload_n dX11_set_100 rfl (fun _ => ?_)
                  refine g_iload_n dX11_set_101 rfl (fun _ => ?_)
                  refine g_cVV (as := [_, _, _, _, _, _]) (c_X7_search_67_1_21_90 _ _ _ h hM (by omega) (by omega) (by omega) (by omega) (by omega) (by omega)) dX11_set_102 mi_X7_search in_X7_search se_X7_search ml_X11_219 rfl rfl rfl sh_67 rfl rfl (Nat.le_of_ble_eq_true rfl) (fun h96 q97 => ?_)
                  obtain ⟨hMh96, hFh96⟩ := q97
                  refine g_aload_n dX11_set_105 rfl ?_
                  refine gR_X11_42 rfl dX11_set_106 sh_0 (b := 67) (m_0_6 hMh96) ?_
                  refine gI_X11_223 rfl dX11_set_109 sh_67 (m_67_0 hMh96) (fun v98 ev98 bv98 cv98 => ?_)
                  refine g_iconst dX11_set_112 (inR_c rfl) ?_
                  refine g_icmp_ne 119 dX11_set_113 (by decide) (fun q99 => ?_) (fun q99 => ?_)
                  · skip
                    refine g_iload dX11_set_119 rfl (fun _ => ?_)
                    refine g_bipush dX11_set_121 (inR_c rfl) (by decide) ?_
                    have c144 : ∀ (h100 : MEM), MBx h100 → Fr [(7, 0)] h96 h100 → G yX11_set cX11_set 6 (some .int) none Po (8, 480, 0, 0) 144 [some (pR 0), none, none, none, some (pI x4), some (pI y83)] [] SH h100 0 0 := by
                      intro h100 hMh100 hFh100
                      refine g_iload dX11_set_144 rfl (fun _ => ?_)
                      refine g_bipush dX11_set_146 (inR_c rfl) (by decide) ?_
                      refine g_icmp_ne 159 dX11_set_148 (by decide) (fun q101 => ?_) (fun _ => by exfalso; omega)
                      refine g_iload dX11_set_159 rfl (fun _ => ?_)
                      refine g_if_eq 176 dX11_set_161 (by decide) (fun q102 => ?_) (fun q102 => ?_)
                      · skip
                        refine g_aload_n dX11_set_176 rfl ?_
                        refine gR_X11_42 rfl dX11_set_177 sh_0 (b := 67) (m_0_6 hMh100) ?_
                        refine gE_X11_223 rfl dX11_set_180 sh_67 ((hFh100 67 0 rfl).trans ev98.symm) ?_
                        exact g_ireturn dX11_set_183 retI (hPo _ _ ⟨hMh100, (Fr.tr (Fr.sub hFh96 rfl) hFh100 rfl), (by omega), (by omega)⟩)
                      · skip
                        refine g_aload_n dX11_set_164 rfl ?_
                        refine gR_X11_42 rfl dX11_set_165 sh_0 (b := 67) (m_0_6 hMh100) ?_
                        refine g_iload dX11_set_168 rfl (fun _ => ?_)
                        refine g_cVP (as := [_]) (c_X7_roofOf_67 _ h100 hMh100 (by omega) (by omega)) dX11_set_170 mi_X7_roofOf in_X7_roofOf se_X7_roofOf ml_X11_235 rfl rfl rfl sh_67 rfl rfl (Nat.le_of_ble_eq_true rfl) (fun v103 q104 => ?_)
                        obtain ⟨bv103, cv103⟩ := q104
                        refine g_goto 183 dX11_set_173 (by decide) ?_
                        exact g_ireturn dX11_set_183 retI (hPo _ _ ⟨hMh100, (Fr.tr (Fr.sub hFh96 rfl) hFh100 rfl), (by omega), (by omega)⟩)
                    refine g_icmp_ne 144 dX11_set_123 (by decide) (fun q105 => ?_) (fun _ => by exfalso; omega)
                    refine g_drop 1 ?_
                    refine g_drop 2 ?_
                    refine g_drop 3 ?_
                    exact c144 _ hMh96 Fr.rf
                  · skip
                    refine g_bipush dX11_set_116 (inR_c rfl) (by decide) ?_
                    exact g_ireturn dX11_set_118 retI (hPo _ _ ⟨hMh96, (Fr.sub hFh96 rfl), (by omega), (by omega)⟩)
                refine g_if_ne 83 dX11_set_73 (by decide) (fun _ => by exfalso; omega) (fun q106 => ?_)
                refine g_iload dX11_set_76 rfl (fun _ => ?_)
                refine g_if_ne 83 dX11_set_78 (by decide) (fun q107 => ?_) (fun q107 => ?_)
                · skip
                  exact c83 
                · skip
                  refine g_iconst dX11_set_81 (inR_c rfl) ?_
                  exact g_ireturn dX11_set_82 retI (hPo _ _ ⟨hM, Fr.rf, (by omega), (by omega)⟩)
            · skip
              refine g_if_eq 81 dX11_set_61 (by decide) (fun q108 => ?_) (fun _ => by exfalso; omega)
              refine g_iconst dX11_set_81 (inR_c rfl) ?_
              exact g_ireturn dX11_set_82 retI (hPo _ _ ⟨hM, Fr.rf, (by omega), (by omega)⟩)
          · skip
            refine g_if_eq 81 dX11_set_51 (by decide) (fun q109 => ?_) (fun _ => by exfalso; omega)
            refine g_iconst dX11_set_81 (inR_c rfl) ?_
            exact g_ireturn dX11_set_82 retI (hPo _ _ ⟨hM, Fr.rf, (by omega), (by omega)⟩)
      have c29 : G yX11_set cX11_set 6 (some .int) none Po (8, 480, 0, 0) 29 [some (pR 0), some (pI x1), some (pI x2), some (pI x3), some (pI x4), none] [] SH h 0 0 := by
        refine g_iconst dX11_set_29 (inR_c rfl) ?_
        exact c30 _ (by omega) (by omega)
      refine g_if_eq 29 dX11_set_12 (by decide) (fun _ => by exfalso; omega) (fun q110 => ?_)
      refine g_iload_n dX11_set_15 rfl (fun _ => ?_)
      refine g_iload dX11_set_16 rfl (fun _ => ?_)
      refine g_ishrF dX11_set_18 (fun v111 ev111 bv111 cv111 => ?_)
      refine g_iconst dX11_set_19 (inR_c rfl) ?_
      refine g_iandX (lo := 0) (hi := 1) dX11_set_20 (iand_r (by omega) (by omega)) (fun v112 ev112 bv112 cv112 => ?_)
      refine g_iconst dX11_set_21 (inR_c rfl) ?_
      refine g_icmp_ne 29 dX11_set_22 (by decide) (fun q113 => ?_) (fun q113 => ?_)
      · skip
        exact c29 
      · skip
        refine g_iconst dX11_set_25 (inR_c rfl) ?_
        refine g_goto 30 dX11_set_26 (by decide) ?_
        exact c30 _ (by omega) (by omega)
    · skip
      have c30 : ∀ (y114 : Int) , 0 ≤ y114 → y114 ≤ 1 → G yX11_set cX11_set 6 (some .int) none Po (8, 480, 0, 0) 30 [some (pR 0), some (pI x1), some (pI x2), some (pI x3), some (pI x4), none] [(pI y114)] SH h 0 0 := by
        intro y114 by114 dy114
        refine g_istore dX11_set_30 (by decide) rfl ?_
        refine g_aload_n dX11_set_32 rfl ?_
        refine g_iload_n dX11_set_33 rfl (fun _ => ?_)
        refine g_cVP (as := [_]) (c_X11_areTold_0 _ h hM (by omega) (by omega)) dX11_set_34 mi_X11_areTold in_X11_areTold se_X11_areTold ml_X11_216 rfl rfl rfl sh_0 rfl rfl (Nat.le_of_ble_eq_true rfl) (fun v115 q116 => ?_)
        obtain ⟨bv115, cv115⟩ := q116
        refine g_if_eq 81 dX11_set_37 (by decide) (fun q117 => ?_) (fun q117 => ?_)
        · skip
          refine g_iconst dX11_set_81 (inR_c rfl) ?_
          exact g_ireturn dX11_set_82 retI (hPo _ _ ⟨hM, Fr.rf, (by omega), (by omega)⟩)
        · skip
          refine g_aload_n dX11_set_40 rfl ?_
          refine gR_X11_10 rfl dX11_set_41 sh_0 (b := 1) (m_0_0 hM) ?_
          refine gR_X11_85 rfl dX11_set_44 sh_1 (b := 2) (m_1_0 hM) ?_
          refine g_iload_n dX11_set_47 rfl (fun _ => ?_)
          refine g_cVP (as := [_]) (c_X6_has_2 _ h hM (by omega) (by omega)) dX11_set_48 mi_X6_has in_X6_has se_X6_has ml_X11_159 rfl rfl rfl sh_2 rfl rfl (Nat.le_of_ble_eq_true rfl) (fun v118 q119 => ?_)
          obtain ⟨v120, ev120⟩ : ∃ z, z = h 2 0 := ⟨_, rfl⟩
          have bv120 : 0 ≤ v120 ∧ v120 ≤ 10 := by rw [ev120]; exact (m_2_0 hM)
          rcases q119 with ⟨rfl, q119⟩ | ⟨rfl, q119⟩
          · skip
            refine g_if_eq 81 dX11_set_51 (by decide) (fun _ => by exfalso; omega) (fun q121 => ?_)
            refine g_iload_n dX11_set_54 rfl (fun _ => ?_)
            refine g_iconst dX11_set_55 (inR_c rfl) ?_
            refine g_bipush dX11_set_56 (inR_c rfl) (by decide) ?_
            refine g_cSP (av := [_, _, _]) (c_X11_isWithin _ _ _ h hM (by omega) (by omega) (by omega) (by omega) (by omega) (by omega)) dX11_set_58 mi_X11_isWithin st_X11_isWithin ml_X11_81 rfl rfl rfl rfl (Nat.le_of_ble_eq_true rfl) (fun v122 q123 => ?_)
            rcases q123 with ⟨rfl, q123⟩ | ⟨rfl, q123⟩
            · skip
              refine g_if_eq 81 dX11_set_61 (by decide) (fun _ => by exfalso; omega) (fun q124 => ?_)
              refine g_iload dX11_set_64 rfl (fun _ => ?_)
              refine g_bipush dX11_set_66 (inR_c rfl) (by decide) ?_
              refine g_bipush dX11_set_68 (inR_c rfl) (by decide) ?_
              refine g_cSP (av := [_, _, _]) (c_X11_isWithin _ _ _ h hM (by omega) (by omega) (by omega) (by omega) (by omega) (by omega)) dX11_set_70 mi_X11_isWithin st_X11_isWithin ml_X11_81 rfl rfl rfl rfl (Nat.le_of_ble_eq_true rfl) (fun v125 q126 => ?_)
              rcases q126 with ⟨rfl, q126⟩ | ⟨rfl, q126⟩
              · skip
                have c83 : G yX11_set cX11_set 6 (some .int) none Po (8, 480, 0, 0) 83 [some (pR 0), some (pI x1), some (pI x2), some (pI x3), some (pI x4), some (pI y114)] [] SH h 0 0 := by
                  refine g_aload_n dX11_set_83 rfl ?_
                  refine gR_X11_42 rfl dX11_set_84 sh_0 (b := 67) (m_0_6 hM) ?_
                  refine g_aload_n dX11_set_87 rfl ?_
                  refine gR_X11_10 rfl dX11_set_88 sh_0 (b := 1) (m_0_0 hM) ?_
                  refine g_aload_n dX11_set_91 rfl ?_
                  refine gR_X11_16 rfl dX11_set_92 sh_0 (b := 21) (m_0_1 hM) ?_
                  refine g_aload_n dX11_set_95 rfl ?_
                  refine gR_X11_70 rfl dX11_set_96 sh_0 (b := 90) er0_10 ?_
                  refine g_iload_n dX11_set_99 rfl (fun _ => ?_)
                  refine g_iload_n dX11_set_100 rfl (fun _ => ?_)
                  refine g_iload_n dX11_set_101 rfl (fun _ => ?_)
                  refine g_cVV (as := [_, _, _, _, _, _]) (c_X7_search_67_1_21_90 _ _ _ h hM (by omega) (by omega) (by omega) (by omega) (by omega) (by omega)) dX11_set_102 mi_X7_search in_X7_search se_X7_search ml_X11_219 rfl rfl rfl sh_67 rfl rfl (Nat.le_of_ble_eq_true rfl) (fun h127 q128 => ?_)
                  obtain ⟨hMh127, hFh127⟩ := q128
                  refine g_aload_n dX11_set_105 rfl ?_
                  refine gR_X11_42 rfl dX11_set_106 sh_0 (b := 67) (m_0_6 hMh127) ?_
                  refine gI_X11_223 rfl dX11_set_109 sh_67 (m_67_0 hMh127) (fun v129 ev129 bv129 cv129 => ?_)
                  refine g_iconst dX11_set_112 (inR_c rfl) ?_
                  refine g_icmp_ne 119 dX11_set_113 (by decide) (fun q130 => ?_) (fun q130 => ?_)
                  · skip
                    refine g_iload dX11_set_119 rfl (fun _ => ?_)
                    refine g_bipush dX11_set_121 (inR_c rfl) (by decide) ?_
                    have c144 : ∀ (h131 : MEM), MBx h131 → Fr [(7, 0)] h127 h131 → G yX11_set cX11_set 6 (some .int) none Po (8, 480, 0, 0) 144 [some (pR 0), none, none, none, some (pI x4), some (pI y114)] [] SH h131 0 0 := by
                      intro h131 hMh131 hFh131
                      refine g_iload dX11_set_144 rfl (fun _ => ?_)
                      refine g_bipush dX11_set_146 (inR_c rfl) (by decide) ?_
                      refine g_icmp_ne 159 dX11_set_148 (by decide) (fun q132 => ?_) (fun q132 => ?_)
                      · skip
                        refine g_iload dX11_set_159 rfl (fun _ => ?_)
                        refine g_if_eq 176 dX11_set_161 (by decide) (fun q133 => ?_) (fun q133 => ?_)
                        · skip
                          refine g_aload_n dX11_set_176 rfl ?_
                          refine gR_X11_42 rfl dX11_set_177 sh_0 (b := 67) (m_0_6 hMh131) ?_
                          refine gE_X11_223 rfl dX11_set_180 sh_67 ((hFh131 67 0 rfl).trans ev129.symm) ?_
                          exact g_ireturn dX11_set_183 retI (hPo _ _ ⟨hMh131, (Fr.tr (Fr.sub hFh127 rfl) hFh131 rfl), (by omega), (by omega)⟩)
                        · skip
                          refine g_aload_n dX11_set_164 rfl ?_
                          refine gR_X11_42 rfl dX11_set_165 sh_0 (b := 67) (m_0_6 hMh131) ?_
                          refine g_iload dX11_set_168 rfl (fun _ => ?_)
                          refine g_cVP (as := [_]) (c_X7_roofOf_67 _ h131 hMh131 (by omega) (by omega)) dX11_set_170 mi_X7_roofOf in_X7_roofOf se_X7_roofOf ml_X11_235 rfl rfl rfl sh_67 rfl rfl (Nat.le_of_ble_eq_true rfl) (fun v134 q135 => ?_)
                          obtain ⟨bv134, cv134⟩ := q135
                          refine g_goto 183 dX11_set_173 (by decide) ?_
                          exact g_ireturn dX11_set_183 retI (hPo _ _ ⟨hMh131, (Fr.tr (Fr.sub hFh127 rfl) hFh131 rfl), (by omega), (by omega)⟩)
                      · skip
                        refine g_aload_n dX11_set_151 rfl ?_
                        refine gR_X11_42 rfl dX11_set_152 sh_0 (b := 67) (m_0_6 hMh131) ?_
                        refine gI_X11_233 rfl dX11_set_155 sh_67 (m_67_1 hMh131) (fun v136 ev136 bv136 cv136 => ?_)
                        exact g_ireturn dX11_set_158 retI (hPo _ _ ⟨hMh131, (Fr.tr (Fr.sub hFh127 rfl) hFh131 rfl), (by omega), (by omega)⟩)
                    refine g_icmp_ne 144 dX11_set_123 (by decide) (fun q137 => ?_) (fun q137 => ?_)
                    · skip
                      refine g_drop 1 ?_
                      refine g_drop 2 ?_
                      refine g_drop 3 ?_
                      exact c144 _ hMh127 Fr.rf
                    · skip
                      refine g_aload_n dX11_set_126 rfl ?_
                      refine gR_X11_42 rfl dX11_set_127 sh_0 (b := 67) (m_0_6 hMh127) ?_
                      refine g_aload_n dX11_set_130 rfl ?_
                      refine gR_X11_10 rfl dX11_set_131 sh_0 (b := 1) (m_0_0 hMh127) ?_
                      refine g_aload_n dX11_set_134 rfl ?_
                      refine gR_X11_42 rfl dX11_set_135 sh_0 (b := 67) (m_0_6 hMh127) ?_
                      refine gR_X11_226 rfl dX11_set_138 sh_67 (b := 68) (m_67_2 hMh127) ?_
                      refine g_cVV (as := [_, _]) (c_X7_placeOn_67_1_68  h127 hMh127) dX11_set_141 mi_X7_placeOn in_X7_placeOn se_X7_placeOn ml_X11_229 rfl rfl rfl sh_67 rfl rfl (Nat.le_of_ble_eq_true rfl) (fun h138 q139 => ?_)
                      obtain ⟨hMh138, hFh138⟩ := q139
                      refine g_drop 1 ?_
                      refine g_drop 2 ?_
                      refine g_drop 3 ?_
                      exact c144 _ hMh138 (Fr.sub hFh138 rfl)
                  · skip
                    refine g_bipush dX11_set_116 (inR_c rfl) (by decide) ?_
                    exact g_ireturn dX11_set_118 retI (hPo _ _ ⟨hMh127, (Fr.sub hFh127 rfl), (by omega), (by omega)⟩)
                refine g_if_ne 83 dX11_set_73 (by decide) (fun q140 => ?_) (fun _ => by exfalso; omega)
                exact c83 
              · skip
                have c83 : G yX11_set cX11_set 6 (some .int) none Po (8, 480, 0, 0) 83 [some (pR 0), some (pI x1), some (pI x2), some (pI x3), some (pI x4), some (pI y114)] [] SH h 0 0 := by
                  refine g_aload_n dX11_set_83 rfl ?_
                  refine gR_X11_42 rfl dX11_set_84 sh_0 (b := 67) (m_0_6 hM) ?_
                  refine g_aload_n dX11_set_87 rfl ?_
                  refine gR_X11_10 rfl dX11_set_88 sh_0 (b := 1) (m_0_0 hM) ?_
                  refine g_aload_n dX11_set_91 rfl ?_
                  refine gR_X11_16 rfl dX11_set_92 sh_0 (b := 21) (m_0_1 hM) ?_
                  refine g_aload_n dX11_set_95 rfl ?_
                  refine gR_X11_70 rfl dX11_set_96 sh_0 (b := 90) er0_10 ?_
                  refine g_iload_n dX11_set_99 rfl (fun _ => ?_)
                  refine g_iload_n dX11_set_100 rfl (fun _ => ?_)
                  refine g_iload_n dX11_set_101 rfl (fun _ => ?_)
                  refine g_cVV (as := [_, _, _, _, _, _]) (c_X7_search_67_1_21_90 _ _ _ h hM (by omega) (by omega) (by omega) (by omega) (by omega) (by omega)) dX11_set_102 mi_X7_search in_X7_search se_X7_search ml_X11_219 rfl rfl rfl sh_67 rfl rfl (Nat.le_of_ble_eq_true rfl) (fun h141 q142 => ?_)
                  obtain ⟨hMh141, hFh141⟩ := q142
                  refine g_aload_n dX11_set_105 rfl ?_
                  refine gR_X11_42 rfl dX11_set_106 sh_0 (b := 67) (m_0_6 hMh141) ?_
                  refine gI_X11_223 rfl dX11_set_109 sh_67 (m_67_0 hMh141) (fun v143 ev143 bv143 cv143 => ?_)
                  refine g_iconst dX11_set_112 (inR_c rfl) ?_
                  refine g_icmp_ne 119 dX11_set_113 (by decide) (fun q144 => ?_) (fun q144 => ?_)
                  · skip
                    refine g_iload dX11_set_119 rfl (fun _ => ?_)
                    refine g_bipush dX11_set_121 (inR_c rfl) (by decide) ?_
                    have c144 : ∀ (h145 : MEM), MBx h145 → Fr [(7, 0)] h141 h145 → G yX11_set cX11_set 6 (some .int) none Po (8, 480, 0, 0) 144 [some (pR 0), none, none, none, some (pI x4), some (pI y114)] [] SH h145 0 0 := by
                      intro h145 hMh145 hFh145
                      refine g_iload dX11_set_144 rfl (fun _ => ?_)
                      refine g_bipush dX11_set_146 (inR_c rfl) (by decide) ?_
                      refine g_icmp_ne 159 dX11_set_148 (by decide) (fun q146 => ?_) (fun q146 => ?_)
                      · skip
                        refine g_iload dX11_set_159 rfl (fun _ => ?_)
                        refine g_if_eq 176 dX11_set_161 (by decide) (fun q147 => ?_) (fun q147 => ?_)
                        · skip
                          refine g_aload_n dX11_set_176 rfl ?_
                          refine gR_X11_42 rfl dX11_set_177 sh_0 (b := 67) (m_0_6 hMh145) ?_
                          refine gE_X11_223 rfl dX11_set_180 sh_67 ((hFh145 67 0 rfl).trans ev143.symm) ?_
                          exact g_ireturn dX11_set_183 retI (hPo _ _ ⟨hMh145, (Fr.tr (Fr.sub hFh141 rfl) hFh145 rfl), (by omega), (by omega)⟩)
                        · skip
                          refine g_aload_n dX11_set_164 rfl ?_
                          refine gR_X11_42 rfl dX11_set_165 sh_0 (b := 67) (m_0_6 hMh145) ?_
                          refine g_iload dX11_set_168 rfl (fun _ => ?_)
                          refine g_cVP (as := [_]) (c_X7_roofOf_67 _ h145 hMh145 (by omega) (by omega)) dX11_set_170 mi_X7_roofOf in_X7_roofOf se_X7_roofOf ml_X11_235 rfl rfl rfl sh_67 rfl rfl (Nat.le_of_ble_eq_true rfl) (fun v148 q149 => ?_)
                          obtain ⟨bv148, cv148⟩ := q149
                          refine g_goto 183 dX11_set_173 (by decide) ?_
                          exact g_ireturn dX11_set_183 retI (hPo _ _ ⟨hMh145, (Fr.tr (Fr.sub hFh141 rfl) hFh145 rfl), (by omega), (by omega)⟩)
                      · skip
                        refine g_aload_n dX11_set_151 rfl ?_
                        refine gR_X11_42 rfl dX11_set_152 sh_0 (b := 67) (m_0_6 hMh145) ?_
                        refine gI_X11_233 rfl dX11_set_155 sh_67 (m_67_1 hMh145) (fun v150 ev150 bv150 cv150 => ?_)
                        exact g_ireturn dX11_set_158 retI (hPo _ _ ⟨hMh145, (Fr.tr (Fr.sub hFh141 rfl) hFh145 rfl), (by omega), (by omega)⟩)
                    refine g_icmp_ne 144 dX11_set_123 (by decide) (fun q151 => ?_) (fun q151 => ?_)
                    · skip
                      refine g_drop 1 ?_
                      refine g_drop 2 ?_
                      refine g_drop 3 ?_
                      exact c144 _ hMh141 Fr.rf
                    · skip
                      refine g_aload_n dX11_set_126 rfl ?_
                      refine gR_X11_42 rfl dX11_set_127 sh_0 (b := 67) (m_0_6 hMh141) ?_
                      refine g_aload_n dX11_set_130 rfl ?_
                      refine gR_X11_10 rfl dX11_set_131 sh_0 (b := 1) (m_0_0 hMh141) ?_
                      refine g_aload_n dX11_set_134 rfl ?_
                      refine gR_X11_42 rfl dX11_set_135 sh_0 (b := 67) (m_0_6 hMh141) ?_
                      refine gR_X11_226 rfl dX11_set_138 sh_67 (b := 68) (m_67_2 hMh141) ?_
                      refine g_cVV (as := [_, _]) (c_X7_placeOn_67_1_68  h141 hMh141) dX11_set_141 mi_X7_placeOn in_X7_placeOn se_X7_placeOn ml_X11_229 rfl rfl rfl sh_67 rfl rfl (Nat.le_of_ble_eq_true rfl) (fun h152 q153 => ?_)
                      obtain ⟨hMh152, hFh152⟩ := q153
                      refine g_drop 1 ?_
                      refine g_drop 2 ?_
                      refine g_drop 3 ?_
                      exact c144 _ hMh152 (Fr.sub hFh152 rfl)
                  · skip
                    refine g_bipush dX11_set_116 (inR_c rfl) (by decide) ?_
                    exact g_ireturn dX11_set_118 retI (hPo _ _ ⟨hMh141, (Fr.sub hFh141 rfl), (by omega), (by omega)⟩)
                refine g_if_ne 83 dX11_set_73 (by decide) (fun _ => by exfalso; omega) (fun q154 => ?_)
                refine g_iload dX11_set_76 rfl (fun _ => ?_)
                refine g_if_ne 83 dX11_set_78 (by decide) (fun q155 => ?_) (fun q155 => ?_)
                · skip
                  exact c83 
                · skip
                  refine g_iconst dX11_set_81 (inR_c rfl) ?_
                  exact g_ireturn dX11_set_82 retI (hPo _ _ ⟨hM, Fr.rf, (by omega), (by omega)⟩)
            · skip
              refine g_if_eq 81 dX11_set_61 (by decide) (fun q156 => ?_) (fun _ => by exfalso; omega)
              refine g_iconst dX11_set_81 (inR_c rfl) ?_
              exact g_ireturn dX11_set_82 retI (hPo _ _ ⟨hM, Fr.rf, (by omega), (by omega)⟩)
          · skip
            refine g_if_eq 81 dX11_set_51 (by decide) (fun q157 => ?_) (fun _ => by exfalso; omega)
            refine g_iconst dX11_set_81 (inR_c rfl) ?_
            exact g_ireturn dX11_set_82 retI (hPo _ _ ⟨hM, Fr.rf, (by omega), (by omega)⟩)
      have c29 : G yX11_set cX11_set 6 (some .int) none Po (8, 480, 0, 0) 29 [some (pR 0), some (pI x1), some (pI x2), some (pI x3), some (pI x4), none] [] SH h 0 0 := by
        refine g_iconst dX11_set_29 (inR_c rfl) ?_
        exact c30 _ (by omega) (by omega)
      refine g_if_eq 29 dX11_set_12 (by decide) (fun q158 => ?_) (fun _ => by exfalso; omega)
      exact c29 
