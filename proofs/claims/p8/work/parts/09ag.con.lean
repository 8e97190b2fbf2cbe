set_option maxRecDepth 100000 in
set_option maxHeartbeats 4000000 in
theorem c_X12_owes_98 (x1 x2 x3 : Int) (h : MEM) (hM : MBm h) (bx1 : -2147483648 ≤ x1) (dx1 : x1 ≤ 2147483647) (bx2 : -2147483648 ≤ x2) (dx2 : x2 ≤ 2147483647) (bx3 : -2147483648 ≤ x3) (dx3 : x3 ≤ 2147483647) : CP yX12_owes cX12_owes 4 (some .int) 3 [pR 98, pI x1, pI x2, pI x3] h (fun x => -2147483648 ≤ x ∧ x ≤ 2147483647) := by
  refine CP.of (L0 := [some (pR 98), some (pI x1), some (pI x2), some (pI x3)]) rfl (Nat.le_of_ble_eq_true rfl) rfl (fun Po hPo hav => ?_)
  refine g_aload_n dX12_owes_0 rfl ?_
  refine g_iload_n dX12_owes_1 rfl (fun _ => ?_)
  refine g_cVP (as := [_]) (c_X12_isApprentice_98 _ h hM (by omega) (by omega)) dX12_owes_2 mi_X12_isApprentice in_X12_isApprentice se_X12_isApprentice ml_X12_195 rfl rfl rfl sh_98 rfl rfl (Nat.le_of_ble_eq_true rfl) (fun v1 q2 => ?_)
  obtain ⟨v3, ev3⟩ : ∃ z, z = h 98 3 := ⟨_, rfl⟩
  have bv3 : 0 ≤ v3 ∧ v3 ≤ 8 := by rw [ev3]; exact (m_98_3 hM)
  rcases q2 with ⟨rfl, q2⟩ | ⟨rfl, q2⟩
  · skip
    refine g_if_eq 26 dX12_owes_5 (by decide) (fun _ => by exfalso; omega) (fun q4 => ?_)
    refine g_aload_n dX12_owes_8 rfl ?_
    refine g_iload_n dX12_owes_9 rfl (fun _ => ?_)
    refine g_cVP (as := [_]) (c_X12_isMaster_98 _ h hM (by omega) (by omega)) dX12_owes_10 mi_X12_isMaster in_X12_isMaster se_X12_isMaster ml_X12_201 rfl rfl rfl sh_98 rfl rfl (Nat.le_of_ble_eq_true rfl) (fun v5 q6 => ?_)
    obtain ⟨v7, ev7⟩ : ∃ z, z = h 98 4 := ⟨_, rfl⟩
    have bv7 : 0 ≤ v7 ∧ v7 ≤ 8 := by rw [ev7]; exact (m_98_4 hM)
    rcases q6 with ⟨rfl, q6⟩ | ⟨rfl, q6⟩
    · skip
      refine g_if_eq 26 dX12_owes_13 (by decide) (fun _ => by exfalso; omega) (fun q8 => ?_)
      refine g_iload_n dX12_owes_16 rfl (fun _ => ?_)
      refine g_i2l dX12_owes_17 ?_
      refine g_lconst (v := 0) dX12_owes_18 rfl ?_
      refine g_lconst (v := 1) dX12_owes_19 rfl ?_
      refine g_cSP (av := [_, _, _]) (c_X12_lies _ _ _ h hM (by omega) (by omega) (by omega) (by omega) (by omega) (by omega)) dX12_owes_20 mi_X12_lies st_X12_lies ml_X12_175 rfl rfl rfl rfl (Nat.le_of_ble_eq_true rfl) (fun v9 q10 => ?_)
      rcases q10 with ⟨rfl, q10⟩ | ⟨rfl, q10⟩
      · skip
        refine g_if_ne 28 dX12_owes_23 (by decide) (fun q11 => ?_) (fun _ => by exfalso; omega)
        refine g_iload_n dX12_owes_28 rfl (fun _ => ?_)
        refine g_if_ne 46 dX12_owes_29 (by decide) (fun q12 => ?_) (fun q12 => ?_)
        · skip
          refine g_aload_n dX12_owes_46 rfl ?_
          refine gR_X12_58 rfl dX12_owes_47 sh_98 (b := 113) (m_98_21 hM) ?_
          refine g_bipush dX12_owes_50 (inR_c rfl) (by decide) ?_
          refine g_iload_n dX12_owes_52 rfl (fun _ => ?_)
          refine g_imulB dX12_owes_53 (by omega) (by omega) ?_
          refine g_iload_n dX12_owes_54 rfl (fun _ => ?_)
          refine g_iaddB dX12_owes_55 (by omega) (by omega) ?_
          refine g_ialdB dX12_owes_56 sh_113 (by omega) (by omega) (m_113 hM _) (fun v13 ev13 bv13 cv13 => ?_)
          exact g_ireturn dX12_owes_57 retI (hPo _ ⟨(by omega), (by omega)⟩)
        · skip
          refine g_aload_n dX12_owes_32 rfl ?_
          refine gR_X12_55 rfl dX12_owes_33 sh_98 (b := 112) (m_98_20 hM) ?_
          refine g_bipush dX12_owes_36 (inR_c rfl) (by decide) ?_
          refine g_iload_n dX12_owes_38 rfl (fun _ => ?_)
          refine g_imulB dX12_owes_39 (by omega) (by omega) ?_
          refine g_iload_n dX12_owes_40 rfl (fun _ => ?_)
          refine g_iaddB dX12_owes_41 (by omega) (by omega) ?_
          refine g_ialdB dX12_owes_42 sh_112 (by omega) (by omega) (m_112 hM _) (fun v14 ev14 bv14 cv14 => ?_)
          refine g_goto 57 dX12_owes_43 (by decide) ?_
          exact g_ireturn dX12_owes_57 retI (hPo _ ⟨(by omega), (by omega)⟩)
      · skip
        refine g_if_ne 28 dX12_owes_23 (by decide) (fun _ => by exfalso; omega) (fun q15 => ?_)
        refine g_iconst dX12_owes_26 (inR_c rfl) ?_
        exact g_ireturn dX12_owes_27 retI (hPo _ ⟨(by omega), (by omega)⟩)
    · skip
      refine g_if_eq 26 dX12_owes_13 (by decide) (fun q16 => ?_) (fun _ => by exfalso; omega)
      refine g_iconst dX12_owes_26 (inR_c rfl) ?_
      exact g_ireturn dX12_owes_27 retI (hPo _ ⟨(by omega), (by omega)⟩)
  · skip
    refine g_if_eq 26 dX12_owes_5 (by decide) (fun q17 => ?_) (fun _ => by exfalso; omega)
    refine g_iconst dX12_owes_26 (inR_c rfl) ?_
    exact g_ireturn dX12_owes_27 retI (hPo _ ⟨(by omega), (by omega)⟩)
set_option maxRecDepth 100000 in
set_option maxHeartbeats 4000000 in
theorem c_X12_struckBy_98 (x1 : Int) (h : MEM) (hM : MBm h) (bx1 : 0 ≤ x1) (dx1 : x1 ≤ 7) : CP yX12_struckBy cX12_struckBy 4 (some .int) 1 [pR 98, pI x1] h (fun x => 0 ≤ x ∧ x ≤ 255 ∧ (x = SB h x1 (h 98 4).toNat)) := by
  refine CP.of (L0 := [some (pR 98), some (pI x1), none, none]) rfl (Nat.le_of_ble_eq_true rfl) rfl (fun Po hPo hav => ?_)
  obtain ⟨v1, ev1⟩ : ∃ z, z = h 98 4 := ⟨_, rfl⟩
  have bv1 : 0 ≤ v1 ∧ v1 ≤ 8 := by rw [ev1]; exact (m_98_4 hM)
  refine g_iconst dX12_struckBy_0 (inR_c rfl) ?_
  refine g_istore_n dX12_struckBy_1 (by decide) rfl ?_
  refine g_iconst dX12_struckBy_2 (inR_c rfl) ?_
  have c4 : ∀ (n : Nat) (y2 y3 : Int) , 0 ≤ y2 → y2 ≤ 255 → 0 ≤ y3 → y3 ≤ 8 → y2 = SB h x1 (y3).toNat → y3 ≤ h 98 4 → 8 - y3 < (n : Int) → G yX12_struckBy cX12_struckBy 4 (some .int) none Po (1, 60, 0, 0) 4 [some (pR 98), some (pI x1), some (pI y2), some (pI y3)] [] SH h 0 0 := by
    intro n
    induction n with
    | zero =>
      intro y2 y3 by2 dy2 by3 dy3 e4_0 e4_1 hn
      exfalso; omega
    | succ n ih4 =>
      intro y2 y3 by2 dy2 by3 dy3 e4_0 e4_1 hn
      refine g_iload_n dX12_struckBy_4 rfl (fun _ => ?_)
      refine g_aload_n dX12_struckBy_5 rfl ?_
      refine gE_X12_182 rfl dX12_struckBy_6 sh_98 ev1.symm ?_
      refine g_icmp_ge 42 dX12_struckBy_9 (by decide) (fun q4 => ?_) (fun q4 => ?_)
      · skip
        refine g_iload_n dX12_struckBy_42 rfl (fun _ => ?_)
        exact g_ireturn dX12_struckBy_43 retI (hPo _ ⟨(by omega), (by omega), (SB_e e4_0 (by omega))⟩)
      · skip
        refine g_iload_n dX12_struckBy_12 rfl (fun _ => ?_)
        refine g_aload_n dX12_struckBy_13 rfl ?_
        refine gR_X12_58 rfl dX12_struckBy_14 sh_98 (b := 113) (m_98_21 hM) ?_
        refine g_bipush dX12_struckBy_17 (inR_c rfl) (by decide) ?_
        refine g_iload_n dX12_struckBy_19 rfl (fun _ => ?_)
        refine g_imulB dX12_struckBy_20 (by omega) (by omega) ?_
        refine g_iload_n dX12_struckBy_21 rfl (fun _ => ?_)
        refine g_iaddB dX12_struckBy_22 (by omega) (by omega) ?_
        refine g_ialdB dX12_struckBy_23 sh_113 (by omega) (by omega) (m_113 hM _) (fun v5 ev5 bv5 cv5 => ?_)
        refine g_if_le 33 dX12_struckBy_24 (by decide) (fun q6 => ?_) (fun q6 => ?_)
        · skip
          refine g_iconst dX12_struckBy_33 (inR_c rfl) ?_
          refine g_iorX (lo := 0) (hi := 255) dX12_struckBy_34 (ior_b 8 (by decide) (by omega) (by omega) (by omega) (by omega)) (fun v7 ev7 bv7 cv7 => ?_)
          refine g_istore_n dX12_struckBy_35 (by decide) rfl ?_
          refine g_iincB dX12_struckBy_36 rfl rfl (by omega) (by omega) ?_
          refine g_goto 4 dX12_struckBy_39 (by decide) ?_
          exact ih4 _ _ (by omega) (by omega) (by omega) (by omega) (by first | exact SB_0 | exact SB_s1 e4_0 (by omega) (by assumption) (by omega) (by assumption) (by assumption) | exact SB_s0 e4_0 (by omega) (by assumption) (by omega) (by assumption)) (by omega) (by omega)
        · skip
          refine g_iconst dX12_struckBy_27 (inR_c rfl) ?_
          refine g_iload_n dX12_struckBy_28 rfl (fun _ => ?_)
          refine g_ishlX (lo := 1) (hi := 128) dX12_struckBy_29 (ishl1_b 7 (by decide) (by omega) (by omega)) (fun v8 ev8 bv8 cv8 => ?_)
          refine g_goto 34 dX12_struckBy_30 (by decide) ?_
          refine g_iorX (lo := 0) (hi := 255) dX12_struckBy_34 (ior_b 8 (by decide) (by omega) (by omega) (by omega) (by omega)) (fun v9 ev9 bv9 cv9 => ?_)
          refine g_istore_n dX12_struckBy_35 (by decide) rfl ?_
          refine g_iincB dX12_struckBy_36 rfl rfl (by omega) (by omega) ?_
          refine g_goto 4 dX12_struckBy_39 (by decide) ?_
          exact ih4 _ _ (by omega) (by omega) (by omega) (by omega) (by first | exact SB_0 | exact SB_s1 e4_0 (by omega) (by assumption) (by omega) (by assumption) (by assumption) | exact SB_s0 e4_0 (by omega) (by assumption) (by omega) (by assumption)) (by omega) (by omega)
  refine g_istore_n dX12_struckBy_3 (by decide) rfl ?_
  exact c4 9 _ _ (by omega) (by omega) (by omega) (by omega) (by first | exact SB_0 | exact SB_s1 e4_0 (by omega) (by assumption) (by omega) (by assumption) (by assumption) | exact SB_s0 e4_0 (by omega) (by assumption) (by omega) (by assumption)) (by omega) (by omega)
set_option maxRecDepth 100000 in
set_option maxHeartbeats 4000000 in
theorem c_X12_teachers_98 (x1 : Int) (h : MEM) (hM : MBm h) (bx1 : -2147483648 ≤ x1) (dx1 : x1 ≤ 2147483647) : CP yX12_teachers cX12_teachers 2 (some .int) 3 [pR 98, pI x1] h (fun x => -1 ≤ x ∧ x ≤ 255) := by
  refine CP.of (L0 := [some (pR 98), some (pI x1)]) rfl (Nat.le_of_ble_eq_true rfl) rfl (fun Po hPo hav => ?_)
  refine g_aload_n dX12_teachers_0 rfl ?_
  refine g_iload_n dX12_teachers_1 rfl (fun _ => ?_)
  refine g_cVP (as := [_]) (c_X12_isApprentice_98 _ h hM (by omega) (by omega)) dX12_teachers_2 mi_X12_isApprentice in_X12_isApprentice se_X12_isApprentice ml_X12_195 rfl rfl rfl sh_98 rfl rfl (Nat.le_of_ble_eq_true rfl) (fun v1 q2 => ?_)
  obtain ⟨v3, ev3⟩ : ∃ z, z = h 98 3 := ⟨_, rfl⟩
  have bv3 : 0 ≤ v3 ∧ v3 ≤ 8 := by rw [ev3]; exact (m_98_3 hM)
  rcases q2 with ⟨rfl, q2⟩ | ⟨rfl, q2⟩
  · skip
    refine g_if_eq 16 dX12_teachers_5 (by decide) (fun _ => by exfalso; omega) (fun q4 => ?_)
    refine g_aload_n dX12_teachers_8 rfl ?_
    refine g_iload_n dX12_teachers_9 rfl (fun _ => ?_)
    obtain ⟨v5, ev5⟩ : ∃ z, z = h 98 4 := ⟨_, rfl⟩
    have bv5 : 0 ≤ v5 ∧ v5 ≤ 8 := by rw [ev5]; exact (m_98_4 hM)
    refine g_cVP (as := [_]) (c_X12_struckBy_98 _ h hM (by omega) (by omega)) dX12_teachers_10 mi_X12_struckBy in_X12_struckBy se_X12_struckBy ml_X12_488 rfl rfl rfl sh_98 rfl rfl (Nat.le_of_ble_eq_true rfl) (fun v6 q7 => ?_)
    obtain ⟨bv6, cv6, zv6⟩ := q7
    refine g_goto 17 dX12_teachers_13 (by decide) ?_
    exact g_ireturn dX12_teachers_17 retI (hPo _ ⟨(by omega), (by omega)⟩)
  · skip
    refine g_if_eq 16 dX12_teachers_5 (by decide) (fun q8 => ?_) (fun _ => by exfalso; omega)
    refine g_iconst dX12_teachers_16 (inR_c rfl) ?_
    exact g_ireturn dX12_teachers_17 retI (hPo _ ⟨(by omega), (by omega)⟩)
set_option maxRecDepth 100000 in
set_option maxHeartbeats 4000000 in
theorem c_X12_laysFar_98 (x1 : Int) (h : MEM) (hM : MBm h) (bx1 : 0 ≤ x1) (dx1 : x1 ≤ 7) : CV yX12_laysFar cX12_laysFar 7 (none) 2 [pR 98, pI x1] h (fun h' => MBm h' ∧ Fr [(150, 0)] h h' ∧ (FI 8 h h')) := by
  refine CV.of (L0 := [some (pR 98), some (pI x1), none, none, none, none, none]) rfl (Nat.le_of_ble_eq_true rfl) rfl (fun Po hPo hav => ?_)
  obtain ⟨v1, ev1⟩ : ∃ z, z = h 98 4 := ⟨_, rfl⟩
  have bv1 : 0 ≤ v1 ∧ v1 ≤ 8 := by rw [ev1]; exact (m_98_4 hM)
  obtain ⟨v2, ev2⟩ : ∃ z, z = h 98 3 := ⟨_, rfl⟩
  have bv2 : 0 ≤ v2 ∧ v2 ≤ 8 := by rw [ev2]; exact (m_98_3 hM)
  refine g_iconst dX12_laysFar_0 (inR_c rfl) ?_
  have c2 : ∀ (n : Nat) (y3 : Int) (h4 : MEM), MBm h4 → Fr [(150, 0)] h h4 → 0 ≤ y3 → y3 ≤ 8 → FZ y3 h4 → 8 - y3 < (n : Int) → G yX12_laysFar cX12_laysFar 7 (none) none Po (2, 120, 0, 0) 2 [some (pR 98), some (pI x1), some (pI y3), none, none, none, none] [] SH h4 0 0 := by
    intro n
    induction n with
    | zero =>
      intro y3 h4 hMh4 hFh4 by3 dy3 e2_0 hn
      exfalso; omega
    | succ n ih2 =>
      intro y3 h4 hMh4 hFh4 by3 dy3 e2_0 hn
      refine g_iload_n dX12_laysFar_2 rfl (fun _ => ?_)
      refine g_bipush dX12_laysFar_3 (inR_c rfl) (by decide) ?_
      refine g_icmp_ge 32 dX12_laysFar_5 (by decide) (fun q5 => ?_) (fun q5 => ?_)
      · skip
        refine g_iconst dX12_laysFar_32 (inR_c rfl) ?_
        have c34 : ∀ (n : Nat) (y6 : Int) (h7 : MEM), MBm h7 → Fr [(150, 0)] h4 h7 → 0 ≤ y6 → y6 ≤ 8 → FI y6 h h7 → 8 - y6 < (n : Int) → G yX12_laysFar cX12_laysFar 7 (none) none Po (2, 120, 0, 0) 34 [some (pR 98), none, some (pI y6), none, none, none, none] [] SH h7 0 0 := by
          intro n
          induction n with
          | zero =>
            intro y6 h7 hMh7 hFh7 by6 dy6 e34_0 hn
            exfalso; omega
          | succ n ih34 =>
            intro y6 h7 hMh7 hFh7 by6 dy6 e34_0 hn
            refine g_iload_n dX12_laysFar_34 rfl (fun _ => ?_)
            refine g_bipush dX12_laysFar_35 (inR_c rfl) (by decide) ?_
            refine g_icmp_ge 159 dX12_laysFar_37 (by decide) (fun q8 => ?_) (fun q8 => ?_)
            · skip
              exact g_return dX12_laysFar_159 rfl (hPo _ ⟨hMh7, (Fr.tr (Fr.sub hFh4 rfl) hFh7 rfl), (FI_e e34_0 (by omega))⟩)
            · skip
              refine g_iconst dX12_laysFar_40 (inR_c rfl) ?_
              have c42 : ∀ (n : Nat) (y9 : Int) (h10 : MEM), MBm h10 → Fr [(150, 0)] h7 h10 → 0 ≤ y9 → y9 ≤ 8 → FI (y6 + 1) h h10 → 8 - y9 < (n : Int) → G yX12_laysFar cX12_laysFar 7 (none) none Po (2, 120, 0, 0) 42 [some (pR 98), none, some (pI y6), some (pI y9), none, none, none] [] SH h10 0 0 := by
                intro n
                induction n with
                | zero =>
                  intro y9 h10 hMh10 hFh10 by9 dy9 e42_0 hn
                  exfalso; omega
                | succ n ih42 =>
                  intro y9 h10 hMh10 hFh10 by9 dy9 e42_0 hn
                  refine g_iload_n dX12_laysFar_42 rfl (fun _ => ?_)
                  refine g_aload_n dX12_laysFar_43 rfl ?_
                  refine gE_X12_179 rfl dX12_laysFar_44 sh_98 ((hFh10 98 3 rfl).trans ((hFh7 98 3 rfl).trans ((hFh4 98 3 rfl).trans ev2.symm))) ?_
                  refine g_icmp_ge 153 dX12_laysFar_47 (by decide) (fun q11 => ?_) (fun q11 => ?_)
                  · skip
                    refine g_iincB dX12_laysFar_153 rfl rfl (by omega) (by omega) ?_
                    refine g_goto 34 dX12_laysFar_156 (by decide) ?_
                    refine g_drop 3 ?_
                    exact ih34 _ _ hMh10 (Fr.tr (Fr.sub hFh7 rfl) hFh10 rfl) (by omega) (by omega) (by first | exact FI_0 e2_0 (by omega) | assumption) (by omega)
                  · skip
                    refine g_aload_n dX12_laysFar_50 rfl ?_
                    refine g_iload_n dX12_laysFar_51 rfl (fun _ => ?_)
                    have q12 : h10 98 4 = v1 := ((hFh10 98 4 rfl).trans ((hFh7 98 4 rfl).trans ((hFh4 98 4 rfl).trans ev1.symm)))
                    refine g_cVP (as := [_]) (c_X12_struckBy_98 _ h10 hMh10 (by omega) (by omega)) dX12_laysFar_52 mi_X12_struckBy in_X12_struckBy se_X12_struckBy ml_X12_488 rfl rfl rfl sh_98 rfl rfl (Nat.le_of_ble_eq_true rfl) (fun v13 q14 => ?_)
                    obtain ⟨bv13, cv13, zv13⟩ := q14
                    have f3 : ∀ j, h10 113 j = h 113 j := fun j => ((hFh10 113 j rfl).trans ((hFh7 113 j rfl).trans (hFh4 113 j rfl)))
                    have eM : h10 98 4 = h 98 4 := ((hFh10 98 4 rfl).trans ((hFh7 98 4 rfl).trans (hFh4 98 4 rfl)))
                    have eA : h10 98 3 = h 98 3 := ((hFh10 98 3 rfl).trans ((hFh7 98 3 rfl).trans (hFh4 98 3 rfl)))
                    have sb : v13 = SB h y9 (h 98 4).toNat := sb_fr (by assumption) eM f3
                    refine g_istore dX12_laysFar_55 (by decide) rfl ?_
                    refine g_iconst dX12_laysFar_57 (inR_c rfl) ?_
                    have c60 : ∀ (n : Nat) (y15 : Int) (h16 : MEM), MBm h16 → Fr [(150, 0)] h10 h16 → 0 ≤ y15 → y15 ≤ 8 → FI (y6 + 1) h h16 → 8 - y15 < (n : Int) → G yX12_laysFar cX12_laysFar 7 (none) none Po (2, 120, 0, 0) 60 [some (pR 98), none, some (pI y6), some (pI y9), some (pI v13), some (pI y15), none] [] SH h16 0 0 := by
                      intro n
                      induction n with
                      | zero =>
                        intro y15 h16 hMh16 hFh16 by15 dy15 e60_0 hn
                        exfalso; omega
                      | succ n ih60 =>
                        intro y15 h16 hMh16 hFh16 by15 dy15 e60_0 hn
                        refine g_iload dX12_laysFar_60 rfl (fun _ => ?_)
                        refine g_aload_n dX12_laysFar_62 rfl ?_
                        refine gE_X12_182 rfl dX12_laysFar_63 sh_98 ((hFh16 98 4 rfl).trans ((hFh10 98 4 rfl).trans ((hFh7 98 4 rfl).trans ((hFh4 98 4 rfl).trans ev1.symm)))) ?_
                        refine g_icmp_ge 147 dX12_laysFar_66 (by decide) (fun q17 => ?_) (fun q17 => ?_)
                        · skip
                          refine g_iincB dX12_laysFar_147 rfl rfl (by omega) (by omega) ?_
                          refine g_goto 42 dX12_laysFar_150 (by decide) ?_
                          refine g_drop 4 ?_
                          refine g_drop 5 ?_
                          exact ih42 _ _ hMh16 (Fr.tr (Fr.sub hFh10 rfl) hFh16 rfl) (by omega) (by omega) (by first | assumption | exact FI_m e34_0) (by omega)
                        · skip
                          refine g_iconst dX12_laysFar_69 (inR_c rfl) ?_
                          have c72 : ∀ (n : Nat) (y18 : Int) (h19 : MEM), MBm h19 → Fr [(150, 0)] h16 h19 → 0 ≤ y18 → y18 ≤ 8 → FI (y6 + 1) h h19 → 8 - y18 < (n : Int) → G yX12_laysFar cX12_laysFar 7 (none) none Po (2, 120, 0, 0) 72 [some (pR 98), none, some (pI y6), some (pI y9), some (pI v13), some (pI y15), some (pI y18)] [] SH h19 0 0 := by
                            intro n
                            induction n with
                            | zero =>
                              intro y18 h19 hMh19 hFh19 by18 dy18 e72_0 hn
                              exfalso; omega
                            | succ n ih72 =>
                              intro y18 h19 hMh19 hFh19 by18 dy18 e72_0 hn
                              refine g_iload dX12_laysFar_72 rfl (fun _ => ?_)
                              refine g_aload_n dX12_laysFar_74 rfl ?_
                              refine gE_X12_182 rfl dX12_laysFar_75 sh_98 ((hFh19 98 4 rfl).trans ((hFh16 98 4 rfl).trans ((hFh10 98 4 rfl).trans ((hFh7 98 4 rfl).trans ((hFh4 98 4 rfl).trans ev1.symm))))) ?_
                              refine g_icmp_ge 141 dX12_laysFar_78 (by decide) (fun q20 => ?_) (fun q20 => ?_)
                              · skip
                                refine g_iincB dX12_laysFar_141 rfl rfl (by omega) (by omega) ?_
                                refine g_goto 60 dX12_laysFar_144 (by decide) ?_
                                refine g_drop 6 ?_
                                exact ih60 _ _ hMh19 (Fr.tr (Fr.sub hFh16 rfl) hFh19 rfl) (by omega) (by omega) (by assumption) (by omega)
                              · skip
                                refine g_iload dX12_laysFar_81 rfl (fun _ => ?_)
                                refine g_iload dX12_laysFar_83 rfl (fun _ => ?_)
                                refine g_cSP (av := [_, _]) (c_X12_has _ _ h19 hMh19 (by omega) (by omega) (by omega) (by omega)) dX12_laysFar_85 mi_X12_has st_X12_has ml_X12_362 rfl rfl rfl rfl (Nat.le_of_ble_eq_true rfl) (fun v21 q22 => ?_)
                                obtain ⟨bv21, cv21, zv21⟩ := q22
                                refine g_if_eq 135 dX12_laysFar_88 (by decide) (fun q23 => ?_) (fun q23 => ?_)
                                · skip
                                  refine g_iincB dX12_laysFar_135 rfl rfl (by omega) (by omega) ?_
                                  refine g_goto 72 dX12_laysFar_138 (by decide) ?_
                                  exact ih72 _ _ hMh19 (Fr.sub hFh19 rfl) (by omega) (by omega) (by assumption) (by omega)
                                · skip
                                  refine g_iload dX12_laysFar_91 rfl (fun _ => ?_)
                                  refine g_iload dX12_laysFar_93 rfl (fun _ => ?_)
                                  refine g_cSP (av := [_, _]) (c_X12_has _ _ h19 hMh19 (by omega) (by omega) (by omega) (by omega)) dX12_laysFar_95 mi_X12_has st_X12_has ml_X12_362 rfl rfl rfl rfl (Nat.le_of_ble_eq_true rfl) (fun v24 q25 => ?_)
                                  obtain ⟨bv24, cv24, zv24⟩ := q25
                                  refine g_if_eq 135 dX12_laysFar_98 (by decide) (fun q26 => ?_) (fun q26 => ?_)
                                  · skip
                                    refine g_iincB dX12_laysFar_135 rfl rfl (by omega) (by omega) ?_
                                    refine g_goto 72 dX12_laysFar_138 (by decide) ?_
                                    exact ih72 _ _ hMh19 (Fr.sub hFh19 rfl) (by omega) (by omega) (by assumption) (by omega)
                                  · skip
                                    refine g_aload_n dX12_laysFar_101 rfl ?_
                                    refine gR_X12_169 rfl dX12_laysFar_102 sh_98 (b := 150) (m_98_78 hMh19) ?_
                                    refine g_iload dX12_laysFar_105 rfl (fun _ => ?_)
                                    refine g_ialdB dX12_laysFar_107 sh_150 (by omega) (by omega) (m_150 hMh19 _) (fun v27 ev27 bv27 cv27 => ?_)
                                    refine g_iload_n dX12_laysFar_108 rfl (fun _ => ?_)
                                    refine g_icmp_ne 135 dX12_laysFar_109 (by decide) (fun q28 => ?_) (fun q28 => ?_)
                                    · skip
                                      refine g_iincB dX12_laysFar_135 rfl rfl (by omega) (by omega) ?_
                                      refine g_goto 72 dX12_laysFar_138 (by decide) ?_
                                      exact ih72 _ _ hMh19 (Fr.sub hFh19 rfl) (by omega) (by omega) (by assumption) (by omega)
                                    · skip
                                      refine g_aload_n dX12_laysFar_112 rfl ?_
                                      refine gR_X12_169 rfl dX12_laysFar_113 sh_98 (b := 150) (m_98_78 hMh19) ?_
                                      refine g_iload dX12_laysFar_116 rfl (fun _ => ?_)
                                      refine g_ialdB dX12_laysFar_118 sh_150 (by omega) (by omega) (m_150 hMh19 _) (fun v29 ev29 bv29 cv29 => ?_)
                                      refine g_iload_n dX12_laysFar_119 rfl (fun _ => ?_)
                                      refine g_iconst dX12_laysFar_120 (inR_c rfl) ?_
                                      refine g_iaddB dX12_laysFar_121 (by omega) (by omega) ?_
                                      refine g_icmp_le 135 dX12_laysFar_122 (by decide) (fun q30 => ?_) (fun q30 => ?_)
                                      · skip
                                        refine g_iincB dX12_laysFar_135 rfl rfl (by omega) (by omega) ?_
                                        refine g_goto 72 dX12_laysFar_138 (by decide) ?_
                                        exact ih72 _ _ hMh19 (Fr.sub hFh19 rfl) (by omega) (by omega) (by assumption) (by omega)
                                      · skip
                                        refine g_aload_n dX12_laysFar_125 rfl ?_
                                        refine gR_X12_169 rfl dX12_laysFar_126 sh_98 (b := 150) (m_98_78 hMh19) ?_
                                        refine g_iload dX12_laysFar_129 rfl (fun _ => ?_)
                                        refine g_iload_n dX12_laysFar_131 rfl (fun _ => ?_)
                                        refine g_iconst dX12_laysFar_132 (inR_c rfl) ?_
                                        refine g_iaddB dX12_laysFar_133 (by omega) (by omega) ?_
                                        refine g_iastB dX12_laysFar_134 sh_150 (by omega) (by omega) (fun h31 eh31 => ?_)
                                        have hFh31 := Fr.ar eh31
                                        have hMh31 := u_150 hMh19 eh31 (by omega) (by omega)
                                        have fi2 : FI (y6 + 1) h h31 := FI_s (b := y15) (d := y18) (a := y9) (by assumption) (by assumption) (by assumption) (by assumption) sb (by omega) (by omega) (by omega) (by omega) (by omega) (by omega) (by omega) (by omega) (has_t (by assumption) (by omega)) (has_t (by assumption) (by omega)) (by omega) (by omega)
                                        refine g_iincB dX12_laysFar_135 rfl rfl (by omega) (by omega) ?_
                                        refine g_goto 72 dX12_laysFar_138 (by decide) ?_
                                        exact ih72 _ _ hMh31 (Fr.tr (Fr.sub hFh19 rfl) hFh31 rfl) (by omega) (by omega) (by assumption) (by omega)
                          refine g_istore dX12_laysFar_70 (by decide) rfl ?_
                          exact c72 9 _ _ hMh16 Fr.rf (by omega) (by omega) (by assumption) (by omega)
                    refine g_istore dX12_laysFar_58 (by decide) rfl ?_
                    exact c60 9 _ _ hMh10 Fr.rf (by omega) (by omega) (by assumption) (by omega)
              refine g_istore_n dX12_laysFar_41 (by decide) rfl ?_
              exact c42 9 _ _ hMh7 Fr.rf (by omega) (by omega) (by first | assumption | exact FI_m e34_0) (by omega)
        refine g_istore_n dX12_laysFar_33 (by decide) rfl ?_
        refine g_drop 1 ?_
        exact c34 9 _ _ hMh4 Fr.rf (by omega) (by omega) (by first | exact FI_0 e2_0 (by omega) | assumption) (by omega)
      · skip
        refine g_aload_n dX12_laysFar_8 rfl ?_
        refine gR_X12_169 rfl dX12_laysFar_9 sh_98 (b := 150) (m_98_78 hMh4) ?_
        refine g_iload_n dX12_laysFar_12 rfl (fun _ => ?_)
        refine g_iload_n dX12_laysFar_13 rfl (fun _ => ?_)
        refine g_iload_n dX12_laysFar_14 rfl (fun _ => ?_)
        refine g_icmp_ne 22 dX12_laysFar_15 (by decide) (fun q32 => ?_) (fun q32 => ?_)
        · skip
          refine g_ldc_w (v := 1000000000) dX12_laysFar_22 kc_X12_434 (inR_c rfl) ?_
          refine g_iastB dX12_laysFar_25 sh_150 (by omega) (by omega) (fun h33 eh33 => ?_)
          have hFh33 := Fr.ar eh33
          have hMh33 := u_150 hMh4 eh33 (by omega) (by omega)
          refine g_iincB dX12_laysFar_26 rfl rfl (by omega) (by omega) ?_
          refine g_goto 2 dX12_laysFar_29 (by decide) ?_
          exact ih2 _ _ hMh33 (Fr.tr (Fr.sub hFh4 rfl) hFh33 rfl) (by omega) (by omega) (by first | exact FZ_0 | exact FZ_s e2_0 (by omega) (by assumption) (by omega)) (by omega)
        · skip
          refine g_iconst dX12_laysFar_18 (inR_c rfl) ?_
          refine g_goto 25 dX12_laysFar_19 (by decide) ?_
          refine g_iastB dX12_laysFar_25 sh_150 (by omega) (by omega) (fun h34 eh34 => ?_)
          have hFh34 := Fr.ar eh34
          have hMh34 := u_150 hMh4 eh34 (by omega) (by omega)
          refine g_iincB dX12_laysFar_26 rfl rfl (by omega) (by omega) ?_
          refine g_goto 2 dX12_laysFar_29 (by decide) ?_
          exact ih2 _ _ hMh34 (Fr.tr (Fr.sub hFh4 rfl) hFh34 rfl) (by omega) (by omega) (by first | exact FZ_0 | exact FZ_s e2_0 (by omega) (by assumption) (by omega)) (by omega)
  refine g_istore_n dX12_laysFar_1 (by decide) rfl ?_
  exact c2 9 _ _ hM Fr.rf (by omega) (by omega) (by first | exact FZ_0 | exact FZ_s e2_0 (by omega) (by assumption) (by omega)) (by omega)
set_option maxRecDepth 100000 in
set_option maxHeartbeats 4000000 in
theorem c_X12_thoseAt_98 (x1 x2 : Int) (h : MEM) (hM : MBm h) (bx1 : 0 ≤ x1) (dx1 : x1 ≤ 255) (bx2 : -7 ≤ x2) (dx2 : x2 ≤ 999999998) : CP yX12_thoseAt cX12_thoseAt 5 (some .int) 2 [pR 98, pI x1, pI x2] h (fun x => 0 ≤ x ∧ x ≤ 255 ∧ (x = TA h x1 x2 (h 98 4).toNat)) := by
  refine CP.of (L0 := [some (pR 98), some (pI x1), some (pI x2), none, none]) rfl (Nat.le_of_ble_eq_true rfl) rfl (fun Po hPo hav => ?_)
  obtain ⟨v1, ev1⟩ : ∃ z, z = h 98 4 := ⟨_, rfl⟩
  have bv1 : 0 ≤ v1 ∧ v1 ≤ 8 := by rw [ev1]; exact (m_98_4 hM)
  refine g_iconst dX12_thoseAt_0 (inR_c rfl) ?_
  refine g_istore_n dX12_thoseAt_1 (by decide) rfl ?_
  refine g_iconst dX12_thoseAt_2 (inR_c rfl) ?_
  have c5 : ∀ (n : Nat) (y2 y3 : Int) , 0 ≤ y2 → y2 ≤ 255 → 0 ≤ y3 → y3 ≤ 8 → y2 = TA h x1 x2 (y3).toNat → y3 ≤ h 98 4 → 8 - y3 < (n : Int) → G yX12_thoseAt cX12_thoseAt 5 (some .int) none Po (2, 120, 0, 0) 5 [some (pR 98), some (pI x1), some (pI x2), some (pI y2), some (pI y3)] [] SH h 0 0 := by
    intro n
    induction n with
    | zero =>
      intro y2 y3 by2 dy2 by3 dy3 e5_0 e5_1 hn
      exfalso; omega
    | succ n ih5 =>
      intro y2 y3 by2 dy2 by3 dy3 e5_0 e5_1 hn
      refine g_iload dX12_thoseAt_5 rfl (fun _ => ?_)
      refine g_aload_n dX12_thoseAt_7 rfl ?_
      refine gE_X12_182 rfl dX12_thoseAt_8 sh_98 ev1.symm ?_
      refine g_icmp_ge 51 dX12_thoseAt_11 (by decide) (fun q4 => ?_) (fun q4 => ?_)
      · skip
        refine g_iload_n dX12_thoseAt_51 rfl (fun _ => ?_)
        exact g_ireturn dX12_thoseAt_52 retI (hPo _ ⟨(by omega), (by omega), (TA_e e5_0 (by omega))⟩)
      · skip
        refine g_iload_n dX12_thoseAt_14 rfl (fun _ => ?_)
        refine g_iload_n dX12_thoseAt_15 rfl (fun _ => ?_)
        refine g_iload dX12_thoseAt_16 rfl (fun _ => ?_)
        refine g_cSP (av := [_, _]) (c_X12_has _ _ h hM (by omega) (by omega) (by omega) (by omega)) dX12_thoseAt_18 mi_X12_has st_X12_has ml_X12_362 rfl rfl rfl rfl (Nat.le_of_ble_eq_true rfl) (fun v5 q6 => ?_)
        obtain ⟨bv5, cv5, zv5⟩ := q6
        refine g_if_eq 42 dX12_thoseAt_21 (by decide) (fun q7 => ?_) (fun q7 => ?_)
        · skip
          refine g_iconst dX12_thoseAt_42 (inR_c rfl) ?_
          refine g_iorX (lo := 0) (hi := 255) dX12_thoseAt_43 (ior_b 8 (by decide) (by omega) (by omega) (by omega) (by omega)) (fun v8 ev8 bv8 cv8 => ?_)
          refine g_istore_n dX12_thoseAt_44 (by decide) rfl ?_
          refine g_iincB dX12_thoseAt_45 rfl rfl (by omega) (by omega) ?_
          refine g_goto 5 dX12_thoseAt_48 (by decide) ?_
          exact ih5 _ _ (by omega) (by omega) (by omega) (by omega) (by first | exact TA_0 | exact TA_s1 e5_0 (by omega) (has_t (by assumption) (by omega)) (by assumption) (by omega) (by assumption) (by assumption) | exact TA_s0 e5_0 (by omega) (Or.inl (has_f (by assumption) (by omega))) (by assumption) | exact TA_s0 e5_0 (by omega) (Or.inr (ne_of (by assumption) (by omega))) (by assumption)) (by omega) (by omega)
        · skip
          refine g_aload_n dX12_thoseAt_24 rfl ?_
          refine gR_X12_169 rfl dX12_thoseAt_25 sh_98 (b := 150) (m_98_78 hM) ?_
          refine g_iload dX12_thoseAt_28 rfl (fun _ => ?_)
          refine g_ialdB dX12_thoseAt_30 sh_150 (by omega) (by omega) (m_150 hM _) (fun v9 ev9 bv9 cv9 => ?_)
          refine g_iload_n dX12_thoseAt_31 rfl (fun _ => ?_)
          refine g_icmp_ne 42 dX12_thoseAt_32 (by decide) (fun q10 => ?_) (fun q10 => ?_)
          · skip
            refine g_iconst dX12_thoseAt_42 (inR_c rfl) ?_
            refine g_iorX (lo := 0) (hi := 255) dX12_thoseAt_43 (ior_b 8 (by decide) (by omega) (by omega) (by omega) (by omega)) (fun v11 ev11 bv11 cv11 => ?_)
            refine g_istore_n dX12_thoseAt_44 (by decide) rfl ?_
            refine g_iincB dX12_thoseAt_45 rfl rfl (by omega) (by omega) ?_
            refine g_goto 5 dX12_thoseAt_48 (by decide) ?_
            exact ih5 _ _ (by omega) (by omega) (by omega) (by omega) (by first | exact TA_0 | exact TA_s1 e5_0 (by omega) (has_t (by assumption) (by omega)) (by assumption) (by omega) (by assumption) (by assumption) | exact TA_s0 e5_0 (by omega) (Or.inl (has_f (by assumption) (by omega))) (by assumption) | exact TA_s0 e5_0 (by omega) (Or.inr (ne_of (by assumption) (by omega))) (by assumption)) (by omega) (by omega)
          · skip
            refine g_iconst dX12_thoseAt_35 (inR_c rfl) ?_
            refine g_iload dX12_thoseAt_36 rfl (fun _ => ?_)
            refine g_ishlX (lo := 1) (hi := 128) dX12_thoseAt_38 (ishl1_b 7 (by decide) (by omega) (by omega)) (fun v12 ev12 bv12 cv12 => ?_)
            refine g_goto 43 dX12_thoseAt_39 (by decide) ?_
            refine g_iorX (lo := 0) (hi := 255) dX12_thoseAt_43 (ior_b 8 (by decide) (by omega) (by omega) (by omega) (by omega)) (fun v13 ev13 bv13 cv13 => ?_)
            refine g_istore_n dX12_thoseAt_44 (by decide) rfl ?_
            refine g_iincB dX12_thoseAt_45 rfl rfl (by omega) (by omega) ?_
            refine g_goto 5 dX12_thoseAt_48 (by decide) ?_
            exact ih5 _ _ (by omega) (by omega) (by omega) (by omega) (by first | exact TA_0 | exact TA_s1 e5_0 (by omega) (has_t (by assumption) (by omega)) (by assumption) (by omega) (by assumption) (by assumption) | exact TA_s0 e5_0 (by omega) (Or.inl (has_f (by assumption) (by omega))) (by assumption) | exact TA_s0 e5_0 (by omega) (Or.inr (ne_of (by assumption) (by omega))) (by assumption)) (by omega) (by omega)
  refine g_istore dX12_thoseAt_3 (by decide) rfl ?_
  exact c5 9 _ _ (by omega) (by omega) (by omega) (by omega) (by first | exact TA_0 | exact TA_s1 e5_0 (by omega) (has_t (by assumption) (by omega)) (by assumption) (by omega) (by assumption) (by assumption) | exact TA_s0 e5_0 (by omega) (Or.inl (has_f (by assumption) (by omega))) (by assumption) | exact TA_s0 e5_0 (by omega) (Or.inr (ne_of (by assumption) (by omega))) (by assumption)) (by omega) (by omega)
set_option maxRecDepth 100000 in
set_option maxHeartbeats 4000000 in
theorem c_X12_chain_98 (x1 x2 x3 : Int) (h : MEM) (hM : MBm h) (bx1 : -2147483648 ≤ x1) (dx1 : x1 ≤ 2147483647) (bx2 : -2147483648 ≤ x2) (dx2 : x2 ≤ 2147483647) (bx3 : -2147483648 ≤ x3) (dx3 : x3 ≤ 2147483647) : CI yX12_chain cX12_chain 8 (some .int) 3 [pR 98, pI x1, pI x2, pI x3] h (fun x h' => MBm h' ∧ Fr [(150, 0)] h h' ∧ -3 ≤ x ∧ x ≤ 999999999) := by
  refine CI.of (L0 := [some (pR 98), some (pI x1), some (pI x2), some (pI x3), none, none, none, none]) rfl (Nat.le_of_ble_eq_true rfl) rfl (fun Po hPo hav => ?_)
  obtain ⟨v1, ev1⟩ : ∃ z, z = h 98 4 := ⟨_, rfl⟩
  have bv1 : 0 ≤ v1 ∧ v1 ≤ 8 := by rw [ev1]; exact (m_98_4 hM)
  obtain ⟨v2, ev2⟩ : ∃ z, z = h 98 3 := ⟨_, rfl⟩
  have bv2 : 0 ≤ v2 ∧ v2 ≤ 8 := by rw [ev2]; exact (m_98_3 hM)
  refine g_aload_n dX12_chain_0 rfl ?_
  refine g_iload_n dX12_chain_1 rfl (fun _ => ?_)
  refine g_cVP (as := [_]) (c_X12_isMaster_98 _ h hM (by omega) (by omega)) dX12_chain_2 mi_X12_isMaster in_X12_isMaster se_X12_isMaster ml_X12_201 rfl rfl rfl sh_98 rfl rfl (Nat.le_of_ble_eq_true rfl) (fun v3 q4 => ?_)
  have q5 : h 98 4 = v1 := ev1.symm
  rcases q4 with ⟨rfl, q4⟩ | ⟨rfl, q4⟩
  · skip
    refine g_if_eq 30 dX12_chain_5 (by decide) (fun _ => by exfalso; omega) (fun q6 => ?_)
    refine g_aload_n dX12_chain_8 rfl ?_
    refine g_iload_n dX12_chain_9 rfl (fun _ => ?_)
    refine g_cVP (as := [_]) (c_X12_isMaster_98 _ h hM (by omega) (by omega)) dX12_chain_10 mi_X12_isMaster in_X12_isMaster se_X12_isMaster ml_X12_201 rfl rfl rfl sh_98 rfl rfl (Nat.le_of_ble_eq_true rfl) (fun v7 q8 => ?_)
    have q9 : h 98 4 = v1 := ev1.symm
    rcases q8 with ⟨rfl, q8⟩ | ⟨rfl, q8⟩
    · skip
      refine g_if_eq 30 dX12_chain_13 (by decide) (fun _ => by exfalso; omega) (fun q10 => ?_)
      refine g_iload_n dX12_chain_16 rfl (fun _ => ?_)
      refine g_i2l dX12_chain_17 ?_
      refine g_ldc2 (v := -1) dX12_chain_18 kl_X12_482 (by decide) ?_
      refine g_ldc2 (v := 7) dX12_chain_21 kl_X12_491 (by decide) ?_
      refine g_cSP (av := [_, _, _]) (c_X12_lies _ _ _ h hM (by omega) (by omega) (by omega) (by omega) (by omega) (by omega)) dX12_chain_24 mi_X12_lies st_X12_lies ml_X12_175 rfl rfl rfl rfl (Nat.le_of_ble_eq_true rfl) (fun v11 q12 => ?_)
      rcases q12 with ⟨rfl, q12⟩ | ⟨rfl, q12⟩
      · skip
        refine g_if_ne 33 dX12_chain_27 (by decide) (fun q13 => ?_) (fun _ => by exfalso; omega)
        refine g_aload_n dX12_chain_33 rfl ?_
        refine g_iload_n dX12_chain_34 rfl (fun _ => ?_)
        refine g_cVV (as := [_]) (c_X12_laysFar_98 _ h hM (by omega) (by omega)) dX12_chain_35 mi_X12_laysFar in_X12_laysFar se_X12_laysFar ml_X12_493 rfl rfl rfl sh_98 rfl rfl (Nat.le_of_ble_eq_true rfl) (fun h14 q15 => ?_)
        obtain ⟨hMh14, hFh14, zh14⟩ := q15
        have f3 : ∀ j, h14 113 j = h 113 j := fun j => (hFh14 113 j rfl)
        have eM : h14 98 4 = h 98 4 := (hFh14 98 4 rfl)
        have eA : h14 98 3 = h 98 3 := (hFh14 98 3 rfl)
        have q16 : h14 98 4 = v1 := ((hFh14 98 4 rfl).trans ev1.symm)
        have q17 : h14 98 3 = v2 := ((hFh14 98 3 rfl).trans ev2.symm)
        have fi : FI 8 h14 h14 := FI_c (by assumption) f3 eA eM
        refine g_aload_n dX12_chain_38 rfl ?_
        refine gR_X12_169 rfl dX12_chain_39 sh_98 (b := 150) (m_98_78 hMh14) ?_
        refine g_iload_n dX12_chain_42 rfl (fun _ => ?_)
        refine g_ialdB dX12_chain_43 sh_150 (by omega) (by omega) (m_150 hMh14 _) (fun v18 ev18 bv18 cv18 => ?_)
        have a43 : 0 ≤ v18 ∧ v18 ≤ 1000000000 := (by have q := FI_v (b := x1) fi (by omega) (by omega) (by assumption) (by omega); omega)
        have fv := FI_v (b := x1) fi (by omega) (by omega) (by assumption) (by omega)
        refine g_istore dX12_chain_44 (by decide) rfl ?_
        refine g_iload dX12_chain_46 rfl (fun _ => ?_)
        refine g_ldc_w (v := 1000000000) dX12_chain_48 kc_X12_434 (inR_c rfl) ?_
        refine g_icmp_ne 57 dX12_chain_51 (by decide) (fun q19 => ?_) (fun q19 => ?_)
        · skip
          refine g_iload_n dX12_chain_57 rfl (fun _ => ?_)
          refine g_iconst dX12_chain_58 (inR_c rfl) ?_
          refine g_icmp_ne 65 dX12_chain_59 (by decide) (fun q20 => ?_) (fun q20 => ?_)
          · skip
            refine g_iload_n dX12_chain_65 rfl (fun _ => ?_)
            refine g_iload dX12_chain_66 rfl (fun _ => ?_)
            refine g_icmp_lt 74 dX12_chain_68 (by decide) (fun q21 => ?_) (fun q21 => ?_)
            · skip
              refine g_iconst dX12_chain_74 (inR_c rfl) ?_
              refine g_iload_n dX12_chain_75 rfl (fun _ => ?_)
              refine g_ishlX (lo := 1) (hi := 128) dX12_chain_76 (ishl1_b 7 (by decide) (by omega) (by omega)) (fun v22 ev22 bv22 cv22 => ?_)
              refine g_istore dX12_chain_77 (by decide) rfl ?_
              refine g_iconst dX12_chain_79 (inR_c rfl) ?_
              refine g_istore dX12_chain_80 (by decide) rfl ?_
              refine g_iconst dX12_chain_82 (inR_c rfl) ?_
              have c85 : ∀ (n : Nat) (y23 y24 y25 : Int) , 1 ≤ y23 → y23 ≤ 255 → 0 ≤ y24 → y24 ≤ 7 → 0 ≤ y25 → y25 ≤ 8 → AT h14 y23 (v18 - y25) → 8 - y25 < (n : Int) → G yX12_chain cX12_chain 8 (some .int) none Po (3, 180, 0, 0) 85 [some (pR 98), none, none, some (pI x3), some (pI v18), some (pI y23), some (pI y24), some (pI y25)] [] SH h14 0 0 := by
                intro n
                induction n with
                | zero =>
                  intro y23 y24 y25 by23 dy23 by24 dy24 by25 dy25 e85_0 hn
                  exfalso; omega
                | succ n ih85 =>
                  intro y23 y24 y25 by23 dy23 by24 dy24 by25 dy25 e85_0 hn
                  refine g_iload dX12_chain_85 rfl (fun _ => ?_)
                  refine g_iload_n dX12_chain_87 rfl (fun _ => ?_)
                  refine g_icmp_gt 157 dX12_chain_88 (by decide) (fun q26 => ?_) (fun q26 => ?_)
                  · skip
                    refine g_iload dX12_chain_157 rfl (fun _ => ?_)
                    exact g_ireturn dX12_chain_159 retI (hPo _ _ ⟨hMh14, (Fr.sub hFh14 rfl), (by omega), (by omega)⟩)
                  · skip
                    refine g_iconst dX12_chain_91 (inR_c rfl) ?_
                    have wi : WI h14 y23 (v18 - y25 - 1) 0 := WI_0 e85_0 fi (by omega) (by omega) (by omega) (by omega) (by omega)
                    have wb := WI_b wi (by omega)
                    have c94 : ∀ (n : Nat) (y27 : Int) , 0 ≤ y27 → y27 ≤ 8 → y27 ≤ 7 → WI h14 y23 (v18 - y25 - 1) y27 → 8 - y27 < (n : Int) → G yX12_chain cX12_chain 8 (some .int) none Po (3, 180, 0, 0) 94 [some (pR 98), none, none, some (pI x3), some (pI v18), some (pI y23), some (pI y27), some (pI y25)] [] SH h14 0 0 := by
                      intro n
                      induction n with
                      | zero =>
                        intro y27 by27 dy27 li94_0 e94_0 hn
                        exfalso; omega
                      | succ n ih94 =>
                        intro y27 by27 dy27 li94_0 e94_0 hn
                        refine g_aload_n dX12_chain_94 rfl ?_
                        refine g_iload dX12_chain_95 rfl (fun _ => ?_)
                        have q28 : h14 98 4 = v1 := ((hFh14 98 4 rfl).trans ev1.symm)
                        refine g_cVP (as := [_]) (c_X12_struckBy_98 _ h14 hMh14 (by omega) (by omega)) dX12_chain_97 mi_X12_struckBy in_X12_struckBy se_X12_struckBy ml_X12_488 rfl rfl rfl sh_98 rfl rfl (Nat.le_of_ble_eq_true rfl) (fun v29 q30 => ?_)
                        obtain ⟨bv29, cv29, zv29⟩ := q30
                        refine g_iload dX12_chain_100 rfl (fun _ => ?_)
                        refine g_iandX (lo := 0) (hi := y23) dX12_chain_102 (iand_r (by omega) (by omega)) (fun v31 ev31 bv31 cv31 => ?_)
                        refine g_if_eq 126 dX12_chain_103 (by decide) (fun q32 => ?_) (fun q32 => ?_)
                        · skip
                          refine g_iincB dX12_chain_126 rfl rfl (by omega) (by omega) ?_
                          have wi : WI h14 y23 (v18 - y25 - 1) (y27 + 1) := (by first | exact WI_s1 e94_0 (by assumption) (by assumption) (by omega) | exact WI_s2 e94_0 (by assumption) (by assumption) (by omega))
                          have wb := WI_b wi (by omega)
                          refine g_goto 94 dX12_chain_129 (by decide) ?_
                          exact ih94 _ (by omega) (by omega) (by omega) wi (by omega)
                        · skip
                          refine g_aload_n dX12_chain_106 rfl ?_
                          refine g_aload_n dX12_chain_107 rfl ?_
                          refine g_iload dX12_chain_108 rfl (fun _ => ?_)
                          have q33 : h14 98 4 = v1 := ((hFh14 98 4 rfl).trans ev1.symm)
                          refine g_cVP (as := [_]) (c_X12_struckBy_98 _ h14 hMh14 (by omega) (by omega)) dX12_chain_110 mi_X12_struckBy in_X12_struckBy se_X12_struckBy ml_X12_488 rfl rfl rfl sh_98 rfl rfl (Nat.le_of_ble_eq_true rfl) (fun v34 q35 => ?_)
                          obtain ⟨bv34, cv34, zv34⟩ := q35
                          have tv34 : v34 = v29 := by rw [zv34, zv29]
                          refine g_iload dX12_chain_113 rfl (fun _ => ?_)
                          refine g_iload dX12_chain_115 rfl (fun _ => ?_)
                          refine g_isubB dX12_chain_117 (by omega) (by omega) ?_
                          refine g_iconst dX12_chain_118 (inR_c rfl) ?_
                          refine g_isubB dX12_chain_119 (by omega) (by omega) ?_
                          have q36 : h14 98 4 = v1 := ((hFh14 98 4 rfl).trans ev1.symm)
                          refine g_cVP (as := [_, _]) (c_X12_thoseAt_98 _ _ h14 hMh14 (by omega) (by omega) (by omega) (by omega)) dX12_chain_120 mi_X12_thoseAt in_X12_thoseAt se_X12_thoseAt ml_X12_496 rfl rfl rfl sh_98 rfl rfl (Nat.le_of_ble_eq_true rfl) (fun v37 q38 => ?_)
                          obtain ⟨bv37, cv37, zv37⟩ := q38
                          refine g_if_ne 132 dX12_chain_123 (by decide) (fun q39 => ?_) (fun q39 => ?_)
                          · skip
                            refine g_aload_n dX12_chain_132 rfl ?_
                            refine g_aload_n dX12_chain_133 rfl ?_
                            refine g_iload dX12_chain_134 rfl (fun _ => ?_)
                            have q40 : h14 98 4 = v1 := ((hFh14 98 4 rfl).trans ev1.symm)
                            refine g_cVP (as := [_]) (c_X12_struckBy_98 _ h14 hMh14 (by omega) (by omega)) dX12_chain_136 mi_X12_struckBy in_X12_struckBy se_X12_struckBy ml_X12_488 rfl rfl rfl sh_98 rfl rfl (Nat.le_of_ble_eq_true rfl) (fun v41 q42 => ?_)
                            obtain ⟨bv41, cv41, zv41⟩ := q42
                            have tv41 : v41 = v29 := by rw [zv41, zv29]
                            refine g_iload dX12_chain_139 rfl (fun _ => ?_)
                            refine g_iload dX12_chain_141 rfl (fun _ => ?_)
                            refine g_isubB dX12_chain_143 (by omega) (by omega) ?_
                            refine g_iconst dX12_chain_144 (inR_c rfl) ?_
                            refine g_isubB dX12_chain_145 (by omega) (by omega) ?_
                            have q43 : h14 98 4 = v1 := ((hFh14 98 4 rfl).trans ev1.symm)
                            refine g_cVP (as := [_, _]) (c_X12_thoseAt_98 _ _ h14 hMh14 (by omega) (by omega) (by omega) (by omega)) dX12_chain_146 mi_X12_thoseAt in_X12_thoseAt se_X12_thoseAt ml_X12_496 rfl rfl rfl sh_98 rfl rfl (Nat.le_of_ble_eq_true rfl) (fun v44 q45 => ?_)
                            obtain ⟨bv44, cv44, zv44⟩ := q45
                            have tv44 : v44 = v37 := by first | (rw [zv44, zv37, tv41]; done) | (rw [zv44, zv37]; congr 1; omega)
                            refine g_istore dX12_chain_149 (by decide) rfl ?_
                            have at2 : AT h14 v44 (v18 - (y25 + 1)) := AT_s (by omega) (by omega) (by assumption) (by omega) (by assumption) (by assumption) (by assumption) (by omega)
                            refine g_iincB dX12_chain_151 rfl rfl (by omega) (by omega) ?_
                            refine g_goto 85 dX12_chain_154 (by decide) ?_
                            exact ih85 _ _ _ (by omega) (by omega) (by omega) (by omega) (by omega) (by omega) (by first | exact at2 | exact AT_0 (b := x1) (by omega) (by omega) (by omega) (by assumption) (by assumption)) (by omega)
                          · skip
                            refine g_iincB dX12_chain_126 rfl rfl (by omega) (by omega) ?_
                            have wi : WI h14 y23 (v18 - y25 - 1) (y27 + 1) := (by first | exact WI_s1 e94_0 (by assumption) (by assumption) (by omega) | exact WI_s2 e94_0 (by assumption) (by assumption) (by omega))
                            have wb := WI_b wi (by omega)
                            refine g_goto 94 dX12_chain_129 (by decide) ?_
                            exact ih94 _ (by omega) (by omega) (by omega) wi (by omega)
                    refine g_istore dX12_chain_92 (by decide) rfl ?_
                    exact c94 9 _ (by omega) (by omega) (by omega) wi (by omega)
              refine g_istore dX12_chain_83 (by decide) rfl ?_
              refine g_drop 1 ?_
              refine g_drop 2 ?_
              exact c85 9 _ _ _ (by omega) (by omega) (by omega) (by omega) (by omega) (by omega) (by first | exact at2 | exact AT_0 (b := x1) (by omega) (by omega) (by omega) (by assumption) (by assumption)) (by omega)
            · skip
              refine g_bipush dX12_chain_71 (inR_c rfl) (by decide) ?_
              exact g_ireturn dX12_chain_73 retI (hPo _ _ ⟨hMh14, (Fr.sub hFh14 rfl), (by omega), (by omega)⟩)
          · skip
            refine g_iload dX12_chain_62 rfl (fun _ => ?_)
            exact g_ireturn dX12_chain_64 retI (hPo _ _ ⟨hMh14, (Fr.sub hFh14 rfl), (by omega), (by omega)⟩)
        · skip
          refine g_bipush dX12_chain_54 (inR_c rfl) (by decide) ?_
          exact g_ireturn dX12_chain_56 retI (hPo _ _ ⟨hMh14, (Fr.sub hFh14 rfl), (by omega), (by omega)⟩)
      · skip
        refine g_if_ne 33 dX12_chain_27 (by decide) (fun _ => by exfalso; omega) (fun q46 => ?_)
        refine g_bipush dX12_chain_30 (inR_c rfl) (by decide) ?_
        exact g_ireturn dX12_chain_32 retI (hPo _ _ ⟨hM, Fr.rf, (by omega), (by omega)⟩)
    · skip
      refine g_if_eq 30 dX12_chain_13 (by decide) (fun q47 => ?_) (fun _ => by exfalso; omega)
      refine g_bipush dX12_chain_30 (inR_c rfl) (by decide) ?_
      exact g_ireturn dX12_chain_32 retI (hPo _ _ ⟨hM, Fr.rf, (by omega), (by omega)⟩)
  · skip
    refine g_if_eq 30 dX12_chain_5 (by decide) (fun q48 => ?_) (fun _ => by exfalso; omega)
    refine g_bipush dX12_chain_30 (inR_c rfl) (by decide) ?_
    exact g_ireturn dX12_chain_32 retI (hPo _ _ ⟨hM, Fr.rf, (by omega), (by omega)⟩)
set_option maxRecDepth 100000 in
set_option maxHeartbeats 4000000 in
theorem c_X12_divisor (x1 x2 : Int) (h : MEM) (hM : MBm h) (bx1 : 0 ≤ x1) (dx1 : x1 ≤ 1000) (bx2 : 1 ≤ x2) (dx2 : x2 ≤ 1000) : CP yX12_divisor cX12_divisor 5 (some .int) 1 [pI x1, pI x2] h (fun x => 1 ≤ x ∧ x ≤ 1000) := by
  refine CP.of (L0 := [some (pI x1), some (pI x2), none, none, none]) rfl (Nat.le_of_ble_eq_true rfl) rfl (fun Po hPo hav => ?_)
  refine g_iload_n dX12_divisor_0 rfl (fun _ => ?_)
  refine g_istore_n dX12_divisor_1 (by decide) rfl ?_
  refine g_iload_n dX12_divisor_2 rfl (fun _ => ?_)
  have c4 : ∀ (n : Nat) (y1 y2 : Int) , 0 ≤ y1 → y1 ≤ 1000 → 0 ≤ y2 → y2 ≤ 1000 → (-1) * y1 + (-1) * y2 ≤ -1 → y2 < (n : Int) → G yX12_divisor cX12_divisor 5 (some .int) none Po (1, 60, 0, 0) 4 [none, none, some (pI y1), some (pI y2), none] [] SH h 0 0 := by
    intro n
    induction n with
    | zero =>
      intro y1 y2 by1 dy1 by2 dy2 li4_0 hn
      exfalso; omega
    | succ n ih4 =>
      intro y1 y2 by1 dy1 by2 dy2 li4_0 hn
      refine g_iload_n dX12_divisor_4 rfl (fun _ => ?_)
      refine g_if_eq 21 dX12_divisor_5 (by decide) (fun q3 => ?_) (fun q3 => ?_)
      · skip
        refine g_iload_n dX12_divisor_21 rfl (fun _ => ?_)
        exact g_ireturn dX12_divisor_22 retI (hPo _ ⟨(by omega), (by omega)⟩)
      · skip
        refine g_iload_n dX12_divisor_8 rfl (fun _ => ?_)
        refine g_iload_n dX12_divisor_9 rfl (fun _ => ?_)
        refine g_iremX (lo := 0) (hi := y2 - 1) dX12_divisor_10 (by omega) (irem_b (by omega) (by omega) (by omega)) (fun v4 ev4 bv4 cv4 => ?_)
        refine g_istore dX12_divisor_11 (by decide) rfl ?_
        refine g_iload_n dX12_divisor_13 rfl (fun _ => ?_)
        refine g_istore_n dX12_divisor_14 (by decide) rfl ?_
        refine g_iload dX12_divisor_15 rfl (fun _ => ?_)
        refine g_istore_n dX12_divisor_17 (by decide) rfl ?_
        refine g_goto 4 dX12_divisor_18 (by decide) ?_
        refine g_drop 4 ?_
        exact ih4 _ _ (by omega) (by omega) (by omega) (by omega) (by omega) (by omega)
  refine g_istore_n dX12_divisor_3 (by decide) rfl ?_
  refine g_drop 0 ?_
  refine g_drop 1 ?_
  exact c4 1001 _ _ (by omega) (by omega) (by omega) (by omega) (by omega) (by omega)
set_option maxRecDepth 100000 in
set_option maxHeartbeats 4000000 in
theorem c_X12_odds_98 (x1 x2 x3 x4 : Int) (gi gs : Nat → Int) (h : MEM) (hM : MBm h) (bx1 : -2147483648 ≤ x1) (dx1 : x1 ≤ 2147483647) (bx2 : -2147483648 ≤ x2) (dx2 : x2 ≤ 2147483647) (bx3 : -2147483648 ≤ x3) (dx3 : x3 ≤ 2147483647) (bx4 : -2147483648 ≤ x4) (dx4 : x4 ≤ 2147483647) (p0_0 : 0 ≤ h 98 5) (p0_1 : h 98 5 ≤ 999600) (f_WFL : WFL h) (f_IS : ISn gi h) (f_S1 : S1n gs h) : CI yX12_odds cX12_odds 10 (some .int) 8 [pR 98, pI x1, pI x2, pI x3, pI x4] h (fun x h' => MBm h' ∧ Fr [(98, 3), (98, 4), (98, 5), (98, 6), (98, 7), (98, 8), (98, 47), (98, 48), (98, 49), (98, 52), (100, 0), (101, 0), (102, 0), (103, 0), (104, 0), (105, 0), (106, 0), (107, 0), (108, 0), (109, 0), (110, 0), (111, 0), (112, 0), (113, 0), (114, 0), (128, 0), (129, 0), (130, 0), (131, 0), (132, 0), (133, 0), (134, 0), (135, 0), (136, 0), (137, 0), (138, 0), (139, 0), (140, 0), (141, 0), (142, 0), (143, 0), (144, 0), (145, 1), (145, 2), (145, 3), (145, 4), (145, 5), (145, 6)] h h' ∧ -1 ≤ x ∧ x ≤ 1000 ∧ ISn gi h' ∧ S1n gs h' ∧ h' 98 2 = h 98 2 ∧ h' 98 3 = h 98 3 ∧ h' 98 4 = h 98 4 ∧ h' 98 5 = h 98 5) := by
  refine CI.of (L0 := [some (pR 98), some (pI x1), some (pI x2), some (pI x3), some (pI x4), none, none, none, none, none]) rfl (Nat.le_of_ble_eq_true rfl) rfl (fun Po hPo hav => ?_)
  obtain ⟨v1, ev1⟩ : ∃ z, z = h 98 2 := ⟨_, rfl⟩
  have bv1 : 0 ≤ v1 ∧ v1 ≤ 10 := by rw [ev1]; exact (m_98_2 hM)
  obtain ⟨v2, ev2⟩ : ∃ z, z = h 98 3 := ⟨_, rfl⟩
  have bv2 : 0 ≤ v2 ∧ v2 ≤ 8 := by rw [ev2]; exact (m_98_3 hM)
  obtain ⟨v3, ev3⟩ : ∃ z, z = h 98 4 := ⟨_, rfl⟩
  have bv3 : 0 ≤ v3 ∧ v3 ≤ 8 := by rw [ev3]; exact (m_98_4 hM)
  obtain ⟨v4, ev4⟩ : ∃ z, z = h 98 5 := ⟨_, rfl⟩
  have bv4 : 0 ≤ v4 ∧ v4 ≤ 2000000000 := by rw [ev4]; exact (m_98_5 hM)
  obtain ⟨w98_5, ew98_5⟩ : ∃ z, z = h 98 5 := ⟨_, rfl⟩
  have q5 : h 98 2 = v1 := ev1.symm
  have q6 : h 98 3 = v2 := ev2.symm
  have q7 : h 98 4 = v3 := ev3.symm
  have q8 : h 98 5 = w98_5 := ew98_5.symm
  refine g_aload_n dX12_odds_0 rfl ?_
  refine g_iload_n dX12_odds_1 rfl (fun _ => ?_)
  refine g_cVP (as := [_]) (c_X12_isMaster_98 _ h hM (by omega) (by omega)) dX12_odds_2 mi_X12_isMaster in_X12_isMaster se_X12_isMaster ml_X12_201 rfl rfl rfl sh_98 rfl rfl (Nat.le_of_ble_eq_true rfl) (fun v9 q10 => ?_)
  have q11 : h 98 4 = v3 := ev3.symm
  rcases q10 with ⟨rfl, q10⟩ | ⟨rfl, q10⟩
  · skip
    refine g_if_eq 43 dX12_odds_5 (by decide) (fun _ => by exfalso; omega) (fun q12 => ?_)
    refine g_iload_n dX12_odds_8 rfl (fun _ => ?_)
    refine g_i2l dX12_odds_9 ?_
    refine g_lconst (v := 1) dX12_odds_10 rfl ?_
    refine g_ldc2 (v := 3) dX12_odds_11 kl_X12_417 (by decide) ?_
    refine g_cSP (av := [_, _, _]) (c_X12_lies _ _ _ h hM (by omega) (by omega) (by omega) (by omega) (by omega) (by omega)) dX12_odds_14 mi_X12_lies st_X12_lies ml_X12_175 rfl rfl rfl rfl (Nat.le_of_ble_eq_true rfl) (fun v13 q14 => ?_)
    rcases q14 with ⟨rfl, q14⟩ | ⟨rfl, q14⟩
    · skip
      refine g_if_eq 43 dX12_odds_17 (by decide) (fun _ => by exfalso; omega) (fun q15 => ?_)
      refine g_iload_n dX12_odds_20 rfl (fun _ => ?_)
      refine g_i2l dX12_odds_21 ?_
      refine g_lconst (v := 0) dX12_odds_22 rfl ?_
      refine g_ldc2 (v := 999) dX12_odds_23 kl_X12_499 (by decide) ?_
      refine g_cSP (av := [_, _, _]) (c_X12_lies _ _ _ h hM (by omega) (by omega) (by omega) (by omega) (by omega) (by omega)) dX12_odds_26 mi_X12_lies st_X12_lies ml_X12_175 rfl rfl rfl rfl (Nat.le_of_ble_eq_true rfl) (fun v16 q17 => ?_)
      rcases q17 with ⟨rfl, q17⟩ | ⟨rfl, q17⟩
      · skip
        refine g_if_eq 43 dX12_odds_29 (by decide) (fun _ => by exfalso; omega) (fun q18 => ?_)
        refine g_iload dX12_odds_32 rfl (fun _ => ?_)
        refine g_i2l dX12_odds_34 ?_
        refine g_lconst (v := 0) dX12_odds_35 rfl ?_
        refine g_lconst (v := 1) dX12_odds_36 rfl ?_
        refine g_cSP (av := [_, _, _]) (c_X12_lies _ _ _ h hM (by omega) (by omega) (by omega) (by omega) (by omega) (by omega)) dX12_odds_37 mi_X12_lies st_X12_lies ml_X12_175 rfl rfl rfl rfl (Nat.le_of_ble_eq_true rfl) (fun v19 q20 => ?_)
        rcases q20 with ⟨rfl, q20⟩ | ⟨rfl, q20⟩
        · skip
          refine g_if_ne 45 dX12_odds_40 (by decide) (fun q21 => ?_) (fun _ => by exfalso; omega)
          refine g_iconst dX12_odds_45 (inR_c rfl) ?_
          refine g_istore dX12_odds_46 (by decide) rfl ?_
          refine g_iconst dX12_odds_48 (inR_c rfl) ?_
          have c51 : ∀ (n : Nat) (y22 y23 : Int) , 1 ≤ y22 → y22 ≤ 100000000 → 0 ≤ y23 → y23 ≤ 3 → y23 ≤ 3 → (-1) * y22 ≤ -1 → PW y22 y23 → 3 - y23 < (n : Int) → G yX12_odds cX12_odds 10 (some .int) none Po (8, 480, 0, 0) 51 [some (pR 98), some (pI x1), some (pI x2), some (pI x3), some (pI x4), some (pI y22), some (pI y23), none, none, none] [] SH h 0 0 := by
            intro n
            induction n with
            | zero =>
              intro y22 y23 by22 dy22 by23 dy23 li51_0 li51_1 e51_0 hn
              exfalso; omega
            | succ n ih51 =>
              intro y22 y23 by22 dy22 by23 dy23 li51_0 li51_1 e51_0 hn
              refine g_iload dX12_odds_51 rfl (fun _ => ?_)
              refine g_iload_n dX12_odds_53 rfl (fun _ => ?_)
              refine g_icmp_ge 70 dX12_odds_54 (by decide) (fun q24 => ?_) (fun q24 => ?_)
              · skip
                refine g_iconst dX12_odds_70 (inR_c rfl) ?_
                have al25 : 1 ≤ y22 ∧ y22 ≤ 1000 := ⟨by omega, PW_3 e51_0 (by omega) (by omega)⟩
                refine g_istore dX12_odds_71 (by decide) rfl ?_
                refine g_iconst dX12_odds_73 (inR_c rfl) ?_
                have c76 : ∀ (n : Nat) (y26 y27 : Int) (h28 : MEM), MBm h28 → Fr [(98, 3), (98, 4), (98, 5), (98, 6), (98, 7), (98, 8), (98, 47), (98, 48), (98, 49), (98, 52), (100, 0), (101, 0), (102, 0), (103, 0), (104, 0), (105, 0), (106, 0), (107, 0), (108, 0), (109, 0), (110, 0), (111, 0), (112, 0), (113, 0), (114, 0), (128, 0), (129, 0), (130, 0), (131, 0), (132, 0), (133, 0), (134, 0), (135, 0), (136, 0), (137, 0), (138, 0), (139, 0), (140, 0), (141, 0), (142, 0), (143, 0), (144, 0), (145, 1), (145, 2), (145, 3), (145, 4), (145, 5), (145, 6)] h h28 → 0 ≤ y26 → y26 ≤ 1000 → 0 ≤ y27 → y27 ≤ 1000 → h28 98 2 = v1 → h28 98 3 = v2 → h28 98 4 = v3 → h28 98 5 = w98_5 → y27 + (-1) * y22 ≤ 0 → y26 + (-1) * y27 ≤ 0 → ISn gi h28 → S1n gs h28 → 1000 - y27 < (n : Int) → G yX12_odds cX12_odds 10 (some .int) none Po (8, 480, 0, 0) 76 [some (pR 98), some (pI x1), some (pI x2), some (pI x3), some (pI x4), some (pI y22), some (pI y26), some (pI y27), none, none] [] SH h28 0 0 := by
                  intro n
                  induction n with
                  | zero =>
                    intro y26 y27 h28 hMh28 hFh28 by26 dy26 by27 dy27 kp76_98_2 kp76_98_3 kp76_98_4 kp76_98_5 li76_0 li76_1 e76_0 e76_1 hn
                    exfalso; omega
                  | succ n ih76 =>
                    intro y26 y27 h28 hMh28 hFh28 by26 dy26 by27 dy27 kp76_98_2 kp76_98_3 kp76_98_4 kp76_98_5 li76_0 li76_1 e76_0 e76_1 hn
                    refine g_iload dX12_odds_76 rfl (fun _ => ?_)
                    refine g_iload dX12_odds_78 rfl (fun _ => ?_)
                    refine g_icmp_ge 154 dX12_odds_80 (by decide) (fun q29 => ?_) (fun q29 => ?_)
                    · skip
                      refine g_iload dX12_odds_154 rfl (fun _ => ?_)
                      refine g_iload dX12_odds_156 rfl (fun _ => ?_)
                      refine g_cSP (av := [_, _]) (c_X12_divisor _ _ h28 hMh28 (by omega) (by omega) (by omega) (by omega)) dX12_odds_158 mi_X12_divisor st_X12_divisor ml_X12_501 rfl rfl rfl rfl (Nat.le_of_ble_eq_true rfl) (fun v30 q31 => ?_)
                      obtain ⟨bv30, cv30⟩ := q31
                      refine g_istore dX12_odds_161 (by decide) rfl ?_
                      refine g_iload dX12_odds_163 rfl (fun _ => ?_)
                      refine g_if_ne 176 dX12_odds_165 (by decide) (fun q32 => ?_) (fun q32 => ?_)
                      · skip
                        refine g_iload dX12_odds_176 rfl (fun _ => ?_)
                        refine g_iload dX12_odds_178 rfl (fun _ => ?_)
                        refine g_idivX (lo := 0) (hi := y22) dX12_odds_180 (by omega) (idiv_b (by omega) (by omega) (by omega)) (fun v33 ev33 bv33 cv33 => ?_)
                        have q34 : h28 98 2 = v1 := kp76_98_2
                        have q35 : h28 98 3 = v2 := kp76_98_3
                        have q36 : h28 98 4 = v3 := kp76_98_4
                        have q37 : h28 98 5 = w98_5 := kp76_98_5
                        exact g_ireturn dX12_odds_181 retI (hPo _ _ ⟨hMh28, (Fr.sub hFh28 rfl), (by omega), (by omega), e76_0, e76_1, (by omega), (by omega), (by omega), (by omega)⟩)
                      · skip
                        refine g_iload dX12_odds_168 rfl (fun _ => ?_)
                        refine g_iload dX12_odds_170 rfl (fun _ => ?_)
                        refine g_idivX (lo := 0) (hi := y26) dX12_odds_172 (by omega) (idiv_b (by omega) (by omega) (by omega)) (fun v38 ev38 bv38 cv38 => ?_)
                        refine g_goto 181 dX12_odds_173 (by decide) ?_
                        have q39 : h28 98 2 = v1 := kp76_98_2
                        have q40 : h28 98 3 = v2 := kp76_98_3
                        have q41 : h28 98 4 = v3 := kp76_98_4
                        have q42 : h28 98 5 = w98_5 := kp76_98_5
                        exact g_ireturn dX12_odds_181 retI (hPo _ _ ⟨hMh28, (Fr.sub hFh28 rfl), (by omega), (by omega), e76_0, e76_1, (by omega), (by omega), (by omega), (by omega)⟩)
                    · skip
                      refine g_aload_n dX12_odds_83 rfl ?_
                      refine g_iconst dX12_odds_84 (inR_c rfl) ?_
                      have q43 : h28 98 2 = v1 := kp76_98_2
                      have q44 : h28 98 3 = v2 := kp76_98_3
                      have q45 : h28 98 4 = v3 := kp76_98_4
                      have q46 : h28 98 5 = w98_5 := kp76_98_5
                      refine g_cVV (as := [_]) (c_X12_setsAside_98_k0 _ _ h28 hMh28 e76_0 e76_1) dX12_odds_85 mi_X12_setsAside in_X12_setsAside se_X12_setsAside ml_X12_419 rfl rfl rfl sh_98 rfl rfl (Nat.le_of_ble_eq_true rfl) (fun h47 q48 => ?_)
                      obtain ⟨hMh47, hFh47, z49, z50, z51, z52, z53, z54⟩ := q48
                      have kz51 : h47 145 0 = v1 := by omega
                      have kz52 : h47 145 1 = v2 := by omega
                      have kz53 : h47 145 2 = v3 := by omega
                      have kz54 : h47 145 3 = w98_5 := by omega
                      refine g_iload dX12_odds_88 rfl (fun _ => ?_)
                      refine g_istore dX12_odds_90 (by decide) rfl ?_
                      refine g_iconst dX12_odds_92 (inR_c rfl) ?_
                      have c95 : ∀ (n : Nat) (y55 y56 : Int) (h57 : MEM), MBm h57 → Fr [(98, 6), (98, 8), (98, 47), (98, 48), (98, 49), (98, 52), (101, 0), (105, 0), (107, 0), (111, 0), (112, 0), (113, 0), (128, 0), (129, 0)] h47 h57 → 0 ≤ y55 → y55 ≤ 1000 → 0 ≤ y56 → y56 ≤ 3 → h57 98 5 ≤ h 98 5 + y56 → 0 ≤ h57 98 5 → 3 - y56 < (n : Int) → G yX12_odds cX12_odds 10 (some .int) none Po (8, 480, 0, 0) 95 [some (pR 98), some (pI x1), some (pI x2), some (pI x3), some (pI x4), some (pI y22), some (pI y26), some (pI y27), some (pI y55), some (pI y56)] [] SH h57 0 0 := by
                        intro n
                        induction n with
                        | zero =>
                          intro y55 y56 h57 hMh57 hFh57 by55 dy55 by56 dy56 e95_0 e95_1 hn
                          exfalso; omega
                        | succ n ih95 =>
                          intro y55 y56 h57 hMh57 hFh57 by55 dy55 by56 dy56 e95_0 e95_1 hn
                          refine g_iload dX12_odds_95 rfl (fun _ => ?_)
                          refine g_iload_n dX12_odds_97 rfl (fun _ => ?_)
                          refine g_icmp_ge 123 dX12_odds_98 (by decide) (fun q58 => ?_) (fun q58 => ?_)
                          · skip
                            refine g_iload dX12_odds_123 rfl (fun _ => ?_)
                            refine g_aload_n dX12_odds_125 rfl ?_
                            refine gR_X12_52 rfl dX12_odds_126 sh_98 (b := 111) (m_98_19 hMh57) ?_
                            refine g_iload_n dX12_odds_129 rfl (fun _ => ?_)
                            refine g_ialdB dX12_odds_130 sh_111 (by omega) (by omega) (m_111 hMh57 _) (fun v59 ev59 bv59 cv59 => ?_)
                            refine g_iload_n dX12_odds_131 rfl (fun _ => ?_)
                            refine g_icmp_lt 139 dX12_odds_132 (by decide) (fun q60 => ?_) (fun q60 => ?_)
                            · skip
                              refine g_iconst dX12_odds_139 (inR_c rfl) ?_
                              refine g_iaddB dX12_odds_140 (by omega) (by omega) ?_
                              refine g_istore dX12_odds_141 (by decide) rfl ?_
                              refine g_aload_n dX12_odds_143 rfl ?_
                              refine g_iconst dX12_odds_144 (inR_c rfl) ?_
                              have q61 : h57 145 0 = v1 := ((hFh57 145 _ rfl).trans kz51)
                              have q62 : h57 145 1 = v2 := ((hFh57 145 _ rfl).trans kz52)
                              have q63 : h57 145 2 = v3 := ((hFh57 145 _ rfl).trans kz53)
                              have q64 : h57 145 3 = w98_5 := ((hFh57 145 _ rfl).trans kz54)
                              refine g_cVV (as := [_]) (c_X12_putsBack_98_k0 _ h57 hMh57 (S0n.fr (T := [(98, 6), (98, 8), (98, 47), (98, 48), (98, 49), (98, 52), (101, 0), (105, 0), (107, 0), (111, 0), (112, 0), (113, 0), (128, 0), (129, 0)]) z49 (Fr.sub hFh57 rfl) rfl)) dX12_odds_145 mi_X12_putsBack in_X12_putsBack se_X12_putsBack ml_X12_428 rfl rfl rfl sh_98 rfl rfl (Nat.le_of_ble_eq_true rfl) (fun h65 q66 => ?_)
                              obtain ⟨hMh65, hFh65, z67, z68, z69, z70, z71⟩ := q66
                              have kz68 : h65 98 2 = v1 := by omega
                              have kz69 : h65 98 3 = v2 := by omega
                              have kz70 : h65 98 4 = v3 := by omega
                              have kz71 : h65 98 5 = w98_5 := by omega
                              refine g_iincB dX12_odds_148 rfl rfl (by omega) (by omega) ?_
                              refine g_goto 76 dX12_odds_151 (by decide) ?_
                              refine g_drop 8 ?_
                              refine g_drop 9 ?_
                              have q72 : h65 98 2 = v1 := kz68
                              have q73 : h65 98 3 = v2 := kz69
                              have q74 : h65 98 4 = v3 := kz70
                              have q75 : h65 98 5 = w98_5 := kz71
                              exact ih76 _ _ _ hMh65 (Fr.tr (Fr.tr (Fr.tr (Fr.sub hFh28 rfl) hFh47 rfl) hFh57 rfl) hFh65 rfl) (by omega) (by omega) (by omega) (by omega) (by omega) (by omega) (by omega) (by omega) (by omega) (by omega) z67 (S1n.fr (T := [(98, 3), (98, 4), (98, 5), (98, 6), (98, 7), (98, 8), (98, 47), (98, 48), (98, 49), (98, 52), (100, 0), (101, 0), (102, 0), (103, 0), (104, 0), (105, 0), (106, 0), (107, 0), (108, 0), (109, 0), (110, 0), (111, 0), (112, 0), (113, 0), (114, 0), (128, 0), (129, 0)]) z50 (Fr.tr (Fr.sub hFh57 rfl) hFh65 rfl) rfl) (by omega)
                            · skip
                              refine g_iconst dX12_odds_135 (inR_c rfl) ?_
                              refine g_goto 140 dX12_odds_136 (by decide) ?_
                              refine g_iaddB dX12_odds_140 (by omega) (by omega) ?_
                              refine g_istore dX12_odds_141 (by decide) rfl ?_
                              refine g_aload_n dX12_odds_143 rfl ?_
                              refine g_iconst dX12_odds_144 (inR_c rfl) ?_
                              have q76 : h57 145 0 = v1 := ((hFh57 145 _ rfl).trans kz51)
                              have q77 : h57 145 1 = v2 := ((hFh57 145 _ rfl).trans kz52)
                              have q78 : h57 145 2 = v3 := ((hFh57 145 _ rfl).trans kz53)
                              have q79 : h57 145 3 = w98_5 := ((hFh57 145 _ rfl).trans kz54)
                              refine g_cVV (as := [_]) (c_X12_putsBack_98_k0 _ h57 hMh57 (S0n.fr (T := [(98, 6), (98, 8), (98, 47), (98, 48), (98, 49), (98, 52), (101, 0), (105, 0), (107, 0), (111, 0), (112, 0), (113, 0), (128, 0), (129, 0)]) z49 (Fr.sub hFh57 rfl) rfl)) dX12_odds_145 mi_X12_putsBack in_X12_putsBack se_X12_putsBack ml_X12_428 rfl rfl rfl sh_98 rfl rfl (Nat.le_of_ble_eq_true rfl) (fun h80 q81 => ?_)
                              obtain ⟨hMh80, hFh80, z82, z83, z84, z85, z86⟩ := q81
                              have kz83 : h80 98 2 = v1 := by omega
                              have kz84 : h80 98 3 = v2 := by omega
                              have kz85 : h80 98 4 = v3 := by omega
                              have kz86 : h80 98 5 = w98_5 := by omega
                              refine g_iincB dX12_odds_148 rfl rfl (by omega) (by omega) ?_
                              refine g_goto 76 dX12_odds_151 (by decide) ?_
                              refine g_drop 8 ?_
                              refine g_drop 9 ?_
                              have q87 : h80 98 2 = v1 := kz83
                              have q88 : h80 98 3 = v2 := kz84
                              have q89 : h80 98 4 = v3 := kz85
                              have q90 : h80 98 5 = w98_5 := kz86
                              exact ih76 _ _ _ hMh80 (Fr.tr (Fr.tr (Fr.tr (Fr.sub hFh28 rfl) hFh47 rfl) hFh57 rfl) hFh80 rfl) (by omega) (by omega) (by omega) (by omega) (by omega) (by omega) (by omega) (by omega) (by omega) (by omega) z82 (S1n.fr (T := [(98, 3), (98, 4), (98, 5), (98, 6), (98, 7), (98, 8), (98, 47), (98, 48), (98, 49), (98, 52), (100, 0), (101, 0), (102, 0), (103, 0), (104, 0), (105, 0), (106, 0), (107, 0), (108, 0), (109, 0), (110, 0), (111, 0), (112, 0), (113, 0), (114, 0), (128, 0), (129, 0)]) z50 (Fr.tr (Fr.sub hFh57 rfl) hFh80 rfl) rfl) (by omega)
                          · skip
                            refine g_aload_n dX12_odds_101 rfl ?_
                            refine g_iload dX12_odds_102 rfl (fun _ => ?_)
                            refine g_bipush dX12_odds_104 (inR_c rfl) (by decide) ?_
                            refine g_iremX (lo := 0) (hi := 9) dX12_odds_106 (by omega) (irem_b (by omega) (by omega) (by omega)) (fun v91 ev91 bv91 cv91 => ?_)
                            obtain ⟨v92, ev92⟩ : ∃ z, z = h57 98 5 := ⟨_, rfl⟩
                            have bv92 : 0 ≤ v92 ∧ v92 ≤ 2000000000 := by rw [ev92]; exact (m_98_5 hMh57)
                            have q93 : h57 98 5 = v92 := ev92.symm
                            refine g_cVV (as := [_]) (c_X12_passes_98 _ h57 hMh57 (by omega) (by omega) (by omega) (by omega) (WFL.fr (T := [(98, 3), (98, 4), (98, 5), (98, 6), (98, 7), (98, 8), (98, 47), (98, 48), (98, 49), (98, 52), (100, 0), (101, 0), (102, 0), (103, 0), (104, 0), (105, 0), (106, 0), (107, 0), (108, 0), (109, 0), (110, 0), (111, 0), (112, 0), (113, 0), (114, 0), (128, 0), (129, 0), (130, 0), (131, 0), (132, 0), (133, 0), (134, 0), (135, 0), (136, 0), (137, 0), (138, 0), (139, 0), (140, 0), (141, 0), (142, 0), (143, 0), (144, 0), (145, 1), (145, 2), (145, 3), (145, 4), (145, 5), (145, 6)]) f_WFL (Fr.tr (Fr.tr (Fr.sub hFh28 rfl) hFh47 rfl) hFh57 rfl) rfl)) dX12_odds_107 mi_X12_passes in_X12_passes se_X12_passes ml_X12_393 rfl rfl rfl sh_98 rfl rfl (Nat.le_of_ble_eq_true rfl) (fun h94 q95 => ?_)
                            obtain ⟨hMh94, hFh94, z96⟩ := q95
                            have kz96 : h94 98 5 = (v92 + 1) := by omega
                            refine g_iload dX12_odds_110 rfl (fun _ => ?_)
                            refine g_bipush dX12_odds_112 (inR_c rfl) (by decide) ?_
                            refine g_idivX (lo := 0) (hi := y55) dX12_odds_114 (by omega) (idiv_b (by omega) (by omega) (by omega)) (fun v97 ev97 bv97 cv97 => ?_)
                            refine g_istore dX12_odds_115 (by decide) rfl ?_
                            refine g_iincB dX12_odds_117 rfl rfl (by omega) (by omega) ?_
                            refine g_goto 95 dX12_odds_120 (by decide) ?_
                            have q98 : h94 98 5 = (v92 + 1) := kz96
                            exact ih95 _ _ _ hMh94 (Fr.tr (Fr.sub hFh57 rfl) hFh94 rfl) (by omega) (by omega) (by omega) (by omega) (by omega) (by omega) (by omega)
                      refine g_istore dX12_odds_93 (by decide) rfl ?_
                      have q99 : h47 98 5 = w98_5 := ((hFh47 98 5 rfl).trans kp76_98_5)
                      exact c95 4 _ _ _ hMh47 Fr.rf (by omega) (by omega) (by omega) (by omega) (by omega) (by omega) (by omega)
                refine g_istore dX12_odds_74 (by decide) rfl ?_
                have q100 : h 98 2 = v1 := ev1.symm
                have q101 : h 98 3 = v2 := ev2.symm
                have q102 : h 98 4 = v3 := ev3.symm
                have q103 : h 98 5 = w98_5 := ew98_5.symm
                exact c76 1001 _ _ _ hM Fr.rf (by omega) (by omega) (by omega) (by omega) (by omega) (by omega) (by omega) (by omega) (by omega) (by omega) f_IS f_S1 (by omega)
              · skip
                refine g_iload dX12_odds_57 rfl (fun _ => ?_)
                have al104 : 1 ≤ y22 ∧ y22 ≤ 10000000 := ⟨by omega, PW_b e51_0 (by omega) (by omega)⟩
                refine g_bipush dX12_odds_59 (inR_c rfl) (by decide) ?_
                refine g_imulB dX12_odds_61 (by omega) (by omega) ?_
                refine g_istore dX12_odds_62 (by decide) rfl ?_
                refine g_iincB dX12_odds_64 rfl rfl (by omega) (by omega) ?_
                refine g_goto 51 dX12_odds_67 (by decide) ?_
                exact ih51 _ _ (by omega) (by omega) (by omega) (by omega) (by omega) (by omega) (by first | exact PW_0 | exact PW_u e51_0 (by omega)) (by omega)
          refine g_istore dX12_odds_49 (by decide) rfl ?_
          exact c51 4 _ _ (by omega) (by omega) (by omega) (by omega) (by omega) (by omega) (by first | exact PW_0 | exact PW_u e51_0 (by omega)) (by omega)
        · skip
          refine g_if_ne 45 dX12_odds_40 (by decide) (fun _ => by exfalso; omega) (fun q105 => ?_)
          refine g_iconst dX12_odds_43 (inR_c rfl) ?_
          have q106 : h 98 2 = v1 := ev1.symm
          have q107 : h 98 3 = v2 := ev2.symm
          have q108 : h 98 4 = v3 := ev3.symm
          have q109 : h 98 5 = w98_5 := ew98_5.symm
          exact g_ireturn dX12_odds_44 retI (hPo _ _ ⟨hM, Fr.rf, (by omega), (by omega), f_IS, f_S1, (by omega), (by omega), (by omega), (by omega)⟩)
      · skip
        refine g_if_eq 43 dX12_odds_29 (by decide) (fun q110 => ?_) (fun _ => by exfalso; omega)
        refine g_iconst dX12_odds_43 (inR_c rfl) ?_
        have q111 : h 98 2 = v1 := ev1.symm
        have q112 : h 98 3 = v2 := ev2.symm
        have q113 : h 98 4 = v3 := ev3.symm
        have q114 : h 98 5 = w98_5 := ew98_5.symm
        exact g_ireturn dX12_odds_44 retI (hPo _ _ ⟨hM, Fr.rf, (by omega), (by omega), f_IS, f_S1, (by omega), (by omega), (by omega), (by omega)⟩)
    · skip
      refine g_if_eq 43 dX12_odds_17 (by decide) (fun q115 => ?_) (fun _ => by exfalso; omega)
      refine g_iconst dX12_odds_43 (inR_c rfl) ?_
      have q116 : h 98 2 = v1 := ev1.symm
      have q117 : h 98 3 = v2 := ev2.symm
      have q118 : h 98 4 = v3 := ev3.symm
      have q119 : h 98 5 = w98_5 := ew98_5.symm
      exact g_ireturn dX12_odds_44 retI (hPo _ _ ⟨hM, Fr.rf, (by omega), (by omega), f_IS, f_S1, (by omega), (by omega), (by omega), (by omega)⟩)
  · skip
    refine g_if_eq 43 dX12_odds_5 (by decide) (fun q120 => ?_) (fun _ => by exfalso; omega)
    refine g_iconst dX12_odds_43 (inR_c rfl) ?_
    have q121 : h 98 2 = v1 := ev1.symm
    have q122 : h 98 3 = v2 := ev2.symm
    have q123 : h 98 4 = v3 := ev3.symm
    have q124 : h 98 5 = w98_5 := ew98_5.symm
    exact g_ireturn dX12_odds_44 retI (hPo _ _ ⟨hM, Fr.rf, (by omega), (by omega), f_IS, f_S1, (by omega), (by omega), (by omega), (by omega)⟩)
set_option maxRecDepth 100000 in
set_option maxHeartbeats 4000000 in
theorem c_X12_seed_98 (x1 : Int) (h : MEM) (hM : MBm h) (bx1 : -2147483648 ≤ x1) (dx1 : x1 ≤ 2147483647) : CI yX12_seed cX12_seed 2 (some .boolean) 2 [pR 98, pI x1] h (fun x h' => MBm h' ∧ Fr [(98, 7)] h h' ∧ 0 ≤ x ∧ x ≤ 1 ∧ ((0 ≤ x1 ∧ x1 ≤ 65535 ∧ x = 1) ∨ (¬ (0 ≤ x1 ∧ x1 ≤ 65535) ∧ x = 0))) := by
  refine CI.of (L0 := [some (pR 98), some (pI x1)]) rfl (Nat.le_of_ble_eq_true rfl) rfl (fun Po hPo hav => ?_)
  refine g_iload_n dX12_seed_0 rfl (fun _ => ?_)
  refine g_i2l dX12_seed_1 ?_
  refine g_lconst (v := 0) dX12_seed_2 rfl ?_
  refine g_ldc2 (v := 65535) dX12_seed_3 kl_X12_504 (by decide) ?_
  refine g_cSP (av := [_, _, _]) (c_X12_lies _ _ _ h hM (by omega) (by omega) (by omega) (by omega) (by omega) (by omega)) dX12_seed_6 mi_X12_lies st_X12_lies ml_X12_175 rfl rfl rfl rfl (Nat.le_of_ble_eq_true rfl) (fun v1 q2 => ?_)
  rcases q2 with ⟨rfl, q2⟩ | ⟨rfl, q2⟩
  · skip
    refine g_if_ne 14 dX12_seed_9 (by decide) (fun q3 => ?_) (fun _ => by exfalso; omega)
    refine g_aload_n dX12_seed_14 rfl ?_
    refine g_iload_n dX12_seed_15 rfl (fun _ => ?_)
    refine pI_X12_13 rfl dX12_seed_16 sh_98 (fun h4 eh4 => ?_)
    have hFh4 := Fr.st eh4
    have hMh4 := u_98_6 hM eh4 (by omega) (by omega)
    refine g_iconst dX12_seed_19 (inR_c rfl) ?_
    exact g_ireturn dX12_seed_20 (retZ (by omega)) (hPo _ _ ⟨hMh4, (Fr.sub hFh4 rfl), (by omega), (by omega), (by omega)⟩)
  · skip
    refine g_if_ne 14 dX12_seed_9 (by decide) (fun _ => by exfalso; omega) (fun q5 => ?_)
    refine g_iconst dX12_seed_12 (inR_c rfl) ?_
    exact g_ireturn dX12_seed_13 (retZ (by omega)) (hPo _ _ ⟨hM, Fr.rf, (by omega), (by omega), (by omega)⟩)
set_option maxRecDepth 100000 in
set_option maxHeartbeats 4000000 in
theorem c_X12_setsAside_98_k1 (gi : Nat → Int) (h : MEM) (hM : MBm h) (f_IS : ISn gi h) : CV yX12_setsAside cX12_setsAside 3 (none) 1 [pR 98, pI 1] h (fun h' => MBm h' ∧ Fr [(130, 0), (131, 0), (132, 0), (133, 0), (134, 0), (135, 0), (136, 0), (137, 0), (138, 0), (139, 0), (140, 0), (141, 0), (142, 0), (143, 0), (144, 0), (145, 7), (145, 8), (145, 9), (145, 10), (145, 11), (145, 12)] h h' ∧ S1n gi h' ∧ h' 145 6 = h 98 2 ∧ h' 145 7 = h 98 3 ∧ h' 145 8 = h 98 4 ∧ h' 145 9 = h 98 5) := by
  refine CV.of (L0 := [some (pR 98), some (pI 1), none]) rfl (Nat.le_of_ble_eq_true rfl) rfl (fun Po hPo hav => ?_)
  obtain ⟨v1, ev1⟩ : ∃ z, z = h 98 2 := ⟨_, rfl⟩
  have bv1 : 0 ≤ v1 ∧ v1 ≤ 10 := by rw [ev1]; exact (m_98_2 hM)
  obtain ⟨v2, ev2⟩ : ∃ z, z = h 98 3 := ⟨_, rfl⟩
  have bv2 : 0 ≤ v2 ∧ v2 ≤ 8 := by rw [ev2]; exact (m_98_3 hM)
  obtain ⟨v3, ev3⟩ : ∃ z, z = h 98 4 := ⟨_, rfl⟩
  have bv3 : 0 ≤ v3 ∧ v3 ≤ 8 := by rw [ev3]; exact (m_98_4 hM)
  obtain ⟨v4, ev4⟩ : ∃ z, z = h 98 5 := ⟨_, rfl⟩
  have bv4 : 0 ≤ v4 ∧ v4 ≤ 2000000000 := by rw [ev4]; exact (m_98_5 hM)
  refine g_iconst dX12_setsAside_0 (inR_c rfl) ?_
  have c2 : ∀ (n : Nat) (y5 : Int) (h6 : MEM), MBm h6 → Fr [(130, 0), (131, 0), (132, 0)] h h6 → 0 ≤ y5 → y5 ≤ 10 → 10 - y5 < (n : Int) → G yX12_setsAside cX12_setsAside 3 (none) none Po (1, 60, 0, 0) 2 [some (pR 98), some (pI 1), some (pI y5)] [] SH h6 0 0 := by
    intro n
    induction n with
    | zero =>
      intro y5 h6 hMh6 hFh6 by5 dy5 hn
      exfalso; omega
    | succ n ih2 =>
      intro y5 h6 hMh6 hFh6 by5 dy5 hn
      refine g_iload_n dX12_setsAside_2 rfl (fun _ => ?_)
      refine g_bipush dX12_setsAside_3 (inR_c rfl) (by decide) ?_
      refine g_icmp_ge 65 dX12_setsAside_5 (by decide) (fun q7 => ?_) (fun q7 => ?_)
      · skip
        refine g_iconst dX12_setsAside_65 (inR_c rfl) ?_
        have c67 : ∀ (n : Nat) (y8 : Int) (h9 : MEM), MBm h9 → Fr [(133, 0), (134, 0), (136, 0), (137, 0), (138, 0), (139, 0), (140, 0), (141, 0)] h6 h9 → 0 ≤ y8 → y8 ≤ 8 → 8 - y8 < (n : Int) → G yX12_setsAside cX12_setsAside 3 (none) none Po (1, 60, 0, 0) 67 [some (pR 98), some (pI 1), some (pI y8)] [] SH h9 0 0 := by
          intro n
          induction n with
          | zero =>
            intro y8 h9 hMh9 hFh9 by8 dy8 hn
            exfalso; omega
          | succ n ih67 =>
            intro y8 h9 hMh9 hFh9 by8 dy8 hn
            refine g_iload_n dX12_setsAside_67 rfl (fun _ => ?_)
            refine g_bipush dX12_setsAside_68 (inR_c rfl) (by decide) ?_
            refine g_icmp_ge 215 dX12_setsAside_70 (by decide) (fun q10 => ?_) (fun q10 => ?_)
            · skip
              refine g_iconst dX12_setsAside_215 (inR_c rfl) ?_
              have c217 : ∀ (n : Nat) (y11 : Int) (h12 : MEM), MBm h12 → Fr [(135, 0)] h9 h12 → 0 ≤ y11 → y11 ≤ 40 → 40 - y11 < (n : Int) → G yX12_setsAside cX12_setsAside 3 (none) none Po (1, 60, 0, 0) 217 [some (pR 98), some (pI 1), some (pI y11)] [] SH h12 0 0 := by
                intro n
                induction n with
                | zero =>
                  intro y11 h12 hMh12 hFh12 by11 dy11 hn
                  exfalso; omega
                | succ n ih217 =>
                  intro y11 h12 hMh12 hFh12 by11 dy11 hn
                  refine g_iload_n dX12_setsAside_217 rfl (fun _ => ?_)
                  refine g_bipush dX12_setsAside_218 (inR_c rfl) (by decide) ?_
                  refine g_icmp_ge 246 dX12_setsAside_220 (by decide) (fun q13 => ?_) (fun q13 => ?_)
                  · skip
                    refine g_iconst dX12_setsAside_246 (inR_c rfl) ?_
                    have c248 : ∀ (n : Nat) (y14 : Int) (h15 : MEM), MBm h15 → Fr [(142, 0), (143, 0)] h12 h15 → 0 ≤ y14 → y14 ≤ 64 → 64 - y14 < (n : Int) → G yX12_setsAside cX12_setsAside 3 (none) none Po (1, 60, 0, 0) 248 [some (pR 98), some (pI 1), some (pI y14)] [] SH h15 0 0 := by
                      intro n
                      induction n with
                      | zero =>
                        intro y14 h15 hMh15 hFh15 by14 dy14 hn
                        exfalso; omega
                      | succ n ih248 =>
                        intro y14 h15 hMh15 hFh15 by14 dy14 hn
                        refine g_iload_n dX12_setsAside_248 rfl (fun _ => ?_)
                        refine g_bipush dX12_setsAside_249 (inR_c rfl) (by decide) ?_
                        refine g_icmp_ge 294 dX12_setsAside_251 (by decide) (fun q16 => ?_) (fun q16 => ?_)
                        · skip
                          refine g_iconst dX12_setsAside_294 (inR_c rfl) ?_
                          have c296 : ∀ (n : Nat) (y17 : Int) (h18 : MEM), MBm h18 → Fr [(144, 0)] h15 h18 → 0 ≤ y17 → y17 ≤ 100 → SA1 gi y17 h18 → 100 - y17 < (n : Int) → G yX12_setsAside cX12_setsAside 3 (none) none Po (1, 60, 0, 0) 296 [some (pR 98), some (pI 1), some (pI y17)] [] SH h18 0 0 := by
                            intro n
                            induction n with
                            | zero =>
                              intro y17 h18 hMh18 hFh18 by17 dy17 e296_0 hn
                              exfalso; omega
                            | succ n ih296 =>
                              intro y17 h18 hMh18 hFh18 by17 dy17 e296_0 hn
                              refine g_iload_n dX12_setsAside_296 rfl (fun _ => ?_)
                              refine g_bipush dX12_setsAside_297 (inR_c rfl) (by decide) ?_
                              refine g_icmp_ge 325 dX12_setsAside_299 (by decide) (fun q19 => ?_) (fun q19 => ?_)
                              · skip
                                refine g_aload_n dX12_setsAside_325 rfl ?_
                                have s0f : S1n gi h18 := SA1_e e296_0 (by omega)
                                refine gR_X12_154 rfl dX12_setsAside_326 sh_98 (b := 145) (m_98_70 hMh18) ?_
                                refine g_bipush dX12_setsAside_329 (inR_c rfl) (by decide) ?_
                                refine g_iload_n dX12_setsAside_331 rfl (fun _ => ?_)
                                refine g_imulB dX12_setsAside_332 (by omega) (by omega) ?_
                                refine g_aload_n dX12_setsAside_333 rfl ?_
                                refine gE_X12_172 rfl dX12_setsAside_334 sh_98 ((hFh18 98 2 rfl).trans ((hFh15 98 2 rfl).trans ((hFh12 98 2 rfl).trans ((hFh9 98 2 rfl).trans ((hFh6 98 2 rfl).trans ev1.symm))))) ?_
                                refine g_iastB dX12_setsAside_337 sh_145 (by omega) (by omega) (fun h20 eh20 => ?_)
                                have hFh20 := Fr.st eh20
                                have hMh20 := u_145_6 hMh18 eh20 (by omega) (by omega)
                                refine g_aload_n dX12_setsAside_338 rfl ?_
                                refine gR_X12_154 rfl dX12_setsAside_339 sh_98 (b := 145) (m_98_70 hMh20) ?_
                                refine g_bipush dX12_setsAside_342 (inR_c rfl) (by decide) ?_
                                refine g_iload_n dX12_setsAside_344 rfl (fun _ => ?_)
                                refine g_imulB dX12_setsAside_345 (by omega) (by omega) ?_
                                refine g_iconst dX12_setsAside_346 (inR_c rfl) ?_
                                refine g_iaddB dX12_setsAside_347 (by omega) (by omega) ?_
                                refine g_aload_n dX12_setsAside_348 rfl ?_
                                refine gE_X12_179 rfl dX12_setsAside_349 sh_98 ((hFh20 98 3 rfl).trans ((hFh18 98 3 rfl).trans ((hFh15 98 3 rfl).trans ((hFh12 98 3 rfl).trans ((hFh9 98 3 rfl).trans ((hFh6 98 3 rfl).trans ev2.symm)))))) ?_
                                refine g_iastB dX12_setsAside_352 sh_145 (by omega) (by omega) (fun h21 eh21 => ?_)
                                have hFh21 := Fr.st eh21
                                have hMh21 := u_145_7 hMh20 eh21 (by omega) (by omega)
                                refine g_aload_n dX12_setsAside_353 rfl ?_
                                refine gR_X12_154 rfl dX12_setsAside_354 sh_98 (b := 145) (m_98_70 hMh21) ?_
                                refine g_bipush dX12_setsAside_357 (inR_c rfl) (by decide) ?_
                                refine g_iload_n dX12_setsAside_359 rfl (fun _ => ?_)
                                refine g_imulB dX12_setsAside_360 (by omega) (by omega) ?_
                                refine g_iconst dX12_setsAside_361 (inR_c rfl) ?_
                                refine g_iaddB dX12_setsAside_362 (by omega) (by omega) ?_
                                refine g_aload_n dX12_setsAside_363 rfl ?_
                                refine gE_X12_182 rfl dX12_setsAside_364 sh_98 ((hFh21 98 4 rfl).trans ((hFh20 98 4 rfl).trans ((hFh18 98 4 rfl).trans ((hFh15 98 4 rfl).trans ((hFh12 98 4 rfl).trans ((hFh9 98 4 rfl).trans ((hFh6 98 4 rfl).trans ev3.symm))))))) ?_
                                refine g_iastB dX12_setsAside_367 sh_145 (by omega) (by omega) (fun h22 eh22 => ?_)
                                have hFh22 := Fr.st eh22
                                have hMh22 := u_145_8 hMh21 eh22 (by omega) (by omega)
                                refine g_aload_n dX12_setsAside_368 rfl ?_
                                refine gR_X12_154 rfl dX12_setsAside_369 sh_98 (b := 145) (m_98_70 hMh22) ?_
                                refine g_bipush dX12_setsAside_372 (inR_c rfl) (by decide) ?_
                                refine g_iload_n dX12_setsAside_374 rfl (fun _ => ?_)
                                refine g_imulB dX12_setsAside_375 (by omega) (by omega) ?_
                                refine g_iconst dX12_setsAside_376 (inR_c rfl) ?_
                                refine g_iaddB dX12_setsAside_377 (by omega) (by omega) ?_
                                refine g_aload_n dX12_setsAside_378 rfl ?_
                                refine gE_X12_334 rfl dX12_setsAside_379 sh_98 ((hFh22 98 5 rfl).trans ((hFh21 98 5 rfl).trans ((hFh20 98 5 rfl).trans ((hFh18 98 5 rfl).trans ((hFh15 98 5 rfl).trans ((hFh12 98 5 rfl).trans ((hFh9 98 5 rfl).trans ((hFh6 98 5 rfl).trans ev4.symm)))))))) ?_
                                refine g_iastB dX12_setsAside_382 sh_145 (by omega) (by omega) (fun h23 eh23 => ?_)
                                have hFh23 := Fr.st eh23
                                have hMh23 := u_145_9 hMh22 eh23 (by omega) (by omega)
                                refine g_aload_n dX12_setsAside_383 rfl ?_
                                refine gR_X12_154 rfl dX12_setsAside_384 sh_98 (b := 145) (m_98_70 hMh23) ?_
                                refine g_bipush dX12_setsAside_387 (inR_c rfl) (by decide) ?_
                                refine g_iload_n dX12_setsAside_389 rfl (fun _ => ?_)
                                refine g_imulB dX12_setsAside_390 (by omega) (by omega) ?_
                                refine g_iconst dX12_setsAside_391 (inR_c rfl) ?_
                                refine g_iaddB dX12_setsAside_392 (by omega) (by omega) ?_
                                refine g_aload_n dX12_setsAside_393 rfl ?_
                                refine gI_X12_13 rfl dX12_setsAside_394 sh_98 (m_98_6 hMh23) (fun v24 ev24 bv24 cv24 => ?_)
                                refine g_iastB dX12_setsAside_397 sh_145 (by omega) (by omega) (fun h25 eh25 => ?_)
                                have hFh25 := Fr.st eh25
                                have hMh25 := u_145_10 hMh23 eh25 (by omega) (by omega)
                                refine g_aload_n dX12_setsAside_398 rfl ?_
                                refine gR_X12_154 rfl dX12_setsAside_399 sh_98 (b := 145) (m_98_70 hMh25) ?_
                                refine g_bipush dX12_setsAside_402 (inR_c rfl) (by decide) ?_
                                refine g_iload_n dX12_setsAside_404 rfl (fun _ => ?_)
                                refine g_imulB dX12_setsAside_405 (by omega) (by omega) ?_
                                refine g_iconst dX12_setsAside_406 (inR_c rfl) ?_
                                refine g_iaddB dX12_setsAside_407 (by omega) (by omega) ?_
                                refine g_aload_n dX12_setsAside_408 rfl ?_
                                refine gI_X12_372 rfl dX12_setsAside_409 sh_98 (m_98_7 hMh25) (fun v26 ev26 bv26 cv26 => ?_)
                                refine g_iastB dX12_setsAside_412 sh_145 (by omega) (by omega) (fun h27 eh27 => ?_)
                                have hFh27 := Fr.st eh27
                                have hMh27 := u_145_11 hMh25 eh27 (by omega) (by omega)
                                have q28 : h27 145 6 = v1 := ((hFh27 145 _ rfl).trans ((hFh25 145 _ rfl).trans ((hFh23 145 _ rfl).trans ((hFh22 145 _ rfl).trans ((hFh21 145 _ rfl).trans (st_at eh20))))))
                                have q29 : h27 145 7 = v2 := ((hFh27 145 _ rfl).trans ((hFh25 145 _ rfl).trans ((hFh23 145 _ rfl).trans ((hFh22 145 _ rfl).trans (st_at eh21)))))
                                have q30 : h27 145 8 = v3 := ((hFh27 145 _ rfl).trans ((hFh25 145 _ rfl).trans ((hFh23 145 _ rfl).trans (st_at eh22))))
                                have q31 : h27 145 9 = v4 := ((hFh27 145 _ rfl).trans ((hFh25 145 _ rfl).trans (st_at eh23)))
                                exact g_return dX12_setsAside_413 rfl (hPo _ ⟨hMh27, (Fr.tr (Fr.tr (Fr.tr (Fr.tr (Fr.tr (Fr.tr (Fr.tr (Fr.tr (Fr.tr (Fr.tr (Fr.sub hFh6 rfl) hFh9 rfl) hFh12 rfl) hFh15 rfl) hFh18 rfl) hFh20 rfl) hFh21 rfl) hFh22 rfl) hFh23 rfl) hFh25 rfl) hFh27 rfl), (S1n.fr (T := [(145, 7), (145, 8), (145, 9), (145, 10), (145, 11), (145, 12)]) s0f (Fr.tr (Fr.tr (Fr.tr (Fr.tr (Fr.tr (Fr.sub hFh20 rfl) hFh21 rfl) hFh22 rfl) hFh23 rfl) hFh25 rfl) hFh27 rfl) rfl), (by omega), (by omega), (by omega), (by omega)⟩)
                              · skip
                                refine g_aload_n dX12_setsAside_302 rfl ?_
                                refine gR_X12_151 rfl dX12_setsAside_303 sh_98 (b := 144) (m_98_69 hMh18) ?_
                                refine g_bipush dX12_setsAside_306 (inR_c rfl) (by decide) ?_
                                refine g_iload_n dX12_setsAside_308 rfl (fun _ => ?_)
                                refine g_imulB dX12_setsAside_309 (by omega) (by omega) ?_
                                refine g_iload_n dX12_setsAside_310 rfl (fun _ => ?_)
                                refine g_iaddB dX12_setsAside_311 (by omega) (by omega) ?_
                                refine g_aload_n dX12_setsAside_312 rfl ?_
                                refine gR_X12_61 rfl dX12_setsAside_313 sh_98 (b := 114) (m_98_22 hMh18) ?_
                                refine g_iload_n dX12_setsAside_316 rfl (fun _ => ?_)
                                refine g_zaldB dX12_setsAside_317 sh_114 (by omega) (by omega) (m_114 hMh18 _) (fun v32 ev32 bv32 cv32 => ?_)
                                have si1 := (ISn.fr (T := [(130, 0), (131, 0), (132, 0), (133, 0), (134, 0), (135, 0), (136, 0), (137, 0), (138, 0), (139, 0), (140, 0), (141, 0), (142, 0), (143, 0), (144, 0)]) f_IS (Fr.tr (Fr.tr (Fr.tr (Fr.tr (Fr.sub hFh6 rfl) hFh9 rfl) hFh12 rfl) hFh15 rfl) hFh18 rfl) rfl)
                                refine g_zastB dX12_setsAside_318 sh_144 (by omega) (by omega) (by omega) (fun h33 eh33 => ?_)
                                have hFh33 := Fr.ar eh33
                                have hMh33 := u_144 hMh18 eh33 (by omega) (by omega)
                                have sa2 : SA1 gi (y17 + 1) h33 := SA1_s e296_0 si1 (by assumption) (by assumption) (by omega) (by omega)
                                refine g_iincB dX12_setsAside_319 rfl rfl (by omega) (by omega) ?_
                                refine g_goto 296 dX12_setsAside_322 (by decide) ?_
                                exact ih296 _ _ hMh33 (Fr.tr (Fr.sub hFh18 rfl) hFh33 rfl) (by omega) (by omega) (by first | exact SA1_0 | exact sa2) (by omega)
                          refine g_istore_n dX12_setsAside_295 (by decide) rfl ?_
                          exact c296 101 _ _ hMh15 Fr.rf (by omega) (by omega) (by first | exact SA1_0 | exact sa2) (by omega)
                        · skip
                          refine g_aload_n dX12_setsAside_254 rfl ?_
                          refine gR_X12_145 rfl dX12_setsAside_255 sh_98 (b := 142) (m_98_67 hMh15) ?_
                          refine g_bipush dX12_setsAside_258 (inR_c rfl) (by decide) ?_
                          refine g_iload_n dX12_setsAside_260 rfl (fun _ => ?_)
                          refine g_imulB dX12_setsAside_261 (by omega) (by omega) ?_
                          refine g_iload_n dX12_setsAside_262 rfl (fun _ => ?_)
                          refine g_iaddB dX12_setsAside_263 (by omega) (by omega) ?_
                          refine g_aload_n dX12_setsAside_264 rfl ?_
                          refine gR_X12_55 rfl dX12_setsAside_265 sh_98 (b := 112) (m_98_20 hMh15) ?_
                          refine g_iload_n dX12_setsAside_268 rfl (fun _ => ?_)
                          refine g_ialdB dX12_setsAside_269 sh_112 (by omega) (by omega) (m_112 hMh15 _) (fun v34 ev34 bv34 cv34 => ?_)
                          refine g_iastB dX12_setsAside_270 sh_142 (by omega) (by omega) (fun h35 eh35 => ?_)
                          have hFh35 := Fr.ar eh35
                          have hMh35 := u_142 hMh15 eh35 (by omega) (by omega)
                          refine g_aload_n dX12_setsAside_271 rfl ?_
                          refine gR_X12_148 rfl dX12_setsAside_272 sh_98 (b := 143) (m_98_68 hMh35) ?_
                          refine g_bipush dX12_setsAside_275 (inR_c rfl) (by decide) ?_
                          refine g_iload_n dX12_setsAside_277 rfl (fun _ => ?_)
                          refine g_imulB dX12_setsAside_278 (by omega) (by omega) ?_
                          refine g_iload_n dX12_setsAside_279 rfl (fun _ => ?_)
                          refine g_iaddB dX12_setsAside_280 (by omega) (by omega) ?_
                          refine g_aload_n dX12_setsAside_281 rfl ?_
                          refine gR_X12_58 rfl dX12_setsAside_282 sh_98 (b := 113) (m_98_21 hMh35) ?_
                          refine g_iload_n dX12_setsAside_285 rfl (fun _ => ?_)
                          refine g_ialdB dX12_setsAside_286 sh_113 (by omega) (by omega) (m_113 hMh35 _) (fun v36 ev36 bv36 cv36 => ?_)
                          refine g_iastB dX12_setsAside_287 sh_143 (by omega) (by omega) (fun h37 eh37 => ?_)
                          have hFh37 := Fr.ar eh37
                          have hMh37 := u_143 hMh35 eh37 (by omega) (by omega)
                          refine g_iincB dX12_setsAside_288 rfl rfl (by omega) (by omega) ?_
                          refine g_goto 248 dX12_setsAside_291 (by decide) ?_
                          exact ih248 _ _ hMh37 (Fr.tr (Fr.tr (Fr.sub hFh15 rfl) hFh35 rfl) hFh37 rfl) (by omega) (by omega) (by omega)
                    refine g_istore_n dX12_setsAside_247 (by decide) rfl ?_
                    exact c248 65 _ _ hMh12 Fr.rf (by omega) (by omega) (by omega)
                  · skip
                    refine g_aload_n dX12_setsAside_223 rfl ?_
                    refine gR_X12_124 rfl dX12_setsAside_224 sh_98 (b := 135) (m_98_60 hMh12) ?_
                    refine g_bipush dX12_setsAside_227 (inR_c rfl) (by decide) ?_
                    refine g_iload_n dX12_setsAside_229 rfl (fun _ => ?_)
                    refine g_imulB dX12_setsAside_230 (by omega) (by omega) ?_
                    refine g_iload_n dX12_setsAside_231 rfl (fun _ => ?_)
                    refine g_iaddB dX12_setsAside_232 (by omega) (by omega) ?_
                    refine g_aload_n dX12_setsAside_233 rfl ?_
                    refine gR_X12_33 rfl dX12_setsAside_234 sh_98 (b := 105) (m_98_13 hMh12) ?_
                    refine g_iload_n dX12_setsAside_237 rfl (fun _ => ?_)
                    refine g_ialdB dX12_setsAside_238 sh_105 (by omega) (by omega) (m_105 hMh12 _) (fun v38 ev38 bv38 cv38 => ?_)
                    refine g_iastB dX12_setsAside_239 sh_135 (by omega) (by omega) (fun h39 eh39 => ?_)
                    have hFh39 := Fr.ar eh39
                    have hMh39 := u_135 hMh12 eh39 (by omega) (by omega)
                    refine g_iincB dX12_setsAside_240 rfl rfl (by omega) (by omega) ?_
                    refine g_goto 217 dX12_setsAside_243 (by decide) ?_
                    exact ih217 _ _ hMh39 (Fr.tr (Fr.sub hFh12 rfl) hFh39 rfl) (by omega) (by omega) (by omega)
              refine g_istore_n dX12_setsAside_216 (by decide) rfl ?_
              exact c217 41 _ _ hMh9 Fr.rf (by omega) (by omega) (by omega)
            · skip
              refine g_aload_n dX12_setsAside_73 rfl ?_
              refine gR_X12_118 rfl dX12_setsAside_74 sh_98 (b := 133) (m_98_58 hMh9) ?_
              refine g_bipush dX12_setsAside_77 (inR_c rfl) (by decide) ?_
              refine g_iload_n dX12_setsAside_79 rfl (fun _ => ?_)
              refine g_imulB dX12_setsAside_80 (by omega) (by omega) ?_
              refine g_iload_n dX12_setsAside_81 rfl (fun _ => ?_)
              refine g_iaddB dX12_setsAside_82 (by omega) (by omega) ?_
              refine g_aload_n dX12_setsAside_83 rfl ?_
              refine gR_X12_27 rfl dX12_setsAside_84 sh_98 (b := 103) (m_98_11 hMh9) ?_
              refine g_iload_n dX12_setsAside_87 rfl (fun _ => ?_)
              refine g_ialdB dX12_setsAside_88 sh_103 (by omega) (by omega) (m_103 hMh9 _) (fun v40 ev40 bv40 cv40 => ?_)
              refine g_iastB dX12_setsAside_89 sh_133 (by omega) (by omega) (fun h41 eh41 => ?_)
              have hFh41 := Fr.ar eh41
              have hMh41 := u_133 hMh9 eh41 (by omega) (by omega)
              refine g_aload_n dX12_setsAside_90 rfl ?_
              refine gR_X12_121 rfl dX12_setsAside_91 sh_98 (b := 134) (m_98_59 hMh41) ?_
              refine g_bipush dX12_setsAside_94 (inR_c rfl) (by decide) ?_
              refine g_iload_n dX12_setsAside_96 rfl (fun _ => ?_)
              refine g_imulB dX12_setsAside_97 (by omega) (by omega) ?_
              refine g_iload_n dX12_setsAside_98 rfl (fun _ => ?_)
              refine g_iaddB dX12_setsAside_99 (by omega) (by omega) ?_
              refine g_aload_n dX12_setsAside_100 rfl ?_
              refine gR_X12_30 rfl dX12_setsAside_101 sh_98 (b := 104) (m_98_12 hMh41) ?_
              refine g_iload_n dX12_setsAside_104 rfl (fun _ => ?_)
              refine g_ialdB dX12_setsAside_105 sh_104 (by omega) (by omega) (m_104 hMh41 _) (fun v42 ev42 bv42 cv42 => ?_)
              refine g_iastB dX12_setsAside_106 sh_134 (by omega) (by omega) (fun h43 eh43 => ?_)
              have hFh43 := Fr.ar eh43
              have hMh43 := u_134 hMh41 eh43 (by omega) (by omega)
              refine g_aload_n dX12_setsAside_107 rfl ?_
              refine gR_X12_127 rfl dX12_setsAside_108 sh_98 (b := 136) (m_98_61 hMh43) ?_
              refine g_bipush dX12_setsAside_111 (inR_c rfl) (by decide) ?_
              refine g_iload_n dX12_setsAside_113 rfl (fun _ => ?_)
              refine g_imulB dX12_setsAside_114 (by omega) (by omega) ?_
              refine g_iload_n dX12_setsAside_115 rfl (fun _ => ?_)
              refine g_iaddB dX12_setsAside_116 (by omega) (by omega) ?_
              refine g_aload_n dX12_setsAside_117 rfl ?_
              refine gR_X12_36 rfl dX12_setsAside_118 sh_98 (b := 106) (m_98_14 hMh43) ?_
              refine g_iload_n dX12_setsAside_121 rfl (fun _ => ?_)
              refine g_zaldB dX12_setsAside_122 sh_106 (by omega) (by omega) (m_106 hMh43 _) (fun v44 ev44 bv44 cv44 => ?_)
              refine g_zastB dX12_setsAside_123 sh_136 (by omega) (by omega) (by omega) (fun h45 eh45 => ?_)
              have hFh45 := Fr.ar eh45
              have hMh45 := u_136 hMh43 eh45 (by omega) (by omega)
              refine g_aload_n dX12_setsAside_124 rfl ?_
              refine gR_X12_130 rfl dX12_setsAside_125 sh_98 (b := 137) (m_98_62 hMh45) ?_
              refine g_bipush dX12_setsAside_128 (inR_c rfl) (by decide) ?_
              refine g_iload_n dX12_setsAside_130 rfl (fun _ => ?_)
              refine g_imulB dX12_setsAside_131 (by omega) (by omega) ?_
              refine g_iload_n dX12_setsAside_132 rfl (fun _ => ?_)
              refine g_iaddB dX12_setsAside_133 (by omega) (by omega) ?_
              refine g_aload_n dX12_setsAside_134 rfl ?_
              refine gR_X12_40 rfl dX12_setsAside_135 sh_98 (b := 107) (m_98_15 hMh45) ?_
              refine g_iload_n dX12_setsAside_138 rfl (fun _ => ?_)
              refine g_ialdB dX12_setsAside_139 sh_107 (by omega) (by omega) (m_107 hMh45 _) (fun v46 ev46 bv46 cv46 => ?_)
              refine g_iastB dX12_setsAside_140 sh_137 (by omega) (by omega) (fun h47 eh47 => ?_)
              have hFh47 := Fr.ar eh47
              have hMh47 := u_137 hMh45 eh47 (by omega) (by omega)
              refine g_aload_n dX12_setsAside_141 rfl ?_
              refine gR_X12_133 rfl dX12_setsAside_142 sh_98 (b := 138) (m_98_63 hMh47) ?_
              refine g_bipush dX12_setsAside_145 (inR_c rfl) (by decide) ?_
              refine g_iload_n dX12_setsAside_147 rfl (fun _ => ?_)
              refine g_imulB dX12_setsAside_148 (by omega) (by omega) ?_
              refine g_iload_n dX12_setsAside_149 rfl (fun _ => ?_)
              refine g_iaddB dX12_setsAside_150 (by omega) (by omega) ?_
              refine g_aload_n dX12_setsAside_151 rfl ?_
              refine gR_X12_43 rfl dX12_setsAside_152 sh_98 (b := 108) (m_98_16 hMh47) ?_
              refine g_iload_n dX12_setsAside_155 rfl (fun _ => ?_)
              refine g_ialdB dX12_setsAside_156 sh_108 (by omega) (by omega) (m_108 hMh47 _) (fun v48 ev48 bv48 cv48 => ?_)
              refine g_iastB dX12_setsAside_157 sh_138 (by omega) (by omega) (fun h49 eh49 => ?_)
              have hFh49 := Fr.ar eh49
              have hMh49 := u_138 hMh47 eh49 (by omega) (by omega)
              refine g_aload_n dX12_setsAside_158 rfl ?_
              refine gR_X12_136 rfl dX12_setsAside_159 sh_98 (b := 139) (m_98_64 hMh49) ?_
              refine g_bipush dX12_setsAside_162 (inR_c rfl) (by decide) ?_
              refine g_iload_n dX12_setsAside_164 rfl (fun _ => ?_)
              refine g_imulB dX12_setsAside_165 (by omega) (by omega) ?_
              refine g_iload_n dX12_setsAside_166 rfl (fun _ => ?_)
              refine g_iaddB dX12_setsAside_167 (by omega) (by omega) ?_
              refine g_aload_n dX12_setsAside_168 rfl ?_
              refine gR_X12_46 rfl dX12_setsAside_169 sh_98 (b := 109) (m_98_17 hMh49) ?_
              refine g_iload_n dX12_setsAside_172 rfl (fun _ => ?_)
              refine g_ialdB dX12_setsAside_173 sh_109 (by omega) (by omega) (m_109 hMh49 _) (fun v50 ev50 bv50 cv50 => ?_)
              refine g_iastB dX12_setsAside_174 sh_139 (by omega) (by omega) (fun h51 eh51 => ?_)
              have hFh51 := Fr.ar eh51
              have hMh51 := u_139 hMh49 eh51 (by omega) (by omega)
              refine g_aload_n dX12_setsAside_175 rfl ?_
              refine gR_X12_139 rfl dX12_setsAside_176 sh_98 (b := 140) (m_98_65 hMh51) ?_
              refine g_bipush dX12_setsAside_179 (inR_c rfl) (by decide) ?_
              refine g_iload_n dX12_setsAside_181 rfl (fun _ => ?_)
              refine g_imulB dX12_setsAside_182 (by omega) (by omega) ?_
              refine g_iload_n dX12_setsAside_183 rfl (fun _ => ?_)
              refine g_iaddB dX12_setsAside_184 (by omega) (by omega) ?_
              refine g_aload_n dX12_setsAside_185 rfl ?_
              refine gR_X12_49 rfl dX12_setsAside_186 sh_98 (b := 110) (m_98_18 hMh51) ?_
              refine g_iload_n dX12_setsAside_189 rfl (fun _ => ?_)
              refine g_zaldB dX12_setsAside_190 sh_110 (by omega) (by omega) (m_110 hMh51 _) (fun v52 ev52 bv52 cv52 => ?_)
              refine g_zastB dX12_setsAside_191 sh_140 (by omega) (by omega) (by omega) (fun h53 eh53 => ?_)
              have hFh53 := Fr.ar eh53
              have hMh53 := u_140 hMh51 eh53 (by omega) (by omega)
              refine g_aload_n dX12_setsAside_192 rfl ?_
              refine gR_X12_142 rfl dX12_setsAside_193 sh_98 (b := 141) (m_98_66 hMh53) ?_
              refine g_bipush dX12_setsAside_196 (inR_c rfl) (by decide) ?_
              refine g_iload_n dX12_setsAside_198 rfl (fun _ => ?_)
              refine g_imulB dX12_setsAside_199 (by omega) (by omega) ?_
              refine g_iload_n dX12_setsAside_200 rfl (fun _ => ?_)
              refine g_iaddB dX12_setsAside_201 (by omega) (by omega) ?_
              refine g_aload_n dX12_setsAside_202 rfl ?_
              refine gR_X12_52 rfl dX12_setsAside_203 sh_98 (b := 111) (m_98_19 hMh53) ?_
              refine g_iload_n dX12_setsAside_206 rfl (fun _ => ?_)
              refine g_ialdB dX12_setsAside_207 sh_111 (by omega) (by omega) (m_111 hMh53 _) (fun v54 ev54 bv54 cv54 => ?_)
              refine g_iastB dX12_setsAside_208 sh_141 (by omega) (by omega) (fun h55 eh55 => ?_)
              have hFh55 := Fr.ar eh55
              have hMh55 := u_141 hMh53 eh55 (by omega) (by omega)
              refine g_iincB dX12_setsAside_209 rfl rfl (by omega) (by omega) ?_
              refine g_goto 67 dX12_setsAside_212 (by decide) ?_
              exact ih67 _ _ hMh55 (Fr.tr (Fr.tr (Fr.tr (Fr.tr (Fr.tr (Fr.tr (Fr.tr (Fr.tr (Fr.sub hFh9 rfl) hFh41 rfl) hFh43 rfl) hFh45 rfl) hFh47 rfl) hFh49 rfl) hFh51 rfl) hFh53 rfl) hFh55 rfl) (by omega) (by omega) (by omega)
        refine g_istore_n dX12_setsAside_66 (by decide) rfl ?_
        exact c67 9 _ _ hMh6 Fr.rf (by omega) (by omega) (by omega)
      · skip
        refine g_aload_n dX12_setsAside_8 rfl ?_
        refine gR_X12_109 rfl dX12_setsAside_9 sh_98 (b := 130) (m_98_55 hMh6) ?_
        refine g_bipush dX12_setsAside_12 (inR_c rfl) (by decide) ?_
        refine g_iload_n dX12_setsAside_14 rfl (fun _ => ?_)
        refine g_imulB dX12_setsAside_15 (by omega) (by omega) ?_
        refine g_iload_n dX12_setsAside_16 rfl (fun _ => ?_)
        refine g_iaddB dX12_setsAside_17 (by omega) (by omega) ?_
        refine g_aload_n dX12_setsAside_18 rfl ?_
        refine gR_X12_17 rfl dX12_setsAside_19 sh_98 (b := 100) (m_98_8 hMh6) ?_
        refine g_iload_n dX12_setsAside_22 rfl (fun _ => ?_)
        refine g_ialdB dX12_setsAside_23 sh_100 (by omega) (by omega) (m_100 hMh6 _) (fun v56 ev56 bv56 cv56 => ?_)
        refine g_iastB dX12_setsAside_24 sh_130 (by omega) (by omega) (fun h57 eh57 => ?_)
        have hFh57 := Fr.ar eh57
        have hMh57 := u_130 hMh6 eh57 (by omega) (by omega)
        refine g_aload_n dX12_setsAside_25 rfl ?_
        refine gR_X12_112 rfl dX12_setsAside_26 sh_98 (b := 131) (m_98_56 hMh57) ?_
        refine g_bipush dX12_setsAside_29 (inR_c rfl) (by decide) ?_
        refine g_iload_n dX12_setsAside_31 rfl (fun _ => ?_)
        refine g_imulB dX12_setsAside_32 (by omega) (by omega) ?_
        refine g_iload_n dX12_setsAside_33 rfl (fun _ => ?_)
        refine g_iaddB dX12_setsAside_34 (by omega) (by omega) ?_
        refine g_aload_n dX12_setsAside_35 rfl ?_
        refine gR_X12_21 rfl dX12_setsAside_36 sh_98 (b := 101) (m_98_9 hMh57) ?_
        refine g_iload_n dX12_setsAside_39 rfl (fun _ => ?_)
        refine g_ialdB dX12_setsAside_40 sh_101 (by omega) (by omega) (m_101 hMh57 _) (fun v58 ev58 bv58 cv58 => ?_)
        refine g_iastB dX12_setsAside_41 sh_131 (by omega) (by omega) (fun h59 eh59 => ?_)
        have hFh59 := Fr.ar eh59
        have hMh59 := u_131 hMh57 eh59 (by omega) (by omega)
        refine g_aload_n dX12_setsAside_42 rfl ?_
        refine gR_X12_115 rfl dX12_setsAside_43 sh_98 (b := 132) (m_98_57 hMh59) ?_
        refine g_bipush dX12_setsAside_46 (inR_c rfl) (by decide) ?_
        refine g_iload_n dX12_setsAside_48 rfl (fun _ => ?_)
        refine g_imulB dX12_setsAside_49 (by omega) (by omega) ?_
        refine g_iload_n dX12_setsAside_50 rfl (fun _ => ?_)
        refine g_iaddB dX12_setsAside_51 (by omega) (by omega) ?_
        refine g_aload_n dX12_setsAside_52 rfl ?_
        refine gR_X12_24 rfl dX12_setsAside_53 sh_98 (b := 102) (m_98_10 hMh59) ?_
        refine g_iload_n dX12_setsAside_56 rfl (fun _ => ?_)
        refine g_ialdB dX12_setsAside_57 sh_102 (by omega) (by omega) (m_102 hMh59 _) (fun v60 ev60 bv60 cv60 => ?_)
        refine g_iastB dX12_setsAside_58 sh_132 (by omega) (by omega) (fun h61 eh61 => ?_)
        have hFh61 := Fr.ar eh61
        have hMh61 := u_132 hMh59 eh61 (by omega) (by omega)
        refine g_iincB dX12_setsAside_59 rfl rfl (by omega) (by omega) ?_
        refine g_goto 2 dX12_setsAside_62 (by decide) ?_
        exact ih2 _ _ hMh61 (Fr.tr (Fr.tr (Fr.tr (Fr.sub hFh6 rfl) hFh57 rfl) hFh59 rfl) hFh61 rfl) (by omega) (by omega) (by omega)
  refine g_istore_n dX12_setsAside_1 (by decide) rfl ?_
  exact c2 11 _ _ hM Fr.rf (by omega) (by omega) (by omega)
set_option maxRecDepth 100000 in
set_option maxHeartbeats 4000000 in
theorem c_X12_keep_98 (gi : Nat → Int) (h : MEM) (hM : MBm h) (f_IS : ISn gi h) : CI yX12_keep cX12_keep 1 (some .int) 2 [pR 98] h (fun x h' => MBm h' ∧ Fr [(98, 80), (130, 0), (131, 0), (132, 0), (133, 0), (134, 0), (135, 0), (136, 0), (137, 0), (138, 0), (139, 0), (140, 0), (141, 0), (142, 0), (143, 0), (144, 0), (145, 7), (145, 8), (145, 9), (145, 10), (145, 11), (145, 12)] h h' ∧ -2147483648 ≤ x ∧ x ≤ 2147483647 ∧ h' 145 6 = h 98 2 ∧ h' 145 7 = h 98 3 ∧ h' 145 8 = h 98 4 ∧ h' 145 9 = h 98 5 ∧ h' 98 79 = 1 ∧ S1n gi h') := by
  refine CI.of (L0 := [some (pR 98)]) rfl (Nat.le_of_ble_eq_true rfl) rfl (fun Po hPo hav => ?_)
  obtain ⟨v1, ev1⟩ : ∃ z, z = h 98 2 := ⟨_, rfl⟩
  have bv1 : 0 ≤ v1 ∧ v1 ≤ 10 := by rw [ev1]; exact (m_98_2 hM)
  obtain ⟨v2, ev2⟩ : ∃ z, z = h 98 3 := ⟨_, rfl⟩
  have bv2 : 0 ≤ v2 ∧ v2 ≤ 8 := by rw [ev2]; exact (m_98_3 hM)
  obtain ⟨v3, ev3⟩ : ∃ z, z = h 98 4 := ⟨_, rfl⟩
  have bv3 : 0 ≤ v3 ∧ v3 ≤ 8 := by rw [ev3]; exact (m_98_4 hM)
  obtain ⟨v4, ev4⟩ : ∃ z, z = h 98 5 := ⟨_, rfl⟩
  have bv4 : 0 ≤ v4 ∧ v4 ≤ 2000000000 := by rw [ev4]; exact (m_98_5 hM)
  refine g_aload_n dX12_keep_0 rfl ?_
  refine g_iconst dX12_keep_1 (inR_c rfl) ?_
  refine pI_X12_506 rfl dX12_keep_2 sh_98 (by omega) (fun h5 eh5 => ?_)
  have hFh5 := Fr.st eh5
  have hMh5 := u_98_79 hM eh5 (by omega) (by omega)
  refine g_aload_n dX12_keep_5 rfl ?_
  refine g_iconst dX12_keep_6 (inR_c rfl) ?_
  have q6 : h5 98 2 = v1 := ((hFh5 98 2 rfl).trans ev1.symm)
  have q7 : h5 98 3 = v2 := ((hFh5 98 3 rfl).trans ev2.symm)
  have q8 : h5 98 4 = v3 := ((hFh5 98 4 rfl).trans ev3.symm)
  have q9 : h5 98 5 = v4 := ((hFh5 98 5 rfl).trans ev4.symm)
  refine g_cVV (as := [_]) (c_X12_setsAside_98_k1 _ h5 hMh5 (ISn.fr (T := [(98, 80)]) f_IS (Fr.sub hFh5 rfl) rfl)) dX12_keep_7 mi_X12_setsAside in_X12_setsAside se_X12_setsAside ml_X12_419 rfl rfl rfl sh_98 rfl rfl (Nat.le_of_ble_eq_true rfl) (fun h10 q11 => ?_)
  obtain ⟨hMh10, hFh10, z12, z13, z14, z15, z16⟩ := q11
  have kz13 : h10 145 6 = v1 := by omega
  have kz14 : h10 145 7 = v2 := by omega
  have kz15 : h10 145 8 = v3 := by omega
  have kz16 : h10 145 9 = v4 := by omega
  refine g_aload_n dX12_keep_10 rfl ?_
  refine g_cVP (as := []) (c_X12_allSlates_98  h10 hMh10) dX12_keep_11 mi_X12_allSlates in_X12_allSlates se_X12_allSlates ml_X12_422 rfl rfl rfl sh_98 rfl rfl (Nat.le_of_ble_eq_true rfl) (fun v17 q18 => ?_)
  obtain ⟨bv17, cv17⟩ := q18
  have q19 : h10 145 6 = v1 := kz13
  have q20 : h10 145 7 = v2 := kz14
  have q21 : h10 145 8 = v3 := kz15
  have q22 : h10 145 9 = v4 := kz16
  have q23 : h10 98 79 = 1 := ((hFh10 98 79 rfl).trans (st_at eh5))
  exact g_ireturn dX12_keep_14 retI (hPo _ _ ⟨hMh10, (Fr.tr (Fr.sub hFh5 rfl) hFh10 rfl), (by omega), (by omega), (by omega), (by omega), (by omega), (by omega), (by omega), z12⟩)
set_option maxRecDepth 100000 in
set_option maxHeartbeats 4000000 in
theorem c_X12_putsBack_98_k1 (gs : Nat → Int) (h : MEM) (hM : MBm h) (f_S1 : S1n gs h) : CV yX12_putsBack cX12_putsBack 3 (none) 1 [pR 98, pI 1] h (fun h' => MBm h' ∧ Fr [(98, 3), (98, 4), (98, 5), (98, 6), (98, 7), (98, 8), (100, 0), (101, 0), (102, 0), (103, 0), (104, 0), (105, 0), (106, 0), (107, 0), (108, 0), (109, 0), (110, 0), (111, 0), (112, 0), (113, 0), (114, 0)] h h' ∧ ISn gs h' ∧ h' 98 2 = h 145 6 ∧ h' 98 3 = h 145 7 ∧ h' 98 4 = h 145 8 ∧ h' 98 5 = h 145 9) := by
  refine CV.of (L0 := [some (pR 98), some (pI 1), none]) rfl (Nat.le_of_ble_eq_true rfl) rfl (fun Po hPo hav => ?_)
  obtain ⟨v1, ev1⟩ : ∃ z, z = h 145 6 := ⟨_, rfl⟩
  have bv1 : 0 ≤ v1 ∧ v1 ≤ 10 := by rw [ev1]; exact (m_145_6 hM)
  obtain ⟨v2, ev2⟩ : ∃ z, z = h 145 7 := ⟨_, rfl⟩
  have bv2 : 0 ≤ v2 ∧ v2 ≤ 8 := by rw [ev2]; exact (m_145_7 hM)
  obtain ⟨v3, ev3⟩ : ∃ z, z = h 145 8 := ⟨_, rfl⟩
  have bv3 : 0 ≤ v3 ∧ v3 ≤ 8 := by rw [ev3]; exact (m_145_8 hM)
  obtain ⟨v4, ev4⟩ : ∃ z, z = h 145 9 := ⟨_, rfl⟩
  have bv4 : 0 ≤ v4 ∧ v4 ≤ 2000000000 := by rw [ev4]; exact (m_145_9 hM)
  refine g_iconst dX12_putsBack_0 (inR_c rfl) ?_
  have c2 : ∀ (n : Nat) (y5 : Int) (h6 : MEM), MBm h6 → Fr [(100, 0), (101, 0), (102, 0)] h h6 → 0 ≤ y5 → y5 ≤ 10 → 10 - y5 < (n : Int) → G yX12_putsBack cX12_putsBack 3 (none) none Po (1, 60, 0, 0) 2 [some (pR 98), some (pI 1), some (pI y5)] [] SH h6 0 0 := by
    intro n
    induction n with
    | zero =>
      intro y5 h6 hMh6 hFh6 by5 dy5 hn
      exfalso; omega
    | succ n ih2 =>
      intro y5 h6 hMh6 hFh6 by5 dy5 hn
      refine g_iload_n dX12_putsBack_2 rfl (fun _ => ?_)
      refine g_bipush dX12_putsBack_3 (inR_c rfl) (by decide) ?_
      refine g_icmp_ge 65 dX12_putsBack_5 (by decide) (fun q7 => ?_) (fun q7 => ?_)
      · skip
        refine g_iconst dX12_putsBack_65 (inR_c rfl) ?_
        have c67 : ∀ (n : Nat) (y8 : Int) (h9 : MEM), MBm h9 → Fr [(103, 0), (104, 0), (106, 0), (107, 0), (108, 0), (109, 0), (110, 0), (111, 0)] h6 h9 → 0 ≤ y8 → y8 ≤ 8 → 8 - y8 < (n : Int) → G yX12_putsBack cX12_putsBack 3 (none) none Po (1, 60, 0, 0) 67 [some (pR 98), some (pI 1), some (pI y8)] [] SH h9 0 0 := by
          intro n
          induction n with
          | zero =>
            intro y8 h9 hMh9 hFh9 by8 dy8 hn
            exfalso; omega
          | succ n ih67 =>
            intro y8 h9 hMh9 hFh9 by8 dy8 hn
            refine g_iload_n dX12_putsBack_67 rfl (fun _ => ?_)
            refine g_bipush dX12_putsBack_68 (inR_c rfl) (by decide) ?_
            refine g_icmp_ge 215 dX12_putsBack_70 (by decide) (fun q10 => ?_) (fun q10 => ?_)
            · skip
              refine g_iconst dX12_putsBack_215 (inR_c rfl) ?_
              have c217 : ∀ (n : Nat) (y11 : Int) (h12 : MEM), MBm h12 → Fr [(105, 0)] h9 h12 → 0 ≤ y11 → y11 ≤ 40 → 40 - y11 < (n : Int) → G yX12_putsBack cX12_putsBack 3 (none) none Po (1, 60, 0, 0) 217 [some (pR 98), some (pI 1), some (pI y11)] [] SH h12 0 0 := by
                intro n
                induction n with
                | zero =>
                  intro y11 h12 hMh12 hFh12 by11 dy11 hn
                  exfalso; omega
                | succ n ih217 =>
                  intro y11 h12 hMh12 hFh12 by11 dy11 hn
                  refine g_iload_n dX12_putsBack_217 rfl (fun _ => ?_)
                  refine g_bipush dX12_putsBack_218 (inR_c rfl) (by decide) ?_
                  refine g_icmp_ge 246 dX12_putsBack_220 (by decide) (fun q13 => ?_) (fun q13 => ?_)
                  · skip
                    refine g_iconst dX12_putsBack_246 (inR_c rfl) ?_
                    have c248 : ∀ (n : Nat) (y14 : Int) (h15 : MEM), MBm h15 → Fr [(112, 0), (113, 0)] h12 h15 → 0 ≤ y14 → y14 ≤ 64 → 64 - y14 < (n : Int) → G yX12_putsBack cX12_putsBack 3 (none) none Po (1, 60, 0, 0) 248 [some (pR 98), some (pI 1), some (pI y14)] [] SH h15 0 0 := by
                      intro n
                      induction n with
                      | zero =>
                        intro y14 h15 hMh15 hFh15 by14 dy14 hn
                        exfalso; omega
                      | succ n ih248 =>
                        intro y14 h15 hMh15 hFh15 by14 dy14 hn
                        refine g_iload_n dX12_putsBack_248 rfl (fun _ => ?_)
                        refine g_bipush dX12_putsBack_249 (inR_c rfl) (by decide) ?_
                        refine g_icmp_ge 294 dX12_putsBack_251 (by decide) (fun q16 => ?_) (fun q16 => ?_)
                        · skip
                          refine g_iconst dX12_putsBack_294 (inR_c rfl) ?_
                          have c296 : ∀ (n : Nat) (y17 : Int) (h18 : MEM), MBm h18 → Fr [(114, 0)] h15 h18 → 0 ≤ y17 → y17 ≤ 100 → PB gs y17 h18 → 100 - y17 < (n : Int) → G yX12_putsBack cX12_putsBack 3 (none) none Po (1, 60, 0, 0) 296 [some (pR 98), some (pI 1), some (pI y17)] [] SH h18 0 0 := by
                            intro n
                            induction n with
                            | zero =>
                              intro y17 h18 hMh18 hFh18 by17 dy17 e296_0 hn
                              exfalso; omega
                            | succ n ih296 =>
                              intro y17 h18 hMh18 hFh18 by17 dy17 e296_0 hn
                              refine g_iload_n dX12_putsBack_296 rfl (fun _ => ?_)
                              refine g_bipush dX12_putsBack_297 (inR_c rfl) (by decide) ?_
                              refine g_icmp_ge 325 dX12_putsBack_299 (by decide) (fun q19 => ?_) (fun q19 => ?_)
                              · skip
                                refine g_aload_n dX12_putsBack_325 rfl ?_
                                have s0f : ISn gs h18 := PB_e e296_0 (by omega)
                                refine g_aload_n dX12_putsBack_326 rfl ?_
                                refine gR_X12_154 rfl dX12_putsBack_327 sh_98 (b := 145) (m_98_70 hMh18) ?_
                                refine g_bipush dX12_putsBack_330 (inR_c rfl) (by decide) ?_
                                refine g_iload_n dX12_putsBack_332 rfl (fun _ => ?_)
                                refine g_imulB dX12_putsBack_333 (by omega) (by omega) ?_
                                refine g_ialdE dX12_putsBack_334 sh_145 (by omega) (by omega) ((hFh18 145 _ rfl).trans ((hFh15 145 _ rfl).trans ((hFh12 145 _ rfl).trans ((hFh9 145 _ rfl).trans ((hFh6 145 _ rfl).trans ev1.symm))))) ?_
                                refine pI_X12_172 rfl dX12_putsBack_335 sh_98 (fun h20 eh20 => ?_)
                                have hFh20 := Fr.st eh20
                                have hMh20 := u_98_2 hMh18 eh20 (by omega) (by omega)
                                refine g_aload_n dX12_putsBack_338 rfl ?_
                                refine g_aload_n dX12_putsBack_339 rfl ?_
                                refine gR_X12_154 rfl dX12_putsBack_340 sh_98 (b := 145) (m_98_70 hMh20) ?_
                                refine g_bipush dX12_putsBack_343 (inR_c rfl) (by decide) ?_
                                refine g_iload_n dX12_putsBack_345 rfl (fun _ => ?_)
                                refine g_imulB dX12_putsBack_346 (by omega) (by omega) ?_
                                refine g_iconst dX12_putsBack_347 (inR_c rfl) ?_
                                refine g_iaddB dX12_putsBack_348 (by omega) (by omega) ?_
                                refine g_ialdE dX12_putsBack_349 sh_145 (by omega) (by omega) ((hFh20 145 _ rfl).trans ((hFh18 145 _ rfl).trans ((hFh15 145 _ rfl).trans ((hFh12 145 _ rfl).trans ((hFh9 145 _ rfl).trans ((hFh6 145 _ rfl).trans ev2.symm)))))) ?_
                                refine pI_X12_179 rfl dX12_putsBack_350 sh_98 (fun h21 eh21 => ?_)
                                have hFh21 := Fr.st eh21
                                have hMh21 := u_98_3 hMh20 eh21 (by omega) (by omega)
                                refine g_aload_n dX12_putsBack_353 rfl ?_
                                refine g_aload_n dX12_putsBack_354 rfl ?_
                                refine gR_X12_154 rfl dX12_putsBack_355 sh_98 (b := 145) (m_98_70 hMh21) ?_
                                refine g_bipush dX12_putsBack_358 (inR_c rfl) (by decide) ?_
                                refine g_iload_n dX12_putsBack_360 rfl (fun _ => ?_)
                                refine g_imulB dX12_putsBack_361 (by omega) (by omega) ?_
                                refine g_iconst dX12_putsBack_362 (inR_c rfl) ?_
                                refine g_iaddB dX12_putsBack_363 (by omega) (by omega) ?_
                                refine g_ialdE dX12_putsBack_364 sh_145 (by omega) (by omega) ((hFh21 145 _ rfl).trans ((hFh20 145 _ rfl).trans ((hFh18 145 _ rfl).trans ((hFh15 145 _ rfl).trans ((hFh12 145 _ rfl).trans ((hFh9 145 _ rfl).trans ((hFh6 145 _ rfl).trans ev3.symm))))))) ?_
                                refine pI_X12_182 rfl dX12_putsBack_365 sh_98 (fun h22 eh22 => ?_)
                                have hFh22 := Fr.st eh22
                                have hMh22 := u_98_4 hMh21 eh22 (by omega) (by omega)
                                refine g_aload_n dX12_putsBack_368 rfl ?_
                                refine g_aload_n dX12_putsBack_369 rfl ?_
                                refine gR_X12_154 rfl dX12_putsBack_370 sh_98 (b := 145) (m_98_70 hMh22) ?_
                                refine g_bipush dX12_putsBack_373 (inR_c rfl) (by decide) ?_
                                refine g_iload_n dX12_putsBack_375 rfl (fun _ => ?_)
                                refine g_imulB dX12_putsBack_376 (by omega) (by omega) ?_
                                refine g_iconst dX12_putsBack_377 (inR_c rfl) ?_
                                refine g_iaddB dX12_putsBack_378 (by omega) (by omega) ?_
                                refine g_ialdE dX12_putsBack_379 sh_145 (by omega) (by omega) ((hFh22 145 _ rfl).trans ((hFh21 145 _ rfl).trans ((hFh20 145 _ rfl).trans ((hFh18 145 _ rfl).trans ((hFh15 145 _ rfl).trans ((hFh12 145 _ rfl).trans ((hFh9 145 _ rfl).trans ((hFh6 145 _ rfl).trans ev4.symm)))))))) ?_
                                refine pI_X12_334 rfl dX12_putsBack_380 sh_98 (fun h23 eh23 => ?_)
                                have hFh23 := Fr.st eh23
                                have hMh23 := u_98_5 hMh22 eh23 (by omega) (by omega)
                                refine g_aload_n dX12_putsBack_383 rfl ?_
                                refine g_aload_n dX12_putsBack_384 rfl ?_
                                refine gR_X12_154 rfl dX12_putsBack_385 sh_98 (b := 145) (m_98_70 hMh23) ?_
                                refine g_bipush dX12_putsBack_388 (inR_c rfl) (by decide) ?_
                                refine g_iload_n dX12_putsBack_390 rfl (fun _ => ?_)
                                refine g_imulB dX12_putsBack_391 (by omega) (by omega) ?_
                                refine g_iconst dX12_putsBack_392 (inR_c rfl) ?_
                                refine g_iaddB dX12_putsBack_393 (by omega) (by omega) ?_
                                refine g_ialdB dX12_putsBack_394 sh_145 (by omega) (by omega) (m_145_10 hMh23) (fun v24 ev24 bv24 cv24 => ?_)
                                refine pI_X12_13 rfl dX12_putsBack_395 sh_98 (fun h25 eh25 => ?_)
                                have hFh25 := Fr.st eh25
                                have hMh25 := u_98_6 hMh23 eh25 (by omega) (by omega)
                                refine g_aload_n dX12_putsBack_398 rfl ?_
                                refine g_aload_n dX12_putsBack_399 rfl ?_
                                refine gR_X12_154 rfl dX12_putsBack_400 sh_98 (b := 145) (m_98_70 hMh25) ?_
                                refine g_bipush dX12_putsBack_403 (inR_c rfl) (by decide) ?_
                                refine g_iload_n dX12_putsBack_405 rfl (fun _ => ?_)
                                refine g_imulB dX12_putsBack_406 (by omega) (by omega) ?_
                                refine g_iconst dX12_putsBack_407 (inR_c rfl) ?_
                                refine g_iaddB dX12_putsBack_408 (by omega) (by omega) ?_
                                refine g_ialdB dX12_putsBack_409 sh_145 (by omega) (by omega) (m_145_11 hMh25) (fun v26 ev26 bv26 cv26 => ?_)
                                refine pI_X12_372 rfl dX12_putsBack_410 sh_98 (fun h27 eh27 => ?_)
                                have hFh27 := Fr.st eh27
                                have hMh27 := u_98_7 hMh25 eh27 (by omega) (by omega)
                                have q28 : h27 98 2 = v1 := ((hFh27 98 2 rfl).trans ((hFh25 98 2 rfl).trans ((hFh23 98 2 rfl).trans ((hFh22 98 2 rfl).trans ((hFh21 98 2 rfl).trans (st_at eh20))))))
                                have q29 : h27 98 3 = v2 := ((hFh27 98 3 rfl).trans ((hFh25 98 3 rfl).trans ((hFh23 98 3 rfl).trans ((hFh22 98 3 rfl).trans (st_at eh21)))))
                                have q30 : h27 98 4 = v3 := ((hFh27 98 4 rfl).trans ((hFh25 98 4 rfl).trans ((hFh23 98 4 rfl).trans (st_at eh22))))
                                have q31 : h27 98 5 = v4 := ((hFh27 98 5 rfl).trans ((hFh25 98 5 rfl).trans (st_at eh23)))
                                exact g_return dX12_putsBack_413 rfl (hPo _ ⟨hMh27, (Fr.tr (Fr.tr (Fr.tr (Fr.tr (Fr.tr (Fr.tr (Fr.tr (Fr.tr (Fr.tr (Fr.tr (Fr.sub hFh6 rfl) hFh9 rfl) hFh12 rfl) hFh15 rfl) hFh18 rfl) hFh20 rfl) hFh21 rfl) hFh22 rfl) hFh23 rfl) hFh25 rfl) hFh27 rfl), (ISn.fr (T := [(98, 3), (98, 4), (98, 5), (98, 6), (98, 7), (98, 8)]) s0f (Fr.tr (Fr.tr (Fr.tr (Fr.tr (Fr.tr (Fr.sub hFh20 rfl) hFh21 rfl) hFh22 rfl) hFh23 rfl) hFh25 rfl) hFh27 rfl) rfl), (by omega), (by omega), (by omega), (by omega)⟩)
                              · skip
                                refine g_aload_n dX12_putsBack_302 rfl ?_
                                refine gR_X12_61 rfl dX12_putsBack_303 sh_98 (b := 114) (m_98_22 hMh18) ?_
                                refine g_iload_n dX12_putsBack_306 rfl (fun _ => ?_)
                                refine g_aload_n dX12_putsBack_307 rfl ?_
                                refine gR_X12_151 rfl dX12_putsBack_308 sh_98 (b := 144) (m_98_69 hMh18) ?_
                                refine g_bipush dX12_putsBack_311 (inR_c rfl) (by decide) ?_
                                refine g_iload_n dX12_putsBack_313 rfl (fun _ => ?_)
                                refine g_imulB dX12_putsBack_314 (by omega) (by omega) ?_
                                refine g_iload_n dX12_putsBack_315 rfl (fun _ => ?_)
                                refine g_iaddB dX12_putsBack_316 (by omega) (by omega) ?_
                                refine g_zaldB dX12_putsBack_317 sh_144 (by omega) (by omega) (m_144 hMh18 _) (fun v32 ev32 bv32 cv32 => ?_)
                                have sv1 := (S1n.fr (T := [(100, 0), (101, 0), (102, 0), (103, 0), (104, 0), (105, 0), (106, 0), (107, 0), (108, 0), (109, 0), (110, 0), (111, 0), (112, 0), (113, 0), (114, 0)]) f_S1 (Fr.tr (Fr.tr (Fr.tr (Fr.tr (Fr.sub hFh6 rfl) hFh9 rfl) hFh12 rfl) hFh15 rfl) hFh18 rfl) rfl)
                                refine g_zastB dX12_putsBack_318 sh_114 (by omega) (by omega) (by omega) (fun h33 eh33 => ?_)
                                have hFh33 := Fr.ar eh33
                                have hMh33 := u_114 hMh18 eh33 (by omega) (by omega)
                                have pb2 : PB gs (y17 + 1) h33 := PB_s1 e296_0 sv1 (by assumption) (by assumption) (by omega) (by omega)
                                refine g_iincB dX12_putsBack_319 rfl rfl (by omega) (by omega) ?_
                                refine g_goto 296 dX12_putsBack_322 (by decide) ?_
                                exact ih296 _ _ hMh33 (Fr.tr (Fr.sub hFh18 rfl) hFh33 rfl) (by omega) (by omega) (by first | exact PB_0 | exact pb2) (by omega)
                          refine g_istore_n dX12_putsBack_295 (by decide) rfl ?_
                          exact c296 101 _ _ hMh15 Fr.rf (by omega) (by omega) (by first | exact PB_0 | exact pb2) (by omega)
                        · skip
                          refine g_aload_n dX12_putsBack_254 rfl ?_
                          refine gR_X12_55 rfl dX12_putsBack_255 sh_98 (b := 112) (m_98_20 hMh15) ?_
                          refine g_iload_n dX12_putsBack_258 rfl (fun _ => ?_)
                          refine g_aload_n dX12_putsBack_259 rfl ?_
                          refine gR_X12_145 rfl dX12_putsBack_260 sh_98 (b := 142) (m_98_67 hMh15) ?_
                          refine g_bipush dX12_putsBack_263 (inR_c rfl) (by decide) ?_
                          refine g_iload_n dX12_putsBack_265 rfl (fun _ => ?_)
                          refine g_imulB dX12_putsBack_266 (by omega) (by omega) ?_
                          refine g_iload_n dX12_putsBack_267 rfl (fun _ => ?_)
                          refine g_iaddB dX12_putsBack_268 (by omega) (by omega) ?_
                          refine g_ialdB dX12_putsBack_269 sh_142 (by omega) (by omega) (m_142 hMh15 _) (fun v34 ev34 bv34 cv34 => ?_)
                          refine g_iastB dX12_putsBack_270 sh_112 (by omega) (by omega) (fun h35 eh35 => ?_)
                          have hFh35 := Fr.ar eh35
                          have hMh35 := u_112 hMh15 eh35 (by omega) (by omega)
                          refine g_aload_n dX12_putsBack_271 rfl ?_
                          refine gR_X12_58 rfl dX12_putsBack_272 sh_98 (b := 113) (m_98_21 hMh35) ?_
                          refine g_iload_n dX12_putsBack_275 rfl (fun _ => ?_)
                          refine g_aload_n dX12_putsBack_276 rfl ?_
                          refine gR_X12_148 rfl dX12_putsBack_277 sh_98 (b := 143) (m_98_68 hMh35) ?_
                          refine g_bipush dX12_putsBack_280 (inR_c rfl) (by decide) ?_
                          refine g_iload_n dX12_putsBack_282 rfl (fun _ => ?_)
                          refine g_imulB dX12_putsBack_283 (by omega) (by omega) ?_
                          refine g_iload_n dX12_putsBack_284 rfl (fun _ => ?_)
                          refine g_iaddB dX12_putsBack_285 (by omega) (by omega) ?_
                          refine g_ialdB dX12_putsBack_286 sh_143 (by omega) (by omega) (m_143 hMh35 _) (fun v36 ev36 bv36 cv36 => ?_)
                          refine g_iastB dX12_putsBack_287 sh_113 (by omega) (by omega) (fun h37 eh37 => ?_)
                          have hFh37 := Fr.ar eh37
                          have hMh37 := u_113 hMh35 eh37 (by omega) (by omega)
                          refine g_iincB dX12_putsBack_288 rfl rfl (by omega) (by omega) ?_
                          refine g_goto 248 dX12_putsBack_291 (by decide) ?_
                          exact ih248 _ _ hMh37 (Fr.tr (Fr.tr (Fr.sub hFh15 rfl) hFh35 rfl) hFh37 rfl) (by omega) (by omega) (by omega)
                    refine g_istore_n dX12_putsBack_247 (by decide) rfl ?_
                    exact c248 65 _ _ hMh12 Fr.rf (by omega) (by omega) (by omega)
                  · skip
                    refine g_aload_n dX12_putsBack_223 rfl ?_
                    refine gR_X12_33 rfl dX12_putsBack_224 sh_98 (b := 105) (m_98_13 hMh12) ?_
                    refine g_iload_n dX12_putsBack_227 rfl (fun _ => ?_)
                    refine g_aload_n dX12_putsBack_228 rfl ?_
                    refine gR_X12_124 rfl dX12_putsBack_229 sh_98 (b := 135) (m_98_60 hMh12) ?_
                    refine g_bipush dX12_putsBack_232 (inR_c rfl) (by decide) ?_
                    refine g_iload_n dX12_putsBack_234 rfl (fun _ => ?_)
                    refine g_imulB dX12_putsBack_235 (by omega) (by omega) ?_
                    refine g_iload_n dX12_putsBack_236 rfl (fun _ => ?_)
                    refine g_iaddB dX12_putsBack_237 (by omega) (by omega) ?_
                    refine g_ialdB dX12_putsBack_238 sh_135 (by omega) (by omega) (m_135 hMh12 _) (fun v38 ev38 bv38 cv38 => ?_)
                    refine g_iastB dX12_putsBack_239 sh_105 (by omega) (by omega) (fun h39 eh39 => ?_)
                    have hFh39 := Fr.ar eh39
                    have hMh39 := u_105 hMh12 eh39 (by omega) (by omega)
                    refine g_iincB dX12_putsBack_240 rfl rfl (by omega) (by omega) ?_
                    refine g_goto 217 dX12_putsBack_243 (by decide) ?_
                    exact ih217 _ _ hMh39 (Fr.tr (Fr.sub hFh12 rfl) hFh39 rfl) (by omega) (by omega) (by omega)
              refine g_istore_n dX12_putsBack_216 (by decide) rfl ?_
              exact c217 41 _ _ hMh9 Fr.rf (by omega) (by omega) (by omega)
            · skip
              refine g_aload_n dX12_putsBack_73 rfl ?_
              refine gR_X12_27 rfl dX12_putsBack_74 sh_98 (b := 103) (m_98_11 hMh9) ?_
              refine g_iload_n dX12_putsBack_77 rfl (fun _ => ?_)
              refine g_aload_n dX12_putsBack_78 rfl ?_
              refine gR_X12_118 rfl dX12_putsBack_79 sh_98 (b := 133) (m_98_58 hMh9) ?_
              refine g_bipush dX12_putsBack_82 (inR_c rfl) (by decide) ?_
              refine g_iload_n dX12_putsBack_84 rfl (fun _ => ?_)
              refine g_imulB dX12_putsBack_85 (by omega) (by omega) ?_
              refine g_iload_n dX12_putsBack_86 rfl (fun _ => ?_)
              refine g_iaddB dX12_putsBack_87 (by omega) (by omega) ?_
              refine g_ialdB dX12_putsBack_88 sh_133 (by omega) (by omega) (m_133 hMh9 _) (fun v40 ev40 bv40 cv40 => ?_)
              refine g_iastB dX12_putsBack_89 sh_103 (by omega) (by omega) (fun h41 eh41 => ?_)
              have hFh41 := Fr.ar eh41
              have hMh41 := u_103 hMh9 eh41 (by omega) (by omega)
              refine g_aload_n dX12_putsBack_90 rfl ?_
              refine gR_X12_30 rfl dX12_putsBack_91 sh_98 (b := 104) (m_98_12 hMh41) ?_
              refine g_iload_n dX12_putsBack_94 rfl (fun _ => ?_)
              refine g_aload_n dX12_putsBack_95 rfl ?_
              refine gR_X12_121 rfl dX12_putsBack_96 sh_98 (b := 134) (m_98_59 hMh41) ?_
              refine g_bipush dX12_putsBack_99 (inR_c rfl) (by decide) ?_
              refine g_iload_n dX12_putsBack_101 rfl (fun _ => ?_)
              refine g_imulB dX12_putsBack_102 (by omega) (by omega) ?_
              refine g_iload_n dX12_putsBack_103 rfl (fun _ => ?_)
              refine g_iaddB dX12_putsBack_104 (by omega) (by omega) ?_
              refine g_ialdB dX12_putsBack_105 sh_134 (by omega) (by omega) (m_134 hMh41 _) (fun v42 ev42 bv42 cv42 => ?_)
              refine g_iastB dX12_putsBack_106 sh_104 (by omega) (by omega) (fun h43 eh43 => ?_)
              have hFh43 := Fr.ar eh43
              have hMh43 := u_104 hMh41 eh43 (by omega) (by omega)
              refine g_aload_n dX12_putsBack_107 rfl ?_
              refine gR_X12_36 rfl dX12_putsBack_108 sh_98 (b := 106) (m_98_14 hMh43) ?_
              refine g_iload_n dX12_putsBack_111 rfl (fun _ => ?_)
              refine g_aload_n dX12_putsBack_112 rfl ?_
              refine gR_X12_127 rfl dX12_putsBack_113 sh_98 (b := 136) (m_98_61 hMh43) ?_
              refine g_bipush dX12_putsBack_116 (inR_c rfl) (by decide) ?_
              refine g_iload_n dX12_putsBack_118 rfl (fun _ => ?_)
              refine g_imulB dX12_putsBack_119 (by omega) (by omega) ?_
              refine g_iload_n dX12_putsBack_120 rfl (fun _ => ?_)
              refine g_iaddB dX12_putsBack_121 (by omega) (by omega) ?_
              refine g_zaldB dX12_putsBack_122 sh_136 (by omega) (by omega) (m_136 hMh43 _) (fun v44 ev44 bv44 cv44 => ?_)
              refine g_zastB dX12_putsBack_123 sh_106 (by omega) (by omega) (by omega) (fun h45 eh45 => ?_)
              have hFh45 := Fr.ar eh45
              have hMh45 := u_106 hMh43 eh45 (by omega) (by omega)
              refine g_aload_n dX12_putsBack_124 rfl ?_
              refine gR_X12_40 rfl dX12_putsBack_125 sh_98 (b := 107) (m_98_15 hMh45) ?_
              refine g_iload_n dX12_putsBack_128 rfl (fun _ => ?_)
              refine g_aload_n dX12_putsBack_129 rfl ?_
              refine gR_X12_130 rfl dX12_putsBack_130 sh_98 (b := 137) (m_98_62 hMh45) ?_
              refine g_bipush dX12_putsBack_133 (inR_c rfl) (by decide) ?_
              refine g_iload_n dX12_putsBack_135 rfl (fun _ => ?_)
              refine g_imulB dX12_putsBack_136 (by omega) (by omega) ?_
              refine g_iload_n dX12_putsBack_137 rfl (fun _ => ?_)
              refine g_iaddB dX12_putsBack_138 (by omega) (by omega) ?_
              refine g_ialdB dX12_putsBack_139 sh_137 (by omega) (by omega) (m_137 hMh45 _) (fun v46 ev46 bv46 cv46 => ?_)
              refine g_iastB dX12_putsBack_140 sh_107 (by omega) (by omega) (fun h47 eh47 => ?_)
              have hFh47 := Fr.ar eh47
              have hMh47 := u_107 hMh45 eh47 (by omega) (by omega)
              refine g_aload_n dX12_putsBack_141 rfl ?_
              refine gR_X12_43 rfl dX12_putsBack_142 sh_98 (b := 108) (m_98_16 hMh47) ?_
              refine g_iload_n dX12_putsBack_145 rfl (fun _ => ?_)
              refine g_aload_n dX12_putsBack_146 rfl ?_
              refine gR_X12_133 rfl dX12_putsBack_147 sh_98 (b := 138) (m_98_63 hMh47) ?_
              refine g_bipush dX12_putsBack_150 (inR_c rfl) (by decide) ?_
              refine g_iload_n dX12_putsBack_152 rfl (fun _ => ?_)
              refine g_imulB dX12_putsBack_153 (by omega) (by omega) ?_
              refine g_iload_n dX12_putsBack_154 rfl (fun _ => ?_)
              refine g_iaddB dX12_putsBack_155 (by omega) (by omega) ?_
              refine g_ialdB dX12_putsBack_156 sh_138 (by omega) (by omega) (m_138 hMh47 _) (fun v48 ev48 bv48 cv48 => ?_)
              refine g_iastB dX12_putsBack_157 sh_108 (by omega) (by omega) (fun h49 eh49 => ?_)
              have hFh49 := Fr.ar eh49
              have hMh49 := u_108 hMh47 eh49 (by omega) (by omega)
              refine g_aload_n dX12_putsBack_158 rfl ?_
              refine gR_X12_46 rfl dX12_putsBack_159 sh_98 (b := 109) (m_98_17 hMh49) ?_
              refine g_iload_n dX12_putsBack_162 rfl (fun _ => ?_)
              refine g_aload_n dX12_putsBack_163 rfl ?_
              refine gR_X12_136 rfl dX12_putsBack_164 sh_98 (b := 139) (m_98_64 hMh49) ?_
              refine g_bipush dX12_putsBack_167 (inR_c rfl) (by decide) ?_
              refine g_iload_n dX12_putsBack_169 rfl (fun _ => ?_)
              refine g_imulB dX12_putsBack_170 (by omega) (by omega) ?_
              refine g_iload_n dX12_putsBack_171 rfl (fun _ => ?_)
              refine g_iaddB dX12_putsBack_172 (by omega) (by omega) ?_
              refine g_ialdB dX12_putsBack_173 sh_139 (by omega) (by omega) (m_139 hMh49 _) (fun v50 ev50 bv50 cv50 => ?_)
              refine g_iastB dX12_putsBack_174 sh_109 (by omega) (by omega) (fun h51 eh51 => ?_)
              have hFh51 := Fr.ar eh51
              have hMh51 := u_109 hMh49 eh51 (by omega) (by omega)
              refine g_aload_n dX12_putsBack_175 rfl ?_
              refine gR_X12_49 rfl dX12_putsBack_176 sh_98 (b := 110) (m_98_18 hMh51) ?_
              refine g_iload_n dX12_putsBack_179 rfl (fun _ => ?_)
              refine g_aload_n dX12_putsBack_180 rfl ?_
              refine gR_X12_139 rfl dX12_putsBack_181 sh_98 (b := 140) (m_98_65 hMh51) ?_
              refine g_bipush dX12_putsBack_184 (inR_c rfl) (by decide) ?_
              refine g_iload_n dX12_putsBack_186 rfl (fun _ => ?_)
              refine g_imulB dX12_putsBack_187 (by omega) (by omega) ?_
              refine g_iload_n dX12_putsBack_188 rfl (fun _ => ?_)
              refine g_iaddB dX12_putsBack_189 (by omega) (by omega) ?_
              refine g_zaldB dX12_putsBack_190 sh_140 (by omega) (by omega) (m_140 hMh51 _) (fun v52 ev52 bv52 cv52 => ?_)
              refine g_zastB dX12_putsBack_191 sh_110 (by omega) (by omega) (by omega) (fun h53 eh53 => ?_)
              have hFh53 := Fr.ar eh53
              have hMh53 := u_110 hMh51 eh53 (by omega) (by omega)
              refine g_aload_n dX12_putsBack_192 rfl ?_
              refine gR_X12_52 rfl dX12_putsBack_193 sh_98 (b := 111) (m_98_19 hMh53) ?_
              refine g_iload_n dX12_putsBack_196 rfl (fun _ => ?_)
              refine g_aload_n dX12_putsBack_197 rfl ?_
              refine gR_X12_142 rfl dX12_putsBack_198 sh_98 (b := 141) (m_98_66 hMh53) ?_
              refine g_bipush dX12_putsBack_201 (inR_c rfl) (by decide) ?_
              refine g_iload_n dX12_putsBack_203 rfl (fun _ => ?_)
              refine g_imulB dX12_putsBack_204 (by omega) (by omega) ?_
              refine g_iload_n dX12_putsBack_205 rfl (fun _ => ?_)
              refine g_iaddB dX12_putsBack_206 (by omega) (by omega) ?_
              refine g_ialdB dX12_putsBack_207 sh_141 (by omega) (by omega) (m_141 hMh53 _) (fun v54 ev54 bv54 cv54 => ?_)
              refine g_iastB dX12_putsBack_208 sh_111 (by omega) (by omega) (fun h55 eh55 => ?_)
              have hFh55 := Fr.ar eh55
              have hMh55 := u_111 hMh53 eh55 (by omega) (by omega)
              refine g_iincB dX12_putsBack_209 rfl rfl (by omega) (by omega) ?_
              refine g_goto 67 dX12_putsBack_212 (by decide) ?_
              exact ih67 _ _ hMh55 (Fr.tr (Fr.tr (Fr.tr (Fr.tr (Fr.tr (Fr.tr (Fr.tr (Fr.tr (Fr.sub hFh9 rfl) hFh41 rfl) hFh43 rfl) hFh45 rfl) hFh47 rfl) hFh49 rfl) hFh51 rfl) hFh53 rfl) hFh55 rfl) (by omega) (by omega) (by omega)
        refine g_istore_n dX12_putsBack_66 (by decide) rfl ?_
        exact c67 9 _ _ hMh6 Fr.rf (by omega) (by omega) (by omega)
      · skip
        refine g_aload_n dX12_putsBack_8 rfl ?_
        refine gR_X12_17 rfl dX12_putsBack_9 sh_98 (b := 100) (m_98_8 hMh6) ?_
        refine g_iload_n dX12_putsBack_12 rfl (fun _ => ?_)
        refine g_aload_n dX12_putsBack_13 rfl ?_
        refine gR_X12_109 rfl dX12_putsBack_14 sh_98 (b := 130) (m_98_55 hMh6) ?_
        refine g_bipush dX12_putsBack_17 (inR_c rfl) (by decide) ?_
        refine g_iload_n dX12_putsBack_19 rfl (fun _ => ?_)
        refine g_imulB dX12_putsBack_20 (by omega) (by omega) ?_
        refine g_iload_n dX12_putsBack_21 rfl (fun _ => ?_)
        refine g_iaddB dX12_putsBack_22 (by omega) (by omega) ?_
        refine g_ialdB dX12_putsBack_23 sh_130 (by omega) (by omega) (m_130 hMh6 _) (fun v56 ev56 bv56 cv56 => ?_)
        refine g_iastB dX12_putsBack_24 sh_100 (by omega) (by omega) (fun h57 eh57 => ?_)
        have hFh57 := Fr.ar eh57
        have hMh57 := u_100 hMh6 eh57 (by omega) (by omega)
        refine g_aload_n dX12_putsBack_25 rfl ?_
        refine gR_X12_21 rfl dX12_putsBack_26 sh_98 (b := 101) (m_98_9 hMh57) ?_
        refine g_iload_n dX12_putsBack_29 rfl (fun _ => ?_)
        refine g_aload_n dX12_putsBack_30 rfl ?_
        refine gR_X12_112 rfl dX12_putsBack_31 sh_98 (b := 131) (m_98_56 hMh57) ?_
        refine g_bipush dX12_putsBack_34 (inR_c rfl) (by decide) ?_
        refine g_iload_n dX12_putsBack_36 rfl (fun _ => ?_)
        refine g_imulB dX12_putsBack_37 (by omega) (by omega) ?_
        refine g_iload_n dX12_putsBack_38 rfl (fun _ => ?_)
        refine g_iaddB dX12_putsBack_39 (by omega) (by omega) ?_
        refine g_ialdB dX12_putsBack_40 sh_131 (by omega) (by omega) (m_131 hMh57 _) (fun v58 ev58 bv58 cv58 => ?_)
        refine g_iastB dX12_putsBack_41 sh_101 (by omega) (by omega) (fun h59 eh59 => ?_)
        have hFh59 := Fr.ar eh59
        have hMh59 := u_101 hMh57 eh59 (by omega) (by omega)
        refine g_aload_n dX12_putsBack_42 rfl ?_
        refine gR_X12_24 rfl dX12_putsBack_43 sh_98 (b := 102) (m_98_10 hMh59) ?_
        refine g_iload_n dX12_putsBack_46 rfl (fun _ => ?_)
        refine g_aload_n dX12_putsBack_47 rfl ?_
        refine gR_X12_115 rfl dX12_putsBack_48 sh_98 (b := 132) (m_98_57 hMh59) ?_
        refine g_bipush dX12_putsBack_51 (inR_c rfl) (by decide) ?_
        refine g_iload_n dX12_putsBack_53 rfl (fun _ => ?_)
        refine g_imulB dX12_putsBack_54 (by omega) (by omega) ?_
        refine g_iload_n dX12_putsBack_55 rfl (fun _ => ?_)
        refine g_iaddB dX12_putsBack_56 (by omega) (by omega) ?_
        refine g_ialdB dX12_putsBack_57 sh_132 (by omega) (by omega) (m_132 hMh59 _) (fun v60 ev60 bv60 cv60 => ?_)
        refine g_iastB dX12_putsBack_58 sh_102 (by omega) (by omega) (fun h61 eh61 => ?_)
        have hFh61 := Fr.ar eh61
        have hMh61 := u_102 hMh59 eh61 (by omega) (by omega)
        refine g_iincB dX12_putsBack_59 rfl rfl (by omega) (by omega) ?_
        refine g_goto 2 dX12_putsBack_62 (by decide) ?_
        exact ih2 _ _ hMh61 (Fr.tr (Fr.tr (Fr.tr (Fr.sub hFh6 rfl) hFh57 rfl) hFh59 rfl) hFh61 rfl) (by omega) (by omega) (by omega)
  refine g_istore_n dX12_putsBack_1 (by decide) rfl ?_
  exact c2 11 _ _ hM Fr.rf (by omega) (by omega) (by omega)
