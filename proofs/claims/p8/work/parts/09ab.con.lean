set_option maxRecDepth 100000 in
set_option maxHeartbeats 4000000 in
theorem c_X12_opens_98 (h : MEM) (hM : MBm h) (p0_0 : 0 ≤ h 98 42) (p0_1 : h 98 42 ≤ 199) (p1_0 : 0 ≤ h 98 36) (p1_1 : h 98 36 ≤ 199) : CV yX12_opens cX12_opens 1 (none) 2 [pR 98] h (fun h' => MBm h' ∧ Fr [(98, 37), (98, 39), (98, 42), (98, 43), (127, 0)] h h' ∧ (OPo h h') ∧ h' 98 42 = h 98 42 + 1 ∧ h' 98 36 = h 98 36 + 1) := by
  refine CV.of (L0 := [some (pR 98)]) rfl (Nat.le_of_ble_eq_true rfl) rfl (fun Po hPo hav => ?_)
  obtain ⟨w98_42, ew98_42⟩ : ∃ z, z = h 98 42 := ⟨_, rfl⟩
  obtain ⟨w98_36, ew98_36⟩ : ∃ z, z = h 98 36 := ⟨_, rfl⟩
  obtain ⟨v1, ev1⟩ : ∃ z, z = h 98 38 := ⟨_, rfl⟩
  have bv1 : -6000 ≤ v1 ∧ v1 ≤ 0 := by rw [ev1]; exact (m_98_38 hM)
  refine g_aload_n dX12_opens_0 rfl ?_
  refine gI_X12_230 rfl dX12_opens_1 sh_98 (m_98_41 hM) (fun v2 ev2 bv2 cv2 => ?_)
  refine g_bipush dX12_opens_4 (inR_c rfl) (by decide) ?_
  refine g_icmp_ne 18 dX12_opens_6 (by decide) (fun q3 => ?_) (fun q3 => ?_)
  · skip
    refine g_aload_n dX12_opens_18 rfl ?_
    refine g_dup dX12_opens_19 rfl ?_
    refine gE_X12_230 rfl dX12_opens_20 sh_98 ev2.symm ?_
    refine g_iconst dX12_opens_23 (inR_c rfl) ?_
    refine g_iaddF dX12_opens_24 (fun v4 bv4 cv4 => ?_)
    refine pI_X12_230 rfl dX12_opens_25 sh_98 (fun h5 eh5 => ?_)
    have hFh5 := Fr.st eh5
    have hMh5 := u_98_41 hM eh5 (by omega) (by omega)
    refine g_aload_n dX12_opens_28 rfl ?_
    refine g_aload_n dX12_opens_29 rfl ?_
    have q6 : h5 98 36 = w98_36 := ((hFh5 98 36 rfl).trans ew98_36.symm)
    have q7 : h5 98 37 = h 98 37 := (hFh5 98 37 rfl)
    obtain ⟨v8, ev8⟩ : ∃ z, z = h5 98 37 := ⟨_, rfl⟩
    have bv8 : 0 ≤ v8 ∧ v8 ≤ 200 := by rw [ev8]; exact (m_98_37 hMh5)
    refine g_cVP (as := []) (c_X12_here_98  h5 hMh5) dX12_opens_30 mi_X12_here in_X12_here se_X12_here ml_X12_237 rfl rfl rfl sh_98 rfl rfl (Nat.le_of_ble_eq_true rfl) (fun v9 q10 => ?_)
    obtain ⟨bv9, cv9, zv9, yv9⟩ := q10
    have frS : ∀ j, h5 127 j = h 127 j := fun j => (hFh5 127 j rfl)
    have frT : ∀ j, h5 99 j = h 99 j := fun j => (hFh5 99 j rfl)
    have eS : h5 98 42 = h 98 42 := (hFh5 98 42 rfl)
    have eP : h5 98 36 = h 98 36 := (hFh5 98 36 rfl)
    have eE : h5 98 37 = h 98 37 := (hFh5 98 37 rfl)
    have q11 : h5 98 42 = w98_42 := ((hFh5 98 42 rfl).trans ew98_42.symm)
    have q12 : h5 98 36 = w98_36 := ((hFh5 98 36 rfl).trans ew98_36.symm)
    have q13 : h5 98 42 = w98_42 := ((hFh5 98 42 rfl).trans ew98_42.symm)
    have q14 : h5 98 36 = w98_36 := ((hFh5 98 36 rfl).trans ew98_36.symm)
    refine g_cVV (as := [_]) (c_X12_puts_98 _ h5 hMh5 (by omega) (by omega) (by omega) (by omega) (by omega) (by omega)) dX12_opens_33 mi_X12_puts in_X12_puts se_X12_puts ml_X12_241 rfl rfl rfl sh_98 rfl rfl (Nat.le_of_ble_eq_true rfl) (fun h15 q16 => ?_)
    obtain ⟨hMh15, hFh15, zh15, z17, z18⟩ := q16
    have kz17 : h15 98 42 = (w98_42 + 1) := by omega
    have kz18 : h15 98 36 = (w98_36 + 1) := by omega
    have q19 : h15 98 38 = v1 := ((hFh15 98 38 rfl).trans ((hFh5 98 38 rfl).trans ev1.symm))
    have q20 : h15 98 42 = (w98_42 + 1) := kz17
    have q21 : h15 98 36 = (w98_36 + 1) := kz18
    exact g_return dX12_opens_36 rfl (hPo _ ⟨hMh15, (Fr.tr (Fr.sub hFh5 rfl) hFh15 rfl), ⟨by omega, PU_fr (by assumption) frS eS (by assumption) (HR_c eP eE frT)⟩, (by omega), (by omega)⟩)
  · skip
    refine g_aload_n dX12_opens_9 rfl ?_
    refine g_iconst dX12_opens_10 (inR_c rfl) ?_
    refine g_aload_n dX12_opens_11 rfl ?_
    refine gE_X12_211 rfl dX12_opens_12 sh_98 ew98_36.symm ?_
    refine g_cVV (as := [_, _]) (c_X12_wrongs_98 _ _ h hM (by omega) (by omega) (by omega) (by omega)) dX12_opens_15 mi_X12_wrongs in_X12_wrongs se_X12_wrongs ml_X12_233 rfl rfl rfl sh_98 rfl rfl (Nat.le_of_ble_eq_true rfl) (fun h22 q23 => ?_)
    obtain ⟨hMh22, hFh22, az24, bz24⟩ := q23
    obtain ⟨v25, ev25⟩ : ∃ z, z = h22 98 38 := ⟨_, rfl⟩
    have bv25 : -6000 ≤ v25 ∧ v25 ≤ -1 := by rw [ev25]; exact ⟨az24, bz24⟩
    refine g_aload_n dX12_opens_18 rfl ?_
    refine g_dup dX12_opens_19 rfl ?_
    refine gE_X12_230 rfl dX12_opens_20 sh_98 ((hFh22 98 41 rfl).trans ev2.symm) ?_
    refine g_iconst dX12_opens_23 (inR_c rfl) ?_
    refine g_iaddB dX12_opens_24 (by omega) (by omega) ?_
    refine pI_X12_230 rfl dX12_opens_25 sh_98 (fun h26 eh26 => ?_)
    have hFh26 := Fr.st eh26
    have hMh26 := u_98_41 hMh22 eh26 (by omega) (by omega)
    refine g_aload_n dX12_opens_28 rfl ?_
    refine g_aload_n dX12_opens_29 rfl ?_
    have q27 : h26 98 36 = w98_36 := ((hFh26 98 36 rfl).trans ((hFh22 98 36 rfl).trans ew98_36.symm))
    have q28 : h26 98 37 = h 98 37 := ((hFh26 98 37 rfl).trans (hFh22 98 37 rfl))
    obtain ⟨v29, ev29⟩ : ∃ z, z = h26 98 37 := ⟨_, rfl⟩
    have bv29 : 0 ≤ v29 ∧ v29 ≤ 200 := by rw [ev29]; exact (m_98_37 hMh26)
    refine g_cVP (as := []) (c_X12_here_98  h26 hMh26) dX12_opens_30 mi_X12_here in_X12_here se_X12_here ml_X12_237 rfl rfl rfl sh_98 rfl rfl (Nat.le_of_ble_eq_true rfl) (fun v30 q31 => ?_)
    obtain ⟨bv30, cv30, zv30, yv30⟩ := q31
    have frS : ∀ j, h26 127 j = h 127 j := fun j => ((hFh26 127 j rfl).trans (hFh22 127 j rfl))
    have frT : ∀ j, h26 99 j = h 99 j := fun j => ((hFh26 99 j rfl).trans (hFh22 99 j rfl))
    have eS : h26 98 42 = h 98 42 := ((hFh26 98 42 rfl).trans (hFh22 98 42 rfl))
    have eP : h26 98 36 = h 98 36 := ((hFh26 98 36 rfl).trans (hFh22 98 36 rfl))
    have eE : h26 98 37 = h 98 37 := ((hFh26 98 37 rfl).trans (hFh22 98 37 rfl))
    have q32 : h26 98 42 = w98_42 := ((hFh26 98 42 rfl).trans ((hFh22 98 42 rfl).trans ew98_42.symm))
    have q33 : h26 98 36 = w98_36 := ((hFh26 98 36 rfl).trans ((hFh22 98 36 rfl).trans ew98_36.symm))
    have q34 : h26 98 42 = w98_42 := ((hFh26 98 42 rfl).trans ((hFh22 98 42 rfl).trans ew98_42.symm))
    have q35 : h26 98 36 = w98_36 := ((hFh26 98 36 rfl).trans ((hFh22 98 36 rfl).trans ew98_36.symm))
    refine g_cVV (as := [_]) (c_X12_puts_98 _ h26 hMh26 (by omega) (by omega) (by omega) (by omega) (by omega) (by omega)) dX12_opens_33 mi_X12_puts in_X12_puts se_X12_puts ml_X12_241 rfl rfl rfl sh_98 rfl rfl (Nat.le_of_ble_eq_true rfl) (fun h36 q37 => ?_)
    obtain ⟨hMh36, hFh36, zh36, z38, z39⟩ := q37
    have kz38 : h36 98 42 = (w98_42 + 1) := by omega
    have kz39 : h36 98 36 = (w98_36 + 1) := by omega
    have q40 : h36 98 38 = v25 := ((hFh36 98 38 rfl).trans ((hFh26 98 38 rfl).trans ev25.symm))
    have q41 : h36 98 42 = (w98_42 + 1) := kz38
    have q42 : h36 98 36 = (w98_36 + 1) := kz39
    exact g_return dX12_opens_36 rfl (hPo _ ⟨hMh36, (Fr.tr (Fr.tr (Fr.sub hFh22 rfl) hFh26 rfl) hFh36 rfl), ⟨by omega, PU_fr (by assumption) frS eS (by assumption) (HR_c eP eE frT)⟩, (by omega), (by omega)⟩)
set_option maxRecDepth 100000 in
set_option maxHeartbeats 4000000 in
theorem c_X12_factor_98 (f : Int) (gn : Nat → Int) (s : Int) (g : Nat → Int) (h : MEM) (hM : MBm h) (p0_0 : 0 ≤ h 98 38) (p0_1 : h 98 38 ≤ 0) (f_E0 : EVo f gn s g 0 h) : CV yX12_factor cX12_factor 1 (none) 4 [pR 98] h (fun h' => MBm h' ∧ Fr [(98, 37), (98, 39), (98, 41), (98, 42), (98, 43), (125, 0), (126, 0), (127, 0)] h h' ∧ (h 98 36 ≤ h' 98 36 ∧ (h' 98 38 < 0 ∨ h 98 36 + 1 ≤ h' 98 36) ∧ h' 98 36 ≤ h' 98 37) ∧ EVo f gn s g 1 h') := by
  refine CV.of (L0 := [some (pR 98)]) rfl (Nat.le_of_ble_eq_true rfl) rfl (fun Po hPo hav => ?_)
  obtain ⟨w98_38, ew98_38⟩ : ∃ z, z = h 98 38 := ⟨_, rfl⟩
  obtain ⟨v1, ev1⟩ : ∃ z, z = h 98 36 := ⟨_, rfl⟩
  have bv1 : 0 ≤ v1 ∧ v1 ≤ 200 := by rw [ev1]; exact (m_98_36 hM)
  obtain ⟨v2, ev2⟩ : ∃ z, z = h 98 37 := ⟨_, rfl⟩
  have bv2 : 0 ≤ v2 ∧ v2 ≤ 200 := by rw [ev2]; exact (m_98_37 hM)
  have q3 : h 98 38 = w98_38 := ew98_38.symm
  have q4 : h 98 36 = v1 := ev1.symm
  have q5 : h 98 37 = v2 := ev2.symm
  have lv0 := EVo.lin f_E0 (by omega)
  have c0 : ∀ (n : Nat) (h6 : MEM), MBm h6 → Fr [(98, 37), (98, 39), (98, 42), (98, 43), (127, 0)] h h6 → EVo f gn s g 0 h6 → h 98 36 ≤ h6 98 36 → h6 98 36 ≤ 200 → h6 98 36 ≤ h6 98 37 → 200 - h6 98 36 < (n : Int) → G yX12_factor cX12_factor 1 (none) none Po (4, 240, 0, 0) 0 [some (pR 98)] [] SH h6 0 0 := by
    intro n
    induction n with
    | zero =>
      intro h6 hMh6 hFh6 e0_0 e0_1 e0_2 e0_3 hn
      exfalso; omega
    | succ n ih0 =>
      intro h6 hMh6 hFh6 e0_0 e0_1 e0_2 e0_3 hn
      obtain ⟨v7, ev7⟩ : ∃ z, z = h6 98 36 := ⟨_, rfl⟩
      have bv7 : 0 ≤ v7 ∧ v7 ≤ 200 := by rw [ev7]; exact (m_98_36 hMh6)
      have q8 : h6 98 37 = v2 := ((hFh6 98 37 rfl).trans ev2.symm)
      obtain ⟨v9, ev9⟩ : ∃ z, z = h6 98 38 := ⟨_, rfl⟩
      have bv9 : -6000 ≤ v9 ∧ v9 ≤ 0 := by rw [ev9]; exact (m_98_38 hMh6)
      refine g_aload_n dX12_factor_0 rfl ?_
      refine g_cVP (as := []) (c_X12_isGood_98  h6 hMh6) dX12_factor_1 mi_X12_isGood in_X12_isGood se_X12_isGood ml_X12_220 rfl rfl rfl sh_98 rfl rfl (Nat.le_of_ble_eq_true rfl) (fun v10 q11 => ?_)
      have q12 : h6 98 38 = v9 := ev9.symm
      rcases q11 with ⟨rfl, q11⟩ | ⟨rfl, q11⟩
      · skip
        refine g_if_eq 23 dX12_factor_4 (by decide) (fun _ => by exfalso; omega) (fun q13 => ?_)
        refine g_aload_n dX12_factor_7 rfl ?_
        have q14 : h6 98 36 = v7 := ev7.symm
        have q15 : h6 98 37 = v2 := ((hFh6 98 37 rfl).trans ev2.symm)
        refine g_cVP (as := []) (c_X12_here_98  h6 hMh6) dX12_factor_8 mi_X12_here in_X12_here se_X12_here ml_X12_237 rfl rfl rfl sh_98 rfl rfl (Nat.le_of_ble_eq_true rfl) (fun v16 q17 => ?_)
        obtain ⟨bv16, cv16, zv16, yv16⟩ := q17
        refine g_bipush dX12_factor_11 (inR_c rfl) (by decide) ?_
        refine g_icmp_ne 23 dX12_factor_13 (by decide) (fun q18 => ?_) (fun q18 => ?_)
        · skip
          refine g_aload_n dX12_factor_23 rfl ?_
          refine g_cVP (as := []) (c_X12_isGood_98  h6 hMh6) dX12_factor_24 mi_X12_isGood in_X12_isGood se_X12_isGood ml_X12_220 rfl rfl rfl sh_98 rfl rfl (Nat.le_of_ble_eq_true rfl) (fun v19 q20 => ?_)
          have q21 : h6 98 38 = v9 := ev9.symm
          rcases q20 with ⟨rfl, q20⟩ | ⟨rfl, q20⟩
          · skip
            refine g_if_ne 31 dX12_factor_27 (by decide) (fun q22 => ?_) (fun _ => by exfalso; omega)
            refine g_aload_n dX12_factor_31 rfl ?_
            have q23 : h6 98 36 = v7 := ev7.symm
            have q24 : h6 98 37 = v2 := ((hFh6 98 37 rfl).trans ev2.symm)
            refine g_cVP (as := []) (c_X12_seesDigit_98  h6 hMh6) dX12_factor_32 mi_X12_seesDigit in_X12_seesDigit se_X12_seesDigit ml_X12_248 rfl rfl rfl sh_98 rfl rfl (Nat.le_of_ble_eq_true rfl) (fun v25 q26 => ?_)
            obtain ⟨bv25, cv25, zv25⟩ := q26
            refine g_if_eq 50 dX12_factor_35 (by decide) (fun q27 => ?_) (fun q27 => ?_)
            · skip
              refine g_aload_n dX12_factor_50 rfl ?_
              have q28 : h6 98 36 = v7 := ev7.symm
              have q29 : h6 98 37 = v2 := ((hFh6 98 37 rfl).trans ev2.symm)
              refine g_cVP (as := []) (c_X12_here_98  h6 hMh6) dX12_factor_51 mi_X12_here in_X12_here se_X12_here ml_X12_237 rfl rfl rfl sh_98 rfl rfl (Nat.le_of_ble_eq_true rfl) (fun v30 q31 => ?_)
              obtain ⟨bv30, cv30, zv30, yv30⟩ := q31
              have tv30 : v30 = v16 := by rw [zv30, zv16]
              refine g_cSP (av := [_]) (c_X12_isValue _ h6 hMh6 (by omega) (by omega)) dX12_factor_54 mi_X12_isValue st_X12_isValue ml_X12_272 rfl rfl rfl rfl (Nat.le_of_ble_eq_true rfl) (fun v32 q33 => ?_)
              obtain ⟨bv32, cv32, zv32⟩ := q33
              refine g_if_eq 82 dX12_factor_57 (by decide) (fun q34 => ?_) (fun q34 => ?_)
              · skip
                refine g_aload_n dX12_factor_82 rfl ?_
                refine g_iconst dX12_factor_83 (inR_c rfl) ?_
                refine g_aload_n dX12_factor_84 rfl ?_
                refine gE_X12_211 rfl dX12_factor_85 sh_98 ev7.symm ?_
                refine g_cVV (as := [_, _]) (c_X12_wrongs_98 _ _ h6 hMh6 (by omega) (by omega) (by omega) (by omega)) dX12_factor_88 mi_X12_wrongs in_X12_wrongs se_X12_wrongs ml_X12_233 rfl rfl rfl sh_98 rfl rfl (Nat.le_of_ble_eq_true rfl) (fun h35 q36 => ?_)
                obtain ⟨hMh35, hFh35, az37, bz37⟩ := q36
                obtain ⟨v38, ev38⟩ : ∃ z, z = h35 98 38 := ⟨_, rfl⟩
                have bv38 : -6000 ≤ v38 ∧ v38 ≤ -1 := by rw [ev38]; exact ⟨az37, bz37⟩
                have q39 : h35 98 38 = v38 := ev38.symm
                have Ev2 : EVo f gn s g 1 h35 := Or.inl (by omega)
                have q40 : h35 98 36 = v7 := ((hFh35 98 36 rfl).trans ev7.symm)
                have q41 : h35 98 37 = v2 := ((hFh35 98 37 rfl).trans ((hFh6 98 37 rfl).trans ev2.symm))
                have q42 : h35 98 38 = v38 := ev38.symm
                exact g_return dX12_factor_91 rfl (hPo _ ⟨hMh35, (Fr.tr (Fr.sub hFh6 rfl) hFh35 rfl), (by omega), Ev2⟩)
              · skip
                refine g_aload_n dX12_factor_60 rfl ?_
                have Ev1 := e0_0
                have q43 : h6 98 38 = v9 := ev9.symm
                obtain ⟨v44, ev44⟩ : ∃ z, z = h6 98 42 := ⟨_, rfl⟩
                have bv44 : 0 ≤ v44 ∧ v44 ≤ 200 := by rw [ev44]; exact (m_98_42 hMh6)
                have q45 : h6 98 37 = v2 := ((hFh6 98 37 rfl).trans ev2.symm)
                have q46 : h6 98 36 = v7 := ev7.symm
                have q47 : h6 98 40 = h 98 40 := (hFh6 98 40 rfl)
                obtain ⟨v48, ev48⟩ : ∃ z, z = h6 98 40 := ⟨_, rfl⟩
                have bv48 : 0 ≤ v48 ∧ v48 ≤ 200 := by rw [ev48]; exact (m_98_40 hMh6)
                have lv := EVo.lin Ev1 (by omega)
                refine g_iconst dX12_factor_61 (inR_c rfl) ?_
                refine g_aload_n dX12_factor_62 rfl ?_
                have q49 : h6 98 36 = v7 := ev7.symm
                have q50 : h6 98 37 = v2 := ((hFh6 98 37 rfl).trans ev2.symm)
                refine g_cVP (as := []) (c_X12_here_98  h6 hMh6) dX12_factor_63 mi_X12_here in_X12_here se_X12_here ml_X12_237 rfl rfl rfl sh_98 rfl rfl (Nat.le_of_ble_eq_true rfl) (fun v51 q52 => ?_)
                obtain ⟨bv51, cv51, zv51, yv51⟩ := q52
                have tv51 : v51 = v16 := by rw [zv51, zv16]
                have q53 : h6 98 38 = v9 := ev9.symm
                have q54 : h6 98 40 = v48 := ev48.symm
                have q55 : h6 98 37 = v2 := ((hFh6 98 37 rfl).trans ev2.symm)
                refine g_cVV (as := [_, _]) (c_X12_emit_98 _ _ h6 hMh6 (by omega) (by omega) (by omega) (by omega) (by omega)) dX12_factor_66 mi_X12_emit in_X12_emit se_X12_emit ml_X12_263 rfl rfl rfl sh_98 rfl rfl (Nat.le_of_ble_eq_true rfl) (fun h56 q57 => ?_)
                obtain ⟨hMh56, hFh56, zh56⟩ := q57
                refine g_aload_n dX12_factor_69 rfl ?_
                refine g_dup dX12_factor_70 rfl ?_
                refine gE_X12_211 rfl dX12_factor_71 sh_98 ((hFh56 98 36 rfl).trans ev7.symm) ?_
                have a71 : 0 ≤ v7 ∧ v7 ≤ 199 := (by omega)
                refine g_iconst dX12_factor_74 (inR_c rfl) ?_
                refine g_iaddB dX12_factor_75 (by omega) (by omega) ?_
                refine pI_X12_211 rfl dX12_factor_76 sh_98 (fun h58 eh58 => ?_)
                have hFh58 := Fr.st eh58
                have hMh58 := u_98_36 hMh56 eh58 (by omega) (by omega)
                have q59 : h58 98 36 = (v7 + 1) := (st_at eh58)
                have eC : h58 98 40 = h56 98 40 := (hFh58 98 40 rfl)
                have fN : ∀ j, h58 125 j = h56 125 j := fun j => (hFh58 125 j rfl)
                have eE : h58 98 37 = h6 98 37 := ((hFh58 98 37 rfl).trans (hFh56 98 37 rfl))
                have eS : h58 98 42 = h6 98 42 := ((hFh58 98 42 rfl).trans (hFh56 98 42 rfl))
                have fS : ∀ j, h58 127 j = h6 127 j := fun j => ((hFh58 127 j rfl).trans (hFh56 127 j rfl))
                have Ev2 : EVo f gn s g 1 h58 := EV_let Ev1 (by omega) (by assumption) eC fN (by omega) (by omega) eE eS fS
                refine g_goto 91 dX12_factor_79 (by decide) ?_
                have q60 : h58 98 36 = (v7 + 1) := (st_at eh58)
                have q61 : h58 98 37 = v2 := ((hFh58 98 37 rfl).trans ((hFh56 98 37 rfl).trans ((hFh6 98 37 rfl).trans ev2.symm)))
                have q62 : h58 98 38 = v9 := ((hFh58 98 38 rfl).trans ((hFh56 98 38 rfl).trans ev9.symm))
                exact g_return dX12_factor_91 rfl (hPo _ ⟨hMh58, (Fr.tr (Fr.tr (Fr.sub hFh6 rfl) hFh56 rfl) hFh58 rfl), (by omega), Ev2⟩)
            · skip
              refine g_aload_n dX12_factor_38 rfl ?_
              have Ev1 := e0_0
              have q63 : h6 98 38 = v9 := ev9.symm
              obtain ⟨v64, ev64⟩ : ∃ z, z = h6 98 42 := ⟨_, rfl⟩
              have bv64 : 0 ≤ v64 ∧ v64 ≤ 200 := by rw [ev64]; exact (m_98_42 hMh6)
              have q65 : h6 98 37 = v2 := ((hFh6 98 37 rfl).trans ev2.symm)
              have q66 : h6 98 36 = v7 := ev7.symm
              have q67 : h6 98 40 = h 98 40 := (hFh6 98 40 rfl)
              obtain ⟨v68, ev68⟩ : ∃ z, z = h6 98 40 := ⟨_, rfl⟩
              have bv68 : 0 ≤ v68 ∧ v68 ≤ 200 := by rw [ev68]; exact (m_98_40 hMh6)
              have lv := EVo.lin Ev1 (by omega)
              refine g_iconst dX12_factor_39 (inR_c rfl) ?_
              refine g_aload_n dX12_factor_40 rfl ?_
              have q69 : h6 98 36 = v7 := ev7.symm
              have q70 : h6 98 38 = v9 := ev9.symm
              have q71 : h6 98 36 = v7 := ev7.symm
              have q72 : h6 98 37 = v2 := ((hFh6 98 37 rfl).trans ev2.symm)
              refine g_cV (as := []) (c_X12_reads_98  h6 hMh6 (by omega) (by omega) (by omega)) dX12_factor_41 mi_X12_reads in_X12_reads se_X12_reads ml_X12_269 rfl rfl rfl sh_98 rfl rfl (Nat.le_of_ble_eq_true rfl) (fun v73 h74 q75 => ?_)
              obtain ⟨hMh74, hFh74, bv73, cv73, zv73⟩ := q75
              obtain ⟨v76, ev76⟩ : ∃ z, z = h74 98 38 := ⟨_, rfl⟩
              have bv76 : -6000 ≤ v76 ∧ v76 ≤ 0 := by rw [ev76]; exact (m_98_38 hMh74)
              obtain ⟨v77, ev77⟩ : ∃ z, z = h74 98 36 := ⟨_, rfl⟩
              have bv77 : 0 ≤ v77 ∧ v77 ≤ 200 := by rw [ev77]; exact (m_98_36 hMh74)
              have q78 : h74 98 37 = v2 := ((hFh74 98 37 rfl).trans ((hFh6 98 37 rfl).trans ev2.symm))
              have q79 : h74 98 38 = v76 := ev76.symm
              have q80 : h74 98 42 = v64 := ((hFh74 98 42 rfl).trans ev64.symm)
              have q81 : h74 98 37 = v2 := ((hFh74 98 37 rfl).trans ((hFh6 98 37 rfl).trans ev2.symm))
              have q82 : h74 98 36 = v77 := ev77.symm
              have q83 : h74 98 40 = v68 := ((hFh74 98 40 rfl).trans ev68.symm)
              have eS : h74 98 42 = h6 98 42 := (hFh74 98 42 rfl)
              have eC : h74 98 40 = h6 98 40 := (hFh74 98 40 rfl)
              have fN : ∀ j, h74 125 j = h6 125 j := fun j => (hFh74 125 j rfl)
              have fS : ∀ j, h74 127 j = h6 127 j := fun j => (hFh74 127 j rfl)
              have Ev3 : h74 98 38 < 0 ∨ EV f gn s g 0 h74 := Or.inr (EV_rd Ev1 (by omega) (by omega) (by omega) eS eC fN fS)
              have q84 : h74 98 38 = v76 := ev76.symm
              have q85 : h74 98 40 = v68 := ((hFh74 98 40 rfl).trans ev68.symm)
              have q86 : h74 98 37 = v2 := ((hFh74 98 37 rfl).trans ((hFh6 98 37 rfl).trans ev2.symm))
              refine g_cVV (as := [_, _]) (c_X12_emit_98 _ _ h74 hMh74 (by omega) (by omega) (by omega) (by omega) (by omega)) dX12_factor_44 mi_X12_emit in_X12_emit se_X12_emit ml_X12_263 rfl rfl rfl sh_98 rfl rfl (Nat.le_of_ble_eq_true rfl) (fun h87 q88 => ?_)
              obtain ⟨hMh87, hFh87, zh87⟩ := q88
              have eB : h87 98 38 = h74 98 38 := (hFh87 98 38 rfl)
              have eP : h87 98 36 = h74 98 36 := (hFh87 98 36 rfl)
              have eE : h87 98 37 = h74 98 37 := (hFh87 98 37 rfl)
              have eS2 : h87 98 42 = h74 98 42 := (hFh87 98 42 rfl)
              have fS2 : ∀ j, h87 127 j = h74 127 j := fun j => (hFh87 127 j rfl)
              have Ev2 : EVo f gn s g 1 h87 := EV_num Ev3 eB (by assumption) (by omega) eP eE eS2 fS2
              refine g_goto 91 dX12_factor_47 (by decide) ?_
              have q89 : h87 98 36 = v77 := ((hFh87 98 36 rfl).trans ev77.symm)
              have q90 : h87 98 37 = v2 := ((hFh87 98 37 rfl).trans ((hFh74 98 37 rfl).trans ((hFh6 98 37 rfl).trans ev2.symm)))
              have q91 : h87 98 38 = v76 := ((hFh87 98 38 rfl).trans ev76.symm)
              exact g_return dX12_factor_91 rfl (hPo _ ⟨hMh87, (Fr.tr (Fr.tr (Fr.sub hFh6 rfl) hFh74 rfl) hFh87 rfl), (by omega), Ev2⟩)
          · skip
            exfalso; omega
        · skip
          refine g_aload_n dX12_factor_16 rfl ?_
          have Ev1 := e0_0
          have q92 : h6 98 38 = v9 := ev9.symm
          obtain ⟨v93, ev93⟩ : ∃ z, z = h6 98 42 := ⟨_, rfl⟩
          have bv93 : 0 ≤ v93 ∧ v93 ≤ 200 := by rw [ev93]; exact (m_98_42 hMh6)
          have q94 : h6 98 37 = v2 := ((hFh6 98 37 rfl).trans ev2.symm)
          have q95 : h6 98 36 = v7 := ev7.symm
          have q96 : h6 98 40 = h 98 40 := (hFh6 98 40 rfl)
          obtain ⟨v97, ev97⟩ : ∃ z, z = h6 98 40 := ⟨_, rfl⟩
          have bv97 : 0 ≤ v97 ∧ v97 ≤ 200 := by rw [ev97]; exact (m_98_40 hMh6)
          have lv := EVo.lin Ev1 (by omega)
          have q98 : h6 98 42 = v93 := ev93.symm
          have q99 : h6 98 36 = v7 := ev7.symm
          have q100 : h6 98 42 = v93 := ev93.symm
          have q101 : h6 98 36 = v7 := ev7.symm
          refine g_cVV (as := []) (c_X12_opens_98  h6 hMh6 (by omega) (by omega) (by omega) (by omega)) dX12_factor_17 mi_X12_opens in_X12_opens se_X12_opens ml_X12_266 rfl rfl rfl sh_98 rfl rfl (Nat.le_of_ble_eq_true rfl) (fun h102 q103 => ?_)
          obtain ⟨hMh102, hFh102, zh102, z104, z105⟩ := q103
          have kz104 : h102 98 42 = (v93 + 1) := by omega
          have kz105 : h102 98 36 = (v7 + 1) := by omega
          have Ev2 : EVo f gn s g 0 h102 := EV_open Ev1 (by omega) (by omega) (by omega) (by assumption) (by omega) (by omega) (hFh102 98 40 rfl) (hFh102 98 37 rfl) (fun j => hFh102 125 j rfl)
          refine g_goto 0 dX12_factor_20 (by decide) ?_
          have q106 : h102 98 36 = (v7 + 1) := kz105
          have q107 : h102 98 37 = v2 := ((hFh102 98 37 rfl).trans ((hFh6 98 37 rfl).trans ev2.symm))
          obtain ⟨v108, ev108⟩ : ∃ z, z = h102 98 38 := ⟨_, rfl⟩
          have bv108 : -6000 ≤ v108 ∧ v108 ≤ 0 := by rw [ev108]; exact (m_98_38 hMh102)
          exact ih0 _ hMh102 (Fr.tr (Fr.sub hFh6 rfl) hFh102 rfl) Ev2 (by omega) (by omega) (by omega) (by omega)
      · skip
        refine g_if_eq 23 dX12_factor_4 (by decide) (fun q109 => ?_) (fun _ => by exfalso; omega)
        refine g_aload_n dX12_factor_23 rfl ?_
        refine g_cVP (as := []) (c_X12_isGood_98  h6 hMh6) dX12_factor_24 mi_X12_isGood in_X12_isGood se_X12_isGood ml_X12_220 rfl rfl rfl sh_98 rfl rfl (Nat.le_of_ble_eq_true rfl) (fun v110 q111 => ?_)
        have q112 : h6 98 38 = v9 := ev9.symm
        rcases q111 with ⟨rfl, q111⟩ | ⟨rfl, q111⟩
        · skip
          exfalso; omega
        · skip
          refine g_if_ne 31 dX12_factor_27 (by decide) (fun _ => by exfalso; omega) (fun q113 => ?_)
          have q114 : h6 98 36 = v7 := ev7.symm
          have q115 : h6 98 37 = v2 := ((hFh6 98 37 rfl).trans ev2.symm)
          have q116 : h6 98 38 = v9 := ev9.symm
          have q117 : h6 98 38 = v9 := ev9.symm
          exact g_return dX12_factor_30 rfl (hPo _ ⟨hMh6, (Fr.sub hFh6 rfl), (by omega), (Or.inl (by omega))⟩)
  have q118 : h 98 36 = v1 := ev1.symm
  have q119 : h 98 37 = v2 := ev2.symm
  have q120 : h 98 38 = w98_38 := ew98_38.symm
  exact c0 201 _ hM Fr.rf f_E0 (by omega) (by omega) (by omega) (by omega)
set_option maxRecDepth 100000 in
set_option maxHeartbeats 4000000 in
theorem c_X12_value_98 (f : Int) (gn : Nat → Int) (s : Int) (g : Nat → Int) (h : MEM) (hM : MBm h) (p0_0 : 0 ≤ h 98 38) (p0_1 : h 98 38 ≤ 0) (f_E0 : EVo f gn s g 0 h) : CV yX12_value cX12_value 2 (none) 5 [pR 98] h (fun h' => MBm h' ∧ Fr [(98, 37), (98, 39), (98, 41), (98, 42), (98, 43), (98, 45), (125, 0), (126, 0), (127, 0)] h h' ∧ VPo f gn s g h' ∧ h 98 36 ≤ h' 98 36 ∧ h' 98 36 ≤ h' 98 37) := by
  refine CV.of (L0 := [some (pR 98), none]) rfl (Nat.le_of_ble_eq_true rfl) rfl (fun Po hPo hav => ?_)
  obtain ⟨w98_38, ew98_38⟩ : ∃ z, z = h 98 38 := ⟨_, rfl⟩
  obtain ⟨v1, ev1⟩ : ∃ z, z = h 98 36 := ⟨_, rfl⟩
  have bv1 : 0 ≤ v1 ∧ v1 ≤ 200 := by rw [ev1]; exact (m_98_36 hM)
  obtain ⟨v2, ev2⟩ : ∃ z, z = h 98 37 := ⟨_, rfl⟩
  have bv2 : 0 ≤ v2 ∧ v2 ≤ 200 := by rw [ev2]; exact (m_98_37 hM)
  have q3 : h 98 38 = w98_38 := ew98_38.symm
  have q4 : h 98 36 = v1 := ev1.symm
  have q5 : h 98 37 = v2 := ev2.symm
  have lv0 := EVo.lin f_E0 (by omega)
  refine g_iconst dX12_value_0 (inR_c rfl) ?_
  refine g_istore_n dX12_value_1 (by decide) rfl ?_
  refine g_aload_n dX12_value_2 rfl ?_
  refine g_iconst dX12_value_3 (inR_c rfl) ?_
  have c7 : ∀ (n : Nat) (y6 : Int) (h7 : MEM), MBm h7 → Fr [(98, 37), (98, 39), (98, 41), (98, 42), (98, 43), (98, 45), (125, 0), (126, 0), (127, 0)] h h7 → 0 ≤ y6 → y6 ≤ 1 → SYo f gn s g y6 h7 → h 98 36 ≤ h7 98 36 → h7 98 36 ≤ 200 → -6000 ≤ h7 98 38 → h7 98 36 ≤ h7 98 37 → 2 * (200 - h7 98 36) + y6 < (n : Int) → G yX12_value cX12_value 2 (none) none Po (5, 300, 0, 0) 7 [some (pR 98), some (pI y6)] [] SH h7 0 0 := by
    intro n
    induction n with
    | zero =>
      intro y6 h7 hMh7 hFh7 by6 dy6 e7_0 e7_1 e7_2 e7_3 e7_4 hn
      exfalso; omega
    | succ n ih7 =>
      intro y6 h7 hMh7 hFh7 by6 dy6 e7_0 e7_1 e7_2 e7_3 e7_4 hn
      obtain ⟨v8, ev8⟩ : ∃ z, z = h7 98 36 := ⟨_, rfl⟩
      have bv8 : 0 ≤ v8 ∧ v8 ≤ 200 := by rw [ev8]; exact (m_98_36 hMh7)
      have q9 : h7 98 37 = v2 := ((hFh7 98 37 rfl).trans ev2.symm)
      obtain ⟨v10, ev10⟩ : ∃ z, z = h7 98 38 := ⟨_, rfl⟩
      have bv10 : -6000 ≤ v10 ∧ v10 ≤ 0 := by rw [ev10]; exact (m_98_38 hMh7)
      refine g_iload_n dX12_value_7 rfl (fun _ => ?_)
      refine g_if_eq 57 dX12_value_8 (by decide) (fun q11 => ?_) (fun q11 => ?_)
      · skip
        refine g_aload_n dX12_value_57 rfl ?_
        refine g_cVP (as := []) (c_X12_isGood_98  h7 hMh7) dX12_value_58 mi_X12_isGood in_X12_isGood se_X12_isGood ml_X12_220 rfl rfl rfl sh_98 rfl rfl (Nat.le_of_ble_eq_true rfl) (fun v12 q13 => ?_)
        have q14 : h7 98 38 = v10 := ev10.symm
        rcases q13 with ⟨rfl, q13⟩ | ⟨rfl, q13⟩
        · skip
          refine g_if_eq 82 dX12_value_61 (by decide) (fun _ => by exfalso; omega) (fun q15 => ?_)
          refine g_aload_n dX12_value_64 rfl ?_
          obtain ⟨v16, ev16⟩ : ∃ z, z = h7 98 42 := ⟨_, rfl⟩
          have bv16 : 0 ≤ v16 ∧ v16 ≤ 200 := by rw [ev16]; exact (m_98_42 hMh7)
          refine g_cVP (as := []) (c_X12_top_98  h7 hMh7) dX12_value_65 mi_X12_top in_X12_top se_X12_top ml_X12_254 rfl rfl rfl sh_98 rfl rfl (Nat.le_of_ble_eq_true rfl) (fun v17 q18 => ?_)
          obtain ⟨bv17, cv17, zv17, yv17⟩ := q18
          refine g_bipush dX12_value_68 (inR_c rfl) (by decide) ?_
          refine g_icmp_ne 82 dX12_value_70 (by decide) (fun q19 => ?_) (fun q19 => ?_)
          · skip
            have q20 : h7 98 36 = v8 := ev8.symm
            have q21 : h7 98 37 = v2 := ((hFh7 98 37 rfl).trans ev2.symm)
            have q22 : h7 98 38 = v10 := ev10.symm
            have vp : VPo f gn s g h7 := (by first | exact Or.inl (by omega) | exact VP_end (SY_e e7_0 (by omega) (by omega)).1 (SY_e e7_0 (by omega) (by omega)).2 (by omega))
            exact g_return dX12_value_82 rfl (hPo _ ⟨hMh7, (Fr.sub hFh7 rfl), vp, (by omega), (by omega)⟩)
          · skip
            refine g_aload_n dX12_value_73 rfl ?_
            refine g_iconst dX12_value_74 (inR_c rfl) ?_
            refine g_aload_n dX12_value_75 rfl ?_
            refine gE_X12_211 rfl dX12_value_76 sh_98 ev8.symm ?_
            refine g_cVV (as := [_, _]) (c_X12_wrongs_98 _ _ h7 hMh7 (by omega) (by omega) (by omega) (by omega)) dX12_value_79 mi_X12_wrongs in_X12_wrongs se_X12_wrongs ml_X12_233 rfl rfl rfl sh_98 rfl rfl (Nat.le_of_ble_eq_true rfl) (fun h23 q24 => ?_)
            obtain ⟨hMh23, hFh23, az25, bz25⟩ := q24
            obtain ⟨v26, ev26⟩ : ∃ z, z = h23 98 38 := ⟨_, rfl⟩
            have bv26 : -6000 ≤ v26 ∧ v26 ≤ -1 := by rw [ev26]; exact ⟨az25, bz25⟩
            have q27 : h23 98 36 = v8 := ((hFh23 98 36 rfl).trans ev8.symm)
            have q28 : h23 98 37 = v2 := ((hFh23 98 37 rfl).trans ((hFh7 98 37 rfl).trans ev2.symm))
            have q29 : h23 98 38 = v26 := ev26.symm
            have vp : VPo f gn s g h23 := (by first | exact Or.inl (by omega) | exact VP_end (SY_e e7_0 (by omega) (by omega)).1 (SY_e e7_0 (by omega) (by omega)).2 (by omega))
            exact g_return dX12_value_82 rfl (hPo _ ⟨hMh23, (Fr.tr (Fr.sub hFh7 rfl) hFh23 rfl), vp, (by omega), (by omega)⟩)
        · skip
          refine g_if_eq 82 dX12_value_61 (by decide) (fun q30 => ?_) (fun _ => by exfalso; omega)
          have q31 : h7 98 36 = v8 := ev8.symm
          have q32 : h7 98 37 = v2 := ((hFh7 98 37 rfl).trans ev2.symm)
          have q33 : h7 98 38 = v10 := ev10.symm
          have vp : VPo f gn s g h7 := (by first | exact Or.inl (by omega) | exact VP_end (SY_e e7_0 (by omega) (by omega)).1 (SY_e e7_0 (by omega) (by omega)).2 (by omega))
          exact g_return dX12_value_82 rfl (hPo _ ⟨hMh7, (Fr.sub hFh7 rfl), vp, (by omega), (by omega)⟩)
      · skip
        refine g_aload_n dX12_value_11 rfl ?_
        refine g_cVP (as := []) (c_X12_isGood_98  h7 hMh7) dX12_value_12 mi_X12_isGood in_X12_isGood se_X12_isGood ml_X12_220 rfl rfl rfl sh_98 rfl rfl (Nat.le_of_ble_eq_true rfl) (fun v34 q35 => ?_)
        have q36 : h7 98 38 = v10 := ev10.symm
        rcases q35 with ⟨rfl, q35⟩ | ⟨rfl, q35⟩
        · skip
          refine g_if_eq 57 dX12_value_15 (by decide) (fun _ => by exfalso; omega) (fun q37 => ?_)
          refine g_aload_n dX12_value_18 rfl ?_
          refine gI_X12_279 rfl dX12_value_19 sh_98 (m_98_44 hMh7) (fun v38 ev38 bv38 cv38 => ?_)
          refine g_if_ne 29 dX12_value_22 (by decide) (fun q39 => ?_) (fun q39 => ?_)
          · skip
            refine g_aload_n dX12_value_29 rfl ?_
            have q40 : h7 98 38 = v10 := ev10.symm
            have q41 : h7 98 44 = v38 := ev38.symm
            have Ev2 : EVo f gn s g 1 h7 := SY_b e7_0 (by omega) (by omega) (by omega)
            refine g_iconst dX12_value_30 (inR_c rfl) ?_
            refine pI_X12_279 rfl dX12_value_31 sh_98 (by omega) (fun h42 eh42 => ?_)
            have hFh42 := Fr.st eh42
            have hMh42 := u_98_44 hMh7 eh42 (by omega) (by omega)
            refine g_aload_n dX12_value_34 rfl ?_
            refine g_cVP (as := []) (c_X12_isGood_98  h42 hMh42) dX12_value_35 mi_X12_isGood in_X12_isGood se_X12_isGood ml_X12_220 rfl rfl rfl sh_98 rfl rfl (Nat.le_of_ble_eq_true rfl) (fun v43 q44 => ?_)
            have q45 : h42 98 38 = v10 := ((hFh42 98 38 rfl).trans ev10.symm)
            rcases q44 with ⟨rfl, q44⟩ | ⟨rfl, q44⟩
            · skip
              refine g_if_eq 52 dX12_value_38 (by decide) (fun _ => by exfalso; omega) (fun q46 => ?_)
              refine g_aload_n dX12_value_41 rfl ?_
              have q47 : h42 98 36 = v8 := ((hFh42 98 36 rfl).trans ev8.symm)
              have q48 : h42 98 38 = v10 := ((hFh42 98 38 rfl).trans ev10.symm)
              have q49 : h42 98 44 = 0 := (st_at eh42)
              refine g_cV (as := []) (c_X12_stays_98 _ _ _ _ h42 hMh42 (by omega) (by omega) (by omega) (by omega) (EVo.fr (T := [(98, 45)]) Ev2 (Fr.sub hFh42 rfl) rfl)) dX12_value_42 mi_X12_stays in_X12_stays se_X12_stays ml_X12_286 rfl rfl rfl sh_98 rfl rfl (Nat.le_of_ble_eq_true rfl) (fun v50 h51 q52 => ?_)
              obtain ⟨hMh51, hFh51, bv50, cv50, zv50, yv50, wv50⟩ := q52
              obtain ⟨v53, ev53⟩ : ∃ z, z = h51 98 36 := ⟨_, rfl⟩
              have bv53 : 0 ≤ v53 ∧ v53 ≤ 200 := by rw [ev53]; exact (m_98_36 hMh51)
              have q54 : h51 98 37 = v2 := ((hFh51 98 37 rfl).trans ((hFh42 98 37 rfl).trans ((hFh7 98 37 rfl).trans ev2.symm)))
              refine g_if_eq 52 dX12_value_45 (by decide) (fun q55 => ?_) (fun q55 => ?_)
              · skip
                refine g_iconst dX12_value_52 (inR_c rfl) ?_
                refine g_istore_n dX12_value_53 (by decide) rfl ?_
                refine g_goto 7 dX12_value_54 (by decide) ?_
                have q56 : h51 98 36 = v53 := ev53.symm
                have q57 : h51 98 37 = v2 := ((hFh51 98 37 rfl).trans ((hFh42 98 37 rfl).trans ((hFh7 98 37 rfl).trans ev2.symm)))
                obtain ⟨v58, ev58⟩ : ∃ z, z = h51 98 38 := ⟨_, rfl⟩
                have bv58 : -6000 ≤ v58 ∧ v58 ≤ 0 := by rw [ev58]; exact (m_98_38 hMh51)
                exact ih7 _ _ hMh51 (Fr.tr (Fr.tr (Fr.sub hFh7 rfl) hFh42 rfl) hFh51 rfl) (by omega) (by omega) (by first | exact vl | exact SY_c (by assumption) (by omega) | exact Or.inl (by omega)) (by omega) (by omega) (by omega) (by omega) (by omega)
              · skip
                refine g_iconst dX12_value_48 (inR_c rfl) ?_
                refine g_goto 53 dX12_value_49 (by decide) ?_
                refine g_istore_n dX12_value_53 (by decide) rfl ?_
                refine g_goto 7 dX12_value_54 (by decide) ?_
                have q59 : h51 98 36 = v53 := ev53.symm
                have q60 : h51 98 37 = v2 := ((hFh51 98 37 rfl).trans ((hFh42 98 37 rfl).trans ((hFh7 98 37 rfl).trans ev2.symm)))
                obtain ⟨v61, ev61⟩ : ∃ z, z = h51 98 38 := ⟨_, rfl⟩
                have bv61 : -6000 ≤ v61 ∧ v61 ≤ 0 := by rw [ev61]; exact (m_98_38 hMh51)
                exact ih7 _ _ hMh51 (Fr.tr (Fr.tr (Fr.sub hFh7 rfl) hFh42 rfl) hFh51 rfl) (by omega) (by omega) (by first | exact vl | exact SY_c (by assumption) (by omega) | exact Or.inl (by omega)) (by omega) (by omega) (by omega) (by omega) (by omega)
            · skip
              exfalso; omega
          · skip
            refine g_aload_n dX12_value_25 rfl ?_
            have q62 : h7 98 38 = v10 := ev10.symm
            have q63 : h7 98 44 = v38 := ev38.symm
            have Ev1 : EVo f gn s g 0 h7 := SY_a e7_0 (by omega) (by omega) (by omega)
            have q64 : h7 98 36 = v8 := ev8.symm
            have q65 : h7 98 38 = v10 := ev10.symm
            refine g_cVV (as := []) (c_X12_factor_98 _ _ _ _ h7 hMh7 (by omega) (by omega) Ev1) dX12_value_26 mi_X12_factor in_X12_factor se_X12_factor ml_X12_283 rfl rfl rfl sh_98 rfl rfl (Nat.le_of_ble_eq_true rfl) (fun h66 q67 => ?_)
            obtain ⟨hMh66, hFh66, zh66, z68⟩ := q67
            obtain ⟨v69, ev69⟩ : ∃ z, z = h66 98 36 := ⟨_, rfl⟩
            have bv69 : 0 ≤ v69 ∧ v69 ≤ 200 := by rw [ev69]; exact (m_98_36 hMh66)
            obtain ⟨v70, ev70⟩ : ∃ z, z = h66 98 38 := ⟨_, rfl⟩
            have bv70 : -6000 ≤ v70 ∧ v70 ≤ 0 := by rw [ev70]; exact (m_98_38 hMh66)
            have q71 : h66 98 37 = v2 := ((hFh66 98 37 rfl).trans ((hFh7 98 37 rfl).trans ev2.symm))
            refine g_aload_n dX12_value_29 rfl ?_
            refine g_iconst dX12_value_30 (inR_c rfl) ?_
            refine pI_X12_279 rfl dX12_value_31 sh_98 (by omega) (fun h72 eh72 => ?_)
            have hFh72 := Fr.st eh72
            have hMh72 := u_98_44 hMh66 eh72 (by omega) (by omega)
            refine g_aload_n dX12_value_34 rfl ?_
            refine g_cVP (as := []) (c_X12_isGood_98  h72 hMh72) dX12_value_35 mi_X12_isGood in_X12_isGood se_X12_isGood ml_X12_220 rfl rfl rfl sh_98 rfl rfl (Nat.le_of_ble_eq_true rfl) (fun v73 q74 => ?_)
            have q75 : h72 98 38 = v70 := ((hFh72 98 38 rfl).trans ev70.symm)
            rcases q74 with ⟨rfl, q74⟩ | ⟨rfl, q74⟩
            · skip
              refine g_if_eq 52 dX12_value_38 (by decide) (fun _ => by exfalso; omega) (fun q76 => ?_)
              refine g_aload_n dX12_value_41 rfl ?_
              have q77 : h72 98 36 = v69 := ((hFh72 98 36 rfl).trans ev69.symm)
              have q78 : h72 98 38 = v70 := ((hFh72 98 38 rfl).trans ev70.symm)
              have q79 : h72 98 44 = 0 := (st_at eh72)
              refine g_cV (as := []) (c_X12_stays_98 _ _ _ _ h72 hMh72 (by omega) (by omega) (by omega) (by omega) (EVo.fr (T := [(98, 45)]) z68 (Fr.sub hFh72 rfl) rfl)) dX12_value_42 mi_X12_stays in_X12_stays se_X12_stays ml_X12_286 rfl rfl rfl sh_98 rfl rfl (Nat.le_of_ble_eq_true rfl) (fun v80 h81 q82 => ?_)
              obtain ⟨hMh81, hFh81, bv80, cv80, zv80, yv80, wv80⟩ := q82
              obtain ⟨v83, ev83⟩ : ∃ z, z = h81 98 36 := ⟨_, rfl⟩
              have bv83 : 0 ≤ v83 ∧ v83 ≤ 200 := by rw [ev83]; exact (m_98_36 hMh81)
              have q84 : h81 98 37 = v2 := ((hFh81 98 37 rfl).trans ((hFh72 98 37 rfl).trans ((hFh66 98 37 rfl).trans ((hFh7 98 37 rfl).trans ev2.symm))))
              refine g_if_eq 52 dX12_value_45 (by decide) (fun q85 => ?_) (fun q85 => ?_)
              · skip
                refine g_iconst dX12_value_52 (inR_c rfl) ?_
                refine g_istore_n dX12_value_53 (by decide) rfl ?_
                refine g_goto 7 dX12_value_54 (by decide) ?_
                have q86 : h81 98 36 = v83 := ev83.symm
                have q87 : h81 98 37 = v2 := ((hFh81 98 37 rfl).trans ((hFh72 98 37 rfl).trans ((hFh66 98 37 rfl).trans ((hFh7 98 37 rfl).trans ev2.symm))))
                obtain ⟨v88, ev88⟩ : ∃ z, z = h81 98 38 := ⟨_, rfl⟩
                have bv88 : -6000 ≤ v88 ∧ v88 ≤ 0 := by rw [ev88]; exact (m_98_38 hMh81)
                exact ih7 _ _ hMh81 (Fr.tr (Fr.tr (Fr.tr (Fr.sub hFh7 rfl) hFh66 rfl) hFh72 rfl) hFh81 rfl) (by omega) (by omega) (by first | exact vl | exact SY_c (by assumption) (by omega) | exact Or.inl (by omega)) (by omega) (by omega) (by omega) (by omega) (by omega)
              · skip
                refine g_iconst dX12_value_48 (inR_c rfl) ?_
                refine g_goto 53 dX12_value_49 (by decide) ?_
                refine g_istore_n dX12_value_53 (by decide) rfl ?_
                refine g_goto 7 dX12_value_54 (by decide) ?_
                have q89 : h81 98 36 = v83 := ev83.symm
                have q90 : h81 98 37 = v2 := ((hFh81 98 37 rfl).trans ((hFh72 98 37 rfl).trans ((hFh66 98 37 rfl).trans ((hFh7 98 37 rfl).trans ev2.symm))))
                obtain ⟨v91, ev91⟩ : ∃ z, z = h81 98 38 := ⟨_, rfl⟩
                have bv91 : -6000 ≤ v91 ∧ v91 ≤ 0 := by rw [ev91]; exact (m_98_38 hMh81)
                exact ih7 _ _ hMh81 (Fr.tr (Fr.tr (Fr.tr (Fr.sub hFh7 rfl) hFh66 rfl) hFh72 rfl) hFh81 rfl) (by omega) (by omega) (by first | exact vl | exact SY_c (by assumption) (by omega) | exact Or.inl (by omega)) (by omega) (by omega) (by omega) (by omega) (by omega)
            · skip
              refine g_if_eq 52 dX12_value_38 (by decide) (fun q92 => ?_) (fun _ => by exfalso; omega)
              refine g_iconst dX12_value_52 (inR_c rfl) ?_
              refine g_istore_n dX12_value_53 (by decide) rfl ?_
              refine g_goto 7 dX12_value_54 (by decide) ?_
              have q93 : h72 98 36 = v69 := ((hFh72 98 36 rfl).trans ev69.symm)
              have q94 : h72 98 37 = v2 := ((hFh72 98 37 rfl).trans ((hFh66 98 37 rfl).trans ((hFh7 98 37 rfl).trans ev2.symm)))
              have q95 : h72 98 38 = v70 := ((hFh72 98 38 rfl).trans ev70.symm)
              exact ih7 _ _ hMh72 (Fr.tr (Fr.tr (Fr.sub hFh7 rfl) hFh66 rfl) hFh72 rfl) (by omega) (by omega) (by first | exact vl | exact SY_c (by assumption) (by omega) | exact Or.inl (by omega)) (by omega) (by omega) (by omega) (by omega) (by omega)
        · skip
          refine g_if_eq 57 dX12_value_15 (by decide) (fun q96 => ?_) (fun _ => by exfalso; omega)
          refine g_aload_n dX12_value_57 rfl ?_
          refine g_cVP (as := []) (c_X12_isGood_98  h7 hMh7) dX12_value_58 mi_X12_isGood in_X12_isGood se_X12_isGood ml_X12_220 rfl rfl rfl sh_98 rfl rfl (Nat.le_of_ble_eq_true rfl) (fun v97 q98 => ?_)
          have q99 : h7 98 38 = v10 := ev10.symm
          rcases q98 with ⟨rfl, q98⟩ | ⟨rfl, q98⟩
          · skip
            exfalso; omega
          · skip
            refine g_if_eq 82 dX12_value_61 (by decide) (fun q100 => ?_) (fun _ => by exfalso; omega)
            have q101 : h7 98 36 = v8 := ev8.symm
            have q102 : h7 98 37 = v2 := ((hFh7 98 37 rfl).trans ev2.symm)
            have q103 : h7 98 38 = v10 := ev10.symm
            have vp : VPo f gn s g h7 := (by first | exact Or.inl (by omega) | exact VP_end (SY_e e7_0 (by omega) (by omega)).1 (SY_e e7_0 (by omega) (by omega)).2 (by omega))
            exact g_return dX12_value_82 rfl (hPo _ ⟨hMh7, (Fr.sub hFh7 rfl), vp, (by omega), (by omega)⟩)
  refine pI_X12_279 rfl dX12_value_4 sh_98 (by omega) (fun h104 eh104 => ?_)
  have hFh104 := Fr.st eh104
  have hMh104 := u_98_44 hM eh104 (by omega) (by omega)
  have q105 : h104 98 44 = 0 := (st_at eh104)
  have q106 : h104 98 38 = w98_38 := ((hFh104 98 38 rfl).trans ew98_38.symm)
  have lv0 := EVo.lin (EVo.fr (T := [(98, 45)]) f_E0 (Fr.sub hFh104 rfl) rfl) (by omega)
  have vl : SYo f gn s g 1 h104 := Or.inr (Or.inl ⟨rfl, by omega, ((EVo.fr (T := [(98, 45)]) f_E0 (Fr.sub hFh104 rfl) rfl)).good (by omega)⟩)
  have q107 : h104 98 36 = v1 := ((hFh104 98 36 rfl).trans ev1.symm)
  have q108 : h104 98 37 = v2 := ((hFh104 98 37 rfl).trans ev2.symm)
  have q109 : h104 98 38 = w98_38 := ((hFh104 98 38 rfl).trans ew98_38.symm)
  exact c7 402 _ _ hMh104 (Fr.sub hFh104 rfl) (by omega) (by omega) (by first | exact vl | exact SY_c (by assumption) (by omega) | exact Or.inl (by omega)) (by omega) (by omega) (by omega) (by omega) (by omega)
set_option maxRecDepth 100000 in
set_option maxHeartbeats 4000000 in
theorem c_X12_joins_98 (x1 : Int) (f : Int) (gn : Nat → Int) (h : MEM) (hM : MBm h) (bx1 : 0 ≤ x1) (dx1 : x1 ≤ 1) (p0_0 : 0 ≤ h 98 38) (p0_1 : h 98 38 ≤ 0) (f_C1 : CVo f gn 1 h) : CV yX12_joins cX12_joins 2 (none) 3 [pR 98, pI x1] h (fun h' => MBm h' ∧ Fr [(98, 41), (98, 43), (125, 0), (126, 0)] h h' ∧ (TP h' ≠ 38 ∧ (x1 = 0 ∨ TP h' ≠ 124)) ∧ CVo f gn 1 h') := by
  refine CV.of (L0 := [some (pR 98), some (pI x1)]) rfl (Nat.le_of_ble_eq_true rfl) rfl (fun Po hPo hav => ?_)
  obtain ⟨w98_38, ew98_38⟩ : ∃ z, z = h 98 38 := ⟨_, rfl⟩
  obtain ⟨v1, ev1⟩ : ∃ z, z = h 98 37 := ⟨_, rfl⟩
  have bv1 : 0 ≤ v1 ∧ v1 ≤ 200 := by rw [ev1]; exact (m_98_37 hM)
  obtain ⟨v2, ev2⟩ : ∃ z, z = h 98 36 := ⟨_, rfl⟩
  have bv2 : 0 ≤ v2 ∧ v2 ≤ 200 := by rw [ev2]; exact (m_98_36 hM)
  have q3 : h 98 38 = w98_38 := ew98_38.symm
  have q4 : h 98 36 = v2 := ev2.symm
  have q5 : h 98 37 = v1 := ev1.symm
  have lv0 := CVo.lin f_C1 (by omega)
  have c0 : ∀ (n : Nat) (h6 : MEM), MBm h6 → Fr [(98, 41), (98, 43), (125, 0), (126, 0)] h h6 → CVo f gn 1 h6 → 0 ≤ h6 98 42 → h6 98 42 < (n : Int) → G yX12_joins cX12_joins 2 (none) none Po (3, 180, 0, 0) 0 [some (pR 98), some (pI x1)] [] SH h6 0 0 := by
    intro n
    induction n with
    | zero =>
      intro h6 hMh6 hFh6 e0_0 e0_1 hn
      exfalso; omega
    | succ n ih0 =>
      intro h6 hMh6 hFh6 e0_0 e0_1 hn
      have q7 : h6 98 36 = v2 := ((hFh6 98 36 rfl).trans ev2.symm)
      have q8 : h6 98 37 = v1 := ((hFh6 98 37 rfl).trans ev1.symm)
      obtain ⟨v9, ev9⟩ : ∃ z, z = h6 98 42 := ⟨_, rfl⟩
      have bv9 : 0 ≤ v9 ∧ v9 ≤ 200 := by rw [ev9]; exact (m_98_42 hMh6)
      refine g_aload_n dX12_joins_0 rfl ?_
      have q10 : h6 98 42 = v9 := ev9.symm
      refine g_cVP (as := []) (c_X12_top_98  h6 hMh6) dX12_joins_1 mi_X12_top in_X12_top se_X12_top ml_X12_254 rfl rfl rfl sh_98 rfl rfl (Nat.le_of_ble_eq_true rfl) (fun v11 q12 => ?_)
      obtain ⟨bv11, cv11, zv11, yv11⟩ := q12
      refine g_bipush dX12_joins_4 (inR_c rfl) (by decide) ?_
      refine g_icmp_eq 22 dX12_joins_6 (by decide) (fun q13 => ?_) (fun q13 => ?_)
      · skip
        refine g_aload_n dX12_joins_22 rfl ?_
        refine g_aload_n dX12_joins_23 rfl ?_
        have q14 : h6 98 42 = v9 := ev9.symm
        refine g_cVP (as := []) (c_X12_top_98  h6 hMh6) dX12_joins_24 mi_X12_top in_X12_top se_X12_top ml_X12_254 rfl rfl rfl sh_98 rfl rfl (Nat.le_of_ble_eq_true rfl) (fun v15 q16 => ?_)
        obtain ⟨bv15, cv15, zv15, yv15⟩ := q16
        have tv15 : v15 = v11 := by rw [zv15, zv11]
        refine g_iconst dX12_joins_27 (inR_c rfl) ?_
        have Ev1 := e0_0
        have q17 : h6 98 38 = w98_38 := ((hFh6 98 38 rfl).trans ew98_38.symm)
        have q18 : h6 98 42 = v9 := ev9.symm
        have q19 : h6 98 37 = v1 := ((hFh6 98 37 rfl).trans ev1.symm)
        have q20 : h6 98 36 = v2 := ((hFh6 98 36 rfl).trans ev2.symm)
        obtain ⟨v21, ev21⟩ : ∃ z, z = h6 98 40 := ⟨_, rfl⟩
        have bv21 : 0 ≤ v21 ∧ v21 ≤ 200 := by rw [ev21]; exact (m_98_40 hMh6)
        have lv := CVo.lin Ev1 (by omega)
        have q22 : h6 98 38 = w98_38 := ((hFh6 98 38 rfl).trans ew98_38.symm)
        have q23 : h6 98 40 = v21 := ev21.symm
        have q24 : h6 98 37 = v1 := ((hFh6 98 37 rfl).trans ev1.symm)
        refine g_cVV (as := [_, _]) (c_X12_emit_98 _ _ h6 hMh6 (by omega) (by omega) (by omega) (by omega) (by omega)) dX12_joins_28 mi_X12_emit in_X12_emit se_X12_emit ml_X12_263 rfl rfl rfl sh_98 rfl rfl (Nat.le_of_ble_eq_true rfl) (fun h25 q26 => ?_)
        obtain ⟨hMh25, hFh25, zh25⟩ := q26
        refine g_aload_n dX12_joins_31 rfl ?_
        have eS : h25 98 42 = h6 98 42 := (hFh25 98 42 rfl)
        refine g_dup dX12_joins_32 rfl ?_
        refine gE_X12_227 rfl dX12_joins_33 sh_98 ((hFh25 98 42 rfl).trans ev9.symm) ?_
        have a33 : 1 ≤ v9 ∧ v9 ≤ 200 := (by omega)
        refine g_iconst dX12_joins_36 (inR_c rfl) ?_
        refine g_isubB dX12_joins_37 (by omega) (by omega) ?_
        refine pI_X12_227 rfl dX12_joins_38 sh_98 (fun h27 eh27 => ?_)
        have hFh27 := Fr.st eh27
        have hMh27 := u_98_42 hMh25 eh27 (by omega) (by omega)
        have eC : h27 98 40 = h25 98 40 := (hFh27 98 40 rfl)
        have fN : ∀ j, h27 125 j = h25 125 j := fun j => (hFh27 125 j rfl)
        have fS : ∀ j, h27 127 j = h6 127 j := fun j => ((hFh27 127 j rfl).trans (hFh25 127 j rfl))
        have eP : h27 98 36 = h6 98 36 := ((hFh27 98 36 rfl).trans (hFh25 98 36 rfl))
        have eE : h27 98 37 = h6 98 37 := ((hFh27 98 37 rfl).trans (hFh25 98 37 rfl))
        have q28 : h27 98 42 = (v9 - 1) := (st_at eh27)
        have Ev2 : CVo f gn 1 h27 := C_op Ev1 (by omega) (by assumption) (by omega) (by omega) eC fN (by omega) fS eP eE
        refine g_goto 0 dX12_joins_41 (by decide) ?_
        have q29 : h27 98 42 = (v9 - 1) := (st_at eh27)
        exact ih0 _ hMh27 (Fr.tr (Fr.tr (Fr.sub hFh6 rfl) hFh25 rfl) hFh27 rfl) Ev2 (by omega) (by omega)
      · skip
        refine g_iload_n dX12_joins_9 rfl (fun _ => ?_)
        refine g_if_eq 44 dX12_joins_10 (by decide) (fun q30 => ?_) (fun q30 => ?_)
        · skip
          exact g_return dX12_joins_44 rfl (hPo _ ⟨hMh6, (Fr.sub hFh6 rfl), (by omega), e0_0⟩)
        · skip
          refine g_aload_n dX12_joins_13 rfl ?_
          have q31 : h6 98 42 = v9 := ev9.symm
          refine g_cVP (as := []) (c_X12_top_98  h6 hMh6) dX12_joins_14 mi_X12_top in_X12_top se_X12_top ml_X12_254 rfl rfl rfl sh_98 rfl rfl (Nat.le_of_ble_eq_true rfl) (fun v32 q33 => ?_)
          obtain ⟨bv32, cv32, zv32, yv32⟩ := q33
          have tv32 : v32 = v11 := by rw [zv32, zv11]
          refine g_bipush dX12_joins_17 (inR_c rfl) (by decide) ?_
          refine g_icmp_ne 44 dX12_joins_19 (by decide) (fun q34 => ?_) (fun q34 => ?_)
          · skip
            exact g_return dX12_joins_44 rfl (hPo _ ⟨hMh6, (Fr.sub hFh6 rfl), (by omega), e0_0⟩)
          · skip
            refine g_aload_n dX12_joins_22 rfl ?_
            refine g_aload_n dX12_joins_23 rfl ?_
            have q35 : h6 98 42 = v9 := ev9.symm
            refine g_cVP (as := []) (c_X12_top_98  h6 hMh6) dX12_joins_24 mi_X12_top in_X12_top se_X12_top ml_X12_254 rfl rfl rfl sh_98 rfl rfl (Nat.le_of_ble_eq_true rfl) (fun v36 q37 => ?_)
            obtain ⟨bv36, cv36, zv36, yv36⟩ := q37
            have tv36 : v36 = v11 := by rw [zv36, zv11]
            refine g_iconst dX12_joins_27 (inR_c rfl) ?_
            have Ev1 := e0_0
            have q38 : h6 98 38 = w98_38 := ((hFh6 98 38 rfl).trans ew98_38.symm)
            have q39 : h6 98 42 = v9 := ev9.symm
            have q40 : h6 98 37 = v1 := ((hFh6 98 37 rfl).trans ev1.symm)
            have q41 : h6 98 36 = v2 := ((hFh6 98 36 rfl).trans ev2.symm)
            obtain ⟨v42, ev42⟩ : ∃ z, z = h6 98 40 := ⟨_, rfl⟩
            have bv42 : 0 ≤ v42 ∧ v42 ≤ 200 := by rw [ev42]; exact (m_98_40 hMh6)
            have lv := CVo.lin Ev1 (by omega)
            have q43 : h6 98 38 = w98_38 := ((hFh6 98 38 rfl).trans ew98_38.symm)
            have q44 : h6 98 40 = v42 := ev42.symm
            have q45 : h6 98 37 = v1 := ((hFh6 98 37 rfl).trans ev1.symm)
            refine g_cVV (as := [_, _]) (c_X12_emit_98 _ _ h6 hMh6 (by omega) (by omega) (by omega) (by omega) (by omega)) dX12_joins_28 mi_X12_emit in_X12_emit se_X12_emit ml_X12_263 rfl rfl rfl sh_98 rfl rfl (Nat.le_of_ble_eq_true rfl) (fun h46 q47 => ?_)
            obtain ⟨hMh46, hFh46, zh46⟩ := q47
            refine g_aload_n dX12_joins_31 rfl ?_
            have eS : h46 98 42 = h6 98 42 := (hFh46 98 42 rfl)
            refine g_dup dX12_joins_32 rfl ?_
            refine gE_X12_227 rfl dX12_joins_33 sh_98 ((hFh46 98 42 rfl).trans ev9.symm) ?_
            have a33 : 1 ≤ v9 ∧ v9 ≤ 200 := (by omega)
            refine g_iconst dX12_joins_36 (inR_c rfl) ?_
            refine g_isubB dX12_joins_37 (by omega) (by omega) ?_
            refine pI_X12_227 rfl dX12_joins_38 sh_98 (fun h48 eh48 => ?_)
            have hFh48 := Fr.st eh48
            have hMh48 := u_98_42 hMh46 eh48 (by omega) (by omega)
            have eC : h48 98 40 = h46 98 40 := (hFh48 98 40 rfl)
            have fN : ∀ j, h48 125 j = h46 125 j := fun j => (hFh48 125 j rfl)
            have fS : ∀ j, h48 127 j = h6 127 j := fun j => ((hFh48 127 j rfl).trans (hFh46 127 j rfl))
            have eP : h48 98 36 = h6 98 36 := ((hFh48 98 36 rfl).trans (hFh46 98 36 rfl))
            have eE : h48 98 37 = h6 98 37 := ((hFh48 98 37 rfl).trans (hFh46 98 37 rfl))
            have q49 : h48 98 42 = (v9 - 1) := (st_at eh48)
            have Ev2 : CVo f gn 1 h48 := C_op Ev1 (by omega) (by assumption) (by omega) (by omega) eC fN (by omega) fS eP eE
            refine g_goto 0 dX12_joins_41 (by decide) ?_
            have q50 : h48 98 42 = (v9 - 1) := (st_at eh48)
            exact ih0 _ hMh48 (Fr.tr (Fr.tr (Fr.sub hFh6 rfl) hFh46 rfl) hFh48 rfl) Ev2 (by omega) (by omega)
  obtain ⟨v51, ev51⟩ : ∃ z, z = h 98 42 := ⟨_, rfl⟩
  have bv51 : 0 ≤ v51 ∧ v51 ≤ 200 := by rw [ev51]; exact (m_98_42 hM)
  exact c0 201 _ hM Fr.rf f_C1 (by omega) (by omega)
set_option maxRecDepth 100000 in
set_option maxHeartbeats 4000000 in
theorem c_X12_ends_98 (f : Int) (gn : Nat → Int) (h : MEM) (hM : MBm h) (p0_0 : 0 ≤ h 98 38) (p0_1 : h 98 38 ≤ 0) (f_C1 : CVo f gn 1 h) : CV yX12_ends cX12_ends 1 (none) 3 [pR 98] h (fun h' => MBm h' ∧ Fr [(98, 41), (98, 42), (98, 43), (125, 0), (126, 0)] h h' ∧ CVo f gn 1 h') := by
  refine CV.of (L0 := [some (pR 98)]) rfl (Nat.le_of_ble_eq_true rfl) rfl (fun Po hPo hav => ?_)
  obtain ⟨w98_38, ew98_38⟩ : ∃ z, z = h 98 38 := ⟨_, rfl⟩
  obtain ⟨v1, ev1⟩ : ∃ z, z = h 98 37 := ⟨_, rfl⟩
  have bv1 : 0 ≤ v1 ∧ v1 ≤ 200 := by rw [ev1]; exact (m_98_37 hM)
  obtain ⟨v2, ev2⟩ : ∃ z, z = h 98 36 := ⟨_, rfl⟩
  have bv2 : 0 ≤ v2 ∧ v2 ≤ 200 := by rw [ev2]; exact (m_98_36 hM)
  have q3 : h 98 38 = w98_38 := ew98_38.symm
  have q4 : h 98 36 = v2 := ev2.symm
  have q5 : h 98 37 = v1 := ev1.symm
  have lv0 := CVo.lin f_C1 (by omega)
  have c0 : ∀ (n : Nat) (h6 : MEM), MBm h6 → Fr [(98, 41), (98, 42), (98, 43), (125, 0), (126, 0)] h h6 → CVo f gn 1 h6 → 0 ≤ h6 98 42 → h6 98 42 < (n : Int) → G yX12_ends cX12_ends 1 (none) none Po (3, 180, 0, 0) 0 [some (pR 98)] [] SH h6 0 0 := by
    intro n
    induction n with
    | zero =>
      intro h6 hMh6 hFh6 e0_0 e0_1 hn
      exfalso; omega
    | succ n ih0 =>
      intro h6 hMh6 hFh6 e0_0 e0_1 hn
      have q7 : h6 98 36 = v2 := ((hFh6 98 36 rfl).trans ev2.symm)
      have q8 : h6 98 37 = v1 := ((hFh6 98 37 rfl).trans ev1.symm)
      obtain ⟨v9, ev9⟩ : ∃ z, z = h6 98 42 := ⟨_, rfl⟩
      have bv9 : 0 ≤ v9 ∧ v9 ≤ 200 := by rw [ev9]; exact (m_98_42 hMh6)
      refine g_aload_n dX12_ends_0 rfl ?_
      have q10 : h6 98 42 = v9 := ev9.symm
      refine g_cVP (as := []) (c_X12_top_98  h6 hMh6) dX12_ends_1 mi_X12_top in_X12_top se_X12_top ml_X12_254 rfl rfl rfl sh_98 rfl rfl (Nat.le_of_ble_eq_true rfl) (fun v11 q12 => ?_)
      obtain ⟨bv11, cv11, zv11, yv11⟩ := q12
      refine g_bipush dX12_ends_4 (inR_c rfl) (by decide) ?_
      refine g_icmp_ne 38 dX12_ends_6 (by decide) (fun q13 => ?_) (fun q13 => ?_)
      · skip
        exact g_return dX12_ends_38 rfl (hPo _ ⟨hMh6, (Fr.sub hFh6 rfl), e0_0⟩)
      · skip
        refine g_aload_n dX12_ends_9 rfl ?_
        refine g_iconst dX12_ends_10 (inR_c rfl) ?_
        refine g_iconst dX12_ends_11 (inR_c rfl) ?_
        have Ev1 := e0_0
        have q14 : h6 98 38 = w98_38 := ((hFh6 98 38 rfl).trans ew98_38.symm)
        have q15 : h6 98 42 = v9 := ev9.symm
        have q16 : h6 98 37 = v1 := ((hFh6 98 37 rfl).trans ev1.symm)
        have q17 : h6 98 36 = v2 := ((hFh6 98 36 rfl).trans ev2.symm)
        obtain ⟨v18, ev18⟩ : ∃ z, z = h6 98 40 := ⟨_, rfl⟩
        have bv18 : 0 ≤ v18 ∧ v18 ≤ 200 := by rw [ev18]; exact (m_98_40 hMh6)
        have lv := CVo.lin Ev1 (by omega)
        have q19 : h6 98 38 = w98_38 := ((hFh6 98 38 rfl).trans ew98_38.symm)
        have q20 : h6 98 40 = v18 := ev18.symm
        have q21 : h6 98 37 = v1 := ((hFh6 98 37 rfl).trans ev1.symm)
        refine g_cVV (as := [_, _]) (c_X12_emit_98 _ _ h6 hMh6 (by omega) (by omega) (by omega) (by omega) (by omega)) dX12_ends_12 mi_X12_emit in_X12_emit se_X12_emit ml_X12_263 rfl rfl rfl sh_98 rfl rfl (Nat.le_of_ble_eq_true rfl) (fun h22 q23 => ?_)
        obtain ⟨hMh22, hFh22, zh22⟩ := q23
        refine g_aload_n dX12_ends_15 rfl ?_
        have eS : h22 98 42 = h6 98 42 := (hFh22 98 42 rfl)
        refine g_dup dX12_ends_16 rfl ?_
        refine gE_X12_227 rfl dX12_ends_17 sh_98 ((hFh22 98 42 rfl).trans ev9.symm) ?_
        have a17 : 1 ≤ v9 ∧ v9 ≤ 200 := (by omega)
        refine g_iconst dX12_ends_20 (inR_c rfl) ?_
        refine g_isubB dX12_ends_21 (by omega) (by omega) ?_
        refine pI_X12_227 rfl dX12_ends_22 sh_98 (fun h24 eh24 => ?_)
        have hFh24 := Fr.st eh24
        have hMh24 := u_98_42 hMh22 eh24 (by omega) (by omega)
        have eC : h24 98 40 = h22 98 40 := (hFh24 98 40 rfl)
        have fN : ∀ j, h24 125 j = h22 125 j := fun j => (hFh24 125 j rfl)
        have fS : ∀ j, h24 127 j = h6 127 j := fun j => ((hFh24 127 j rfl).trans (hFh22 127 j rfl))
        have eP : h24 98 36 = h6 98 36 := ((hFh24 98 36 rfl).trans (hFh22 98 36 rfl))
        have eE : h24 98 37 = h6 98 37 := ((hFh24 98 37 rfl).trans (hFh22 98 37 rfl))
        have q25 : h24 98 42 = (v9 - 1) := (st_at eh24)
        have Ev2 : CVo f gn 1 h24 := C_not Ev1 (by omega) (by assumption) (by omega) eC fN (by omega) fS eP eE
        refine g_aload_n dX12_ends_25 rfl ?_
        refine g_dup dX12_ends_26 rfl ?_
        refine gI_X12_230 rfl dX12_ends_27 sh_98 (m_98_41 hMh24) (fun v26 ev26 bv26 cv26 => ?_)
        refine g_iconst dX12_ends_30 (inR_c rfl) ?_
        refine g_isubF dX12_ends_31 (fun v27 bv27 cv27 => ?_)
        refine pI_X12_230 rfl dX12_ends_32 sh_98 (fun h28 eh28 => ?_)
        have hFh28 := Fr.st eh28
        have hMh28 := u_98_41 hMh24 eh28 (by omega) (by omega)
        refine g_goto 0 dX12_ends_35 (by decide) ?_
        have q29 : h28 98 42 = (v9 - 1) := ((hFh28 98 42 rfl).trans (st_at eh24))
        exact ih0 _ hMh28 (Fr.tr (Fr.tr (Fr.tr (Fr.sub hFh6 rfl) hFh22 rfl) hFh24 rfl) hFh28 rfl) (CVo.fr (T := [(98, 42)]) Ev2 (Fr.sub hFh28 rfl) rfl) (by omega) (by omega)
  obtain ⟨v30, ev30⟩ : ∃ z, z = h 98 42 := ⟨_, rfl⟩
  have bv30 : 0 ≤ v30 ∧ v30 ≤ 200 := by rw [ev30]; exact (m_98_42 hM)
  exact c0 201 _ hM Fr.rf f_C1 (by omega) (by omega)
set_option maxRecDepth 100000 in
set_option maxHeartbeats 4000000 in
theorem c_X12_goesBehind_98 (f : Int) (gn : Nat → Int) (h : MEM) (hM : MBm h) (p0_0 : 0 ≤ h 98 38) (p0_1 : h 98 38 ≤ 0) (p1_0 : 0 ≤ h 98 43) (p1_1 : h 98 43 ≤ 0) (f_C1 : CVo f gn 1 h) : CI yX12_goesBehind cX12_goesBehind 2 (some .boolean) 4 [pR 98] h (fun x h' => MBm h' ∧ Fr [(98, 37), (98, 39), (98, 41), (98, 42), (98, 43), (98, 44), (125, 0), (126, 0), (127, 0)] h h' ∧ 0 ≤ x ∧ x ≤ 1 ∧ GBo f gn x h' ∧ h 98 36 ≤ h' 98 36 ∧ (h' 98 38 < 0 ∨ h 98 36 + 1 ≤ h' 98 36) ∧ h' 98 36 ≤ h' 98 37) := by
  refine CI.of (L0 := [some (pR 98), none]) rfl (Nat.le_of_ble_eq_true rfl) rfl (fun Po hPo hav => ?_)
  obtain ⟨w98_38, ew98_38⟩ : ∃ z, z = h 98 38 := ⟨_, rfl⟩
  obtain ⟨w98_43, ew98_43⟩ : ∃ z, z = h 98 43 := ⟨_, rfl⟩
  obtain ⟨v1, ev1⟩ : ∃ z, z = h 98 36 := ⟨_, rfl⟩
  have bv1 : 0 ≤ v1 ∧ v1 ≤ 200 := by rw [ev1]; exact (m_98_36 hM)
  obtain ⟨v2, ev2⟩ : ∃ z, z = h 98 37 := ⟨_, rfl⟩
  have bv2 : 0 ≤ v2 ∧ v2 ≤ 200 := by rw [ev2]; exact (m_98_37 hM)
  have q3 : h 98 38 = w98_38 := ew98_38.symm
  have q4 : h 98 36 = v1 := ev1.symm
  have q5 : h 98 37 = v2 := ev2.symm
  have lv0 := CVo.lin f_C1 (by omega)
  refine g_aload_n dX12_goesBehind_0 rfl ?_
  have q6 : h 98 36 = v1 := ev1.symm
  have q7 : h 98 37 = v2 := ev2.symm
  refine g_cVP (as := []) (c_X12_here_98  h hM) dX12_goesBehind_1 mi_X12_here in_X12_here se_X12_here ml_X12_237 rfl rfl rfl sh_98 rfl rfl (Nat.le_of_ble_eq_true rfl) (fun v8 q9 => ?_)
  obtain ⟨bv8, cv8, zv8, yv8⟩ := q9
  refine g_istore_n dX12_goesBehind_4 (by decide) rfl ?_
  refine g_iload_n dX12_goesBehind_5 rfl (fun _ => ?_)
  refine g_bipush dX12_goesBehind_6 (inR_c rfl) (by decide) ?_
  refine g_icmp_eq 17 dX12_goesBehind_8 (by decide) (fun q10 => ?_) (fun q10 => ?_)
  · skip
    refine g_aload_n dX12_goesBehind_17 rfl ?_
    refine g_iload_n dX12_goesBehind_18 rfl (fun _ => ?_)
    refine g_bipush dX12_goesBehind_19 (inR_c rfl) (by decide) ?_
    refine g_icmp_ne 28 dX12_goesBehind_21 (by decide) (fun q11 => ?_) (fun _ => by exfalso; omega)
    refine g_iconst dX12_goesBehind_28 (inR_c rfl) ?_
    have q12 : h 98 38 = w98_38 := ew98_38.symm
    refine g_cVV (as := [_]) (c_X12_joins_98 _ _ _ h hM (by omega) (by omega) (by omega) (by omega) f_C1) dX12_goesBehind_29 mi_X12_joins in_X12_joins se_X12_joins ml_X12_298 rfl rfl rfl sh_98 rfl rfl (Nat.le_of_ble_eq_true rfl) (fun h13 q14 => ?_)
    obtain ⟨hMh13, hFh13, zh13, z15⟩ := q14
    refine g_aload_n dX12_goesBehind_32 rfl ?_
    refine g_iload_n dX12_goesBehind_33 rfl (fun _ => ?_)
    have Cv1 := z15
    have q16 : h13 98 38 = w98_38 := ((hFh13 98 38 rfl).trans ew98_38.symm)
    obtain ⟨v17, ev17⟩ : ∃ z, z = h13 98 42 := ⟨_, rfl⟩
    have bv17 : 0 ≤ v17 ∧ v17 ≤ 200 := by rw [ev17]; exact (m_98_42 hMh13)
    have q18 : h13 98 37 = v2 := ((hFh13 98 37 rfl).trans ev2.symm)
    have q19 : h13 98 36 = v1 := ((hFh13 98 36 rfl).trans ev1.symm)
    obtain ⟨v20, ev20⟩ : ∃ z, z = h13 98 40 := ⟨_, rfl⟩
    have bv20 : 0 ≤ v20 ∧ v20 ≤ 200 := by rw [ev20]; exact (m_98_40 hMh13)
    have lv := CVo.lin Cv1 (by omega)
    have q21 : h13 98 42 = v17 := ev17.symm
    have q22 : h13 98 36 = v1 := ((hFh13 98 36 rfl).trans ev1.symm)
    have q23 : h13 98 42 = v17 := ev17.symm
    have q24 : h13 98 36 = v1 := ((hFh13 98 36 rfl).trans ev1.symm)
    refine g_cVV (as := [_]) (c_X12_puts_98 _ h13 hMh13 (by omega) (by omega) (by omega) (by omega) (by omega) (by omega)) dX12_goesBehind_34 mi_X12_puts in_X12_puts se_X12_puts ml_X12_241 rfl rfl rfl sh_98 rfl rfl (Nat.le_of_ble_eq_true rfl) (fun h25 q26 => ?_)
    obtain ⟨hMh25, hFh25, zh25, z27, z28⟩ := q26
    have kz27 : h25 98 42 = (v17 + 1) := by omega
    have kz28 : h25 98 36 = (v1 + 1) := by omega
    have q29 : h25 98 38 = w98_38 := ((hFh25 98 38 rfl).trans ((hFh13 98 38 rfl).trans ew98_38.symm))
    have q30 : h25 98 43 = w98_43 := ((hFh25 98 43 rfl).trans ((hFh13 98 43 rfl).trans ew98_43.symm))
    have gb : GBo f gn 1 h25 := Or.inr (Or.inl ⟨rfl, by omega, C_bin Cv1 (by omega) (by assumption) (by omega) (by omega) (by omega) (by omega) (hFh25 98 40 rfl) (hFh25 98 37 rfl) (fun j => hFh25 125 j rfl)⟩)
    refine g_iconst dX12_goesBehind_37 (inR_c rfl) ?_
    have q31 : h25 98 36 = (v1 + 1) := kz28
    have q32 : h25 98 37 = v2 := ((hFh25 98 37 rfl).trans ((hFh13 98 37 rfl).trans ev2.symm))
    have q33 : h25 98 38 = w98_38 := ((hFh25 98 38 rfl).trans ((hFh13 98 38 rfl).trans ew98_38.symm))
    have q34 : h25 98 43 = w98_43 := ((hFh25 98 43 rfl).trans ((hFh13 98 43 rfl).trans ew98_43.symm))
    have q35 : h25 98 42 = (v17 + 1) := kz27
    have gc : GBo f gn 1 h25 := (by first | exact gb | exact Or.inr (Or.inr (Or.inr ⟨by omega, cc.1.fr0 (T := [(98, 44)]) (by assumption) rfl⟩)) | exact Or.inr (Or.inr (Or.inl ⟨rfl, by omega, CVo.good (by assumption) (by omega)⟩)))
    exact g_ireturn dX12_goesBehind_38 (retZ (by omega)) (hPo _ _ ⟨hMh25, (Fr.tr (Fr.sub hFh13 rfl) hFh25 rfl), (by omega), (by omega), gc, (by omega), (by omega), (by omega)⟩)
  · skip
    refine g_iload_n dX12_goesBehind_11 rfl (fun _ => ?_)
    refine g_bipush dX12_goesBehind_12 (inR_c rfl) (by decide) ?_
    refine g_icmp_ne 39 dX12_goesBehind_14 (by decide) (fun q36 => ?_) (fun q36 => ?_)
    · skip
      refine g_iload_n dX12_goesBehind_39 rfl (fun _ => ?_)
      refine g_bipush dX12_goesBehind_40 (inR_c rfl) (by decide) ?_
      refine g_icmp_eq 56 dX12_goesBehind_42 (by decide) (fun q37 => ?_) (fun q37 => ?_)
      · skip
        refine g_aload_n dX12_goesBehind_56 rfl ?_
        refine g_iconst dX12_goesBehind_57 (inR_c rfl) ?_
        have q38 : h 98 38 = w98_38 := ew98_38.symm
        refine g_cVV (as := [_]) (c_X12_joins_98 _ _ _ h hM (by omega) (by omega) (by omega) (by omega) f_C1) dX12_goesBehind_58 mi_X12_joins in_X12_joins se_X12_joins ml_X12_298 rfl rfl rfl sh_98 rfl rfl (Nat.le_of_ble_eq_true rfl) (fun h39 q40 => ?_)
        obtain ⟨hMh39, hFh39, zh39, z41⟩ := q40
        refine g_aload_n dX12_goesBehind_61 rfl ?_
        have Cv1 := z41
        have q42 : h39 98 38 = w98_38 := ((hFh39 98 38 rfl).trans ew98_38.symm)
        obtain ⟨v43, ev43⟩ : ∃ z, z = h39 98 42 := ⟨_, rfl⟩
        have bv43 : 0 ≤ v43 ∧ v43 ≤ 200 := by rw [ev43]; exact (m_98_42 hMh39)
        have q44 : h39 98 37 = v2 := ((hFh39 98 37 rfl).trans ev2.symm)
        have q45 : h39 98 36 = v1 := ((hFh39 98 36 rfl).trans ev1.symm)
        obtain ⟨v46, ev46⟩ : ∃ z, z = h39 98 40 := ⟨_, rfl⟩
        have bv46 : 0 ≤ v46 ∧ v46 ≤ 200 := by rw [ev46]; exact (m_98_40 hMh39)
        have lv := CVo.lin Cv1 (by omega)
        refine g_dup dX12_goesBehind_62 rfl ?_
        refine gE_X12_227 rfl dX12_goesBehind_63 sh_98 ev43.symm ?_
        have a63 : 1 ≤ v43 ∧ v43 ≤ 200 := (by omega)
        refine g_iconst dX12_goesBehind_66 (inR_c rfl) ?_
        refine g_isubB dX12_goesBehind_67 (by omega) (by omega) ?_
        refine pI_X12_227 rfl dX12_goesBehind_68 sh_98 (fun h47 eh47 => ?_)
        have hFh47 := Fr.st eh47
        have hMh47 := u_98_42 hMh39 eh47 (by omega) (by omega)
        refine g_aload_n dX12_goesBehind_71 rfl ?_
        refine g_dup dX12_goesBehind_72 rfl ?_
        refine gI_X12_230 rfl dX12_goesBehind_73 sh_98 (m_98_41 hMh47) (fun v48 ev48 bv48 cv48 => ?_)
        refine g_iconst dX12_goesBehind_76 (inR_c rfl) ?_
        refine g_isubF dX12_goesBehind_77 (fun v49 bv49 cv49 => ?_)
        refine pI_X12_230 rfl dX12_goesBehind_78 sh_98 (fun h50 eh50 => ?_)
        have hFh50 := Fr.st eh50
        have hMh50 := u_98_41 hMh47 eh50 (by omega) (by omega)
        refine g_aload_n dX12_goesBehind_81 rfl ?_
        refine g_dup dX12_goesBehind_82 rfl ?_
        refine gE_X12_211 rfl dX12_goesBehind_83 sh_98 ((hFh50 98 36 rfl).trans ((hFh47 98 36 rfl).trans ((hFh39 98 36 rfl).trans ev1.symm))) ?_
        have a83 : 0 ≤ v1 ∧ v1 ≤ 199 := (by omega)
        refine g_iconst dX12_goesBehind_86 (inR_c rfl) ?_
        refine g_iaddB dX12_goesBehind_87 (by omega) (by omega) ?_
        refine pI_X12_211 rfl dX12_goesBehind_88 sh_98 (fun h51 eh51 => ?_)
        have hFh51 := Fr.st eh51
        have hMh51 := u_98_36 hMh50 eh51 (by omega) (by omega)
        have q52 : h51 98 42 = (v43 - 1) := ((hFh51 98 42 rfl).trans ((hFh50 98 42 rfl).trans (st_at eh47)))
        have q53 : h51 98 36 = (v1 + 1) := (st_at eh51)
        have q54 : h51 98 38 = w98_38 := ((hFh51 98 38 rfl).trans ((hFh50 98 38 rfl).trans ((hFh47 98 38 rfl).trans ((hFh39 98 38 rfl).trans ew98_38.symm))))
        have fS : ∀ j, h51 127 j = h39 127 j := fun j => ((hFh51 127 j rfl).trans ((hFh50 127 j rfl).trans (hFh47 127 j rfl)))
        have fN : ∀ j, h51 125 j = h39 125 j := fun j => ((hFh51 125 j rfl).trans ((hFh50 125 j rfl).trans (hFh47 125 j rfl)))
        have eC : h51 98 40 = h39 98 40 := ((hFh51 98 40 rfl).trans ((hFh50 98 40 rfl).trans (hFh47 98 40 rfl)))
        have eE : h51 98 37 = h39 98 37 := ((hFh51 98 37 rfl).trans ((hFh50 98 37 rfl).trans (hFh47 98 37 rfl)))
        have cc := C_close Cv1 (by omega) (by omega) (by omega) (by omega) fS (by omega) eC eE fN
        refine g_aload_n dX12_goesBehind_91 rfl ?_
        refine g_aload_n dX12_goesBehind_92 rfl ?_
        refine gE_X12_227 rfl dX12_goesBehind_93 sh_98 ((hFh51 98 42 rfl).trans ((hFh50 98 42 rfl).trans (st_at eh47))) ?_
        refine g_if_ne 103 dX12_goesBehind_96 (by decide) (fun q55 => ?_) (fun q55 => ?_)
        · skip
          refine g_iconst dX12_goesBehind_103 (inR_c rfl) ?_
          refine pI_X12_301 rfl dX12_goesBehind_104 sh_98 (by omega) (fun h56 eh56 => ?_)
          have hFh56 := Fr.st eh56
          have hMh56 := u_98_43 hMh51 eh56 (by omega) (by omega)
          refine g_aload_n dX12_goesBehind_107 rfl ?_
          refine gE_X12_301 rfl dX12_goesBehind_108 sh_98 (st_at eh56) ?_
          refine g_if_ne 118 dX12_goesBehind_111 (by decide) (fun _ => by exfalso; omega) (fun q57 => ?_)
          refine g_aload_n dX12_goesBehind_114 rfl ?_
          have q58 : h56 98 42 = (v43 - 1) := ((hFh56 98 42 rfl).trans ((hFh51 98 42 rfl).trans ((hFh50 98 42 rfl).trans (st_at eh47))))
          have Cv2 : CVo f gn 1 h56 := Or.inr ⟨cc.1.fr0 (T := [(98, 44)]) hFh56 rfl, (cc.2.resolve_left (by omega)).eq (fun j => hFh56 127 j rfl) (hFh56 98 42 rfl)⟩
          have q59 : h56 98 38 = w98_38 := ((hFh56 98 38 rfl).trans ((hFh51 98 38 rfl).trans ((hFh50 98 38 rfl).trans ((hFh47 98 38 rfl).trans ((hFh39 98 38 rfl).trans ew98_38.symm)))))
          refine g_cVV (as := []) (c_X12_ends_98 _ _ h56 hMh56 (by omega) (by omega) Cv2) dX12_goesBehind_115 mi_X12_ends in_X12_ends se_X12_ends ml_X12_295 rfl rfl rfl sh_98 rfl rfl (Nat.le_of_ble_eq_true rfl) (fun h60 q61 => ?_)
          obtain ⟨hMh60, hFh60, z62⟩ := q61
          refine g_iconst dX12_goesBehind_118 (inR_c rfl) ?_
          have q63 : h60 98 36 = (v1 + 1) := ((hFh60 98 36 rfl).trans ((hFh56 98 36 rfl).trans (st_at eh51)))
          have q64 : h60 98 37 = v2 := ((hFh60 98 37 rfl).trans ((hFh56 98 37 rfl).trans ((hFh51 98 37 rfl).trans ((hFh50 98 37 rfl).trans ((hFh47 98 37 rfl).trans ((hFh39 98 37 rfl).trans ev2.symm))))))
          have q65 : h60 98 38 = w98_38 := ((hFh60 98 38 rfl).trans ((hFh56 98 38 rfl).trans ((hFh51 98 38 rfl).trans ((hFh50 98 38 rfl).trans ((hFh47 98 38 rfl).trans ((hFh39 98 38 rfl).trans ew98_38.symm))))))
          have q66 : h60 98 43 = 0 := ((hFh60 98 43 rfl).trans (st_at eh56))
          obtain ⟨v67, ev67⟩ : ∃ z, z = h60 98 42 := ⟨_, rfl⟩
          have bv67 : 0 ≤ v67 ∧ v67 ≤ 200 := by rw [ev67]; exact (m_98_42 hMh60)
          have gc : GBo f gn 0 h60 := (by first | exact gb | exact Or.inr (Or.inr (Or.inr ⟨by omega, cc.1.fr0 (T := [(98, 44)]) (by assumption) rfl⟩)) | exact Or.inr (Or.inr (Or.inl ⟨rfl, by omega, CVo.good (by assumption) (by omega)⟩)))
          exact g_ireturn dX12_goesBehind_119 (retZ (by omega)) (hPo _ _ ⟨hMh60, (Fr.tr (Fr.tr (Fr.tr (Fr.tr (Fr.tr (Fr.sub hFh39 rfl) hFh47 rfl) hFh50 rfl) hFh51 rfl) hFh56 rfl) hFh60 rfl), (by omega), (by omega), gc, (by omega), (by omega), (by omega)⟩)
        · skip
          refine g_iconst dX12_goesBehind_99 (inR_c rfl) ?_
          refine g_goto 104 dX12_goesBehind_100 (by decide) ?_
          refine pI_X12_301 rfl dX12_goesBehind_104 sh_98 (by omega) (fun h68 eh68 => ?_)
          have hFh68 := Fr.st eh68
          have hMh68 := u_98_43 hMh51 eh68 (by omega) (by omega)
          refine g_aload_n dX12_goesBehind_107 rfl ?_
          refine gE_X12_301 rfl dX12_goesBehind_108 sh_98 (st_at eh68) ?_
          refine g_if_ne 118 dX12_goesBehind_111 (by decide) (fun q69 => ?_) (fun _ => by exfalso; omega)
          refine g_iconst dX12_goesBehind_118 (inR_c rfl) ?_
          have q70 : h68 98 36 = (v1 + 1) := ((hFh68 98 36 rfl).trans (st_at eh51))
          have q71 : h68 98 37 = v2 := ((hFh68 98 37 rfl).trans ((hFh51 98 37 rfl).trans ((hFh50 98 37 rfl).trans ((hFh47 98 37 rfl).trans ((hFh39 98 37 rfl).trans ev2.symm)))))
          have q72 : h68 98 38 = w98_38 := ((hFh68 98 38 rfl).trans ((hFh51 98 38 rfl).trans ((hFh50 98 38 rfl).trans ((hFh47 98 38 rfl).trans ((hFh39 98 38 rfl).trans ew98_38.symm)))))
          have q73 : h68 98 43 = 1 := (st_at eh68)
          have q74 : h68 98 42 = (v43 - 1) := ((hFh68 98 42 rfl).trans ((hFh51 98 42 rfl).trans ((hFh50 98 42 rfl).trans (st_at eh47))))
          have gc : GBo f gn 0 h68 := (by first | exact gb | exact Or.inr (Or.inr (Or.inr ⟨by omega, cc.1.fr0 (T := [(98, 44)]) (by assumption) rfl⟩)) | exact Or.inr (Or.inr (Or.inl ⟨rfl, by omega, CVo.good (by assumption) (by omega)⟩)))
          exact g_ireturn dX12_goesBehind_119 (retZ (by omega)) (hPo _ _ ⟨hMh68, (Fr.tr (Fr.tr (Fr.tr (Fr.tr (Fr.sub hFh39 rfl) hFh47 rfl) hFh50 rfl) hFh51 rfl) hFh68 rfl), (by omega), (by omega), gc, (by omega), (by omega), (by omega)⟩)
      · skip
        refine g_aload_n dX12_goesBehind_45 rfl ?_
        refine g_iconst dX12_goesBehind_46 (inR_c rfl) ?_
        refine g_aload_n dX12_goesBehind_47 rfl ?_
        refine gE_X12_211 rfl dX12_goesBehind_48 sh_98 ev1.symm ?_
        refine g_cVV (as := [_, _]) (c_X12_wrongs_98 _ _ h hM (by omega) (by omega) (by omega) (by omega)) dX12_goesBehind_51 mi_X12_wrongs in_X12_wrongs se_X12_wrongs ml_X12_233 rfl rfl rfl sh_98 rfl rfl (Nat.le_of_ble_eq_true rfl) (fun h75 q76 => ?_)
        obtain ⟨hMh75, hFh75, az77, bz77⟩ := q76
        obtain ⟨v78, ev78⟩ : ∃ z, z = h75 98 38 := ⟨_, rfl⟩
        have bv78 : -6000 ≤ v78 ∧ v78 ≤ -1 := by rw [ev78]; exact ⟨az77, bz77⟩
        have q79 : h75 98 38 = v78 := ev78.symm
        have gb : GBo f gn 0 h75 := Or.inl (by omega)
        refine g_iconst dX12_goesBehind_54 (inR_c rfl) ?_
        have q80 : h75 98 36 = v1 := ((hFh75 98 36 rfl).trans ev1.symm)
        have q81 : h75 98 37 = v2 := ((hFh75 98 37 rfl).trans ev2.symm)
        have q82 : h75 98 38 = v78 := ev78.symm
        have q83 : h75 98 43 = w98_43 := ((hFh75 98 43 rfl).trans ew98_43.symm)
        have q84 : h75 98 42 = h 98 42 := (hFh75 98 42 rfl)
        obtain ⟨v85, ev85⟩ : ∃ z, z = h75 98 42 := ⟨_, rfl⟩
        have bv85 : 0 ≤ v85 ∧ v85 ≤ 200 := by rw [ev85]; exact (m_98_42 hMh75)
        have gc : GBo f gn 0 h75 := (by first | exact gb | exact Or.inr (Or.inr (Or.inr ⟨by omega, cc.1.fr0 (T := [(98, 44)]) (by assumption) rfl⟩)) | exact Or.inr (Or.inr (Or.inl ⟨rfl, by omega, CVo.good (by assumption) (by omega)⟩)))
        exact g_ireturn dX12_goesBehind_55 (retZ (by omega)) (hPo _ _ ⟨hMh75, (Fr.sub hFh75 rfl), (by omega), (by omega), gc, (by omega), (by omega), (by omega)⟩)
    · skip
      refine g_aload_n dX12_goesBehind_17 rfl ?_
      refine g_iload_n dX12_goesBehind_18 rfl (fun _ => ?_)
      refine g_bipush dX12_goesBehind_19 (inR_c rfl) (by decide) ?_
      refine g_icmp_ne 28 dX12_goesBehind_21 (by decide) (fun _ => by exfalso; omega) (fun q86 => ?_)
      refine g_iconst dX12_goesBehind_24 (inR_c rfl) ?_
      refine g_goto 29 dX12_goesBehind_25 (by decide) ?_
      have q87 : h 98 38 = w98_38 := ew98_38.symm
      refine g_cVV (as := [_]) (c_X12_joins_98 _ _ _ h hM (by omega) (by omega) (by omega) (by omega) f_C1) dX12_goesBehind_29 mi_X12_joins in_X12_joins se_X12_joins ml_X12_298 rfl rfl rfl sh_98 rfl rfl (Nat.le_of_ble_eq_true rfl) (fun h88 q89 => ?_)
      obtain ⟨hMh88, hFh88, zh88, z90⟩ := q89
      refine g_aload_n dX12_goesBehind_32 rfl ?_
      refine g_iload_n dX12_goesBehind_33 rfl (fun _ => ?_)
      have Cv1 := z90
      have q91 : h88 98 38 = w98_38 := ((hFh88 98 38 rfl).trans ew98_38.symm)
      obtain ⟨v92, ev92⟩ : ∃ z, z = h88 98 42 := ⟨_, rfl⟩
      have bv92 : 0 ≤ v92 ∧ v92 ≤ 200 := by rw [ev92]; exact (m_98_42 hMh88)
      have q93 : h88 98 37 = v2 := ((hFh88 98 37 rfl).trans ev2.symm)
      have q94 : h88 98 36 = v1 := ((hFh88 98 36 rfl).trans ev1.symm)
      obtain ⟨v95, ev95⟩ : ∃ z, z = h88 98 40 := ⟨_, rfl⟩
      have bv95 : 0 ≤ v95 ∧ v95 ≤ 200 := by rw [ev95]; exact (m_98_40 hMh88)
      have lv := CVo.lin Cv1 (by omega)
      have q96 : h88 98 42 = v92 := ev92.symm
      have q97 : h88 98 36 = v1 := ((hFh88 98 36 rfl).trans ev1.symm)
      have q98 : h88 98 42 = v92 := ev92.symm
      have q99 : h88 98 36 = v1 := ((hFh88 98 36 rfl).trans ev1.symm)
      refine g_cVV (as := [_]) (c_X12_puts_98 _ h88 hMh88 (by omega) (by omega) (by omega) (by omega) (by omega) (by omega)) dX12_goesBehind_34 mi_X12_puts in_X12_puts se_X12_puts ml_X12_241 rfl rfl rfl sh_98 rfl rfl (Nat.le_of_ble_eq_true rfl) (fun h100 q101 => ?_)
      obtain ⟨hMh100, hFh100, zh100, z102, z103⟩ := q101
      have kz102 : h100 98 42 = (v92 + 1) := by omega
      have kz103 : h100 98 36 = (v1 + 1) := by omega
      have q104 : h100 98 38 = w98_38 := ((hFh100 98 38 rfl).trans ((hFh88 98 38 rfl).trans ew98_38.symm))
      have q105 : h100 98 43 = w98_43 := ((hFh100 98 43 rfl).trans ((hFh88 98 43 rfl).trans ew98_43.symm))
      have gb : GBo f gn 1 h100 := Or.inr (Or.inl ⟨rfl, by omega, C_bin Cv1 (by omega) (by assumption) (by omega) (by omega) (by omega) (by omega) (hFh100 98 40 rfl) (hFh100 98 37 rfl) (fun j => hFh100 125 j rfl)⟩)
      refine g_iconst dX12_goesBehind_37 (inR_c rfl) ?_
      have q106 : h100 98 36 = (v1 + 1) := kz103
      have q107 : h100 98 37 = v2 := ((hFh100 98 37 rfl).trans ((hFh88 98 37 rfl).trans ev2.symm))
      have q108 : h100 98 38 = w98_38 := ((hFh100 98 38 rfl).trans ((hFh88 98 38 rfl).trans ew98_38.symm))
      have q109 : h100 98 43 = w98_43 := ((hFh100 98 43 rfl).trans ((hFh88 98 43 rfl).trans ew98_43.symm))
      have q110 : h100 98 42 = (v92 + 1) := kz102
      have gc : GBo f gn 1 h100 := (by first | exact gb | exact Or.inr (Or.inr (Or.inr ⟨by omega, cc.1.fr0 (T := [(98, 44)]) (by assumption) rfl⟩)) | exact Or.inr (Or.inr (Or.inl ⟨rfl, by omega, CVo.good (by assumption) (by omega)⟩)))
      exact g_ireturn dX12_goesBehind_38 (retZ (by omega)) (hPo _ _ ⟨hMh100, (Fr.tr (Fr.sub hFh88 rfl) hFh100 rfl), (by omega), (by omega), gc, (by omega), (by omega), (by omega)⟩)
set_option maxRecDepth 100000 in
set_option maxHeartbeats 4000000 in
theorem c_X12_isSign (x1 : Int) (h : MEM) (hM : MBm h) (bx1 : 0 ≤ x1) (dx1 : x1 ≤ 255) : CP yX12_isSign cX12_isSign 1 (some .boolean) 1 [pI x1] h (fun x => 0 ≤ x ∧ x ≤ 1 ∧ (x = 1 ∧ (x1 = 60 ∨ x1 = 62 ∨ x1 = 61) ∨ x = 0 ∧ (x1 ≠ 60 ∧ x1 ≠ 62 ∧ x1 ≠ 61))) := by
  refine CP.of (L0 := [some (pI x1)]) rfl (Nat.le_of_ble_eq_true rfl) rfl (fun Po hPo hav => ?_)
  refine g_iload_n dX12_isSign_0 rfl (fun _ => ?_)
  refine g_bipush dX12_isSign_1 (inR_c rfl) (by decide) ?_
  refine g_icmp_eq 18 dX12_isSign_3 (by decide) (fun q1 => ?_) (fun q1 => ?_)
  · skip
    refine g_iconst dX12_isSign_18 (inR_c rfl) ?_
    refine g_goto 23 dX12_isSign_19 (by decide) ?_
    exact g_ireturn dX12_isSign_23 (retZ (by omega)) (hPo _ ⟨(by omega), (by omega), (by omega)⟩)
  · skip
    refine g_iload_n dX12_isSign_6 rfl (fun _ => ?_)
    refine g_bipush dX12_isSign_7 (inR_c rfl) (by decide) ?_
    refine g_icmp_eq 18 dX12_isSign_9 (by decide) (fun q2 => ?_) (fun q2 => ?_)
    · skip
      refine g_iconst dX12_isSign_18 (inR_c rfl) ?_
      refine g_goto 23 dX12_isSign_19 (by decide) ?_
      exact g_ireturn dX12_isSign_23 (retZ (by omega)) (hPo _ ⟨(by omega), (by omega), (by omega)⟩)
    · skip
      refine g_iload_n dX12_isSign_12 rfl (fun _ => ?_)
      refine g_bipush dX12_isSign_13 (inR_c rfl) (by decide) ?_
      refine g_icmp_ne 22 dX12_isSign_15 (by decide) (fun q3 => ?_) (fun q3 => ?_)
      · skip
        refine g_iconst dX12_isSign_22 (inR_c rfl) ?_
        exact g_ireturn dX12_isSign_23 (retZ (by omega)) (hPo _ ⟨(by omega), (by omega), (by omega)⟩)
      · skip
        refine g_iconst dX12_isSign_18 (inR_c rfl) ?_
        refine g_goto 23 dX12_isSign_19 (by decide) ?_
        exact g_ireturn dX12_isSign_23 (retZ (by omega)) (hPo _ ⟨(by omega), (by omega), (by omega)⟩)
set_option maxRecDepth 100000 in
set_option maxHeartbeats 4000000 in
theorem c_X12_pieceOfC_98 (f : Int) (gn : Nat → Int) (h : MEM) (hM : MBm h) (p0_0 : 0 ≤ h 98 38) (p0_1 : h 98 38 ≤ 0) (f_C0 : CVo f gn 0 h) : CV yX12_pieceOfC cX12_pieceOfC 2 (none) 6 [pR 98] h (fun h' => MBm h' ∧ Fr [(98, 37), (98, 39), (98, 41), (98, 42), (98, 43), (98, 45), (125, 0), (126, 0), (127, 0)] h h' ∧ (h 98 36 ≤ h' 98 36 ∧ h' 98 36 ≤ h' 98 37) ∧ CVo f gn 1 h') := by
  refine CV.of (L0 := [some (pR 98), none]) rfl (Nat.le_of_ble_eq_true rfl) rfl (fun Po hPo hav => ?_)
  obtain ⟨w98_38, ew98_38⟩ : ∃ z, z = h 98 38 := ⟨_, rfl⟩
  obtain ⟨v1, ev1⟩ : ∃ z, z = h 98 36 := ⟨_, rfl⟩
  have bv1 : 0 ≤ v1 ∧ v1 ≤ 200 := by rw [ev1]; exact (m_98_36 hM)
  obtain ⟨v2, ev2⟩ : ∃ z, z = h 98 37 := ⟨_, rfl⟩
  have bv2 : 0 ≤ v2 ∧ v2 ≤ 200 := by rw [ev2]; exact (m_98_37 hM)
  have q3 : h 98 38 = w98_38 := ew98_38.symm
  have q4 : h 98 36 = v1 := ev1.symm
  have q5 : h 98 37 = v2 := ev2.symm
  have lv0 := CVo.lin f_C0 (by omega)
  have c0 : ∀ (n : Nat) (h6 : MEM), MBm h6 → Fr [(98, 37), (98, 39), (98, 42), (98, 43), (127, 0)] h h6 → CVo f gn 0 h6 → h 98 36 ≤ h6 98 36 → h6 98 36 ≤ 200 → h6 98 36 ≤ h6 98 37 → 200 - h6 98 36 < (n : Int) → G yX12_pieceOfC cX12_pieceOfC 2 (none) none Po (6, 360, 0, 0) 0 [some (pR 98), none] [] SH h6 0 0 := by
    intro n
    induction n with
    | zero =>
      intro h6 hMh6 hFh6 e0_0 e0_1 e0_2 e0_3 hn
      exfalso; omega
    | succ n ih0 =>
      intro h6 hMh6 hFh6 e0_0 e0_1 e0_2 e0_3 hn
      obtain ⟨v7, ev7⟩ : ∃ z, z = h6 98 36 := ⟨_, rfl⟩
      have bv7 : 0 ≤ v7 ∧ v7 ≤ 200 := by rw [ev7]; exact (m_98_36 hMh6)
      have q8 : h6 98 37 = v2 := ((hFh6 98 37 rfl).trans ev2.symm)
      obtain ⟨v9, ev9⟩ : ∃ z, z = h6 98 38 := ⟨_, rfl⟩
      have bv9 : -6000 ≤ v9 ∧ v9 ≤ 0 := by rw [ev9]; exact (m_98_38 hMh6)
      refine g_aload_n dX12_pieceOfC_0 rfl ?_
      refine g_cVP (as := []) (c_X12_isGood_98  h6 hMh6) dX12_pieceOfC_1 mi_X12_isGood in_X12_isGood se_X12_isGood ml_X12_220 rfl rfl rfl sh_98 rfl rfl (Nat.le_of_ble_eq_true rfl) (fun v10 q11 => ?_)
      have q12 : h6 98 38 = v9 := ev9.symm
      rcases q11 with ⟨rfl, q11⟩ | ⟨rfl, q11⟩
      · skip
        refine g_if_eq 32 dX12_pieceOfC_4 (by decide) (fun _ => by exfalso; omega) (fun q13 => ?_)
        refine g_aload_n dX12_pieceOfC_7 rfl ?_
        have q14 : h6 98 36 = v7 := ev7.symm
        have q15 : h6 98 37 = v2 := ((hFh6 98 37 rfl).trans ev2.symm)
        refine g_cVP (as := []) (c_X12_here_98  h6 hMh6) dX12_pieceOfC_8 mi_X12_here in_X12_here se_X12_here ml_X12_237 rfl rfl rfl sh_98 rfl rfl (Nat.le_of_ble_eq_true rfl) (fun v16 q17 => ?_)
        obtain ⟨bv16, cv16, zv16, yv16⟩ := q17
        refine g_bipush dX12_pieceOfC_11 (inR_c rfl) (by decide) ?_
        refine g_icmp_eq 25 dX12_pieceOfC_13 (by decide) (fun q18 => ?_) (fun q18 => ?_)
        · skip
          refine g_aload_n dX12_pieceOfC_25 rfl ?_
          have Cv1 := e0_0
          have q19 : h6 98 38 = v9 := ev9.symm
          obtain ⟨v20, ev20⟩ : ∃ z, z = h6 98 42 := ⟨_, rfl⟩
          have bv20 : 0 ≤ v20 ∧ v20 ≤ 200 := by rw [ev20]; exact (m_98_42 hMh6)
          have q21 : h6 98 37 = v2 := ((hFh6 98 37 rfl).trans ev2.symm)
          have q22 : h6 98 36 = v7 := ev7.symm
          have q23 : h6 98 40 = h 98 40 := (hFh6 98 40 rfl)
          obtain ⟨v24, ev24⟩ : ∃ z, z = h6 98 40 := ⟨_, rfl⟩
          have bv24 : 0 ≤ v24 ∧ v24 ≤ 200 := by rw [ev24]; exact (m_98_40 hMh6)
          have lv := CVo.lin Cv1 (by omega)
          have q25 : h6 98 42 = v20 := ev20.symm
          have q26 : h6 98 36 = v7 := ev7.symm
          have q27 : h6 98 42 = v20 := ev20.symm
          have q28 : h6 98 36 = v7 := ev7.symm
          refine g_cVV (as := []) (c_X12_opens_98  h6 hMh6 (by omega) (by omega) (by omega) (by omega)) dX12_pieceOfC_26 mi_X12_opens in_X12_opens se_X12_opens ml_X12_266 rfl rfl rfl sh_98 rfl rfl (Nat.le_of_ble_eq_true rfl) (fun h29 q30 => ?_)
          obtain ⟨hMh29, hFh29, zh29, z31, z32⟩ := q30
          have kz31 : h29 98 42 = (v20 + 1) := by omega
          have kz32 : h29 98 36 = (v7 + 1) := by omega
          have Cv2 : CVo f gn 0 h29 := C_open Cv1 (by omega) (by omega) (by omega) (by assumption) (by omega) (by omega) (hFh29 98 40 rfl) (hFh29 98 37 rfl) (fun j => hFh29 125 j rfl)
          refine g_goto 0 dX12_pieceOfC_29 (by decide) ?_
          have q33 : h29 98 36 = (v7 + 1) := kz32
          have q34 : h29 98 37 = v2 := ((hFh29 98 37 rfl).trans ((hFh6 98 37 rfl).trans ev2.symm))
          obtain ⟨v35, ev35⟩ : ∃ z, z = h29 98 38 := ⟨_, rfl⟩
          have bv35 : -6000 ≤ v35 ∧ v35 ≤ 0 := by rw [ev35]; exact (m_98_38 hMh29)
          exact ih0 _ hMh29 (Fr.tr (Fr.sub hFh6 rfl) hFh29 rfl) Cv2 (by omega) (by omega) (by omega) (by omega)
        · skip
          refine g_aload_n dX12_pieceOfC_16 rfl ?_
          have q36 : h6 98 36 = v7 := ev7.symm
          have q37 : h6 98 37 = v2 := ((hFh6 98 37 rfl).trans ev2.symm)
          refine g_cVP (as := []) (c_X12_here_98  h6 hMh6) dX12_pieceOfC_17 mi_X12_here in_X12_here se_X12_here ml_X12_237 rfl rfl rfl sh_98 rfl rfl (Nat.le_of_ble_eq_true rfl) (fun v38 q39 => ?_)
          obtain ⟨bv38, cv38, zv38, yv38⟩ := q39
          have tv38 : v38 = v16 := by rw [zv38, zv16]
          refine g_bipush dX12_pieceOfC_20 (inR_c rfl) (by decide) ?_
          refine g_icmp_ne 32 dX12_pieceOfC_22 (by decide) (fun q40 => ?_) (fun q40 => ?_)
          · skip
            refine g_aload_n dX12_pieceOfC_32 rfl ?_
            refine g_cVP (as := []) (c_X12_isGood_98  h6 hMh6) dX12_pieceOfC_33 mi_X12_isGood in_X12_isGood se_X12_isGood ml_X12_220 rfl rfl rfl sh_98 rfl rfl (Nat.le_of_ble_eq_true rfl) (fun v41 q42 => ?_)
            have q43 : h6 98 38 = v9 := ev9.symm
            rcases q42 with ⟨rfl, q42⟩ | ⟨rfl, q42⟩
            · skip
              refine g_if_eq 43 dX12_pieceOfC_36 (by decide) (fun _ => by exfalso; omega) (fun q44 => ?_)
              refine g_aload_n dX12_pieceOfC_39 rfl ?_
              have Cv1 := e0_0
              have q45 : h6 98 38 = v9 := ev9.symm
              obtain ⟨v46, ev46⟩ : ∃ z, z = h6 98 42 := ⟨_, rfl⟩
              have bv46 : 0 ≤ v46 ∧ v46 ≤ 200 := by rw [ev46]; exact (m_98_42 hMh6)
              have q47 : h6 98 37 = v2 := ((hFh6 98 37 rfl).trans ev2.symm)
              have q48 : h6 98 36 = v7 := ev7.symm
              have q49 : h6 98 40 = h 98 40 := (hFh6 98 40 rfl)
              obtain ⟨v50, ev50⟩ : ∃ z, z = h6 98 40 := ⟨_, rfl⟩
              have bv50 : 0 ≤ v50 ∧ v50 ≤ 200 := by rw [ev50]; exact (m_98_40 hMh6)
              have lv := CVo.lin Cv1 (by omega)
              have Ev0 : EVo f gn (h6 98 42) (h6 127) 0 h6 := EV_ofC Cv1 (by omega)
              have q51 : h6 98 36 = v7 := ev7.symm
              have q52 : h6 98 38 = v9 := ev9.symm
              refine g_cVV (as := []) (c_X12_value_98 _ _ _ _ h6 hMh6 (by omega) (by omega) Ev0) dX12_pieceOfC_40 mi_X12_value in_X12_value se_X12_value ml_X12_289 rfl rfl rfl sh_98 rfl rfl (Nat.le_of_ble_eq_true rfl) (fun h53 q54 => ?_)
              obtain ⟨hMh53, hFh53, zh53, yh53, wh53⟩ := q54
              obtain ⟨v55, ev55⟩ : ∃ z, z = h53 98 36 := ⟨_, rfl⟩
              have bv55 : 0 ≤ v55 ∧ v55 ≤ 200 := by rw [ev55]; exact (m_98_36 hMh53)
              have q56 : h53 98 37 = v2 := ((hFh53 98 37 rfl).trans ((hFh6 98 37 rfl).trans ev2.symm))
              obtain ⟨v57, ev57⟩ : ∃ z, z = h53 98 38 := ⟨_, rfl⟩
              have bv57 : -6000 ≤ v57 ∧ v57 ≤ 0 := by rw [ev57]; exact (m_98_38 hMh53)
              refine g_aload_n dX12_pieceOfC_43 rfl ?_
              refine g_cVP (as := []) (c_X12_isGood_98  h53 hMh53) dX12_pieceOfC_44 mi_X12_isGood in_X12_isGood se_X12_isGood ml_X12_220 rfl rfl rfl sh_98 rfl rfl (Nat.le_of_ble_eq_true rfl) (fun v58 q59 => ?_)
              have q60 : h53 98 38 = v57 := ev57.symm
              rcases q59 with ⟨rfl, q59⟩ | ⟨rfl, q59⟩
              · skip
                refine g_if_ne 51 dX12_pieceOfC_47 (by decide) (fun q61 => ?_) (fun _ => by exfalso; omega)
                refine g_aload_n dX12_pieceOfC_51 rfl ?_
                have q62 : h53 98 38 = v57 := ev57.symm
                have Cv3 : CVo f gn 1 h53 := Or.inr (C_ofV Cv1 (by omega) (by assumption) (by omega))
                have q63 : h53 98 36 = v55 := ev55.symm
                have q64 : h53 98 37 = v2 := ((hFh53 98 37 rfl).trans ((hFh6 98 37 rfl).trans ev2.symm))
                refine g_cVP (as := []) (c_X12_here_98  h53 hMh53) dX12_pieceOfC_52 mi_X12_here in_X12_here se_X12_here ml_X12_237 rfl rfl rfl sh_98 rfl rfl (Nat.le_of_ble_eq_true rfl) (fun v65 q66 => ?_)
                obtain ⟨bv65, cv65, zv65, yv65⟩ := q66
                refine g_istore_n dX12_pieceOfC_55 (by decide) rfl ?_
                refine g_iload_n dX12_pieceOfC_56 rfl (fun _ => ?_)
                refine g_cSP (av := [_]) (c_X12_isSign _ h53 hMh53 (by omega) (by omega)) dX12_pieceOfC_57 mi_X12_isSign st_X12_isSign ml_X12_292 rfl rfl rfl rfl (Nat.le_of_ble_eq_true rfl) (fun v67 q68 => ?_)
                obtain ⟨bv67, cv67, zv67⟩ := q68
                refine g_if_ne 73 dX12_pieceOfC_60 (by decide) (fun q69 => ?_) (fun q69 => ?_)
                · skip
                  refine g_aload_n dX12_pieceOfC_73 rfl ?_
                  have Cv2 := Cv3
                  refine g_iload_n dX12_pieceOfC_74 rfl (fun _ => ?_)
                  have Cv2 := Cv3
                  have q70 : h53 98 38 = v57 := ev57.symm
                  obtain ⟨v71, ev71⟩ : ∃ z, z = h53 98 42 := ⟨_, rfl⟩
                  have bv71 : 0 ≤ v71 ∧ v71 ≤ 200 := by rw [ev71]; exact (m_98_42 hMh53)
                  have q72 : h53 98 37 = v2 := ((hFh53 98 37 rfl).trans ((hFh6 98 37 rfl).trans ev2.symm))
                  have q73 : h53 98 36 = v55 := ev55.symm
                  obtain ⟨v74, ev74⟩ : ∃ z, z = h53 98 40 := ⟨_, rfl⟩
                  have bv74 : 0 ≤ v74 ∧ v74 ≤ 200 := by rw [ev74]; exact (m_98_40 hMh53)
                  have lv := CVo.lin Cv2 (by omega)
                  have q75 : h53 98 42 = v71 := ev71.symm
                  have q76 : h53 98 36 = v55 := ev55.symm
                  have q77 : h53 98 42 = v71 := ev71.symm
                  have q78 : h53 98 36 = v55 := ev55.symm
                  refine g_cVV (as := [_]) (c_X12_puts_98 _ h53 hMh53 (by omega) (by omega) (by omega) (by omega) (by omega) (by omega)) dX12_pieceOfC_75 mi_X12_puts in_X12_puts se_X12_puts ml_X12_241 rfl rfl rfl sh_98 rfl rfl (Nat.le_of_ble_eq_true rfl) (fun h79 q80 => ?_)
                  obtain ⟨hMh79, hFh79, zh79, z81, z82⟩ := q80
                  have kz81 : h79 98 42 = (v71 + 1) := by omega
                  have kz82 : h79 98 36 = (v55 + 1) := by omega
                  have q83 : h79 98 38 = v57 := ((hFh79 98 38 rfl).trans ev57.symm)
                  have sp := S_put (Cv2.good (by omega)) (by assumption) (by omega) (by omega) (by omega) (by omega) (hFh79 98 40 rfl) (hFh79 98 37 rfl) (fun j => hFh79 125 j rfl)
                  have Ev1 : EVo f gn (h79 98 42) (h79 127) 0 h79 := sp.1
                  refine g_aload_n dX12_pieceOfC_78 rfl ?_
                  have q84 : h79 98 36 = (v55 + 1) := kz82
                  have q85 : h79 98 38 = v57 := ((hFh79 98 38 rfl).trans ev57.symm)
                  refine g_cVV (as := []) (c_X12_value_98 _ _ _ _ h79 hMh79 (by omega) (by omega) Ev1) dX12_pieceOfC_79 mi_X12_value in_X12_value se_X12_value ml_X12_289 rfl rfl rfl sh_98 rfl rfl (Nat.le_of_ble_eq_true rfl) (fun h86 q87 => ?_)
                  obtain ⟨hMh86, hFh86, zh86, yh86, wh86⟩ := q87
                  obtain ⟨v88, ev88⟩ : ∃ z, z = h86 98 36 := ⟨_, rfl⟩
                  have bv88 : 0 ≤ v88 ∧ v88 ≤ 200 := by rw [ev88]; exact (m_98_36 hMh86)
                  have q89 : h86 98 37 = v2 := ((hFh86 98 37 rfl).trans ((hFh79 98 37 rfl).trans ((hFh53 98 37 rfl).trans ((hFh6 98 37 rfl).trans ev2.symm))))
                  refine g_aload_n dX12_pieceOfC_82 rfl ?_
                  refine g_cVP (as := []) (c_X12_isGood_98  h86 hMh86) dX12_pieceOfC_83 mi_X12_isGood in_X12_isGood se_X12_isGood ml_X12_220 rfl rfl rfl sh_98 rfl rfl (Nat.le_of_ble_eq_true rfl) (fun v90 q91 => ?_)
                  obtain ⟨v92, ev92⟩ : ∃ z, z = h86 98 38 := ⟨_, rfl⟩
                  have bv92 : -6000 ≤ v92 ∧ v92 ≤ 0 := by rw [ev92]; exact (m_98_38 hMh86)
                  rcases q91 with ⟨rfl, q91⟩ | ⟨rfl, q91⟩
                  · skip
                    refine g_if_ne 90 dX12_pieceOfC_86 (by decide) (fun q93 => ?_) (fun _ => by exfalso; omega)
                    refine g_aload_n dX12_pieceOfC_90 rfl ?_
                    refine g_aload_n dX12_pieceOfC_91 rfl ?_
                    have q94 : h86 98 38 = v92 := ev92.symm
                    obtain ⟨v95, ev95⟩ : ∃ z, z = h86 98 42 := ⟨_, rfl⟩
                    have bv95 : 0 ≤ v95 ∧ v95 ≤ 200 := by rw [ev95]; exact (m_98_42 hMh86)
                    have q96 : h86 98 37 = v2 := ((hFh86 98 37 rfl).trans ((hFh79 98 37 rfl).trans ((hFh53 98 37 rfl).trans ((hFh6 98 37 rfl).trans ev2.symm))))
                    have q97 : h86 98 36 = v88 := ev88.symm
                    obtain ⟨v98, ev98⟩ : ∃ z, z = h86 98 40 := ⟨_, rfl⟩
                    have bv98 : 0 ≤ v98 ∧ v98 ≤ 200 := by rw [ev98]; exact (m_98_40 hMh86)
                    have sv := S_ofV sp.2 (by assumption) (by omega)
                    have lv2 := sv.1.lin
                    have lv3 := sv.2.1
                    have q99 : h86 98 42 = v95 := ev95.symm
                    refine g_cVP (as := []) (c_X12_top_98  h86 hMh86) dX12_pieceOfC_92 mi_X12_top in_X12_top se_X12_top ml_X12_254 rfl rfl rfl sh_98 rfl rfl (Nat.le_of_ble_eq_true rfl) (fun v100 q101 => ?_)
                    obtain ⟨bv100, cv100, zv100, yv100⟩ := q101
                    refine g_iconst dX12_pieceOfC_95 (inR_c rfl) ?_
                    have q102 : h86 98 38 = v92 := ev92.symm
                    have q103 : h86 98 40 = v98 := ev98.symm
                    have q104 : h86 98 37 = v2 := ((hFh86 98 37 rfl).trans ((hFh79 98 37 rfl).trans ((hFh53 98 37 rfl).trans ((hFh6 98 37 rfl).trans ev2.symm))))
                    refine g_cVV (as := [_, _]) (c_X12_emit_98 _ _ h86 hMh86 (by omega) (by omega) (by omega) (by omega) (by omega)) dX12_pieceOfC_96 mi_X12_emit in_X12_emit se_X12_emit ml_X12_263 rfl rfl rfl sh_98 rfl rfl (Nat.le_of_ble_eq_true rfl) (fun h105 q106 => ?_)
                    obtain ⟨hMh105, hFh105, zh105⟩ := q106
                    refine g_aload_n dX12_pieceOfC_99 rfl ?_
                    have eS : h105 98 42 = h86 98 42 := (hFh105 98 42 rfl)
                    refine g_dup dX12_pieceOfC_100 rfl ?_
                    refine gE_X12_227 rfl dX12_pieceOfC_101 sh_98 ((hFh105 98 42 rfl).trans ev95.symm) ?_
                    have a101 : 1 ≤ v95 ∧ v95 ≤ 200 := (by have := sv.2.1; omega)
                    refine g_iconst dX12_pieceOfC_104 (inR_c rfl) ?_
                    refine g_isubB dX12_pieceOfC_105 (by omega) (by omega) ?_
                    refine pI_X12_227 rfl dX12_pieceOfC_106 sh_98 (fun h107 eh107 => ?_)
                    have hFh107 := Fr.st eh107
                    have hMh107 := u_98_42 hMh105 eh107 (by omega) (by omega)
                    have eC : h107 98 40 = h105 98 40 := (hFh107 98 40 rfl)
                    have fN : ∀ j, h107 125 j = h105 125 j := fun j => (hFh107 125 j rfl)
                    have fS : ∀ j, h107 127 j = h86 127 j := fun j => ((hFh107 127 j rfl).trans (hFh105 127 j rfl))
                    have eP : h107 98 36 = h86 98 36 := ((hFh107 98 36 rfl).trans (hFh105 98 36 rfl))
                    have eE : h107 98 37 = h86 98 37 := ((hFh107 98 37 rfl).trans (hFh105 98 37 rfl))
                    have q108 : h107 98 42 = (v95 - 1) := (st_at eh107)
                    have Cv4 : CVo f gn 1 h107 := C_cmp sv (by omega) (by assumption) (by omega) eC fN (by omega) fS eP eE
                    refine g_aload_n dX12_pieceOfC_109 rfl ?_
                    have q109 : h107 98 38 = v92 := ((hFh107 98 38 rfl).trans ((hFh105 98 38 rfl).trans ev92.symm))
                    refine g_cVV (as := []) (c_X12_ends_98 _ _ h107 hMh107 (by omega) (by omega) Cv4) dX12_pieceOfC_110 mi_X12_ends in_X12_ends se_X12_ends ml_X12_295 rfl rfl rfl sh_98 rfl rfl (Nat.le_of_ble_eq_true rfl) (fun h110 q111 => ?_)
                    obtain ⟨hMh110, hFh110, z112⟩ := q111
                    have q113 : h110 98 36 = v88 := ((hFh110 98 36 rfl).trans ((hFh107 98 36 rfl).trans ((hFh105 98 36 rfl).trans ev88.symm)))
                    have q114 : h110 98 37 = v2 := ((hFh110 98 37 rfl).trans ((hFh107 98 37 rfl).trans ((hFh105 98 37 rfl).trans ((hFh86 98 37 rfl).trans ((hFh79 98 37 rfl).trans ((hFh53 98 37 rfl).trans ((hFh6 98 37 rfl).trans ev2.symm)))))))
                    have q115 : h110 98 38 = v92 := ((hFh110 98 38 rfl).trans ((hFh107 98 38 rfl).trans ((hFh105 98 38 rfl).trans ev92.symm)))
                    exact g_return dX12_pieceOfC_113 rfl (hPo _ ⟨hMh110, (Fr.tr (Fr.tr (Fr.tr (Fr.tr (Fr.tr (Fr.tr (Fr.sub hFh6 rfl) hFh53 rfl) hFh79 rfl) hFh86 rfl) hFh105 rfl) hFh107 rfl) hFh110 rfl), ⟨by omega, by omega⟩, z112⟩)
                  · skip
                    refine g_if_ne 90 dX12_pieceOfC_86 (by decide) (fun _ => by exfalso; omega) (fun q116 => ?_)
                    have q117 : h86 98 36 = v88 := ev88.symm
                    have q118 : h86 98 37 = v2 := ((hFh86 98 37 rfl).trans ((hFh79 98 37 rfl).trans ((hFh53 98 37 rfl).trans ((hFh6 98 37 rfl).trans ev2.symm))))
                    have q119 : h86 98 38 = v92 := ev92.symm
                    have q120 : h86 98 38 = v92 := ev92.symm
                    exact g_return dX12_pieceOfC_89 rfl (hPo _ ⟨hMh86, (Fr.tr (Fr.tr (Fr.tr (Fr.sub hFh6 rfl) hFh53 rfl) hFh79 rfl) hFh86 rfl), ⟨by omega, by omega⟩, (Or.inl (by omega))⟩)
                · skip
                  refine g_aload_n dX12_pieceOfC_63 rfl ?_
                  refine g_iconst dX12_pieceOfC_64 (inR_c rfl) ?_
                  refine g_aload_n dX12_pieceOfC_65 rfl ?_
                  refine gE_X12_211 rfl dX12_pieceOfC_66 sh_98 ev55.symm ?_
                  refine g_cVV (as := [_, _]) (c_X12_wrongs_98 _ _ h53 hMh53 (by omega) (by omega) (by omega) (by omega)) dX12_pieceOfC_69 mi_X12_wrongs in_X12_wrongs se_X12_wrongs ml_X12_233 rfl rfl rfl sh_98 rfl rfl (Nat.le_of_ble_eq_true rfl) (fun h121 q122 => ?_)
                  obtain ⟨hMh121, hFh121, az123, bz123⟩ := q122
                  obtain ⟨v124, ev124⟩ : ∃ z, z = h121 98 38 := ⟨_, rfl⟩
                  have bv124 : -6000 ≤ v124 ∧ v124 ≤ -1 := by rw [ev124]; exact ⟨az123, bz123⟩
                  have q125 : h121 98 36 = v55 := ((hFh121 98 36 rfl).trans ev55.symm)
                  have q126 : h121 98 37 = v2 := ((hFh121 98 37 rfl).trans ((hFh53 98 37 rfl).trans ((hFh6 98 37 rfl).trans ev2.symm)))
                  have q127 : h121 98 38 = v124 := ev124.symm
                  have q128 : h121 98 38 = v124 := ev124.symm
                  exact g_return dX12_pieceOfC_72 rfl (hPo _ ⟨hMh121, (Fr.tr (Fr.tr (Fr.sub hFh6 rfl) hFh53 rfl) hFh121 rfl), ⟨by omega, by omega⟩, (Or.inl (by omega))⟩)
              · skip
                refine g_if_ne 51 dX12_pieceOfC_47 (by decide) (fun _ => by exfalso; omega) (fun q129 => ?_)
                have q130 : h53 98 36 = v55 := ev55.symm
                have q131 : h53 98 37 = v2 := ((hFh53 98 37 rfl).trans ((hFh6 98 37 rfl).trans ev2.symm))
                have q132 : h53 98 38 = v57 := ev57.symm
                have q133 : h53 98 38 = v57 := ev57.symm
                exact g_return dX12_pieceOfC_50 rfl (hPo _ ⟨hMh53, (Fr.tr (Fr.sub hFh6 rfl) hFh53 rfl), ⟨by omega, by omega⟩, (Or.inl (by omega))⟩)
            · skip
              exfalso; omega
          · skip
            refine g_aload_n dX12_pieceOfC_25 rfl ?_
            have Cv1 := e0_0
            have q134 : h6 98 38 = v9 := ev9.symm
            obtain ⟨v135, ev135⟩ : ∃ z, z = h6 98 42 := ⟨_, rfl⟩
            have bv135 : 0 ≤ v135 ∧ v135 ≤ 200 := by rw [ev135]; exact (m_98_42 hMh6)
            have q136 : h6 98 37 = v2 := ((hFh6 98 37 rfl).trans ev2.symm)
            have q137 : h6 98 36 = v7 := ev7.symm
            have q138 : h6 98 40 = h 98 40 := (hFh6 98 40 rfl)
            obtain ⟨v139, ev139⟩ : ∃ z, z = h6 98 40 := ⟨_, rfl⟩
            have bv139 : 0 ≤ v139 ∧ v139 ≤ 200 := by rw [ev139]; exact (m_98_40 hMh6)
            have lv := CVo.lin Cv1 (by omega)
            have q140 : h6 98 42 = v135 := ev135.symm
            have q141 : h6 98 36 = v7 := ev7.symm
            have q142 : h6 98 42 = v135 := ev135.symm
            have q143 : h6 98 36 = v7 := ev7.symm
            refine g_cVV (as := []) (c_X12_opens_98  h6 hMh6 (by omega) (by omega) (by omega) (by omega)) dX12_pieceOfC_26 mi_X12_opens in_X12_opens se_X12_opens ml_X12_266 rfl rfl rfl sh_98 rfl rfl (Nat.le_of_ble_eq_true rfl) (fun h144 q145 => ?_)
            obtain ⟨hMh144, hFh144, zh144, z146, z147⟩ := q145
            have kz146 : h144 98 42 = (v135 + 1) := by omega
            have kz147 : h144 98 36 = (v7 + 1) := by omega
            have Cv2 : CVo f gn 0 h144 := C_open Cv1 (by omega) (by omega) (by omega) (by assumption) (by omega) (by omega) (hFh144 98 40 rfl) (hFh144 98 37 rfl) (fun j => hFh144 125 j rfl)
            refine g_goto 0 dX12_pieceOfC_29 (by decide) ?_
            have q148 : h144 98 36 = (v7 + 1) := kz147
            have q149 : h144 98 37 = v2 := ((hFh144 98 37 rfl).trans ((hFh6 98 37 rfl).trans ev2.symm))
            obtain ⟨v150, ev150⟩ : ∃ z, z = h144 98 38 := ⟨_, rfl⟩
            have bv150 : -6000 ≤ v150 ∧ v150 ≤ 0 := by rw [ev150]; exact (m_98_38 hMh144)
            exact ih0 _ hMh144 (Fr.tr (Fr.sub hFh6 rfl) hFh144 rfl) Cv2 (by omega) (by omega) (by omega) (by omega)
      · skip
        refine g_if_eq 32 dX12_pieceOfC_4 (by decide) (fun q151 => ?_) (fun _ => by exfalso; omega)
        refine g_aload_n dX12_pieceOfC_32 rfl ?_
        refine g_cVP (as := []) (c_X12_isGood_98  h6 hMh6) dX12_pieceOfC_33 mi_X12_isGood in_X12_isGood se_X12_isGood ml_X12_220 rfl rfl rfl sh_98 rfl rfl (Nat.le_of_ble_eq_true rfl) (fun v152 q153 => ?_)
        have q154 : h6 98 38 = v9 := ev9.symm
        rcases q153 with ⟨rfl, q153⟩ | ⟨rfl, q153⟩
        · skip
          exfalso; omega
        · skip
          refine g_if_eq 43 dX12_pieceOfC_36 (by decide) (fun q155 => ?_) (fun _ => by exfalso; omega)
          refine g_aload_n dX12_pieceOfC_43 rfl ?_
          refine g_cVP (as := []) (c_X12_isGood_98  h6 hMh6) dX12_pieceOfC_44 mi_X12_isGood in_X12_isGood se_X12_isGood ml_X12_220 rfl rfl rfl sh_98 rfl rfl (Nat.le_of_ble_eq_true rfl) (fun v156 q157 => ?_)
          have q158 : h6 98 38 = v9 := ev9.symm
          rcases q157 with ⟨rfl, q157⟩ | ⟨rfl, q157⟩
          · skip
            exfalso; omega
          · skip
            refine g_if_ne 51 dX12_pieceOfC_47 (by decide) (fun _ => by exfalso; omega) (fun q159 => ?_)
            have q160 : h6 98 36 = v7 := ev7.symm
            have q161 : h6 98 37 = v2 := ((hFh6 98 37 rfl).trans ev2.symm)
            have q162 : h6 98 38 = v9 := ev9.symm
            have q163 : h6 98 38 = v9 := ev9.symm
            exact g_return dX12_pieceOfC_50 rfl (hPo _ ⟨hMh6, (Fr.sub hFh6 rfl), ⟨by omega, by omega⟩, (Or.inl (by omega))⟩)
  have q164 : h 98 36 = v1 := ev1.symm
  have q165 : h 98 37 = v2 := ev2.symm
  have q166 : h 98 38 = w98_38 := ew98_38.symm
  exact c0 201 _ hM Fr.rf f_C0 (by omega) (by omega) (by omega) (by omega)
set_option maxRecDepth 100000 in
set_option maxHeartbeats 4000000 in
theorem c_X12_condition_98 (f : Int) (gn : Nat → Int) (h : MEM) (hM : MBm h) (p0_0 : 0 ≤ h 98 38) (p0_1 : h 98 38 ≤ 0) (f_DZ : DZo f gn h) : CV yX12_condition cX12_condition 2 (none) 7 [pR 98] h (fun h' => MBm h' ∧ Fr [(98, 37), (98, 39), (98, 41), (98, 42), (98, 43), (98, 44), (98, 45), (125, 0), (126, 0), (127, 0)] h h' ∧ DFo f gn h' ∧ h 98 36 ≤ h' 98 36 ∧ h' 98 36 ≤ h' 98 37) := by
  refine CV.of (L0 := [some (pR 98), none]) rfl (Nat.le_of_ble_eq_true rfl) rfl (fun Po hPo hav => ?_)
  obtain ⟨w98_38, ew98_38⟩ : ∃ z, z = h 98 38 := ⟨_, rfl⟩
  obtain ⟨v1, ev1⟩ : ∃ z, z = h 98 36 := ⟨_, rfl⟩
  have bv1 : 0 ≤ v1 ∧ v1 ≤ 200 := by rw [ev1]; exact (m_98_36 hM)
  obtain ⟨v2, ev2⟩ : ∃ z, z = h 98 37 := ⟨_, rfl⟩
  have bv2 : 0 ≤ v2 ∧ v2 ≤ 200 := by rw [ev2]; exact (m_98_37 hM)
  have q3 : h 98 38 = w98_38 := ew98_38.symm
  have q4 : h 98 36 = v1 := ev1.symm
  have q5 : h 98 37 = v2 := ev2.symm
  have lv0 := ((f_DZ).resolve_left (by omega)).1.lin
  refine g_aload_n dX12_condition_0 rfl ?_
  refine g_iconst dX12_condition_1 (inR_c rfl) ?_
  refine pI_X12_301 rfl dX12_condition_2 sh_98 (by omega) (fun h6 eh6 => ?_)
  have hFh6 := Fr.st eh6
  have hMh6 := u_98_43 hM eh6 (by omega) (by omega)
  refine g_aload_n dX12_condition_5 rfl ?_
  have q7 : h6 98 36 = v1 := ((hFh6 98 36 rfl).trans ev1.symm)
  have q8 : h6 98 37 = v2 := ((hFh6 98 37 rfl).trans ev2.symm)
  refine g_cVP (as := []) (c_X12_here_98  h6 hMh6) dX12_condition_6 mi_X12_here in_X12_here se_X12_here ml_X12_237 rfl rfl rfl sh_98 rfl rfl (Nat.le_of_ble_eq_true rfl) (fun v9 q10 => ?_)
  obtain ⟨bv9, cv9, zv9, yv9⟩ := q10
  refine g_bipush dX12_condition_9 (inR_c rfl) (by decide) ?_
  refine g_icmp_eq 23 dX12_condition_11 (by decide) (fun q11 => ?_) (fun q11 => ?_)
  · skip
    refine g_aload_n dX12_condition_23 rfl ?_
    refine g_cVP (as := []) (c_X12_isGood_98  h6 hMh6) dX12_condition_24 mi_X12_isGood in_X12_isGood se_X12_isGood ml_X12_220 rfl rfl rfl sh_98 rfl rfl (Nat.le_of_ble_eq_true rfl) (fun v12 q13 => ?_)
    have q14 : h6 98 38 = w98_38 := ((hFh6 98 38 rfl).trans ew98_38.symm)
    rcases q13 with ⟨rfl, q13⟩ | ⟨rfl, q13⟩
    · skip
      refine g_if_ne 31 dX12_condition_27 (by decide) (fun q15 => ?_) (fun _ => by exfalso; omega)
      refine g_aload_n dX12_condition_31 rfl ?_
      have dz := (DZo.fr (T := [(98, 44)]) f_DZ (Fr.sub hFh6 rfl) rfl)
      have q16 : h6 98 38 = w98_38 := ((hFh6 98 38 rfl).trans ew98_38.symm)
      have q17 : h6 98 42 = h 98 42 := (hFh6 98 42 rfl)
      obtain ⟨v18, ev18⟩ : ∃ z, z = h6 98 42 := ⟨_, rfl⟩
      have bv18 : 0 ≤ v18 ∧ v18 ≤ 200 := by rw [ev18]; exact (m_98_42 hMh6)
      have q19 : h6 98 37 = v2 := ((hFh6 98 37 rfl).trans ev2.symm)
      have q20 : h6 98 36 = v1 := ((hFh6 98 36 rfl).trans ev1.symm)
      have q21 : h6 98 40 = h 98 40 := (hFh6 98 40 rfl)
      obtain ⟨v22, ev22⟩ : ∃ z, z = h6 98 40 := ⟨_, rfl⟩
      have bv22 : 0 ≤ v22 ∧ v22 ≤ 200 := by rw [ev22]; exact (m_98_40 hMh6)
      have lv := (dz.resolve_left (by omega)).1.lin
      have q23 : h6 98 42 = v18 := ev18.symm
      have q24 : h6 98 36 = v1 := ((hFh6 98 36 rfl).trans ev1.symm)
      have q25 : h6 98 42 = v18 := ev18.symm
      have q26 : h6 98 36 = v1 := ((hFh6 98 36 rfl).trans ev1.symm)
      refine g_cVV (as := []) (c_X12_opens_98  h6 hMh6 (by omega) (by omega) (by omega) (by omega)) dX12_condition_32 mi_X12_opens in_X12_opens se_X12_opens ml_X12_266 rfl rfl rfl sh_98 rfl rfl (Nat.le_of_ble_eq_true rfl) (fun h27 q28 => ?_)
      obtain ⟨hMh27, hFh27, zh27, z29, z30⟩ := q28
      have kz29 : h27 98 42 = (v18 + 1) := by omega
      have kz30 : h27 98 36 = (v1 + 1) := by omega
      obtain ⟨v31, ev31⟩ : ∃ z, z = h27 98 38 := ⟨_, rfl⟩
      have bv31 : -6000 ≤ v31 ∧ v31 ≤ 0 := by rw [ev31]; exact (m_98_38 hMh27)
      have q32 : h27 98 43 = 0 := ((hFh27 98 43 rfl).trans (st_at eh6))
      have cf : CIo f gn 1 h27 := C_fst dz (by omega) (by omega) (by omega) (by assumption) (by omega) (by omega) (hFh27 98 40 rfl) (hFh27 98 37 rfl) (fun j => hFh27 125 j rfl) (by omega)
      refine g_iconst dX12_condition_35 (inR_c rfl) ?_
      have c37 : ∀ (n : Nat) (y33 : Int) (h34 : MEM), MBm h34 → Fr [(98, 37), (98, 39), (98, 41), (98, 42), (98, 43), (98, 44), (98, 45), (125, 0), (126, 0), (127, 0)] h27 h34 → 0 ≤ y33 → y33 ≤ 1 → CIo f gn y33 h34 → h 98 36 ≤ h34 98 36 → h34 98 36 ≤ 200 → -6000 ≤ h34 98 38 → h34 98 36 ≤ h34 98 37 → h34 98 38 ≤ 0 → 10000 * (200 - h34 98 36) + (h34 98 38 + 6000) < (n : Int) → G yX12_condition cX12_condition 2 (none) none Po (7, 420, 0, 0) 37 [some (pR 98), some (pI y33)] [] SH h34 0 0 := by
        intro n
        induction n with
        | zero =>
          intro y33 h34 hMh34 hFh34 by33 dy33 e37_0 e37_1 e37_2 e37_3 e37_4 e37_5 hn
          exfalso; omega
        | succ n ih37 =>
          intro y33 h34 hMh34 hFh34 by33 dy33 e37_0 e37_1 e37_2 e37_3 e37_4 e37_5 hn
          obtain ⟨v35, ev35⟩ : ∃ z, z = h34 98 36 := ⟨_, rfl⟩
          have bv35 : 0 ≤ v35 ∧ v35 ≤ 200 := by rw [ev35]; exact (m_98_36 hMh34)
          have q36 : h34 98 37 = v2 := ((hFh34 98 37 rfl).trans ((hFh27 98 37 rfl).trans ((hFh6 98 37 rfl).trans ev2.symm)))
          obtain ⟨v37, ev37⟩ : ∃ z, z = h34 98 38 := ⟨_, rfl⟩
          have bv37 : -6000 ≤ v37 ∧ v37 ≤ 0 := by rw [ev37]; exact (m_98_38 hMh34)
          refine g_aload_n dX12_condition_37 rfl ?_
          refine g_cVP (as := []) (c_X12_isGood_98  h34 hMh34) dX12_condition_38 mi_X12_isGood in_X12_isGood se_X12_isGood ml_X12_220 rfl rfl rfl sh_98 rfl rfl (Nat.le_of_ble_eq_true rfl) (fun v38 q39 => ?_)
          have q40 : h34 98 38 = v37 := ev37.symm
          rcases q39 with ⟨rfl, q39⟩ | ⟨rfl, q39⟩
          · skip
            refine g_if_eq 74 dX12_condition_41 (by decide) (fun _ => by exfalso; omega) (fun q41 => ?_)
            refine g_aload_n dX12_condition_44 rfl ?_
            refine gI_X12_301 rfl dX12_condition_45 sh_98 (m_98_43 hMh34) (fun v42 ev42 bv42 cv42 => ?_)
            refine g_if_ne 74 dX12_condition_48 (by decide) (fun q43 => ?_) (fun q43 => ?_)
            · skip
              have q44 : h34 98 36 = v35 := ev35.symm
              have q45 : h34 98 37 = v2 := ((hFh34 98 37 rfl).trans ((hFh27 98 37 rfl).trans ((hFh6 98 37 rfl).trans ev2.symm)))
              have q46 : h34 98 38 = v37 := ev37.symm
              have q47 : h34 98 43 = v42 := ev42.symm
              have df : DFo f gn h34 := (by first | exact Or.inl (by omega) | exact CI_e e37_0 (by omega) (by omega))
              exact g_return dX12_condition_74 rfl (hPo _ ⟨hMh34, (Fr.tr (Fr.tr (Fr.sub hFh6 rfl) hFh27 rfl) hFh34 rfl), df, (by omega), (by omega)⟩)
            · skip
              refine g_iload_n dX12_condition_51 rfl (fun _ => ?_)
              refine g_if_eq 59 dX12_condition_52 (by decide) (fun q48 => ?_) (fun q48 => ?_)
              · skip
                refine g_aload_n dX12_condition_59 rfl ?_
                have q49 : h34 98 38 = v37 := ev37.symm
                have q50 : h34 98 43 = v42 := ev42.symm
                have Ca1 : CVo f gn 1 h34 := CI_b e37_0 (by omega) (by omega) (by omega)
                refine g_cVP (as := []) (c_X12_isGood_98  h34 hMh34) dX12_condition_60 mi_X12_isGood in_X12_isGood se_X12_isGood ml_X12_220 rfl rfl rfl sh_98 rfl rfl (Nat.le_of_ble_eq_true rfl) (fun v51 q52 => ?_)
                have q53 : h34 98 38 = v37 := ev37.symm
                rcases q52 with ⟨rfl, q52⟩ | ⟨rfl, q52⟩
                · skip
                  refine g_if_eq 37 dX12_condition_63 (by decide) (fun _ => by exfalso; omega) (fun q54 => ?_)
                  refine g_aload_n dX12_condition_66 rfl ?_
                  have q55 : h34 98 36 = v35 := ev35.symm
                  have q56 : h34 98 38 = v37 := ev37.symm
                  have q57 : h34 98 43 = v42 := ev42.symm
                  refine g_cV (as := []) (c_X12_goesBehind_98 _ _ h34 hMh34 (by omega) (by omega) (by omega) (by omega) Ca1) dX12_condition_67 mi_X12_goesBehind in_X12_goesBehind se_X12_goesBehind ml_X12_307 rfl rfl rfl sh_98 rfl rfl (Nat.le_of_ble_eq_true rfl) (fun v58 h59 q60 => ?_)
                  obtain ⟨hMh59, hFh59, bv58, cv58, zv58, yv58, wv58, uv58⟩ := q60
                  obtain ⟨v61, ev61⟩ : ∃ z, z = h59 98 36 := ⟨_, rfl⟩
                  have bv61 : 0 ≤ v61 ∧ v61 ≤ 200 := by rw [ev61]; exact (m_98_36 hMh59)
                  obtain ⟨v62, ev62⟩ : ∃ z, z = h59 98 38 := ⟨_, rfl⟩
                  have bv62 : -6000 ≤ v62 ∧ v62 ≤ 0 := by rw [ev62]; exact (m_98_38 hMh59)
                  have q63 : h59 98 37 = v2 := ((hFh59 98 37 rfl).trans ((hFh34 98 37 rfl).trans ((hFh27 98 37 rfl).trans ((hFh6 98 37 rfl).trans ev2.symm))))
                  refine g_istore_n dX12_condition_70 (by decide) rfl ?_
                  refine g_goto 37 dX12_condition_71 (by decide) ?_
                  have q64 : h59 98 36 = v61 := ev61.symm
                  have q65 : h59 98 37 = v2 := ((hFh59 98 37 rfl).trans ((hFh34 98 37 rfl).trans ((hFh27 98 37 rfl).trans ((hFh6 98 37 rfl).trans ev2.symm))))
                  have q66 : h59 98 38 = v62 := ev62.symm
                  exact ih37 _ _ hMh59 (Fr.tr (Fr.sub hFh34 rfl) hFh59 rfl) (by omega) (by omega) (by first | exact cf | exact CI_g (by assumption) (by omega) | exact Or.inl (by omega)) (by omega) (by omega) (by omega) (by omega) (by omega) (by omega)
                · skip
                  exfalso; omega
              · skip
                refine g_aload_n dX12_condition_55 rfl ?_
                have q67 : h34 98 38 = v37 := ev37.symm
                have q68 : h34 98 43 = v42 := ev42.symm
                have Ca0 : CVo f gn 0 h34 := CI_a e37_0 (by omega) (by omega) (by omega)
                have q69 : h34 98 36 = v35 := ev35.symm
                have q70 : h34 98 38 = v37 := ev37.symm
                refine g_cVV (as := []) (c_X12_pieceOfC_98 _ _ h34 hMh34 (by omega) (by omega) Ca0) dX12_condition_56 mi_X12_pieceOfC in_X12_pieceOfC se_X12_pieceOfC ml_X12_304 rfl rfl rfl sh_98 rfl rfl (Nat.le_of_ble_eq_true rfl) (fun h71 q72 => ?_)
                obtain ⟨hMh71, hFh71, zh71, z73⟩ := q72
                obtain ⟨v74, ev74⟩ : ∃ z, z = h71 98 36 := ⟨_, rfl⟩
                have bv74 : 0 ≤ v74 ∧ v74 ≤ 200 := by rw [ev74]; exact (m_98_36 hMh71)
                have q75 : h71 98 37 = v2 := ((hFh71 98 37 rfl).trans ((hFh34 98 37 rfl).trans ((hFh27 98 37 rfl).trans ((hFh6 98 37 rfl).trans ev2.symm))))
                refine g_aload_n dX12_condition_59 rfl ?_
                refine g_cVP (as := []) (c_X12_isGood_98  h71 hMh71) dX12_condition_60 mi_X12_isGood in_X12_isGood se_X12_isGood ml_X12_220 rfl rfl rfl sh_98 rfl rfl (Nat.le_of_ble_eq_true rfl) (fun v76 q77 => ?_)
                obtain ⟨v78, ev78⟩ : ∃ z, z = h71 98 38 := ⟨_, rfl⟩
                have bv78 : -6000 ≤ v78 ∧ v78 ≤ 0 := by rw [ev78]; exact (m_98_38 hMh71)
                rcases q77 with ⟨rfl, q77⟩ | ⟨rfl, q77⟩
                · skip
                  refine g_if_eq 37 dX12_condition_63 (by decide) (fun _ => by exfalso; omega) (fun q79 => ?_)
                  refine g_aload_n dX12_condition_66 rfl ?_
                  have q80 : h71 98 36 = v74 := ev74.symm
                  have q81 : h71 98 38 = v78 := ev78.symm
                  have q82 : h71 98 43 = v42 := ((hFh71 98 43 rfl).trans ev42.symm)
                  refine g_cV (as := []) (c_X12_goesBehind_98 _ _ h71 hMh71 (by omega) (by omega) (by omega) (by omega) z73) dX12_condition_67 mi_X12_goesBehind in_X12_goesBehind se_X12_goesBehind ml_X12_307 rfl rfl rfl sh_98 rfl rfl (Nat.le_of_ble_eq_true rfl) (fun v83 h84 q85 => ?_)
                  obtain ⟨hMh84, hFh84, bv83, cv83, zv83, yv83, wv83, uv83⟩ := q85
                  obtain ⟨v86, ev86⟩ : ∃ z, z = h84 98 36 := ⟨_, rfl⟩
                  have bv86 : 0 ≤ v86 ∧ v86 ≤ 200 := by rw [ev86]; exact (m_98_36 hMh84)
                  obtain ⟨v87, ev87⟩ : ∃ z, z = h84 98 38 := ⟨_, rfl⟩
                  have bv87 : -6000 ≤ v87 ∧ v87 ≤ 0 := by rw [ev87]; exact (m_98_38 hMh84)
                  have q88 : h84 98 37 = v2 := ((hFh84 98 37 rfl).trans ((hFh71 98 37 rfl).trans ((hFh34 98 37 rfl).trans ((hFh27 98 37 rfl).trans ((hFh6 98 37 rfl).trans ev2.symm)))))
                  refine g_istore_n dX12_condition_70 (by decide) rfl ?_
                  refine g_goto 37 dX12_condition_71 (by decide) ?_
                  have q89 : h84 98 36 = v86 := ev86.symm
                  have q90 : h84 98 37 = v2 := ((hFh84 98 37 rfl).trans ((hFh71 98 37 rfl).trans ((hFh34 98 37 rfl).trans ((hFh27 98 37 rfl).trans ((hFh6 98 37 rfl).trans ev2.symm)))))
                  have q91 : h84 98 38 = v87 := ev87.symm
                  exact ih37 _ _ hMh84 (Fr.tr (Fr.tr (Fr.sub hFh34 rfl) hFh71 rfl) hFh84 rfl) (by omega) (by omega) (by first | exact cf | exact CI_g (by assumption) (by omega) | exact Or.inl (by omega)) (by omega) (by omega) (by omega) (by omega) (by omega) (by omega)
                · skip
                  refine g_if_eq 37 dX12_condition_63 (by decide) (fun q92 => ?_) (fun _ => by exfalso; omega)
                  have q93 : h71 98 36 = v74 := ev74.symm
                  have q94 : h71 98 37 = v2 := ((hFh71 98 37 rfl).trans ((hFh34 98 37 rfl).trans ((hFh27 98 37 rfl).trans ((hFh6 98 37 rfl).trans ev2.symm))))
                  have q95 : h71 98 38 = v78 := ev78.symm
                  exact ih37 _ _ hMh71 (Fr.tr (Fr.sub hFh34 rfl) hFh71 rfl) (by omega) (by omega) (by first | exact cf | exact CI_g (by assumption) (by omega) | exact Or.inl (by omega)) (by omega) (by omega) (by omega) (by omega) (by omega) (by omega)
          · skip
            refine g_if_eq 74 dX12_condition_41 (by decide) (fun q96 => ?_) (fun _ => by exfalso; omega)
            have q97 : h34 98 36 = v35 := ev35.symm
            have q98 : h34 98 37 = v2 := ((hFh34 98 37 rfl).trans ((hFh27 98 37 rfl).trans ((hFh6 98 37 rfl).trans ev2.symm)))
            have q99 : h34 98 38 = v37 := ev37.symm
            obtain ⟨v100, ev100⟩ : ∃ z, z = h34 98 43 := ⟨_, rfl⟩
            have bv100 : 0 ≤ v100 ∧ v100 ≤ 1 := by rw [ev100]; exact (m_98_43 hMh34)
            have df : DFo f gn h34 := (by first | exact Or.inl (by omega) | exact CI_e e37_0 (by omega) (by omega))
            exact g_return dX12_condition_74 rfl (hPo _ ⟨hMh34, (Fr.tr (Fr.tr (Fr.sub hFh6 rfl) hFh27 rfl) hFh34 rfl), df, (by omega), (by omega)⟩)
      refine g_istore_n dX12_condition_36 (by decide) rfl ?_
      have q101 : h27 98 36 = (v1 + 1) := kz30
      have q102 : h27 98 37 = v2 := ((hFh27 98 37 rfl).trans ((hFh6 98 37 rfl).trans ev2.symm))
      have q103 : h27 98 38 = v31 := ev31.symm
      exact c37 2006001 _ _ hMh27 Fr.rf (by omega) (by omega) (by first | exact cf | exact CI_g (by assumption) (by omega) | exact Or.inl (by omega)) (by omega) (by omega) (by omega) (by omega) (by omega) (by omega)
    · skip
      exfalso; omega
  · skip
    refine g_aload_n dX12_condition_14 rfl ?_
    refine g_iconst dX12_condition_15 (inR_c rfl) ?_
    refine g_aload_n dX12_condition_16 rfl ?_
    refine gE_X12_211 rfl dX12_condition_17 sh_98 ((hFh6 98 36 rfl).trans ev1.symm) ?_
    refine g_cVV (as := [_, _]) (c_X12_wrongs_98 _ _ h6 hMh6 (by omega) (by omega) (by omega) (by omega)) dX12_condition_20 mi_X12_wrongs in_X12_wrongs se_X12_wrongs ml_X12_233 rfl rfl rfl sh_98 rfl rfl (Nat.le_of_ble_eq_true rfl) (fun h104 q105 => ?_)
    obtain ⟨hMh104, hFh104, az106, bz106⟩ := q105
    obtain ⟨v107, ev107⟩ : ∃ z, z = h104 98 38 := ⟨_, rfl⟩
    have bv107 : -6000 ≤ v107 ∧ v107 ≤ -1 := by rw [ev107]; exact ⟨az106, bz106⟩
    refine g_aload_n dX12_condition_23 rfl ?_
    refine g_cVP (as := []) (c_X12_isGood_98  h104 hMh104) dX12_condition_24 mi_X12_isGood in_X12_isGood se_X12_isGood ml_X12_220 rfl rfl rfl sh_98 rfl rfl (Nat.le_of_ble_eq_true rfl) (fun v108 q109 => ?_)
    have q110 : h104 98 38 = v107 := ev107.symm
    rcases q109 with ⟨rfl, q109⟩ | ⟨rfl, q109⟩
    · skip
      exfalso; omega
    · skip
      refine g_if_ne 31 dX12_condition_27 (by decide) (fun _ => by exfalso; omega) (fun q111 => ?_)
      have q112 : h104 98 36 = v1 := ((hFh104 98 36 rfl).trans ((hFh6 98 36 rfl).trans ev1.symm))
      have q113 : h104 98 37 = v2 := ((hFh104 98 37 rfl).trans ((hFh6 98 37 rfl).trans ev2.symm))
      have q114 : h104 98 38 = v107 := ev107.symm
      have q115 : h104 98 43 = 0 := ((hFh104 98 43 rfl).trans (st_at eh6))
      have df : DFo f gn h104 := (by first | exact Or.inl (by omega) | exact CI_e e37_0 (by omega) (by omega))
      exact g_return dX12_condition_30 rfl (hPo _ ⟨hMh104, (Fr.tr (Fr.sub hFh6 rfl) hFh104 rfl), df, (by omega), (by omega)⟩)
set_option maxRecDepth 100000 in
set_option maxHeartbeats 4000000 in
theorem c_X12_clause_98 (h : MEM) (hM : MBm h) (p0_0 : 0 ≤ h 98 38) (p0_1 : h 98 38 ≤ 0) (f_NW : NWo h) : CV yX12_clause cX12_clause 2 (none) 8 [pR 98] h (fun h' => MBm h' ∧ Fr [(98, 37), (98, 39), (98, 40), (98, 41), (98, 42), (98, 43), (98, 44), (98, 45), (121, 0), (122, 0), (123, 0), (124, 0), (125, 0), (126, 0), (127, 0)] h h' ∧ NWo h' ∧ h 98 36 ≤ h' 98 36 ∧ (h' 98 38 < 0 ∨ h 98 36 + 1 ≤ h' 98 36) ∧ h' 98 36 ≤ h' 98 37) := by
  refine CV.of (L0 := [some (pR 98), none]) rfl (Nat.le_of_ble_eq_true rfl) rfl (fun Po hPo hav => ?_)
  obtain ⟨w98_38, ew98_38⟩ : ∃ z, z = h 98 38 := ⟨_, rfl⟩
  obtain ⟨v1, ev1⟩ : ∃ z, z = h 98 36 := ⟨_, rfl⟩
  have bv1 : 0 ≤ v1 ∧ v1 ≤ 200 := by rw [ev1]; exact (m_98_36 hM)
  obtain ⟨v2, ev2⟩ : ∃ z, z = h 98 37 := ⟨_, rfl⟩
  have bv2 : 0 ≤ v2 ∧ v2 ≤ 200 := by rw [ev2]; exact (m_98_37 hM)
  obtain ⟨v3, ev3⟩ : ∃ z, z = h 98 39 := ⟨_, rfl⟩
  have bv3 : 0 ≤ v3 ∧ v3 ≤ 14 := by rw [ev3]; exact (m_98_39 hM)
  obtain ⟨v4, ev4⟩ : ∃ z, z = h 98 40 := ⟨_, rfl⟩
  have bv4 : 0 ≤ v4 ∧ v4 ≤ 200 := by rw [ev4]; exact (m_98_40 hM)
  have q5 : h 98 38 = w98_38 := ew98_38.symm
  have q6 : h 98 36 = v1 := ev1.symm
  have q7 : h 98 37 = v2 := ev2.symm
  have nl0 := ((f_NW).resolve_left (by omega)).lin
  refine g_aload_n dX12_clause_0 rfl ?_
  have q8 : h 98 36 = v1 := ev1.symm
  have q9 : h 98 37 = v2 := ev2.symm
  refine g_cVP (as := []) (c_X12_here_98  h hM) dX12_clause_1 mi_X12_here in_X12_here se_X12_here ml_X12_237 rfl rfl rfl sh_98 rfl rfl (Nat.le_of_ble_eq_true rfl) (fun v10 q11 => ?_)
  obtain ⟨bv10, cv10, zv10, yv10⟩ := q11
  refine g_istore_n dX12_clause_4 (by decide) rfl ?_
  refine g_iload_n dX12_clause_5 rfl (fun _ => ?_)
  refine g_bipush dX12_clause_6 (inR_c rfl) (by decide) ?_
  refine g_icmp_eq 41 dX12_clause_8 (by decide) (fun q12 => ?_) (fun q12 => ?_)
  · skip
    refine g_aload_n dX12_clause_41 rfl ?_
    refine gE_X12_310 rfl dX12_clause_42 sh_98 ev3.symm ?_
    refine g_bipush dX12_clause_45 (inR_c rfl) (by decide) ?_
    refine g_icmp_ne 59 dX12_clause_47 (by decide) (fun q13 => ?_) (fun q13 => ?_)
    · skip
      refine g_aload_n dX12_clause_59 rfl ?_
      refine g_cVP (as := []) (c_X12_isGood_98  h hM) dX12_clause_60 mi_X12_isGood in_X12_isGood se_X12_isGood ml_X12_220 rfl rfl rfl sh_98 rfl rfl (Nat.le_of_ble_eq_true rfl) (fun v14 q15 => ?_)
      have q16 : h 98 38 = w98_38 := ew98_38.symm
      rcases q15 with ⟨rfl, q15⟩ | ⟨rfl, q15⟩
      · skip
        refine g_if_ne 67 dX12_clause_63 (by decide) (fun q17 => ?_) (fun _ => by exfalso; omega)
        refine g_aload_n dX12_clause_67 rfl ?_
        have q18 : h 98 38 = w98_38 := ew98_38.symm
        have q19 : h 98 40 = v4 := ev4.symm
        have q20 : h 98 36 = v1 := ev1.symm
        have q21 : h 98 37 = v2 := ev2.symm
        have q22 : h 98 39 = v3 := ev3.symm
        have nw := f_NW.resolve_left (by omega)
        have nl := nw.lin
        refine gR_X12_82 rfl dX12_clause_68 sh_98 (b := 121) (m_98_30 hM) ?_
        refine g_aload_n dX12_clause_71 rfl ?_
        refine gE_X12_310 rfl dX12_clause_72 sh_98 ev3.symm ?_
        refine g_iload_n dX12_clause_75 rfl (fun _ => ?_)
        refine g_iastB dX12_clause_76 sh_121 (by omega) (by omega) (fun h23 eh23 => ?_)
        have hFh23 := Fr.ar eh23
        have hMh23 := u_121 hM eh23 (by omega) (by omega)
        refine g_aload_n dX12_clause_77 rfl ?_
        have fY1 : ∀ j, h23 122 j = h 122 j := fun j => (hFh23 122 j rfl)
        refine gR_X12_85 rfl dX12_clause_78 sh_98 (b := 122) (m_98_31 hMh23) ?_
        refine g_aload_n dX12_clause_81 rfl ?_
        refine gE_X12_310 rfl dX12_clause_82 sh_98 ((hFh23 98 39 rfl).trans ev3.symm) ?_
        refine g_aload_n dX12_clause_85 rfl ?_
        refine gE_X12_224 rfl dX12_clause_86 sh_98 ((hFh23 98 40 rfl).trans ev4.symm) ?_
        refine g_iastB dX12_clause_89 sh_122 (by omega) (by omega) (fun h24 eh24 => ?_)
        have hFh24 := Fr.ar eh24
        have hMh24 := u_122 hMh23 eh24 (by omega) (by omega)
        refine g_aload_n dX12_clause_90 rfl ?_
        refine g_dup dX12_clause_91 rfl ?_
        refine gE_X12_211 rfl dX12_clause_92 sh_98 ((hFh24 98 36 rfl).trans ((hFh23 98 36 rfl).trans ev1.symm)) ?_
        have a92 : 0 ≤ v1 ∧ v1 ≤ 199 := (by omega)
        refine g_iconst dX12_clause_95 (inR_c rfl) ?_
        refine g_iaddB dX12_clause_96 (by omega) (by omega) ?_
        refine pI_X12_211 rfl dX12_clause_97 sh_98 (fun h25 eh25 => ?_)
        have hFh25 := Fr.st eh25
        have hMh25 := u_98_36 hMh24 eh25 (by omega) (by omega)
        refine g_aload_n dX12_clause_100 rfl ?_
        refine g_iconst dX12_clause_101 (inR_c rfl) ?_
        refine pI_X12_227 rfl dX12_clause_102 sh_98 (fun h26 eh26 => ?_)
        have hFh26 := Fr.st eh26
        have hMh26 := u_98_42 hMh25 eh26 (by omega) (by omega)
        refine g_aload_n dX12_clause_105 rfl ?_
        refine g_iconst dX12_clause_106 (inR_c rfl) ?_
        refine pI_X12_230 rfl dX12_clause_107 sh_98 (fun h27 eh27 => ?_)
        have hFh27 := Fr.st eh27
        have hMh27 := u_98_41 hMh26 eh27 (by omega) (by omega)
        have eC0 : h27 98 40 = h 98 40 := ((hFh27 98 40 rfl).trans ((hFh26 98 40 rfl).trans ((hFh25 98 40 rfl).trans ((hFh24 98 40 rfl).trans (hFh23 98 40 rfl)))))
        have fN0 : ∀ j, h27 125 j = h 125 j := fun j => ((hFh27 125 j rfl).trans ((hFh26 125 j rfl).trans ((hFh25 125 j rfl).trans ((hFh24 125 j rfl).trans (hFh23 125 j rfl)))))
        have q28 : h27 98 36 = (v1 + 1) := ((hFh27 98 36 rfl).trans ((hFh26 98 36 rfl).trans (st_at eh25)))
        have q29 : h27 98 37 = v2 := ((hFh27 98 37 rfl).trans ((hFh26 98 37 rfl).trans ((hFh25 98 37 rfl).trans ((hFh24 98 37 rfl).trans ((hFh23 98 37 rfl).trans ev2.symm)))))
        have q30 : h27 98 42 = 0 := ((hFh27 98 42 rfl).trans (st_at eh26))
        have q31 : h27 98 40 = v4 := ((hFh27 98 40 rfl).trans ((hFh26 98 40 rfl).trans ((hFh25 98 40 rfl).trans ((hFh24 98 40 rfl).trans ((hFh23 98 40 rfl).trans ev4.symm)))))
        refine g_aload_n dX12_clause_110 rfl ?_
        have Ev0 : EVo (h27 98 40) (h27 125) 0 (h27 127) 0 h27 := E_start (by omega) (by omega) (by omega) (by omega)
        have q32 : h27 98 36 = (v1 + 1) := ((hFh27 98 36 rfl).trans ((hFh26 98 36 rfl).trans (st_at eh25)))
        have q33 : h27 98 38 = w98_38 := ((hFh27 98 38 rfl).trans ((hFh26 98 38 rfl).trans ((hFh25 98 38 rfl).trans ((hFh24 98 38 rfl).trans ((hFh23 98 38 rfl).trans ew98_38.symm)))))
        refine g_cVV (as := []) (c_X12_value_98 _ _ _ _ h27 hMh27 (by omega) (by omega) Ev0) dX12_clause_111 mi_X12_value in_X12_value se_X12_value ml_X12_289 rfl rfl rfl sh_98 rfl rfl (Nat.le_of_ble_eq_true rfl) (fun h34 q35 => ?_)
        obtain ⟨hMh34, hFh34, zh34, yh34, wh34⟩ := q35
        obtain ⟨v36, ev36⟩ : ∃ z, z = h34 98 36 := ⟨_, rfl⟩
        have bv36 : 0 ≤ v36 ∧ v36 ≤ 200 := by rw [ev36]; exact (m_98_36 hMh34)
        have q37 : h34 98 37 = v2 := ((hFh34 98 37 rfl).trans ((hFh27 98 37 rfl).trans ((hFh26 98 37 rfl).trans ((hFh25 98 37 rfl).trans ((hFh24 98 37 rfl).trans ((hFh23 98 37 rfl).trans ev2.symm))))))
        have dz0 : DZo (h34 98 40) (h34 125) h34 := DZ_mid (by assumption)
        refine g_aload_n dX12_clause_114 rfl ?_
        have fY2 : ∀ j, h34 123 j = h 123 j := fun j => ((hFh34 123 j rfl).trans ((hFh27 123 j rfl).trans ((hFh26 123 j rfl).trans ((hFh25 123 j rfl).trans ((hFh24 123 j rfl).trans (hFh23 123 j rfl))))))
        obtain ⟨v38, ev38⟩ : ∃ z, z = h34 98 40 := ⟨_, rfl⟩
        have bv38 : 0 ≤ v38 ∧ v38 ≤ 200 := by rw [ev38]; exact (m_98_40 hMh34)
        refine gR_X12_88 rfl dX12_clause_115 sh_98 (b := 123) (m_98_32 hMh34) ?_
        refine g_aload_n dX12_clause_118 rfl ?_
        refine gE_X12_310 rfl dX12_clause_119 sh_98 ((hFh34 98 39 rfl).trans ((hFh27 98 39 rfl).trans ((hFh26 98 39 rfl).trans ((hFh25 98 39 rfl).trans ((hFh24 98 39 rfl).trans ((hFh23 98 39 rfl).trans ev3.symm)))))) ?_
        refine g_aload_n dX12_clause_122 rfl ?_
        refine gE_X12_224 rfl dX12_clause_123 sh_98 ev38.symm ?_
        refine g_iastB dX12_clause_126 sh_123 (by omega) (by omega) (fun h39 eh39 => ?_)
        have hFh39 := Fr.ar eh39
        have hMh39 := u_123 hMh34 eh39 (by omega) (by omega)
        refine g_aload_n dX12_clause_127 rfl ?_
        refine g_cVP (as := []) (c_X12_isGood_98  h39 hMh39) dX12_clause_128 mi_X12_isGood in_X12_isGood se_X12_isGood ml_X12_220 rfl rfl rfl sh_98 rfl rfl (Nat.le_of_ble_eq_true rfl) (fun v40 q41 => ?_)
        have q42 : h39 98 38 = h34 98 38 := (hFh39 98 38 rfl)
        obtain ⟨v43, ev43⟩ : ∃ z, z = h39 98 38 := ⟨_, rfl⟩
        have bv43 : -6000 ≤ v43 ∧ v43 ≤ 0 := by rw [ev43]; exact (m_98_38 hMh39)
        rcases q41 with ⟨rfl, q41⟩ | ⟨rfl, q41⟩
        · skip
          refine g_if_eq 138 dX12_clause_131 (by decide) (fun _ => by exfalso; omega) (fun q44 => ?_)
          refine g_aload_n dX12_clause_134 rfl ?_
          have q45 : h39 98 36 = v36 := ((hFh39 98 36 rfl).trans ev36.symm)
          have q46 : h39 98 38 = v43 := ev43.symm
          refine g_cVV (as := []) (c_X12_condition_98 _ _ h39 hMh39 (by omega) (by omega) (DZo.fr (T := [(123, 0)]) dz0 (Fr.sub hFh39 rfl) rfl)) dX12_clause_135 mi_X12_condition in_X12_condition se_X12_condition ml_X12_313 rfl rfl rfl sh_98 rfl rfl (Nat.le_of_ble_eq_true rfl) (fun h47 q48 => ?_)
          obtain ⟨hMh47, hFh47, zh47, yh47, wh47⟩ := q48
          obtain ⟨v49, ev49⟩ : ∃ z, z = h47 98 36 := ⟨_, rfl⟩
          have bv49 : 0 ≤ v49 ∧ v49 ≤ 200 := by rw [ev49]; exact (m_98_36 hMh47)
          have q50 : h47 98 37 = v2 := ((hFh47 98 37 rfl).trans ((hFh39 98 37 rfl).trans ((hFh34 98 37 rfl).trans ((hFh27 98 37 rfl).trans ((hFh26 98 37 rfl).trans ((hFh25 98 37 rfl).trans ((hFh24 98 37 rfl).trans ((hFh23 98 37 rfl).trans ev2.symm))))))))
          refine g_aload_n dX12_clause_138 rfl ?_
          have fY3 : ∀ j, h47 124 j = h 124 j := fun j => ((hFh47 124 j rfl).trans ((hFh39 124 j rfl).trans ((hFh34 124 j rfl).trans ((hFh27 124 j rfl).trans ((hFh26 124 j rfl).trans ((hFh25 124 j rfl).trans ((hFh24 124 j rfl).trans (hFh23 124 j rfl))))))))
          obtain ⟨v51, ev51⟩ : ∃ z, z = h47 98 40 := ⟨_, rfl⟩
          have bv51 : 0 ≤ v51 ∧ v51 ≤ 200 := by rw [ev51]; exact (m_98_40 hMh47)
          refine gR_X12_91 rfl dX12_clause_139 sh_98 (b := 124) (m_98_33 hMh47) ?_
          refine g_aload_n dX12_clause_142 rfl ?_
          refine gE_X12_310 rfl dX12_clause_143 sh_98 ((hFh47 98 39 rfl).trans ((hFh39 98 39 rfl).trans ((hFh34 98 39 rfl).trans ((hFh27 98 39 rfl).trans ((hFh26 98 39 rfl).trans ((hFh25 98 39 rfl).trans ((hFh24 98 39 rfl).trans ((hFh23 98 39 rfl).trans ev3.symm)))))))) ?_
          refine g_aload_n dX12_clause_146 rfl ?_
          refine gE_X12_224 rfl dX12_clause_147 sh_98 ev51.symm ?_
          refine g_iastB dX12_clause_150 sh_124 (by omega) (by omega) (fun h52 eh52 => ?_)
          have hFh52 := Fr.ar eh52
          have hMh52 := u_124 hMh47 eh52 (by omega) (by omega)
          refine g_aload_n dX12_clause_151 rfl ?_
          refine g_dup dX12_clause_152 rfl ?_
          refine gE_X12_310 rfl dX12_clause_153 sh_98 ((hFh52 98 39 rfl).trans ((hFh47 98 39 rfl).trans ((hFh39 98 39 rfl).trans ((hFh34 98 39 rfl).trans ((hFh27 98 39 rfl).trans ((hFh26 98 39 rfl).trans ((hFh25 98 39 rfl).trans ((hFh24 98 39 rfl).trans ((hFh23 98 39 rfl).trans ev3.symm))))))))) ?_
          refine g_iconst dX12_clause_156 (inR_c rfl) ?_
          refine g_iaddB dX12_clause_157 (by omega) (by omega) ?_
          refine pI_X12_310 rfl dX12_clause_158 sh_98 (fun h53 eh53 => ?_)
          have hFh53 := Fr.st eh53
          have hMh53 := u_98_39 hMh52 eh53 (by omega) (by omega)
          have q54 : h53 98 36 = v49 := ((hFh53 98 36 rfl).trans ((hFh52 98 36 rfl).trans ev49.symm))
          have q55 : h53 98 37 = v2 := ((hFh53 98 37 rfl).trans ((hFh52 98 37 rfl).trans ((hFh47 98 37 rfl).trans ((hFh39 98 37 rfl).trans ((hFh34 98 37 rfl).trans ((hFh27 98 37 rfl).trans ((hFh26 98 37 rfl).trans ((hFh25 98 37 rfl).trans ((hFh24 98 37 rfl).trans ((hFh23 98 37 rfl).trans ev2.symm))))))))))
          have q56 : h53 98 38 = h47 98 38 := ((hFh53 98 38 rfl).trans (hFh52 98 38 rfl))
          obtain ⟨v57, ev57⟩ : ∃ z, z = h53 98 38 := ⟨_, rfl⟩
          have bv57 : -6000 ≤ v57 ∧ v57 ≤ 0 := by rw [ev57]; exact (m_98_38 hMh53)
          have q58 : h53 98 40 = v51 := ((hFh53 98 40 rfl).trans ((hFh52 98 40 rfl).trans ev51.symm))
          have q59 : h53 98 39 = (v3 + 1) := (st_at eh53)
          have fX1 : ∀ j, h53 122 j = h24 122 j := fun j => ((hFh53 122 j rfl).trans ((hFh52 122 j rfl).trans ((hFh47 122 j rfl).trans ((hFh39 122 j rfl).trans ((hFh34 122 j rfl).trans ((hFh27 122 j rfl).trans ((hFh26 122 j rfl).trans (hFh25 122 j rfl))))))))
          have fX2 : ∀ j, h53 123 j = h39 123 j := fun j => ((hFh53 123 j rfl).trans ((hFh52 123 j rfl).trans (hFh47 123 j rfl)))
          have fX3 : ∀ j, h53 124 j = h52 124 j := fun j => (hFh53 124 j rfl)
          have bD : h53 98 38 = h47 98 38 := ((hFh53 98 38 rfl).trans (hFh52 98 38 rfl))
          have cD : h53 98 40 = h47 98 40 := ((hFh53 98 40 rfl).trans (hFh52 98 40 rfl))
          have nD : ∀ j, h53 125 j = h47 125 j := fun j => ((hFh53 125 j rfl).trans (hFh52 125 j rfl))
          have nw2 : NWo h53 := (by first | exact Or.inl (by omega) | exact NW_end nw eC0 fN0 (by assumption) (by omega) (by assumption) bD cD nD (by omega) (by omega) (by omega) (up_at (by assumption) fY1 fX1) (by omega) (by omega) (up_at (by assumption) fY2 fX2) (by omega) (up_at (by assumption) fY3 fX3) (by omega))
          exact g_return dX12_clause_161 rfl (hPo _ ⟨hMh53, (Fr.tr (Fr.tr (Fr.tr (Fr.tr (Fr.tr (Fr.tr (Fr.tr (Fr.tr (Fr.tr (Fr.sub hFh23 rfl) hFh24 rfl) hFh25 rfl) hFh26 rfl) hFh27 rfl) hFh34 rfl) hFh39 rfl) hFh47 rfl) hFh52 rfl) hFh53 rfl), nw2, (by omega), (by omega), (by omega)⟩)
        · skip
          refine g_if_eq 138 dX12_clause_131 (by decide) (fun q60 => ?_) (fun _ => by exfalso; omega)
          refine g_aload_n dX12_clause_138 rfl ?_
          have fY3 : ∀ j, h39 124 j = h 124 j := fun j => ((hFh39 124 j rfl).trans ((hFh34 124 j rfl).trans ((hFh27 124 j rfl).trans ((hFh26 124 j rfl).trans ((hFh25 124 j rfl).trans ((hFh24 124 j rfl).trans (hFh23 124 j rfl)))))))
          have q61 : h39 98 40 = v38 := ((hFh39 98 40 rfl).trans ev38.symm)
          refine gR_X12_91 rfl dX12_clause_139 sh_98 (b := 124) (m_98_33 hMh39) ?_
          refine g_aload_n dX12_clause_142 rfl ?_
          refine gE_X12_310 rfl dX12_clause_143 sh_98 ((hFh39 98 39 rfl).trans ((hFh34 98 39 rfl).trans ((hFh27 98 39 rfl).trans ((hFh26 98 39 rfl).trans ((hFh25 98 39 rfl).trans ((hFh24 98 39 rfl).trans ((hFh23 98 39 rfl).trans ev3.symm))))))) ?_
          refine g_aload_n dX12_clause_146 rfl ?_
          refine gE_X12_224 rfl dX12_clause_147 sh_98 ((hFh39 98 40 rfl).trans ev38.symm) ?_
          refine g_iastB dX12_clause_150 sh_124 (by omega) (by omega) (fun h62 eh62 => ?_)
          have hFh62 := Fr.ar eh62
          have hMh62 := u_124 hMh39 eh62 (by omega) (by omega)
          refine g_aload_n dX12_clause_151 rfl ?_
          refine g_dup dX12_clause_152 rfl ?_
          refine gE_X12_310 rfl dX12_clause_153 sh_98 ((hFh62 98 39 rfl).trans ((hFh39 98 39 rfl).trans ((hFh34 98 39 rfl).trans ((hFh27 98 39 rfl).trans ((hFh26 98 39 rfl).trans ((hFh25 98 39 rfl).trans ((hFh24 98 39 rfl).trans ((hFh23 98 39 rfl).trans ev3.symm)))))))) ?_
          refine g_iconst dX12_clause_156 (inR_c rfl) ?_
          refine g_iaddB dX12_clause_157 (by omega) (by omega) ?_
          refine pI_X12_310 rfl dX12_clause_158 sh_98 (fun h63 eh63 => ?_)
          have hFh63 := Fr.st eh63
          have hMh63 := u_98_39 hMh62 eh63 (by omega) (by omega)
          have q64 : h63 98 36 = v36 := ((hFh63 98 36 rfl).trans ((hFh62 98 36 rfl).trans ((hFh39 98 36 rfl).trans ev36.symm)))
          have q65 : h63 98 37 = v2 := ((hFh63 98 37 rfl).trans ((hFh62 98 37 rfl).trans ((hFh39 98 37 rfl).trans ((hFh34 98 37 rfl).trans ((hFh27 98 37 rfl).trans ((hFh26 98 37 rfl).trans ((hFh25 98 37 rfl).trans ((hFh24 98 37 rfl).trans ((hFh23 98 37 rfl).trans ev2.symm)))))))))
          have q66 : h63 98 38 = v43 := ((hFh63 98 38 rfl).trans ((hFh62 98 38 rfl).trans ev43.symm))
          have q67 : h63 98 40 = v38 := ((hFh63 98 40 rfl).trans ((hFh62 98 40 rfl).trans ((hFh39 98 40 rfl).trans ev38.symm)))
          have q68 : h63 98 39 = (v3 + 1) := (st_at eh63)
          have fX1 : ∀ j, h63 122 j = h24 122 j := fun j => ((hFh63 122 j rfl).trans ((hFh62 122 j rfl).trans ((hFh39 122 j rfl).trans ((hFh34 122 j rfl).trans ((hFh27 122 j rfl).trans ((hFh26 122 j rfl).trans (hFh25 122 j rfl)))))))
          have fX2 : ∀ j, h63 123 j = h39 123 j := fun j => ((hFh63 123 j rfl).trans (hFh62 123 j rfl))
          have fX3 : ∀ j, h63 124 j = h62 124 j := fun j => (hFh63 124 j rfl)
          have nw2 : NWo h63 := (by first | exact Or.inl (by omega) | exact NW_end nw eC0 fN0 (by assumption) (by omega) (by assumption) bD cD nD (by omega) (by omega) (by omega) (up_at (by assumption) fY1 fX1) (by omega) (by omega) (up_at (by assumption) fY2 fX2) (by omega) (up_at (by assumption) fY3 fX3) (by omega))
          exact g_return dX12_clause_161 rfl (hPo _ ⟨hMh63, (Fr.tr (Fr.tr (Fr.tr (Fr.tr (Fr.tr (Fr.tr (Fr.tr (Fr.tr (Fr.sub hFh23 rfl) hFh24 rfl) hFh25 rfl) hFh26 rfl) hFh27 rfl) hFh34 rfl) hFh39 rfl) hFh62 rfl) hFh63 rfl), nw2, (by omega), (by omega), (by omega)⟩)
      · skip
        exfalso; omega
    · skip
      refine g_aload_n dX12_clause_50 rfl ?_
      refine g_iconst dX12_clause_51 (inR_c rfl) ?_
      refine g_aload_n dX12_clause_52 rfl ?_
      refine gE_X12_211 rfl dX12_clause_53 sh_98 ev1.symm ?_
      refine g_cVV (as := [_, _]) (c_X12_wrongs_98 _ _ h hM (by omega) (by omega) (by omega) (by omega)) dX12_clause_56 mi_X12_wrongs in_X12_wrongs se_X12_wrongs ml_X12_233 rfl rfl rfl sh_98 rfl rfl (Nat.le_of_ble_eq_true rfl) (fun h69 q70 => ?_)
      obtain ⟨hMh69, hFh69, az71, bz71⟩ := q70
      obtain ⟨v72, ev72⟩ : ∃ z, z = h69 98 38 := ⟨_, rfl⟩
      have bv72 : -6000 ≤ v72 ∧ v72 ≤ -1 := by rw [ev72]; exact ⟨az71, bz71⟩
      refine g_aload_n dX12_clause_59 rfl ?_
      refine g_cVP (as := []) (c_X12_isGood_98  h69 hMh69) dX12_clause_60 mi_X12_isGood in_X12_isGood se_X12_isGood ml_X12_220 rfl rfl rfl sh_98 rfl rfl (Nat.le_of_ble_eq_true rfl) (fun v73 q74 => ?_)
      have q75 : h69 98 38 = v72 := ev72.symm
      rcases q74 with ⟨rfl, q74⟩ | ⟨rfl, q74⟩
      · skip
        exfalso; omega
      · skip
        refine g_if_ne 67 dX12_clause_63 (by decide) (fun _ => by exfalso; omega) (fun q76 => ?_)
        have q77 : h69 98 36 = v1 := ((hFh69 98 36 rfl).trans ev1.symm)
        have q78 : h69 98 37 = v2 := ((hFh69 98 37 rfl).trans ev2.symm)
        have q79 : h69 98 38 = v72 := ev72.symm
        have q80 : h69 98 40 = v4 := ((hFh69 98 40 rfl).trans ev4.symm)
        have q81 : h69 98 39 = v3 := ((hFh69 98 39 rfl).trans ev3.symm)
        have nw2 : NWo h69 := (by first | exact Or.inl (by omega) | exact NW_end nw eC0 fN0 (by assumption) (by omega) (by assumption) bD cD nD (by omega) (by omega) (by omega) (up_at (by assumption) fY1 fX1) (by omega) (by omega) (up_at (by assumption) fY2 fX2) (by omega) (up_at (by assumption) fY3 fX3) (by omega))
        exact g_return dX12_clause_66 rfl (hPo _ ⟨hMh69, (Fr.sub hFh69 rfl), nw2, (by omega), (by omega), (by omega)⟩)
  · skip
    refine g_iload_n dX12_clause_11 rfl (fun _ => ?_)
    refine g_bipush dX12_clause_12 (inR_c rfl) (by decide) ?_
    refine g_icmp_eq 41 dX12_clause_14 (by decide) (fun q82 => ?_) (fun q82 => ?_)
    · skip
      refine g_aload_n dX12_clause_41 rfl ?_
      refine gE_X12_310 rfl dX12_clause_42 sh_98 ev3.symm ?_
      refine g_bipush dX12_clause_45 (inR_c rfl) (by decide) ?_
      refine g_icmp_ne 59 dX12_clause_47 (by decide) (fun q83 => ?_) (fun q83 => ?_)
      · skip
        refine g_aload_n dX12_clause_59 rfl ?_
        refine g_cVP (as := []) (c_X12_isGood_98  h hM) dX12_clause_60 mi_X12_isGood in_X12_isGood se_X12_isGood ml_X12_220 rfl rfl rfl sh_98 rfl rfl (Nat.le_of_ble_eq_true rfl) (fun v84 q85 => ?_)
        have q86 : h 98 38 = w98_38 := ew98_38.symm
        rcases q85 with ⟨rfl, q85⟩ | ⟨rfl, q85⟩
        · skip
          refine g_if_ne 67 dX12_clause_63 (by decide) (fun q87 => ?_) (fun _ => by exfalso; omega)
          refine g_aload_n dX12_clause_67 rfl ?_
          have q88 : h 98 38 = w98_38 := ew98_38.symm
          have q89 : h 98 40 = v4 := ev4.symm
          have q90 : h 98 36 = v1 := ev1.symm
          have q91 : h 98 37 = v2 := ev2.symm
          have q92 : h 98 39 = v3 := ev3.symm
          have nw := f_NW.resolve_left (by omega)
          have nl := nw.lin
          refine gR_X12_82 rfl dX12_clause_68 sh_98 (b := 121) (m_98_30 hM) ?_
          refine g_aload_n dX12_clause_71 rfl ?_
          refine gE_X12_310 rfl dX12_clause_72 sh_98 ev3.symm ?_
          refine g_iload_n dX12_clause_75 rfl (fun _ => ?_)
          refine g_iastB dX12_clause_76 sh_121 (by omega) (by omega) (fun h93 eh93 => ?_)
          have hFh93 := Fr.ar eh93
          have hMh93 := u_121 hM eh93 (by omega) (by omega)
          refine g_aload_n dX12_clause_77 rfl ?_
          have fY1 : ∀ j, h93 122 j = h 122 j := fun j => (hFh93 122 j rfl)
          refine gR_X12_85 rfl dX12_clause_78 sh_98 (b := 122) (m_98_31 hMh93) ?_
          refine g_aload_n dX12_clause_81 rfl ?_
          refine gE_X12_310 rfl dX12_clause_82 sh_98 ((hFh93 98 39 rfl).trans ev3.symm) ?_
          refine g_aload_n dX12_clause_85 rfl ?_
          refine gE_X12_224 rfl dX12_clause_86 sh_98 ((hFh93 98 40 rfl).trans ev4.symm) ?_
          refine g_iastB dX12_clause_89 sh_122 (by omega) (by omega) (fun h94 eh94 => ?_)
          have hFh94 := Fr.ar eh94
          have hMh94 := u_122 hMh93 eh94 (by omega) (by omega)
          refine g_aload_n dX12_clause_90 rfl ?_
          refine g_dup dX12_clause_91 rfl ?_
          refine gE_X12_211 rfl dX12_clause_92 sh_98 ((hFh94 98 36 rfl).trans ((hFh93 98 36 rfl).trans ev1.symm)) ?_
          have a92 : 0 ≤ v1 ∧ v1 ≤ 199 := (by omega)
          refine g_iconst dX12_clause_95 (inR_c rfl) ?_
          refine g_iaddB dX12_clause_96 (by omega) (by omega) ?_
          refine pI_X12_211 rfl dX12_clause_97 sh_98 (fun h95 eh95 => ?_)
          have hFh95 := Fr.st eh95
          have hMh95 := u_98_36 hMh94 eh95 (by omega) (by omega)
          refine g_aload_n dX12_clause_100 rfl ?_
          refine g_iconst dX12_clause_101 (inR_c rfl) ?_
          refine pI_X12_227 rfl dX12_clause_102 sh_98 (fun h96 eh96 => ?_)
          have hFh96 := Fr.st eh96
          have hMh96 := u_98_42 hMh95 eh96 (by omega) (by omega)
          refine g_aload_n dX12_clause_105 rfl ?_
          refine g_iconst dX12_clause_106 (inR_c rfl) ?_
          refine pI_X12_230 rfl dX12_clause_107 sh_98 (fun h97 eh97 => ?_)
          have hFh97 := Fr.st eh97
          have hMh97 := u_98_41 hMh96 eh97 (by omega) (by omega)
          have eC0 : h97 98 40 = h 98 40 := ((hFh97 98 40 rfl).trans ((hFh96 98 40 rfl).trans ((hFh95 98 40 rfl).trans ((hFh94 98 40 rfl).trans (hFh93 98 40 rfl)))))
          have fN0 : ∀ j, h97 125 j = h 125 j := fun j => ((hFh97 125 j rfl).trans ((hFh96 125 j rfl).trans ((hFh95 125 j rfl).trans ((hFh94 125 j rfl).trans (hFh93 125 j rfl)))))
          have q98 : h97 98 36 = (v1 + 1) := ((hFh97 98 36 rfl).trans ((hFh96 98 36 rfl).trans (st_at eh95)))
          have q99 : h97 98 37 = v2 := ((hFh97 98 37 rfl).trans ((hFh96 98 37 rfl).trans ((hFh95 98 37 rfl).trans ((hFh94 98 37 rfl).trans ((hFh93 98 37 rfl).trans ev2.symm)))))
          have q100 : h97 98 42 = 0 := ((hFh97 98 42 rfl).trans (st_at eh96))
          have q101 : h97 98 40 = v4 := ((hFh97 98 40 rfl).trans ((hFh96 98 40 rfl).trans ((hFh95 98 40 rfl).trans ((hFh94 98 40 rfl).trans ((hFh93 98 40 rfl).trans ev4.symm)))))
          refine g_aload_n dX12_clause_110 rfl ?_
          have Ev0 : EVo (h97 98 40) (h97 125) 0 (h97 127) 0 h97 := E_start (by omega) (by omega) (by omega) (by omega)
          have q102 : h97 98 36 = (v1 + 1) := ((hFh97 98 36 rfl).trans ((hFh96 98 36 rfl).trans (st_at eh95)))
          have q103 : h97 98 38 = w98_38 := ((hFh97 98 38 rfl).trans ((hFh96 98 38 rfl).trans ((hFh95 98 38 rfl).trans ((hFh94 98 38 rfl).trans ((hFh93 98 38 rfl).trans ew98_38.symm)))))
          refine g_cVV (as := []) (c_X12_value_98 _ _ _ _ h97 hMh97 (by omega) (by omega) Ev0) dX12_clause_111 mi_X12_value in_X12_value se_X12_value ml_X12_289 rfl rfl rfl sh_98 rfl rfl (Nat.le_of_ble_eq_true rfl) (fun h104 q105 => ?_)
          obtain ⟨hMh104, hFh104, zh104, yh104, wh104⟩ := q105
          obtain ⟨v106, ev106⟩ : ∃ z, z = h104 98 36 := ⟨_, rfl⟩
          have bv106 : 0 ≤ v106 ∧ v106 ≤ 200 := by rw [ev106]; exact (m_98_36 hMh104)
          have q107 : h104 98 37 = v2 := ((hFh104 98 37 rfl).trans ((hFh97 98 37 rfl).trans ((hFh96 98 37 rfl).trans ((hFh95 98 37 rfl).trans ((hFh94 98 37 rfl).trans ((hFh93 98 37 rfl).trans ev2.symm))))))
          have dz0 : DZo (h104 98 40) (h104 125) h104 := DZ_mid (by assumption)
          refine g_aload_n dX12_clause_114 rfl ?_
          have fY2 : ∀ j, h104 123 j = h 123 j := fun j => ((hFh104 123 j rfl).trans ((hFh97 123 j rfl).trans ((hFh96 123 j rfl).trans ((hFh95 123 j rfl).trans ((hFh94 123 j rfl).trans (hFh93 123 j rfl))))))
          obtain ⟨v108, ev108⟩ : ∃ z, z = h104 98 40 := ⟨_, rfl⟩
          have bv108 : 0 ≤ v108 ∧ v108 ≤ 200 := by rw [ev108]; exact (m_98_40 hMh104)
          refine gR_X12_88 rfl dX12_clause_115 sh_98 (b := 123) (m_98_32 hMh104) ?_
          refine g_aload_n dX12_clause_118 rfl ?_
          refine gE_X12_310 rfl dX12_clause_119 sh_98 ((hFh104 98 39 rfl).trans ((hFh97 98 39 rfl).trans ((hFh96 98 39 rfl).trans ((hFh95 98 39 rfl).trans ((hFh94 98 39 rfl).trans ((hFh93 98 39 rfl).trans ev3.symm)))))) ?_
          refine g_aload_n dX12_clause_122 rfl ?_
          refine gE_X12_224 rfl dX12_clause_123 sh_98 ev108.symm ?_
          refine g_iastB dX12_clause_126 sh_123 (by omega) (by omega) (fun h109 eh109 => ?_)
          have hFh109 := Fr.ar eh109
          have hMh109 := u_123 hMh104 eh109 (by omega) (by omega)
          refine g_aload_n dX12_clause_127 rfl ?_
          refine g_cVP (as := []) (c_X12_isGood_98  h109 hMh109) dX12_clause_128 mi_X12_isGood in_X12_isGood se_X12_isGood ml_X12_220 rfl rfl rfl sh_98 rfl rfl (Nat.le_of_ble_eq_true rfl) (fun v110 q111 => ?_)
          have q112 : h109 98 38 = h104 98 38 := (hFh109 98 38 rfl)
          obtain ⟨v113, ev113⟩ : ∃ z, z = h109 98 38 := ⟨_, rfl⟩
          have bv113 : -6000 ≤ v113 ∧ v113 ≤ 0 := by rw [ev113]; exact (m_98_38 hMh109)
          rcases q111 with ⟨rfl, q111⟩ | ⟨rfl, q111⟩
          · skip
            refine g_if_eq 138 dX12_clause_131 (by decide) (fun _ => by exfalso; omega) (fun q114 => ?_)
            refine g_aload_n dX12_clause_134 rfl ?_
            have q115 : h109 98 36 = v106 := ((hFh109 98 36 rfl).trans ev106.symm)
            have q116 : h109 98 38 = v113 := ev113.symm
            refine g_cVV (as := []) (c_X12_condition_98 _ _ h109 hMh109 (by omega) (by omega) (DZo.fr (T := [(123, 0)]) dz0 (Fr.sub hFh109 rfl) rfl)) dX12_clause_135 mi_X12_condition in_X12_condition se_X12_condition ml_X12_313 rfl rfl rfl sh_98 rfl rfl (Nat.le_of_ble_eq_true rfl) (fun h117 q118 => ?_)
            obtain ⟨hMh117, hFh117, zh117, yh117, wh117⟩ := q118
            obtain ⟨v119, ev119⟩ : ∃ z, z = h117 98 36 := ⟨_, rfl⟩
            have bv119 : 0 ≤ v119 ∧ v119 ≤ 200 := by rw [ev119]; exact (m_98_36 hMh117)
            have q120 : h117 98 37 = v2 := ((hFh117 98 37 rfl).trans ((hFh109 98 37 rfl).trans ((hFh104 98 37 rfl).trans ((hFh97 98 37 rfl).trans ((hFh96 98 37 rfl).trans ((hFh95 98 37 rfl).trans ((hFh94 98 37 rfl).trans ((hFh93 98 37 rfl).trans ev2.symm))))))))
            refine g_aload_n dX12_clause_138 rfl ?_
            have fY3 : ∀ j, h117 124 j = h 124 j := fun j => ((hFh117 124 j rfl).trans ((hFh109 124 j rfl).trans ((hFh104 124 j rfl).trans ((hFh97 124 j rfl).trans ((hFh96 124 j rfl).trans ((hFh95 124 j rfl).trans ((hFh94 124 j rfl).trans (hFh93 124 j rfl))))))))
            obtain ⟨v121, ev121⟩ : ∃ z, z = h117 98 40 := ⟨_, rfl⟩
            have bv121 : 0 ≤ v121 ∧ v121 ≤ 200 := by rw [ev121]; exact (m_98_40 hMh117)
            refine gR_X12_91 rfl dX12_clause_139 sh_98 (b := 124) (m_98_33 hMh117) ?_
            refine g_aload_n dX12_clause_142 rfl ?_
            refine gE_X12_310 rfl dX12_clause_143 sh_98 ((hFh117 98 39 rfl).trans ((hFh109 98 39 rfl).trans ((hFh104 98 39 rfl).trans ((hFh97 98 39 rfl).trans ((hFh96 98 39 rfl).trans ((hFh95 98 39 rfl).trans ((hFh94 98 39 rfl).trans ((hFh93 98 39 rfl).trans ev3.symm)))))))) ?_
            refine g_aload_n dX12_clause_146 rfl ?_
            refine gE_X12_224 rfl dX12_clause_147 sh_98 ev121.symm ?_
            refine g_iastB dX12_clause_150 sh_124 (by omega) (by omega) (fun h122 eh122 => ?_)
            have hFh122 := Fr.ar eh122
            have hMh122 := u_124 hMh117 eh122 (by omega) (by omega)
            refine g_aload_n dX12_clause_151 rfl ?_
            refine g_dup dX12_clause_152 rfl ?_
            refine gE_X12_310 rfl dX12_clause_153 sh_98 ((hFh122 98 39 rfl).trans ((hFh117 98 39 rfl).trans ((hFh109 98 39 rfl).trans ((hFh104 98 39 rfl).trans ((hFh97 98 39 rfl).trans ((hFh96 98 39 rfl).trans ((hFh95 98 39 rfl).trans ((hFh94 98 39 rfl).trans ((hFh93 98 39 rfl).trans ev3.symm))))))))) ?_
            refine g_iconst dX12_clause_156 (inR_c rfl) ?_
            refine g_iaddB dX12_clause_157 (by omega) (by omega) ?_
            refine pI_X12_310 rfl dX12_clause_158 sh_98 (fun h123 eh123 => ?_)
            have hFh123 := Fr.st eh123
            have hMh123 := u_98_39 hMh122 eh123 (by omega) (by omega)
            have q124 : h123 98 36 = v119 := ((hFh123 98 36 rfl).trans ((hFh122 98 36 rfl).trans ev119.symm))
            have q125 : h123 98 37 = v2 := ((hFh123 98 37 rfl).trans ((hFh122 98 37 rfl).trans ((hFh117 98 37 rfl).trans ((hFh109 98 37 rfl).trans ((hFh104 98 37 rfl).trans ((hFh97 98 37 rfl).trans ((hFh96 98 37 rfl).trans ((hFh95 98 37 rfl).trans ((hFh94 98 37 rfl).trans ((hFh93 98 37 rfl).trans ev2.symm))))))))))
            have q126 : h123 98 38 = h117 98 38 := ((hFh123 98 38 rfl).trans (hFh122 98 38 rfl))
            obtain ⟨v127, ev127⟩ : ∃ z, z = h123 98 38 := ⟨_, rfl⟩
            have bv127 : -6000 ≤ v127 ∧ v127 ≤ 0 := by rw [ev127]; exact (m_98_38 hMh123)
            have q128 : h123 98 40 = v121 := ((hFh123 98 40 rfl).trans ((hFh122 98 40 rfl).trans ev121.symm))
            have q129 : h123 98 39 = (v3 + 1) := (st_at eh123)
            have fX1 : ∀ j, h123 122 j = h94 122 j := fun j => ((hFh123 122 j rfl).trans ((hFh122 122 j rfl).trans ((hFh117 122 j rfl).trans ((hFh109 122 j rfl).trans ((hFh104 122 j rfl).trans ((hFh97 122 j rfl).trans ((hFh96 122 j rfl).trans (hFh95 122 j rfl))))))))
            have fX2 : ∀ j, h123 123 j = h109 123 j := fun j => ((hFh123 123 j rfl).trans ((hFh122 123 j rfl).trans (hFh117 123 j rfl)))
            have fX3 : ∀ j, h123 124 j = h122 124 j := fun j => (hFh123 124 j rfl)
            have bD : h123 98 38 = h117 98 38 := ((hFh123 98 38 rfl).trans (hFh122 98 38 rfl))
            have cD : h123 98 40 = h117 98 40 := ((hFh123 98 40 rfl).trans (hFh122 98 40 rfl))
            have nD : ∀ j, h123 125 j = h117 125 j := fun j => ((hFh123 125 j rfl).trans (hFh122 125 j rfl))
            have nw2 : NWo h123 := (by first | exact Or.inl (by omega) | exact NW_end nw eC0 fN0 (by assumption) (by omega) (by assumption) bD cD nD (by omega) (by omega) (by omega) (up_at (by assumption) fY1 fX1) (by omega) (by omega) (up_at (by assumption) fY2 fX2) (by omega) (up_at (by assumption) fY3 fX3) (by omega))
            exact g_return dX12_clause_161 rfl (hPo _ ⟨hMh123, (Fr.tr (Fr.tr (Fr.tr (Fr.tr (Fr.tr (Fr.tr (Fr.tr (Fr.tr (Fr.tr (Fr.sub hFh93 rfl) hFh94 rfl) hFh95 rfl) hFh96 rfl) hFh97 rfl) hFh104 rfl) hFh109 rfl) hFh117 rfl) hFh122 rfl) hFh123 rfl), nw2, (by omega), (by omega), (by omega)⟩)
          · skip
            refine g_if_eq 138 dX12_clause_131 (by decide) (fun q130 => ?_) (fun _ => by exfalso; omega)
            refine g_aload_n dX12_clause_138 rfl ?_
            have fY3 : ∀ j, h109 124 j = h 124 j := fun j => ((hFh109 124 j rfl).trans ((hFh104 124 j rfl).trans ((hFh97 124 j rfl).trans ((hFh96 124 j rfl).trans ((hFh95 124 j rfl).trans ((hFh94 124 j rfl).trans (hFh93 124 j rfl)))))))
            have q131 : h109 98 40 = v108 := ((hFh109 98 40 rfl).trans ev108.symm)
            refine gR_X12_91 rfl dX12_clause_139 sh_98 (b := 124) (m_98_33 hMh109) ?_
            refine g_aload_n dX12_clause_142 rfl ?_
            refine gE_X12_310 rfl dX12_clause_143 sh_98 ((hFh109 98 39 rfl).trans ((hFh104 98 39 rfl).trans ((hFh97 98 39 rfl).trans ((hFh96 98 39 rfl).trans ((hFh95 98 39 rfl).trans ((hFh94 98 39 rfl).trans ((hFh93 98 39 rfl).trans ev3.symm))))))) ?_
            refine g_aload_n dX12_clause_146 rfl ?_
            refine gE_X12_224 rfl dX12_clause_147 sh_98 ((hFh109 98 40 rfl).trans ev108.symm) ?_
            refine g_iastB dX12_clause_150 sh_124 (by omega) (by omega) (fun h132 eh132 => ?_)
            have hFh132 := Fr.ar eh132
            have hMh132 := u_124 hMh109 eh132 (by omega) (by omega)
            refine g_aload_n dX12_clause_151 rfl ?_
            refine g_dup dX12_clause_152 rfl ?_
            refine gE_X12_310 rfl dX12_clause_153 sh_98 ((hFh132 98 39 rfl).trans ((hFh109 98 39 rfl).trans ((hFh104 98 39 rfl).trans ((hFh97 98 39 rfl).trans ((hFh96 98 39 rfl).trans ((hFh95 98 39 rfl).trans ((hFh94 98 39 rfl).trans ((hFh93 98 39 rfl).trans ev3.symm)))))))) ?_
            refine g_iconst dX12_clause_156 (inR_c rfl) ?_
            refine g_iaddB dX12_clause_157 (by omega) (by omega) ?_
            refine pI_X12_310 rfl dX12_clause_158 sh_98 (fun h133 eh133 => ?_)
            have hFh133 := Fr.st eh133
            have hMh133 := u_98_39 hMh132 eh133 (by omega) (by omega)
            have q134 : h133 98 36 = v106 := ((hFh133 98 36 rfl).trans ((hFh132 98 36 rfl).trans ((hFh109 98 36 rfl).trans ev106.symm)))
            have q135 : h133 98 37 = v2 := ((hFh133 98 37 rfl).trans ((hFh132 98 37 rfl).trans ((hFh109 98 37 rfl).trans ((hFh104 98 37 rfl).trans ((hFh97 98 37 rfl).trans ((hFh96 98 37 rfl).trans ((hFh95 98 37 rfl).trans ((hFh94 98 37 rfl).trans ((hFh93 98 37 rfl).trans ev2.symm)))))))))
            have q136 : h133 98 38 = v113 := ((hFh133 98 38 rfl).trans ((hFh132 98 38 rfl).trans ev113.symm))
            have q137 : h133 98 40 = v108 := ((hFh133 98 40 rfl).trans ((hFh132 98 40 rfl).trans ((hFh109 98 40 rfl).trans ev108.symm)))
            have q138 : h133 98 39 = (v3 + 1) := (st_at eh133)
            have fX1 : ∀ j, h133 122 j = h94 122 j := fun j => ((hFh133 122 j rfl).trans ((hFh132 122 j rfl).trans ((hFh109 122 j rfl).trans ((hFh104 122 j rfl).trans ((hFh97 122 j rfl).trans ((hFh96 122 j rfl).trans (hFh95 122 j rfl)))))))
            have fX2 : ∀ j, h133 123 j = h109 123 j := fun j => ((hFh133 123 j rfl).trans (hFh132 123 j rfl))
            have fX3 : ∀ j, h133 124 j = h132 124 j := fun j => (hFh133 124 j rfl)
            have nw2 : NWo h133 := (by first | exact Or.inl (by omega) | exact NW_end nw eC0 fN0 (by assumption) (by omega) (by assumption) bD cD nD (by omega) (by omega) (by omega) (up_at (by assumption) fY1 fX1) (by omega) (by omega) (up_at (by assumption) fY2 fX2) (by omega) (up_at (by assumption) fY3 fX3) (by omega))
            exact g_return dX12_clause_161 rfl (hPo _ ⟨hMh133, (Fr.tr (Fr.tr (Fr.tr (Fr.tr (Fr.tr (Fr.tr (Fr.tr (Fr.tr (Fr.sub hFh93 rfl) hFh94 rfl) hFh95 rfl) hFh96 rfl) hFh97 rfl) hFh104 rfl) hFh109 rfl) hFh132 rfl) hFh133 rfl), nw2, (by omega), (by omega), (by omega)⟩)
        · skip
          exfalso; omega
      · skip
        refine g_aload_n dX12_clause_50 rfl ?_
        refine g_iconst dX12_clause_51 (inR_c rfl) ?_
        refine g_aload_n dX12_clause_52 rfl ?_
        refine gE_X12_211 rfl dX12_clause_53 sh_98 ev1.symm ?_
        refine g_cVV (as := [_, _]) (c_X12_wrongs_98 _ _ h hM (by omega) (by omega) (by omega) (by omega)) dX12_clause_56 mi_X12_wrongs in_X12_wrongs se_X12_wrongs ml_X12_233 rfl rfl rfl sh_98 rfl rfl (Nat.le_of_ble_eq_true rfl) (fun h139 q140 => ?_)
        obtain ⟨hMh139, hFh139, az141, bz141⟩ := q140
        obtain ⟨v142, ev142⟩ : ∃ z, z = h139 98 38 := ⟨_, rfl⟩
        have bv142 : -6000 ≤ v142 ∧ v142 ≤ -1 := by rw [ev142]; exact ⟨az141, bz141⟩
        refine g_aload_n dX12_clause_59 rfl ?_
        refine g_cVP (as := []) (c_X12_isGood_98  h139 hMh139) dX12_clause_60 mi_X12_isGood in_X12_isGood se_X12_isGood ml_X12_220 rfl rfl rfl sh_98 rfl rfl (Nat.le_of_ble_eq_true rfl) (fun v143 q144 => ?_)
        have q145 : h139 98 38 = v142 := ev142.symm
        rcases q144 with ⟨rfl, q144⟩ | ⟨rfl, q144⟩
        · skip
          exfalso; omega
        · skip
          refine g_if_ne 67 dX12_clause_63 (by decide) (fun _ => by exfalso; omega) (fun q146 => ?_)
          have q147 : h139 98 36 = v1 := ((hFh139 98 36 rfl).trans ev1.symm)
          have q148 : h139 98 37 = v2 := ((hFh139 98 37 rfl).trans ev2.symm)
          have q149 : h139 98 38 = v142 := ev142.symm
          have q150 : h139 98 40 = v4 := ((hFh139 98 40 rfl).trans ev4.symm)
          have q151 : h139 98 39 = v3 := ((hFh139 98 39 rfl).trans ev3.symm)
          have nw2 : NWo h139 := (by first | exact Or.inl (by omega) | exact NW_end nw eC0 fN0 (by assumption) (by omega) (by assumption) bD cD nD (by omega) (by omega) (by omega) (up_at (by assumption) fY1 fX1) (by omega) (by omega) (up_at (by assumption) fY2 fX2) (by omega) (up_at (by assumption) fY3 fX3) (by omega))
          exact g_return dX12_clause_66 rfl (hPo _ ⟨hMh139, (Fr.sub hFh139 rfl), nw2, (by omega), (by omega), (by omega)⟩)
    · skip
      refine g_iload_n dX12_clause_17 rfl (fun _ => ?_)
      refine g_bipush dX12_clause_18 (inR_c rfl) (by decide) ?_
      refine g_icmp_eq 41 dX12_clause_20 (by decide) (fun q152 => ?_) (fun q152 => ?_)
      · skip
        refine g_aload_n dX12_clause_41 rfl ?_
        refine gE_X12_310 rfl dX12_clause_42 sh_98 ev3.symm ?_
        refine g_bipush dX12_clause_45 (inR_c rfl) (by decide) ?_
        refine g_icmp_ne 59 dX12_clause_47 (by decide) (fun q153 => ?_) (fun q153 => ?_)
        · skip
          refine g_aload_n dX12_clause_59 rfl ?_
          refine g_cVP (as := []) (c_X12_isGood_98  h hM) dX12_clause_60 mi_X12_isGood in_X12_isGood se_X12_isGood ml_X12_220 rfl rfl rfl sh_98 rfl rfl (Nat.le_of_ble_eq_true rfl) (fun v154 q155 => ?_)
          have q156 : h 98 38 = w98_38 := ew98_38.symm
          rcases q155 with ⟨rfl, q155⟩ | ⟨rfl, q155⟩
          · skip
            refine g_if_ne 67 dX12_clause_63 (by decide) (fun q157 => ?_) (fun _ => by exfalso; omega)
            refine g_aload_n dX12_clause_67 rfl ?_
            have q158 : h 98 38 = w98_38 := ew98_38.symm
            have q159 : h 98 40 = v4 := ev4.symm
            have q160 : h 98 36 = v1 := ev1.symm
            have q161 : h 98 37 = v2 := ev2.symm
            have q162 : h 98 39 = v3 := ev3.symm
            have nw := f_NW.resolve_left (by omega)
            have nl := nw.lin
            refine gR_X12_82 rfl dX12_clause_68 sh_98 (b := 121) (m_98_30 hM) ?_
            refine g_aload_n dX12_clause_71 rfl ?_
            refine gE_X12_310 rfl dX12_clause_72 sh_98 ev3.symm ?_
            refine g_iload_n dX12_clause_75 rfl (fun _ => ?_)
            refine g_iastB dX12_clause_76 sh_121 (by omega) (by omega) (fun h163 eh163 => ?_)
            have hFh163 := Fr.ar eh163
            have hMh163 := u_121 hM eh163 (by omega) (by omega)
            refine g_aload_n dX12_clause_77 rfl ?_
            have fY1 : ∀ j, h163 122 j = h 122 j := fun j => (hFh163 122 j rfl)
            refine gR_X12_85 rfl dX12_clause_78 sh_98 (b := 122) (m_98_31 hMh163) ?_
            refine g_aload_n dX12_clause_81 rfl ?_
            refine gE_X12_310 rfl dX12_clause_82 sh_98 ((hFh163 98 39 rfl).trans ev3.symm) ?_
            refine g_aload_n dX12_clause_85 rfl ?_
            refine gE_X12_224 rfl dX12_clause_86 sh_98 ((hFh163 98 40 rfl).trans ev4.symm) ?_
            refine g_iastB dX12_clause_89 sh_122 (by omega) (by omega) (fun h164 eh164 => ?_)
            have hFh164 := Fr.ar eh164
            have hMh164 := u_122 hMh163 eh164 (by omega) (by omega)
            refine g_aload_n dX12_clause_90 rfl ?_
            refine g_dup dX12_clause_91 rfl ?_
            refine gE_X12_211 rfl dX12_clause_92 sh_98 ((hFh164 98 36 rfl).trans ((hFh163 98 36 rfl).trans ev1.symm)) ?_
            have a92 : 0 ≤ v1 ∧ v1 ≤ 199 := (by omega)
            refine g_iconst dX12_clause_95 (inR_c rfl) ?_
            refine g_iaddB dX12_clause_96 (by omega) (by omega) ?_
            refine pI_X12_211 rfl dX12_clause_97 sh_98 (fun h165 eh165 => ?_)
            have hFh165 := Fr.st eh165
            have hMh165 := u_98_36 hMh164 eh165 (by omega) (by omega)
            refine g_aload_n dX12_clause_100 rfl ?_
            refine g_iconst dX12_clause_101 (inR_c rfl) ?_
            refine pI_X12_227 rfl dX12_clause_102 sh_98 (fun h166 eh166 => ?_)
            have hFh166 := Fr.st eh166
            have hMh166 := u_98_42 hMh165 eh166 (by omega) (by omega)
            refine g_aload_n dX12_clause_105 rfl ?_
            refine g_iconst dX12_clause_106 (inR_c rfl) ?_
            refine pI_X12_230 rfl dX12_clause_107 sh_98 (fun h167 eh167 => ?_)
            have hFh167 := Fr.st eh167
            have hMh167 := u_98_41 hMh166 eh167 (by omega) (by omega)
            have eC0 : h167 98 40 = h 98 40 := ((hFh167 98 40 rfl).trans ((hFh166 98 40 rfl).trans ((hFh165 98 40 rfl).trans ((hFh164 98 40 rfl).trans (hFh163 98 40 rfl)))))
            have fN0 : ∀ j, h167 125 j = h 125 j := fun j => ((hFh167 125 j rfl).trans ((hFh166 125 j rfl).trans ((hFh165 125 j rfl).trans ((hFh164 125 j rfl).trans (hFh163 125 j rfl)))))
            have q168 : h167 98 36 = (v1 + 1) := ((hFh167 98 36 rfl).trans ((hFh166 98 36 rfl).trans (st_at eh165)))
            have q169 : h167 98 37 = v2 := ((hFh167 98 37 rfl).trans ((hFh166 98 37 rfl).trans ((hFh165 98 37 rfl).trans ((hFh164 98 37 rfl).trans ((hFh163 98 37 rfl).trans ev2.symm)))))
            have q170 : h167 98 42 = 0 := ((hFh167 98 42 rfl).trans (st_at eh166))
            have q171 : h167 98 40 = v4 := ((hFh167 98 40 rfl).trans ((hFh166 98 40 rfl).trans ((hFh165 98 40 rfl).trans ((hFh164 98 40 rfl).trans ((hFh163 98 40 rfl).trans ev4.symm)))))
            refine g_aload_n dX12_clause_110 rfl ?_
            have Ev0 : EVo (h167 98 40) (h167 125) 0 (h167 127) 0 h167 := E_start (by omega) (by omega) (by omega) (by omega)
            have q172 : h167 98 36 = (v1 + 1) := ((hFh167 98 36 rfl).trans ((hFh166 98 36 rfl).trans (st_at eh165)))
            have q173 : h167 98 38 = w98_38 := ((hFh167 98 38 rfl).trans ((hFh166 98 38 rfl).trans ((hFh165 98 38 rfl).trans ((hFh164 98 38 rfl).trans ((hFh163 98 38 rfl).trans ew98_38.symm)))))
            refine g_cVV (as := []) (c_X12_value_98 _ _ _ _ h167 hMh167 (by omega) (by omega) Ev0) dX12_clause_111 mi_X12_value in_X12_value se_X12_value ml_X12_289 rfl rfl rfl sh_98 rfl rfl (Nat.le_of_ble_eq_true rfl) (fun h174 q175 => ?_)
            obtain ⟨hMh174, hFh174, zh174, yh174, wh174⟩ := q175
            obtain ⟨v176, ev176⟩ : ∃ z, z = h174 98 36 := ⟨_, rfl⟩
            have bv176 : 0 ≤ v176 ∧ v176 ≤ 200 := by rw [ev176]; exact (m_98_36 hMh174)
            have q177 : h174 98 37 = v2 := ((hFh174 98 37 rfl).trans ((hFh167 98 37 rfl).trans ((hFh166 98 37 rfl).trans ((hFh165 98 37 rfl).trans ((hFh164 98 37 rfl).trans ((hFh163 98 37 rfl).trans ev2.symm))))))
            have dz0 : DZo (h174 98 40) (h174 125) h174 := DZ_mid (by assumption)
            refine g_aload_n dX12_clause_114 rfl ?_
            have fY2 : ∀ j, h174 123 j = h 123 j := fun j => ((hFh174 123 j rfl).trans ((hFh167 123 j rfl).trans ((hFh166 123 j rfl).trans ((hFh165 123 j rfl).trans ((hFh164 123 j rfl).trans (hFh163 123 j rfl))))))
            obtain ⟨v178, ev178⟩ : ∃ z, z = h174 98 40 := ⟨_, rfl⟩
            have bv178 : 0 ≤ v178 ∧ v178 ≤ 200 := by rw [ev178]; exact (m_98_40 hMh174)
            refine gR_X12_88 rfl dX12_clause_115 sh_98 (b := 123) (m_98_32 hMh174) ?_
            refine g_aload_n dX12_clause_118 rfl ?_
            refine gE_X12_310 rfl dX12_clause_119 sh_98 ((hFh174 98 39 rfl).trans ((hFh167 98 39 rfl).trans ((hFh166 98 39 rfl).trans ((hFh165 98 39 rfl).trans ((hFh164 98 39 rfl).trans ((hFh163 98 39 rfl).trans ev3.symm)))))) ?_
            refine g_aload_n dX12_clause_122 rfl ?_
            refine gE_X12_224 rfl dX12_clause_123 sh_98 ev178.symm ?_
            refine g_iastB dX12_clause_126 sh_123 (by omega) (by omega) (fun h179 eh179 => ?_)
            have hFh179 := Fr.ar eh179
            have hMh179 := u_123 hMh174 eh179 (by omega) (by omega)
            refine g_aload_n dX12_clause_127 rfl ?_
            refine g_cVP (as := []) (c_X12_isGood_98  h179 hMh179) dX12_clause_128 mi_X12_isGood in_X12_isGood se_X12_isGood ml_X12_220 rfl rfl rfl sh_98 rfl rfl (Nat.le_of_ble_eq_true rfl) (fun v180 q181 => ?_)
            have q182 : h179 98 38 = h174 98 38 := (hFh179 98 38 rfl)
            obtain ⟨v183, ev183⟩ : ∃ z, z = h179 98 38 := ⟨_, rfl⟩
            have bv183 : -6000 ≤ v183 ∧ v183 ≤ 0 := by rw [ev183]; exact (m_98_38 hMh179)
            rcases q181 with ⟨rfl, q181⟩ | ⟨rfl, q181⟩
            · skip
              refine g_if_eq 138 dX12_clause_131 (by decide) (fun _ => by exfalso; omega) (fun q184 => ?_)
              refine g_aload_n dX12_clause_134 rfl ?_
              have q185 : h179 98 36 = v176 := ((hFh179 98 36 rfl).trans ev176.symm)
              have q186 : h179 98 38 = v183 := ev183.symm
              refine g_cVV (as := []) (c_X12_condition_98 _ _ h179 hMh179 (by omega) (by omega) (DZo.fr (T := [(123, 0)]) dz0 (Fr.sub hFh179 rfl) rfl)) dX12_clause_135 mi_X12_condition in_X12_condition se_X12_condition ml_X12_313 rfl rfl rfl sh_98 rfl rfl (Nat.le_of_ble_eq_true rfl) (fun h187 q188 => ?_)
              obtain ⟨hMh187, hFh187, zh187, yh187, wh187⟩ := q188
              obtain ⟨v189, ev189⟩ : ∃ z, z = h187 98 36 := ⟨_, rfl⟩
              have bv189 : 0 ≤ v189 ∧ v189 ≤ 200 := by rw [ev189]; exact (m_98_36 hMh187)
              have q190 : h187 98 37 = v2 := ((hFh187 98 37 rfl).trans ((hFh179 98 37 rfl).trans ((hFh174 98 37 rfl).trans ((hFh167 98 37 rfl).trans ((hFh166 98 37 rfl).trans ((hFh165 98 37 rfl).trans ((hFh164 98 37 rfl).trans ((hFh163 98 37 rfl).trans ev2.symm))))))))
              refine g_aload_n dX12_clause_138 rfl ?_
              have fY3 : ∀ j, h187 124 j = h 124 j := fun j => ((hFh187 124 j rfl).trans ((hFh179 124 j rfl).trans ((hFh174 124 j rfl).trans ((hFh167 124 j rfl).trans ((hFh166 124 j rfl).trans ((hFh165 124 j rfl).trans ((hFh164 124 j rfl).trans (hFh163 124 j rfl))))))))
              obtain ⟨v191, ev191⟩ : ∃ z, z = h187 98 40 := ⟨_, rfl⟩
              have bv191 : 0 ≤ v191 ∧ v191 ≤ 200 := by rw [ev191]; exact (m_98_40 hMh187)
              refine gR_X12_91 rfl dX12_clause_139 sh_98 (b := 124) (m_98_33 hMh187) ?_
              refine g_aload_n dX12_clause_142 rfl ?_
              refine gE_X12_310 rfl dX12_clause_143 sh_98 ((hFh187 98 39 rfl).trans ((hFh179 98 39 rfl).trans ((hFh174 98 39 rfl).trans ((hFh167 98 39 rfl).trans ((hFh166 98 39 rfl).trans ((hFh165 98 39 rfl).trans ((hFh164 98 39 rfl).trans ((hFh163 98 39 rfl).trans ev3.symm)))))))) ?_
              refine g_aload_n dX12_clause_146 rfl ?_
              refine gE_X12_224 rfl dX12_clause_147 sh_98 ev191.symm ?_
              refine g_iastB dX12_clause_150 sh_124 (by omega) (by omega) (fun h192 eh192 => ?_)
              have hFh192 := Fr.ar eh192
              have hMh192 := u_124 hMh187 eh192 (by omega) (by omega)
              refine g_aload_n dX12_clause_151 rfl ?_
              refine g_dup dX12_clause_152 rfl ?_
              refine gE_X12_310 rfl dX12_clause_153 sh_98 ((hFh192 98 39 rfl).trans ((hFh187 98 39 rfl).trans ((hFh179 98 39 rfl).trans ((hFh174 98 39 rfl).trans ((hFh167 98 39 rfl).trans ((hFh166 98 39 rfl).trans ((hFh165 98 39 rfl).trans ((hFh164 98 39 rfl).trans ((hFh163 98 39 rfl).trans ev3.symm))))))))) ?_
              refine g_iconst dX12_clause_156 (inR_c rfl) ?_
              refine g_iaddB dX12_clause_157 (by omega) (by omega) ?_
              refine pI_X12_310 rfl dX12_clause_158 sh_98 (fun h193 eh193 => ?_)
              have hFh193 := Fr.st eh193
              have hMh193 := u_98_39 hMh192 eh193 (by omega) (by omega)
              have q194 : h193 98 36 = v189 := ((hFh193 98 36 rfl).trans ((hFh192 98 36 rfl).trans ev189.symm))
              have q195 : h193 98 37 = v2 := ((hFh193 98 37 rfl).trans ((hFh192 98 37 rfl).trans ((hFh187 98 37 rfl).trans ((hFh179 98 37 rfl).trans ((hFh174 98 37 rfl).trans ((hFh167 98 37 rfl).trans ((hFh166 98 37 rfl).trans ((hFh165 98 37 rfl).trans ((hFh164 98 37 rfl).trans ((hFh163 98 37 rfl).trans ev2.symm))))))))))
              have q196 : h193 98 38 = h187 98 38 := ((hFh193 98 38 rfl).trans (hFh192 98 38 rfl))
              obtain ⟨v197, ev197⟩ : ∃ z, z = h193 98 38 := ⟨_, rfl⟩
              have bv197 : -6000 ≤ v197 ∧ v197 ≤ 0 := by rw [ev197]; exact (m_98_38 hMh193)
              have q198 : h193 98 40 = v191 := ((hFh193 98 40 rfl).trans ((hFh192 98 40 rfl).trans ev191.symm))
              have q199 : h193 98 39 = (v3 + 1) := (st_at eh193)
              have fX1 : ∀ j, h193 122 j = h164 122 j := fun j => ((hFh193 122 j rfl).trans ((hFh192 122 j rfl).trans ((hFh187 122 j rfl).trans ((hFh179 122 j rfl).trans ((hFh174 122 j rfl).trans ((hFh167 122 j rfl).trans ((hFh166 122 j rfl).trans (hFh165 122 j rfl))))))))
              have fX2 : ∀ j, h193 123 j = h179 123 j := fun j => ((hFh193 123 j rfl).trans ((hFh192 123 j rfl).trans (hFh187 123 j rfl)))
              have fX3 : ∀ j, h193 124 j = h192 124 j := fun j => (hFh193 124 j rfl)
              have bD : h193 98 38 = h187 98 38 := ((hFh193 98 38 rfl).trans (hFh192 98 38 rfl))
              have cD : h193 98 40 = h187 98 40 := ((hFh193 98 40 rfl).trans (hFh192 98 40 rfl))
              have nD : ∀ j, h193 125 j = h187 125 j := fun j => ((hFh193 125 j rfl).trans (hFh192 125 j rfl))
              have nw2 : NWo h193 := (by first | exact Or.inl (by omega) | exact NW_end nw eC0 fN0 (by assumption) (by omega) (by assumption) bD cD nD (by omega) (by omega) (by omega) (up_at (by assumption) fY1 fX1) (by omega) (by omega) (up_at (by assumption) fY2 fX2) (by omega) (up_at (by assumption) fY3 fX3) (by omega))
              exact g_return dX12_clause_161 rfl (hPo _ ⟨hMh193, (Fr.tr (Fr.tr (Fr.tr (Fr.tr (Fr.tr (Fr.tr (Fr.tr (Fr.tr (Fr.tr (Fr.sub hFh163 rfl) hFh164 rfl) hFh165 rfl) hFh166 rfl) hFh167 rfl) hFh174 rfl) hFh179 rfl) hFh187 rfl) hFh192 rfl) hFh193 rfl), nw2, (by omega), (by omega), (by omega)⟩)
            · skip
              refine g_if_eq 138 dX12_clause_131 (by decide) (fun q200 => ?_) (fun _ => by exfalso; omega)
              refine g_aload_n dX12_clause_138 rfl ?_
              have fY3 : ∀ j, h179 124 j = h 124 j := fun j => ((hFh179 124 j rfl).trans ((hFh174 124 j rfl).trans ((hFh167 124 j rfl).trans ((hFh166 124 j rfl).trans ((hFh165 124 j rfl).trans ((hFh164 124 j rfl).trans (hFh163 124 j rfl)))))))
              have q201 : h179 98 40 = v178 := ((hFh179 98 40 rfl).trans ev178.symm)
              refine gR_X12_91 rfl dX12_clause_139 sh_98 (b := 124) (m_98_33 hMh179) ?_
              refine g_aload_n dX12_clause_142 rfl ?_
              refine gE_X12_310 rfl dX12_clause_143 sh_98 ((hFh179 98 39 rfl).trans ((hFh174 98 39 rfl).trans ((hFh167 98 39 rfl).trans ((hFh166 98 39 rfl).trans ((hFh165 98 39 rfl).trans ((hFh164 98 39 rfl).trans ((hFh163 98 39 rfl).trans ev3.symm))))))) ?_
              refine g_aload_n dX12_clause_146 rfl ?_
              refine gE_X12_224 rfl dX12_clause_147 sh_98 ((hFh179 98 40 rfl).trans ev178.symm) ?_
              refine g_iastB dX12_clause_150 sh_124 (by omega) (by omega) (fun h202 eh202 => ?_)
              have hFh202 := Fr.ar eh202
              have hMh202 := u_124 hMh179 eh202 (by omega) (by omega)
              refine g_aload_n dX12_clause_151 rfl ?_
              refine g_dup dX12_clause_152 rfl ?_
              refine gE_X12_310 rfl dX12_clause_153 sh_98 ((hFh202 98 39 rfl).trans ((hFh179 98 39 rfl).trans ((hFh174 98 39 rfl).trans ((hFh167 98 39 rfl).trans ((hFh166 98 39 rfl).trans ((hFh165 98 39 rfl).trans ((hFh164 98 39 rfl).trans ((hFh163 98 39 rfl).trans ev3.symm)))))))) ?_
              refine g_iconst dX12_clause_156 (inR_c rfl) ?_
              refine g_iaddB dX12_clause_157 (by omega) (by omega) ?_
              refine pI_X12_310 rfl dX12_clause_158 sh_98 (fun h203 eh203 => ?_)
              have hFh203 := Fr.st eh203
              have hMh203 := u_98_39 hMh202 eh203 (by omega) (by omega)
              have q204 : h203 98 36 = v176 := ((hFh203 98 36 rfl).trans ((hFh202 98 36 rfl).trans ((hFh179 98 36 rfl).trans ev176.symm)))
              have q205 : h203 98 37 = v2 := ((hFh203 98 37 rfl).trans ((hFh202 98 37 rfl).trans ((hFh179 98 37 rfl).trans ((hFh174 98 37 rfl).trans ((hFh167 98 37 rfl).trans ((hFh166 98 37 rfl).trans ((hFh165 98 37 rfl).trans ((hFh164 98 37 rfl).trans ((hFh163 98 37 rfl).trans ev2.symm)))))))))
              have q206 : h203 98 38 = v183 := ((hFh203 98 38 rfl).trans ((hFh202 98 38 rfl).trans ev183.symm))
              have q207 : h203 98 40 = v178 := ((hFh203 98 40 rfl).trans ((hFh202 98 40 rfl).trans ((hFh179 98 40 rfl).trans ev178.symm)))
              have q208 : h203 98 39 = (v3 + 1) := (st_at eh203)
              have fX1 : ∀ j, h203 122 j = h164 122 j := fun j => ((hFh203 122 j rfl).trans ((hFh202 122 j rfl).trans ((hFh179 122 j rfl).trans ((hFh174 122 j rfl).trans ((hFh167 122 j rfl).trans ((hFh166 122 j rfl).trans (hFh165 122 j rfl)))))))
              have fX2 : ∀ j, h203 123 j = h179 123 j := fun j => ((hFh203 123 j rfl).trans (hFh202 123 j rfl))
              have fX3 : ∀ j, h203 124 j = h202 124 j := fun j => (hFh203 124 j rfl)
              have nw2 : NWo h203 := (by first | exact Or.inl (by omega) | exact NW_end nw eC0 fN0 (by assumption) (by omega) (by assumption) bD cD nD (by omega) (by omega) (by omega) (up_at (by assumption) fY1 fX1) (by omega) (by omega) (up_at (by assumption) fY2 fX2) (by omega) (up_at (by assumption) fY3 fX3) (by omega))
              exact g_return dX12_clause_161 rfl (hPo _ ⟨hMh203, (Fr.tr (Fr.tr (Fr.tr (Fr.tr (Fr.tr (Fr.tr (Fr.tr (Fr.tr (Fr.sub hFh163 rfl) hFh164 rfl) hFh165 rfl) hFh166 rfl) hFh167 rfl) hFh174 rfl) hFh179 rfl) hFh202 rfl) hFh203 rfl), nw2, (by omega), (by omega), (by omega)⟩)
          · skip
            exfalso; omega
        · skip
          refine g_aload_n dX12_clause_50 rfl ?_
          refine g_iconst dX12_clause_51 (inR_c rfl) ?_
          refine g_aload_n dX12_clause_52 rfl ?_
          refine gE_X12_211 rfl dX12_clause_53 sh_98 ev1.symm ?_
          refine g_cVV (as := [_, _]) (c_X12_wrongs_98 _ _ h hM (by omega) (by omega) (by omega) (by omega)) dX12_clause_56 mi_X12_wrongs in_X12_wrongs se_X12_wrongs ml_X12_233 rfl rfl rfl sh_98 rfl rfl (Nat.le_of_ble_eq_true rfl) (fun h209 q210 => ?_)
          obtain ⟨hMh209, hFh209, az211, bz211⟩ := q210
          obtain ⟨v212, ev212⟩ : ∃ z, z = h209 98 38 := ⟨_, rfl⟩
          have bv212 : -6000 ≤ v212 ∧ v212 ≤ -1 := by rw [ev212]; exact ⟨az211, bz211⟩
          refine g_aload_n dX12_clause_59 rfl ?_
          refine g_cVP (as := []) (c_X12_isGood_98  h209 hMh209) dX12_clause_60 mi_X12_isGood in_X12_isGood se_X12_isGood ml_X12_220 rfl rfl rfl sh_98 rfl rfl (Nat.le_of_ble_eq_true rfl) (fun v213 q214 => ?_)
          have q215 : h209 98 38 = v212 := ev212.symm
          rcases q214 with ⟨rfl, q214⟩ | ⟨rfl, q214⟩
          · skip
            exfalso; omega
          · skip
            refine g_if_ne 67 dX12_clause_63 (by decide) (fun _ => by exfalso; omega) (fun q216 => ?_)
            have q217 : h209 98 36 = v1 := ((hFh209 98 36 rfl).trans ev1.symm)
            have q218 : h209 98 37 = v2 := ((hFh209 98 37 rfl).trans ev2.symm)
            have q219 : h209 98 38 = v212 := ev212.symm
            have q220 : h209 98 40 = v4 := ((hFh209 98 40 rfl).trans ev4.symm)
            have q221 : h209 98 39 = v3 := ((hFh209 98 39 rfl).trans ev3.symm)
            have nw2 : NWo h209 := (by first | exact Or.inl (by omega) | exact NW_end nw eC0 fN0 (by assumption) (by omega) (by assumption) bD cD nD (by omega) (by omega) (by omega) (up_at (by assumption) fY1 fX1) (by omega) (by omega) (up_at (by assumption) fY2 fX2) (by omega) (up_at (by assumption) fY3 fX3) (by omega))
            exact g_return dX12_clause_66 rfl (hPo _ ⟨hMh209, (Fr.sub hFh209 rfl), nw2, (by omega), (by omega), (by omega)⟩)
      · skip
        refine g_iload_n dX12_clause_23 rfl (fun _ => ?_)
        refine g_bipush dX12_clause_24 (inR_c rfl) (by decide) ?_
        refine g_icmp_eq 41 dX12_clause_26 (by decide) (fun q222 => ?_) (fun q222 => ?_)
        · skip
          refine g_aload_n dX12_clause_41 rfl ?_
          refine gE_X12_310 rfl dX12_clause_42 sh_98 ev3.symm ?_
          refine g_bipush dX12_clause_45 (inR_c rfl) (by decide) ?_
          refine g_icmp_ne 59 dX12_clause_47 (by decide) (fun q223 => ?_) (fun q223 => ?_)
          · skip
            refine g_aload_n dX12_clause_59 rfl ?_
            refine g_cVP (as := []) (c_X12_isGood_98  h hM) dX12_clause_60 mi_X12_isGood in_X12_isGood se_X12_isGood ml_X12_220 rfl rfl rfl sh_98 rfl rfl (Nat.le_of_ble_eq_true rfl) (fun v224 q225 => ?_)
            have q226 : h 98 38 = w98_38 := ew98_38.symm
            rcases q225 with ⟨rfl, q225⟩ | ⟨rfl, q225⟩
            · skip
              refine g_if_ne 67 dX12_clause_63 (by decide) (fun q227 => ?_) (fun _ => by exfalso; omega)
              refine g_aload_n dX12_clause_67 rfl ?_
              have q228 : h 98 38 = w98_38 := ew98_38.symm
              have q229 : h 98 40 = v4 := ev4.symm
              have q230 : h 98 36 = v1 := ev1.symm
              have q231 : h 98 37 = v2 := ev2.symm
              have q232 : h 98 39 = v3 := ev3.symm
              have nw := f_NW.resolve_left (by omega)
              have nl := nw.lin
              refine gR_X12_82 rfl dX12_clause_68 sh_98 (b := 121) (m_98_30 hM) ?_
              refine g_aload_n dX12_clause_71 rfl ?_
              refine gE_X12_310 rfl dX12_clause_72 sh_98 ev3.symm ?_
              refine g_iload_n dX12_clause_75 rfl (fun _ => ?_)
              refine g_iastB dX12_clause_76 sh_121 (by omega) (by omega) (fun h233 eh233 => ?_)
              have hFh233 := Fr.ar eh233
              have hMh233 := u_121 hM eh233 (by omega) (by omega)
              refine g_aload_n dX12_clause_77 rfl ?_
              have fY1 : ∀ j, h233 122 j = h 122 j := fun j => (hFh233 122 j rfl)
              refine gR_X12_85 rfl dX12_clause_78 sh_98 (b := 122) (m_98_31 hMh233) ?_
              refine g_aload_n dX12_clause_81 rfl ?_
              refine gE_X12_310 rfl dX12_clause_82 sh_98 ((hFh233 98 39 rfl).trans ev3.symm) ?_
              refine g_aload_n dX12_clause_85 rfl ?_
              refine gE_X12_224 rfl dX12_clause_86 sh_98 ((hFh233 98 40 rfl).trans ev4.symm) ?_
              refine g_iastB dX12_clause_89 sh_122 (by omega) (by omega) (fun h234 eh234 => ?_)
              have hFh234 := Fr.ar eh234
              have hMh234 := u_122 hMh233 eh234 (by omega) (by omega)
              refine g_aload_n dX12_clause_90 rfl ?_
              refine g_dup dX12_clause_91 rfl ?_
              refine gE_X12_211 rfl dX12_clause_92 sh_98 ((hFh234 98 36 rfl).trans ((hFh233 98 36 rfl).trans ev1.symm)) ?_
              have a92 : 0 ≤ v1 ∧ v1 ≤ 199 := (by omega)
              refine g_iconst dX12_clause_95 (inR_c rfl) ?_
              refine g_iaddB dX12_clause_96 (by omega) (by omega) ?_
              refine pI_X12_211 rfl dX12_clause_97 sh_98 (fun h235 eh235 => ?_)
              have hFh235 := Fr.st eh235
              have hMh235 := u_98_36 hMh234 eh235 (by omega) (by omega)
              refine g_aload_n dX12_clause_100 rfl ?_
              refine g_iconst dX12_clause_101 (inR_c rfl) ?_
              refine pI_X12_227 rfl dX12_clause_102 sh_98 (fun h236 eh236 => ?_)
              have hFh236 := Fr.st eh236
              have hMh236 := u_98_42 hMh235 eh236 (by omega) (by omega)
              refine g_aload_n dX12_clause_105 rfl ?_
              refine g_iconst dX12_clause_106 (inR_c rfl) ?_
              refine pI_X12_230 rfl dX12_clause_107 sh_98 (fun h237 eh237 => ?_)
              have hFh237 := Fr.st eh237
              have hMh237 := u_98_41 hMh236 eh237 (by omega) (by omega)
              have eC0 : h237 98 40 = h 98 40 := ((hFh237 98 40 rfl).trans ((hFh236 98 40 rfl).trans ((hFh235 98 40 rfl).trans ((hFh234 98 40 rfl).trans (hFh233 98 40 rfl)))))
              have fN0 : ∀ j, h237 125 j = h 125 j := fun j => ((hFh237 125 j rfl).trans ((hFh236 125 j rfl).trans ((hFh235 125 j rfl).trans ((hFh234 125 j rfl).trans (hFh233 125 j rfl)))))
              have q238 : h237 98 36 = (v1 + 1) := ((hFh237 98 36 rfl).trans ((hFh236 98 36 rfl).trans (st_at eh235)))
              have q239 : h237 98 37 = v2 := ((hFh237 98 37 rfl).trans ((hFh236 98 37 rfl).trans ((hFh235 98 37 rfl).trans ((hFh234 98 37 rfl).trans ((hFh233 98 37 rfl).trans ev2.symm)))))
              have q240 : h237 98 42 = 0 := ((hFh237 98 42 rfl).trans (st_at eh236))
              have q241 : h237 98 40 = v4 := ((hFh237 98 40 rfl).trans ((hFh236 98 40 rfl).trans ((hFh235 98 40 rfl).trans ((hFh234 98 40 rfl).trans ((hFh233 98 40 rfl).trans ev4.symm)))))
              refine g_aload_n dX12_clause_110 rfl ?_
              have Ev0 : EVo (h237 98 40) (h237 125) 0 (h237 127) 0 h237 := E_start (by omega) (by omega) (by omega) (by omega)
              have q242 : h237 98 36 = (v1 + 1) := ((hFh237 98 36 rfl).trans ((hFh236 98 36 rfl).trans (st_at eh235)))
              have q243 : h237 98 38 = w98_38 := ((hFh237 98 38 rfl).trans ((hFh236 98 38 rfl).trans ((hFh235 98 38 rfl).trans ((hFh234 98 38 rfl).trans ((hFh233 98 38 rfl).trans ew98_38.symm)))))
              refine g_cVV (as := []) (c_X12_value_98 _ _ _ _ h237 hMh237 (by omega) (by omega) Ev0) dX12_clause_111 mi_X12_value in_X12_value se_X12_value ml_X12_289 rfl rfl rfl sh_98 rfl rfl (Nat.le_of_ble_eq_true rfl) (fun h244 q245 => ?_)
              obtain ⟨hMh244, hFh244, zh244, yh244, wh244⟩ := q245
              obtain ⟨v246, ev246⟩ : ∃ z, z = h244 98 36 := ⟨_, rfl⟩
              have bv246 : 0 ≤ v246 ∧ v246 ≤ 200 := by rw [ev246]; exact (m_98_36 hMh244)
              have q247 : h244 98 37 = v2 := ((hFh244 98 37 rfl).trans ((hFh237 98 37 rfl).trans ((hFh236 98 37 rfl).trans ((hFh235 98 37 rfl).trans ((hFh234 98 37 rfl).trans ((hFh233 98 37 rfl).trans ev2.symm))))))
              have dz0 : DZo (h244 98 40) (h244 125) h244 := DZ_mid (by assumption)
              refine g_aload_n dX12_clause_114 rfl ?_
              have fY2 : ∀ j, h244 123 j = h 123 j := fun j => ((hFh244 123 j rfl).trans ((hFh237 123 j rfl).trans ((hFh236 123 j rfl).trans ((hFh235 123 j rfl).trans ((hFh234 123 j rfl).trans (hFh233 123 j rfl))))))
              obtain ⟨v248, ev248⟩ : ∃ z, z = h244 98 40 := ⟨_, rfl⟩
              have bv248 : 0 ≤ v248 ∧ v248 ≤ 200 := by rw [ev248]; exact (m_98_40 hMh244)
              refine gR_X12_88 rfl dX12_clause_115 sh_98 (b := 123) (m_98_32 hMh244) ?_
              refine g_aload_n dX12_clause_118 rfl ?_
              refine gE_X12_310 rfl dX12_clause_119 sh_98 ((hFh244 98 39 rfl).trans ((hFh237 98 39 rfl).trans ((hFh236 98 39 rfl).trans ((hFh235 98 39 rfl).trans ((hFh234 98 39 rfl).trans ((hFh233 98 39 rfl).trans ev3.symm)))))) ?_
              refine g_aload_n dX12_clause_122 rfl ?_
              refine gE_X12_224 rfl dX12_clause_123 sh_98 ev248.symm ?_
              refine g_iastB dX12_clause_126 sh_123 (by omega) (by omega) (fun h249 eh249 => ?_)
              have hFh249 := Fr.ar eh249
              have hMh249 := u_123 hMh244 eh249 (by omega) (by omega)
              refine g_aload_n dX12_clause_127 rfl ?_
              refine g_cVP (as := []) (c_X12_isGood_98  h249 hMh249) dX12_clause_128 mi_X12_isGood in_X12_isGood se_X12_isGood ml_X12_220 rfl rfl rfl sh_98 rfl rfl (Nat.le_of_ble_eq_true rfl) (fun v250 q251 => ?_)
              have q252 : h249 98 38 = h244 98 38 := (hFh249 98 38 rfl)
              obtain ⟨v253, ev253⟩ : ∃ z, z = h249 98 38 := ⟨_, rfl⟩
              have bv253 : -6000 ≤ v253 ∧ v253 ≤ 0 := by rw [ev253]; exact (m_98_38 hMh249)
              rcases q251 with ⟨rfl, q251⟩ | ⟨rfl, q251⟩
              · skip
                refine g_if_eq 138 dX12_clause_131 (by decide) (fun _ => by exfalso; omega) (fun q254 => ?_)
                refine g_aload_n dX12_clause_134 rfl ?_
                have q255 : h249 98 36 = v246 := ((hFh249 98 36 rfl).trans ev246.symm)
                have q256 : h249 98 38 = v253 := ev253.symm
                refine g_cVV (as := []) (c_X12_condition_98 _ _ h249 hMh249 (by omega) (by omega) (DZo.fr (T := [(123, 0)]) dz0 (Fr.sub hFh249 rfl) rfl)) dX12_clause_135 mi_X12_condition in_X12_condition se_X12_condition ml_X12_313 rfl rfl rfl sh_98 rfl rfl (Nat.le_of_ble_eq_true rfl) (fun h257 q258 => ?_)
                obtain ⟨hMh257, hFh257, zh257, yh257, wh257⟩ := q258
                obtain ⟨v259, ev259⟩ : ∃ z, z = h257 98 36 := ⟨_, rfl⟩
                have bv259 : 0 ≤ v259 ∧ v259 ≤ 200 := by rw [ev259]; exact (m_98_36 hMh257)
                have q260 : h257 98 37 = v2 := ((hFh257 98 37 rfl).trans ((hFh249 98 37 rfl).trans ((hFh244 98 37 rfl).trans ((hFh237 98 37 rfl).trans ((hFh236 98 37 rfl).trans ((hFh235 98 37 rfl).trans ((hFh234 98 37 rfl).trans ((hFh233 98 37 rfl).trans ev2.symm))))))))
                refine g_aload_n dX12_clause_138 rfl ?_
                have fY3 : ∀ j, h257 124 j = h 124 j := fun j => ((hFh257 124 j rfl).trans ((hFh249 124 j rfl).trans ((hFh244 124 j rfl).trans ((hFh237 124 j rfl).trans ((hFh236 124 j rfl).trans ((hFh235 124 j rfl).trans ((hFh234 124 j rfl).trans (hFh233 124 j rfl))))))))
                obtain ⟨v261, ev261⟩ : ∃ z, z = h257 98 40 := ⟨_, rfl⟩
                have bv261 : 0 ≤ v261 ∧ v261 ≤ 200 := by rw [ev261]; exact (m_98_40 hMh257)
                refine gR_X12_91 rfl dX12_clause_139 sh_98 (b := 124) (m_98_33 hMh257) ?_
                refine g_aload_n dX12_clause_142 rfl ?_
                refine gE_X12_310 rfl dX12_clause_143 sh_98 ((hFh257 98 39 rfl).trans ((hFh249 98 39 rfl).trans ((hFh244 98 39 rfl).trans ((hFh237 98 39 rfl).trans ((hFh236 98 39 rfl).trans ((hFh235 98 39 rfl).trans ((hFh234 98 39 rfl).trans ((hFh233 98 39 rfl).trans ev3.symm)))))))) ?_
                refine g_aload_n dX12_clause_146 rfl ?_
                refine gE_X12_224 rfl dX12_clause_147 sh_98 ev261.symm ?_
                refine g_iastB dX12_clause_150 sh_124 (by omega) (by omega) (fun h262 eh262 => ?_)
                have hFh262 := Fr.ar eh262
                have hMh262 := u_124 hMh257 eh262 (by omega) (by omega)
                refine g_aload_n dX12_clause_151 rfl ?_
                refine g_dup dX12_clause_152 rfl ?_
                refine gE_X12_310 rfl dX12_clause_153 sh_98 ((hFh262 98 39 rfl).trans ((hFh257 98 39 rfl).trans ((hFh249 98 39 rfl).trans ((hFh244 98 39 rfl).trans ((hFh237 98 39 rfl).trans ((hFh236 98 39 rfl).trans ((hFh235 98 39 rfl).trans ((hFh234 98 39 rfl).trans ((hFh233 98 39 rfl).trans ev3.symm))))))))) ?_
                refine g_iconst dX12_clause_156 (inR_c rfl) ?_
                refine g_iaddB dX12_clause_157 (by omega) (by omega) ?_
                refine pI_X12_310 rfl dX12_clause_158 sh_98 (fun h263 eh263 => ?_)
                have hFh263 := Fr.st eh263
                have hMh263 := u_98_39 hMh262 eh263 (by omega) (by omega)
                have q264 : h263 98 36 = v259 := ((hFh263 98 36 rfl).trans ((hFh262 98 36 rfl).trans ev259.symm))
                have q265 : h263 98 37 = v2 := ((hFh263 98 37 rfl).trans ((hFh262 98 37 rfl).trans ((hFh257 98 37 rfl).trans ((hFh249 98 37 rfl).trans ((hFh244 98 37 rfl).trans ((hFh237 98 37 rfl).trans ((hFh236 98 37 rfl).trans ((hFh235 98 37 rfl).trans ((hFh234 98 37 rfl).trans ((hFh233 98 37 rfl).trans ev2.symm))))))))))
                have q266 : h263 98 38 = h257 98 38 := ((hFh263 98 38 rfl).trans (hFh262 98 38 rfl))
                obtain ⟨v267, ev267⟩ : ∃ z, z = h263 98 38 := ⟨_, rfl⟩
                have bv267 : -6000 ≤ v267 ∧ v267 ≤ 0 := by rw [ev267]; exact (m_98_38 hMh263)
                have q268 : h263 98 40 = v261 := ((hFh263 98 40 rfl).trans ((hFh262 98 40 rfl).trans ev261.symm))
                have q269 : h263 98 39 = (v3 + 1) := (st_at eh263)
                have fX1 : ∀ j, h263 122 j = h234 122 j := fun j => ((hFh263 122 j rfl).trans ((hFh262 122 j rfl).trans ((hFh257 122 j rfl).trans ((hFh249 122 j rfl).trans ((hFh244 122 j rfl).trans ((hFh237 122 j rfl).trans ((hFh236 122 j rfl).trans (hFh235 122 j rfl))))))))
                have fX2 : ∀ j, h263 123 j = h249 123 j := fun j => ((hFh263 123 j rfl).trans ((hFh262 123 j rfl).trans (hFh257 123 j rfl)))
                have fX3 : ∀ j, h263 124 j = h262 124 j := fun j => (hFh263 124 j rfl)
                have bD : h263 98 38 = h257 98 38 := ((hFh263 98 38 rfl).trans (hFh262 98 38 rfl))
                have cD : h263 98 40 = h257 98 40 := ((hFh263 98 40 rfl).trans (hFh262 98 40 rfl))
                have nD : ∀ j, h263 125 j = h257 125 j := fun j => ((hFh263 125 j rfl).trans (hFh262 125 j rfl))
                have nw2 : NWo h263 := (by first | exact Or.inl (by omega) | exact NW_end nw eC0 fN0 (by assumption) (by omega) (by assumption) bD cD nD (by omega) (by omega) (by omega) (up_at (by assumption) fY1 fX1) (by omega) (by omega) (up_at (by assumption) fY2 fX2) (by omega) (up_at (by assumption) fY3 fX3) (by omega))
                exact g_return dX12_clause_161 rfl (hPo _ ⟨hMh263, (Fr.tr (Fr.tr (Fr.tr (Fr.tr (Fr.tr (Fr.tr (Fr.tr (Fr.tr (Fr.tr (Fr.sub hFh233 rfl) hFh234 rfl) hFh235 rfl) hFh236 rfl) hFh237 rfl) hFh244 rfl) hFh249 rfl) hFh257 rfl) hFh262 rfl) hFh263 rfl), nw2, (by omega), (by omega), (by omega)⟩)
              · skip
                refine g_if_eq 138 dX12_clause_131 (by decide) (fun q270 => ?_) (fun _ => by exfalso; omega)
                refine g_aload_n dX12_clause_138 rfl ?_
                have fY3 : ∀ j, h249 124 j = h 124 j := fun j => ((hFh249 124 j rfl).trans ((hFh244 124 j rfl).trans ((hFh237 124 j rfl).trans ((hFh236 124 j rfl).trans ((hFh235 124 j rfl).trans ((hFh234 124 j rfl).trans (hFh233 124 j rfl)))))))
                have q271 : h249 98 40 = v248 := ((hFh249 98 40 rfl).trans ev248.symm)
                refine gR_X12_91 rfl dX12_clause_139 sh_98 (b := 124) (m_98_33 hMh249) ?_
                refine g_aload_n dX12_clause_142 rfl ?_
                refine gE_X12_310 rfl dX12_clause_143 sh_98 ((hFh249 98 39 rfl).trans ((hFh244 98 39 rfl).trans ((hFh237 98 39 rfl).trans ((hFh236 98 39 rfl).trans ((hFh235 98 39 rfl).trans ((hFh234 98 39 rfl).trans ((hFh233 98 39 rfl).trans ev3.symm))))))) ?_
                refine g_aload_n dX12_clause_146 rfl ?_
                refine gE_X12_224 rfl dX12_clause_147 sh_98 ((hFh249 98 40 rfl).trans ev248.symm) ?_
                refine g_iastB dX12_clause_150 sh_124 (by omega) (by omega) (fun h272 eh272 => ?_)
                have hFh272 := Fr.ar eh272
                have hMh272 := u_124 hMh249 eh272 (by omega) (by omega)
                refine g_aload_n dX12_clause_151 rfl ?_
                refine g_dup dX12_clause_152 rfl ?_
                refine gE_X12_310 rfl dX12_clause_153 sh_98 ((hFh272 98 39 rfl).trans ((hFh249 98 39 rfl).trans ((hFh244 98 39 rfl).trans ((hFh237 98 39 rfl).trans ((hFh236 98 39 rfl).trans ((hFh235 98 39 rfl).trans ((hFh234 98 39 rfl).trans ((hFh233 98 39 rfl).trans ev3.symm)))))))) ?_
                refine g_iconst dX12_clause_156 (inR_c rfl) ?_
                refine g_iaddB dX12_clause_157 (by omega) (by omega) ?_
                refine pI_X12_310 rfl dX12_clause_158 sh_98 (fun h273 eh273 => ?_)
                have hFh273 := Fr.st eh273
                have hMh273 := u_98_39 hMh272 eh273 (by omega) (by omega)
                have q274 : h273 98 36 = v246 := ((hFh273 98 36 rfl).trans ((hFh272 98 36 rfl).trans ((hFh249 98 36 rfl).trans ev246.symm)))
                have q275 : h273 98 37 = v2 := ((hFh273 98 37 rfl).trans ((hFh272 98 37 rfl).trans ((hFh249 98 37 rfl).trans ((hFh244 98 37 rfl).trans ((hFh237 98 37 rfl).trans ((hFh236 98 37 rfl).trans ((hFh235 98 37 rfl).trans ((hFh234 98 37 rfl).trans ((hFh233 98 37 rfl).trans ev2.symm)))))))))
                have q276 : h273 98 38 = v253 := ((hFh273 98 38 rfl).trans ((hFh272 98 38 rfl).trans ev253.symm))
                have q277 : h273 98 40 = v248 := ((hFh273 98 40 rfl).trans ((hFh272 98 40 rfl).trans ((hFh249 98 40 rfl).trans ev248.symm)))
                have q278 : h273 98 39 = (v3 + 1) := (st_at eh273)
                have fX1 : ∀ j, h273 122 j = h234 122 j := fun j => ((hFh273 122 j rfl).trans ((hFh272 122 j rfl).trans ((hFh249 122 j rfl).trans ((hFh244 122 j rfl).trans ((hFh237 122 j rfl).trans ((hFh236 122 j rfl).trans (hFh235 122 j rfl)))))))
                have fX2 : ∀ j, h273 123 j = h249 123 j := fun j => ((hFh273 123 j rfl).trans (hFh272 123 j rfl))
                have fX3 : ∀ j, h273 124 j = h272 124 j := fun j => (hFh273 124 j rfl)
                have nw2 : NWo h273 := (by first | exact Or.inl (by omega) | exact NW_end nw eC0 fN0 (by assumption) (by omega) (by assumption) bD cD nD (by omega) (by omega) (by omega) (up_at (by assumption) fY1 fX1) (by omega) (by omega) (up_at (by assumption) fY2 fX2) (by omega) (up_at (by assumption) fY3 fX3) (by omega))
                exact g_return dX12_clause_161 rfl (hPo _ ⟨hMh273, (Fr.tr (Fr.tr (Fr.tr (Fr.tr (Fr.tr (Fr.tr (Fr.tr (Fr.tr (Fr.sub hFh233 rfl) hFh234 rfl) hFh235 rfl) hFh236 rfl) hFh237 rfl) hFh244 rfl) hFh249 rfl) hFh272 rfl) hFh273 rfl), nw2, (by omega), (by omega), (by omega)⟩)
            · skip
              exfalso; omega
          · skip
            refine g_aload_n dX12_clause_50 rfl ?_
            refine g_iconst dX12_clause_51 (inR_c rfl) ?_
            refine g_aload_n dX12_clause_52 rfl ?_
            refine gE_X12_211 rfl dX12_clause_53 sh_98 ev1.symm ?_
            refine g_cVV (as := [_, _]) (c_X12_wrongs_98 _ _ h hM (by omega) (by omega) (by omega) (by omega)) dX12_clause_56 mi_X12_wrongs in_X12_wrongs se_X12_wrongs ml_X12_233 rfl rfl rfl sh_98 rfl rfl (Nat.le_of_ble_eq_true rfl) (fun h279 q280 => ?_)
            obtain ⟨hMh279, hFh279, az281, bz281⟩ := q280
            obtain ⟨v282, ev282⟩ : ∃ z, z = h279 98 38 := ⟨_, rfl⟩
            have bv282 : -6000 ≤ v282 ∧ v282 ≤ -1 := by rw [ev282]; exact ⟨az281, bz281⟩
            refine g_aload_n dX12_clause_59 rfl ?_
            refine g_cVP (as := []) (c_X12_isGood_98  h279 hMh279) dX12_clause_60 mi_X12_isGood in_X12_isGood se_X12_isGood ml_X12_220 rfl rfl rfl sh_98 rfl rfl (Nat.le_of_ble_eq_true rfl) (fun v283 q284 => ?_)
            have q285 : h279 98 38 = v282 := ev282.symm
            rcases q284 with ⟨rfl, q284⟩ | ⟨rfl, q284⟩
            · skip
              exfalso; omega
            · skip
              refine g_if_ne 67 dX12_clause_63 (by decide) (fun _ => by exfalso; omega) (fun q286 => ?_)
              have q287 : h279 98 36 = v1 := ((hFh279 98 36 rfl).trans ev1.symm)
              have q288 : h279 98 37 = v2 := ((hFh279 98 37 rfl).trans ev2.symm)
              have q289 : h279 98 38 = v282 := ev282.symm
              have q290 : h279 98 40 = v4 := ((hFh279 98 40 rfl).trans ev4.symm)
              have q291 : h279 98 39 = v3 := ((hFh279 98 39 rfl).trans ev3.symm)
              have nw2 : NWo h279 := (by first | exact Or.inl (by omega) | exact NW_end nw eC0 fN0 (by assumption) (by omega) (by assumption) bD cD nD (by omega) (by omega) (by omega) (up_at (by assumption) fY1 fX1) (by omega) (by omega) (up_at (by assumption) fY2 fX2) (by omega) (up_at (by assumption) fY3 fX3) (by omega))
              exact g_return dX12_clause_66 rfl (hPo _ ⟨hMh279, (Fr.sub hFh279 rfl), nw2, (by omega), (by omega), (by omega)⟩)
        · skip
          refine g_aload_n dX12_clause_29 rfl ?_
          refine g_iconst dX12_clause_30 (inR_c rfl) ?_
          refine g_aload_n dX12_clause_31 rfl ?_
          refine gE_X12_211 rfl dX12_clause_32 sh_98 ev1.symm ?_
          refine g_cVV (as := [_, _]) (c_X12_wrongs_98 _ _ h hM (by omega) (by omega) (by omega) (by omega)) dX12_clause_35 mi_X12_wrongs in_X12_wrongs se_X12_wrongs ml_X12_233 rfl rfl rfl sh_98 rfl rfl (Nat.le_of_ble_eq_true rfl) (fun h292 q293 => ?_)
          obtain ⟨hMh292, hFh292, az294, bz294⟩ := q293
          obtain ⟨v295, ev295⟩ : ∃ z, z = h292 98 38 := ⟨_, rfl⟩
          have bv295 : -6000 ≤ v295 ∧ v295 ≤ -1 := by rw [ev295]; exact ⟨az294, bz294⟩
          refine g_goto 59 dX12_clause_38 (by decide) ?_
          refine g_aload_n dX12_clause_59 rfl ?_
          refine g_cVP (as := []) (c_X12_isGood_98  h292 hMh292) dX12_clause_60 mi_X12_isGood in_X12_isGood se_X12_isGood ml_X12_220 rfl rfl rfl sh_98 rfl rfl (Nat.le_of_ble_eq_true rfl) (fun v296 q297 => ?_)
          have q298 : h292 98 38 = v295 := ev295.symm
          rcases q297 with ⟨rfl, q297⟩ | ⟨rfl, q297⟩
          · skip
            exfalso; omega
          · skip
            refine g_if_ne 67 dX12_clause_63 (by decide) (fun _ => by exfalso; omega) (fun q299 => ?_)
            have q300 : h292 98 36 = v1 := ((hFh292 98 36 rfl).trans ev1.symm)
            have q301 : h292 98 37 = v2 := ((hFh292 98 37 rfl).trans ev2.symm)
            have q302 : h292 98 38 = v295 := ev295.symm
            have q303 : h292 98 40 = v4 := ((hFh292 98 40 rfl).trans ev4.symm)
            have q304 : h292 98 39 = v3 := ((hFh292 98 39 rfl).trans ev3.symm)
            have nw2 : NWo h292 := (by first | exact Or.inl (by omega) | exact NW_end nw eC0 fN0 (by assumption) (by omega) (by assumption) bD cD nD (by omega) (by omega) (by omega) (up_at (by assumption) fY1 fX1) (by omega) (by omega) (up_at (by assumption) fY2 fX2) (by omega) (up_at (by assumption) fY3 fX3) (by omega))
            exact g_return dX12_clause_66 rfl (hPo _ ⟨hMh292, (Fr.sub hFh292 rfl), nw2, (by omega), (by omega), (by omega)⟩)
