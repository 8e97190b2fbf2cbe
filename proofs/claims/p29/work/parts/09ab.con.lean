set_option maxRecDepth 100000 in
set_option maxHeartbeats 4000000 in
theorem c_X12_opens_98 (h : MEM) (hM : MBm h) (p0_0 : 0 ≤ h 98 42) (p0_1 : h 98 42 ≤ 199) (p1_0 : 0 ≤ h 98 36) (p1_1 : h 98 36 ≤ 199) : CV yX12_opens cX12_opens 1 (none) 2 [pR 98] h (fun h' => MBm h' ∧ Fr [(98, 37), (98, 39), (98, 42), (98, 43), (127, 0)] h h' ∧ (OPo h h') ∧ h' 98 42 = h 98 42 + 1 ∧ h' 98 36 = h 98 36 + 1) := by
  refine CV.of (L0 := [some (pR 98)]) rfl (Nat.le_of_ble_eq_true rfl) rfl (fun Po hPo hav => ?_)
  obtain ⟨w98_42, ew98_42⟩ : ∃ z, z = h 98 42 := ⟨_, rfl⟩
  obtain ⟨w98_36, ew98_36⟩ : ∃ z, z = h 98 36 := ⟨_, rfl⟩
  obtain ⟨v1, ev1⟩ : ∃ z, z = h 98 38 := ⟨_, rfl⟩
  have bv1 : -6000 ≤ v1 ∧ v1 ≤ 0 := by rw [ev1]; exact (m_98_38 hM)
  refine g_aload_n dX12_opens_0 rfl ?_
  refine gI_X12_230 rfl dX12_opens_1 sh_98 (m_98_41 hM) (fun v2 ev2 bv2 cv2 => ?_)
  refine g_bipush dX12_opens_4 (inR_c rfl) (by decide) ?_
  refine g_icmp_ne 18 dX12_opens_6 (by decide) (fun q3 => ?_) (fun q3 => ?_)
  · skip
    refine g_aload_n dX12_opens_18 rfl ?_
    refine g_dup dX12_opens_19 rfl ?_
    refine gE_X12_230 rfl dX12_opens_20 sh_98 ev2.symm ?_
    refine g_iconst dX12_opens_23 (inR_c rfl) ?_
    refine g_iaddF dX12_opens_24 (fun v4 bv4 cv4 => ?_)
    refine pI_X12_230 rfl dX12_opens_25 sh_98 (fun h5 eh5 => ?_)
    have hFh5 := Fr.st eh5
    have hMh5 := u_98_41 hM eh5 (by omega) (by omega)
    refine g_aload_n dX12_opens_28 rfl ?_
    refine g_aload_n dX12_opens_29 rfl ?_
    refine g_cVP (as := []) (c_X12_here_98  h5 hMh5) dX12_opens_30 mi_X12_here in_X12_here se_X12_here ml_X12_237 rfl rfl rfl sh_98 rfl rfl (Nat.le_of_ble_eq_true rfl) (fun v6 q7 => ?_)
    obtain ⟨bv6, cv6, zv6, yv6⟩ := q7
    have frS : ∀ j, h5 127 j = h 127 j := fun j => (hFh5 127 j rfl)
    have frT : ∀ j, h5 99 j = h 99 j := fun j => (hFh5 99 j rfl)
    have eS : h5 98 42 = h 98 42 := (hFh5 98 42 rfl)
    have eP : h5 98 36 = h 98 36 := (hFh5 98 36 rfl)
    have eE : h5 98 37 = h 98 37 := (hFh5 98 37 rfl)
    have q8 : h5 98 42 = w98_42 := ((hFh5 98 42 rfl).trans ew98_42.symm)
    have q9 : h5 98 36 = w98_36 := ((hFh5 98 36 rfl).trans ew98_36.symm)
    have q10 : h5 98 42 = w98_42 := ((hFh5 98 42 rfl).trans ew98_42.symm)
    have q11 : h5 98 36 = w98_36 := ((hFh5 98 36 rfl).trans ew98_36.symm)
    refine g_cVV (as := [_]) (c_X12_puts_98 _ h5 hMh5 (by omega) (by omega) (by omega) (by omega) (by omega) (by omega)) dX12_opens_33 mi_X12_puts in_X12_puts se_X12_puts ml_X12_241 rfl rfl rfl sh_98 rfl rfl (Nat.le_of_ble_eq_true rfl) (fun h12 q13 => ?_)
    obtain ⟨hMh12, hFh12, zh12, z14, z15⟩ := q13
    have kz14 : h12 98 42 = (w98_42 + 1) := by omega
    have kz15 : h12 98 36 = (w98_36 + 1) := by omega
    have q16 : h12 98 38 = v1 := ((hFh12 98 38 rfl).trans ((hFh5 98 38 rfl).trans ev1.symm))
    have q17 : h12 98 42 = (w98_42 + 1) := kz14
    have q18 : h12 98 36 = (w98_36 + 1) := kz15
    exact g_return dX12_opens_36 rfl (hPo _ ⟨hMh12, (Fr.tr (Fr.sub hFh5 rfl) hFh12 rfl), ⟨by omega, PU_fr (by assumption) frS eS (by assumption) (HR_c eP eE frT)⟩, (by omega), (by omega)⟩)
  · skip
    refine g_aload_n dX12_opens_9 rfl ?_
    refine g_iconst dX12_opens_10 (inR_c rfl) ?_
    refine g_aload_n dX12_opens_11 rfl ?_
    refine gE_X12_211 rfl dX12_opens_12 sh_98 ew98_36.symm ?_
    refine g_cVV (as := [_, _]) (c_X12_wrongs_98 _ _ h hM (by omega) (by omega) (by omega) (by omega)) dX12_opens_15 mi_X12_wrongs in_X12_wrongs se_X12_wrongs ml_X12_233 rfl rfl rfl sh_98 rfl rfl (Nat.le_of_ble_eq_true rfl) (fun h19 q20 => ?_)
    obtain ⟨hMh19, hFh19, az21, bz21⟩ := q20
    obtain ⟨v22, ev22⟩ : ∃ z, z = h19 98 38 := ⟨_, rfl⟩
    have bv22 : -6000 ≤ v22 ∧ v22 ≤ -1 := by rw [ev22]; exact ⟨az21, bz21⟩
    refine g_aload_n dX12_opens_18 rfl ?_
    refine g_dup dX12_opens_19 rfl ?_
    refine gE_X12_230 rfl dX12_opens_20 sh_98 ((hFh19 98 41 rfl).trans ev2.symm) ?_
    refine g_iconst dX12_opens_23 (inR_c rfl) ?_
    refine g_iaddB dX12_opens_24 (by omega) (by omega) ?_
    refine pI_X12_230 rfl dX12_opens_25 sh_98 (fun h23 eh23 => ?_)
    have hFh23 := Fr.st eh23
    have hMh23 := u_98_41 hMh19 eh23 (by omega) (by omega)
    refine g_aload_n dX12_opens_28 rfl ?_
    refine g_aload_n dX12_opens_29 rfl ?_
    refine g_cVP (as := []) (c_X12_here_98  h23 hMh23) dX12_opens_30 mi_X12_here in_X12_here se_X12_here ml_X12_237 rfl rfl rfl sh_98 rfl rfl (Nat.le_of_ble_eq_true rfl) (fun v24 q25 => ?_)
    obtain ⟨bv24, cv24, zv24, yv24⟩ := q25
    have frS : ∀ j, h23 127 j = h 127 j := fun j => ((hFh23 127 j rfl).trans (hFh19 127 j rfl))
    have frT : ∀ j, h23 99 j = h 99 j := fun j => ((hFh23 99 j rfl).trans (hFh19 99 j rfl))
    have eS : h23 98 42 = h 98 42 := ((hFh23 98 42 rfl).trans (hFh19 98 42 rfl))
    have eP : h23 98 36 = h 98 36 := ((hFh23 98 36 rfl).trans (hFh19 98 36 rfl))
    have eE : h23 98 37 = h 98 37 := ((hFh23 98 37 rfl).trans (hFh19 98 37 rfl))
    have q26 : h23 98 42 = w98_42 := ((hFh23 98 42 rfl).trans ((hFh19 98 42 rfl).trans ew98_42.symm))
    have q27 : h23 98 36 = w98_36 := ((hFh23 98 36 rfl).trans ((hFh19 98 36 rfl).trans ew98_36.symm))
    have q28 : h23 98 42 = w98_42 := ((hFh23 98 42 rfl).trans ((hFh19 98 42 rfl).trans ew98_42.symm))
    have q29 : h23 98 36 = w98_36 := ((hFh23 98 36 rfl).trans ((hFh19 98 36 rfl).trans ew98_36.symm))
    refine g_cVV (as := [_]) (c_X12_puts_98 _ h23 hMh23 (by omega) (by omega) (by omega) (by omega) (by omega) (by omega)) dX12_opens_33 mi_X12_puts in_X12_puts se_X12_puts ml_X12_241 rfl rfl rfl sh_98 rfl rfl (Nat.le_of_ble_eq_true rfl) (fun h30 q31 => ?_)
    obtain ⟨hMh30, hFh30, zh30, z32, z33⟩ := q31
    have kz32 : h30 98 42 = (w98_42 + 1) := by omega
    have kz33 : h30 98 36 = (w98_36 + 1) := by omega
    have q34 : h30 98 38 = v22 := ((hFh30 98 38 rfl).trans ((hFh23 98 38 rfl).trans ev22.symm))
    have q35 : h30 98 42 = (w98_42 + 1) := kz32
    have q36 : h30 98 36 = (w98_36 + 1) := kz33
    exact g_return dX12_opens_36 rfl (hPo _ ⟨hMh30, (Fr.tr (Fr.tr (Fr.sub hFh19 rfl) hFh23 rfl) hFh30 rfl), ⟨by omega, PU_fr (by assumption) frS eS (by assumption) (HR_c eP eE frT)⟩, (by omega), (by omega)⟩)
set_option maxRecDepth 100000 in
set_option maxHeartbeats 4000000 in
theorem c_X12_factor_98 (f : Int) (gn : Nat → Int) (s : Int) (g : Nat → Int) (h : MEM) (hM : MBm h) (p0_0 : 0 ≤ h 98 38) (p0_1 : h 98 38 ≤ 0) (f_E0 : EVo f gn s g 0 h) : CV yX12_factor cX12_factor 1 (none) 4 [pR 98] h (fun h' => MBm h' ∧ Fr [(98, 37), (98, 39), (98, 41), (98, 42), (98, 43), (125, 0), (126, 0), (127, 0)] h h' ∧ (h 98 36 ≤ h' 98 36 ∧ (h' 98 38 < 0 ∨ h 98 36 + 1 ≤ h' 98 36)) ∧ EVo f gn s g 1 h') := by
  refine CV.of (L0 := [some (pR 98)]) rfl (Nat.le_of_ble_eq_true rfl) rfl (fun Po hPo hav => ?_)
  obtain ⟨w98_38, ew98_38⟩ : ∃ z, z = h 98 38 := ⟨_, rfl⟩
  obtain ⟨v1, ev1⟩ : ∃ z, z = h 98 36 := ⟨_, rfl⟩
  have bv1 : 0 ≤ v1 ∧ v1 ≤ 200 := by rw [ev1]; exact (m_98_36 hM)
  obtain ⟨v2, ev2⟩ : ∃ z, z = h 98 37 := ⟨_, rfl⟩
  have bv2 : 0 ≤ v2 ∧ v2 ≤ 200 := by rw [ev2]; exact (m_98_37 hM)
  have c0 : ∀ (n : Nat) (h3 : MEM), MBm h3 → Fr [(98, 37), (98, 39), (98, 42), (98, 43), (127, 0)] h h3 → EVo f gn s g 0 h3 → h 98 36 ≤ h3 98 36 → h3 98 36 ≤ 200 → 200 - h3 98 36 < (n : Int) → G yX12_factor cX12_factor 1 (none) none Po (4, 240, 0, 0) 0 [some (pR 98)] [] SH h3 0 0 := by
    intro n
    induction n with
    | zero =>
      intro h3 hMh3 hFh3 e0_0 e0_1 e0_2 hn
      exfalso; omega
    | succ n ih0 =>
      intro h3 hMh3 hFh3 e0_0 e0_1 e0_2 hn
      refine g_aload_n dX12_factor_0 rfl ?_
      refine g_cVP (as := []) (c_X12_isGood_98  h3 hMh3) dX12_factor_1 mi_X12_isGood in_X12_isGood se_X12_isGood ml_X12_220 rfl rfl rfl sh_98 rfl rfl (Nat.le_of_ble_eq_true rfl) (fun v4 q5 => ?_)
      obtain ⟨v6, ev6⟩ : ∃ z, z = h3 98 38 := ⟨_, rfl⟩
      have bv6 : -6000 ≤ v6 ∧ v6 ≤ 0 := by rw [ev6]; exact (m_98_38 hMh3)
      rcases q5 with ⟨rfl, q5⟩ | ⟨rfl, q5⟩
      · skip
        refine g_if_eq 23 dX12_factor_4 (by decide) (fun _ => by exfalso; omega) (fun q7 => ?_)
        refine g_aload_n dX12_factor_7 rfl ?_
        refine g_cVP (as := []) (c_X12_here_98  h3 hMh3) dX12_factor_8 mi_X12_here in_X12_here se_X12_here ml_X12_237 rfl rfl rfl sh_98 rfl rfl (Nat.le_of_ble_eq_true rfl) (fun v8 q9 => ?_)
        obtain ⟨bv8, cv8, zv8, yv8⟩ := q9
        refine g_bipush dX12_factor_11 (inR_c rfl) (by decide) ?_
        refine g_icmp_ne 23 dX12_factor_13 (by decide) (fun q10 => ?_) (fun q10 => ?_)
        · skip
          refine g_aload_n dX12_factor_23 rfl ?_
          refine g_cVP (as := []) (c_X12_isGood_98  h3 hMh3) dX12_factor_24 mi_X12_isGood in_X12_isGood se_X12_isGood ml_X12_220 rfl rfl rfl sh_98 rfl rfl (Nat.le_of_ble_eq_true rfl) (fun v11 q12 => ?_)
          have q13 : h3 98 38 = v6 := ev6.symm
          rcases q12 with ⟨rfl, q12⟩ | ⟨rfl, q12⟩
          · skip
            refine g_if_ne 31 dX12_factor_27 (by decide) (fun q14 => ?_) (fun _ => by exfalso; omega)
            refine g_aload_n dX12_factor_31 rfl ?_
            refine g_cVP (as := []) (c_X12_seesDigit_98  h3 hMh3) dX12_factor_32 mi_X12_seesDigit in_X12_seesDigit se_X12_seesDigit ml_X12_248 rfl rfl rfl sh_98 rfl rfl (Nat.le_of_ble_eq_true rfl) (fun v15 q16 => ?_)
            obtain ⟨bv15, cv15, zv15⟩ := q16
            refine g_if_eq 50 dX12_factor_35 (by decide) (fun q17 => ?_) (fun q17 => ?_)
            · skip
              refine g_aload_n dX12_factor_50 rfl ?_
              refine g_cVP (as := []) (c_X12_here_98  h3 hMh3) dX12_factor_51 mi_X12_here in_X12_here se_X12_here ml_X12_237 rfl rfl rfl sh_98 rfl rfl (Nat.le_of_ble_eq_true rfl) (fun v18 q19 => ?_)
              obtain ⟨bv18, cv18, zv18, yv18⟩ := q19
              have tv18 : v18 = v8 := by rw [zv18, zv8]
              refine g_cSP (av := [_]) (c_X12_isValue _ h3 hMh3 (by omega) (by omega)) dX12_factor_54 mi_X12_isValue st_X12_isValue ml_X12_272 rfl rfl rfl rfl (Nat.le_of_ble_eq_true rfl) (fun v20 q21 => ?_)
              obtain ⟨bv20, cv20, zv20⟩ := q21
              refine g_if_eq 82 dX12_factor_57 (by decide) (fun q22 => ?_) (fun q22 => ?_)
              · skip
                refine g_aload_n dX12_factor_82 rfl ?_
                refine g_iconst dX12_factor_83 (inR_c rfl) ?_
                refine g_aload_n dX12_factor_84 rfl ?_
                refine gI_X12_211 rfl dX12_factor_85 sh_98 (m_98_36 hMh3) (fun v23 ev23 bv23 cv23 => ?_)
                refine g_cVV (as := [_, _]) (c_X12_wrongs_98 _ _ h3 hMh3 (by omega) (by omega) (by omega) (by omega)) dX12_factor_88 mi_X12_wrongs in_X12_wrongs se_X12_wrongs ml_X12_233 rfl rfl rfl sh_98 rfl rfl (Nat.le_of_ble_eq_true rfl) (fun h24 q25 => ?_)
                obtain ⟨hMh24, hFh24, az26, bz26⟩ := q25
                obtain ⟨v27, ev27⟩ : ∃ z, z = h24 98 38 := ⟨_, rfl⟩
                have bv27 : -6000 ≤ v27 ∧ v27 ≤ -1 := by rw [ev27]; exact ⟨az26, bz26⟩
                have q28 : h24 98 38 = v27 := ev27.symm
                have Ev2 : EVo f gn s g 1 h24 := Or.inl (by omega)
                have q29 : h24 98 36 = v23 := ((hFh24 98 36 rfl).trans ev23.symm)
                have q30 : h24 98 37 = v2 := ((hFh24 98 37 rfl).trans ((hFh3 98 37 rfl).trans ev2.symm))
                have q31 : h24 98 38 = v27 := ev27.symm
                exact g_return dX12_factor_91 rfl (hPo _ ⟨hMh24, (Fr.tr (Fr.sub hFh3 rfl) hFh24 rfl), (by omega), Ev2⟩)
              · skip
                refine g_aload_n dX12_factor_60 rfl ?_
                have Ev1 := e0_0
                have q32 : h3 98 38 = v6 := ev6.symm
                obtain ⟨v33, ev33⟩ : ∃ z, z = h3 98 42 := ⟨_, rfl⟩
                have bv33 : 0 ≤ v33 ∧ v33 ≤ 200 := by rw [ev33]; exact (m_98_42 hMh3)
                have q34 : h3 98 37 = v2 := ((hFh3 98 37 rfl).trans ev2.symm)
                obtain ⟨v35, ev35⟩ : ∃ z, z = h3 98 36 := ⟨_, rfl⟩
                have bv35 : 0 ≤ v35 ∧ v35 ≤ 200 := by rw [ev35]; exact (m_98_36 hMh3)
                have q36 : h3 98 40 = h 98 40 := (hFh3 98 40 rfl)
                obtain ⟨v37, ev37⟩ : ∃ z, z = h3 98 40 := ⟨_, rfl⟩
                have bv37 : 0 ≤ v37 ∧ v37 ≤ 200 := by rw [ev37]; exact (m_98_40 hMh3)
                have lv := EVo.lin Ev1 (by omega)
                refine g_iconst dX12_factor_61 (inR_c rfl) ?_
                refine g_aload_n dX12_factor_62 rfl ?_
                refine g_cVP (as := []) (c_X12_here_98  h3 hMh3) dX12_factor_63 mi_X12_here in_X12_here se_X12_here ml_X12_237 rfl rfl rfl sh_98 rfl rfl (Nat.le_of_ble_eq_true rfl) (fun v38 q39 => ?_)
                obtain ⟨bv38, cv38, zv38, yv38⟩ := q39
                have tv38 : v38 = v8 := by rw [zv38, zv8]
                have q40 : h3 98 38 = v6 := ev6.symm
                have q41 : h3 98 40 = v37 := ev37.symm
                have q42 : h3 98 37 = v2 := ((hFh3 98 37 rfl).trans ev2.symm)
                refine g_cVV (as := [_, _]) (c_X12_emit_98 _ _ h3 hMh3 (by omega) (by omega) (by omega) (by omega) (by omega)) dX12_factor_66 mi_X12_emit in_X12_emit se_X12_emit ml_X12_263 rfl rfl rfl sh_98 rfl rfl (Nat.le_of_ble_eq_true rfl) (fun h43 q44 => ?_)
                obtain ⟨hMh43, hFh43, zh43⟩ := q44
                refine g_aload_n dX12_factor_69 rfl ?_
                refine g_dup dX12_factor_70 rfl ?_
                refine gE_X12_211 rfl dX12_factor_71 sh_98 ((hFh43 98 36 rfl).trans ev35.symm) ?_
                have a71 : 0 ≤ v35 ∧ v35 ≤ 199 := (by omega)
                refine g_iconst dX12_factor_74 (inR_c rfl) ?_
                refine g_iaddB dX12_factor_75 (by omega) (by omega) ?_
                refine pI_X12_211 rfl dX12_factor_76 sh_98 (fun h45 eh45 => ?_)
                have hFh45 := Fr.st eh45
                have hMh45 := u_98_36 hMh43 eh45 (by omega) (by omega)
                have q46 : h45 98 36 = (v35 + 1) := (st_at eh45)
                have eC : h45 98 40 = h43 98 40 := (hFh45 98 40 rfl)
                have fN : ∀ j, h45 125 j = h43 125 j := fun j => (hFh45 125 j rfl)
                have eE : h45 98 37 = h3 98 37 := ((hFh45 98 37 rfl).trans (hFh43 98 37 rfl))
                have eS : h45 98 42 = h3 98 42 := ((hFh45 98 42 rfl).trans (hFh43 98 42 rfl))
                have fS : ∀ j, h45 127 j = h3 127 j := fun j => ((hFh45 127 j rfl).trans (hFh43 127 j rfl))
                have Ev2 : EVo f gn s g 1 h45 := EV_let Ev1 (by omega) (by assumption) eC fN (by omega) (by omega) eE eS fS
                refine g_goto 91 dX12_factor_79 (by decide) ?_
                have q47 : h45 98 36 = (v35 + 1) := (st_at eh45)
                have q48 : h45 98 37 = v2 := ((hFh45 98 37 rfl).trans ((hFh43 98 37 rfl).trans ((hFh3 98 37 rfl).trans ev2.symm)))
                have q49 : h45 98 38 = v6 := ((hFh45 98 38 rfl).trans ((hFh43 98 38 rfl).trans ev6.symm))
                exact g_return dX12_factor_91 rfl (hPo _ ⟨hMh45, (Fr.tr (Fr.tr (Fr.sub hFh3 rfl) hFh43 rfl) hFh45 rfl), (by omega), Ev2⟩)
            · skip
              refine g_aload_n dX12_factor_38 rfl ?_
              have Ev1 := e0_0
              have q50 : h3 98 38 = v6 := ev6.symm
              obtain ⟨v51, ev51⟩ : ∃ z, z = h3 98 42 := ⟨_, rfl⟩
              have bv51 : 0 ≤ v51 ∧ v51 ≤ 200 := by rw [ev51]; exact (m_98_42 hMh3)
              have q52 : h3 98 37 = v2 := ((hFh3 98 37 rfl).trans ev2.symm)
              obtain ⟨v53, ev53⟩ : ∃ z, z = h3 98 36 := ⟨_, rfl⟩
              have bv53 : 0 ≤ v53 ∧ v53 ≤ 200 := by rw [ev53]; exact (m_98_36 hMh3)
              have q54 : h3 98 40 = h 98 40 := (hFh3 98 40 rfl)
              obtain ⟨v55, ev55⟩ : ∃ z, z = h3 98 40 := ⟨_, rfl⟩
              have bv55 : 0 ≤ v55 ∧ v55 ≤ 200 := by rw [ev55]; exact (m_98_40 hMh3)
              have lv := EVo.lin Ev1 (by omega)
              refine g_iconst dX12_factor_39 (inR_c rfl) ?_
              refine g_aload_n dX12_factor_40 rfl ?_
              have q56 : h3 98 38 = v6 := ev6.symm
              have q57 : h3 98 36 = v53 := ev53.symm
              have q58 : h3 98 37 = v2 := ((hFh3 98 37 rfl).trans ev2.symm)
              refine g_cV (as := []) (c_X12_reads_98  h3 hMh3 (by omega) (by omega) (by omega)) dX12_factor_41 mi_X12_reads in_X12_reads se_X12_reads ml_X12_269 rfl rfl rfl sh_98 rfl rfl (Nat.le_of_ble_eq_true rfl) (fun v59 h60 q61 => ?_)
              obtain ⟨hMh60, hFh60, bv59, cv59, zv59⟩ := q61
              obtain ⟨v62, ev62⟩ : ∃ z, z = h60 98 38 := ⟨_, rfl⟩
              have bv62 : -6000 ≤ v62 ∧ v62 ≤ 0 := by rw [ev62]; exact (m_98_38 hMh60)
              have q63 : h60 98 42 = v51 := ((hFh60 98 42 rfl).trans ev51.symm)
              have q64 : h60 98 37 = v2 := ((hFh60 98 37 rfl).trans ((hFh3 98 37 rfl).trans ev2.symm))
              obtain ⟨v65, ev65⟩ : ∃ z, z = h60 98 36 := ⟨_, rfl⟩
              have bv65 : 0 ≤ v65 ∧ v65 ≤ 200 := by rw [ev65]; exact (m_98_36 hMh60)
              have q66 : h60 98 40 = v55 := ((hFh60 98 40 rfl).trans ev55.symm)
              have eS : h60 98 42 = h3 98 42 := (hFh60 98 42 rfl)
              have eC : h60 98 40 = h3 98 40 := (hFh60 98 40 rfl)
              have fN : ∀ j, h60 125 j = h3 125 j := fun j => (hFh60 125 j rfl)
              have fS : ∀ j, h60 127 j = h3 127 j := fun j => (hFh60 127 j rfl)
              have Ev3 : h60 98 38 < 0 ∨ EV f gn s g 0 h60 := Or.inr (EV_rd Ev1 (by omega) (by omega) (by omega) eS eC fN fS)
              have q67 : h60 98 38 = v62 := ev62.symm
              have q68 : h60 98 40 = v55 := ((hFh60 98 40 rfl).trans ev55.symm)
              have q69 : h60 98 37 = v2 := ((hFh60 98 37 rfl).trans ((hFh3 98 37 rfl).trans ev2.symm))
              refine g_cVV (as := [_, _]) (c_X12_emit_98 _ _ h60 hMh60 (by omega) (by omega) (by omega) (by omega) (by omega)) dX12_factor_44 mi_X12_emit in_X12_emit se_X12_emit ml_X12_263 rfl rfl rfl sh_98 rfl rfl (Nat.le_of_ble_eq_true rfl) (fun h70 q71 => ?_)
              obtain ⟨hMh70, hFh70, zh70⟩ := q71
              have eB : h70 98 38 = h60 98 38 := (hFh70 98 38 rfl)
              have eP : h70 98 36 = h60 98 36 := (hFh70 98 36 rfl)
              have eE : h70 98 37 = h60 98 37 := (hFh70 98 37 rfl)
              have eS2 : h70 98 42 = h60 98 42 := (hFh70 98 42 rfl)
              have fS2 : ∀ j, h70 127 j = h60 127 j := fun j => (hFh70 127 j rfl)
              have Ev2 : EVo f gn s g 1 h70 := EV_num Ev3 eB (by assumption) (by omega) eP eE eS2 fS2
              refine g_goto 91 dX12_factor_47 (by decide) ?_
              have q72 : h70 98 36 = v65 := ((hFh70 98 36 rfl).trans ev65.symm)
              have q73 : h70 98 37 = v2 := ((hFh70 98 37 rfl).trans ((hFh60 98 37 rfl).trans ((hFh3 98 37 rfl).trans ev2.symm)))
              have q74 : h70 98 38 = v62 := ((hFh70 98 38 rfl).trans ev62.symm)
              exact g_return dX12_factor_91 rfl (hPo _ ⟨hMh70, (Fr.tr (Fr.tr (Fr.sub hFh3 rfl) hFh60 rfl) hFh70 rfl), (by omega), Ev2⟩)
          · skip
            exfalso; omega
        · skip
          refine g_aload_n dX12_factor_16 rfl ?_
          have Ev1 := e0_0
          have q75 : h3 98 38 = v6 := ev6.symm
          obtain ⟨v76, ev76⟩ : ∃ z, z = h3 98 42 := ⟨_, rfl⟩
          have bv76 : 0 ≤ v76 ∧ v76 ≤ 200 := by rw [ev76]; exact (m_98_42 hMh3)
          have q77 : h3 98 37 = v2 := ((hFh3 98 37 rfl).trans ev2.symm)
          obtain ⟨v78, ev78⟩ : ∃ z, z = h3 98 36 := ⟨_, rfl⟩
          have bv78 : 0 ≤ v78 ∧ v78 ≤ 200 := by rw [ev78]; exact (m_98_36 hMh3)
          have q79 : h3 98 40 = h 98 40 := (hFh3 98 40 rfl)
          obtain ⟨v80, ev80⟩ : ∃ z, z = h3 98 40 := ⟨_, rfl⟩
          have bv80 : 0 ≤ v80 ∧ v80 ≤ 200 := by rw [ev80]; exact (m_98_40 hMh3)
          have lv := EVo.lin Ev1 (by omega)
          have q81 : h3 98 42 = v76 := ev76.symm
          have q82 : h3 98 36 = v78 := ev78.symm
          have q83 : h3 98 42 = v76 := ev76.symm
          have q84 : h3 98 36 = v78 := ev78.symm
          refine g_cVV (as := []) (c_X12_opens_98  h3 hMh3 (by omega) (by omega) (by omega) (by omega)) dX12_factor_17 mi_X12_opens in_X12_opens se_X12_opens ml_X12_266 rfl rfl rfl sh_98 rfl rfl (Nat.le_of_ble_eq_true rfl) (fun h85 q86 => ?_)
          obtain ⟨hMh85, hFh85, zh85, z87, z88⟩ := q86
          have kz87 : h85 98 42 = (v76 + 1) := by omega
          have kz88 : h85 98 36 = (v78 + 1) := by omega
          have Ev2 : EVo f gn s g 0 h85 := EV_open Ev1 (by omega) (by omega) (by omega) (by assumption) (by omega) (by omega) (hFh85 98 40 rfl) (hFh85 98 37 rfl) (fun j => hFh85 125 j rfl)
          refine g_goto 0 dX12_factor_20 (by decide) ?_
          have q89 : h85 98 36 = (v78 + 1) := kz88
          have q90 : h85 98 37 = v2 := ((hFh85 98 37 rfl).trans ((hFh3 98 37 rfl).trans ev2.symm))
          obtain ⟨v91, ev91⟩ : ∃ z, z = h85 98 38 := ⟨_, rfl⟩
          have bv91 : -6000 ≤ v91 ∧ v91 ≤ 0 := by rw [ev91]; exact (m_98_38 hMh85)
          exact ih0 _ hMh85 (Fr.tr (Fr.sub hFh3 rfl) hFh85 rfl) Ev2 (by omega) (by omega) (by omega)
      · skip
        refine g_if_eq 23 dX12_factor_4 (by decide) (fun q92 => ?_) (fun _ => by exfalso; omega)
        refine g_aload_n dX12_factor_23 rfl ?_
        refine g_cVP (as := []) (c_X12_isGood_98  h3 hMh3) dX12_factor_24 mi_X12_isGood in_X12_isGood se_X12_isGood ml_X12_220 rfl rfl rfl sh_98 rfl rfl (Nat.le_of_ble_eq_true rfl) (fun v93 q94 => ?_)
        have q95 : h3 98 38 = v6 := ev6.symm
        rcases q94 with ⟨rfl, q94⟩ | ⟨rfl, q94⟩
        · skip
          exfalso; omega
        · skip
          refine g_if_ne 31 dX12_factor_27 (by decide) (fun _ => by exfalso; omega) (fun q96 => ?_)
          obtain ⟨v97, ev97⟩ : ∃ z, z = h3 98 36 := ⟨_, rfl⟩
          have bv97 : 0 ≤ v97 ∧ v97 ≤ 200 := by rw [ev97]; exact (m_98_36 hMh3)
          have q98 : h3 98 37 = v2 := ((hFh3 98 37 rfl).trans ev2.symm)
          have q99 : h3 98 38 = v6 := ev6.symm
          have q100 : h3 98 38 = v6 := ev6.symm
          exact g_return dX12_factor_30 rfl (hPo _ ⟨hMh3, (Fr.sub hFh3 rfl), (by omega), (Or.inl (by omega))⟩)
  have q101 : h 98 36 = v1 := ev1.symm
  have q102 : h 98 37 = v2 := ev2.symm
  have q103 : h 98 38 = w98_38 := ew98_38.symm
  exact c0 201 _ hM Fr.rf f_E0 (by omega) (by omega) (by omega)
set_option maxRecDepth 100000 in
set_option maxHeartbeats 4000000 in
theorem c_X12_value_98 (f : Int) (gn : Nat → Int) (s : Int) (g : Nat → Int) (h : MEM) (hM : MBm h) (p0_0 : 0 ≤ h 98 38) (p0_1 : h 98 38 ≤ 0) (f_E0 : EVo f gn s g 0 h) : CV yX12_value cX12_value 2 (none) 5 [pR 98] h (fun h' => MBm h' ∧ Fr [(98, 37), (98, 39), (98, 41), (98, 42), (98, 43), (98, 45), (125, 0), (126, 0), (127, 0)] h h' ∧ VPo f gn s g h' ∧ h 98 36 ≤ h' 98 36 ∧ h' 98 36 ≤ h' 98 37) := by
  refine CV.of (L0 := [some (pR 98), none]) rfl (Nat.le_of_ble_eq_true rfl) rfl (fun Po hPo hav => ?_)
  obtain ⟨w98_38, ew98_38⟩ : ∃ z, z = h 98 38 := ⟨_, rfl⟩
  obtain ⟨v1, ev1⟩ : ∃ z, z = h 98 36 := ⟨_, rfl⟩
  have bv1 : 0 ≤ v1 ∧ v1 ≤ 200 := by rw [ev1]; exact (m_98_36 hM)
  obtain ⟨v2, ev2⟩ : ∃ z, z = h 98 37 := ⟨_, rfl⟩
  have bv2 : 0 ≤ v2 ∧ v2 ≤ 200 := by rw [ev2]; exact (m_98_37 hM)
  refine g_iconst dX12_value_0 (inR_c rfl) ?_
  refine g_istore_n dX12_value_1 (by decide) rfl ?_
  refine g_aload_n dX12_value_2 rfl ?_
  refine g_iconst dX12_value_3 (inR_c rfl) ?_
  have c7 : ∀ (n : Nat) (y3 : Int) (h4 : MEM), MBm h4 → Fr [(98, 37), (98, 39), (98, 41), (98, 42), (98, 43), (98, 45), (125, 0), (126, 0), (127, 0)] h h4 → 0 ≤ y3 → y3 ≤ 1 → SYo f gn s g y3 h4 → h 98 36 ≤ h4 98 36 → h4 98 36 ≤ 200 → -6000 ≤ h4 98 38 → h4 98 36 ≤ h4 98 37 → 2 * (200 - h4 98 36) + y3 < (n : Int) → G yX12_value cX12_value 2 (none) none Po (5, 300, 0, 0) 7 [some (pR 98), some (pI y3)] [] SH h4 0 0 := by
    intro n
    induction n with
    | zero =>
      intro y3 h4 hMh4 hFh4 by3 dy3 e7_0 e7_1 e7_2 e7_3 e7_4 hn
      exfalso; omega
    | succ n ih7 =>
      intro y3 h4 hMh4 hFh4 by3 dy3 e7_0 e7_1 e7_2 e7_3 e7_4 hn
      refine g_iload_n dX12_value_7 rfl (fun _ => ?_)
      refine g_if_eq 57 dX12_value_8 (by decide) (fun q5 => ?_) (fun q5 => ?_)
      · skip
        refine g_aload_n dX12_value_57 rfl ?_
        refine g_cVP (as := []) (c_X12_isGood_98  h4 hMh4) dX12_value_58 mi_X12_isGood in_X12_isGood se_X12_isGood ml_X12_220 rfl rfl rfl sh_98 rfl rfl (Nat.le_of_ble_eq_true rfl) (fun v6 q7 => ?_)
        obtain ⟨v8, ev8⟩ : ∃ z, z = h4 98 38 := ⟨_, rfl⟩
        have bv8 : -6000 ≤ v8 ∧ v8 ≤ 0 := by rw [ev8]; exact (m_98_38 hMh4)
        rcases q7 with ⟨rfl, q7⟩ | ⟨rfl, q7⟩
        · skip
          refine g_if_eq 82 dX12_value_61 (by decide) (fun _ => by exfalso; omega) (fun q9 => ?_)
          refine g_aload_n dX12_value_64 rfl ?_
          refine g_cVP (as := []) (c_X12_top_98  h4 hMh4) dX12_value_65 mi_X12_top in_X12_top se_X12_top ml_X12_254 rfl rfl rfl sh_98 rfl rfl (Nat.le_of_ble_eq_true rfl) (fun v10 q11 => ?_)
          obtain ⟨bv10, cv10, zv10, yv10⟩ := q11
          refine g_bipush dX12_value_68 (inR_c rfl) (by decide) ?_
          refine g_icmp_ne 82 dX12_value_70 (by decide) (fun q12 => ?_) (fun q12 => ?_)
          · skip
            obtain ⟨v13, ev13⟩ : ∃ z, z = h4 98 36 := ⟨_, rfl⟩
            have bv13 : 0 ≤ v13 ∧ v13 ≤ 200 := by rw [ev13]; exact (m_98_36 hMh4)
            have q14 : h4 98 37 = v2 := ((hFh4 98 37 rfl).trans ev2.symm)
            have q15 : h4 98 38 = v8 := ev8.symm
            have vp : VPo f gn s g h4 := (by first | exact Or.inl (by omega) | exact VP_end (SY_e e7_0 (by omega) (by omega)).1 (SY_e e7_0 (by omega) (by omega)).2 (by omega))
            exact g_return dX12_value_82 rfl (hPo _ ⟨hMh4, (Fr.sub hFh4 rfl), vp, (by omega), (by omega)⟩)
          · skip
            refine g_aload_n dX12_value_73 rfl ?_
            refine g_iconst dX12_value_74 (inR_c rfl) ?_
            refine g_aload_n dX12_value_75 rfl ?_
            refine gI_X12_211 rfl dX12_value_76 sh_98 (m_98_36 hMh4) (fun v16 ev16 bv16 cv16 => ?_)
            refine g_cVV (as := [_, _]) (c_X12_wrongs_98 _ _ h4 hMh4 (by omega) (by omega) (by omega) (by omega)) dX12_value_79 mi_X12_wrongs in_X12_wrongs se_X12_wrongs ml_X12_233 rfl rfl rfl sh_98 rfl rfl (Nat.le_of_ble_eq_true rfl) (fun h17 q18 => ?_)
            obtain ⟨hMh17, hFh17, az19, bz19⟩ := q18
            obtain ⟨v20, ev20⟩ : ∃ z, z = h17 98 38 := ⟨_, rfl⟩
            have bv20 : -6000 ≤ v20 ∧ v20 ≤ -1 := by rw [ev20]; exact ⟨az19, bz19⟩
            have q21 : h17 98 36 = v16 := ((hFh17 98 36 rfl).trans ev16.symm)
            have q22 : h17 98 37 = v2 := ((hFh17 98 37 rfl).trans ((hFh4 98 37 rfl).trans ev2.symm))
            have q23 : h17 98 38 = v20 := ev20.symm
            have vp : VPo f gn s g h17 := (by first | exact Or.inl (by omega) | exact VP_end (SY_e e7_0 (by omega) (by omega)).1 (SY_e e7_0 (by omega) (by omega)).2 (by omega))
            exact g_return dX12_value_82 rfl (hPo _ ⟨hMh17, (Fr.tr (Fr.sub hFh4 rfl) hFh17 rfl), vp, (by omega), (by omega)⟩)
        · skip
          refine g_if_eq 82 dX12_value_61 (by decide) (fun q24 => ?_) (fun _ => by exfalso; omega)
          obtain ⟨v25, ev25⟩ : ∃ z, z = h4 98 36 := ⟨_, rfl⟩
          have bv25 : 0 ≤ v25 ∧ v25 ≤ 200 := by rw [ev25]; exact (m_98_36 hMh4)
          have q26 : h4 98 37 = v2 := ((hFh4 98 37 rfl).trans ev2.symm)
          have q27 : h4 98 38 = v8 := ev8.symm
          have vp : VPo f gn s g h4 := (by first | exact Or.inl (by omega) | exact VP_end (SY_e e7_0 (by omega) (by omega)).1 (SY_e e7_0 (by omega) (by omega)).2 (by omega))
          exact g_return dX12_value_82 rfl (hPo _ ⟨hMh4, (Fr.sub hFh4 rfl), vp, (by omega), (by omega)⟩)
      · skip
        refine g_aload_n dX12_value_11 rfl ?_
        refine g_cVP (as := []) (c_X12_isGood_98  h4 hMh4) dX12_value_12 mi_X12_isGood in_X12_isGood se_X12_isGood ml_X12_220 rfl rfl rfl sh_98 rfl rfl (Nat.le_of_ble_eq_true rfl) (fun v28 q29 => ?_)
        obtain ⟨v30, ev30⟩ : ∃ z, z = h4 98 38 := ⟨_, rfl⟩
        have bv30 : -6000 ≤ v30 ∧ v30 ≤ 0 := by rw [ev30]; exact (m_98_38 hMh4)
        rcases q29 with ⟨rfl, q29⟩ | ⟨rfl, q29⟩
        · skip
          refine g_if_eq 57 dX12_value_15 (by decide) (fun _ => by exfalso; omega) (fun q31 => ?_)
          refine g_aload_n dX12_value_18 rfl ?_
          refine gI_X12_279 rfl dX12_value_19 sh_98 (m_98_44 hMh4) (fun v32 ev32 bv32 cv32 => ?_)
          refine g_if_ne 29 dX12_value_22 (by decide) (fun q33 => ?_) (fun q33 => ?_)
          · skip
            refine g_aload_n dX12_value_29 rfl ?_
            have q34 : h4 98 38 = v30 := ev30.symm
            have q35 : h4 98 44 = v32 := ev32.symm
            have Ev2 : EVo f gn s g 1 h4 := SY_b e7_0 (by omega) (by omega) (by omega)
            refine g_iconst dX12_value_30 (inR_c rfl) ?_
            refine pI_X12_279 rfl dX12_value_31 sh_98 (by omega) (fun h36 eh36 => ?_)
            have hFh36 := Fr.st eh36
            have hMh36 := u_98_44 hMh4 eh36 (by omega) (by omega)
            refine g_aload_n dX12_value_34 rfl ?_
            refine g_cVP (as := []) (c_X12_isGood_98  h36 hMh36) dX12_value_35 mi_X12_isGood in_X12_isGood se_X12_isGood ml_X12_220 rfl rfl rfl sh_98 rfl rfl (Nat.le_of_ble_eq_true rfl) (fun v37 q38 => ?_)
            have q39 : h36 98 38 = v30 := ((hFh36 98 38 rfl).trans ev30.symm)
            rcases q38 with ⟨rfl, q38⟩ | ⟨rfl, q38⟩
            · skip
              refine g_if_eq 52 dX12_value_38 (by decide) (fun _ => by exfalso; omega) (fun q40 => ?_)
              refine g_aload_n dX12_value_41 rfl ?_
              have q41 : h36 98 38 = v30 := ((hFh36 98 38 rfl).trans ev30.symm)
              have q42 : h36 98 44 = 0 := (st_at eh36)
              refine g_cV (as := []) (c_X12_stays_98 _ _ _ _ h36 hMh36 (by omega) (by omega) (by omega) (by omega) (EVo.fr (T := [(98, 45)]) Ev2 (Fr.sub hFh36 rfl) rfl)) dX12_value_42 mi_X12_stays in_X12_stays se_X12_stays ml_X12_286 rfl rfl rfl sh_98 rfl rfl (Nat.le_of_ble_eq_true rfl) (fun v43 h44 q45 => ?_)
              obtain ⟨hMh44, hFh44, bv43, cv43, zv43, yv43⟩ := q45
              refine g_if_eq 52 dX12_value_45 (by decide) (fun q46 => ?_) (fun q46 => ?_)
              · skip
                refine g_iconst dX12_value_52 (inR_c rfl) ?_
                refine g_istore_n dX12_value_53 (by decide) rfl ?_
                refine g_goto 7 dX12_value_54 (by decide) ?_
                obtain ⟨v47, ev47⟩ : ∃ z, z = h44 98 36 := ⟨_, rfl⟩
                have bv47 : 0 ≤ v47 ∧ v47 ≤ 200 := by rw [ev47]; exact (m_98_36 hMh44)
                have q48 : h44 98 37 = v2 := ((hFh44 98 37 rfl).trans ((hFh36 98 37 rfl).trans ((hFh4 98 37 rfl).trans ev2.symm)))
                obtain ⟨v49, ev49⟩ : ∃ z, z = h44 98 38 := ⟨_, rfl⟩
                have bv49 : -6000 ≤ v49 ∧ v49 ≤ 0 := by rw [ev49]; exact (m_98_38 hMh44)
                exact ih7 _ _ hMh44 (Fr.tr (Fr.tr (Fr.sub hFh4 rfl) hFh36 rfl) hFh44 rfl) (by omega) (by omega) (by first | exact vl | exact SY_c (by assumption) (by omega) | exact Or.inl (by omega)) (by omega) (by omega) (by omega) (by omega) (by omega)
              · skip
                refine g_iconst dX12_value_48 (inR_c rfl) ?_
                refine g_goto 53 dX12_value_49 (by decide) ?_
                refine g_istore_n dX12_value_53 (by decide) rfl ?_
                refine g_goto 7 dX12_value_54 (by decide) ?_
                obtain ⟨v50, ev50⟩ : ∃ z, z = h44 98 36 := ⟨_, rfl⟩
                have bv50 : 0 ≤ v50 ∧ v50 ≤ 200 := by rw [ev50]; exact (m_98_36 hMh44)
                have q51 : h44 98 37 = v2 := ((hFh44 98 37 rfl).trans ((hFh36 98 37 rfl).trans ((hFh4 98 37 rfl).trans ev2.symm)))
                obtain ⟨v52, ev52⟩ : ∃ z, z = h44 98 38 := ⟨_, rfl⟩
                have bv52 : -6000 ≤ v52 ∧ v52 ≤ 0 := by rw [ev52]; exact (m_98_38 hMh44)
                exact ih7 _ _ hMh44 (Fr.tr (Fr.tr (Fr.sub hFh4 rfl) hFh36 rfl) hFh44 rfl) (by omega) (by omega) (by first | exact vl | exact SY_c (by assumption) (by omega) | exact Or.inl (by omega)) (by omega) (by omega) (by omega) (by omega) (by omega)
            · skip
              exfalso; omega
          · skip
            refine g_aload_n dX12_value_25 rfl ?_
            have q53 : h4 98 38 = v30 := ev30.symm
            have q54 : h4 98 44 = v32 := ev32.symm
            have Ev1 : EVo f gn s g 0 h4 := SY_a e7_0 (by omega) (by omega) (by omega)
            have q55 : h4 98 38 = v30 := ev30.symm
            refine g_cVV (as := []) (c_X12_factor_98 _ _ _ _ h4 hMh4 (by omega) (by omega) Ev1) dX12_value_26 mi_X12_factor in_X12_factor se_X12_factor ml_X12_283 rfl rfl rfl sh_98 rfl rfl (Nat.le_of_ble_eq_true rfl) (fun h56 q57 => ?_)
            obtain ⟨hMh56, hFh56, zh56, z58⟩ := q57
            refine g_aload_n dX12_value_29 rfl ?_
            refine g_iconst dX12_value_30 (inR_c rfl) ?_
            refine pI_X12_279 rfl dX12_value_31 sh_98 (by omega) (fun h59 eh59 => ?_)
            have hFh59 := Fr.st eh59
            have hMh59 := u_98_44 hMh56 eh59 (by omega) (by omega)
            refine g_aload_n dX12_value_34 rfl ?_
            refine g_cVP (as := []) (c_X12_isGood_98  h59 hMh59) dX12_value_35 mi_X12_isGood in_X12_isGood se_X12_isGood ml_X12_220 rfl rfl rfl sh_98 rfl rfl (Nat.le_of_ble_eq_true rfl) (fun v60 q61 => ?_)
            have q62 : h59 98 38 = h56 98 38 := (hFh59 98 38 rfl)
            obtain ⟨v63, ev63⟩ : ∃ z, z = h59 98 38 := ⟨_, rfl⟩
            have bv63 : -6000 ≤ v63 ∧ v63 ≤ 0 := by rw [ev63]; exact (m_98_38 hMh59)
            rcases q61 with ⟨rfl, q61⟩ | ⟨rfl, q61⟩
            · skip
              refine g_if_eq 52 dX12_value_38 (by decide) (fun _ => by exfalso; omega) (fun q64 => ?_)
              refine g_aload_n dX12_value_41 rfl ?_
              have q65 : h59 98 38 = v63 := ev63.symm
              have q66 : h59 98 44 = 0 := (st_at eh59)
              refine g_cV (as := []) (c_X12_stays_98 _ _ _ _ h59 hMh59 (by omega) (by omega) (by omega) (by omega) (EVo.fr (T := [(98, 45)]) z58 (Fr.sub hFh59 rfl) rfl)) dX12_value_42 mi_X12_stays in_X12_stays se_X12_stays ml_X12_286 rfl rfl rfl sh_98 rfl rfl (Nat.le_of_ble_eq_true rfl) (fun v67 h68 q69 => ?_)
              obtain ⟨hMh68, hFh68, bv67, cv67, zv67, yv67⟩ := q69
              refine g_if_eq 52 dX12_value_45 (by decide) (fun q70 => ?_) (fun q70 => ?_)
              · skip
                refine g_iconst dX12_value_52 (inR_c rfl) ?_
                refine g_istore_n dX12_value_53 (by decide) rfl ?_
                refine g_goto 7 dX12_value_54 (by decide) ?_
                obtain ⟨v71, ev71⟩ : ∃ z, z = h68 98 36 := ⟨_, rfl⟩
                have bv71 : 0 ≤ v71 ∧ v71 ≤ 200 := by rw [ev71]; exact (m_98_36 hMh68)
                have q72 : h68 98 37 = v2 := ((hFh68 98 37 rfl).trans ((hFh59 98 37 rfl).trans ((hFh56 98 37 rfl).trans ((hFh4 98 37 rfl).trans ev2.symm))))
                obtain ⟨v73, ev73⟩ : ∃ z, z = h68 98 38 := ⟨_, rfl⟩
                have bv73 : -6000 ≤ v73 ∧ v73 ≤ 0 := by rw [ev73]; exact (m_98_38 hMh68)
                exact ih7 _ _ hMh68 (Fr.tr (Fr.tr (Fr.tr (Fr.sub hFh4 rfl) hFh56 rfl) hFh59 rfl) hFh68 rfl) (by omega) (by omega) (by first | exact vl | exact SY_c (by assumption) (by omega) | exact Or.inl (by omega)) (by omega) (by omega) (by omega) (by omega) (by omega)
              · skip
                refine g_iconst dX12_value_48 (inR_c rfl) ?_
                refine g_goto 53 dX12_value_49 (by decide) ?_
                refine g_istore_n dX12_value_53 (by decide) rfl ?_
                refine g_goto 7 dX12_value_54 (by decide) ?_
                obtain ⟨v74, ev74⟩ : ∃ z, z = h68 98 36 := ⟨_, rfl⟩
                have bv74 : 0 ≤ v74 ∧ v74 ≤ 200 := by rw [ev74]; exact (m_98_36 hMh68)
                have q75 : h68 98 37 = v2 := ((hFh68 98 37 rfl).trans ((hFh59 98 37 rfl).trans ((hFh56 98 37 rfl).trans ((hFh4 98 37 rfl).trans ev2.symm))))
                obtain ⟨v76, ev76⟩ : ∃ z, z = h68 98 38 := ⟨_, rfl⟩
                have bv76 : -6000 ≤ v76 ∧ v76 ≤ 0 := by rw [ev76]; exact (m_98_38 hMh68)
                exact ih7 _ _ hMh68 (Fr.tr (Fr.tr (Fr.tr (Fr.sub hFh4 rfl) hFh56 rfl) hFh59 rfl) hFh68 rfl) (by omega) (by omega) (by first | exact vl | exact SY_c (by assumption) (by omega) | exact Or.inl (by omega)) (by omega) (by omega) (by omega) (by omega) (by omega)
            · skip
              refine g_if_eq 52 dX12_value_38 (by decide) (fun q77 => ?_) (fun _ => by exfalso; omega)
              refine g_iconst dX12_value_52 (inR_c rfl) ?_
              refine g_istore_n dX12_value_53 (by decide) rfl ?_
              refine g_goto 7 dX12_value_54 (by decide) ?_
              have q78 : h59 98 36 = h56 98 36 := (hFh59 98 36 rfl)
              obtain ⟨v79, ev79⟩ : ∃ z, z = h59 98 36 := ⟨_, rfl⟩
              have bv79 : 0 ≤ v79 ∧ v79 ≤ 200 := by rw [ev79]; exact (m_98_36 hMh59)
              have q80 : h59 98 37 = v2 := ((hFh59 98 37 rfl).trans ((hFh56 98 37 rfl).trans ((hFh4 98 37 rfl).trans ev2.symm)))
              have q81 : h59 98 38 = v63 := ev63.symm
              exact ih7 _ _ hMh59 (Fr.tr (Fr.tr (Fr.sub hFh4 rfl) hFh56 rfl) hFh59 rfl) (by omega) (by omega) (by first | exact vl | exact SY_c (by assumption) (by omega) | exact Or.inl (by omega)) (by omega) (by omega) (by omega) (by omega) (by omega)
        · skip
          refine g_if_eq 57 dX12_value_15 (by decide) (fun q82 => ?_) (fun _ => by exfalso; omega)
          refine g_aload_n dX12_value_57 rfl ?_
          refine g_cVP (as := []) (c_X12_isGood_98  h4 hMh4) dX12_value_58 mi_X12_isGood in_X12_isGood se_X12_isGood ml_X12_220 rfl rfl rfl sh_98 rfl rfl (Nat.le_of_ble_eq_true rfl) (fun v83 q84 => ?_)
          have q85 : h4 98 38 = v30 := ev30.symm
          rcases q84 with ⟨rfl, q84⟩ | ⟨rfl, q84⟩
          · skip
            exfalso; omega
          · skip
            refine g_if_eq 82 dX12_value_61 (by decide) (fun q86 => ?_) (fun _ => by exfalso; omega)
            obtain ⟨v87, ev87⟩ : ∃ z, z = h4 98 36 := ⟨_, rfl⟩
            have bv87 : 0 ≤ v87 ∧ v87 ≤ 200 := by rw [ev87]; exact (m_98_36 hMh4)
            have q88 : h4 98 37 = v2 := ((hFh4 98 37 rfl).trans ev2.symm)
            have q89 : h4 98 38 = v30 := ev30.symm
            have vp : VPo f gn s g h4 := (by first | exact Or.inl (by omega) | exact VP_end (SY_e e7_0 (by omega) (by omega)).1 (SY_e e7_0 (by omega) (by omega)).2 (by omega))
            exact g_return dX12_value_82 rfl (hPo _ ⟨hMh4, (Fr.sub hFh4 rfl), vp, (by omega), (by omega)⟩)
  refine pI_X12_279 rfl dX12_value_4 sh_98 (by omega) (fun h90 eh90 => ?_)
  have hFh90 := Fr.st eh90
  have hMh90 := u_98_44 hM eh90 (by omega) (by omega)
  have q91 : h90 98 44 = 0 := (st_at eh90)
  have q92 : h90 98 38 = w98_38 := ((hFh90 98 38 rfl).trans ew98_38.symm)
  have vl : SYo f gn s g 1 h90 := Or.inr (Or.inl ⟨rfl, by omega, ((EVo.fr (T := [(98, 45)]) f_E0 (Fr.sub hFh90 rfl) rfl)).good (by omega)⟩)
  have q93 : h90 98 36 = v1 := ((hFh90 98 36 rfl).trans ev1.symm)
  have q94 : h90 98 37 = v2 := ((hFh90 98 37 rfl).trans ev2.symm)
  have q95 : h90 98 38 = w98_38 := ((hFh90 98 38 rfl).trans ew98_38.symm)
  exact c7 402 _ _ hMh90 (Fr.sub hFh90 rfl) (by omega) (by omega) (by first | exact vl | exact SY_c (by assumption) (by omega) | exact Or.inl (by omega)) (by omega) (by omega) (by omega) (by omega) (by omega)
set_option maxRecDepth 100000 in
set_option maxHeartbeats 4000000 in
theorem c_X12_joins_98 (x1 : Int) (f : Int) (gn : Nat → Int) (h : MEM) (hM : MBm h) (bx1 : 0 ≤ x1) (dx1 : x1 ≤ 1) (p0_0 : 0 ≤ h 98 38) (p0_1 : h 98 38 ≤ 0) (f_C1 : CVo f gn 1 h) : CV yX12_joins cX12_joins 2 (none) 3 [pR 98, pI x1] h (fun h' => MBm h' ∧ Fr [(98, 41), (98, 43), (125, 0), (126, 0)] h h' ∧ (TP h' ≠ 38 ∧ (x1 = 0 ∨ TP h' ≠ 124)) ∧ CVo f gn 1 h') := by
  refine CV.of (L0 := [some (pR 98), some (pI x1)]) rfl (Nat.le_of_ble_eq_true rfl) rfl (fun Po hPo hav => ?_)
  obtain ⟨w98_38, ew98_38⟩ : ∃ z, z = h 98 38 := ⟨_, rfl⟩
  obtain ⟨v1, ev1⟩ : ∃ z, z = h 98 37 := ⟨_, rfl⟩
  have bv1 : 0 ≤ v1 ∧ v1 ≤ 200 := by rw [ev1]; exact (m_98_37 hM)
  obtain ⟨v2, ev2⟩ : ∃ z, z = h 98 36 := ⟨_, rfl⟩
  have bv2 : 0 ≤ v2 ∧ v2 ≤ 200 := by rw [ev2]; exact (m_98_36 hM)
  have c0 : ∀ (n : Nat) (h3 : MEM), MBm h3 → Fr [(98, 41), (98, 43), (125, 0), (126, 0)] h h3 → CVo f gn 1 h3 → 0 ≤ h3 98 42 → h3 98 42 < (n : Int) → G yX12_joins cX12_joins 2 (none) none Po (3, 180, 0, 0) 0 [some (pR 98), some (pI x1)] [] SH h3 0 0 := by
    intro n
    induction n with
    | zero =>
      intro h3 hMh3 hFh3 e0_0 e0_1 hn
      exfalso; omega
    | succ n ih0 =>
      intro h3 hMh3 hFh3 e0_0 e0_1 hn
      refine g_aload_n dX12_joins_0 rfl ?_
      refine g_cVP (as := []) (c_X12_top_98  h3 hMh3) dX12_joins_1 mi_X12_top in_X12_top se_X12_top ml_X12_254 rfl rfl rfl sh_98 rfl rfl (Nat.le_of_ble_eq_true rfl) (fun v4 q5 => ?_)
      obtain ⟨bv4, cv4, zv4, yv4⟩ := q5
      refine g_bipush dX12_joins_4 (inR_c rfl) (by decide) ?_
      refine g_icmp_eq 22 dX12_joins_6 (by decide) (fun q6 => ?_) (fun q6 => ?_)
      · skip
        refine g_aload_n dX12_joins_22 rfl ?_
        refine g_aload_n dX12_joins_23 rfl ?_
        refine g_cVP (as := []) (c_X12_top_98  h3 hMh3) dX12_joins_24 mi_X12_top in_X12_top se_X12_top ml_X12_254 rfl rfl rfl sh_98 rfl rfl (Nat.le_of_ble_eq_true rfl) (fun v7 q8 => ?_)
        obtain ⟨bv7, cv7, zv7, yv7⟩ := q8
        have tv7 : v7 = v4 := by rw [zv7, zv4]
        refine g_iconst dX12_joins_27 (inR_c rfl) ?_
        have Ev1 := e0_0
        have q9 : h3 98 38 = w98_38 := ((hFh3 98 38 rfl).trans ew98_38.symm)
        obtain ⟨v10, ev10⟩ : ∃ z, z = h3 98 42 := ⟨_, rfl⟩
        have bv10 : 0 ≤ v10 ∧ v10 ≤ 200 := by rw [ev10]; exact (m_98_42 hMh3)
        have q11 : h3 98 37 = v1 := ((hFh3 98 37 rfl).trans ev1.symm)
        have q12 : h3 98 36 = v2 := ((hFh3 98 36 rfl).trans ev2.symm)
        obtain ⟨v13, ev13⟩ : ∃ z, z = h3 98 40 := ⟨_, rfl⟩
        have bv13 : 0 ≤ v13 ∧ v13 ≤ 200 := by rw [ev13]; exact (m_98_40 hMh3)
        have lv := CVo.lin Ev1 (by omega)
        have q14 : h3 98 38 = w98_38 := ((hFh3 98 38 rfl).trans ew98_38.symm)
        have q15 : h3 98 40 = v13 := ev13.symm
        have q16 : h3 98 37 = v1 := ((hFh3 98 37 rfl).trans ev1.symm)
        refine g_cVV (as := [_, _]) (c_X12_emit_98 _ _ h3 hMh3 (by omega) (by omega) (by omega) (by omega) (by omega)) dX12_joins_28 mi_X12_emit in_X12_emit se_X12_emit ml_X12_263 rfl rfl rfl sh_98 rfl rfl (Nat.le_of_ble_eq_true rfl) (fun h17 q18 => ?_)
        obtain ⟨hMh17, hFh17, zh17⟩ := q18
        refine g_aload_n dX12_joins_31 rfl ?_
        have eS : h17 98 42 = h3 98 42 := (hFh17 98 42 rfl)
        refine g_dup dX12_joins_32 rfl ?_
        refine gE_X12_227 rfl dX12_joins_33 sh_98 ((hFh17 98 42 rfl).trans ev10.symm) ?_
        have a33 : 1 ≤ v10 ∧ v10 ≤ 200 := (by omega)
        refine g_iconst dX12_joins_36 (inR_c rfl) ?_
        refine g_isubB dX12_joins_37 (by omega) (by omega) ?_
        refine pI_X12_227 rfl dX12_joins_38 sh_98 (fun h19 eh19 => ?_)
        have hFh19 := Fr.st eh19
        have hMh19 := u_98_42 hMh17 eh19 (by omega) (by omega)
        have eC : h19 98 40 = h17 98 40 := (hFh19 98 40 rfl)
        have fN : ∀ j, h19 125 j = h17 125 j := fun j => (hFh19 125 j rfl)
        have fS : ∀ j, h19 127 j = h3 127 j := fun j => ((hFh19 127 j rfl).trans (hFh17 127 j rfl))
        have eP : h19 98 36 = h3 98 36 := ((hFh19 98 36 rfl).trans (hFh17 98 36 rfl))
        have eE : h19 98 37 = h3 98 37 := ((hFh19 98 37 rfl).trans (hFh17 98 37 rfl))
        have q20 : h19 98 42 = (v10 - 1) := (st_at eh19)
        have Ev2 : CVo f gn 1 h19 := C_op Ev1 (by omega) (by assumption) (by omega) (by omega) eC fN (by omega) fS eP eE
        refine g_goto 0 dX12_joins_41 (by decide) ?_
        have q21 : h19 98 42 = (v10 - 1) := (st_at eh19)
        exact ih0 _ hMh19 (Fr.tr (Fr.tr (Fr.sub hFh3 rfl) hFh17 rfl) hFh19 rfl) Ev2 (by omega) (by omega)
      · skip
        refine g_iload_n dX12_joins_9 rfl (fun _ => ?_)
        refine g_if_eq 44 dX12_joins_10 (by decide) (fun q22 => ?_) (fun q22 => ?_)
        · skip
          exact g_return dX12_joins_44 rfl (hPo _ ⟨hMh3, (Fr.sub hFh3 rfl), (by omega), e0_0⟩)
        · skip
          refine g_aload_n dX12_joins_13 rfl ?_
          refine g_cVP (as := []) (c_X12_top_98  h3 hMh3) dX12_joins_14 mi_X12_top in_X12_top se_X12_top ml_X12_254 rfl rfl rfl sh_98 rfl rfl (Nat.le_of_ble_eq_true rfl) (fun v23 q24 => ?_)
          obtain ⟨bv23, cv23, zv23, yv23⟩ := q24
          have tv23 : v23 = v4 := by rw [zv23, zv4]
          refine g_bipush dX12_joins_17 (inR_c rfl) (by decide) ?_
          refine g_icmp_ne 44 dX12_joins_19 (by decide) (fun q25 => ?_) (fun q25 => ?_)
          · skip
            exact g_return dX12_joins_44 rfl (hPo _ ⟨hMh3, (Fr.sub hFh3 rfl), (by omega), e0_0⟩)
          · skip
            refine g_aload_n dX12_joins_22 rfl ?_
            refine g_aload_n dX12_joins_23 rfl ?_
            refine g_cVP (as := []) (c_X12_top_98  h3 hMh3) dX12_joins_24 mi_X12_top in_X12_top se_X12_top ml_X12_254 rfl rfl rfl sh_98 rfl rfl (Nat.le_of_ble_eq_true rfl) (fun v26 q27 => ?_)
            obtain ⟨bv26, cv26, zv26, yv26⟩ := q27
            have tv26 : v26 = v4 := by rw [zv26, zv4]
            refine g_iconst dX12_joins_27 (inR_c rfl) ?_
            have Ev1 := e0_0
            have q28 : h3 98 38 = w98_38 := ((hFh3 98 38 rfl).trans ew98_38.symm)
            obtain ⟨v29, ev29⟩ : ∃ z, z = h3 98 42 := ⟨_, rfl⟩
            have bv29 : 0 ≤ v29 ∧ v29 ≤ 200 := by rw [ev29]; exact (m_98_42 hMh3)
            have q30 : h3 98 37 = v1 := ((hFh3 98 37 rfl).trans ev1.symm)
            have q31 : h3 98 36 = v2 := ((hFh3 98 36 rfl).trans ev2.symm)
            obtain ⟨v32, ev32⟩ : ∃ z, z = h3 98 40 := ⟨_, rfl⟩
            have bv32 : 0 ≤ v32 ∧ v32 ≤ 200 := by rw [ev32]; exact (m_98_40 hMh3)
            have lv := CVo.lin Ev1 (by omega)
            have q33 : h3 98 38 = w98_38 := ((hFh3 98 38 rfl).trans ew98_38.symm)
            have q34 : h3 98 40 = v32 := ev32.symm
            have q35 : h3 98 37 = v1 := ((hFh3 98 37 rfl).trans ev1.symm)
            refine g_cVV (as := [_, _]) (c_X12_emit_98 _ _ h3 hMh3 (by omega) (by omega) (by omega) (by omega) (by omega)) dX12_joins_28 mi_X12_emit in_X12_emit se_X12_emit ml_X12_263 rfl rfl rfl sh_98 rfl rfl (Nat.le_of_ble_eq_true rfl) (fun h36 q37 => ?_)
            obtain ⟨hMh36, hFh36, zh36⟩ := q37
            refine g_aload_n dX12_joins_31 rfl ?_
            have eS : h36 98 42 = h3 98 42 := (hFh36 98 42 rfl)
            refine g_dup dX12_joins_32 rfl ?_
            refine gE_X12_227 rfl dX12_joins_33 sh_98 ((hFh36 98 42 rfl).trans ev29.symm) ?_
            have a33 : 1 ≤ v29 ∧ v29 ≤ 200 := (by omega)
            refine g_iconst dX12_joins_36 (inR_c rfl) ?_
            refine g_isubB dX12_joins_37 (by omega) (by omega) ?_
            refine pI_X12_227 rfl dX12_joins_38 sh_98 (fun h38 eh38 => ?_)
            have hFh38 := Fr.st eh38
            have hMh38 := u_98_42 hMh36 eh38 (by omega) (by omega)
            have eC : h38 98 40 = h36 98 40 := (hFh38 98 40 rfl)
            have fN : ∀ j, h38 125 j = h36 125 j := fun j => (hFh38 125 j rfl)
            have fS : ∀ j, h38 127 j = h3 127 j := fun j => ((hFh38 127 j rfl).trans (hFh36 127 j rfl))
            have eP : h38 98 36 = h3 98 36 := ((hFh38 98 36 rfl).trans (hFh36 98 36 rfl))
            have eE : h38 98 37 = h3 98 37 := ((hFh38 98 37 rfl).trans (hFh36 98 37 rfl))
            have q39 : h38 98 42 = (v29 - 1) := (st_at eh38)
            have Ev2 : CVo f gn 1 h38 := C_op Ev1 (by omega) (by assumption) (by omega) (by omega) eC fN (by omega) fS eP eE
            refine g_goto 0 dX12_joins_41 (by decide) ?_
            have q40 : h38 98 42 = (v29 - 1) := (st_at eh38)
            exact ih0 _ hMh38 (Fr.tr (Fr.tr (Fr.sub hFh3 rfl) hFh36 rfl) hFh38 rfl) Ev2 (by omega) (by omega)
  obtain ⟨v41, ev41⟩ : ∃ z, z = h 98 42 := ⟨_, rfl⟩
  have bv41 : 0 ≤ v41 ∧ v41 ≤ 200 := by rw [ev41]; exact (m_98_42 hM)
  exact c0 201 _ hM Fr.rf f_C1 (by omega) (by omega)
set_option maxRecDepth 100000 in
set_option maxHeartbeats 4000000 in
theorem c_X12_ends_98 (f : Int) (gn : Nat → Int) (h : MEM) (hM : MBm h) (p0_0 : 0 ≤ h 98 38) (p0_1 : h 98 38 ≤ 0) (f_C1 : CVo f gn 1 h) : CV yX12_ends cX12_ends 1 (none) 3 [pR 98] h (fun h' => MBm h' ∧ Fr [(98, 41), (98, 42), (98, 43), (125, 0), (126, 0)] h h' ∧ CVo f gn 1 h') := by
  refine CV.of (L0 := [some (pR 98)]) rfl (Nat.le_of_ble_eq_true rfl) rfl (fun Po hPo hav => ?_)
  obtain ⟨w98_38, ew98_38⟩ : ∃ z, z = h 98 38 := ⟨_, rfl⟩
  obtain ⟨v1, ev1⟩ : ∃ z, z = h 98 37 := ⟨_, rfl⟩
  have bv1 : 0 ≤ v1 ∧ v1 ≤ 200 := by rw [ev1]; exact (m_98_37 hM)
  obtain ⟨v2, ev2⟩ : ∃ z, z = h 98 36 := ⟨_, rfl⟩
  have bv2 : 0 ≤ v2 ∧ v2 ≤ 200 := by rw [ev2]; exact (m_98_36 hM)
  have c0 : ∀ (n : Nat) (h3 : MEM), MBm h3 → Fr [(98, 41), (98, 42), (98, 43), (125, 0), (126, 0)] h h3 → CVo f gn 1 h3 → 0 ≤ h3 98 42 → h3 98 42 < (n : Int) → G yX12_ends cX12_ends 1 (none) none Po (3, 180, 0, 0) 0 [some (pR 98)] [] SH h3 0 0 := by
    intro n
    induction n with
    | zero =>
      intro h3 hMh3 hFh3 e0_0 e0_1 hn
      exfalso; omega
    | succ n ih0 =>
      intro h3 hMh3 hFh3 e0_0 e0_1 hn
      refine g_aload_n dX12_ends_0 rfl ?_
      refine g_cVP (as := []) (c_X12_top_98  h3 hMh3) dX12_ends_1 mi_X12_top in_X12_top se_X12_top ml_X12_254 rfl rfl rfl sh_98 rfl rfl (Nat.le_of_ble_eq_true rfl) (fun v4 q5 => ?_)
      obtain ⟨bv4, cv4, zv4, yv4⟩ := q5
      refine g_bipush dX12_ends_4 (inR_c rfl) (by decide) ?_
      refine g_icmp_ne 38 dX12_ends_6 (by decide) (fun q6 => ?_) (fun q6 => ?_)
      · skip
        exact g_return dX12_ends_38 rfl (hPo _ ⟨hMh3, (Fr.sub hFh3 rfl), e0_0⟩)
      · skip
        refine g_aload_n dX12_ends_9 rfl ?_
        refine g_iconst dX12_ends_10 (inR_c rfl) ?_
        refine g_iconst dX12_ends_11 (inR_c rfl) ?_
        have Ev1 := e0_0
        have q7 : h3 98 38 = w98_38 := ((hFh3 98 38 rfl).trans ew98_38.symm)
        obtain ⟨v8, ev8⟩ : ∃ z, z = h3 98 42 := ⟨_, rfl⟩
        have bv8 : 0 ≤ v8 ∧ v8 ≤ 200 := by rw [ev8]; exact (m_98_42 hMh3)
        have q9 : h3 98 37 = v1 := ((hFh3 98 37 rfl).trans ev1.symm)
        have q10 : h3 98 36 = v2 := ((hFh3 98 36 rfl).trans ev2.symm)
        obtain ⟨v11, ev11⟩ : ∃ z, z = h3 98 40 := ⟨_, rfl⟩
        have bv11 : 0 ≤ v11 ∧ v11 ≤ 200 := by rw [ev11]; exact (m_98_40 hMh3)
        have lv := CVo.lin Ev1 (by omega)
        have q12 : h3 98 38 = w98_38 := ((hFh3 98 38 rfl).trans ew98_38.symm)
        have q13 : h3 98 40 = v11 := ev11.symm
        have q14 : h3 98 37 = v1 := ((hFh3 98 37 rfl).trans ev1.symm)
        refine g_cVV (as := [_, _]) (c_X12_emit_98 _ _ h3 hMh3 (by omega) (by omega) (by omega) (by omega) (by omega)) dX12_ends_12 mi_X12_emit in_X12_emit se_X12_emit ml_X12_263 rfl rfl rfl sh_98 rfl rfl (Nat.le_of_ble_eq_true rfl) (fun h15 q16 => ?_)
        obtain ⟨hMh15, hFh15, zh15⟩ := q16
        refine g_aload_n dX12_ends_15 rfl ?_
        have eS : h15 98 42 = h3 98 42 := (hFh15 98 42 rfl)
        refine g_dup dX12_ends_16 rfl ?_
        refine gE_X12_227 rfl dX12_ends_17 sh_98 ((hFh15 98 42 rfl).trans ev8.symm) ?_
        have a17 : 1 ≤ v8 ∧ v8 ≤ 200 := (by omega)
        refine g_iconst dX12_ends_20 (inR_c rfl) ?_
        refine g_isubB dX12_ends_21 (by omega) (by omega) ?_
        refine pI_X12_227 rfl dX12_ends_22 sh_98 (fun h17 eh17 => ?_)
        have hFh17 := Fr.st eh17
        have hMh17 := u_98_42 hMh15 eh17 (by omega) (by omega)
        have eC : h17 98 40 = h15 98 40 := (hFh17 98 40 rfl)
        have fN : ∀ j, h17 125 j = h15 125 j := fun j => (hFh17 125 j rfl)
        have fS : ∀ j, h17 127 j = h3 127 j := fun j => ((hFh17 127 j rfl).trans (hFh15 127 j rfl))
        have eP : h17 98 36 = h3 98 36 := ((hFh17 98 36 rfl).trans (hFh15 98 36 rfl))
        have eE : h17 98 37 = h3 98 37 := ((hFh17 98 37 rfl).trans (hFh15 98 37 rfl))
        have q18 : h17 98 42 = (v8 - 1) := (st_at eh17)
        have Ev2 : CVo f gn 1 h17 := C_not Ev1 (by omega) (by assumption) (by omega) eC fN (by omega) fS eP eE
        refine g_aload_n dX12_ends_25 rfl ?_
        refine g_dup dX12_ends_26 rfl ?_
        refine gI_X12_230 rfl dX12_ends_27 sh_98 (m_98_41 hMh17) (fun v19 ev19 bv19 cv19 => ?_)
        refine g_iconst dX12_ends_30 (inR_c rfl) ?_
        refine g_isubF dX12_ends_31 (fun v20 bv20 cv20 => ?_)
        refine pI_X12_230 rfl dX12_ends_32 sh_98 (fun h21 eh21 => ?_)
        have hFh21 := Fr.st eh21
        have hMh21 := u_98_41 hMh17 eh21 (by omega) (by omega)
        refine g_goto 0 dX12_ends_35 (by decide) ?_
        have q22 : h21 98 42 = (v8 - 1) := ((hFh21 98 42 rfl).trans (st_at eh17))
        exact ih0 _ hMh21 (Fr.tr (Fr.tr (Fr.tr (Fr.sub hFh3 rfl) hFh15 rfl) hFh17 rfl) hFh21 rfl) (CVo.fr (T := [(98, 42)]) Ev2 (Fr.sub hFh21 rfl) rfl) (by omega) (by omega)
  obtain ⟨v23, ev23⟩ : ∃ z, z = h 98 42 := ⟨_, rfl⟩
  have bv23 : 0 ≤ v23 ∧ v23 ≤ 200 := by rw [ev23]; exact (m_98_42 hM)
  exact c0 201 _ hM Fr.rf f_C1 (by omega) (by omega)
set_option maxRecDepth 100000 in
set_option maxHeartbeats 4000000 in
theorem c_X12_goesBehind_98 (f : Int) (gn : Nat → Int) (h : MEM) (hM : MBm h) (p0_0 : 0 ≤ h 98 38) (p0_1 : h 98 38 ≤ 0) (p1_0 : 0 ≤ h 98 43) (p1_1 : h 98 43 ≤ 0) (f_C1 : CVo f gn 1 h) : CI yX12_goesBehind cX12_goesBehind 2 (some .boolean) 4 [pR 98] h (fun x h' => MBm h' ∧ Fr [(98, 37), (98, 39), (98, 41), (98, 42), (98, 43), (98, 44), (125, 0), (126, 0), (127, 0)] h h' ∧ 0 ≤ x ∧ x ≤ 1 ∧ GBo f gn x h' ∧ h 98 36 ≤ h' 98 36 ∧ (h' 98 38 < 0 ∨ h 98 36 + 1 ≤ h' 98 36) ∧ h' 98 36 ≤ h' 98 37) := by
  refine CI.of (L0 := [some (pR 98), none]) rfl (Nat.le_of_ble_eq_true rfl) rfl (fun Po hPo hav => ?_)
  obtain ⟨w98_38, ew98_38⟩ : ∃ z, z = h 98 38 := ⟨_, rfl⟩
  obtain ⟨w98_43, ew98_43⟩ : ∃ z, z = h 98 43 := ⟨_, rfl⟩
  obtain ⟨v1, ev1⟩ : ∃ z, z = h 98 36 := ⟨_, rfl⟩
  have bv1 : 0 ≤ v1 ∧ v1 ≤ 200 := by rw [ev1]; exact (m_98_36 hM)
  obtain ⟨v2, ev2⟩ : ∃ z, z = h 98 37 := ⟨_, rfl⟩
  have bv2 : 0 ≤ v2 ∧ v2 ≤ 200 := by rw [ev2]; exact (m_98_37 hM)
  refine g_aload_n dX12_goesBehind_0 rfl ?_
  refine g_cVP (as := []) (c_X12_here_98  h hM) dX12_goesBehind_1 mi_X12_here in_X12_here se_X12_here ml_X12_237 rfl rfl rfl sh_98 rfl rfl (Nat.le_of_ble_eq_true rfl) (fun v3 q4 => ?_)
  obtain ⟨bv3, cv3, zv3, yv3⟩ := q4
  refine g_istore_n dX12_goesBehind_4 (by decide) rfl ?_
  refine g_iload_n dX12_goesBehind_5 rfl (fun _ => ?_)
  refine g_bipush dX12_goesBehind_6 (inR_c rfl) (by decide) ?_
  refine g_icmp_eq 17 dX12_goesBehind_8 (by decide) (fun q5 => ?_) (fun q5 => ?_)
  · skip
    refine g_aload_n dX12_goesBehind_17 rfl ?_
    refine g_iload_n dX12_goesBehind_18 rfl (fun _ => ?_)
    refine g_bipush dX12_goesBehind_19 (inR_c rfl) (by decide) ?_
    refine g_icmp_ne 28 dX12_goesBehind_21 (by decide) (fun q6 => ?_) (fun _ => by exfalso; omega)
    refine g_iconst dX12_goesBehind_28 (inR_c rfl) ?_
    have q7 : h 98 38 = w98_38 := ew98_38.symm
    refine g_cVV (as := [_]) (c_X12_joins_98 _ _ _ h hM (by omega) (by omega) (by omega) (by omega) f_C1) dX12_goesBehind_29 mi_X12_joins in_X12_joins se_X12_joins ml_X12_298 rfl rfl rfl sh_98 rfl rfl (Nat.le_of_ble_eq_true rfl) (fun h8 q9 => ?_)
    obtain ⟨hMh8, hFh8, zh8, z10⟩ := q9
    refine g_aload_n dX12_goesBehind_32 rfl ?_
    refine g_iload_n dX12_goesBehind_33 rfl (fun _ => ?_)
    have Cv1 := z10
    have q11 : h8 98 38 = w98_38 := ((hFh8 98 38 rfl).trans ew98_38.symm)
    obtain ⟨v12, ev12⟩ : ∃ z, z = h8 98 42 := ⟨_, rfl⟩
    have bv12 : 0 ≤ v12 ∧ v12 ≤ 200 := by rw [ev12]; exact (m_98_42 hMh8)
    have q13 : h8 98 37 = v2 := ((hFh8 98 37 rfl).trans ev2.symm)
    have q14 : h8 98 36 = v1 := ((hFh8 98 36 rfl).trans ev1.symm)
    obtain ⟨v15, ev15⟩ : ∃ z, z = h8 98 40 := ⟨_, rfl⟩
    have bv15 : 0 ≤ v15 ∧ v15 ≤ 200 := by rw [ev15]; exact (m_98_40 hMh8)
    have lv := CVo.lin Cv1 (by omega)
    have q16 : h8 98 42 = v12 := ev12.symm
    have q17 : h8 98 36 = v1 := ((hFh8 98 36 rfl).trans ev1.symm)
    have q18 : h8 98 42 = v12 := ev12.symm
    have q19 : h8 98 36 = v1 := ((hFh8 98 36 rfl).trans ev1.symm)
    refine g_cVV (as := [_]) (c_X12_puts_98 _ h8 hMh8 (by omega) (by omega) (by omega) (by omega) (by omega) (by omega)) dX12_goesBehind_34 mi_X12_puts in_X12_puts se_X12_puts ml_X12_241 rfl rfl rfl sh_98 rfl rfl (Nat.le_of_ble_eq_true rfl) (fun h20 q21 => ?_)
    obtain ⟨hMh20, hFh20, zh20, z22, z23⟩ := q21
    have kz22 : h20 98 42 = (v12 + 1) := by omega
    have kz23 : h20 98 36 = (v1 + 1) := by omega
    have q24 : h20 98 38 = w98_38 := ((hFh20 98 38 rfl).trans ((hFh8 98 38 rfl).trans ew98_38.symm))
    have q25 : h20 98 43 = w98_43 := ((hFh20 98 43 rfl).trans ((hFh8 98 43 rfl).trans ew98_43.symm))
    have gb : GBo f gn 1 h20 := Or.inr (Or.inl ⟨rfl, by omega, C_bin Cv1 (by omega) (by assumption) (by omega) (by omega) (by omega) (by omega) (hFh20 98 40 rfl) (hFh20 98 37 rfl) (fun j => hFh20 125 j rfl)⟩)
    refine g_iconst dX12_goesBehind_37 (inR_c rfl) ?_
    have q26 : h20 98 36 = (v1 + 1) := kz23
    have q27 : h20 98 37 = v2 := ((hFh20 98 37 rfl).trans ((hFh8 98 37 rfl).trans ev2.symm))
    have q28 : h20 98 38 = w98_38 := ((hFh20 98 38 rfl).trans ((hFh8 98 38 rfl).trans ew98_38.symm))
    have q29 : h20 98 43 = w98_43 := ((hFh20 98 43 rfl).trans ((hFh8 98 43 rfl).trans ew98_43.symm))
    have q30 : h20 98 42 = (v12 + 1) := kz22
    have gc : GBo f gn 1 h20 := (by first | exact gb | exact Or.inr (Or.inr (Or.inr ⟨by omega, cc.1.fr0 (T := [(98, 44)]) (by assumption) rfl⟩)) | exact Or.inr (Or.inr (Or.inl ⟨rfl, by omega, CVo.good (by assumption) (by omega)⟩)))
    exact g_ireturn dX12_goesBehind_38 (retZ (by omega)) (hPo _ _ ⟨hMh20, (Fr.tr (Fr.sub hFh8 rfl) hFh20 rfl), (by omega), (by omega), gc, (by omega), (by omega), (by omega)⟩)
  · skip
    refine g_iload_n dX12_goesBehind_11 rfl (fun _ => ?_)
    refine g_bipush dX12_goesBehind_12 (inR_c rfl) (by decide) ?_
    refine g_icmp_ne 39 dX12_goesBehind_14 (by decide) (fun q31 => ?_) (fun q31 => ?_)
    · skip
      refine g_iload_n dX12_goesBehind_39 rfl (fun _ => ?_)
      refine g_bipush dX12_goesBehind_40 (inR_c rfl) (by decide) ?_
      refine g_icmp_eq 56 dX12_goesBehind_42 (by decide) (fun q32 => ?_) (fun q32 => ?_)
      · skip
        refine g_aload_n dX12_goesBehind_56 rfl ?_
        refine g_iconst dX12_goesBehind_57 (inR_c rfl) ?_
        have q33 : h 98 38 = w98_38 := ew98_38.symm
        refine g_cVV (as := [_]) (c_X12_joins_98 _ _ _ h hM (by omega) (by omega) (by omega) (by omega) f_C1) dX12_goesBehind_58 mi_X12_joins in_X12_joins se_X12_joins ml_X12_298 rfl rfl rfl sh_98 rfl rfl (Nat.le_of_ble_eq_true rfl) (fun h34 q35 => ?_)
        obtain ⟨hMh34, hFh34, zh34, z36⟩ := q35
        refine g_aload_n dX12_goesBehind_61 rfl ?_
        have Cv1 := z36
        have q37 : h34 98 38 = w98_38 := ((hFh34 98 38 rfl).trans ew98_38.symm)
        obtain ⟨v38, ev38⟩ : ∃ z, z = h34 98 42 := ⟨_, rfl⟩
        have bv38 : 0 ≤ v38 ∧ v38 ≤ 200 := by rw [ev38]; exact (m_98_42 hMh34)
        have q39 : h34 98 37 = v2 := ((hFh34 98 37 rfl).trans ev2.symm)
        have q40 : h34 98 36 = v1 := ((hFh34 98 36 rfl).trans ev1.symm)
        obtain ⟨v41, ev41⟩ : ∃ z, z = h34 98 40 := ⟨_, rfl⟩
        have bv41 : 0 ≤ v41 ∧ v41 ≤ 200 := by rw [ev41]; exact (m_98_40 hMh34)
        have lv := CVo.lin Cv1 (by omega)
        refine g_dup dX12_goesBehind_62 rfl ?_
        refine gE_X12_227 rfl dX12_goesBehind_63 sh_98 ev38.symm ?_
        have a63 : 1 ≤ v38 ∧ v38 ≤ 200 := (by omega)
        refine g_iconst dX12_goesBehind_66 (inR_c rfl) ?_
        refine g_isubB dX12_goesBehind_67 (by omega) (by omega) ?_
        refine pI_X12_227 rfl dX12_goesBehind_68 sh_98 (fun h42 eh42 => ?_)
        have hFh42 := Fr.st eh42
        have hMh42 := u_98_42 hMh34 eh42 (by omega) (by omega)
        refine g_aload_n dX12_goesBehind_71 rfl ?_
        refine g_dup dX12_goesBehind_72 rfl ?_
        refine gI_X12_230 rfl dX12_goesBehind_73 sh_98 (m_98_41 hMh42) (fun v43 ev43 bv43 cv43 => ?_)
        refine g_iconst dX12_goesBehind_76 (inR_c rfl) ?_
        refine g_isubF dX12_goesBehind_77 (fun v44 bv44 cv44 => ?_)
        refine pI_X12_230 rfl dX12_goesBehind_78 sh_98 (fun h45 eh45 => ?_)
        have hFh45 := Fr.st eh45
        have hMh45 := u_98_41 hMh42 eh45 (by omega) (by omega)
        refine g_aload_n dX12_goesBehind_81 rfl ?_
        refine g_dup dX12_goesBehind_82 rfl ?_
        refine gE_X12_211 rfl dX12_goesBehind_83 sh_98 ((hFh45 98 36 rfl).trans ((hFh42 98 36 rfl).trans ((hFh34 98 36 rfl).trans ev1.symm))) ?_
        have a83 : 0 ≤ v1 ∧ v1 ≤ 199 := (by omega)
        refine g_iconst dX12_goesBehind_86 (inR_c rfl) ?_
        refine g_iaddB dX12_goesBehind_87 (by omega) (by omega) ?_
        refine pI_X12_211 rfl dX12_goesBehind_88 sh_98 (fun h46 eh46 => ?_)
        have hFh46 := Fr.st eh46
        have hMh46 := u_98_36 hMh45 eh46 (by omega) (by omega)
        have q47 : h46 98 42 = (v38 - 1) := ((hFh46 98 42 rfl).trans ((hFh45 98 42 rfl).trans (st_at eh42)))
        have q48 : h46 98 36 = (v1 + 1) := (st_at eh46)
        have q49 : h46 98 38 = w98_38 := ((hFh46 98 38 rfl).trans ((hFh45 98 38 rfl).trans ((hFh42 98 38 rfl).trans ((hFh34 98 38 rfl).trans ew98_38.symm))))
        have fS : ∀ j, h46 127 j = h34 127 j := fun j => ((hFh46 127 j rfl).trans ((hFh45 127 j rfl).trans (hFh42 127 j rfl)))
        have fN : ∀ j, h46 125 j = h34 125 j := fun j => ((hFh46 125 j rfl).trans ((hFh45 125 j rfl).trans (hFh42 125 j rfl)))
        have eC : h46 98 40 = h34 98 40 := ((hFh46 98 40 rfl).trans ((hFh45 98 40 rfl).trans (hFh42 98 40 rfl)))
        have eE : h46 98 37 = h34 98 37 := ((hFh46 98 37 rfl).trans ((hFh45 98 37 rfl).trans (hFh42 98 37 rfl)))
        have cc := C_close Cv1 (by omega) (by omega) (by omega) (by omega) fS (by omega) eC eE fN
        refine g_aload_n dX12_goesBehind_91 rfl ?_
        refine g_aload_n dX12_goesBehind_92 rfl ?_
        refine gE_X12_227 rfl dX12_goesBehind_93 sh_98 ((hFh46 98 42 rfl).trans ((hFh45 98 42 rfl).trans (st_at eh42))) ?_
        refine g_if_ne 103 dX12_goesBehind_96 (by decide) (fun q50 => ?_) (fun q50 => ?_)
        · skip
          refine g_iconst dX12_goesBehind_103 (inR_c rfl) ?_
          refine pI_X12_301 rfl dX12_goesBehind_104 sh_98 (by omega) (fun h51 eh51 => ?_)
          have hFh51 := Fr.st eh51
          have hMh51 := u_98_43 hMh46 eh51 (by omega) (by omega)
          refine g_aload_n dX12_goesBehind_107 rfl ?_
          refine gE_X12_301 rfl dX12_goesBehind_108 sh_98 (st_at eh51) ?_
          refine g_if_ne 118 dX12_goesBehind_111 (by decide) (fun _ => by exfalso; omega) (fun q52 => ?_)
          refine g_aload_n dX12_goesBehind_114 rfl ?_
          have q53 : h51 98 42 = (v38 - 1) := ((hFh51 98 42 rfl).trans ((hFh46 98 42 rfl).trans ((hFh45 98 42 rfl).trans (st_at eh42))))
          have Cv2 : CVo f gn 1 h51 := Or.inr ⟨cc.1.fr0 (T := [(98, 44)]) hFh51 rfl, (cc.2.resolve_left (by omega)).eq (fun j => hFh51 127 j rfl) (hFh51 98 42 rfl)⟩
          have q54 : h51 98 38 = w98_38 := ((hFh51 98 38 rfl).trans ((hFh46 98 38 rfl).trans ((hFh45 98 38 rfl).trans ((hFh42 98 38 rfl).trans ((hFh34 98 38 rfl).trans ew98_38.symm)))))
          refine g_cVV (as := []) (c_X12_ends_98 _ _ h51 hMh51 (by omega) (by omega) Cv2) dX12_goesBehind_115 mi_X12_ends in_X12_ends se_X12_ends ml_X12_295 rfl rfl rfl sh_98 rfl rfl (Nat.le_of_ble_eq_true rfl) (fun h55 q56 => ?_)
          obtain ⟨hMh55, hFh55, z57⟩ := q56
          refine g_iconst dX12_goesBehind_118 (inR_c rfl) ?_
          have q58 : h55 98 36 = (v1 + 1) := ((hFh55 98 36 rfl).trans ((hFh51 98 36 rfl).trans (st_at eh46)))
          have q59 : h55 98 37 = v2 := ((hFh55 98 37 rfl).trans ((hFh51 98 37 rfl).trans ((hFh46 98 37 rfl).trans ((hFh45 98 37 rfl).trans ((hFh42 98 37 rfl).trans ((hFh34 98 37 rfl).trans ev2.symm))))))
          have q60 : h55 98 38 = w98_38 := ((hFh55 98 38 rfl).trans ((hFh51 98 38 rfl).trans ((hFh46 98 38 rfl).trans ((hFh45 98 38 rfl).trans ((hFh42 98 38 rfl).trans ((hFh34 98 38 rfl).trans ew98_38.symm))))))
          have q61 : h55 98 43 = 0 := ((hFh55 98 43 rfl).trans (st_at eh51))
          obtain ⟨v62, ev62⟩ : ∃ z, z = h55 98 42 := ⟨_, rfl⟩
          have bv62 : 0 ≤ v62 ∧ v62 ≤ 200 := by rw [ev62]; exact (m_98_42 hMh55)
          have gc : GBo f gn 0 h55 := (by first | exact gb | exact Or.inr (Or.inr (Or.inr ⟨by omega, cc.1.fr0 (T := [(98, 44)]) (by assumption) rfl⟩)) | exact Or.inr (Or.inr (Or.inl ⟨rfl, by omega, CVo.good (by assumption) (by omega)⟩)))
          exact g_ireturn dX12_goesBehind_119 (retZ (by omega)) (hPo _ _ ⟨hMh55, (Fr.tr (Fr.tr (Fr.tr (Fr.tr (Fr.tr (Fr.sub hFh34 rfl) hFh42 rfl) hFh45 rfl) hFh46 rfl) hFh51 rfl) hFh55 rfl), (by omega), (by omega), gc, (by omega), (by omega), (by omega)⟩)
        · skip
          refine g_iconst dX12_goesBehind_99 (inR_c rfl) ?_
          refine g_goto 104 dX12_goesBehind_100 (by decide) ?_
          refine pI_X12_301 rfl dX12_goesBehind_104 sh_98 (by omega) (fun h63 eh63 => ?_)
          have hFh63 := Fr.st eh63
          have hMh63 := u_98_43 hMh46 eh63 (by omega) (by omega)
          refine g_aload_n dX12_goesBehind_107 rfl ?_
          refine gE_X12_301 rfl dX12_goesBehind_108 sh_98 (st_at eh63) ?_
          refine g_if_ne 118 dX12_goesBehind_111 (by decide) (fun q64 => ?_) (fun _ => by exfalso; omega)
          refine g_iconst dX12_goesBehind_118 (inR_c rfl) ?_
          have q65 : h63 98 36 = (v1 + 1) := ((hFh63 98 36 rfl).trans (st_at eh46))
          have q66 : h63 98 37 = v2 := ((hFh63 98 37 rfl).trans ((hFh46 98 37 rfl).trans ((hFh45 98 37 rfl).trans ((hFh42 98 37 rfl).trans ((hFh34 98 37 rfl).trans ev2.symm)))))
          have q67 : h63 98 38 = w98_38 := ((hFh63 98 38 rfl).trans ((hFh46 98 38 rfl).trans ((hFh45 98 38 rfl).trans ((hFh42 98 38 rfl).trans ((hFh34 98 38 rfl).trans ew98_38.symm)))))
          have q68 : h63 98 43 = 1 := (st_at eh63)
          have q69 : h63 98 42 = (v38 - 1) := ((hFh63 98 42 rfl).trans ((hFh46 98 42 rfl).trans ((hFh45 98 42 rfl).trans (st_at eh42))))
          have gc : GBo f gn 0 h63 := (by first | exact gb | exact Or.inr (Or.inr (Or.inr ⟨by omega, cc.1.fr0 (T := [(98, 44)]) (by assumption) rfl⟩)) | exact Or.inr (Or.inr (Or.inl ⟨rfl, by omega, CVo.good (by assumption) (by omega)⟩)))
          exact g_ireturn dX12_goesBehind_119 (retZ (by omega)) (hPo _ _ ⟨hMh63, (Fr.tr (Fr.tr (Fr.tr (Fr.tr (Fr.sub hFh34 rfl) hFh42 rfl) hFh45 rfl) hFh46 rfl) hFh63 rfl), (by omega), (by omega), gc, (by omega), (by omega), (by omega)⟩)
      · skip
        refine g_aload_n dX12_goesBehind_45 rfl ?_
        refine g_iconst dX12_goesBehind_46 (inR_c rfl) ?_
        refine g_aload_n dX12_goesBehind_47 rfl ?_
        refine gE_X12_211 rfl dX12_goesBehind_48 sh_98 ev1.symm ?_
        refine g_cVV (as := [_, _]) (c_X12_wrongs_98 _ _ h hM (by omega) (by omega) (by omega) (by omega)) dX12_goesBehind_51 mi_X12_wrongs in_X12_wrongs se_X12_wrongs ml_X12_233 rfl rfl rfl sh_98 rfl rfl (Nat.le_of_ble_eq_true rfl) (fun h70 q71 => ?_)
        obtain ⟨hMh70, hFh70, az72, bz72⟩ := q71
        obtain ⟨v73, ev73⟩ : ∃ z, z = h70 98 38 := ⟨_, rfl⟩
        have bv73 : -6000 ≤ v73 ∧ v73 ≤ -1 := by rw [ev73]; exact ⟨az72, bz72⟩
        have q74 : h70 98 38 = v73 := ev73.symm
        have gb : GBo f gn 0 h70 := Or.inl (by omega)
        refine g_iconst dX12_goesBehind_54 (inR_c rfl) ?_
        have q75 : h70 98 36 = v1 := ((hFh70 98 36 rfl).trans ev1.symm)
        have q76 : h70 98 37 = v2 := ((hFh70 98 37 rfl).trans ev2.symm)
        have q77 : h70 98 38 = v73 := ev73.symm
        have q78 : h70 98 43 = w98_43 := ((hFh70 98 43 rfl).trans ew98_43.symm)
        have q79 : h70 98 42 = h 98 42 := (hFh70 98 42 rfl)
        obtain ⟨v80, ev80⟩ : ∃ z, z = h70 98 42 := ⟨_, rfl⟩
        have bv80 : 0 ≤ v80 ∧ v80 ≤ 200 := by rw [ev80]; exact (m_98_42 hMh70)
        have gc : GBo f gn 0 h70 := (by first | exact gb | exact Or.inr (Or.inr (Or.inr ⟨by omega, cc.1.fr0 (T := [(98, 44)]) (by assumption) rfl⟩)) | exact Or.inr (Or.inr (Or.inl ⟨rfl, by omega, CVo.good (by assumption) (by omega)⟩)))
        exact g_ireturn dX12_goesBehind_55 (retZ (by omega)) (hPo _ _ ⟨hMh70, (Fr.sub hFh70 rfl), (by omega), (by omega), gc, (by omega), (by omega), (by omega)⟩)
    · skip
      refine g_aload_n dX12_goesBehind_17 rfl ?_
      refine g_iload_n dX12_goesBehind_18 rfl (fun _ => ?_)
      refine g_bipush dX12_goesBehind_19 (inR_c rfl) (by decide) ?_
      refine g_icmp_ne 28 dX12_goesBehind_21 (by decide) (fun _ => by exfalso; omega) (fun q81 => ?_)
      refine g_iconst dX12_goesBehind_24 (inR_c rfl) ?_
      refine g_goto 29 dX12_goesBehind_25 (by decide) ?_
      have q82 : h 98 38 = w98_38 := ew98_38.symm
      refine g_cVV (as := [_]) (c_X12_joins_98 _ _ _ h hM (by omega) (by omega) (by omega) (by omega) f_C1) dX12_goesBehind_29 mi_X12_joins in_X12_joins se_X12_joins ml_X12_298 rfl rfl rfl sh_98 rfl rfl (Nat.le_of_ble_eq_true rfl) (fun h83 q84 => ?_)
      obtain ⟨hMh83, hFh83, zh83, z85⟩ := q84
      refine g_aload_n dX12_goesBehind_32 rfl ?_
      refine g_iload_n dX12_goesBehind_33 rfl (fun _ => ?_)
      have Cv1 := z85
      have q86 : h83 98 38 = w98_38 := ((hFh83 98 38 rfl).trans ew98_38.symm)
      obtain ⟨v87, ev87⟩ : ∃ z, z = h83 98 42 := ⟨_, rfl⟩
      have bv87 : 0 ≤ v87 ∧ v87 ≤ 200 := by rw [ev87]; exact (m_98_42 hMh83)
      have q88 : h83 98 37 = v2 := ((hFh83 98 37 rfl).trans ev2.symm)
      have q89 : h83 98 36 = v1 := ((hFh83 98 36 rfl).trans ev1.symm)
      obtain ⟨v90, ev90⟩ : ∃ z, z = h83 98 40 := ⟨_, rfl⟩
      have bv90 : 0 ≤ v90 ∧ v90 ≤ 200 := by rw [ev90]; exact (m_98_40 hMh83)
      have lv := CVo.lin Cv1 (by omega)
      have q91 : h83 98 42 = v87 := ev87.symm
      have q92 : h83 98 36 = v1 := ((hFh83 98 36 rfl).trans ev1.symm)
      have q93 : h83 98 42 = v87 := ev87.symm
      have q94 : h83 98 36 = v1 := ((hFh83 98 36 rfl).trans ev1.symm)
      refine g_cVV (as := [_]) (c_X12_puts_98 _ h83 hMh83 (by omega) (by omega) (by omega) (by omega) (by omega) (by omega)) dX12_goesBehind_34 mi_X12_puts in_X12_puts se_X12_puts ml_X12_241 rfl rfl rfl sh_98 rfl rfl (Nat.le_of_ble_eq_true rfl) (fun h95 q96 => ?_)
      obtain ⟨hMh95, hFh95, zh95, z97, z98⟩ := q96
      have kz97 : h95 98 42 = (v87 + 1) := by omega
      have kz98 : h95 98 36 = (v1 + 1) := by omega
      have q99 : h95 98 38 = w98_38 := ((hFh95 98 38 rfl).trans ((hFh83 98 38 rfl).trans ew98_38.symm))
      have q100 : h95 98 43 = w98_43 := ((hFh95 98 43 rfl).trans ((hFh83 98 43 rfl).trans ew98_43.symm))
      have gb : GBo f gn 1 h95 := Or.inr (Or.inl ⟨rfl, by omega, C_bin Cv1 (by omega) (by assumption) (by omega) (by omega) (by omega) (by omega) (hFh95 98 40 rfl) (hFh95 98 37 rfl) (fun j => hFh95 125 j rfl)⟩)
      refine g_iconst dX12_goesBehind_37 (inR_c rfl) ?_
      have q101 : h95 98 36 = (v1 + 1) := kz98
      have q102 : h95 98 37 = v2 := ((hFh95 98 37 rfl).trans ((hFh83 98 37 rfl).trans ev2.symm))
      have q103 : h95 98 38 = w98_38 := ((hFh95 98 38 rfl).trans ((hFh83 98 38 rfl).trans ew98_38.symm))
      have q104 : h95 98 43 = w98_43 := ((hFh95 98 43 rfl).trans ((hFh83 98 43 rfl).trans ew98_43.symm))
      have q105 : h95 98 42 = (v87 + 1) := kz97
      have gc : GBo f gn 1 h95 := (by first | exact gb | exact Or.inr (Or.inr (Or.inr ⟨by omega, cc.1.fr0 (T := [(98, 44)]) (by assumption) rfl⟩)) | exact Or.inr (Or.inr (Or.inl ⟨rfl, by omega, CVo.good (by assumption) (by omega)⟩)))
      exact g_ireturn dX12_goesBehind_38 (retZ (by omega)) (hPo _ _ ⟨hMh95, (Fr.tr (Fr.sub hFh83 rfl) hFh95 rfl), (by omega), (by omega), gc, (by omega), (by omega), (by omega)⟩)
set_option maxRecDepth 100000 in
set_option maxHeartbeats 4000000 in
theorem c_X12_isSign (x1 : Int) (h : MEM) (hM : MBm h) (bx1 : 0 ≤ x1) (dx1 : x1 ≤ 255) : CP yX12_isSign cX12_isSign 1 (some .boolean) 1 [pI x1] h (fun x => 0 ≤ x ∧ x ≤ 1 ∧ (x = 1 ∧ (x1 = 60 ∨ x1 = 62 ∨ x1 = 61) ∨ x = 0 ∧ (x1 ≠ 60 ∧ x1 ≠ 62 ∧ x1 ≠ 61))) := by
  refine CP.of (L0 := [some (pI x1)]) rfl (Nat.le_of_ble_eq_true rfl) rfl (fun Po hPo hav => ?_)
  refine g_iload_n dX12_isSign_0 rfl (fun _ => ?_)
  refine g_bipush dX12_isSign_1 (inR_c rfl) (by decide) ?_
  refine g_icmp_eq 18 dX12_isSign_3 (by decide) (fun q1 => ?_) (fun q1 => ?_)
  · skip
    refine g_iconst dX12_isSign_18 (inR_c rfl) ?_
    refine g_goto 23 dX12_isSign_19 (by decide) ?_
    exact g_ireturn dX12_isSign_23 (retZ (by omega)) (hPo _ ⟨(by omega), (by omega), (by omega)⟩)
  · skip
    refine g_iload_n dX12_isSign_6 rfl (fun _ => ?_)
    refine g_bipush dX12_isSign_7 (inR_c rfl) (by decide) ?_
    refine g_icmp_eq 18 dX12_isSign_9 (by decide) (fun q2 => ?_) (fun q2 => ?_)
    · skip
      refine g_iconst dX12_isSign_18 (inR_c rfl) ?_
      refine g_goto 23 dX12_isSign_19 (by decide) ?_
      exact g_ireturn dX12_isSign_23 (retZ (by omega)) (hPo _ ⟨(by omega), (by omega), (by omega)⟩)
    · skip
      refine g_iload_n dX12_isSign_12 rfl (fun _ => ?_)
      refine g_bipush dX12_isSign_13 (inR_c rfl) (by decide) ?_
      refine g_icmp_ne 22 dX12_isSign_15 (by decide) (fun q3 => ?_) (fun q3 => ?_)
      · skip
        refine g_iconst dX12_isSign_22 (inR_c rfl) ?_
        exact g_ireturn dX12_isSign_23 (retZ (by omega)) (hPo _ ⟨(by omega), (by omega), (by omega)⟩)
      · skip
        refine g_iconst dX12_isSign_18 (inR_c rfl) ?_
        refine g_goto 23 dX12_isSign_19 (by decide) ?_
        exact g_ireturn dX12_isSign_23 (retZ (by omega)) (hPo _ ⟨(by omega), (by omega), (by omega)⟩)
set_option maxRecDepth 100000 in
set_option maxHeartbeats 4000000 in
theorem c_X12_pieceOfC_98 (f : Int) (gn : Nat → Int) (h : MEM) (hM : MBm h) (p0_0 : 0 ≤ h 98 38) (p0_1 : h 98 38 ≤ 0) (f_C0 : CVo f gn 0 h) : CV yX12_pieceOfC cX12_pieceOfC 2 (none) 6 [pR 98] h (fun h' => MBm h' ∧ Fr [(98, 37), (98, 39), (98, 41), (98, 42), (98, 43), (98, 45), (125, 0), (126, 0), (127, 0)] h h' ∧ (h 98 36 ≤ h' 98 36 ∧ h' 98 36 ≤ h' 98 37) ∧ CVo f gn 1 h') := by
  refine CV.of (L0 := [some (pR 98), none]) rfl (Nat.le_of_ble_eq_true rfl) rfl (fun Po hPo hav => ?_)
  obtain ⟨w98_38, ew98_38⟩ : ∃ z, z = h 98 38 := ⟨_, rfl⟩
  obtain ⟨v1, ev1⟩ : ∃ z, z = h 98 36 := ⟨_, rfl⟩
  have bv1 : 0 ≤ v1 ∧ v1 ≤ 200 := by rw [ev1]; exact (m_98_36 hM)
  obtain ⟨v2, ev2⟩ : ∃ z, z = h 98 37 := ⟨_, rfl⟩
  have bv2 : 0 ≤ v2 ∧ v2 ≤ 200 := by rw [ev2]; exact (m_98_37 hM)
  have c0 : ∀ (n : Nat) (h3 : MEM), MBm h3 → Fr [(98, 37), (98, 39), (98, 42), (98, 43), (127, 0)] h h3 → CVo f gn 0 h3 → h 98 36 ≤ h3 98 36 → h3 98 36 ≤ 200 → h3 98 36 ≤ h3 98 37 → 200 - h3 98 36 < (n : Int) → G yX12_pieceOfC cX12_pieceOfC 2 (none) none Po (6, 360, 0, 0) 0 [some (pR 98), none] [] SH h3 0 0 := by
    intro n
    induction n with
    | zero =>
      intro h3 hMh3 hFh3 e0_0 e0_1 e0_2 e0_3 hn
      exfalso; omega
    | succ n ih0 =>
      intro h3 hMh3 hFh3 e0_0 e0_1 e0_2 e0_3 hn
      refine g_aload_n dX12_pieceOfC_0 rfl ?_
      refine g_cVP (as := []) (c_X12_isGood_98  h3 hMh3) dX12_pieceOfC_1 mi_X12_isGood in_X12_isGood se_X12_isGood ml_X12_220 rfl rfl rfl sh_98 rfl rfl (Nat.le_of_ble_eq_true rfl) (fun v4 q5 => ?_)
      obtain ⟨v6, ev6⟩ : ∃ z, z = h3 98 38 := ⟨_, rfl⟩
      have bv6 : -6000 ≤ v6 ∧ v6 ≤ 0 := by rw [ev6]; exact (m_98_38 hMh3)
      rcases q5 with ⟨rfl, q5⟩ | ⟨rfl, q5⟩
      · skip
        refine g_if_eq 32 dX12_pieceOfC_4 (by decide) (fun _ => by exfalso; omega) (fun q7 => ?_)
        refine g_aload_n dX12_pieceOfC_7 rfl ?_
        refine g_cVP (as := []) (c_X12_here_98  h3 hMh3) dX12_pieceOfC_8 mi_X12_here in_X12_here se_X12_here ml_X12_237 rfl rfl rfl sh_98 rfl rfl (Nat.le_of_ble_eq_true rfl) (fun v8 q9 => ?_)
        obtain ⟨bv8, cv8, zv8, yv8⟩ := q9
        refine g_bipush dX12_pieceOfC_11 (inR_c rfl) (by decide) ?_
        refine g_icmp_eq 25 dX12_pieceOfC_13 (by decide) (fun q10 => ?_) (fun q10 => ?_)
        · skip
          refine g_aload_n dX12_pieceOfC_25 rfl ?_
          have Cv1 := e0_0
          have q11 : h3 98 38 = v6 := ev6.symm
          obtain ⟨v12, ev12⟩ : ∃ z, z = h3 98 42 := ⟨_, rfl⟩
          have bv12 : 0 ≤ v12 ∧ v12 ≤ 200 := by rw [ev12]; exact (m_98_42 hMh3)
          have q13 : h3 98 37 = v2 := ((hFh3 98 37 rfl).trans ev2.symm)
          obtain ⟨v14, ev14⟩ : ∃ z, z = h3 98 36 := ⟨_, rfl⟩
          have bv14 : 0 ≤ v14 ∧ v14 ≤ 200 := by rw [ev14]; exact (m_98_36 hMh3)
          have q15 : h3 98 40 = h 98 40 := (hFh3 98 40 rfl)
          obtain ⟨v16, ev16⟩ : ∃ z, z = h3 98 40 := ⟨_, rfl⟩
          have bv16 : 0 ≤ v16 ∧ v16 ≤ 200 := by rw [ev16]; exact (m_98_40 hMh3)
          have lv := CVo.lin Cv1 (by omega)
          have q17 : h3 98 42 = v12 := ev12.symm
          have q18 : h3 98 36 = v14 := ev14.symm
          have q19 : h3 98 42 = v12 := ev12.symm
          have q20 : h3 98 36 = v14 := ev14.symm
          refine g_cVV (as := []) (c_X12_opens_98  h3 hMh3 (by omega) (by omega) (by omega) (by omega)) dX12_pieceOfC_26 mi_X12_opens in_X12_opens se_X12_opens ml_X12_266 rfl rfl rfl sh_98 rfl rfl (Nat.le_of_ble_eq_true rfl) (fun h21 q22 => ?_)
          obtain ⟨hMh21, hFh21, zh21, z23, z24⟩ := q22
          have kz23 : h21 98 42 = (v12 + 1) := by omega
          have kz24 : h21 98 36 = (v14 + 1) := by omega
          have Cv2 : CVo f gn 0 h21 := C_open Cv1 (by omega) (by omega) (by omega) (by assumption) (by omega) (by omega) (hFh21 98 40 rfl) (hFh21 98 37 rfl) (fun j => hFh21 125 j rfl)
          refine g_goto 0 dX12_pieceOfC_29 (by decide) ?_
          have q25 : h21 98 36 = (v14 + 1) := kz24
          have q26 : h21 98 37 = v2 := ((hFh21 98 37 rfl).trans ((hFh3 98 37 rfl).trans ev2.symm))
          obtain ⟨v27, ev27⟩ : ∃ z, z = h21 98 38 := ⟨_, rfl⟩
          have bv27 : -6000 ≤ v27 ∧ v27 ≤ 0 := by rw [ev27]; exact (m_98_38 hMh21)
          exact ih0 _ hMh21 (Fr.tr (Fr.sub hFh3 rfl) hFh21 rfl) Cv2 (by omega) (by omega) (by omega) (by omega)
        · skip
          refine g_aload_n dX12_pieceOfC_16 rfl ?_
          refine g_cVP (as := []) (c_X12_here_98  h3 hMh3) dX12_pieceOfC_17 mi_X12_here in_X12_here se_X12_here ml_X12_237 rfl rfl rfl sh_98 rfl rfl (Nat.le_of_ble_eq_true rfl) (fun v28 q29 => ?_)
          obtain ⟨bv28, cv28, zv28, yv28⟩ := q29
          have tv28 : v28 = v8 := by rw [zv28, zv8]
          refine g_bipush dX12_pieceOfC_20 (inR_c rfl) (by decide) ?_
          refine g_icmp_ne 32 dX12_pieceOfC_22 (by decide) (fun q30 => ?_) (fun q30 => ?_)
          · skip
            refine g_aload_n dX12_pieceOfC_32 rfl ?_
            refine g_cVP (as := []) (c_X12_isGood_98  h3 hMh3) dX12_pieceOfC_33 mi_X12_isGood in_X12_isGood se_X12_isGood ml_X12_220 rfl rfl rfl sh_98 rfl rfl (Nat.le_of_ble_eq_true rfl) (fun v31 q32 => ?_)
            have q33 : h3 98 38 = v6 := ev6.symm
            rcases q32 with ⟨rfl, q32⟩ | ⟨rfl, q32⟩
            · skip
              have c43 : ∀ (h34 : MEM), MBm h34 → Fr [(98, 37), (98, 39), (98, 41), (98, 42), (98, 43), (98, 45), (125, 0), (126, 0), (127, 0)] h3 h34 → G yX12_pieceOfC cX12_pieceOfC 2 (none) none Po (6, 360, 0, 0) 43 [some (pR 98), none] [] SH h34 0 0 := by
                intro h34 hMh34 hFh34
                refine g_aload_n dX12_pieceOfC_43 rfl ?_
                refine g_cVP (as := []) (c_X12_isGood_98  h34 hMh34) dX12_pieceOfC_44 mi_X12_isGood in_X12_isGood se_X12_isGood ml_X12_220 rfl rfl rfl sh_98 rfl rfl (Nat.le_of_ble_eq_true rfl) (fun v35 q36 => ?_)
                obtain ⟨v37, ev37⟩ : ∃ z, z = h34 98 38 := ⟨_, rfl⟩
                have bv37 : -6000 ≤ v37 ∧ v37 ≤ 0 := by rw [ev37]; exact (m_98_38 hMh34)
                rcases q36 with ⟨rfl, q36⟩ | ⟨rfl, q36⟩
                · skip
                  refine g_if_ne 51 dX12_pieceOfC_47 (by decide) (fun q38 => ?_) (fun _ => by exfalso; omega)
                  refine g_aload_n dX12_pieceOfC_51 rfl ?_
                  have q39 : h34 98 38 = v37 := ev37.symm
                  have Cv3 : CVo f gn 1 h34 := Or.inr (C_ofV Cv1 (by omega) (by assumption) (by omega))
                  refine g_cVP (as := []) (c_X12_here_98  h34 hMh34) dX12_pieceOfC_52 mi_X12_here in_X12_here se_X12_here ml_X12_237 rfl rfl rfl sh_98 rfl rfl (Nat.le_of_ble_eq_true rfl) (fun v40 q41 => ?_)
                  obtain ⟨bv40, cv40, zv40, yv40⟩ := q41
                  refine g_istore_n dX12_pieceOfC_55 (by decide) rfl ?_
                  refine g_iload_n dX12_pieceOfC_56 rfl (fun _ => ?_)
                  refine g_cSP (av := [_]) (c_X12_isSign _ h34 hMh34 (by omega) (by omega)) dX12_pieceOfC_57 mi_X12_isSign st_X12_isSign ml_X12_292 rfl rfl rfl rfl (Nat.le_of_ble_eq_true rfl) (fun v42 q43 => ?_)
                  obtain ⟨bv42, cv42, zv42⟩ := q43
                  refine g_if_ne 73 dX12_pieceOfC_60 (by decide) (fun q44 => ?_) (fun q44 => ?_)
                  · skip
                    refine g_aload_n dX12_pieceOfC_73 rfl ?_
                    have Cv2 := Cv3
                    refine g_iload_n dX12_pieceOfC_74 rfl (fun _ => ?_)
                    have Cv2 := Cv3
                    have q45 : h34 98 38 = v37 := ev37.symm
                    obtain ⟨v46, ev46⟩ : ∃ z, z = h34 98 42 := ⟨_, rfl⟩
                    have bv46 : 0 ≤ v46 ∧ v46 ≤ 200 := by rw [ev46]; exact (m_98_42 hMh34)
                    have q47 : h34 98 37 = v2 := ((hFh34 98 37 rfl).trans ((hFh3 98 37 rfl).trans ev2.symm))
                    obtain ⟨v48, ev48⟩ : ∃ z, z = h34 98 36 := ⟨_, rfl⟩
                    have bv48 : 0 ≤ v48 ∧ v48 ≤ 200 := by rw [ev48]; exact (m_98_36 hMh34)
                    obtain ⟨v49, ev49⟩ : ∃ z, z = h34 98 40 := ⟨_, rfl⟩
                    have bv49 : 0 ≤ v49 ∧ v49 ≤ 200 := by rw [ev49]; exact (m_98_40 hMh34)
                    have lv := CVo.lin Cv2 (by omega)
                    have q50 : h34 98 42 = v46 := ev46.symm
                    have q51 : h34 98 36 = v48 := ev48.symm
                    have q52 : h34 98 42 = v46 := ev46.symm
                    have q53 : h34 98 36 = v48 := ev48.symm
                    refine g_cVV (as := [_]) (c_X12_puts_98 _ h34 hMh34 (by omega) (by omega) (by omega) (by omega) (by omega) (by omega)) dX12_pieceOfC_75 mi_X12_puts in_X12_puts se_X12_puts ml_X12_241 rfl rfl rfl sh_98 rfl rfl (Nat.le_of_ble_eq_true rfl) (fun h54 q55 => ?_)
                    obtain ⟨hMh54, hFh54, zh54, z56, z57⟩ := q55
                    have kz56 : h54 98 42 = (v46 + 1) := by omega
                    have kz57 : h54 98 36 = (v48 + 1) := by omega
                    have q58 : h54 98 38 = v37 := ((hFh54 98 38 rfl).trans ev37.symm)
                    have sp := S_put (Cv2.good (by omega)) (by assumption) (by omega) (by omega) (by omega) (by omega) (hFh54 98 40 rfl) (hFh54 98 37 rfl) (fun j => hFh54 125 j rfl)
                    have Ev1 : EVo f gn (h54 98 42) (h54 127) 0 h54 := sp.1
                    refine g_aload_n dX12_pieceOfC_78 rfl ?_
                    have q59 : h54 98 38 = v37 := ((hFh54 98 38 rfl).trans ev37.symm)
                    refine g_cVV (as := []) (c_X12_value_98 _ _ _ _ h54 hMh54 (by omega) (by omega) Ev1) dX12_pieceOfC_79 mi_X12_value in_X12_value se_X12_value ml_X12_289 rfl rfl rfl sh_98 rfl rfl (Nat.le_of_ble_eq_true rfl) (fun h60 q61 => ?_)
                    obtain ⟨hMh60, hFh60, zh60, yh60, wh60⟩ := q61
                    refine g_aload_n dX12_pieceOfC_82 rfl ?_
                    refine g_cVP (as := []) (c_X12_isGood_98  h60 hMh60) dX12_pieceOfC_83 mi_X12_isGood in_X12_isGood se_X12_isGood ml_X12_220 rfl rfl rfl sh_98 rfl rfl (Nat.le_of_ble_eq_true rfl) (fun v62 q63 => ?_)
                    obtain ⟨v64, ev64⟩ : ∃ z, z = h60 98 38 := ⟨_, rfl⟩
                    have bv64 : -6000 ≤ v64 ∧ v64 ≤ 0 := by rw [ev64]; exact (m_98_38 hMh60)
                    rcases q63 with ⟨rfl, q63⟩ | ⟨rfl, q63⟩
                    · skip
                      refine g_if_ne 90 dX12_pieceOfC_86 (by decide) (fun q65 => ?_) (fun _ => by exfalso; omega)
                      refine g_aload_n dX12_pieceOfC_90 rfl ?_
                      refine g_aload_n dX12_pieceOfC_91 rfl ?_
                      have q66 : h60 98 38 = v64 := ev64.symm
                      obtain ⟨v67, ev67⟩ : ∃ z, z = h60 98 42 := ⟨_, rfl⟩
                      have bv67 : 0 ≤ v67 ∧ v67 ≤ 200 := by rw [ev67]; exact (m_98_42 hMh60)
                      have q68 : h60 98 37 = v2 := ((hFh60 98 37 rfl).trans ((hFh54 98 37 rfl).trans ((hFh34 98 37 rfl).trans ((hFh3 98 37 rfl).trans ev2.symm))))
                      obtain ⟨v69, ev69⟩ : ∃ z, z = h60 98 36 := ⟨_, rfl⟩
                      have bv69 : 0 ≤ v69 ∧ v69 ≤ 200 := by rw [ev69]; exact (m_98_36 hMh60)
                      obtain ⟨v70, ev70⟩ : ∃ z, z = h60 98 40 := ⟨_, rfl⟩
                      have bv70 : 0 ≤ v70 ∧ v70 ≤ 200 := by rw [ev70]; exact (m_98_40 hMh60)
                      have sv := S_ofV sp.2 (by assumption) (by omega)
                      have lv2 := sv.1.lin
                      refine g_cVP (as := []) (c_X12_top_98  h60 hMh60) dX12_pieceOfC_92 mi_X12_top in_X12_top se_X12_top ml_X12_254 rfl rfl rfl sh_98 rfl rfl (Nat.le_of_ble_eq_true rfl) (fun v71 q72 => ?_)
                      obtain ⟨bv71, cv71, zv71, yv71⟩ := q72
                      refine g_iconst dX12_pieceOfC_95 (inR_c rfl) ?_
                      have q73 : h60 98 38 = v64 := ev64.symm
                      have q74 : h60 98 40 = v70 := ev70.symm
                      have q75 : h60 98 37 = v2 := ((hFh60 98 37 rfl).trans ((hFh54 98 37 rfl).trans ((hFh34 98 37 rfl).trans ((hFh3 98 37 rfl).trans ev2.symm))))
                      refine g_cVV (as := [_, _]) (c_X12_emit_98 _ _ h60 hMh60 (by omega) (by omega) (by omega) (by omega) (by omega)) dX12_pieceOfC_96 mi_X12_emit in_X12_emit se_X12_emit ml_X12_263 rfl rfl rfl sh_98 rfl rfl (Nat.le_of_ble_eq_true rfl) (fun h76 q77 => ?_)
                      obtain ⟨hMh76, hFh76, zh76⟩ := q77
                      refine g_aload_n dX12_pieceOfC_99 rfl ?_
                      have eS : h76 98 42 = h60 98 42 := (hFh76 98 42 rfl)
                      refine g_dup dX12_pieceOfC_100 rfl ?_
                      refine gE_X12_227 rfl dX12_pieceOfC_101 sh_98 ((hFh76 98 42 rfl).trans ev67.symm) ?_
                      have a101 : 1 ≤ v67 ∧ v67 ≤ 200 := (by have := sv.2.1; omega)
                      refine g_iconst dX12_pieceOfC_104 (inR_c rfl) ?_
                      refine g_isubB dX12_pieceOfC_105 (by omega) (by omega) ?_
                      refine pI_X12_227 rfl dX12_pieceOfC_106 sh_98 (fun h78 eh78 => ?_)
                      have hFh78 := Fr.st eh78
                      have hMh78 := u_98_42 hMh76 eh78 (by omega) (by omega)
                      have eC : h78 98 40 = h76 98 40 := (hFh78 98 40 rfl)
                      have fN : ∀ j, h78 125 j = h76 125 j := fun j => (hFh78 125 j rfl)
                      have fS : ∀ j, h78 127 j = h60 127 j := fun j => ((hFh78 127 j rfl).trans (hFh76 127 j rfl))
                      have eP : h78 98 36 = h60 98 36 := ((hFh78 98 36 rfl).trans (hFh76 98 36 rfl))
                      have eE : h78 98 37 = h60 98 37 := ((hFh78 98 37 rfl).trans (hFh76 98 37 rfl))
                      have q79 : h78 98 42 = (v67 - 1) := (st_at eh78)
                      have Cv4 : CVo f gn 1 h78 := C_cmp sv (by omega) (by assumption) (by omega) eC fN (by omega) fS eP eE
                      refine g_aload_n dX12_pieceOfC_109 rfl ?_
                      have q80 : h78 98 38 = v64 := ((hFh78 98 38 rfl).trans ((hFh76 98 38 rfl).trans ev64.symm))
                      refine g_cVV (as := []) (c_X12_ends_98 _ _ h78 hMh78 (by omega) (by omega) Cv4) dX12_pieceOfC_110 mi_X12_ends in_X12_ends se_X12_ends ml_X12_295 rfl rfl rfl sh_98 rfl rfl (Nat.le_of_ble_eq_true rfl) (fun h81 q82 => ?_)
                      obtain ⟨hMh81, hFh81, z83⟩ := q82
                      have q84 : h81 98 36 = v69 := ((hFh81 98 36 rfl).trans ((hFh78 98 36 rfl).trans ((hFh76 98 36 rfl).trans ev69.symm)))
                      have q85 : h81 98 37 = v2 := ((hFh81 98 37 rfl).trans ((hFh78 98 37 rfl).trans ((hFh76 98 37 rfl).trans ((hFh60 98 37 rfl).trans ((hFh54 98 37 rfl).trans ((hFh34 98 37 rfl).trans ((hFh3 98 37 rfl).trans ev2.symm)))))))
                      have q86 : h81 98 38 = v64 := ((hFh81 98 38 rfl).trans ((hFh78 98 38 rfl).trans ((hFh76 98 38 rfl).trans ev64.symm)))
                      exact g_return dX12_pieceOfC_113 rfl (hPo _ ⟨hMh81, (Fr.tr (Fr.tr (Fr.tr (Fr.tr (Fr.tr (Fr.tr (Fr.sub hFh3 rfl) hFh34 rfl) hFh54 rfl) hFh60 rfl) hFh76 rfl) hFh78 rfl) hFh81 rfl), ⟨by omega, by omega⟩, z83⟩)
                    · skip
                      refine g_if_ne 90 dX12_pieceOfC_86 (by decide) (fun _ => by exfalso; omega) (fun q87 => ?_)
                      obtain ⟨v88, ev88⟩ : ∃ z, z = h60 98 36 := ⟨_, rfl⟩
                      have bv88 : 0 ≤ v88 ∧ v88 ≤ 200 := by rw [ev88]; exact (m_98_36 hMh60)
                      have q89 : h60 98 37 = v2 := ((hFh60 98 37 rfl).trans ((hFh54 98 37 rfl).trans ((hFh34 98 37 rfl).trans ((hFh3 98 37 rfl).trans ev2.symm))))
                      have q90 : h60 98 38 = v64 := ev64.symm
                      have q91 : h60 98 38 = v64 := ev64.symm
                      exact g_return dX12_pieceOfC_89 rfl (hPo _ ⟨hMh60, (Fr.tr (Fr.tr (Fr.tr (Fr.sub hFh3 rfl) hFh34 rfl) hFh54 rfl) hFh60 rfl), ⟨by omega, by omega⟩, (Or.inl (by omega))⟩)
                  · skip
                    refine g_aload_n dX12_pieceOfC_63 rfl ?_
                    refine g_iconst dX12_pieceOfC_64 (inR_c rfl) ?_
                    refine g_aload_n dX12_pieceOfC_65 rfl ?_
                    refine gI_X12_211 rfl dX12_pieceOfC_66 sh_98 (m_98_36 hMh34) (fun v92 ev92 bv92 cv92 => ?_)
                    refine g_cVV (as := [_, _]) (c_X12_wrongs_98 _ _ h34 hMh34 (by omega) (by omega) (by omega) (by omega)) dX12_pieceOfC_69 mi_X12_wrongs in_X12_wrongs se_X12_wrongs ml_X12_233 rfl rfl rfl sh_98 rfl rfl (Nat.le_of_ble_eq_true rfl) (fun h93 q94 => ?_)
                    obtain ⟨hMh93, hFh93, az95, bz95⟩ := q94
                    obtain ⟨v96, ev96⟩ : ∃ z, z = h93 98 38 := ⟨_, rfl⟩
                    have bv96 : -6000 ≤ v96 ∧ v96 ≤ -1 := by rw [ev96]; exact ⟨az95, bz95⟩
                    have q97 : h93 98 36 = v92 := ((hFh93 98 36 rfl).trans ev92.symm)
                    have q98 : h93 98 37 = v2 := ((hFh93 98 37 rfl).trans ((hFh34 98 37 rfl).trans ((hFh3 98 37 rfl).trans ev2.symm)))
                    have q99 : h93 98 38 = v96 := ev96.symm
                    have q100 : h93 98 38 = v96 := ev96.symm
                    exact g_return dX12_pieceOfC_72 rfl (hPo _ ⟨hMh93, (Fr.tr (Fr.tr (Fr.sub hFh3 rfl) hFh34 rfl) hFh93 rfl), ⟨by omega, by omega⟩, (Or.inl (by omega))⟩)
                · skip
                  refine g_if_ne 51 dX12_pieceOfC_47 (by decide) (fun _ => by exfalso; omega) (fun q101 => ?_)
                  obtain ⟨v102, ev102⟩ : ∃ z, z = h34 98 36 := ⟨_, rfl⟩
                  have bv102 : 0 ≤ v102 ∧ v102 ≤ 200 := by rw [ev102]; exact (m_98_36 hMh34)
                  have q103 : h34 98 37 = v2 := ((hFh34 98 37 rfl).trans ((hFh3 98 37 rfl).trans ev2.symm))
                  have q104 : h34 98 38 = v37 := ev37.symm
                  have q105 : h34 98 38 = v37 := ev37.symm
                  exact g_return dX12_pieceOfC_50 rfl (hPo _ ⟨hMh34, (Fr.tr (Fr.sub hFh3 rfl) hFh34 rfl), ⟨by omega, by omega⟩, (Or.inl (by omega))⟩)
              refine g_if_eq 43 dX12_pieceOfC_36 (by decide) (fun _ => by exfalso; omega) (fun q106 => ?_)
              refine g_aload_n dX12_pieceOfC_39 rfl ?_
              have Cv1 := e0_0
              have q107 : h3 98 38 = v6 := ev6.symm
              obtain ⟨v108, ev108⟩ : ∃ z, z = h3 98 42 := ⟨_, rfl⟩
              have bv108 : 0 ≤ v108 ∧ v108 ≤ 200 := by rw [ev108]; exact (m_98_42 hMh3)
              have q109 : h3 98 37 = v2 := ((hFh3 98 37 rfl).trans ev2.symm)
              obtain ⟨v110, ev110⟩ : ∃ z, z = h3 98 36 := ⟨_, rfl⟩
              have bv110 : 0 ≤ v110 ∧ v110 ≤ 200 := by rw [ev110]; exact (m_98_36 hMh3)
              have q111 : h3 98 40 = h 98 40 := (hFh3 98 40 rfl)
              obtain ⟨v112, ev112⟩ : ∃ z, z = h3 98 40 := ⟨_, rfl⟩
              have bv112 : 0 ≤ v112 ∧ v112 ≤ 200 := by rw [ev112]; exact (m_98_40 hMh3)
              have lv := CVo.lin Cv1 (by omega)
              have Ev0 : EVo f gn (h3 98 42) (h3 127) 0 h3 := EV_ofC Cv1 (by omega)
              have q113 : h3 98 38 = v6 := ev6.symm
              refine g_cVV (as := []) (c_X12_value_98 _ _ _ _ h3 hMh3 (by omega) (by omega) Ev0) dX12_pieceOfC_40 mi_X12_value in_X12_value se_X12_value ml_X12_289 rfl rfl rfl sh_98 rfl rfl (Nat.le_of_ble_eq_true rfl) (fun h114 q115 => ?_)
              obtain ⟨hMh114, hFh114, zh114, yh114, wh114⟩ := q115
              obtain ⟨v116, ev116⟩ : ∃ z, z = h114 98 38 := ⟨_, rfl⟩
              have bv116 : -6000 ≤ v116 ∧ v116 ≤ 0 := by rw [ev116]; exact (m_98_38 hMh114)
              exact c43 _ hMh114 (Fr.sub hFh114 rfl)
            · skip
              exfalso; omega
          · skip
            refine g_aload_n dX12_pieceOfC_25 rfl ?_
            have Cv1 := e0_0
            have q117 : h3 98 38 = v6 := ev6.symm
            obtain ⟨v118, ev118⟩ : ∃ z, z = h3 98 42 := ⟨_, rfl⟩
            have bv118 : 0 ≤ v118 ∧ v118 ≤ 200 := by rw [ev118]; exact (m_98_42 hMh3)
            have q119 : h3 98 37 = v2 := ((hFh3 98 37 rfl).trans ev2.symm)
            obtain ⟨v120, ev120⟩ : ∃ z, z = h3 98 36 := ⟨_, rfl⟩
            have bv120 : 0 ≤ v120 ∧ v120 ≤ 200 := by rw [ev120]; exact (m_98_36 hMh3)
            have q121 : h3 98 40 = h 98 40 := (hFh3 98 40 rfl)
            obtain ⟨v122, ev122⟩ : ∃ z, z = h3 98 40 := ⟨_, rfl⟩
            have bv122 : 0 ≤ v122 ∧ v122 ≤ 200 := by rw [ev122]; exact (m_98_40 hMh3)
            have lv := CVo.lin Cv1 (by omega)
            have q123 : h3 98 42 = v118 := ev118.symm
            have q124 : h3 98 36 = v120 := ev120.symm
            have q125 : h3 98 42 = v118 := ev118.symm
            have q126 : h3 98 36 = v120 := ev120.symm
            refine g_cVV (as := []) (c_X12_opens_98  h3 hMh3 (by omega) (by omega) (by omega) (by omega)) dX12_pieceOfC_26 mi_X12_opens in_X12_opens se_X12_opens ml_X12_266 rfl rfl rfl sh_98 rfl rfl (Nat.le_of_ble_eq_true rfl) (fun h127 q128 => ?_)
            obtain ⟨hMh127, hFh127, zh127, z129, z130⟩ := q128
            have kz129 : h127 98 42 = (v118 + 1) := by omega
            have kz130 : h127 98 36 = (v120 + 1) := by omega
            have Cv2 : CVo f gn 0 h127 := C_open Cv1 (by omega) (by omega) (by omega) (by assumption) (by omega) (by omega) (hFh127 98 40 rfl) (hFh127 98 37 rfl) (fun j => hFh127 125 j rfl)
            refine g_goto 0 dX12_pieceOfC_29 (by decide) ?_
            have q131 : h127 98 36 = (v120 + 1) := kz130
            have q132 : h127 98 37 = v2 := ((hFh127 98 37 rfl).trans ((hFh3 98 37 rfl).trans ev2.symm))
            obtain ⟨v133, ev133⟩ : ∃ z, z = h127 98 38 := ⟨_, rfl⟩
            have bv133 : -6000 ≤ v133 ∧ v133 ≤ 0 := by rw [ev133]; exact (m_98_38 hMh127)
            exact ih0 _ hMh127 (Fr.tr (Fr.sub hFh3 rfl) hFh127 rfl) Cv2 (by omega) (by omega) (by omega) (by omega)
      · skip
        refine g_if_eq 32 dX12_pieceOfC_4 (by decide) (fun q134 => ?_) (fun _ => by exfalso; omega)
        refine g_aload_n dX12_pieceOfC_32 rfl ?_
        refine g_cVP (as := []) (c_X12_isGood_98  h3 hMh3) dX12_pieceOfC_33 mi_X12_isGood in_X12_isGood se_X12_isGood ml_X12_220 rfl rfl rfl sh_98 rfl rfl (Nat.le_of_ble_eq_true rfl) (fun v135 q136 => ?_)
        have q137 : h3 98 38 = v6 := ev6.symm
        rcases q136 with ⟨rfl, q136⟩ | ⟨rfl, q136⟩
        · skip
          exfalso; omega
        · skip
          have c43 : ∀ (h138 : MEM), MBm h138 → Fr [(98, 37), (98, 39), (98, 41), (98, 42), (98, 43), (98, 45), (125, 0), (126, 0), (127, 0)] h3 h138 → G yX12_pieceOfC cX12_pieceOfC 2 (none) none Po (6, 360, 0, 0) 43 [some (pR 98), none] [] SH h138 0 0 := by
            intro h138 hMh138 hFh138
            refine g_aload_n dX12_pieceOfC_43 rfl ?_
            refine g_cVP (as := []) (c_X12_isGood_98  h138 hMh138) dX12_pieceOfC_44 mi_X12_isGood in_X12_isGood se_X12_isGood ml_X12_220 rfl rfl rfl sh_98 rfl rfl (Nat.le_of_ble_eq_true rfl) (fun v139 q140 => ?_)
            obtain ⟨v141, ev141⟩ : ∃ z, z = h138 98 38 := ⟨_, rfl⟩
            have bv141 : -6000 ≤ v141 ∧ v141 ≤ 0 := by rw [ev141]; exact (m_98_38 hMh138)
            rcases q140 with ⟨rfl, q140⟩ | ⟨rfl, q140⟩
            · skip
              refine g_if_ne 51 dX12_pieceOfC_47 (by decide) (fun q142 => ?_) (fun _ => by exfalso; omega)
              refine g_aload_n dX12_pieceOfC_51 rfl ?_
              have q143 : h138 98 38 = v141 := ev141.symm
              have Cv3 : CVo f gn 1 h138 := Or.inr (C_ofV Cv1 (by omega) (by assumption) (by omega))
              refine g_cVP (as := []) (c_X12_here_98  h138 hMh138) dX12_pieceOfC_52 mi_X12_here in_X12_here se_X12_here ml_X12_237 rfl rfl rfl sh_98 rfl rfl (Nat.le_of_ble_eq_true rfl) (fun v144 q145 => ?_)
              obtain ⟨bv144, cv144, zv144, yv144⟩ := q145
              refine g_istore_n dX12_pieceOfC_55 (by decide) rfl ?_
              refine g_iload_n dX12_pieceOfC_56 rfl (fun _ => ?_)
              refine g_cSP (av := [_]) (c_X12_isSign _ h138 hMh138 (by omega) (by omega)) dX12_pieceOfC_57 mi_X12_isSign st_X12_isSign ml_X12_292 rfl rfl rfl rfl (Nat.le_of_ble_eq_true rfl) (fun v146 q147 => ?_)
              obtain ⟨bv146, cv146, zv146⟩ := q147
              refine g_if_ne 73 dX12_pieceOfC_60 (by decide) (fun q148 => ?_) (fun q148 => ?_)
              · skip
                refine g_aload_n dX12_pieceOfC_73 rfl ?_
                have Cv2 := Cv3
                refine g_iload_n dX12_pieceOfC_74 rfl (fun _ => ?_)
                have Cv2 := Cv3
                have q149 : h138 98 38 = v141 := ev141.symm
                obtain ⟨v150, ev150⟩ : ∃ z, z = h138 98 42 := ⟨_, rfl⟩
                have bv150 : 0 ≤ v150 ∧ v150 ≤ 200 := by rw [ev150]; exact (m_98_42 hMh138)
                have q151 : h138 98 37 = v2 := ((hFh138 98 37 rfl).trans ((hFh3 98 37 rfl).trans ev2.symm))
                obtain ⟨v152, ev152⟩ : ∃ z, z = h138 98 36 := ⟨_, rfl⟩
                have bv152 : 0 ≤ v152 ∧ v152 ≤ 200 := by rw [ev152]; exact (m_98_36 hMh138)
                obtain ⟨v153, ev153⟩ : ∃ z, z = h138 98 40 := ⟨_, rfl⟩
                have bv153 : 0 ≤ v153 ∧ v153 ≤ 200 := by rw [ev153]; exact (m_98_40 hMh138)
                have lv := CVo.lin Cv2 (by omega)
                have q154 : h138 98 42 = v150 := ev150.symm
                have q155 : h138 98 36 = v152 := ev152.symm
                have q156 : h138 98 42 = v150 := ev150.symm
                have q157 : h138 98 36 = v152 := ev152.symm
                refine g_cVV (as := [_]) (c_X12_puts_98 _ h138 hMh138 (by omega) (by omega) (by omega) (by omega) (by omega) (by omega)) dX12_pieceOfC_75 mi_X12_puts in_X12_puts se_X12_puts ml_X12_241 rfl rfl rfl sh_98 rfl rfl (Nat.le_of_ble_eq_true rfl) (fun h158 q159 => ?_)
                obtain ⟨hMh158, hFh158, zh158, z160, z161⟩ := q159
                have kz160 : h158 98 42 = (v150 + 1) := by omega
                have kz161 : h158 98 36 = (v152 + 1) := by omega
                have q162 : h158 98 38 = v141 := ((hFh158 98 38 rfl).trans ev141.symm)
                have sp := S_put (Cv2.good (by omega)) (by assumption) (by omega) (by omega) (by omega) (by omega) (hFh158 98 40 rfl) (hFh158 98 37 rfl) (fun j => hFh158 125 j rfl)
                have Ev1 : EVo f gn (h158 98 42) (h158 127) 0 h158 := sp.1
                refine g_aload_n dX12_pieceOfC_78 rfl ?_
                have q163 : h158 98 38 = v141 := ((hFh158 98 38 rfl).trans ev141.symm)
                refine g_cVV (as := []) (c_X12_value_98 _ _ _ _ h158 hMh158 (by omega) (by omega) Ev1) dX12_pieceOfC_79 mi_X12_value in_X12_value se_X12_value ml_X12_289 rfl rfl rfl sh_98 rfl rfl (Nat.le_of_ble_eq_true rfl) (fun h164 q165 => ?_)
                obtain ⟨hMh164, hFh164, zh164, yh164, wh164⟩ := q165
                refine g_aload_n dX12_pieceOfC_82 rfl ?_
                refine g_cVP (as := []) (c_X12_isGood_98  h164 hMh164) dX12_pieceOfC_83 mi_X12_isGood in_X12_isGood se_X12_isGood ml_X12_220 rfl rfl rfl sh_98 rfl rfl (Nat.le_of_ble_eq_true rfl) (fun v166 q167 => ?_)
                obtain ⟨v168, ev168⟩ : ∃ z, z = h164 98 38 := ⟨_, rfl⟩
                have bv168 : -6000 ≤ v168 ∧ v168 ≤ 0 := by rw [ev168]; exact (m_98_38 hMh164)
                rcases q167 with ⟨rfl, q167⟩ | ⟨rfl, q167⟩
                · skip
                  refine g_if_ne 90 dX12_pieceOfC_86 (by decide) (fun q169 => ?_) (fun _ => by exfalso; omega)
                  refine g_aload_n dX12_pieceOfC_90 rfl ?_
                  refine g_aload_n dX12_pieceOfC_91 rfl ?_
                  have q170 : h164 98 38 = v168 := ev168.symm
                  obtain ⟨v171, ev171⟩ : ∃ z, z = h164 98 42 := ⟨_, rfl⟩
                  have bv171 : 0 ≤ v171 ∧ v171 ≤ 200 := by rw [ev171]; exact (m_98_42 hMh164)
                  have q172 : h164 98 37 = v2 := ((hFh164 98 37 rfl).trans ((hFh158 98 37 rfl).trans ((hFh138 98 37 rfl).trans ((hFh3 98 37 rfl).trans ev2.symm))))
                  obtain ⟨v173, ev173⟩ : ∃ z, z = h164 98 36 := ⟨_, rfl⟩
                  have bv173 : 0 ≤ v173 ∧ v173 ≤ 200 := by rw [ev173]; exact (m_98_36 hMh164)
                  obtain ⟨v174, ev174⟩ : ∃ z, z = h164 98 40 := ⟨_, rfl⟩
                  have bv174 : 0 ≤ v174 ∧ v174 ≤ 200 := by rw [ev174]; exact (m_98_40 hMh164)
                  have sv := S_ofV sp.2 (by assumption) (by omega)
                  have lv2 := sv.1.lin
                  refine g_cVP (as := []) (c_X12_top_98  h164 hMh164) dX12_pieceOfC_92 mi_X12_top in_X12_top se_X12_top ml_X12_254 rfl rfl rfl sh_98 rfl rfl (Nat.le_of_ble_eq_true rfl) (fun v175 q176 => ?_)
                  obtain ⟨bv175, cv175, zv175, yv175⟩ := q176
                  refine g_iconst dX12_pieceOfC_95 (inR_c rfl) ?_
                  have q177 : h164 98 38 = v168 := ev168.symm
                  have q178 : h164 98 40 = v174 := ev174.symm
                  have q179 : h164 98 37 = v2 := ((hFh164 98 37 rfl).trans ((hFh158 98 37 rfl).trans ((hFh138 98 37 rfl).trans ((hFh3 98 37 rfl).trans ev2.symm))))
                  refine g_cVV (as := [_, _]) (c_X12_emit_98 _ _ h164 hMh164 (by omega) (by omega) (by omega) (by omega) (by omega)) dX12_pieceOfC_96 mi_X12_emit in_X12_emit se_X12_emit ml_X12_263 rfl rfl rfl sh_98 rfl rfl (Nat.le_of_ble_eq_true rfl) (fun h180 q181 => ?_)
                  obtain ⟨hMh180, hFh180, zh180⟩ := q181
                  refine g_aload_n dX12_pieceOfC_99 rfl ?_
                  have eS : h180 98 42 = h164 98 42 := (hFh180 98 42 rfl)
                  refine g_dup dX12_pieceOfC_100 rfl ?_
                  refine gE_X12_227 rfl dX12_pieceOfC_101 sh_98 ((hFh180 98 42 rfl).trans ev171.symm) ?_
                  have a101 : 1 ≤ v171 ∧ v171 ≤ 200 := (by have := sv.2.1; omega)
                  refine g_iconst dX12_pieceOfC_104 (inR_c rfl) ?_
                  refine g_isubB dX12_pieceOfC_105 (by omega) (by omega) ?_
                  refine pI_X12_227 rfl dX12_pieceOfC_106 sh_98 (fun h182 eh182 => ?_)
                  have hFh182 := Fr.st eh182
                  have hMh182 := u_98_42 hMh180 eh182 (by omega) (by omega)
                  have eC : h182 98 40 = h180 98 40 := (hFh182 98 40 rfl)
                  have fN : ∀ j, h182 125 j = h180 125 j := fun j => (hFh182 125 j rfl)
                  have fS : ∀ j, h182 127 j = h164 127 j := fun j => ((hFh182 127 j rfl).trans (hFh180 127 j rfl))
                  have eP : h182 98 36 = h164 98 36 := ((hFh182 98 36 rfl).trans (hFh180 98 36 rfl))
                  have eE : h182 98 37 = h164 98 37 := ((hFh182 98 37 rfl).trans (hFh180 98 37 rfl))
                  have q183 : h182 98 42 = (v171 - 1) := (st_at eh182)
                  have Cv4 : CVo f gn 1 h182 := C_cmp sv (by omega) (by assumption) (by omega) eC fN (by omega) fS eP eE
                  refine g_aload_n dX12_pieceOfC_109 rfl ?_
                  have q184 : h182 98 38 = v168 := ((hFh182 98 38 rfl).trans ((hFh180 98 38 rfl).trans ev168.symm))
                  refine g_cVV (as := []) (c_X12_ends_98 _ _ h182 hMh182 (by omega) (by omega) Cv4) dX12_pieceOfC_110 mi_X12_ends in_X12_ends se_X12_ends ml_X12_295 rfl rfl rfl sh_98 rfl rfl (Nat.le_of_ble_eq_true rfl) (fun h185 q186 => ?_)
                  obtain ⟨hMh185, hFh185, z187⟩ := q186
                  have q188 : h185 98 36 = v173 := ((hFh185 98 36 rfl).trans ((hFh182 98 36 rfl).trans ((hFh180 98 36 rfl).trans ev173.symm)))
                  have q189 : h185 98 37 = v2 := ((hFh185 98 37 rfl).trans ((hFh182 98 37 rfl).trans ((hFh180 98 37 rfl).trans ((hFh164 98 37 rfl).trans ((hFh158 98 37 rfl).trans ((hFh138 98 37 rfl).trans ((hFh3 98 37 rfl).trans ev2.symm)))))))
                  have q190 : h185 98 38 = v168 := ((hFh185 98 38 rfl).trans ((hFh182 98 38 rfl).trans ((hFh180 98 38 rfl).trans ev168.symm)))
                  exact g_return dX12_pieceOfC_113 rfl (hPo _ ⟨hMh185, (Fr.tr (Fr.tr (Fr.tr (Fr.tr (Fr.tr (Fr.tr (Fr.sub hFh3 rfl) hFh138 rfl) hFh158 rfl) hFh164 rfl) hFh180 rfl) hFh182 rfl) hFh185 rfl), ⟨by omega, by omega⟩, z187⟩)
                · skip
                  refine g_if_ne 90 dX12_pieceOfC_86 (by decide) (fun _ => by exfalso; omega) (fun q191 => ?_)
                  obtain ⟨v192, ev192⟩ : ∃ z, z = h164 98 36 := ⟨_, rfl⟩
                  have bv192 : 0 ≤ v192 ∧ v192 ≤ 200 := by rw [ev192]; exact (m_98_36 hMh164)
                  have q193 : h164 98 37 = v2 := ((hFh164 98 37 rfl).trans ((hFh158 98 37 rfl).trans ((hFh138 98 37 rfl).trans ((hFh3 98 37 rfl).trans ev2.symm))))
                  have q194 : h164 98 38 = v168 := ev168.symm
                  have q195 : h164 98 38 = v168 := ev168.symm
                  exact g_return dX12_pieceOfC_89 rfl (hPo _ ⟨hMh164, (Fr.tr (Fr.tr (Fr.tr (Fr.sub hFh3 rfl) hFh138 rfl) hFh158 rfl) hFh164 rfl), ⟨by omega, by omega⟩, (Or.inl (by omega))⟩)
              · skip
                refine g_aload_n dX12_pieceOfC_63 rfl ?_
                refine g_iconst dX12_pieceOfC_64 (inR_c rfl) ?_
                refine g_aload_n dX12_pieceOfC_65 rfl ?_
                refine gI_X12_211 rfl dX12_pieceOfC_66 sh_98 (m_98_36 hMh138) (fun v196 ev196 bv196 cv196 => ?_)
                refine g_cVV (as := [_, _]) (c_X12_wrongs_98 _ _ h138 hMh138 (by omega) (by omega) (by omega) (by omega)) dX12_pieceOfC_69 mi_X12_wrongs in_X12_wrongs se_X12_wrongs ml_X12_233 rfl rfl rfl sh_98 rfl rfl (Nat.le_of_ble_eq_true rfl) (fun h197 q198 => ?_)
                obtain ⟨hMh197, hFh197, az199, bz199⟩ := q198
                obtain ⟨v200, ev200⟩ : ∃ z, z = h197 98 38 := ⟨_, rfl⟩
                have bv200 : -6000 ≤ v200 ∧ v200 ≤ -1 := by rw [ev200]; exact ⟨az199, bz199⟩
                have q201 : h197 98 36 = v196 := ((hFh197 98 36 rfl).trans ev196.symm)
                have q202 : h197 98 37 = v2 := ((hFh197 98 37 rfl).trans ((hFh138 98 37 rfl).trans ((hFh3 98 37 rfl).trans ev2.symm)))
                have q203 : h197 98 38 = v200 := ev200.symm
                have q204 : h197 98 38 = v200 := ev200.symm
                exact g_return dX12_pieceOfC_72 rfl (hPo _ ⟨hMh197, (Fr.tr (Fr.tr (Fr.sub hFh3 rfl) hFh138 rfl) hFh197 rfl), ⟨by omega, by omega⟩, (Or.inl (by omega))⟩)
            · skip
              refine g_if_ne 51 dX12_pieceOfC_47 (by decide) (fun _ => by exfalso; omega) (fun q205 => ?_)
              obtain ⟨v206, ev206⟩ : ∃ z, z = h138 98 36 := ⟨_, rfl⟩
              have bv206 : 0 ≤ v206 ∧ v206 ≤ 200 := by rw [ev206]; exact (m_98_36 hMh138)
              have q207 : h138 98 37 = v2 := ((hFh138 98 37 rfl).trans ((hFh3 98 37 rfl).trans ev2.symm))
              have q208 : h138 98 38 = v141 := ev141.symm
              have q209 : h138 98 38 = v141 := ev141.symm
              exact g_return dX12_pieceOfC_50 rfl (hPo _ ⟨hMh138, (Fr.tr (Fr.sub hFh3 rfl) hFh138 rfl), ⟨by omega, by omega⟩, (Or.inl (by omega))⟩)
          refine g_if_eq 43 dX12_pieceOfC_36 (by decide) (fun q210 => ?_) (fun _ => by exfalso; omega)
          exact c43 _ hMh3 Fr.rf
  have q211 : h 98 36 = v1 := ev1.symm
  have q212 : h 98 37 = v2 := ev2.symm
  have q213 : h 98 38 = w98_38 := ew98_38.symm
  exact c0 201 _ hM Fr.rf f_C0 (by omega) (by omega) (by omega) (by omega)
set_option maxRecDepth 100000 in
set_option maxHeartbeats 4000000 in
theorem c_X12_condition_98 (f : Int) (gn : Nat → Int) (h : MEM) (hM : MBm h) (p0_0 : 0 ≤ h 98 38) (p0_1 : h 98 38 ≤ 0) (f_DZ : DZo f gn h) : CV yX12_condition cX12_condition 2 (none) 7 [pR 98] h (fun h' => MBm h' ∧ Fr [(98, 37), (98, 39), (98, 41), (98, 42), (98, 43), (98, 44), (98, 45), (125, 0), (126, 0), (127, 0)] h h' ∧ DFo f gn h' ∧ h 98 36 ≤ h' 98 36 ∧ h' 98 36 ≤ h' 98 37) := by
  refine CV.of (L0 := [some (pR 98), none]) rfl (Nat.le_of_ble_eq_true rfl) rfl (fun Po hPo hav => ?_)
  obtain ⟨w98_38, ew98_38⟩ : ∃ z, z = h 98 38 := ⟨_, rfl⟩
  obtain ⟨v1, ev1⟩ : ∃ z, z = h 98 36 := ⟨_, rfl⟩
  have bv1 : 0 ≤ v1 ∧ v1 ≤ 200 := by rw [ev1]; exact (m_98_36 hM)
  obtain ⟨v2, ev2⟩ : ∃ z, z = h 98 37 := ⟨_, rfl⟩
  have bv2 : 0 ≤ v2 ∧ v2 ≤ 200 := by rw [ev2]; exact (m_98_37 hM)
  refine g_aload_n dX12_condition_0 rfl ?_
  refine g_iconst dX12_condition_1 (inR_c rfl) ?_
  refine pI_X12_301 rfl dX12_condition_2 sh_98 (by omega) (fun h3 eh3 => ?_)
  have hFh3 := Fr.st eh3
  have hMh3 := u_98_43 hM eh3 (by omega) (by omega)
  refine g_aload_n dX12_condition_5 rfl ?_
  refine g_cVP (as := []) (c_X12_here_98  h3 hMh3) dX12_condition_6 mi_X12_here in_X12_here se_X12_here ml_X12_237 rfl rfl rfl sh_98 rfl rfl (Nat.le_of_ble_eq_true rfl) (fun v4 q5 => ?_)
  obtain ⟨bv4, cv4, zv4, yv4⟩ := q5
  refine g_bipush dX12_condition_9 (inR_c rfl) (by decide) ?_
  refine g_icmp_eq 23 dX12_condition_11 (by decide) (fun q6 => ?_) (fun q6 => ?_)
  · skip
    refine g_aload_n dX12_condition_23 rfl ?_
    refine g_cVP (as := []) (c_X12_isGood_98  h3 hMh3) dX12_condition_24 mi_X12_isGood in_X12_isGood se_X12_isGood ml_X12_220 rfl rfl rfl sh_98 rfl rfl (Nat.le_of_ble_eq_true rfl) (fun v7 q8 => ?_)
    have q9 : h3 98 38 = w98_38 := ((hFh3 98 38 rfl).trans ew98_38.symm)
    rcases q8 with ⟨rfl, q8⟩ | ⟨rfl, q8⟩
    · skip
      refine g_if_ne 31 dX12_condition_27 (by decide) (fun q10 => ?_) (fun _ => by exfalso; omega)
      refine g_aload_n dX12_condition_31 rfl ?_
      have dz := (DZo.fr (T := [(98, 44)]) f_DZ (Fr.sub hFh3 rfl) rfl)
      have q11 : h3 98 38 = w98_38 := ((hFh3 98 38 rfl).trans ew98_38.symm)
      have q12 : h3 98 42 = h 98 42 := (hFh3 98 42 rfl)
      obtain ⟨v13, ev13⟩ : ∃ z, z = h3 98 42 := ⟨_, rfl⟩
      have bv13 : 0 ≤ v13 ∧ v13 ≤ 200 := by rw [ev13]; exact (m_98_42 hMh3)
      have q14 : h3 98 37 = v2 := ((hFh3 98 37 rfl).trans ev2.symm)
      have q15 : h3 98 36 = v1 := ((hFh3 98 36 rfl).trans ev1.symm)
      have q16 : h3 98 40 = h 98 40 := (hFh3 98 40 rfl)
      obtain ⟨v17, ev17⟩ : ∃ z, z = h3 98 40 := ⟨_, rfl⟩
      have bv17 : 0 ≤ v17 ∧ v17 ≤ 200 := by rw [ev17]; exact (m_98_40 hMh3)
      have lv := (dz.resolve_left (by omega)).1.lin
      have q18 : h3 98 42 = v13 := ev13.symm
      have q19 : h3 98 36 = v1 := ((hFh3 98 36 rfl).trans ev1.symm)
      have q20 : h3 98 42 = v13 := ev13.symm
      have q21 : h3 98 36 = v1 := ((hFh3 98 36 rfl).trans ev1.symm)
      refine g_cVV (as := []) (c_X12_opens_98  h3 hMh3 (by omega) (by omega) (by omega) (by omega)) dX12_condition_32 mi_X12_opens in_X12_opens se_X12_opens ml_X12_266 rfl rfl rfl sh_98 rfl rfl (Nat.le_of_ble_eq_true rfl) (fun h22 q23 => ?_)
      obtain ⟨hMh22, hFh22, zh22, z24, z25⟩ := q23
      have kz24 : h22 98 42 = (v13 + 1) := by omega
      have kz25 : h22 98 36 = (v1 + 1) := by omega
      obtain ⟨v26, ev26⟩ : ∃ z, z = h22 98 38 := ⟨_, rfl⟩
      have bv26 : -6000 ≤ v26 ∧ v26 ≤ 0 := by rw [ev26]; exact (m_98_38 hMh22)
      have q27 : h22 98 43 = 0 := ((hFh22 98 43 rfl).trans (st_at eh3))
      have cf : CIo f gn 1 h22 := C_fst dz (by omega) (by omega) (by omega) (by assumption) (by omega) (by omega) (hFh22 98 40 rfl) (hFh22 98 37 rfl) (fun j => hFh22 125 j rfl) (by omega)
      refine g_iconst dX12_condition_35 (inR_c rfl) ?_
      have c37 : ∀ (n : Nat) (y28 : Int) (h29 : MEM), MBm h29 → Fr [(98, 37), (98, 39), (98, 41), (98, 42), (98, 43), (98, 44), (98, 45), (125, 0), (126, 0), (127, 0)] h22 h29 → 0 ≤ y28 → y28 ≤ 1 → CIo f gn y28 h29 → h 98 36 ≤ h29 98 36 → h29 98 36 ≤ 200 → -6000 ≤ h29 98 38 → h29 98 36 ≤ h29 98 37 → h29 98 38 ≤ 0 → 10000 * (200 - h29 98 36) + (h29 98 38 + 6000) < (n : Int) → G yX12_condition cX12_condition 2 (none) none Po (7, 420, 0, 0) 37 [some (pR 98), some (pI y28)] [] SH h29 0 0 := by
        intro n
        induction n with
        | zero =>
          intro y28 h29 hMh29 hFh29 by28 dy28 e37_0 e37_1 e37_2 e37_3 e37_4 e37_5 hn
          exfalso; omega
        | succ n ih37 =>
          intro y28 h29 hMh29 hFh29 by28 dy28 e37_0 e37_1 e37_2 e37_3 e37_4 e37_5 hn
          refine g_aload_n dX12_condition_37 rfl ?_
          refine g_cVP (as := []) (c_X12_isGood_98  h29 hMh29) dX12_condition_38 mi_X12_isGood in_X12_isGood se_X12_isGood ml_X12_220 rfl rfl rfl sh_98 rfl rfl (Nat.le_of_ble_eq_true rfl) (fun v30 q31 => ?_)
          obtain ⟨v32, ev32⟩ : ∃ z, z = h29 98 38 := ⟨_, rfl⟩
          have bv32 : -6000 ≤ v32 ∧ v32 ≤ 0 := by rw [ev32]; exact (m_98_38 hMh29)
          rcases q31 with ⟨rfl, q31⟩ | ⟨rfl, q31⟩
          · skip
            refine g_if_eq 74 dX12_condition_41 (by decide) (fun _ => by exfalso; omega) (fun q33 => ?_)
            refine g_aload_n dX12_condition_44 rfl ?_
            refine gI_X12_301 rfl dX12_condition_45 sh_98 (m_98_43 hMh29) (fun v34 ev34 bv34 cv34 => ?_)
            refine g_if_ne 74 dX12_condition_48 (by decide) (fun q35 => ?_) (fun q35 => ?_)
            · skip
              obtain ⟨v36, ev36⟩ : ∃ z, z = h29 98 36 := ⟨_, rfl⟩
              have bv36 : 0 ≤ v36 ∧ v36 ≤ 200 := by rw [ev36]; exact (m_98_36 hMh29)
              have q37 : h29 98 37 = v2 := ((hFh29 98 37 rfl).trans ((hFh22 98 37 rfl).trans ((hFh3 98 37 rfl).trans ev2.symm)))
              have q38 : h29 98 38 = v32 := ev32.symm
              have q39 : h29 98 43 = v34 := ev34.symm
              have df : DFo f gn h29 := (by first | exact Or.inl (by omega) | exact CI_e e37_0 (by omega) (by omega))
              exact g_return dX12_condition_74 rfl (hPo _ ⟨hMh29, (Fr.tr (Fr.tr (Fr.sub hFh3 rfl) hFh22 rfl) hFh29 rfl), df, (by omega), (by omega)⟩)
            · skip
              refine g_iload_n dX12_condition_51 rfl (fun _ => ?_)
              refine g_if_eq 59 dX12_condition_52 (by decide) (fun q40 => ?_) (fun q40 => ?_)
              · skip
                refine g_aload_n dX12_condition_59 rfl ?_
                have q41 : h29 98 38 = v32 := ev32.symm
                have q42 : h29 98 43 = v34 := ev34.symm
                have Ca1 : CVo f gn 1 h29 := CI_b e37_0 (by omega) (by omega) (by omega)
                refine g_cVP (as := []) (c_X12_isGood_98  h29 hMh29) dX12_condition_60 mi_X12_isGood in_X12_isGood se_X12_isGood ml_X12_220 rfl rfl rfl sh_98 rfl rfl (Nat.le_of_ble_eq_true rfl) (fun v43 q44 => ?_)
                have q45 : h29 98 38 = v32 := ev32.symm
                rcases q44 with ⟨rfl, q44⟩ | ⟨rfl, q44⟩
                · skip
                  refine g_if_eq 37 dX12_condition_63 (by decide) (fun _ => by exfalso; omega) (fun q46 => ?_)
                  refine g_aload_n dX12_condition_66 rfl ?_
                  have q47 : h29 98 38 = v32 := ev32.symm
                  have q48 : h29 98 43 = v34 := ev34.symm
                  refine g_cV (as := []) (c_X12_goesBehind_98 _ _ h29 hMh29 (by omega) (by omega) (by omega) (by omega) Ca1) dX12_condition_67 mi_X12_goesBehind in_X12_goesBehind se_X12_goesBehind ml_X12_307 rfl rfl rfl sh_98 rfl rfl (Nat.le_of_ble_eq_true rfl) (fun v49 h50 q51 => ?_)
                  obtain ⟨hMh50, hFh50, bv49, cv49, zv49, yv49, wv49, uv49⟩ := q51
                  refine g_istore_n dX12_condition_70 (by decide) rfl ?_
                  refine g_goto 37 dX12_condition_71 (by decide) ?_
                  obtain ⟨v52, ev52⟩ : ∃ z, z = h50 98 36 := ⟨_, rfl⟩
                  have bv52 : 0 ≤ v52 ∧ v52 ≤ 200 := by rw [ev52]; exact (m_98_36 hMh50)
                  have q53 : h50 98 37 = v2 := ((hFh50 98 37 rfl).trans ((hFh29 98 37 rfl).trans ((hFh22 98 37 rfl).trans ((hFh3 98 37 rfl).trans ev2.symm))))
                  obtain ⟨v54, ev54⟩ : ∃ z, z = h50 98 38 := ⟨_, rfl⟩
                  have bv54 : -6000 ≤ v54 ∧ v54 ≤ 0 := by rw [ev54]; exact (m_98_38 hMh50)
                  exact ih37 _ _ hMh50 (Fr.tr (Fr.sub hFh29 rfl) hFh50 rfl) (by omega) (by omega) (by first | exact cf | exact CI_g (by assumption) (by omega) | exact Or.inl (by omega)) (by omega) (by omega) (by omega) (by omega) (by omega) (by omega)
                · skip
                  exfalso; omega
              · skip
                refine g_aload_n dX12_condition_55 rfl ?_
                have q55 : h29 98 38 = v32 := ev32.symm
                have q56 : h29 98 43 = v34 := ev34.symm
                have Ca0 : CVo f gn 0 h29 := CI_a e37_0 (by omega) (by omega) (by omega)
                have q57 : h29 98 38 = v32 := ev32.symm
                refine g_cVV (as := []) (c_X12_pieceOfC_98 _ _ h29 hMh29 (by omega) (by omega) Ca0) dX12_condition_56 mi_X12_pieceOfC in_X12_pieceOfC se_X12_pieceOfC ml_X12_304 rfl rfl rfl sh_98 rfl rfl (Nat.le_of_ble_eq_true rfl) (fun h58 q59 => ?_)
                obtain ⟨hMh58, hFh58, zh58, z60⟩ := q59
                refine g_aload_n dX12_condition_59 rfl ?_
                refine g_cVP (as := []) (c_X12_isGood_98  h58 hMh58) dX12_condition_60 mi_X12_isGood in_X12_isGood se_X12_isGood ml_X12_220 rfl rfl rfl sh_98 rfl rfl (Nat.le_of_ble_eq_true rfl) (fun v61 q62 => ?_)
                obtain ⟨v63, ev63⟩ : ∃ z, z = h58 98 38 := ⟨_, rfl⟩
                have bv63 : -6000 ≤ v63 ∧ v63 ≤ 0 := by rw [ev63]; exact (m_98_38 hMh58)
                rcases q62 with ⟨rfl, q62⟩ | ⟨rfl, q62⟩
                · skip
                  refine g_if_eq 37 dX12_condition_63 (by decide) (fun _ => by exfalso; omega) (fun q64 => ?_)
                  refine g_aload_n dX12_condition_66 rfl ?_
                  have q65 : h58 98 38 = v63 := ev63.symm
                  have q66 : h58 98 43 = v34 := ((hFh58 98 43 rfl).trans ev34.symm)
                  refine g_cV (as := []) (c_X12_goesBehind_98 _ _ h58 hMh58 (by omega) (by omega) (by omega) (by omega) z60) dX12_condition_67 mi_X12_goesBehind in_X12_goesBehind se_X12_goesBehind ml_X12_307 rfl rfl rfl sh_98 rfl rfl (Nat.le_of_ble_eq_true rfl) (fun v67 h68 q69 => ?_)
                  obtain ⟨hMh68, hFh68, bv67, cv67, zv67, yv67, wv67, uv67⟩ := q69
                  refine g_istore_n dX12_condition_70 (by decide) rfl ?_
                  refine g_goto 37 dX12_condition_71 (by decide) ?_
                  obtain ⟨v70, ev70⟩ : ∃ z, z = h68 98 36 := ⟨_, rfl⟩
                  have bv70 : 0 ≤ v70 ∧ v70 ≤ 200 := by rw [ev70]; exact (m_98_36 hMh68)
                  have q71 : h68 98 37 = v2 := ((hFh68 98 37 rfl).trans ((hFh58 98 37 rfl).trans ((hFh29 98 37 rfl).trans ((hFh22 98 37 rfl).trans ((hFh3 98 37 rfl).trans ev2.symm)))))
                  obtain ⟨v72, ev72⟩ : ∃ z, z = h68 98 38 := ⟨_, rfl⟩
                  have bv72 : -6000 ≤ v72 ∧ v72 ≤ 0 := by rw [ev72]; exact (m_98_38 hMh68)
                  exact ih37 _ _ hMh68 (Fr.tr (Fr.tr (Fr.sub hFh29 rfl) hFh58 rfl) hFh68 rfl) (by omega) (by omega) (by first | exact cf | exact CI_g (by assumption) (by omega) | exact Or.inl (by omega)) (by omega) (by omega) (by omega) (by omega) (by omega) (by omega)
                · skip
                  refine g_if_eq 37 dX12_condition_63 (by decide) (fun q73 => ?_) (fun _ => by exfalso; omega)
                  obtain ⟨v74, ev74⟩ : ∃ z, z = h58 98 36 := ⟨_, rfl⟩
                  have bv74 : 0 ≤ v74 ∧ v74 ≤ 200 := by rw [ev74]; exact (m_98_36 hMh58)
                  have q75 : h58 98 37 = v2 := ((hFh58 98 37 rfl).trans ((hFh29 98 37 rfl).trans ((hFh22 98 37 rfl).trans ((hFh3 98 37 rfl).trans ev2.symm))))
                  have q76 : h58 98 38 = v63 := ev63.symm
                  exact ih37 _ _ hMh58 (Fr.tr (Fr.sub hFh29 rfl) hFh58 rfl) (by omega) (by omega) (by first | exact cf | exact CI_g (by assumption) (by omega) | exact Or.inl (by omega)) (by omega) (by omega) (by omega) (by omega) (by omega) (by omega)
          · skip
            refine g_if_eq 74 dX12_condition_41 (by decide) (fun q77 => ?_) (fun _ => by exfalso; omega)
            obtain ⟨v78, ev78⟩ : ∃ z, z = h29 98 36 := ⟨_, rfl⟩
            have bv78 : 0 ≤ v78 ∧ v78 ≤ 200 := by rw [ev78]; exact (m_98_36 hMh29)
            have q79 : h29 98 37 = v2 := ((hFh29 98 37 rfl).trans ((hFh22 98 37 rfl).trans ((hFh3 98 37 rfl).trans ev2.symm)))
            have q80 : h29 98 38 = v32 := ev32.symm
            obtain ⟨v81, ev81⟩ : ∃ z, z = h29 98 43 := ⟨_, rfl⟩
            have bv81 : 0 ≤ v81 ∧ v81 ≤ 1 := by rw [ev81]; exact (m_98_43 hMh29)
            have df : DFo f gn h29 := (by first | exact Or.inl (by omega) | exact CI_e e37_0 (by omega) (by omega))
            exact g_return dX12_condition_74 rfl (hPo _ ⟨hMh29, (Fr.tr (Fr.tr (Fr.sub hFh3 rfl) hFh22 rfl) hFh29 rfl), df, (by omega), (by omega)⟩)
      refine g_istore_n dX12_condition_36 (by decide) rfl ?_
      have q82 : h22 98 36 = (v1 + 1) := kz25
      have q83 : h22 98 37 = v2 := ((hFh22 98 37 rfl).trans ((hFh3 98 37 rfl).trans ev2.symm))
      have q84 : h22 98 38 = v26 := ev26.symm
      exact c37 2006001 _ _ hMh22 Fr.rf (by omega) (by omega) (by first | exact cf | exact CI_g (by assumption) (by omega) | exact Or.inl (by omega)) (by omega) (by omega) (by omega) (by omega) (by omega) (by omega)
    · skip
      exfalso; omega
  · skip
    refine g_aload_n dX12_condition_14 rfl ?_
    refine g_iconst dX12_condition_15 (inR_c rfl) ?_
    refine g_aload_n dX12_condition_16 rfl ?_
    refine gE_X12_211 rfl dX12_condition_17 sh_98 ((hFh3 98 36 rfl).trans ev1.symm) ?_
    refine g_cVV (as := [_, _]) (c_X12_wrongs_98 _ _ h3 hMh3 (by omega) (by omega) (by omega) (by omega)) dX12_condition_20 mi_X12_wrongs in_X12_wrongs se_X12_wrongs ml_X12_233 rfl rfl rfl sh_98 rfl rfl (Nat.le_of_ble_eq_true rfl) (fun h85 q86 => ?_)
    obtain ⟨hMh85, hFh85, az87, bz87⟩ := q86
    obtain ⟨v88, ev88⟩ : ∃ z, z = h85 98 38 := ⟨_, rfl⟩
    have bv88 : -6000 ≤ v88 ∧ v88 ≤ -1 := by rw [ev88]; exact ⟨az87, bz87⟩
    refine g_aload_n dX12_condition_23 rfl ?_
    refine g_cVP (as := []) (c_X12_isGood_98  h85 hMh85) dX12_condition_24 mi_X12_isGood in_X12_isGood se_X12_isGood ml_X12_220 rfl rfl rfl sh_98 rfl rfl (Nat.le_of_ble_eq_true rfl) (fun v89 q90 => ?_)
    have q91 : h85 98 38 = v88 := ev88.symm
    rcases q90 with ⟨rfl, q90⟩ | ⟨rfl, q90⟩
    · skip
      exfalso; omega
    · skip
      refine g_if_ne 31 dX12_condition_27 (by decide) (fun _ => by exfalso; omega) (fun q92 => ?_)
      have q93 : h85 98 36 = v1 := ((hFh85 98 36 rfl).trans ((hFh3 98 36 rfl).trans ev1.symm))
      have q94 : h85 98 37 = v2 := ((hFh85 98 37 rfl).trans ((hFh3 98 37 rfl).trans ev2.symm))
      have q95 : h85 98 38 = v88 := ev88.symm
      have q96 : h85 98 43 = 0 := ((hFh85 98 43 rfl).trans (st_at eh3))
      have df : DFo f gn h85 := (by first | exact Or.inl (by omega) | exact CI_e e37_0 (by omega) (by omega))
      exact g_return dX12_condition_30 rfl (hPo _ ⟨hMh85, (Fr.tr (Fr.sub hFh3 rfl) hFh85 rfl), df, (by omega), (by omega)⟩)
