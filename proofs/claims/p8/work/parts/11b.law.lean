set_option maxRecDepth 100000 in
set_option maxHeartbeats 8000000 in
theorem law_case_9 (xs : List Int) (Po : Option PV → List SE → MEM → Prop) (i : Int) (h : MEM) (I : INV i h) (hi : i + 6 ≤ xs.length) (hN : xs.length ≤ 3072) (kk : ∀ h' : MEM, INV (i + 6) h' → G x cL_law 4 (some .boolean) (some xs) Po (2048, 84000, 600000, 7302250) 1216 [some pX, some (pR 0), some (pR 98), some (pI i)] [] SH h' 151 10868) : G x cL_law 4 (some .boolean) (some xs) Po (2048, 84000, 600000, 7302250) 543 [some pX, some (pR 0), some (pR 98), some (pI i)] [] SH h 151 10868 := by
  obtain ⟨⟨hX, hMm, hLD, hWF⟩, hI, gi, gs, hXW, hIS, hXK, hS1⟩ := I
  obtain ⟨v1, ev1⟩ : ∃ z, z = h 2 0 := ⟨_, rfl⟩
  have bv1 : 0 ≤ v1 ∧ v1 ≤ 10 := by rw [ev1]; exact (m_2_0 hX)
  obtain ⟨v2, ev2⟩ : ∃ z, z = h 6 0 := ⟨_, rfl⟩
  have bv2 : 0 ≤ v2 ∧ v2 ≤ 8 := by rw [ev2]; exact (m_6_0 hX)
  obtain ⟨v3, ev3⟩ : ∃ z, z = h 12 0 := ⟨_, rfl⟩
  have bv3 : 0 ≤ v3 ∧ v3 ≤ 8 := by rw [ev3]; exact (m_12_0 hX)
  obtain ⟨v4, ev4⟩ : ∃ z, z = h 42 0 := ⟨_, rfl⟩
  have bv4 : 0 ≤ v4 ∧ v4 ≤ 10 := by rw [ev4]; exact (m_42_0 hX)
  obtain ⟨v5, ev5⟩ : ∃ z, z = h 46 0 := ⟨_, rfl⟩
  have bv5 : 0 ≤ v5 ∧ v5 ≤ 8 := by rw [ev5]; exact (m_46_0 hX)
  obtain ⟨v6, ev6⟩ : ∃ z, z = h 52 0 := ⟨_, rfl⟩
  have bv6 : 0 ≤ v6 ∧ v6 ≤ 8 := by rw [ev6]; exact (m_52_0 hX)
  obtain ⟨v7, ev7⟩ : ∃ z, z = h 0 12 := ⟨_, rfl⟩
  have bv7 : 0 ≤ v7 ∧ v7 ≤ 1 := by rw [ev7]; exact (m_0_12 hX)
  obtain ⟨v8, ev8⟩ : ∃ z, z = h 98 2 := ⟨_, rfl⟩
  have bv8 : 0 ≤ v8 ∧ v8 ≤ 10 := by rw [ev8]; exact (m_98_2 hMm)
  obtain ⟨v9, ev9⟩ : ∃ z, z = h 98 3 := ⟨_, rfl⟩
  have bv9 : 0 ≤ v9 ∧ v9 ≤ 8 := by rw [ev9]; exact (m_98_3 hMm)
  obtain ⟨v10, ev10⟩ : ∃ z, z = h 98 4 := ⟨_, rfl⟩
  have bv10 : 0 ≤ v10 ∧ v10 ≤ 8 := by rw [ev10]; exact (m_98_4 hMm)
  obtain ⟨v11, ev11⟩ : ∃ z, z = h 98 5 := ⟨_, rfl⟩
  have bv11 : 0 ≤ v11 ∧ v11 ≤ 2000000000 := by rw [ev11]; exact (m_98_5 hMm)
  obtain ⟨v12, ev12⟩ : ∃ z, z = h 145 6 := ⟨_, rfl⟩
  have bv12 : 0 ≤ v12 ∧ v12 ≤ 10 := by rw [ev12]; exact (m_145_6 hMm)
  obtain ⟨v13, ev13⟩ : ∃ z, z = h 145 7 := ⟨_, rfl⟩
  have bv13 : 0 ≤ v13 ∧ v13 ≤ 8 := by rw [ev13]; exact (m_145_7 hMm)
  obtain ⟨v14, ev14⟩ : ∃ z, z = h 145 8 := ⟨_, rfl⟩
  have bv14 : 0 ≤ v14 ∧ v14 ≤ 8 := by rw [ev14]; exact (m_145_8 hMm)
  obtain ⟨v15, ev15⟩ : ∃ z, z = h 145 9 := ⟨_, rfl⟩
  have bv15 : 0 ≤ v15 ∧ v15 ≤ 2000000000 := by rw [ev15]; exact (m_145_9 hMm)
  obtain ⟨v16, ev16⟩ : ∃ z, z = h 98 79 := ⟨_, rfl⟩
  have bv16 : 0 ≤ v16 ∧ v16 ≤ 1 := by rw [ev16]; exact (m_98_79 hMm)
  refine g_aload_n dL_law_543 rfl ?_
  refine g_aloadX_n dL_law_544 rfl ?_
  refine g_iload_n dL_law_545 rfl (fun _ => ?_)
  refine g_iconst dL_law_546 (inR_c rfl) ?_
  refine g_iaddB dL_law_547 (by omega) (by omega) ?_
  refine g_sldB dL_law_548 (by omega) (by omega) (fun v17 ev17 bv17 cv17 => ?_)
  have q18 : h 2 0 = v1 := ev1.symm
  have q19 : h 6 0 = v2 := ev2.symm
  have q20 : h 12 0 = v3 := ev3.symm
  have q21 : h 42 0 = v4 := ev4.symm
  have q22 : h 46 0 = v5 := ev5.symm
  have q23 : h 52 0 = v6 := ev6.symm
  have q24 : h 0 12 = v7 := ev7.symm
  have q25 : h 98 2 = v8 := ev8.symm
  have q26 : h 98 3 = v9 := ev9.symm
  have q27 : h 98 4 = v10 := ev10.symm
  have q28 : h 98 5 = v11 := ev11.symm
  have q29 : h 145 6 = v12 := ev12.symm
  have q30 : h 145 7 = v13 := ev13.symm
  have q31 : h 145 8 = v14 := ev14.symm
  have q32 : h 145 9 = v15 := ev15.symm
  have q33 : h 98 79 = v16 := ev16.symm
  refine g_cV (as := [_]) (c_X11_hours_0 _ h hX (by omega) (by omega) hLD) dL_law_549 mi_X11_hours in_X11_hours se_X11_hours ml_L_56 rfl rfl rfl sh_0 rfl rfl (Nat.le_of_ble_eq_true rfl) (fun v34 h35 q36 => ?_)
  obtain ⟨hMh35, hFh35, bv34, cv34⟩ := q36
  refine g_pop dL_law_552 rfl ?_
  refine g_aload_n dL_law_553 rfl ?_
  refine g_aloadX_n dL_law_554 rfl ?_
  refine g_iload_n dL_law_555 rfl (fun _ => ?_)
  refine g_iconst dL_law_556 (inR_c rfl) ?_
  refine g_iaddB dL_law_557 (by omega) (by omega) ?_
  refine g_sldE dL_law_558 (by omega) (by omega) ev17 ?_
  have q37 : h35 2 0 = v1 := ((hFh35 2 0 rfl).trans ev1.symm)
  have q38 : h35 6 0 = v2 := ((hFh35 6 0 rfl).trans ev2.symm)
  have q39 : h35 12 0 = v3 := ((hFh35 12 0 rfl).trans ev3.symm)
  have q40 : h35 42 0 = v4 := ((hFh35 42 0 rfl).trans ev4.symm)
  have q41 : h35 46 0 = v5 := ((hFh35 46 0 rfl).trans ev5.symm)
  have q42 : h35 52 0 = v6 := ((hFh35 52 0 rfl).trans ev6.symm)
  have q43 : h35 0 12 = v7 := ((hFh35 0 12 rfl).trans ev7.symm)
  have q44 : h35 98 2 = v8 := ((hFh35 98 2 rfl).trans ev8.symm)
  have q45 : h35 98 3 = v9 := ((hFh35 98 3 rfl).trans ev9.symm)
  have q46 : h35 98 4 = v10 := ((hFh35 98 4 rfl).trans ev10.symm)
  have q47 : h35 98 5 = v11 := ((hFh35 98 5 rfl).trans ev11.symm)
  have q48 : h35 145 6 = v12 := ((hFh35 145 _ rfl).trans ev12.symm)
  have q49 : h35 145 7 = v13 := ((hFh35 145 _ rfl).trans ev13.symm)
  have q50 : h35 145 8 = v14 := ((hFh35 145 _ rfl).trans ev14.symm)
  have q51 : h35 145 9 = v15 := ((hFh35 145 _ rfl).trans ev15.symm)
  have q52 : h35 98 79 = v16 := ((hFh35 98 79 rfl).trans ev16.symm)
  have q53 : h35 98 5 = v11 := ((hFh35 98 5 rfl).trans ev11.symm)
  refine g_cV (as := [_]) (c_X12_hours_98 _ h35 (MBm.fr (T := [(1, 7), (1, 8), (1, 9), (4, 0), (10, 0), (11, 0), (16, 0), (17, 0), (18, 0), (20, 0), (89, 0), (97, 0)]) hMm (Fr.sub hFh35 rfl) rfl) (by omega) (by omega) (by omega) (by omega) (WFL.fr (T := [(1, 7), (1, 8), (1, 9), (4, 0), (10, 0), (11, 0), (16, 0), (17, 0), (18, 0), (20, 0), (89, 0), (97, 0)]) hWF (Fr.sub hFh35 rfl) rfl)) dL_law_559 mi_X12_hours in_X12_hours se_X12_hours ml_L_59 rfl rfl rfl sh_98 rfl rfl (Nat.le_of_ble_eq_true rfl) (fun v54 h55 q56 => ?_)
  obtain ⟨hMh55, hFh55, bv54, cv54, zv54⟩ := q56
  refine g_pop dL_law_562 rfl ?_
  refine g_goto 1216 dL_law_563 (by decide) ?_
  have q57 : h55 2 0 = v1 := ((hFh55 2 0 rfl).trans ((hFh35 2 0 rfl).trans ev1.symm))
  have q58 : h55 6 0 = v2 := ((hFh55 6 0 rfl).trans ((hFh35 6 0 rfl).trans ev2.symm))
  have q59 : h55 12 0 = v3 := ((hFh55 12 0 rfl).trans ((hFh35 12 0 rfl).trans ev3.symm))
  have q60 : h55 42 0 = v4 := ((hFh55 42 0 rfl).trans ((hFh35 42 0 rfl).trans ev4.symm))
  have q61 : h55 46 0 = v5 := ((hFh55 46 0 rfl).trans ((hFh35 46 0 rfl).trans ev5.symm))
  have q62 : h55 52 0 = v6 := ((hFh55 52 0 rfl).trans ((hFh35 52 0 rfl).trans ev6.symm))
  have q63 : h55 0 12 = v7 := ((hFh55 0 12 rfl).trans ((hFh35 0 12 rfl).trans ev7.symm))
  have q64 : h55 98 2 = v8 := ((hFh55 98 2 rfl).trans ((hFh35 98 2 rfl).trans ev8.symm))
  have q65 : h55 98 3 = v9 := ((hFh55 98 3 rfl).trans ((hFh35 98 3 rfl).trans ev9.symm))
  have q66 : h55 98 4 = v10 := ((hFh55 98 4 rfl).trans ((hFh35 98 4 rfl).trans ev10.symm))
  obtain ⟨v67, ev67⟩ : ∃ z, z = h55 98 5 := ⟨_, rfl⟩
  have bv67 : 0 ≤ v67 ∧ v67 ≤ 2000000000 := by rw [ev67]; exact (m_98_5 hMh55)
  have q68 : h55 145 6 = v12 := ((hFh55 145 _ rfl).trans ((hFh35 145 _ rfl).trans ev12.symm))
  have q69 : h55 145 7 = v13 := ((hFh55 145 _ rfl).trans ((hFh35 145 _ rfl).trans ev13.symm))
  have q70 : h55 145 8 = v14 := ((hFh55 145 _ rfl).trans ((hFh35 145 _ rfl).trans ev14.symm))
  have q71 : h55 145 9 = v15 := ((hFh55 145 _ rfl).trans ((hFh35 145 _ rfl).trans ev15.symm))
  have q72 : h55 98 79 = v16 := ((hFh55 98 79 rfl).trans ((hFh35 98 79 rfl).trans ev16.symm))
  exact kk _ ⟨⟨(MBx.fr (T := [(98, 6), (98, 7), (98, 8), (98, 47), (98, 48), (98, 49), (98, 52), (101, 0), (105, 0), (107, 0), (111, 0), (112, 0), (113, 0), (128, 0), (129, 0)]) hMh35 (Fr.sub hFh55 rfl) rfl), hMh55, (LD.fr (T := [(1, 7), (1, 8), (1, 9), (4, 0), (10, 0), (11, 0), (16, 0), (17, 0), (18, 0), (20, 0), (89, 0), (97, 0), (98, 6), (98, 7), (98, 8), (98, 47), (98, 48), (98, 49), (98, 52), (101, 0), (105, 0), (107, 0), (111, 0), (112, 0), (113, 0), (128, 0), (129, 0)]) hLD (Fr.tr (Fr.sub hFh35 rfl) hFh55 rfl) rfl), (WFL.fr (T := [(1, 7), (1, 8), (1, 9), (4, 0), (10, 0), (11, 0), (16, 0), (17, 0), (18, 0), (20, 0), (89, 0), (97, 0), (98, 6), (98, 7), (98, 8), (98, 47), (98, 48), (98, 49), (98, 52), (101, 0), (105, 0), (107, 0), (111, 0), (112, 0), (113, 0), (128, 0), (129, 0)]) hWF (Fr.tr (Fr.sub hFh35 rfl) hFh55 rfl) rfl)⟩, by omega, gi, gs, (ASn.fr (T := [(1, 7), (1, 8), (1, 9), (4, 0), (10, 0), (11, 0), (16, 0), (17, 0), (18, 0), (20, 0), (89, 0), (97, 0), (98, 6), (98, 7), (98, 8), (98, 47), (98, 48), (98, 49), (98, 52), (101, 0), (105, 0), (107, 0), (111, 0), (112, 0), (113, 0), (128, 0), (129, 0)]) hXW (Fr.tr (Fr.sub hFh35 rfl) hFh55 rfl) rfl), (ISn.fr (T := [(1, 7), (1, 8), (1, 9), (4, 0), (10, 0), (11, 0), (16, 0), (17, 0), (18, 0), (20, 0), (89, 0), (97, 0), (98, 6), (98, 7), (98, 8), (98, 47), (98, 48), (98, 49), (98, 52), (101, 0), (105, 0), (107, 0), (111, 0), (112, 0), (113, 0), (128, 0), (129, 0)]) hIS (Fr.tr (Fr.sub hFh35 rfl) hFh55 rfl) rfl), (ASn.fr (T := [(1, 7), (1, 8), (1, 9), (4, 0), (10, 0), (11, 0), (16, 0), (17, 0), (18, 0), (20, 0), (89, 0), (97, 0), (98, 6), (98, 7), (98, 8), (98, 47), (98, 48), (98, 49), (98, 52), (101, 0), (105, 0), (107, 0), (111, 0), (112, 0), (113, 0), (128, 0), (129, 0)]) hXK (Fr.tr (Fr.sub hFh35 rfl) hFh55 rfl) rfl), (S1n.fr (T := [(1, 7), (1, 8), (1, 9), (4, 0), (10, 0), (11, 0), (16, 0), (17, 0), (18, 0), (20, 0), (89, 0), (97, 0), (98, 6), (98, 7), (98, 8), (98, 47), (98, 48), (98, 49), (98, 52), (101, 0), (105, 0), (107, 0), (111, 0), (112, 0), (113, 0), (128, 0), (129, 0)]) hS1 (Fr.tr (Fr.sub hFh35 rfl) hFh55 rfl) rfl)⟩
set_option maxRecDepth 100000 in
set_option maxHeartbeats 8000000 in
theorem law_case_10 (xs : List Int) (Po : Option PV → List SE → MEM → Prop) (i : Int) (h : MEM) (I : INV i h) (hi : i + 6 ≤ xs.length) (hN : xs.length ≤ 3072) (kk : ∀ h' : MEM, INV (i + 6) h' → G x cL_law 4 (some .boolean) (some xs) Po (2048, 84000, 600000, 7302250) 1216 [some pX, some (pR 0), some (pR 98), some (pI i)] [] SH h' 151 10868) : G x cL_law 4 (some .boolean) (some xs) Po (2048, 84000, 600000, 7302250) 566 [some pX, some (pR 0), some (pR 98), some (pI i)] [] SH h 151 10868 := by
  obtain ⟨⟨hX, hMm, hLD, hWF⟩, hI, gi, gs, hXW, hIS, hXK, hS1⟩ := I
  obtain ⟨v1, ev1⟩ : ∃ z, z = h 2 0 := ⟨_, rfl⟩
  have bv1 : 0 ≤ v1 ∧ v1 ≤ 10 := by rw [ev1]; exact (m_2_0 hX)
  obtain ⟨v2, ev2⟩ : ∃ z, z = h 6 0 := ⟨_, rfl⟩
  have bv2 : 0 ≤ v2 ∧ v2 ≤ 8 := by rw [ev2]; exact (m_6_0 hX)
  obtain ⟨v3, ev3⟩ : ∃ z, z = h 12 0 := ⟨_, rfl⟩
  have bv3 : 0 ≤ v3 ∧ v3 ≤ 8 := by rw [ev3]; exact (m_12_0 hX)
  obtain ⟨v4, ev4⟩ : ∃ z, z = h 42 0 := ⟨_, rfl⟩
  have bv4 : 0 ≤ v4 ∧ v4 ≤ 10 := by rw [ev4]; exact (m_42_0 hX)
  obtain ⟨v5, ev5⟩ : ∃ z, z = h 46 0 := ⟨_, rfl⟩
  have bv5 : 0 ≤ v5 ∧ v5 ≤ 8 := by rw [ev5]; exact (m_46_0 hX)
  obtain ⟨v6, ev6⟩ : ∃ z, z = h 52 0 := ⟨_, rfl⟩
  have bv6 : 0 ≤ v6 ∧ v6 ≤ 8 := by rw [ev6]; exact (m_52_0 hX)
  obtain ⟨v7, ev7⟩ : ∃ z, z = h 0 12 := ⟨_, rfl⟩
  have bv7 : 0 ≤ v7 ∧ v7 ≤ 1 := by rw [ev7]; exact (m_0_12 hX)
  obtain ⟨v8, ev8⟩ : ∃ z, z = h 98 2 := ⟨_, rfl⟩
  have bv8 : 0 ≤ v8 ∧ v8 ≤ 10 := by rw [ev8]; exact (m_98_2 hMm)
  obtain ⟨v9, ev9⟩ : ∃ z, z = h 98 3 := ⟨_, rfl⟩
  have bv9 : 0 ≤ v9 ∧ v9 ≤ 8 := by rw [ev9]; exact (m_98_3 hMm)
  obtain ⟨v10, ev10⟩ : ∃ z, z = h 98 4 := ⟨_, rfl⟩
  have bv10 : 0 ≤ v10 ∧ v10 ≤ 8 := by rw [ev10]; exact (m_98_4 hMm)
  obtain ⟨v11, ev11⟩ : ∃ z, z = h 98 5 := ⟨_, rfl⟩
  have bv11 : 0 ≤ v11 ∧ v11 ≤ 2000000000 := by rw [ev11]; exact (m_98_5 hMm)
  obtain ⟨v12, ev12⟩ : ∃ z, z = h 145 6 := ⟨_, rfl⟩
  have bv12 : 0 ≤ v12 ∧ v12 ≤ 10 := by rw [ev12]; exact (m_145_6 hMm)
  obtain ⟨v13, ev13⟩ : ∃ z, z = h 145 7 := ⟨_, rfl⟩
  have bv13 : 0 ≤ v13 ∧ v13 ≤ 8 := by rw [ev13]; exact (m_145_7 hMm)
  obtain ⟨v14, ev14⟩ : ∃ z, z = h 145 8 := ⟨_, rfl⟩
  have bv14 : 0 ≤ v14 ∧ v14 ≤ 8 := by rw [ev14]; exact (m_145_8 hMm)
  obtain ⟨v15, ev15⟩ : ∃ z, z = h 145 9 := ⟨_, rfl⟩
  have bv15 : 0 ≤ v15 ∧ v15 ≤ 2000000000 := by rw [ev15]; exact (m_145_9 hMm)
  obtain ⟨v16, ev16⟩ : ∃ z, z = h 98 79 := ⟨_, rfl⟩
  have bv16 : 0 ≤ v16 ∧ v16 ≤ 1 := by rw [ev16]; exact (m_98_79 hMm)
  refine g_aload_n dL_law_566 rfl ?_
  refine g_aloadX_n dL_law_567 rfl ?_
  refine g_iload_n dL_law_568 rfl (fun _ => ?_)
  refine g_iconst dL_law_569 (inR_c rfl) ?_
  refine g_iaddB dL_law_570 (by omega) (by omega) ?_
  refine g_sldB dL_law_571 (by omega) (by omega) (fun v17 ev17 bv17 cv17 => ?_)
  have q18 : h 2 0 = v1 := ev1.symm
  have q19 : h 6 0 = v2 := ev2.symm
  have q20 : h 12 0 = v3 := ev3.symm
  have q21 : h 42 0 = v4 := ev4.symm
  have q22 : h 46 0 = v5 := ev5.symm
  have q23 : h 52 0 = v6 := ev6.symm
  have q24 : h 0 12 = v7 := ev7.symm
  have q25 : h 98 2 = v8 := ev8.symm
  have q26 : h 98 3 = v9 := ev9.symm
  have q27 : h 98 4 = v10 := ev10.symm
  have q28 : h 98 5 = v11 := ev11.symm
  have q29 : h 145 6 = v12 := ev12.symm
  have q30 : h 145 7 = v13 := ev13.symm
  have q31 : h 145 8 = v14 := ev14.symm
  have q32 : h 145 9 = v15 := ev15.symm
  have q33 : h 98 79 = v16 := ev16.symm
  refine g_cV (as := [_]) (c_X11_hour_0 _ h hX (by omega) (by omega) hLD) dL_law_572 mi_X11_hour in_X11_hour se_X11_hour ml_L_60 rfl rfl rfl sh_0 rfl rfl (Nat.le_of_ble_eq_true rfl) (fun v34 h35 q36 => ?_)
  obtain ⟨hMh35, hFh35, bv34, cv34⟩ := q36
  refine g_pop dL_law_575 rfl ?_
  refine g_aload_n dL_law_576 rfl ?_
  refine g_aloadX_n dL_law_577 rfl ?_
  refine g_iload_n dL_law_578 rfl (fun _ => ?_)
  refine g_iconst dL_law_579 (inR_c rfl) ?_
  refine g_iaddB dL_law_580 (by omega) (by omega) ?_
  refine g_sldE dL_law_581 (by omega) (by omega) ev17 ?_
  have q37 : h35 2 0 = v1 := ((hFh35 2 0 rfl).trans ev1.symm)
  have q38 : h35 6 0 = v2 := ((hFh35 6 0 rfl).trans ev2.symm)
  have q39 : h35 12 0 = v3 := ((hFh35 12 0 rfl).trans ev3.symm)
  have q40 : h35 42 0 = v4 := ((hFh35 42 0 rfl).trans ev4.symm)
  have q41 : h35 46 0 = v5 := ((hFh35 46 0 rfl).trans ev5.symm)
  have q42 : h35 52 0 = v6 := ((hFh35 52 0 rfl).trans ev6.symm)
  have q43 : h35 0 12 = v7 := ((hFh35 0 12 rfl).trans ev7.symm)
  have q44 : h35 98 2 = v8 := ((hFh35 98 2 rfl).trans ev8.symm)
  have q45 : h35 98 3 = v9 := ((hFh35 98 3 rfl).trans ev9.symm)
  have q46 : h35 98 4 = v10 := ((hFh35 98 4 rfl).trans ev10.symm)
  have q47 : h35 98 5 = v11 := ((hFh35 98 5 rfl).trans ev11.symm)
  have q48 : h35 145 6 = v12 := ((hFh35 145 _ rfl).trans ev12.symm)
  have q49 : h35 145 7 = v13 := ((hFh35 145 _ rfl).trans ev13.symm)
  have q50 : h35 145 8 = v14 := ((hFh35 145 _ rfl).trans ev14.symm)
  have q51 : h35 145 9 = v15 := ((hFh35 145 _ rfl).trans ev15.symm)
  have q52 : h35 98 79 = v16 := ((hFh35 98 79 rfl).trans ev16.symm)
  have q53 : h35 98 5 = v11 := ((hFh35 98 5 rfl).trans ev11.symm)
  refine g_cV (as := [_]) (c_X12_hour_98 _ h35 (MBm.fr (T := [(1, 7), (1, 9), (4, 0), (10, 0), (11, 0), (16, 0), (17, 0), (18, 0), (20, 0), (89, 0), (97, 0)]) hMm (Fr.sub hFh35 rfl) rfl) (by omega) (by omega) (by omega) (by omega) (WFL.fr (T := [(1, 7), (1, 9), (4, 0), (10, 0), (11, 0), (16, 0), (17, 0), (18, 0), (20, 0), (89, 0), (97, 0)]) hWF (Fr.sub hFh35 rfl) rfl)) dL_law_582 mi_X12_hour in_X12_hour se_X12_hour ml_L_63 rfl rfl rfl sh_98 rfl rfl (Nat.le_of_ble_eq_true rfl) (fun v54 h55 q56 => ?_)
  obtain ⟨hMh55, hFh55, bv54, cv54, zv54⟩ := q56
  refine g_pop dL_law_585 rfl ?_
  refine g_goto 1216 dL_law_586 (by decide) ?_
  have q57 : h55 2 0 = v1 := ((hFh55 2 0 rfl).trans ((hFh35 2 0 rfl).trans ev1.symm))
  have q58 : h55 6 0 = v2 := ((hFh55 6 0 rfl).trans ((hFh35 6 0 rfl).trans ev2.symm))
  have q59 : h55 12 0 = v3 := ((hFh55 12 0 rfl).trans ((hFh35 12 0 rfl).trans ev3.symm))
  have q60 : h55 42 0 = v4 := ((hFh55 42 0 rfl).trans ((hFh35 42 0 rfl).trans ev4.symm))
  have q61 : h55 46 0 = v5 := ((hFh55 46 0 rfl).trans ((hFh35 46 0 rfl).trans ev5.symm))
  have q62 : h55 52 0 = v6 := ((hFh55 52 0 rfl).trans ((hFh35 52 0 rfl).trans ev6.symm))
  have q63 : h55 0 12 = v7 := ((hFh55 0 12 rfl).trans ((hFh35 0 12 rfl).trans ev7.symm))
  have q64 : h55 98 2 = v8 := ((hFh55 98 2 rfl).trans ((hFh35 98 2 rfl).trans ev8.symm))
  have q65 : h55 98 3 = v9 := ((hFh55 98 3 rfl).trans ((hFh35 98 3 rfl).trans ev9.symm))
  have q66 : h55 98 4 = v10 := ((hFh55 98 4 rfl).trans ((hFh35 98 4 rfl).trans ev10.symm))
  obtain ⟨v67, ev67⟩ : ∃ z, z = h55 98 5 := ⟨_, rfl⟩
  have bv67 : 0 ≤ v67 ∧ v67 ≤ 2000000000 := by rw [ev67]; exact (m_98_5 hMh55)
  have q68 : h55 145 6 = v12 := ((hFh55 145 _ rfl).trans ((hFh35 145 _ rfl).trans ev12.symm))
  have q69 : h55 145 7 = v13 := ((hFh55 145 _ rfl).trans ((hFh35 145 _ rfl).trans ev13.symm))
  have q70 : h55 145 8 = v14 := ((hFh55 145 _ rfl).trans ((hFh35 145 _ rfl).trans ev14.symm))
  have q71 : h55 145 9 = v15 := ((hFh55 145 _ rfl).trans ((hFh35 145 _ rfl).trans ev15.symm))
  have q72 : h55 98 79 = v16 := ((hFh55 98 79 rfl).trans ((hFh35 98 79 rfl).trans ev16.symm))
  exact kk _ ⟨⟨(MBx.fr (T := [(98, 6), (98, 8), (98, 47), (98, 48), (98, 49), (98, 52), (101, 0), (105, 0), (107, 0), (111, 0), (112, 0), (113, 0), (128, 0), (129, 0)]) hMh35 (Fr.sub hFh55 rfl) rfl), hMh55, (LD.fr (T := [(1, 7), (1, 9), (4, 0), (10, 0), (11, 0), (16, 0), (17, 0), (18, 0), (20, 0), (89, 0), (97, 0), (98, 6), (98, 8), (98, 47), (98, 48), (98, 49), (98, 52), (101, 0), (105, 0), (107, 0), (111, 0), (112, 0), (113, 0), (128, 0), (129, 0)]) hLD (Fr.tr (Fr.sub hFh35 rfl) hFh55 rfl) rfl), (WFL.fr (T := [(1, 7), (1, 9), (4, 0), (10, 0), (11, 0), (16, 0), (17, 0), (18, 0), (20, 0), (89, 0), (97, 0), (98, 6), (98, 8), (98, 47), (98, 48), (98, 49), (98, 52), (101, 0), (105, 0), (107, 0), (111, 0), (112, 0), (113, 0), (128, 0), (129, 0)]) hWF (Fr.tr (Fr.sub hFh35 rfl) hFh55 rfl) rfl)⟩, by omega, gi, gs, (ASn.fr (T := [(1, 7), (1, 9), (4, 0), (10, 0), (11, 0), (16, 0), (17, 0), (18, 0), (20, 0), (89, 0), (97, 0), (98, 6), (98, 8), (98, 47), (98, 48), (98, 49), (98, 52), (101, 0), (105, 0), (107, 0), (111, 0), (112, 0), (113, 0), (128, 0), (129, 0)]) hXW (Fr.tr (Fr.sub hFh35 rfl) hFh55 rfl) rfl), (ISn.fr (T := [(1, 7), (1, 9), (4, 0), (10, 0), (11, 0), (16, 0), (17, 0), (18, 0), (20, 0), (89, 0), (97, 0), (98, 6), (98, 8), (98, 47), (98, 48), (98, 49), (98, 52), (101, 0), (105, 0), (107, 0), (111, 0), (112, 0), (113, 0), (128, 0), (129, 0)]) hIS (Fr.tr (Fr.sub hFh35 rfl) hFh55 rfl) rfl), (ASn.fr (T := [(1, 7), (1, 9), (4, 0), (10, 0), (11, 0), (16, 0), (17, 0), (18, 0), (20, 0), (89, 0), (97, 0), (98, 6), (98, 8), (98, 47), (98, 48), (98, 49), (98, 52), (101, 0), (105, 0), (107, 0), (111, 0), (112, 0), (113, 0), (128, 0), (129, 0)]) hXK (Fr.tr (Fr.sub hFh35 rfl) hFh55 rfl) rfl), (S1n.fr (T := [(1, 7), (1, 9), (4, 0), (10, 0), (11, 0), (16, 0), (17, 0), (18, 0), (20, 0), (89, 0), (97, 0), (98, 6), (98, 8), (98, 47), (98, 48), (98, 49), (98, 52), (101, 0), (105, 0), (107, 0), (111, 0), (112, 0), (113, 0), (128, 0), (129, 0)]) hS1 (Fr.tr (Fr.sub hFh35 rfl) hFh55 rfl) rfl)⟩
set_option maxRecDepth 100000 in
set_option maxHeartbeats 8000000 in
theorem law_case_11 (xs : List Int) (Po : Option PV → List SE → MEM → Prop) (i : Int) (h : MEM) (I : INV i h) (hi : i + 6 ≤ xs.length) (hN : xs.length ≤ 3072) (kk : ∀ h' : MEM, INV (i + 6) h' → G x cL_law 4 (some .boolean) (some xs) Po (2048, 84000, 600000, 7302250) 1216 [some pX, some (pR 0), some (pR 98), some (pI i)] [] SH h' 151 10868) : G x cL_law 4 (some .boolean) (some xs) Po (2048, 84000, 600000, 7302250) 589 [some pX, some (pR 0), some (pR 98), some (pI i)] [] SH h 151 10868 := by
  obtain ⟨⟨hX, hMm, hLD, hWF⟩, hI, gi, gs, hXW, hIS, hXK, hS1⟩ := I
  obtain ⟨v1, ev1⟩ : ∃ z, z = h 2 0 := ⟨_, rfl⟩
  have bv1 : 0 ≤ v1 ∧ v1 ≤ 10 := by rw [ev1]; exact (m_2_0 hX)
  obtain ⟨v2, ev2⟩ : ∃ z, z = h 6 0 := ⟨_, rfl⟩
  have bv2 : 0 ≤ v2 ∧ v2 ≤ 8 := by rw [ev2]; exact (m_6_0 hX)
  obtain ⟨v3, ev3⟩ : ∃ z, z = h 12 0 := ⟨_, rfl⟩
  have bv3 : 0 ≤ v3 ∧ v3 ≤ 8 := by rw [ev3]; exact (m_12_0 hX)
  obtain ⟨v4, ev4⟩ : ∃ z, z = h 42 0 := ⟨_, rfl⟩
  have bv4 : 0 ≤ v4 ∧ v4 ≤ 10 := by rw [ev4]; exact (m_42_0 hX)
  obtain ⟨v5, ev5⟩ : ∃ z, z = h 46 0 := ⟨_, rfl⟩
  have bv5 : 0 ≤ v5 ∧ v5 ≤ 8 := by rw [ev5]; exact (m_46_0 hX)
  obtain ⟨v6, ev6⟩ : ∃ z, z = h 52 0 := ⟨_, rfl⟩
  have bv6 : 0 ≤ v6 ∧ v6 ≤ 8 := by rw [ev6]; exact (m_52_0 hX)
  obtain ⟨v7, ev7⟩ : ∃ z, z = h 0 12 := ⟨_, rfl⟩
  have bv7 : 0 ≤ v7 ∧ v7 ≤ 1 := by rw [ev7]; exact (m_0_12 hX)
  obtain ⟨v8, ev8⟩ : ∃ z, z = h 98 2 := ⟨_, rfl⟩
  have bv8 : 0 ≤ v8 ∧ v8 ≤ 10 := by rw [ev8]; exact (m_98_2 hMm)
  obtain ⟨v9, ev9⟩ : ∃ z, z = h 98 3 := ⟨_, rfl⟩
  have bv9 : 0 ≤ v9 ∧ v9 ≤ 8 := by rw [ev9]; exact (m_98_3 hMm)
  obtain ⟨v10, ev10⟩ : ∃ z, z = h 98 4 := ⟨_, rfl⟩
  have bv10 : 0 ≤ v10 ∧ v10 ≤ 8 := by rw [ev10]; exact (m_98_4 hMm)
  obtain ⟨v11, ev11⟩ : ∃ z, z = h 98 5 := ⟨_, rfl⟩
  have bv11 : 0 ≤ v11 ∧ v11 ≤ 2000000000 := by rw [ev11]; exact (m_98_5 hMm)
  obtain ⟨v12, ev12⟩ : ∃ z, z = h 145 6 := ⟨_, rfl⟩
  have bv12 : 0 ≤ v12 ∧ v12 ≤ 10 := by rw [ev12]; exact (m_145_6 hMm)
  obtain ⟨v13, ev13⟩ : ∃ z, z = h 145 7 := ⟨_, rfl⟩
  have bv13 : 0 ≤ v13 ∧ v13 ≤ 8 := by rw [ev13]; exact (m_145_7 hMm)
  obtain ⟨v14, ev14⟩ : ∃ z, z = h 145 8 := ⟨_, rfl⟩
  have bv14 : 0 ≤ v14 ∧ v14 ≤ 8 := by rw [ev14]; exact (m_145_8 hMm)
  obtain ⟨v15, ev15⟩ : ∃ z, z = h 145 9 := ⟨_, rfl⟩
  have bv15 : 0 ≤ v15 ∧ v15 ≤ 2000000000 := by rw [ev15]; exact (m_145_9 hMm)
  obtain ⟨v16, ev16⟩ : ∃ z, z = h 98 79 := ⟨_, rfl⟩
  have bv16 : 0 ≤ v16 ∧ v16 ≤ 1 := by rw [ev16]; exact (m_98_79 hMm)
  refine g_aload_n dL_law_589 rfl ?_
  refine g_aloadX_n dL_law_590 rfl ?_
  refine g_iload_n dL_law_591 rfl (fun _ => ?_)
  refine g_iconst dL_law_592 (inR_c rfl) ?_
  refine g_iaddB dL_law_593 (by omega) (by omega) ?_
  refine g_sldB dL_law_594 (by omega) (by omega) (fun v17 ev17 bv17 cv17 => ?_)
  refine g_aloadX_n dL_law_595 rfl ?_
  refine g_iload_n dL_law_596 rfl (fun _ => ?_)
  refine g_iconst dL_law_597 (inR_c rfl) ?_
  refine g_iaddB dL_law_598 (by omega) (by omega) ?_
  refine g_sldB dL_law_599 (by omega) (by omega) (fun v18 ev18 bv18 cv18 => ?_)
  have q19 : h 2 0 = v1 := ev1.symm
  have q20 : h 6 0 = v2 := ev2.symm
  have q21 : h 12 0 = v3 := ev3.symm
  have q22 : h 42 0 = v4 := ev4.symm
  have q23 : h 46 0 = v5 := ev5.symm
  have q24 : h 52 0 = v6 := ev6.symm
  have q25 : h 0 12 = v7 := ev7.symm
  have q26 : h 98 2 = v8 := ev8.symm
  have q27 : h 98 3 = v9 := ev9.symm
  have q28 : h 98 4 = v10 := ev10.symm
  have q29 : h 98 5 = v11 := ev11.symm
  have q30 : h 145 6 = v12 := ev12.symm
  have q31 : h 145 7 = v13 := ev13.symm
  have q32 : h 145 8 = v14 := ev14.symm
  have q33 : h 145 9 = v15 := ev15.symm
  have q34 : h 98 79 = v16 := ev16.symm
  refine g_cVP (as := [_, _]) (c_X11_roofIs_0 _ _ h hX (by omega) (by omega) (by omega) (by omega)) dL_law_600 mi_X11_roofIs in_X11_roofIs se_X11_roofIs ml_L_64 rfl rfl rfl sh_0 rfl rfl (Nat.le_of_ble_eq_true rfl) (fun v35 q36 => ?_)
  obtain ⟨bv35, cv35⟩ := q36
  refine g_pop dL_law_603 rfl ?_
  refine g_aload_n dL_law_604 rfl ?_
  refine g_aloadX_n dL_law_605 rfl ?_
  refine g_iload_n dL_law_606 rfl (fun _ => ?_)
  refine g_iconst dL_law_607 (inR_c rfl) ?_
  refine g_iaddB dL_law_608 (by omega) (by omega) ?_
  refine g_sldE dL_law_609 (by omega) (by omega) ev17 ?_
  refine g_aloadX_n dL_law_610 rfl ?_
  refine g_iload_n dL_law_611 rfl (fun _ => ?_)
  refine g_iconst dL_law_612 (inR_c rfl) ?_
  refine g_iaddB dL_law_613 (by omega) (by omega) ?_
  refine g_sldE dL_law_614 (by omega) (by omega) ev18 ?_
  have q37 : h 2 0 = v1 := ev1.symm
  have q38 : h 6 0 = v2 := ev2.symm
  have q39 : h 12 0 = v3 := ev3.symm
  have q40 : h 42 0 = v4 := ev4.symm
  have q41 : h 46 0 = v5 := ev5.symm
  have q42 : h 52 0 = v6 := ev6.symm
  have q43 : h 0 12 = v7 := ev7.symm
  have q44 : h 98 2 = v8 := ev8.symm
  have q45 : h 98 3 = v9 := ev9.symm
  have q46 : h 98 4 = v10 := ev10.symm
  have q47 : h 98 5 = v11 := ev11.symm
  have q48 : h 145 6 = v12 := ev12.symm
  have q49 : h 145 7 = v13 := ev13.symm
  have q50 : h 145 8 = v14 := ev14.symm
  have q51 : h 145 9 = v15 := ev15.symm
  have q52 : h 98 79 = v16 := ev16.symm
  refine g_cVP (as := [_, _]) (c_X12_roofIs_98 _ _ h hMm (by omega) (by omega) (by omega) (by omega)) dL_law_615 mi_X12_roofIs in_X12_roofIs se_X12_roofIs ml_L_68 rfl rfl rfl sh_98 rfl rfl (Nat.le_of_ble_eq_true rfl) (fun v53 q54 => ?_)
  obtain ⟨bv53, cv53⟩ := q54
  refine g_pop dL_law_618 rfl ?_
  refine g_goto 1216 dL_law_619 (by decide) ?_
  have q55 : h 2 0 = v1 := ev1.symm
  have q56 : h 6 0 = v2 := ev2.symm
  have q57 : h 12 0 = v3 := ev3.symm
  have q58 : h 42 0 = v4 := ev4.symm
  have q59 : h 46 0 = v5 := ev5.symm
  have q60 : h 52 0 = v6 := ev6.symm
  have q61 : h 0 12 = v7 := ev7.symm
  have q62 : h 98 2 = v8 := ev8.symm
  have q63 : h 98 3 = v9 := ev9.symm
  have q64 : h 98 4 = v10 := ev10.symm
  have q65 : h 98 5 = v11 := ev11.symm
  have q66 : h 145 6 = v12 := ev12.symm
  have q67 : h 145 7 = v13 := ev13.symm
  have q68 : h 145 8 = v14 := ev14.symm
  have q69 : h 145 9 = v15 := ev15.symm
  have q70 : h 98 79 = v16 := ev16.symm
  exact kk _ ⟨⟨hX, hMm, hLD, hWF⟩, by omega, gi, gs, hXW, hIS, hXK, hS1⟩
set_option maxRecDepth 100000 in
set_option maxHeartbeats 8000000 in
theorem law_case_12 (xs : List Int) (Po : Option PV → List SE → MEM → Prop) (i : Int) (h : MEM) (I : INV i h) (hi : i + 6 ≤ xs.length) (hN : xs.length ≤ 3072) (kk : ∀ h' : MEM, INV (i + 6) h' → G x cL_law 4 (some .boolean) (some xs) Po (2048, 84000, 600000, 7302250) 1216 [some pX, some (pR 0), some (pR 98), some (pI i)] [] SH h' 151 10868) : G x cL_law 4 (some .boolean) (some xs) Po (2048, 84000, 600000, 7302250) 622 [some pX, some (pR 0), some (pR 98), some (pI i)] [] SH h 151 10868 := by
  obtain ⟨⟨hX, hMm, hLD, hWF⟩, hI, gi, gs, hXW, hIS, hXK, hS1⟩ := I
  obtain ⟨v1, ev1⟩ : ∃ z, z = h 2 0 := ⟨_, rfl⟩
  have bv1 : 0 ≤ v1 ∧ v1 ≤ 10 := by rw [ev1]; exact (m_2_0 hX)
  obtain ⟨v2, ev2⟩ : ∃ z, z = h 6 0 := ⟨_, rfl⟩
  have bv2 : 0 ≤ v2 ∧ v2 ≤ 8 := by rw [ev2]; exact (m_6_0 hX)
  obtain ⟨v3, ev3⟩ : ∃ z, z = h 12 0 := ⟨_, rfl⟩
  have bv3 : 0 ≤ v3 ∧ v3 ≤ 8 := by rw [ev3]; exact (m_12_0 hX)
  obtain ⟨v4, ev4⟩ : ∃ z, z = h 42 0 := ⟨_, rfl⟩
  have bv4 : 0 ≤ v4 ∧ v4 ≤ 10 := by rw [ev4]; exact (m_42_0 hX)
  obtain ⟨v5, ev5⟩ : ∃ z, z = h 46 0 := ⟨_, rfl⟩
  have bv5 : 0 ≤ v5 ∧ v5 ≤ 8 := by rw [ev5]; exact (m_46_0 hX)
  obtain ⟨v6, ev6⟩ : ∃ z, z = h 52 0 := ⟨_, rfl⟩
  have bv6 : 0 ≤ v6 ∧ v6 ≤ 8 := by rw [ev6]; exact (m_52_0 hX)
  obtain ⟨v7, ev7⟩ : ∃ z, z = h 0 12 := ⟨_, rfl⟩
  have bv7 : 0 ≤ v7 ∧ v7 ≤ 1 := by rw [ev7]; exact (m_0_12 hX)
  obtain ⟨v8, ev8⟩ : ∃ z, z = h 98 2 := ⟨_, rfl⟩
  have bv8 : 0 ≤ v8 ∧ v8 ≤ 10 := by rw [ev8]; exact (m_98_2 hMm)
  obtain ⟨v9, ev9⟩ : ∃ z, z = h 98 3 := ⟨_, rfl⟩
  have bv9 : 0 ≤ v9 ∧ v9 ≤ 8 := by rw [ev9]; exact (m_98_3 hMm)
  obtain ⟨v10, ev10⟩ : ∃ z, z = h 98 4 := ⟨_, rfl⟩
  have bv10 : 0 ≤ v10 ∧ v10 ≤ 8 := by rw [ev10]; exact (m_98_4 hMm)
  obtain ⟨v11, ev11⟩ : ∃ z, z = h 98 5 := ⟨_, rfl⟩
  have bv11 : 0 ≤ v11 ∧ v11 ≤ 2000000000 := by rw [ev11]; exact (m_98_5 hMm)
  obtain ⟨v12, ev12⟩ : ∃ z, z = h 145 6 := ⟨_, rfl⟩
  have bv12 : 0 ≤ v12 ∧ v12 ≤ 10 := by rw [ev12]; exact (m_145_6 hMm)
  obtain ⟨v13, ev13⟩ : ∃ z, z = h 145 7 := ⟨_, rfl⟩
  have bv13 : 0 ≤ v13 ∧ v13 ≤ 8 := by rw [ev13]; exact (m_145_7 hMm)
  obtain ⟨v14, ev14⟩ : ∃ z, z = h 145 8 := ⟨_, rfl⟩
  have bv14 : 0 ≤ v14 ∧ v14 ≤ 8 := by rw [ev14]; exact (m_145_8 hMm)
  obtain ⟨v15, ev15⟩ : ∃ z, z = h 145 9 := ⟨_, rfl⟩
  have bv15 : 0 ≤ v15 ∧ v15 ≤ 2000000000 := by rw [ev15]; exact (m_145_9 hMm)
  obtain ⟨v16, ev16⟩ : ∃ z, z = h 98 79 := ⟨_, rfl⟩
  have bv16 : 0 ≤ v16 ∧ v16 ≤ 1 := by rw [ev16]; exact (m_98_79 hMm)
  refine g_aload_n dL_law_622 rfl ?_
  refine g_aloadX_n dL_law_623 rfl ?_
  refine g_iload_n dL_law_624 rfl (fun _ => ?_)
  refine g_iconst dL_law_625 (inR_c rfl) ?_
  refine g_iaddB dL_law_626 (by omega) (by omega) ?_
  refine g_sldB dL_law_627 (by omega) (by omega) (fun v17 ev17 bv17 cv17 => ?_)
  refine g_aloadX_n dL_law_628 rfl ?_
  refine g_iload_n dL_law_629 rfl (fun _ => ?_)
  refine g_iconst dL_law_630 (inR_c rfl) ?_
  refine g_iaddB dL_law_631 (by omega) (by omega) ?_
  refine g_sldB dL_law_632 (by omega) (by omega) (fun v18 ev18 bv18 cv18 => ?_)
  have q19 : h 2 0 = v1 := ev1.symm
  have q20 : h 6 0 = v2 := ev2.symm
  have q21 : h 12 0 = v3 := ev3.symm
  have q22 : h 42 0 = v4 := ev4.symm
  have q23 : h 46 0 = v5 := ev5.symm
  have q24 : h 52 0 = v6 := ev6.symm
  have q25 : h 0 12 = v7 := ev7.symm
  have q26 : h 98 2 = v8 := ev8.symm
  have q27 : h 98 3 = v9 := ev9.symm
  have q28 : h 98 4 = v10 := ev10.symm
  have q29 : h 98 5 = v11 := ev11.symm
  have q30 : h 145 6 = v12 := ev12.symm
  have q31 : h 145 7 = v13 := ev13.symm
  have q32 : h 145 8 = v14 := ev14.symm
  have q33 : h 145 9 = v15 := ev15.symm
  have q34 : h 98 79 = v16 := ev16.symm
  refine g_cVP (as := [_, _]) (c_X11_apprenticeIs_0 _ _ h hX (by omega) (by omega) (by omega) (by omega)) dL_law_633 mi_X11_apprenticeIs in_X11_apprenticeIs se_X11_apprenticeIs ml_L_69 rfl rfl rfl sh_0 rfl rfl (Nat.le_of_ble_eq_true rfl) (fun v35 q36 => ?_)
  obtain ⟨bv35, cv35⟩ := q36
  refine g_pop dL_law_636 rfl ?_
  refine g_aload_n dL_law_637 rfl ?_
  refine g_aloadX_n dL_law_638 rfl ?_
  refine g_iload_n dL_law_639 rfl (fun _ => ?_)
  refine g_iconst dL_law_640 (inR_c rfl) ?_
  refine g_iaddB dL_law_641 (by omega) (by omega) ?_
  refine g_sldE dL_law_642 (by omega) (by omega) ev17 ?_
  refine g_aloadX_n dL_law_643 rfl ?_
  refine g_iload_n dL_law_644 rfl (fun _ => ?_)
  refine g_iconst dL_law_645 (inR_c rfl) ?_
  refine g_iaddB dL_law_646 (by omega) (by omega) ?_
  refine g_sldE dL_law_647 (by omega) (by omega) ev18 ?_
  have q37 : h 2 0 = v1 := ev1.symm
  have q38 : h 6 0 = v2 := ev2.symm
  have q39 : h 12 0 = v3 := ev3.symm
  have q40 : h 42 0 = v4 := ev4.symm
  have q41 : h 46 0 = v5 := ev5.symm
  have q42 : h 52 0 = v6 := ev6.symm
  have q43 : h 0 12 = v7 := ev7.symm
  have q44 : h 98 2 = v8 := ev8.symm
  have q45 : h 98 3 = v9 := ev9.symm
  have q46 : h 98 4 = v10 := ev10.symm
  have q47 : h 98 5 = v11 := ev11.symm
  have q48 : h 145 6 = v12 := ev12.symm
  have q49 : h 145 7 = v13 := ev13.symm
  have q50 : h 145 8 = v14 := ev14.symm
  have q51 : h 145 9 = v15 := ev15.symm
  have q52 : h 98 79 = v16 := ev16.symm
  refine g_cVP (as := [_, _]) (c_X12_apprenticeIs_98 _ _ h hMm (by omega) (by omega) (by omega) (by omega)) dL_law_648 mi_X12_apprenticeIs in_X12_apprenticeIs se_X12_apprenticeIs ml_L_72 rfl rfl rfl sh_98 rfl rfl (Nat.le_of_ble_eq_true rfl) (fun v53 q54 => ?_)
  obtain ⟨bv53, cv53⟩ := q54
  refine g_pop dL_law_651 rfl ?_
  refine g_goto 1216 dL_law_652 (by decide) ?_
  have q55 : h 2 0 = v1 := ev1.symm
  have q56 : h 6 0 = v2 := ev2.symm
  have q57 : h 12 0 = v3 := ev3.symm
  have q58 : h 42 0 = v4 := ev4.symm
  have q59 : h 46 0 = v5 := ev5.symm
  have q60 : h 52 0 = v6 := ev6.symm
  have q61 : h 0 12 = v7 := ev7.symm
  have q62 : h 98 2 = v8 := ev8.symm
  have q63 : h 98 3 = v9 := ev9.symm
  have q64 : h 98 4 = v10 := ev10.symm
  have q65 : h 98 5 = v11 := ev11.symm
  have q66 : h 145 6 = v12 := ev12.symm
  have q67 : h 145 7 = v13 := ev13.symm
  have q68 : h 145 8 = v14 := ev14.symm
  have q69 : h 145 9 = v15 := ev15.symm
  have q70 : h 98 79 = v16 := ev16.symm
  exact kk _ ⟨⟨hX, hMm, hLD, hWF⟩, by omega, gi, gs, hXW, hIS, hXK, hS1⟩
set_option maxRecDepth 100000 in
set_option maxHeartbeats 8000000 in
theorem law_case_13 (xs : List Int) (Po : Option PV → List SE → MEM → Prop) (i : Int) (h : MEM) (I : INV i h) (hi : i + 6 ≤ xs.length) (hN : xs.length ≤ 3072) (kk : ∀ h' : MEM, INV (i + 6) h' → G x cL_law 4 (some .boolean) (some xs) Po (2048, 84000, 600000, 7302250) 1216 [some pX, some (pR 0), some (pR 98), some (pI i)] [] SH h' 151 10868) : G x cL_law 4 (some .boolean) (some xs) Po (2048, 84000, 600000, 7302250) 655 [some pX, some (pR 0), some (pR 98), some (pI i)] [] SH h 151 10868 := by
  obtain ⟨⟨hX, hMm, hLD, hWF⟩, hI, gi, gs, hXW, hIS, hXK, hS1⟩ := I
  obtain ⟨v1, ev1⟩ : ∃ z, z = h 2 0 := ⟨_, rfl⟩
  have bv1 : 0 ≤ v1 ∧ v1 ≤ 10 := by rw [ev1]; exact (m_2_0 hX)
  obtain ⟨v2, ev2⟩ : ∃ z, z = h 6 0 := ⟨_, rfl⟩
  have bv2 : 0 ≤ v2 ∧ v2 ≤ 8 := by rw [ev2]; exact (m_6_0 hX)
  obtain ⟨v3, ev3⟩ : ∃ z, z = h 12 0 := ⟨_, rfl⟩
  have bv3 : 0 ≤ v3 ∧ v3 ≤ 8 := by rw [ev3]; exact (m_12_0 hX)
  obtain ⟨v4, ev4⟩ : ∃ z, z = h 42 0 := ⟨_, rfl⟩
  have bv4 : 0 ≤ v4 ∧ v4 ≤ 10 := by rw [ev4]; exact (m_42_0 hX)
  obtain ⟨v5, ev5⟩ : ∃ z, z = h 46 0 := ⟨_, rfl⟩
  have bv5 : 0 ≤ v5 ∧ v5 ≤ 8 := by rw [ev5]; exact (m_46_0 hX)
  obtain ⟨v6, ev6⟩ : ∃ z, z = h 52 0 := ⟨_, rfl⟩
  have bv6 : 0 ≤ v6 ∧ v6 ≤ 8 := by rw [ev6]; exact (m_52_0 hX)
  obtain ⟨v7, ev7⟩ : ∃ z, z = h 0 12 := ⟨_, rfl⟩
  have bv7 : 0 ≤ v7 ∧ v7 ≤ 1 := by rw [ev7]; exact (m_0_12 hX)
  obtain ⟨v8, ev8⟩ : ∃ z, z = h 98 2 := ⟨_, rfl⟩
  have bv8 : 0 ≤ v8 ∧ v8 ≤ 10 := by rw [ev8]; exact (m_98_2 hMm)
  obtain ⟨v9, ev9⟩ : ∃ z, z = h 98 3 := ⟨_, rfl⟩
  have bv9 : 0 ≤ v9 ∧ v9 ≤ 8 := by rw [ev9]; exact (m_98_3 hMm)
  obtain ⟨v10, ev10⟩ : ∃ z, z = h 98 4 := ⟨_, rfl⟩
  have bv10 : 0 ≤ v10 ∧ v10 ≤ 8 := by rw [ev10]; exact (m_98_4 hMm)
  obtain ⟨v11, ev11⟩ : ∃ z, z = h 98 5 := ⟨_, rfl⟩
  have bv11 : 0 ≤ v11 ∧ v11 ≤ 2000000000 := by rw [ev11]; exact (m_98_5 hMm)
  obtain ⟨v12, ev12⟩ : ∃ z, z = h 145 6 := ⟨_, rfl⟩
  have bv12 : 0 ≤ v12 ∧ v12 ≤ 10 := by rw [ev12]; exact (m_145_6 hMm)
  obtain ⟨v13, ev13⟩ : ∃ z, z = h 145 7 := ⟨_, rfl⟩
  have bv13 : 0 ≤ v13 ∧ v13 ≤ 8 := by rw [ev13]; exact (m_145_7 hMm)
  obtain ⟨v14, ev14⟩ : ∃ z, z = h 145 8 := ⟨_, rfl⟩
  have bv14 : 0 ≤ v14 ∧ v14 ≤ 8 := by rw [ev14]; exact (m_145_8 hMm)
  obtain ⟨v15, ev15⟩ : ∃ z, z = h 145 9 := ⟨_, rfl⟩
  have bv15 : 0 ≤ v15 ∧ v15 ≤ 2000000000 := by rw [ev15]; exact (m_145_9 hMm)
  obtain ⟨v16, ev16⟩ : ∃ z, z = h 98 79 := ⟨_, rfl⟩
  have bv16 : 0 ≤ v16 ∧ v16 ≤ 1 := by rw [ev16]; exact (m_98_79 hMm)
  refine g_aload_n dL_law_655 rfl ?_
  refine g_aloadX_n dL_law_656 rfl ?_
  refine g_iload_n dL_law_657 rfl (fun _ => ?_)
  refine g_iconst dL_law_658 (inR_c rfl) ?_
  refine g_iaddB dL_law_659 (by omega) (by omega) ?_
  refine g_sldB dL_law_660 (by omega) (by omega) (fun v17 ev17 bv17 cv17 => ?_)
  refine g_aloadX_n dL_law_661 rfl ?_
  refine g_iload_n dL_law_662 rfl (fun _ => ?_)
  refine g_iconst dL_law_663 (inR_c rfl) ?_
  refine g_iaddB dL_law_664 (by omega) (by omega) ?_
  refine g_sldB dL_law_665 (by omega) (by omega) (fun v18 ev18 bv18 cv18 => ?_)
  have q19 : h 2 0 = v1 := ev1.symm
  have q20 : h 6 0 = v2 := ev2.symm
  have q21 : h 12 0 = v3 := ev3.symm
  have q22 : h 42 0 = v4 := ev4.symm
  have q23 : h 46 0 = v5 := ev5.symm
  have q24 : h 52 0 = v6 := ev6.symm
  have q25 : h 0 12 = v7 := ev7.symm
  have q26 : h 98 2 = v8 := ev8.symm
  have q27 : h 98 3 = v9 := ev9.symm
  have q28 : h 98 4 = v10 := ev10.symm
  have q29 : h 98 5 = v11 := ev11.symm
  have q30 : h 145 6 = v12 := ev12.symm
  have q31 : h 145 7 = v13 := ev13.symm
  have q32 : h 145 8 = v14 := ev14.symm
  have q33 : h 145 9 = v15 := ev15.symm
  have q34 : h 98 79 = v16 := ev16.symm
  refine g_cVP (as := [_, _]) (c_X11_masterIs_0 _ _ h hX (by omega) (by omega) (by omega) (by omega)) dL_law_666 mi_X11_masterIs in_X11_masterIs se_X11_masterIs ml_L_73 rfl rfl rfl sh_0 rfl rfl (Nat.le_of_ble_eq_true rfl) (fun v35 q36 => ?_)
  obtain ⟨bv35, cv35⟩ := q36
  refine g_pop dL_law_669 rfl ?_
  refine g_aload_n dL_law_670 rfl ?_
  refine g_aloadX_n dL_law_671 rfl ?_
  refine g_iload_n dL_law_672 rfl (fun _ => ?_)
  refine g_iconst dL_law_673 (inR_c rfl) ?_
  refine g_iaddB dL_law_674 (by omega) (by omega) ?_
  refine g_sldE dL_law_675 (by omega) (by omega) ev17 ?_
  refine g_aloadX_n dL_law_676 rfl ?_
  refine g_iload_n dL_law_677 rfl (fun _ => ?_)
  refine g_iconst dL_law_678 (inR_c rfl) ?_
  refine g_iaddB dL_law_679 (by omega) (by omega) ?_
  refine g_sldE dL_law_680 (by omega) (by omega) ev18 ?_
  have q37 : h 2 0 = v1 := ev1.symm
  have q38 : h 6 0 = v2 := ev2.symm
  have q39 : h 12 0 = v3 := ev3.symm
  have q40 : h 42 0 = v4 := ev4.symm
  have q41 : h 46 0 = v5 := ev5.symm
  have q42 : h 52 0 = v6 := ev6.symm
  have q43 : h 0 12 = v7 := ev7.symm
  have q44 : h 98 2 = v8 := ev8.symm
  have q45 : h 98 3 = v9 := ev9.symm
  have q46 : h 98 4 = v10 := ev10.symm
  have q47 : h 98 5 = v11 := ev11.symm
  have q48 : h 145 6 = v12 := ev12.symm
  have q49 : h 145 7 = v13 := ev13.symm
  have q50 : h 145 8 = v14 := ev14.symm
  have q51 : h 145 9 = v15 := ev15.symm
  have q52 : h 98 79 = v16 := ev16.symm
  refine g_cVP (as := [_, _]) (c_X12_masterIs_98 _ _ h hMm (by omega) (by omega) (by omega) (by omega)) dL_law_681 mi_X12_masterIs in_X12_masterIs se_X12_masterIs ml_L_76 rfl rfl rfl sh_98 rfl rfl (Nat.le_of_ble_eq_true rfl) (fun v53 q54 => ?_)
  obtain ⟨bv53, cv53⟩ := q54
  refine g_pop dL_law_684 rfl ?_
  refine g_goto 1216 dL_law_685 (by decide) ?_
  have q55 : h 2 0 = v1 := ev1.symm
  have q56 : h 6 0 = v2 := ev2.symm
  have q57 : h 12 0 = v3 := ev3.symm
  have q58 : h 42 0 = v4 := ev4.symm
  have q59 : h 46 0 = v5 := ev5.symm
  have q60 : h 52 0 = v6 := ev6.symm
  have q61 : h 0 12 = v7 := ev7.symm
  have q62 : h 98 2 = v8 := ev8.symm
  have q63 : h 98 3 = v9 := ev9.symm
  have q64 : h 98 4 = v10 := ev10.symm
  have q65 : h 98 5 = v11 := ev11.symm
  have q66 : h 145 6 = v12 := ev12.symm
  have q67 : h 145 7 = v13 := ev13.symm
  have q68 : h 145 8 = v14 := ev14.symm
  have q69 : h 145 9 = v15 := ev15.symm
  have q70 : h 98 79 = v16 := ev16.symm
  exact kk _ ⟨⟨hX, hMm, hLD, hWF⟩, by omega, gi, gs, hXW, hIS, hXK, hS1⟩
set_option maxRecDepth 100000 in
set_option maxHeartbeats 8000000 in
theorem law_case_14 (xs : List Int) (Po : Option PV → List SE → MEM → Prop) (i : Int) (h : MEM) (I : INV i h) (hi : i + 6 ≤ xs.length) (hN : xs.length ≤ 3072) (kk : ∀ h' : MEM, INV (i + 6) h' → G x cL_law 4 (some .boolean) (some xs) Po (2048, 84000, 600000, 7302250) 1216 [some pX, some (pR 0), some (pR 98), some (pI i)] [] SH h' 151 10868) : G x cL_law 4 (some .boolean) (some xs) Po (2048, 84000, 600000, 7302250) 688 [some pX, some (pR 0), some (pR 98), some (pI i)] [] SH h 151 10868 := by
  obtain ⟨⟨hX, hMm, hLD, hWF⟩, hI, gi, gs, hXW, hIS, hXK, hS1⟩ := I
  obtain ⟨v1, ev1⟩ : ∃ z, z = h 2 0 := ⟨_, rfl⟩
  have bv1 : 0 ≤ v1 ∧ v1 ≤ 10 := by rw [ev1]; exact (m_2_0 hX)
  obtain ⟨v2, ev2⟩ : ∃ z, z = h 6 0 := ⟨_, rfl⟩
  have bv2 : 0 ≤ v2 ∧ v2 ≤ 8 := by rw [ev2]; exact (m_6_0 hX)
  obtain ⟨v3, ev3⟩ : ∃ z, z = h 12 0 := ⟨_, rfl⟩
  have bv3 : 0 ≤ v3 ∧ v3 ≤ 8 := by rw [ev3]; exact (m_12_0 hX)
  obtain ⟨v4, ev4⟩ : ∃ z, z = h 42 0 := ⟨_, rfl⟩
  have bv4 : 0 ≤ v4 ∧ v4 ≤ 10 := by rw [ev4]; exact (m_42_0 hX)
  obtain ⟨v5, ev5⟩ : ∃ z, z = h 46 0 := ⟨_, rfl⟩
  have bv5 : 0 ≤ v5 ∧ v5 ≤ 8 := by rw [ev5]; exact (m_46_0 hX)
  obtain ⟨v6, ev6⟩ : ∃ z, z = h 52 0 := ⟨_, rfl⟩
  have bv6 : 0 ≤ v6 ∧ v6 ≤ 8 := by rw [ev6]; exact (m_52_0 hX)
  obtain ⟨v7, ev7⟩ : ∃ z, z = h 0 12 := ⟨_, rfl⟩
  have bv7 : 0 ≤ v7 ∧ v7 ≤ 1 := by rw [ev7]; exact (m_0_12 hX)
  obtain ⟨v8, ev8⟩ : ∃ z, z = h 98 2 := ⟨_, rfl⟩
  have bv8 : 0 ≤ v8 ∧ v8 ≤ 10 := by rw [ev8]; exact (m_98_2 hMm)
  obtain ⟨v9, ev9⟩ : ∃ z, z = h 98 3 := ⟨_, rfl⟩
  have bv9 : 0 ≤ v9 ∧ v9 ≤ 8 := by rw [ev9]; exact (m_98_3 hMm)
  obtain ⟨v10, ev10⟩ : ∃ z, z = h 98 4 := ⟨_, rfl⟩
  have bv10 : 0 ≤ v10 ∧ v10 ≤ 8 := by rw [ev10]; exact (m_98_4 hMm)
  obtain ⟨v11, ev11⟩ : ∃ z, z = h 98 5 := ⟨_, rfl⟩
  have bv11 : 0 ≤ v11 ∧ v11 ≤ 2000000000 := by rw [ev11]; exact (m_98_5 hMm)
  obtain ⟨v12, ev12⟩ : ∃ z, z = h 145 6 := ⟨_, rfl⟩
  have bv12 : 0 ≤ v12 ∧ v12 ≤ 10 := by rw [ev12]; exact (m_145_6 hMm)
  obtain ⟨v13, ev13⟩ : ∃ z, z = h 145 7 := ⟨_, rfl⟩
  have bv13 : 0 ≤ v13 ∧ v13 ≤ 8 := by rw [ev13]; exact (m_145_7 hMm)
  obtain ⟨v14, ev14⟩ : ∃ z, z = h 145 8 := ⟨_, rfl⟩
  have bv14 : 0 ≤ v14 ∧ v14 ≤ 8 := by rw [ev14]; exact (m_145_8 hMm)
  obtain ⟨v15, ev15⟩ : ∃ z, z = h 145 9 := ⟨_, rfl⟩
  have bv15 : 0 ≤ v15 ∧ v15 ≤ 2000000000 := by rw [ev15]; exact (m_145_9 hMm)
  obtain ⟨v16, ev16⟩ : ∃ z, z = h 98 79 := ⟨_, rfl⟩
  have bv16 : 0 ≤ v16 ∧ v16 ≤ 1 := by rw [ev16]; exact (m_98_79 hMm)
  refine g_aload_n dL_law_688 rfl ?_
  refine g_aloadX_n dL_law_689 rfl ?_
  refine g_iload_n dL_law_690 rfl (fun _ => ?_)
  refine g_iconst dL_law_691 (inR_c rfl) ?_
  refine g_iaddB dL_law_692 (by omega) (by omega) ?_
  refine g_sldB dL_law_693 (by omega) (by omega) (fun v17 ev17 bv17 cv17 => ?_)
  refine g_aloadX_n dL_law_694 rfl ?_
  refine g_iload_n dL_law_695 rfl (fun _ => ?_)
  refine g_iconst dL_law_696 (inR_c rfl) ?_
  refine g_iaddB dL_law_697 (by omega) (by omega) ?_
  refine g_sldB dL_law_698 (by omega) (by omega) (fun v18 ev18 bv18 cv18 => ?_)
  have q19 : h 2 0 = v1 := ev1.symm
  have q20 : h 6 0 = v2 := ev2.symm
  have q21 : h 12 0 = v3 := ev3.symm
  have q22 : h 42 0 = v4 := ev4.symm
  have q23 : h 46 0 = v5 := ev5.symm
  have q24 : h 52 0 = v6 := ev6.symm
  have q25 : h 0 12 = v7 := ev7.symm
  have q26 : h 98 2 = v8 := ev8.symm
  have q27 : h 98 3 = v9 := ev9.symm
  have q28 : h 98 4 = v10 := ev10.symm
  have q29 : h 98 5 = v11 := ev11.symm
  have q30 : h 145 6 = v12 := ev12.symm
  have q31 : h 145 7 = v13 := ev13.symm
  have q32 : h 145 8 = v14 := ev14.symm
  have q33 : h 145 9 = v15 := ev15.symm
  have q34 : h 98 79 = v16 := ev16.symm
  refine g_cV (as := [_, _]) (c_X11_tried_0 _ _ h hX (by omega) (by omega) (by omega) (by omega) hLD) dL_law_699 mi_X11_tried in_X11_tried se_X11_tried ml_L_77 rfl rfl rfl sh_0 rfl rfl (Nat.le_of_ble_eq_true rfl) (fun v35 h36 q37 => ?_)
  obtain ⟨hMh36, hFh36, bv35, cv35⟩ := q37
  refine g_pop dL_law_702 rfl ?_
  refine g_aload_n dL_law_703 rfl ?_
  refine g_aloadX_n dL_law_704 rfl ?_
  refine g_iload_n dL_law_705 rfl (fun _ => ?_)
  refine g_iconst dL_law_706 (inR_c rfl) ?_
  refine g_iaddB dL_law_707 (by omega) (by omega) ?_
  refine g_sldE dL_law_708 (by omega) (by omega) ev17 ?_
  refine g_aloadX_n dL_law_709 rfl ?_
  refine g_iload_n dL_law_710 rfl (fun _ => ?_)
  refine g_iconst dL_law_711 (inR_c rfl) ?_
  refine g_iaddB dL_law_712 (by omega) (by omega) ?_
  refine g_sldE dL_law_713 (by omega) (by omega) ev18 ?_
  have q38 : h36 2 0 = v1 := ((hFh36 2 0 rfl).trans ev1.symm)
  have q39 : h36 6 0 = v2 := ((hFh36 6 0 rfl).trans ev2.symm)
  have q40 : h36 12 0 = v3 := ((hFh36 12 0 rfl).trans ev3.symm)
  have q41 : h36 42 0 = v4 := ((hFh36 42 0 rfl).trans ev4.symm)
  have q42 : h36 46 0 = v5 := ((hFh36 46 0 rfl).trans ev5.symm)
  have q43 : h36 52 0 = v6 := ((hFh36 52 0 rfl).trans ev6.symm)
  have q44 : h36 0 12 = v7 := ((hFh36 0 12 rfl).trans ev7.symm)
  have q45 : h36 98 2 = v8 := ((hFh36 98 2 rfl).trans ev8.symm)
  have q46 : h36 98 3 = v9 := ((hFh36 98 3 rfl).trans ev9.symm)
  have q47 : h36 98 4 = v10 := ((hFh36 98 4 rfl).trans ev10.symm)
  have q48 : h36 98 5 = v11 := ((hFh36 98 5 rfl).trans ev11.symm)
  have q49 : h36 145 6 = v12 := ((hFh36 145 _ rfl).trans ev12.symm)
  have q50 : h36 145 7 = v13 := ((hFh36 145 _ rfl).trans ev13.symm)
  have q51 : h36 145 8 = v14 := ((hFh36 145 _ rfl).trans ev14.symm)
  have q52 : h36 145 9 = v15 := ((hFh36 145 _ rfl).trans ev15.symm)
  have q53 : h36 98 79 = v16 := ((hFh36 98 79 rfl).trans ev16.symm)
  have q54 : h36 98 5 = v11 := ((hFh36 98 5 rfl).trans ev11.symm)
  have q55 : h36 98 2 = v8 := ((hFh36 98 2 rfl).trans ev8.symm)
  have q56 : h36 98 3 = v9 := ((hFh36 98 3 rfl).trans ev9.symm)
  have q57 : h36 98 4 = v10 := ((hFh36 98 4 rfl).trans ev10.symm)
  have q58 : h36 98 5 = v11 := ((hFh36 98 5 rfl).trans ev11.symm)
  refine g_cV (as := [_, _]) (c_X12_tried_98 _ _ _ _ h36 (MBm.fr (T := [(21, 7), (21, 8), (21, 9), (22, 1), (23, 0), (24, 0), (25, 0), (26, 1), (27, 0), (28, 0), (29, 0), (30, 0), (31, 0), (32, 1), (33, 0), (34, 0), (35, 0), (36, 0), (37, 0), (38, 0), (39, 0), (40, 0), (89, 0), (97, 0)]) hMm (Fr.sub hFh36 rfl) rfl) (by omega) (by omega) (by omega) (by omega) (by omega) (by omega) (WFL.fr (T := [(21, 7), (21, 8), (21, 9), (22, 1), (23, 0), (24, 0), (25, 0), (26, 1), (27, 0), (28, 0), (29, 0), (30, 0), (31, 0), (32, 1), (33, 0), (34, 0), (35, 0), (36, 0), (37, 0), (38, 0), (39, 0), (40, 0), (89, 0), (97, 0)]) hWF (Fr.sub hFh36 rfl) rfl) (ISn.fr (T := [(21, 7), (21, 8), (21, 9), (22, 1), (23, 0), (24, 0), (25, 0), (26, 1), (27, 0), (28, 0), (29, 0), (30, 0), (31, 0), (32, 1), (33, 0), (34, 0), (35, 0), (36, 0), (37, 0), (38, 0), (39, 0), (40, 0), (89, 0), (97, 0)]) hIS (Fr.sub hFh36 rfl) rfl) (S1n.fr (T := [(21, 7), (21, 8), (21, 9), (22, 1), (23, 0), (24, 0), (25, 0), (26, 1), (27, 0), (28, 0), (29, 0), (30, 0), (31, 0), (32, 1), (33, 0), (34, 0), (35, 0), (36, 0), (37, 0), (38, 0), (39, 0), (40, 0), (89, 0), (97, 0)]) hS1 (Fr.sub hFh36 rfl) rfl)) dL_law_714 mi_X12_tried in_X12_tried se_X12_tried ml_L_80 rfl rfl rfl sh_98 rfl rfl (Nat.le_of_ble_eq_true rfl) (fun v59 h60 q61 => ?_)
  obtain ⟨hMh60, hFh60, bv59, cv59, z62, z63, z64, z65, z66, z67⟩ := q61
  have kz64 : h60 98 2 = v8 := by omega
  have kz65 : h60 98 3 = v9 := by omega
  have kz66 : h60 98 4 = v10 := by omega
  have kz67 : h60 98 5 = v11 := by omega
  refine g_pop dL_law_717 rfl ?_
  refine g_goto 1216 dL_law_718 (by decide) ?_
  have q68 : h60 2 0 = v1 := ((hFh60 2 0 rfl).trans ((hFh36 2 0 rfl).trans ev1.symm))
  have q69 : h60 6 0 = v2 := ((hFh60 6 0 rfl).trans ((hFh36 6 0 rfl).trans ev2.symm))
  have q70 : h60 12 0 = v3 := ((hFh60 12 0 rfl).trans ((hFh36 12 0 rfl).trans ev3.symm))
  have q71 : h60 42 0 = v4 := ((hFh60 42 0 rfl).trans ((hFh36 42 0 rfl).trans ev4.symm))
  have q72 : h60 46 0 = v5 := ((hFh60 46 0 rfl).trans ((hFh36 46 0 rfl).trans ev5.symm))
  have q73 : h60 52 0 = v6 := ((hFh60 52 0 rfl).trans ((hFh36 52 0 rfl).trans ev6.symm))
  have q74 : h60 0 12 = v7 := ((hFh60 0 12 rfl).trans ((hFh36 0 12 rfl).trans ev7.symm))
  have q75 : h60 98 2 = v8 := kz64
  have q76 : h60 98 3 = v9 := kz65
  have q77 : h60 98 4 = v10 := kz66
  have q78 : h60 98 5 = v11 := kz67
  have q79 : h60 145 6 = v12 := ((hFh60 145 _ rfl).trans ((hFh36 145 _ rfl).trans ev12.symm))
  have q80 : h60 145 7 = v13 := ((hFh60 145 _ rfl).trans ((hFh36 145 _ rfl).trans ev13.symm))
  have q81 : h60 145 8 = v14 := ((hFh60 145 _ rfl).trans ((hFh36 145 _ rfl).trans ev14.symm))
  have q82 : h60 145 9 = v15 := ((hFh60 145 _ rfl).trans ((hFh36 145 _ rfl).trans ev15.symm))
  have q83 : h60 98 79 = v16 := ((hFh60 98 79 rfl).trans ((hFh36 98 79 rfl).trans ev16.symm))
  exact kk _ ⟨⟨(MBx.fr (T := [(98, 3), (98, 4), (98, 5), (98, 6), (98, 7), (98, 8), (98, 47), (98, 48), (98, 49), (98, 52), (100, 0), (101, 0), (102, 0), (103, 0), (104, 0), (105, 0), (106, 0), (107, 0), (108, 0), (109, 0), (110, 0), (111, 0), (112, 0), (113, 0), (114, 0), (128, 0), (129, 0), (130, 0), (131, 0), (132, 0), (133, 0), (134, 0), (135, 0), (136, 0), (137, 0), (138, 0), (139, 0), (140, 0), (141, 0), (142, 0), (143, 0), (144, 0), (145, 1), (145, 2), (145, 3), (145, 4), (145, 5), (145, 6)]) hMh36 (Fr.sub hFh60 rfl) rfl), hMh60, (LD.fr (T := [(21, 7), (21, 8), (21, 9), (22, 1), (23, 0), (24, 0), (25, 0), (26, 1), (27, 0), (28, 0), (29, 0), (30, 0), (31, 0), (32, 1), (33, 0), (34, 0), (35, 0), (36, 0), (37, 0), (38, 0), (39, 0), (40, 0), (89, 0), (97, 0), (98, 3), (98, 4), (98, 5), (98, 6), (98, 7), (98, 8), (98, 47), (98, 48), (98, 49), (98, 52), (100, 0), (101, 0), (102, 0), (103, 0), (104, 0), (105, 0), (106, 0), (107, 0), (108, 0), (109, 0), (110, 0), (111, 0), (112, 0), (113, 0), (114, 0), (128, 0), (129, 0), (130, 0), (131, 0), (132, 0), (133, 0), (134, 0), (135, 0), (136, 0), (137, 0), (138, 0), (139, 0), (140, 0), (141, 0), (142, 0), (143, 0), (144, 0), (145, 1), (145, 2), (145, 3), (145, 4), (145, 5), (145, 6)]) hLD (Fr.tr (Fr.sub hFh36 rfl) hFh60 rfl) rfl), (WFL.fr (T := [(21, 7), (21, 8), (21, 9), (22, 1), (23, 0), (24, 0), (25, 0), (26, 1), (27, 0), (28, 0), (29, 0), (30, 0), (31, 0), (32, 1), (33, 0), (34, 0), (35, 0), (36, 0), (37, 0), (38, 0), (39, 0), (40, 0), (89, 0), (97, 0), (98, 3), (98, 4), (98, 5), (98, 6), (98, 7), (98, 8), (98, 47), (98, 48), (98, 49), (98, 52), (100, 0), (101, 0), (102, 0), (103, 0), (104, 0), (105, 0), (106, 0), (107, 0), (108, 0), (109, 0), (110, 0), (111, 0), (112, 0), (113, 0), (114, 0), (128, 0), (129, 0), (130, 0), (131, 0), (132, 0), (133, 0), (134, 0), (135, 0), (136, 0), (137, 0), (138, 0), (139, 0), (140, 0), (141, 0), (142, 0), (143, 0), (144, 0), (145, 1), (145, 2), (145, 3), (145, 4), (145, 5), (145, 6)]) hWF (Fr.tr (Fr.sub hFh36 rfl) hFh60 rfl) rfl)⟩, by omega, gi, gs, (ASn.fr (T := [(21, 7), (21, 8), (21, 9), (22, 1), (23, 0), (24, 0), (25, 0), (26, 1), (27, 0), (28, 0), (29, 0), (30, 0), (31, 0), (32, 1), (33, 0), (34, 0), (35, 0), (36, 0), (37, 0), (38, 0), (39, 0), (40, 0), (89, 0), (97, 0), (98, 3), (98, 4), (98, 5), (98, 6), (98, 7), (98, 8), (98, 47), (98, 48), (98, 49), (98, 52), (100, 0), (101, 0), (102, 0), (103, 0), (104, 0), (105, 0), (106, 0), (107, 0), (108, 0), (109, 0), (110, 0), (111, 0), (112, 0), (113, 0), (114, 0), (128, 0), (129, 0), (130, 0), (131, 0), (132, 0), (133, 0), (134, 0), (135, 0), (136, 0), (137, 0), (138, 0), (139, 0), (140, 0), (141, 0), (142, 0), (143, 0), (144, 0), (145, 1), (145, 2), (145, 3), (145, 4), (145, 5), (145, 6)]) hXW (Fr.tr (Fr.sub hFh36 rfl) hFh60 rfl) rfl), z62, (ASn.fr (T := [(21, 7), (21, 8), (21, 9), (22, 1), (23, 0), (24, 0), (25, 0), (26, 1), (27, 0), (28, 0), (29, 0), (30, 0), (31, 0), (32, 1), (33, 0), (34, 0), (35, 0), (36, 0), (37, 0), (38, 0), (39, 0), (40, 0), (89, 0), (97, 0), (98, 3), (98, 4), (98, 5), (98, 6), (98, 7), (98, 8), (98, 47), (98, 48), (98, 49), (98, 52), (100, 0), (101, 0), (102, 0), (103, 0), (104, 0), (105, 0), (106, 0), (107, 0), (108, 0), (109, 0), (110, 0), (111, 0), (112, 0), (113, 0), (114, 0), (128, 0), (129, 0), (130, 0), (131, 0), (132, 0), (133, 0), (134, 0), (135, 0), (136, 0), (137, 0), (138, 0), (139, 0), (140, 0), (141, 0), (142, 0), (143, 0), (144, 0), (145, 1), (145, 2), (145, 3), (145, 4), (145, 5), (145, 6)]) hXK (Fr.tr (Fr.sub hFh36 rfl) hFh60 rfl) rfl), z63⟩
set_option maxRecDepth 100000 in
set_option maxHeartbeats 8000000 in
theorem law_case_15 (xs : List Int) (Po : Option PV → List SE → MEM → Prop) (i : Int) (h : MEM) (I : INV i h) (hi : i + 6 ≤ xs.length) (hN : xs.length ≤ 3072) (kk : ∀ h' : MEM, INV (i + 6) h' → G x cL_law 4 (some .boolean) (some xs) Po (2048, 84000, 600000, 7302250) 1216 [some pX, some (pR 0), some (pR 98), some (pI i)] [] SH h' 151 10868) : G x cL_law 4 (some .boolean) (some xs) Po (2048, 84000, 600000, 7302250) 721 [some pX, some (pR 0), some (pR 98), some (pI i)] [] SH h 151 10868 := by
  obtain ⟨⟨hX, hMm, hLD, hWF⟩, hI, gi, gs, hXW, hIS, hXK, hS1⟩ := I
  obtain ⟨v1, ev1⟩ : ∃ z, z = h 2 0 := ⟨_, rfl⟩
  have bv1 : 0 ≤ v1 ∧ v1 ≤ 10 := by rw [ev1]; exact (m_2_0 hX)
  obtain ⟨v2, ev2⟩ : ∃ z, z = h 6 0 := ⟨_, rfl⟩
  have bv2 : 0 ≤ v2 ∧ v2 ≤ 8 := by rw [ev2]; exact (m_6_0 hX)
  obtain ⟨v3, ev3⟩ : ∃ z, z = h 12 0 := ⟨_, rfl⟩
  have bv3 : 0 ≤ v3 ∧ v3 ≤ 8 := by rw [ev3]; exact (m_12_0 hX)
  obtain ⟨v4, ev4⟩ : ∃ z, z = h 42 0 := ⟨_, rfl⟩
  have bv4 : 0 ≤ v4 ∧ v4 ≤ 10 := by rw [ev4]; exact (m_42_0 hX)
  obtain ⟨v5, ev5⟩ : ∃ z, z = h 46 0 := ⟨_, rfl⟩
  have bv5 : 0 ≤ v5 ∧ v5 ≤ 8 := by rw [ev5]; exact (m_46_0 hX)
  obtain ⟨v6, ev6⟩ : ∃ z, z = h 52 0 := ⟨_, rfl⟩
  have bv6 : 0 ≤ v6 ∧ v6 ≤ 8 := by rw [ev6]; exact (m_52_0 hX)
  obtain ⟨v7, ev7⟩ : ∃ z, z = h 0 12 := ⟨_, rfl⟩
  have bv7 : 0 ≤ v7 ∧ v7 ≤ 1 := by rw [ev7]; exact (m_0_12 hX)
  obtain ⟨v8, ev8⟩ : ∃ z, z = h 98 2 := ⟨_, rfl⟩
  have bv8 : 0 ≤ v8 ∧ v8 ≤ 10 := by rw [ev8]; exact (m_98_2 hMm)
  obtain ⟨v9, ev9⟩ : ∃ z, z = h 98 3 := ⟨_, rfl⟩
  have bv9 : 0 ≤ v9 ∧ v9 ≤ 8 := by rw [ev9]; exact (m_98_3 hMm)
  obtain ⟨v10, ev10⟩ : ∃ z, z = h 98 4 := ⟨_, rfl⟩
  have bv10 : 0 ≤ v10 ∧ v10 ≤ 8 := by rw [ev10]; exact (m_98_4 hMm)
  obtain ⟨v11, ev11⟩ : ∃ z, z = h 98 5 := ⟨_, rfl⟩
  have bv11 : 0 ≤ v11 ∧ v11 ≤ 2000000000 := by rw [ev11]; exact (m_98_5 hMm)
  obtain ⟨v12, ev12⟩ : ∃ z, z = h 145 6 := ⟨_, rfl⟩
  have bv12 : 0 ≤ v12 ∧ v12 ≤ 10 := by rw [ev12]; exact (m_145_6 hMm)
  obtain ⟨v13, ev13⟩ : ∃ z, z = h 145 7 := ⟨_, rfl⟩
  have bv13 : 0 ≤ v13 ∧ v13 ≤ 8 := by rw [ev13]; exact (m_145_7 hMm)
  obtain ⟨v14, ev14⟩ : ∃ z, z = h 145 8 := ⟨_, rfl⟩
  have bv14 : 0 ≤ v14 ∧ v14 ≤ 8 := by rw [ev14]; exact (m_145_8 hMm)
  obtain ⟨v15, ev15⟩ : ∃ z, z = h 145 9 := ⟨_, rfl⟩
  have bv15 : 0 ≤ v15 ∧ v15 ≤ 2000000000 := by rw [ev15]; exact (m_145_9 hMm)
  obtain ⟨v16, ev16⟩ : ∃ z, z = h 98 79 := ⟨_, rfl⟩
  have bv16 : 0 ≤ v16 ∧ v16 ≤ 1 := by rw [ev16]; exact (m_98_79 hMm)
  refine g_aload_n dL_law_721 rfl ?_
  refine g_aloadX_n dL_law_722 rfl ?_
  refine g_iload_n dL_law_723 rfl (fun _ => ?_)
  refine g_iconst dL_law_724 (inR_c rfl) ?_
  refine g_iaddB dL_law_725 (by omega) (by omega) ?_
  refine g_sldB dL_law_726 (by omega) (by omega) (fun v17 ev17 bv17 cv17 => ?_)
  refine g_aloadX_n dL_law_727 rfl ?_
  refine g_iload_n dL_law_728 rfl (fun _ => ?_)
  refine g_iconst dL_law_729 (inR_c rfl) ?_
  refine g_iaddB dL_law_730 (by omega) (by omega) ?_
  refine g_sldB dL_law_731 (by omega) (by omega) (fun v18 ev18 bv18 cv18 => ?_)
  refine g_aloadX_n dL_law_732 rfl ?_
  refine g_iload_n dL_law_733 rfl (fun _ => ?_)
  refine g_iconst dL_law_734 (inR_c rfl) ?_
  refine g_iaddB dL_law_735 (by omega) (by omega) ?_
  refine g_sldB dL_law_736 (by omega) (by omega) (fun v19 ev19 bv19 cv19 => ?_)
  refine g_aloadX_n dL_law_737 rfl ?_
  refine g_iload_n dL_law_738 rfl (fun _ => ?_)
  refine g_iconst dL_law_739 (inR_c rfl) ?_
  refine g_iaddB dL_law_740 (by omega) (by omega) ?_
  refine g_sldB dL_law_741 (by omega) (by omega) (fun v20 ev20 bv20 cv20 => ?_)
  have q21 : h 2 0 = v1 := ev1.symm
  have q22 : h 6 0 = v2 := ev2.symm
  have q23 : h 12 0 = v3 := ev3.symm
  have q24 : h 42 0 = v4 := ev4.symm
  have q25 : h 46 0 = v5 := ev5.symm
  have q26 : h 52 0 = v6 := ev6.symm
  have q27 : h 0 12 = v7 := ev7.symm
  have q28 : h 98 2 = v8 := ev8.symm
  have q29 : h 98 3 = v9 := ev9.symm
  have q30 : h 98 4 = v10 := ev10.symm
  have q31 : h 98 5 = v11 := ev11.symm
  have q32 : h 145 6 = v12 := ev12.symm
  have q33 : h 145 7 = v13 := ev13.symm
  have q34 : h 145 8 = v14 := ev14.symm
  have q35 : h 145 9 = v15 := ev15.symm
  have q36 : h 98 79 = v16 := ev16.symm
  refine g_cV (as := [_, _, _, _]) (c_X11_set_0 _ _ _ _ h hX (by omega) (by omega) (by omega) (by omega) (by omega) (by omega) (by omega) (by omega) hLD) dL_law_742 mi_X11_set in_X11_set se_X11_set ml_L_81 rfl rfl rfl sh_0 rfl rfl (Nat.le_of_ble_eq_true rfl) (fun v37 h38 q39 => ?_)
  obtain ⟨hMh38, hFh38, bv37, cv37⟩ := q39
  refine g_pop dL_law_745 rfl ?_
  refine g_aload_n dL_law_746 rfl ?_
  refine g_aloadX_n dL_law_747 rfl ?_
  refine g_iload_n dL_law_748 rfl (fun _ => ?_)
  refine g_iconst dL_law_749 (inR_c rfl) ?_
  refine g_iaddB dL_law_750 (by omega) (by omega) ?_
  refine g_sldE dL_law_751 (by omega) (by omega) ev17 ?_
  refine g_aloadX_n dL_law_752 rfl ?_
  refine g_iload_n dL_law_753 rfl (fun _ => ?_)
  refine g_iconst dL_law_754 (inR_c rfl) ?_
  refine g_iaddB dL_law_755 (by omega) (by omega) ?_
  refine g_sldE dL_law_756 (by omega) (by omega) ev18 ?_
  refine g_aloadX_n dL_law_757 rfl ?_
  refine g_iload_n dL_law_758 rfl (fun _ => ?_)
  refine g_iconst dL_law_759 (inR_c rfl) ?_
  refine g_iaddB dL_law_760 (by omega) (by omega) ?_
  refine g_sldE dL_law_761 (by omega) (by omega) ev19 ?_
  refine g_aloadX_n dL_law_762 rfl ?_
  refine g_iload_n dL_law_763 rfl (fun _ => ?_)
  refine g_iconst dL_law_764 (inR_c rfl) ?_
  refine g_iaddB dL_law_765 (by omega) (by omega) ?_
  refine g_sldE dL_law_766 (by omega) (by omega) ev20 ?_
  have q40 : h38 2 0 = v1 := ((hFh38 2 0 rfl).trans ev1.symm)
  have q41 : h38 6 0 = v2 := ((hFh38 6 0 rfl).trans ev2.symm)
  have q42 : h38 12 0 = v3 := ((hFh38 12 0 rfl).trans ev3.symm)
  have q43 : h38 42 0 = v4 := ((hFh38 42 0 rfl).trans ev4.symm)
  have q44 : h38 46 0 = v5 := ((hFh38 46 0 rfl).trans ev5.symm)
  have q45 : h38 52 0 = v6 := ((hFh38 52 0 rfl).trans ev6.symm)
  have q46 : h38 0 12 = v7 := ((hFh38 0 12 rfl).trans ev7.symm)
  have q47 : h38 98 2 = v8 := ((hFh38 98 2 rfl).trans ev8.symm)
  have q48 : h38 98 3 = v9 := ((hFh38 98 3 rfl).trans ev9.symm)
  have q49 : h38 98 4 = v10 := ((hFh38 98 4 rfl).trans ev10.symm)
  have q50 : h38 98 5 = v11 := ((hFh38 98 5 rfl).trans ev11.symm)
  have q51 : h38 145 6 = v12 := ((hFh38 145 _ rfl).trans ev12.symm)
  have q52 : h38 145 7 = v13 := ((hFh38 145 _ rfl).trans ev13.symm)
  have q53 : h38 145 8 = v14 := ((hFh38 145 _ rfl).trans ev14.symm)
  have q54 : h38 145 9 = v15 := ((hFh38 145 _ rfl).trans ev15.symm)
  have q55 : h38 98 79 = v16 := ((hFh38 98 79 rfl).trans ev16.symm)
  have q56 : h38 98 5 = v11 := ((hFh38 98 5 rfl).trans ev11.symm)
  have q57 : h38 98 2 = v8 := ((hFh38 98 2 rfl).trans ev8.symm)
  have q58 : h38 98 3 = v9 := ((hFh38 98 3 rfl).trans ev9.symm)
  have q59 : h38 98 4 = v10 := ((hFh38 98 4 rfl).trans ev10.symm)
  have q60 : h38 98 5 = v11 := ((hFh38 98 5 rfl).trans ev11.symm)
  refine g_cV (as := [_, _, _, _]) (c_X12_set_98 _ _ _ _ _ _ h38 (MBm.fr (T := [(7, 0), (21, 7), (21, 8), (21, 9), (22, 1), (23, 0), (24, 0), (25, 0), (26, 1), (27, 0), (28, 0), (29, 0), (30, 0), (31, 0), (32, 1), (33, 0), (34, 0), (35, 0), (36, 0), (37, 0), (38, 0), (39, 0), (40, 0), (67, 1), (67, 2), (67, 4), (68, 0), (69, 0), (70, 0), (89, 0), (97, 0)]) hMm (Fr.sub hFh38 rfl) rfl) (by omega) (by omega) (by omega) (by omega) (by omega) (by omega) (by omega) (by omega) (by omega) (by omega) (WFL.fr (T := [(7, 0), (21, 7), (21, 8), (21, 9), (22, 1), (23, 0), (24, 0), (25, 0), (26, 1), (27, 0), (28, 0), (29, 0), (30, 0), (31, 0), (32, 1), (33, 0), (34, 0), (35, 0), (36, 0), (37, 0), (38, 0), (39, 0), (40, 0), (67, 1), (67, 2), (67, 4), (68, 0), (69, 0), (70, 0), (89, 0), (97, 0)]) hWF (Fr.sub hFh38 rfl) rfl) (ISn.fr (T := [(7, 0), (21, 7), (21, 8), (21, 9), (22, 1), (23, 0), (24, 0), (25, 0), (26, 1), (27, 0), (28, 0), (29, 0), (30, 0), (31, 0), (32, 1), (33, 0), (34, 0), (35, 0), (36, 0), (37, 0), (38, 0), (39, 0), (40, 0), (67, 1), (67, 2), (67, 4), (68, 0), (69, 0), (70, 0), (89, 0), (97, 0)]) hIS (Fr.sub hFh38 rfl) rfl) (S1n.fr (T := [(7, 0), (21, 7), (21, 8), (21, 9), (22, 1), (23, 0), (24, 0), (25, 0), (26, 1), (27, 0), (28, 0), (29, 0), (30, 0), (31, 0), (32, 1), (33, 0), (34, 0), (35, 0), (36, 0), (37, 0), (38, 0), (39, 0), (40, 0), (67, 1), (67, 2), (67, 4), (68, 0), (69, 0), (70, 0), (89, 0), (97, 0)]) hS1 (Fr.sub hFh38 rfl) rfl)) dL_law_767 mi_X12_set in_X12_set se_X12_set ml_L_85 rfl rfl rfl sh_98 rfl rfl (Nat.le_of_ble_eq_true rfl) (fun v61 h62 q63 => ?_)
  obtain ⟨hMh62, hFh62, bv61, cv61, z64, z65, z66, z67, z68, z69⟩ := q63
  have kz66 : h62 98 2 = v8 := by omega
  have kz67 : h62 98 3 = v9 := by omega
  have kz68 : h62 98 4 = v10 := by omega
  have kz69 : h62 98 5 = v11 := by omega
  refine g_pop dL_law_770 rfl ?_
  refine g_goto 1216 dL_law_771 (by decide) ?_
  have q70 : h62 2 0 = v1 := ((hFh62 2 0 rfl).trans ((hFh38 2 0 rfl).trans ev1.symm))
  have q71 : h62 6 0 = v2 := ((hFh62 6 0 rfl).trans ((hFh38 6 0 rfl).trans ev2.symm))
  have q72 : h62 12 0 = v3 := ((hFh62 12 0 rfl).trans ((hFh38 12 0 rfl).trans ev3.symm))
  have q73 : h62 42 0 = v4 := ((hFh62 42 0 rfl).trans ((hFh38 42 0 rfl).trans ev4.symm))
  have q74 : h62 46 0 = v5 := ((hFh62 46 0 rfl).trans ((hFh38 46 0 rfl).trans ev5.symm))
  have q75 : h62 52 0 = v6 := ((hFh62 52 0 rfl).trans ((hFh38 52 0 rfl).trans ev6.symm))
  have q76 : h62 0 12 = v7 := ((hFh62 0 12 rfl).trans ((hFh38 0 12 rfl).trans ev7.symm))
  have q77 : h62 98 2 = v8 := kz66
  have q78 : h62 98 3 = v9 := kz67
  have q79 : h62 98 4 = v10 := kz68
  have q80 : h62 98 5 = v11 := kz69
  have q81 : h62 145 6 = v12 := ((hFh62 145 _ rfl).trans ((hFh38 145 _ rfl).trans ev12.symm))
  have q82 : h62 145 7 = v13 := ((hFh62 145 _ rfl).trans ((hFh38 145 _ rfl).trans ev13.symm))
  have q83 : h62 145 8 = v14 := ((hFh62 145 _ rfl).trans ((hFh38 145 _ rfl).trans ev14.symm))
  have q84 : h62 145 9 = v15 := ((hFh62 145 _ rfl).trans ((hFh38 145 _ rfl).trans ev15.symm))
  have q85 : h62 98 79 = v16 := ((hFh62 98 79 rfl).trans ((hFh38 98 79 rfl).trans ev16.symm))
  exact kk _ ⟨⟨(MBx.fr (T := [(98, 3), (98, 4), (98, 5), (98, 6), (98, 7), (98, 8), (98, 47), (98, 48), (98, 49), (98, 52), (98, 73), (98, 74), (98, 75), (100, 0), (101, 0), (102, 0), (103, 0), (104, 0), (105, 0), (106, 0), (107, 0), (108, 0), (109, 0), (110, 0), (111, 0), (112, 0), (113, 0), (114, 0), (128, 0), (129, 0), (130, 0), (131, 0), (132, 0), (133, 0), (134, 0), (135, 0), (136, 0), (137, 0), (138, 0), (139, 0), (140, 0), (141, 0), (142, 0), (143, 0), (144, 0), (145, 1), (145, 2), (145, 3), (145, 4), (145, 5), (145, 6), (146, 0)]) hMh38 (Fr.sub hFh62 rfl) rfl), hMh62, (LD.fr (T := [(7, 0), (21, 7), (21, 8), (21, 9), (22, 1), (23, 0), (24, 0), (25, 0), (26, 1), (27, 0), (28, 0), (29, 0), (30, 0), (31, 0), (32, 1), (33, 0), (34, 0), (35, 0), (36, 0), (37, 0), (38, 0), (39, 0), (40, 0), (67, 1), (67, 2), (67, 4), (68, 0), (69, 0), (70, 0), (89, 0), (97, 0), (98, 3), (98, 4), (98, 5), (98, 6), (98, 7), (98, 8), (98, 47), (98, 48), (98, 49), (98, 52), (98, 73), (98, 74), (98, 75), (100, 0), (101, 0), (102, 0), (103, 0), (104, 0), (105, 0), (106, 0), (107, 0), (108, 0), (109, 0), (110, 0), (111, 0), (112, 0), (113, 0), (114, 0), (128, 0), (129, 0), (130, 0), (131, 0), (132, 0), (133, 0), (134, 0), (135, 0), (136, 0), (137, 0), (138, 0), (139, 0), (140, 0), (141, 0), (142, 0), (143, 0), (144, 0), (145, 1), (145, 2), (145, 3), (145, 4), (145, 5), (145, 6), (146, 0)]) hLD (Fr.tr (Fr.sub hFh38 rfl) hFh62 rfl) rfl), (WFL.fr (T := [(7, 0), (21, 7), (21, 8), (21, 9), (22, 1), (23, 0), (24, 0), (25, 0), (26, 1), (27, 0), (28, 0), (29, 0), (30, 0), (31, 0), (32, 1), (33, 0), (34, 0), (35, 0), (36, 0), (37, 0), (38, 0), (39, 0), (40, 0), (67, 1), (67, 2), (67, 4), (68, 0), (69, 0), (70, 0), (89, 0), (97, 0), (98, 3), (98, 4), (98, 5), (98, 6), (98, 7), (98, 8), (98, 47), (98, 48), (98, 49), (98, 52), (98, 73), (98, 74), (98, 75), (100, 0), (101, 0), (102, 0), (103, 0), (104, 0), (105, 0), (106, 0), (107, 0), (108, 0), (109, 0), (110, 0), (111, 0), (112, 0), (113, 0), (114, 0), (128, 0), (129, 0), (130, 0), (131, 0), (132, 0), (133, 0), (134, 0), (135, 0), (136, 0), (137, 0), (138, 0), (139, 0), (140, 0), (141, 0), (142, 0), (143, 0), (144, 0), (145, 1), (145, 2), (145, 3), (145, 4), (145, 5), (145, 6), (146, 0)]) hWF (Fr.tr (Fr.sub hFh38 rfl) hFh62 rfl) rfl)⟩, by omega, gi, gs, (ASn.fr (T := [(7, 0), (21, 7), (21, 8), (21, 9), (22, 1), (23, 0), (24, 0), (25, 0), (26, 1), (27, 0), (28, 0), (29, 0), (30, 0), (31, 0), (32, 1), (33, 0), (34, 0), (35, 0), (36, 0), (37, 0), (38, 0), (39, 0), (40, 0), (67, 1), (67, 2), (67, 4), (68, 0), (69, 0), (70, 0), (89, 0), (97, 0), (98, 3), (98, 4), (98, 5), (98, 6), (98, 7), (98, 8), (98, 47), (98, 48), (98, 49), (98, 52), (98, 73), (98, 74), (98, 75), (100, 0), (101, 0), (102, 0), (103, 0), (104, 0), (105, 0), (106, 0), (107, 0), (108, 0), (109, 0), (110, 0), (111, 0), (112, 0), (113, 0), (114, 0), (128, 0), (129, 0), (130, 0), (131, 0), (132, 0), (133, 0), (134, 0), (135, 0), (136, 0), (137, 0), (138, 0), (139, 0), (140, 0), (141, 0), (142, 0), (143, 0), (144, 0), (145, 1), (145, 2), (145, 3), (145, 4), (145, 5), (145, 6), (146, 0)]) hXW (Fr.tr (Fr.sub hFh38 rfl) hFh62 rfl) rfl), z64, (ASn.fr (T := [(7, 0), (21, 7), (21, 8), (21, 9), (22, 1), (23, 0), (24, 0), (25, 0), (26, 1), (27, 0), (28, 0), (29, 0), (30, 0), (31, 0), (32, 1), (33, 0), (34, 0), (35, 0), (36, 0), (37, 0), (38, 0), (39, 0), (40, 0), (67, 1), (67, 2), (67, 4), (68, 0), (69, 0), (70, 0), (89, 0), (97, 0), (98, 3), (98, 4), (98, 5), (98, 6), (98, 7), (98, 8), (98, 47), (98, 48), (98, 49), (98, 52), (98, 73), (98, 74), (98, 75), (100, 0), (101, 0), (102, 0), (103, 0), (104, 0), (105, 0), (106, 0), (107, 0), (108, 0), (109, 0), (110, 0), (111, 0), (112, 0), (113, 0), (114, 0), (128, 0), (129, 0), (130, 0), (131, 0), (132, 0), (133, 0), (134, 0), (135, 0), (136, 0), (137, 0), (138, 0), (139, 0), (140, 0), (141, 0), (142, 0), (143, 0), (144, 0), (145, 1), (145, 2), (145, 3), (145, 4), (145, 5), (145, 6), (146, 0)]) hXK (Fr.tr (Fr.sub hFh38 rfl) hFh62 rfl) rfl), z65⟩
set_option maxRecDepth 100000 in
set_option maxHeartbeats 8000000 in
theorem law_case_16 (xs : List Int) (Po : Option PV → List SE → MEM → Prop) (i : Int) (h : MEM) (I : INV i h) (hi : i + 6 ≤ xs.length) (hN : xs.length ≤ 3072) (kk : ∀ h' : MEM, INV (i + 6) h' → G x cL_law 4 (some .boolean) (some xs) Po (2048, 84000, 600000, 7302250) 1216 [some pX, some (pR 0), some (pR 98), some (pI i)] [] SH h' 151 10868) : G x cL_law 4 (some .boolean) (some xs) Po (2048, 84000, 600000, 7302250) 774 [some pX, some (pR 0), some (pR 98), some (pI i)] [] SH h 151 10868 := by
  obtain ⟨⟨hX, hMm, hLD, hWF⟩, hI, gi, gs, hXW, hIS, hXK, hS1⟩ := I
  obtain ⟨v1, ev1⟩ : ∃ z, z = h 2 0 := ⟨_, rfl⟩
  have bv1 : 0 ≤ v1 ∧ v1 ≤ 10 := by rw [ev1]; exact (m_2_0 hX)
  obtain ⟨v2, ev2⟩ : ∃ z, z = h 6 0 := ⟨_, rfl⟩
  have bv2 : 0 ≤ v2 ∧ v2 ≤ 8 := by rw [ev2]; exact (m_6_0 hX)
  obtain ⟨v3, ev3⟩ : ∃ z, z = h 12 0 := ⟨_, rfl⟩
  have bv3 : 0 ≤ v3 ∧ v3 ≤ 8 := by rw [ev3]; exact (m_12_0 hX)
  obtain ⟨v4, ev4⟩ : ∃ z, z = h 42 0 := ⟨_, rfl⟩
  have bv4 : 0 ≤ v4 ∧ v4 ≤ 10 := by rw [ev4]; exact (m_42_0 hX)
  obtain ⟨v5, ev5⟩ : ∃ z, z = h 46 0 := ⟨_, rfl⟩
  have bv5 : 0 ≤ v5 ∧ v5 ≤ 8 := by rw [ev5]; exact (m_46_0 hX)
  obtain ⟨v6, ev6⟩ : ∃ z, z = h 52 0 := ⟨_, rfl⟩
  have bv6 : 0 ≤ v6 ∧ v6 ≤ 8 := by rw [ev6]; exact (m_52_0 hX)
  obtain ⟨v7, ev7⟩ : ∃ z, z = h 0 12 := ⟨_, rfl⟩
  have bv7 : 0 ≤ v7 ∧ v7 ≤ 1 := by rw [ev7]; exact (m_0_12 hX)
  obtain ⟨v8, ev8⟩ : ∃ z, z = h 98 2 := ⟨_, rfl⟩
  have bv8 : 0 ≤ v8 ∧ v8 ≤ 10 := by rw [ev8]; exact (m_98_2 hMm)
  obtain ⟨v9, ev9⟩ : ∃ z, z = h 98 3 := ⟨_, rfl⟩
  have bv9 : 0 ≤ v9 ∧ v9 ≤ 8 := by rw [ev9]; exact (m_98_3 hMm)
  obtain ⟨v10, ev10⟩ : ∃ z, z = h 98 4 := ⟨_, rfl⟩
  have bv10 : 0 ≤ v10 ∧ v10 ≤ 8 := by rw [ev10]; exact (m_98_4 hMm)
  obtain ⟨v11, ev11⟩ : ∃ z, z = h 98 5 := ⟨_, rfl⟩
  have bv11 : 0 ≤ v11 ∧ v11 ≤ 2000000000 := by rw [ev11]; exact (m_98_5 hMm)
  obtain ⟨v12, ev12⟩ : ∃ z, z = h 145 6 := ⟨_, rfl⟩
  have bv12 : 0 ≤ v12 ∧ v12 ≤ 10 := by rw [ev12]; exact (m_145_6 hMm)
  obtain ⟨v13, ev13⟩ : ∃ z, z = h 145 7 := ⟨_, rfl⟩
  have bv13 : 0 ≤ v13 ∧ v13 ≤ 8 := by rw [ev13]; exact (m_145_7 hMm)
  obtain ⟨v14, ev14⟩ : ∃ z, z = h 145 8 := ⟨_, rfl⟩
  have bv14 : 0 ≤ v14 ∧ v14 ≤ 8 := by rw [ev14]; exact (m_145_8 hMm)
  obtain ⟨v15, ev15⟩ : ∃ z, z = h 145 9 := ⟨_, rfl⟩
  have bv15 : 0 ≤ v15 ∧ v15 ≤ 2000000000 := by rw [ev15]; exact (m_145_9 hMm)
  obtain ⟨v16, ev16⟩ : ∃ z, z = h 98 79 := ⟨_, rfl⟩
  have bv16 : 0 ≤ v16 ∧ v16 ≤ 1 := by rw [ev16]; exact (m_98_79 hMm)
  refine g_aload_n dL_law_774 rfl ?_
  refine g_aloadX_n dL_law_775 rfl ?_
  refine g_iload_n dL_law_776 rfl (fun _ => ?_)
  refine g_iconst dL_law_777 (inR_c rfl) ?_
  refine g_iaddB dL_law_778 (by omega) (by omega) ?_
  refine g_sldB dL_law_779 (by omega) (by omega) (fun v17 ev17 bv17 cv17 => ?_)
  refine g_aloadX_n dL_law_780 rfl ?_
  refine g_iload_n dL_law_781 rfl (fun _ => ?_)
  refine g_iconst dL_law_782 (inR_c rfl) ?_
  refine g_iaddB dL_law_783 (by omega) (by omega) ?_
  refine g_sldB dL_law_784 (by omega) (by omega) (fun v18 ev18 bv18 cv18 => ?_)
  refine g_aloadX_n dL_law_785 rfl ?_
  refine g_iload_n dL_law_786 rfl (fun _ => ?_)
  refine g_iconst dL_law_787 (inR_c rfl) ?_
  refine g_iaddB dL_law_788 (by omega) (by omega) ?_
  refine g_sldB dL_law_789 (by omega) (by omega) (fun v19 ev19 bv19 cv19 => ?_)
  have q20 : h 2 0 = v1 := ev1.symm
  have q21 : h 6 0 = v2 := ev2.symm
  have q22 : h 12 0 = v3 := ev3.symm
  have q23 : h 42 0 = v4 := ev4.symm
  have q24 : h 46 0 = v5 := ev5.symm
  have q25 : h 52 0 = v6 := ev6.symm
  have q26 : h 0 12 = v7 := ev7.symm
  have q27 : h 98 2 = v8 := ev8.symm
  have q28 : h 98 3 = v9 := ev9.symm
  have q29 : h 98 4 = v10 := ev10.symm
  have q30 : h 98 5 = v11 := ev11.symm
  have q31 : h 145 6 = v12 := ev12.symm
  have q32 : h 145 7 = v13 := ev13.symm
  have q33 : h 145 8 = v14 := ev14.symm
  have q34 : h 145 9 = v15 := ev15.symm
  have q35 : h 98 79 = v16 := ev16.symm
  refine g_cV (as := [_, _, _]) (c_X11_free_0 _ _ _ h hX (by omega) (by omega) (by omega) (by omega) (by omega) (by omega) hLD) dL_law_790 mi_X11_free in_X11_free se_X11_free ml_L_86 rfl rfl rfl sh_0 rfl rfl (Nat.le_of_ble_eq_true rfl) (fun v36 h37 q38 => ?_)
  obtain ⟨hMh37, hFh37, bv36, cv36⟩ := q38
  refine g_pop dL_law_793 rfl ?_
  refine g_aload_n dL_law_794 rfl ?_
  refine g_aloadX_n dL_law_795 rfl ?_
  refine g_iload_n dL_law_796 rfl (fun _ => ?_)
  refine g_iconst dL_law_797 (inR_c rfl) ?_
  refine g_iaddB dL_law_798 (by omega) (by omega) ?_
  refine g_sldE dL_law_799 (by omega) (by omega) ev17 ?_
  refine g_aloadX_n dL_law_800 rfl ?_
  refine g_iload_n dL_law_801 rfl (fun _ => ?_)
  refine g_iconst dL_law_802 (inR_c rfl) ?_
  refine g_iaddB dL_law_803 (by omega) (by omega) ?_
  refine g_sldE dL_law_804 (by omega) (by omega) ev18 ?_
  refine g_aloadX_n dL_law_805 rfl ?_
  refine g_iload_n dL_law_806 rfl (fun _ => ?_)
  refine g_iconst dL_law_807 (inR_c rfl) ?_
  refine g_iaddB dL_law_808 (by omega) (by omega) ?_
  refine g_sldE dL_law_809 (by omega) (by omega) ev19 ?_
  have q39 : h37 2 0 = v1 := ((hFh37 2 0 rfl).trans ev1.symm)
  have q40 : h37 6 0 = v2 := ((hFh37 6 0 rfl).trans ev2.symm)
  have q41 : h37 12 0 = v3 := ((hFh37 12 0 rfl).trans ev3.symm)
  have q42 : h37 42 0 = v4 := ((hFh37 42 0 rfl).trans ev4.symm)
  have q43 : h37 46 0 = v5 := ((hFh37 46 0 rfl).trans ev5.symm)
  have q44 : h37 52 0 = v6 := ((hFh37 52 0 rfl).trans ev6.symm)
  have q45 : h37 0 12 = v7 := ((hFh37 0 12 rfl).trans ev7.symm)
  have q46 : h37 98 2 = v8 := ((hFh37 98 2 rfl).trans ev8.symm)
  have q47 : h37 98 3 = v9 := ((hFh37 98 3 rfl).trans ev9.symm)
  have q48 : h37 98 4 = v10 := ((hFh37 98 4 rfl).trans ev10.symm)
  have q49 : h37 98 5 = v11 := ((hFh37 98 5 rfl).trans ev11.symm)
  have q50 : h37 145 6 = v12 := ((hFh37 145 _ rfl).trans ev12.symm)
  have q51 : h37 145 7 = v13 := ((hFh37 145 _ rfl).trans ev13.symm)
  have q52 : h37 145 8 = v14 := ((hFh37 145 _ rfl).trans ev14.symm)
  have q53 : h37 145 9 = v15 := ((hFh37 145 _ rfl).trans ev15.symm)
  have q54 : h37 98 79 = v16 := ((hFh37 98 79 rfl).trans ev16.symm)
  have q55 : h37 98 5 = v11 := ((hFh37 98 5 rfl).trans ev11.symm)
  have q56 : h37 98 2 = v8 := ((hFh37 98 2 rfl).trans ev8.symm)
  have q57 : h37 98 3 = v9 := ((hFh37 98 3 rfl).trans ev9.symm)
  have q58 : h37 98 4 = v10 := ((hFh37 98 4 rfl).trans ev10.symm)
  have q59 : h37 98 5 = v11 := ((hFh37 98 5 rfl).trans ev11.symm)
  refine g_cV (as := [_, _, _]) (c_X12_free_98 _ _ _ _ _ h37 (MBm.fr (T := [(21, 7), (21, 8), (21, 9), (22, 1), (23, 0), (24, 0), (25, 0), (26, 1), (27, 0), (28, 0), (29, 0), (30, 0), (31, 0), (32, 1), (33, 0), (34, 0), (35, 0), (36, 0), (37, 0), (38, 0), (39, 0), (40, 0), (89, 0), (97, 0)]) hMm (Fr.sub hFh37 rfl) rfl) (by omega) (by omega) (by omega) (by omega) (by omega) (by omega) (by omega) (by omega) (WFL.fr (T := [(21, 7), (21, 8), (21, 9), (22, 1), (23, 0), (24, 0), (25, 0), (26, 1), (27, 0), (28, 0), (29, 0), (30, 0), (31, 0), (32, 1), (33, 0), (34, 0), (35, 0), (36, 0), (37, 0), (38, 0), (39, 0), (40, 0), (89, 0), (97, 0)]) hWF (Fr.sub hFh37 rfl) rfl) (ISn.fr (T := [(21, 7), (21, 8), (21, 9), (22, 1), (23, 0), (24, 0), (25, 0), (26, 1), (27, 0), (28, 0), (29, 0), (30, 0), (31, 0), (32, 1), (33, 0), (34, 0), (35, 0), (36, 0), (37, 0), (38, 0), (39, 0), (40, 0), (89, 0), (97, 0)]) hIS (Fr.sub hFh37 rfl) rfl) (S1n.fr (T := [(21, 7), (21, 8), (21, 9), (22, 1), (23, 0), (24, 0), (25, 0), (26, 1), (27, 0), (28, 0), (29, 0), (30, 0), (31, 0), (32, 1), (33, 0), (34, 0), (35, 0), (36, 0), (37, 0), (38, 0), (39, 0), (40, 0), (89, 0), (97, 0)]) hS1 (Fr.sub hFh37 rfl) rfl)) dL_law_810 mi_X12_free in_X12_free se_X12_free ml_L_89 rfl rfl rfl sh_98 rfl rfl (Nat.le_of_ble_eq_true rfl) (fun v60 h61 q62 => ?_)
  obtain ⟨hMh61, hFh61, bv60, cv60, z63, z64, z65, z66, z67, z68⟩ := q62
  have kz65 : h61 98 2 = v8 := by omega
  have kz66 : h61 98 3 = v9 := by omega
  have kz67 : h61 98 4 = v10 := by omega
  have kz68 : h61 98 5 = v11 := by omega
  refine g_pop dL_law_813 rfl ?_
  refine g_goto 1216 dL_law_814 (by decide) ?_
  have q69 : h61 2 0 = v1 := ((hFh61 2 0 rfl).trans ((hFh37 2 0 rfl).trans ev1.symm))
  have q70 : h61 6 0 = v2 := ((hFh61 6 0 rfl).trans ((hFh37 6 0 rfl).trans ev2.symm))
  have q71 : h61 12 0 = v3 := ((hFh61 12 0 rfl).trans ((hFh37 12 0 rfl).trans ev3.symm))
  have q72 : h61 42 0 = v4 := ((hFh61 42 0 rfl).trans ((hFh37 42 0 rfl).trans ev4.symm))
  have q73 : h61 46 0 = v5 := ((hFh61 46 0 rfl).trans ((hFh37 46 0 rfl).trans ev5.symm))
  have q74 : h61 52 0 = v6 := ((hFh61 52 0 rfl).trans ((hFh37 52 0 rfl).trans ev6.symm))
  have q75 : h61 0 12 = v7 := ((hFh61 0 12 rfl).trans ((hFh37 0 12 rfl).trans ev7.symm))
  have q76 : h61 98 2 = v8 := kz65
  have q77 : h61 98 3 = v9 := kz66
  have q78 : h61 98 4 = v10 := kz67
  have q79 : h61 98 5 = v11 := kz68
  have q80 : h61 145 6 = v12 := ((hFh61 145 _ rfl).trans ((hFh37 145 _ rfl).trans ev12.symm))
  have q81 : h61 145 7 = v13 := ((hFh61 145 _ rfl).trans ((hFh37 145 _ rfl).trans ev13.symm))
  have q82 : h61 145 8 = v14 := ((hFh61 145 _ rfl).trans ((hFh37 145 _ rfl).trans ev14.symm))
  have q83 : h61 145 9 = v15 := ((hFh61 145 _ rfl).trans ((hFh37 145 _ rfl).trans ev15.symm))
  have q84 : h61 98 79 = v16 := ((hFh61 98 79 rfl).trans ((hFh37 98 79 rfl).trans ev16.symm))
  exact kk _ ⟨⟨(MBx.fr (T := [(98, 3), (98, 4), (98, 5), (98, 6), (98, 7), (98, 8), (98, 47), (98, 48), (98, 49), (98, 52), (98, 53), (98, 54), (98, 55), (100, 0), (101, 0), (102, 0), (103, 0), (104, 0), (105, 0), (106, 0), (107, 0), (108, 0), (109, 0), (110, 0), (111, 0), (112, 0), (113, 0), (114, 0), (128, 0), (129, 0), (130, 0), (131, 0), (132, 0), (133, 0), (134, 0), (135, 0), (136, 0), (137, 0), (138, 0), (139, 0), (140, 0), (141, 0), (142, 0), (143, 0), (144, 0), (145, 1), (145, 2), (145, 3), (145, 4), (145, 5), (145, 6)]) hMh37 (Fr.sub hFh61 rfl) rfl), hMh61, (LD.fr (T := [(21, 7), (21, 8), (21, 9), (22, 1), (23, 0), (24, 0), (25, 0), (26, 1), (27, 0), (28, 0), (29, 0), (30, 0), (31, 0), (32, 1), (33, 0), (34, 0), (35, 0), (36, 0), (37, 0), (38, 0), (39, 0), (40, 0), (89, 0), (97, 0), (98, 3), (98, 4), (98, 5), (98, 6), (98, 7), (98, 8), (98, 47), (98, 48), (98, 49), (98, 52), (98, 53), (98, 54), (98, 55), (100, 0), (101, 0), (102, 0), (103, 0), (104, 0), (105, 0), (106, 0), (107, 0), (108, 0), (109, 0), (110, 0), (111, 0), (112, 0), (113, 0), (114, 0), (128, 0), (129, 0), (130, 0), (131, 0), (132, 0), (133, 0), (134, 0), (135, 0), (136, 0), (137, 0), (138, 0), (139, 0), (140, 0), (141, 0), (142, 0), (143, 0), (144, 0), (145, 1), (145, 2), (145, 3), (145, 4), (145, 5), (145, 6)]) hLD (Fr.tr (Fr.sub hFh37 rfl) hFh61 rfl) rfl), (WFL.fr (T := [(21, 7), (21, 8), (21, 9), (22, 1), (23, 0), (24, 0), (25, 0), (26, 1), (27, 0), (28, 0), (29, 0), (30, 0), (31, 0), (32, 1), (33, 0), (34, 0), (35, 0), (36, 0), (37, 0), (38, 0), (39, 0), (40, 0), (89, 0), (97, 0), (98, 3), (98, 4), (98, 5), (98, 6), (98, 7), (98, 8), (98, 47), (98, 48), (98, 49), (98, 52), (98, 53), (98, 54), (98, 55), (100, 0), (101, 0), (102, 0), (103, 0), (104, 0), (105, 0), (106, 0), (107, 0), (108, 0), (109, 0), (110, 0), (111, 0), (112, 0), (113, 0), (114, 0), (128, 0), (129, 0), (130, 0), (131, 0), (132, 0), (133, 0), (134, 0), (135, 0), (136, 0), (137, 0), (138, 0), (139, 0), (140, 0), (141, 0), (142, 0), (143, 0), (144, 0), (145, 1), (145, 2), (145, 3), (145, 4), (145, 5), (145, 6)]) hWF (Fr.tr (Fr.sub hFh37 rfl) hFh61 rfl) rfl)⟩, by omega, gi, gs, (ASn.fr (T := [(21, 7), (21, 8), (21, 9), (22, 1), (23, 0), (24, 0), (25, 0), (26, 1), (27, 0), (28, 0), (29, 0), (30, 0), (31, 0), (32, 1), (33, 0), (34, 0), (35, 0), (36, 0), (37, 0), (38, 0), (39, 0), (40, 0), (89, 0), (97, 0), (98, 3), (98, 4), (98, 5), (98, 6), (98, 7), (98, 8), (98, 47), (98, 48), (98, 49), (98, 52), (98, 53), (98, 54), (98, 55), (100, 0), (101, 0), (102, 0), (103, 0), (104, 0), (105, 0), (106, 0), (107, 0), (108, 0), (109, 0), (110, 0), (111, 0), (112, 0), (113, 0), (114, 0), (128, 0), (129, 0), (130, 0), (131, 0), (132, 0), (133, 0), (134, 0), (135, 0), (136, 0), (137, 0), (138, 0), (139, 0), (140, 0), (141, 0), (142, 0), (143, 0), (144, 0), (145, 1), (145, 2), (145, 3), (145, 4), (145, 5), (145, 6)]) hXW (Fr.tr (Fr.sub hFh37 rfl) hFh61 rfl) rfl), z63, (ASn.fr (T := [(21, 7), (21, 8), (21, 9), (22, 1), (23, 0), (24, 0), (25, 0), (26, 1), (27, 0), (28, 0), (29, 0), (30, 0), (31, 0), (32, 1), (33, 0), (34, 0), (35, 0), (36, 0), (37, 0), (38, 0), (39, 0), (40, 0), (89, 0), (97, 0), (98, 3), (98, 4), (98, 5), (98, 6), (98, 7), (98, 8), (98, 47), (98, 48), (98, 49), (98, 52), (98, 53), (98, 54), (98, 55), (100, 0), (101, 0), (102, 0), (103, 0), (104, 0), (105, 0), (106, 0), (107, 0), (108, 0), (109, 0), (110, 0), (111, 0), (112, 0), (113, 0), (114, 0), (128, 0), (129, 0), (130, 0), (131, 0), (132, 0), (133, 0), (134, 0), (135, 0), (136, 0), (137, 0), (138, 0), (139, 0), (140, 0), (141, 0), (142, 0), (143, 0), (144, 0), (145, 1), (145, 2), (145, 3), (145, 4), (145, 5), (145, 6)]) hXK (Fr.tr (Fr.sub hFh37 rfl) hFh61 rfl) rfl), z64⟩
set_option maxRecDepth 100000 in
set_option maxHeartbeats 8000000 in
theorem law_case_17 (xs : List Int) (Po : Option PV → List SE → MEM → Prop) (i : Int) (h : MEM) (I : INV i h) (hi : i + 6 ≤ xs.length) (hN : xs.length ≤ 3072) (kk : ∀ h' : MEM, INV (i + 6) h' → G x cL_law 4 (some .boolean) (some xs) Po (2048, 84000, 600000, 7302250) 1216 [some pX, some (pR 0), some (pR 98), some (pI i)] [] SH h' 151 10868) : G x cL_law 4 (some .boolean) (some xs) Po (2048, 84000, 600000, 7302250) 817 [some pX, some (pR 0), some (pR 98), some (pI i)] [] SH h 151 10868 := by
  obtain ⟨⟨hX, hMm, hLD, hWF⟩, hI, gi, gs, hXW, hIS, hXK, hS1⟩ := I
  obtain ⟨v1, ev1⟩ : ∃ z, z = h 2 0 := ⟨_, rfl⟩
  have bv1 : 0 ≤ v1 ∧ v1 ≤ 10 := by rw [ev1]; exact (m_2_0 hX)
  obtain ⟨v2, ev2⟩ : ∃ z, z = h 6 0 := ⟨_, rfl⟩
  have bv2 : 0 ≤ v2 ∧ v2 ≤ 8 := by rw [ev2]; exact (m_6_0 hX)
  obtain ⟨v3, ev3⟩ : ∃ z, z = h 12 0 := ⟨_, rfl⟩
  have bv3 : 0 ≤ v3 ∧ v3 ≤ 8 := by rw [ev3]; exact (m_12_0 hX)
  obtain ⟨v4, ev4⟩ : ∃ z, z = h 42 0 := ⟨_, rfl⟩
  have bv4 : 0 ≤ v4 ∧ v4 ≤ 10 := by rw [ev4]; exact (m_42_0 hX)
  obtain ⟨v5, ev5⟩ : ∃ z, z = h 46 0 := ⟨_, rfl⟩
  have bv5 : 0 ≤ v5 ∧ v5 ≤ 8 := by rw [ev5]; exact (m_46_0 hX)
  obtain ⟨v6, ev6⟩ : ∃ z, z = h 52 0 := ⟨_, rfl⟩
  have bv6 : 0 ≤ v6 ∧ v6 ≤ 8 := by rw [ev6]; exact (m_52_0 hX)
  obtain ⟨v7, ev7⟩ : ∃ z, z = h 0 12 := ⟨_, rfl⟩
  have bv7 : 0 ≤ v7 ∧ v7 ≤ 1 := by rw [ev7]; exact (m_0_12 hX)
  obtain ⟨v8, ev8⟩ : ∃ z, z = h 98 2 := ⟨_, rfl⟩
  have bv8 : 0 ≤ v8 ∧ v8 ≤ 10 := by rw [ev8]; exact (m_98_2 hMm)
  obtain ⟨v9, ev9⟩ : ∃ z, z = h 98 3 := ⟨_, rfl⟩
  have bv9 : 0 ≤ v9 ∧ v9 ≤ 8 := by rw [ev9]; exact (m_98_3 hMm)
  obtain ⟨v10, ev10⟩ : ∃ z, z = h 98 4 := ⟨_, rfl⟩
  have bv10 : 0 ≤ v10 ∧ v10 ≤ 8 := by rw [ev10]; exact (m_98_4 hMm)
  obtain ⟨v11, ev11⟩ : ∃ z, z = h 98 5 := ⟨_, rfl⟩
  have bv11 : 0 ≤ v11 ∧ v11 ≤ 2000000000 := by rw [ev11]; exact (m_98_5 hMm)
  obtain ⟨v12, ev12⟩ : ∃ z, z = h 145 6 := ⟨_, rfl⟩
  have bv12 : 0 ≤ v12 ∧ v12 ≤ 10 := by rw [ev12]; exact (m_145_6 hMm)
  obtain ⟨v13, ev13⟩ : ∃ z, z = h 145 7 := ⟨_, rfl⟩
  have bv13 : 0 ≤ v13 ∧ v13 ≤ 8 := by rw [ev13]; exact (m_145_7 hMm)
  obtain ⟨v14, ev14⟩ : ∃ z, z = h 145 8 := ⟨_, rfl⟩
  have bv14 : 0 ≤ v14 ∧ v14 ≤ 8 := by rw [ev14]; exact (m_145_8 hMm)
  obtain ⟨v15, ev15⟩ : ∃ z, z = h 145 9 := ⟨_, rfl⟩
  have bv15 : 0 ≤ v15 ∧ v15 ≤ 2000000000 := by rw [ev15]; exact (m_145_9 hMm)
  obtain ⟨v16, ev16⟩ : ∃ z, z = h 98 79 := ⟨_, rfl⟩
  have bv16 : 0 ≤ v16 ∧ v16 ≤ 1 := by rw [ev16]; exact (m_98_79 hMm)
  refine g_aload_n dL_law_817 rfl ?_
  refine g_aloadX_n dL_law_818 rfl ?_
  refine g_iload_n dL_law_819 rfl (fun _ => ?_)
  refine g_iconst dL_law_820 (inR_c rfl) ?_
  refine g_iaddB dL_law_821 (by omega) (by omega) ?_
  refine g_sldB dL_law_822 (by omega) (by omega) (fun v17 ev17 bv17 cv17 => ?_)
  refine g_aloadX_n dL_law_823 rfl ?_
  refine g_iload_n dL_law_824 rfl (fun _ => ?_)
  refine g_iconst dL_law_825 (inR_c rfl) ?_
  refine g_iaddB dL_law_826 (by omega) (by omega) ?_
  refine g_sldB dL_law_827 (by omega) (by omega) (fun v18 ev18 bv18 cv18 => ?_)
  refine g_aloadX_n dL_law_828 rfl ?_
  refine g_iload_n dL_law_829 rfl (fun _ => ?_)
  refine g_iconst dL_law_830 (inR_c rfl) ?_
  refine g_iaddB dL_law_831 (by omega) (by omega) ?_
  refine g_sldB dL_law_832 (by omega) (by omega) (fun v19 ev19 bv19 cv19 => ?_)
  have q20 : h 2 0 = v1 := ev1.symm
  have q21 : h 6 0 = v2 := ev2.symm
  have q22 : h 12 0 = v3 := ev3.symm
  have q23 : h 42 0 = v4 := ev4.symm
  have q24 : h 46 0 = v5 := ev5.symm
  have q25 : h 52 0 = v6 := ev6.symm
  have q26 : h 0 12 = v7 := ev7.symm
  have q27 : h 98 2 = v8 := ev8.symm
  have q28 : h 98 3 = v9 := ev9.symm
  have q29 : h 98 4 = v10 := ev10.symm
  have q30 : h 98 5 = v11 := ev11.symm
  have q31 : h 145 6 = v12 := ev12.symm
  have q32 : h 145 7 = v13 := ev13.symm
  have q33 : h 145 8 = v14 := ev14.symm
  have q34 : h 145 9 = v15 := ev15.symm
  have q35 : h 98 79 = v16 := ev16.symm
  refine g_cV (as := [_, _, _]) (c_X11_worth_0 _ _ _ h hX (by omega) (by omega) (by omega) (by omega) (by omega) (by omega) hLD) dL_law_833 mi_X11_worth in_X11_worth se_X11_worth ml_L_90 rfl rfl rfl sh_0 rfl rfl (Nat.le_of_ble_eq_true rfl) (fun v36 h37 q38 => ?_)
  obtain ⟨hMh37, hFh37, bv36, cv36⟩ := q38
  refine g_pop dL_law_836 rfl ?_
  refine g_aload_n dL_law_837 rfl ?_
  refine g_aloadX_n dL_law_838 rfl ?_
  refine g_iload_n dL_law_839 rfl (fun _ => ?_)
  refine g_iconst dL_law_840 (inR_c rfl) ?_
  refine g_iaddB dL_law_841 (by omega) (by omega) ?_
  refine g_sldE dL_law_842 (by omega) (by omega) ev17 ?_
  refine g_aloadX_n dL_law_843 rfl ?_
  refine g_iload_n dL_law_844 rfl (fun _ => ?_)
  refine g_iconst dL_law_845 (inR_c rfl) ?_
  refine g_iaddB dL_law_846 (by omega) (by omega) ?_
  refine g_sldE dL_law_847 (by omega) (by omega) ev18 ?_
  refine g_aloadX_n dL_law_848 rfl ?_
  refine g_iload_n dL_law_849 rfl (fun _ => ?_)
  refine g_iconst dL_law_850 (inR_c rfl) ?_
  refine g_iaddB dL_law_851 (by omega) (by omega) ?_
  refine g_sldE dL_law_852 (by omega) (by omega) ev19 ?_
  have q39 : h37 2 0 = v1 := ((hFh37 2 0 rfl).trans ev1.symm)
  have q40 : h37 6 0 = v2 := ((hFh37 6 0 rfl).trans ev2.symm)
  have q41 : h37 12 0 = v3 := ((hFh37 12 0 rfl).trans ev3.symm)
  have q42 : h37 42 0 = v4 := ((hFh37 42 0 rfl).trans ev4.symm)
  have q43 : h37 46 0 = v5 := ((hFh37 46 0 rfl).trans ev5.symm)
  have q44 : h37 52 0 = v6 := ((hFh37 52 0 rfl).trans ev6.symm)
  have q45 : h37 0 12 = v7 := ((hFh37 0 12 rfl).trans ev7.symm)
  have q46 : h37 98 2 = v8 := ((hFh37 98 2 rfl).trans ev8.symm)
  have q47 : h37 98 3 = v9 := ((hFh37 98 3 rfl).trans ev9.symm)
  have q48 : h37 98 4 = v10 := ((hFh37 98 4 rfl).trans ev10.symm)
  have q49 : h37 98 5 = v11 := ((hFh37 98 5 rfl).trans ev11.symm)
  have q50 : h37 145 6 = v12 := ((hFh37 145 _ rfl).trans ev12.symm)
  have q51 : h37 145 7 = v13 := ((hFh37 145 _ rfl).trans ev13.symm)
  have q52 : h37 145 8 = v14 := ((hFh37 145 _ rfl).trans ev14.symm)
  have q53 : h37 145 9 = v15 := ((hFh37 145 _ rfl).trans ev15.symm)
  have q54 : h37 98 79 = v16 := ((hFh37 98 79 rfl).trans ev16.symm)
  have q55 : h37 98 5 = v11 := ((hFh37 98 5 rfl).trans ev11.symm)
  have q56 : h37 98 2 = v8 := ((hFh37 98 2 rfl).trans ev8.symm)
  have q57 : h37 98 3 = v9 := ((hFh37 98 3 rfl).trans ev9.symm)
  have q58 : h37 98 4 = v10 := ((hFh37 98 4 rfl).trans ev10.symm)
  have q59 : h37 98 5 = v11 := ((hFh37 98 5 rfl).trans ev11.symm)
  refine g_cV (as := [_, _, _]) (c_X12_worth_98 _ _ _ _ _ h37 (MBm.fr (T := [(21, 7), (21, 8), (21, 9), (22, 1), (23, 0), (24, 0), (25, 0), (26, 1), (27, 0), (28, 0), (29, 0), (30, 0), (31, 0), (32, 1), (33, 0), (34, 0), (35, 0), (36, 0), (37, 0), (38, 0), (39, 0), (40, 0), (89, 0), (97, 0)]) hMm (Fr.sub hFh37 rfl) rfl) (by omega) (by omega) (by omega) (by omega) (by omega) (by omega) (by omega) (by omega) (WFL.fr (T := [(21, 7), (21, 8), (21, 9), (22, 1), (23, 0), (24, 0), (25, 0), (26, 1), (27, 0), (28, 0), (29, 0), (30, 0), (31, 0), (32, 1), (33, 0), (34, 0), (35, 0), (36, 0), (37, 0), (38, 0), (39, 0), (40, 0), (89, 0), (97, 0)]) hWF (Fr.sub hFh37 rfl) rfl) (ISn.fr (T := [(21, 7), (21, 8), (21, 9), (22, 1), (23, 0), (24, 0), (25, 0), (26, 1), (27, 0), (28, 0), (29, 0), (30, 0), (31, 0), (32, 1), (33, 0), (34, 0), (35, 0), (36, 0), (37, 0), (38, 0), (39, 0), (40, 0), (89, 0), (97, 0)]) hIS (Fr.sub hFh37 rfl) rfl) (S1n.fr (T := [(21, 7), (21, 8), (21, 9), (22, 1), (23, 0), (24, 0), (25, 0), (26, 1), (27, 0), (28, 0), (29, 0), (30, 0), (31, 0), (32, 1), (33, 0), (34, 0), (35, 0), (36, 0), (37, 0), (38, 0), (39, 0), (40, 0), (89, 0), (97, 0)]) hS1 (Fr.sub hFh37 rfl) rfl)) dL_law_853 mi_X12_worth in_X12_worth se_X12_worth ml_L_93 rfl rfl rfl sh_98 rfl rfl (Nat.le_of_ble_eq_true rfl) (fun v60 h61 q62 => ?_)
  obtain ⟨hMh61, hFh61, bv60, cv60, z63, z64, z65, z66, z67, z68⟩ := q62
  have kz65 : h61 98 2 = v8 := by omega
  have kz66 : h61 98 3 = v9 := by omega
  have kz67 : h61 98 4 = v10 := by omega
  have kz68 : h61 98 5 = v11 := by omega
  refine g_pop dL_law_856 rfl ?_
  refine g_goto 1216 dL_law_857 (by decide) ?_
  have q69 : h61 2 0 = v1 := ((hFh61 2 0 rfl).trans ((hFh37 2 0 rfl).trans ev1.symm))
  have q70 : h61 6 0 = v2 := ((hFh61 6 0 rfl).trans ((hFh37 6 0 rfl).trans ev2.symm))
  have q71 : h61 12 0 = v3 := ((hFh61 12 0 rfl).trans ((hFh37 12 0 rfl).trans ev3.symm))
  have q72 : h61 42 0 = v4 := ((hFh61 42 0 rfl).trans ((hFh37 42 0 rfl).trans ev4.symm))
  have q73 : h61 46 0 = v5 := ((hFh61 46 0 rfl).trans ((hFh37 46 0 rfl).trans ev5.symm))
  have q74 : h61 52 0 = v6 := ((hFh61 52 0 rfl).trans ((hFh37 52 0 rfl).trans ev6.symm))
  have q75 : h61 0 12 = v7 := ((hFh61 0 12 rfl).trans ((hFh37 0 12 rfl).trans ev7.symm))
  have q76 : h61 98 2 = v8 := kz65
  have q77 : h61 98 3 = v9 := kz66
  have q78 : h61 98 4 = v10 := kz67
  have q79 : h61 98 5 = v11 := kz68
  have q80 : h61 145 6 = v12 := ((hFh61 145 _ rfl).trans ((hFh37 145 _ rfl).trans ev12.symm))
  have q81 : h61 145 7 = v13 := ((hFh61 145 _ rfl).trans ((hFh37 145 _ rfl).trans ev13.symm))
  have q82 : h61 145 8 = v14 := ((hFh61 145 _ rfl).trans ((hFh37 145 _ rfl).trans ev14.symm))
  have q83 : h61 145 9 = v15 := ((hFh61 145 _ rfl).trans ((hFh37 145 _ rfl).trans ev15.symm))
  have q84 : h61 98 79 = v16 := ((hFh61 98 79 rfl).trans ((hFh37 98 79 rfl).trans ev16.symm))
  exact kk _ ⟨⟨(MBx.fr (T := [(98, 3), (98, 4), (98, 5), (98, 6), (98, 7), (98, 8), (98, 47), (98, 48), (98, 49), (98, 52), (100, 0), (101, 0), (102, 0), (103, 0), (104, 0), (105, 0), (106, 0), (107, 0), (108, 0), (109, 0), (110, 0), (111, 0), (112, 0), (113, 0), (114, 0), (128, 0), (129, 0), (130, 0), (131, 0), (132, 0), (133, 0), (134, 0), (135, 0), (136, 0), (137, 0), (138, 0), (139, 0), (140, 0), (141, 0), (142, 0), (143, 0), (144, 0), (145, 1), (145, 2), (145, 3), (145, 4), (145, 5), (145, 6)]) hMh37 (Fr.sub hFh61 rfl) rfl), hMh61, (LD.fr (T := [(21, 7), (21, 8), (21, 9), (22, 1), (23, 0), (24, 0), (25, 0), (26, 1), (27, 0), (28, 0), (29, 0), (30, 0), (31, 0), (32, 1), (33, 0), (34, 0), (35, 0), (36, 0), (37, 0), (38, 0), (39, 0), (40, 0), (89, 0), (97, 0), (98, 3), (98, 4), (98, 5), (98, 6), (98, 7), (98, 8), (98, 47), (98, 48), (98, 49), (98, 52), (100, 0), (101, 0), (102, 0), (103, 0), (104, 0), (105, 0), (106, 0), (107, 0), (108, 0), (109, 0), (110, 0), (111, 0), (112, 0), (113, 0), (114, 0), (128, 0), (129, 0), (130, 0), (131, 0), (132, 0), (133, 0), (134, 0), (135, 0), (136, 0), (137, 0), (138, 0), (139, 0), (140, 0), (141, 0), (142, 0), (143, 0), (144, 0), (145, 1), (145, 2), (145, 3), (145, 4), (145, 5), (145, 6)]) hLD (Fr.tr (Fr.sub hFh37 rfl) hFh61 rfl) rfl), (WFL.fr (T := [(21, 7), (21, 8), (21, 9), (22, 1), (23, 0), (24, 0), (25, 0), (26, 1), (27, 0), (28, 0), (29, 0), (30, 0), (31, 0), (32, 1), (33, 0), (34, 0), (35, 0), (36, 0), (37, 0), (38, 0), (39, 0), (40, 0), (89, 0), (97, 0), (98, 3), (98, 4), (98, 5), (98, 6), (98, 7), (98, 8), (98, 47), (98, 48), (98, 49), (98, 52), (100, 0), (101, 0), (102, 0), (103, 0), (104, 0), (105, 0), (106, 0), (107, 0), (108, 0), (109, 0), (110, 0), (111, 0), (112, 0), (113, 0), (114, 0), (128, 0), (129, 0), (130, 0), (131, 0), (132, 0), (133, 0), (134, 0), (135, 0), (136, 0), (137, 0), (138, 0), (139, 0), (140, 0), (141, 0), (142, 0), (143, 0), (144, 0), (145, 1), (145, 2), (145, 3), (145, 4), (145, 5), (145, 6)]) hWF (Fr.tr (Fr.sub hFh37 rfl) hFh61 rfl) rfl)⟩, by omega, gi, gs, (ASn.fr (T := [(21, 7), (21, 8), (21, 9), (22, 1), (23, 0), (24, 0), (25, 0), (26, 1), (27, 0), (28, 0), (29, 0), (30, 0), (31, 0), (32, 1), (33, 0), (34, 0), (35, 0), (36, 0), (37, 0), (38, 0), (39, 0), (40, 0), (89, 0), (97, 0), (98, 3), (98, 4), (98, 5), (98, 6), (98, 7), (98, 8), (98, 47), (98, 48), (98, 49), (98, 52), (100, 0), (101, 0), (102, 0), (103, 0), (104, 0), (105, 0), (106, 0), (107, 0), (108, 0), (109, 0), (110, 0), (111, 0), (112, 0), (113, 0), (114, 0), (128, 0), (129, 0), (130, 0), (131, 0), (132, 0), (133, 0), (134, 0), (135, 0), (136, 0), (137, 0), (138, 0), (139, 0), (140, 0), (141, 0), (142, 0), (143, 0), (144, 0), (145, 1), (145, 2), (145, 3), (145, 4), (145, 5), (145, 6)]) hXW (Fr.tr (Fr.sub hFh37 rfl) hFh61 rfl) rfl), z63, (ASn.fr (T := [(21, 7), (21, 8), (21, 9), (22, 1), (23, 0), (24, 0), (25, 0), (26, 1), (27, 0), (28, 0), (29, 0), (30, 0), (31, 0), (32, 1), (33, 0), (34, 0), (35, 0), (36, 0), (37, 0), (38, 0), (39, 0), (40, 0), (89, 0), (97, 0), (98, 3), (98, 4), (98, 5), (98, 6), (98, 7), (98, 8), (98, 47), (98, 48), (98, 49), (98, 52), (100, 0), (101, 0), (102, 0), (103, 0), (104, 0), (105, 0), (106, 0), (107, 0), (108, 0), (109, 0), (110, 0), (111, 0), (112, 0), (113, 0), (114, 0), (128, 0), (129, 0), (130, 0), (131, 0), (132, 0), (133, 0), (134, 0), (135, 0), (136, 0), (137, 0), (138, 0), (139, 0), (140, 0), (141, 0), (142, 0), (143, 0), (144, 0), (145, 1), (145, 2), (145, 3), (145, 4), (145, 5), (145, 6)]) hXK (Fr.tr (Fr.sub hFh37 rfl) hFh61 rfl) rfl), z64⟩
set_option maxRecDepth 100000 in
set_option maxHeartbeats 8000000 in
theorem law_case_18 (xs : List Int) (Po : Option PV → List SE → MEM → Prop) (i : Int) (h : MEM) (I : INV i h) (hi : i + 6 ≤ xs.length) (hN : xs.length ≤ 3072) (kk : ∀ h' : MEM, INV (i + 6) h' → G x cL_law 4 (some .boolean) (some xs) Po (2048, 84000, 600000, 7302250) 1216 [some pX, some (pR 0), some (pR 98), some (pI i)] [] SH h' 151 10868) : G x cL_law 4 (some .boolean) (some xs) Po (2048, 84000, 600000, 7302250) 860 [some pX, some (pR 0), some (pR 98), some (pI i)] [] SH h 151 10868 := by
  obtain ⟨⟨hX, hMm, hLD, hWF⟩, hI, gi, gs, hXW, hIS, hXK, hS1⟩ := I
  obtain ⟨v1, ev1⟩ : ∃ z, z = h 2 0 := ⟨_, rfl⟩
  have bv1 : 0 ≤ v1 ∧ v1 ≤ 10 := by rw [ev1]; exact (m_2_0 hX)
  obtain ⟨v2, ev2⟩ : ∃ z, z = h 6 0 := ⟨_, rfl⟩
  have bv2 : 0 ≤ v2 ∧ v2 ≤ 8 := by rw [ev2]; exact (m_6_0 hX)
  obtain ⟨v3, ev3⟩ : ∃ z, z = h 12 0 := ⟨_, rfl⟩
  have bv3 : 0 ≤ v3 ∧ v3 ≤ 8 := by rw [ev3]; exact (m_12_0 hX)
  obtain ⟨v4, ev4⟩ : ∃ z, z = h 42 0 := ⟨_, rfl⟩
  have bv4 : 0 ≤ v4 ∧ v4 ≤ 10 := by rw [ev4]; exact (m_42_0 hX)
  obtain ⟨v5, ev5⟩ : ∃ z, z = h 46 0 := ⟨_, rfl⟩
  have bv5 : 0 ≤ v5 ∧ v5 ≤ 8 := by rw [ev5]; exact (m_46_0 hX)
  obtain ⟨v6, ev6⟩ : ∃ z, z = h 52 0 := ⟨_, rfl⟩
  have bv6 : 0 ≤ v6 ∧ v6 ≤ 8 := by rw [ev6]; exact (m_52_0 hX)
  obtain ⟨v7, ev7⟩ : ∃ z, z = h 0 12 := ⟨_, rfl⟩
  have bv7 : 0 ≤ v7 ∧ v7 ≤ 1 := by rw [ev7]; exact (m_0_12 hX)
  obtain ⟨v8, ev8⟩ : ∃ z, z = h 98 2 := ⟨_, rfl⟩
  have bv8 : 0 ≤ v8 ∧ v8 ≤ 10 := by rw [ev8]; exact (m_98_2 hMm)
  obtain ⟨v9, ev9⟩ : ∃ z, z = h 98 3 := ⟨_, rfl⟩
  have bv9 : 0 ≤ v9 ∧ v9 ≤ 8 := by rw [ev9]; exact (m_98_3 hMm)
  obtain ⟨v10, ev10⟩ : ∃ z, z = h 98 4 := ⟨_, rfl⟩
  have bv10 : 0 ≤ v10 ∧ v10 ≤ 8 := by rw [ev10]; exact (m_98_4 hMm)
  obtain ⟨v11, ev11⟩ : ∃ z, z = h 98 5 := ⟨_, rfl⟩
  have bv11 : 0 ≤ v11 ∧ v11 ≤ 2000000000 := by rw [ev11]; exact (m_98_5 hMm)
  obtain ⟨v12, ev12⟩ : ∃ z, z = h 145 6 := ⟨_, rfl⟩
  have bv12 : 0 ≤ v12 ∧ v12 ≤ 10 := by rw [ev12]; exact (m_145_6 hMm)
  obtain ⟨v13, ev13⟩ : ∃ z, z = h 145 7 := ⟨_, rfl⟩
  have bv13 : 0 ≤ v13 ∧ v13 ≤ 8 := by rw [ev13]; exact (m_145_7 hMm)
  obtain ⟨v14, ev14⟩ : ∃ z, z = h 145 8 := ⟨_, rfl⟩
  have bv14 : 0 ≤ v14 ∧ v14 ≤ 8 := by rw [ev14]; exact (m_145_8 hMm)
  obtain ⟨v15, ev15⟩ : ∃ z, z = h 145 9 := ⟨_, rfl⟩
  have bv15 : 0 ≤ v15 ∧ v15 ≤ 2000000000 := by rw [ev15]; exact (m_145_9 hMm)
  obtain ⟨v16, ev16⟩ : ∃ z, z = h 98 79 := ⟨_, rfl⟩
  have bv16 : 0 ≤ v16 ∧ v16 ≤ 1 := by rw [ev16]; exact (m_98_79 hMm)
  refine g_aload_n dL_law_860 rfl ?_
  refine g_aloadX_n dL_law_861 rfl ?_
  refine g_iload_n dL_law_862 rfl (fun _ => ?_)
  refine g_iconst dL_law_863 (inR_c rfl) ?_
  refine g_iaddB dL_law_864 (by omega) (by omega) ?_
  refine g_sldB dL_law_865 (by omega) (by omega) (fun v17 ev17 bv17 cv17 => ?_)
  refine g_aloadX_n dL_law_866 rfl ?_
  refine g_iload_n dL_law_867 rfl (fun _ => ?_)
  refine g_iconst dL_law_868 (inR_c rfl) ?_
  refine g_iaddB dL_law_869 (by omega) (by omega) ?_
  refine g_sldB dL_law_870 (by omega) (by omega) (fun v18 ev18 bv18 cv18 => ?_)
  have q19 : h 2 0 = v1 := ev1.symm
  have q20 : h 6 0 = v2 := ev2.symm
  have q21 : h 12 0 = v3 := ev3.symm
  have q22 : h 42 0 = v4 := ev4.symm
  have q23 : h 46 0 = v5 := ev5.symm
  have q24 : h 52 0 = v6 := ev6.symm
  have q25 : h 0 12 = v7 := ev7.symm
  have q26 : h 98 2 = v8 := ev8.symm
  have q27 : h 98 3 = v9 := ev9.symm
  have q28 : h 98 4 = v10 := ev10.symm
  have q29 : h 98 5 = v11 := ev11.symm
  have q30 : h 145 6 = v12 := ev12.symm
  have q31 : h 145 7 = v13 := ev13.symm
  have q32 : h 145 8 = v14 := ev14.symm
  have q33 : h 145 9 = v15 := ev15.symm
  have q34 : h 98 79 = v16 := ev16.symm
  refine g_cV (as := [_, _]) (c_X11_lent_0 _ _ h hX (by omega) (by omega) (by omega) (by omega)) dL_law_871 mi_X11_lent in_X11_lent se_X11_lent ml_L_94 rfl rfl rfl sh_0 rfl rfl (Nat.le_of_ble_eq_true rfl) (fun v35 h36 q37 => ?_)
  obtain ⟨hMh36, hFh36, bv35, cv35⟩ := q37
  refine g_pop dL_law_874 rfl ?_
  refine g_aload_n dL_law_875 rfl ?_
  refine g_aloadX_n dL_law_876 rfl ?_
  refine g_iload_n dL_law_877 rfl (fun _ => ?_)
  refine g_iconst dL_law_878 (inR_c rfl) ?_
  refine g_iaddB dL_law_879 (by omega) (by omega) ?_
  refine g_sldE dL_law_880 (by omega) (by omega) ev17 ?_
  refine g_aloadX_n dL_law_881 rfl ?_
  refine g_iload_n dL_law_882 rfl (fun _ => ?_)
  refine g_iconst dL_law_883 (inR_c rfl) ?_
  refine g_iaddB dL_law_884 (by omega) (by omega) ?_
  refine g_sldE dL_law_885 (by omega) (by omega) ev18 ?_
  have q38 : h36 2 0 = v1 := ((hFh36 2 0 rfl).trans ev1.symm)
  have q39 : h36 6 0 = v2 := ((hFh36 6 0 rfl).trans ev2.symm)
  have q40 : h36 12 0 = v3 := ((hFh36 12 0 rfl).trans ev3.symm)
  have q41 : h36 42 0 = v4 := ((hFh36 42 0 rfl).trans ev4.symm)
  have q42 : h36 46 0 = v5 := ((hFh36 46 0 rfl).trans ev5.symm)
  have q43 : h36 52 0 = v6 := ((hFh36 52 0 rfl).trans ev6.symm)
  have q44 : h36 0 12 = v7 := ((hFh36 0 12 rfl).trans ev7.symm)
  have q45 : h36 98 2 = v8 := ((hFh36 98 2 rfl).trans ev8.symm)
  have q46 : h36 98 3 = v9 := ((hFh36 98 3 rfl).trans ev9.symm)
  have q47 : h36 98 4 = v10 := ((hFh36 98 4 rfl).trans ev10.symm)
  have q48 : h36 98 5 = v11 := ((hFh36 98 5 rfl).trans ev11.symm)
  have q49 : h36 145 6 = v12 := ((hFh36 145 _ rfl).trans ev12.symm)
  have q50 : h36 145 7 = v13 := ((hFh36 145 _ rfl).trans ev13.symm)
  have q51 : h36 145 8 = v14 := ((hFh36 145 _ rfl).trans ev14.symm)
  have q52 : h36 145 9 = v15 := ((hFh36 145 _ rfl).trans ev15.symm)
  have q53 : h36 98 79 = v16 := ((hFh36 98 79 rfl).trans ev16.symm)
  refine g_cV (as := [_, _]) (c_X12_lent_98 _ _ h36 (MBm.fr (T := [(9, 0), (71, 1), (72, 0), (73, 0), (74, 0)]) hMm (Fr.sub hFh36 rfl) rfl) (by omega) (by omega) (by omega) (by omega)) dL_law_886 mi_X12_lent in_X12_lent se_X12_lent ml_L_97 rfl rfl rfl sh_98 rfl rfl (Nat.le_of_ble_eq_true rfl) (fun v54 h55 q56 => ?_)
  obtain ⟨hMh55, hFh55, bv54, cv54⟩ := q56
  refine g_pop dL_law_889 rfl ?_
  refine g_goto 1216 dL_law_890 (by decide) ?_
  have q57 : h55 2 0 = v1 := ((hFh55 2 0 rfl).trans ((hFh36 2 0 rfl).trans ev1.symm))
  have q58 : h55 6 0 = v2 := ((hFh55 6 0 rfl).trans ((hFh36 6 0 rfl).trans ev2.symm))
  have q59 : h55 12 0 = v3 := ((hFh55 12 0 rfl).trans ((hFh36 12 0 rfl).trans ev3.symm))
  have q60 : h55 42 0 = v4 := ((hFh55 42 0 rfl).trans ((hFh36 42 0 rfl).trans ev4.symm))
  have q61 : h55 46 0 = v5 := ((hFh55 46 0 rfl).trans ((hFh36 46 0 rfl).trans ev5.symm))
  have q62 : h55 52 0 = v6 := ((hFh55 52 0 rfl).trans ((hFh36 52 0 rfl).trans ev6.symm))
  have q63 : h55 0 12 = v7 := ((hFh55 0 12 rfl).trans ((hFh36 0 12 rfl).trans ev7.symm))
  have q64 : h55 98 2 = v8 := ((hFh55 98 2 rfl).trans ((hFh36 98 2 rfl).trans ev8.symm))
  have q65 : h55 98 3 = v9 := ((hFh55 98 3 rfl).trans ((hFh36 98 3 rfl).trans ev9.symm))
  have q66 : h55 98 4 = v10 := ((hFh55 98 4 rfl).trans ((hFh36 98 4 rfl).trans ev10.symm))
  have q67 : h55 98 5 = v11 := ((hFh55 98 5 rfl).trans ((hFh36 98 5 rfl).trans ev11.symm))
  have q68 : h55 145 6 = v12 := ((hFh55 145 _ rfl).trans ((hFh36 145 _ rfl).trans ev12.symm))
  have q69 : h55 145 7 = v13 := ((hFh55 145 _ rfl).trans ((hFh36 145 _ rfl).trans ev13.symm))
  have q70 : h55 145 8 = v14 := ((hFh55 145 _ rfl).trans ((hFh36 145 _ rfl).trans ev14.symm))
  have q71 : h55 145 9 = v15 := ((hFh55 145 _ rfl).trans ((hFh36 145 _ rfl).trans ev15.symm))
  have q72 : h55 98 79 = v16 := ((hFh55 98 79 rfl).trans ((hFh36 98 79 rfl).trans ev16.symm))
  exact kk _ ⟨⟨(MBx.fr (T := [(106, 0), (147, 0)]) hMh36 (Fr.sub hFh55 rfl) rfl), hMh55, (LD.fr (T := [(9, 0), (71, 1), (72, 0), (73, 0), (74, 0), (106, 0), (147, 0)]) hLD (Fr.tr (Fr.sub hFh36 rfl) hFh55 rfl) rfl), (WFL.fr (T := [(9, 0), (71, 1), (72, 0), (73, 0), (74, 0), (106, 0), (147, 0)]) hWF (Fr.tr (Fr.sub hFh36 rfl) hFh55 rfl) rfl)⟩, by omega, gi, gs, (ASn.fr (T := [(9, 0), (71, 1), (72, 0), (73, 0), (74, 0), (106, 0), (147, 0)]) hXW (Fr.tr (Fr.sub hFh36 rfl) hFh55 rfl) rfl), (ISn.fr (T := [(9, 0), (71, 1), (72, 0), (73, 0), (74, 0), (106, 0), (147, 0)]) hIS (Fr.tr (Fr.sub hFh36 rfl) hFh55 rfl) rfl), (ASn.fr (T := [(9, 0), (71, 1), (72, 0), (73, 0), (74, 0), (106, 0), (147, 0)]) hXK (Fr.tr (Fr.sub hFh36 rfl) hFh55 rfl) rfl), (S1n.fr (T := [(9, 0), (71, 1), (72, 0), (73, 0), (74, 0), (106, 0), (147, 0)]) hS1 (Fr.tr (Fr.sub hFh36 rfl) hFh55 rfl) rfl)⟩
set_option maxRecDepth 100000 in
set_option maxHeartbeats 8000000 in
theorem law_case_19 (xs : List Int) (Po : Option PV → List SE → MEM → Prop) (i : Int) (h : MEM) (I : INV i h) (hi : i + 6 ≤ xs.length) (hN : xs.length ≤ 3072) (kk : ∀ h' : MEM, INV (i + 6) h' → G x cL_law 4 (some .boolean) (some xs) Po (2048, 84000, 600000, 7302250) 1216 [some pX, some (pR 0), some (pR 98), some (pI i)] [] SH h' 151 10868) : G x cL_law 4 (some .boolean) (some xs) Po (2048, 84000, 600000, 7302250) 893 [some pX, some (pR 0), some (pR 98), some (pI i)] [] SH h 151 10868 := by
  obtain ⟨⟨hX, hMm, hLD, hWF⟩, hI, gi, gs, hXW, hIS, hXK, hS1⟩ := I
  obtain ⟨v1, ev1⟩ : ∃ z, z = h 2 0 := ⟨_, rfl⟩
  have bv1 : 0 ≤ v1 ∧ v1 ≤ 10 := by rw [ev1]; exact (m_2_0 hX)
  obtain ⟨v2, ev2⟩ : ∃ z, z = h 6 0 := ⟨_, rfl⟩
  have bv2 : 0 ≤ v2 ∧ v2 ≤ 8 := by rw [ev2]; exact (m_6_0 hX)
  obtain ⟨v3, ev3⟩ : ∃ z, z = h 12 0 := ⟨_, rfl⟩
  have bv3 : 0 ≤ v3 ∧ v3 ≤ 8 := by rw [ev3]; exact (m_12_0 hX)
  obtain ⟨v4, ev4⟩ : ∃ z, z = h 42 0 := ⟨_, rfl⟩
  have bv4 : 0 ≤ v4 ∧ v4 ≤ 10 := by rw [ev4]; exact (m_42_0 hX)
  obtain ⟨v5, ev5⟩ : ∃ z, z = h 46 0 := ⟨_, rfl⟩
  have bv5 : 0 ≤ v5 ∧ v5 ≤ 8 := by rw [ev5]; exact (m_46_0 hX)
  obtain ⟨v6, ev6⟩ : ∃ z, z = h 52 0 := ⟨_, rfl⟩
  have bv6 : 0 ≤ v6 ∧ v6 ≤ 8 := by rw [ev6]; exact (m_52_0 hX)
  obtain ⟨v7, ev7⟩ : ∃ z, z = h 0 12 := ⟨_, rfl⟩
  have bv7 : 0 ≤ v7 ∧ v7 ≤ 1 := by rw [ev7]; exact (m_0_12 hX)
  obtain ⟨v8, ev8⟩ : ∃ z, z = h 98 2 := ⟨_, rfl⟩
  have bv8 : 0 ≤ v8 ∧ v8 ≤ 10 := by rw [ev8]; exact (m_98_2 hMm)
  obtain ⟨v9, ev9⟩ : ∃ z, z = h 98 3 := ⟨_, rfl⟩
  have bv9 : 0 ≤ v9 ∧ v9 ≤ 8 := by rw [ev9]; exact (m_98_3 hMm)
  obtain ⟨v10, ev10⟩ : ∃ z, z = h 98 4 := ⟨_, rfl⟩
  have bv10 : 0 ≤ v10 ∧ v10 ≤ 8 := by rw [ev10]; exact (m_98_4 hMm)
  obtain ⟨v11, ev11⟩ : ∃ z, z = h 98 5 := ⟨_, rfl⟩
  have bv11 : 0 ≤ v11 ∧ v11 ≤ 2000000000 := by rw [ev11]; exact (m_98_5 hMm)
  obtain ⟨v12, ev12⟩ : ∃ z, z = h 145 6 := ⟨_, rfl⟩
  have bv12 : 0 ≤ v12 ∧ v12 ≤ 10 := by rw [ev12]; exact (m_145_6 hMm)
  obtain ⟨v13, ev13⟩ : ∃ z, z = h 145 7 := ⟨_, rfl⟩
  have bv13 : 0 ≤ v13 ∧ v13 ≤ 8 := by rw [ev13]; exact (m_145_7 hMm)
  obtain ⟨v14, ev14⟩ : ∃ z, z = h 145 8 := ⟨_, rfl⟩
  have bv14 : 0 ≤ v14 ∧ v14 ≤ 8 := by rw [ev14]; exact (m_145_8 hMm)
  obtain ⟨v15, ev15⟩ : ∃ z, z = h 145 9 := ⟨_, rfl⟩
  have bv15 : 0 ≤ v15 ∧ v15 ≤ 2000000000 := by rw [ev15]; exact (m_145_9 hMm)
  obtain ⟨v16, ev16⟩ : ∃ z, z = h 98 79 := ⟨_, rfl⟩
  have bv16 : 0 ≤ v16 ∧ v16 ≤ 1 := by rw [ev16]; exact (m_98_79 hMm)
  refine g_aload_n dL_law_893 rfl ?_
  refine g_aloadX_n dL_law_894 rfl ?_
  refine g_iload_n dL_law_895 rfl (fun _ => ?_)
  refine g_iconst dL_law_896 (inR_c rfl) ?_
  refine g_iaddB dL_law_897 (by omega) (by omega) ?_
  refine g_sldB dL_law_898 (by omega) (by omega) (fun v17 ev17 bv17 cv17 => ?_)
  refine g_aloadX_n dL_law_899 rfl ?_
  refine g_iload_n dL_law_900 rfl (fun _ => ?_)
  refine g_iconst dL_law_901 (inR_c rfl) ?_
  refine g_iaddB dL_law_902 (by omega) (by omega) ?_
  refine g_sldB dL_law_903 (by omega) (by omega) (fun v18 ev18 bv18 cv18 => ?_)
  refine g_aloadX_n dL_law_904 rfl ?_
  refine g_iload_n dL_law_905 rfl (fun _ => ?_)
  refine g_iconst dL_law_906 (inR_c rfl) ?_
  refine g_iaddB dL_law_907 (by omega) (by omega) ?_
  refine g_sldB dL_law_908 (by omega) (by omega) (fun v19 ev19 bv19 cv19 => ?_)
  have q20 : h 2 0 = v1 := ev1.symm
  have q21 : h 6 0 = v2 := ev2.symm
  have q22 : h 12 0 = v3 := ev3.symm
  have q23 : h 42 0 = v4 := ev4.symm
  have q24 : h 46 0 = v5 := ev5.symm
  have q25 : h 52 0 = v6 := ev6.symm
  have q26 : h 0 12 = v7 := ev7.symm
  have q27 : h 98 2 = v8 := ev8.symm
  have q28 : h 98 3 = v9 := ev9.symm
  have q29 : h 98 4 = v10 := ev10.symm
  have q30 : h 98 5 = v11 := ev11.symm
  have q31 : h 145 6 = v12 := ev12.symm
  have q32 : h 145 7 = v13 := ev13.symm
  have q33 : h 145 8 = v14 := ev14.symm
  have q34 : h 145 9 = v15 := ev15.symm
  have q35 : h 98 79 = v16 := ev16.symm
  refine g_cV (as := [_, _, _]) (c_X11_letGo_0 _ _ _ h hX (by omega) (by omega) (by omega) (by omega) (by omega) (by omega) hLD) dL_law_909 mi_X11_letGo in_X11_letGo se_X11_letGo ml_L_98 rfl rfl rfl sh_0 rfl rfl (Nat.le_of_ble_eq_true rfl) (fun v36 h37 q38 => ?_)
  obtain ⟨hMh37, hFh37, bv36, cv36⟩ := q38
  refine g_pop dL_law_912 rfl ?_
  refine g_aload_n dL_law_913 rfl ?_
  refine g_aloadX_n dL_law_914 rfl ?_
  refine g_iload_n dL_law_915 rfl (fun _ => ?_)
  refine g_iconst dL_law_916 (inR_c rfl) ?_
  refine g_iaddB dL_law_917 (by omega) (by omega) ?_
  refine g_sldE dL_law_918 (by omega) (by omega) ev17 ?_
  refine g_aloadX_n dL_law_919 rfl ?_
  refine g_iload_n dL_law_920 rfl (fun _ => ?_)
  refine g_iconst dL_law_921 (inR_c rfl) ?_
  refine g_iaddB dL_law_922 (by omega) (by omega) ?_
  refine g_sldE dL_law_923 (by omega) (by omega) ev18 ?_
  refine g_aloadX_n dL_law_924 rfl ?_
  refine g_iload_n dL_law_925 rfl (fun _ => ?_)
  refine g_iconst dL_law_926 (inR_c rfl) ?_
  refine g_iaddB dL_law_927 (by omega) (by omega) ?_
  refine g_sldE dL_law_928 (by omega) (by omega) ev19 ?_
  have q39 : h37 2 0 = v1 := ((hFh37 2 0 rfl).trans ev1.symm)
  have q40 : h37 6 0 = v2 := ((hFh37 6 0 rfl).trans ev2.symm)
  have q41 : h37 12 0 = v3 := ((hFh37 12 0 rfl).trans ev3.symm)
  have q42 : h37 42 0 = v4 := ((hFh37 42 0 rfl).trans ev4.symm)
  have q43 : h37 46 0 = v5 := ((hFh37 46 0 rfl).trans ev5.symm)
  have q44 : h37 52 0 = v6 := ((hFh37 52 0 rfl).trans ev6.symm)
  have q45 : h37 0 12 = v7 := ((hFh37 0 12 rfl).trans ev7.symm)
  have q46 : h37 98 2 = v8 := ((hFh37 98 2 rfl).trans ev8.symm)
  have q47 : h37 98 3 = v9 := ((hFh37 98 3 rfl).trans ev9.symm)
  have q48 : h37 98 4 = v10 := ((hFh37 98 4 rfl).trans ev10.symm)
  have q49 : h37 98 5 = v11 := ((hFh37 98 5 rfl).trans ev11.symm)
  have q50 : h37 145 6 = v12 := ((hFh37 145 _ rfl).trans ev12.symm)
  have q51 : h37 145 7 = v13 := ((hFh37 145 _ rfl).trans ev13.symm)
  have q52 : h37 145 8 = v14 := ((hFh37 145 _ rfl).trans ev14.symm)
  have q53 : h37 145 9 = v15 := ((hFh37 145 _ rfl).trans ev15.symm)
  have q54 : h37 98 79 = v16 := ((hFh37 98 79 rfl).trans ev16.symm)
  have q55 : h37 98 5 = v11 := ((hFh37 98 5 rfl).trans ev11.symm)
  have q56 : h37 98 2 = v8 := ((hFh37 98 2 rfl).trans ev8.symm)
  have q57 : h37 98 3 = v9 := ((hFh37 98 3 rfl).trans ev9.symm)
  have q58 : h37 98 4 = v10 := ((hFh37 98 4 rfl).trans ev10.symm)
  have q59 : h37 98 5 = v11 := ((hFh37 98 5 rfl).trans ev11.symm)
  refine g_cV (as := [_, _, _]) (c_X12_letGo_98 _ _ _ _ _ h37 (MBm.fr (T := [(21, 7), (21, 8), (21, 9), (22, 1), (23, 0), (24, 0), (25, 0), (26, 1), (27, 0), (28, 0), (29, 0), (30, 0), (31, 0), (32, 1), (33, 0), (34, 0), (35, 0), (36, 0), (37, 0), (38, 0), (39, 0), (40, 0), (61, 1), (89, 0), (97, 0)]) hMm (Fr.sub hFh37 rfl) rfl) (by omega) (by omega) (by omega) (by omega) (by omega) (by omega) (by omega) (by omega) (WFL.fr (T := [(21, 7), (21, 8), (21, 9), (22, 1), (23, 0), (24, 0), (25, 0), (26, 1), (27, 0), (28, 0), (29, 0), (30, 0), (31, 0), (32, 1), (33, 0), (34, 0), (35, 0), (36, 0), (37, 0), (38, 0), (39, 0), (40, 0), (61, 1), (89, 0), (97, 0)]) hWF (Fr.sub hFh37 rfl) rfl) (ISn.fr (T := [(21, 7), (21, 8), (21, 9), (22, 1), (23, 0), (24, 0), (25, 0), (26, 1), (27, 0), (28, 0), (29, 0), (30, 0), (31, 0), (32, 1), (33, 0), (34, 0), (35, 0), (36, 0), (37, 0), (38, 0), (39, 0), (40, 0), (61, 1), (89, 0), (97, 0)]) hIS (Fr.sub hFh37 rfl) rfl) (S1n.fr (T := [(21, 7), (21, 8), (21, 9), (22, 1), (23, 0), (24, 0), (25, 0), (26, 1), (27, 0), (28, 0), (29, 0), (30, 0), (31, 0), (32, 1), (33, 0), (34, 0), (35, 0), (36, 0), (37, 0), (38, 0), (39, 0), (40, 0), (61, 1), (89, 0), (97, 0)]) hS1 (Fr.sub hFh37 rfl) rfl)) dL_law_929 mi_X12_letGo in_X12_letGo se_X12_letGo ml_L_101 rfl rfl rfl sh_98 rfl rfl (Nat.le_of_ble_eq_true rfl) (fun v60 h61 q62 => ?_)
  obtain ⟨hMh61, hFh61, bv60, cv60, z63, z64, z65, z66, z67, z68⟩ := q62
  have kz65 : h61 98 2 = v8 := by omega
  have kz66 : h61 98 3 = v9 := by omega
  have kz67 : h61 98 4 = v10 := by omega
  have kz68 : h61 98 5 = v11 := by omega
  refine g_pop dL_law_932 rfl ?_
  refine g_goto 1216 dL_law_933 (by decide) ?_
  have q69 : h61 2 0 = v1 := ((hFh61 2 0 rfl).trans ((hFh37 2 0 rfl).trans ev1.symm))
  have q70 : h61 6 0 = v2 := ((hFh61 6 0 rfl).trans ((hFh37 6 0 rfl).trans ev2.symm))
  have q71 : h61 12 0 = v3 := ((hFh61 12 0 rfl).trans ((hFh37 12 0 rfl).trans ev3.symm))
  have q72 : h61 42 0 = v4 := ((hFh61 42 0 rfl).trans ((hFh37 42 0 rfl).trans ev4.symm))
  have q73 : h61 46 0 = v5 := ((hFh61 46 0 rfl).trans ((hFh37 46 0 rfl).trans ev5.symm))
  have q74 : h61 52 0 = v6 := ((hFh61 52 0 rfl).trans ((hFh37 52 0 rfl).trans ev6.symm))
  have q75 : h61 0 12 = v7 := ((hFh61 0 12 rfl).trans ((hFh37 0 12 rfl).trans ev7.symm))
  have q76 : h61 98 2 = v8 := kz65
  have q77 : h61 98 3 = v9 := kz66
  have q78 : h61 98 4 = v10 := kz67
  have q79 : h61 98 5 = v11 := kz68
  have q80 : h61 145 6 = v12 := ((hFh61 145 _ rfl).trans ((hFh37 145 _ rfl).trans ev12.symm))
  have q81 : h61 145 7 = v13 := ((hFh61 145 _ rfl).trans ((hFh37 145 _ rfl).trans ev13.symm))
  have q82 : h61 145 8 = v14 := ((hFh61 145 _ rfl).trans ((hFh37 145 _ rfl).trans ev14.symm))
  have q83 : h61 145 9 = v15 := ((hFh61 145 _ rfl).trans ((hFh37 145 _ rfl).trans ev15.symm))
  have q84 : h61 98 79 = v16 := ((hFh61 98 79 rfl).trans ((hFh37 98 79 rfl).trans ev16.symm))
  exact kk _ ⟨⟨(MBx.fr (T := [(98, 2), (98, 3), (98, 4), (98, 5), (98, 6), (98, 7), (98, 8), (98, 47), (98, 48), (98, 49), (98, 52), (100, 0), (101, 0), (102, 0), (103, 0), (104, 0), (105, 0), (106, 0), (107, 0), (108, 0), (109, 0), (110, 0), (111, 0), (112, 0), (113, 0), (114, 0), (128, 0), (129, 0), (130, 0), (131, 0), (132, 0), (133, 0), (134, 0), (135, 0), (136, 0), (137, 0), (138, 0), (139, 0), (140, 0), (141, 0), (142, 0), (143, 0), (144, 0), (145, 1), (145, 2), (145, 3), (145, 4), (145, 5), (145, 6)]) hMh37 (Fr.sub hFh61 rfl) rfl), hMh61, (LD.fr (T := [(21, 7), (21, 8), (21, 9), (22, 1), (23, 0), (24, 0), (25, 0), (26, 1), (27, 0), (28, 0), (29, 0), (30, 0), (31, 0), (32, 1), (33, 0), (34, 0), (35, 0), (36, 0), (37, 0), (38, 0), (39, 0), (40, 0), (61, 1), (89, 0), (97, 0), (98, 2), (98, 3), (98, 4), (98, 5), (98, 6), (98, 7), (98, 8), (98, 47), (98, 48), (98, 49), (98, 52), (100, 0), (101, 0), (102, 0), (103, 0), (104, 0), (105, 0), (106, 0), (107, 0), (108, 0), (109, 0), (110, 0), (111, 0), (112, 0), (113, 0), (114, 0), (128, 0), (129, 0), (130, 0), (131, 0), (132, 0), (133, 0), (134, 0), (135, 0), (136, 0), (137, 0), (138, 0), (139, 0), (140, 0), (141, 0), (142, 0), (143, 0), (144, 0), (145, 1), (145, 2), (145, 3), (145, 4), (145, 5), (145, 6)]) hLD (Fr.tr (Fr.sub hFh37 rfl) hFh61 rfl) rfl), (WFL.fr (T := [(21, 7), (21, 8), (21, 9), (22, 1), (23, 0), (24, 0), (25, 0), (26, 1), (27, 0), (28, 0), (29, 0), (30, 0), (31, 0), (32, 1), (33, 0), (34, 0), (35, 0), (36, 0), (37, 0), (38, 0), (39, 0), (40, 0), (61, 1), (89, 0), (97, 0), (98, 2), (98, 3), (98, 4), (98, 5), (98, 6), (98, 7), (98, 8), (98, 47), (98, 48), (98, 49), (98, 52), (100, 0), (101, 0), (102, 0), (103, 0), (104, 0), (105, 0), (106, 0), (107, 0), (108, 0), (109, 0), (110, 0), (111, 0), (112, 0), (113, 0), (114, 0), (128, 0), (129, 0), (130, 0), (131, 0), (132, 0), (133, 0), (134, 0), (135, 0), (136, 0), (137, 0), (138, 0), (139, 0), (140, 0), (141, 0), (142, 0), (143, 0), (144, 0), (145, 1), (145, 2), (145, 3), (145, 4), (145, 5), (145, 6)]) hWF (Fr.tr (Fr.sub hFh37 rfl) hFh61 rfl) rfl)⟩, by omega, gi, gs, (ASn.fr (T := [(21, 7), (21, 8), (21, 9), (22, 1), (23, 0), (24, 0), (25, 0), (26, 1), (27, 0), (28, 0), (29, 0), (30, 0), (31, 0), (32, 1), (33, 0), (34, 0), (35, 0), (36, 0), (37, 0), (38, 0), (39, 0), (40, 0), (61, 1), (89, 0), (97, 0), (98, 2), (98, 3), (98, 4), (98, 5), (98, 6), (98, 7), (98, 8), (98, 47), (98, 48), (98, 49), (98, 52), (100, 0), (101, 0), (102, 0), (103, 0), (104, 0), (105, 0), (106, 0), (107, 0), (108, 0), (109, 0), (110, 0), (111, 0), (112, 0), (113, 0), (114, 0), (128, 0), (129, 0), (130, 0), (131, 0), (132, 0), (133, 0), (134, 0), (135, 0), (136, 0), (137, 0), (138, 0), (139, 0), (140, 0), (141, 0), (142, 0), (143, 0), (144, 0), (145, 1), (145, 2), (145, 3), (145, 4), (145, 5), (145, 6)]) hXW (Fr.tr (Fr.sub hFh37 rfl) hFh61 rfl) rfl), z63, (ASn.fr (T := [(21, 7), (21, 8), (21, 9), (22, 1), (23, 0), (24, 0), (25, 0), (26, 1), (27, 0), (28, 0), (29, 0), (30, 0), (31, 0), (32, 1), (33, 0), (34, 0), (35, 0), (36, 0), (37, 0), (38, 0), (39, 0), (40, 0), (61, 1), (89, 0), (97, 0), (98, 2), (98, 3), (98, 4), (98, 5), (98, 6), (98, 7), (98, 8), (98, 47), (98, 48), (98, 49), (98, 52), (100, 0), (101, 0), (102, 0), (103, 0), (104, 0), (105, 0), (106, 0), (107, 0), (108, 0), (109, 0), (110, 0), (111, 0), (112, 0), (113, 0), (114, 0), (128, 0), (129, 0), (130, 0), (131, 0), (132, 0), (133, 0), (134, 0), (135, 0), (136, 0), (137, 0), (138, 0), (139, 0), (140, 0), (141, 0), (142, 0), (143, 0), (144, 0), (145, 1), (145, 2), (145, 3), (145, 4), (145, 5), (145, 6)]) hXK (Fr.tr (Fr.sub hFh37 rfl) hFh61 rfl) rfl), z64⟩
