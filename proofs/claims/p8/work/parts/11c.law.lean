set_option maxRecDepth 100000 in
set_option maxHeartbeats 8000000 in
theorem law_case_20 (xs : List Int) (Po : Option PV → List SE → MEM → Prop) (i : Int) (h : MEM) (I : INV i h) (hi : i + 6 ≤ xs.length) (hN : xs.length ≤ 3072) (kk : ∀ h' : MEM, INV (i + 6) h' → G x cL_law 4 (some .boolean) (some xs) Po (2048, 84000, 600000, 7302250) 1216 [some pX, some (pR 0), some (pR 98), some (pI i)] [] SH h' 151 10868) : G x cL_law 4 (some .boolean) (some xs) Po (2048, 84000, 600000, 7302250) 936 [some pX, some (pR 0), some (pR 98), some (pI i)] [] SH h 151 10868 := by
  obtain ⟨⟨hX, hMm, hLD, hWF⟩, hI, gi, gs, hXW, hIS, hXK, hS1⟩ := I
  obtain ⟨v1, ev1⟩ : ∃ z, z = h 2 0 := ⟨_, rfl⟩
  have bv1 : 0 ≤ v1 ∧ v1 ≤ 10 := by rw [ev1]; exact (m_2_0 hX)
  obtain ⟨v2, ev2⟩ : ∃ z, z = h 6 0 := ⟨_, rfl⟩
  have bv2 : 0 ≤ v2 ∧ v2 ≤ 8 := by rw [ev2]; exact (m_6_0 hX)
  obtain ⟨v3, ev3⟩ : ∃ z, z = h 12 0 := ⟨_, rfl⟩
  have bv3 : 0 ≤ v3 ∧ v3 ≤ 8 := by rw [ev3]; exact (m_12_0 hX)
  obtain ⟨v4, ev4⟩ : ∃ z, z = h 42 0 := ⟨_, rfl⟩
  have bv4 : 0 ≤ v4 ∧ v4 ≤ 10 := by rw [ev4]; exact (m_42_0 hX)
  obtain ⟨v5, ev5⟩ : ∃ z, z = h 46 0 := ⟨_, rfl⟩
  have bv5 : 0 ≤ v5 ∧ v5 ≤ 8 := by rw [ev5]; exact (m_46_0 hX)
  obtain ⟨v6, ev6⟩ : ∃ z, z = h 52 0 := ⟨_, rfl⟩
  have bv6 : 0 ≤ v6 ∧ v6 ≤ 8 := by rw [ev6]; exact (m_52_0 hX)
  obtain ⟨v7, ev7⟩ : ∃ z, z = h 0 12 := ⟨_, rfl⟩
  have bv7 : 0 ≤ v7 ∧ v7 ≤ 1 := by rw [ev7]; exact (m_0_12 hX)
  obtain ⟨v8, ev8⟩ : ∃ z, z = h 98 2 := ⟨_, rfl⟩
  have bv8 : 0 ≤ v8 ∧ v8 ≤ 10 := by rw [ev8]; exact (m_98_2 hMm)
  obtain ⟨v9, ev9⟩ : ∃ z, z = h 98 3 := ⟨_, rfl⟩
  have bv9 : 0 ≤ v9 ∧ v9 ≤ 8 := by rw [ev9]; exact (m_98_3 hMm)
  obtain ⟨v10, ev10⟩ : ∃ z, z = h 98 4 := ⟨_, rfl⟩
  have bv10 : 0 ≤ v10 ∧ v10 ≤ 8 := by rw [ev10]; exact (m_98_4 hMm)
  obtain ⟨v11, ev11⟩ : ∃ z, z = h 98 5 := ⟨_, rfl⟩
  have bv11 : 0 ≤ v11 ∧ v11 ≤ 2000000000 := by rw [ev11]; exact (m_98_5 hMm)
  obtain ⟨v12, ev12⟩ : ∃ z, z = h 145 6 := ⟨_, rfl⟩
  have bv12 : 0 ≤ v12 ∧ v12 ≤ 10 := by rw [ev12]; exact (m_145_6 hMm)
  obtain ⟨v13, ev13⟩ : ∃ z, z = h 145 7 := ⟨_, rfl⟩
  have bv13 : 0 ≤ v13 ∧ v13 ≤ 8 := by rw [ev13]; exact (m_145_7 hMm)
  obtain ⟨v14, ev14⟩ : ∃ z, z = h 145 8 := ⟨_, rfl⟩
  have bv14 : 0 ≤ v14 ∧ v14 ≤ 8 := by rw [ev14]; exact (m_145_8 hMm)
  obtain ⟨v15, ev15⟩ : ∃ z, z = h 145 9 := ⟨_, rfl⟩
  have bv15 : 0 ≤ v15 ∧ v15 ≤ 2000000000 := by rw [ev15]; exact (m_145_9 hMm)
  obtain ⟨v16, ev16⟩ : ∃ z, z = h 98 79 := ⟨_, rfl⟩
  have bv16 : 0 ≤ v16 ∧ v16 ≤ 1 := by rw [ev16]; exact (m_98_79 hMm)
  refine g_aload_n dL_law_936 rfl ?_
  refine g_aloadX_n dL_law_937 rfl ?_
  refine g_iload_n dL_law_938 rfl (fun _ => ?_)
  refine g_iconst dL_law_939 (inR_c rfl) ?_
  refine g_iaddB dL_law_940 (by omega) (by omega) ?_
  refine g_sldB dL_law_941 (by omega) (by omega) (fun v17 ev17 bv17 cv17 => ?_)
  have q18 : h 2 0 = v1 := ev1.symm
  have q19 : h 6 0 = v2 := ev2.symm
  have q20 : h 12 0 = v3 := ev3.symm
  have q21 : h 42 0 = v4 := ev4.symm
  have q22 : h 46 0 = v5 := ev5.symm
  have q23 : h 52 0 = v6 := ev6.symm
  have q24 : h 0 12 = v7 := ev7.symm
  have q25 : h 98 2 = v8 := ev8.symm
  have q26 : h 98 3 = v9 := ev9.symm
  have q27 : h 98 4 = v10 := ev10.symm
  have q28 : h 98 5 = v11 := ev11.symm
  have q29 : h 145 6 = v12 := ev12.symm
  have q30 : h 145 7 = v13 := ev13.symm
  have q31 : h 145 8 = v14 := ev14.symm
  have q32 : h 145 9 = v15 := ev15.symm
  have q33 : h 98 79 = v16 := ev16.symm
  refine g_cV (as := [_]) (c_X11_settled_0 _ h hX (by omega) (by omega)) dL_law_942 mi_X11_settled in_X11_settled se_X11_settled ml_L_102 rfl rfl rfl sh_0 rfl rfl (Nat.le_of_ble_eq_true rfl) (fun v34 h35 q36 => ?_)
  obtain ⟨hMh35, hFh35, bv34, cv34⟩ := q36
  refine g_pop dL_law_945 rfl ?_
  refine g_aload_n dL_law_946 rfl ?_
  refine g_aloadX_n dL_law_947 rfl ?_
  refine g_iload_n dL_law_948 rfl (fun _ => ?_)
  refine g_iconst dL_law_949 (inR_c rfl) ?_
  refine g_iaddB dL_law_950 (by omega) (by omega) ?_
  refine g_sldE dL_law_951 (by omega) (by omega) ev17 ?_
  have q37 : h35 2 0 = v1 := ((hFh35 2 0 rfl).trans ev1.symm)
  have q38 : h35 6 0 = v2 := ((hFh35 6 0 rfl).trans ev2.symm)
  have q39 : h35 12 0 = v3 := ((hFh35 12 0 rfl).trans ev3.symm)
  have q40 : h35 42 0 = v4 := ((hFh35 42 0 rfl).trans ev4.symm)
  have q41 : h35 46 0 = v5 := ((hFh35 46 0 rfl).trans ev5.symm)
  have q42 : h35 52 0 = v6 := ((hFh35 52 0 rfl).trans ev6.symm)
  have q43 : h35 0 12 = v7 := ((hFh35 0 12 rfl).trans ev7.symm)
  have q44 : h35 98 2 = v8 := ((hFh35 98 2 rfl).trans ev8.symm)
  have q45 : h35 98 3 = v9 := ((hFh35 98 3 rfl).trans ev9.symm)
  have q46 : h35 98 4 = v10 := ((hFh35 98 4 rfl).trans ev10.symm)
  have q47 : h35 98 5 = v11 := ((hFh35 98 5 rfl).trans ev11.symm)
  have q48 : h35 145 6 = v12 := ((hFh35 145 _ rfl).trans ev12.symm)
  have q49 : h35 145 7 = v13 := ((hFh35 145 _ rfl).trans ev13.symm)
  have q50 : h35 145 8 = v14 := ((hFh35 145 _ rfl).trans ev14.symm)
  have q51 : h35 145 9 = v15 := ((hFh35 145 _ rfl).trans ev15.symm)
  have q52 : h35 98 79 = v16 := ((hFh35 98 79 rfl).trans ev16.symm)
  refine g_cV (as := [_]) (c_X12_settled_98 _ h35 (MBm.fr (T := [(75, 1), (76, 0), (77, 0)]) hMm (Fr.sub hFh35 rfl) rfl) (by omega) (by omega)) dL_law_952 mi_X12_settled in_X12_settled se_X12_settled ml_L_105 rfl rfl rfl sh_98 rfl rfl (Nat.le_of_ble_eq_true rfl) (fun v53 h54 q55 => ?_)
  obtain ⟨hMh54, hFh54, bv53, cv53⟩ := q55
  refine g_pop dL_law_955 rfl ?_
  refine g_goto 1216 dL_law_956 (by decide) ?_
  have q56 : h54 2 0 = v1 := ((hFh54 2 0 rfl).trans ((hFh35 2 0 rfl).trans ev1.symm))
  have q57 : h54 6 0 = v2 := ((hFh54 6 0 rfl).trans ((hFh35 6 0 rfl).trans ev2.symm))
  have q58 : h54 12 0 = v3 := ((hFh54 12 0 rfl).trans ((hFh35 12 0 rfl).trans ev3.symm))
  have q59 : h54 42 0 = v4 := ((hFh54 42 0 rfl).trans ((hFh35 42 0 rfl).trans ev4.symm))
  have q60 : h54 46 0 = v5 := ((hFh54 46 0 rfl).trans ((hFh35 46 0 rfl).trans ev5.symm))
  have q61 : h54 52 0 = v6 := ((hFh54 52 0 rfl).trans ((hFh35 52 0 rfl).trans ev6.symm))
  have q62 : h54 0 12 = v7 := ((hFh54 0 12 rfl).trans ((hFh35 0 12 rfl).trans ev7.symm))
  have q63 : h54 98 2 = v8 := ((hFh54 98 2 rfl).trans ((hFh35 98 2 rfl).trans ev8.symm))
  have q64 : h54 98 3 = v9 := ((hFh54 98 3 rfl).trans ((hFh35 98 3 rfl).trans ev9.symm))
  have q65 : h54 98 4 = v10 := ((hFh54 98 4 rfl).trans ((hFh35 98 4 rfl).trans ev10.symm))
  have q66 : h54 98 5 = v11 := ((hFh54 98 5 rfl).trans ((hFh35 98 5 rfl).trans ev11.symm))
  have q67 : h54 145 6 = v12 := ((hFh54 145 _ rfl).trans ((hFh35 145 _ rfl).trans ev12.symm))
  have q68 : h54 145 7 = v13 := ((hFh54 145 _ rfl).trans ((hFh35 145 _ rfl).trans ev13.symm))
  have q69 : h54 145 8 = v14 := ((hFh54 145 _ rfl).trans ((hFh35 145 _ rfl).trans ev14.symm))
  have q70 : h54 145 9 = v15 := ((hFh54 145 _ rfl).trans ((hFh35 145 _ rfl).trans ev15.symm))
  have q71 : h54 98 79 = v16 := ((hFh54 98 79 rfl).trans ((hFh35 98 79 rfl).trans ev16.symm))
  exact kk _ ⟨⟨(MBx.fr (T := [(148, 0), (149, 0)]) hMh35 (Fr.sub hFh54 rfl) rfl), hMh54, (LD.fr (T := [(75, 1), (76, 0), (77, 0), (148, 0), (149, 0)]) hLD (Fr.tr (Fr.sub hFh35 rfl) hFh54 rfl) rfl), (WFL.fr (T := [(75, 1), (76, 0), (77, 0), (148, 0), (149, 0)]) hWF (Fr.tr (Fr.sub hFh35 rfl) hFh54 rfl) rfl)⟩, by omega, gi, gs, (ASn.fr (T := [(75, 1), (76, 0), (77, 0), (148, 0), (149, 0)]) hXW (Fr.tr (Fr.sub hFh35 rfl) hFh54 rfl) rfl), (ISn.fr (T := [(75, 1), (76, 0), (77, 0), (148, 0), (149, 0)]) hIS (Fr.tr (Fr.sub hFh35 rfl) hFh54 rfl) rfl), (ASn.fr (T := [(75, 1), (76, 0), (77, 0), (148, 0), (149, 0)]) hXK (Fr.tr (Fr.sub hFh35 rfl) hFh54 rfl) rfl), (S1n.fr (T := [(75, 1), (76, 0), (77, 0), (148, 0), (149, 0)]) hS1 (Fr.tr (Fr.sub hFh35 rfl) hFh54 rfl) rfl)⟩
set_option maxRecDepth 100000 in
set_option maxHeartbeats 8000000 in
theorem law_case_21 (xs : List Int) (Po : Option PV → List SE → MEM → Prop) (i : Int) (h : MEM) (I : INV i h) (hi : i + 6 ≤ xs.length) (hN : xs.length ≤ 3072) (kk : ∀ h' : MEM, INV (i + 6) h' → G x cL_law 4 (some .boolean) (some xs) Po (2048, 84000, 600000, 7302250) 1216 [some pX, some (pR 0), some (pR 98), some (pI i)] [] SH h' 151 10868) : G x cL_law 4 (some .boolean) (some xs) Po (2048, 84000, 600000, 7302250) 959 [some pX, some (pR 0), some (pR 98), some (pI i)] [] SH h 151 10868 := by
  obtain ⟨⟨hX, hMm, hLD, hWF⟩, hI, gi, gs, hXW, hIS, hXK, hS1⟩ := I
  obtain ⟨v1, ev1⟩ : ∃ z, z = h 2 0 := ⟨_, rfl⟩
  have bv1 : 0 ≤ v1 ∧ v1 ≤ 10 := by rw [ev1]; exact (m_2_0 hX)
  obtain ⟨v2, ev2⟩ : ∃ z, z = h 6 0 := ⟨_, rfl⟩
  have bv2 : 0 ≤ v2 ∧ v2 ≤ 8 := by rw [ev2]; exact (m_6_0 hX)
  obtain ⟨v3, ev3⟩ : ∃ z, z = h 12 0 := ⟨_, rfl⟩
  have bv3 : 0 ≤ v3 ∧ v3 ≤ 8 := by rw [ev3]; exact (m_12_0 hX)
  obtain ⟨v4, ev4⟩ : ∃ z, z = h 42 0 := ⟨_, rfl⟩
  have bv4 : 0 ≤ v4 ∧ v4 ≤ 10 := by rw [ev4]; exact (m_42_0 hX)
  obtain ⟨v5, ev5⟩ : ∃ z, z = h 46 0 := ⟨_, rfl⟩
  have bv5 : 0 ≤ v5 ∧ v5 ≤ 8 := by rw [ev5]; exact (m_46_0 hX)
  obtain ⟨v6, ev6⟩ : ∃ z, z = h 52 0 := ⟨_, rfl⟩
  have bv6 : 0 ≤ v6 ∧ v6 ≤ 8 := by rw [ev6]; exact (m_52_0 hX)
  obtain ⟨v7, ev7⟩ : ∃ z, z = h 0 12 := ⟨_, rfl⟩
  have bv7 : 0 ≤ v7 ∧ v7 ≤ 1 := by rw [ev7]; exact (m_0_12 hX)
  obtain ⟨v8, ev8⟩ : ∃ z, z = h 98 2 := ⟨_, rfl⟩
  have bv8 : 0 ≤ v8 ∧ v8 ≤ 10 := by rw [ev8]; exact (m_98_2 hMm)
  obtain ⟨v9, ev9⟩ : ∃ z, z = h 98 3 := ⟨_, rfl⟩
  have bv9 : 0 ≤ v9 ∧ v9 ≤ 8 := by rw [ev9]; exact (m_98_3 hMm)
  obtain ⟨v10, ev10⟩ : ∃ z, z = h 98 4 := ⟨_, rfl⟩
  have bv10 : 0 ≤ v10 ∧ v10 ≤ 8 := by rw [ev10]; exact (m_98_4 hMm)
  obtain ⟨v11, ev11⟩ : ∃ z, z = h 98 5 := ⟨_, rfl⟩
  have bv11 : 0 ≤ v11 ∧ v11 ≤ 2000000000 := by rw [ev11]; exact (m_98_5 hMm)
  obtain ⟨v12, ev12⟩ : ∃ z, z = h 145 6 := ⟨_, rfl⟩
  have bv12 : 0 ≤ v12 ∧ v12 ≤ 10 := by rw [ev12]; exact (m_145_6 hMm)
  obtain ⟨v13, ev13⟩ : ∃ z, z = h 145 7 := ⟨_, rfl⟩
  have bv13 : 0 ≤ v13 ∧ v13 ≤ 8 := by rw [ev13]; exact (m_145_7 hMm)
  obtain ⟨v14, ev14⟩ : ∃ z, z = h 145 8 := ⟨_, rfl⟩
  have bv14 : 0 ≤ v14 ∧ v14 ≤ 8 := by rw [ev14]; exact (m_145_8 hMm)
  obtain ⟨v15, ev15⟩ : ∃ z, z = h 145 9 := ⟨_, rfl⟩
  have bv15 : 0 ≤ v15 ∧ v15 ≤ 2000000000 := by rw [ev15]; exact (m_145_9 hMm)
  obtain ⟨v16, ev16⟩ : ∃ z, z = h 98 79 := ⟨_, rfl⟩
  have bv16 : 0 ≤ v16 ∧ v16 ≤ 1 := by rw [ev16]; exact (m_98_79 hMm)
  refine g_aload_n dL_law_959 rfl ?_
  refine g_aloadX_n dL_law_960 rfl ?_
  refine g_iload_n dL_law_961 rfl (fun _ => ?_)
  refine g_iconst dL_law_962 (inR_c rfl) ?_
  refine g_iaddB dL_law_963 (by omega) (by omega) ?_
  refine g_sldB dL_law_964 (by omega) (by omega) (fun v17 ev17 bv17 cv17 => ?_)
  refine g_aloadX_n dL_law_965 rfl ?_
  refine g_iload_n dL_law_966 rfl (fun _ => ?_)
  refine g_iconst dL_law_967 (inR_c rfl) ?_
  refine g_iaddB dL_law_968 (by omega) (by omega) ?_
  refine g_sldB dL_law_969 (by omega) (by omega) (fun v18 ev18 bv18 cv18 => ?_)
  refine g_aloadX_n dL_law_970 rfl ?_
  refine g_iload_n dL_law_971 rfl (fun _ => ?_)
  refine g_iconst dL_law_972 (inR_c rfl) ?_
  refine g_iaddB dL_law_973 (by omega) (by omega) ?_
  refine g_sldB dL_law_974 (by omega) (by omega) (fun v19 ev19 bv19 cv19 => ?_)
  have q20 : h 2 0 = v1 := ev1.symm
  have q21 : h 6 0 = v2 := ev2.symm
  have q22 : h 12 0 = v3 := ev3.symm
  have q23 : h 42 0 = v4 := ev4.symm
  have q24 : h 46 0 = v5 := ev5.symm
  have q25 : h 52 0 = v6 := ev6.symm
  have q26 : h 0 12 = v7 := ev7.symm
  have q27 : h 98 2 = v8 := ev8.symm
  have q28 : h 98 3 = v9 := ev9.symm
  have q29 : h 98 4 = v10 := ev10.symm
  have q30 : h 98 5 = v11 := ev11.symm
  have q31 : h 145 6 = v12 := ev12.symm
  have q32 : h 145 7 = v13 := ev13.symm
  have q33 : h 145 8 = v14 := ev14.symm
  have q34 : h 145 9 = v15 := ev15.symm
  have q35 : h 98 79 = v16 := ev16.symm
  refine g_cVP (as := [_, _, _]) (c_X11_owes_0 _ _ _ h hX (by omega) (by omega) (by omega) (by omega) (by omega) (by omega)) dL_law_975 mi_X11_owes in_X11_owes se_X11_owes ml_L_106 rfl rfl rfl sh_0 rfl rfl (Nat.le_of_ble_eq_true rfl) (fun v36 q37 => ?_)
  obtain ⟨bv36, cv36⟩ := q37
  refine g_pop dL_law_978 rfl ?_
  refine g_aload_n dL_law_979 rfl ?_
  refine g_aloadX_n dL_law_980 rfl ?_
  refine g_iload_n dL_law_981 rfl (fun _ => ?_)
  refine g_iconst dL_law_982 (inR_c rfl) ?_
  refine g_iaddB dL_law_983 (by omega) (by omega) ?_
  refine g_sldE dL_law_984 (by omega) (by omega) ev17 ?_
  refine g_aloadX_n dL_law_985 rfl ?_
  refine g_iload_n dL_law_986 rfl (fun _ => ?_)
  refine g_iconst dL_law_987 (inR_c rfl) ?_
  refine g_iaddB dL_law_988 (by omega) (by omega) ?_
  refine g_sldE dL_law_989 (by omega) (by omega) ev18 ?_
  refine g_aloadX_n dL_law_990 rfl ?_
  refine g_iload_n dL_law_991 rfl (fun _ => ?_)
  refine g_iconst dL_law_992 (inR_c rfl) ?_
  refine g_iaddB dL_law_993 (by omega) (by omega) ?_
  refine g_sldE dL_law_994 (by omega) (by omega) ev19 ?_
  have q38 : h 2 0 = v1 := ev1.symm
  have q39 : h 6 0 = v2 := ev2.symm
  have q40 : h 12 0 = v3 := ev3.symm
  have q41 : h 42 0 = v4 := ev4.symm
  have q42 : h 46 0 = v5 := ev5.symm
  have q43 : h 52 0 = v6 := ev6.symm
  have q44 : h 0 12 = v7 := ev7.symm
  have q45 : h 98 2 = v8 := ev8.symm
  have q46 : h 98 3 = v9 := ev9.symm
  have q47 : h 98 4 = v10 := ev10.symm
  have q48 : h 98 5 = v11 := ev11.symm
  have q49 : h 145 6 = v12 := ev12.symm
  have q50 : h 145 7 = v13 := ev13.symm
  have q51 : h 145 8 = v14 := ev14.symm
  have q52 : h 145 9 = v15 := ev15.symm
  have q53 : h 98 79 = v16 := ev16.symm
  refine g_cVP (as := [_, _, _]) (c_X12_owes_98 _ _ _ h hMm (by omega) (by omega) (by omega) (by omega) (by omega) (by omega)) dL_law_995 mi_X12_owes in_X12_owes se_X12_owes ml_L_109 rfl rfl rfl sh_98 rfl rfl (Nat.le_of_ble_eq_true rfl) (fun v54 q55 => ?_)
  obtain ⟨bv54, cv54⟩ := q55
  refine g_pop dL_law_998 rfl ?_
  refine g_goto 1216 dL_law_999 (by decide) ?_
  have q56 : h 2 0 = v1 := ev1.symm
  have q57 : h 6 0 = v2 := ev2.symm
  have q58 : h 12 0 = v3 := ev3.symm
  have q59 : h 42 0 = v4 := ev4.symm
  have q60 : h 46 0 = v5 := ev5.symm
  have q61 : h 52 0 = v6 := ev6.symm
  have q62 : h 0 12 = v7 := ev7.symm
  have q63 : h 98 2 = v8 := ev8.symm
  have q64 : h 98 3 = v9 := ev9.symm
  have q65 : h 98 4 = v10 := ev10.symm
  have q66 : h 98 5 = v11 := ev11.symm
  have q67 : h 145 6 = v12 := ev12.symm
  have q68 : h 145 7 = v13 := ev13.symm
  have q69 : h 145 8 = v14 := ev14.symm
  have q70 : h 145 9 = v15 := ev15.symm
  have q71 : h 98 79 = v16 := ev16.symm
  exact kk _ ⟨⟨hX, hMm, hLD, hWF⟩, by omega, gi, gs, hXW, hIS, hXK, hS1⟩
set_option maxRecDepth 100000 in
set_option maxHeartbeats 8000000 in
theorem law_case_22 (xs : List Int) (Po : Option PV → List SE → MEM → Prop) (i : Int) (h : MEM) (I : INV i h) (hi : i + 6 ≤ xs.length) (hN : xs.length ≤ 3072) (kk : ∀ h' : MEM, INV (i + 6) h' → G x cL_law 4 (some .boolean) (some xs) Po (2048, 84000, 600000, 7302250) 1216 [some pX, some (pR 0), some (pR 98), some (pI i)] [] SH h' 151 10868) : G x cL_law 4 (some .boolean) (some xs) Po (2048, 84000, 600000, 7302250) 1002 [some pX, some (pR 0), some (pR 98), some (pI i)] [] SH h 151 10868 := by
  obtain ⟨⟨hX, hMm, hLD, hWF⟩, hI, gi, gs, hXW, hIS, hXK, hS1⟩ := I
  obtain ⟨v1, ev1⟩ : ∃ z, z = h 2 0 := ⟨_, rfl⟩
  have bv1 : 0 ≤ v1 ∧ v1 ≤ 10 := by rw [ev1]; exact (m_2_0 hX)
  obtain ⟨v2, ev2⟩ : ∃ z, z = h 6 0 := ⟨_, rfl⟩
  have bv2 : 0 ≤ v2 ∧ v2 ≤ 8 := by rw [ev2]; exact (m_6_0 hX)
  obtain ⟨v3, ev3⟩ : ∃ z, z = h 12 0 := ⟨_, rfl⟩
  have bv3 : 0 ≤ v3 ∧ v3 ≤ 8 := by rw [ev3]; exact (m_12_0 hX)
  obtain ⟨v4, ev4⟩ : ∃ z, z = h 42 0 := ⟨_, rfl⟩
  have bv4 : 0 ≤ v4 ∧ v4 ≤ 10 := by rw [ev4]; exact (m_42_0 hX)
  obtain ⟨v5, ev5⟩ : ∃ z, z = h 46 0 := ⟨_, rfl⟩
  have bv5 : 0 ≤ v5 ∧ v5 ≤ 8 := by rw [ev5]; exact (m_46_0 hX)
  obtain ⟨v6, ev6⟩ : ∃ z, z = h 52 0 := ⟨_, rfl⟩
  have bv6 : 0 ≤ v6 ∧ v6 ≤ 8 := by rw [ev6]; exact (m_52_0 hX)
  obtain ⟨v7, ev7⟩ : ∃ z, z = h 0 12 := ⟨_, rfl⟩
  have bv7 : 0 ≤ v7 ∧ v7 ≤ 1 := by rw [ev7]; exact (m_0_12 hX)
  obtain ⟨v8, ev8⟩ : ∃ z, z = h 98 2 := ⟨_, rfl⟩
  have bv8 : 0 ≤ v8 ∧ v8 ≤ 10 := by rw [ev8]; exact (m_98_2 hMm)
  obtain ⟨v9, ev9⟩ : ∃ z, z = h 98 3 := ⟨_, rfl⟩
  have bv9 : 0 ≤ v9 ∧ v9 ≤ 8 := by rw [ev9]; exact (m_98_3 hMm)
  obtain ⟨v10, ev10⟩ : ∃ z, z = h 98 4 := ⟨_, rfl⟩
  have bv10 : 0 ≤ v10 ∧ v10 ≤ 8 := by rw [ev10]; exact (m_98_4 hMm)
  obtain ⟨v11, ev11⟩ : ∃ z, z = h 98 5 := ⟨_, rfl⟩
  have bv11 : 0 ≤ v11 ∧ v11 ≤ 2000000000 := by rw [ev11]; exact (m_98_5 hMm)
  obtain ⟨v12, ev12⟩ : ∃ z, z = h 145 6 := ⟨_, rfl⟩
  have bv12 : 0 ≤ v12 ∧ v12 ≤ 10 := by rw [ev12]; exact (m_145_6 hMm)
  obtain ⟨v13, ev13⟩ : ∃ z, z = h 145 7 := ⟨_, rfl⟩
  have bv13 : 0 ≤ v13 ∧ v13 ≤ 8 := by rw [ev13]; exact (m_145_7 hMm)
  obtain ⟨v14, ev14⟩ : ∃ z, z = h 145 8 := ⟨_, rfl⟩
  have bv14 : 0 ≤ v14 ∧ v14 ≤ 8 := by rw [ev14]; exact (m_145_8 hMm)
  obtain ⟨v15, ev15⟩ : ∃ z, z = h 145 9 := ⟨_, rfl⟩
  have bv15 : 0 ≤ v15 ∧ v15 ≤ 2000000000 := by rw [ev15]; exact (m_145_9 hMm)
  obtain ⟨v16, ev16⟩ : ∃ z, z = h 98 79 := ⟨_, rfl⟩
  have bv16 : 0 ≤ v16 ∧ v16 ≤ 1 := by rw [ev16]; exact (m_98_79 hMm)
  refine g_aload_n dL_law_1002 rfl ?_
  refine g_aloadX_n dL_law_1003 rfl ?_
  refine g_iload_n dL_law_1004 rfl (fun _ => ?_)
  refine g_iconst dL_law_1005 (inR_c rfl) ?_
  refine g_iaddB dL_law_1006 (by omega) (by omega) ?_
  refine g_sldB dL_law_1007 (by omega) (by omega) (fun v17 ev17 bv17 cv17 => ?_)
  have q18 : h 2 0 = v1 := ev1.symm
  have q19 : h 6 0 = v2 := ev2.symm
  have q20 : h 12 0 = v3 := ev3.symm
  have q21 : h 42 0 = v4 := ev4.symm
  have q22 : h 46 0 = v5 := ev5.symm
  have q23 : h 52 0 = v6 := ev6.symm
  have q24 : h 0 12 = v7 := ev7.symm
  have q25 : h 98 2 = v8 := ev8.symm
  have q26 : h 98 3 = v9 := ev9.symm
  have q27 : h 98 4 = v10 := ev10.symm
  have q28 : h 98 5 = v11 := ev11.symm
  have q29 : h 145 6 = v12 := ev12.symm
  have q30 : h 145 7 = v13 := ev13.symm
  have q31 : h 145 8 = v14 := ev14.symm
  have q32 : h 145 9 = v15 := ev15.symm
  have q33 : h 98 79 = v16 := ev16.symm
  refine g_cVP (as := [_]) (c_X11_teachers_0 _ h hX (by omega) (by omega)) dL_law_1008 mi_X11_teachers in_X11_teachers se_X11_teachers ml_L_110 rfl rfl rfl sh_0 rfl rfl (Nat.le_of_ble_eq_true rfl) (fun v34 q35 => ?_)
  obtain ⟨bv34, cv34⟩ := q35
  refine g_pop dL_law_1011 rfl ?_
  refine g_aload_n dL_law_1012 rfl ?_
  refine g_aloadX_n dL_law_1013 rfl ?_
  refine g_iload_n dL_law_1014 rfl (fun _ => ?_)
  refine g_iconst dL_law_1015 (inR_c rfl) ?_
  refine g_iaddB dL_law_1016 (by omega) (by omega) ?_
  refine g_sldE dL_law_1017 (by omega) (by omega) ev17 ?_
  have q36 : h 2 0 = v1 := ev1.symm
  have q37 : h 6 0 = v2 := ev2.symm
  have q38 : h 12 0 = v3 := ev3.symm
  have q39 : h 42 0 = v4 := ev4.symm
  have q40 : h 46 0 = v5 := ev5.symm
  have q41 : h 52 0 = v6 := ev6.symm
  have q42 : h 0 12 = v7 := ev7.symm
  have q43 : h 98 2 = v8 := ev8.symm
  have q44 : h 98 3 = v9 := ev9.symm
  have q45 : h 98 4 = v10 := ev10.symm
  have q46 : h 98 5 = v11 := ev11.symm
  have q47 : h 145 6 = v12 := ev12.symm
  have q48 : h 145 7 = v13 := ev13.symm
  have q49 : h 145 8 = v14 := ev14.symm
  have q50 : h 145 9 = v15 := ev15.symm
  have q51 : h 98 79 = v16 := ev16.symm
  refine g_cVP (as := [_]) (c_X12_teachers_98 _ h hMm (by omega) (by omega)) dL_law_1018 mi_X12_teachers in_X12_teachers se_X12_teachers ml_L_113 rfl rfl rfl sh_98 rfl rfl (Nat.le_of_ble_eq_true rfl) (fun v52 q53 => ?_)
  obtain ⟨bv52, cv52⟩ := q53
  refine g_pop dL_law_1021 rfl ?_
  refine g_goto 1216 dL_law_1022 (by decide) ?_
  have q54 : h 2 0 = v1 := ev1.symm
  have q55 : h 6 0 = v2 := ev2.symm
  have q56 : h 12 0 = v3 := ev3.symm
  have q57 : h 42 0 = v4 := ev4.symm
  have q58 : h 46 0 = v5 := ev5.symm
  have q59 : h 52 0 = v6 := ev6.symm
  have q60 : h 0 12 = v7 := ev7.symm
  have q61 : h 98 2 = v8 := ev8.symm
  have q62 : h 98 3 = v9 := ev9.symm
  have q63 : h 98 4 = v10 := ev10.symm
  have q64 : h 98 5 = v11 := ev11.symm
  have q65 : h 145 6 = v12 := ev12.symm
  have q66 : h 145 7 = v13 := ev13.symm
  have q67 : h 145 8 = v14 := ev14.symm
  have q68 : h 145 9 = v15 := ev15.symm
  have q69 : h 98 79 = v16 := ev16.symm
  exact kk _ ⟨⟨hX, hMm, hLD, hWF⟩, by omega, gi, gs, hXW, hIS, hXK, hS1⟩
set_option maxRecDepth 100000 in
set_option maxHeartbeats 8000000 in
theorem law_case_23 (xs : List Int) (Po : Option PV → List SE → MEM → Prop) (i : Int) (h : MEM) (I : INV i h) (hi : i + 6 ≤ xs.length) (hN : xs.length ≤ 3072) (kk : ∀ h' : MEM, INV (i + 6) h' → G x cL_law 4 (some .boolean) (some xs) Po (2048, 84000, 600000, 7302250) 1216 [some pX, some (pR 0), some (pR 98), some (pI i)] [] SH h' 151 10868) : G x cL_law 4 (some .boolean) (some xs) Po (2048, 84000, 600000, 7302250) 1025 [some pX, some (pR 0), some (pR 98), some (pI i)] [] SH h 151 10868 := by
  obtain ⟨⟨hX, hMm, hLD, hWF⟩, hI, gi, gs, hXW, hIS, hXK, hS1⟩ := I
  obtain ⟨v1, ev1⟩ : ∃ z, z = h 2 0 := ⟨_, rfl⟩
  have bv1 : 0 ≤ v1 ∧ v1 ≤ 10 := by rw [ev1]; exact (m_2_0 hX)
  obtain ⟨v2, ev2⟩ : ∃ z, z = h 6 0 := ⟨_, rfl⟩
  have bv2 : 0 ≤ v2 ∧ v2 ≤ 8 := by rw [ev2]; exact (m_6_0 hX)
  obtain ⟨v3, ev3⟩ : ∃ z, z = h 12 0 := ⟨_, rfl⟩
  have bv3 : 0 ≤ v3 ∧ v3 ≤ 8 := by rw [ev3]; exact (m_12_0 hX)
  obtain ⟨v4, ev4⟩ : ∃ z, z = h 42 0 := ⟨_, rfl⟩
  have bv4 : 0 ≤ v4 ∧ v4 ≤ 10 := by rw [ev4]; exact (m_42_0 hX)
  obtain ⟨v5, ev5⟩ : ∃ z, z = h 46 0 := ⟨_, rfl⟩
  have bv5 : 0 ≤ v5 ∧ v5 ≤ 8 := by rw [ev5]; exact (m_46_0 hX)
  obtain ⟨v6, ev6⟩ : ∃ z, z = h 52 0 := ⟨_, rfl⟩
  have bv6 : 0 ≤ v6 ∧ v6 ≤ 8 := by rw [ev6]; exact (m_52_0 hX)
  obtain ⟨v7, ev7⟩ : ∃ z, z = h 0 12 := ⟨_, rfl⟩
  have bv7 : 0 ≤ v7 ∧ v7 ≤ 1 := by rw [ev7]; exact (m_0_12 hX)
  obtain ⟨v8, ev8⟩ : ∃ z, z = h 98 2 := ⟨_, rfl⟩
  have bv8 : 0 ≤ v8 ∧ v8 ≤ 10 := by rw [ev8]; exact (m_98_2 hMm)
  obtain ⟨v9, ev9⟩ : ∃ z, z = h 98 3 := ⟨_, rfl⟩
  have bv9 : 0 ≤ v9 ∧ v9 ≤ 8 := by rw [ev9]; exact (m_98_3 hMm)
  obtain ⟨v10, ev10⟩ : ∃ z, z = h 98 4 := ⟨_, rfl⟩
  have bv10 : 0 ≤ v10 ∧ v10 ≤ 8 := by rw [ev10]; exact (m_98_4 hMm)
  obtain ⟨v11, ev11⟩ : ∃ z, z = h 98 5 := ⟨_, rfl⟩
  have bv11 : 0 ≤ v11 ∧ v11 ≤ 2000000000 := by rw [ev11]; exact (m_98_5 hMm)
  obtain ⟨v12, ev12⟩ : ∃ z, z = h 145 6 := ⟨_, rfl⟩
  have bv12 : 0 ≤ v12 ∧ v12 ≤ 10 := by rw [ev12]; exact (m_145_6 hMm)
  obtain ⟨v13, ev13⟩ : ∃ z, z = h 145 7 := ⟨_, rfl⟩
  have bv13 : 0 ≤ v13 ∧ v13 ≤ 8 := by rw [ev13]; exact (m_145_7 hMm)
  obtain ⟨v14, ev14⟩ : ∃ z, z = h 145 8 := ⟨_, rfl⟩
  have bv14 : 0 ≤ v14 ∧ v14 ≤ 8 := by rw [ev14]; exact (m_145_8 hMm)
  obtain ⟨v15, ev15⟩ : ∃ z, z = h 145 9 := ⟨_, rfl⟩
  have bv15 : 0 ≤ v15 ∧ v15 ≤ 2000000000 := by rw [ev15]; exact (m_145_9 hMm)
  obtain ⟨v16, ev16⟩ : ∃ z, z = h 98 79 := ⟨_, rfl⟩
  have bv16 : 0 ≤ v16 ∧ v16 ≤ 1 := by rw [ev16]; exact (m_98_79 hMm)
  refine g_aload_n dL_law_1025 rfl ?_
  refine g_aloadX_n dL_law_1026 rfl ?_
  refine g_iload_n dL_law_1027 rfl (fun _ => ?_)
  refine g_iconst dL_law_1028 (inR_c rfl) ?_
  refine g_iaddB dL_law_1029 (by omega) (by omega) ?_
  refine g_sldB dL_law_1030 (by omega) (by omega) (fun v17 ev17 bv17 cv17 => ?_)
  refine g_aloadX_n dL_law_1031 rfl ?_
  refine g_iload_n dL_law_1032 rfl (fun _ => ?_)
  refine g_iconst dL_law_1033 (inR_c rfl) ?_
  refine g_iaddB dL_law_1034 (by omega) (by omega) ?_
  refine g_sldB dL_law_1035 (by omega) (by omega) (fun v18 ev18 bv18 cv18 => ?_)
  refine g_aloadX_n dL_law_1036 rfl ?_
  refine g_iload_n dL_law_1037 rfl (fun _ => ?_)
  refine g_iconst dL_law_1038 (inR_c rfl) ?_
  refine g_iaddB dL_law_1039 (by omega) (by omega) ?_
  refine g_sldB dL_law_1040 (by omega) (by omega) (fun v19 ev19 bv19 cv19 => ?_)
  have q20 : h 2 0 = v1 := ev1.symm
  have q21 : h 6 0 = v2 := ev2.symm
  have q22 : h 12 0 = v3 := ev3.symm
  have q23 : h 42 0 = v4 := ev4.symm
  have q24 : h 46 0 = v5 := ev5.symm
  have q25 : h 52 0 = v6 := ev6.symm
  have q26 : h 0 12 = v7 := ev7.symm
  have q27 : h 98 2 = v8 := ev8.symm
  have q28 : h 98 3 = v9 := ev9.symm
  have q29 : h 98 4 = v10 := ev10.symm
  have q30 : h 98 5 = v11 := ev11.symm
  have q31 : h 145 6 = v12 := ev12.symm
  have q32 : h 145 7 = v13 := ev13.symm
  have q33 : h 145 8 = v14 := ev14.symm
  have q34 : h 145 9 = v15 := ev15.symm
  have q35 : h 98 79 = v16 := ev16.symm
  refine g_cV (as := [_, _, _]) (c_X11_chain_0 _ _ _ h hX (by omega) (by omega) (by omega) (by omega) (by omega) (by omega)) dL_law_1041 mi_X11_chain in_X11_chain se_X11_chain ml_L_114 rfl rfl rfl sh_0 rfl rfl (Nat.le_of_ble_eq_true rfl) (fun v36 h37 q38 => ?_)
  obtain ⟨hMh37, hFh37, bv36, cv36⟩ := q38
  refine g_pop dL_law_1044 rfl ?_
  refine g_aload_n dL_law_1045 rfl ?_
  refine g_aloadX_n dL_law_1046 rfl ?_
  refine g_iload_n dL_law_1047 rfl (fun _ => ?_)
  refine g_iconst dL_law_1048 (inR_c rfl) ?_
  refine g_iaddB dL_law_1049 (by omega) (by omega) ?_
  refine g_sldE dL_law_1050 (by omega) (by omega) ev17 ?_
  refine g_aloadX_n dL_law_1051 rfl ?_
  refine g_iload_n dL_law_1052 rfl (fun _ => ?_)
  refine g_iconst dL_law_1053 (inR_c rfl) ?_
  refine g_iaddB dL_law_1054 (by omega) (by omega) ?_
  refine g_sldE dL_law_1055 (by omega) (by omega) ev18 ?_
  refine g_aloadX_n dL_law_1056 rfl ?_
  refine g_iload_n dL_law_1057 rfl (fun _ => ?_)
  refine g_iconst dL_law_1058 (inR_c rfl) ?_
  refine g_iaddB dL_law_1059 (by omega) (by omega) ?_
  refine g_sldE dL_law_1060 (by omega) (by omega) ev19 ?_
  have q39 : h37 2 0 = v1 := ((hFh37 2 0 rfl).trans ev1.symm)
  have q40 : h37 6 0 = v2 := ((hFh37 6 0 rfl).trans ev2.symm)
  have q41 : h37 12 0 = v3 := ((hFh37 12 0 rfl).trans ev3.symm)
  have q42 : h37 42 0 = v4 := ((hFh37 42 0 rfl).trans ev4.symm)
  have q43 : h37 46 0 = v5 := ((hFh37 46 0 rfl).trans ev5.symm)
  have q44 : h37 52 0 = v6 := ((hFh37 52 0 rfl).trans ev6.symm)
  have q45 : h37 0 12 = v7 := ((hFh37 0 12 rfl).trans ev7.symm)
  have q46 : h37 98 2 = v8 := ((hFh37 98 2 rfl).trans ev8.symm)
  have q47 : h37 98 3 = v9 := ((hFh37 98 3 rfl).trans ev9.symm)
  have q48 : h37 98 4 = v10 := ((hFh37 98 4 rfl).trans ev10.symm)
  have q49 : h37 98 5 = v11 := ((hFh37 98 5 rfl).trans ev11.symm)
  have q50 : h37 145 6 = v12 := ((hFh37 145 _ rfl).trans ev12.symm)
  have q51 : h37 145 7 = v13 := ((hFh37 145 _ rfl).trans ev13.symm)
  have q52 : h37 145 8 = v14 := ((hFh37 145 _ rfl).trans ev14.symm)
  have q53 : h37 145 9 = v15 := ((hFh37 145 _ rfl).trans ev15.symm)
  have q54 : h37 98 79 = v16 := ((hFh37 98 79 rfl).trans ev16.symm)
  refine g_cV (as := [_, _, _]) (c_X12_chain_98 _ _ _ h37 (MBm.fr (T := [(78, 1), (79, 0), (80, 0), (81, 0)]) hMm (Fr.sub hFh37 rfl) rfl) (by omega) (by omega) (by omega) (by omega) (by omega) (by omega)) dL_law_1061 mi_X12_chain in_X12_chain se_X12_chain ml_L_117 rfl rfl rfl sh_98 rfl rfl (Nat.le_of_ble_eq_true rfl) (fun v55 h56 q57 => ?_)
  obtain ⟨hMh56, hFh56, bv55, cv55⟩ := q57
  refine g_pop dL_law_1064 rfl ?_
  refine g_goto 1216 dL_law_1065 (by decide) ?_
  have q58 : h56 2 0 = v1 := ((hFh56 2 0 rfl).trans ((hFh37 2 0 rfl).trans ev1.symm))
  have q59 : h56 6 0 = v2 := ((hFh56 6 0 rfl).trans ((hFh37 6 0 rfl).trans ev2.symm))
  have q60 : h56 12 0 = v3 := ((hFh56 12 0 rfl).trans ((hFh37 12 0 rfl).trans ev3.symm))
  have q61 : h56 42 0 = v4 := ((hFh56 42 0 rfl).trans ((hFh37 42 0 rfl).trans ev4.symm))
  have q62 : h56 46 0 = v5 := ((hFh56 46 0 rfl).trans ((hFh37 46 0 rfl).trans ev5.symm))
  have q63 : h56 52 0 = v6 := ((hFh56 52 0 rfl).trans ((hFh37 52 0 rfl).trans ev6.symm))
  have q64 : h56 0 12 = v7 := ((hFh56 0 12 rfl).trans ((hFh37 0 12 rfl).trans ev7.symm))
  have q65 : h56 98 2 = v8 := ((hFh56 98 2 rfl).trans ((hFh37 98 2 rfl).trans ev8.symm))
  have q66 : h56 98 3 = v9 := ((hFh56 98 3 rfl).trans ((hFh37 98 3 rfl).trans ev9.symm))
  have q67 : h56 98 4 = v10 := ((hFh56 98 4 rfl).trans ((hFh37 98 4 rfl).trans ev10.symm))
  have q68 : h56 98 5 = v11 := ((hFh56 98 5 rfl).trans ((hFh37 98 5 rfl).trans ev11.symm))
  have q69 : h56 145 6 = v12 := ((hFh56 145 _ rfl).trans ((hFh37 145 _ rfl).trans ev12.symm))
  have q70 : h56 145 7 = v13 := ((hFh56 145 _ rfl).trans ((hFh37 145 _ rfl).trans ev13.symm))
  have q71 : h56 145 8 = v14 := ((hFh56 145 _ rfl).trans ((hFh37 145 _ rfl).trans ev14.symm))
  have q72 : h56 145 9 = v15 := ((hFh56 145 _ rfl).trans ((hFh37 145 _ rfl).trans ev15.symm))
  have q73 : h56 98 79 = v16 := ((hFh56 98 79 rfl).trans ((hFh37 98 79 rfl).trans ev16.symm))
  exact kk _ ⟨⟨(MBx.fr (T := [(150, 0)]) hMh37 (Fr.sub hFh56 rfl) rfl), hMh56, (LD.fr (T := [(78, 1), (79, 0), (80, 0), (81, 0), (150, 0)]) hLD (Fr.tr (Fr.sub hFh37 rfl) hFh56 rfl) rfl), (WFL.fr (T := [(78, 1), (79, 0), (80, 0), (81, 0), (150, 0)]) hWF (Fr.tr (Fr.sub hFh37 rfl) hFh56 rfl) rfl)⟩, by omega, gi, gs, (ASn.fr (T := [(78, 1), (79, 0), (80, 0), (81, 0), (150, 0)]) hXW (Fr.tr (Fr.sub hFh37 rfl) hFh56 rfl) rfl), (ISn.fr (T := [(78, 1), (79, 0), (80, 0), (81, 0), (150, 0)]) hIS (Fr.tr (Fr.sub hFh37 rfl) hFh56 rfl) rfl), (ASn.fr (T := [(78, 1), (79, 0), (80, 0), (81, 0), (150, 0)]) hXK (Fr.tr (Fr.sub hFh37 rfl) hFh56 rfl) rfl), (S1n.fr (T := [(78, 1), (79, 0), (80, 0), (81, 0), (150, 0)]) hS1 (Fr.tr (Fr.sub hFh37 rfl) hFh56 rfl) rfl)⟩
set_option maxRecDepth 100000 in
set_option maxHeartbeats 8000000 in
theorem law_case_24 (xs : List Int) (Po : Option PV → List SE → MEM → Prop) (i : Int) (h : MEM) (I : INV i h) (hi : i + 6 ≤ xs.length) (hN : xs.length ≤ 3072) (kk : ∀ h' : MEM, INV (i + 6) h' → G x cL_law 4 (some .boolean) (some xs) Po (2048, 84000, 600000, 7302250) 1216 [some pX, some (pR 0), some (pR 98), some (pI i)] [] SH h' 151 10868) : G x cL_law 4 (some .boolean) (some xs) Po (2048, 84000, 600000, 7302250) 1068 [some pX, some (pR 0), some (pR 98), some (pI i)] [] SH h 151 10868 := by
  obtain ⟨⟨hX, hMm, hLD, hWF⟩, hI, gi, gs, hXW, hIS, hXK, hS1⟩ := I
  obtain ⟨v1, ev1⟩ : ∃ z, z = h 2 0 := ⟨_, rfl⟩
  have bv1 : 0 ≤ v1 ∧ v1 ≤ 10 := by rw [ev1]; exact (m_2_0 hX)
  obtain ⟨v2, ev2⟩ : ∃ z, z = h 6 0 := ⟨_, rfl⟩
  have bv2 : 0 ≤ v2 ∧ v2 ≤ 8 := by rw [ev2]; exact (m_6_0 hX)
  obtain ⟨v3, ev3⟩ : ∃ z, z = h 12 0 := ⟨_, rfl⟩
  have bv3 : 0 ≤ v3 ∧ v3 ≤ 8 := by rw [ev3]; exact (m_12_0 hX)
  obtain ⟨v4, ev4⟩ : ∃ z, z = h 42 0 := ⟨_, rfl⟩
  have bv4 : 0 ≤ v4 ∧ v4 ≤ 10 := by rw [ev4]; exact (m_42_0 hX)
  obtain ⟨v5, ev5⟩ : ∃ z, z = h 46 0 := ⟨_, rfl⟩
  have bv5 : 0 ≤ v5 ∧ v5 ≤ 8 := by rw [ev5]; exact (m_46_0 hX)
  obtain ⟨v6, ev6⟩ : ∃ z, z = h 52 0 := ⟨_, rfl⟩
  have bv6 : 0 ≤ v6 ∧ v6 ≤ 8 := by rw [ev6]; exact (m_52_0 hX)
  obtain ⟨v7, ev7⟩ : ∃ z, z = h 0 12 := ⟨_, rfl⟩
  have bv7 : 0 ≤ v7 ∧ v7 ≤ 1 := by rw [ev7]; exact (m_0_12 hX)
  obtain ⟨v8, ev8⟩ : ∃ z, z = h 98 2 := ⟨_, rfl⟩
  have bv8 : 0 ≤ v8 ∧ v8 ≤ 10 := by rw [ev8]; exact (m_98_2 hMm)
  obtain ⟨v9, ev9⟩ : ∃ z, z = h 98 3 := ⟨_, rfl⟩
  have bv9 : 0 ≤ v9 ∧ v9 ≤ 8 := by rw [ev9]; exact (m_98_3 hMm)
  obtain ⟨v10, ev10⟩ : ∃ z, z = h 98 4 := ⟨_, rfl⟩
  have bv10 : 0 ≤ v10 ∧ v10 ≤ 8 := by rw [ev10]; exact (m_98_4 hMm)
  obtain ⟨v11, ev11⟩ : ∃ z, z = h 98 5 := ⟨_, rfl⟩
  have bv11 : 0 ≤ v11 ∧ v11 ≤ 2000000000 := by rw [ev11]; exact (m_98_5 hMm)
  obtain ⟨v12, ev12⟩ : ∃ z, z = h 145 6 := ⟨_, rfl⟩
  have bv12 : 0 ≤ v12 ∧ v12 ≤ 10 := by rw [ev12]; exact (m_145_6 hMm)
  obtain ⟨v13, ev13⟩ : ∃ z, z = h 145 7 := ⟨_, rfl⟩
  have bv13 : 0 ≤ v13 ∧ v13 ≤ 8 := by rw [ev13]; exact (m_145_7 hMm)
  obtain ⟨v14, ev14⟩ : ∃ z, z = h 145 8 := ⟨_, rfl⟩
  have bv14 : 0 ≤ v14 ∧ v14 ≤ 8 := by rw [ev14]; exact (m_145_8 hMm)
  obtain ⟨v15, ev15⟩ : ∃ z, z = h 145 9 := ⟨_, rfl⟩
  have bv15 : 0 ≤ v15 ∧ v15 ≤ 2000000000 := by rw [ev15]; exact (m_145_9 hMm)
  obtain ⟨v16, ev16⟩ : ∃ z, z = h 98 79 := ⟨_, rfl⟩
  have bv16 : 0 ≤ v16 ∧ v16 ≤ 1 := by rw [ev16]; exact (m_98_79 hMm)
  refine g_aload_n dL_law_1068 rfl ?_
  refine g_aloadX_n dL_law_1069 rfl ?_
  refine g_iload_n dL_law_1070 rfl (fun _ => ?_)
  refine g_iconst dL_law_1071 (inR_c rfl) ?_
  refine g_iaddB dL_law_1072 (by omega) (by omega) ?_
  refine g_sldB dL_law_1073 (by omega) (by omega) (fun v17 ev17 bv17 cv17 => ?_)
  refine g_aloadX_n dL_law_1074 rfl ?_
  refine g_iload_n dL_law_1075 rfl (fun _ => ?_)
  refine g_iconst dL_law_1076 (inR_c rfl) ?_
  refine g_iaddB dL_law_1077 (by omega) (by omega) ?_
  refine g_sldB dL_law_1078 (by omega) (by omega) (fun v18 ev18 bv18 cv18 => ?_)
  refine g_aloadX_n dL_law_1079 rfl ?_
  refine g_iload_n dL_law_1080 rfl (fun _ => ?_)
  refine g_iconst dL_law_1081 (inR_c rfl) ?_
  refine g_iaddB dL_law_1082 (by omega) (by omega) ?_
  refine g_sldB dL_law_1083 (by omega) (by omega) (fun v19 ev19 bv19 cv19 => ?_)
  refine g_aloadX_n dL_law_1084 rfl ?_
  refine g_iload_n dL_law_1085 rfl (fun _ => ?_)
  refine g_iconst dL_law_1086 (inR_c rfl) ?_
  refine g_iaddB dL_law_1087 (by omega) (by omega) ?_
  refine g_sldB dL_law_1088 (by omega) (by omega) (fun v20 ev20 bv20 cv20 => ?_)
  have q21 : h 2 0 = v1 := ev1.symm
  have q22 : h 6 0 = v2 := ev2.symm
  have q23 : h 12 0 = v3 := ev3.symm
  have q24 : h 42 0 = v4 := ev4.symm
  have q25 : h 46 0 = v5 := ev5.symm
  have q26 : h 52 0 = v6 := ev6.symm
  have q27 : h 0 12 = v7 := ev7.symm
  have q28 : h 98 2 = v8 := ev8.symm
  have q29 : h 98 3 = v9 := ev9.symm
  have q30 : h 98 4 = v10 := ev10.symm
  have q31 : h 98 5 = v11 := ev11.symm
  have q32 : h 145 6 = v12 := ev12.symm
  have q33 : h 145 7 = v13 := ev13.symm
  have q34 : h 145 8 = v14 := ev14.symm
  have q35 : h 145 9 = v15 := ev15.symm
  have q36 : h 98 79 = v16 := ev16.symm
  refine g_cV (as := [_, _, _, _]) (c_X11_odds_0 _ _ _ _ h hX (by omega) (by omega) (by omega) (by omega) (by omega) (by omega) (by omega) (by omega) hLD) dL_law_1089 mi_X11_odds in_X11_odds se_X11_odds ml_L_118 rfl rfl rfl sh_0 rfl rfl (Nat.le_of_ble_eq_true rfl) (fun v37 h38 q39 => ?_)
  obtain ⟨hMh38, hFh38, bv37, cv37⟩ := q39
  refine g_pop dL_law_1092 rfl ?_
  refine g_aload_n dL_law_1093 rfl ?_
  refine g_aloadX_n dL_law_1094 rfl ?_
  refine g_iload_n dL_law_1095 rfl (fun _ => ?_)
  refine g_iconst dL_law_1096 (inR_c rfl) ?_
  refine g_iaddB dL_law_1097 (by omega) (by omega) ?_
  refine g_sldE dL_law_1098 (by omega) (by omega) ev17 ?_
  refine g_aloadX_n dL_law_1099 rfl ?_
  refine g_iload_n dL_law_1100 rfl (fun _ => ?_)
  refine g_iconst dL_law_1101 (inR_c rfl) ?_
  refine g_iaddB dL_law_1102 (by omega) (by omega) ?_
  refine g_sldE dL_law_1103 (by omega) (by omega) ev18 ?_
  refine g_aloadX_n dL_law_1104 rfl ?_
  refine g_iload_n dL_law_1105 rfl (fun _ => ?_)
  refine g_iconst dL_law_1106 (inR_c rfl) ?_
  refine g_iaddB dL_law_1107 (by omega) (by omega) ?_
  refine g_sldE dL_law_1108 (by omega) (by omega) ev19 ?_
  refine g_aloadX_n dL_law_1109 rfl ?_
  refine g_iload_n dL_law_1110 rfl (fun _ => ?_)
  refine g_iconst dL_law_1111 (inR_c rfl) ?_
  refine g_iaddB dL_law_1112 (by omega) (by omega) ?_
  refine g_sldE dL_law_1113 (by omega) (by omega) ev20 ?_
  have q40 : h38 2 0 = v1 := ((hFh38 2 0 rfl).trans ev1.symm)
  have q41 : h38 6 0 = v2 := ((hFh38 6 0 rfl).trans ev2.symm)
  have q42 : h38 12 0 = v3 := ((hFh38 12 0 rfl).trans ev3.symm)
  have q43 : h38 42 0 = v4 := ((hFh38 42 0 rfl).trans ev4.symm)
  have q44 : h38 46 0 = v5 := ((hFh38 46 0 rfl).trans ev5.symm)
  have q45 : h38 52 0 = v6 := ((hFh38 52 0 rfl).trans ev6.symm)
  have q46 : h38 0 12 = v7 := ((hFh38 0 12 rfl).trans ev7.symm)
  have q47 : h38 98 2 = v8 := ((hFh38 98 2 rfl).trans ev8.symm)
  have q48 : h38 98 3 = v9 := ((hFh38 98 3 rfl).trans ev9.symm)
  have q49 : h38 98 4 = v10 := ((hFh38 98 4 rfl).trans ev10.symm)
  have q50 : h38 98 5 = v11 := ((hFh38 98 5 rfl).trans ev11.symm)
  have q51 : h38 145 6 = v12 := ((hFh38 145 _ rfl).trans ev12.symm)
  have q52 : h38 145 7 = v13 := ((hFh38 145 _ rfl).trans ev13.symm)
  have q53 : h38 145 8 = v14 := ((hFh38 145 _ rfl).trans ev14.symm)
  have q54 : h38 145 9 = v15 := ((hFh38 145 _ rfl).trans ev15.symm)
  have q55 : h38 98 79 = v16 := ((hFh38 98 79 rfl).trans ev16.symm)
  have q56 : h38 98 5 = v11 := ((hFh38 98 5 rfl).trans ev11.symm)
  have q57 : h38 98 2 = v8 := ((hFh38 98 2 rfl).trans ev8.symm)
  have q58 : h38 98 3 = v9 := ((hFh38 98 3 rfl).trans ev9.symm)
  have q59 : h38 98 4 = v10 := ((hFh38 98 4 rfl).trans ev10.symm)
  have q60 : h38 98 5 = v11 := ((hFh38 98 5 rfl).trans ev11.symm)
  refine g_cV (as := [_, _, _, _]) (c_X12_odds_98 _ _ _ _ _ _ h38 (MBm.fr (T := [(21, 7), (21, 8), (21, 9), (22, 1), (23, 0), (24, 0), (25, 0), (26, 1), (27, 0), (28, 0), (29, 0), (30, 0), (31, 0), (32, 1), (33, 0), (34, 0), (35, 0), (36, 0), (37, 0), (38, 0), (39, 0), (40, 0), (89, 0), (97, 0)]) hMm (Fr.sub hFh38 rfl) rfl) (by omega) (by omega) (by omega) (by omega) (by omega) (by omega) (by omega) (by omega) (by omega) (by omega) (WFL.fr (T := [(21, 7), (21, 8), (21, 9), (22, 1), (23, 0), (24, 0), (25, 0), (26, 1), (27, 0), (28, 0), (29, 0), (30, 0), (31, 0), (32, 1), (33, 0), (34, 0), (35, 0), (36, 0), (37, 0), (38, 0), (39, 0), (40, 0), (89, 0), (97, 0)]) hWF (Fr.sub hFh38 rfl) rfl) (ISn.fr (T := [(21, 7), (21, 8), (21, 9), (22, 1), (23, 0), (24, 0), (25, 0), (26, 1), (27, 0), (28, 0), (29, 0), (30, 0), (31, 0), (32, 1), (33, 0), (34, 0), (35, 0), (36, 0), (37, 0), (38, 0), (39, 0), (40, 0), (89, 0), (97, 0)]) hIS (Fr.sub hFh38 rfl) rfl) (S1n.fr (T := [(21, 7), (21, 8), (21, 9), (22, 1), (23, 0), (24, 0), (25, 0), (26, 1), (27, 0), (28, 0), (29, 0), (30, 0), (31, 0), (32, 1), (33, 0), (34, 0), (35, 0), (36, 0), (37, 0), (38, 0), (39, 0), (40, 0), (89, 0), (97, 0)]) hS1 (Fr.sub hFh38 rfl) rfl)) dL_law_1114 mi_X12_odds in_X12_odds se_X12_odds ml_L_121 rfl rfl rfl sh_98 rfl rfl (Nat.le_of_ble_eq_true rfl) (fun v61 h62 q63 => ?_)
  obtain ⟨hMh62, hFh62, bv61, cv61, z64, z65, z66, z67, z68, z69⟩ := q63
  have kz66 : h62 98 2 = v8 := by omega
  have kz67 : h62 98 3 = v9 := by omega
  have kz68 : h62 98 4 = v10 := by omega
  have kz69 : h62 98 5 = v11 := by omega
  refine g_pop dL_law_1117 rfl ?_
  refine g_goto 1216 dL_law_1118 (by decide) ?_
  have q70 : h62 2 0 = v1 := ((hFh62 2 0 rfl).trans ((hFh38 2 0 rfl).trans ev1.symm))
  have q71 : h62 6 0 = v2 := ((hFh62 6 0 rfl).trans ((hFh38 6 0 rfl).trans ev2.symm))
  have q72 : h62 12 0 = v3 := ((hFh62 12 0 rfl).trans ((hFh38 12 0 rfl).trans ev3.symm))
  have q73 : h62 42 0 = v4 := ((hFh62 42 0 rfl).trans ((hFh38 42 0 rfl).trans ev4.symm))
  have q74 : h62 46 0 = v5 := ((hFh62 46 0 rfl).trans ((hFh38 46 0 rfl).trans ev5.symm))
  have q75 : h62 52 0 = v6 := ((hFh62 52 0 rfl).trans ((hFh38 52 0 rfl).trans ev6.symm))
  have q76 : h62 0 12 = v7 := ((hFh62 0 12 rfl).trans ((hFh38 0 12 rfl).trans ev7.symm))
  have q77 : h62 98 2 = v8 := kz66
  have q78 : h62 98 3 = v9 := kz67
  have q79 : h62 98 4 = v10 := kz68
  have q80 : h62 98 5 = v11 := kz69
  have q81 : h62 145 6 = v12 := ((hFh62 145 _ rfl).trans ((hFh38 145 _ rfl).trans ev12.symm))
  have q82 : h62 145 7 = v13 := ((hFh62 145 _ rfl).trans ((hFh38 145 _ rfl).trans ev13.symm))
  have q83 : h62 145 8 = v14 := ((hFh62 145 _ rfl).trans ((hFh38 145 _ rfl).trans ev14.symm))
  have q84 : h62 145 9 = v15 := ((hFh62 145 _ rfl).trans ((hFh38 145 _ rfl).trans ev15.symm))
  have q85 : h62 98 79 = v16 := ((hFh62 98 79 rfl).trans ((hFh38 98 79 rfl).trans ev16.symm))
  exact kk _ ⟨⟨(MBx.fr (T := [(98, 3), (98, 4), (98, 5), (98, 6), (98, 7), (98, 8), (98, 47), (98, 48), (98, 49), (98, 52), (100, 0), (101, 0), (102, 0), (103, 0), (104, 0), (105, 0), (106, 0), (107, 0), (108, 0), (109, 0), (110, 0), (111, 0), (112, 0), (113, 0), (114, 0), (128, 0), (129, 0), (130, 0), (131, 0), (132, 0), (133, 0), (134, 0), (135, 0), (136, 0), (137, 0), (138, 0), (139, 0), (140, 0), (141, 0), (142, 0), (143, 0), (144, 0), (145, 1), (145, 2), (145, 3), (145, 4), (145, 5), (145, 6)]) hMh38 (Fr.sub hFh62 rfl) rfl), hMh62, (LD.fr (T := [(21, 7), (21, 8), (21, 9), (22, 1), (23, 0), (24, 0), (25, 0), (26, 1), (27, 0), (28, 0), (29, 0), (30, 0), (31, 0), (32, 1), (33, 0), (34, 0), (35, 0), (36, 0), (37, 0), (38, 0), (39, 0), (40, 0), (89, 0), (97, 0), (98, 3), (98, 4), (98, 5), (98, 6), (98, 7), (98, 8), (98, 47), (98, 48), (98, 49), (98, 52), (100, 0), (101, 0), (102, 0), (103, 0), (104, 0), (105, 0), (106, 0), (107, 0), (108, 0), (109, 0), (110, 0), (111, 0), (112, 0), (113, 0), (114, 0), (128, 0), (129, 0), (130, 0), (131, 0), (132, 0), (133, 0), (134, 0), (135, 0), (136, 0), (137, 0), (138, 0), (139, 0), (140, 0), (141, 0), (142, 0), (143, 0), (144, 0), (145, 1), (145, 2), (145, 3), (145, 4), (145, 5), (145, 6)]) hLD (Fr.tr (Fr.sub hFh38 rfl) hFh62 rfl) rfl), (WFL.fr (T := [(21, 7), (21, 8), (21, 9), (22, 1), (23, 0), (24, 0), (25, 0), (26, 1), (27, 0), (28, 0), (29, 0), (30, 0), (31, 0), (32, 1), (33, 0), (34, 0), (35, 0), (36, 0), (37, 0), (38, 0), (39, 0), (40, 0), (89, 0), (97, 0), (98, 3), (98, 4), (98, 5), (98, 6), (98, 7), (98, 8), (98, 47), (98, 48), (98, 49), (98, 52), (100, 0), (101, 0), (102, 0), (103, 0), (104, 0), (105, 0), (106, 0), (107, 0), (108, 0), (109, 0), (110, 0), (111, 0), (112, 0), (113, 0), (114, 0), (128, 0), (129, 0), (130, 0), (131, 0), (132, 0), (133, 0), (134, 0), (135, 0), (136, 0), (137, 0), (138, 0), (139, 0), (140, 0), (141, 0), (142, 0), (143, 0), (144, 0), (145, 1), (145, 2), (145, 3), (145, 4), (145, 5), (145, 6)]) hWF (Fr.tr (Fr.sub hFh38 rfl) hFh62 rfl) rfl)⟩, by omega, gi, gs, (ASn.fr (T := [(21, 7), (21, 8), (21, 9), (22, 1), (23, 0), (24, 0), (25, 0), (26, 1), (27, 0), (28, 0), (29, 0), (30, 0), (31, 0), (32, 1), (33, 0), (34, 0), (35, 0), (36, 0), (37, 0), (38, 0), (39, 0), (40, 0), (89, 0), (97, 0), (98, 3), (98, 4), (98, 5), (98, 6), (98, 7), (98, 8), (98, 47), (98, 48), (98, 49), (98, 52), (100, 0), (101, 0), (102, 0), (103, 0), (104, 0), (105, 0), (106, 0), (107, 0), (108, 0), (109, 0), (110, 0), (111, 0), (112, 0), (113, 0), (114, 0), (128, 0), (129, 0), (130, 0), (131, 0), (132, 0), (133, 0), (134, 0), (135, 0), (136, 0), (137, 0), (138, 0), (139, 0), (140, 0), (141, 0), (142, 0), (143, 0), (144, 0), (145, 1), (145, 2), (145, 3), (145, 4), (145, 5), (145, 6)]) hXW (Fr.tr (Fr.sub hFh38 rfl) hFh62 rfl) rfl), z64, (ASn.fr (T := [(21, 7), (21, 8), (21, 9), (22, 1), (23, 0), (24, 0), (25, 0), (26, 1), (27, 0), (28, 0), (29, 0), (30, 0), (31, 0), (32, 1), (33, 0), (34, 0), (35, 0), (36, 0), (37, 0), (38, 0), (39, 0), (40, 0), (89, 0), (97, 0), (98, 3), (98, 4), (98, 5), (98, 6), (98, 7), (98, 8), (98, 47), (98, 48), (98, 49), (98, 52), (100, 0), (101, 0), (102, 0), (103, 0), (104, 0), (105, 0), (106, 0), (107, 0), (108, 0), (109, 0), (110, 0), (111, 0), (112, 0), (113, 0), (114, 0), (128, 0), (129, 0), (130, 0), (131, 0), (132, 0), (133, 0), (134, 0), (135, 0), (136, 0), (137, 0), (138, 0), (139, 0), (140, 0), (141, 0), (142, 0), (143, 0), (144, 0), (145, 1), (145, 2), (145, 3), (145, 4), (145, 5), (145, 6)]) hXK (Fr.tr (Fr.sub hFh38 rfl) hFh62 rfl) rfl), z65⟩
set_option maxRecDepth 100000 in
set_option maxHeartbeats 8000000 in
theorem law_case_25 (xs : List Int) (Po : Option PV → List SE → MEM → Prop) (i : Int) (h : MEM) (I : INV i h) (hi : i + 6 ≤ xs.length) (hN : xs.length ≤ 3072) (kk : ∀ h' : MEM, INV (i + 6) h' → G x cL_law 4 (some .boolean) (some xs) Po (2048, 84000, 600000, 7302250) 1216 [some pX, some (pR 0), some (pR 98), some (pI i)] [] SH h' 151 10868) : G x cL_law 4 (some .boolean) (some xs) Po (2048, 84000, 600000, 7302250) 1121 [some pX, some (pR 0), some (pR 98), some (pI i)] [] SH h 151 10868 := by
  obtain ⟨⟨hX, hMm, hLD, hWF⟩, hI, gi, gs, hXW, hIS, hXK, hS1⟩ := I
  obtain ⟨v1, ev1⟩ : ∃ z, z = h 2 0 := ⟨_, rfl⟩
  have bv1 : 0 ≤ v1 ∧ v1 ≤ 10 := by rw [ev1]; exact (m_2_0 hX)
  obtain ⟨v2, ev2⟩ : ∃ z, z = h 6 0 := ⟨_, rfl⟩
  have bv2 : 0 ≤ v2 ∧ v2 ≤ 8 := by rw [ev2]; exact (m_6_0 hX)
  obtain ⟨v3, ev3⟩ : ∃ z, z = h 12 0 := ⟨_, rfl⟩
  have bv3 : 0 ≤ v3 ∧ v3 ≤ 8 := by rw [ev3]; exact (m_12_0 hX)
  obtain ⟨v4, ev4⟩ : ∃ z, z = h 42 0 := ⟨_, rfl⟩
  have bv4 : 0 ≤ v4 ∧ v4 ≤ 10 := by rw [ev4]; exact (m_42_0 hX)
  obtain ⟨v5, ev5⟩ : ∃ z, z = h 46 0 := ⟨_, rfl⟩
  have bv5 : 0 ≤ v5 ∧ v5 ≤ 8 := by rw [ev5]; exact (m_46_0 hX)
  obtain ⟨v6, ev6⟩ : ∃ z, z = h 52 0 := ⟨_, rfl⟩
  have bv6 : 0 ≤ v6 ∧ v6 ≤ 8 := by rw [ev6]; exact (m_52_0 hX)
  obtain ⟨v7, ev7⟩ : ∃ z, z = h 0 12 := ⟨_, rfl⟩
  have bv7 : 0 ≤ v7 ∧ v7 ≤ 1 := by rw [ev7]; exact (m_0_12 hX)
  obtain ⟨v8, ev8⟩ : ∃ z, z = h 98 2 := ⟨_, rfl⟩
  have bv8 : 0 ≤ v8 ∧ v8 ≤ 10 := by rw [ev8]; exact (m_98_2 hMm)
  obtain ⟨v9, ev9⟩ : ∃ z, z = h 98 3 := ⟨_, rfl⟩
  have bv9 : 0 ≤ v9 ∧ v9 ≤ 8 := by rw [ev9]; exact (m_98_3 hMm)
  obtain ⟨v10, ev10⟩ : ∃ z, z = h 98 4 := ⟨_, rfl⟩
  have bv10 : 0 ≤ v10 ∧ v10 ≤ 8 := by rw [ev10]; exact (m_98_4 hMm)
  obtain ⟨v11, ev11⟩ : ∃ z, z = h 98 5 := ⟨_, rfl⟩
  have bv11 : 0 ≤ v11 ∧ v11 ≤ 2000000000 := by rw [ev11]; exact (m_98_5 hMm)
  obtain ⟨v12, ev12⟩ : ∃ z, z = h 145 6 := ⟨_, rfl⟩
  have bv12 : 0 ≤ v12 ∧ v12 ≤ 10 := by rw [ev12]; exact (m_145_6 hMm)
  obtain ⟨v13, ev13⟩ : ∃ z, z = h 145 7 := ⟨_, rfl⟩
  have bv13 : 0 ≤ v13 ∧ v13 ≤ 8 := by rw [ev13]; exact (m_145_7 hMm)
  obtain ⟨v14, ev14⟩ : ∃ z, z = h 145 8 := ⟨_, rfl⟩
  have bv14 : 0 ≤ v14 ∧ v14 ≤ 8 := by rw [ev14]; exact (m_145_8 hMm)
  obtain ⟨v15, ev15⟩ : ∃ z, z = h 145 9 := ⟨_, rfl⟩
  have bv15 : 0 ≤ v15 ∧ v15 ≤ 2000000000 := by rw [ev15]; exact (m_145_9 hMm)
  obtain ⟨v16, ev16⟩ : ∃ z, z = h 98 79 := ⟨_, rfl⟩
  have bv16 : 0 ≤ v16 ∧ v16 ≤ 1 := by rw [ev16]; exact (m_98_79 hMm)
  refine g_aload_n dL_law_1121 rfl ?_
  refine g_aloadX_n dL_law_1122 rfl ?_
  refine g_iload_n dL_law_1123 rfl (fun _ => ?_)
  refine g_iconst dL_law_1124 (inR_c rfl) ?_
  refine g_iaddB dL_law_1125 (by omega) (by omega) ?_
  refine g_sldB dL_law_1126 (by omega) (by omega) (fun v17 ev17 bv17 cv17 => ?_)
  have q18 : h 2 0 = v1 := ev1.symm
  have q19 : h 6 0 = v2 := ev2.symm
  have q20 : h 12 0 = v3 := ev3.symm
  have q21 : h 42 0 = v4 := ev4.symm
  have q22 : h 46 0 = v5 := ev5.symm
  have q23 : h 52 0 = v6 := ev6.symm
  have q24 : h 0 12 = v7 := ev7.symm
  have q25 : h 98 2 = v8 := ev8.symm
  have q26 : h 98 3 = v9 := ev9.symm
  have q27 : h 98 4 = v10 := ev10.symm
  have q28 : h 98 5 = v11 := ev11.symm
  have q29 : h 145 6 = v12 := ev12.symm
  have q30 : h 145 7 = v13 := ev13.symm
  have q31 : h 145 8 = v14 := ev14.symm
  have q32 : h 145 9 = v15 := ev15.symm
  have q33 : h 98 79 = v16 := ev16.symm
  refine g_cV (as := [_]) (c_X11_seed_0 _ h hX (by omega) (by omega)) dL_law_1127 mi_X11_seed in_X11_seed se_X11_seed ml_L_122 rfl rfl rfl sh_0 rfl rfl (Nat.le_of_ble_eq_true rfl) (fun v34 h35 q36 => ?_)
  obtain ⟨hMh35, hFh35, bv34, cv34, zv34⟩ := q36
  refine g_pop dL_law_1130 rfl ?_
  refine g_aload_n dL_law_1131 rfl ?_
  refine g_aloadX_n dL_law_1132 rfl ?_
  refine g_iload_n dL_law_1133 rfl (fun _ => ?_)
  refine g_iconst dL_law_1134 (inR_c rfl) ?_
  refine g_iaddB dL_law_1135 (by omega) (by omega) ?_
  refine g_sldE dL_law_1136 (by omega) (by omega) ev17 ?_
  have q37 : h35 2 0 = v1 := ((hFh35 2 0 rfl).trans ev1.symm)
  have q38 : h35 6 0 = v2 := ((hFh35 6 0 rfl).trans ev2.symm)
  have q39 : h35 12 0 = v3 := ((hFh35 12 0 rfl).trans ev3.symm)
  have q40 : h35 42 0 = v4 := ((hFh35 42 0 rfl).trans ev4.symm)
  have q41 : h35 46 0 = v5 := ((hFh35 46 0 rfl).trans ev5.symm)
  have q42 : h35 52 0 = v6 := ((hFh35 52 0 rfl).trans ev6.symm)
  have q43 : h35 0 12 = v7 := ((hFh35 0 12 rfl).trans ev7.symm)
  have q44 : h35 98 2 = v8 := ((hFh35 98 2 rfl).trans ev8.symm)
  have q45 : h35 98 3 = v9 := ((hFh35 98 3 rfl).trans ev9.symm)
  have q46 : h35 98 4 = v10 := ((hFh35 98 4 rfl).trans ev10.symm)
  have q47 : h35 98 5 = v11 := ((hFh35 98 5 rfl).trans ev11.symm)
  have q48 : h35 145 6 = v12 := ((hFh35 145 _ rfl).trans ev12.symm)
  have q49 : h35 145 7 = v13 := ((hFh35 145 _ rfl).trans ev13.symm)
  have q50 : h35 145 8 = v14 := ((hFh35 145 _ rfl).trans ev14.symm)
  have q51 : h35 145 9 = v15 := ((hFh35 145 _ rfl).trans ev15.symm)
  have q52 : h35 98 79 = v16 := ((hFh35 98 79 rfl).trans ev16.symm)
  refine g_cV (as := [_]) (c_X12_seed_98 _ h35 (MBm.fr (T := [(1, 8)]) hMm (Fr.sub hFh35 rfl) rfl) (by omega) (by omega)) dL_law_1137 mi_X12_seed in_X12_seed se_X12_seed ml_L_126 rfl rfl rfl sh_98 rfl rfl (Nat.le_of_ble_eq_true rfl) (fun v53 h54 q55 => ?_)
  obtain ⟨hMh54, hFh54, bv53, cv53, zv53⟩ := q55
  refine g_pop dL_law_1140 rfl ?_
  refine g_goto 1216 dL_law_1141 (by decide) ?_
  have q56 : h54 2 0 = v1 := ((hFh54 2 0 rfl).trans ((hFh35 2 0 rfl).trans ev1.symm))
  have q57 : h54 6 0 = v2 := ((hFh54 6 0 rfl).trans ((hFh35 6 0 rfl).trans ev2.symm))
  have q58 : h54 12 0 = v3 := ((hFh54 12 0 rfl).trans ((hFh35 12 0 rfl).trans ev3.symm))
  have q59 : h54 42 0 = v4 := ((hFh54 42 0 rfl).trans ((hFh35 42 0 rfl).trans ev4.symm))
  have q60 : h54 46 0 = v5 := ((hFh54 46 0 rfl).trans ((hFh35 46 0 rfl).trans ev5.symm))
  have q61 : h54 52 0 = v6 := ((hFh54 52 0 rfl).trans ((hFh35 52 0 rfl).trans ev6.symm))
  have q62 : h54 0 12 = v7 := ((hFh54 0 12 rfl).trans ((hFh35 0 12 rfl).trans ev7.symm))
  have q63 : h54 98 2 = v8 := ((hFh54 98 2 rfl).trans ((hFh35 98 2 rfl).trans ev8.symm))
  have q64 : h54 98 3 = v9 := ((hFh54 98 3 rfl).trans ((hFh35 98 3 rfl).trans ev9.symm))
  have q65 : h54 98 4 = v10 := ((hFh54 98 4 rfl).trans ((hFh35 98 4 rfl).trans ev10.symm))
  have q66 : h54 98 5 = v11 := ((hFh54 98 5 rfl).trans ((hFh35 98 5 rfl).trans ev11.symm))
  have q67 : h54 145 6 = v12 := ((hFh54 145 _ rfl).trans ((hFh35 145 _ rfl).trans ev12.symm))
  have q68 : h54 145 7 = v13 := ((hFh54 145 _ rfl).trans ((hFh35 145 _ rfl).trans ev13.symm))
  have q69 : h54 145 8 = v14 := ((hFh54 145 _ rfl).trans ((hFh35 145 _ rfl).trans ev14.symm))
  have q70 : h54 145 9 = v15 := ((hFh54 145 _ rfl).trans ((hFh35 145 _ rfl).trans ev15.symm))
  have q71 : h54 98 79 = v16 := ((hFh54 98 79 rfl).trans ((hFh35 98 79 rfl).trans ev16.symm))
  exact kk _ ⟨⟨(MBx.fr (T := [(98, 7)]) hMh35 (Fr.sub hFh54 rfl) rfl), hMh54, (LD.fr (T := [(1, 8), (98, 7)]) hLD (Fr.tr (Fr.sub hFh35 rfl) hFh54 rfl) rfl), (WFL.fr (T := [(1, 8), (98, 7)]) hWF (Fr.tr (Fr.sub hFh35 rfl) hFh54 rfl) rfl)⟩, by omega, gi, gs, (ASn.fr (T := [(1, 8), (98, 7)]) hXW (Fr.tr (Fr.sub hFh35 rfl) hFh54 rfl) rfl), (ISn.fr (T := [(1, 8), (98, 7)]) hIS (Fr.tr (Fr.sub hFh35 rfl) hFh54 rfl) rfl), (ASn.fr (T := [(1, 8), (98, 7)]) hXK (Fr.tr (Fr.sub hFh35 rfl) hFh54 rfl) rfl), (S1n.fr (T := [(1, 8), (98, 7)]) hS1 (Fr.tr (Fr.sub hFh35 rfl) hFh54 rfl) rfl)⟩
set_option maxRecDepth 100000 in
set_option maxHeartbeats 8000000 in
theorem law_case_26 (xs : List Int) (Po : Option PV → List SE → MEM → Prop) (i : Int) (h : MEM) (I : INV i h) (hi : i + 6 ≤ xs.length) (hN : xs.length ≤ 3072) (kk : ∀ h' : MEM, INV (i + 6) h' → G x cL_law 4 (some .boolean) (some xs) Po (2048, 84000, 600000, 7302250) 1216 [some pX, some (pR 0), some (pR 98), some (pI i)] [] SH h' 151 10868) : G x cL_law 4 (some .boolean) (some xs) Po (2048, 84000, 600000, 7302250) 1144 [some pX, some (pR 0), some (pR 98), some (pI i)] [] SH h 151 10868 := by
  obtain ⟨⟨hX, hMm, hLD, hWF⟩, hI, gi, gs, hXW, hIS, hXK, hS1⟩ := I
  obtain ⟨v1, ev1⟩ : ∃ z, z = h 2 0 := ⟨_, rfl⟩
  have bv1 : 0 ≤ v1 ∧ v1 ≤ 10 := by rw [ev1]; exact (m_2_0 hX)
  obtain ⟨v2, ev2⟩ : ∃ z, z = h 6 0 := ⟨_, rfl⟩
  have bv2 : 0 ≤ v2 ∧ v2 ≤ 8 := by rw [ev2]; exact (m_6_0 hX)
  obtain ⟨v3, ev3⟩ : ∃ z, z = h 12 0 := ⟨_, rfl⟩
  have bv3 : 0 ≤ v3 ∧ v3 ≤ 8 := by rw [ev3]; exact (m_12_0 hX)
  obtain ⟨v4, ev4⟩ : ∃ z, z = h 42 0 := ⟨_, rfl⟩
  have bv4 : 0 ≤ v4 ∧ v4 ≤ 10 := by rw [ev4]; exact (m_42_0 hX)
  obtain ⟨v5, ev5⟩ : ∃ z, z = h 46 0 := ⟨_, rfl⟩
  have bv5 : 0 ≤ v5 ∧ v5 ≤ 8 := by rw [ev5]; exact (m_46_0 hX)
  obtain ⟨v6, ev6⟩ : ∃ z, z = h 52 0 := ⟨_, rfl⟩
  have bv6 : 0 ≤ v6 ∧ v6 ≤ 8 := by rw [ev6]; exact (m_52_0 hX)
  obtain ⟨v7, ev7⟩ : ∃ z, z = h 0 12 := ⟨_, rfl⟩
  have bv7 : 0 ≤ v7 ∧ v7 ≤ 1 := by rw [ev7]; exact (m_0_12 hX)
  obtain ⟨v8, ev8⟩ : ∃ z, z = h 98 2 := ⟨_, rfl⟩
  have bv8 : 0 ≤ v8 ∧ v8 ≤ 10 := by rw [ev8]; exact (m_98_2 hMm)
  obtain ⟨v9, ev9⟩ : ∃ z, z = h 98 3 := ⟨_, rfl⟩
  have bv9 : 0 ≤ v9 ∧ v9 ≤ 8 := by rw [ev9]; exact (m_98_3 hMm)
  obtain ⟨v10, ev10⟩ : ∃ z, z = h 98 4 := ⟨_, rfl⟩
  have bv10 : 0 ≤ v10 ∧ v10 ≤ 8 := by rw [ev10]; exact (m_98_4 hMm)
  obtain ⟨v11, ev11⟩ : ∃ z, z = h 98 5 := ⟨_, rfl⟩
  have bv11 : 0 ≤ v11 ∧ v11 ≤ 2000000000 := by rw [ev11]; exact (m_98_5 hMm)
  obtain ⟨v12, ev12⟩ : ∃ z, z = h 145 6 := ⟨_, rfl⟩
  have bv12 : 0 ≤ v12 ∧ v12 ≤ 10 := by rw [ev12]; exact (m_145_6 hMm)
  obtain ⟨v13, ev13⟩ : ∃ z, z = h 145 7 := ⟨_, rfl⟩
  have bv13 : 0 ≤ v13 ∧ v13 ≤ 8 := by rw [ev13]; exact (m_145_7 hMm)
  obtain ⟨v14, ev14⟩ : ∃ z, z = h 145 8 := ⟨_, rfl⟩
  have bv14 : 0 ≤ v14 ∧ v14 ≤ 8 := by rw [ev14]; exact (m_145_8 hMm)
  obtain ⟨v15, ev15⟩ : ∃ z, z = h 145 9 := ⟨_, rfl⟩
  have bv15 : 0 ≤ v15 ∧ v15 ≤ 2000000000 := by rw [ev15]; exact (m_145_9 hMm)
  obtain ⟨v16, ev16⟩ : ∃ z, z = h 98 79 := ⟨_, rfl⟩
  have bv16 : 0 ≤ v16 ∧ v16 ≤ 1 := by rw [ev16]; exact (m_98_79 hMm)
  refine g_aload_n dL_law_1144 rfl ?_
  have q17 : h 2 0 = v1 := ev1.symm
  have q18 : h 6 0 = v2 := ev2.symm
  have q19 : h 12 0 = v3 := ev3.symm
  have q20 : h 42 0 = v4 := ev4.symm
  have q21 : h 46 0 = v5 := ev5.symm
  have q22 : h 52 0 = v6 := ev6.symm
  have q23 : h 0 12 = v7 := ev7.symm
  have q24 : h 98 2 = v8 := ev8.symm
  have q25 : h 98 3 = v9 := ev9.symm
  have q26 : h 98 4 = v10 := ev10.symm
  have q27 : h 98 5 = v11 := ev11.symm
  have q28 : h 145 6 = v12 := ev12.symm
  have q29 : h 145 7 = v13 := ev13.symm
  have q30 : h 145 8 = v14 := ev14.symm
  have q31 : h 145 9 = v15 := ev15.symm
  have q32 : h 98 79 = v16 := ev16.symm
  refine g_cV (as := []) (c_X11_keep_0 _ h hX hXW) dL_law_1145 mi_X11_keep in_X11_keep se_X11_keep ml_L_127 rfl rfl rfl sh_0 rfl rfl (Nat.le_of_ble_eq_true rfl) (fun v33 h34 q35 => ?_)
  obtain ⟨hMh34, hFh34, bv33, cv33, zav33, zbv33, zcv33, zdv33, z36⟩ := q35
  refine g_pop dL_law_1148 rfl ?_
  refine g_aload_n dL_law_1149 rfl ?_
  have q37 : h34 2 0 = v1 := ((hFh34 2 0 rfl).trans ev1.symm)
  have q38 : h34 6 0 = v2 := ((hFh34 6 0 rfl).trans ev2.symm)
  have q39 : h34 12 0 = v3 := ((hFh34 12 0 rfl).trans ev3.symm)
  obtain ⟨v40, ev40⟩ : ∃ z, z = h34 42 0 := ⟨_, rfl⟩
  have bv40 : 0 ≤ v40 ∧ v40 ≤ 10 := by rw [ev40]; exact (m_42_0 hMh34)
  obtain ⟨v41, ev41⟩ : ∃ z, z = h34 46 0 := ⟨_, rfl⟩
  have bv41 : 0 ≤ v41 ∧ v41 ≤ 8 := by rw [ev41]; exact (m_46_0 hMh34)
  obtain ⟨v42, ev42⟩ : ∃ z, z = h34 52 0 := ⟨_, rfl⟩
  have bv42 : 0 ≤ v42 ∧ v42 ≤ 8 := by rw [ev42]; exact (m_52_0 hMh34)
  obtain ⟨v43, ev43⟩ : ∃ z, z = h34 0 12 := ⟨_, rfl⟩
  have bv43 : 0 ≤ v43 ∧ v43 ≤ 1 := by rw [ev43]; exact (m_0_12 hMh34)
  have q44 : h34 98 2 = v8 := ((hFh34 98 2 rfl).trans ev8.symm)
  have q45 : h34 98 3 = v9 := ((hFh34 98 3 rfl).trans ev9.symm)
  have q46 : h34 98 4 = v10 := ((hFh34 98 4 rfl).trans ev10.symm)
  have q47 : h34 98 5 = v11 := ((hFh34 98 5 rfl).trans ev11.symm)
  have q48 : h34 145 6 = v12 := ((hFh34 145 _ rfl).trans ev12.symm)
  have q49 : h34 145 7 = v13 := ((hFh34 145 _ rfl).trans ev13.symm)
  have q50 : h34 145 8 = v14 := ((hFh34 145 _ rfl).trans ev14.symm)
  have q51 : h34 145 9 = v15 := ((hFh34 145 _ rfl).trans ev15.symm)
  have q52 : h34 98 79 = v16 := ((hFh34 98 79 rfl).trans ev16.symm)
  refine g_cV (as := []) (c_X12_keep_98 _ h34 (MBm.fr (T := [(0, 13), (41, 7), (41, 8), (41, 9), (42, 1), (43, 0), (44, 0), (45, 0), (46, 1), (47, 0), (48, 0), (49, 0), (50, 0), (51, 0), (52, 1), (53, 0), (54, 0), (55, 0), (56, 0), (57, 0), (58, 0), (59, 0), (63, 1), (64, 0)]) hMm (Fr.sub hFh34 rfl) rfl) (ISn.fr (T := [(0, 13), (41, 7), (41, 8), (41, 9), (42, 1), (43, 0), (44, 0), (45, 0), (46, 1), (47, 0), (48, 0), (49, 0), (50, 0), (51, 0), (52, 1), (53, 0), (54, 0), (55, 0), (56, 0), (57, 0), (58, 0), (59, 0), (63, 1), (64, 0)]) hIS (Fr.sub hFh34 rfl) rfl)) dL_law_1150 mi_X12_keep in_X12_keep se_X12_keep ml_L_131 rfl rfl rfl sh_98 rfl rfl (Nat.le_of_ble_eq_true rfl) (fun v53 h54 q55 => ?_)
  obtain ⟨hMh54, hFh54, bv53, cv53, zav53, zbv53, zcv53, zdv53, zev53, z56⟩ := q55
  refine g_pop dL_law_1153 rfl ?_
  refine g_goto 1216 dL_law_1154 (by decide) ?_
  have q57 : h54 2 0 = v1 := ((hFh54 2 0 rfl).trans ((hFh34 2 0 rfl).trans ev1.symm))
  have q58 : h54 6 0 = v2 := ((hFh54 6 0 rfl).trans ((hFh34 6 0 rfl).trans ev2.symm))
  have q59 : h54 12 0 = v3 := ((hFh54 12 0 rfl).trans ((hFh34 12 0 rfl).trans ev3.symm))
  have q60 : h54 42 0 = v40 := ((hFh54 42 0 rfl).trans ev40.symm)
  have q61 : h54 46 0 = v41 := ((hFh54 46 0 rfl).trans ev41.symm)
  have q62 : h54 52 0 = v42 := ((hFh54 52 0 rfl).trans ev42.symm)
  have q63 : h54 0 12 = v43 := ((hFh54 0 12 rfl).trans ev43.symm)
  have q64 : h54 98 2 = v8 := ((hFh54 98 2 rfl).trans ((hFh34 98 2 rfl).trans ev8.symm))
  have q65 : h54 98 3 = v9 := ((hFh54 98 3 rfl).trans ((hFh34 98 3 rfl).trans ev9.symm))
  have q66 : h54 98 4 = v10 := ((hFh54 98 4 rfl).trans ((hFh34 98 4 rfl).trans ev10.symm))
  have q67 : h54 98 5 = v11 := ((hFh54 98 5 rfl).trans ((hFh34 98 5 rfl).trans ev11.symm))
  obtain ⟨v68, ev68⟩ : ∃ z, z = h54 145 6 := ⟨_, rfl⟩
  have bv68 : 0 ≤ v68 ∧ v68 ≤ 10 := by rw [ev68]; exact (m_145_6 hMh54)
  obtain ⟨v69, ev69⟩ : ∃ z, z = h54 145 7 := ⟨_, rfl⟩
  have bv69 : 0 ≤ v69 ∧ v69 ≤ 8 := by rw [ev69]; exact (m_145_7 hMh54)
  obtain ⟨v70, ev70⟩ : ∃ z, z = h54 145 8 := ⟨_, rfl⟩
  have bv70 : 0 ≤ v70 ∧ v70 ≤ 8 := by rw [ev70]; exact (m_145_8 hMh54)
  obtain ⟨v71, ev71⟩ : ∃ z, z = h54 145 9 := ⟨_, rfl⟩
  have bv71 : 0 ≤ v71 ∧ v71 ≤ 2000000000 := by rw [ev71]; exact (m_145_9 hMh54)
  obtain ⟨v72, ev72⟩ : ∃ z, z = h54 98 79 := ⟨_, rfl⟩
  have bv72 : 0 ≤ v72 ∧ v72 ≤ 1 := by rw [ev72]; exact (m_98_79 hMh54)
  exact kk _ ⟨⟨(MBx.fr (T := [(98, 80), (130, 0), (131, 0), (132, 0), (133, 0), (134, 0), (135, 0), (136, 0), (137, 0), (138, 0), (139, 0), (140, 0), (141, 0), (142, 0), (143, 0), (144, 0), (145, 7), (145, 8), (145, 9), (145, 10), (145, 11), (145, 12)]) hMh34 (Fr.sub hFh54 rfl) rfl), hMh54, (LD.fr (T := [(0, 13), (41, 7), (41, 8), (41, 9), (42, 1), (43, 0), (44, 0), (45, 0), (46, 1), (47, 0), (48, 0), (49, 0), (50, 0), (51, 0), (52, 1), (53, 0), (54, 0), (55, 0), (56, 0), (57, 0), (58, 0), (59, 0), (63, 1), (64, 0), (98, 80), (130, 0), (131, 0), (132, 0), (133, 0), (134, 0), (135, 0), (136, 0), (137, 0), (138, 0), (139, 0), (140, 0), (141, 0), (142, 0), (143, 0), (144, 0), (145, 7), (145, 8), (145, 9), (145, 10), (145, 11), (145, 12)]) hLD (Fr.tr (Fr.sub hFh34 rfl) hFh54 rfl) rfl), (WFL.fr (T := [(0, 13), (41, 7), (41, 8), (41, 9), (42, 1), (43, 0), (44, 0), (45, 0), (46, 1), (47, 0), (48, 0), (49, 0), (50, 0), (51, 0), (52, 1), (53, 0), (54, 0), (55, 0), (56, 0), (57, 0), (58, 0), (59, 0), (63, 1), (64, 0), (98, 80), (130, 0), (131, 0), (132, 0), (133, 0), (134, 0), (135, 0), (136, 0), (137, 0), (138, 0), (139, 0), (140, 0), (141, 0), (142, 0), (143, 0), (144, 0), (145, 7), (145, 8), (145, 9), (145, 10), (145, 11), (145, 12)]) hWF (Fr.tr (Fr.sub hFh34 rfl) hFh54 rfl) rfl)⟩, by omega, gi, gi, (ASn.fr (T := [(0, 13), (41, 7), (41, 8), (41, 9), (42, 1), (43, 0), (44, 0), (45, 0), (46, 1), (47, 0), (48, 0), (49, 0), (50, 0), (51, 0), (52, 1), (53, 0), (54, 0), (55, 0), (56, 0), (57, 0), (58, 0), (59, 0), (63, 1), (64, 0), (98, 80), (130, 0), (131, 0), (132, 0), (133, 0), (134, 0), (135, 0), (136, 0), (137, 0), (138, 0), (139, 0), (140, 0), (141, 0), (142, 0), (143, 0), (144, 0), (145, 7), (145, 8), (145, 9), (145, 10), (145, 11), (145, 12)]) hXW (Fr.tr (Fr.sub hFh34 rfl) hFh54 rfl) rfl), (ISn.fr (T := [(0, 13), (41, 7), (41, 8), (41, 9), (42, 1), (43, 0), (44, 0), (45, 0), (46, 1), (47, 0), (48, 0), (49, 0), (50, 0), (51, 0), (52, 1), (53, 0), (54, 0), (55, 0), (56, 0), (57, 0), (58, 0), (59, 0), (63, 1), (64, 0), (98, 80), (130, 0), (131, 0), (132, 0), (133, 0), (134, 0), (135, 0), (136, 0), (137, 0), (138, 0), (139, 0), (140, 0), (141, 0), (142, 0), (143, 0), (144, 0), (145, 7), (145, 8), (145, 9), (145, 10), (145, 11), (145, 12)]) hIS (Fr.tr (Fr.sub hFh34 rfl) hFh54 rfl) rfl), (ASn.fr (T := [(98, 80), (130, 0), (131, 0), (132, 0), (133, 0), (134, 0), (135, 0), (136, 0), (137, 0), (138, 0), (139, 0), (140, 0), (141, 0), (142, 0), (143, 0), (144, 0), (145, 7), (145, 8), (145, 9), (145, 10), (145, 11), (145, 12)]) z36 (Fr.sub hFh54 rfl) rfl), z56⟩
set_option maxRecDepth 100000 in
set_option maxHeartbeats 8000000 in
theorem law_case_27 (xs : List Int) (Po : Option PV → List SE → MEM → Prop) (i : Int) (h : MEM) (I : INV i h) (hi : i + 6 ≤ xs.length) (hN : xs.length ≤ 3072) (kk : ∀ h' : MEM, INV (i + 6) h' → G x cL_law 4 (some .boolean) (some xs) Po (2048, 84000, 600000, 7302250) 1216 [some pX, some (pR 0), some (pR 98), some (pI i)] [] SH h' 151 10868) : G x cL_law 4 (some .boolean) (some xs) Po (2048, 84000, 600000, 7302250) 1157 [some pX, some (pR 0), some (pR 98), some (pI i)] [] SH h 151 10868 := by
  obtain ⟨⟨hX, hMm, hLD, hWF⟩, hI, gi, gs, hXW, hIS, hXK, hS1⟩ := I
  obtain ⟨v1, ev1⟩ : ∃ z, z = h 2 0 := ⟨_, rfl⟩
  have bv1 : 0 ≤ v1 ∧ v1 ≤ 10 := by rw [ev1]; exact (m_2_0 hX)
  obtain ⟨v2, ev2⟩ : ∃ z, z = h 6 0 := ⟨_, rfl⟩
  have bv2 : 0 ≤ v2 ∧ v2 ≤ 8 := by rw [ev2]; exact (m_6_0 hX)
  obtain ⟨v3, ev3⟩ : ∃ z, z = h 12 0 := ⟨_, rfl⟩
  have bv3 : 0 ≤ v3 ∧ v3 ≤ 8 := by rw [ev3]; exact (m_12_0 hX)
  obtain ⟨v4, ev4⟩ : ∃ z, z = h 42 0 := ⟨_, rfl⟩
  have bv4 : 0 ≤ v4 ∧ v4 ≤ 10 := by rw [ev4]; exact (m_42_0 hX)
  obtain ⟨v5, ev5⟩ : ∃ z, z = h 46 0 := ⟨_, rfl⟩
  have bv5 : 0 ≤ v5 ∧ v5 ≤ 8 := by rw [ev5]; exact (m_46_0 hX)
  obtain ⟨v6, ev6⟩ : ∃ z, z = h 52 0 := ⟨_, rfl⟩
  have bv6 : 0 ≤ v6 ∧ v6 ≤ 8 := by rw [ev6]; exact (m_52_0 hX)
  obtain ⟨v7, ev7⟩ : ∃ z, z = h 0 12 := ⟨_, rfl⟩
  have bv7 : 0 ≤ v7 ∧ v7 ≤ 1 := by rw [ev7]; exact (m_0_12 hX)
  obtain ⟨v8, ev8⟩ : ∃ z, z = h 98 2 := ⟨_, rfl⟩
  have bv8 : 0 ≤ v8 ∧ v8 ≤ 10 := by rw [ev8]; exact (m_98_2 hMm)
  obtain ⟨v9, ev9⟩ : ∃ z, z = h 98 3 := ⟨_, rfl⟩
  have bv9 : 0 ≤ v9 ∧ v9 ≤ 8 := by rw [ev9]; exact (m_98_3 hMm)
  obtain ⟨v10, ev10⟩ : ∃ z, z = h 98 4 := ⟨_, rfl⟩
  have bv10 : 0 ≤ v10 ∧ v10 ≤ 8 := by rw [ev10]; exact (m_98_4 hMm)
  obtain ⟨v11, ev11⟩ : ∃ z, z = h 98 5 := ⟨_, rfl⟩
  have bv11 : 0 ≤ v11 ∧ v11 ≤ 2000000000 := by rw [ev11]; exact (m_98_5 hMm)
  obtain ⟨v12, ev12⟩ : ∃ z, z = h 145 6 := ⟨_, rfl⟩
  have bv12 : 0 ≤ v12 ∧ v12 ≤ 10 := by rw [ev12]; exact (m_145_6 hMm)
  obtain ⟨v13, ev13⟩ : ∃ z, z = h 145 7 := ⟨_, rfl⟩
  have bv13 : 0 ≤ v13 ∧ v13 ≤ 8 := by rw [ev13]; exact (m_145_7 hMm)
  obtain ⟨v14, ev14⟩ : ∃ z, z = h 145 8 := ⟨_, rfl⟩
  have bv14 : 0 ≤ v14 ∧ v14 ≤ 8 := by rw [ev14]; exact (m_145_8 hMm)
  obtain ⟨v15, ev15⟩ : ∃ z, z = h 145 9 := ⟨_, rfl⟩
  have bv15 : 0 ≤ v15 ∧ v15 ≤ 2000000000 := by rw [ev15]; exact (m_145_9 hMm)
  obtain ⟨v16, ev16⟩ : ∃ z, z = h 98 79 := ⟨_, rfl⟩
  have bv16 : 0 ≤ v16 ∧ v16 ≤ 1 := by rw [ev16]; exact (m_98_79 hMm)
  refine g_aload_n dL_law_1157 rfl ?_
  have q17 : h 2 0 = v1 := ev1.symm
  have q18 : h 6 0 = v2 := ev2.symm
  have q19 : h 12 0 = v3 := ev3.symm
  have q20 : h 42 0 = v4 := ev4.symm
  have q21 : h 46 0 = v5 := ev5.symm
  have q22 : h 52 0 = v6 := ev6.symm
  have q23 : h 0 12 = v7 := ev7.symm
  have q24 : h 98 2 = v8 := ev8.symm
  have q25 : h 98 3 = v9 := ev9.symm
  have q26 : h 98 4 = v10 := ev10.symm
  have q27 : h 98 5 = v11 := ev11.symm
  have q28 : h 145 6 = v12 := ev12.symm
  have q29 : h 145 7 = v13 := ev13.symm
  have q30 : h 145 8 = v14 := ev14.symm
  have q31 : h 145 9 = v15 := ev15.symm
  have q32 : h 98 79 = v16 := ev16.symm
  refine g_cV (as := []) (c_X11_undo_0 _ _ h hX hXW hXK) dL_law_1158 mi_X11_undo in_X11_undo se_X11_undo ml_L_132 rfl rfl rfl sh_0 rfl rfl (Nat.le_of_ble_eq_true rfl) (fun v33 h34 q35 => ?_)
  obtain ⟨hMh34, hFh34, bv33, cv33, zv33, uv33, wv33⟩ := q35
  refine g_pop dL_law_1161 rfl ?_
  refine g_aload_n dL_law_1162 rfl ?_
  obtain ⟨v36, ev36⟩ : ∃ z, z = h34 2 0 := ⟨_, rfl⟩
  have bv36 : 0 ≤ v36 ∧ v36 ≤ 10 := by rw [ev36]; exact (m_2_0 hMh34)
  obtain ⟨v37, ev37⟩ : ∃ z, z = h34 6 0 := ⟨_, rfl⟩
  have bv37 : 0 ≤ v37 ∧ v37 ≤ 8 := by rw [ev37]; exact (m_6_0 hMh34)
  obtain ⟨v38, ev38⟩ : ∃ z, z = h34 12 0 := ⟨_, rfl⟩
  have bv38 : 0 ≤ v38 ∧ v38 ≤ 8 := by rw [ev38]; exact (m_12_0 hMh34)
  have q39 : h34 42 0 = v4 := ((hFh34 42 0 rfl).trans ev4.symm)
  have q40 : h34 46 0 = v5 := ((hFh34 46 0 rfl).trans ev5.symm)
  have q41 : h34 52 0 = v6 := ((hFh34 52 0 rfl).trans ev6.symm)
  have q42 : h34 0 12 = v7 := ((hFh34 0 12 rfl).trans ev7.symm)
  have q43 : h34 98 2 = v8 := ((hFh34 98 2 rfl).trans ev8.symm)
  have q44 : h34 98 3 = v9 := ((hFh34 98 3 rfl).trans ev9.symm)
  have q45 : h34 98 4 = v10 := ((hFh34 98 4 rfl).trans ev10.symm)
  have q46 : h34 98 5 = v11 := ((hFh34 98 5 rfl).trans ev11.symm)
  have q47 : h34 145 6 = v12 := ((hFh34 145 _ rfl).trans ev12.symm)
  have q48 : h34 145 7 = v13 := ((hFh34 145 _ rfl).trans ev13.symm)
  have q49 : h34 145 8 = v14 := ((hFh34 145 _ rfl).trans ev14.symm)
  have q50 : h34 145 9 = v15 := ((hFh34 145 _ rfl).trans ev15.symm)
  have q51 : h34 98 79 = v16 := ((hFh34 98 79 rfl).trans ev16.symm)
  refine g_cV (as := []) (c_X12_undo_98 _ _ h34 (MBm.fr (T := [(1, 7), (1, 8), (1, 9), (2, 1), (3, 0), (4, 0), (5, 0), (6, 1), (7, 0), (8, 0), (9, 0), (10, 0), (11, 0), (12, 1), (13, 0), (14, 0), (15, 0), (16, 0), (17, 0), (18, 0), (19, 0), (61, 1), (62, 0)]) hMm (Fr.sub hFh34 rfl) rfl) (ISn.fr (T := [(1, 7), (1, 8), (1, 9), (2, 1), (3, 0), (4, 0), (5, 0), (6, 1), (7, 0), (8, 0), (9, 0), (10, 0), (11, 0), (12, 1), (13, 0), (14, 0), (15, 0), (16, 0), (17, 0), (18, 0), (19, 0), (61, 1), (62, 0)]) hIS (Fr.sub hFh34 rfl) rfl) (S1n.fr (T := [(1, 7), (1, 8), (1, 9), (2, 1), (3, 0), (4, 0), (5, 0), (6, 1), (7, 0), (8, 0), (9, 0), (10, 0), (11, 0), (12, 1), (13, 0), (14, 0), (15, 0), (16, 0), (17, 0), (18, 0), (19, 0), (61, 1), (62, 0)]) hS1 (Fr.sub hFh34 rfl) rfl)) dL_law_1163 mi_X12_undo in_X12_undo se_X12_undo ml_L_136 rfl rfl rfl sh_98 rfl rfl (Nat.le_of_ble_eq_true rfl) (fun v52 h53 q54 => ?_)
  obtain ⟨hMh53, hFh53, bv52, cv52, zv52, uv52, wv52⟩ := q54
  refine g_pop dL_law_1166 rfl ?_
  refine g_goto 1216 dL_law_1167 (by decide) ?_
  have q55 : h53 2 0 = v36 := ((hFh53 2 0 rfl).trans ev36.symm)
  have q56 : h53 6 0 = v37 := ((hFh53 6 0 rfl).trans ev37.symm)
  have q57 : h53 12 0 = v38 := ((hFh53 12 0 rfl).trans ev38.symm)
  have q58 : h53 42 0 = v4 := ((hFh53 42 0 rfl).trans ((hFh34 42 0 rfl).trans ev4.symm))
  have q59 : h53 46 0 = v5 := ((hFh53 46 0 rfl).trans ((hFh34 46 0 rfl).trans ev5.symm))
  have q60 : h53 52 0 = v6 := ((hFh53 52 0 rfl).trans ((hFh34 52 0 rfl).trans ev6.symm))
  have q61 : h53 0 12 = v7 := ((hFh53 0 12 rfl).trans ((hFh34 0 12 rfl).trans ev7.symm))
  obtain ⟨v62, ev62⟩ : ∃ z, z = h53 98 2 := ⟨_, rfl⟩
  have bv62 : 0 ≤ v62 ∧ v62 ≤ 10 := by rw [ev62]; exact (m_98_2 hMh53)
  obtain ⟨v63, ev63⟩ : ∃ z, z = h53 98 3 := ⟨_, rfl⟩
  have bv63 : 0 ≤ v63 ∧ v63 ≤ 8 := by rw [ev63]; exact (m_98_3 hMh53)
  obtain ⟨v64, ev64⟩ : ∃ z, z = h53 98 4 := ⟨_, rfl⟩
  have bv64 : 0 ≤ v64 ∧ v64 ≤ 8 := by rw [ev64]; exact (m_98_4 hMh53)
  obtain ⟨v65, ev65⟩ : ∃ z, z = h53 98 5 := ⟨_, rfl⟩
  have bv65 : 0 ≤ v65 ∧ v65 ≤ 2000000000 := by rw [ev65]; exact (m_98_5 hMh53)
  have q66 : h53 145 6 = v12 := ((hFh53 145 _ rfl).trans ((hFh34 145 _ rfl).trans ev12.symm))
  have q67 : h53 145 7 = v13 := ((hFh53 145 _ rfl).trans ((hFh34 145 _ rfl).trans ev13.symm))
  have q68 : h53 145 8 = v14 := ((hFh53 145 _ rfl).trans ((hFh34 145 _ rfl).trans ev14.symm))
  have q69 : h53 145 9 = v15 := ((hFh53 145 _ rfl).trans ((hFh34 145 _ rfl).trans ev15.symm))
  have q70 : h53 98 79 = v16 := ((hFh53 98 79 rfl).trans ((hFh34 98 79 rfl).trans ev16.symm))
  rcases (show h 0 12 = 0 ∨ h 0 12 = 1 by omega) with qk | qk
  · skip
    exact kk _ ⟨⟨(MBx.fr (T := [(98, 3), (98, 4), (98, 5), (98, 6), (98, 7), (98, 8), (100, 0), (101, 0), (102, 0), (103, 0), (104, 0), (105, 0), (106, 0), (107, 0), (108, 0), (109, 0), (110, 0), (111, 0), (112, 0), (113, 0), (114, 0)]) hMh34 (Fr.sub hFh53 rfl) rfl), hMh53, (LD.fr (T := [(1, 7), (1, 8), (1, 9), (2, 1), (3, 0), (4, 0), (5, 0), (6, 1), (7, 0), (8, 0), (9, 0), (10, 0), (11, 0), (12, 1), (13, 0), (14, 0), (15, 0), (16, 0), (17, 0), (18, 0), (19, 0), (61, 1), (62, 0), (98, 3), (98, 4), (98, 5), (98, 6), (98, 7), (98, 8), (100, 0), (101, 0), (102, 0), (103, 0), (104, 0), (105, 0), (106, 0), (107, 0), (108, 0), (109, 0), (110, 0), (111, 0), (112, 0), (113, 0), (114, 0)]) hLD (Fr.tr (Fr.sub hFh34 rfl) hFh53 rfl) rfl), (WFL.fr (T := [(1, 7), (1, 8), (1, 9), (2, 1), (3, 0), (4, 0), (5, 0), (6, 1), (7, 0), (8, 0), (9, 0), (10, 0), (11, 0), (12, 1), (13, 0), (14, 0), (15, 0), (16, 0), (17, 0), (18, 0), (19, 0), (61, 1), (62, 0), (98, 3), (98, 4), (98, 5), (98, 6), (98, 7), (98, 8), (100, 0), (101, 0), (102, 0), (103, 0), (104, 0), (105, 0), (106, 0), (107, 0), (108, 0), (109, 0), (110, 0), (111, 0), (112, 0), (113, 0), (114, 0)]) hWF (Fr.tr (Fr.sub hFh34 rfl) hFh53 rfl) rfl)⟩, by omega, gi, gs, (ASn.fr (T := [(98, 3), (98, 4), (98, 5), (98, 6), (98, 7), (98, 8), (100, 0), (101, 0), (102, 0), (103, 0), (104, 0), (105, 0), (106, 0), (107, 0), (108, 0), (109, 0), (110, 0), (111, 0), (112, 0), (113, 0), (114, 0)]) (wv33 (by omega)) (Fr.sub hFh53 rfl) rfl), (wv52 (by omega)), (ASn.fr (T := [(1, 7), (1, 8), (1, 9), (2, 1), (3, 0), (4, 0), (5, 0), (6, 1), (7, 0), (8, 0), (9, 0), (10, 0), (11, 0), (12, 1), (13, 0), (14, 0), (15, 0), (16, 0), (17, 0), (18, 0), (19, 0), (61, 1), (62, 0), (98, 3), (98, 4), (98, 5), (98, 6), (98, 7), (98, 8), (100, 0), (101, 0), (102, 0), (103, 0), (104, 0), (105, 0), (106, 0), (107, 0), (108, 0), (109, 0), (110, 0), (111, 0), (112, 0), (113, 0), (114, 0)]) hXK (Fr.tr (Fr.sub hFh34 rfl) hFh53 rfl) rfl), (S1n.fr (T := [(1, 7), (1, 8), (1, 9), (2, 1), (3, 0), (4, 0), (5, 0), (6, 1), (7, 0), (8, 0), (9, 0), (10, 0), (11, 0), (12, 1), (13, 0), (14, 0), (15, 0), (16, 0), (17, 0), (18, 0), (19, 0), (61, 1), (62, 0), (98, 3), (98, 4), (98, 5), (98, 6), (98, 7), (98, 8), (100, 0), (101, 0), (102, 0), (103, 0), (104, 0), (105, 0), (106, 0), (107, 0), (108, 0), (109, 0), (110, 0), (111, 0), (112, 0), (113, 0), (114, 0)]) hS1 (Fr.tr (Fr.sub hFh34 rfl) hFh53 rfl) rfl)⟩
  · skip
    exact kk _ ⟨⟨(MBx.fr (T := [(98, 3), (98, 4), (98, 5), (98, 6), (98, 7), (98, 8), (100, 0), (101, 0), (102, 0), (103, 0), (104, 0), (105, 0), (106, 0), (107, 0), (108, 0), (109, 0), (110, 0), (111, 0), (112, 0), (113, 0), (114, 0)]) hMh34 (Fr.sub hFh53 rfl) rfl), hMh53, (LD.fr (T := [(1, 7), (1, 8), (1, 9), (2, 1), (3, 0), (4, 0), (5, 0), (6, 1), (7, 0), (8, 0), (9, 0), (10, 0), (11, 0), (12, 1), (13, 0), (14, 0), (15, 0), (16, 0), (17, 0), (18, 0), (19, 0), (61, 1), (62, 0), (98, 3), (98, 4), (98, 5), (98, 6), (98, 7), (98, 8), (100, 0), (101, 0), (102, 0), (103, 0), (104, 0), (105, 0), (106, 0), (107, 0), (108, 0), (109, 0), (110, 0), (111, 0), (112, 0), (113, 0), (114, 0)]) hLD (Fr.tr (Fr.sub hFh34 rfl) hFh53 rfl) rfl), (WFL.fr (T := [(1, 7), (1, 8), (1, 9), (2, 1), (3, 0), (4, 0), (5, 0), (6, 1), (7, 0), (8, 0), (9, 0), (10, 0), (11, 0), (12, 1), (13, 0), (14, 0), (15, 0), (16, 0), (17, 0), (18, 0), (19, 0), (61, 1), (62, 0), (98, 3), (98, 4), (98, 5), (98, 6), (98, 7), (98, 8), (100, 0), (101, 0), (102, 0), (103, 0), (104, 0), (105, 0), (106, 0), (107, 0), (108, 0), (109, 0), (110, 0), (111, 0), (112, 0), (113, 0), (114, 0)]) hWF (Fr.tr (Fr.sub hFh34 rfl) hFh53 rfl) rfl)⟩, by omega, gs, gs, (ASn.fr (T := [(98, 3), (98, 4), (98, 5), (98, 6), (98, 7), (98, 8), (100, 0), (101, 0), (102, 0), (103, 0), (104, 0), (105, 0), (106, 0), (107, 0), (108, 0), (109, 0), (110, 0), (111, 0), (112, 0), (113, 0), (114, 0)]) (uv33 (by omega)) (Fr.sub hFh53 rfl) rfl), (uv52 (by omega)), (ASn.fr (T := [(1, 7), (1, 8), (1, 9), (2, 1), (3, 0), (4, 0), (5, 0), (6, 1), (7, 0), (8, 0), (9, 0), (10, 0), (11, 0), (12, 1), (13, 0), (14, 0), (15, 0), (16, 0), (17, 0), (18, 0), (19, 0), (61, 1), (62, 0), (98, 3), (98, 4), (98, 5), (98, 6), (98, 7), (98, 8), (100, 0), (101, 0), (102, 0), (103, 0), (104, 0), (105, 0), (106, 0), (107, 0), (108, 0), (109, 0), (110, 0), (111, 0), (112, 0), (113, 0), (114, 0)]) hXK (Fr.tr (Fr.sub hFh34 rfl) hFh53 rfl) rfl), (S1n.fr (T := [(1, 7), (1, 8), (1, 9), (2, 1), (3, 0), (4, 0), (5, 0), (6, 1), (7, 0), (8, 0), (9, 0), (10, 0), (11, 0), (12, 1), (13, 0), (14, 0), (15, 0), (16, 0), (17, 0), (18, 0), (19, 0), (61, 1), (62, 0), (98, 3), (98, 4), (98, 5), (98, 6), (98, 7), (98, 8), (100, 0), (101, 0), (102, 0), (103, 0), (104, 0), (105, 0), (106, 0), (107, 0), (108, 0), (109, 0), (110, 0), (111, 0), (112, 0), (113, 0), (114, 0)]) hS1 (Fr.tr (Fr.sub hFh34 rfl) hFh53 rfl) rfl)⟩
set_option maxRecDepth 100000 in
set_option maxHeartbeats 8000000 in
theorem law_case_28 (xs : List Int) (Po : Option PV → List SE → MEM → Prop) (i : Int) (h : MEM) (I : INV i h) (hi : i + 6 ≤ xs.length) (hN : xs.length ≤ 3072) (kk : ∀ h' : MEM, INV (i + 6) h' → G x cL_law 4 (some .boolean) (some xs) Po (2048, 84000, 600000, 7302250) 1216 [some pX, some (pR 0), some (pR 98), some (pI i)] [] SH h' 151 10868) : G x cL_law 4 (some .boolean) (some xs) Po (2048, 84000, 600000, 7302250) 1170 [some pX, some (pR 0), some (pR 98), some (pI i)] [] SH h 151 10868 := by
  obtain ⟨⟨hX, hMm, hLD, hWF⟩, hI, gi, gs, hXW, hIS, hXK, hS1⟩ := I
  obtain ⟨v1, ev1⟩ : ∃ z, z = h 2 0 := ⟨_, rfl⟩
  have bv1 : 0 ≤ v1 ∧ v1 ≤ 10 := by rw [ev1]; exact (m_2_0 hX)
  obtain ⟨v2, ev2⟩ : ∃ z, z = h 6 0 := ⟨_, rfl⟩
  have bv2 : 0 ≤ v2 ∧ v2 ≤ 8 := by rw [ev2]; exact (m_6_0 hX)
  obtain ⟨v3, ev3⟩ : ∃ z, z = h 12 0 := ⟨_, rfl⟩
  have bv3 : 0 ≤ v3 ∧ v3 ≤ 8 := by rw [ev3]; exact (m_12_0 hX)
  obtain ⟨v4, ev4⟩ : ∃ z, z = h 42 0 := ⟨_, rfl⟩
  have bv4 : 0 ≤ v4 ∧ v4 ≤ 10 := by rw [ev4]; exact (m_42_0 hX)
  obtain ⟨v5, ev5⟩ : ∃ z, z = h 46 0 := ⟨_, rfl⟩
  have bv5 : 0 ≤ v5 ∧ v5 ≤ 8 := by rw [ev5]; exact (m_46_0 hX)
  obtain ⟨v6, ev6⟩ : ∃ z, z = h 52 0 := ⟨_, rfl⟩
  have bv6 : 0 ≤ v6 ∧ v6 ≤ 8 := by rw [ev6]; exact (m_52_0 hX)
  obtain ⟨v7, ev7⟩ : ∃ z, z = h 0 12 := ⟨_, rfl⟩
  have bv7 : 0 ≤ v7 ∧ v7 ≤ 1 := by rw [ev7]; exact (m_0_12 hX)
  obtain ⟨v8, ev8⟩ : ∃ z, z = h 98 2 := ⟨_, rfl⟩
  have bv8 : 0 ≤ v8 ∧ v8 ≤ 10 := by rw [ev8]; exact (m_98_2 hMm)
  obtain ⟨v9, ev9⟩ : ∃ z, z = h 98 3 := ⟨_, rfl⟩
  have bv9 : 0 ≤ v9 ∧ v9 ≤ 8 := by rw [ev9]; exact (m_98_3 hMm)
  obtain ⟨v10, ev10⟩ : ∃ z, z = h 98 4 := ⟨_, rfl⟩
  have bv10 : 0 ≤ v10 ∧ v10 ≤ 8 := by rw [ev10]; exact (m_98_4 hMm)
  obtain ⟨v11, ev11⟩ : ∃ z, z = h 98 5 := ⟨_, rfl⟩
  have bv11 : 0 ≤ v11 ∧ v11 ≤ 2000000000 := by rw [ev11]; exact (m_98_5 hMm)
  obtain ⟨v12, ev12⟩ : ∃ z, z = h 145 6 := ⟨_, rfl⟩
  have bv12 : 0 ≤ v12 ∧ v12 ≤ 10 := by rw [ev12]; exact (m_145_6 hMm)
  obtain ⟨v13, ev13⟩ : ∃ z, z = h 145 7 := ⟨_, rfl⟩
  have bv13 : 0 ≤ v13 ∧ v13 ≤ 8 := by rw [ev13]; exact (m_145_7 hMm)
  obtain ⟨v14, ev14⟩ : ∃ z, z = h 145 8 := ⟨_, rfl⟩
  have bv14 : 0 ≤ v14 ∧ v14 ≤ 8 := by rw [ev14]; exact (m_145_8 hMm)
  obtain ⟨v15, ev15⟩ : ∃ z, z = h 145 9 := ⟨_, rfl⟩
  have bv15 : 0 ≤ v15 ∧ v15 ≤ 2000000000 := by rw [ev15]; exact (m_145_9 hMm)
  obtain ⟨v16, ev16⟩ : ∃ z, z = h 98 79 := ⟨_, rfl⟩
  have bv16 : 0 ≤ v16 ∧ v16 ≤ 1 := by rw [ev16]; exact (m_98_79 hMm)
  refine g_aload_n dL_law_1170 rfl ?_
  refine g_aloadX_n dL_law_1171 rfl ?_
  refine g_iload_n dL_law_1172 rfl (fun _ => ?_)
  refine g_iconst dL_law_1173 (inR_c rfl) ?_
  refine g_iaddB dL_law_1174 (by omega) (by omega) ?_
  refine g_sldB dL_law_1175 (by omega) (by omega) (fun v17 ev17 bv17 cv17 => ?_)
  have q18 : h 2 0 = v1 := ev1.symm
  have q19 : h 6 0 = v2 := ev2.symm
  have q20 : h 12 0 = v3 := ev3.symm
  have q21 : h 42 0 = v4 := ev4.symm
  have q22 : h 46 0 = v5 := ev5.symm
  have q23 : h 52 0 = v6 := ev6.symm
  have q24 : h 0 12 = v7 := ev7.symm
  have q25 : h 98 2 = v8 := ev8.symm
  have q26 : h 98 3 = v9 := ev9.symm
  have q27 : h 98 4 = v10 := ev10.symm
  have q28 : h 98 5 = v11 := ev11.symm
  have q29 : h 145 6 = v12 := ev12.symm
  have q30 : h 145 7 = v13 := ev13.symm
  have q31 : h 145 8 = v14 := ev14.symm
  have q32 : h 145 9 = v15 := ev15.symm
  have q33 : h 98 79 = v16 := ev16.symm
  refine g_cV (as := [_]) (c_X11_check_0 _ h hX (by omega) (by omega)) dL_law_1176 mi_X11_check in_X11_check se_X11_check ml_L_137 rfl rfl rfl sh_0 rfl rfl (Nat.le_of_ble_eq_true rfl) (fun v34 h35 q36 => ?_)
  obtain ⟨hMh35, hFh35, bv34, cv34⟩ := q36
  refine g_pop dL_law_1179 rfl ?_
  refine g_aload_n dL_law_1180 rfl ?_
  refine g_aloadX_n dL_law_1181 rfl ?_
  refine g_iload_n dL_law_1182 rfl (fun _ => ?_)
  refine g_iconst dL_law_1183 (inR_c rfl) ?_
  refine g_iaddB dL_law_1184 (by omega) (by omega) ?_
  refine g_sldE dL_law_1185 (by omega) (by omega) ev17 ?_
  have q37 : h35 2 0 = v1 := ((hFh35 2 0 rfl).trans ev1.symm)
  have q38 : h35 6 0 = v2 := ((hFh35 6 0 rfl).trans ev2.symm)
  have q39 : h35 12 0 = v3 := ((hFh35 12 0 rfl).trans ev3.symm)
  have q40 : h35 42 0 = v4 := ((hFh35 42 0 rfl).trans ev4.symm)
  have q41 : h35 46 0 = v5 := ((hFh35 46 0 rfl).trans ev5.symm)
  have q42 : h35 52 0 = v6 := ((hFh35 52 0 rfl).trans ev6.symm)
  have q43 : h35 0 12 = v7 := ((hFh35 0 12 rfl).trans ev7.symm)
  have q44 : h35 98 2 = v8 := ((hFh35 98 2 rfl).trans ev8.symm)
  have q45 : h35 98 3 = v9 := ((hFh35 98 3 rfl).trans ev9.symm)
  have q46 : h35 98 4 = v10 := ((hFh35 98 4 rfl).trans ev10.symm)
  have q47 : h35 98 5 = v11 := ((hFh35 98 5 rfl).trans ev11.symm)
  have q48 : h35 145 6 = v12 := ((hFh35 145 _ rfl).trans ev12.symm)
  have q49 : h35 145 7 = v13 := ((hFh35 145 _ rfl).trans ev13.symm)
  have q50 : h35 145 8 = v14 := ((hFh35 145 _ rfl).trans ev14.symm)
  have q51 : h35 145 9 = v15 := ((hFh35 145 _ rfl).trans ev15.symm)
  have q52 : h35 98 79 = v16 := ((hFh35 98 79 rfl).trans ev16.symm)
  refine g_cV (as := [_]) (c_X12_check_98 _ h35 (MBm.fr (T := [(61, 1)]) hMm (Fr.sub hFh35 rfl) rfl) (by omega) (by omega)) dL_law_1186 mi_X12_check in_X12_check se_X12_check ml_L_140 rfl rfl rfl sh_98 rfl rfl (Nat.le_of_ble_eq_true rfl) (fun v53 h54 q55 => ?_)
  obtain ⟨hMh54, hFh54, bv53, cv53⟩ := q55
  refine g_pop dL_law_1189 rfl ?_
  refine g_goto 1216 dL_law_1190 (by decide) ?_
  have q56 : h54 2 0 = v1 := ((hFh54 2 0 rfl).trans ((hFh35 2 0 rfl).trans ev1.symm))
  have q57 : h54 6 0 = v2 := ((hFh54 6 0 rfl).trans ((hFh35 6 0 rfl).trans ev2.symm))
  have q58 : h54 12 0 = v3 := ((hFh54 12 0 rfl).trans ((hFh35 12 0 rfl).trans ev3.symm))
  have q59 : h54 42 0 = v4 := ((hFh54 42 0 rfl).trans ((hFh35 42 0 rfl).trans ev4.symm))
  have q60 : h54 46 0 = v5 := ((hFh54 46 0 rfl).trans ((hFh35 46 0 rfl).trans ev5.symm))
  have q61 : h54 52 0 = v6 := ((hFh54 52 0 rfl).trans ((hFh35 52 0 rfl).trans ev6.symm))
  have q62 : h54 0 12 = v7 := ((hFh54 0 12 rfl).trans ((hFh35 0 12 rfl).trans ev7.symm))
  have q63 : h54 98 2 = v8 := ((hFh54 98 2 rfl).trans ((hFh35 98 2 rfl).trans ev8.symm))
  have q64 : h54 98 3 = v9 := ((hFh54 98 3 rfl).trans ((hFh35 98 3 rfl).trans ev9.symm))
  have q65 : h54 98 4 = v10 := ((hFh54 98 4 rfl).trans ((hFh35 98 4 rfl).trans ev10.symm))
  have q66 : h54 98 5 = v11 := ((hFh54 98 5 rfl).trans ((hFh35 98 5 rfl).trans ev11.symm))
  have q67 : h54 145 6 = v12 := ((hFh54 145 _ rfl).trans ((hFh35 145 _ rfl).trans ev12.symm))
  have q68 : h54 145 7 = v13 := ((hFh54 145 _ rfl).trans ((hFh35 145 _ rfl).trans ev13.symm))
  have q69 : h54 145 8 = v14 := ((hFh54 145 _ rfl).trans ((hFh35 145 _ rfl).trans ev14.symm))
  have q70 : h54 145 9 = v15 := ((hFh54 145 _ rfl).trans ((hFh35 145 _ rfl).trans ev15.symm))
  have q71 : h54 98 79 = v16 := ((hFh54 98 79 rfl).trans ((hFh35 98 79 rfl).trans ev16.symm))
  exact kk _ ⟨⟨(MBx.fr (T := [(98, 2)]) hMh35 (Fr.sub hFh54 rfl) rfl), hMh54, (LD.fr (T := [(61, 1), (98, 2)]) hLD (Fr.tr (Fr.sub hFh35 rfl) hFh54 rfl) rfl), (WFL.fr (T := [(61, 1), (98, 2)]) hWF (Fr.tr (Fr.sub hFh35 rfl) hFh54 rfl) rfl)⟩, by omega, gi, gs, (ASn.fr (T := [(61, 1), (98, 2)]) hXW (Fr.tr (Fr.sub hFh35 rfl) hFh54 rfl) rfl), (ISn.fr (T := [(61, 1), (98, 2)]) hIS (Fr.tr (Fr.sub hFh35 rfl) hFh54 rfl) rfl), (ASn.fr (T := [(61, 1), (98, 2)]) hXK (Fr.tr (Fr.sub hFh35 rfl) hFh54 rfl) rfl), (S1n.fr (T := [(61, 1), (98, 2)]) hS1 (Fr.tr (Fr.sub hFh35 rfl) hFh54 rfl) rfl)⟩
set_option maxRecDepth 100000 in
set_option maxHeartbeats 8000000 in
theorem law_case_29 (xs : List Int) (Po : Option PV → List SE → MEM → Prop) (i : Int) (h : MEM) (I : INV i h) (hi : i + 6 ≤ xs.length) (hN : xs.length ≤ 3072) (kk : ∀ h' : MEM, INV (i + 6) h' → G x cL_law 4 (some .boolean) (some xs) Po (2048, 84000, 600000, 7302250) 1216 [some pX, some (pR 0), some (pR 98), some (pI i)] [] SH h' 151 10868) : G x cL_law 4 (some .boolean) (some xs) Po (2048, 84000, 600000, 7302250) 1193 [some pX, some (pR 0), some (pR 98), some (pI i)] [] SH h 151 10868 := by
  obtain ⟨⟨hX, hMm, hLD, hWF⟩, hI, gi, gs, hXW, hIS, hXK, hS1⟩ := I
  obtain ⟨v1, ev1⟩ : ∃ z, z = h 2 0 := ⟨_, rfl⟩
  have bv1 : 0 ≤ v1 ∧ v1 ≤ 10 := by rw [ev1]; exact (m_2_0 hX)
  obtain ⟨v2, ev2⟩ : ∃ z, z = h 6 0 := ⟨_, rfl⟩
  have bv2 : 0 ≤ v2 ∧ v2 ≤ 8 := by rw [ev2]; exact (m_6_0 hX)
  obtain ⟨v3, ev3⟩ : ∃ z, z = h 12 0 := ⟨_, rfl⟩
  have bv3 : 0 ≤ v3 ∧ v3 ≤ 8 := by rw [ev3]; exact (m_12_0 hX)
  obtain ⟨v4, ev4⟩ : ∃ z, z = h 42 0 := ⟨_, rfl⟩
  have bv4 : 0 ≤ v4 ∧ v4 ≤ 10 := by rw [ev4]; exact (m_42_0 hX)
  obtain ⟨v5, ev5⟩ : ∃ z, z = h 46 0 := ⟨_, rfl⟩
  have bv5 : 0 ≤ v5 ∧ v5 ≤ 8 := by rw [ev5]; exact (m_46_0 hX)
  obtain ⟨v6, ev6⟩ : ∃ z, z = h 52 0 := ⟨_, rfl⟩
  have bv6 : 0 ≤ v6 ∧ v6 ≤ 8 := by rw [ev6]; exact (m_52_0 hX)
  obtain ⟨v7, ev7⟩ : ∃ z, z = h 0 12 := ⟨_, rfl⟩
  have bv7 : 0 ≤ v7 ∧ v7 ≤ 1 := by rw [ev7]; exact (m_0_12 hX)
  obtain ⟨v8, ev8⟩ : ∃ z, z = h 98 2 := ⟨_, rfl⟩
  have bv8 : 0 ≤ v8 ∧ v8 ≤ 10 := by rw [ev8]; exact (m_98_2 hMm)
  obtain ⟨v9, ev9⟩ : ∃ z, z = h 98 3 := ⟨_, rfl⟩
  have bv9 : 0 ≤ v9 ∧ v9 ≤ 8 := by rw [ev9]; exact (m_98_3 hMm)
  obtain ⟨v10, ev10⟩ : ∃ z, z = h 98 4 := ⟨_, rfl⟩
  have bv10 : 0 ≤ v10 ∧ v10 ≤ 8 := by rw [ev10]; exact (m_98_4 hMm)
  obtain ⟨v11, ev11⟩ : ∃ z, z = h 98 5 := ⟨_, rfl⟩
  have bv11 : 0 ≤ v11 ∧ v11 ≤ 2000000000 := by rw [ev11]; exact (m_98_5 hMm)
  obtain ⟨v12, ev12⟩ : ∃ z, z = h 145 6 := ⟨_, rfl⟩
  have bv12 : 0 ≤ v12 ∧ v12 ≤ 10 := by rw [ev12]; exact (m_145_6 hMm)
  obtain ⟨v13, ev13⟩ : ∃ z, z = h 145 7 := ⟨_, rfl⟩
  have bv13 : 0 ≤ v13 ∧ v13 ≤ 8 := by rw [ev13]; exact (m_145_7 hMm)
  obtain ⟨v14, ev14⟩ : ∃ z, z = h 145 8 := ⟨_, rfl⟩
  have bv14 : 0 ≤ v14 ∧ v14 ≤ 8 := by rw [ev14]; exact (m_145_8 hMm)
  obtain ⟨v15, ev15⟩ : ∃ z, z = h 145 9 := ⟨_, rfl⟩
  have bv15 : 0 ≤ v15 ∧ v15 ≤ 2000000000 := by rw [ev15]; exact (m_145_9 hMm)
  obtain ⟨v16, ev16⟩ : ∃ z, z = h 98 79 := ⟨_, rfl⟩
  have bv16 : 0 ≤ v16 ∧ v16 ≤ 1 := by rw [ev16]; exact (m_98_79 hMm)
  refine g_aload_n dL_law_1193 rfl ?_
  refine g_aloadX_n dL_law_1194 rfl ?_
  refine g_iload_n dL_law_1195 rfl (fun _ => ?_)
  refine g_iconst dL_law_1196 (inR_c rfl) ?_
  refine g_iaddB dL_law_1197 (by omega) (by omega) ?_
  refine g_sldB dL_law_1198 (by omega) (by omega) (fun v17 ev17 bv17 cv17 => ?_)
  have q18 : h 2 0 = v1 := ev1.symm
  have q19 : h 6 0 = v2 := ev2.symm
  have q20 : h 12 0 = v3 := ev3.symm
  have q21 : h 42 0 = v4 := ev4.symm
  have q22 : h 46 0 = v5 := ev5.symm
  have q23 : h 52 0 = v6 := ev6.symm
  have q24 : h 0 12 = v7 := ev7.symm
  have q25 : h 98 2 = v8 := ev8.symm
  have q26 : h 98 3 = v9 := ev9.symm
  have q27 : h 98 4 = v10 := ev10.symm
  have q28 : h 98 5 = v11 := ev11.symm
  have q29 : h 145 6 = v12 := ev12.symm
  have q30 : h 145 7 = v13 := ev13.symm
  have q31 : h 145 8 = v14 := ev14.symm
  have q32 : h 145 9 = v15 := ev15.symm
  have q33 : h 98 79 = v16 := ev16.symm
  refine g_cVP (as := [_]) (c_X11_count_0 _ h hX (by omega) (by omega) hLD) dL_law_1199 mi_X11_count in_X11_count se_X11_count ml_L_141 rfl rfl rfl sh_0 rfl rfl (Nat.le_of_ble_eq_true rfl) (fun v34 q35 => ?_)
  obtain ⟨bv34, cv34⟩ := q35
  refine g_pop dL_law_1202 rfl ?_
  refine g_aload_n dL_law_1203 rfl ?_
  refine g_aloadX_n dL_law_1204 rfl ?_
  refine g_iload_n dL_law_1205 rfl (fun _ => ?_)
  refine g_iconst dL_law_1206 (inR_c rfl) ?_
  refine g_iaddB dL_law_1207 (by omega) (by omega) ?_
  refine g_sldE dL_law_1208 (by omega) (by omega) ev17 ?_
  have q36 : h 2 0 = v1 := ev1.symm
  have q37 : h 6 0 = v2 := ev2.symm
  have q38 : h 12 0 = v3 := ev3.symm
  have q39 : h 42 0 = v4 := ev4.symm
  have q40 : h 46 0 = v5 := ev5.symm
  have q41 : h 52 0 = v6 := ev6.symm
  have q42 : h 0 12 = v7 := ev7.symm
  have q43 : h 98 2 = v8 := ev8.symm
  have q44 : h 98 3 = v9 := ev9.symm
  have q45 : h 98 4 = v10 := ev10.symm
  have q46 : h 98 5 = v11 := ev11.symm
  have q47 : h 145 6 = v12 := ev12.symm
  have q48 : h 145 7 = v13 := ev13.symm
  have q49 : h 145 8 = v14 := ev14.symm
  have q50 : h 145 9 = v15 := ev15.symm
  have q51 : h 98 79 = v16 := ev16.symm
  refine g_cVP (as := [_]) (c_X12_count_98 _ h hMm (by omega) (by omega)) dL_law_1209 mi_X12_count in_X12_count se_X12_count ml_L_144 rfl rfl rfl sh_98 rfl rfl (Nat.le_of_ble_eq_true rfl) (fun v52 q53 => ?_)
  obtain ⟨bv52, cv52⟩ := q53
  refine g_pop dL_law_1212 rfl ?_
  refine g_goto 1216 dL_law_1213 (by decide) ?_
  have q54 : h 2 0 = v1 := ev1.symm
  have q55 : h 6 0 = v2 := ev2.symm
  have q56 : h 12 0 = v3 := ev3.symm
  have q57 : h 42 0 = v4 := ev4.symm
  have q58 : h 46 0 = v5 := ev5.symm
  have q59 : h 52 0 = v6 := ev6.symm
  have q60 : h 0 12 = v7 := ev7.symm
  have q61 : h 98 2 = v8 := ev8.symm
  have q62 : h 98 3 = v9 := ev9.symm
  have q63 : h 98 4 = v10 := ev10.symm
  have q64 : h 98 5 = v11 := ev11.symm
  have q65 : h 145 6 = v12 := ev12.symm
  have q66 : h 145 7 = v13 := ev13.symm
  have q67 : h 145 8 = v14 := ev14.symm
  have q68 : h 145 9 = v15 := ev15.symm
  have q69 : h 98 79 = v16 := ev16.symm
  exact kk _ ⟨⟨hX, hMm, hLD, hWF⟩, by omega, gi, gs, hXW, hIS, hXK, hS1⟩
