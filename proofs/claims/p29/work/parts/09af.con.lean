set_option maxRecDepth 100000 in
set_option maxHeartbeats 4000000 in
theorem c_X12_free_98 (x1 x2 x3 : Int) (gi gs : Nat → Int) (h : MEM) (hM : MBm h) (bx1 : -2147483648 ≤ x1) (dx1 : x1 ≤ 2147483647) (bx2 : -2147483648 ≤ x2) (dx2 : x2 ≤ 2147483647) (bx3 : -2147483648 ≤ x3) (dx3 : x3 ≤ 2147483647) (p0_0 : 0 ≤ h 98 5) (p0_1 : h 98 5 ≤ 999600) (f_WFL : WFL h) (f_IS : ISn gi h) (f_S1 : S1n gs h) : CI yX12_free cX12_free 11 (some .int) 9 [pR 98, pI x1, pI x2, pI x3] h (fun x h' => MBm h' ∧ Fr [(98, 3), (98, 4), (98, 5), (98, 6), (98, 7), (98, 8), (98, 47), (98, 48), (98, 49), (98, 52), (98, 53), (98, 54), (98, 55), (100, 0), (101, 0), (102, 0), (103, 0), (104, 0), (105, 0), (106, 0), (107, 0), (108, 0), (109, 0), (110, 0), (111, 0), (112, 0), (113, 0), (114, 0), (128, 0), (129, 0), (130, 0), (131, 0), (132, 0), (133, 0), (134, 0), (135, 0), (136, 0), (137, 0), (138, 0), (139, 0), (140, 0), (141, 0), (142, 0), (143, 0), (144, 0), (145, 1), (145, 2), (145, 3), (145, 4), (145, 5), (145, 6)] h h' ∧ -2147483648 ≤ x ∧ x ≤ 2147483647 ∧ ISn gi h' ∧ S1n gs h' ∧ h' 98 2 = h 98 2 ∧ h' 98 3 = h 98 3 ∧ h' 98 4 = h 98 4 ∧ h' 98 5 = h 98 5) := by
  refine CI.of (L0 := [some (pR 98), some (pI x1), some (pI x2), some (pI x3), none, none, none, none, none, none, none]) rfl (Nat.le_of_ble_eq_true rfl) rfl (fun Po hPo hav => ?_)
  obtain ⟨v1, ev1⟩ : ∃ z, z = h 98 2 := ⟨_, rfl⟩
  have bv1 : 0 ≤ v1 ∧ v1 ≤ 10 := by rw [ev1]; exact (m_98_2 hM)
  obtain ⟨v2, ev2⟩ : ∃ z, z = h 98 3 := ⟨_, rfl⟩
  have bv2 : 0 ≤ v2 ∧ v2 ≤ 8 := by rw [ev2]; exact (m_98_3 hM)
  obtain ⟨v3, ev3⟩ : ∃ z, z = h 98 4 := ⟨_, rfl⟩
  have bv3 : 0 ≤ v3 ∧ v3 ≤ 8 := by rw [ev3]; exact (m_98_4 hM)
  obtain ⟨v4, ev4⟩ : ∃ z, z = h 98 5 := ⟨_, rfl⟩
  have bv4 : 0 ≤ v4 ∧ v4 ≤ 2000000000 := by rw [ev4]; exact (m_98_5 hM)
  obtain ⟨w98_5, ew98_5⟩ : ∃ z, z = h 98 5 := ⟨_, rfl⟩
  have q5 : h 98 2 = v1 := ev1.symm
  have q6 : h 98 3 = v2 := ev2.symm
  have q7 : h 98 4 = v3 := ev3.symm
  have q8 : h 98 5 = w98_5 := ew98_5.symm
  refine g_iload_n dX12_free_0 rfl (fun _ => ?_)
  refine g_i2l dX12_free_1 ?_
  refine g_lconst (v := 1) dX12_free_2 rfl ?_
  refine g_ldc2 (v := 8) dX12_free_3 kl_X12_461 (by decide) ?_
  refine g_cSP (av := [_, _, _]) (c_X12_lies _ _ _ h hM (by omega) (by omega) (by omega) (by omega) (by omega) (by omega)) dX12_free_6 mi_X12_lies st_X12_lies ml_X12_175 rfl rfl rfl rfl (Nat.le_of_ble_eq_true rfl) (fun v9 q10 => ?_)
  rcases q10 with ⟨rfl, q10⟩ | ⟨rfl, q10⟩
  · skip
    refine g_if_eq 36 dX12_free_9 (by decide) (fun _ => by exfalso; omega) (fun q11 => ?_)
    refine g_iload_n dX12_free_12 rfl (fun _ => ?_)
    refine g_i2l dX12_free_13 ?_
    refine g_lconst (v := 0) dX12_free_14 rfl ?_
    refine g_ldc2 (v := 8) dX12_free_15 kl_X12_461 (by decide) ?_
    refine g_cSP (av := [_, _, _]) (c_X12_lies _ _ _ h hM (by omega) (by omega) (by omega) (by omega) (by omega) (by omega)) dX12_free_18 mi_X12_lies st_X12_lies ml_X12_175 rfl rfl rfl rfl (Nat.le_of_ble_eq_true rfl) (fun v12 q13 => ?_)
    rcases q13 with ⟨rfl, q13⟩ | ⟨rfl, q13⟩
    · skip
      refine g_if_eq 36 dX12_free_21 (by decide) (fun _ => by exfalso; omega) (fun q14 => ?_)
      refine g_iload_n dX12_free_24 rfl (fun _ => ?_)
      refine g_i2l dX12_free_25 ?_
      refine g_lconst (v := 0) dX12_free_26 rfl ?_
      refine g_ldc2 (v := 2) dX12_free_27 kl_X12_463 (by decide) ?_
      refine g_cSP (av := [_, _, _]) (c_X12_lies _ _ _ h hM (by omega) (by omega) (by omega) (by omega) (by omega) (by omega)) dX12_free_30 mi_X12_lies st_X12_lies ml_X12_175 rfl rfl rfl rfl (Nat.le_of_ble_eq_true rfl) (fun v15 q16 => ?_)
      rcases q16 with ⟨rfl, q16⟩ | ⟨rfl, q16⟩
      · skip
        refine g_if_ne 38 dX12_free_33 (by decide) (fun q17 => ?_) (fun _ => by exfalso; omega)
        refine g_iconst dX12_free_38 (inR_c rfl) ?_
        refine g_istore dX12_free_39 (by decide) rfl ?_
        refine g_iconst dX12_free_41 (inR_c rfl) ?_
        have c44 : ∀ (n : Nat) (y18 y19 : Int) , 0 ≤ y18 → y18 ≤ 255 → 0 ≤ y19 → y19 ≤ 8 → 8 - y19 < (n : Int) → G yX12_free cX12_free 11 (some .int) none Po (9, 540, 0, 0) 44 [some (pR 98), some (pI x1), some (pI x2), some (pI x3), some (pI y18), some (pI y19), none, none, none, none, none] [] SH h 0 0 := by
          intro n
          induction n with
          | zero =>
            intro y18 y19 by18 dy18 by19 dy19 hn
            exfalso; omega
          | succ n ih44 =>
            intro y18 y19 by18 dy18 by19 dy19 hn
            refine g_iload dX12_free_44 rfl (fun _ => ?_)
            refine g_iload_n dX12_free_46 rfl (fun _ => ?_)
            refine g_icmp_ge 96 dX12_free_47 (by decide) (fun q20 => ?_) (fun q20 => ?_)
            · skip
              refine g_iload dX12_free_96 rfl (fun _ => ?_)
              refine g_cSP (av := [_]) (c_X12_sizeOf _ h hM (by omega) (by omega)) dX12_free_98 mi_X12_sizeOf st_X12_sizeOf ml_X12_450 rfl rfl rfl rfl (Nat.le_of_ble_eq_true rfl) (fun v21 q22 => ?_)
              obtain ⟨bv21, cv21⟩ := q22
              refine g_iload_n dX12_free_101 rfl (fun _ => ?_)
              refine g_icmp_ge 108 dX12_free_102 (by decide) (fun q23 => ?_) (fun q23 => ?_)
              · skip
                refine g_iconst dX12_free_108 (inR_c rfl) ?_
                refine g_istore dX12_free_109 (by decide) rfl ?_
                refine g_iconst dX12_free_111 (inR_c rfl) ?_
                refine g_istore dX12_free_112 (by decide) rfl ?_
                refine g_iconst dX12_free_114 (inR_c rfl) ?_
                refine g_istore dX12_free_115 (by decide) rfl ?_
                refine g_aload_n dX12_free_117 rfl ?_
                refine g_aload_n dX12_free_118 rfl ?_
                refine gE_X12_334 rfl dX12_free_119 sh_98 ew98_5.symm ?_
                refine pI_X12_353 rfl dX12_free_122 sh_98 (fun h24 eh24 => ?_)
                have hFh24 := Fr.st eh24
                have hMh24 := u_98_52 hM eh24 (by omega) (by omega)
                refine g_aload_n dX12_free_125 rfl ?_
                refine g_iload_n dX12_free_126 rfl (fun _ => ?_)
                refine pI_X12_356 rfl dX12_free_127 sh_98 (fun h25 eh25 => ?_)
                have hFh25 := Fr.st eh25
                have hMh25 := u_98_53 hMh24 eh25 (by omega) (by omega)
                refine g_iconst dX12_free_130 (inR_c rfl) ?_
                have c133 : ∀ (n : Nat) (y26 y27 y28 y29 : Int) (h30 : MEM), MBm h30 → Fr [(98, 3), (98, 4), (98, 5), (98, 6), (98, 7), (98, 8), (98, 47), (98, 48), (98, 49), (98, 52), (98, 55), (100, 0), (101, 0), (102, 0), (103, 0), (104, 0), (105, 0), (106, 0), (107, 0), (108, 0), (109, 0), (110, 0), (111, 0), (112, 0), (113, 0), (114, 0), (128, 0), (129, 0), (130, 0), (131, 0), (132, 0), (133, 0), (134, 0), (135, 0), (136, 0), (137, 0), (138, 0), (139, 0), (140, 0), (141, 0), (142, 0), (143, 0), (144, 0), (145, 1), (145, 2), (145, 3), (145, 4), (145, 5), (145, 6)] h25 h30 → -1 ≤ y26 → y26 ≤ 255 → -2147483648 ≤ y27 → y27 ≤ 2147483647 → -2147483648 ≤ y28 → y28 ≤ 2147483647 → 0 ≤ y29 → y29 ≤ 256 → h30 98 2 = v1 → h30 98 3 = v2 → h30 98 4 = v3 → h30 98 5 = w98_5 → ISn gi h30 → S1n gs h30 → 256 - y29 < (n : Int) → G yX12_free cX12_free 11 (some .int) none Po (9, 540, 0, 0) 133 [some (pR 98), some (pI x1), some (pI x2), some (pI x3), some (pI y18), some (pI y26), some (pI y27), some (pI y28), some (pI y29), none, none] [] SH h30 0 0 := by
                  intro n
                  induction n with
                  | zero =>
                    intro y26 y27 y28 y29 h30 hMh30 hFh30 by26 dy26 by27 dy27 by28 dy28 by29 dy29 kp133_98_2 kp133_98_3 kp133_98_4 kp133_98_5 e133_0 e133_1 hn
                    exfalso; omega
                  | succ n ih133 =>
                    intro y26 y27 y28 y29 h30 hMh30 hFh30 by26 dy26 by27 dy27 by28 dy28 by29 dy29 kp133_98_2 kp133_98_3 kp133_98_4 kp133_98_5 e133_0 e133_1 hn
                    refine g_iload dX12_free_133 rfl (fun _ => ?_)
                    refine g_iconst dX12_free_135 (inR_c rfl) ?_
                    refine g_iload_n dX12_free_136 rfl (fun _ => ?_)
                    refine g_ishlX (lo := 1) (hi := 256) dX12_free_137 (ishl1_b 8 (by decide) (by omega) (by omega)) (fun v31 ev31 bv31 cv31 => ?_)
                    refine g_icmp_ge 244 dX12_free_138 (by decide) (fun q32 => ?_) (fun q32 => ?_)
                    · skip
                      refine g_aload_n dX12_free_244 rfl ?_
                      refine g_iconst dX12_free_245 (inR_c rfl) ?_
                      refine pI_X12_356 rfl dX12_free_246 sh_98 (fun h33 eh33 => ?_)
                      have hFh33 := Fr.st eh33
                      have hMh33 := u_98_53 hMh30 eh33 (by omega) (by omega)
                      refine g_iload_n dX12_free_249 rfl (fun _ => ?_)
                      refine g_if_ne 258 dX12_free_250 (by decide) (fun q34 => ?_) (fun q34 => ?_)
                      · skip
                        refine g_iload_n dX12_free_258 rfl (fun _ => ?_)
                        refine g_iconst dX12_free_259 (inR_c rfl) ?_
                        refine g_icmp_ne 268 dX12_free_260 (by decide) (fun q35 => ?_) (fun q35 => ?_)
                        · skip
                          refine g_iload dX12_free_268 rfl (fun _ => ?_)
                          have q36 : h33 98 2 = v1 := ((hFh33 98 2 rfl).trans kp133_98_2)
                          have q37 : h33 98 3 = v2 := ((hFh33 98 3 rfl).trans kp133_98_3)
                          have q38 : h33 98 4 = v3 := ((hFh33 98 4 rfl).trans kp133_98_4)
                          have q39 : h33 98 5 = w98_5 := ((hFh33 98 5 rfl).trans kp133_98_5)
                          exact g_ireturn dX12_free_270 retI (hPo _ _ ⟨hMh33, (Fr.tr (Fr.tr (Fr.tr (Fr.sub hFh24 rfl) hFh25 rfl) hFh30 rfl) hFh33 rfl), (by omega), (by omega), (ISn.fr (T := [(98, 54)]) e133_2 (Fr.sub hFh33 rfl) rfl), (S1n.fr (T := [(98, 54)]) e133_3 (Fr.sub hFh33 rfl) rfl), (by omega), (by omega), (by omega), (by omega)⟩)
                        · skip
                          refine g_iload dX12_free_263 rfl (fun _ => ?_)
                          refine g_goto 270 dX12_free_265 (by decide) ?_
                          have q40 : h33 98 2 = v1 := ((hFh33 98 2 rfl).trans kp133_98_2)
                          have q41 : h33 98 3 = v2 := ((hFh33 98 3 rfl).trans kp133_98_3)
                          have q42 : h33 98 4 = v3 := ((hFh33 98 4 rfl).trans kp133_98_4)
                          have q43 : h33 98 5 = w98_5 := ((hFh33 98 5 rfl).trans kp133_98_5)
                          exact g_ireturn dX12_free_270 retI (hPo _ _ ⟨hMh33, (Fr.tr (Fr.tr (Fr.tr (Fr.sub hFh24 rfl) hFh25 rfl) hFh30 rfl) hFh33 rfl), (by omega), (by omega), (ISn.fr (T := [(98, 54)]) e133_2 (Fr.sub hFh33 rfl) rfl), (S1n.fr (T := [(98, 54)]) e133_3 (Fr.sub hFh33 rfl) rfl), (by omega), (by omega), (by omega), (by omega)⟩)
                      · skip
                        refine g_iload dX12_free_253 rfl (fun _ => ?_)
                        refine g_goto 270 dX12_free_255 (by decide) ?_
                        have q44 : h33 98 2 = v1 := ((hFh33 98 2 rfl).trans kp133_98_2)
                        have q45 : h33 98 3 = v2 := ((hFh33 98 3 rfl).trans kp133_98_3)
                        have q46 : h33 98 4 = v3 := ((hFh33 98 4 rfl).trans kp133_98_4)
                        have q47 : h33 98 5 = w98_5 := ((hFh33 98 5 rfl).trans kp133_98_5)
                        exact g_ireturn dX12_free_270 retI (hPo _ _ ⟨hMh33, (Fr.tr (Fr.tr (Fr.tr (Fr.sub hFh24 rfl) hFh25 rfl) hFh30 rfl) hFh33 rfl), (by omega), (by omega), (ISn.fr (T := [(98, 54)]) e133_2 (Fr.sub hFh33 rfl) rfl), (S1n.fr (T := [(98, 54)]) e133_3 (Fr.sub hFh33 rfl) rfl), (by omega), (by omega), (by omega), (by omega)⟩)
                    · skip
                      refine g_iload dX12_free_141 rfl (fun _ => ?_)
                      refine g_iload dX12_free_143 rfl (fun _ => ?_)
                      refine g_iconst dX12_free_145 (inR_c rfl) ?_
                      refine g_ixorF dX12_free_146 (fun v48 ev48 bv48 cv48 => ?_)
                      refine g_iandX (lo := 0) (hi := y29) dX12_free_147 (iand_l (by omega) (by omega)) (fun v49 ev49 bv49 cv49 => ?_)
                      refine g_if_ne 238 dX12_free_148 (by decide) (fun q50 => ?_) (fun q50 => ?_)
                      · skip
                        refine g_iincB dX12_free_238 rfl rfl (by omega) (by omega) ?_
                        refine g_goto 133 dX12_free_241 (by decide) ?_
                        have q51 : h30 98 2 = v1 := kp133_98_2
                        have q52 : h30 98 3 = v2 := kp133_98_3
                        have q53 : h30 98 4 = v3 := kp133_98_4
                        have q54 : h30 98 5 = w98_5 := kp133_98_5
                        exact ih133 _ _ _ _ _ hMh30 (Fr.sub hFh30 rfl) (by omega) (by omega) (by omega) (by omega) (by omega) (by omega) (by omega) (by omega) (by omega) (by omega) (by omega) (by omega) (by omega) (by omega) (by omega)
                      · skip
                        refine g_iload dX12_free_151 rfl (fun _ => ?_)
                        refine g_cSP (av := [_]) (c_X12_sizeOf _ h30 hMh30 (by omega) (by omega)) dX12_free_153 mi_X12_sizeOf st_X12_sizeOf ml_X12_450 rfl rfl rfl rfl (Nat.le_of_ble_eq_true rfl) (fun v55 q56 => ?_)
                        obtain ⟨bv55, cv55⟩ := q56
                        refine g_iload_n dX12_free_156 rfl (fun _ => ?_)
                        refine g_icmp_eq 163 dX12_free_157 (by decide) (fun q57 => ?_) (fun q57 => ?_)
                        · skip
                          refine g_aload_n dX12_free_163 rfl ?_
                          refine g_iload dX12_free_164 rfl (fun _ => ?_)
                          refine pI_X12_359 rfl dX12_free_166 sh_98 (fun h58 eh58 => ?_)
                          have hFh58 := Fr.st eh58
                          have hMh58 := u_98_54 hMh30 eh58 (by omega) (by omega)
                          refine g_aload_n dX12_free_169 rfl ?_
                          refine g_iconst dX12_free_170 (inR_c rfl) ?_
                          have q59 : h58 98 2 = v1 := ((hFh58 98 2 rfl).trans kp133_98_2)
                          have q60 : h58 98 3 = v2 := ((hFh58 98 3 rfl).trans kp133_98_3)
                          have q61 : h58 98 4 = v3 := ((hFh58 98 4 rfl).trans kp133_98_4)
                          have q62 : h58 98 5 = w98_5 := ((hFh58 98 5 rfl).trans kp133_98_5)
                          refine g_cVV (as := [_]) (c_X12_setsAside_98_k0 _ _ h58 hMh58 (ISn.fr (T := [(98, 55)]) e133_2 (Fr.sub hFh58 rfl) rfl) (S1n.fr (T := [(98, 55)]) e133_3 (Fr.sub hFh58 rfl) rfl)) dX12_free_171 mi_X12_setsAside in_X12_setsAside se_X12_setsAside ml_X12_419 rfl rfl rfl sh_98 rfl rfl (Nat.le_of_ble_eq_true rfl) (fun h63 q64 => ?_)
                          obtain ⟨hMh63, hFh63, z65, z66, z67, z68, z69, z70⟩ := q64
                          have kz67 : h63 145 0 = v1 := by omega
                          have kz68 : h63 145 1 = v2 := by omega
                          have kz69 : h63 145 2 = v3 := by omega
                          have kz70 : h63 145 3 = w98_5 := by omega
                          refine g_aload_n dX12_free_174 rfl ?_
                          refine g_iload_n dX12_free_175 rfl (fun _ => ?_)
                          have q71 : h63 98 5 = w98_5 := ((hFh63 98 5 rfl).trans ((hFh58 98 5 rfl).trans kp133_98_5))
                          have q72 : h63 98 5 = w98_5 := ((hFh63 98 5 rfl).trans ((hFh58 98 5 rfl).trans kp133_98_5))
                          refine g_cVV (as := [_]) (c_X12_goesOn_98 _ h63 hMh63 (by omega) (by omega) (by omega) (by omega) (WFL.fr (T := [(98, 3), (98, 4), (98, 5), (98, 6), (98, 7), (98, 8), (98, 47), (98, 48), (98, 49), (98, 52), (98, 53), (98, 54), (98, 55), (100, 0), (101, 0), (102, 0), (103, 0), (104, 0), (105, 0), (106, 0), (107, 0), (108, 0), (109, 0), (110, 0), (111, 0), (112, 0), (113, 0), (114, 0), (128, 0), (129, 0), (130, 0), (131, 0), (132, 0), (133, 0), (134, 0), (135, 0), (136, 0), (137, 0), (138, 0), (139, 0), (140, 0), (141, 0), (142, 0), (143, 0), (144, 0), (145, 1), (145, 2), (145, 3), (145, 4), (145, 5), (145, 6)]) f_WFL (Fr.tr (Fr.tr (Fr.tr (Fr.tr (Fr.sub hFh24 rfl) hFh25 rfl) hFh30 rfl) hFh58 rfl) hFh63 rfl) rfl)) dX12_free_176 mi_X12_goesOn in_X12_goesOn se_X12_goesOn ml_X12_401 rfl rfl rfl sh_98 rfl rfl (Nat.le_of_ble_eq_true rfl) (fun h73 q74 => ?_)
                          obtain ⟨hMh73, hFh73, z75⟩ := q74
                          have kz75 : h73 98 5 = (w98_5 + x1) := by omega
                          refine g_aload_n dX12_free_179 rfl ?_
                          refine g_cVP (as := []) (c_X12_allBruises_98  h73 hMh73) dX12_free_180 mi_X12_allBruises in_X12_allBruises se_X12_allBruises ml_X12_425 rfl rfl rfl sh_98 rfl rfl (Nat.le_of_ble_eq_true rfl) (fun v76 q77 => ?_)
                          obtain ⟨bv76, cv76⟩ := q77
                          refine g_istore dX12_free_183 (by decide) rfl ?_
                          refine g_aload_n dX12_free_185 rfl ?_
                          refine g_cVP (as := []) (c_X12_allSlates_98  h73 hMh73) dX12_free_186 mi_X12_allSlates in_X12_allSlates se_X12_allSlates ml_X12_422 rfl rfl rfl sh_98 rfl rfl (Nat.le_of_ble_eq_true rfl) (fun v78 q79 => ?_)
                          obtain ⟨bv78, cv78⟩ := q79
                          refine g_istore dX12_free_189 (by decide) rfl ?_
                          refine g_aload_n dX12_free_191 rfl ?_
                          refine g_iconst dX12_free_192 (inR_c rfl) ?_
                          have q80 : h73 145 0 = v1 := ((hFh73 145 _ rfl).trans kz67)
                          have q81 : h73 145 1 = v2 := ((hFh73 145 _ rfl).trans kz68)
                          have q82 : h73 145 2 = v3 := ((hFh73 145 _ rfl).trans kz69)
                          have q83 : h73 145 3 = w98_5 := ((hFh73 145 _ rfl).trans kz70)
                          refine g_cVV (as := [_]) (c_X12_putsBack_98_k0 _ h73 hMh73 (S0n.fr (T := [(98, 6), (98, 7), (98, 8), (98, 47), (98, 48), (98, 49), (98, 52), (101, 0), (105, 0), (107, 0), (111, 0), (112, 0), (113, 0), (128, 0), (129, 0)]) z65 (Fr.sub hFh73 rfl) rfl)) dX12_free_193 mi_X12_putsBack in_X12_putsBack se_X12_putsBack ml_X12_428 rfl rfl rfl sh_98 rfl rfl (Nat.le_of_ble_eq_true rfl) (fun h84 q85 => ?_)
                          obtain ⟨hMh84, hFh84, z86, z87, z88, z89, z90⟩ := q85
                          have kz87 : h84 98 2 = v1 := by omega
                          have kz88 : h84 98 3 = v2 := by omega
                          have kz89 : h84 98 4 = v3 := by omega
                          have kz90 : h84 98 5 = w98_5 := by omega
                          refine g_iload dX12_free_196 rfl (fun _ => ?_)
                          refine g_iconst dX12_free_198 (inR_c rfl) ?_
                          refine g_icmp_eq 226 dX12_free_199 (by decide) (fun q91 => ?_) (fun q91 => ?_)
                          · skip
                            refine g_iload dX12_free_226 rfl (fun _ => ?_)
                            refine g_istore dX12_free_228 (by decide) rfl ?_
                            refine g_iload dX12_free_230 rfl (fun _ => ?_)
                            refine g_istore dX12_free_232 (by decide) rfl ?_
                            refine g_iload dX12_free_234 rfl (fun _ => ?_)
                            refine g_istore dX12_free_236 (by decide) rfl ?_
                            refine g_iincB dX12_free_238 rfl rfl (by omega) (by omega) ?_
                            refine g_goto 133 dX12_free_241 (by decide) ?_
                            refine g_drop 9 ?_
                            refine g_drop 10 ?_
                            have q92 : h84 98 2 = v1 := kz87
                            have q93 : h84 98 3 = v2 := kz88
                            have q94 : h84 98 4 = v3 := kz89
                            have q95 : h84 98 5 = w98_5 := kz90
                            exact ih133 _ _ _ _ _ hMh84 (Fr.tr (Fr.tr (Fr.tr (Fr.tr (Fr.sub hFh30 rfl) hFh58 rfl) hFh63 rfl) hFh73 rfl) hFh84 rfl) (by omega) (by omega) (by omega) (by omega) (by omega) (by omega) (by omega) (by omega) (by omega) (by omega) (by omega) (by omega) (by omega) (by omega) (by omega)
                          · skip
                            refine g_iload dX12_free_202 rfl (fun _ => ?_)
                            refine g_iload dX12_free_204 rfl (fun _ => ?_)
                            refine g_icmp_gt 238 dX12_free_206 (by decide) (fun q96 => ?_) (fun q96 => ?_)
                            · skip
                              refine g_iincB dX12_free_238 rfl rfl (by omega) (by omega) ?_
                              refine g_goto 133 dX12_free_241 (by decide) ?_
                              refine g_drop 9 ?_
                              refine g_drop 10 ?_
                              have q97 : h84 98 2 = v1 := kz87
                              have q98 : h84 98 3 = v2 := kz88
                              have q99 : h84 98 4 = v3 := kz89
                              have q100 : h84 98 5 = w98_5 := kz90
                              exact ih133 _ _ _ _ _ hMh84 (Fr.tr (Fr.tr (Fr.tr (Fr.tr (Fr.sub hFh30 rfl) hFh58 rfl) hFh63 rfl) hFh73 rfl) hFh84 rfl) (by omega) (by omega) (by omega) (by omega) (by omega) (by omega) (by omega) (by omega) (by omega) (by omega) (by omega) (by omega) (by omega) (by omega) (by omega)
                            · skip
                              refine g_iload dX12_free_209 rfl (fun _ => ?_)
                              refine g_iload dX12_free_211 rfl (fun _ => ?_)
                              refine g_icmp_ne 226 dX12_free_213 (by decide) (fun q101 => ?_) (fun q101 => ?_)
                              · skip
                                refine g_iload dX12_free_226 rfl (fun _ => ?_)
                                refine g_istore dX12_free_228 (by decide) rfl ?_
                                refine g_iload dX12_free_230 rfl (fun _ => ?_)
                                refine g_istore dX12_free_232 (by decide) rfl ?_
                                refine g_iload dX12_free_234 rfl (fun _ => ?_)
                                refine g_istore dX12_free_236 (by decide) rfl ?_
                                refine g_iincB dX12_free_238 rfl rfl (by omega) (by omega) ?_
                                refine g_goto 133 dX12_free_241 (by decide) ?_
                                refine g_drop 9 ?_
                                refine g_drop 10 ?_
                                have q102 : h84 98 2 = v1 := kz87
                                have q103 : h84 98 3 = v2 := kz88
                                have q104 : h84 98 4 = v3 := kz89
                                have q105 : h84 98 5 = w98_5 := kz90
                                exact ih133 _ _ _ _ _ hMh84 (Fr.tr (Fr.tr (Fr.tr (Fr.tr (Fr.sub hFh30 rfl) hFh58 rfl) hFh63 rfl) hFh73 rfl) hFh84 rfl) (by omega) (by omega) (by omega) (by omega) (by omega) (by omega) (by omega) (by omega) (by omega) (by omega) (by omega) (by omega) (by omega) (by omega) (by omega)
                              · skip
                                refine g_iload dX12_free_216 rfl (fun _ => ?_)
                                refine g_iload dX12_free_218 rfl (fun _ => ?_)
                                refine g_icmp_gt 226 dX12_free_220 (by decide) (fun q106 => ?_) (fun q106 => ?_)
                                · skip
                                  refine g_iload dX12_free_226 rfl (fun _ => ?_)
                                  refine g_istore dX12_free_228 (by decide) rfl ?_
                                  refine g_iload dX12_free_230 rfl (fun _ => ?_)
                                  refine g_istore dX12_free_232 (by decide) rfl ?_
                                  refine g_iload dX12_free_234 rfl (fun _ => ?_)
                                  refine g_istore dX12_free_236 (by decide) rfl ?_
                                  refine g_iincB dX12_free_238 rfl rfl (by omega) (by omega) ?_
                                  refine g_goto 133 dX12_free_241 (by decide) ?_
                                  refine g_drop 9 ?_
                                  refine g_drop 10 ?_
                                  have q107 : h84 98 2 = v1 := kz87
                                  have q108 : h84 98 3 = v2 := kz88
                                  have q109 : h84 98 4 = v3 := kz89
                                  have q110 : h84 98 5 = w98_5 := kz90
                                  exact ih133 _ _ _ _ _ hMh84 (Fr.tr (Fr.tr (Fr.tr (Fr.tr (Fr.sub hFh30 rfl) hFh58 rfl) hFh63 rfl) hFh73 rfl) hFh84 rfl) (by omega) (by omega) (by omega) (by omega) (by omega) (by omega) (by omega) (by omega) (by omega) (by omega) (by omega) (by omega) (by omega) (by omega) (by omega)
                                · skip
                                  refine g_goto 238 dX12_free_223 (by decide) ?_
                                  refine g_iincB dX12_free_238 rfl rfl (by omega) (by omega) ?_
                                  refine g_goto 133 dX12_free_241 (by decide) ?_
                                  refine g_drop 9 ?_
                                  refine g_drop 10 ?_
                                  have q111 : h84 98 2 = v1 := kz87
                                  have q112 : h84 98 3 = v2 := kz88
                                  have q113 : h84 98 4 = v3 := kz89
                                  have q114 : h84 98 5 = w98_5 := kz90
                                  exact ih133 _ _ _ _ _ hMh84 (Fr.tr (Fr.tr (Fr.tr (Fr.tr (Fr.sub hFh30 rfl) hFh58 rfl) hFh63 rfl) hFh73 rfl) hFh84 rfl) (by omega) (by omega) (by omega) (by omega) (by omega) (by omega) (by omega) (by omega) (by omega) (by omega) (by omega) (by omega) (by omega) (by omega) (by omega)
                        · skip
                          refine g_goto 238 dX12_free_160 (by decide) ?_
                          refine g_iincB dX12_free_238 rfl rfl (by omega) (by omega) ?_
                          refine g_goto 133 dX12_free_241 (by decide) ?_
                          have q115 : h30 98 2 = v1 := kp133_98_2
                          have q116 : h30 98 3 = v2 := kp133_98_3
                          have q117 : h30 98 4 = v3 := kp133_98_4
                          have q118 : h30 98 5 = w98_5 := kp133_98_5
                          exact ih133 _ _ _ _ _ hMh30 (Fr.sub hFh30 rfl) (by omega) (by omega) (by omega) (by omega) (by omega) (by omega) (by omega) (by omega) (by omega) (by omega) (by omega) (by omega) (by omega) (by omega) (by omega)
                refine g_istore dX12_free_131 (by decide) rfl ?_
                have q119 : h25 98 2 = v1 := ((hFh25 98 2 rfl).trans ((hFh24 98 2 rfl).trans ev1.symm))
                have q120 : h25 98 3 = v2 := ((hFh25 98 3 rfl).trans ((hFh24 98 3 rfl).trans ev2.symm))
                have q121 : h25 98 4 = v3 := ((hFh25 98 4 rfl).trans ((hFh24 98 4 rfl).trans ev3.symm))
                have q122 : h25 98 5 = w98_5 := ((hFh25 98 5 rfl).trans ((hFh24 98 5 rfl).trans ew98_5.symm))
                exact c133 257 _ _ _ _ _ hMh25 Fr.rf (by omega) (by omega) (by omega) (by omega) (by omega) (by omega) (by omega) (by omega) (by omega) (by omega) (by omega) (by omega) (by omega) (by omega) (by omega)
              · skip
                refine g_bipush dX12_free_105 (inR_c rfl) (by decide) ?_
                have q123 : h 98 2 = v1 := ev1.symm
                have q124 : h 98 3 = v2 := ev2.symm
                have q125 : h 98 4 = v3 := ev3.symm
                have q126 : h 98 5 = w98_5 := ew98_5.symm
                exact g_ireturn dX12_free_107 retI (hPo _ _ ⟨hM, Fr.rf, (by omega), (by omega), f_IS, f_S1, (by omega), (by omega), (by omega), (by omega)⟩)
            · skip
              refine g_iload dX12_free_50 rfl (fun _ => ?_)
              refine g_aload_n dX12_free_52 rfl ?_
              refine gE_X12_334 rfl dX12_free_53 sh_98 ew98_5.symm ?_
              refine g_iload dX12_free_56 rfl (fun _ => ?_)
              refine g_iaddB dX12_free_58 (by omega) (by omega) ?_
              refine g_bipush dX12_free_59 (inR_c rfl) (by decide) ?_
              refine g_icmp_ge 86 dX12_free_61 (by decide) (fun q127 => ?_) (fun q127 => ?_)
              · skip
                refine g_iconst dX12_free_86 (inR_c rfl) ?_
                refine g_iorX (lo := 0) (hi := 255) dX12_free_87 (ior_b 8 (by decide) (by omega) (by omega) (by omega) (by omega)) (fun v128 ev128 bv128 cv128 => ?_)
                refine g_istore dX12_free_88 (by decide) rfl ?_
                refine g_iincB dX12_free_90 rfl rfl (by omega) (by omega) ?_
                refine g_goto 44 dX12_free_93 (by decide) ?_
                exact ih44 _ _ (by omega) (by omega) (by omega) (by omega) (by omega)
              · skip
                refine g_aload_n dX12_free_64 rfl ?_
                refine gR_X12_61 rfl dX12_free_65 sh_98 (b := 114) (m_98_22 hM) ?_
                refine g_aload_n dX12_free_68 rfl ?_
                refine gE_X12_334 rfl dX12_free_69 sh_98 ew98_5.symm ?_
                refine g_iload dX12_free_72 rfl (fun _ => ?_)
                refine g_iaddB dX12_free_74 (by omega) (by omega) ?_
                refine g_zaldB dX12_free_75 sh_114 (by omega) (by omega) (m_114 hM _) (fun v129 ev129 bv129 cv129 => ?_)
                refine g_if_ne 86 dX12_free_76 (by decide) (fun q130 => ?_) (fun q130 => ?_)
                · skip
                  refine g_iconst dX12_free_86 (inR_c rfl) ?_
                  refine g_iorX (lo := 0) (hi := 255) dX12_free_87 (ior_b 8 (by decide) (by omega) (by omega) (by omega) (by omega)) (fun v131 ev131 bv131 cv131 => ?_)
                  refine g_istore dX12_free_88 (by decide) rfl ?_
                  refine g_iincB dX12_free_90 rfl rfl (by omega) (by omega) ?_
                  refine g_goto 44 dX12_free_93 (by decide) ?_
                  exact ih44 _ _ (by omega) (by omega) (by omega) (by omega) (by omega)
                · skip
                  refine g_iconst dX12_free_79 (inR_c rfl) ?_
                  refine g_iload dX12_free_80 rfl (fun _ => ?_)
                  refine g_ishlX (lo := 1) (hi := 128) dX12_free_82 (ishl1_b 7 (by decide) (by omega) (by omega)) (fun v132 ev132 bv132 cv132 => ?_)
                  refine g_goto 87 dX12_free_83 (by decide) ?_
                  refine g_iorX (lo := 0) (hi := 255) dX12_free_87 (ior_b 8 (by decide) (by omega) (by omega) (by omega) (by omega)) (fun v133 ev133 bv133 cv133 => ?_)
                  refine g_istore dX12_free_88 (by decide) rfl ?_
                  refine g_iincB dX12_free_90 rfl rfl (by omega) (by omega) ?_
                  refine g_goto 44 dX12_free_93 (by decide) ?_
                  exact ih44 _ _ (by omega) (by omega) (by omega) (by omega) (by omega)
        refine g_istore dX12_free_42 (by decide) rfl ?_
        exact c44 9 _ _ (by omega) (by omega) (by omega) (by omega) (by omega)
      · skip
        refine g_if_ne 38 dX12_free_33 (by decide) (fun _ => by exfalso; omega) (fun q134 => ?_)
        refine g_iconst dX12_free_36 (inR_c rfl) ?_
        have q135 : h 98 2 = v1 := ev1.symm
        have q136 : h 98 3 = v2 := ev2.symm
        have q137 : h 98 4 = v3 := ev3.symm
        have q138 : h 98 5 = w98_5 := ew98_5.symm
        exact g_ireturn dX12_free_37 retI (hPo _ _ ⟨hM, Fr.rf, (by omega), (by omega), f_IS, f_S1, (by omega), (by omega), (by omega), (by omega)⟩)
    · skip
      refine g_if_eq 36 dX12_free_21 (by decide) (fun q139 => ?_) (fun _ => by exfalso; omega)
      refine g_iconst dX12_free_36 (inR_c rfl) ?_
      have q140 : h 98 2 = v1 := ev1.symm
      have q141 : h 98 3 = v2 := ev2.symm
      have q142 : h 98 4 = v3 := ev3.symm
      have q143 : h 98 5 = w98_5 := ew98_5.symm
      exact g_ireturn dX12_free_37 retI (hPo _ _ ⟨hM, Fr.rf, (by omega), (by omega), f_IS, f_S1, (by omega), (by omega), (by omega), (by omega)⟩)
  · skip
    refine g_if_eq 36 dX12_free_9 (by decide) (fun q144 => ?_) (fun _ => by exfalso; omega)
    refine g_iconst dX12_free_36 (inR_c rfl) ?_
    have q145 : h 98 2 = v1 := ev1.symm
    have q146 : h 98 3 = v2 := ev2.symm
    have q147 : h 98 4 = v3 := ev3.symm
    have q148 : h 98 5 = w98_5 := ew98_5.symm
    exact g_ireturn dX12_free_37 retI (hPo _ _ ⟨hM, Fr.rf, (by omega), (by omega), f_IS, f_S1, (by omega), (by omega), (by omega), (by omega)⟩)
set_option maxRecDepth 100000 in
set_option maxHeartbeats 4000000 in
theorem c_X12_hurtIn_98 (x1 : Int) (gi : Nat → Int) (h : MEM) (hM : MBm h) (bx1 : 1 ≤ x1) (dx1 : x1 ≤ 40) (p0_0 : 0 ≤ h 98 5) (p0_1 : h 98 5 ≤ 999600) (f_WFL : WFL h) (f_S0 : S0n gi h) : CI yX12_hurtIn cX12_hurtIn 3 (some .int) 9 [pR 98, pI x1] h (fun x h' => MBm h' ∧ Fr [(98, 3), (98, 4), (98, 5), (98, 6), (98, 7), (98, 8), (98, 47), (98, 48), (98, 49), (98, 52), (100, 0), (101, 0), (102, 0), (103, 0), (104, 0), (105, 0), (106, 0), (107, 0), (108, 0), (109, 0), (110, 0), (111, 0), (112, 0), (113, 0), (114, 0), (128, 0), (129, 0)] h h' ∧ -2147483648 ≤ x ∧ x ≤ 2147483647 ∧ ISn gi h' ∧ h' 98 2 = h 145 0 ∧ h' 98 3 = h 145 1 ∧ h' 98 4 = h 145 2 ∧ h' 98 5 = h 145 3) := by
  refine CI.of (L0 := [some (pR 98), some (pI x1), none]) rfl (Nat.le_of_ble_eq_true rfl) rfl (fun Po hPo hav => ?_)
  obtain ⟨v1, ev1⟩ : ∃ z, z = h 145 0 := ⟨_, rfl⟩
  have bv1 : 0 ≤ v1 ∧ v1 ≤ 10 := by rw [ev1]; exact (m_145_0 hM)
  obtain ⟨v2, ev2⟩ : ∃ z, z = h 145 1 := ⟨_, rfl⟩
  have bv2 : 0 ≤ v2 ∧ v2 ≤ 8 := by rw [ev2]; exact (m_145_1 hM)
  obtain ⟨v3, ev3⟩ : ∃ z, z = h 145 2 := ⟨_, rfl⟩
  have bv3 : 0 ≤ v3 ∧ v3 ≤ 8 := by rw [ev3]; exact (m_145_2 hM)
  obtain ⟨v4, ev4⟩ : ∃ z, z = h 145 3 := ⟨_, rfl⟩
  have bv4 : 0 ≤ v4 ∧ v4 ≤ 2000000000 := by rw [ev4]; exact (m_145_3 hM)
  obtain ⟨w98_5, ew98_5⟩ : ∃ z, z = h 98 5 := ⟨_, rfl⟩
  refine g_aload_n dX12_hurtIn_0 rfl ?_
  refine g_iload_n dX12_hurtIn_1 rfl (fun _ => ?_)
  have q5 : h 98 5 = w98_5 := ew98_5.symm
  have q6 : h 98 5 = w98_5 := ew98_5.symm
  refine g_cVV (as := [_]) (c_X12_goesOn_98 _ h hM (by omega) (by omega) (by omega) (by omega) f_WFL) dX12_hurtIn_2 mi_X12_goesOn in_X12_goesOn se_X12_goesOn ml_X12_401 rfl rfl rfl sh_98 rfl rfl (Nat.le_of_ble_eq_true rfl) (fun h7 q8 => ?_)
  obtain ⟨hMh7, hFh7, z9⟩ := q8
  have kz9 : h7 98 5 = (w98_5 + x1) := by omega
  refine g_aload_n dX12_hurtIn_5 rfl ?_
  refine g_cVP (as := []) (c_X12_allBruises_98  h7 hMh7) dX12_hurtIn_6 mi_X12_allBruises in_X12_allBruises se_X12_allBruises ml_X12_425 rfl rfl rfl sh_98 rfl rfl (Nat.le_of_ble_eq_true rfl) (fun v10 q11 => ?_)
  obtain ⟨bv10, cv10⟩ := q11
  refine g_istore_n dX12_hurtIn_9 (by decide) rfl ?_
  refine g_aload_n dX12_hurtIn_10 rfl ?_
  refine g_iconst dX12_hurtIn_11 (inR_c rfl) ?_
  have q12 : h7 145 0 = v1 := ((hFh7 145 _ rfl).trans ev1.symm)
  have q13 : h7 145 1 = v2 := ((hFh7 145 _ rfl).trans ev2.symm)
  have q14 : h7 145 2 = v3 := ((hFh7 145 _ rfl).trans ev3.symm)
  have q15 : h7 145 3 = v4 := ((hFh7 145 _ rfl).trans ev4.symm)
  refine g_cVV (as := [_]) (c_X12_putsBack_98_k0 _ h7 hMh7 (S0n.fr (T := [(98, 6), (98, 7), (98, 8), (98, 47), (98, 48), (98, 49), (98, 52), (101, 0), (105, 0), (107, 0), (111, 0), (112, 0), (113, 0), (128, 0), (129, 0)]) f_S0 (Fr.sub hFh7 rfl) rfl)) dX12_hurtIn_12 mi_X12_putsBack in_X12_putsBack se_X12_putsBack ml_X12_428 rfl rfl rfl sh_98 rfl rfl (Nat.le_of_ble_eq_true rfl) (fun h16 q17 => ?_)
  obtain ⟨hMh16, hFh16, z18, z19, z20, z21, z22⟩ := q17
  have kz19 : h16 98 2 = v1 := by omega
  have kz20 : h16 98 3 = v2 := by omega
  have kz21 : h16 98 4 = v3 := by omega
  have kz22 : h16 98 5 = v4 := by omega
  refine g_iload_n dX12_hurtIn_15 rfl (fun _ => ?_)
  have q23 : h16 98 2 = v1 := kz19
  have q24 : h16 98 3 = v2 := kz20
  have q25 : h16 98 4 = v3 := kz21
  have q26 : h16 98 5 = v4 := kz22
  exact g_ireturn dX12_hurtIn_16 retI (hPo _ _ ⟨hMh16, (Fr.tr (Fr.sub hFh7 rfl) hFh16 rfl), (by omega), (by omega), z18, (by omega), (by omega), (by omega), (by omega)⟩)
set_option maxRecDepth 100000 in
set_option maxHeartbeats 4000000 in
theorem c_X12_worth_98 (x1 x2 x3 : Int) (gi gs : Nat → Int) (h : MEM) (hM : MBm h) (bx1 : -2147483648 ≤ x1) (dx1 : x1 ≤ 2147483647) (bx2 : -2147483648 ≤ x2) (dx2 : x2 ≤ 2147483647) (bx3 : -2147483648 ≤ x3) (dx3 : x3 ≤ 2147483647) (p0_0 : 0 ≤ h 98 5) (p0_1 : h 98 5 ≤ 999600) (f_WFL : WFL h) (f_IS : ISn gi h) (f_S1 : S1n gs h) : CI yX12_worth cX12_worth 5 (some .int) 10 [pR 98, pI x1, pI x2, pI x3] h (fun x h' => MBm h' ∧ Fr [(98, 3), (98, 4), (98, 5), (98, 6), (98, 7), (98, 8), (98, 47), (98, 48), (98, 49), (98, 52), (100, 0), (101, 0), (102, 0), (103, 0), (104, 0), (105, 0), (106, 0), (107, 0), (108, 0), (109, 0), (110, 0), (111, 0), (112, 0), (113, 0), (114, 0), (128, 0), (129, 0), (130, 0), (131, 0), (132, 0), (133, 0), (134, 0), (135, 0), (136, 0), (137, 0), (138, 0), (139, 0), (140, 0), (141, 0), (142, 0), (143, 0), (144, 0), (145, 1), (145, 2), (145, 3), (145, 4), (145, 5), (145, 6)] h h' ∧ -2147483648 ≤ x ∧ x ≤ 2147483647 ∧ ISn gi h' ∧ S1n gs h' ∧ h' 98 2 = h 98 2 ∧ h' 98 3 = h 98 3 ∧ h' 98 4 = h 98 4 ∧ h' 98 5 = h 98 5) := by
  refine CI.of (L0 := [some (pR 98), some (pI x1), some (pI x2), some (pI x3), none]) rfl (Nat.le_of_ble_eq_true rfl) rfl (fun Po hPo hav => ?_)
  obtain ⟨v1, ev1⟩ : ∃ z, z = h 98 2 := ⟨_, rfl⟩
  have bv1 : 0 ≤ v1 ∧ v1 ≤ 10 := by rw [ev1]; exact (m_98_2 hM)
  obtain ⟨v2, ev2⟩ : ∃ z, z = h 98 3 := ⟨_, rfl⟩
  have bv2 : 0 ≤ v2 ∧ v2 ≤ 8 := by rw [ev2]; exact (m_98_3 hM)
  obtain ⟨v3, ev3⟩ : ∃ z, z = h 98 4 := ⟨_, rfl⟩
  have bv3 : 0 ≤ v3 ∧ v3 ≤ 8 := by rw [ev3]; exact (m_98_4 hM)
  obtain ⟨v4, ev4⟩ : ∃ z, z = h 98 5 := ⟨_, rfl⟩
  have bv4 : 0 ≤ v4 ∧ v4 ≤ 2000000000 := by rw [ev4]; exact (m_98_5 hM)
  obtain ⟨w98_5, ew98_5⟩ : ∃ z, z = h 98 5 := ⟨_, rfl⟩
  refine g_iload_n dX12_worth_0 rfl (fun _ => ?_)
  refine g_cSP (av := [_]) (c_X12_areHours _ h hM (by omega) (by omega)) dX12_worth_1 mi_X12_areHours st_X12_areHours ml_X12_398 rfl rfl rfl rfl (Nat.le_of_ble_eq_true rfl) (fun v5 q6 => ?_)
  rcases q6 with ⟨rfl, q6⟩ | ⟨rfl, q6⟩
  · skip
    refine g_if_eq 58 dX12_worth_4 (by decide) (fun _ => by exfalso; omega) (fun q7 => ?_)
    refine g_iload_n dX12_worth_7 rfl (fun _ => ?_)
    refine g_i2l dX12_worth_8 ?_
    refine g_lconst (v := 0) dX12_worth_9 rfl ?_
    refine g_lconst (v := 1) dX12_worth_10 rfl ?_
    refine g_cSP (av := [_, _, _]) (c_X12_lies _ _ _ h hM (by omega) (by omega) (by omega) (by omega) (by omega) (by omega)) dX12_worth_11 mi_X12_lies st_X12_lies ml_X12_175 rfl rfl rfl rfl (Nat.le_of_ble_eq_true rfl) (fun v8 q9 => ?_)
    rcases q9 with ⟨rfl, q9⟩ | ⟨rfl, q9⟩
    · skip
      refine g_if_eq 58 dX12_worth_14 (by decide) (fun _ => by exfalso; omega) (fun q10 => ?_)
      refine g_iload_n dX12_worth_17 rfl (fun _ => ?_)
      refine g_if_ne 41 dX12_worth_18 (by decide) (fun q11 => ?_) (fun q11 => ?_)
      · skip
        refine g_aload_n dX12_worth_41 rfl ?_
        refine g_iload_n dX12_worth_42 rfl (fun _ => ?_)
        refine g_cVP (as := [_]) (c_X12_isMaster_98 _ h hM (by omega) (by omega)) dX12_worth_43 mi_X12_isMaster in_X12_isMaster se_X12_isMaster ml_X12_201 rfl rfl rfl sh_98 rfl rfl (Nat.le_of_ble_eq_true rfl) (fun v12 q13 => ?_)
        have q14 : h 98 4 = v3 := ev3.symm
        rcases q13 with ⟨rfl, q13⟩ | ⟨rfl, q13⟩
        · skip
          refine g_if_eq 58 dX12_worth_46 (by decide) (fun _ => by exfalso; omega) (fun q15 => ?_)
          refine g_aload_n dX12_worth_49 rfl ?_
          refine gR_X12_49 rfl dX12_worth_50 sh_98 (b := 110) (m_98_18 hM) ?_
          refine g_iload_n dX12_worth_53 rfl (fun _ => ?_)
          refine g_zaldB dX12_worth_54 sh_110 (by omega) (by omega) (m_110 hM _) (fun v16 ev16 bv16 cv16 => ?_)
          refine g_if_eq 62 dX12_worth_55 (by decide) (fun q17 => ?_) (fun q17 => ?_)
          · skip
            refine g_aload_n dX12_worth_62 rfl ?_
            refine g_iconst dX12_worth_63 (inR_c rfl) ?_
            have q18 : h 98 2 = v1 := ev1.symm
            have q19 : h 98 3 = v2 := ev2.symm
            have q20 : h 98 4 = v3 := ev3.symm
            have q21 : h 98 5 = w98_5 := ew98_5.symm
            refine g_cVV (as := [_]) (c_X12_setsAside_98_k0 _ _ h hM f_IS f_S1) dX12_worth_64 mi_X12_setsAside in_X12_setsAside se_X12_setsAside ml_X12_419 rfl rfl rfl sh_98 rfl rfl (Nat.le_of_ble_eq_true rfl) (fun h22 q23 => ?_)
            obtain ⟨hMh22, hFh22, z24, z25, z26, z27, z28, z29⟩ := q23
            have kz26 : h22 145 0 = v1 := by omega
            have kz27 : h22 145 1 = v2 := by omega
            have kz28 : h22 145 2 = v3 := by omega
            have kz29 : h22 145 3 = w98_5 := by omega
            refine g_aload_n dX12_worth_67 rfl ?_
            refine g_iload_n dX12_worth_68 rfl (fun _ => ?_)
            have q30 : h22 98 5 = w98_5 := ((hFh22 98 5 rfl).trans ew98_5.symm)
            have q31 : h22 145 0 = v1 := kz26
            have q32 : h22 145 1 = v2 := kz27
            have q33 : h22 145 2 = v3 := kz28
            have q34 : h22 145 3 = w98_5 := kz29
            refine g_cV (as := [_]) (c_X12_hurtIn_98 _ _ h22 hMh22 (by omega) (by omega) (by omega) (by omega) (WFL.fr (T := [(130, 0), (131, 0), (132, 0), (133, 0), (134, 0), (135, 0), (136, 0), (137, 0), (138, 0), (139, 0), (140, 0), (141, 0), (142, 0), (143, 0), (144, 0), (145, 1), (145, 2), (145, 3), (145, 4), (145, 5), (145, 6)]) f_WFL (Fr.sub hFh22 rfl) rfl) z24) dX12_worth_69 mi_X12_hurtIn in_X12_hurtIn se_X12_hurtIn ml_X12_465 rfl rfl rfl sh_98 rfl rfl (Nat.le_of_ble_eq_true rfl) (fun v35 h36 q37 => ?_)
            obtain ⟨hMh36, hFh36, bv35, cv35, z38, z39, z40, z41, z42⟩ := q37
            have kz39 : h36 98 2 = v1 := by omega
            have kz40 : h36 98 3 = v2 := by omega
            have kz41 : h36 98 4 = v3 := by omega
            have kz42 : h36 98 5 = w98_5 := by omega
            refine g_istore dX12_worth_72 (by decide) rfl ?_
            refine g_aload_n dX12_worth_74 rfl ?_
            refine g_iconst dX12_worth_75 (inR_c rfl) ?_
            have q43 : h36 98 2 = v1 := kz39
            have q44 : h36 98 3 = v2 := kz40
            have q45 : h36 98 4 = v3 := kz41
            have q46 : h36 98 5 = w98_5 := kz42
            refine g_cVV (as := [_]) (c_X12_setsAside_98_k0 _ _ h36 hMh36 z38 (S1n.fr (T := [(98, 3), (98, 4), (98, 5), (98, 6), (98, 7), (98, 8), (98, 47), (98, 48), (98, 49), (98, 52), (100, 0), (101, 0), (102, 0), (103, 0), (104, 0), (105, 0), (106, 0), (107, 0), (108, 0), (109, 0), (110, 0), (111, 0), (112, 0), (113, 0), (114, 0), (128, 0), (129, 0)]) z25 (Fr.sub hFh36 rfl) rfl)) dX12_worth_76 mi_X12_setsAside in_X12_setsAside se_X12_setsAside ml_X12_419 rfl rfl rfl sh_98 rfl rfl (Nat.le_of_ble_eq_true rfl) (fun h47 q48 => ?_)
            obtain ⟨hMh47, hFh47, z49, z50, z51, z52, z53, z54⟩ := q48
            have kz51 : h47 145 0 = v1 := by omega
            have kz52 : h47 145 1 = v2 := by omega
            have kz53 : h47 145 2 = v3 := by omega
            have kz54 : h47 145 3 = w98_5 := by omega
            refine g_iload_n dX12_worth_79 rfl (fun _ => ?_)
            refine g_if_ne 93 dX12_worth_80 (by decide) (fun q55 => ?_) (fun _ => by exfalso; omega)
            refine g_aload_n dX12_worth_93 rfl ?_
            refine gR_X12_49 rfl dX12_worth_94 sh_98 (b := 110) (m_98_18 hMh47) ?_
            refine g_iload_n dX12_worth_97 rfl (fun _ => ?_)
            refine g_iconst dX12_worth_98 (inR_c rfl) ?_
            refine g_zastB dX12_worth_99 sh_110 (by omega) (by omega) (by omega) (fun h56 eh56 => ?_)
            have hFh56 := Fr.ar eh56
            have hMh56 := u_110 hMh47 eh56 (by omega) (by omega)
            refine g_iload dX12_worth_100 rfl (fun _ => ?_)
            refine g_aload_n dX12_worth_102 rfl ?_
            refine g_iload_n dX12_worth_103 rfl (fun _ => ?_)
            have q57 : h56 98 5 = w98_5 := ((hFh56 98 5 rfl).trans ((hFh47 98 5 rfl).trans kz42))
            have q58 : h56 145 0 = v1 := ((hFh56 145 _ rfl).trans kz51)
            have q59 : h56 145 1 = v2 := ((hFh56 145 _ rfl).trans kz52)
            have q60 : h56 145 2 = v3 := ((hFh56 145 _ rfl).trans kz53)
            have q61 : h56 145 3 = w98_5 := ((hFh56 145 _ rfl).trans kz54)
            refine g_cV (as := [_]) (c_X12_hurtIn_98 _ _ h56 hMh56 (by omega) (by omega) (by omega) (by omega) (WFL.fr (T := [(98, 3), (98, 4), (98, 5), (98, 6), (98, 7), (98, 8), (98, 47), (98, 48), (98, 49), (98, 52), (100, 0), (101, 0), (102, 0), (103, 0), (104, 0), (105, 0), (106, 0), (107, 0), (108, 0), (109, 0), (110, 0), (111, 0), (112, 0), (113, 0), (114, 0), (128, 0), (129, 0), (130, 0), (131, 0), (132, 0), (133, 0), (134, 0), (135, 0), (136, 0), (137, 0), (138, 0), (139, 0), (140, 0), (141, 0), (142, 0), (143, 0), (144, 0), (145, 1), (145, 2), (145, 3), (145, 4), (145, 5), (145, 6)]) f_WFL (Fr.tr (Fr.tr (Fr.tr (Fr.sub hFh22 rfl) hFh36 rfl) hFh47 rfl) hFh56 rfl) rfl) (S0n.fr (T := [(110, 0)]) z49 (Fr.sub hFh56 rfl) rfl)) dX12_worth_104 mi_X12_hurtIn in_X12_hurtIn se_X12_hurtIn ml_X12_465 rfl rfl rfl sh_98 rfl rfl (Nat.le_of_ble_eq_true rfl) (fun v62 h63 q64 => ?_)
            obtain ⟨hMh63, hFh63, bv62, cv62, z65, z66, z67, z68, z69⟩ := q64
            have kz66 : h63 98 2 = v1 := by omega
            have kz67 : h63 98 3 = v2 := by omega
            have kz68 : h63 98 4 = v3 := by omega
            have kz69 : h63 98 5 = w98_5 := by omega
            refine g_isubF dX12_worth_107 (fun v70 bv70 cv70 => ?_)
            have q71 : h63 98 2 = v1 := kz66
            have q72 : h63 98 3 = v2 := kz67
            have q73 : h63 98 4 = v3 := kz68
            have q74 : h63 98 5 = w98_5 := kz69
            exact g_ireturn dX12_worth_108 retI (hPo _ _ ⟨hMh63, (Fr.tr (Fr.tr (Fr.tr (Fr.tr (Fr.sub hFh22 rfl) hFh36 rfl) hFh47 rfl) hFh56 rfl) hFh63 rfl), (by omega), (by omega), z65, (S1n.fr (T := [(98, 3), (98, 4), (98, 5), (98, 6), (98, 7), (98, 8), (98, 47), (98, 48), (98, 49), (98, 52), (100, 0), (101, 0), (102, 0), (103, 0), (104, 0), (105, 0), (106, 0), (107, 0), (108, 0), (109, 0), (110, 0), (111, 0), (112, 0), (113, 0), (114, 0), (128, 0), (129, 0)]) z50 (Fr.tr (Fr.sub hFh56 rfl) hFh63 rfl) rfl), (by omega), (by omega), (by omega), (by omega)⟩)
          · skip
            refine g_sipush dX12_worth_58 (inR_c rfl) (by decide) ?_
            have q75 : h 98 2 = v1 := ev1.symm
            have q76 : h 98 3 = v2 := ev2.symm
            have q77 : h 98 4 = v3 := ev3.symm
            have q78 : h 98 5 = w98_5 := ew98_5.symm
            exact g_ireturn dX12_worth_61 retI (hPo _ _ ⟨hM, Fr.rf, (by omega), (by omega), f_IS, f_S1, (by omega), (by omega), (by omega), (by omega)⟩)
        · skip
          refine g_if_eq 58 dX12_worth_46 (by decide) (fun q79 => ?_) (fun _ => by exfalso; omega)
          refine g_sipush dX12_worth_58 (inR_c rfl) (by decide) ?_
          have q80 : h 98 2 = v1 := ev1.symm
          have q81 : h 98 3 = v2 := ev2.symm
          have q82 : h 98 4 = v3 := ev3.symm
          have q83 : h 98 5 = w98_5 := ew98_5.symm
          exact g_ireturn dX12_worth_61 retI (hPo _ _ ⟨hM, Fr.rf, (by omega), (by omega), f_IS, f_S1, (by omega), (by omega), (by omega), (by omega)⟩)
      · skip
        refine g_aload_n dX12_worth_21 rfl ?_
        refine g_iload_n dX12_worth_22 rfl (fun _ => ?_)
        refine g_cVP (as := [_]) (c_X12_isApprentice_98 _ h hM (by omega) (by omega)) dX12_worth_23 mi_X12_isApprentice in_X12_isApprentice se_X12_isApprentice ml_X12_195 rfl rfl rfl sh_98 rfl rfl (Nat.le_of_ble_eq_true rfl) (fun v84 q85 => ?_)
        have q86 : h 98 3 = v2 := ev2.symm
        rcases q85 with ⟨rfl, q85⟩ | ⟨rfl, q85⟩
        · skip
          refine g_if_eq 58 dX12_worth_26 (by decide) (fun _ => by exfalso; omega) (fun q87 => ?_)
          refine g_aload_n dX12_worth_29 rfl ?_
          refine gR_X12_36 rfl dX12_worth_30 sh_98 (b := 106) (m_98_14 hM) ?_
          refine g_iload_n dX12_worth_33 rfl (fun _ => ?_)
          refine g_zaldB dX12_worth_34 sh_106 (by omega) (by omega) (m_106 hM _) (fun v88 ev88 bv88 cv88 => ?_)
          refine g_if_eq 62 dX12_worth_35 (by decide) (fun q89 => ?_) (fun q89 => ?_)
          · skip
            refine g_aload_n dX12_worth_62 rfl ?_
            refine g_iconst dX12_worth_63 (inR_c rfl) ?_
            have q90 : h 98 2 = v1 := ev1.symm
            have q91 : h 98 3 = v2 := ev2.symm
            have q92 : h 98 4 = v3 := ev3.symm
            have q93 : h 98 5 = w98_5 := ew98_5.symm
            refine g_cVV (as := [_]) (c_X12_setsAside_98_k0 _ _ h hM f_IS f_S1) dX12_worth_64 mi_X12_setsAside in_X12_setsAside se_X12_setsAside ml_X12_419 rfl rfl rfl sh_98 rfl rfl (Nat.le_of_ble_eq_true rfl) (fun h94 q95 => ?_)
            obtain ⟨hMh94, hFh94, z96, z97, z98, z99, z100, z101⟩ := q95
            have kz98 : h94 145 0 = v1 := by omega
            have kz99 : h94 145 1 = v2 := by omega
            have kz100 : h94 145 2 = v3 := by omega
            have kz101 : h94 145 3 = w98_5 := by omega
            refine g_aload_n dX12_worth_67 rfl ?_
            refine g_iload_n dX12_worth_68 rfl (fun _ => ?_)
            have q102 : h94 98 5 = w98_5 := ((hFh94 98 5 rfl).trans ew98_5.symm)
            have q103 : h94 145 0 = v1 := kz98
            have q104 : h94 145 1 = v2 := kz99
            have q105 : h94 145 2 = v3 := kz100
            have q106 : h94 145 3 = w98_5 := kz101
            refine g_cV (as := [_]) (c_X12_hurtIn_98 _ _ h94 hMh94 (by omega) (by omega) (by omega) (by omega) (WFL.fr (T := [(130, 0), (131, 0), (132, 0), (133, 0), (134, 0), (135, 0), (136, 0), (137, 0), (138, 0), (139, 0), (140, 0), (141, 0), (142, 0), (143, 0), (144, 0), (145, 1), (145, 2), (145, 3), (145, 4), (145, 5), (145, 6)]) f_WFL (Fr.sub hFh94 rfl) rfl) z96) dX12_worth_69 mi_X12_hurtIn in_X12_hurtIn se_X12_hurtIn ml_X12_465 rfl rfl rfl sh_98 rfl rfl (Nat.le_of_ble_eq_true rfl) (fun v107 h108 q109 => ?_)
            obtain ⟨hMh108, hFh108, bv107, cv107, z110, z111, z112, z113, z114⟩ := q109
            have kz111 : h108 98 2 = v1 := by omega
            have kz112 : h108 98 3 = v2 := by omega
            have kz113 : h108 98 4 = v3 := by omega
            have kz114 : h108 98 5 = w98_5 := by omega
            refine g_istore dX12_worth_72 (by decide) rfl ?_
            refine g_aload_n dX12_worth_74 rfl ?_
            refine g_iconst dX12_worth_75 (inR_c rfl) ?_
            have q115 : h108 98 2 = v1 := kz111
            have q116 : h108 98 3 = v2 := kz112
            have q117 : h108 98 4 = v3 := kz113
            have q118 : h108 98 5 = w98_5 := kz114
            refine g_cVV (as := [_]) (c_X12_setsAside_98_k0 _ _ h108 hMh108 z110 (S1n.fr (T := [(98, 3), (98, 4), (98, 5), (98, 6), (98, 7), (98, 8), (98, 47), (98, 48), (98, 49), (98, 52), (100, 0), (101, 0), (102, 0), (103, 0), (104, 0), (105, 0), (106, 0), (107, 0), (108, 0), (109, 0), (110, 0), (111, 0), (112, 0), (113, 0), (114, 0), (128, 0), (129, 0)]) z97 (Fr.sub hFh108 rfl) rfl)) dX12_worth_76 mi_X12_setsAside in_X12_setsAside se_X12_setsAside ml_X12_419 rfl rfl rfl sh_98 rfl rfl (Nat.le_of_ble_eq_true rfl) (fun h119 q120 => ?_)
            obtain ⟨hMh119, hFh119, z121, z122, z123, z124, z125, z126⟩ := q120
            have kz123 : h119 145 0 = v1 := by omega
            have kz124 : h119 145 1 = v2 := by omega
            have kz125 : h119 145 2 = v3 := by omega
            have kz126 : h119 145 3 = w98_5 := by omega
            refine g_iload_n dX12_worth_79 rfl (fun _ => ?_)
            refine g_if_ne 93 dX12_worth_80 (by decide) (fun _ => by exfalso; omega) (fun q127 => ?_)
            refine g_aload_n dX12_worth_83 rfl ?_
            refine gR_X12_36 rfl dX12_worth_84 sh_98 (b := 106) (m_98_14 hMh119) ?_
            refine g_iload_n dX12_worth_87 rfl (fun _ => ?_)
            refine g_iconst dX12_worth_88 (inR_c rfl) ?_
            refine g_zastB dX12_worth_89 sh_106 (by omega) (by omega) (by omega) (fun h128 eh128 => ?_)
            have hFh128 := Fr.ar eh128
            have hMh128 := u_106 hMh119 eh128 (by omega) (by omega)
            refine g_goto 100 dX12_worth_90 (by decide) ?_
            refine g_iload dX12_worth_100 rfl (fun _ => ?_)
            refine g_aload_n dX12_worth_102 rfl ?_
            refine g_iload_n dX12_worth_103 rfl (fun _ => ?_)
            have q129 : h128 98 5 = w98_5 := ((hFh128 98 5 rfl).trans ((hFh119 98 5 rfl).trans kz114))
            have q130 : h128 145 0 = v1 := ((hFh128 145 _ rfl).trans kz123)
            have q131 : h128 145 1 = v2 := ((hFh128 145 _ rfl).trans kz124)
            have q132 : h128 145 2 = v3 := ((hFh128 145 _ rfl).trans kz125)
            have q133 : h128 145 3 = w98_5 := ((hFh128 145 _ rfl).trans kz126)
            refine g_cV (as := [_]) (c_X12_hurtIn_98 _ _ h128 hMh128 (by omega) (by omega) (by omega) (by omega) (WFL.fr (T := [(98, 3), (98, 4), (98, 5), (98, 6), (98, 7), (98, 8), (98, 47), (98, 48), (98, 49), (98, 52), (100, 0), (101, 0), (102, 0), (103, 0), (104, 0), (105, 0), (106, 0), (107, 0), (108, 0), (109, 0), (110, 0), (111, 0), (112, 0), (113, 0), (114, 0), (128, 0), (129, 0), (130, 0), (131, 0), (132, 0), (133, 0), (134, 0), (135, 0), (136, 0), (137, 0), (138, 0), (139, 0), (140, 0), (141, 0), (142, 0), (143, 0), (144, 0), (145, 1), (145, 2), (145, 3), (145, 4), (145, 5), (145, 6)]) f_WFL (Fr.tr (Fr.tr (Fr.tr (Fr.sub hFh94 rfl) hFh108 rfl) hFh119 rfl) hFh128 rfl) rfl) (S0n.fr (T := [(106, 0)]) z121 (Fr.sub hFh128 rfl) rfl)) dX12_worth_104 mi_X12_hurtIn in_X12_hurtIn se_X12_hurtIn ml_X12_465 rfl rfl rfl sh_98 rfl rfl (Nat.le_of_ble_eq_true rfl) (fun v134 h135 q136 => ?_)
            obtain ⟨hMh135, hFh135, bv134, cv134, z137, z138, z139, z140, z141⟩ := q136
            have kz138 : h135 98 2 = v1 := by omega
            have kz139 : h135 98 3 = v2 := by omega
            have kz140 : h135 98 4 = v3 := by omega
            have kz141 : h135 98 5 = w98_5 := by omega
            refine g_isubF dX12_worth_107 (fun v142 bv142 cv142 => ?_)
            have q143 : h135 98 2 = v1 := kz138
            have q144 : h135 98 3 = v2 := kz139
            have q145 : h135 98 4 = v3 := kz140
            have q146 : h135 98 5 = w98_5 := kz141
            exact g_ireturn dX12_worth_108 retI (hPo _ _ ⟨hMh135, (Fr.tr (Fr.tr (Fr.tr (Fr.tr (Fr.sub hFh94 rfl) hFh108 rfl) hFh119 rfl) hFh128 rfl) hFh135 rfl), (by omega), (by omega), z137, (S1n.fr (T := [(98, 3), (98, 4), (98, 5), (98, 6), (98, 7), (98, 8), (98, 47), (98, 48), (98, 49), (98, 52), (100, 0), (101, 0), (102, 0), (103, 0), (104, 0), (105, 0), (106, 0), (107, 0), (108, 0), (109, 0), (110, 0), (111, 0), (112, 0), (113, 0), (114, 0), (128, 0), (129, 0)]) z122 (Fr.tr (Fr.sub hFh128 rfl) hFh135 rfl) rfl), (by omega), (by omega), (by omega), (by omega)⟩)
          · skip
            refine g_goto 58 dX12_worth_38 (by decide) ?_
            refine g_sipush dX12_worth_58 (inR_c rfl) (by decide) ?_
            have q147 : h 98 2 = v1 := ev1.symm
            have q148 : h 98 3 = v2 := ev2.symm
            have q149 : h 98 4 = v3 := ev3.symm
            have q150 : h 98 5 = w98_5 := ew98_5.symm
            exact g_ireturn dX12_worth_61 retI (hPo _ _ ⟨hM, Fr.rf, (by omega), (by omega), f_IS, f_S1, (by omega), (by omega), (by omega), (by omega)⟩)
        · skip
          refine g_if_eq 58 dX12_worth_26 (by decide) (fun q151 => ?_) (fun _ => by exfalso; omega)
          refine g_sipush dX12_worth_58 (inR_c rfl) (by decide) ?_
          have q152 : h 98 2 = v1 := ev1.symm
          have q153 : h 98 3 = v2 := ev2.symm
          have q154 : h 98 4 = v3 := ev3.symm
          have q155 : h 98 5 = w98_5 := ew98_5.symm
          exact g_ireturn dX12_worth_61 retI (hPo _ _ ⟨hM, Fr.rf, (by omega), (by omega), f_IS, f_S1, (by omega), (by omega), (by omega), (by omega)⟩)
    · skip
      refine g_if_eq 58 dX12_worth_14 (by decide) (fun q156 => ?_) (fun _ => by exfalso; omega)
      refine g_sipush dX12_worth_58 (inR_c rfl) (by decide) ?_
      have q157 : h 98 2 = v1 := ev1.symm
      have q158 : h 98 3 = v2 := ev2.symm
      have q159 : h 98 4 = v3 := ev3.symm
      have q160 : h 98 5 = w98_5 := ew98_5.symm
      exact g_ireturn dX12_worth_61 retI (hPo _ _ ⟨hM, Fr.rf, (by omega), (by omega), f_IS, f_S1, (by omega), (by omega), (by omega), (by omega)⟩)
  · skip
    refine g_if_eq 58 dX12_worth_4 (by decide) (fun q161 => ?_) (fun _ => by exfalso; omega)
    refine g_sipush dX12_worth_58 (inR_c rfl) (by decide) ?_
    have q162 : h 98 2 = v1 := ev1.symm
    have q163 : h 98 3 = v2 := ev2.symm
    have q164 : h 98 4 = v3 := ev3.symm
    have q165 : h 98 5 = w98_5 := ew98_5.symm
    exact g_ireturn dX12_worth_61 retI (hPo _ _ ⟨hM, Fr.rf, (by omega), (by omega), f_IS, f_S1, (by omega), (by omega), (by omega), (by omega)⟩)
set_option maxRecDepth 100000 in
set_option maxHeartbeats 4000000 in
theorem c_X12_canLend_98 (x1 x2 x3 : Int) (h : MEM) (hM : MBm h) (bx1 : 0 ≤ x1) (dx1 : x1 ≤ 7) (bx2 : 0 ≤ x2) (dx2 : x2 ≤ 7) (bx3 : 1 ≤ x3) (dx3 : x3 ≤ 99) : CP yX12_canLend cX12_canLend 4 (some .boolean) 1 [pR 98, pI x1, pI x2, pI x3] h (fun x => 0 ≤ x ∧ x ≤ 1) := by
  refine CP.of (L0 := [some (pR 98), some (pI x1), some (pI x2), some (pI x3)]) rfl (Nat.le_of_ble_eq_true rfl) rfl (fun Po hPo hav => ?_)
  refine g_aload_n dX12_canLend_0 rfl ?_
  refine gR_X12_52 rfl dX12_canLend_1 sh_98 (b := 111) (m_98_19 hM) ?_
  refine g_iload_n dX12_canLend_4 rfl (fun _ => ?_)
  refine g_ialdB dX12_canLend_5 sh_111 (by omega) (by omega) (m_111 hM _) (fun v1 ev1 bv1 cv1 => ?_)
  refine g_if_le 37 dX12_canLend_6 (by decide) (fun q2 => ?_) (fun q2 => ?_)
  · skip
    refine g_iconst dX12_canLend_37 (inR_c rfl) ?_
    exact g_ireturn dX12_canLend_38 (retZ (by omega)) (hPo _ ⟨(by omega), (by omega)⟩)
  · skip
    refine g_aload_n dX12_canLend_9 rfl ?_
    refine gR_X12_36 rfl dX12_canLend_10 sh_98 (b := 106) (m_98_14 hM) ?_
    refine g_iload_n dX12_canLend_13 rfl (fun _ => ?_)
    refine g_zaldB dX12_canLend_14 sh_106 (by omega) (by omega) (m_106 hM _) (fun v3 ev3 bv3 cv3 => ?_)
    refine g_if_ne 37 dX12_canLend_15 (by decide) (fun q4 => ?_) (fun q4 => ?_)
    · skip
      refine g_iconst dX12_canLend_37 (inR_c rfl) ?_
      exact g_ireturn dX12_canLend_38 (retZ (by omega)) (hPo _ ⟨(by omega), (by omega)⟩)
    · skip
      refine g_aload_n dX12_canLend_18 rfl ?_
      refine gR_X12_58 rfl dX12_canLend_19 sh_98 (b := 113) (m_98_21 hM) ?_
      refine g_bipush dX12_canLend_22 (inR_c rfl) (by decide) ?_
      refine g_iload_n dX12_canLend_24 rfl (fun _ => ?_)
      refine g_imulB dX12_canLend_25 (by omega) (by omega) ?_
      refine g_iload_n dX12_canLend_26 rfl (fun _ => ?_)
      refine g_iaddB dX12_canLend_27 (by omega) (by omega) ?_
      refine g_ialdB dX12_canLend_28 sh_113 (by omega) (by omega) (m_113 hM _) (fun v5 ev5 bv5 cv5 => ?_)
      refine g_iload_n dX12_canLend_29 rfl (fun _ => ?_)
      refine g_icmp_lt 37 dX12_canLend_30 (by decide) (fun q6 => ?_) (fun q6 => ?_)
      · skip
        refine g_iconst dX12_canLend_37 (inR_c rfl) ?_
        exact g_ireturn dX12_canLend_38 (retZ (by omega)) (hPo _ ⟨(by omega), (by omega)⟩)
      · skip
        refine g_iconst dX12_canLend_33 (inR_c rfl) ?_
        refine g_goto 38 dX12_canLend_34 (by decide) ?_
        exact g_ireturn dX12_canLend_38 (retZ (by omega)) (hPo _ ⟨(by omega), (by omega)⟩)
set_option maxRecDepth 100000 in
set_option maxHeartbeats 4000000 in
theorem c_X12_lentWith_98 (x1 x2 x3 : Int) (h : MEM) (hM : MBm h) (bx1 : 0 ≤ x1) (dx1 : x1 ≤ 7) (bx2 : 0 ≤ x2) (dx2 : x2 ≤ 7) (bx3 : 0 ≤ x3) (dx3 : x3 ≤ 255) : CP yX12_lentWith cX12_lentWith 4 (some .int) 1 [pR 98, pI x1, pI x2, pI x3] h (fun x => -2147483648 ≤ x ∧ x ≤ 2147483647) := by
  refine CP.of (L0 := [some (pR 98), some (pI x1), some (pI x2), some (pI x3)]) rfl (Nat.le_of_ble_eq_true rfl) rfl (fun Po hPo hav => ?_)
  refine g_iconst dX12_lentWith_0 (inR_c rfl) ?_
  refine g_aload_n dX12_lentWith_1 rfl ?_
  refine gR_X12_160 rfl dX12_lentWith_2 sh_98 (b := 147) (m_98_75 hM) ?_
  refine g_sipush dX12_lentWith_5 (inR_c rfl) (by decide) ?_
  refine g_iload_n dX12_lentWith_8 rfl (fun _ => ?_)
  refine g_iconst dX12_lentWith_9 (inR_c rfl) ?_
  refine g_iaddB dX12_lentWith_10 (by omega) (by omega) ?_
  refine g_imulB dX12_lentWith_11 (by omega) (by omega) ?_
  refine g_iload_n dX12_lentWith_12 rfl (fun _ => ?_)
  refine g_iconst dX12_lentWith_13 (inR_c rfl) ?_
  refine g_iload_n dX12_lentWith_14 rfl (fun _ => ?_)
  refine g_ishlX (lo := 1) (hi := 128) dX12_lentWith_15 (ishl1_b 7 (by decide) (by omega) (by omega)) (fun v1 ev1 bv1 cv1 => ?_)
  refine g_iorX (lo := 0) (hi := 255) dX12_lentWith_16 (ior_b 8 (by decide) (by omega) (by omega) (by omega) (by omega)) (fun v2 ev2 bv2 cv2 => ?_)
  refine g_iaddB dX12_lentWith_17 (by omega) (by omega) ?_
  refine g_ialdB dX12_lentWith_18 sh_147 (by omega) (by omega) (m_147 hM _) (fun v3 ev3 bv3 cv3 => ?_)
  refine g_iaddF dX12_lentWith_19 (fun v4 bv4 cv4 => ?_)
  exact g_ireturn dX12_lentWith_20 retI (hPo _ ⟨(by omega), (by omega)⟩)
set_option maxRecDepth 100000 in
set_option maxHeartbeats 4000000 in
theorem c_X12_lent_98 (x1 x2 : Int) (h : MEM) (hM : MBm h) (bx1 : -2147483648 ≤ x1) (dx1 : x1 ≤ 2147483647) (bx2 : -2147483648 ≤ x2) (dx2 : x2 ≤ 2147483647) : CI yX12_lent cX12_lent 8 (some .int) 3 [pR 98, pI x1, pI x2] h (fun x h' => MBm h' ∧ Fr [(106, 0), (147, 0)] h h' ∧ -2147483648 ≤ x ∧ x ≤ 2147483647) := by
  refine CI.of (L0 := [some (pR 98), some (pI x1), some (pI x2), none, none, none, none, none]) rfl (Nat.le_of_ble_eq_true rfl) rfl (fun Po hPo hav => ?_)
  refine g_iload_n dX12_lent_0 rfl (fun _ => ?_)
  refine g_i2l dX12_lent_1 ?_
  refine g_lconst (v := 1) dX12_lent_2 rfl ?_
  refine g_ldc2 (v := 99) dX12_lent_3 kl_X12_187 (by decide) ?_
  refine g_cSP (av := [_, _, _]) (c_X12_lies _ _ _ h hM (by omega) (by omega) (by omega) (by omega) (by omega) (by omega)) dX12_lent_6 mi_X12_lies st_X12_lies ml_X12_175 rfl rfl rfl rfl (Nat.le_of_ble_eq_true rfl) (fun v1 q2 => ?_)
  rcases q2 with ⟨rfl, q2⟩ | ⟨rfl, q2⟩
  · skip
    refine g_if_eq 34 dX12_lent_9 (by decide) (fun _ => by exfalso; omega) (fun q3 => ?_)
    refine g_iload_n dX12_lent_12 rfl (fun _ => ?_)
    refine g_i2l dX12_lent_13 ?_
    refine g_ldc2 (v := 10) dX12_lent_14 kl_X12_410 (by decide) ?_
    refine g_ldc2 (v := 11) dX12_lent_17 kl_X12_468 (by decide) ?_
    refine g_cSP (av := [_, _, _]) (c_X12_lies _ _ _ h hM (by omega) (by omega) (by omega) (by omega) (by omega) (by omega)) dX12_lent_20 mi_X12_lies st_X12_lies ml_X12_175 rfl rfl rfl rfl (Nat.le_of_ble_eq_true rfl) (fun v4 q5 => ?_)
    rcases q5 with ⟨rfl, q5⟩ | ⟨rfl, q5⟩
    · skip
      refine g_if_ne 36 dX12_lent_23 (by decide) (fun q6 => ?_) (fun _ => by exfalso; omega)
      refine g_iconst dX12_lent_36 (inR_c rfl) ?_
      have c38 : ∀ (n : Nat) (y7 : Int) (h8 : MEM), MBm h8 → Fr [(147, 0)] h h8 → 0 ≤ y7 → y7 ≤ 256 → 256 - y7 < (n : Int) → G yX12_lent cX12_lent 8 (some .int) none Po (3, 180, 0, 0) 38 [some (pR 98), some (pI x1), some (pI x2), some (pI y7), none, none, none, none] [] SH h8 0 0 := by
        intro n
        induction n with
        | zero =>
          intro y7 h8 hMh8 hFh8 by7 dy7 hn
          exfalso; omega
        | succ n ih38 =>
          intro y7 h8 hMh8 hFh8 by7 dy7 hn
          refine g_iload_n dX12_lent_38 rfl (fun _ => ?_)
          refine g_sipush dX12_lent_39 (inR_c rfl) (by decide) ?_
          refine g_icmp_ge 67 dX12_lent_42 (by decide) (fun q9 => ?_) (fun q9 => ?_)
          · skip
            refine g_aload_n dX12_lent_67 rfl ?_
            refine gI_X12_182 rfl dX12_lent_68 sh_98 (m_98_4 hMh8) (fun v10 ev10 bv10 cv10 => ?_)
            refine g_iconst dX12_lent_71 (inR_c rfl) ?_
            refine g_isubB dX12_lent_72 (by omega) (by omega) ?_
            have c74 : ∀ (n : Nat) (y11 : Int) (h12 : MEM), MBm h12 → Fr [(147, 0)] h8 h12 → -1 ≤ y11 → y11 ≤ 7 → y11 - (-1) < (n : Int) → G yX12_lent cX12_lent 8 (some .int) none Po (3, 180, 0, 0) 74 [some (pR 98), some (pI x1), some (pI x2), some (pI y11), none, none, none, none] [] SH h12 0 0 := by
              intro n
              induction n with
              | zero =>
                intro y11 h12 hMh12 hFh12 by11 dy11 hn
                exfalso; omega
              | succ n ih74 =>
                intro y11 h12 hMh12 hFh12 by11 dy11 hn
                refine g_iload_n dX12_lent_74 rfl (fun _ => ?_)
                refine g_if_lt 197 dX12_lent_75 (by decide) (fun q13 => ?_) (fun q13 => ?_)
                · skip
                  refine g_iload_n dX12_lent_197 rfl (fun _ => ?_)
                  refine g_bipush dX12_lent_198 (inR_c rfl) (by decide) ?_
                  refine g_icmp_ne 210 dX12_lent_200 (by decide) (fun q14 => ?_) (fun q14 => ?_)
                  · skip
                    refine g_iconst dX12_lent_210 (inR_c rfl) ?_
                    refine g_istore_n dX12_lent_211 (by decide) rfl ?_
                    refine g_iconst dX12_lent_212 (inR_c rfl) ?_
                    refine g_istore dX12_lent_213 (by decide) rfl ?_
                    refine g_iconst dX12_lent_215 (inR_c rfl) ?_
                    have c218 : ∀ (n : Nat) (y15 y16 y17 : Int) , 0 ≤ y15 → y15 ≤ 255 → 0 ≤ y16 → y16 ≤ 8 → 0 ≤ y17 → y17 ≤ 8 → 8 - y17 < (n : Int) → G yX12_lent cX12_lent 8 (some .int) none Po (3, 180, 0, 0) 218 [some (pR 98), some (pI x1), some (pI x2), some (pI y15), some (pI y16), some (pI y17), none, none] [] SH h12 0 0 := by
                      intro n
                      induction n with
                      | zero =>
                        intro y15 y16 y17 by15 dy15 by16 dy16 by17 dy17 hn
                        exfalso; omega
                      | succ n ih218 =>
                        intro y15 y16 y17 by15 dy15 by16 dy16 by17 dy17 hn
                        refine g_iload dX12_lent_218 rfl (fun _ => ?_)
                        refine g_aload_n dX12_lent_220 rfl ?_
                        refine gE_X12_182 rfl dX12_lent_221 sh_98 ((hFh12 98 4 rfl).trans ev10.symm) ?_
                        refine g_icmp_ge 334 dX12_lent_224 (by decide) (fun q18 => ?_) (fun q18 => ?_)
                        · skip
                          refine g_iload_n dX12_lent_334 rfl (fun _ => ?_)
                          refine g_bipush dX12_lent_335 (inR_c rfl) (by decide) ?_
                          refine g_icmp_eq 343 dX12_lent_337 (by decide) (fun q19 => ?_) (fun _ => by exfalso; omega)
                          refine g_iconst dX12_lent_343 (inR_c rfl) ?_
                          have c346 : ∀ (n : Nat) (y20 : Int) (h21 : MEM), MBm h21 → Fr [(106, 0)] h12 h21 → 0 ≤ y20 → y20 ≤ 8 → 8 - y20 < (n : Int) → G yX12_lent cX12_lent 8 (some .int) none Po (3, 180, 0, 0) 346 [some (pR 98), none, none, some (pI y15), none, some (pI y20), none, none] [] SH h21 0 0 := by
                            intro n
                            induction n with
                            | zero =>
                              intro y20 h21 hMh21 hFh21 by20 dy20 hn
                              exfalso; omega
                            | succ n ih346 =>
                              intro y20 h21 hMh21 hFh21 by20 dy20 hn
                              refine g_iload dX12_lent_346 rfl (fun _ => ?_)
                              refine g_aload_n dX12_lent_348 rfl ?_
                              refine gI_X12_179 rfl dX12_lent_349 sh_98 (m_98_3 hMh21) (fun v22 ev22 bv22 cv22 => ?_)
                              refine g_icmp_ge 378 dX12_lent_352 (by decide) (fun q23 => ?_) (fun q23 => ?_)
                              · skip
                                refine g_iload_n dX12_lent_378 rfl (fun _ => ?_)
                                refine g_cSP (av := [_]) (c_X12_sizeOf _ h21 hMh21 (by omega) (by omega)) dX12_lent_379 mi_X12_sizeOf st_X12_sizeOf ml_X12_450 rfl rfl rfl rfl (Nat.le_of_ble_eq_true rfl) (fun v24 q25 => ?_)
                                obtain ⟨bv24, cv24⟩ := q25
                                exact g_ireturn dX12_lent_382 retI (hPo _ _ ⟨hMh21, (Fr.tr (Fr.tr (Fr.sub hFh8 rfl) hFh12 rfl) hFh21 rfl), (by omega), (by omega)⟩)
                              · skip
                                refine g_iload_n dX12_lent_355 rfl (fun _ => ?_)
                                refine g_iload dX12_lent_356 rfl (fun _ => ?_)
                                refine g_cSP (av := [_, _]) (c_X12_has _ _ h21 hMh21 (by omega) (by omega) (by omega) (by omega)) dX12_lent_358 mi_X12_has st_X12_has ml_X12_362 rfl rfl rfl rfl (Nat.le_of_ble_eq_true rfl) (fun v26 q27 => ?_)
                                obtain ⟨bv26, cv26, zv26⟩ := q27
                                refine g_if_eq 372 dX12_lent_361 (by decide) (fun q28 => ?_) (fun q28 => ?_)
                                · skip
                                  refine g_iincB dX12_lent_372 rfl rfl (by omega) (by omega) ?_
                                  refine g_goto 346 dX12_lent_375 (by decide) ?_
                                  exact ih346 _ _ hMh21 (Fr.sub hFh21 rfl) (by omega) (by omega) (by omega)
                                · skip
                                  refine g_aload_n dX12_lent_364 rfl ?_
                                  refine gR_X12_36 rfl dX12_lent_365 sh_98 (b := 106) (m_98_14 hMh21) ?_
                                  refine g_iload dX12_lent_368 rfl (fun _ => ?_)
                                  refine g_iconst dX12_lent_370 (inR_c rfl) ?_
                                  refine g_zastB dX12_lent_371 sh_106 (by omega) (by omega) (by omega) (fun h29 eh29 => ?_)
                                  have hFh29 := Fr.ar eh29
                                  have hMh29 := u_106 hMh21 eh29 (by omega) (by omega)
                                  refine g_iincB dX12_lent_372 rfl rfl (by omega) (by omega) ?_
                                  refine g_goto 346 dX12_lent_375 (by decide) ?_
                                  exact ih346 _ _ hMh29 (Fr.tr (Fr.sub hFh21 rfl) hFh29 rfl) (by omega) (by omega) (by omega)
                          refine g_istore dX12_lent_344 (by decide) rfl ?_
                          refine g_drop 1 ?_
                          refine g_drop 2 ?_
                          refine g_drop 4 ?_
                          exact c346 9 _ _ hMh12 Fr.rf (by omega) (by omega) (by omega)
                        · skip
                          refine g_bipush dX12_lent_227 (inR_c rfl) (by decide) ?_
                          refine g_istore dX12_lent_229 (by decide) rfl ?_
                          refine g_aload_n dX12_lent_231 rfl ?_
                          refine gI_X12_179 rfl dX12_lent_232 sh_98 (m_98_3 hMh12) (fun v30 ev30 bv30 cv30 => ?_)
                          refine g_iconst dX12_lent_235 (inR_c rfl) ?_
                          refine g_isubB dX12_lent_236 (by omega) (by omega) ?_
                          have c239 : ∀ (n : Nat) (y31 y32 : Int) , 0 ≤ y31 → y31 ≤ 8 → -1 ≤ y32 → y32 ≤ 7 → y32 - (-1) < (n : Int) → G yX12_lent cX12_lent 8 (some .int) none Po (3, 180, 0, 0) 239 [some (pR 98), some (pI x1), some (pI x2), some (pI y15), some (pI y16), some (pI y17), some (pI y31), some (pI y32)] [] SH h12 0 0 := by
                            intro n
                            induction n with
                            | zero =>
                              intro y31 y32 by31 dy31 by32 dy32 hn
                              exfalso; omega
                            | succ n ih239 =>
                              intro y31 y32 by31 dy31 by32 dy32 hn
                              refine g_iload dX12_lent_239 rfl (fun _ => ?_)
                              refine g_if_lt 300 dX12_lent_241 (by decide) (fun q33 => ?_) (fun q33 => ?_)
                              · skip
                                refine g_iload dX12_lent_300 rfl (fun _ => ?_)
                                refine g_iload_n dX12_lent_302 rfl (fun _ => ?_)
                                refine g_icmp_ne 310 dX12_lent_303 (by decide) (fun q34 => ?_) (fun _ => by exfalso; omega)
                                refine g_iload_n dX12_lent_310 rfl (fun _ => ?_)
                                refine g_iload dX12_lent_311 rfl (fun _ => ?_)
                                refine g_bipush dX12_lent_313 (inR_c rfl) (by decide) ?_
                                refine g_icmp_ge 325 dX12_lent_315 (by decide) (fun q35 => ?_) (fun q35 => ?_)
                                · skip
                                  refine g_iconst dX12_lent_325 (inR_c rfl) ?_
                                  refine g_iorX (lo := 0) (hi := 255) dX12_lent_326 (ior_b 8 (by decide) (by omega) (by omega) (by omega) (by omega)) (fun v36 ev36 bv36 cv36 => ?_)
                                  refine g_istore_n dX12_lent_327 (by decide) rfl ?_
                                  refine g_iincB dX12_lent_328 rfl rfl (by omega) (by omega) ?_
                                  refine g_goto 218 dX12_lent_331 (by decide) ?_
                                  refine g_drop 6 ?_
                                  refine g_drop 7 ?_
                                  exact ih218 _ _ _ (by omega) (by omega) (by omega) (by omega) (by omega) (by omega) (by omega)
                                · skip
                                  refine g_iconst dX12_lent_318 (inR_c rfl) ?_
                                  refine g_iload dX12_lent_319 rfl (fun _ => ?_)
                                  refine g_ishlX (lo := 1) (hi := 128) dX12_lent_321 (ishl1_b 7 (by decide) (by omega) (by omega)) (fun v37 ev37 bv37 cv37 => ?_)
                                  refine g_goto 326 dX12_lent_322 (by decide) ?_
                                  refine g_iorX (lo := 0) (hi := 255) dX12_lent_326 (ior_b 8 (by decide) (by omega) (by omega) (by omega) (by omega)) (fun v38 ev38 bv38 cv38 => ?_)
                                  refine g_istore_n dX12_lent_327 (by decide) rfl ?_
                                  refine g_iincB dX12_lent_328 rfl rfl (by omega) (by omega) ?_
                                  refine g_goto 218 dX12_lent_331 (by decide) ?_
                                  refine g_drop 6 ?_
                                  refine g_drop 7 ?_
                                  exact ih218 _ _ _ (by omega) (by omega) (by omega) (by omega) (by omega) (by omega) (by omega)
                              · skip
                                refine g_iload_n dX12_lent_244 rfl (fun _ => ?_)
                                refine g_iload dX12_lent_245 rfl (fun _ => ?_)
                                refine g_cSP (av := [_, _]) (c_X12_has _ _ h12 hMh12 (by omega) (by omega) (by omega) (by omega)) dX12_lent_247 mi_X12_has st_X12_has ml_X12_362 rfl rfl rfl rfl (Nat.le_of_ble_eq_true rfl) (fun v39 q40 => ?_)
                                obtain ⟨bv39, cv39, zv39⟩ := q40
                                refine g_if_ne 294 dX12_lent_250 (by decide) (fun q41 => ?_) (fun q41 => ?_)
                                · skip
                                  refine g_iincB dX12_lent_294 rfl rfl (by omega) (by omega) ?_
                                  refine g_goto 239 dX12_lent_297 (by decide) ?_
                                  exact ih239 _ _ (by omega) (by omega) (by omega) (by omega) (by omega)
                                · skip
                                  refine g_aload_n dX12_lent_253 rfl ?_
                                  refine g_iload dX12_lent_254 rfl (fun _ => ?_)
                                  refine g_iload dX12_lent_256 rfl (fun _ => ?_)
                                  refine g_iload_n dX12_lent_258 rfl (fun _ => ?_)
                                  refine g_cVP (as := [_, _, _]) (c_X12_canLend_98 _ _ _ h12 hMh12 (by omega) (by omega) (by omega) (by omega) (by omega) (by omega)) dX12_lent_259 mi_X12_canLend in_X12_canLend se_X12_canLend ml_X12_470 rfl rfl rfl sh_98 rfl rfl (Nat.le_of_ble_eq_true rfl) (fun v42 q43 => ?_)
                                  obtain ⟨bv42, cv42⟩ := q43
                                  refine g_if_eq 294 dX12_lent_262 (by decide) (fun q44 => ?_) (fun q44 => ?_)
                                  · skip
                                    refine g_iincB dX12_lent_294 rfl rfl (by omega) (by omega) ?_
                                    refine g_goto 239 dX12_lent_297 (by decide) ?_
                                    exact ih239 _ _ (by omega) (by omega) (by omega) (by omega) (by omega)
                                  · skip
                                    refine g_aload_n dX12_lent_265 rfl ?_
                                    refine g_iload dX12_lent_266 rfl (fun _ => ?_)
                                    refine g_iload dX12_lent_268 rfl (fun _ => ?_)
                                    refine g_iload_n dX12_lent_270 rfl (fun _ => ?_)
                                    refine g_cVP (as := [_, _, _]) (c_X12_lentWith_98 _ _ _ h12 hMh12 (by omega) (by omega) (by omega) (by omega) (by omega) (by omega)) dX12_lent_271 mi_X12_lentWith in_X12_lentWith se_X12_lentWith ml_X12_474 rfl rfl rfl sh_98 rfl rfl (Nat.le_of_ble_eq_true rfl) (fun v45 q46 => ?_)
                                    obtain ⟨bv45, cv45⟩ := q46
                                    refine g_aload_n dX12_lent_274 rfl ?_
                                    refine gR_X12_160 rfl dX12_lent_275 sh_98 (b := 147) (m_98_75 hMh12) ?_
                                    refine g_sipush dX12_lent_278 (inR_c rfl) (by decide) ?_
                                    refine g_iload dX12_lent_281 rfl (fun _ => ?_)
                                    refine g_imulB dX12_lent_283 (by omega) (by omega) ?_
                                    refine g_iload_n dX12_lent_284 rfl (fun _ => ?_)
                                    refine g_iaddB dX12_lent_285 (by omega) (by omega) ?_
                                    refine g_ialdB dX12_lent_286 sh_147 (by omega) (by omega) (m_147 hMh12 _) (fun v47 ev47 bv47 cv47 => ?_)
                                    refine g_icmp_ne 294 dX12_lent_287 (by decide) (fun q48 => ?_) (fun q48 => ?_)
                                    · skip
                                      refine g_iincB dX12_lent_294 rfl rfl (by omega) (by omega) ?_
                                      refine g_goto 239 dX12_lent_297 (by decide) ?_
                                      exact ih239 _ _ (by omega) (by omega) (by omega) (by omega) (by omega)
                                    · skip
                                      refine g_iload dX12_lent_290 rfl (fun _ => ?_)
                                      refine g_istore dX12_lent_292 (by decide) rfl ?_
                                      refine g_iincB dX12_lent_294 rfl rfl (by omega) (by omega) ?_
                                      refine g_goto 239 dX12_lent_297 (by decide) ?_
                                      exact ih239 _ _ (by omega) (by omega) (by omega) (by omega) (by omega)
                          refine g_istore dX12_lent_237 (by decide) rfl ?_
                          exact c239 9 _ _ (by omega) (by omega) (by omega) (by omega) (by omega)
                    refine g_istore dX12_lent_216 (by decide) rfl ?_
                    exact c218 9 _ _ _ (by omega) (by omega) (by omega) (by omega) (by omega) (by omega) (by omega)
                  · skip
                    refine g_aload_n dX12_lent_203 rfl ?_
                    refine gR_X12_160 rfl dX12_lent_204 sh_98 (b := 147) (m_98_75 hMh12) ?_
                    refine g_iconst dX12_lent_207 (inR_c rfl) ?_
                    refine g_ialdB dX12_lent_208 sh_147 (by omega) (by omega) (m_147 hMh12 _) (fun v49 ev49 bv49 cv49 => ?_)
                    exact g_ireturn dX12_lent_209 retI (hPo _ _ ⟨hMh12, (Fr.tr (Fr.sub hFh8 rfl) hFh12 rfl), (by omega), (by omega)⟩)
                · skip
                  refine g_iconst dX12_lent_78 (inR_c rfl) ?_
                  have c81 : ∀ (n : Nat) (y50 : Int) (h51 : MEM), MBm h51 → Fr [(147, 0)] h12 h51 → 0 ≤ y50 → y50 ≤ 256 → 256 - y50 < (n : Int) → G yX12_lent cX12_lent 8 (some .int) none Po (3, 180, 0, 0) 81 [some (pR 98), some (pI x1), some (pI x2), some (pI y11), some (pI y50), none, none, none] [] SH h51 0 0 := by
                    intro n
                    induction n with
                    | zero =>
                      intro y50 h51 hMh51 hFh51 by50 dy50 hn
                      exfalso; omega
                    | succ n ih81 =>
                      intro y50 h51 hMh51 hFh51 by50 dy50 hn
                      refine g_iload dX12_lent_81 rfl (fun _ => ?_)
                      refine g_sipush dX12_lent_83 (inR_c rfl) (by decide) ?_
                      refine g_icmp_ge 191 dX12_lent_86 (by decide) (fun q52 => ?_) (fun q52 => ?_)
                      · skip
                        refine g_iincB dX12_lent_191 rfl rfl (by omega) (by omega) ?_
                        refine g_goto 74 dX12_lent_194 (by decide) ?_
                        refine g_drop 4 ?_
                        exact ih74 _ _ hMh51 (Fr.tr (Fr.sub hFh12 rfl) hFh51 rfl) (by omega) (by omega) (by omega)
                      · skip
                        refine g_aload_n dX12_lent_89 rfl ?_
                        refine gR_X12_160 rfl dX12_lent_90 sh_98 (b := 147) (m_98_75 hMh51) ?_
                        refine g_sipush dX12_lent_93 (inR_c rfl) (by decide) ?_
                        refine g_iload_n dX12_lent_96 rfl (fun _ => ?_)
                        refine g_iconst dX12_lent_97 (inR_c rfl) ?_
                        refine g_iaddB dX12_lent_98 (by omega) (by omega) ?_
                        refine g_imulB dX12_lent_99 (by omega) (by omega) ?_
                        refine g_iload dX12_lent_100 rfl (fun _ => ?_)
                        refine g_iaddB dX12_lent_102 (by omega) (by omega) ?_
                        refine g_ialdB dX12_lent_103 sh_147 (by omega) (by omega) (m_147 hMh51 _) (fun v53 ev53 bv53 cv53 => ?_)
                        refine g_istore dX12_lent_104 (by decide) rfl ?_
                        refine g_iconst dX12_lent_106 (inR_c rfl) ?_
                        have c109 : ∀ (n : Nat) (y54 y55 : Int) , -2147483648 ≤ y54 → y54 ≤ 2147483647 → 0 ≤ y55 → y55 ≤ 8 → 8 - y55 < (n : Int) → G yX12_lent cX12_lent 8 (some .int) none Po (3, 180, 0, 0) 109 [some (pR 98), some (pI x1), some (pI x2), some (pI y11), some (pI y50), some (pI y54), some (pI y55), none] [] SH h51 0 0 := by
                          intro n
                          induction n with
                          | zero =>
                            intro y54 y55 by54 dy54 by55 dy55 hn
                            exfalso; omega
                          | succ n ih109 =>
                            intro y54 y55 by54 dy54 by55 dy55 hn
                            refine g_iload dX12_lent_109 rfl (fun _ => ?_)
                            refine g_aload_n dX12_lent_111 rfl ?_
                            refine gI_X12_179 rfl dX12_lent_112 sh_98 (m_98_3 hMh51) (fun v56 ev56 bv56 cv56 => ?_)
                            refine g_icmp_ge 170 dX12_lent_115 (by decide) (fun q57 => ?_) (fun q57 => ?_)
                            · skip
                              refine g_aload_n dX12_lent_170 rfl ?_
                              refine gR_X12_160 rfl dX12_lent_171 sh_98 (b := 147) (m_98_75 hMh51) ?_
                              refine g_sipush dX12_lent_174 (inR_c rfl) (by decide) ?_
                              refine g_iload_n dX12_lent_177 rfl (fun _ => ?_)
                              refine g_imulB dX12_lent_178 (by omega) (by omega) ?_
                              refine g_iload dX12_lent_179 rfl (fun _ => ?_)
                              refine g_iaddB dX12_lent_181 (by omega) (by omega) ?_
                              refine g_iload dX12_lent_182 rfl (fun _ => ?_)
                              refine g_iastB dX12_lent_184 sh_147 (by omega) (by omega) (fun h58 eh58 => ?_)
                              have hFh58 := Fr.ar eh58
                              have hMh58 := u_147 hMh51 eh58 (by omega) (by omega)
                              refine g_iincB dX12_lent_185 rfl rfl (by omega) (by omega) ?_
                              refine g_goto 81 dX12_lent_188 (by decide) ?_
                              refine g_drop 5 ?_
                              refine g_drop 6 ?_
                              exact ih81 _ _ hMh58 (Fr.tr (Fr.sub hFh51 rfl) hFh58 rfl) (by omega) (by omega) (by omega)
                            · skip
                              refine g_iload dX12_lent_118 rfl (fun _ => ?_)
                              refine g_iload dX12_lent_120 rfl (fun _ => ?_)
                              refine g_cSP (av := [_, _]) (c_X12_has _ _ h51 hMh51 (by omega) (by omega) (by omega) (by omega)) dX12_lent_122 mi_X12_has st_X12_has ml_X12_362 rfl rfl rfl rfl (Nat.le_of_ble_eq_true rfl) (fun v59 q60 => ?_)
                              obtain ⟨bv59, cv59, zv59⟩ := q60
                              refine g_if_ne 164 dX12_lent_125 (by decide) (fun q61 => ?_) (fun q61 => ?_)
                              · skip
                                refine g_iincB dX12_lent_164 rfl rfl (by omega) (by omega) ?_
                                refine g_goto 109 dX12_lent_167 (by decide) ?_
                                exact ih109 _ _ (by omega) (by omega) (by omega) (by omega) (by omega)
                              · skip
                                refine g_aload_n dX12_lent_128 rfl ?_
                                refine g_iload_n dX12_lent_129 rfl (fun _ => ?_)
                                refine g_iload dX12_lent_130 rfl (fun _ => ?_)
                                refine g_iload_n dX12_lent_132 rfl (fun _ => ?_)
                                refine g_cVP (as := [_, _, _]) (c_X12_canLend_98 _ _ _ h51 hMh51 (by omega) (by omega) (by omega) (by omega) (by omega) (by omega)) dX12_lent_133 mi_X12_canLend in_X12_canLend se_X12_canLend ml_X12_470 rfl rfl rfl sh_98 rfl rfl (Nat.le_of_ble_eq_true rfl) (fun v62 q63 => ?_)
                                obtain ⟨bv62, cv62⟩ := q63
                                refine g_if_eq 164 dX12_lent_136 (by decide) (fun q64 => ?_) (fun q64 => ?_)
                                · skip
                                  refine g_iincB dX12_lent_164 rfl rfl (by omega) (by omega) ?_
                                  refine g_goto 109 dX12_lent_167 (by decide) ?_
                                  exact ih109 _ _ (by omega) (by omega) (by omega) (by omega) (by omega)
                                · skip
                                  refine g_aload_n dX12_lent_139 rfl ?_
                                  refine g_iload_n dX12_lent_140 rfl (fun _ => ?_)
                                  refine g_iload dX12_lent_141 rfl (fun _ => ?_)
                                  refine g_iload dX12_lent_143 rfl (fun _ => ?_)
                                  refine g_cVP (as := [_, _, _]) (c_X12_lentWith_98 _ _ _ h51 hMh51 (by omega) (by omega) (by omega) (by omega) (by omega) (by omega)) dX12_lent_145 mi_X12_lentWith in_X12_lentWith se_X12_lentWith ml_X12_474 rfl rfl rfl sh_98 rfl rfl (Nat.le_of_ble_eq_true rfl) (fun v65 q66 => ?_)
                                  obtain ⟨bv65, cv65⟩ := q66
                                  refine g_iload dX12_lent_148 rfl (fun _ => ?_)
                                  refine g_icmp_le 164 dX12_lent_150 (by decide) (fun q67 => ?_) (fun q67 => ?_)
                                  · skip
                                    refine g_iincB dX12_lent_164 rfl rfl (by omega) (by omega) ?_
                                    refine g_goto 109 dX12_lent_167 (by decide) ?_
                                    exact ih109 _ _ (by omega) (by omega) (by omega) (by omega) (by omega)
                                  · skip
                                    refine g_aload_n dX12_lent_153 rfl ?_
                                    refine g_iload_n dX12_lent_154 rfl (fun _ => ?_)
                                    refine g_iload dX12_lent_155 rfl (fun _ => ?_)
                                    refine g_iload dX12_lent_157 rfl (fun _ => ?_)
                                    refine g_cVP (as := [_, _, _]) (c_X12_lentWith_98 _ _ _ h51 hMh51 (by omega) (by omega) (by omega) (by omega) (by omega) (by omega)) dX12_lent_159 mi_X12_lentWith in_X12_lentWith se_X12_lentWith ml_X12_474 rfl rfl rfl sh_98 rfl rfl (Nat.le_of_ble_eq_true rfl) (fun v68 q69 => ?_)
                                    obtain ⟨bv68, cv68⟩ := q69
                                    refine g_istore dX12_lent_162 (by decide) rfl ?_
                                    refine g_iincB dX12_lent_164 rfl rfl (by omega) (by omega) ?_
                                    refine g_goto 109 dX12_lent_167 (by decide) ?_
                                    exact ih109 _ _ (by omega) (by omega) (by omega) (by omega) (by omega)
                        refine g_istore dX12_lent_107 (by decide) rfl ?_
                        exact c109 9 _ _ (by omega) (by omega) (by omega) (by omega) (by omega)
                  refine g_istore dX12_lent_79 (by decide) rfl ?_
                  exact c81 257 _ _ hMh12 Fr.rf (by omega) (by omega) (by omega)
            refine g_istore_n dX12_lent_73 (by decide) rfl ?_
            exact c74 9 _ _ hMh8 Fr.rf (by omega) (by omega) (by omega)
          · skip
            refine g_aload_n dX12_lent_45 rfl ?_
            refine gR_X12_160 rfl dX12_lent_46 sh_98 (b := 147) (m_98_75 hMh8) ?_
            refine g_sipush dX12_lent_49 (inR_c rfl) (by decide) ?_
            refine g_aload_n dX12_lent_52 rfl ?_
            refine gI_X12_182 rfl dX12_lent_53 sh_98 (m_98_4 hMh8) (fun v70 ev70 bv70 cv70 => ?_)
            refine g_imulB dX12_lent_56 (by omega) (by omega) ?_
            refine g_iload_n dX12_lent_57 rfl (fun _ => ?_)
            refine g_iaddB dX12_lent_58 (by omega) (by omega) ?_
            refine g_iconst dX12_lent_59 (inR_c rfl) ?_
            refine g_iastB dX12_lent_60 sh_147 (by omega) (by omega) (fun h71 eh71 => ?_)
            have hFh71 := Fr.ar eh71
            have hMh71 := u_147 hMh8 eh71 (by omega) (by omega)
            refine g_iincB dX12_lent_61 rfl rfl (by omega) (by omega) ?_
            refine g_goto 38 dX12_lent_64 (by decide) ?_
            exact ih38 _ _ hMh71 (Fr.tr (Fr.sub hFh8 rfl) hFh71 rfl) (by omega) (by omega) (by omega)
      refine g_istore_n dX12_lent_37 (by decide) rfl ?_
      exact c38 257 _ _ hM Fr.rf (by omega) (by omega) (by omega)
    · skip
      refine g_if_ne 36 dX12_lent_23 (by decide) (fun _ => by exfalso; omega) (fun q72 => ?_)
      refine g_aload_n dX12_lent_26 rfl ?_
      refine g_iload_n dX12_lent_27 rfl (fun _ => ?_)
      refine g_cVP (as := [_]) (c_X12_isMaster_98 _ h hM (by omega) (by omega)) dX12_lent_28 mi_X12_isMaster in_X12_isMaster se_X12_isMaster ml_X12_201 rfl rfl rfl sh_98 rfl rfl (Nat.le_of_ble_eq_true rfl) (fun v73 q74 => ?_)
      obtain ⟨v75, ev75⟩ : ∃ z, z = h 98 4 := ⟨_, rfl⟩
      have bv75 : 0 ≤ v75 ∧ v75 ≤ 8 := by rw [ev75]; exact (m_98_4 hM)
      rcases q74 with ⟨rfl, q74⟩ | ⟨rfl, q74⟩
      · skip
        refine g_if_ne 36 dX12_lent_31 (by decide) (fun q76 => ?_) (fun _ => by exfalso; omega)
        refine g_iconst dX12_lent_36 (inR_c rfl) ?_
        have c38 : ∀ (n : Nat) (y77 : Int) (h78 : MEM), MBm h78 → Fr [(147, 0)] h h78 → 0 ≤ y77 → y77 ≤ 256 → 256 - y77 < (n : Int) → G yX12_lent cX12_lent 8 (some .int) none Po (3, 180, 0, 0) 38 [some (pR 98), some (pI x1), some (pI x2), some (pI y77), none, none, none, none] [] SH h78 0 0 := by
          intro n
          induction n with
          | zero =>
            intro y77 h78 hMh78 hFh78 by77 dy77 hn
            exfalso; omega
          | succ n ih38 =>
            intro y77 h78 hMh78 hFh78 by77 dy77 hn
            refine g_iload_n dX12_lent_38 rfl (fun _ => ?_)
            refine g_sipush dX12_lent_39 (inR_c rfl) (by decide) ?_
            refine g_icmp_ge 67 dX12_lent_42 (by decide) (fun q79 => ?_) (fun q79 => ?_)
            · skip
              refine g_aload_n dX12_lent_67 rfl ?_
              refine gE_X12_182 rfl dX12_lent_68 sh_98 ((hFh78 98 4 rfl).trans ev75.symm) ?_
              refine g_iconst dX12_lent_71 (inR_c rfl) ?_
              refine g_isubB dX12_lent_72 (by omega) (by omega) ?_
              have c74 : ∀ (n : Nat) (y80 : Int) (h81 : MEM), MBm h81 → Fr [(147, 0)] h78 h81 → -1 ≤ y80 → y80 ≤ 7 → y80 - (-1) < (n : Int) → G yX12_lent cX12_lent 8 (some .int) none Po (3, 180, 0, 0) 74 [some (pR 98), some (pI x1), some (pI x2), some (pI y80), none, none, none, none] [] SH h81 0 0 := by
                intro n
                induction n with
                | zero =>
                  intro y80 h81 hMh81 hFh81 by80 dy80 hn
                  exfalso; omega
                | succ n ih74 =>
                  intro y80 h81 hMh81 hFh81 by80 dy80 hn
                  refine g_iload_n dX12_lent_74 rfl (fun _ => ?_)
                  refine g_if_lt 197 dX12_lent_75 (by decide) (fun q82 => ?_) (fun q82 => ?_)
                  · skip
                    refine g_iload_n dX12_lent_197 rfl (fun _ => ?_)
                    refine g_bipush dX12_lent_198 (inR_c rfl) (by decide) ?_
                    refine g_icmp_ne 210 dX12_lent_200 (by decide) (fun q83 => ?_) (fun _ => by exfalso; omega)
                    refine g_iconst dX12_lent_210 (inR_c rfl) ?_
                    refine g_istore_n dX12_lent_211 (by decide) rfl ?_
                    refine g_iconst dX12_lent_212 (inR_c rfl) ?_
                    refine g_istore dX12_lent_213 (by decide) rfl ?_
                    refine g_iconst dX12_lent_215 (inR_c rfl) ?_
                    have c218 : ∀ (n : Nat) (y84 y85 y86 : Int) , 0 ≤ y84 → y84 ≤ 255 → 0 ≤ y85 → y85 ≤ 8 → 0 ≤ y86 → y86 ≤ 8 → 8 - y86 < (n : Int) → G yX12_lent cX12_lent 8 (some .int) none Po (3, 180, 0, 0) 218 [some (pR 98), some (pI x1), some (pI x2), some (pI y84), some (pI y85), some (pI y86), none, none] [] SH h81 0 0 := by
                      intro n
                      induction n with
                      | zero =>
                        intro y84 y85 y86 by84 dy84 by85 dy85 by86 dy86 hn
                        exfalso; omega
                      | succ n ih218 =>
                        intro y84 y85 y86 by84 dy84 by85 dy85 by86 dy86 hn
                        refine g_iload dX12_lent_218 rfl (fun _ => ?_)
                        refine g_aload_n dX12_lent_220 rfl ?_
                        refine gE_X12_182 rfl dX12_lent_221 sh_98 ((hFh81 98 4 rfl).trans ((hFh78 98 4 rfl).trans ev75.symm)) ?_
                        refine g_icmp_ge 334 dX12_lent_224 (by decide) (fun q87 => ?_) (fun q87 => ?_)
                        · skip
                          refine g_iload_n dX12_lent_334 rfl (fun _ => ?_)
                          refine g_bipush dX12_lent_335 (inR_c rfl) (by decide) ?_
                          refine g_icmp_eq 343 dX12_lent_337 (by decide) (fun _ => by exfalso; omega) (fun q88 => ?_)
                          refine g_iload dX12_lent_340 rfl (fun _ => ?_)
                          exact g_ireturn dX12_lent_342 retI (hPo _ _ ⟨hMh81, (Fr.tr (Fr.sub hFh78 rfl) hFh81 rfl), (by omega), (by omega)⟩)
                        · skip
                          refine g_bipush dX12_lent_227 (inR_c rfl) (by decide) ?_
                          refine g_istore dX12_lent_229 (by decide) rfl ?_
                          refine g_aload_n dX12_lent_231 rfl ?_
                          refine gI_X12_179 rfl dX12_lent_232 sh_98 (m_98_3 hMh81) (fun v89 ev89 bv89 cv89 => ?_)
                          refine g_iconst dX12_lent_235 (inR_c rfl) ?_
                          refine g_isubB dX12_lent_236 (by omega) (by omega) ?_
                          have c239 : ∀ (n : Nat) (y90 y91 : Int) , 0 ≤ y90 → y90 ≤ 8 → -1 ≤ y91 → y91 ≤ 7 → y91 - (-1) < (n : Int) → G yX12_lent cX12_lent 8 (some .int) none Po (3, 180, 0, 0) 239 [some (pR 98), some (pI x1), some (pI x2), some (pI y84), some (pI y85), some (pI y86), some (pI y90), some (pI y91)] [] SH h81 0 0 := by
                            intro n
                            induction n with
                            | zero =>
                              intro y90 y91 by90 dy90 by91 dy91 hn
                              exfalso; omega
                            | succ n ih239 =>
                              intro y90 y91 by90 dy90 by91 dy91 hn
                              refine g_iload dX12_lent_239 rfl (fun _ => ?_)
                              refine g_if_lt 300 dX12_lent_241 (by decide) (fun q92 => ?_) (fun q92 => ?_)
                              · skip
                                refine g_iload dX12_lent_300 rfl (fun _ => ?_)
                                refine g_iload_n dX12_lent_302 rfl (fun _ => ?_)
                                refine g_icmp_ne 310 dX12_lent_303 (by decide) (fun q93 => ?_) (fun q93 => ?_)
                                · skip
                                  refine g_iload_n dX12_lent_310 rfl (fun _ => ?_)
                                  refine g_iload dX12_lent_311 rfl (fun _ => ?_)
                                  refine g_bipush dX12_lent_313 (inR_c rfl) (by decide) ?_
                                  refine g_icmp_ge 325 dX12_lent_315 (by decide) (fun q94 => ?_) (fun q94 => ?_)
                                  · skip
                                    refine g_iconst dX12_lent_325 (inR_c rfl) ?_
                                    refine g_iorX (lo := 0) (hi := 255) dX12_lent_326 (ior_b 8 (by decide) (by omega) (by omega) (by omega) (by omega)) (fun v95 ev95 bv95 cv95 => ?_)
                                    refine g_istore_n dX12_lent_327 (by decide) rfl ?_
                                    refine g_iincB dX12_lent_328 rfl rfl (by omega) (by omega) ?_
                                    refine g_goto 218 dX12_lent_331 (by decide) ?_
                                    refine g_drop 6 ?_
                                    refine g_drop 7 ?_
                                    exact ih218 _ _ _ (by omega) (by omega) (by omega) (by omega) (by omega) (by omega) (by omega)
                                  · skip
                                    refine g_iconst dX12_lent_318 (inR_c rfl) ?_
                                    refine g_iload dX12_lent_319 rfl (fun _ => ?_)
                                    refine g_ishlX (lo := 1) (hi := 128) dX12_lent_321 (ishl1_b 7 (by decide) (by omega) (by omega)) (fun v96 ev96 bv96 cv96 => ?_)
                                    refine g_goto 326 dX12_lent_322 (by decide) ?_
                                    refine g_iorX (lo := 0) (hi := 255) dX12_lent_326 (ior_b 8 (by decide) (by omega) (by omega) (by omega) (by omega)) (fun v97 ev97 bv97 cv97 => ?_)
                                    refine g_istore_n dX12_lent_327 (by decide) rfl ?_
                                    refine g_iincB dX12_lent_328 rfl rfl (by omega) (by omega) ?_
                                    refine g_goto 218 dX12_lent_331 (by decide) ?_
                                    refine g_drop 6 ?_
                                    refine g_drop 7 ?_
                                    exact ih218 _ _ _ (by omega) (by omega) (by omega) (by omega) (by omega) (by omega) (by omega)
                                · skip
                                  refine g_iload dX12_lent_306 rfl (fun _ => ?_)
                                  refine g_istore dX12_lent_308 (by decide) rfl ?_
                                  refine g_iload_n dX12_lent_310 rfl (fun _ => ?_)
                                  refine g_iload dX12_lent_311 rfl (fun _ => ?_)
                                  refine g_bipush dX12_lent_313 (inR_c rfl) (by decide) ?_
                                  refine g_icmp_ge 325 dX12_lent_315 (by decide) (fun q98 => ?_) (fun q98 => ?_)
                                  · skip
                                    refine g_iconst dX12_lent_325 (inR_c rfl) ?_
                                    refine g_iorX (lo := 0) (hi := 255) dX12_lent_326 (ior_b 8 (by decide) (by omega) (by omega) (by omega) (by omega)) (fun v99 ev99 bv99 cv99 => ?_)
                                    refine g_istore_n dX12_lent_327 (by decide) rfl ?_
                                    refine g_iincB dX12_lent_328 rfl rfl (by omega) (by omega) ?_
                                    refine g_goto 218 dX12_lent_331 (by decide) ?_
                                    refine g_drop 6 ?_
                                    refine g_drop 7 ?_
                                    exact ih218 _ _ _ (by omega) (by omega) (by omega) (by omega) (by omega) (by omega) (by omega)
                                  · skip
                                    refine g_iconst dX12_lent_318 (inR_c rfl) ?_
                                    refine g_iload dX12_lent_319 rfl (fun _ => ?_)
                                    refine g_ishlX (lo := 1) (hi := 128) dX12_lent_321 (ishl1_b 7 (by decide) (by omega) (by omega)) (fun v100 ev100 bv100 cv100 => ?_)
                                    refine g_goto 326 dX12_lent_322 (by decide) ?_
                                    refine g_iorX (lo := 0) (hi := 255) dX12_lent_326 (ior_b 8 (by decide) (by omega) (by omega) (by omega) (by omega)) (fun v101 ev101 bv101 cv101 => ?_)
                                    refine g_istore_n dX12_lent_327 (by decide) rfl ?_
                                    refine g_iincB dX12_lent_328 rfl rfl (by omega) (by omega) ?_
                                    refine g_goto 218 dX12_lent_331 (by decide) ?_
                                    refine g_drop 6 ?_
                                    refine g_drop 7 ?_
                                    exact ih218 _ _ _ (by omega) (by omega) (by omega) (by omega) (by omega) (by omega) (by omega)
                              · skip
                                refine g_iload_n dX12_lent_244 rfl (fun _ => ?_)
                                refine g_iload dX12_lent_245 rfl (fun _ => ?_)
                                refine g_cSP (av := [_, _]) (c_X12_has _ _ h81 hMh81 (by omega) (by omega) (by omega) (by omega)) dX12_lent_247 mi_X12_has st_X12_has ml_X12_362 rfl rfl rfl rfl (Nat.le_of_ble_eq_true rfl) (fun v102 q103 => ?_)
                                obtain ⟨bv102, cv102, zv102⟩ := q103
                                refine g_if_ne 294 dX12_lent_250 (by decide) (fun q104 => ?_) (fun q104 => ?_)
                                · skip
                                  refine g_iincB dX12_lent_294 rfl rfl (by omega) (by omega) ?_
                                  refine g_goto 239 dX12_lent_297 (by decide) ?_
                                  exact ih239 _ _ (by omega) (by omega) (by omega) (by omega) (by omega)
                                · skip
                                  refine g_aload_n dX12_lent_253 rfl ?_
                                  refine g_iload dX12_lent_254 rfl (fun _ => ?_)
                                  refine g_iload dX12_lent_256 rfl (fun _ => ?_)
                                  refine g_iload_n dX12_lent_258 rfl (fun _ => ?_)
                                  refine g_cVP (as := [_, _, _]) (c_X12_canLend_98 _ _ _ h81 hMh81 (by omega) (by omega) (by omega) (by omega) (by omega) (by omega)) dX12_lent_259 mi_X12_canLend in_X12_canLend se_X12_canLend ml_X12_470 rfl rfl rfl sh_98 rfl rfl (Nat.le_of_ble_eq_true rfl) (fun v105 q106 => ?_)
                                  obtain ⟨bv105, cv105⟩ := q106
                                  refine g_if_eq 294 dX12_lent_262 (by decide) (fun q107 => ?_) (fun q107 => ?_)
                                  · skip
                                    refine g_iincB dX12_lent_294 rfl rfl (by omega) (by omega) ?_
                                    refine g_goto 239 dX12_lent_297 (by decide) ?_
                                    exact ih239 _ _ (by omega) (by omega) (by omega) (by omega) (by omega)
                                  · skip
                                    refine g_aload_n dX12_lent_265 rfl ?_
                                    refine g_iload dX12_lent_266 rfl (fun _ => ?_)
                                    refine g_iload dX12_lent_268 rfl (fun _ => ?_)
                                    refine g_iload_n dX12_lent_270 rfl (fun _ => ?_)
                                    refine g_cVP (as := [_, _, _]) (c_X12_lentWith_98 _ _ _ h81 hMh81 (by omega) (by omega) (by omega) (by omega) (by omega) (by omega)) dX12_lent_271 mi_X12_lentWith in_X12_lentWith se_X12_lentWith ml_X12_474 rfl rfl rfl sh_98 rfl rfl (Nat.le_of_ble_eq_true rfl) (fun v108 q109 => ?_)
                                    obtain ⟨bv108, cv108⟩ := q109
                                    refine g_aload_n dX12_lent_274 rfl ?_
                                    refine gR_X12_160 rfl dX12_lent_275 sh_98 (b := 147) (m_98_75 hMh81) ?_
                                    refine g_sipush dX12_lent_278 (inR_c rfl) (by decide) ?_
                                    refine g_iload dX12_lent_281 rfl (fun _ => ?_)
                                    refine g_imulB dX12_lent_283 (by omega) (by omega) ?_
                                    refine g_iload_n dX12_lent_284 rfl (fun _ => ?_)
                                    refine g_iaddB dX12_lent_285 (by omega) (by omega) ?_
                                    refine g_ialdB dX12_lent_286 sh_147 (by omega) (by omega) (m_147 hMh81 _) (fun v110 ev110 bv110 cv110 => ?_)
                                    refine g_icmp_ne 294 dX12_lent_287 (by decide) (fun q111 => ?_) (fun q111 => ?_)
                                    · skip
                                      refine g_iincB dX12_lent_294 rfl rfl (by omega) (by omega) ?_
                                      refine g_goto 239 dX12_lent_297 (by decide) ?_
                                      exact ih239 _ _ (by omega) (by omega) (by omega) (by omega) (by omega)
                                    · skip
                                      refine g_iload dX12_lent_290 rfl (fun _ => ?_)
                                      refine g_istore dX12_lent_292 (by decide) rfl ?_
                                      refine g_iincB dX12_lent_294 rfl rfl (by omega) (by omega) ?_
                                      refine g_goto 239 dX12_lent_297 (by decide) ?_
                                      exact ih239 _ _ (by omega) (by omega) (by omega) (by omega) (by omega)
                          refine g_istore dX12_lent_237 (by decide) rfl ?_
                          exact c239 9 _ _ (by omega) (by omega) (by omega) (by omega) (by omega)
                    refine g_istore dX12_lent_216 (by decide) rfl ?_
                    exact c218 9 _ _ _ (by omega) (by omega) (by omega) (by omega) (by omega) (by omega) (by omega)
                  · skip
                    refine g_iconst dX12_lent_78 (inR_c rfl) ?_
                    have c81 : ∀ (n : Nat) (y112 : Int) (h113 : MEM), MBm h113 → Fr [(147, 0)] h81 h113 → 0 ≤ y112 → y112 ≤ 256 → 256 - y112 < (n : Int) → G yX12_lent cX12_lent 8 (some .int) none Po (3, 180, 0, 0) 81 [some (pR 98), some (pI x1), some (pI x2), some (pI y80), some (pI y112), none, none, none] [] SH h113 0 0 := by
                      intro n
                      induction n with
                      | zero =>
                        intro y112 h113 hMh113 hFh113 by112 dy112 hn
                        exfalso; omega
                      | succ n ih81 =>
                        intro y112 h113 hMh113 hFh113 by112 dy112 hn
                        refine g_iload dX12_lent_81 rfl (fun _ => ?_)
                        refine g_sipush dX12_lent_83 (inR_c rfl) (by decide) ?_
                        refine g_icmp_ge 191 dX12_lent_86 (by decide) (fun q114 => ?_) (fun q114 => ?_)
                        · skip
                          refine g_iincB dX12_lent_191 rfl rfl (by omega) (by omega) ?_
                          refine g_goto 74 dX12_lent_194 (by decide) ?_
                          refine g_drop 4 ?_
                          exact ih74 _ _ hMh113 (Fr.tr (Fr.sub hFh81 rfl) hFh113 rfl) (by omega) (by omega) (by omega)
                        · skip
                          refine g_aload_n dX12_lent_89 rfl ?_
                          refine gR_X12_160 rfl dX12_lent_90 sh_98 (b := 147) (m_98_75 hMh113) ?_
                          refine g_sipush dX12_lent_93 (inR_c rfl) (by decide) ?_
                          refine g_iload_n dX12_lent_96 rfl (fun _ => ?_)
                          refine g_iconst dX12_lent_97 (inR_c rfl) ?_
                          refine g_iaddB dX12_lent_98 (by omega) (by omega) ?_
                          refine g_imulB dX12_lent_99 (by omega) (by omega) ?_
                          refine g_iload dX12_lent_100 rfl (fun _ => ?_)
                          refine g_iaddB dX12_lent_102 (by omega) (by omega) ?_
                          refine g_ialdB dX12_lent_103 sh_147 (by omega) (by omega) (m_147 hMh113 _) (fun v115 ev115 bv115 cv115 => ?_)
                          refine g_istore dX12_lent_104 (by decide) rfl ?_
                          refine g_iconst dX12_lent_106 (inR_c rfl) ?_
                          have c109 : ∀ (n : Nat) (y116 y117 : Int) , -2147483648 ≤ y116 → y116 ≤ 2147483647 → 0 ≤ y117 → y117 ≤ 8 → 8 - y117 < (n : Int) → G yX12_lent cX12_lent 8 (some .int) none Po (3, 180, 0, 0) 109 [some (pR 98), some (pI x1), some (pI x2), some (pI y80), some (pI y112), some (pI y116), some (pI y117), none] [] SH h113 0 0 := by
                            intro n
                            induction n with
                            | zero =>
                              intro y116 y117 by116 dy116 by117 dy117 hn
                              exfalso; omega
                            | succ n ih109 =>
                              intro y116 y117 by116 dy116 by117 dy117 hn
                              refine g_iload dX12_lent_109 rfl (fun _ => ?_)
                              refine g_aload_n dX12_lent_111 rfl ?_
                              refine gI_X12_179 rfl dX12_lent_112 sh_98 (m_98_3 hMh113) (fun v118 ev118 bv118 cv118 => ?_)
                              refine g_icmp_ge 170 dX12_lent_115 (by decide) (fun q119 => ?_) (fun q119 => ?_)
                              · skip
                                refine g_aload_n dX12_lent_170 rfl ?_
                                refine gR_X12_160 rfl dX12_lent_171 sh_98 (b := 147) (m_98_75 hMh113) ?_
                                refine g_sipush dX12_lent_174 (inR_c rfl) (by decide) ?_
                                refine g_iload_n dX12_lent_177 rfl (fun _ => ?_)
                                refine g_imulB dX12_lent_178 (by omega) (by omega) ?_
                                refine g_iload dX12_lent_179 rfl (fun _ => ?_)
                                refine g_iaddB dX12_lent_181 (by omega) (by omega) ?_
                                refine g_iload dX12_lent_182 rfl (fun _ => ?_)
                                refine g_iastB dX12_lent_184 sh_147 (by omega) (by omega) (fun h120 eh120 => ?_)
                                have hFh120 := Fr.ar eh120
                                have hMh120 := u_147 hMh113 eh120 (by omega) (by omega)
                                refine g_iincB dX12_lent_185 rfl rfl (by omega) (by omega) ?_
                                refine g_goto 81 dX12_lent_188 (by decide) ?_
                                refine g_drop 5 ?_
                                refine g_drop 6 ?_
                                exact ih81 _ _ hMh120 (Fr.tr (Fr.sub hFh113 rfl) hFh120 rfl) (by omega) (by omega) (by omega)
                              · skip
                                refine g_iload dX12_lent_118 rfl (fun _ => ?_)
                                refine g_iload dX12_lent_120 rfl (fun _ => ?_)
                                refine g_cSP (av := [_, _]) (c_X12_has _ _ h113 hMh113 (by omega) (by omega) (by omega) (by omega)) dX12_lent_122 mi_X12_has st_X12_has ml_X12_362 rfl rfl rfl rfl (Nat.le_of_ble_eq_true rfl) (fun v121 q122 => ?_)
                                obtain ⟨bv121, cv121, zv121⟩ := q122
                                refine g_if_ne 164 dX12_lent_125 (by decide) (fun q123 => ?_) (fun q123 => ?_)
                                · skip
                                  refine g_iincB dX12_lent_164 rfl rfl (by omega) (by omega) ?_
                                  refine g_goto 109 dX12_lent_167 (by decide) ?_
                                  exact ih109 _ _ (by omega) (by omega) (by omega) (by omega) (by omega)
                                · skip
                                  refine g_aload_n dX12_lent_128 rfl ?_
                                  refine g_iload_n dX12_lent_129 rfl (fun _ => ?_)
                                  refine g_iload dX12_lent_130 rfl (fun _ => ?_)
                                  refine g_iload_n dX12_lent_132 rfl (fun _ => ?_)
                                  refine g_cVP (as := [_, _, _]) (c_X12_canLend_98 _ _ _ h113 hMh113 (by omega) (by omega) (by omega) (by omega) (by omega) (by omega)) dX12_lent_133 mi_X12_canLend in_X12_canLend se_X12_canLend ml_X12_470 rfl rfl rfl sh_98 rfl rfl (Nat.le_of_ble_eq_true rfl) (fun v124 q125 => ?_)
                                  obtain ⟨bv124, cv124⟩ := q125
                                  refine g_if_eq 164 dX12_lent_136 (by decide) (fun q126 => ?_) (fun q126 => ?_)
                                  · skip
                                    refine g_iincB dX12_lent_164 rfl rfl (by omega) (by omega) ?_
                                    refine g_goto 109 dX12_lent_167 (by decide) ?_
                                    exact ih109 _ _ (by omega) (by omega) (by omega) (by omega) (by omega)
                                  · skip
                                    refine g_aload_n dX12_lent_139 rfl ?_
                                    refine g_iload_n dX12_lent_140 rfl (fun _ => ?_)
                                    refine g_iload dX12_lent_141 rfl (fun _ => ?_)
                                    refine g_iload dX12_lent_143 rfl (fun _ => ?_)
                                    refine g_cVP (as := [_, _, _]) (c_X12_lentWith_98 _ _ _ h113 hMh113 (by omega) (by omega) (by omega) (by omega) (by omega) (by omega)) dX12_lent_145 mi_X12_lentWith in_X12_lentWith se_X12_lentWith ml_X12_474 rfl rfl rfl sh_98 rfl rfl (Nat.le_of_ble_eq_true rfl) (fun v127 q128 => ?_)
                                    obtain ⟨bv127, cv127⟩ := q128
                                    refine g_iload dX12_lent_148 rfl (fun _ => ?_)
                                    refine g_icmp_le 164 dX12_lent_150 (by decide) (fun q129 => ?_) (fun q129 => ?_)
                                    · skip
                                      refine g_iincB dX12_lent_164 rfl rfl (by omega) (by omega) ?_
                                      refine g_goto 109 dX12_lent_167 (by decide) ?_
                                      exact ih109 _ _ (by omega) (by omega) (by omega) (by omega) (by omega)
                                    · skip
                                      refine g_aload_n dX12_lent_153 rfl ?_
                                      refine g_iload_n dX12_lent_154 rfl (fun _ => ?_)
                                      refine g_iload dX12_lent_155 rfl (fun _ => ?_)
                                      refine g_iload dX12_lent_157 rfl (fun _ => ?_)
                                      refine g_cVP (as := [_, _, _]) (c_X12_lentWith_98 _ _ _ h113 hMh113 (by omega) (by omega) (by omega) (by omega) (by omega) (by omega)) dX12_lent_159 mi_X12_lentWith in_X12_lentWith se_X12_lentWith ml_X12_474 rfl rfl rfl sh_98 rfl rfl (Nat.le_of_ble_eq_true rfl) (fun v130 q131 => ?_)
                                      obtain ⟨bv130, cv130⟩ := q131
                                      refine g_istore dX12_lent_162 (by decide) rfl ?_
                                      refine g_iincB dX12_lent_164 rfl rfl (by omega) (by omega) ?_
                                      refine g_goto 109 dX12_lent_167 (by decide) ?_
                                      exact ih109 _ _ (by omega) (by omega) (by omega) (by omega) (by omega)
                          refine g_istore dX12_lent_107 (by decide) rfl ?_
                          exact c109 9 _ _ (by omega) (by omega) (by omega) (by omega) (by omega)
                    refine g_istore dX12_lent_79 (by decide) rfl ?_
                    exact c81 257 _ _ hMh81 Fr.rf (by omega) (by omega) (by omega)
              refine g_istore_n dX12_lent_73 (by decide) rfl ?_
              exact c74 9 _ _ hMh78 Fr.rf (by omega) (by omega) (by omega)
            · skip
              refine g_aload_n dX12_lent_45 rfl ?_
              refine gR_X12_160 rfl dX12_lent_46 sh_98 (b := 147) (m_98_75 hMh78) ?_
              refine g_sipush dX12_lent_49 (inR_c rfl) (by decide) ?_
              refine g_aload_n dX12_lent_52 rfl ?_
              refine gE_X12_182 rfl dX12_lent_53 sh_98 ((hFh78 98 4 rfl).trans ev75.symm) ?_
              refine g_imulB dX12_lent_56 (by omega) (by omega) ?_
              refine g_iload_n dX12_lent_57 rfl (fun _ => ?_)
              refine g_iaddB dX12_lent_58 (by omega) (by omega) ?_
              refine g_iconst dX12_lent_59 (inR_c rfl) ?_
              refine g_iastB dX12_lent_60 sh_147 (by omega) (by omega) (fun h132 eh132 => ?_)
              have hFh132 := Fr.ar eh132
              have hMh132 := u_147 hMh78 eh132 (by omega) (by omega)
              refine g_iincB dX12_lent_61 rfl rfl (by omega) (by omega) ?_
              refine g_goto 38 dX12_lent_64 (by decide) ?_
              exact ih38 _ _ hMh132 (Fr.tr (Fr.sub hFh78 rfl) hFh132 rfl) (by omega) (by omega) (by omega)
        refine g_istore_n dX12_lent_37 (by decide) rfl ?_
        exact c38 257 _ _ hM Fr.rf (by omega) (by omega) (by omega)
      · skip
        refine g_if_ne 36 dX12_lent_31 (by decide) (fun _ => by exfalso; omega) (fun q133 => ?_)
        refine g_iconst dX12_lent_34 (inR_c rfl) ?_
        exact g_ireturn dX12_lent_35 retI (hPo _ _ ⟨hM, Fr.rf, (by omega), (by omega)⟩)
  · skip
    refine g_if_eq 34 dX12_lent_9 (by decide) (fun q134 => ?_) (fun _ => by exfalso; omega)
    refine g_iconst dX12_lent_34 (inR_c rfl) ?_
    exact g_ireturn dX12_lent_35 retI (hPo _ _ ⟨hM, Fr.rf, (by omega), (by omega)⟩)
set_option maxRecDepth 100000 in
set_option maxHeartbeats 4000000 in
theorem c_X12_byteAt_98 (x1 : Int) (h : MEM) (hM : MBm h) (bx1 : 0 ≤ x1) (dx1 : x1 ≤ 7) : CP yX12_byteAt cX12_byteAt 2 (some .int) 1 [pR 98, pI x1] h (fun x => 0 ≤ x ∧ x ≤ 255) := by
  refine CP.of (L0 := [some (pR 98), some (pI x1)]) rfl (Nat.le_of_ble_eq_true rfl) rfl (fun Po hPo hav => ?_)
  refine g_aload_n dX12_byteAt_0 rfl ?_
  refine gR_X12_7 rfl dX12_byteAt_1 sh_98 (b := 99) (m_98_0 hM) ?_
  refine g_iload_n dX12_byteAt_4 rfl (fun _ => ?_)
  refine g_baldB dX12_byteAt_5 sh_99 (by omega) (by omega) (m_99 hM _) (fun v1 ev1 bv1 cv1 => ?_)
  refine g_sipush dX12_byteAt_6 (inR_c rfl) (by decide) ?_
  refine g_iandX (lo := 0) (hi := 255) dX12_byteAt_9 (iand_r (by omega) (by omega)) (fun v2 ev2 bv2 cv2 => ?_)
  exact g_ireturn dX12_byteAt_10 retI (hPo _ ⟨(by omega), (by omega)⟩)
set_option maxRecDepth 100000 in
set_option maxHeartbeats 4000000 in
theorem c_X12_isAsTold_98 (x1 : Int) (h : MEM) (hM : MBm h) (bx1 : 1 ≤ x1) (dx1 : x1 ≤ 6) (p0_0 : 0 ≤ h 98 5) (p0_1 : h 98 5 ≤ 999600) (f_WFL : WFL h) : CI yX12_isAsTold cX12_isAsTold 4 (some .boolean) 9 [pR 98, pI x1] h (fun x h' => MBm h' ∧ Fr [(98, 6), (98, 7), (98, 8), (98, 47), (98, 48), (98, 49), (98, 52), (101, 0), (105, 0), (107, 0), (111, 0), (112, 0), (113, 0), (128, 0), (129, 0)] h h' ∧ 0 ≤ x ∧ x ≤ 1) := by
  refine CI.of (L0 := [some (pR 98), some (pI x1), none, none]) rfl (Nat.le_of_ble_eq_true rfl) rfl (fun Po hPo hav => ?_)
  obtain ⟨w98_5, ew98_5⟩ : ∃ z, z = h 98 5 := ⟨_, rfl⟩
  refine g_iconst dX12_isAsTold_0 (inR_c rfl) ?_
  refine g_istore_n dX12_isAsTold_1 (by decide) rfl ?_
  refine g_aload_n dX12_isAsTold_2 rfl ?_
  refine g_iload_n dX12_isAsTold_3 rfl (fun _ => ?_)
  have q1 : h 98 5 = w98_5 := ew98_5.symm
  have q2 : h 98 5 = w98_5 := ew98_5.symm
  refine g_cVV (as := [_]) (c_X12_goesOn_98 _ h hM (by omega) (by omega) (by omega) (by omega) f_WFL) dX12_isAsTold_4 mi_X12_goesOn in_X12_goesOn se_X12_goesOn ml_X12_401 rfl rfl rfl sh_98 rfl rfl (Nat.le_of_ble_eq_true rfl) (fun h3 q4 => ?_)
  obtain ⟨hMh3, hFh3, z5⟩ := q4
  have kz5 : h3 98 5 = (w98_5 + x1) := by omega
  refine g_iconst dX12_isAsTold_7 (inR_c rfl) ?_
  have c9 : ∀ (n : Nat) (y6 y7 : Int) , 0 ≤ y6 → y6 ≤ 1 → 0 ≤ y7 → y7 ≤ 8 → 8 - y7 < (n : Int) → G yX12_isAsTold cX12_isAsTold 4 (some .boolean) none Po (9, 540, 0, 0) 9 [some (pR 98), none, some (pI y6), some (pI y7)] [] SH h3 0 0 := by
    intro n
    induction n with
    | zero =>
      intro y6 y7 by6 dy6 by7 dy7 hn
      exfalso; omega
    | succ n ih9 =>
      intro y6 y7 by6 dy6 by7 dy7 hn
      refine g_iload_n dX12_isAsTold_9 rfl (fun _ => ?_)
      refine g_aload_n dX12_isAsTold_10 rfl ?_
      refine gI_X12_182 rfl dX12_isAsTold_11 sh_98 (m_98_4 hMh3) (fun v8 ev8 bv8 cv8 => ?_)
      refine g_icmp_ge 54 dX12_isAsTold_14 (by decide) (fun q9 => ?_) (fun q9 => ?_)
      · skip
        refine g_iload_n dX12_isAsTold_54 rfl (fun _ => ?_)
        exact g_ireturn dX12_isAsTold_55 (retZ (by omega)) (hPo _ _ ⟨hMh3, (Fr.sub hFh3 rfl), (by omega), (by omega)⟩)
      · skip
        refine g_iload_n dX12_isAsTold_17 rfl (fun _ => ?_)
        refine g_if_eq 46 dX12_isAsTold_18 (by decide) (fun q10 => ?_) (fun q10 => ?_)
        · skip
          refine g_iconst dX12_isAsTold_46 (inR_c rfl) ?_
          refine g_istore_n dX12_isAsTold_47 (by decide) rfl ?_
          refine g_iincB dX12_isAsTold_48 rfl rfl (by omega) (by omega) ?_
          refine g_goto 9 dX12_isAsTold_51 (by decide) ?_
          exact ih9 _ _ (by omega) (by omega) (by omega) (by omega) (by omega)
        · skip
          refine g_aload_n dX12_isAsTold_21 rfl ?_
          refine gR_X12_52 rfl dX12_isAsTold_22 sh_98 (b := 111) (m_98_19 hMh3) ?_
          refine g_iload_n dX12_isAsTold_25 rfl (fun _ => ?_)
          refine g_ialdB dX12_isAsTold_26 sh_111 (by omega) (by omega) (m_111 hMh3 _) (fun v11 ev11 bv11 cv11 => ?_)
          refine g_aload_n dX12_isAsTold_27 rfl ?_
          refine gR_X12_142 rfl dX12_isAsTold_28 sh_98 (b := 141) (m_98_66 hMh3) ?_
          refine g_iload_n dX12_isAsTold_31 rfl (fun _ => ?_)
          refine g_ialdB dX12_isAsTold_32 sh_141 (by omega) (by omega) (m_141 hMh3 _) (fun v12 ev12 bv12 cv12 => ?_)
          refine g_isubF dX12_isAsTold_33 (fun v13 bv13 cv13 => ?_)
          refine g_aload_n dX12_isAsTold_34 rfl ?_
          refine g_iload_n dX12_isAsTold_35 rfl (fun _ => ?_)
          refine g_cVP (as := [_]) (c_X12_byteAt_98 _ h3 hMh3 (by omega) (by omega)) dX12_isAsTold_36 mi_X12_byteAt in_X12_byteAt se_X12_byteAt ml_X12_477 rfl rfl rfl sh_98 rfl rfl (Nat.le_of_ble_eq_true rfl) (fun v14 q15 => ?_)
          obtain ⟨bv14, cv14⟩ := q15
          refine g_icmp_ne 46 dX12_isAsTold_39 (by decide) (fun q16 => ?_) (fun q16 => ?_)
          · skip
            refine g_iconst dX12_isAsTold_46 (inR_c rfl) ?_
            refine g_istore_n dX12_isAsTold_47 (by decide) rfl ?_
            refine g_iincB dX12_isAsTold_48 rfl rfl (by omega) (by omega) ?_
            refine g_goto 9 dX12_isAsTold_51 (by decide) ?_
            exact ih9 _ _ (by omega) (by omega) (by omega) (by omega) (by omega)
          · skip
            refine g_iconst dX12_isAsTold_42 (inR_c rfl) ?_
            refine g_goto 47 dX12_isAsTold_43 (by decide) ?_
            refine g_istore_n dX12_isAsTold_47 (by decide) rfl ?_
            refine g_iincB dX12_isAsTold_48 rfl rfl (by omega) (by omega) ?_
            refine g_goto 9 dX12_isAsTold_51 (by decide) ?_
            exact ih9 _ _ (by omega) (by omega) (by omega) (by omega) (by omega)
  refine g_istore_n dX12_isAsTold_8 (by decide) rfl ?_
  refine g_drop 1 ?_
  exact c9 9 _ _ (by omega) (by omega) (by omega) (by omega) (by omega)
set_option maxRecDepth 100000 in
set_option maxHeartbeats 4000000 in
theorem c_X12_letGo_98 (x1 x2 x3 : Int) (gi gs : Nat → Int) (h : MEM) (hM : MBm h) (bx1 : -2147483648 ≤ x1) (dx1 : x1 ≤ 2147483647) (bx2 : -2147483648 ≤ x2) (dx2 : x2 ≤ 2147483647) (bx3 : -2147483648 ≤ x3) (dx3 : x3 ≤ 2147483647) (p0_0 : 0 ≤ h 98 5) (p0_1 : h 98 5 ≤ 999600) (f_WFL : WFL h) (f_IS : ISn gi h) (f_S1 : S1n gs h) : CI yX12_letGo cX12_letGo 9 (some .int) 10 [pR 98, pI x1, pI x2, pI x3] h (fun x h' => MBm h' ∧ Fr [(98, 2), (98, 3), (98, 4), (98, 5), (98, 6), (98, 7), (98, 8), (98, 47), (98, 48), (98, 49), (98, 52), (100, 0), (101, 0), (102, 0), (103, 0), (104, 0), (105, 0), (106, 0), (107, 0), (108, 0), (109, 0), (110, 0), (111, 0), (112, 0), (113, 0), (114, 0), (128, 0), (129, 0), (130, 0), (131, 0), (132, 0), (133, 0), (134, 0), (135, 0), (136, 0), (137, 0), (138, 0), (139, 0), (140, 0), (141, 0), (142, 0), (143, 0), (144, 0), (145, 1), (145, 2), (145, 3), (145, 4), (145, 5), (145, 6)] h h' ∧ -2147483648 ≤ x ∧ x ≤ 2147483647 ∧ ISn gi h' ∧ S1n gs h' ∧ h' 98 2 = h 98 2 ∧ h' 98 3 = h 98 3 ∧ h' 98 4 = h 98 4 ∧ h' 98 5 = h 98 5) := by
  refine CI.of (L0 := [some (pR 98), some (pI x1), some (pI x2), some (pI x3), none, none, none, none, none]) rfl (Nat.le_of_ble_eq_true rfl) rfl (fun Po hPo hav => ?_)
  obtain ⟨v1, ev1⟩ : ∃ z, z = h 98 2 := ⟨_, rfl⟩
  have bv1 : 0 ≤ v1 ∧ v1 ≤ 10 := by rw [ev1]; exact (m_98_2 hM)
  obtain ⟨v2, ev2⟩ : ∃ z, z = h 98 3 := ⟨_, rfl⟩
  have bv2 : 0 ≤ v2 ∧ v2 ≤ 8 := by rw [ev2]; exact (m_98_3 hM)
  obtain ⟨v3, ev3⟩ : ∃ z, z = h 98 4 := ⟨_, rfl⟩
  have bv3 : 0 ≤ v3 ∧ v3 ≤ 8 := by rw [ev3]; exact (m_98_4 hM)
  obtain ⟨v4, ev4⟩ : ∃ z, z = h 98 5 := ⟨_, rfl⟩
  have bv4 : 0 ≤ v4 ∧ v4 ≤ 2000000000 := by rw [ev4]; exact (m_98_5 hM)
  obtain ⟨w98_5, ew98_5⟩ : ∃ z, z = h 98 5 := ⟨_, rfl⟩
  have q5 : h 98 2 = v1 := ev1.symm
  have q6 : h 98 3 = v2 := ev2.symm
  have q7 : h 98 4 = v3 := ev3.symm
  have q8 : h 98 5 = w98_5 := ew98_5.symm
  refine g_aload_n dX12_letGo_0 rfl ?_
  refine g_iload_n dX12_letGo_1 rfl (fun _ => ?_)
  refine g_cVP (as := [_]) (c_X12_isApprentice_98 _ h hM (by omega) (by omega)) dX12_letGo_2 mi_X12_isApprentice in_X12_isApprentice se_X12_isApprentice ml_X12_195 rfl rfl rfl sh_98 rfl rfl (Nat.le_of_ble_eq_true rfl) (fun v9 q10 => ?_)
  have q11 : h 98 3 = v2 := ev2.symm
  rcases q10 with ⟨rfl, q10⟩ | ⟨rfl, q10⟩
  · skip
    refine g_if_eq 50 dX12_letGo_5 (by decide) (fun _ => by exfalso; omega) (fun q12 => ?_)
    refine g_iload_n dX12_letGo_8 rfl (fun _ => ?_)
    refine g_i2l dX12_letGo_9 ?_
    refine g_lconst (v := 1) dX12_letGo_10 rfl ?_
    refine g_ldc2 (v := 6) dX12_letGo_11 kl_X12_480 (by decide) ?_
    refine g_cSP (av := [_, _, _]) (c_X12_lies _ _ _ h hM (by omega) (by omega) (by omega) (by omega) (by omega) (by omega)) dX12_letGo_14 mi_X12_lies st_X12_lies ml_X12_175 rfl rfl rfl rfl (Nat.le_of_ble_eq_true rfl) (fun v13 q14 => ?_)
    rcases q14 with ⟨rfl, q14⟩ | ⟨rfl, q14⟩
    · skip
      refine g_if_eq 50 dX12_letGo_17 (by decide) (fun _ => by exfalso; omega) (fun q15 => ?_)
      refine g_iload_n dX12_letGo_20 rfl (fun _ => ?_)
      refine g_i2l dX12_letGo_21 ?_
      refine g_ldc2 (v := -1) dX12_letGo_22 kl_X12_482 (by decide) ?_
      refine g_lconst (v := 1) dX12_letGo_25 rfl ?_
      refine g_cSP (av := [_, _, _]) (c_X12_lies _ _ _ h hM (by omega) (by omega) (by omega) (by omega) (by omega) (by omega)) dX12_letGo_26 mi_X12_lies st_X12_lies ml_X12_175 rfl rfl rfl rfl (Nat.le_of_ble_eq_true rfl) (fun v16 q17 => ?_)
      rcases q17 with ⟨rfl, q17⟩ | ⟨rfl, q17⟩
      · skip
        refine g_if_eq 50 dX12_letGo_29 (by decide) (fun _ => by exfalso; omega) (fun q18 => ?_)
        refine g_aload_n dX12_letGo_32 rfl ?_
        refine gE_X12_182 rfl dX12_letGo_33 sh_98 ev3.symm ?_
        refine g_if_eq 50 dX12_letGo_36 (by decide) (fun q19 => ?_) (fun q19 => ?_)
        · skip
          refine g_iconst dX12_letGo_50 (inR_c rfl) ?_
          have q20 : h 98 2 = v1 := ev1.symm
          have q21 : h 98 3 = v2 := ev2.symm
          have q22 : h 98 4 = v3 := ev3.symm
          have q23 : h 98 5 = w98_5 := ew98_5.symm
          exact g_ireturn dX12_letGo_51 retI (hPo _ _ ⟨hM, Fr.rf, (by omega), (by omega), f_IS, f_S1, (by omega), (by omega), (by omega), (by omega)⟩)
        · skip
          refine g_aload_n dX12_letGo_39 rfl ?_
          refine gE_X12_182 rfl dX12_letGo_40 sh_98 ev3.symm ?_
          refine g_aload_n dX12_letGo_43 rfl ?_
          refine gI_X12_204 rfl dX12_letGo_44 sh_98 (m_98_1 hM) (fun v24 ev24 bv24 cv24 => ?_)
          refine g_icmp_le 52 dX12_letGo_47 (by decide) (fun q25 => ?_) (fun q25 => ?_)
          · skip
            refine g_aload_n dX12_letGo_52 rfl ?_
            refine g_iconst dX12_letGo_53 (inR_c rfl) ?_
            refine pI_X12_204 rfl dX12_letGo_54 sh_98 (fun h26 eh26 => ?_)
            have hFh26 := Fr.st eh26
            have hMh26 := u_98_1 hM eh26 (by omega) (by omega)
            refine g_iconst dX12_letGo_57 (inR_c rfl) ?_
            refine g_istore dX12_letGo_58 (by decide) rfl ?_
            refine g_bipush dX12_letGo_60 (inR_c rfl) (by decide) ?_
            refine g_istore dX12_letGo_62 (by decide) rfl ?_
            refine g_iconst dX12_letGo_64 (inR_c rfl) ?_
            have c67 : ∀ (n : Nat) (y27 y28 y29 : Int) (h30 : MEM), MBm h30 → Fr [(98, 3), (98, 4), (98, 5), (98, 6), (98, 7), (98, 8), (98, 47), (98, 48), (98, 49), (98, 52), (100, 0), (101, 0), (102, 0), (103, 0), (104, 0), (105, 0), (106, 0), (107, 0), (108, 0), (109, 0), (110, 0), (111, 0), (112, 0), (113, 0), (114, 0), (128, 0), (129, 0), (130, 0), (131, 0), (132, 0), (133, 0), (134, 0), (135, 0), (136, 0), (137, 0), (138, 0), (139, 0), (140, 0), (141, 0), (142, 0), (143, 0), (144, 0), (145, 1), (145, 2), (145, 3), (145, 4), (145, 5), (145, 6)] h26 h30 → -2147483648 ≤ y27 → y27 ≤ 2147483647 → -2 ≤ y28 → y28 ≤ 10 → 0 ≤ y29 → y29 ≤ 10 → h30 98 2 = v1 → h30 98 3 = v2 → h30 98 4 = v3 → h30 98 5 = w98_5 → ISn gi h30 → S1n gs h30 → 10 - y29 < (n : Int) → G yX12_letGo cX12_letGo 9 (some .int) none Po (10, 600, 0, 0) 67 [some (pR 98), some (pI x1), some (pI x2), some (pI x3), some (pI y27), some (pI y28), some (pI y29), none, none] [] SH h30 0 0 := by
              intro n
              induction n with
              | zero =>
                intro y27 y28 y29 h30 hMh30 hFh30 by27 dy27 by28 dy28 by29 dy29 kp67_98_2 kp67_98_3 kp67_98_4 kp67_98_5 e67_0 e67_1 hn
                exfalso; omega
              | succ n ih67 =>
                intro y27 y28 y29 h30 hMh30 hFh30 by27 dy27 by28 dy28 by29 dy29 kp67_98_2 kp67_98_3 kp67_98_4 kp67_98_5 e67_0 e67_1 hn
                refine g_iload dX12_letGo_67 rfl (fun _ => ?_)
                refine g_bipush dX12_letGo_69 (inR_c rfl) (by decide) ?_
                refine g_icmp_ge 193 dX12_letGo_71 (by decide) (fun q31 => ?_) (fun q31 => ?_)
                · skip
                  refine g_iload_n dX12_letGo_193 rfl (fun _ => ?_)
                  refine g_iconst dX12_letGo_194 (inR_c rfl) ?_
                  refine g_icmp_ne 203 dX12_letGo_195 (by decide) (fun q32 => ?_) (fun q32 => ?_)
                  · skip
                    refine g_iload dX12_letGo_203 rfl (fun _ => ?_)
                    have q33 : h30 98 2 = v1 := kp67_98_2
                    have q34 : h30 98 3 = v2 := kp67_98_3
                    have q35 : h30 98 4 = v3 := kp67_98_4
                    have q36 : h30 98 5 = w98_5 := kp67_98_5
                    exact g_ireturn dX12_letGo_205 retI (hPo _ _ ⟨hMh30, (Fr.tr (Fr.sub hFh26 rfl) hFh30 rfl), (by omega), (by omega), e67_2, e67_3, (by omega), (by omega), (by omega), (by omega)⟩)
                  · skip
                    refine g_iload dX12_letGo_198 rfl (fun _ => ?_)
                    refine g_goto 205 dX12_letGo_200 (by decide) ?_
                    have q37 : h30 98 2 = v1 := kp67_98_2
                    have q38 : h30 98 3 = v2 := kp67_98_3
                    have q39 : h30 98 4 = v3 := kp67_98_4
                    have q40 : h30 98 5 = w98_5 := kp67_98_5
                    exact g_ireturn dX12_letGo_205 retI (hPo _ _ ⟨hMh30, (Fr.tr (Fr.sub hFh26 rfl) hFh30 rfl), (by omega), (by omega), e67_2, e67_3, (by omega), (by omega), (by omega), (by omega)⟩)
                · skip
                  refine g_iconst dX12_letGo_74 (inR_c rfl) ?_
                  have c77 : ∀ (n : Nat) (y41 y42 y43 : Int) (h44 : MEM), MBm h44 → Fr [(98, 3), (98, 4), (98, 5), (98, 6), (98, 7), (98, 8), (98, 47), (98, 48), (98, 49), (98, 52), (100, 0), (101, 0), (102, 0), (103, 0), (104, 0), (105, 0), (106, 0), (107, 0), (108, 0), (109, 0), (110, 0), (111, 0), (112, 0), (113, 0), (114, 0), (128, 0), (129, 0), (130, 0), (131, 0), (132, 0), (133, 0), (134, 0), (135, 0), (136, 0), (137, 0), (138, 0), (139, 0), (140, 0), (141, 0), (142, 0), (143, 0), (144, 0), (145, 1), (145, 2), (145, 3), (145, 4), (145, 5), (145, 6)] h30 h44 → -2147483648 ≤ y41 → y41 ≤ 2147483647 → -2 ≤ y42 → y42 ≤ 10 → 0 ≤ y43 → y43 ≤ 11 → h44 98 2 = v1 → h44 98 3 = v2 → h44 98 4 = v3 → h44 98 5 = w98_5 → ISn gi h44 → S1n gs h44 → 11 - y43 < (n : Int) → G yX12_letGo cX12_letGo 9 (some .int) none Po (10, 600, 0, 0) 77 [some (pR 98), some (pI x1), some (pI x2), some (pI x3), some (pI y41), some (pI y42), some (pI y29), some (pI y43), none] [] SH h44 0 0 := by
                    intro n
                    induction n with
                    | zero =>
                      intro y41 y42 y43 h44 hMh44 hFh44 by41 dy41 by42 dy42 by43 dy43 kp77_98_2 kp77_98_3 kp77_98_4 kp77_98_5 e77_0 e77_1 hn
                      exfalso; omega
                    | succ n ih77 =>
                      intro y41 y42 y43 h44 hMh44 hFh44 by41 dy41 by42 dy42 by43 dy43 kp77_98_2 kp77_98_3 kp77_98_4 kp77_98_5 e77_0 e77_1 hn
                      refine g_iload dX12_letGo_77 rfl (fun _ => ?_)
                      refine g_aload_n dX12_letGo_79 rfl ?_
                      refine gE_X12_172 rfl dX12_letGo_80 sh_98 kp77_98_2 ?_
                      refine g_icmp_gt 187 dX12_letGo_83 (by decide) (fun q45 => ?_) (fun q45 => ?_)
                      · skip
                        refine g_iincB dX12_letGo_187 rfl rfl (by omega) (by omega) ?_
                        refine g_goto 67 dX12_letGo_190 (by decide) ?_
                        refine g_drop 7 ?_
                        have q46 : h44 98 2 = v1 := kp77_98_2
                        have q47 : h44 98 3 = v2 := kp77_98_3
                        have q48 : h44 98 4 = v3 := kp77_98_4
                        have q49 : h44 98 5 = w98_5 := kp77_98_5
                        exact ih67 _ _ _ _ hMh44 (Fr.tr (Fr.sub hFh30 rfl) hFh44 rfl) (by omega) (by omega) (by omega) (by omega) (by omega) (by omega) (by omega) (by omega) (by omega) (by omega) (by omega) (by omega) (by omega)
                      · skip
                        refine g_aload_n dX12_letGo_86 rfl ?_
                        refine g_iconst dX12_letGo_87 (inR_c rfl) ?_
                        have q50 : h44 98 2 = v1 := kp77_98_2
                        have q51 : h44 98 3 = v2 := kp77_98_3
                        have q52 : h44 98 4 = v3 := kp77_98_4
                        have q53 : h44 98 5 = w98_5 := kp77_98_5
                        refine g_cVV (as := [_]) (c_X12_setsAside_98_k0 _ _ h44 hMh44 e77_2 e77_3) dX12_letGo_88 mi_X12_setsAside in_X12_setsAside se_X12_setsAside ml_X12_419 rfl rfl rfl sh_98 rfl rfl (Nat.le_of_ble_eq_true rfl) (fun h54 q55 => ?_)
                        obtain ⟨hMh54, hFh54, z56, z57, z58, z59, z60, z61⟩ := q55
                        have kz58 : h54 145 0 = v1 := by omega
                        have kz59 : h54 145 1 = v2 := by omega
                        have kz60 : h54 145 2 = v3 := by omega
                        have kz61 : h54 145 3 = w98_5 := by omega
                        refine g_aload_n dX12_letGo_91 rfl ?_
                        refine gR_X12_30 rfl dX12_letGo_92 sh_98 (b := 104) (m_98_12 hMh54) ?_
                        refine g_iload_n dX12_letGo_95 rfl (fun _ => ?_)
                        refine g_iload dX12_letGo_96 rfl (fun _ => ?_)
                        refine g_iastB dX12_letGo_98 sh_104 (by omega) (by omega) (fun h62 eh62 => ?_)
                        have hFh62 := Fr.ar eh62
                        have hMh62 := u_104 hMh54 eh62 (by omega) (by omega)
                        refine g_aload_n dX12_letGo_99 rfl ?_
                        refine gR_X12_27 rfl dX12_letGo_100 sh_98 (b := 103) (m_98_11 hMh62) ?_
                        refine g_iload_n dX12_letGo_103 rfl (fun _ => ?_)
                        refine g_iload dX12_letGo_104 rfl (fun _ => ?_)
                        refine g_aload_n dX12_letGo_106 rfl ?_
                        refine gE_X12_172 rfl dX12_letGo_107 sh_98 ((hFh62 98 2 rfl).trans ((hFh54 98 2 rfl).trans kp77_98_2)) ?_
                        refine g_icmp_ne 118 dX12_letGo_110 (by decide) (fun q63 => ?_) (fun q63 => ?_)
                        · skip
                          refine g_iload dX12_letGo_118 rfl (fun _ => ?_)
                          refine g_iastB dX12_letGo_120 sh_103 (by omega) (by omega) (fun h64 eh64 => ?_)
                          have hFh64 := Fr.ar eh64
                          have hMh64 := u_103 hMh62 eh64 (by omega) (by omega)
                          refine g_aload_n dX12_letGo_121 rfl ?_
                          refine g_iload_n dX12_letGo_122 rfl (fun _ => ?_)
                          have q65 : h64 98 5 = w98_5 := ((hFh64 98 5 rfl).trans ((hFh62 98 5 rfl).trans ((hFh54 98 5 rfl).trans kp77_98_5)))
                          refine g_cV (as := [_]) (c_X12_isAsTold_98 _ h64 hMh64 (by omega) (by omega) (by omega) (by omega) (WFL.fr (T := [(98, 2), (98, 3), (98, 4), (98, 5), (98, 6), (98, 7), (98, 8), (98, 47), (98, 48), (98, 49), (98, 52), (100, 0), (101, 0), (102, 0), (103, 0), (104, 0), (105, 0), (106, 0), (107, 0), (108, 0), (109, 0), (110, 0), (111, 0), (112, 0), (113, 0), (114, 0), (128, 0), (129, 0), (130, 0), (131, 0), (132, 0), (133, 0), (134, 0), (135, 0), (136, 0), (137, 0), (138, 0), (139, 0), (140, 0), (141, 0), (142, 0), (143, 0), (144, 0), (145, 1), (145, 2), (145, 3), (145, 4), (145, 5), (145, 6)]) f_WFL (Fr.tr (Fr.tr (Fr.tr (Fr.tr (Fr.tr (Fr.sub hFh26 rfl) hFh30 rfl) hFh44 rfl) hFh54 rfl) hFh62 rfl) hFh64 rfl) rfl)) dX12_letGo_123 mi_X12_isAsTold in_X12_isAsTold se_X12_isAsTold ml_X12_484 rfl rfl rfl sh_98 rfl rfl (Nat.le_of_ble_eq_true rfl) (fun v66 h67 q68 => ?_)
                          obtain ⟨hMh67, hFh67, bv66, cv66⟩ := q68
                          refine g_istore dX12_letGo_126 (by decide) rfl ?_
                          refine g_aload_n dX12_letGo_128 rfl ?_
                          refine g_iconst dX12_letGo_129 (inR_c rfl) ?_
                          have q69 : h67 145 0 = v1 := ((hFh67 145 _ rfl).trans ((hFh64 145 _ rfl).trans ((hFh62 145 _ rfl).trans kz58)))
                          have q70 : h67 145 1 = v2 := ((hFh67 145 _ rfl).trans ((hFh64 145 _ rfl).trans ((hFh62 145 _ rfl).trans kz59)))
                          have q71 : h67 145 2 = v3 := ((hFh67 145 _ rfl).trans ((hFh64 145 _ rfl).trans ((hFh62 145 _ rfl).trans kz60)))
                          have q72 : h67 145 3 = w98_5 := ((hFh67 145 _ rfl).trans ((hFh64 145 _ rfl).trans ((hFh62 145 _ rfl).trans kz61)))
                          refine g_cVV (as := [_]) (c_X12_putsBack_98_k0 _ h67 hMh67 (S0n.fr (T := [(98, 6), (98, 7), (98, 8), (98, 47), (98, 48), (98, 49), (98, 52), (101, 0), (103, 0), (104, 0), (105, 0), (107, 0), (111, 0), (112, 0), (113, 0), (128, 0), (129, 0)]) z56 (Fr.tr (Fr.tr (Fr.sub hFh62 rfl) hFh64 rfl) hFh67 rfl) rfl)) dX12_letGo_130 mi_X12_putsBack in_X12_putsBack se_X12_putsBack ml_X12_428 rfl rfl rfl sh_98 rfl rfl (Nat.le_of_ble_eq_true rfl) (fun h73 q74 => ?_)
                          obtain ⟨hMh73, hFh73, z75, z76, z77, z78, z79⟩ := q74
                          have kz76 : h73 98 2 = v1 := by omega
                          have kz77 : h73 98 3 = v2 := by omega
                          have kz78 : h73 98 4 = v3 := by omega
                          have kz79 : h73 98 5 = w98_5 := by omega
                          refine g_iload dX12_letGo_133 rfl (fun _ => ?_)
                          refine g_if_ne 141 dX12_letGo_135 (by decide) (fun q80 => ?_) (fun q80 => ?_)
                          · skip
                            refine g_iload dX12_letGo_141 rfl (fun _ => ?_)
                            refine g_if_ne 174 dX12_letGo_143 (by decide) (fun q81 => ?_) (fun q81 => ?_)
                            · skip
                              refine g_iload dX12_letGo_174 rfl (fun _ => ?_)
                              refine g_istore dX12_letGo_176 (by decide) rfl ?_
                              refine g_iincF dX12_letGo_178 rfl rfl (fun v82 bv82 cv82 => ?_)
                              refine g_iincB dX12_letGo_181 rfl rfl (by omega) (by omega) ?_
                              refine g_goto 77 dX12_letGo_184 (by decide) ?_
                              refine g_drop 8 ?_
                              have q83 : h73 98 2 = v1 := kz76
                              have q84 : h73 98 3 = v2 := kz77
                              have q85 : h73 98 4 = v3 := kz78
                              have q86 : h73 98 5 = w98_5 := kz79
                              exact ih77 _ _ _ _ hMh73 (Fr.tr (Fr.tr (Fr.tr (Fr.tr (Fr.tr (Fr.sub hFh44 rfl) hFh54 rfl) hFh62 rfl) hFh64 rfl) hFh67 rfl) hFh73 rfl) (by omega) (by omega) (by omega) (by omega) (by omega) (by omega) (by omega) (by omega) (by omega) (by omega) (by omega) (by omega) (by omega)
                            · skip
                              refine g_iload_n dX12_letGo_146 rfl (fun _ => ?_)
                              refine g_if_ne 155 dX12_letGo_147 (by decide) (fun q87 => ?_) (fun q87 => ?_)
                              · skip
                                refine g_iload dX12_letGo_155 rfl (fun _ => ?_)
                                refine g_aload_n dX12_letGo_157 rfl ?_
                                refine gE_X12_172 rfl dX12_letGo_158 sh_98 kz76 ?_
                                refine g_icmp_ne 169 dX12_letGo_161 (by decide) (fun q88 => ?_) (fun _ => by exfalso; omega)
                                refine g_iload dX12_letGo_169 rfl (fun _ => ?_)
                                refine g_goto 176 dX12_letGo_171 (by decide) ?_
                                refine g_istore dX12_letGo_176 (by decide) rfl ?_
                                refine g_iincB dX12_letGo_178 rfl rfl (by omega) (by omega) ?_
                                refine g_iincB dX12_letGo_181 rfl rfl (by omega) (by omega) ?_
                                refine g_goto 77 dX12_letGo_184 (by decide) ?_
                                refine g_drop 8 ?_
                                have q89 : h73 98 2 = v1 := kz76
                                have q90 : h73 98 3 = v2 := kz77
                                have q91 : h73 98 4 = v3 := kz78
                                have q92 : h73 98 5 = w98_5 := kz79
                                exact ih77 _ _ _ _ hMh73 (Fr.tr (Fr.tr (Fr.tr (Fr.tr (Fr.tr (Fr.sub hFh44 rfl) hFh54 rfl) hFh62 rfl) hFh64 rfl) hFh67 rfl) hFh73 rfl) (by omega) (by omega) (by omega) (by omega) (by omega) (by omega) (by omega) (by omega) (by omega) (by omega) (by omega) (by omega) (by omega)
                              · skip
                                refine g_iload dX12_letGo_150 rfl (fun _ => ?_)
                                refine g_goto 176 dX12_letGo_152 (by decide) ?_
                                refine g_istore dX12_letGo_176 (by decide) rfl ?_
                                refine g_iincB dX12_letGo_178 rfl rfl (by omega) (by omega) ?_
                                refine g_iincB dX12_letGo_181 rfl rfl (by omega) (by omega) ?_
                                refine g_goto 77 dX12_letGo_184 (by decide) ?_
                                refine g_drop 8 ?_
                                have q93 : h73 98 2 = v1 := kz76
                                have q94 : h73 98 3 = v2 := kz77
                                have q95 : h73 98 4 = v3 := kz78
                                have q96 : h73 98 5 = w98_5 := kz79
                                exact ih77 _ _ _ _ hMh73 (Fr.tr (Fr.tr (Fr.tr (Fr.tr (Fr.tr (Fr.sub hFh44 rfl) hFh54 rfl) hFh62 rfl) hFh64 rfl) hFh67 rfl) hFh73 rfl) (by omega) (by omega) (by omega) (by omega) (by omega) (by omega) (by omega) (by omega) (by omega) (by omega) (by omega) (by omega) (by omega)
                          · skip
                            refine g_goto 181 dX12_letGo_138 (by decide) ?_
                            refine g_iincB dX12_letGo_181 rfl rfl (by omega) (by omega) ?_
                            refine g_goto 77 dX12_letGo_184 (by decide) ?_
                            refine g_drop 8 ?_
                            have q97 : h73 98 2 = v1 := kz76
                            have q98 : h73 98 3 = v2 := kz77
                            have q99 : h73 98 4 = v3 := kz78
                            have q100 : h73 98 5 = w98_5 := kz79
                            exact ih77 _ _ _ _ hMh73 (Fr.tr (Fr.tr (Fr.tr (Fr.tr (Fr.tr (Fr.sub hFh44 rfl) hFh54 rfl) hFh62 rfl) hFh64 rfl) hFh67 rfl) hFh73 rfl) (by omega) (by omega) (by omega) (by omega) (by omega) (by omega) (by omega) (by omega) (by omega) (by omega) (by omega) (by omega) (by omega)
                        · skip
                          refine g_bipush dX12_letGo_113 (inR_c rfl) (by decide) ?_
                          refine g_goto 120 dX12_letGo_115 (by decide) ?_
                          refine g_iastB dX12_letGo_120 sh_103 (by omega) (by omega) (fun h101 eh101 => ?_)
                          have hFh101 := Fr.ar eh101
                          have hMh101 := u_103 hMh62 eh101 (by omega) (by omega)
                          refine g_aload_n dX12_letGo_121 rfl ?_
                          refine g_iload_n dX12_letGo_122 rfl (fun _ => ?_)
                          have q102 : h101 98 5 = w98_5 := ((hFh101 98 5 rfl).trans ((hFh62 98 5 rfl).trans ((hFh54 98 5 rfl).trans kp77_98_5)))
                          refine g_cV (as := [_]) (c_X12_isAsTold_98 _ h101 hMh101 (by omega) (by omega) (by omega) (by omega) (WFL.fr (T := [(98, 2), (98, 3), (98, 4), (98, 5), (98, 6), (98, 7), (98, 8), (98, 47), (98, 48), (98, 49), (98, 52), (100, 0), (101, 0), (102, 0), (103, 0), (104, 0), (105, 0), (106, 0), (107, 0), (108, 0), (109, 0), (110, 0), (111, 0), (112, 0), (113, 0), (114, 0), (128, 0), (129, 0), (130, 0), (131, 0), (132, 0), (133, 0), (134, 0), (135, 0), (136, 0), (137, 0), (138, 0), (139, 0), (140, 0), (141, 0), (142, 0), (143, 0), (144, 0), (145, 1), (145, 2), (145, 3), (145, 4), (145, 5), (145, 6)]) f_WFL (Fr.tr (Fr.tr (Fr.tr (Fr.tr (Fr.tr (Fr.sub hFh26 rfl) hFh30 rfl) hFh44 rfl) hFh54 rfl) hFh62 rfl) hFh101 rfl) rfl)) dX12_letGo_123 mi_X12_isAsTold in_X12_isAsTold se_X12_isAsTold ml_X12_484 rfl rfl rfl sh_98 rfl rfl (Nat.le_of_ble_eq_true rfl) (fun v103 h104 q105 => ?_)
                          obtain ⟨hMh104, hFh104, bv103, cv103⟩ := q105
                          refine g_istore dX12_letGo_126 (by decide) rfl ?_
                          refine g_aload_n dX12_letGo_128 rfl ?_
                          refine g_iconst dX12_letGo_129 (inR_c rfl) ?_
                          have q106 : h104 145 0 = v1 := ((hFh104 145 _ rfl).trans ((hFh101 145 _ rfl).trans ((hFh62 145 _ rfl).trans kz58)))
                          have q107 : h104 145 1 = v2 := ((hFh104 145 _ rfl).trans ((hFh101 145 _ rfl).trans ((hFh62 145 _ rfl).trans kz59)))
                          have q108 : h104 145 2 = v3 := ((hFh104 145 _ rfl).trans ((hFh101 145 _ rfl).trans ((hFh62 145 _ rfl).trans kz60)))
                          have q109 : h104 145 3 = w98_5 := ((hFh104 145 _ rfl).trans ((hFh101 145 _ rfl).trans ((hFh62 145 _ rfl).trans kz61)))
                          refine g_cVV (as := [_]) (c_X12_putsBack_98_k0 _ h104 hMh104 (S0n.fr (T := [(98, 6), (98, 7), (98, 8), (98, 47), (98, 48), (98, 49), (98, 52), (101, 0), (103, 0), (104, 0), (105, 0), (107, 0), (111, 0), (112, 0), (113, 0), (128, 0), (129, 0)]) z56 (Fr.tr (Fr.tr (Fr.sub hFh62 rfl) hFh101 rfl) hFh104 rfl) rfl)) dX12_letGo_130 mi_X12_putsBack in_X12_putsBack se_X12_putsBack ml_X12_428 rfl rfl rfl sh_98 rfl rfl (Nat.le_of_ble_eq_true rfl) (fun h110 q111 => ?_)
                          obtain ⟨hMh110, hFh110, z112, z113, z114, z115, z116⟩ := q111
                          have kz113 : h110 98 2 = v1 := by omega
                          have kz114 : h110 98 3 = v2 := by omega
                          have kz115 : h110 98 4 = v3 := by omega
                          have kz116 : h110 98 5 = w98_5 := by omega
                          refine g_iload dX12_letGo_133 rfl (fun _ => ?_)
                          refine g_if_ne 141 dX12_letGo_135 (by decide) (fun q117 => ?_) (fun q117 => ?_)
                          · skip
                            refine g_iload dX12_letGo_141 rfl (fun _ => ?_)
                            refine g_if_ne 174 dX12_letGo_143 (by decide) (fun q118 => ?_) (fun q118 => ?_)
                            · skip
                              refine g_iload dX12_letGo_174 rfl (fun _ => ?_)
                              refine g_istore dX12_letGo_176 (by decide) rfl ?_
                              refine g_iincF dX12_letGo_178 rfl rfl (fun v119 bv119 cv119 => ?_)
                              refine g_iincB dX12_letGo_181 rfl rfl (by omega) (by omega) ?_
                              refine g_goto 77 dX12_letGo_184 (by decide) ?_
                              refine g_drop 8 ?_
                              have q120 : h110 98 2 = v1 := kz113
                              have q121 : h110 98 3 = v2 := kz114
                              have q122 : h110 98 4 = v3 := kz115
                              have q123 : h110 98 5 = w98_5 := kz116
                              exact ih77 _ _ _ _ hMh110 (Fr.tr (Fr.tr (Fr.tr (Fr.tr (Fr.tr (Fr.sub hFh44 rfl) hFh54 rfl) hFh62 rfl) hFh101 rfl) hFh104 rfl) hFh110 rfl) (by omega) (by omega) (by omega) (by omega) (by omega) (by omega) (by omega) (by omega) (by omega) (by omega) (by omega) (by omega) (by omega)
                            · skip
                              refine g_iload_n dX12_letGo_146 rfl (fun _ => ?_)
                              refine g_if_ne 155 dX12_letGo_147 (by decide) (fun q124 => ?_) (fun q124 => ?_)
                              · skip
                                refine g_iload dX12_letGo_155 rfl (fun _ => ?_)
                                refine g_aload_n dX12_letGo_157 rfl ?_
                                refine gE_X12_172 rfl dX12_letGo_158 sh_98 kz113 ?_
                                refine g_icmp_ne 169 dX12_letGo_161 (by decide) (fun _ => by exfalso; omega) (fun q125 => ?_)
                                refine g_bipush dX12_letGo_164 (inR_c rfl) (by decide) ?_
                                refine g_goto 176 dX12_letGo_166 (by decide) ?_
                                refine g_istore dX12_letGo_176 (by decide) rfl ?_
                                refine g_iincB dX12_letGo_178 rfl rfl (by omega) (by omega) ?_
                                refine g_iincB dX12_letGo_181 rfl rfl (by omega) (by omega) ?_
                                refine g_goto 77 dX12_letGo_184 (by decide) ?_
                                refine g_drop 8 ?_
                                have q126 : h110 98 2 = v1 := kz113
                                have q127 : h110 98 3 = v2 := kz114
                                have q128 : h110 98 4 = v3 := kz115
                                have q129 : h110 98 5 = w98_5 := kz116
                                exact ih77 _ _ _ _ hMh110 (Fr.tr (Fr.tr (Fr.tr (Fr.tr (Fr.tr (Fr.sub hFh44 rfl) hFh54 rfl) hFh62 rfl) hFh101 rfl) hFh104 rfl) hFh110 rfl) (by omega) (by omega) (by omega) (by omega) (by omega) (by omega) (by omega) (by omega) (by omega) (by omega) (by omega) (by omega) (by omega)
                              · skip
                                refine g_iload dX12_letGo_150 rfl (fun _ => ?_)
                                refine g_goto 176 dX12_letGo_152 (by decide) ?_
                                refine g_istore dX12_letGo_176 (by decide) rfl ?_
                                refine g_iincB dX12_letGo_178 rfl rfl (by omega) (by omega) ?_
                                refine g_iincB dX12_letGo_181 rfl rfl (by omega) (by omega) ?_
                                refine g_goto 77 dX12_letGo_184 (by decide) ?_
                                refine g_drop 8 ?_
                                have q130 : h110 98 2 = v1 := kz113
                                have q131 : h110 98 3 = v2 := kz114
                                have q132 : h110 98 4 = v3 := kz115
                                have q133 : h110 98 5 = w98_5 := kz116
                                exact ih77 _ _ _ _ hMh110 (Fr.tr (Fr.tr (Fr.tr (Fr.tr (Fr.tr (Fr.sub hFh44 rfl) hFh54 rfl) hFh62 rfl) hFh101 rfl) hFh104 rfl) hFh110 rfl) (by omega) (by omega) (by omega) (by omega) (by omega) (by omega) (by omega) (by omega) (by omega) (by omega) (by omega) (by omega) (by omega)
                          · skip
                            refine g_goto 181 dX12_letGo_138 (by decide) ?_
                            refine g_iincB dX12_letGo_181 rfl rfl (by omega) (by omega) ?_
                            refine g_goto 77 dX12_letGo_184 (by decide) ?_
                            refine g_drop 8 ?_
                            have q134 : h110 98 2 = v1 := kz113
                            have q135 : h110 98 3 = v2 := kz114
                            have q136 : h110 98 4 = v3 := kz115
                            have q137 : h110 98 5 = w98_5 := kz116
                            exact ih77 _ _ _ _ hMh110 (Fr.tr (Fr.tr (Fr.tr (Fr.tr (Fr.tr (Fr.sub hFh44 rfl) hFh54 rfl) hFh62 rfl) hFh101 rfl) hFh104 rfl) hFh110 rfl) (by omega) (by omega) (by omega) (by omega) (by omega) (by omega) (by omega) (by omega) (by omega) (by omega) (by omega) (by omega) (by omega)
                  refine g_istore dX12_letGo_75 (by decide) rfl ?_
                  have q138 : h30 98 2 = v1 := kp67_98_2
                  have q139 : h30 98 3 = v2 := kp67_98_3
                  have q140 : h30 98 4 = v3 := kp67_98_4
                  have q141 : h30 98 5 = w98_5 := kp67_98_5
                  exact c77 12 _ _ _ _ hMh30 Fr.rf (by omega) (by omega) (by omega) (by omega) (by omega) (by omega) (by omega) (by omega) (by omega) (by omega) (by omega) (by omega) (by omega)
            refine g_istore dX12_letGo_65 (by decide) rfl ?_
            have q142 : h26 98 2 = v1 := ((hFh26 98 2 rfl).trans ev1.symm)
            have q143 : h26 98 3 = v2 := ((hFh26 98 3 rfl).trans ev2.symm)
            have q144 : h26 98 4 = v3 := ((hFh26 98 4 rfl).trans ev3.symm)
            have q145 : h26 98 5 = w98_5 := ((hFh26 98 5 rfl).trans ew98_5.symm)
            exact c67 11 _ _ _ _ hMh26 Fr.rf (by omega) (by omega) (by omega) (by omega) (by omega) (by omega) (by omega) (by omega) (by omega) (by omega) (by omega) (by omega) (by omega)
          · skip
            refine g_iconst dX12_letGo_50 (inR_c rfl) ?_
            have q146 : h 98 2 = v1 := ev1.symm
            have q147 : h 98 3 = v2 := ev2.symm
            have q148 : h 98 4 = v3 := ev3.symm
            have q149 : h 98 5 = w98_5 := ew98_5.symm
            exact g_ireturn dX12_letGo_51 retI (hPo _ _ ⟨hM, Fr.rf, (by omega), (by omega), f_IS, f_S1, (by omega), (by omega), (by omega), (by omega)⟩)
      · skip
        refine g_if_eq 50 dX12_letGo_29 (by decide) (fun q150 => ?_) (fun _ => by exfalso; omega)
        refine g_iconst dX12_letGo_50 (inR_c rfl) ?_
        have q151 : h 98 2 = v1 := ev1.symm
        have q152 : h 98 3 = v2 := ev2.symm
        have q153 : h 98 4 = v3 := ev3.symm
        have q154 : h 98 5 = w98_5 := ew98_5.symm
        exact g_ireturn dX12_letGo_51 retI (hPo _ _ ⟨hM, Fr.rf, (by omega), (by omega), f_IS, f_S1, (by omega), (by omega), (by omega), (by omega)⟩)
    · skip
      refine g_if_eq 50 dX12_letGo_17 (by decide) (fun q155 => ?_) (fun _ => by exfalso; omega)
      refine g_iconst dX12_letGo_50 (inR_c rfl) ?_
      have q156 : h 98 2 = v1 := ev1.symm
      have q157 : h 98 3 = v2 := ev2.symm
      have q158 : h 98 4 = v3 := ev3.symm
      have q159 : h 98 5 = w98_5 := ew98_5.symm
      exact g_ireturn dX12_letGo_51 retI (hPo _ _ ⟨hM, Fr.rf, (by omega), (by omega), f_IS, f_S1, (by omega), (by omega), (by omega), (by omega)⟩)
  · skip
    refine g_if_eq 50 dX12_letGo_5 (by decide) (fun q160 => ?_) (fun _ => by exfalso; omega)
    refine g_iconst dX12_letGo_50 (inR_c rfl) ?_
    have q161 : h 98 2 = v1 := ev1.symm
    have q162 : h 98 3 = v2 := ev2.symm
    have q163 : h 98 4 = v3 := ev3.symm
    have q164 : h 98 5 = w98_5 := ew98_5.symm
    exact g_ireturn dX12_letGo_51 retI (hPo _ _ ⟨hM, Fr.rf, (by omega), (by omega), f_IS, f_S1, (by omega), (by omega), (by omega), (by omega)⟩)
