set_option maxRecDepth 100000 in
set_option maxHeartbeats 4000000 in
theorem c_X12_keep_98 (gi : Nat → Int) (h : MEM) (hM : MBm h) (f_IS : ISn gi h) : CI yX12_keep cX12_keep 1 (some .int) 2 [pR 98] h (fun x h' => MBm h' ∧ Fr [(98, 80), (130, 0), (131, 0), (132, 0), (133, 0), (134, 0), (135, 0), (136, 0), (137, 0), (138, 0), (139, 0), (140, 0), (141, 0), (142, 0), (143, 0), (144, 0), (145, 7), (145, 8), (145, 9), (145, 10), (145, 11), (145, 12)] h h' ∧ -2147483648 ≤ x ∧ x ≤ 2147483647 ∧ h' 145 6 = h 98 2 ∧ h' 145 7 = h 98 3 ∧ h' 145 8 = h 98 4 ∧ h' 145 9 = h 98 5 ∧ h' 98 79 = 1 ∧ S1n gi h') := by
  refine CI.of (L0 := [some (pR 98)]) rfl (Nat.le_of_ble_eq_true rfl) rfl (fun Po hPo hav => ?_)
  obtain ⟨v1, ev1⟩ : ∃ z, z = h 98 2 := ⟨_, rfl⟩
  have bv1 : 0 ≤ v1 ∧ v1 ≤ 10 := by rw [ev1]; exact (m_98_2 hM)
  obtain ⟨v2, ev2⟩ : ∃ z, z = h 98 3 := ⟨_, rfl⟩
  have bv2 : 0 ≤ v2 ∧ v2 ≤ 8 := by rw [ev2]; exact (m_98_3 hM)
  obtain ⟨v3, ev3⟩ : ∃ z, z = h 98 4 := ⟨_, rfl⟩
  have bv3 : 0 ≤ v3 ∧ v3 ≤ 8 := by rw [ev3]; exact (m_98_4 hM)
  obtain ⟨v4, ev4⟩ : ∃ z, z = h 98 5 := ⟨_, rfl⟩
  have bv4 : 0 ≤ v4 ∧ v4 ≤ 2000000000 := by rw [ev4]; exact (m_98_5 hM)
  refine g_aload_n dX12_keep_0 rfl ?_
  refine g_iconst dX12_keep_1 (inR_c rfl) ?_
  refine pI_X12_506 rfl dX12_keep_2 sh_98 (by omega) (fun h5 eh5 => ?_)
  have hFh5 := Fr.st eh5
  have hMh5 := u_98_79 hM eh5 (by omega) (by omega)
  refine g_aload_n dX12_keep_5 rfl ?_
  refine g_iconst dX12_keep_6 (inR_c rfl) ?_
  have q6 : h5 98 2 = v1 := ((hFh5 98 2 rfl).trans ev1.symm)
  have q7 : h5 98 3 = v2 := ((hFh5 98 3 rfl).trans ev2.symm)
  have q8 : h5 98 4 = v3 := ((hFh5 98 4 rfl).trans ev3.symm)
  have q9 : h5 98 5 = v4 := ((hFh5 98 5 rfl).trans ev4.symm)
  refine g_cVV (as := [_]) (c_X12_setsAside_98_k1 _ h5 hMh5 (ISn.fr (T := [(98, 80)]) f_IS (Fr.sub hFh5 rfl) rfl)) dX12_keep_7 mi_X12_setsAside in_X12_setsAside se_X12_setsAside ml_X12_419 rfl rfl rfl sh_98 rfl rfl (Nat.le_of_ble_eq_true rfl) (fun h10 q11 => ?_)
  obtain ⟨hMh10, hFh10, z12, z13, z14, z15, z16⟩ := q11
  have kz13 : h10 145 6 = v1 := by omega
  have kz14 : h10 145 7 = v2 := by omega
  have kz15 : h10 145 8 = v3 := by omega
  have kz16 : h10 145 9 = v4 := by omega
  refine g_aload_n dX12_keep_10 rfl ?_
  refine g_cVP (as := []) (c_X12_allSlates_98  h10 hMh10) dX12_keep_11 mi_X12_allSlates in_X12_allSlates se_X12_allSlates ml_X12_422 rfl rfl rfl sh_98 rfl rfl (Nat.le_of_ble_eq_true rfl) (fun v17 q18 => ?_)
  obtain ⟨bv17, cv17⟩ := q18
  have q19 : h10 145 6 = v1 := kz13
  have q20 : h10 145 7 = v2 := kz14
  have q21 : h10 145 8 = v3 := kz15
  have q22 : h10 145 9 = v4 := kz16
  have q23 : h10 98 79 = 1 := ((hFh10 98 79 rfl).trans (st_at eh5))
  exact g_ireturn dX12_keep_14 retI (hPo _ _ ⟨hMh10, (Fr.tr (Fr.sub hFh5 rfl) hFh10 rfl), (by omega), (by omega), (by omega), (by omega), (by omega), (by omega), (by omega), z12⟩)
set_option maxRecDepth 100000 in
set_option maxHeartbeats 4000000 in
theorem c_X12_putsBack_98_k1 (gs : Nat → Int) (h : MEM) (hM : MBm h) (f_S1 : S1n gs h) : CV yX12_putsBack cX12_putsBack 3 (none) 1 [pR 98, pI 1] h (fun h' => MBm h' ∧ Fr [(98, 3), (98, 4), (98, 5), (98, 6), (98, 7), (98, 8), (100, 0), (101, 0), (102, 0), (103, 0), (104, 0), (105, 0), (106, 0), (107, 0), (108, 0), (109, 0), (110, 0), (111, 0), (112, 0), (113, 0), (114, 0)] h h' ∧ ISn gs h' ∧ h' 98 2 = h 145 6 ∧ h' 98 3 = h 145 7 ∧ h' 98 4 = h 145 8 ∧ h' 98 5 = h 145 9) := by
  refine CV.of (L0 := [some (pR 98), some (pI 1), none]) rfl (Nat.le_of_ble_eq_true rfl) rfl (fun Po hPo hav => ?_)
  obtain ⟨v1, ev1⟩ : ∃ z, z = h 145 6 := ⟨_, rfl⟩
  have bv1 : 0 ≤ v1 ∧ v1 ≤ 10 := by rw [ev1]; exact (m_145_6 hM)
  obtain ⟨v2, ev2⟩ : ∃ z, z = h 145 7 := ⟨_, rfl⟩
  have bv2 : 0 ≤ v2 ∧ v2 ≤ 8 := by rw [ev2]; exact (m_145_7 hM)
  obtain ⟨v3, ev3⟩ : ∃ z, z = h 145 8 := ⟨_, rfl⟩
  have bv3 : 0 ≤ v3 ∧ v3 ≤ 8 := by rw [ev3]; exact (m_145_8 hM)
  obtain ⟨v4, ev4⟩ : ∃ z, z = h 145 9 := ⟨_, rfl⟩
  have bv4 : 0 ≤ v4 ∧ v4 ≤ 2000000000 := by rw [ev4]; exact (m_145_9 hM)
  refine g_iconst dX12_putsBack_0 (inR_c rfl) ?_
  have c2 : ∀ (n : Nat) (y5 : Int) (h6 : MEM), MBm h6 → Fr [(100, 0), (101, 0), (102, 0)] h h6 → 0 ≤ y5 → y5 ≤ 10 → 10 - y5 < (n : Int) → G yX12_putsBack cX12_putsBack 3 (none) none Po (1, 60, 0, 0) 2 [some (pR 98), some (pI 1), some (pI y5)] [] SH h6 0 0 := by
    intro n
    induction n with
    | zero =>
      intro y5 h6 hMh6 hFh6 by5 dy5 hn
      exfalso; omega
    | succ n ih2 =>
      intro y5 h6 hMh6 hFh6 by5 dy5 hn
      refine g_iload_n dX12_putsBack_2 rfl (fun _ => ?_)
      refine g_bipush dX12_putsBack_3 (inR_c rfl) (by decide) ?_
      refine g_icmp_ge 65 dX12_putsBack_5 (by decide) (fun q7 => ?_) (fun q7 => ?_)
      · skip
        refine g_iconst dX12_putsBack_65 (inR_c rfl) ?_
        have c67 : ∀ (n : Nat) (y8 : Int) (h9 : MEM), MBm h9 → Fr [(103, 0), (104, 0), (106, 0), (107, 0), (108, 0), (109, 0), (110, 0), (111, 0)] h6 h9 → 0 ≤ y8 → y8 ≤ 8 → 8 - y8 < (n : Int) → G yX12_putsBack cX12_putsBack 3 (none) none Po (1, 60, 0, 0) 67 [some (pR 98), some (pI 1), some (pI y8)] [] SH h9 0 0 := by
          intro n
          induction n with
          | zero =>
            intro y8 h9 hMh9 hFh9 by8 dy8 hn
            exfalso; omega
          | succ n ih67 =>
            intro y8 h9 hMh9 hFh9 by8 dy8 hn
            refine g_iload_n dX12_putsBack_67 rfl (fun _ => ?_)
            refine g_bipush dX12_putsBack_68 (inR_c rfl) (by decide) ?_
            refine g_icmp_ge 215 dX12_putsBack_70 (by decide) (fun q10 => ?_) (fun q10 => ?_)
            · skip
              refine g_iconst dX12_putsBack_215 (inR_c rfl) ?_
              have c217 : ∀ (n : Nat) (y11 : Int) (h12 : MEM), MBm h12 → Fr [(105, 0)] h9 h12 → 0 ≤ y11 → y11 ≤ 40 → 40 - y11 < (n : Int) → G yX12_putsBack cX12_putsBack 3 (none) none Po (1, 60, 0, 0) 217 [some (pR 98), some (pI 1), some (pI y11)] [] SH h12 0 0 := by
                intro n
                induction n with
                | zero =>
                  intro y11 h12 hMh12 hFh12 by11 dy11 hn
                  exfalso; omega
                | succ n ih217 =>
                  intro y11 h12 hMh12 hFh12 by11 dy11 hn
                  refine g_iload_n dX12_putsBack_217 rfl (fun _ => ?_)
                  refine g_bipush dX12_putsBack_218 (inR_c rfl) (by decide) ?_
                  refine g_icmp_ge 246 dX12_putsBack_220 (by decide) (fun q13 => ?_) (fun q13 => ?_)
                  · skip
                    refine g_iconst dX12_putsBack_246 (inR_c rfl) ?_
                    have c248 : ∀ (n : Nat) (y14 : Int) (h15 : MEM), MBm h15 → Fr [(112, 0), (113, 0)] h12 h15 → 0 ≤ y14 → y14 ≤ 64 → 64 - y14 < (n : Int) → G yX12_putsBack cX12_putsBack 3 (none) none Po (1, 60, 0, 0) 248 [some (pR 98), some (pI 1), some (pI y14)] [] SH h15 0 0 := by
                      intro n
                      induction n with
                      | zero =>
                        intro y14 h15 hMh15 hFh15 by14 dy14 hn
                        exfalso; omega
                      | succ n ih248 =>
                        intro y14 h15 hMh15 hFh15 by14 dy14 hn
                        refine g_iload_n dX12_putsBack_248 rfl (fun _ => ?_)
                        refine g_bipush dX12_putsBack_249 (inR_c rfl) (by decide) ?_
                        refine g_icmp_ge 294 dX12_putsBack_251 (by decide) (fun q16 => ?_) (fun q16 => ?_)
                        · skip
                          refine g_iconst dX12_putsBack_294 (inR_c rfl) ?_
                          have c296 : ∀ (n : Nat) (y17 : Int) (h18 : MEM), MBm h18 → Fr [(114, 0)] h15 h18 → 0 ≤ y17 → y17 ≤ 100 → PB gs y17 h18 → 100 - y17 < (n : Int) → G yX12_putsBack cX12_putsBack 3 (none) none Po (1, 60, 0, 0) 296 [some (pR 98), some (pI 1), some (pI y17)] [] SH h18 0 0 := by
                            intro n
                            induction n with
                            | zero =>
                              intro y17 h18 hMh18 hFh18 by17 dy17 e296_0 hn
                              exfalso; omega
                            | succ n ih296 =>
                              intro y17 h18 hMh18 hFh18 by17 dy17 e296_0 hn
                              refine g_iload_n dX12_putsBack_296 rfl (fun _ => ?_)
                              refine g_bipush dX12_putsBack_297 (inR_c rfl) (by decide) ?_
                              refine g_icmp_ge 325 dX12_putsBack_299 (by decide) (fun q19 => ?_) (fun q19 => ?_)
                              · skip
                                refine g_aload_n dX12_putsBack_325 rfl ?_
                                have s0f : ISn gs h18 := PB_e e296_0 (by omega)
                                refine g_aload_n dX12_putsBack_326 rfl ?_
                                refine gR_X12_154 rfl dX12_putsBack_327 sh_98 (b := 145) (m_98_70 hMh18) ?_
                                refine g_bipush dX12_putsBack_330 (inR_c rfl) (by decide) ?_
                                refine g_iload_n dX12_putsBack_332 rfl (fun _ => ?_)
                                refine g_imulB dX12_putsBack_333 (by omega) (by omega) ?_
                                refine g_ialdE dX12_putsBack_334 sh_145 (by omega) (by omega) ((hFh18 145 _ rfl).trans ((hFh15 145 _ rfl).trans ((hFh12 145 _ rfl).trans ((hFh9 145 _ rfl).trans ((hFh6 145 _ rfl).trans ev1.symm))))) ?_
                                refine pI_X12_172 rfl dX12_putsBack_335 sh_98 (fun h20 eh20 => ?_)
                                have hFh20 := Fr.st eh20
                                have hMh20 := u_98_2 hMh18 eh20 (by omega) (by omega)
                                refine g_aload_n dX12_putsBack_338 rfl ?_
                                refine g_aload_n dX12_putsBack_339 rfl ?_
                                refine gR_X12_154 rfl dX12_putsBack_340 sh_98 (b := 145) (m_98_70 hMh20) ?_
                                refine g_bipush dX12_putsBack_343 (inR_c rfl) (by decide) ?_
                                refine g_iload_n dX12_putsBack_345 rfl (fun _ => ?_)
                                refine g_imulB dX12_putsBack_346 (by omega) (by omega) ?_
                                refine g_iconst dX12_putsBack_347 (inR_c rfl) ?_
                                refine g_iaddB dX12_putsBack_348 (by omega) (by omega) ?_
                                refine g_ialdE dX12_putsBack_349 sh_145 (by omega) (by omega) ((hFh20 145 _ rfl).trans ((hFh18 145 _ rfl).trans ((hFh15 145 _ rfl).trans ((hFh12 145 _ rfl).trans ((hFh9 145 _ rfl).trans ((hFh6 145 _ rfl).trans ev2.symm)))))) ?_
                                refine pI_X12_179 rfl dX12_putsBack_350 sh_98 (fun h21 eh21 => ?_)
                                have hFh21 := Fr.st eh21
                                have hMh21 := u_98_3 hMh20 eh21 (by omega) (by omega)
                                refine g_aload_n dX12_putsBack_353 rfl ?_
                                refine g_aload_n dX12_putsBack_354 rfl ?_
                                refine gR_X12_154 rfl dX12_putsBack_355 sh_98 (b := 145) (m_98_70 hMh21) ?_
                                refine g_bipush dX12_putsBack_358 (inR_c rfl) (by decide) ?_
                                refine g_iload_n dX12_putsBack_360 rfl (fun _ => ?_)
                                refine g_imulB dX12_putsBack_361 (by omega) (by omega) ?_
                                refine g_iconst dX12_putsBack_362 (inR_c rfl) ?_
                                refine g_iaddB dX12_putsBack_363 (by omega) (by omega) ?_
                                refine g_ialdE dX12_putsBack_364 sh_145 (by omega) (by omega) ((hFh21 145 _ rfl).trans ((hFh20 145 _ rfl).trans ((hFh18 145 _ rfl).trans ((hFh15 145 _ rfl).trans ((hFh12 145 _ rfl).trans ((hFh9 145 _ rfl).trans ((hFh6 145 _ rfl).trans ev3.symm))))))) ?_
                                refine pI_X12_182 rfl dX12_putsBack_365 sh_98 (fun h22 eh22 => ?_)
                                have hFh22 := Fr.st eh22
                                have hMh22 := u_98_4 hMh21 eh22 (by omega) (by omega)
                                refine g_aload_n dX12_putsBack_368 rfl ?_
                                refine g_aload_n dX12_putsBack_369 rfl ?_
                                refine gR_X12_154 rfl dX12_putsBack_370 sh_98 (b := 145) (m_98_70 hMh22) ?_
                                refine g_bipush dX12_putsBack_373 (inR_c rfl) (by decide) ?_
                                refine g_iload_n dX12_putsBack_375 rfl (fun _ => ?_)
                                refine g_imulB dX12_putsBack_376 (by omega) (by omega) ?_
                                refine g_iconst dX12_putsBack_377 (inR_c rfl) ?_
                                refine g_iaddB dX12_putsBack_378 (by omega) (by omega) ?_
                                refine g_ialdE dX12_putsBack_379 sh_145 (by omega) (by omega) ((hFh22 145 _ rfl).trans ((hFh21 145 _ rfl).trans ((hFh20 145 _ rfl).trans ((hFh18 145 _ rfl).trans ((hFh15 145 _ rfl).trans ((hFh12 145 _ rfl).trans ((hFh9 145 _ rfl).trans ((hFh6 145 _ rfl).trans ev4.symm)))))))) ?_
                                refine pI_X12_334 rfl dX12_putsBack_380 sh_98 (fun h23 eh23 => ?_)
                                have hFh23 := Fr.st eh23
                                have hMh23 := u_98_5 hMh22 eh23 (by omega) (by omega)
                                refine g_aload_n dX12_putsBack_383 rfl ?_
                                refine g_aload_n dX12_putsBack_384 rfl ?_
                                refine gR_X12_154 rfl dX12_putsBack_385 sh_98 (b := 145) (m_98_70 hMh23) ?_
                                refine g_bipush dX12_putsBack_388 (inR_c rfl) (by decide) ?_
                                refine g_iload_n dX12_putsBack_390 rfl (fun _ => ?_)
                                refine g_imulB dX12_putsBack_391 (by omega) (by omega) ?_
                                refine g_iconst dX12_putsBack_392 (inR_c rfl) ?_
                                refine g_iaddB dX12_putsBack_393 (by omega) (by omega) ?_
                                refine g_ialdB dX12_putsBack_394 sh_145 (by omega) (by omega) (m_145_10 hMh23) (fun v24 ev24 bv24 cv24 => ?_)
                                refine pI_X12_13 rfl dX12_putsBack_395 sh_98 (fun h25 eh25 => ?_)
                                have hFh25 := Fr.st eh25
                                have hMh25 := u_98_6 hMh23 eh25 (by omega) (by omega)
                                refine g_aload_n dX12_putsBack_398 rfl ?_
                                refine g_aload_n dX12_putsBack_399 rfl ?_
                                refine gR_X12_154 rfl dX12_putsBack_400 sh_98 (b := 145) (m_98_70 hMh25) ?_
                                refine g_bipush dX12_putsBack_403 (inR_c rfl) (by decide) ?_
                                refine g_iload_n dX12_putsBack_405 rfl (fun _ => ?_)
                                refine g_imulB dX12_putsBack_406 (by omega) (by omega) ?_
                                refine g_iconst dX12_putsBack_407 (inR_c rfl) ?_
                                refine g_iaddB dX12_putsBack_408 (by omega) (by omega) ?_
                                refine g_ialdB dX12_putsBack_409 sh_145 (by omega) (by omega) (m_145_11 hMh25) (fun v26 ev26 bv26 cv26 => ?_)
                                refine pI_X12_372 rfl dX12_putsBack_410 sh_98 (fun h27 eh27 => ?_)
                                have hFh27 := Fr.st eh27
                                have hMh27 := u_98_7 hMh25 eh27 (by omega) (by omega)
                                have q28 : h27 98 2 = v1 := ((hFh27 98 2 rfl).trans ((hFh25 98 2 rfl).trans ((hFh23 98 2 rfl).trans ((hFh22 98 2 rfl).trans ((hFh21 98 2 rfl).trans (st_at eh20))))))
                                have q29 : h27 98 3 = v2 := ((hFh27 98 3 rfl).trans ((hFh25 98 3 rfl).trans ((hFh23 98 3 rfl).trans ((hFh22 98 3 rfl).trans (st_at eh21)))))
                                have q30 : h27 98 4 = v3 := ((hFh27 98 4 rfl).trans ((hFh25 98 4 rfl).trans ((hFh23 98 4 rfl).trans (st_at eh22))))
                                have q31 : h27 98 5 = v4 := ((hFh27 98 5 rfl).trans ((hFh25 98 5 rfl).trans (st_at eh23)))
                                exact g_return dX12_putsBack_413 rfl (hPo _ ⟨hMh27, (Fr.tr (Fr.tr (Fr.tr (Fr.tr (Fr.tr (Fr.tr (Fr.tr (Fr.tr (Fr.tr (Fr.tr (Fr.sub hFh6 rfl) hFh9 rfl) hFh12 rfl) hFh15 rfl) hFh18 rfl) hFh20 rfl) hFh21 rfl) hFh22 rfl) hFh23 rfl) hFh25 rfl) hFh27 rfl), (ISn.fr (T := [(98, 3), (98, 4), (98, 5), (98, 6), (98, 7), (98, 8)]) s0f (Fr.tr (Fr.tr (Fr.tr (Fr.tr (Fr.tr (Fr.sub hFh20 rfl) hFh21 rfl) hFh22 rfl) hFh23 rfl) hFh25 rfl) hFh27 rfl) rfl), (by omega), (by omega), (by omega), (by omega)⟩)
                              · skip
                                refine g_aload_n dX12_putsBack_302 rfl ?_
                                refine gR_X12_61 rfl dX12_putsBack_303 sh_98 (b := 114) (m_98_22 hMh18) ?_
                                refine g_iload_n dX12_putsBack_306 rfl (fun _ => ?_)
                                refine g_aload_n dX12_putsBack_307 rfl ?_
                                refine gR_X12_151 rfl dX12_putsBack_308 sh_98 (b := 144) (m_98_69 hMh18) ?_
                                refine g_bipush dX12_putsBack_311 (inR_c rfl) (by decide) ?_
                                refine g_iload_n dX12_putsBack_313 rfl (fun _ => ?_)
                                refine g_imulB dX12_putsBack_314 (by omega) (by omega) ?_
                                refine g_iload_n dX12_putsBack_315 rfl (fun _ => ?_)
                                refine g_iaddB dX12_putsBack_316 (by omega) (by omega) ?_
                                refine g_zaldB dX12_putsBack_317 sh_144 (by omega) (by omega) (m_144 hMh18 _) (fun v32 ev32 bv32 cv32 => ?_)
                                have sv1 := (S1n.fr (T := [(100, 0), (101, 0), (102, 0), (103, 0), (104, 0), (105, 0), (106, 0), (107, 0), (108, 0), (109, 0), (110, 0), (111, 0), (112, 0), (113, 0), (114, 0)]) f_S1 (Fr.tr (Fr.tr (Fr.tr (Fr.tr (Fr.sub hFh6 rfl) hFh9 rfl) hFh12 rfl) hFh15 rfl) hFh18 rfl) rfl)
                                refine g_zastB dX12_putsBack_318 sh_114 (by omega) (by omega) (by omega) (fun h33 eh33 => ?_)
                                have hFh33 := Fr.ar eh33
                                have hMh33 := u_114 hMh18 eh33 (by omega) (by omega)
                                have pb2 : PB gs (y17 + 1) h33 := PB_s1 e296_0 sv1 (by assumption) (by assumption) (by omega) (by omega)
                                refine g_iincB dX12_putsBack_319 rfl rfl (by omega) (by omega) ?_
                                refine g_goto 296 dX12_putsBack_322 (by decide) ?_
                                exact ih296 _ _ hMh33 (Fr.tr (Fr.sub hFh18 rfl) hFh33 rfl) (by omega) (by omega) (by first | exact PB_0 | exact pb2) (by omega)
                          refine g_istore_n dX12_putsBack_295 (by decide) rfl ?_
                          exact c296 101 _ _ hMh15 Fr.rf (by omega) (by omega) (by first | exact PB_0 | exact pb2) (by omega)
                        · skip
                          refine g_aload_n dX12_putsBack_254 rfl ?_
                          refine gR_X12_55 rfl dX12_putsBack_255 sh_98 (b := 112) (m_98_20 hMh15) ?_
                          refine g_iload_n dX12_putsBack_258 rfl (fun _ => ?_)
                          refine g_aload_n dX12_putsBack_259 rfl ?_
                          refine gR_X12_145 rfl dX12_putsBack_260 sh_98 (b := 142) (m_98_67 hMh15) ?_
                          refine g_bipush dX12_putsBack_263 (inR_c rfl) (by decide) ?_
                          refine g_iload_n dX12_putsBack_265 rfl (fun _ => ?_)
                          refine g_imulB dX12_putsBack_266 (by omega) (by omega) ?_
                          refine g_iload_n dX12_putsBack_267 rfl (fun _ => ?_)
                          refine g_iaddB dX12_putsBack_268 (by omega) (by omega) ?_
                          refine g_ialdB dX12_putsBack_269 sh_142 (by omega) (by omega) (m_142 hMh15 _) (fun v34 ev34 bv34 cv34 => ?_)
                          refine g_iastB dX12_putsBack_270 sh_112 (by omega) (by omega) (fun h35 eh35 => ?_)
                          have hFh35 := Fr.ar eh35
                          have hMh35 := u_112 hMh15 eh35 (by omega) (by omega)
                          refine g_aload_n dX12_putsBack_271 rfl ?_
                          refine gR_X12_58 rfl dX12_putsBack_272 sh_98 (b := 113) (m_98_21 hMh35) ?_
                          refine g_iload_n dX12_putsBack_275 rfl (fun _ => ?_)
                          refine g_aload_n dX12_putsBack_276 rfl ?_
                          refine gR_X12_148 rfl dX12_putsBack_277 sh_98 (b := 143) (m_98_68 hMh35) ?_
                          refine g_bipush dX12_putsBack_280 (inR_c rfl) (by decide) ?_
                          refine g_iload_n dX12_putsBack_282 rfl (fun _ => ?_)
                          refine g_imulB dX12_putsBack_283 (by omega) (by omega) ?_
                          refine g_iload_n dX12_putsBack_284 rfl (fun _ => ?_)
                          refine g_iaddB dX12_putsBack_285 (by omega) (by omega) ?_
                          refine g_ialdB dX12_putsBack_286 sh_143 (by omega) (by omega) (m_143 hMh35 _) (fun v36 ev36 bv36 cv36 => ?_)
                          refine g_iastB dX12_putsBack_287 sh_113 (by omega) (by omega) (fun h37 eh37 => ?_)
                          have hFh37 := Fr.ar eh37
                          have hMh37 := u_113 hMh35 eh37 (by omega) (by omega)
                          refine g_iincB dX12_putsBack_288 rfl rfl (by omega) (by omega) ?_
                          refine g_goto 248 dX12_putsBack_291 (by decide) ?_
                          exact ih248 _ _ hMh37 (Fr.tr (Fr.tr (Fr.sub hFh15 rfl) hFh35 rfl) hFh37 rfl) (by omega) (by omega) (by omega)
                    refine g_istore_n dX12_putsBack_247 (by decide) rfl ?_
                    exact c248 65 _ _ hMh12 Fr.rf (by omega) (by omega) (by omega)
                  · skip
                    refine g_aload_n dX12_putsBack_223 rfl ?_
                    refine gR_X12_33 rfl dX12_putsBack_224 sh_98 (b := 105) (m_98_13 hMh12) ?_
                    refine g_iload_n dX12_putsBack_227 rfl (fun _ => ?_)
                    refine g_aload_n dX12_putsBack_228 rfl ?_
                    refine gR_X12_124 rfl dX12_putsBack_229 sh_98 (b := 135) (m_98_60 hMh12) ?_
                    refine g_bipush dX12_putsBack_232 (inR_c rfl) (by decide) ?_
                    refine g_iload_n dX12_putsBack_234 rfl (fun _ => ?_)
                    refine g_imulB dX12_putsBack_235 (by omega) (by omega) ?_
                    refine g_iload_n dX12_putsBack_236 rfl (fun _ => ?_)
                    refine g_iaddB dX12_putsBack_237 (by omega) (by omega) ?_
                    refine g_ialdB dX12_putsBack_238 sh_135 (by omega) (by omega) (m_135 hMh12 _) (fun v38 ev38 bv38 cv38 => ?_)
                    refine g_iastB dX12_putsBack_239 sh_105 (by omega) (by omega) (fun h39 eh39 => ?_)
                    have hFh39 := Fr.ar eh39
                    have hMh39 := u_105 hMh12 eh39 (by omega) (by omega)
                    refine g_iincB dX12_putsBack_240 rfl rfl (by omega) (by omega) ?_
                    refine g_goto 217 dX12_putsBack_243 (by decide) ?_
                    exact ih217 _ _ hMh39 (Fr.tr (Fr.sub hFh12 rfl) hFh39 rfl) (by omega) (by omega) (by omega)
              refine g_istore_n dX12_putsBack_216 (by decide) rfl ?_
              exact c217 41 _ _ hMh9 Fr.rf (by omega) (by omega) (by omega)
            · skip
              refine g_aload_n dX12_putsBack_73 rfl ?_
              refine gR_X12_27 rfl dX12_putsBack_74 sh_98 (b := 103) (m_98_11 hMh9) ?_
              refine g_iload_n dX12_putsBack_77 rfl (fun _ => ?_)
              refine g_aload_n dX12_putsBack_78 rfl ?_
              refine gR_X12_118 rfl dX12_putsBack_79 sh_98 (b := 133) (m_98_58 hMh9) ?_
              refine g_bipush dX12_putsBack_82 (inR_c rfl) (by decide) ?_
              refine g_iload_n dX12_putsBack_84 rfl (fun _ => ?_)
              refine g_imulB dX12_putsBack_85 (by omega) (by omega) ?_
              refine g_iload_n dX12_putsBack_86 rfl (fun _ => ?_)
              refine g_iaddB dX12_putsBack_87 (by omega) (by omega) ?_
              refine g_ialdB dX12_putsBack_88 sh_133 (by omega) (by omega) (m_133 hMh9 _) (fun v40 ev40 bv40 cv40 => ?_)
              refine g_iastB dX12_putsBack_89 sh_103 (by omega) (by omega) (fun h41 eh41 => ?_)
              have hFh41 := Fr.ar eh41
              have hMh41 := u_103 hMh9 eh41 (by omega) (by omega)
              refine g_aload_n dX12_putsBack_90 rfl ?_
              refine gR_X12_30 rfl dX12_putsBack_91 sh_98 (b := 104) (m_98_12 hMh41) ?_
              refine g_iload_n dX12_putsBack_94 rfl (fun _ => ?_)
              refine g_aload_n dX12_putsBack_95 rfl ?_
              refine gR_X12_121 rfl dX12_putsBack_96 sh_98 (b := 134) (m_98_59 hMh41) ?_
              refine g_bipush dX12_putsBack_99 (inR_c rfl) (by decide) ?_
              refine g_iload_n dX12_putsBack_101 rfl (fun _ => ?_)
              refine g_imulB dX12_putsBack_102 (by omega) (by omega) ?_
              refine g_iload_n dX12_putsBack_103 rfl (fun _ => ?_)
              refine g_iaddB dX12_putsBack_104 (by omega) (by omega) ?_
              refine g_ialdB dX12_putsBack_105 sh_134 (by omega) (by omega) (m_134 hMh41 _) (fun v42 ev42 bv42 cv42 => ?_)
              refine g_iastB dX12_putsBack_106 sh_104 (by omega) (by omega) (fun h43 eh43 => ?_)
              have hFh43 := Fr.ar eh43
              have hMh43 := u_104 hMh41 eh43 (by omega) (by omega)
              refine g_aload_n dX12_putsBack_107 rfl ?_
              refine gR_X12_36 rfl dX12_putsBack_108 sh_98 (b := 106) (m_98_14 hMh43) ?_
              refine g_iload_n dX12_putsBack_111 rfl (fun _ => ?_)
              refine g_aload_n dX12_putsBack_112 rfl ?_
              refine gR_X12_127 rfl dX12_putsBack_113 sh_98 (b := 136) (m_98_61 hMh43) ?_
              refine g_bipush dX12_putsBack_116 (inR_c rfl) (by decide) ?_
              refine g_iload_n dX12_putsBack_118 rfl (fun _ => ?_)
              refine g_imulB dX12_putsBack_119 (by omega) (by omega) ?_
              refine g_iload_n dX12_putsBack_120 rfl (fun _ => ?_)
              refine g_iaddB dX12_putsBack_121 (by omega) (by omega) ?_
              refine g_zaldB dX12_putsBack_122 sh_136 (by omega) (by omega) (m_136 hMh43 _) (fun v44 ev44 bv44 cv44 => ?_)
              refine g_zastB dX12_putsBack_123 sh_106 (by omega) (by omega) (by omega) (fun h45 eh45 => ?_)
              have hFh45 := Fr.ar eh45
              have hMh45 := u_106 hMh43 eh45 (by omega) (by omega)
              refine g_aload_n dX12_putsBack_124 rfl ?_
              refine gR_X12_40 rfl dX12_putsBack_125 sh_98 (b := 107) (m_98_15 hMh45) ?_
              refine g_iload_n dX12_putsBack_128 rfl (fun _ => ?_)
              refine g_aload_n dX12_putsBack_129 rfl ?_
              refine gR_X12_130 rfl dX12_putsBack_130 sh_98 (b := 137) (m_98_62 hMh45) ?_
              refine g_bipush dX12_putsBack_133 (inR_c rfl) (by decide) ?_
              refine g_iload_n dX12_putsBack_135 rfl (fun _ => ?_)
              refine g_imulB dX12_putsBack_136 (by omega) (by omega) ?_
              refine g_iload_n dX12_putsBack_137 rfl (fun _ => ?_)
              refine g_iaddB dX12_putsBack_138 (by omega) (by omega) ?_
              refine g_ialdB dX12_putsBack_139 sh_137 (by omega) (by omega) (m_137 hMh45 _) (fun v46 ev46 bv46 cv46 => ?_)
              refine g_iastB dX12_putsBack_140 sh_107 (by omega) (by omega) (fun h47 eh47 => ?_)
              have hFh47 := Fr.ar eh47
              have hMh47 := u_107 hMh45 eh47 (by omega) (by omega)
              refine g_aload_n dX12_putsBack_141 rfl ?_
              refine gR_X12_43 rfl dX12_putsBack_142 sh_98 (b := 108) (m_98_16 hMh47) ?_
              refine g_iload_n dX12_putsBack_145 rfl (fun _ => ?_)
              refine g_aload_n dX12_putsBack_146 rfl ?_
              refine gR_X12_133 rfl dX12_putsBack_147 sh_98 (b := 138) (m_98_63 hMh47) ?_
              refine g_bipush dX12_putsBack_150 (inR_c rfl) (by decide) ?_
              refine g_iload_n dX12_putsBack_152 rfl (fun _ => ?_)
              refine g_imulB dX12_putsBack_153 (by omega) (by omega) ?_
              refine g_iload_n dX12_putsBack_154 rfl (fun _ => ?_)
              refine g_iaddB dX12_putsBack_155 (by omega) (by omega) ?_
              refine g_ialdB dX12_putsBack_156 sh_138 (by omega) (by omega) (m_138 hMh47 _) (fun v48 ev48 bv48 cv48 => ?_)
              refine g_iastB dX12_putsBack_157 sh_108 (by omega) (by omega) (fun h49 eh49 => ?_)
              have hFh49 := Fr.ar eh49
              have hMh49 := u_108 hMh47 eh49 (by omega) (by omega)
              refine g_aload_n dX12_putsBack_158 rfl ?_
              refine gR_X12_46 rfl dX12_putsBack_159 sh_98 (b := 109) (m_98_17 hMh49) ?_
              refine g_iload_n dX12_putsBack_162 rfl (fun _ => ?_)
              refine g_aload_n dX12_putsBack_163 rfl ?_
              refine gR_X12_136 rfl dX12_putsBack_164 sh_98 (b := 139) (m_98_64 hMh49) ?_
              refine g_bipush dX12_putsBack_167 (inR_c rfl) (by decide) ?_
              refine g_iload_n dX12_putsBack_169 rfl (fun _ => ?_)
              refine g_imulB dX12_putsBack_170 (by omega) (by omega) ?_
              refine g_iload_n dX12_putsBack_171 rfl (fun _ => ?_)
              refine g_iaddB dX12_putsBack_172 (by omega) (by omega) ?_
              refine g_ialdB dX12_putsBack_173 sh_139 (by omega) (by omega) (m_139 hMh49 _) (fun v50 ev50 bv50 cv50 => ?_)
              refine g_iastB dX12_putsBack_174 sh_109 (by omega) (by omega) (fun h51 eh51 => ?_)
              have hFh51 := Fr.ar eh51
              have hMh51 := u_109 hMh49 eh51 (by omega) (by omega)
              refine g_aload_n dX12_putsBack_175 rfl ?_
              refine gR_X12_49 rfl dX12_putsBack_176 sh_98 (b := 110) (m_98_18 hMh51) ?_
              refine g_iload_n dX12_putsBack_179 rfl (fun _ => ?_)
              refine g_aload_n dX12_putsBack_180 rfl ?_
              refine gR_X12_139 rfl dX12_putsBack_181 sh_98 (b := 140) (m_98_65 hMh51) ?_
              refine g_bipush dX12_putsBack_184 (inR_c rfl) (by decide) ?_
              refine g_iload_n dX12_putsBack_186 rfl (fun _ => ?_)
              refine g_imulB dX12_putsBack_187 (by omega) (by omega) ?_
              refine g_iload_n dX12_putsBack_188 rfl (fun _ => ?_)
              refine g_iaddB dX12_putsBack_189 (by omega) (by omega) ?_
              refine g_zaldB dX12_putsBack_190 sh_140 (by omega) (by omega) (m_140 hMh51 _) (fun v52 ev52 bv52 cv52 => ?_)
              refine g_zastB dX12_putsBack_191 sh_110 (by omega) (by omega) (by omega) (fun h53 eh53 => ?_)
              have hFh53 := Fr.ar eh53
              have hMh53 := u_110 hMh51 eh53 (by omega) (by omega)
              refine g_aload_n dX12_putsBack_192 rfl ?_
              refine gR_X12_52 rfl dX12_putsBack_193 sh_98 (b := 111) (m_98_19 hMh53) ?_
              refine g_iload_n dX12_putsBack_196 rfl (fun _ => ?_)
              refine g_aload_n dX12_putsBack_197 rfl ?_
              refine gR_X12_142 rfl dX12_putsBack_198 sh_98 (b := 141) (m_98_66 hMh53) ?_
              refine g_bipush dX12_putsBack_201 (inR_c rfl) (by decide) ?_
              refine g_iload_n dX12_putsBack_203 rfl (fun _ => ?_)
              refine g_imulB dX12_putsBack_204 (by omega) (by omega) ?_
              refine g_iload_n dX12_putsBack_205 rfl (fun _ => ?_)
              refine g_iaddB dX12_putsBack_206 (by omega) (by omega) ?_
              refine g_ialdB dX12_putsBack_207 sh_141 (by omega) (by omega) (m_141 hMh53 _) (fun v54 ev54 bv54 cv54 => ?_)
              refine g_iastB dX12_putsBack_208 sh_111 (by omega) (by omega) (fun h55 eh55 => ?_)
              have hFh55 := Fr.ar eh55
              have hMh55 := u_111 hMh53 eh55 (by omega) (by omega)
              refine g_iincB dX12_putsBack_209 rfl rfl (by omega) (by omega) ?_
              refine g_goto 67 dX12_putsBack_212 (by decide) ?_
              exact ih67 _ _ hMh55 (Fr.tr (Fr.tr (Fr.tr (Fr.tr (Fr.tr (Fr.tr (Fr.tr (Fr.tr (Fr.sub hFh9 rfl) hFh41 rfl) hFh43 rfl) hFh45 rfl) hFh47 rfl) hFh49 rfl) hFh51 rfl) hFh53 rfl) hFh55 rfl) (by omega) (by omega) (by omega)
        refine g_istore_n dX12_putsBack_66 (by decide) rfl ?_
        exact c67 9 _ _ hMh6 Fr.rf (by omega) (by omega) (by omega)
      · skip
        refine g_aload_n dX12_putsBack_8 rfl ?_
        refine gR_X12_17 rfl dX12_putsBack_9 sh_98 (b := 100) (m_98_8 hMh6) ?_
        refine g_iload_n dX12_putsBack_12 rfl (fun _ => ?_)
        refine g_aload_n dX12_putsBack_13 rfl ?_
        refine gR_X12_109 rfl dX12_putsBack_14 sh_98 (b := 130) (m_98_55 hMh6) ?_
        refine g_bipush dX12_putsBack_17 (inR_c rfl) (by decide) ?_
        refine g_iload_n dX12_putsBack_19 rfl (fun _ => ?_)
        refine g_imulB dX12_putsBack_20 (by omega) (by omega) ?_
        refine g_iload_n dX12_putsBack_21 rfl (fun _ => ?_)
        refine g_iaddB dX12_putsBack_22 (by omega) (by omega) ?_
        refine g_ialdB dX12_putsBack_23 sh_130 (by omega) (by omega) (m_130 hMh6 _) (fun v56 ev56 bv56 cv56 => ?_)
        refine g_iastB dX12_putsBack_24 sh_100 (by omega) (by omega) (fun h57 eh57 => ?_)
        have hFh57 := Fr.ar eh57
        have hMh57 := u_100 hMh6 eh57 (by omega) (by omega)
        refine g_aload_n dX12_putsBack_25 rfl ?_
        refine gR_X12_21 rfl dX12_putsBack_26 sh_98 (b := 101) (m_98_9 hMh57) ?_
        refine g_iload_n dX12_putsBack_29 rfl (fun _ => ?_)
        refine g_aload_n dX12_putsBack_30 rfl ?_
        refine gR_X12_112 rfl dX12_putsBack_31 sh_98 (b := 131) (m_98_56 hMh57) ?_
        refine g_bipush dX12_putsBack_34 (inR_c rfl) (by decide) ?_
        refine g_iload_n dX12_putsBack_36 rfl (fun _ => ?_)
        refine g_imulB dX12_putsBack_37 (by omega) (by omega) ?_
        refine g_iload_n dX12_putsBack_38 rfl (fun _ => ?_)
        refine g_iaddB dX12_putsBack_39 (by omega) (by omega) ?_
        refine g_ialdB dX12_putsBack_40 sh_131 (by omega) (by omega) (m_131 hMh57 _) (fun v58 ev58 bv58 cv58 => ?_)
        refine g_iastB dX12_putsBack_41 sh_101 (by omega) (by omega) (fun h59 eh59 => ?_)
        have hFh59 := Fr.ar eh59
        have hMh59 := u_101 hMh57 eh59 (by omega) (by omega)
        refine g_aload_n dX12_putsBack_42 rfl ?_
        refine gR_X12_24 rfl dX12_putsBack_43 sh_98 (b := 102) (m_98_10 hMh59) ?_
        refine g_iload_n dX12_putsBack_46 rfl (fun _ => ?_)
        refine g_aload_n dX12_putsBack_47 rfl ?_
        refine gR_X12_115 rfl dX12_putsBack_48 sh_98 (b := 132) (m_98_57 hMh59) ?_
        refine g_bipush dX12_putsBack_51 (inR_c rfl) (by decide) ?_
        refine g_iload_n dX12_putsBack_53 rfl (fun _ => ?_)
        refine g_imulB dX12_putsBack_54 (by omega) (by omega) ?_
        refine g_iload_n dX12_putsBack_55 rfl (fun _ => ?_)
        refine g_iaddB dX12_putsBack_56 (by omega) (by omega) ?_
        refine g_ialdB dX12_putsBack_57 sh_132 (by omega) (by omega) (m_132 hMh59 _) (fun v60 ev60 bv60 cv60 => ?_)
        refine g_iastB dX12_putsBack_58 sh_102 (by omega) (by omega) (fun h61 eh61 => ?_)
        have hFh61 := Fr.ar eh61
        have hMh61 := u_102 hMh59 eh61 (by omega) (by omega)
        refine g_iincB dX12_putsBack_59 rfl rfl (by omega) (by omega) ?_
        refine g_goto 2 dX12_putsBack_62 (by decide) ?_
        exact ih2 _ _ hMh61 (Fr.tr (Fr.tr (Fr.tr (Fr.sub hFh6 rfl) hFh57 rfl) hFh59 rfl) hFh61 rfl) (by omega) (by omega) (by omega)
  refine g_istore_n dX12_putsBack_1 (by decide) rfl ?_
  exact c2 11 _ _ hM Fr.rf (by omega) (by omega) (by omega)
set_option maxRecDepth 100000 in
set_option maxHeartbeats 4000000 in
theorem c_X12_undo_98 (gi gs : Nat → Int) (h : MEM) (hM : MBm h) (f_IS : ISn gi h) (f_S1 : S1n gs h) : CI yX12_undo cX12_undo 1 (some .boolean) 2 [pR 98] h (fun x h' => MBm h' ∧ Fr [(98, 3), (98, 4), (98, 5), (98, 6), (98, 7), (98, 8), (100, 0), (101, 0), (102, 0), (103, 0), (104, 0), (105, 0), (106, 0), (107, 0), (108, 0), (109, 0), (110, 0), (111, 0), (112, 0), (113, 0), (114, 0)] h h' ∧ 0 ≤ x ∧ x ≤ 1 ∧ ((h 98 79 = 1 ∧ x = 1 ∧ h' 98 2 = h 145 6 ∧ h' 98 3 = h 145 7 ∧ h' 98 4 = h 145 8 ∧ h' 98 5 = h 145 9) ∨ (h 98 79 = 0 ∧ x = 0 ∧ h' 98 2 = h 98 2 ∧ h' 98 3 = h 98 3 ∧ h' 98 4 = h 98 4 ∧ h' 98 5 = h 98 5)) ∧ (h 98 79 = 1 → ISn gs h') ∧ (h 98 79 = 0 → ISn gi h')) := by
  refine CI.of (L0 := [some (pR 98)]) rfl (Nat.le_of_ble_eq_true rfl) rfl (fun Po hPo hav => ?_)
  obtain ⟨v1, ev1⟩ : ∃ z, z = h 98 79 := ⟨_, rfl⟩
  have bv1 : 0 ≤ v1 ∧ v1 ≤ 1 := by rw [ev1]; exact (m_98_79 hM)
  obtain ⟨v2, ev2⟩ : ∃ z, z = h 98 2 := ⟨_, rfl⟩
  have bv2 : 0 ≤ v2 ∧ v2 ≤ 10 := by rw [ev2]; exact (m_98_2 hM)
  obtain ⟨v3, ev3⟩ : ∃ z, z = h 98 3 := ⟨_, rfl⟩
  have bv3 : 0 ≤ v3 ∧ v3 ≤ 8 := by rw [ev3]; exact (m_98_3 hM)
  obtain ⟨v4, ev4⟩ : ∃ z, z = h 98 4 := ⟨_, rfl⟩
  have bv4 : 0 ≤ v4 ∧ v4 ≤ 8 := by rw [ev4]; exact (m_98_4 hM)
  obtain ⟨v5, ev5⟩ : ∃ z, z = h 98 5 := ⟨_, rfl⟩
  have bv5 : 0 ≤ v5 ∧ v5 ≤ 2000000000 := by rw [ev5]; exact (m_98_5 hM)
  obtain ⟨v6, ev6⟩ : ∃ z, z = h 145 6 := ⟨_, rfl⟩
  have bv6 : 0 ≤ v6 ∧ v6 ≤ 10 := by rw [ev6]; exact (m_145_6 hM)
  obtain ⟨v7, ev7⟩ : ∃ z, z = h 145 7 := ⟨_, rfl⟩
  have bv7 : 0 ≤ v7 ∧ v7 ≤ 8 := by rw [ev7]; exact (m_145_7 hM)
  obtain ⟨v8, ev8⟩ : ∃ z, z = h 145 8 := ⟨_, rfl⟩
  have bv8 : 0 ≤ v8 ∧ v8 ≤ 8 := by rw [ev8]; exact (m_145_8 hM)
  obtain ⟨v9, ev9⟩ : ∃ z, z = h 145 9 := ⟨_, rfl⟩
  have bv9 : 0 ≤ v9 ∧ v9 ≤ 2000000000 := by rw [ev9]; exact (m_145_9 hM)
  refine g_aload_n dX12_undo_0 rfl ?_
  refine gE_X12_506 rfl dX12_undo_1 sh_98 ev1.symm ?_
  refine g_if_ne 9 dX12_undo_4 (by decide) (fun q10 => ?_) (fun q10 => ?_)
  · skip
    refine g_aload_n dX12_undo_9 rfl ?_
    refine g_iconst dX12_undo_10 (inR_c rfl) ?_
    have q11 : h 145 6 = v6 := ev6.symm
    have q12 : h 145 7 = v7 := ev7.symm
    have q13 : h 145 8 = v8 := ev8.symm
    have q14 : h 145 9 = v9 := ev9.symm
    refine g_cVV (as := [_]) (c_X12_putsBack_98_k1 _ h hM f_S1) dX12_undo_11 mi_X12_putsBack in_X12_putsBack se_X12_putsBack ml_X12_428 rfl rfl rfl sh_98 rfl rfl (Nat.le_of_ble_eq_true rfl) (fun h15 q16 => ?_)
    obtain ⟨hMh15, hFh15, z17, z18, z19, z20, z21⟩ := q16
    have kz18 : h15 98 2 = v6 := by omega
    have kz19 : h15 98 3 = v7 := by omega
    have kz20 : h15 98 4 = v8 := by omega
    have kz21 : h15 98 5 = v9 := by omega
    refine g_iconst dX12_undo_14 (inR_c rfl) ?_
    have q22 : h15 98 2 = v6 := kz18
    have q23 : h15 98 3 = v7 := kz19
    have q24 : h15 98 4 = v8 := kz20
    have q25 : h15 98 5 = v9 := kz21
    exact g_ireturn dX12_undo_15 (retZ (by omega)) (hPo _ _ ⟨hMh15, (Fr.sub hFh15 rfl), (by omega), (by omega), (by omega), (fun _ => z17), (fun _ => (by exfalso; omega))⟩)
  · skip
    refine g_iconst dX12_undo_7 (inR_c rfl) ?_
    have q26 : h 98 2 = v2 := ev2.symm
    have q27 : h 98 3 = v3 := ev3.symm
    have q28 : h 98 4 = v4 := ev4.symm
    have q29 : h 98 5 = v5 := ev5.symm
    exact g_ireturn dX12_undo_8 (retZ (by omega)) (hPo _ _ ⟨hM, Fr.rf, (by omega), (by omega), (by omega), (fun _ => (by exfalso; omega)), (fun _ => f_IS)⟩)
set_option maxRecDepth 100000 in
set_option maxHeartbeats 4000000 in
theorem c_X12_numberAt_98 (x1 : Int) (h : MEM) (hM : MBm h) (bx1 : 0 ≤ x1) (dx1 : x1 ≤ 9) : CP yX12_numberAt cX12_numberAt 4 (some .int) 1 [pR 98, pI x1] h (fun x => -2147483648 ≤ x ∧ x ≤ 2147483647) := by
  refine CP.of (L0 := [some (pR 98), some (pI x1), none, none]) rfl (Nat.le_of_ble_eq_true rfl) rfl (fun Po hPo hav => ?_)
  refine g_iconst dX12_numberAt_0 (inR_c rfl) ?_
  refine g_istore_n dX12_numberAt_1 (by decide) rfl ?_
  refine g_iconst dX12_numberAt_2 (inR_c rfl) ?_
  have c4 : ∀ (n : Nat) (y1 y2 : Int) , -2147483648 ≤ y1 → y1 ≤ 2147483647 → 0 ≤ y2 → y2 ≤ 4 → 4 - y2 < (n : Int) → G yX12_numberAt cX12_numberAt 4 (some .int) none Po (1, 60, 0, 0) 4 [some (pR 98), some (pI x1), some (pI y1), some (pI y2)] [] SH h 0 0 := by
    intro n
    induction n with
    | zero =>
      intro y1 y2 by1 dy1 by2 dy2 hn
      exfalso; omega
    | succ n ih4 =>
      intro y1 y2 by1 dy1 by2 dy2 hn
      refine g_iload_n dX12_numberAt_4 rfl (fun _ => ?_)
      refine g_iconst dX12_numberAt_5 (inR_c rfl) ?_
      refine g_icmp_ge 35 dX12_numberAt_6 (by decide) (fun q3 => ?_) (fun q3 => ?_)
      · skip
        refine g_iload_n dX12_numberAt_35 rfl (fun _ => ?_)
        exact g_ireturn dX12_numberAt_36 retI (hPo _ ⟨(by omega), (by omega)⟩)
      · skip
        refine g_iload_n dX12_numberAt_9 rfl (fun _ => ?_)
        refine g_bipush dX12_numberAt_10 (inR_c rfl) (by decide) ?_
        refine g_ishlF dX12_numberAt_12 (fun v4 ev4 bv4 cv4 => ?_)
        refine g_aload_n dX12_numberAt_13 rfl ?_
        refine gR_X12_7 rfl dX12_numberAt_14 sh_98 (b := 99) (m_98_0 hM) ?_
        refine g_iconst dX12_numberAt_17 (inR_c rfl) ?_
        refine g_iload_n dX12_numberAt_18 rfl (fun _ => ?_)
        refine g_imulB dX12_numberAt_19 (by omega) (by omega) ?_
        refine g_iload_n dX12_numberAt_20 rfl (fun _ => ?_)
        refine g_iaddB dX12_numberAt_21 (by omega) (by omega) ?_
        refine g_baldB dX12_numberAt_22 sh_99 (by omega) (by omega) (m_99 hM _) (fun v5 ev5 bv5 cv5 => ?_)
        refine g_sipush dX12_numberAt_23 (inR_c rfl) (by decide) ?_
        refine g_iandX (lo := 0) (hi := 255) dX12_numberAt_26 (iand_r (by omega) (by omega)) (fun v6 ev6 bv6 cv6 => ?_)
        refine g_iorF dX12_numberAt_27 (fun v7 ev7 bv7 cv7 => ?_)
        refine g_istore_n dX12_numberAt_28 (by decide) rfl ?_
        refine g_iincB dX12_numberAt_29 rfl rfl (by omega) (by omega) ?_
        refine g_goto 4 dX12_numberAt_32 (by decide) ?_
        exact ih4 _ _ (by omega) (by omega) (by omega) (by omega) (by omega)
  refine g_istore_n dX12_numberAt_3 (by decide) rfl ?_
  exact c4 5 _ _ (by omega) (by omega) (by omega) (by omega) (by omega)
set_option maxRecDepth 100000 in
set_option maxHeartbeats 4000000 in
theorem c_X12_check_98 (x1 : Int) (h : MEM) (hM : MBm h) (bx1 : -2147483648 ≤ x1) (dx1 : x1 ≤ 2147483647) : CI yX12_check cX12_check 3 (some .int) 2 [pR 98, pI x1] h (fun x h' => MBm h' ∧ Fr [(98, 2)] h h' ∧ -2 ≤ x ∧ x ≤ 9) := by
  refine CI.of (L0 := [some (pR 98), some (pI x1), none]) rfl (Nat.le_of_ble_eq_true rfl) rfl (fun Po hPo hav => ?_)
  refine g_iload_n dX12_check_0 rfl (fun _ => ?_)
  refine g_i2l dX12_check_1 ?_
  refine g_lconst (v := 0) dX12_check_2 rfl ?_
  refine g_ldc2 (v := 10) dX12_check_3 kl_X12_410 (by decide) ?_
  refine g_cSP (av := [_, _, _]) (c_X12_lies _ _ _ h hM (by omega) (by omega) (by omega) (by omega) (by omega) (by omega)) dX12_check_6 mi_X12_lies st_X12_lies ml_X12_175 rfl rfl rfl rfl (Nat.le_of_ble_eq_true rfl) (fun v1 q2 => ?_)
  rcases q2 with ⟨rfl, q2⟩ | ⟨rfl, q2⟩
  · skip
    refine g_if_eq 22 dX12_check_9 (by decide) (fun _ => by exfalso; omega) (fun q3 => ?_)
    refine g_iload_n dX12_check_12 rfl (fun _ => ?_)
    refine g_aload_n dX12_check_13 rfl ?_
    refine gI_X12_204 rfl dX12_check_14 sh_98 (m_98_1 hM) (fun v4 ev4 bv4 cv4 => ?_)
    refine g_iconst dX12_check_17 (inR_c rfl) ?_
    refine g_idivX (lo := 0) (hi := v4) dX12_check_18 (by omega) (idiv_b (by omega) (by omega) (by omega)) (fun v5 ev5 bv5 cv5 => ?_)
    refine g_icmp_le 25 dX12_check_19 (by decide) (fun q6 => ?_) (fun q6 => ?_)
    · skip
      refine g_aload_n dX12_check_25 rfl ?_
      refine g_iconst dX12_check_26 (inR_c rfl) ?_
      refine pI_X12_204 rfl dX12_check_27 sh_98 (fun h7 eh7 => ?_)
      have hFh7 := Fr.st eh7
      have hMh7 := u_98_1 hM eh7 (by omega) (by omega)
      refine g_iconst dX12_check_30 (inR_c rfl) ?_
      have c32 : ∀ (n : Nat) (y8 : Int) , 0 ≤ y8 → y8 ≤ 10 → 10 - y8 < (n : Int) → G yX12_check cX12_check 3 (some .int) none Po (2, 120, 0, 0) 32 [some (pR 98), some (pI x1), some (pI y8)] [] SH h7 0 0 := by
        intro n
        induction n with
        | zero =>
          intro y8 by8 dy8 hn
          exfalso; omega
        | succ n ih32 =>
          intro y8 by8 dy8 hn
          refine g_iload_n dX12_check_32 rfl (fun _ => ?_)
          refine g_iload_n dX12_check_33 rfl (fun _ => ?_)
          refine g_icmp_ge 67 dX12_check_34 (by decide) (fun q9 => ?_) (fun q9 => ?_)
          · skip
            refine g_iconst dX12_check_67 (inR_c rfl) ?_
            exact g_ireturn dX12_check_68 retI (hPo _ _ ⟨hMh7, (Fr.sub hFh7 rfl), (by omega), (by omega)⟩)
          · skip
            refine g_iload_n dX12_check_37 rfl (fun _ => ?_)
            refine g_aload_n dX12_check_38 rfl ?_
            refine gI_X12_172 rfl dX12_check_39 sh_98 (m_98_2 hMh7) (fun v10 ev10 bv10 cv10 => ?_)
            refine g_icmp_eq 59 dX12_check_42 (by decide) (fun q11 => ?_) (fun q11 => ?_)
            · skip
              refine g_iload_n dX12_check_59 rfl (fun _ => ?_)
              exact g_ireturn dX12_check_60 retI (hPo _ _ ⟨hMh7, (Fr.sub hFh7 rfl), (by omega), (by omega)⟩)
            · skip
              refine g_aload_n dX12_check_45 rfl ?_
              refine g_iload_n dX12_check_46 rfl (fun _ => ?_)
              refine g_cVP (as := [_]) (c_X12_numberAt_98 _ h7 hMh7 (by omega) (by omega)) dX12_check_47 mi_X12_numberAt in_X12_numberAt se_X12_numberAt ml_X12_509 rfl rfl rfl sh_98 rfl rfl (Nat.le_of_ble_eq_true rfl) (fun v12 q13 => ?_)
              obtain ⟨bv12, cv12⟩ := q13
              refine g_aload_n dX12_check_50 rfl ?_
              refine gR_X12_21 rfl dX12_check_51 sh_98 (b := 101) (m_98_9 hMh7) ?_
              refine g_iload_n dX12_check_54 rfl (fun _ => ?_)
              refine g_ialdB dX12_check_55 sh_101 (by omega) (by omega) (m_101 hMh7 _) (fun v14 ev14 bv14 cv14 => ?_)
              refine g_icmp_eq 61 dX12_check_56 (by decide) (fun q15 => ?_) (fun q15 => ?_)
              · skip
                refine g_iincB dX12_check_61 rfl rfl (by omega) (by omega) ?_
                refine g_goto 32 dX12_check_64 (by decide) ?_
                exact ih32 _ (by omega) (by omega) (by omega)
              · skip
                refine g_iload_n dX12_check_59 rfl (fun _ => ?_)
                exact g_ireturn dX12_check_60 retI (hPo _ _ ⟨hMh7, (Fr.sub hFh7 rfl), (by omega), (by omega)⟩)
      refine g_istore_n dX12_check_31 (by decide) rfl ?_
      exact c32 11 _ (by omega) (by omega) (by omega)
    · skip
      refine g_bipush dX12_check_22 (inR_c rfl) (by decide) ?_
      exact g_ireturn dX12_check_24 retI (hPo _ _ ⟨hM, Fr.rf, (by omega), (by omega)⟩)
  · skip
    refine g_if_eq 22 dX12_check_9 (by decide) (fun q16 => ?_) (fun _ => by exfalso; omega)
    refine g_bipush dX12_check_22 (inR_c rfl) (by decide) ?_
    exact g_ireturn dX12_check_24 retI (hPo _ _ ⟨hM, Fr.rf, (by omega), (by omega)⟩)
set_option maxRecDepth 100000 in
set_option maxHeartbeats 4000000 in
theorem c_X12_count_98 (x1 : Int) (h : MEM) (hM : MBm h) (bx1 : -2147483648 ≤ x1) (dx1 : x1 ≤ 2147483647) : CP yX12_count cX12_count 2 (some .int) 2 [pR 98, pI x1] h (fun x => -2147483648 ≤ x ∧ x ≤ 2147483647) := by
  refine CP.of (L0 := [some (pR 98), some (pI x1)]) rfl (Nat.le_of_ble_eq_true rfl) rfl (fun Po hPo hav => ?_)
  refine g_iload_n dX12_count_0 rfl (fun _ => ?_)
  refine g_i2l dX12_count_1 ?_
  refine g_ldc2 (v := 100) dX12_count_2 kl_X12_512 (by decide) ?_
  refine g_ldc2 (v := 199) dX12_count_5 kl_X12_514 (by decide) ?_
  refine g_cSP (av := [_, _, _]) (c_X12_lies _ _ _ h hM (by omega) (by omega) (by omega) (by omega) (by omega) (by omega)) dX12_count_8 mi_X12_lies st_X12_lies ml_X12_175 rfl rfl rfl rfl (Nat.le_of_ble_eq_true rfl) (fun v1 q2 => ?_)
  rcases q2 with ⟨rfl, q2⟩ | ⟨rfl, q2⟩
  · skip
    refine g_if_eq 32 dX12_count_11 (by decide) (fun _ => by exfalso; omega) (fun q3 => ?_)
    refine g_aload_n dX12_count_14 rfl ?_
    refine gR_X12_61 rfl dX12_count_15 sh_98 (b := 114) (m_98_22 hM) ?_
    refine g_iload_n dX12_count_18 rfl (fun _ => ?_)
    refine g_bipush dX12_count_19 (inR_c rfl) (by decide) ?_
    refine g_isubB dX12_count_21 (by omega) (by omega) ?_
    refine g_zaldB dX12_count_22 sh_114 (by omega) (by omega) (m_114 hM _) (fun v4 ev4 bv4 cv4 => ?_)
    refine g_if_eq 30 dX12_count_23 (by decide) (fun q5 => ?_) (fun q5 => ?_)
    · skip
      refine g_iconst dX12_count_30 (inR_c rfl) ?_
      exact g_ireturn dX12_count_31 retI (hPo _ ⟨(by omega), (by omega)⟩)
    · skip
      refine g_iconst dX12_count_26 (inR_c rfl) ?_
      refine g_goto 31 dX12_count_27 (by decide) ?_
      exact g_ireturn dX12_count_31 retI (hPo _ ⟨(by omega), (by omega)⟩)
  · skip
    refine g_if_eq 32 dX12_count_11 (by decide) (fun q6 => ?_) (fun _ => by exfalso; omega)
    refine g_iload_n dX12_count_32 rfl (fun _ => ?_)
    rcases (show x1 = 0 ∨ x1 = 1 ∨ x1 = 2 ∨ x1 = 3 ∨ x1 = 4 ∨ x1 = 5 ∨ x1 = 6 ∨ x1 = 7 ∨ x1 = 8 ∨ x1 = 9 ∨ (x1 < 0 ∨ 9 < x1) by omega) with q7 | q7 | q7 | q7 | q7 | q7 | q7 | q7 | q7 | q7 | q7
    · skip
      refine g_tableIn 88 0 dX12_count_33 (by omega) (by omega) rfl (by decide) ?_
      refine g_aload_n dX12_count_88 rfl ?_
      refine gI_X12_172 rfl dX12_count_89 sh_98 (m_98_2 hM) (fun v8 ev8 bv8 cv8 => ?_)
      exact g_ireturn dX12_count_92 retI (hPo _ ⟨(by omega), (by omega)⟩)
    · skip
      refine g_tableIn 93 1 dX12_count_33 (by omega) (by omega) rfl (by decide) ?_
      refine g_aload_n dX12_count_93 rfl ?_
      refine gI_X12_179 rfl dX12_count_94 sh_98 (m_98_3 hM) (fun v9 ev9 bv9 cv9 => ?_)
      exact g_ireturn dX12_count_97 retI (hPo _ ⟨(by omega), (by omega)⟩)
    · skip
      refine g_tableIn 98 2 dX12_count_33 (by omega) (by omega) rfl (by decide) ?_
      refine g_aload_n dX12_count_98 rfl ?_
      refine gI_X12_182 rfl dX12_count_99 sh_98 (m_98_4 hM) (fun v10 ev10 bv10 cv10 => ?_)
      exact g_ireturn dX12_count_102 retI (hPo _ ⟨(by omega), (by omega)⟩)
    · skip
      refine g_tableIn 103 3 dX12_count_33 (by omega) (by omega) rfl (by decide) ?_
      refine g_aload_n dX12_count_103 rfl ?_
      refine gI_X12_321 rfl dX12_count_104 sh_98 (m_98_23 hM) (fun v11 ev11 bv11 cv11 => ?_)
      exact g_ireturn dX12_count_107 retI (hPo _ ⟨(by omega), (by omega)⟩)
    · skip
      refine g_tableIn 108 4 dX12_count_33 (by omega) (by omega) rfl (by decide) ?_
      refine g_aload_n dX12_count_108 rfl ?_
      refine gI_X12_204 rfl dX12_count_109 sh_98 (m_98_1 hM) (fun v12 ev12 bv12 cv12 => ?_)
      exact g_ireturn dX12_count_112 retI (hPo _ ⟨(by omega), (by omega)⟩)
    · skip
      refine g_tableIn 113 5 dX12_count_33 (by omega) (by omega) rfl (by decide) ?_
      refine g_aload_n dX12_count_113 rfl ?_
      refine gI_X12_334 rfl dX12_count_114 sh_98 (m_98_5 hM) (fun v13 ev13 bv13 cv13 => ?_)
      exact g_ireturn dX12_count_117 retI (hPo _ ⟨(by omega), (by omega)⟩)
    · skip
      refine g_tableIn 118 6 dX12_count_33 (by omega) (by omega) rfl (by decide) ?_
      refine g_aload_n dX12_count_118 rfl ?_
      refine gI_X12_13 rfl dX12_count_119 sh_98 (m_98_6 hM) (fun v14 ev14 bv14 cv14 => ?_)
      exact g_ireturn dX12_count_122 retI (hPo _ ⟨(by omega), (by omega)⟩)
    · skip
      refine g_tableIn 123 7 dX12_count_33 (by omega) (by omega) rfl (by decide) ?_
      refine g_aload_n dX12_count_123 rfl ?_
      refine gI_X12_372 rfl dX12_count_124 sh_98 (m_98_7 hM) (fun v15 ev15 bv15 cv15 => ?_)
      exact g_ireturn dX12_count_127 retI (hPo _ ⟨(by omega), (by omega)⟩)
    · skip
      refine g_tableIn 128 8 dX12_count_33 (by omega) (by omega) rfl (by decide) ?_
      refine g_aload_n dX12_count_128 rfl ?_
      refine g_cVP (as := []) (c_X12_allBruises_98  h hM) dX12_count_129 mi_X12_allBruises in_X12_allBruises se_X12_allBruises ml_X12_425 rfl rfl rfl sh_98 rfl rfl (Nat.le_of_ble_eq_true rfl) (fun v16 q17 => ?_)
      obtain ⟨bv16, cv16⟩ := q17
      exact g_ireturn dX12_count_132 retI (hPo _ ⟨(by omega), (by omega)⟩)
    · skip
      refine g_tableIn 133 9 dX12_count_33 (by omega) (by omega) rfl (by decide) ?_
      refine g_aload_n dX12_count_133 rfl ?_
      refine g_cVP (as := []) (c_X12_allSlates_98  h hM) dX12_count_134 mi_X12_allSlates in_X12_allSlates se_X12_allSlates ml_X12_422 rfl rfl rfl sh_98 rfl rfl (Nat.le_of_ble_eq_true rfl) (fun v18 q19 => ?_)
      obtain ⟨bv18, cv18⟩ := q19
      exact g_ireturn dX12_count_137 retI (hPo _ ⟨(by omega), (by omega)⟩)
    · skip
      refine g_tableOut 138 dX12_count_33 (by omega) (by decide) ?_
      refine g_iconst dX12_count_138 (inR_c rfl) ?_
      exact g_ireturn dX12_count_139 retI (hPo _ ⟨(by omega), (by omega)⟩)
