set_option maxRecDepth 100000 in
set_option maxHeartbeats 4000000 in
theorem c_X12_putsBack_98_k0 (gi : Nat → Int) (h : MEM) (hM : MBm h) (f_S0 : S0n gi h) : CV yX12_putsBack cX12_putsBack 3 (none) 1 [pR 98, pI 0] h (fun h' => MBm h' ∧ Fr [(98, 3), (98, 4), (98, 5), (98, 6), (98, 7), (98, 8), (100, 0), (101, 0), (102, 0), (103, 0), (104, 0), (105, 0), (106, 0), (107, 0), (108, 0), (109, 0), (110, 0), (111, 0), (112, 0), (113, 0), (114, 0)] h h' ∧ ISn gi h' ∧ h' 98 2 = h 145 0 ∧ h' 98 3 = h 145 1 ∧ h' 98 4 = h 145 2 ∧ h' 98 5 = h 145 3) := by
  refine CV.of (L0 := [some (pR 98), some (pI 0), none]) rfl (Nat.le_of_ble_eq_true rfl) rfl (fun Po hPo hav => ?_)
  obtain ⟨v1, ev1⟩ : ∃ z, z = h 145 0 := ⟨_, rfl⟩
  have bv1 : 0 ≤ v1 ∧ v1 ≤ 10 := by rw [ev1]; exact (m_145_0 hM)
  obtain ⟨v2, ev2⟩ : ∃ z, z = h 145 1 := ⟨_, rfl⟩
  have bv2 : 0 ≤ v2 ∧ v2 ≤ 8 := by rw [ev2]; exact (m_145_1 hM)
  obtain ⟨v3, ev3⟩ : ∃ z, z = h 145 2 := ⟨_, rfl⟩
  have bv3 : 0 ≤ v3 ∧ v3 ≤ 8 := by rw [ev3]; exact (m_145_2 hM)
  obtain ⟨v4, ev4⟩ : ∃ z, z = h 145 3 := ⟨_, rfl⟩
  have bv4 : 0 ≤ v4 ∧ v4 ≤ 2000000000 := by rw [ev4]; exact (m_145_3 hM)
  refine g_iconst dX12_putsBack_0 (inR_c rfl) ?_
  have c2 : ∀ (n : Nat) (y5 : Int) (h6 : MEM), MBm h6 → Fr [(100, 0), (101, 0), (102, 0)] h h6 → 0 ≤ y5 → y5 ≤ 10 → 10 - y5 < (n : Int) → G yX12_putsBack cX12_putsBack 3 (none) none Po (1, 60, 0, 0) 2 [some (pR 98), some (pI 0), some (pI y5)] [] SH h6 0 0 := by
    intro n
    induction n with
    | zero =>
      intro y5 h6 hMh6 hFh6 by5 dy5 hn
      exfalso; omega
    | succ n ih2 =>
      intro y5 h6 hMh6 hFh6 by5 dy5 hn
      refine g_iload_n dX12_putsBack_2 rfl (fun _ => ?_)
      refine g_bipush dX12_putsBack_3 (inR_c rfl) (by decide) ?_
      refine g_icmp_ge 65 dX12_putsBack_5 (by decide) (fun q7 => ?_) (fun q7 => ?_)
      · skip
        refine g_iconst dX12_putsBack_65 (inR_c rfl) ?_
        have c67 : ∀ (n : Nat) (y8 : Int) (h9 : MEM), MBm h9 → Fr [(103, 0), (104, 0), (106, 0), (107, 0), (108, 0), (109, 0), (110, 0), (111, 0)] h6 h9 → 0 ≤ y8 → y8 ≤ 8 → 8 - y8 < (n : Int) → G yX12_putsBack cX12_putsBack 3 (none) none Po (1, 60, 0, 0) 67 [some (pR 98), some (pI 0), some (pI y8)] [] SH h9 0 0 := by
          intro n
          induction n with
          | zero =>
            intro y8 h9 hMh9 hFh9 by8 dy8 hn
            exfalso; omega
          | succ n ih67 =>
            intro y8 h9 hMh9 hFh9 by8 dy8 hn
            refine g_iload_n dX12_putsBack_67 rfl (fun _ => ?_)
            refine g_bipush dX12_putsBack_68 (inR_c rfl) (by decide) ?_
            refine g_icmp_ge 215 dX12_putsBack_70 (by decide) (fun q10 => ?_) (fun q10 => ?_)
            · skip
              refine g_iconst dX12_putsBack_215 (inR_c rfl) ?_
              have c217 : ∀ (n : Nat) (y11 : Int) (h12 : MEM), MBm h12 → Fr [(105, 0)] h9 h12 → 0 ≤ y11 → y11 ≤ 40 → 40 - y11 < (n : Int) → G yX12_putsBack cX12_putsBack 3 (none) none Po (1, 60, 0, 0) 217 [some (pR 98), some (pI 0), some (pI y11)] [] SH h12 0 0 := by
                intro n
                induction n with
                | zero =>
                  intro y11 h12 hMh12 hFh12 by11 dy11 hn
                  exfalso; omega
                | succ n ih217 =>
                  intro y11 h12 hMh12 hFh12 by11 dy11 hn
                  refine g_iload_n dX12_putsBack_217 rfl (fun _ => ?_)
                  refine g_bipush dX12_putsBack_218 (inR_c rfl) (by decide) ?_
                  refine g_icmp_ge 246 dX12_putsBack_220 (by decide) (fun q13 => ?_) (fun q13 => ?_)
                  · skip
                    refine g_iconst dX12_putsBack_246 (inR_c rfl) ?_
                    have c248 : ∀ (n : Nat) (y14 : Int) (h15 : MEM), MBm h15 → Fr [(112, 0), (113, 0)] h12 h15 → 0 ≤ y14 → y14 ≤ 64 → 64 - y14 < (n : Int) → G yX12_putsBack cX12_putsBack 3 (none) none Po (1, 60, 0, 0) 248 [some (pR 98), some (pI 0), some (pI y14)] [] SH h15 0 0 := by
                      intro n
                      induction n with
                      | zero =>
                        intro y14 h15 hMh15 hFh15 by14 dy14 hn
                        exfalso; omega
                      | succ n ih248 =>
                        intro y14 h15 hMh15 hFh15 by14 dy14 hn
                        refine g_iload_n dX12_putsBack_248 rfl (fun _ => ?_)
                        refine g_bipush dX12_putsBack_249 (inR_c rfl) (by decide) ?_
                        refine g_icmp_ge 294 dX12_putsBack_251 (by decide) (fun q16 => ?_) (fun q16 => ?_)
                        · skip
                          refine g_iconst dX12_putsBack_294 (inR_c rfl) ?_
                          have c296 : ∀ (n : Nat) (y17 : Int) (h18 : MEM), MBm h18 → Fr [(114, 0)] h15 h18 → 0 ≤ y17 → y17 ≤ 100 → PB gi y17 h18 → 100 - y17 < (n : Int) → G yX12_putsBack cX12_putsBack 3 (none) none Po (1, 60, 0, 0) 296 [some (pR 98), some (pI 0), some (pI y17)] [] SH h18 0 0 := by
                            intro n
                            induction n with
                            | zero =>
                              intro y17 h18 hMh18 hFh18 by17 dy17 e296_0 hn
                              exfalso; omega
                            | succ n ih296 =>
                              intro y17 h18 hMh18 hFh18 by17 dy17 e296_0 hn
                              refine g_iload_n dX12_putsBack_296 rfl (fun _ => ?_)
                              refine g_bipush dX12_putsBack_297 (inR_c rfl) (by decide) ?_
                              refine g_icmp_ge 325 dX12_putsBack_299 (by decide) (fun q19 => ?_) (fun q19 => ?_)
                              · skip
                                refine g_aload_n dX12_putsBack_325 rfl ?_
                                have s0f : ISn gi h18 := PB_e e296_0 (by omega)
                                refine g_aload_n dX12_putsBack_326 rfl ?_
                                refine gR_X12_154 rfl dX12_putsBack_327 sh_98 (b := 145) (m_98_70 hMh18) ?_
                                refine g_bipush dX12_putsBack_330 (inR_c rfl) (by decide) ?_
                                refine g_iload_n dX12_putsBack_332 rfl (fun _ => ?_)
                                refine g_imulB dX12_putsBack_333 (by omega) (by omega) ?_
                                refine g_ialdE dX12_putsBack_334 sh_145 (by omega) (by omega) ((hFh18 145 _ rfl).trans ((hFh15 145 _ rfl).trans ((hFh12 145 _ rfl).trans ((hFh9 145 _ rfl).trans ((hFh6 145 _ rfl).trans ev1.symm))))) ?_
                                refine pI_X12_172 rfl dX12_putsBack_335 sh_98 (fun h20 eh20 => ?_)
                                have hFh20 := Fr.st eh20
                                have hMh20 := u_98_2 hMh18 eh20 (by omega) (by omega)
                                refine g_aload_n dX12_putsBack_338 rfl ?_
                                refine g_aload_n dX12_putsBack_339 rfl ?_
                                refine gR_X12_154 rfl dX12_putsBack_340 sh_98 (b := 145) (m_98_70 hMh20) ?_
                                refine g_bipush dX12_putsBack_343 (inR_c rfl) (by decide) ?_
                                refine g_iload_n dX12_putsBack_345 rfl (fun _ => ?_)
                                refine g_imulB dX12_putsBack_346 (by omega) (by omega) ?_
                                refine g_iconst dX12_putsBack_347 (inR_c rfl) ?_
                                refine g_iaddB dX12_putsBack_348 (by omega) (by omega) ?_
                                refine g_ialdE dX12_putsBack_349 sh_145 (by omega) (by omega) ((hFh20 145 _ rfl).trans ((hFh18 145 _ rfl).trans ((hFh15 145 _ rfl).trans ((hFh12 145 _ rfl).trans ((hFh9 145 _ rfl).trans ((hFh6 145 _ rfl).trans ev2.symm)))))) ?_
                                refine pI_X12_179 rfl dX12_putsBack_350 sh_98 (fun h21 eh21 => ?_)
                                have hFh21 := Fr.st eh21
                                have hMh21 := u_98_3 hMh20 eh21 (by omega) (by omega)
                                refine g_aload_n dX12_putsBack_353 rfl ?_
                                refine g_aload_n dX12_putsBack_354 rfl ?_
                                refine gR_X12_154 rfl dX12_putsBack_355 sh_98 (b := 145) (m_98_70 hMh21) ?_
                                refine g_bipush dX12_putsBack_358 (inR_c rfl) (by decide) ?_
                                refine g_iload_n dX12_putsBack_360 rfl (fun _ => ?_)
                                refine g_imulB dX12_putsBack_361 (by omega) (by omega) ?_
                                refine g_iconst dX12_putsBack_362 (inR_c rfl) ?_
                                refine g_iaddB dX12_putsBack_363 (by omega) (by omega) ?_
                                refine g_ialdE dX12_putsBack_364 sh_145 (by omega) (by omega) ((hFh21 145 _ rfl).trans ((hFh20 145 _ rfl).trans ((hFh18 145 _ rfl).trans ((hFh15 145 _ rfl).trans ((hFh12 145 _ rfl).trans ((hFh9 145 _ rfl).trans ((hFh6 145 _ rfl).trans ev3.symm))))))) ?_
                                refine pI_X12_182 rfl dX12_putsBack_365 sh_98 (fun h22 eh22 => ?_)
                                have hFh22 := Fr.st eh22
                                have hMh22 := u_98_4 hMh21 eh22 (by omega) (by omega)
                                refine g_aload_n dX12_putsBack_368 rfl ?_
                                refine g_aload_n dX12_putsBack_369 rfl ?_
                                refine gR_X12_154 rfl dX12_putsBack_370 sh_98 (b := 145) (m_98_70 hMh22) ?_
                                refine g_bipush dX12_putsBack_373 (inR_c rfl) (by decide) ?_
                                refine g_iload_n dX12_putsBack_375 rfl (fun _ => ?_)
                                refine g_imulB dX12_putsBack_376 (by omega) (by omega) ?_
                                refine g_iconst dX12_putsBack_377 (inR_c rfl) ?_
                                refine g_iaddB dX12_putsBack_378 (by omega) (by omega) ?_
                                refine g_ialdE dX12_putsBack_379 sh_145 (by omega) (by omega) ((hFh22 145 _ rfl).trans ((hFh21 145 _ rfl).trans ((hFh20 145 _ rfl).trans ((hFh18 145 _ rfl).trans ((hFh15 145 _ rfl).trans ((hFh12 145 _ rfl).trans ((hFh9 145 _ rfl).trans ((hFh6 145 _ rfl).trans ev4.symm)))))))) ?_
                                refine pI_X12_334 rfl dX12_putsBack_380 sh_98 (fun h23 eh23 => ?_)
                                have hFh23 := Fr.st eh23
                                have hMh23 := u_98_5 hMh22 eh23 (by omega) (by omega)
                                refine g_aload_n dX12_putsBack_383 rfl ?_
                                refine g_aload_n dX12_putsBack_384 rfl ?_
                                refine gR_X12_154 rfl dX12_putsBack_385 sh_98 (b := 145) (m_98_70 hMh23) ?_
                                refine g_bipush dX12_putsBack_388 (inR_c rfl) (by decide) ?_
                                refine g_iload_n dX12_putsBack_390 rfl (fun _ => ?_)
                                refine g_imulB dX12_putsBack_391 (by omega) (by omega) ?_
                                refine g_iconst dX12_putsBack_392 (inR_c rfl) ?_
                                refine g_iaddB dX12_putsBack_393 (by omega) (by omega) ?_
                                refine g_ialdB dX12_putsBack_394 sh_145 (by omega) (by omega) (m_145_4 hMh23) (fun v24 ev24 bv24 cv24 => ?_)
                                refine pI_X12_13 rfl dX12_putsBack_395 sh_98 (fun h25 eh25 => ?_)
                                have hFh25 := Fr.st eh25
                                have hMh25 := u_98_6 hMh23 eh25 (by omega) (by omega)
                                refine g_aload_n dX12_putsBack_398 rfl ?_
                                refine g_aload_n dX12_putsBack_399 rfl ?_
                                refine gR_X12_154 rfl dX12_putsBack_400 sh_98 (b := 145) (m_98_70 hMh25) ?_
                                refine g_bipush dX12_putsBack_403 (inR_c rfl) (by decide) ?_
                                refine g_iload_n dX12_putsBack_405 rfl (fun _ => ?_)
                                refine g_imulB dX12_putsBack_406 (by omega) (by omega) ?_
                                refine g_iconst dX12_putsBack_407 (inR_c rfl) ?_
                                refine g_iaddB dX12_putsBack_408 (by omega) (by omega) ?_
                                refine g_ialdB dX12_putsBack_409 sh_145 (by omega) (by omega) (m_145_5 hMh25) (fun v26 ev26 bv26 cv26 => ?_)
                                refine pI_X12_372 rfl dX12_putsBack_410 sh_98 (fun h27 eh27 => ?_)
                                have hFh27 := Fr.st eh27
                                have hMh27 := u_98_7 hMh25 eh27 (by omega) (by omega)
                                have q28 : h27 98 2 = v1 := ((hFh27 98 2 rfl).trans ((hFh25 98 2 rfl).trans ((hFh23 98 2 rfl).trans ((hFh22 98 2 rfl).trans ((hFh21 98 2 rfl).trans (st_at eh20))))))
                                have q29 : h27 98 3 = v2 := ((hFh27 98 3 rfl).trans ((hFh25 98 3 rfl).trans ((hFh23 98 3 rfl).trans ((hFh22 98 3 rfl).trans (st_at eh21)))))
                                have q30 : h27 98 4 = v3 := ((hFh27 98 4 rfl).trans ((hFh25 98 4 rfl).trans ((hFh23 98 4 rfl).trans (st_at eh22))))
                                have q31 : h27 98 5 = v4 := ((hFh27 98 5 rfl).trans ((hFh25 98 5 rfl).trans (st_at eh23)))
                                exact g_return dX12_putsBack_413 rfl (hPo _ ⟨hMh27, (Fr.tr (Fr.tr (Fr.tr (Fr.tr (Fr.tr (Fr.tr (Fr.tr (Fr.tr (Fr.tr (Fr.tr (Fr.sub hFh6 rfl) hFh9 rfl) hFh12 rfl) hFh15 rfl) hFh18 rfl) hFh20 rfl) hFh21 rfl) hFh22 rfl) hFh23 rfl) hFh25 rfl) hFh27 rfl), (ISn.fr (T := [(98, 3), (98, 4), (98, 5), (98, 6), (98, 7), (98, 8)]) s0f (Fr.tr (Fr.tr (Fr.tr (Fr.tr (Fr.tr (Fr.sub hFh20 rfl) hFh21 rfl) hFh22 rfl) hFh23 rfl) hFh25 rfl) hFh27 rfl) rfl), (by omega), (by omega), (by omega), (by omega)⟩)
                              · skip
                                refine g_aload_n dX12_putsBack_302 rfl ?_
                                refine gR_X12_61 rfl dX12_putsBack_303 sh_98 (b := 114) (m_98_22 hMh18) ?_
                                refine g_iload_n dX12_putsBack_306 rfl (fun _ => ?_)
                                refine g_aload_n dX12_putsBack_307 rfl ?_
                                refine gR_X12_151 rfl dX12_putsBack_308 sh_98 (b := 144) (m_98_69 hMh18) ?_
                                refine g_bipush dX12_putsBack_311 (inR_c rfl) (by decide) ?_
                                refine g_iload_n dX12_putsBack_313 rfl (fun _ => ?_)
                                refine g_imulB dX12_putsBack_314 (by omega) (by omega) ?_
                                refine g_iload_n dX12_putsBack_315 rfl (fun _ => ?_)
                                refine g_iaddB dX12_putsBack_316 (by omega) (by omega) ?_
                                refine g_zaldB dX12_putsBack_317 sh_144 (by omega) (by omega) (m_144 hMh18 _) (fun v32 ev32 bv32 cv32 => ?_)
                                have sv1 := (S0n.fr (T := [(100, 0), (101, 0), (102, 0), (103, 0), (104, 0), (105, 0), (106, 0), (107, 0), (108, 0), (109, 0), (110, 0), (111, 0), (112, 0), (113, 0), (114, 0)]) f_S0 (Fr.tr (Fr.tr (Fr.tr (Fr.tr (Fr.sub hFh6 rfl) hFh9 rfl) hFh12 rfl) hFh15 rfl) hFh18 rfl) rfl)
                                refine g_zastB dX12_putsBack_318 sh_114 (by omega) (by omega) (by omega) (fun h33 eh33 => ?_)
                                have hFh33 := Fr.ar eh33
                                have hMh33 := u_114 hMh18 eh33 (by omega) (by omega)
                                have pb2 : PB gi (y17 + 1) h33 := PB_s0 e296_0 sv1 (by assumption) (by assumption) (by omega) (by omega)
                                refine g_iincB dX12_putsBack_319 rfl rfl (by omega) (by omega) ?_
                                refine g_goto 296 dX12_putsBack_322 (by decide) ?_
                                exact ih296 _ _ hMh33 (Fr.tr (Fr.sub hFh18 rfl) hFh33 rfl) (by omega) (by omega) (by first | exact PB_0 | exact pb2) (by omega)
                          refine g_istore_n dX12_putsBack_295 (by decide) rfl ?_
                          exact c296 101 _ _ hMh15 Fr.rf (by omega) (by omega) (by first | exact PB_0 | exact pb2) (by omega)
                        · skip
                          refine g_aload_n dX12_putsBack_254 rfl ?_
                          refine gR_X12_55 rfl dX12_putsBack_255 sh_98 (b := 112) (m_98_20 hMh15) ?_
                          refine g_iload_n dX12_putsBack_258 rfl (fun _ => ?_)
                          refine g_aload_n dX12_putsBack_259 rfl ?_
                          refine gR_X12_145 rfl dX12_putsBack_260 sh_98 (b := 142) (m_98_67 hMh15) ?_
                          refine g_bipush dX12_putsBack_263 (inR_c rfl) (by decide) ?_
                          refine g_iload_n dX12_putsBack_265 rfl (fun _ => ?_)
                          refine g_imulB dX12_putsBack_266 (by omega) (by omega) ?_
                          refine g_iload_n dX12_putsBack_267 rfl (fun _ => ?_)
                          refine g_iaddB dX12_putsBack_268 (by omega) (by omega) ?_
                          refine g_ialdB dX12_putsBack_269 sh_142 (by omega) (by omega) (m_142 hMh15 _) (fun v34 ev34 bv34 cv34 => ?_)
                          refine g_iastB dX12_putsBack_270 sh_112 (by omega) (by omega) (fun h35 eh35 => ?_)
                          have hFh35 := Fr.ar eh35
                          have hMh35 := u_112 hMh15 eh35 (by omega) (by omega)
                          refine g_aload_n dX12_putsBack_271 rfl ?_
                          refine gR_X12_58 rfl dX12_putsBack_272 sh_98 (b := 113) (m_98_21 hMh35) ?_
                          refine g_iload_n dX12_putsBack_275 rfl (fun _ => ?_)
                          refine g_aload_n dX12_putsBack_276 rfl ?_
                          refine gR_X12_148 rfl dX12_putsBack_277 sh_98 (b := 143) (m_98_68 hMh35) ?_
                          refine g_bipush dX12_putsBack_280 (inR_c rfl) (by decide) ?_
                          refine g_iload_n dX12_putsBack_282 rfl (fun _ => ?_)
                          refine g_imulB dX12_putsBack_283 (by omega) (by omega) ?_
                          refine g_iload_n dX12_putsBack_284 rfl (fun _ => ?_)
                          refine g_iaddB dX12_putsBack_285 (by omega) (by omega) ?_
                          refine g_ialdB dX12_putsBack_286 sh_143 (by omega) (by omega) (m_143 hMh35 _) (fun v36 ev36 bv36 cv36 => ?_)
                          refine g_iastB dX12_putsBack_287 sh_113 (by omega) (by omega) (fun h37 eh37 => ?_)
                          have hFh37 := Fr.ar eh37
                          have hMh37 := u_113 hMh35 eh37 (by omega) (by omega)
                          refine g_iincB dX12_putsBack_288 rfl rfl (by omega) (by omega) ?_
                          refine g_goto 248 dX12_putsBack_291 (by decide) ?_
                          exact ih248 _ _ hMh37 (Fr.tr (Fr.tr (Fr.sub hFh15 rfl) hFh35 rfl) hFh37 rfl) (by omega) (by omega) (by omega)
                    refine g_istore_n dX12_putsBack_247 (by decide) rfl ?_
                    exact c248 65 _ _ hMh12 Fr.rf (by omega) (by omega) (by omega)
                  · skip
                    refine g_aload_n dX12_putsBack_223 rfl ?_
                    refine gR_X12_33 rfl dX12_putsBack_224 sh_98 (b := 105) (m_98_13 hMh12) ?_
                    refine g_iload_n dX12_putsBack_227 rfl (fun _ => ?_)
                    refine g_aload_n dX12_putsBack_228 rfl ?_
                    refine gR_X12_124 rfl dX12_putsBack_229 sh_98 (b := 135) (m_98_60 hMh12) ?_
                    refine g_bipush dX12_putsBack_232 (inR_c rfl) (by decide) ?_
                    refine g_iload_n dX12_putsBack_234 rfl (fun _ => ?_)
                    refine g_imulB dX12_putsBack_235 (by omega) (by omega) ?_
                    refine g_iload_n dX12_putsBack_236 rfl (fun _ => ?_)
                    refine g_iaddB dX12_putsBack_237 (by omega) (by omega) ?_
                    refine g_ialdB dX12_putsBack_238 sh_135 (by omega) (by omega) (m_135 hMh12 _) (fun v38 ev38 bv38 cv38 => ?_)
                    refine g_iastB dX12_putsBack_239 sh_105 (by omega) (by omega) (fun h39 eh39 => ?_)
                    have hFh39 := Fr.ar eh39
                    have hMh39 := u_105 hMh12 eh39 (by omega) (by omega)
                    refine g_iincB dX12_putsBack_240 rfl rfl (by omega) (by omega) ?_
                    refine g_goto 217 dX12_putsBack_243 (by decide) ?_
                    exact ih217 _ _ hMh39 (Fr.tr (Fr.sub hFh12 rfl) hFh39 rfl) (by omega) (by omega) (by omega)
              refine g_istore_n dX12_putsBack_216 (by decide) rfl ?_
              exact c217 41 _ _ hMh9 Fr.rf (by omega) (by omega) (by omega)
            · skip
              refine g_aload_n dX12_putsBack_73 rfl ?_
              refine gR_X12_27 rfl dX12_putsBack_74 sh_98 (b := 103) (m_98_11 hMh9) ?_
              refine g_iload_n dX12_putsBack_77 rfl (fun _ => ?_)
              refine g_aload_n dX12_putsBack_78 rfl ?_
              refine gR_X12_118 rfl dX12_putsBack_79 sh_98 (b := 133) (m_98_58 hMh9) ?_
              refine g_bipush dX12_putsBack_82 (inR_c rfl) (by decide) ?_
              refine g_iload_n dX12_putsBack_84 rfl (fun _ => ?_)
              refine g_imulB dX12_putsBack_85 (by omega) (by omega) ?_
              refine g_iload_n dX12_putsBack_86 rfl (fun _ => ?_)
              refine g_iaddB dX12_putsBack_87 (by omega) (by omega) ?_
              refine g_ialdB dX12_putsBack_88 sh_133 (by omega) (by omega) (m_133 hMh9 _) (fun v40 ev40 bv40 cv40 => ?_)
              refine g_iastB dX12_putsBack_89 sh_103 (by omega) (by omega) (fun h41 eh41 => ?_)
              have hFh41 := Fr.ar eh41
              have hMh41 := u_103 hMh9 eh41 (by omega) (by omega)
              refine g_aload_n dX12_putsBack_90 rfl ?_
              refine gR_X12_30 rfl dX12_putsBack_91 sh_98 (b := 104) (m_98_12 hMh41) ?_
              refine g_iload_n dX12_putsBack_94 rfl (fun _ => ?_)
              refine g_aload_n dX12_putsBack_95 rfl ?_
              refine gR_X12_121 rfl dX12_putsBack_96 sh_98 (b := 134) (m_98_59 hMh41) ?_
              refine g_bipush dX12_putsBack_99 (inR_c rfl) (by decide) ?_
              refine g_iload_n dX12_putsBack_101 rfl (fun _ => ?_)
              refine g_imulB dX12_putsBack_102 (by omega) (by omega) ?_
              refine g_iload_n dX12_putsBack_103 rfl (fun _ => ?_)
              refine g_iaddB dX12_putsBack_104 (by omega) (by omega) ?_
              refine g_ialdB dX12_putsBack_105 sh_134 (by omega) (by omega) (m_134 hMh41 _) (fun v42 ev42 bv42 cv42 => ?_)
              refine g_iastB dX12_putsBack_106 sh_104 (by omega) (by omega) (fun h43 eh43 => ?_)
              have hFh43 := Fr.ar eh43
              have hMh43 := u_104 hMh41 eh43 (by omega) (by omega)
              refine g_aload_n dX12_putsBack_107 rfl ?_
              refine gR_X12_36 rfl dX12_putsBack_108 sh_98 (b := 106) (m_98_14 hMh43) ?_
              refine g_iload_n dX12_putsBack_111 rfl (fun _ => ?_)
              refine g_aload_n dX12_putsBack_112 rfl ?_
              refine gR_X12_127 rfl dX12_putsBack_113 sh_98 (b := 136) (m_98_61 hMh43) ?_
              refine g_bipush dX12_putsBack_116 (inR_c rfl) (by decide) ?_
              refine g_iload_n dX12_putsBack_118 rfl (fun _ => ?_)
              refine g_imulB dX12_putsBack_119 (by omega) (by omega) ?_
              refine g_iload_n dX12_putsBack_120 rfl (fun _ => ?_)
              refine g_iaddB dX12_putsBack_121 (by omega) (by omega) ?_
              refine g_zaldB dX12_putsBack_122 sh_136 (by omega) (by omega) (m_136 hMh43 _) (fun v44 ev44 bv44 cv44 => ?_)
              refine g_zastB dX12_putsBack_123 sh_106 (by omega) (by omega) (by omega) (fun h45 eh45 => ?_)
              have hFh45 := Fr.ar eh45
              have hMh45 := u_106 hMh43 eh45 (by omega) (by omega)
              refine g_aload_n dX12_putsBack_124 rfl ?_
              refine gR_X12_40 rfl dX12_putsBack_125 sh_98 (b := 107) (m_98_15 hMh45) ?_
              refine g_iload_n dX12_putsBack_128 rfl (fun _ => ?_)
              refine g_aload_n dX12_putsBack_129 rfl ?_
              refine gR_X12_130 rfl dX12_putsBack_130 sh_98 (b := 137) (m_98_62 hMh45) ?_
              refine g_bipush dX12_putsBack_133 (inR_c rfl) (by decide) ?_
              refine g_iload_n dX12_putsBack_135 rfl (fun _ => ?_)
              refine g_imulB dX12_putsBack_136 (by omega) (by omega) ?_
              refine g_iload_n dX12_putsBack_137 rfl (fun _ => ?_)
              refine g_iaddB dX12_putsBack_138 (by omega) (by omega) ?_
              refine g_ialdB dX12_putsBack_139 sh_137 (by omega) (by omega) (m_137 hMh45 _) (fun v46 ev46 bv46 cv46 => ?_)
              refine g_iastB dX12_putsBack_140 sh_107 (by omega) (by omega) (fun h47 eh47 => ?_)
              have hFh47 := Fr.ar eh47
              have hMh47 := u_107 hMh45 eh47 (by omega) (by omega)
              refine g_aload_n dX12_putsBack_141 rfl ?_
              refine gR_X12_43 rfl dX12_putsBack_142 sh_98 (b := 108) (m_98_16 hMh47) ?_
              refine g_iload_n dX12_putsBack_145 rfl (fun _ => ?_)
              refine g_aload_n dX12_putsBack_146 rfl ?_
              refine gR_X12_133 rfl dX12_putsBack_147 sh_98 (b := 138) (m_98_63 hMh47) ?_
              refine g_bipush dX12_putsBack_150 (inR_c rfl) (by decide) ?_
              refine g_iload_n dX12_putsBack_152 rfl (fun _ => ?_)
              refine g_imulB dX12_putsBack_153 (by omega) (by omega) ?_
              refine g_iload_n dX12_putsBack_154 rfl (fun _ => ?_)
              refine g_iaddB dX12_putsBack_155 (by omega) (by omega) ?_
              refine g_ialdB dX12_putsBack_156 sh_138 (by omega) (by omega) (m_138 hMh47 _) (fun v48 ev48 bv48 cv48 => ?_)
              refine g_iastB dX12_putsBack_157 sh_108 (by omega) (by omega) (fun h49 eh49 => ?_)
              have hFh49 := Fr.ar eh49
              have hMh49 := u_108 hMh47 eh49 (by omega) (by omega)
              refine g_aload_n dX12_putsBack_158 rfl ?_
              refine gR_X12_46 rfl dX12_putsBack_159 sh_98 (b := 109) (m_98_17 hMh49) ?_
              refine g_iload_n dX12_putsBack_162 rfl (fun _ => ?_)
              refine g_aload_n dX12_putsBack_163 rfl ?_
              refine gR_X12_136 rfl dX12_putsBack_164 sh_98 (b := 139) (m_98_64 hMh49) ?_
              refine g_bipush dX12_putsBack_167 (inR_c rfl) (by decide) ?_
              refine g_iload_n dX12_putsBack_169 rfl (fun _ => ?_)
              refine g_imulB dX12_putsBack_170 (by omega) (by omega) ?_
              refine g_iload_n dX12_putsBack_171 rfl (fun _ => ?_)
              refine g_iaddB dX12_putsBack_172 (by omega) (by omega) ?_
              refine g_ialdB dX12_putsBack_173 sh_139 (by omega) (by omega) (m_139 hMh49 _) (fun v50 ev50 bv50 cv50 => ?_)
              refine g_iastB dX12_putsBack_174 sh_109 (by omega) (by omega) (fun h51 eh51 => ?_)
              have hFh51 := Fr.ar eh51
              have hMh51 := u_109 hMh49 eh51 (by omega) (by omega)
              refine g_aload_n dX12_putsBack_175 rfl ?_
              refine gR_X12_49 rfl dX12_putsBack_176 sh_98 (b := 110) (m_98_18 hMh51) ?_
              refine g_iload_n dX12_putsBack_179 rfl (fun _ => ?_)
              refine g_aload_n dX12_putsBack_180 rfl ?_
              refine gR_X12_139 rfl dX12_putsBack_181 sh_98 (b := 140) (m_98_65 hMh51) ?_
              refine g_bipush dX12_putsBack_184 (inR_c rfl) (by decide) ?_
              refine g_iload_n dX12_putsBack_186 rfl (fun _ => ?_)
              refine g_imulB dX12_putsBack_187 (by omega) (by omega) ?_
              refine g_iload_n dX12_putsBack_188 rfl (fun _ => ?_)
              refine g_iaddB dX12_putsBack_189 (by omega) (by omega) ?_
              refine g_zaldB dX12_putsBack_190 sh_140 (by omega) (by omega) (m_140 hMh51 _) (fun v52 ev52 bv52 cv52 => ?_)
              refine g_zastB dX12_putsBack_191 sh_110 (by omega) (by omega) (by omega) (fun h53 eh53 => ?_)
              have hFh53 := Fr.ar eh53
              have hMh53 := u_110 hMh51 eh53 (by omega) (by omega)
              refine g_aload_n dX12_putsBack_192 rfl ?_
              refine gR_X12_52 rfl dX12_putsBack_193 sh_98 (b := 111) (m_98_19 hMh53) ?_
              refine g_iload_n dX12_putsBack_196 rfl (fun _ => ?_)
              refine g_aload_n dX12_putsBack_197 rfl ?_
              refine gR_X12_142 rfl dX12_putsBack_198 sh_98 (b := 141) (m_98_66 hMh53) ?_
              refine g_bipush dX12_putsBack_201 (inR_c rfl) (by decide) ?_
              refine g_iload_n dX12_putsBack_203 rfl (fun _ => ?_)
              refine g_imulB dX12_putsBack_204 (by omega) (by omega) ?_
              refine g_iload_n dX12_putsBack_205 rfl (fun _ => ?_)
              refine g_iaddB dX12_putsBack_206 (by omega) (by omega) ?_
              refine g_ialdB dX12_putsBack_207 sh_141 (by omega) (by omega) (m_141 hMh53 _) (fun v54 ev54 bv54 cv54 => ?_)
              refine g_iastB dX12_putsBack_208 sh_111 (by omega) (by omega) (fun h55 eh55 => ?_)
              have hFh55 := Fr.ar eh55
              have hMh55 := u_111 hMh53 eh55 (by omega) (by omega)
              refine g_iincB dX12_putsBack_209 rfl rfl (by omega) (by omega) ?_
              refine g_goto 67 dX12_putsBack_212 (by decide) ?_
              exact ih67 _ _ hMh55 (Fr.tr (Fr.tr (Fr.tr (Fr.tr (Fr.tr (Fr.tr (Fr.tr (Fr.tr (Fr.sub hFh9 rfl) hFh41 rfl) hFh43 rfl) hFh45 rfl) hFh47 rfl) hFh49 rfl) hFh51 rfl) hFh53 rfl) hFh55 rfl) (by omega) (by omega) (by omega)
        refine g_istore_n dX12_putsBack_66 (by decide) rfl ?_
        exact c67 9 _ _ hMh6 Fr.rf (by omega) (by omega) (by omega)
      · skip
        refine g_aload_n dX12_putsBack_8 rfl ?_
        refine gR_X12_17 rfl dX12_putsBack_9 sh_98 (b := 100) (m_98_8 hMh6) ?_
        refine g_iload_n dX12_putsBack_12 rfl (fun _ => ?_)
        refine g_aload_n dX12_putsBack_13 rfl ?_
        refine gR_X12_109 rfl dX12_putsBack_14 sh_98 (b := 130) (m_98_55 hMh6) ?_
        refine g_bipush dX12_putsBack_17 (inR_c rfl) (by decide) ?_
        refine g_iload_n dX12_putsBack_19 rfl (fun _ => ?_)
        refine g_imulB dX12_putsBack_20 (by omega) (by omega) ?_
        refine g_iload_n dX12_putsBack_21 rfl (fun _ => ?_)
        refine g_iaddB dX12_putsBack_22 (by omega) (by omega) ?_
        refine g_ialdB dX12_putsBack_23 sh_130 (by omega) (by omega) (m_130 hMh6 _) (fun v56 ev56 bv56 cv56 => ?_)
        refine g_iastB dX12_putsBack_24 sh_100 (by omega) (by omega) (fun h57 eh57 => ?_)
        have hFh57 := Fr.ar eh57
        have hMh57 := u_100 hMh6 eh57 (by omega) (by omega)
        refine g_aload_n dX12_putsBack_25 rfl ?_
        refine gR_X12_21 rfl dX12_putsBack_26 sh_98 (b := 101) (m_98_9 hMh57) ?_
        refine g_iload_n dX12_putsBack_29 rfl (fun _ => ?_)
        refine g_aload_n dX12_putsBack_30 rfl ?_
        refine gR_X12_112 rfl dX12_putsBack_31 sh_98 (b := 131) (m_98_56 hMh57) ?_
        refine g_bipush dX12_putsBack_34 (inR_c rfl) (by decide) ?_
        refine g_iload_n dX12_putsBack_36 rfl (fun _ => ?_)
        refine g_imulB dX12_putsBack_37 (by omega) (by omega) ?_
        refine g_iload_n dX12_putsBack_38 rfl (fun _ => ?_)
        refine g_iaddB dX12_putsBack_39 (by omega) (by omega) ?_
        refine g_ialdB dX12_putsBack_40 sh_131 (by omega) (by omega) (m_131 hMh57 _) (fun v58 ev58 bv58 cv58 => ?_)
        refine g_iastB dX12_putsBack_41 sh_101 (by omega) (by omega) (fun h59 eh59 => ?_)
        have hFh59 := Fr.ar eh59
        have hMh59 := u_101 hMh57 eh59 (by omega) (by omega)
        refine g_aload_n dX12_putsBack_42 rfl ?_
        refine gR_X12_24 rfl dX12_putsBack_43 sh_98 (b := 102) (m_98_10 hMh59) ?_
        refine g_iload_n dX12_putsBack_46 rfl (fun _ => ?_)
        refine g_aload_n dX12_putsBack_47 rfl ?_
        refine gR_X12_115 rfl dX12_putsBack_48 sh_98 (b := 132) (m_98_57 hMh59) ?_
        refine g_bipush dX12_putsBack_51 (inR_c rfl) (by decide) ?_
        refine g_iload_n dX12_putsBack_53 rfl (fun _ => ?_)
        refine g_imulB dX12_putsBack_54 (by omega) (by omega) ?_
        refine g_iload_n dX12_putsBack_55 rfl (fun _ => ?_)
        refine g_iaddB dX12_putsBack_56 (by omega) (by omega) ?_
        refine g_ialdB dX12_putsBack_57 sh_132 (by omega) (by omega) (m_132 hMh59 _) (fun v60 ev60 bv60 cv60 => ?_)
        refine g_iastB dX12_putsBack_58 sh_102 (by omega) (by omega) (fun h61 eh61 => ?_)
        have hFh61 := Fr.ar eh61
        have hMh61 := u_102 hMh59 eh61 (by omega) (by omega)
        refine g_iincB dX12_putsBack_59 rfl rfl (by omega) (by omega) ?_
        refine g_goto 2 dX12_putsBack_62 (by decide) ?_
        exact ih2 _ _ hMh61 (Fr.tr (Fr.tr (Fr.tr (Fr.sub hFh6 rfl) hFh57 rfl) hFh59 rfl) hFh61 rfl) (by omega) (by omega) (by omega)
  refine g_istore_n dX12_putsBack_1 (by decide) rfl ?_
  exact c2 11 _ _ hM Fr.rf (by omega) (by omega) (by omega)
set_option maxRecDepth 100000 in
set_option maxHeartbeats 4000000 in
theorem c_X12_allBruises_98 (h : MEM) (hM : MBm h) : CP yX12_allBruises cX12_allBruises 3 (some .int) 1 [pR 98] h (fun x => -2147483648 ≤ x ∧ x ≤ 2147483647) := by
  refine CP.of (L0 := [some (pR 98), none, none]) rfl (Nat.le_of_ble_eq_true rfl) rfl (fun Po hPo hav => ?_)
  refine g_iconst dX12_allBruises_0 (inR_c rfl) ?_
  refine g_istore_n dX12_allBruises_1 (by decide) rfl ?_
  refine g_iconst dX12_allBruises_2 (inR_c rfl) ?_
  have c4 : ∀ (n : Nat) (y1 y2 : Int) , -2147483648 ≤ y1 → y1 ≤ 2147483647 → 0 ≤ y2 → y2 ≤ 8 → 8 - y2 < (n : Int) → G yX12_allBruises cX12_allBruises 3 (some .int) none Po (1, 60, 0, 0) 4 [some (pR 98), some (pI y1), some (pI y2)] [] SH h 0 0 := by
    intro n
    induction n with
    | zero =>
      intro y1 y2 by1 dy1 by2 dy2 hn
      exfalso; omega
    | succ n ih4 =>
      intro y1 y2 by1 dy1 by2 dy2 hn
      refine g_iload_n dX12_allBruises_4 rfl (fun _ => ?_)
      refine g_aload_n dX12_allBruises_5 rfl ?_
      refine gI_X12_182 rfl dX12_allBruises_6 sh_98 (m_98_4 hM) (fun v3 ev3 bv3 cv3 => ?_)
      refine g_icmp_ge 27 dX12_allBruises_9 (by decide) (fun q4 => ?_) (fun q4 => ?_)
      · skip
        refine g_iload_n dX12_allBruises_27 rfl (fun _ => ?_)
        exact g_ireturn dX12_allBruises_28 retI (hPo _ ⟨(by omega), (by omega)⟩)
      · skip
        refine g_iload_n dX12_allBruises_12 rfl (fun _ => ?_)
        refine g_aload_n dX12_allBruises_13 rfl ?_
        refine gR_X12_52 rfl dX12_allBruises_14 sh_98 (b := 111) (m_98_19 hM) ?_
        refine g_iload_n dX12_allBruises_17 rfl (fun _ => ?_)
        refine g_ialdB dX12_allBruises_18 sh_111 (by omega) (by omega) (m_111 hM _) (fun v5 ev5 bv5 cv5 => ?_)
        refine g_iaddF dX12_allBruises_19 (fun v6 bv6 cv6 => ?_)
        refine g_istore_n dX12_allBruises_20 (by decide) rfl ?_
        refine g_iincB dX12_allBruises_21 rfl rfl (by omega) (by omega) ?_
        refine g_goto 4 dX12_allBruises_24 (by decide) ?_
        exact ih4 _ _ (by omega) (by omega) (by omega) (by omega) (by omega)
  refine g_istore_n dX12_allBruises_3 (by decide) rfl ?_
  exact c4 9 _ _ (by omega) (by omega) (by omega) (by omega) (by omega)
set_option maxRecDepth 100000 in
set_option maxHeartbeats 4000000 in
theorem c_X12_allSlates_98 (h : MEM) (hM : MBm h) : CP yX12_allSlates cX12_allSlates 3 (some .int) 1 [pR 98] h (fun x => -2147483648 ≤ x ∧ x ≤ 2147483647) := by
  refine CP.of (L0 := [some (pR 98), none, none]) rfl (Nat.le_of_ble_eq_true rfl) rfl (fun Po hPo hav => ?_)
  refine g_iconst dX12_allSlates_0 (inR_c rfl) ?_
  refine g_istore_n dX12_allSlates_1 (by decide) rfl ?_
  refine g_iconst dX12_allSlates_2 (inR_c rfl) ?_
  have c4 : ∀ (n : Nat) (y1 y2 : Int) , -2147483648 ≤ y1 → y1 ≤ 2147483647 → 0 ≤ y2 → y2 ≤ 10 → 10 - y2 < (n : Int) → G yX12_allSlates cX12_allSlates 3 (some .int) none Po (1, 60, 0, 0) 4 [some (pR 98), some (pI y1), some (pI y2)] [] SH h 0 0 := by
    intro n
    induction n with
    | zero =>
      intro y1 y2 by1 dy1 by2 dy2 hn
      exfalso; omega
    | succ n ih4 =>
      intro y1 y2 by1 dy1 by2 dy2 hn
      refine g_iload_n dX12_allSlates_4 rfl (fun _ => ?_)
      refine g_aload_n dX12_allSlates_5 rfl ?_
      refine gI_X12_172 rfl dX12_allSlates_6 sh_98 (m_98_2 hM) (fun v3 ev3 bv3 cv3 => ?_)
      refine g_icmp_ge 27 dX12_allSlates_9 (by decide) (fun q4 => ?_) (fun q4 => ?_)
      · skip
        refine g_iload_n dX12_allSlates_27 rfl (fun _ => ?_)
        exact g_ireturn dX12_allSlates_28 retI (hPo _ ⟨(by omega), (by omega)⟩)
      · skip
        refine g_iload_n dX12_allSlates_12 rfl (fun _ => ?_)
        refine g_aload_n dX12_allSlates_13 rfl ?_
        refine gR_X12_21 rfl dX12_allSlates_14 sh_98 (b := 101) (m_98_9 hM) ?_
        refine g_iload_n dX12_allSlates_17 rfl (fun _ => ?_)
        refine g_ialdB dX12_allSlates_18 sh_101 (by omega) (by omega) (m_101 hM _) (fun v5 ev5 bv5 cv5 => ?_)
        refine g_iaddF dX12_allSlates_19 (fun v6 bv6 cv6 => ?_)
        refine g_istore_n dX12_allSlates_20 (by decide) rfl ?_
        refine g_iincB dX12_allSlates_21 rfl rfl (by omega) (by omega) ?_
        refine g_goto 4 dX12_allSlates_24 (by decide) ?_
        exact ih4 _ _ (by omega) (by omega) (by omega) (by omega) (by omega)
  refine g_istore_n dX12_allSlates_3 (by decide) rfl ?_
  exact c4 11 _ _ (by omega) (by omega) (by omega) (by omega) (by omega)
set_option maxRecDepth 100000 in
set_option maxHeartbeats 4000000 in
theorem c_X12_tried_98 (x1 x2 : Int) (gi gs : Nat → Int) (h : MEM) (hM : MBm h) (bx1 : -2147483648 ≤ x1) (dx1 : x1 ≤ 2147483647) (bx2 : -2147483648 ≤ x2) (dx2 : x2 ≤ 2147483647) (p0_0 : 0 ≤ h 98 5) (p0_1 : h 98 5 ≤ 999600) (f_WFL : WFL h) (f_IS : ISn gi h) (f_S1 : S1n gs h) : CI yX12_tried cX12_tried 4 (some .int) 9 [pR 98, pI x1, pI x2] h (fun x h' => MBm h' ∧ Fr [(98, 3), (98, 4), (98, 5), (98, 6), (98, 7), (98, 8), (98, 47), (98, 48), (98, 49), (98, 52), (100, 0), (101, 0), (102, 0), (103, 0), (104, 0), (105, 0), (106, 0), (107, 0), (108, 0), (109, 0), (110, 0), (111, 0), (112, 0), (113, 0), (114, 0), (128, 0), (129, 0), (130, 0), (131, 0), (132, 0), (133, 0), (134, 0), (135, 0), (136, 0), (137, 0), (138, 0), (139, 0), (140, 0), (141, 0), (142, 0), (143, 0), (144, 0), (145, 1), (145, 2), (145, 3), (145, 4), (145, 5), (145, 6)] h h' ∧ -2147483648 ≤ x ∧ x ≤ 2147483647 ∧ ISn gi h' ∧ S1n gs h' ∧ h' 98 2 = h 98 2 ∧ h' 98 3 = h 98 3 ∧ h' 98 4 = h 98 4 ∧ h' 98 5 = h 98 5) := by
  refine CI.of (L0 := [some (pR 98), some (pI x1), some (pI x2), none]) rfl (Nat.le_of_ble_eq_true rfl) rfl (fun Po hPo hav => ?_)
  obtain ⟨v1, ev1⟩ : ∃ z, z = h 98 2 := ⟨_, rfl⟩
  have bv1 : 0 ≤ v1 ∧ v1 ≤ 10 := by rw [ev1]; exact (m_98_2 hM)
  obtain ⟨v2, ev2⟩ : ∃ z, z = h 98 3 := ⟨_, rfl⟩
  have bv2 : 0 ≤ v2 ∧ v2 ≤ 8 := by rw [ev2]; exact (m_98_3 hM)
  obtain ⟨v3, ev3⟩ : ∃ z, z = h 98 4 := ⟨_, rfl⟩
  have bv3 : 0 ≤ v3 ∧ v3 ≤ 8 := by rw [ev3]; exact (m_98_4 hM)
  obtain ⟨v4, ev4⟩ : ∃ z, z = h 98 5 := ⟨_, rfl⟩
  have bv4 : 0 ≤ v4 ∧ v4 ≤ 2000000000 := by rw [ev4]; exact (m_98_5 hM)
  obtain ⟨w98_5, ew98_5⟩ : ∃ z, z = h 98 5 := ⟨_, rfl⟩
  refine g_iload_n dX12_tried_0 rfl (fun _ => ?_)
  refine g_cSP (av := [_]) (c_X12_areHours _ h hM (by omega) (by omega)) dX12_tried_1 mi_X12_areHours st_X12_areHours ml_X12_398 rfl rfl rfl rfl (Nat.le_of_ble_eq_true rfl) (fun v5 q6 => ?_)
  rcases q6 with ⟨rfl, q6⟩ | ⟨rfl, q6⟩
  · skip
    refine g_if_eq 41 dX12_tried_4 (by decide) (fun _ => by exfalso; omega) (fun q7 => ?_)
    refine g_iload_n dX12_tried_7 rfl (fun _ => ?_)
    refine g_i2l dX12_tried_8 ?_
    refine g_lconst (v := 0) dX12_tried_9 rfl ?_
    refine g_ldc2 (v := 3) dX12_tried_10 kl_X12_417 (by decide) ?_
    refine g_cSP (av := [_, _, _]) (c_X12_lies _ _ _ h hM (by omega) (by omega) (by omega) (by omega) (by omega) (by omega)) dX12_tried_13 mi_X12_lies st_X12_lies ml_X12_175 rfl rfl rfl rfl (Nat.le_of_ble_eq_true rfl) (fun v8 q9 => ?_)
    rcases q9 with ⟨rfl, q9⟩ | ⟨rfl, q9⟩
    · skip
      refine g_if_ne 43 dX12_tried_16 (by decide) (fun q10 => ?_) (fun _ => by exfalso; omega)
      refine g_aload_n dX12_tried_43 rfl ?_
      refine g_iconst dX12_tried_44 (inR_c rfl) ?_
      have q11 : h 98 2 = v1 := ev1.symm
      have q12 : h 98 3 = v2 := ev2.symm
      have q13 : h 98 4 = v3 := ev3.symm
      have q14 : h 98 5 = w98_5 := ew98_5.symm
      refine g_cVV (as := [_]) (c_X12_setsAside_98_k0 _ _ h hM f_IS f_S1) dX12_tried_45 mi_X12_setsAside in_X12_setsAside se_X12_setsAside ml_X12_419 rfl rfl rfl sh_98 rfl rfl (Nat.le_of_ble_eq_true rfl) (fun h15 q16 => ?_)
      obtain ⟨hMh15, hFh15, z17, z18, z19, z20, z21, z22⟩ := q16
      have kz19 : h15 145 0 = v1 := by omega
      have kz20 : h15 145 1 = v2 := by omega
      have kz21 : h15 145 2 = v3 := by omega
      have kz22 : h15 145 3 = w98_5 := by omega
      refine g_aload_n dX12_tried_48 rfl ?_
      refine g_iconst dX12_tried_49 (inR_c rfl) ?_
      refine pI_X12_366 rfl dX12_tried_50 sh_98 (fun h23 eh23 => ?_)
      have hFh23 := Fr.st eh23
      have hMh23 := u_98_51 hMh15 eh23 (by omega) (by omega)
      refine g_aload_n dX12_tried_53 rfl ?_
      refine g_iload_n dX12_tried_54 rfl (fun _ => ?_)
      have q24 : h23 98 5 = w98_5 := ((hFh23 98 5 rfl).trans ((hFh15 98 5 rfl).trans ew98_5.symm))
      have q25 : h23 98 5 = w98_5 := ((hFh23 98 5 rfl).trans ((hFh15 98 5 rfl).trans ew98_5.symm))
      refine g_cVV (as := [_]) (c_X12_goesOn_98 _ h23 hMh23 (by omega) (by omega) (by omega) (by omega) (WFL.fr (T := [(98, 52), (130, 0), (131, 0), (132, 0), (133, 0), (134, 0), (135, 0), (136, 0), (137, 0), (138, 0), (139, 0), (140, 0), (141, 0), (142, 0), (143, 0), (144, 0), (145, 1), (145, 2), (145, 3), (145, 4), (145, 5), (145, 6)]) f_WFL (Fr.tr (Fr.sub hFh15 rfl) hFh23 rfl) rfl)) dX12_tried_55 mi_X12_goesOn in_X12_goesOn se_X12_goesOn ml_X12_401 rfl rfl rfl sh_98 rfl rfl (Nat.le_of_ble_eq_true rfl) (fun h26 q27 => ?_)
      obtain ⟨hMh26, hFh26, z28⟩ := q27
      have kz28 : h26 98 5 = (w98_5 + x1) := by omega
      refine g_iload_n dX12_tried_58 rfl (fun _ => ?_)
      refine g_if_ne 69 dX12_tried_59 (by decide) (fun q29 => ?_) (fun q29 => ?_)
      · skip
        refine g_iload_n dX12_tried_69 rfl (fun _ => ?_)
        refine g_iconst dX12_tried_70 (inR_c rfl) ?_
        refine g_icmp_ne 81 dX12_tried_71 (by decide) (fun q30 => ?_) (fun q30 => ?_)
        · skip
          refine g_iload_n dX12_tried_81 rfl (fun _ => ?_)
          refine g_iconst dX12_tried_82 (inR_c rfl) ?_
          refine g_icmp_ne 93 dX12_tried_83 (by decide) (fun q31 => ?_) (fun q31 => ?_)
          · skip
            refine g_iload_n dX12_tried_93 rfl (fun _ => ?_)
            refine g_iconst dX12_tried_94 (inR_c rfl) ?_
            refine g_icmp_ne 105 dX12_tried_95 (by decide) (fun _ => by exfalso; omega) (fun q32 => ?_)
            refine g_aload_n dX12_tried_98 rfl ?_
            refine gI_X12_372 rfl dX12_tried_99 sh_98 (m_98_7 hMh26) (fun v33 ev33 bv33 cv33 => ?_)
            refine g_goto 132 dX12_tried_102 (by decide) ?_
            refine g_istore_n dX12_tried_132 (by decide) rfl ?_
            refine g_aload_n dX12_tried_133 rfl ?_
            refine g_iconst dX12_tried_134 (inR_c rfl) ?_
            have q34 : h26 145 0 = v1 := ((hFh26 145 _ rfl).trans ((hFh23 145 _ rfl).trans kz19))
            have q35 : h26 145 1 = v2 := ((hFh26 145 _ rfl).trans ((hFh23 145 _ rfl).trans kz20))
            have q36 : h26 145 2 = v3 := ((hFh26 145 _ rfl).trans ((hFh23 145 _ rfl).trans kz21))
            have q37 : h26 145 3 = w98_5 := ((hFh26 145 _ rfl).trans ((hFh23 145 _ rfl).trans kz22))
            refine g_cVV (as := [_]) (c_X12_putsBack_98_k0 _ h26 hMh26 (S0n.fr (T := [(98, 6), (98, 7), (98, 8), (98, 47), (98, 48), (98, 49), (98, 52), (101, 0), (105, 0), (107, 0), (111, 0), (112, 0), (113, 0), (128, 0), (129, 0)]) z17 (Fr.tr (Fr.sub hFh23 rfl) hFh26 rfl) rfl)) dX12_tried_135 mi_X12_putsBack in_X12_putsBack se_X12_putsBack ml_X12_428 rfl rfl rfl sh_98 rfl rfl (Nat.le_of_ble_eq_true rfl) (fun h38 q39 => ?_)
            obtain ⟨hMh38, hFh38, z40, z41, z42, z43, z44⟩ := q39
            have kz41 : h38 98 2 = v1 := by omega
            have kz42 : h38 98 3 = v2 := by omega
            have kz43 : h38 98 4 = v3 := by omega
            have kz44 : h38 98 5 = w98_5 := by omega
            refine g_iload_n dX12_tried_138 rfl (fun _ => ?_)
            have q45 : h38 98 2 = v1 := kz41
            have q46 : h38 98 3 = v2 := kz42
            have q47 : h38 98 4 = v3 := kz43
            have q48 : h38 98 5 = w98_5 := kz44
            exact g_ireturn dX12_tried_139 retI (hPo _ _ ⟨hMh38, (Fr.tr (Fr.tr (Fr.tr (Fr.sub hFh15 rfl) hFh23 rfl) hFh26 rfl) hFh38 rfl), (by omega), (by omega), z40, (S1n.fr (T := [(98, 3), (98, 4), (98, 5), (98, 6), (98, 7), (98, 8), (98, 47), (98, 48), (98, 49), (98, 52), (100, 0), (101, 0), (102, 0), (103, 0), (104, 0), (105, 0), (106, 0), (107, 0), (108, 0), (109, 0), (110, 0), (111, 0), (112, 0), (113, 0), (114, 0), (128, 0), (129, 0)]) z18 (Fr.tr (Fr.tr (Fr.sub hFh23 rfl) hFh26 rfl) hFh38 rfl) rfl), (by omega), (by omega), (by omega), (by omega)⟩)
          · skip
            refine g_aload_n dX12_tried_86 rfl ?_
            refine g_cVP (as := []) (c_X12_allBruises_98  h26 hMh26) dX12_tried_87 mi_X12_allBruises in_X12_allBruises se_X12_allBruises ml_X12_425 rfl rfl rfl sh_98 rfl rfl (Nat.le_of_ble_eq_true rfl) (fun v49 q50 => ?_)
            obtain ⟨bv49, cv49⟩ := q50
            refine g_goto 132 dX12_tried_90 (by decide) ?_
            refine g_istore_n dX12_tried_132 (by decide) rfl ?_
            refine g_aload_n dX12_tried_133 rfl ?_
            refine g_iconst dX12_tried_134 (inR_c rfl) ?_
            have q51 : h26 145 0 = v1 := ((hFh26 145 _ rfl).trans ((hFh23 145 _ rfl).trans kz19))
            have q52 : h26 145 1 = v2 := ((hFh26 145 _ rfl).trans ((hFh23 145 _ rfl).trans kz20))
            have q53 : h26 145 2 = v3 := ((hFh26 145 _ rfl).trans ((hFh23 145 _ rfl).trans kz21))
            have q54 : h26 145 3 = w98_5 := ((hFh26 145 _ rfl).trans ((hFh23 145 _ rfl).trans kz22))
            refine g_cVV (as := [_]) (c_X12_putsBack_98_k0 _ h26 hMh26 (S0n.fr (T := [(98, 6), (98, 7), (98, 8), (98, 47), (98, 48), (98, 49), (98, 52), (101, 0), (105, 0), (107, 0), (111, 0), (112, 0), (113, 0), (128, 0), (129, 0)]) z17 (Fr.tr (Fr.sub hFh23 rfl) hFh26 rfl) rfl)) dX12_tried_135 mi_X12_putsBack in_X12_putsBack se_X12_putsBack ml_X12_428 rfl rfl rfl sh_98 rfl rfl (Nat.le_of_ble_eq_true rfl) (fun h55 q56 => ?_)
            obtain ⟨hMh55, hFh55, z57, z58, z59, z60, z61⟩ := q56
            have kz58 : h55 98 2 = v1 := by omega
            have kz59 : h55 98 3 = v2 := by omega
            have kz60 : h55 98 4 = v3 := by omega
            have kz61 : h55 98 5 = w98_5 := by omega
            refine g_iload_n dX12_tried_138 rfl (fun _ => ?_)
            have q62 : h55 98 2 = v1 := kz58
            have q63 : h55 98 3 = v2 := kz59
            have q64 : h55 98 4 = v3 := kz60
            have q65 : h55 98 5 = w98_5 := kz61
            exact g_ireturn dX12_tried_139 retI (hPo _ _ ⟨hMh55, (Fr.tr (Fr.tr (Fr.tr (Fr.sub hFh15 rfl) hFh23 rfl) hFh26 rfl) hFh55 rfl), (by omega), (by omega), z57, (S1n.fr (T := [(98, 3), (98, 4), (98, 5), (98, 6), (98, 7), (98, 8), (98, 47), (98, 48), (98, 49), (98, 52), (100, 0), (101, 0), (102, 0), (103, 0), (104, 0), (105, 0), (106, 0), (107, 0), (108, 0), (109, 0), (110, 0), (111, 0), (112, 0), (113, 0), (114, 0), (128, 0), (129, 0)]) z18 (Fr.tr (Fr.tr (Fr.sub hFh23 rfl) hFh26 rfl) hFh55 rfl) rfl), (by omega), (by omega), (by omega), (by omega)⟩)
        · skip
          refine g_aload_n dX12_tried_74 rfl ?_
          refine gI_X12_366 rfl dX12_tried_75 sh_98 (m_98_51 hMh26) (fun v66 ev66 bv66 cv66 => ?_)
          refine g_goto 132 dX12_tried_78 (by decide) ?_
          refine g_istore_n dX12_tried_132 (by decide) rfl ?_
          refine g_aload_n dX12_tried_133 rfl ?_
          refine g_iconst dX12_tried_134 (inR_c rfl) ?_
          have q67 : h26 145 0 = v1 := ((hFh26 145 _ rfl).trans ((hFh23 145 _ rfl).trans kz19))
          have q68 : h26 145 1 = v2 := ((hFh26 145 _ rfl).trans ((hFh23 145 _ rfl).trans kz20))
          have q69 : h26 145 2 = v3 := ((hFh26 145 _ rfl).trans ((hFh23 145 _ rfl).trans kz21))
          have q70 : h26 145 3 = w98_5 := ((hFh26 145 _ rfl).trans ((hFh23 145 _ rfl).trans kz22))
          refine g_cVV (as := [_]) (c_X12_putsBack_98_k0 _ h26 hMh26 (S0n.fr (T := [(98, 6), (98, 7), (98, 8), (98, 47), (98, 48), (98, 49), (98, 52), (101, 0), (105, 0), (107, 0), (111, 0), (112, 0), (113, 0), (128, 0), (129, 0)]) z17 (Fr.tr (Fr.sub hFh23 rfl) hFh26 rfl) rfl)) dX12_tried_135 mi_X12_putsBack in_X12_putsBack se_X12_putsBack ml_X12_428 rfl rfl rfl sh_98 rfl rfl (Nat.le_of_ble_eq_true rfl) (fun h71 q72 => ?_)
          obtain ⟨hMh71, hFh71, z73, z74, z75, z76, z77⟩ := q72
          have kz74 : h71 98 2 = v1 := by omega
          have kz75 : h71 98 3 = v2 := by omega
          have kz76 : h71 98 4 = v3 := by omega
          have kz77 : h71 98 5 = w98_5 := by omega
          refine g_iload_n dX12_tried_138 rfl (fun _ => ?_)
          have q78 : h71 98 2 = v1 := kz74
          have q79 : h71 98 3 = v2 := kz75
          have q80 : h71 98 4 = v3 := kz76
          have q81 : h71 98 5 = w98_5 := kz77
          exact g_ireturn dX12_tried_139 retI (hPo _ _ ⟨hMh71, (Fr.tr (Fr.tr (Fr.tr (Fr.sub hFh15 rfl) hFh23 rfl) hFh26 rfl) hFh71 rfl), (by omega), (by omega), z73, (S1n.fr (T := [(98, 3), (98, 4), (98, 5), (98, 6), (98, 7), (98, 8), (98, 47), (98, 48), (98, 49), (98, 52), (100, 0), (101, 0), (102, 0), (103, 0), (104, 0), (105, 0), (106, 0), (107, 0), (108, 0), (109, 0), (110, 0), (111, 0), (112, 0), (113, 0), (114, 0), (128, 0), (129, 0)]) z18 (Fr.tr (Fr.tr (Fr.sub hFh23 rfl) hFh26 rfl) hFh71 rfl) rfl), (by omega), (by omega), (by omega), (by omega)⟩)
      · skip
        refine g_aload_n dX12_tried_62 rfl ?_
        refine g_cVP (as := []) (c_X12_allSlates_98  h26 hMh26) dX12_tried_63 mi_X12_allSlates in_X12_allSlates se_X12_allSlates ml_X12_422 rfl rfl rfl sh_98 rfl rfl (Nat.le_of_ble_eq_true rfl) (fun v82 q83 => ?_)
        obtain ⟨bv82, cv82⟩ := q83
        refine g_goto 132 dX12_tried_66 (by decide) ?_
        refine g_istore_n dX12_tried_132 (by decide) rfl ?_
        refine g_aload_n dX12_tried_133 rfl ?_
        refine g_iconst dX12_tried_134 (inR_c rfl) ?_
        have q84 : h26 145 0 = v1 := ((hFh26 145 _ rfl).trans ((hFh23 145 _ rfl).trans kz19))
        have q85 : h26 145 1 = v2 := ((hFh26 145 _ rfl).trans ((hFh23 145 _ rfl).trans kz20))
        have q86 : h26 145 2 = v3 := ((hFh26 145 _ rfl).trans ((hFh23 145 _ rfl).trans kz21))
        have q87 : h26 145 3 = w98_5 := ((hFh26 145 _ rfl).trans ((hFh23 145 _ rfl).trans kz22))
        refine g_cVV (as := [_]) (c_X12_putsBack_98_k0 _ h26 hMh26 (S0n.fr (T := [(98, 6), (98, 7), (98, 8), (98, 47), (98, 48), (98, 49), (98, 52), (101, 0), (105, 0), (107, 0), (111, 0), (112, 0), (113, 0), (128, 0), (129, 0)]) z17 (Fr.tr (Fr.sub hFh23 rfl) hFh26 rfl) rfl)) dX12_tried_135 mi_X12_putsBack in_X12_putsBack se_X12_putsBack ml_X12_428 rfl rfl rfl sh_98 rfl rfl (Nat.le_of_ble_eq_true rfl) (fun h88 q89 => ?_)
        obtain ⟨hMh88, hFh88, z90, z91, z92, z93, z94⟩ := q89
        have kz91 : h88 98 2 = v1 := by omega
        have kz92 : h88 98 3 = v2 := by omega
        have kz93 : h88 98 4 = v3 := by omega
        have kz94 : h88 98 5 = w98_5 := by omega
        refine g_iload_n dX12_tried_138 rfl (fun _ => ?_)
        have q95 : h88 98 2 = v1 := kz91
        have q96 : h88 98 3 = v2 := kz92
        have q97 : h88 98 4 = v3 := kz93
        have q98 : h88 98 5 = w98_5 := kz94
        exact g_ireturn dX12_tried_139 retI (hPo _ _ ⟨hMh88, (Fr.tr (Fr.tr (Fr.tr (Fr.sub hFh15 rfl) hFh23 rfl) hFh26 rfl) hFh88 rfl), (by omega), (by omega), z90, (S1n.fr (T := [(98, 3), (98, 4), (98, 5), (98, 6), (98, 7), (98, 8), (98, 47), (98, 48), (98, 49), (98, 52), (100, 0), (101, 0), (102, 0), (103, 0), (104, 0), (105, 0), (106, 0), (107, 0), (108, 0), (109, 0), (110, 0), (111, 0), (112, 0), (113, 0), (114, 0), (128, 0), (129, 0)]) z18 (Fr.tr (Fr.tr (Fr.sub hFh23 rfl) hFh26 rfl) hFh88 rfl) rfl), (by omega), (by omega), (by omega), (by omega)⟩)
    · skip
      refine g_if_ne 43 dX12_tried_16 (by decide) (fun _ => by exfalso; omega) (fun q99 => ?_)
      refine g_aload_n dX12_tried_19 rfl ?_
      refine g_iload_n dX12_tried_20 rfl (fun _ => ?_)
      refine g_bipush dX12_tried_21 (inR_c rfl) (by decide) ?_
      rcases (show (x2 - 10) < -2147483648 ∨ (-2147483648 ≤ (x2 - 10) ∧ (x2 - 10) ≤ 2147483647) by omega) with q100 | q100
      · skip
        refine g_isubV (v := ((x2 - 10) + 4294967296)) dX12_tried_23 (by unfold w32; omega) ?_
        refine g_cVP (as := [_]) (c_X12_isRoof_98 _ h hM (by omega) (by omega)) dX12_tried_24 mi_X12_isRoof in_X12_isRoof se_X12_isRoof ml_X12_198 rfl rfl rfl sh_98 rfl rfl (Nat.le_of_ble_eq_true rfl) (fun v101 q102 => ?_)
        have q103 : h 98 2 = v1 := ev1.symm
        rcases q102 with ⟨rfl, q102⟩ | ⟨rfl, q102⟩
        · skip
          exfalso; omega
        · skip
          refine g_if_ne 43 dX12_tried_27 (by decide) (fun _ => by exfalso; omega) (fun q104 => ?_)
          refine g_aload_n dX12_tried_30 rfl ?_
          refine g_iload_n dX12_tried_31 rfl (fun _ => ?_)
          refine g_bipush dX12_tried_32 (inR_c rfl) (by decide) ?_
          rcases (show (x2 - 20) < -2147483648 ∨ (-2147483648 ≤ (x2 - 20) ∧ (x2 - 20) ≤ 2147483647) by omega) with q105 | q105
          · skip
            refine g_isubV (v := ((x2 - 20) + 4294967296)) dX12_tried_34 (by unfold w32; omega) ?_
            refine g_cVP (as := [_]) (c_X12_isMaster_98 _ h hM (by omega) (by omega)) dX12_tried_35 mi_X12_isMaster in_X12_isMaster se_X12_isMaster ml_X12_201 rfl rfl rfl sh_98 rfl rfl (Nat.le_of_ble_eq_true rfl) (fun v106 q107 => ?_)
            have q108 : h 98 4 = v3 := ev3.symm
            rcases q107 with ⟨rfl, q107⟩ | ⟨rfl, q107⟩
            · skip
              exfalso; omega
            · skip
              refine g_if_ne 43 dX12_tried_38 (by decide) (fun _ => by exfalso; omega) (fun q109 => ?_)
              refine g_iconst dX12_tried_41 (inR_c rfl) ?_
              have q110 : h 98 2 = v1 := ev1.symm
              have q111 : h 98 3 = v2 := ev2.symm
              have q112 : h 98 4 = v3 := ev3.symm
              have q113 : h 98 5 = w98_5 := ew98_5.symm
              exact g_ireturn dX12_tried_42 retI (hPo _ _ ⟨hM, Fr.rf, (by omega), (by omega), f_IS, f_S1, (by omega), (by omega), (by omega), (by omega)⟩)
          · skip
            refine g_isubB dX12_tried_34 (by omega) (by omega) ?_
            exfalso; omega
      · skip
        refine g_isubB dX12_tried_23 (by omega) (by omega) ?_
        refine g_cVP (as := [_]) (c_X12_isRoof_98 _ h hM (by omega) (by omega)) dX12_tried_24 mi_X12_isRoof in_X12_isRoof se_X12_isRoof ml_X12_198 rfl rfl rfl sh_98 rfl rfl (Nat.le_of_ble_eq_true rfl) (fun v114 q115 => ?_)
        have q116 : h 98 2 = v1 := ev1.symm
        rcases q115 with ⟨rfl, q115⟩ | ⟨rfl, q115⟩
        · skip
          refine g_if_ne 43 dX12_tried_27 (by decide) (fun q117 => ?_) (fun _ => by exfalso; omega)
          refine g_aload_n dX12_tried_43 rfl ?_
          refine g_iconst dX12_tried_44 (inR_c rfl) ?_
          have q118 : h 98 2 = v1 := ev1.symm
          have q119 : h 98 3 = v2 := ev2.symm
          have q120 : h 98 4 = v3 := ev3.symm
          have q121 : h 98 5 = w98_5 := ew98_5.symm
          refine g_cVV (as := [_]) (c_X12_setsAside_98_k0 _ _ h hM f_IS f_S1) dX12_tried_45 mi_X12_setsAside in_X12_setsAside se_X12_setsAside ml_X12_419 rfl rfl rfl sh_98 rfl rfl (Nat.le_of_ble_eq_true rfl) (fun h122 q123 => ?_)
          obtain ⟨hMh122, hFh122, z124, z125, z126, z127, z128, z129⟩ := q123
          have kz126 : h122 145 0 = v1 := by omega
          have kz127 : h122 145 1 = v2 := by omega
          have kz128 : h122 145 2 = v3 := by omega
          have kz129 : h122 145 3 = w98_5 := by omega
          refine g_aload_n dX12_tried_48 rfl ?_
          refine g_iconst dX12_tried_49 (inR_c rfl) ?_
          refine pI_X12_366 rfl dX12_tried_50 sh_98 (fun h130 eh130 => ?_)
          have hFh130 := Fr.st eh130
          have hMh130 := u_98_51 hMh122 eh130 (by omega) (by omega)
          refine g_aload_n dX12_tried_53 rfl ?_
          refine g_iload_n dX12_tried_54 rfl (fun _ => ?_)
          have q131 : h130 98 5 = w98_5 := ((hFh130 98 5 rfl).trans ((hFh122 98 5 rfl).trans ew98_5.symm))
          have q132 : h130 98 5 = w98_5 := ((hFh130 98 5 rfl).trans ((hFh122 98 5 rfl).trans ew98_5.symm))
          refine g_cVV (as := [_]) (c_X12_goesOn_98 _ h130 hMh130 (by omega) (by omega) (by omega) (by omega) (WFL.fr (T := [(98, 52), (130, 0), (131, 0), (132, 0), (133, 0), (134, 0), (135, 0), (136, 0), (137, 0), (138, 0), (139, 0), (140, 0), (141, 0), (142, 0), (143, 0), (144, 0), (145, 1), (145, 2), (145, 3), (145, 4), (145, 5), (145, 6)]) f_WFL (Fr.tr (Fr.sub hFh122 rfl) hFh130 rfl) rfl)) dX12_tried_55 mi_X12_goesOn in_X12_goesOn se_X12_goesOn ml_X12_401 rfl rfl rfl sh_98 rfl rfl (Nat.le_of_ble_eq_true rfl) (fun h133 q134 => ?_)
          obtain ⟨hMh133, hFh133, z135⟩ := q134
          have kz135 : h133 98 5 = (w98_5 + x1) := by omega
          refine g_iload_n dX12_tried_58 rfl (fun _ => ?_)
          refine g_if_ne 69 dX12_tried_59 (by decide) (fun q136 => ?_) (fun _ => by exfalso; omega)
          refine g_iload_n dX12_tried_69 rfl (fun _ => ?_)
          refine g_iconst dX12_tried_70 (inR_c rfl) ?_
          refine g_icmp_ne 81 dX12_tried_71 (by decide) (fun q137 => ?_) (fun _ => by exfalso; omega)
          refine g_iload_n dX12_tried_81 rfl (fun _ => ?_)
          refine g_iconst dX12_tried_82 (inR_c rfl) ?_
          refine g_icmp_ne 93 dX12_tried_83 (by decide) (fun q138 => ?_) (fun _ => by exfalso; omega)
          refine g_iload_n dX12_tried_93 rfl (fun _ => ?_)
          refine g_iconst dX12_tried_94 (inR_c rfl) ?_
          refine g_icmp_ne 105 dX12_tried_95 (by decide) (fun q139 => ?_) (fun _ => by exfalso; omega)
          refine g_iload_n dX12_tried_105 rfl (fun _ => ?_)
          refine g_bipush dX12_tried_106 (inR_c rfl) (by decide) ?_
          refine g_icmp_ge 123 dX12_tried_108 (by decide) (fun _ => by exfalso; omega) (fun q140 => ?_)
          refine g_aload_n dX12_tried_111 rfl ?_
          refine gR_X12_21 rfl dX12_tried_112 sh_98 (b := 101) (m_98_9 hMh133) ?_
          refine g_iload_n dX12_tried_115 rfl (fun _ => ?_)
          refine g_bipush dX12_tried_116 (inR_c rfl) (by decide) ?_
          refine g_isubB dX12_tried_118 (by omega) (by omega) ?_
          refine g_ialdB dX12_tried_119 sh_101 (by omega) (by omega) (m_101 hMh133 _) (fun v141 ev141 bv141 cv141 => ?_)
          refine g_goto 132 dX12_tried_120 (by decide) ?_
          refine g_istore_n dX12_tried_132 (by decide) rfl ?_
          refine g_aload_n dX12_tried_133 rfl ?_
          refine g_iconst dX12_tried_134 (inR_c rfl) ?_
          have q142 : h133 145 0 = v1 := ((hFh133 145 _ rfl).trans ((hFh130 145 _ rfl).trans kz126))
          have q143 : h133 145 1 = v2 := ((hFh133 145 _ rfl).trans ((hFh130 145 _ rfl).trans kz127))
          have q144 : h133 145 2 = v3 := ((hFh133 145 _ rfl).trans ((hFh130 145 _ rfl).trans kz128))
          have q145 : h133 145 3 = w98_5 := ((hFh133 145 _ rfl).trans ((hFh130 145 _ rfl).trans kz129))
          refine g_cVV (as := [_]) (c_X12_putsBack_98_k0 _ h133 hMh133 (S0n.fr (T := [(98, 6), (98, 7), (98, 8), (98, 47), (98, 48), (98, 49), (98, 52), (101, 0), (105, 0), (107, 0), (111, 0), (112, 0), (113, 0), (128, 0), (129, 0)]) z124 (Fr.tr (Fr.sub hFh130 rfl) hFh133 rfl) rfl)) dX12_tried_135 mi_X12_putsBack in_X12_putsBack se_X12_putsBack ml_X12_428 rfl rfl rfl sh_98 rfl rfl (Nat.le_of_ble_eq_true rfl) (fun h146 q147 => ?_)
          obtain ⟨hMh146, hFh146, z148, z149, z150, z151, z152⟩ := q147
          have kz149 : h146 98 2 = v1 := by omega
          have kz150 : h146 98 3 = v2 := by omega
          have kz151 : h146 98 4 = v3 := by omega
          have kz152 : h146 98 5 = w98_5 := by omega
          refine g_iload_n dX12_tried_138 rfl (fun _ => ?_)
          have q153 : h146 98 2 = v1 := kz149
          have q154 : h146 98 3 = v2 := kz150
          have q155 : h146 98 4 = v3 := kz151
          have q156 : h146 98 5 = w98_5 := kz152
          exact g_ireturn dX12_tried_139 retI (hPo _ _ ⟨hMh146, (Fr.tr (Fr.tr (Fr.tr (Fr.sub hFh122 rfl) hFh130 rfl) hFh133 rfl) hFh146 rfl), (by omega), (by omega), z148, (S1n.fr (T := [(98, 3), (98, 4), (98, 5), (98, 6), (98, 7), (98, 8), (98, 47), (98, 48), (98, 49), (98, 52), (100, 0), (101, 0), (102, 0), (103, 0), (104, 0), (105, 0), (106, 0), (107, 0), (108, 0), (109, 0), (110, 0), (111, 0), (112, 0), (113, 0), (114, 0), (128, 0), (129, 0)]) z125 (Fr.tr (Fr.tr (Fr.sub hFh130 rfl) hFh133 rfl) hFh146 rfl) rfl), (by omega), (by omega), (by omega), (by omega)⟩)
        · skip
          refine g_if_ne 43 dX12_tried_27 (by decide) (fun _ => by exfalso; omega) (fun q157 => ?_)
          refine g_aload_n dX12_tried_30 rfl ?_
          refine g_iload_n dX12_tried_31 rfl (fun _ => ?_)
          refine g_bipush dX12_tried_32 (inR_c rfl) (by decide) ?_
          rcases (show (x2 - 20) < -2147483648 ∨ (-2147483648 ≤ (x2 - 20) ∧ (x2 - 20) ≤ 2147483647) by omega) with q158 | q158
          · skip
            refine g_isubV (v := ((x2 - 20) + 4294967296)) dX12_tried_34 (by unfold w32; omega) ?_
            refine g_cVP (as := [_]) (c_X12_isMaster_98 _ h hM (by omega) (by omega)) dX12_tried_35 mi_X12_isMaster in_X12_isMaster se_X12_isMaster ml_X12_201 rfl rfl rfl sh_98 rfl rfl (Nat.le_of_ble_eq_true rfl) (fun v159 q160 => ?_)
            have q161 : h 98 4 = v3 := ev3.symm
            rcases q160 with ⟨rfl, q160⟩ | ⟨rfl, q160⟩
            · skip
              exfalso; omega
            · skip
              refine g_if_ne 43 dX12_tried_38 (by decide) (fun _ => by exfalso; omega) (fun q162 => ?_)
              refine g_iconst dX12_tried_41 (inR_c rfl) ?_
              have q163 : h 98 2 = v1 := ev1.symm
              have q164 : h 98 3 = v2 := ev2.symm
              have q165 : h 98 4 = v3 := ev3.symm
              have q166 : h 98 5 = w98_5 := ew98_5.symm
              exact g_ireturn dX12_tried_42 retI (hPo _ _ ⟨hM, Fr.rf, (by omega), (by omega), f_IS, f_S1, (by omega), (by omega), (by omega), (by omega)⟩)
          · skip
            refine g_isubB dX12_tried_34 (by omega) (by omega) ?_
            refine g_cVP (as := [_]) (c_X12_isMaster_98 _ h hM (by omega) (by omega)) dX12_tried_35 mi_X12_isMaster in_X12_isMaster se_X12_isMaster ml_X12_201 rfl rfl rfl sh_98 rfl rfl (Nat.le_of_ble_eq_true rfl) (fun v167 q168 => ?_)
            have q169 : h 98 4 = v3 := ev3.symm
            rcases q168 with ⟨rfl, q168⟩ | ⟨rfl, q168⟩
            · skip
              refine g_if_ne 43 dX12_tried_38 (by decide) (fun q170 => ?_) (fun _ => by exfalso; omega)
              refine g_aload_n dX12_tried_43 rfl ?_
              refine g_iconst dX12_tried_44 (inR_c rfl) ?_
              have q171 : h 98 2 = v1 := ev1.symm
              have q172 : h 98 3 = v2 := ev2.symm
              have q173 : h 98 4 = v3 := ev3.symm
              have q174 : h 98 5 = w98_5 := ew98_5.symm
              refine g_cVV (as := [_]) (c_X12_setsAside_98_k0 _ _ h hM f_IS f_S1) dX12_tried_45 mi_X12_setsAside in_X12_setsAside se_X12_setsAside ml_X12_419 rfl rfl rfl sh_98 rfl rfl (Nat.le_of_ble_eq_true rfl) (fun h175 q176 => ?_)
              obtain ⟨hMh175, hFh175, z177, z178, z179, z180, z181, z182⟩ := q176
              have kz179 : h175 145 0 = v1 := by omega
              have kz180 : h175 145 1 = v2 := by omega
              have kz181 : h175 145 2 = v3 := by omega
              have kz182 : h175 145 3 = w98_5 := by omega
              refine g_aload_n dX12_tried_48 rfl ?_
              refine g_iconst dX12_tried_49 (inR_c rfl) ?_
              refine pI_X12_366 rfl dX12_tried_50 sh_98 (fun h183 eh183 => ?_)
              have hFh183 := Fr.st eh183
              have hMh183 := u_98_51 hMh175 eh183 (by omega) (by omega)
              refine g_aload_n dX12_tried_53 rfl ?_
              refine g_iload_n dX12_tried_54 rfl (fun _ => ?_)
              have q184 : h183 98 5 = w98_5 := ((hFh183 98 5 rfl).trans ((hFh175 98 5 rfl).trans ew98_5.symm))
              have q185 : h183 98 5 = w98_5 := ((hFh183 98 5 rfl).trans ((hFh175 98 5 rfl).trans ew98_5.symm))
              refine g_cVV (as := [_]) (c_X12_goesOn_98 _ h183 hMh183 (by omega) (by omega) (by omega) (by omega) (WFL.fr (T := [(98, 52), (130, 0), (131, 0), (132, 0), (133, 0), (134, 0), (135, 0), (136, 0), (137, 0), (138, 0), (139, 0), (140, 0), (141, 0), (142, 0), (143, 0), (144, 0), (145, 1), (145, 2), (145, 3), (145, 4), (145, 5), (145, 6)]) f_WFL (Fr.tr (Fr.sub hFh175 rfl) hFh183 rfl) rfl)) dX12_tried_55 mi_X12_goesOn in_X12_goesOn se_X12_goesOn ml_X12_401 rfl rfl rfl sh_98 rfl rfl (Nat.le_of_ble_eq_true rfl) (fun h186 q187 => ?_)
              obtain ⟨hMh186, hFh186, z188⟩ := q187
              have kz188 : h186 98 5 = (w98_5 + x1) := by omega
              refine g_iload_n dX12_tried_58 rfl (fun _ => ?_)
              refine g_if_ne 69 dX12_tried_59 (by decide) (fun q189 => ?_) (fun _ => by exfalso; omega)
              refine g_iload_n dX12_tried_69 rfl (fun _ => ?_)
              refine g_iconst dX12_tried_70 (inR_c rfl) ?_
              refine g_icmp_ne 81 dX12_tried_71 (by decide) (fun q190 => ?_) (fun _ => by exfalso; omega)
              refine g_iload_n dX12_tried_81 rfl (fun _ => ?_)
              refine g_iconst dX12_tried_82 (inR_c rfl) ?_
              refine g_icmp_ne 93 dX12_tried_83 (by decide) (fun q191 => ?_) (fun _ => by exfalso; omega)
              refine g_iload_n dX12_tried_93 rfl (fun _ => ?_)
              refine g_iconst dX12_tried_94 (inR_c rfl) ?_
              refine g_icmp_ne 105 dX12_tried_95 (by decide) (fun q192 => ?_) (fun _ => by exfalso; omega)
              refine g_iload_n dX12_tried_105 rfl (fun _ => ?_)
              refine g_bipush dX12_tried_106 (inR_c rfl) (by decide) ?_
              refine g_icmp_ge 123 dX12_tried_108 (by decide) (fun q193 => ?_) (fun _ => by exfalso; omega)
              refine g_aload_n dX12_tried_123 rfl ?_
              refine gR_X12_52 rfl dX12_tried_124 sh_98 (b := 111) (m_98_19 hMh186) ?_
              refine g_iload_n dX12_tried_127 rfl (fun _ => ?_)
              refine g_bipush dX12_tried_128 (inR_c rfl) (by decide) ?_
              refine g_isubB dX12_tried_130 (by omega) (by omega) ?_
              refine g_ialdB dX12_tried_131 sh_111 (by omega) (by omega) (m_111 hMh186 _) (fun v194 ev194 bv194 cv194 => ?_)
              refine g_istore_n dX12_tried_132 (by decide) rfl ?_
              refine g_aload_n dX12_tried_133 rfl ?_
              refine g_iconst dX12_tried_134 (inR_c rfl) ?_
              have q195 : h186 145 0 = v1 := ((hFh186 145 _ rfl).trans ((hFh183 145 _ rfl).trans kz179))
              have q196 : h186 145 1 = v2 := ((hFh186 145 _ rfl).trans ((hFh183 145 _ rfl).trans kz180))
              have q197 : h186 145 2 = v3 := ((hFh186 145 _ rfl).trans ((hFh183 145 _ rfl).trans kz181))
              have q198 : h186 145 3 = w98_5 := ((hFh186 145 _ rfl).trans ((hFh183 145 _ rfl).trans kz182))
              refine g_cVV (as := [_]) (c_X12_putsBack_98_k0 _ h186 hMh186 (S0n.fr (T := [(98, 6), (98, 7), (98, 8), (98, 47), (98, 48), (98, 49), (98, 52), (101, 0), (105, 0), (107, 0), (111, 0), (112, 0), (113, 0), (128, 0), (129, 0)]) z177 (Fr.tr (Fr.sub hFh183 rfl) hFh186 rfl) rfl)) dX12_tried_135 mi_X12_putsBack in_X12_putsBack se_X12_putsBack ml_X12_428 rfl rfl rfl sh_98 rfl rfl (Nat.le_of_ble_eq_true rfl) (fun h199 q200 => ?_)
              obtain ⟨hMh199, hFh199, z201, z202, z203, z204, z205⟩ := q200
              have kz202 : h199 98 2 = v1 := by omega
              have kz203 : h199 98 3 = v2 := by omega
              have kz204 : h199 98 4 = v3 := by omega
              have kz205 : h199 98 5 = w98_5 := by omega
              refine g_iload_n dX12_tried_138 rfl (fun _ => ?_)
              have q206 : h199 98 2 = v1 := kz202
              have q207 : h199 98 3 = v2 := kz203
              have q208 : h199 98 4 = v3 := kz204
              have q209 : h199 98 5 = w98_5 := kz205
              exact g_ireturn dX12_tried_139 retI (hPo _ _ ⟨hMh199, (Fr.tr (Fr.tr (Fr.tr (Fr.sub hFh175 rfl) hFh183 rfl) hFh186 rfl) hFh199 rfl), (by omega), (by omega), z201, (S1n.fr (T := [(98, 3), (98, 4), (98, 5), (98, 6), (98, 7), (98, 8), (98, 47), (98, 48), (98, 49), (98, 52), (100, 0), (101, 0), (102, 0), (103, 0), (104, 0), (105, 0), (106, 0), (107, 0), (108, 0), (109, 0), (110, 0), (111, 0), (112, 0), (113, 0), (114, 0), (128, 0), (129, 0)]) z178 (Fr.tr (Fr.tr (Fr.sub hFh183 rfl) hFh186 rfl) hFh199 rfl) rfl), (by omega), (by omega), (by omega), (by omega)⟩)
            · skip
              refine g_if_ne 43 dX12_tried_38 (by decide) (fun _ => by exfalso; omega) (fun q210 => ?_)
              refine g_iconst dX12_tried_41 (inR_c rfl) ?_
              have q211 : h 98 2 = v1 := ev1.symm
              have q212 : h 98 3 = v2 := ev2.symm
              have q213 : h 98 4 = v3 := ev3.symm
              have q214 : h 98 5 = w98_5 := ew98_5.symm
              exact g_ireturn dX12_tried_42 retI (hPo _ _ ⟨hM, Fr.rf, (by omega), (by omega), f_IS, f_S1, (by omega), (by omega), (by omega), (by omega)⟩)
  · skip
    refine g_if_eq 41 dX12_tried_4 (by decide) (fun q215 => ?_) (fun _ => by exfalso; omega)
    refine g_iconst dX12_tried_41 (inR_c rfl) ?_
    have q216 : h 98 2 = v1 := ev1.symm
    have q217 : h 98 3 = v2 := ev2.symm
    have q218 : h 98 4 = v3 := ev3.symm
    have q219 : h 98 5 = w98_5 := ew98_5.symm
    exact g_ireturn dX12_tried_42 retI (hPo _ _ ⟨hM, Fr.rf, (by omega), (by omega), f_IS, f_S1, (by omega), (by omega), (by omega), (by omega)⟩)
set_option maxRecDepth 100000 in
set_option maxHeartbeats 4000000 in
theorem c_X12_sizeOf (x1 : Int) (h : MEM) (hM : MBm h) (bx1 : 0 ≤ x1) (dx1 : x1 ≤ 255) : CP yX12_sizeOf cX12_sizeOf 3 (some .int) 1 [pI x1] h (fun x => -2147483648 ≤ x ∧ x ≤ 2147483647) := by
  refine CP.of (L0 := [some (pI x1), none, none]) rfl (Nat.le_of_ble_eq_true rfl) rfl (fun Po hPo hav => ?_)
  refine g_iconst dX12_sizeOf_0 (inR_c rfl) ?_
  refine g_istore_n dX12_sizeOf_1 (by decide) rfl ?_
  refine g_iload_n dX12_sizeOf_2 rfl (fun _ => ?_)
  have c4 : ∀ (n : Nat) (y1 y2 : Int) , -2147483648 ≤ y1 → y1 ≤ 2147483647 → 0 ≤ y2 → y2 ≤ 255 → y2 < (n : Int) → G yX12_sizeOf cX12_sizeOf 3 (some .int) none Po (1, 60, 0, 0) 4 [none, some (pI y1), some (pI y2)] [] SH h 0 0 := by
    intro n
    induction n with
    | zero =>
      intro y1 y2 by1 dy1 by2 dy2 hn
      exfalso; omega
    | succ n ih4 =>
      intro y1 y2 by1 dy1 by2 dy2 hn
      refine g_iload_n dX12_sizeOf_4 rfl (fun _ => ?_)
      refine g_if_eq 20 dX12_sizeOf_5 (by decide) (fun q3 => ?_) (fun q3 => ?_)
      · skip
        refine g_iload_n dX12_sizeOf_20 rfl (fun _ => ?_)
        exact g_ireturn dX12_sizeOf_21 retI (hPo _ ⟨(by omega), (by omega)⟩)
      · skip
        refine g_iincF dX12_sizeOf_8 rfl rfl (fun v4 bv4 cv4 => ?_)
        refine g_iload_n dX12_sizeOf_11 rfl (fun _ => ?_)
        refine g_iload_n dX12_sizeOf_12 rfl (fun _ => ?_)
        refine g_iconst dX12_sizeOf_13 (inR_c rfl) ?_
        refine g_isubB dX12_sizeOf_14 (by omega) (by omega) ?_
        refine g_iandX (lo := 0) (hi := (y2 - 1)) dX12_sizeOf_15 (iand_r (by omega) (by omega)) (fun v5 ev5 bv5 cv5 => ?_)
        refine g_istore_n dX12_sizeOf_16 (by decide) rfl ?_
        refine g_goto 4 dX12_sizeOf_17 (by decide) ?_
        exact ih4 _ _ (by omega) (by omega) (by omega) (by omega) (by omega)
  refine g_istore_n dX12_sizeOf_3 (by decide) rfl ?_
  refine g_drop 0 ?_
  exact c4 257 _ _ (by omega) (by omega) (by omega) (by omega) (by omega)
set_option maxRecDepth 100000 in
set_option maxHeartbeats 4000000 in
theorem c_X12_powerOf_98 (x1 : Int) (h : MEM) (hM : MBm h) (bx1 : -8 ≤ x1) (dx1 : x1 ≤ 8) (p0_0 : 1 ≤ h 98 2) (p0_1 : h 98 2 ≤ 10) : CP yX12_powerOf cX12_powerOf 4 (some .int) 1 [pR 98, pI x1] h (fun x => 1 ≤ x ∧ x ≤ 100000000) := by
  refine CP.of (L0 := [some (pR 98), some (pI x1), none, none]) rfl (Nat.le_of_ble_eq_true rfl) rfl (fun Po hPo hav => ?_)
  obtain ⟨w98_2, ew98_2⟩ : ∃ z, z = h 98 2 := ⟨_, rfl⟩
  refine g_iconst dX12_powerOf_0 (inR_c rfl) ?_
  refine g_istore_n dX12_powerOf_1 (by decide) rfl ?_
  refine g_iconst dX12_powerOf_2 (inR_c rfl) ?_
  have c4 : ∀ (n : Nat) (y1 y2 : Int) , 1 ≤ y1 → y1 ≤ 100000000 → 0 ≤ y2 → y2 ≤ 8 → y2 ≤ 8 → (-1) * y1 ≤ -1 → PW y1 y2 → 8 - y2 < (n : Int) → G yX12_powerOf cX12_powerOf 4 (some .int) none Po (1, 60, 0, 0) 4 [some (pR 98), some (pI x1), some (pI y1), some (pI y2)] [] SH h 0 0 := by
    intro n
    induction n with
    | zero =>
      intro y1 y2 by1 dy1 by2 dy2 li4_0 li4_1 e4_0 hn
      exfalso; omega
    | succ n ih4 =>
      intro y1 y2 by1 dy1 by2 dy2 li4_0 li4_1 e4_0 hn
      refine g_iload_n dX12_powerOf_4 rfl (fun _ => ?_)
      refine g_iload_n dX12_powerOf_5 rfl (fun _ => ?_)
      refine g_icmp_ge 22 dX12_powerOf_6 (by decide) (fun q3 => ?_) (fun q3 => ?_)
      · skip
        refine g_iload_n dX12_powerOf_22 rfl (fun _ => ?_)
        exact g_ireturn dX12_powerOf_23 retI (hPo _ ⟨(by omega), (by omega)⟩)
      · skip
        refine g_iload_n dX12_powerOf_9 rfl (fun _ => ?_)
        have al4 : 1 ≤ y1 ∧ y1 ≤ 10000000 := ⟨by omega, PW_b e4_0 (by omega) (by omega)⟩
        refine g_aload_n dX12_powerOf_10 rfl ?_
        refine gE_X12_172 rfl dX12_powerOf_11 sh_98 ew98_2.symm ?_
        refine g_imulQ dX12_powerOf_14 (A := 1) (B := 10000000) (A2 := 1) (B2 := 10) (by omega) (by omega) (by omega) (by omega) (by decide) (by decide) (by decide) (fun v5 mv5 bv5 cv5 => ?_)
        refine g_istore_n dX12_powerOf_15 (by decide) rfl ?_
        refine g_iincB dX12_powerOf_16 rfl rfl (by omega) (by omega) ?_
        refine g_goto 4 dX12_powerOf_19 (by decide) ?_
        exact ih4 _ _ (by omega) (by omega) (by omega) (by omega) (by omega) (by omega) (by first | exact PW_0 | exact PW_s e4_0 (by omega) (by omega) (by omega) (by omega) (by assumption)) (by omega)
  refine g_istore_n dX12_powerOf_3 (by decide) rfl ?_
  exact c4 9 _ _ (by omega) (by omega) (by omega) (by omega) (by omega) (by omega) (by first | exact PW_0 | exact PW_s e4_0 (by omega) (by omega) (by omega) (by omega) (by assumption)) (by omega)
set_option maxRecDepth 100000 in
set_option maxHeartbeats 4000000 in
theorem c_X12_fullIn_98 (x1 x2 : Int) (h : MEM) (hM : MBm h) (bx1 : 0 ≤ x1) (dx1 : x1 ≤ 9) (bx2 : 1 ≤ x2) (dx2 : x2 ≤ 20) (p0_0 : 0 ≤ h 98 5) (p0_1 : h 98 5 ≤ 999800) (f_WFL : WFL h) : CI yX12_fullIn cX12_fullIn 4 (some .int) 9 [pR 98, pI x1, pI x2] h (fun x h' => MBm h' ∧ Fr [(98, 6), (98, 7), (98, 8), (98, 47), (98, 48), (98, 49), (98, 52), (101, 0), (105, 0), (107, 0), (111, 0), (112, 0), (113, 0), (128, 0), (129, 0)] h h' ∧ 0 ≤ x ∧ x ≤ 1000000000) := by
  refine CI.of (L0 := [some (pR 98), some (pI x1), some (pI x2), none]) rfl (Nat.le_of_ble_eq_true rfl) rfl (fun Po hPo hav => ?_)
  obtain ⟨w98_5, ew98_5⟩ : ∃ z, z = h 98 5 := ⟨_, rfl⟩
  have q1 : h 98 5 = w98_5 := ew98_5.symm
  obtain ⟨v2, ev2⟩ : ∃ z, z = h 98 2 := ⟨_, rfl⟩
  have bv2 : 0 ≤ v2 ∧ v2 ≤ 10 := by rw [ev2]; exact (m_98_2 hM)
  obtain ⟨v3, ev3⟩ : ∃ z, z = h 98 3 := ⟨_, rfl⟩
  have bv3 : 0 ≤ v3 ∧ v3 ≤ 8 := by rw [ev3]; exact (m_98_3 hM)
  obtain ⟨v4, ev4⟩ : ∃ z, z = h 98 4 := ⟨_, rfl⟩
  have bv4 : 0 ≤ v4 ∧ v4 ≤ 8 := by rw [ev4]; exact (m_98_4 hM)
  refine g_iconst dX12_fullIn_0 (inR_c rfl) ?_
  have c2 : ∀ (n : Nat) (y5 : Int) (h6 : MEM), MBm h6 → Fr [(98, 6), (98, 7), (98, 8), (98, 47), (98, 48), (98, 49), (98, 52), (101, 0), (105, 0), (107, 0), (111, 0), (112, 0), (113, 0), (128, 0), (129, 0)] h h6 → 0 ≤ y5 → y5 ≤ 21 → h6 98 5 ≤ h 98 5 + y5 → 0 ≤ h6 98 5 → 21 - y5 < (n : Int) → G yX12_fullIn cX12_fullIn 4 (some .int) none Po (9, 540, 0, 0) 2 [some (pR 98), some (pI x1), some (pI x2), some (pI y5)] [] SH h6 0 0 := by
    intro n
    induction n with
    | zero =>
      intro y5 h6 hMh6 hFh6 by5 dy5 e2_0 e2_1 hn
      exfalso; omega
    | succ n ih2 =>
      intro y5 h6 hMh6 hFh6 by5 dy5 e2_0 e2_1 hn
      refine g_iload_n dX12_fullIn_2 rfl (fun _ => ?_)
      refine g_iload_n dX12_fullIn_3 rfl (fun _ => ?_)
      refine g_icmp_gt 40 dX12_fullIn_4 (by decide) (fun q7 => ?_) (fun q7 => ?_)
      · skip
        refine g_ldc_w (v := 1000000000) dX12_fullIn_40 kc_X12_434 (inR_c rfl) ?_
        exact g_ireturn dX12_fullIn_43 retI (hPo _ _ ⟨hMh6, (Fr.sub hFh6 rfl), (by omega), (by omega)⟩)
      · skip
        refine g_aload_n dX12_fullIn_7 rfl ?_
        refine gR_X12_21 rfl dX12_fullIn_8 sh_98 (b := 101) (m_98_9 hMh6) ?_
        refine g_iload_n dX12_fullIn_11 rfl (fun _ => ?_)
        refine g_ialdB dX12_fullIn_12 sh_101 (by omega) (by omega) (m_101 hMh6 _) (fun v8 ev8 bv8 cv8 => ?_)
        refine g_aload_n dX12_fullIn_13 rfl ?_
        refine gR_X12_17 rfl dX12_fullIn_14 sh_98 (b := 100) (m_98_8 hMh6) ?_
        refine g_iload_n dX12_fullIn_17 rfl (fun _ => ?_)
        refine g_ialdB dX12_fullIn_18 sh_100 (by omega) (by omega) (m_100 hMh6 _) (fun v9 ev9 bv9 cv9 => ?_)
        refine g_icmp_ne 24 dX12_fullIn_19 (by decide) (fun q10 => ?_) (fun q10 => ?_)
        · skip
          refine g_iload_n dX12_fullIn_24 rfl (fun _ => ?_)
          refine g_iload_n dX12_fullIn_25 rfl (fun _ => ?_)
          refine g_icmp_ge 34 dX12_fullIn_26 (by decide) (fun q11 => ?_) (fun q11 => ?_)
          · skip
            refine g_iincB dX12_fullIn_34 rfl rfl (by omega) (by omega) ?_
            refine g_goto 2 dX12_fullIn_37 (by decide) ?_
            obtain ⟨v12, ev12⟩ : ∃ z, z = h6 98 5 := ⟨_, rfl⟩
            have bv12 : 0 ≤ v12 ∧ v12 ≤ 2000000000 := by rw [ev12]; exact (m_98_5 hMh6)
            exact ih2 _ _ hMh6 (Fr.sub hFh6 rfl) (by omega) (by omega) (by omega) (by omega) (by omega)
          · skip
            refine g_aload_n dX12_fullIn_29 rfl ?_
            refine g_iconst dX12_fullIn_30 (inR_c rfl) ?_
            obtain ⟨v13, ev13⟩ : ∃ z, z = h6 98 5 := ⟨_, rfl⟩
            have bv13 : 0 ≤ v13 ∧ v13 ≤ 2000000000 := by rw [ev13]; exact (m_98_5 hMh6)
            have q14 : h6 98 5 = v13 := ev13.symm
            refine g_cVV (as := [_]) (c_X12_goesOn_98 _ h6 hMh6 (by omega) (by omega) (by omega) (by omega) (WFL.fr (T := [(98, 6), (98, 7), (98, 8), (98, 47), (98, 48), (98, 49), (98, 52), (101, 0), (105, 0), (107, 0), (111, 0), (112, 0), (113, 0), (128, 0), (129, 0)]) f_WFL (Fr.sub hFh6 rfl) rfl)) dX12_fullIn_31 mi_X12_goesOn in_X12_goesOn se_X12_goesOn ml_X12_401 rfl rfl rfl sh_98 rfl rfl (Nat.le_of_ble_eq_true rfl) (fun h15 q16 => ?_)
            obtain ⟨hMh15, hFh15, z17⟩ := q16
            have kz17 : h15 98 5 = (v13 + 1) := by omega
            refine g_iincB dX12_fullIn_34 rfl rfl (by omega) (by omega) ?_
            refine g_goto 2 dX12_fullIn_37 (by decide) ?_
            have q18 : h15 98 5 = (v13 + 1) := kz17
            exact ih2 _ _ hMh15 (Fr.tr (Fr.sub hFh6 rfl) hFh15 rfl) (by omega) (by omega) (by omega) (by omega) (by omega)
        · skip
          refine g_iload_n dX12_fullIn_22 rfl (fun _ => ?_)
          exact g_ireturn dX12_fullIn_23 retI (hPo _ _ ⟨hMh6, (Fr.sub hFh6 rfl), (by omega), (by omega)⟩)
  refine g_istore_n dX12_fullIn_1 (by decide) rfl ?_
  have q19 : h 98 5 = w98_5 := ew98_5.symm
  exact c2 22 _ _ hM Fr.rf (by omega) (by omega) (by omega) (by omega) (by omega)
set_option maxRecDepth 100000 in
set_option maxHeartbeats 4000000 in
theorem c_X12_roofIn_98 (x1 x2 x3 : Int) (h : MEM) (hM : MBm h) (bx1 : 0 ≤ x1) (dx1 : x1 ≤ 2147483647) (bx2 : 0 ≤ x2) (dx2 : x2 ≤ 8) (bx3 : 0 ≤ x3) (dx3 : x3 ≤ 7) (p0_0 : 1 ≤ h 98 2) (p0_1 : h 98 2 ≤ 10) : CP yX12_roofIn cX12_roofIn 4 (some .int) 2 [pR 98, pI x1, pI x2, pI x3] h (fun x => 0 ≤ x ∧ x ≤ 9) := by
  refine CP.of (L0 := [some (pR 98), some (pI x1), some (pI x2), some (pI x3)]) rfl (Nat.le_of_ble_eq_true rfl) rfl (fun Po hPo hav => ?_)
  obtain ⟨w98_2, ew98_2⟩ : ∃ z, z = h 98 2 := ⟨_, rfl⟩
  refine g_iload_n dX12_roofIn_0 rfl (fun _ => ?_)
  refine g_aload_n dX12_roofIn_1 rfl ?_
  refine g_iload_n dX12_roofIn_2 rfl (fun _ => ?_)
  refine g_iconst dX12_roofIn_3 (inR_c rfl) ?_
  refine g_isubB dX12_roofIn_4 (by omega) (by omega) ?_
  refine g_iload_n dX12_roofIn_5 rfl (fun _ => ?_)
  refine g_isubB dX12_roofIn_6 (by omega) (by omega) ?_
  have q1 : h 98 2 = w98_2 := ew98_2.symm
  refine g_cVP (as := [_]) (c_X12_powerOf_98 _ h hM (by omega) (by omega) (by omega) (by omega)) dX12_roofIn_7 mi_X12_powerOf in_X12_powerOf se_X12_powerOf ml_X12_431 rfl rfl rfl sh_98 rfl rfl (Nat.le_of_ble_eq_true rfl) (fun v2 q3 => ?_)
  obtain ⟨bv2, cv2⟩ := q3
  refine g_idivX (lo := 0) (hi := x1) dX12_roofIn_10 (by omega) (idiv_b (by omega) (by omega) (by omega)) (fun v4 ev4 bv4 cv4 => ?_)
  refine g_aload_n dX12_roofIn_11 rfl ?_
  refine gE_X12_172 rfl dX12_roofIn_12 sh_98 ew98_2.symm ?_
  refine g_iremX (lo := 0) (hi := w98_2 - 1) dX12_roofIn_15 (by omega) (irem_b (by omega) (by omega) (by omega)) (fun v5 ev5 bv5 cv5 => ?_)
  exact g_ireturn dX12_roofIn_16 retI (hPo _ ⟨(by omega), (by omega)⟩)
set_option maxRecDepth 100000 in
set_option maxHeartbeats 4000000 in
theorem c_X12_findsSet_98 (x1 x2 x3 : Int) (gi gs : Nat → Int) (h : MEM) (hM : MBm h) (bx1 : 0 ≤ x1) (dx1 : x1 ≤ 8) (bx2 : 0 ≤ x2) (dx2 : x2 ≤ 9) (bx3 : 1 ≤ x3) (dx3 : x3 ≤ 20) (p0_0 : 1 ≤ h 98 2) (p0_1 : h 98 2 ≤ 10) (p1_0 : 0 ≤ h 98 5) (p1_1 : h 98 5 ≤ 999700) (f_WFL : WFL h) (f_IS : ISn gi h) (f_S1 : S1n gs h) : CV yX12_findsSet cX12_findsSet 8 (none) 10 [pR 98, pI x1, pI x2, pI x3] h (fun h' => MBm h' ∧ Fr [(98, 3), (98, 4), (98, 5), (98, 6), (98, 7), (98, 8), (98, 47), (98, 48), (98, 49), (98, 52), (98, 73), (98, 74), (98, 75), (100, 0), (101, 0), (102, 0), (103, 0), (104, 0), (105, 0), (106, 0), (107, 0), (108, 0), (109, 0), (110, 0), (111, 0), (112, 0), (113, 0), (114, 0), (128, 0), (129, 0), (130, 0), (131, 0), (132, 0), (133, 0), (134, 0), (135, 0), (136, 0), (137, 0), (138, 0), (139, 0), (140, 0), (141, 0), (142, 0), (143, 0), (144, 0), (145, 1), (145, 2), (145, 3), (145, 4), (145, 5), (145, 6)] h h' ∧ ISn gi h' ∧ S1n gs h' ∧ h' 98 2 = h 98 2 ∧ h' 98 3 = h 98 3 ∧ h' 98 4 = h 98 4 ∧ h' 98 5 = h 98 5) := by
  refine CV.of (L0 := [some (pR 98), some (pI x1), some (pI x2), some (pI x3), none, none, none, none]) rfl (Nat.le_of_ble_eq_true rfl) rfl (fun Po hPo hav => ?_)
  obtain ⟨v1, ev1⟩ : ∃ z, z = h 98 2 := ⟨_, rfl⟩
  have bv1 : 0 ≤ v1 ∧ v1 ≤ 10 := by rw [ev1]; exact (m_98_2 hM)
  obtain ⟨v2, ev2⟩ : ∃ z, z = h 98 3 := ⟨_, rfl⟩
  have bv2 : 0 ≤ v2 ∧ v2 ≤ 8 := by rw [ev2]; exact (m_98_3 hM)
  obtain ⟨v3, ev3⟩ : ∃ z, z = h 98 4 := ⟨_, rfl⟩
  have bv3 : 0 ≤ v3 ∧ v3 ≤ 8 := by rw [ev3]; exact (m_98_4 hM)
  obtain ⟨v4, ev4⟩ : ∃ z, z = h 98 5 := ⟨_, rfl⟩
  have bv4 : 0 ≤ v4 ∧ v4 ≤ 2000000000 := by rw [ev4]; exact (m_98_5 hM)
  obtain ⟨w98_2, ew98_2⟩ : ∃ z, z = h 98 2 := ⟨_, rfl⟩
  obtain ⟨w98_5, ew98_5⟩ : ∃ z, z = h 98 5 := ⟨_, rfl⟩
  have q5 : h 98 2 = w98_2 := ew98_2.symm
  have q6 : h 98 3 = v2 := ev2.symm
  have q7 : h 98 4 = v3 := ev3.symm
  have q8 : h 98 5 = w98_5 := ew98_5.symm
  refine g_aload_n dX12_findsSet_0 rfl ?_
  refine g_iconst dX12_findsSet_1 (inR_c rfl) ?_
  refine pI_X12_435 rfl dX12_findsSet_2 sh_98 (fun h9 eh9 => ?_)
  have hFh9 := Fr.st eh9
  have hMh9 := u_98_72 hM eh9 (by omega) (by omega)
  refine g_aload_n dX12_findsSet_5 rfl ?_
  refine g_ldc_w (v := 1000000000) dX12_findsSet_6 kc_X12_434 (inR_c rfl) ?_
  refine pI_X12_438 rfl dX12_findsSet_9 sh_98 (fun h10 eh10 => ?_)
  have hFh10 := Fr.st eh10
  have hMh10 := u_98_73 hMh9 eh10 (by omega) (by omega)
  refine g_aload_n dX12_findsSet_12 rfl ?_
  refine g_ldc_w (v := 1000000000) dX12_findsSet_13 kc_X12_434 (inR_c rfl) ?_
  refine pI_X12_441 rfl dX12_findsSet_16 sh_98 (fun h11 eh11 => ?_)
  have hFh11 := Fr.st eh11
  have hMh11 := u_98_74 hMh10 eh11 (by omega) (by omega)
  refine g_aload_n dX12_findsSet_19 rfl ?_
  refine g_iload_n dX12_findsSet_20 rfl (fun _ => ?_)
  have q12 : h11 98 2 = w98_2 := ((hFh11 98 2 rfl).trans ((hFh10 98 2 rfl).trans ((hFh9 98 2 rfl).trans ew98_2.symm)))
  refine g_cVP (as := [_]) (c_X12_powerOf_98 _ h11 hMh11 (by omega) (by omega) (by omega) (by omega)) dX12_findsSet_21 mi_X12_powerOf in_X12_powerOf se_X12_powerOf ml_X12_431 rfl rfl rfl sh_98 rfl rfl (Nat.le_of_ble_eq_true rfl) (fun v13 q14 => ?_)
  obtain ⟨bv13, cv13⟩ := q14
  refine g_istore dX12_findsSet_24 (by decide) rfl ?_
  refine g_iconst dX12_findsSet_26 (inR_c rfl) ?_
  have c29 : ∀ (n : Nat) (y15 : Int) (h16 : MEM), MBm h16 → Fr [(98, 3), (98, 4), (98, 5), (98, 6), (98, 7), (98, 8), (98, 47), (98, 48), (98, 49), (98, 52), (98, 73), (98, 74), (98, 75), (100, 0), (101, 0), (102, 0), (103, 0), (104, 0), (105, 0), (106, 0), (107, 0), (108, 0), (109, 0), (110, 0), (111, 0), (112, 0), (113, 0), (114, 0), (128, 0), (129, 0), (130, 0), (131, 0), (132, 0), (133, 0), (134, 0), (135, 0), (136, 0), (137, 0), (138, 0), (139, 0), (140, 0), (141, 0), (142, 0), (143, 0), (144, 0), (145, 1), (145, 2), (145, 3), (145, 4), (145, 5), (145, 6)] h11 h16 → 0 ≤ y15 → y15 ≤ 2147483647 → h16 98 2 = w98_2 → h16 98 3 = v2 → h16 98 4 = v3 → h16 98 5 = w98_5 → y15 + (-1) * v13 ≤ 0 → ISn gi h16 → S1n gs h16 → v13 + 0 - y15 < (n : Int) → G yX12_findsSet cX12_findsSet 8 (none) none Po (10, 600, 0, 0) 29 [some (pR 98), some (pI x1), some (pI x2), some (pI x3), some (pI v13), some (pI y15), none, none] [] SH h16 0 0 := by
    intro n
    induction n with
    | zero =>
      intro y15 h16 hMh16 hFh16 by15 dy15 kp29_98_2 kp29_98_3 kp29_98_4 kp29_98_5 li29_0 e29_0 e29_1 hn
      exfalso; omega
    | succ n ih29 =>
      intro y15 h16 hMh16 hFh16 by15 dy15 kp29_98_2 kp29_98_3 kp29_98_4 kp29_98_5 li29_0 e29_0 e29_1 hn
      refine g_iload dX12_findsSet_29 rfl (fun _ => ?_)
      refine g_iload dX12_findsSet_31 rfl (fun _ => ?_)
      refine g_icmp_ge 158 dX12_findsSet_33 (by decide) (fun q17 => ?_) (fun q17 => ?_)
      · skip
        have q18 : h16 98 2 = w98_2 := kp29_98_2
        have q19 : h16 98 3 = v2 := kp29_98_3
        have q20 : h16 98 4 = v3 := kp29_98_4
        have q21 : h16 98 5 = w98_5 := kp29_98_5
        exact g_return dX12_findsSet_158 rfl (hPo _ ⟨hMh16, (Fr.tr (Fr.tr (Fr.tr (Fr.sub hFh9 rfl) hFh10 rfl) hFh11 rfl) hFh16 rfl), e29_2, e29_3, (by omega), (by omega), (by omega), (by omega)⟩)
      · skip
        refine g_aload_n dX12_findsSet_36 rfl ?_
        refine g_iconst dX12_findsSet_37 (inR_c rfl) ?_
        have q22 : h16 98 2 = w98_2 := kp29_98_2
        have q23 : h16 98 3 = v2 := kp29_98_3
        have q24 : h16 98 4 = v3 := kp29_98_4
        have q25 : h16 98 5 = w98_5 := kp29_98_5
        refine g_cVV (as := [_]) (c_X12_setsAside_98_k0 _ _ h16 hMh16 e29_2 e29_3) dX12_findsSet_38 mi_X12_setsAside in_X12_setsAside se_X12_setsAside ml_X12_419 rfl rfl rfl sh_98 rfl rfl (Nat.le_of_ble_eq_true rfl) (fun h26 q27 => ?_)
        obtain ⟨hMh26, hFh26, z28, z29, z30, z31, z32, z33⟩ := q27
        have kz30 : h26 145 0 = w98_2 := by omega
        have kz31 : h26 145 1 = v2 := by omega
        have kz32 : h26 145 2 = v3 := by omega
        have kz33 : h26 145 3 = w98_5 := by omega
        refine g_iconst dX12_findsSet_41 (inR_c rfl) ?_
        have c44 : ∀ (n : Nat) (y34 : Int) (h35 : MEM), MBm h35 → Fr [(103, 0)] h26 h35 → 0 ≤ y34 → y34 ≤ 8 → 8 - y34 < (n : Int) → G yX12_findsSet cX12_findsSet 8 (none) none Po (10, 600, 0, 0) 44 [some (pR 98), some (pI x1), some (pI x2), some (pI x3), some (pI v13), some (pI y15), some (pI y34), none] [] SH h35 0 0 := by
          intro n
          induction n with
          | zero =>
            intro y34 h35 hMh35 hFh35 by34 dy34 hn
            exfalso; omega
          | succ n ih44 =>
            intro y34 h35 hMh35 hFh35 by34 dy34 hn
            refine g_iload dX12_findsSet_44 rfl (fun _ => ?_)
            refine g_iload_n dX12_findsSet_46 rfl (fun _ => ?_)
            refine g_icmp_ge 77 dX12_findsSet_47 (by decide) (fun q36 => ?_) (fun q36 => ?_)
            · skip
              refine g_aload_n dX12_findsSet_77 rfl ?_
              refine g_iload_n dX12_findsSet_78 rfl (fun _ => ?_)
              refine g_iload_n dX12_findsSet_79 rfl (fun _ => ?_)
              have q37 : h35 98 5 = w98_5 := ((hFh35 98 5 rfl).trans ((hFh26 98 5 rfl).trans kp29_98_5))
              refine g_cV (as := [_, _]) (c_X12_fullIn_98 _ _ h35 hMh35 (by omega) (by omega) (by omega) (by omega) (by omega) (by omega) (WFL.fr (T := [(98, 3), (98, 4), (98, 5), (98, 6), (98, 7), (98, 8), (98, 47), (98, 48), (98, 49), (98, 52), (98, 73), (98, 74), (98, 75), (100, 0), (101, 0), (102, 0), (103, 0), (104, 0), (105, 0), (106, 0), (107, 0), (108, 0), (109, 0), (110, 0), (111, 0), (112, 0), (113, 0), (114, 0), (128, 0), (129, 0), (130, 0), (131, 0), (132, 0), (133, 0), (134, 0), (135, 0), (136, 0), (137, 0), (138, 0), (139, 0), (140, 0), (141, 0), (142, 0), (143, 0), (144, 0), (145, 1), (145, 2), (145, 3), (145, 4), (145, 5), (145, 6)]) f_WFL (Fr.tr (Fr.tr (Fr.tr (Fr.tr (Fr.tr (Fr.sub hFh9 rfl) hFh10 rfl) hFh11 rfl) hFh16 rfl) hFh26 rfl) hFh35 rfl) rfl)) dX12_findsSet_80 mi_X12_fullIn in_X12_fullIn se_X12_fullIn ml_X12_447 rfl rfl rfl sh_98 rfl rfl (Nat.le_of_ble_eq_true rfl) (fun v38 h39 q40 => ?_)
              obtain ⟨hMh39, hFh39, bv38, cv38⟩ := q40
              refine g_istore dX12_findsSet_83 (by decide) rfl ?_
              refine g_aload_n dX12_findsSet_85 rfl ?_
              refine g_cVP (as := []) (c_X12_allBruises_98  h39 hMh39) dX12_findsSet_86 mi_X12_allBruises in_X12_allBruises se_X12_allBruises ml_X12_425 rfl rfl rfl sh_98 rfl rfl (Nat.le_of_ble_eq_true rfl) (fun v41 q42 => ?_)
              obtain ⟨bv41, cv41⟩ := q42
              refine g_istore dX12_findsSet_89 (by decide) rfl ?_
              refine g_aload_n dX12_findsSet_91 rfl ?_
              refine g_iconst dX12_findsSet_92 (inR_c rfl) ?_
              have q43 : h39 145 0 = w98_2 := ((hFh39 145 _ rfl).trans ((hFh35 145 _ rfl).trans kz30))
              have q44 : h39 145 1 = v2 := ((hFh39 145 _ rfl).trans ((hFh35 145 _ rfl).trans kz31))
              have q45 : h39 145 2 = v3 := ((hFh39 145 _ rfl).trans ((hFh35 145 _ rfl).trans kz32))
              have q46 : h39 145 3 = w98_5 := ((hFh39 145 _ rfl).trans ((hFh35 145 _ rfl).trans kz33))
              refine g_cVV (as := [_]) (c_X12_putsBack_98_k0 _ h39 hMh39 (S0n.fr (T := [(98, 6), (98, 7), (98, 8), (98, 47), (98, 48), (98, 49), (98, 52), (101, 0), (103, 0), (105, 0), (107, 0), (111, 0), (112, 0), (113, 0), (128, 0), (129, 0)]) z28 (Fr.tr (Fr.sub hFh35 rfl) hFh39 rfl) rfl)) dX12_findsSet_93 mi_X12_putsBack in_X12_putsBack se_X12_putsBack ml_X12_428 rfl rfl rfl sh_98 rfl rfl (Nat.le_of_ble_eq_true rfl) (fun h47 q48 => ?_)
              obtain ⟨hMh47, hFh47, z49, z50, z51, z52, z53⟩ := q48
              have kz50 : h47 98 2 = w98_2 := by omega
              have kz51 : h47 98 3 = v2 := by omega
              have kz52 : h47 98 4 = v3 := by omega
              have kz53 : h47 98 5 = w98_5 := by omega
              refine g_iload dX12_findsSet_96 rfl (fun _ => ?_)
              refine g_ldc_w (v := 1000000000) dX12_findsSet_98 kc_X12_434 (inR_c rfl) ?_
              refine g_icmp_eq 152 dX12_findsSet_101 (by decide) (fun q54 => ?_) (fun q54 => ?_)
              · skip
                refine g_iincB dX12_findsSet_152 rfl rfl (by omega) (by omega) ?_
                refine g_goto 29 dX12_findsSet_155 (by decide) ?_
                refine g_drop 6 ?_
                refine g_drop 7 ?_
                have q55 : h47 98 2 = w98_2 := kz50
                have q56 : h47 98 3 = v2 := kz51
                have q57 : h47 98 4 = v3 := kz52
                have q58 : h47 98 5 = w98_5 := kz53
                exact ih29 _ _ hMh47 (Fr.tr (Fr.tr (Fr.tr (Fr.tr (Fr.sub hFh16 rfl) hFh26 rfl) hFh35 rfl) hFh39 rfl) hFh47 rfl) (by omega) (by omega) (by omega) (by omega) (by omega) (by omega) (by omega) (by omega) (by omega) (by omega)
              · skip
                refine g_iload dX12_findsSet_104 rfl (fun _ => ?_)
                refine g_aload_n dX12_findsSet_106 rfl ?_
                refine gI_X12_438 rfl dX12_findsSet_107 sh_98 (m_98_73 hMh47) (fun v59 ev59 bv59 cv59 => ?_)
                refine g_icmp_gt 152 dX12_findsSet_110 (by decide) (fun q60 => ?_) (fun q60 => ?_)
                · skip
                  refine g_iincB dX12_findsSet_152 rfl rfl (by omega) (by omega) ?_
                  refine g_goto 29 dX12_findsSet_155 (by decide) ?_
                  refine g_drop 6 ?_
                  refine g_drop 7 ?_
                  have q61 : h47 98 2 = w98_2 := kz50
                  have q62 : h47 98 3 = v2 := kz51
                  have q63 : h47 98 4 = v3 := kz52
                  have q64 : h47 98 5 = w98_5 := kz53
                  exact ih29 _ _ hMh47 (Fr.tr (Fr.tr (Fr.tr (Fr.tr (Fr.sub hFh16 rfl) hFh26 rfl) hFh35 rfl) hFh39 rfl) hFh47 rfl) (by omega) (by omega) (by omega) (by omega) (by omega) (by omega) (by omega) (by omega) (by omega) (by omega)
                · skip
                  refine g_iload dX12_findsSet_113 rfl (fun _ => ?_)
                  refine g_aload_n dX12_findsSet_115 rfl ?_
                  refine gE_X12_438 rfl dX12_findsSet_116 sh_98 ev59.symm ?_
                  refine g_icmp_ne 134 dX12_findsSet_119 (by decide) (fun q65 => ?_) (fun q65 => ?_)
                  · skip
                    refine g_aload_n dX12_findsSet_134 rfl ?_
                    refine g_iload dX12_findsSet_135 rfl (fun _ => ?_)
                    refine pI_X12_435 rfl dX12_findsSet_137 sh_98 (fun h66 eh66 => ?_)
                    have hFh66 := Fr.st eh66
                    have hMh66 := u_98_72 hMh47 eh66 (by omega) (by omega)
                    refine g_aload_n dX12_findsSet_140 rfl ?_
                    refine g_iload dX12_findsSet_141 rfl (fun _ => ?_)
                    refine pI_X12_438 rfl dX12_findsSet_143 sh_98 (fun h67 eh67 => ?_)
                    have hFh67 := Fr.st eh67
                    have hMh67 := u_98_73 hMh66 eh67 (by omega) (by omega)
                    refine g_aload_n dX12_findsSet_146 rfl ?_
                    refine g_iload dX12_findsSet_147 rfl (fun _ => ?_)
                    refine pI_X12_441 rfl dX12_findsSet_149 sh_98 (fun h68 eh68 => ?_)
                    have hFh68 := Fr.st eh68
                    have hMh68 := u_98_74 hMh67 eh68 (by omega) (by omega)
                    refine g_iincB dX12_findsSet_152 rfl rfl (by omega) (by omega) ?_
                    refine g_goto 29 dX12_findsSet_155 (by decide) ?_
                    refine g_drop 6 ?_
                    refine g_drop 7 ?_
                    have q69 : h68 98 2 = w98_2 := ((hFh68 98 2 rfl).trans ((hFh67 98 2 rfl).trans ((hFh66 98 2 rfl).trans kz50)))
                    have q70 : h68 98 3 = v2 := ((hFh68 98 3 rfl).trans ((hFh67 98 3 rfl).trans ((hFh66 98 3 rfl).trans kz51)))
                    have q71 : h68 98 4 = v3 := ((hFh68 98 4 rfl).trans ((hFh67 98 4 rfl).trans ((hFh66 98 4 rfl).trans kz52)))
                    have q72 : h68 98 5 = w98_5 := ((hFh68 98 5 rfl).trans ((hFh67 98 5 rfl).trans ((hFh66 98 5 rfl).trans kz53)))
                    exact ih29 _ _ hMh68 (Fr.tr (Fr.tr (Fr.tr (Fr.tr (Fr.tr (Fr.tr (Fr.tr (Fr.sub hFh16 rfl) hFh26 rfl) hFh35 rfl) hFh39 rfl) hFh47 rfl) hFh66 rfl) hFh67 rfl) hFh68 rfl) (by omega) (by omega) (by omega) (by omega) (by omega) (by omega) (by omega) (by omega) (by omega) (by omega)
                  · skip
                    refine g_iload dX12_findsSet_122 rfl (fun _ => ?_)
                    refine g_aload_n dX12_findsSet_124 rfl ?_
                    refine gI_X12_441 rfl dX12_findsSet_125 sh_98 (m_98_74 hMh47) (fun v73 ev73 bv73 cv73 => ?_)
                    refine g_icmp_lt 134 dX12_findsSet_128 (by decide) (fun q74 => ?_) (fun q74 => ?_)
                    · skip
                      refine g_aload_n dX12_findsSet_134 rfl ?_
                      refine g_iload dX12_findsSet_135 rfl (fun _ => ?_)
                      refine pI_X12_435 rfl dX12_findsSet_137 sh_98 (fun h75 eh75 => ?_)
                      have hFh75 := Fr.st eh75
                      have hMh75 := u_98_72 hMh47 eh75 (by omega) (by omega)
                      refine g_aload_n dX12_findsSet_140 rfl ?_
                      refine g_iload dX12_findsSet_141 rfl (fun _ => ?_)
                      refine pI_X12_438 rfl dX12_findsSet_143 sh_98 (fun h76 eh76 => ?_)
                      have hFh76 := Fr.st eh76
                      have hMh76 := u_98_73 hMh75 eh76 (by omega) (by omega)
                      refine g_aload_n dX12_findsSet_146 rfl ?_
                      refine g_iload dX12_findsSet_147 rfl (fun _ => ?_)
                      refine pI_X12_441 rfl dX12_findsSet_149 sh_98 (fun h77 eh77 => ?_)
                      have hFh77 := Fr.st eh77
                      have hMh77 := u_98_74 hMh76 eh77 (by omega) (by omega)
                      refine g_iincB dX12_findsSet_152 rfl rfl (by omega) (by omega) ?_
                      refine g_goto 29 dX12_findsSet_155 (by decide) ?_
                      refine g_drop 6 ?_
                      refine g_drop 7 ?_
                      have q78 : h77 98 2 = w98_2 := ((hFh77 98 2 rfl).trans ((hFh76 98 2 rfl).trans ((hFh75 98 2 rfl).trans kz50)))
                      have q79 : h77 98 3 = v2 := ((hFh77 98 3 rfl).trans ((hFh76 98 3 rfl).trans ((hFh75 98 3 rfl).trans kz51)))
                      have q80 : h77 98 4 = v3 := ((hFh77 98 4 rfl).trans ((hFh76 98 4 rfl).trans ((hFh75 98 4 rfl).trans kz52)))
                      have q81 : h77 98 5 = w98_5 := ((hFh77 98 5 rfl).trans ((hFh76 98 5 rfl).trans ((hFh75 98 5 rfl).trans kz53)))
                      exact ih29 _ _ hMh77 (Fr.tr (Fr.tr (Fr.tr (Fr.tr (Fr.tr (Fr.tr (Fr.tr (Fr.sub hFh16 rfl) hFh26 rfl) hFh35 rfl) hFh39 rfl) hFh47 rfl) hFh75 rfl) hFh76 rfl) hFh77 rfl) (by omega) (by omega) (by omega) (by omega) (by omega) (by omega) (by omega) (by omega) (by omega) (by omega)
                    · skip
                      refine g_goto 152 dX12_findsSet_131 (by decide) ?_
                      refine g_iincB dX12_findsSet_152 rfl rfl (by omega) (by omega) ?_
                      refine g_goto 29 dX12_findsSet_155 (by decide) ?_
                      refine g_drop 6 ?_
                      refine g_drop 7 ?_
                      have q82 : h47 98 2 = w98_2 := kz50
                      have q83 : h47 98 3 = v2 := kz51
                      have q84 : h47 98 4 = v3 := kz52
                      have q85 : h47 98 5 = w98_5 := kz53
                      exact ih29 _ _ hMh47 (Fr.tr (Fr.tr (Fr.tr (Fr.tr (Fr.sub hFh16 rfl) hFh26 rfl) hFh35 rfl) hFh39 rfl) hFh47 rfl) (by omega) (by omega) (by omega) (by omega) (by omega) (by omega) (by omega) (by omega) (by omega) (by omega)
            · skip
              refine g_aload_n dX12_findsSet_50 rfl ?_
              refine gR_X12_27 rfl dX12_findsSet_51 sh_98 (b := 103) (m_98_11 hMh35) ?_
              refine g_aload_n dX12_findsSet_54 rfl ?_
              refine gR_X12_157 rfl dX12_findsSet_55 sh_98 (b := 146) (m_98_71 hMh35) ?_
              refine g_iload dX12_findsSet_58 rfl (fun _ => ?_)
              refine g_ialdB dX12_findsSet_60 sh_146 (by omega) (by omega) (m_146 hMh35 _) (fun v86 ev86 bv86 cv86 => ?_)
              refine g_aload_n dX12_findsSet_61 rfl ?_
              refine g_iload dX12_findsSet_62 rfl (fun _ => ?_)
              refine g_iload_n dX12_findsSet_64 rfl (fun _ => ?_)
              refine g_iload dX12_findsSet_65 rfl (fun _ => ?_)
              have q87 : h35 98 2 = w98_2 := ((hFh35 98 2 rfl).trans ((hFh26 98 2 rfl).trans kp29_98_2))
              refine g_cVP (as := [_, _, _]) (c_X12_roofIn_98 _ _ _ h35 hMh35 (by omega) (by omega) (by omega) (by omega) (by omega) (by omega) (by omega) (by omega)) dX12_findsSet_67 mi_X12_roofIn in_X12_roofIn se_X12_roofIn ml_X12_444 rfl rfl rfl sh_98 rfl rfl (Nat.le_of_ble_eq_true rfl) (fun v88 q89 => ?_)
              obtain ⟨bv88, cv88⟩ := q89
              refine g_iastB dX12_findsSet_70 sh_103 (by omega) (by omega) (fun h90 eh90 => ?_)
              have hFh90 := Fr.ar eh90
              have hMh90 := u_103 hMh35 eh90 (by omega) (by omega)
              refine g_iincB dX12_findsSet_71 rfl rfl (by omega) (by omega) ?_
              refine g_goto 44 dX12_findsSet_74 (by decide) ?_
              exact ih44 _ _ hMh90 (Fr.tr (Fr.sub hFh35 rfl) hFh90 rfl) (by omega) (by omega) (by omega)
        refine g_istore dX12_findsSet_42 (by decide) rfl ?_
        exact c44 9 _ _ hMh26 Fr.rf (by omega) (by omega) (by omega)
  refine g_istore dX12_findsSet_27 (by decide) rfl ?_
  have q91 : h11 98 2 = w98_2 := ((hFh11 98 2 rfl).trans ((hFh10 98 2 rfl).trans ((hFh9 98 2 rfl).trans ew98_2.symm)))
  have q92 : h11 98 3 = v2 := ((hFh11 98 3 rfl).trans ((hFh10 98 3 rfl).trans ((hFh9 98 3 rfl).trans ev2.symm)))
  have q93 : h11 98 4 = v3 := ((hFh11 98 4 rfl).trans ((hFh10 98 4 rfl).trans ((hFh9 98 4 rfl).trans ev3.symm)))
  have q94 : h11 98 5 = w98_5 := ((hFh11 98 5 rfl).trans ((hFh10 98 5 rfl).trans ((hFh9 98 5 rfl).trans ew98_5.symm)))
  exact c29 100000001 _ _ hMh11 Fr.rf (by omega) (by omega) (by omega) (by omega) (by omega) (by omega) (by omega) (by omega) (by omega) (by omega)
set_option maxRecDepth 100000 in
set_option maxHeartbeats 4000000 in
theorem c_X12_set_98 (x1 x2 x3 x4 : Int) (gi gs : Nat → Int) (h : MEM) (hM : MBm h) (bx1 : -2147483648 ≤ x1) (dx1 : x1 ≤ 2147483647) (bx2 : -2147483648 ≤ x2) (dx2 : x2 ≤ 2147483647) (bx3 : -2147483648 ≤ x3) (dx3 : x3 ≤ 2147483647) (bx4 : -2147483648 ≤ x4) (dx4 : x4 ≤ 2147483647) (p0_0 : 0 ≤ h 98 5) (p0_1 : h 98 5 ≤ 999600) (f_WFL : WFL h) (f_IS : ISn gi h) (f_S1 : S1n gs h) : CI yX12_set cX12_set 8 (some .int) 11 [pR 98, pI x1, pI x2, pI x3, pI x4] h (fun x h' => MBm h' ∧ Fr [(98, 3), (98, 4), (98, 5), (98, 6), (98, 7), (98, 8), (98, 47), (98, 48), (98, 49), (98, 52), (98, 73), (98, 74), (98, 75), (100, 0), (101, 0), (102, 0), (103, 0), (104, 0), (105, 0), (106, 0), (107, 0), (108, 0), (109, 0), (110, 0), (111, 0), (112, 0), (113, 0), (114, 0), (128, 0), (129, 0), (130, 0), (131, 0), (132, 0), (133, 0), (134, 0), (135, 0), (136, 0), (137, 0), (138, 0), (139, 0), (140, 0), (141, 0), (142, 0), (143, 0), (144, 0), (145, 1), (145, 2), (145, 3), (145, 4), (145, 5), (145, 6), (146, 0)] h h' ∧ -2147483648 ≤ x ∧ x ≤ 2147483647 ∧ ISn gi h' ∧ S1n gs h' ∧ h' 98 2 = h 98 2 ∧ h' 98 3 = h 98 3 ∧ h' 98 4 = h 98 4 ∧ h' 98 5 = h 98 5) := by
  refine CI.of (L0 := [some (pR 98), some (pI x1), some (pI x2), some (pI x3), some (pI x4), none, none, none]) rfl (Nat.le_of_ble_eq_true rfl) rfl (fun Po hPo hav => ?_)
  obtain ⟨v1, ev1⟩ : ∃ z, z = h 98 2 := ⟨_, rfl⟩
  have bv1 : 0 ≤ v1 ∧ v1 ≤ 10 := by rw [ev1]; exact (m_98_2 hM)
  obtain ⟨v2, ev2⟩ : ∃ z, z = h 98 3 := ⟨_, rfl⟩
  have bv2 : 0 ≤ v2 ∧ v2 ≤ 8 := by rw [ev2]; exact (m_98_3 hM)
  obtain ⟨v3, ev3⟩ : ∃ z, z = h 98 4 := ⟨_, rfl⟩
  have bv3 : 0 ≤ v3 ∧ v3 ≤ 8 := by rw [ev3]; exact (m_98_4 hM)
  obtain ⟨v4, ev4⟩ : ∃ z, z = h 98 5 := ⟨_, rfl⟩
  have bv4 : 0 ≤ v4 ∧ v4 ≤ 2000000000 := by rw [ev4]; exact (m_98_5 hM)
  obtain ⟨w98_5, ew98_5⟩ : ∃ z, z = h 98 5 := ⟨_, rfl⟩
  have q5 : h 98 2 = v1 := ev1.symm
  have q6 : h 98 3 = v2 := ev2.symm
  have q7 : h 98 4 = v3 := ev3.symm
  have q8 : h 98 5 = w98_5 := ew98_5.symm
  refine g_iload_n dX12_set_0 rfl (fun _ => ?_)
  refine g_i2l dX12_set_1 ?_
  refine g_lconst (v := 1) dX12_set_2 rfl ?_
  refine g_iconst dX12_set_3 (inR_c rfl) ?_
  refine g_aload_n dX12_set_4 rfl ?_
  refine gE_X12_179 rfl dX12_set_5 sh_98 ev2.symm ?_
  refine g_ishlX (lo := 1) (hi := 256) dX12_set_8 (ishl1_b 8 (by decide) (by omega) (by omega)) (fun v9 ev9 bv9 cv9 => ?_)
  refine g_iconst dX12_set_9 (inR_c rfl) ?_
  refine g_isubB dX12_set_10 (by omega) (by omega) ?_
  refine g_i2l dX12_set_11 ?_
  refine g_cSP (av := [_, _, _]) (c_X12_lies _ _ _ h hM (by omega) (by omega) (by omega) (by omega) (by omega) (by omega)) dX12_set_12 mi_X12_lies st_X12_lies ml_X12_175 rfl rfl rfl rfl (Nat.le_of_ble_eq_true rfl) (fun v10 q11 => ?_)
  rcases q11 with ⟨rfl, q11⟩ | ⟨rfl, q11⟩
  · skip
    refine g_if_eq 79 dX12_set_15 (by decide) (fun _ => by exfalso; omega) (fun q12 => ?_)
    refine g_iload_n dX12_set_18 rfl (fun _ => ?_)
    refine g_cSP (av := [_]) (c_X12_sizeOf _ h hM (by omega) (by omega)) dX12_set_19 mi_X12_sizeOf st_X12_sizeOf ml_X12_450 rfl rfl rfl rfl (Nat.le_of_ble_eq_true rfl) (fun v13 q14 => ?_)
    obtain ⟨bv13, cv13⟩ := q14
    refine g_iconst dX12_set_22 (inR_c rfl) ?_
    refine g_icmp_gt 79 dX12_set_23 (by decide) (fun q15 => ?_) (fun q15 => ?_)
    · skip
      refine g_iconst dX12_set_79 (inR_c rfl) ?_
      have q16 : h 98 2 = v1 := ev1.symm
      have q17 : h 98 3 = v2 := ev2.symm
      have q18 : h 98 4 = v3 := ev3.symm
      have q19 : h 98 5 = w98_5 := ew98_5.symm
      exact g_ireturn dX12_set_80 retI (hPo _ _ ⟨hM, Fr.rf, (by omega), (by omega), f_IS, f_S1, (by omega), (by omega), (by omega), (by omega)⟩)
    · skip
      refine g_aload_n dX12_set_26 rfl ?_
      refine g_iload_n dX12_set_27 rfl (fun _ => ?_)
      refine g_cVP (as := [_]) (c_X12_isRoof_98 _ h hM (by omega) (by omega)) dX12_set_28 mi_X12_isRoof in_X12_isRoof se_X12_isRoof ml_X12_198 rfl rfl rfl sh_98 rfl rfl (Nat.le_of_ble_eq_true rfl) (fun v20 q21 => ?_)
      have q22 : h 98 2 = v1 := ev1.symm
      rcases q21 with ⟨rfl, q21⟩ | ⟨rfl, q21⟩
      · skip
        refine g_if_eq 79 dX12_set_31 (by decide) (fun _ => by exfalso; omega) (fun q23 => ?_)
        refine g_iload_n dX12_set_34 rfl (fun _ => ?_)
        refine g_i2l dX12_set_35 ?_
        refine g_lconst (v := 1) dX12_set_36 rfl ?_
        refine g_ldc2 (v := 20) dX12_set_37 kl_X12_453 (by decide) ?_
        refine g_cSP (av := [_, _, _]) (c_X12_lies _ _ _ h hM (by omega) (by omega) (by omega) (by omega) (by omega) (by omega)) dX12_set_40 mi_X12_lies st_X12_lies ml_X12_175 rfl rfl rfl rfl (Nat.le_of_ble_eq_true rfl) (fun v24 q25 => ?_)
        rcases q25 with ⟨rfl, q25⟩ | ⟨rfl, q25⟩
        · skip
          refine g_if_eq 79 dX12_set_43 (by decide) (fun _ => by exfalso; omega) (fun q26 => ?_)
          refine g_iload dX12_set_46 rfl (fun _ => ?_)
          refine g_i2l dX12_set_48 ?_
          refine g_ldc2 (v := 10) dX12_set_49 kl_X12_410 (by decide) ?_
          refine g_ldc2 (v := 12) dX12_set_52 kl_X12_455 (by decide) ?_
          refine g_cSP (av := [_, _, _]) (c_X12_lies _ _ _ h hM (by omega) (by omega) (by omega) (by omega) (by omega) (by omega)) dX12_set_55 mi_X12_lies st_X12_lies ml_X12_175 rfl rfl rfl rfl (Nat.le_of_ble_eq_true rfl) (fun v27 q28 => ?_)
          rcases q28 with ⟨rfl, q28⟩ | ⟨rfl, q28⟩
          · skip
            refine g_if_ne 81 dX12_set_58 (by decide) (fun q29 => ?_) (fun _ => by exfalso; omega)
            refine g_iconst dX12_set_81 (inR_c rfl) ?_
            refine g_istore dX12_set_82 (by decide) rfl ?_
            refine g_iconst dX12_set_84 (inR_c rfl) ?_
            refine g_istore dX12_set_85 (by decide) rfl ?_
            refine g_iconst dX12_set_87 (inR_c rfl) ?_
            have c90 : ∀ (n : Nat) (y30 y31 y32 : Int) (h33 : MEM), MBm h33 → Fr [(146, 0)] h h33 → 0 ≤ y30 → y30 ≤ 8 → 0 ≤ y31 → y31 ≤ 7 → 0 ≤ y32 → y32 ≤ 8 → y30 + (-1) * y32 ≤ 0 → 8 - y30 < (n : Int) → G yX12_set cX12_set 8 (some .int) none Po (11, 660, 0, 0) 90 [some (pR 98), some (pI x1), some (pI x2), some (pI x3), some (pI x4), some (pI y30), some (pI y31), some (pI y32)] [] SH h33 0 0 := by
              intro n
              induction n with
              | zero =>
                intro y30 y31 y32 h33 hMh33 hFh33 by30 dy30 by31 dy31 by32 dy32 li90_0 hn
                exfalso; omega
              | succ n ih90 =>
                intro y30 y31 y32 h33 hMh33 hFh33 by30 dy30 by31 dy31 by32 dy32 li90_0 hn
                refine g_iload dX12_set_90 rfl (fun _ => ?_)
                refine g_aload_n dX12_set_92 rfl ?_
                refine gE_X12_179 rfl dX12_set_93 sh_98 ((hFh33 98 3 rfl).trans ev2.symm) ?_
                refine g_icmp_ge 145 dX12_set_96 (by decide) (fun q34 => ?_) (fun q34 => ?_)
                · skip
                  refine g_aload_n dX12_set_145 rfl ?_
                  refine g_iload dX12_set_146 rfl (fun _ => ?_)
                  refine g_iload_n dX12_set_148 rfl (fun _ => ?_)
                  refine g_iload_n dX12_set_149 rfl (fun _ => ?_)
                  have q35 : h33 98 2 = v1 := ((hFh33 98 2 rfl).trans ev1.symm)
                  have q36 : h33 98 5 = w98_5 := ((hFh33 98 5 rfl).trans ew98_5.symm)
                  have q37 : h33 98 2 = v1 := ((hFh33 98 2 rfl).trans ev1.symm)
                  have q38 : h33 98 3 = v2 := ((hFh33 98 3 rfl).trans ev2.symm)
                  have q39 : h33 98 4 = v3 := ((hFh33 98 4 rfl).trans ev3.symm)
                  have q40 : h33 98 5 = w98_5 := ((hFh33 98 5 rfl).trans ew98_5.symm)
                  refine g_cVV (as := [_, _, _]) (c_X12_findsSet_98 _ _ _ _ _ h33 hMh33 (by omega) (by omega) (by omega) (by omega) (by omega) (by omega) (by omega) (by omega) (by omega) (by omega) (WFL.fr (T := [(146, 0)]) f_WFL (Fr.sub hFh33 rfl) rfl) (ISn.fr (T := [(146, 0)]) f_IS (Fr.sub hFh33 rfl) rfl) (S1n.fr (T := [(146, 0)]) f_S1 (Fr.sub hFh33 rfl) rfl)) dX12_set_150 mi_X12_findsSet in_X12_findsSet se_X12_findsSet ml_X12_457 rfl rfl rfl sh_98 rfl rfl (Nat.le_of_ble_eq_true rfl) (fun h41 q42 => ?_)
                  obtain ⟨hMh41, hFh41, z43, z44, z45, z46, z47, z48⟩ := q42
                  have kz45 : h41 98 2 = v1 := by omega
                  have kz46 : h41 98 3 = v2 := by omega
                  have kz47 : h41 98 4 = v3 := by omega
                  have kz48 : h41 98 5 = w98_5 := by omega
                  refine g_aload_n dX12_set_153 rfl ?_
                  refine gI_X12_435 rfl dX12_set_154 sh_98 (m_98_72 hMh41) (fun v49 ev49 bv49 cv49 => ?_)
                  refine g_iconst dX12_set_157 (inR_c rfl) ?_
                  refine g_icmp_ne 164 dX12_set_158 (by decide) (fun q50 => ?_) (fun q50 => ?_)
                  · skip
                    refine g_iconst dX12_set_164 (inR_c rfl) ?_
                    have c167 : ∀ (n : Nat) (y51 : Int) (h52 : MEM), MBm h52 → Fr [(103, 0)] h41 h52 → 0 ≤ y51 → y51 ≤ 8 → 8 - y51 < (n : Int) → G yX12_set cX12_set 8 (some .int) none Po (11, 660, 0, 0) 167 [some (pR 98), none, none, none, some (pI x4), some (pI y30), some (pI y31), some (pI y51)] [] SH h52 0 0 := by
                      intro n
                      induction n with
                      | zero =>
                        intro y51 h52 hMh52 hFh52 by51 dy51 hn
                        exfalso; omega
                      | succ n ih167 =>
                        intro y51 h52 hMh52 hFh52 by51 dy51 hn
                        refine g_iload dX12_set_167 rfl (fun _ => ?_)
                        refine g_iload dX12_set_169 rfl (fun _ => ?_)
                        refine g_icmp_ge 211 dX12_set_171 (by decide) (fun q53 => ?_) (fun q53 => ?_)
                        · skip
                          refine g_iload dX12_set_211 rfl (fun _ => ?_)
                          refine g_bipush dX12_set_213 (inR_c rfl) (by decide) ?_
                          refine g_icmp_eq 225 dX12_set_215 (by decide) (fun q54 => ?_) (fun q54 => ?_)
                          · skip
                            refine g_aload_n dX12_set_225 rfl ?_
                            refine gI_X12_438 rfl dX12_set_226 sh_98 (m_98_73 hMh52) (fun v55 ev55 bv55 cv55 => ?_)
                            refine g_goto 258 dX12_set_229 (by decide) ?_
                            have q56 : h52 98 2 = v1 := ((hFh52 98 2 rfl).trans kz45)
                            have q57 : h52 98 3 = v2 := ((hFh52 98 3 rfl).trans kz46)
                            have q58 : h52 98 4 = v3 := ((hFh52 98 4 rfl).trans kz47)
                            have q59 : h52 98 5 = w98_5 := ((hFh52 98 5 rfl).trans kz48)
                            exact g_ireturn dX12_set_258 retI (hPo _ _ ⟨hMh52, (Fr.tr (Fr.tr (Fr.sub hFh33 rfl) hFh41 rfl) hFh52 rfl), (by omega), (by omega), (ISn.fr (T := [(103, 0)]) z43 (Fr.sub hFh52 rfl) rfl), (S1n.fr (T := [(103, 0)]) z44 (Fr.sub hFh52 rfl) rfl), (by omega), (by omega), (by omega), (by omega)⟩)
                          · skip
                            refine g_iload dX12_set_218 rfl (fun _ => ?_)
                            refine g_bipush dX12_set_220 (inR_c rfl) (by decide) ?_
                            refine g_icmp_ne 232 dX12_set_222 (by decide) (fun q60 => ?_) (fun q60 => ?_)
                            · skip
                              refine g_iload dX12_set_232 rfl (fun _ => ?_)
                              refine g_bipush dX12_set_234 (inR_c rfl) (by decide) ?_
                              refine g_icmp_ne 246 dX12_set_236 (by decide) (fun _ => by exfalso; omega) (fun q61 => ?_)
                              refine g_aload_n dX12_set_239 rfl ?_
                              refine gI_X12_441 rfl dX12_set_240 sh_98 (m_98_74 hMh52) (fun v62 ev62 bv62 cv62 => ?_)
                              refine g_goto 258 dX12_set_243 (by decide) ?_
                              have q63 : h52 98 2 = v1 := ((hFh52 98 2 rfl).trans kz45)
                              have q64 : h52 98 3 = v2 := ((hFh52 98 3 rfl).trans kz46)
                              have q65 : h52 98 4 = v3 := ((hFh52 98 4 rfl).trans kz47)
                              have q66 : h52 98 5 = w98_5 := ((hFh52 98 5 rfl).trans kz48)
                              exact g_ireturn dX12_set_258 retI (hPo _ _ ⟨hMh52, (Fr.tr (Fr.tr (Fr.sub hFh33 rfl) hFh41 rfl) hFh52 rfl), (by omega), (by omega), (ISn.fr (T := [(103, 0)]) z43 (Fr.sub hFh52 rfl) rfl), (S1n.fr (T := [(103, 0)]) z44 (Fr.sub hFh52 rfl) rfl), (by omega), (by omega), (by omega), (by omega)⟩)
                            · skip
                              refine g_aload_n dX12_set_225 rfl ?_
                              refine gI_X12_438 rfl dX12_set_226 sh_98 (m_98_73 hMh52) (fun v67 ev67 bv67 cv67 => ?_)
                              refine g_goto 258 dX12_set_229 (by decide) ?_
                              have q68 : h52 98 2 = v1 := ((hFh52 98 2 rfl).trans kz45)
                              have q69 : h52 98 3 = v2 := ((hFh52 98 3 rfl).trans kz46)
                              have q70 : h52 98 4 = v3 := ((hFh52 98 4 rfl).trans kz47)
                              have q71 : h52 98 5 = w98_5 := ((hFh52 98 5 rfl).trans kz48)
                              exact g_ireturn dX12_set_258 retI (hPo _ _ ⟨hMh52, (Fr.tr (Fr.tr (Fr.sub hFh33 rfl) hFh41 rfl) hFh52 rfl), (by omega), (by omega), (ISn.fr (T := [(103, 0)]) z43 (Fr.sub hFh52 rfl) rfl), (S1n.fr (T := [(103, 0)]) z44 (Fr.sub hFh52 rfl) rfl), (by omega), (by omega), (by omega), (by omega)⟩)
                        · skip
                          refine g_iload dX12_set_174 rfl (fun _ => ?_)
                          refine g_bipush dX12_set_176 (inR_c rfl) (by decide) ?_
                          refine g_icmp_ne 211 dX12_set_178 (by decide) (fun q72 => ?_) (fun q72 => ?_)
                          · skip
                            refine g_iload dX12_set_211 rfl (fun _ => ?_)
                            refine g_bipush dX12_set_213 (inR_c rfl) (by decide) ?_
                            refine g_icmp_eq 225 dX12_set_215 (by decide) (fun q73 => ?_) (fun q73 => ?_)
                            · skip
                              refine g_aload_n dX12_set_225 rfl ?_
                              refine gI_X12_438 rfl dX12_set_226 sh_98 (m_98_73 hMh52) (fun v74 ev74 bv74 cv74 => ?_)
                              refine g_goto 258 dX12_set_229 (by decide) ?_
                              have q75 : h52 98 2 = v1 := ((hFh52 98 2 rfl).trans kz45)
                              have q76 : h52 98 3 = v2 := ((hFh52 98 3 rfl).trans kz46)
                              have q77 : h52 98 4 = v3 := ((hFh52 98 4 rfl).trans kz47)
                              have q78 : h52 98 5 = w98_5 := ((hFh52 98 5 rfl).trans kz48)
                              exact g_ireturn dX12_set_258 retI (hPo _ _ ⟨hMh52, (Fr.tr (Fr.tr (Fr.sub hFh33 rfl) hFh41 rfl) hFh52 rfl), (by omega), (by omega), (ISn.fr (T := [(103, 0)]) z43 (Fr.sub hFh52 rfl) rfl), (S1n.fr (T := [(103, 0)]) z44 (Fr.sub hFh52 rfl) rfl), (by omega), (by omega), (by omega), (by omega)⟩)
                            · skip
                              refine g_iload dX12_set_218 rfl (fun _ => ?_)
                              refine g_bipush dX12_set_220 (inR_c rfl) (by decide) ?_
                              refine g_icmp_ne 232 dX12_set_222 (by decide) (fun q79 => ?_) (fun _ => by exfalso; omega)
                              refine g_iload dX12_set_232 rfl (fun _ => ?_)
                              refine g_bipush dX12_set_234 (inR_c rfl) (by decide) ?_
                              refine g_icmp_ne 246 dX12_set_236 (by decide) (fun _ => by exfalso; omega) (fun q80 => ?_)
                              refine g_aload_n dX12_set_239 rfl ?_
                              refine gI_X12_441 rfl dX12_set_240 sh_98 (m_98_74 hMh52) (fun v81 ev81 bv81 cv81 => ?_)
                              refine g_goto 258 dX12_set_243 (by decide) ?_
                              have q82 : h52 98 2 = v1 := ((hFh52 98 2 rfl).trans kz45)
                              have q83 : h52 98 3 = v2 := ((hFh52 98 3 rfl).trans kz46)
                              have q84 : h52 98 4 = v3 := ((hFh52 98 4 rfl).trans kz47)
                              have q85 : h52 98 5 = w98_5 := ((hFh52 98 5 rfl).trans kz48)
                              exact g_ireturn dX12_set_258 retI (hPo _ _ ⟨hMh52, (Fr.tr (Fr.tr (Fr.sub hFh33 rfl) hFh41 rfl) hFh52 rfl), (by omega), (by omega), (ISn.fr (T := [(103, 0)]) z43 (Fr.sub hFh52 rfl) rfl), (S1n.fr (T := [(103, 0)]) z44 (Fr.sub hFh52 rfl) rfl), (by omega), (by omega), (by omega), (by omega)⟩)
                          · skip
                            refine g_aload_n dX12_set_181 rfl ?_
                            refine gR_X12_27 rfl dX12_set_182 sh_98 (b := 103) (m_98_11 hMh52) ?_
                            refine g_aload_n dX12_set_185 rfl ?_
                            refine gR_X12_157 rfl dX12_set_186 sh_98 (b := 146) (m_98_71 hMh52) ?_
                            refine g_iload dX12_set_189 rfl (fun _ => ?_)
                            refine g_ialdB dX12_set_191 sh_146 (by omega) (by omega) (m_146 hMh52 _) (fun v86 ev86 bv86 cv86 => ?_)
                            refine g_aload_n dX12_set_192 rfl ?_
                            refine g_aload_n dX12_set_193 rfl ?_
                            refine gE_X12_435 rfl dX12_set_194 sh_98 ((hFh52 98 72 rfl).trans ev49.symm) ?_
                            refine g_iload dX12_set_197 rfl (fun _ => ?_)
                            refine g_iload dX12_set_199 rfl (fun _ => ?_)
                            have q87 : h52 98 2 = v1 := ((hFh52 98 2 rfl).trans kz45)
                            refine g_cVP (as := [_, _, _]) (c_X12_roofIn_98 _ _ _ h52 hMh52 (by omega) (by omega) (by omega) (by omega) (by omega) (by omega) (by omega) (by omega)) dX12_set_201 mi_X12_roofIn in_X12_roofIn se_X12_roofIn ml_X12_444 rfl rfl rfl sh_98 rfl rfl (Nat.le_of_ble_eq_true rfl) (fun v88 q89 => ?_)
                            obtain ⟨bv88, cv88⟩ := q89
                            refine g_iastB dX12_set_204 sh_103 (by omega) (by omega) (fun h90 eh90 => ?_)
                            have hFh90 := Fr.ar eh90
                            have hMh90 := u_103 hMh52 eh90 (by omega) (by omega)
                            refine g_iincB dX12_set_205 rfl rfl (by omega) (by omega) ?_
                            refine g_goto 167 dX12_set_208 (by decide) ?_
                            exact ih167 _ _ hMh90 (Fr.tr (Fr.sub hFh52 rfl) hFh90 rfl) (by omega) (by omega) (by omega)
                    refine g_istore dX12_set_165 (by decide) rfl ?_
                    refine g_drop 1 ?_
                    refine g_drop 2 ?_
                    refine g_drop 3 ?_
                    exact c167 9 _ _ hMh41 Fr.rf (by omega) (by omega) (by omega)
                  · skip
                    refine g_bipush dX12_set_161 (inR_c rfl) (by decide) ?_
                    have q91 : h41 98 2 = v1 := kz45
                    have q92 : h41 98 3 = v2 := kz46
                    have q93 : h41 98 4 = v3 := kz47
                    have q94 : h41 98 5 = w98_5 := kz48
                    exact g_ireturn dX12_set_163 retI (hPo _ _ ⟨hMh41, (Fr.tr (Fr.sub hFh33 rfl) hFh41 rfl), (by omega), (by omega), z43, z44, (by omega), (by omega), (by omega), (by omega)⟩)
                · skip
                  refine g_iload_n dX12_set_99 rfl (fun _ => ?_)
                  refine g_iload dX12_set_100 rfl (fun _ => ?_)
                  refine g_cSP (av := [_, _]) (c_X12_has _ _ h33 hMh33 (by omega) (by omega) (by omega) (by omega)) dX12_set_102 mi_X12_has st_X12_has ml_X12_362 rfl rfl rfl rfl (Nat.le_of_ble_eq_true rfl) (fun v95 q96 => ?_)
                  obtain ⟨bv95, cv95, zv95⟩ := q96
                  refine g_if_ne 111 dX12_set_105 (by decide) (fun q97 => ?_) (fun q97 => ?_)
                  · skip
                    refine g_iload dX12_set_111 rfl (fun _ => ?_)
                    refine g_iload dX12_set_113 rfl (fun _ => ?_)
                    refine g_icmp_ne 123 dX12_set_115 (by decide) (fun q98 => ?_) (fun _ => by exfalso; omega)
                    refine g_iload dX12_set_123 rfl (fun _ => ?_)
                    refine g_istore dX12_set_125 (by decide) rfl ?_
                    refine g_aload_n dX12_set_127 rfl ?_
                    refine gR_X12_157 rfl dX12_set_128 sh_98 (b := 146) (m_98_71 hMh33) ?_
                    refine g_iload dX12_set_131 rfl (fun _ => ?_)
                    refine g_iload dX12_set_133 rfl (fun _ => ?_)
                    refine g_iastB dX12_set_135 sh_146 (by omega) (by omega) (fun h99 eh99 => ?_)
                    have hFh99 := Fr.ar eh99
                    have hMh99 := u_146 hMh33 eh99 (by omega) (by omega)
                    refine g_iincB dX12_set_136 rfl rfl (by omega) (by omega) ?_
                    refine g_iincB dX12_set_139 rfl rfl (by omega) (by omega) ?_
                    refine g_goto 90 dX12_set_142 (by decide) ?_
                    exact ih90 _ _ _ _ hMh99 (Fr.tr (Fr.sub hFh33 rfl) hFh99 rfl) (by omega) (by omega) (by omega) (by omega) (by omega) (by omega) (by omega) (by omega)
                  · skip
                    refine g_goto 139 dX12_set_108 (by decide) ?_
                    refine g_iincB dX12_set_139 rfl rfl (by omega) (by omega) ?_
                    refine g_goto 90 dX12_set_142 (by decide) ?_
                    exact ih90 _ _ _ _ hMh33 (Fr.sub hFh33 rfl) (by omega) (by omega) (by omega) (by omega) (by omega) (by omega) (by omega) (by omega)
            refine g_istore dX12_set_88 (by decide) rfl ?_
            exact c90 9 _ _ _ _ hM Fr.rf (by omega) (by omega) (by omega) (by omega) (by omega) (by omega) (by omega) (by omega)
          · skip
            refine g_if_ne 81 dX12_set_58 (by decide) (fun _ => by exfalso; omega) (fun q100 => ?_)
            refine g_aload_n dX12_set_61 rfl ?_
            refine g_iload dX12_set_62 rfl (fun _ => ?_)
            refine g_cVP (as := [_]) (c_X12_isApprentice_98 _ h hM (by omega) (by omega)) dX12_set_64 mi_X12_isApprentice in_X12_isApprentice se_X12_isApprentice ml_X12_195 rfl rfl rfl sh_98 rfl rfl (Nat.le_of_ble_eq_true rfl) (fun v101 q102 => ?_)
            have q103 : h 98 3 = v2 := ev2.symm
            rcases q102 with ⟨rfl, q102⟩ | ⟨rfl, q102⟩
            · skip
              refine g_if_eq 79 dX12_set_67 (by decide) (fun _ => by exfalso; omega) (fun q104 => ?_)
              refine g_iload_n dX12_set_70 rfl (fun _ => ?_)
              refine g_iload dX12_set_71 rfl (fun _ => ?_)
              refine g_cSP (av := [_, _]) (c_X12_has _ _ h hM (by omega) (by omega) (by omega) (by omega)) dX12_set_73 mi_X12_has st_X12_has ml_X12_362 rfl rfl rfl rfl (Nat.le_of_ble_eq_true rfl) (fun v105 q106 => ?_)
              obtain ⟨bv105, cv105, zv105⟩ := q106
              refine g_if_ne 81 dX12_set_76 (by decide) (fun q107 => ?_) (fun q107 => ?_)
              · skip
                refine g_iconst dX12_set_81 (inR_c rfl) ?_
                refine g_istore dX12_set_82 (by decide) rfl ?_
                refine g_iconst dX12_set_84 (inR_c rfl) ?_
                refine g_istore dX12_set_85 (by decide) rfl ?_
                refine g_iconst dX12_set_87 (inR_c rfl) ?_
                have c90 : ∀ (n : Nat) (y108 y109 y110 : Int) (h111 : MEM), MBm h111 → Fr [(146, 0)] h h111 → 0 ≤ y108 → y108 ≤ 8 → 0 ≤ y109 → y109 ≤ 7 → 0 ≤ y110 → y110 ≤ 8 → y108 + (-1) * y110 ≤ 0 → 8 - y108 < (n : Int) → G yX12_set cX12_set 8 (some .int) none Po (11, 660, 0, 0) 90 [some (pR 98), some (pI x1), some (pI x2), some (pI x3), some (pI x4), some (pI y108), some (pI y109), some (pI y110)] [] SH h111 0 0 := by
                  intro n
                  induction n with
                  | zero =>
                    intro y108 y109 y110 h111 hMh111 hFh111 by108 dy108 by109 dy109 by110 dy110 li90_0 hn
                    exfalso; omega
                  | succ n ih90 =>
                    intro y108 y109 y110 h111 hMh111 hFh111 by108 dy108 by109 dy109 by110 dy110 li90_0 hn
                    refine g_iload dX12_set_90 rfl (fun _ => ?_)
                    refine g_aload_n dX12_set_92 rfl ?_
                    refine gE_X12_179 rfl dX12_set_93 sh_98 ((hFh111 98 3 rfl).trans ev2.symm) ?_
                    refine g_icmp_ge 145 dX12_set_96 (by decide) (fun q112 => ?_) (fun q112 => ?_)
                    · skip
                      refine g_aload_n dX12_set_145 rfl ?_
                      refine g_iload dX12_set_146 rfl (fun _ => ?_)
                      refine g_iload_n dX12_set_148 rfl (fun _ => ?_)
                      refine g_iload_n dX12_set_149 rfl (fun _ => ?_)
                      have q113 : h111 98 2 = v1 := ((hFh111 98 2 rfl).trans ev1.symm)
                      have q114 : h111 98 5 = w98_5 := ((hFh111 98 5 rfl).trans ew98_5.symm)
                      have q115 : h111 98 2 = v1 := ((hFh111 98 2 rfl).trans ev1.symm)
                      have q116 : h111 98 3 = v2 := ((hFh111 98 3 rfl).trans ev2.symm)
                      have q117 : h111 98 4 = v3 := ((hFh111 98 4 rfl).trans ev3.symm)
                      have q118 : h111 98 5 = w98_5 := ((hFh111 98 5 rfl).trans ew98_5.symm)
                      refine g_cVV (as := [_, _, _]) (c_X12_findsSet_98 _ _ _ _ _ h111 hMh111 (by omega) (by omega) (by omega) (by omega) (by omega) (by omega) (by omega) (by omega) (by omega) (by omega) (WFL.fr (T := [(146, 0)]) f_WFL (Fr.sub hFh111 rfl) rfl) (ISn.fr (T := [(146, 0)]) f_IS (Fr.sub hFh111 rfl) rfl) (S1n.fr (T := [(146, 0)]) f_S1 (Fr.sub hFh111 rfl) rfl)) dX12_set_150 mi_X12_findsSet in_X12_findsSet se_X12_findsSet ml_X12_457 rfl rfl rfl sh_98 rfl rfl (Nat.le_of_ble_eq_true rfl) (fun h119 q120 => ?_)
                      obtain ⟨hMh119, hFh119, z121, z122, z123, z124, z125, z126⟩ := q120
                      have kz123 : h119 98 2 = v1 := by omega
                      have kz124 : h119 98 3 = v2 := by omega
                      have kz125 : h119 98 4 = v3 := by omega
                      have kz126 : h119 98 5 = w98_5 := by omega
                      refine g_aload_n dX12_set_153 rfl ?_
                      refine gI_X12_435 rfl dX12_set_154 sh_98 (m_98_72 hMh119) (fun v127 ev127 bv127 cv127 => ?_)
                      refine g_iconst dX12_set_157 (inR_c rfl) ?_
                      refine g_icmp_ne 164 dX12_set_158 (by decide) (fun q128 => ?_) (fun q128 => ?_)
                      · skip
                        refine g_iconst dX12_set_164 (inR_c rfl) ?_
                        have c167 : ∀ (n : Nat) (y129 : Int) (h130 : MEM), MBm h130 → Fr [(103, 0)] h119 h130 → 0 ≤ y129 → y129 ≤ 8 → 8 - y129 < (n : Int) → G yX12_set cX12_set 8 (some .int) none Po (11, 660, 0, 0) 167 [some (pR 98), none, none, none, some (pI x4), some (pI y108), some (pI y109), some (pI y129)] [] SH h130 0 0 := by
                          intro n
                          induction n with
                          | zero =>
                            intro y129 h130 hMh130 hFh130 by129 dy129 hn
                            exfalso; omega
                          | succ n ih167 =>
                            intro y129 h130 hMh130 hFh130 by129 dy129 hn
                            refine g_iload dX12_set_167 rfl (fun _ => ?_)
                            refine g_iload dX12_set_169 rfl (fun _ => ?_)
                            refine g_icmp_ge 211 dX12_set_171 (by decide) (fun q131 => ?_) (fun q131 => ?_)
                            · skip
                              refine g_iload dX12_set_211 rfl (fun _ => ?_)
                              refine g_bipush dX12_set_213 (inR_c rfl) (by decide) ?_
                              refine g_icmp_eq 225 dX12_set_215 (by decide) (fun _ => by exfalso; omega) (fun q132 => ?_)
                              refine g_iload dX12_set_218 rfl (fun _ => ?_)
                              refine g_bipush dX12_set_220 (inR_c rfl) (by decide) ?_
                              refine g_icmp_ne 232 dX12_set_222 (by decide) (fun q133 => ?_) (fun _ => by exfalso; omega)
                              refine g_iload dX12_set_232 rfl (fun _ => ?_)
                              refine g_bipush dX12_set_234 (inR_c rfl) (by decide) ?_
                              refine g_icmp_ne 246 dX12_set_236 (by decide) (fun q134 => ?_) (fun _ => by exfalso; omega)
                              refine g_aload_n dX12_set_246 rfl ?_
                              refine g_aload_n dX12_set_247 rfl ?_
                              refine gE_X12_435 rfl dX12_set_248 sh_98 ((hFh130 98 72 rfl).trans ev127.symm) ?_
                              refine g_iload dX12_set_251 rfl (fun _ => ?_)
                              refine g_iload dX12_set_253 rfl (fun _ => ?_)
                              have q135 : h130 98 2 = v1 := ((hFh130 98 2 rfl).trans kz123)
                              refine g_cVP (as := [_, _, _]) (c_X12_roofIn_98 _ _ _ h130 hMh130 (by omega) (by omega) (by omega) (by omega) (by omega) (by omega) (by omega) (by omega)) dX12_set_255 mi_X12_roofIn in_X12_roofIn se_X12_roofIn ml_X12_444 rfl rfl rfl sh_98 rfl rfl (Nat.le_of_ble_eq_true rfl) (fun v136 q137 => ?_)
                              obtain ⟨bv136, cv136⟩ := q137
                              have q138 : h130 98 2 = v1 := ((hFh130 98 2 rfl).trans kz123)
                              have q139 : h130 98 3 = v2 := ((hFh130 98 3 rfl).trans kz124)
                              have q140 : h130 98 4 = v3 := ((hFh130 98 4 rfl).trans kz125)
                              have q141 : h130 98 5 = w98_5 := ((hFh130 98 5 rfl).trans kz126)
                              exact g_ireturn dX12_set_258 retI (hPo _ _ ⟨hMh130, (Fr.tr (Fr.tr (Fr.sub hFh111 rfl) hFh119 rfl) hFh130 rfl), (by omega), (by omega), (ISn.fr (T := [(103, 0)]) z121 (Fr.sub hFh130 rfl) rfl), (S1n.fr (T := [(103, 0)]) z122 (Fr.sub hFh130 rfl) rfl), (by omega), (by omega), (by omega), (by omega)⟩)
                            · skip
                              refine g_iload dX12_set_174 rfl (fun _ => ?_)
                              refine g_bipush dX12_set_176 (inR_c rfl) (by decide) ?_
                              refine g_icmp_ne 211 dX12_set_178 (by decide) (fun q142 => ?_) (fun _ => by exfalso; omega)
                              refine g_iload dX12_set_211 rfl (fun _ => ?_)
                              refine g_bipush dX12_set_213 (inR_c rfl) (by decide) ?_
                              refine g_icmp_eq 225 dX12_set_215 (by decide) (fun _ => by exfalso; omega) (fun q143 => ?_)
                              refine g_iload dX12_set_218 rfl (fun _ => ?_)
                              refine g_bipush dX12_set_220 (inR_c rfl) (by decide) ?_
                              refine g_icmp_ne 232 dX12_set_222 (by decide) (fun q144 => ?_) (fun _ => by exfalso; omega)
                              refine g_iload dX12_set_232 rfl (fun _ => ?_)
                              refine g_bipush dX12_set_234 (inR_c rfl) (by decide) ?_
                              refine g_icmp_ne 246 dX12_set_236 (by decide) (fun q145 => ?_) (fun _ => by exfalso; omega)
                              refine g_aload_n dX12_set_246 rfl ?_
                              refine g_aload_n dX12_set_247 rfl ?_
                              refine gE_X12_435 rfl dX12_set_248 sh_98 ((hFh130 98 72 rfl).trans ev127.symm) ?_
                              refine g_iload dX12_set_251 rfl (fun _ => ?_)
                              refine g_iload dX12_set_253 rfl (fun _ => ?_)
                              have q146 : h130 98 2 = v1 := ((hFh130 98 2 rfl).trans kz123)
                              refine g_cVP (as := [_, _, _]) (c_X12_roofIn_98 _ _ _ h130 hMh130 (by omega) (by omega) (by omega) (by omega) (by omega) (by omega) (by omega) (by omega)) dX12_set_255 mi_X12_roofIn in_X12_roofIn se_X12_roofIn ml_X12_444 rfl rfl rfl sh_98 rfl rfl (Nat.le_of_ble_eq_true rfl) (fun v147 q148 => ?_)
                              obtain ⟨bv147, cv147⟩ := q148
                              have q149 : h130 98 2 = v1 := ((hFh130 98 2 rfl).trans kz123)
                              have q150 : h130 98 3 = v2 := ((hFh130 98 3 rfl).trans kz124)
                              have q151 : h130 98 4 = v3 := ((hFh130 98 4 rfl).trans kz125)
                              have q152 : h130 98 5 = w98_5 := ((hFh130 98 5 rfl).trans kz126)
                              exact g_ireturn dX12_set_258 retI (hPo _ _ ⟨hMh130, (Fr.tr (Fr.tr (Fr.sub hFh111 rfl) hFh119 rfl) hFh130 rfl), (by omega), (by omega), (ISn.fr (T := [(103, 0)]) z121 (Fr.sub hFh130 rfl) rfl), (S1n.fr (T := [(103, 0)]) z122 (Fr.sub hFh130 rfl) rfl), (by omega), (by omega), (by omega), (by omega)⟩)
                        refine g_istore dX12_set_165 (by decide) rfl ?_
                        refine g_drop 1 ?_
                        refine g_drop 2 ?_
                        refine g_drop 3 ?_
                        exact c167 9 _ _ hMh119 Fr.rf (by omega) (by omega) (by omega)
                      · skip
                        refine g_bipush dX12_set_161 (inR_c rfl) (by decide) ?_
                        have q153 : h119 98 2 = v1 := kz123
                        have q154 : h119 98 3 = v2 := kz124
                        have q155 : h119 98 4 = v3 := kz125
                        have q156 : h119 98 5 = w98_5 := kz126
                        exact g_ireturn dX12_set_163 retI (hPo _ _ ⟨hMh119, (Fr.tr (Fr.sub hFh111 rfl) hFh119 rfl), (by omega), (by omega), z121, z122, (by omega), (by omega), (by omega), (by omega)⟩)
                    · skip
                      refine g_iload_n dX12_set_99 rfl (fun _ => ?_)
                      refine g_iload dX12_set_100 rfl (fun _ => ?_)
                      refine g_cSP (av := [_, _]) (c_X12_has _ _ h111 hMh111 (by omega) (by omega) (by omega) (by omega)) dX12_set_102 mi_X12_has st_X12_has ml_X12_362 rfl rfl rfl rfl (Nat.le_of_ble_eq_true rfl) (fun v157 q158 => ?_)
                      obtain ⟨bv157, cv157, zv157⟩ := q158
                      refine g_if_ne 111 dX12_set_105 (by decide) (fun q159 => ?_) (fun q159 => ?_)
                      · skip
                        refine g_iload dX12_set_111 rfl (fun _ => ?_)
                        refine g_iload dX12_set_113 rfl (fun _ => ?_)
                        refine g_icmp_ne 123 dX12_set_115 (by decide) (fun q160 => ?_) (fun q160 => ?_)
                        · skip
                          refine g_iload dX12_set_123 rfl (fun _ => ?_)
                          refine g_istore dX12_set_125 (by decide) rfl ?_
                          refine g_aload_n dX12_set_127 rfl ?_
                          refine gR_X12_157 rfl dX12_set_128 sh_98 (b := 146) (m_98_71 hMh111) ?_
                          refine g_iload dX12_set_131 rfl (fun _ => ?_)
                          refine g_iload dX12_set_133 rfl (fun _ => ?_)
                          refine g_iastB dX12_set_135 sh_146 (by omega) (by omega) (fun h161 eh161 => ?_)
                          have hFh161 := Fr.ar eh161
                          have hMh161 := u_146 hMh111 eh161 (by omega) (by omega)
                          refine g_iincB dX12_set_136 rfl rfl (by omega) (by omega) ?_
                          refine g_iincB dX12_set_139 rfl rfl (by omega) (by omega) ?_
                          refine g_goto 90 dX12_set_142 (by decide) ?_
                          exact ih90 _ _ _ _ hMh161 (Fr.tr (Fr.sub hFh111 rfl) hFh161 rfl) (by omega) (by omega) (by omega) (by omega) (by omega) (by omega) (by omega) (by omega)
                        · skip
                          refine g_iload dX12_set_118 rfl (fun _ => ?_)
                          refine g_goto 125 dX12_set_120 (by decide) ?_
                          refine g_istore dX12_set_125 (by decide) rfl ?_
                          refine g_aload_n dX12_set_127 rfl ?_
                          refine gR_X12_157 rfl dX12_set_128 sh_98 (b := 146) (m_98_71 hMh111) ?_
                          refine g_iload dX12_set_131 rfl (fun _ => ?_)
                          refine g_iload dX12_set_133 rfl (fun _ => ?_)
                          refine g_iastB dX12_set_135 sh_146 (by omega) (by omega) (fun h162 eh162 => ?_)
                          have hFh162 := Fr.ar eh162
                          have hMh162 := u_146 hMh111 eh162 (by omega) (by omega)
                          refine g_iincB dX12_set_136 rfl rfl (by omega) (by omega) ?_
                          refine g_iincB dX12_set_139 rfl rfl (by omega) (by omega) ?_
                          refine g_goto 90 dX12_set_142 (by decide) ?_
                          exact ih90 _ _ _ _ hMh162 (Fr.tr (Fr.sub hFh111 rfl) hFh162 rfl) (by omega) (by omega) (by omega) (by omega) (by omega) (by omega) (by omega) (by omega)
                      · skip
                        refine g_goto 139 dX12_set_108 (by decide) ?_
                        refine g_iincB dX12_set_139 rfl rfl (by omega) (by omega) ?_
                        refine g_goto 90 dX12_set_142 (by decide) ?_
                        exact ih90 _ _ _ _ hMh111 (Fr.sub hFh111 rfl) (by omega) (by omega) (by omega) (by omega) (by omega) (by omega) (by omega) (by omega)
                refine g_istore dX12_set_88 (by decide) rfl ?_
                exact c90 9 _ _ _ _ hM Fr.rf (by omega) (by omega) (by omega) (by omega) (by omega) (by omega) (by omega) (by omega)
              · skip
                refine g_iconst dX12_set_79 (inR_c rfl) ?_
                have q163 : h 98 2 = v1 := ev1.symm
                have q164 : h 98 3 = v2 := ev2.symm
                have q165 : h 98 4 = v3 := ev3.symm
                have q166 : h 98 5 = w98_5 := ew98_5.symm
                exact g_ireturn dX12_set_80 retI (hPo _ _ ⟨hM, Fr.rf, (by omega), (by omega), f_IS, f_S1, (by omega), (by omega), (by omega), (by omega)⟩)
            · skip
              refine g_if_eq 79 dX12_set_67 (by decide) (fun q167 => ?_) (fun _ => by exfalso; omega)
              refine g_iconst dX12_set_79 (inR_c rfl) ?_
              have q168 : h 98 2 = v1 := ev1.symm
              have q169 : h 98 3 = v2 := ev2.symm
              have q170 : h 98 4 = v3 := ev3.symm
              have q171 : h 98 5 = w98_5 := ew98_5.symm
              exact g_ireturn dX12_set_80 retI (hPo _ _ ⟨hM, Fr.rf, (by omega), (by omega), f_IS, f_S1, (by omega), (by omega), (by omega), (by omega)⟩)
        · skip
          refine g_if_eq 79 dX12_set_43 (by decide) (fun q172 => ?_) (fun _ => by exfalso; omega)
          refine g_iconst dX12_set_79 (inR_c rfl) ?_
          have q173 : h 98 2 = v1 := ev1.symm
          have q174 : h 98 3 = v2 := ev2.symm
          have q175 : h 98 4 = v3 := ev3.symm
          have q176 : h 98 5 = w98_5 := ew98_5.symm
          exact g_ireturn dX12_set_80 retI (hPo _ _ ⟨hM, Fr.rf, (by omega), (by omega), f_IS, f_S1, (by omega), (by omega), (by omega), (by omega)⟩)
      · skip
        refine g_if_eq 79 dX12_set_31 (by decide) (fun q177 => ?_) (fun _ => by exfalso; omega)
        refine g_iconst dX12_set_79 (inR_c rfl) ?_
        have q178 : h 98 2 = v1 := ev1.symm
        have q179 : h 98 3 = v2 := ev2.symm
        have q180 : h 98 4 = v3 := ev3.symm
        have q181 : h 98 5 = w98_5 := ew98_5.symm
        exact g_ireturn dX12_set_80 retI (hPo _ _ ⟨hM, Fr.rf, (by omega), (by omega), f_IS, f_S1, (by omega), (by omega), (by omega), (by omega)⟩)
  · skip
    refine g_if_eq 79 dX12_set_15 (by decide) (fun q182 => ?_) (fun _ => by exfalso; omega)
    refine g_iconst dX12_set_79 (inR_c rfl) ?_
    have q183 : h 98 2 = v1 := ev1.symm
    have q184 : h 98 3 = v2 := ev2.symm
    have q185 : h 98 4 = v3 := ev3.symm
    have q186 : h 98 5 = w98_5 := ew98_5.symm
    exact g_ireturn dX12_set_80 retI (hPo _ _ ⟨hM, Fr.rf, (by omega), (by omega), f_IS, f_S1, (by omega), (by omega), (by omega), (by omega)⟩)
