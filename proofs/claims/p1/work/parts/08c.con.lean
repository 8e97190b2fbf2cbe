set_option maxRecDepth 100000 in
set_option maxHeartbeats 4000000 in
theorem c_X12_putsBack_98_k0 (h : MEM) (hM : MBm h) : CV yX12_putsBack cX12_putsBack 3 (none) 1 [pR 98, pI 0] h (fun h' => MBm h' ∧ Fr [(98, 3), (98, 4), (98, 5), (98, 6), (98, 7), (98, 8), (100, 0), (101, 0), (102, 0), (103, 0), (104, 0), (105, 0), (106, 0), (107, 0), (108, 0), (109, 0), (110, 0), (111, 0), (112, 0), (113, 0), (114, 0)] h h' ∧ h' 98 5 = h 145 3) := by
  refine CV.of (L0 := [some (pR 98), some (pI 0), none]) rfl (Nat.le_of_ble_eq_true rfl) rfl (fun Po hPo hav => ?_)
  obtain ⟨v1, ev1⟩ : ∃ z, z = h 145 3 := ⟨_, rfl⟩
  have bv1 : 0 ≤ v1 ∧ v1 ≤ 2000000000 := by rw [ev1]; exact (m_145_3 hM)
  refine g_iconst dX12_putsBack_0 (inR_c rfl) ?_
  have c2 : ∀ (n : Nat) (y2 : Int) (h3 : MEM), MBm h3 → Fr [(100, 0), (101, 0), (102, 0)] h h3 → 0 ≤ y2 → y2 ≤ 10 → 10 - y2 < (n : Int) → G yX12_putsBack cX12_putsBack 3 (none) none Po (1, 60, 0, 0) 2 [some (pR 98), some (pI 0), some (pI y2)] [] SH h3 0 0 := by
    intro n
    induction n with
    | zero =>
      intro y2 h3 hMh3 hFh3 by2 dy2 hn
      exfalso; omega
    | succ n ih =>
      intro y2 h3 hMh3 hFh3 by2 dy2 hn
      refine g_iload_n dX12_putsBack_2 rfl (fun _ => ?_)
      refine g_bipush dX12_putsBack_3 (inR_c rfl) (by decide) ?_
      refine g_icmp_ge 65 dX12_putsBack_5 (by decide) (fun q4 => ?_) (fun q4 => ?_)
      · skip
        refine g_iconst dX12_putsBack_65 (inR_c rfl) ?_
        have c67 : ∀ (n : Nat) (y5 : Int) (h6 : MEM), MBm h6 → Fr [(103, 0), (104, 0), (106, 0), (107, 0), (108, 0), (109, 0), (110, 0), (111, 0)] h3 h6 → 0 ≤ y5 → y5 ≤ 8 → 8 - y5 < (n : Int) → G yX12_putsBack cX12_putsBack 3 (none) none Po (1, 60, 0, 0) 67 [some (pR 98), some (pI 0), some (pI y5)] [] SH h6 0 0 := by
          intro n
          induction n with
          | zero =>
            intro y5 h6 hMh6 hFh6 by5 dy5 hn
            exfalso; omega
          | succ n ih =>
            intro y5 h6 hMh6 hFh6 by5 dy5 hn
            refine g_iload_n dX12_putsBack_67 rfl (fun _ => ?_)
            refine g_bipush dX12_putsBack_68 (inR_c rfl) (by decide) ?_
            refine g_icmp_ge 215 dX12_putsBack_70 (by decide) (fun q7 => ?_) (fun q7 => ?_)
            · skip
              refine g_iconst dX12_putsBack_215 (inR_c rfl) ?_
              have c217 : ∀ (n : Nat) (y8 : Int) (h9 : MEM), MBm h9 → Fr [(105, 0)] h6 h9 → 0 ≤ y8 → y8 ≤ 40 → 40 - y8 < (n : Int) → G yX12_putsBack cX12_putsBack 3 (none) none Po (1, 60, 0, 0) 217 [some (pR 98), some (pI 0), some (pI y8)] [] SH h9 0 0 := by
                intro n
                induction n with
                | zero =>
                  intro y8 h9 hMh9 hFh9 by8 dy8 hn
                  exfalso; omega
                | succ n ih =>
                  intro y8 h9 hMh9 hFh9 by8 dy8 hn
                  refine g_iload_n dX12_putsBack_217 rfl (fun _ => ?_)
                  refine g_bipush dX12_putsBack_218 (inR_c rfl) (by decide) ?_
                  refine g_icmp_ge 246 dX12_putsBack_220 (by decide) (fun q10 => ?_) (fun q10 => ?_)
                  · skip
                    refine g_iconst dX12_putsBack_246 (inR_c rfl) ?_
                    have c248 : ∀ (n : Nat) (y11 : Int) (h12 : MEM), MBm h12 → Fr [(112, 0), (113, 0)] h9 h12 → 0 ≤ y11 → y11 ≤ 64 → 64 - y11 < (n : Int) → G yX12_putsBack cX12_putsBack 3 (none) none Po (1, 60, 0, 0) 248 [some (pR 98), some (pI 0), some (pI y11)] [] SH h12 0 0 := by
                      intro n
                      induction n with
                      | zero =>
                        intro y11 h12 hMh12 hFh12 by11 dy11 hn
                        exfalso; omega
                      | succ n ih =>
                        intro y11 h12 hMh12 hFh12 by11 dy11 hn
                        refine g_iload_n dX12_putsBack_248 rfl (fun _ => ?_)
                        refine g_bipush dX12_putsBack_249 (inR_c rfl) (by decide) ?_
                        refine g_icmp_ge 294 dX12_putsBack_251 (by decide) (fun q13 => ?_) (fun q13 => ?_)
                        · skip
                          refine g_iconst dX12_putsBack_294 (inR_c rfl) ?_
                          have c296 : ∀ (n : Nat) (y14 : Int) (h15 : MEM), MBm h15 → Fr [(114, 0)] h12 h15 → 0 ≤ y14 → y14 ≤ 100 → 100 - y14 < (n : Int) → G yX12_putsBack cX12_putsBack 3 (none) none Po (1, 60, 0, 0) 296 [some (pR 98), some (pI 0), some (pI y14)] [] SH h15 0 0 := by
                            intro n
                            induction n with
                            | zero =>
                              intro y14 h15 hMh15 hFh15 by14 dy14 hn
                              exfalso; omega
                            | succ n ih =>
                              intro y14 h15 hMh15 hFh15 by14 dy14 hn
                              refine g_iload_n dX12_putsBack_296 rfl (fun _ => ?_)
                              refine g_bipush dX12_putsBack_297 (inR_c rfl) (by decide) ?_
                              refine g_icmp_ge 325 dX12_putsBack_299 (by decide) (fun q16 => ?_) (fun q16 => ?_)
                              · skip
                                refine g_aload_n dX12_putsBack_325 rfl ?_
                                refine g_aload_n dX12_putsBack_326 rfl ?_
                                refine gR_X12_154 rfl dX12_putsBack_327 sh_98 (b := 145) (m_98_70 hMh15) ?_
                                refine g_bipush dX12_putsBack_330 (inR_c rfl) (by decide) ?_
                                refine g_iload_n dX12_putsBack_332 rfl (fun _ => ?_)
                                refine g_imulB dX12_putsBack_333 (by omega) (by omega) ?_
                                refine g_ialdB dX12_putsBack_334 sh_145 (by omega) (by omega) (m_145_0 hMh15) (fun v17 ev17 bv17 cv17 => ?_)
                                refine pI_X12_172 rfl dX12_putsBack_335 sh_98 (fun h18 eh18 => ?_)
                                have hFh18 := Fr.st eh18
                                have hMh18 := u_98_2 hMh15 eh18 (by omega) (by omega)
                                refine g_aload_n dX12_putsBack_338 rfl ?_
                                refine g_aload_n dX12_putsBack_339 rfl ?_
                                refine gR_X12_154 rfl dX12_putsBack_340 sh_98 (b := 145) (m_98_70 hMh18) ?_
                                refine g_bipush dX12_putsBack_343 (inR_c rfl) (by decide) ?_
                                refine g_iload_n dX12_putsBack_345 rfl (fun _ => ?_)
                                refine g_imulB dX12_putsBack_346 (by omega) (by omega) ?_
                                refine g_iconst dX12_putsBack_347 (inR_c rfl) ?_
                                refine g_iaddB dX12_putsBack_348 (by omega) (by omega) ?_
                                refine g_ialdB dX12_putsBack_349 sh_145 (by omega) (by omega) (m_145_1 hMh18) (fun v19 ev19 bv19 cv19 => ?_)
                                refine pI_X12_179 rfl dX12_putsBack_350 sh_98 (fun h20 eh20 => ?_)
                                have hFh20 := Fr.st eh20
                                have hMh20 := u_98_3 hMh18 eh20 (by omega) (by omega)
                                refine g_aload_n dX12_putsBack_353 rfl ?_
                                refine g_aload_n dX12_putsBack_354 rfl ?_
                                refine gR_X12_154 rfl dX12_putsBack_355 sh_98 (b := 145) (m_98_70 hMh20) ?_
                                refine g_bipush dX12_putsBack_358 (inR_c rfl) (by decide) ?_
                                refine g_iload_n dX12_putsBack_360 rfl (fun _ => ?_)
                                refine g_imulB dX12_putsBack_361 (by omega) (by omega) ?_
                                refine g_iconst dX12_putsBack_362 (inR_c rfl) ?_
                                refine g_iaddB dX12_putsBack_363 (by omega) (by omega) ?_
                                refine g_ialdB dX12_putsBack_364 sh_145 (by omega) (by omega) (m_145_2 hMh20) (fun v21 ev21 bv21 cv21 => ?_)
                                refine pI_X12_182 rfl dX12_putsBack_365 sh_98 (fun h22 eh22 => ?_)
                                have hFh22 := Fr.st eh22
                                have hMh22 := u_98_4 hMh20 eh22 (by omega) (by omega)
                                refine g_aload_n dX12_putsBack_368 rfl ?_
                                refine g_aload_n dX12_putsBack_369 rfl ?_
                                refine gR_X12_154 rfl dX12_putsBack_370 sh_98 (b := 145) (m_98_70 hMh22) ?_
                                refine g_bipush dX12_putsBack_373 (inR_c rfl) (by decide) ?_
                                refine g_iload_n dX12_putsBack_375 rfl (fun _ => ?_)
                                refine g_imulB dX12_putsBack_376 (by omega) (by omega) ?_
                                refine g_iconst dX12_putsBack_377 (inR_c rfl) ?_
                                refine g_iaddB dX12_putsBack_378 (by omega) (by omega) ?_
                                refine g_ialdE dX12_putsBack_379 sh_145 (by omega) (by omega) ((hFh22 145 _ rfl).trans ((hFh20 145 _ rfl).trans ((hFh18 145 _ rfl).trans ((hFh15 145 _ rfl).trans ((hFh12 145 _ rfl).trans ((hFh9 145 _ rfl).trans ((hFh6 145 _ rfl).trans ((hFh3 145 _ rfl).trans ev1.symm)))))))) ?_
                                refine pI_X12_334 rfl dX12_putsBack_380 sh_98 (fun h23 eh23 => ?_)
                                have hFh23 := Fr.st eh23
                                have hMh23 := u_98_5 hMh22 eh23 (by omega) (by omega)
                                refine g_aload_n dX12_putsBack_383 rfl ?_
                                refine g_aload_n dX12_putsBack_384 rfl ?_
                                refine gR_X12_154 rfl dX12_putsBack_385 sh_98 (b := 145) (m_98_70 hMh23) ?_
                                refine g_bipush dX12_putsBack_388 (inR_c rfl) (by decide) ?_
                                refine g_iload_n dX12_putsBack_390 rfl (fun _ => ?_)
                                refine g_imulB dX12_putsBack_391 (by omega) (by omega) ?_
                                refine g_iconst dX12_putsBack_392 (inR_c rfl) ?_
                                refine g_iaddB dX12_putsBack_393 (by omega) (by omega) ?_
                                refine g_ialdB dX12_putsBack_394 sh_145 (by omega) (by omega) (m_145_4 hMh23) (fun v24 ev24 bv24 cv24 => ?_)
                                refine pI_X12_13 rfl dX12_putsBack_395 sh_98 (fun h25 eh25 => ?_)
                                have hFh25 := Fr.st eh25
                                have hMh25 := u_98_6 hMh23 eh25 (by omega) (by omega)
                                refine g_aload_n dX12_putsBack_398 rfl ?_
                                refine g_aload_n dX12_putsBack_399 rfl ?_
                                refine gR_X12_154 rfl dX12_putsBack_400 sh_98 (b := 145) (m_98_70 hMh25) ?_
                                refine g_bipush dX12_putsBack_403 (inR_c rfl) (by decide) ?_
                                refine g_iload_n dX12_putsBack_405 rfl (fun _ => ?_)
                                refine g_imulB dX12_putsBack_406 (by omega) (by omega) ?_
                                refine g_iconst dX12_putsBack_407 (inR_c rfl) ?_
                                refine g_iaddB dX12_putsBack_408 (by omega) (by omega) ?_
                                refine g_ialdB dX12_putsBack_409 sh_145 (by omega) (by omega) (m_145_5 hMh25) (fun v26 ev26 bv26 cv26 => ?_)
                                refine pI_X12_372 rfl dX12_putsBack_410 sh_98 (fun h27 eh27 => ?_)
                                have hFh27 := Fr.st eh27
                                have hMh27 := u_98_7 hMh25 eh27 (by omega) (by omega)
                                have q28 : h27 98 5 = v1 := ((hFh27 98 5 rfl).trans ((hFh25 98 5 rfl).trans (st_at eh23)))
                                exact g_return dX12_putsBack_413 rfl (hPo _ ⟨hMh27, (Fr.tr (Fr.tr (Fr.tr (Fr.tr (Fr.tr (Fr.tr (Fr.tr (Fr.tr (Fr.tr (Fr.tr (Fr.sub hFh3 rfl) hFh6 rfl) hFh9 rfl) hFh12 rfl) hFh15 rfl) hFh18 rfl) hFh20 rfl) hFh22 rfl) hFh23 rfl) hFh25 rfl) hFh27 rfl), (by omega)⟩)
                              · skip
                                refine g_aload_n dX12_putsBack_302 rfl ?_
                                refine gR_X12_61 rfl dX12_putsBack_303 sh_98 (b := 114) (m_98_22 hMh15) ?_
                                refine g_iload_n dX12_putsBack_306 rfl (fun _ => ?_)
                                refine g_aload_n dX12_putsBack_307 rfl ?_
                                refine gR_X12_151 rfl dX12_putsBack_308 sh_98 (b := 144) (m_98_69 hMh15) ?_
                                refine g_bipush dX12_putsBack_311 (inR_c rfl) (by decide) ?_
                                refine g_iload_n dX12_putsBack_313 rfl (fun _ => ?_)
                                refine g_imulB dX12_putsBack_314 (by omega) (by omega) ?_
                                refine g_iload_n dX12_putsBack_315 rfl (fun _ => ?_)
                                refine g_iaddB dX12_putsBack_316 (by omega) (by omega) ?_
                                refine g_zaldB dX12_putsBack_317 sh_144 (by omega) (by omega) (m_144 hMh15 _) (fun v29 ev29 bv29 cv29 => ?_)
                                refine g_zastB dX12_putsBack_318 sh_114 (by omega) (by omega) (by omega) (fun h30 eh30 => ?_)
                                have hFh30 := Fr.ar eh30
                                have hMh30 := u_114 hMh15 eh30 (by omega) (by omega)
                                refine g_iincB dX12_putsBack_319 rfl rfl (by omega) (by omega) ?_
                                refine g_goto 296 dX12_putsBack_322 (by decide) ?_
                                exact ih _ _ hMh30 (Fr.tr (Fr.sub hFh15 rfl) hFh30 rfl) (by omega) (by omega) (by omega)
                          refine g_istore_n dX12_putsBack_295 (by decide) rfl ?_
                          exact c296 101 _ _ hMh12 Fr.rf (by omega) (by omega) (by omega)
                        · skip
                          refine g_aload_n dX12_putsBack_254 rfl ?_
                          refine gR_X12_55 rfl dX12_putsBack_255 sh_98 (b := 112) (m_98_20 hMh12) ?_
                          refine g_iload_n dX12_putsBack_258 rfl (fun _ => ?_)
                          refine g_aload_n dX12_putsBack_259 rfl ?_
                          refine gR_X12_145 rfl dX12_putsBack_260 sh_98 (b := 142) (m_98_67 hMh12) ?_
                          refine g_bipush dX12_putsBack_263 (inR_c rfl) (by decide) ?_
                          refine g_iload_n dX12_putsBack_265 rfl (fun _ => ?_)
                          refine g_imulB dX12_putsBack_266 (by omega) (by omega) ?_
                          refine g_iload_n dX12_putsBack_267 rfl (fun _ => ?_)
                          refine g_iaddB dX12_putsBack_268 (by omega) (by omega) ?_
                          refine g_ialdB dX12_putsBack_269 sh_142 (by omega) (by omega) (m_142 hMh12 _) (fun v31 ev31 bv31 cv31 => ?_)
                          refine g_iastB dX12_putsBack_270 sh_112 (by omega) (by omega) (fun h32 eh32 => ?_)
                          have hFh32 := Fr.ar eh32
                          have hMh32 := u_112 hMh12 eh32 (by omega) (by omega)
                          refine g_aload_n dX12_putsBack_271 rfl ?_
                          refine gR_X12_58 rfl dX12_putsBack_272 sh_98 (b := 113) (m_98_21 hMh32) ?_
                          refine g_iload_n dX12_putsBack_275 rfl (fun _ => ?_)
                          refine g_aload_n dX12_putsBack_276 rfl ?_
                          refine gR_X12_148 rfl dX12_putsBack_277 sh_98 (b := 143) (m_98_68 hMh32) ?_
                          refine g_bipush dX12_putsBack_280 (inR_c rfl) (by decide) ?_
                          refine g_iload_n dX12_putsBack_282 rfl (fun _ => ?_)
                          refine g_imulB dX12_putsBack_283 (by omega) (by omega) ?_
                          refine g_iload_n dX12_putsBack_284 rfl (fun _ => ?_)
                          refine g_iaddB dX12_putsBack_285 (by omega) (by omega) ?_
                          refine g_ialdB dX12_putsBack_286 sh_143 (by omega) (by omega) (m_143 hMh32 _) (fun v33 ev33 bv33 cv33 => ?_)
                          refine g_iastB dX12_putsBack_287 sh_113 (by omega) (by omega) (fun h34 eh34 => ?_)
                          have hFh34 := Fr.ar eh34
                          have hMh34 := u_113 hMh32 eh34 (by omega) (by omega)
                          refine g_iincB dX12_putsBack_288 rfl rfl (by omega) (by omega) ?_
                          refine g_goto 248 dX12_putsBack_291 (by decide) ?_
                          exact ih _ _ hMh34 (Fr.tr (Fr.tr (Fr.sub hFh12 rfl) hFh32 rfl) hFh34 rfl) (by omega) (by omega) (by omega)
                    refine g_istore_n dX12_putsBack_247 (by decide) rfl ?_
                    exact c248 65 _ _ hMh9 Fr.rf (by omega) (by omega) (by omega)
                  · skip
                    refine g_aload_n dX12_putsBack_223 rfl ?_
                    refine gR_X12_33 rfl dX12_putsBack_224 sh_98 (b := 105) (m_98_13 hMh9) ?_
                    refine g_iload_n dX12_putsBack_227 rfl (fun _ => ?_)
                    refine g_aload_n dX12_putsBack_228 rfl ?_
                    refine gR_X12_124 rfl dX12_putsBack_229 sh_98 (b := 135) (m_98_60 hMh9) ?_
                    refine g_bipush dX12_putsBack_232 (inR_c rfl) (by decide) ?_
                    refine g_iload_n dX12_putsBack_234 rfl (fun _ => ?_)
                    refine g_imulB dX12_putsBack_235 (by omega) (by omega) ?_
                    refine g_iload_n dX12_putsBack_236 rfl (fun _ => ?_)
                    refine g_iaddB dX12_putsBack_237 (by omega) (by omega) ?_
                    refine g_ialdB dX12_putsBack_238 sh_135 (by omega) (by omega) (m_135 hMh9 _) (fun v35 ev35 bv35 cv35 => ?_)
                    refine g_iastB dX12_putsBack_239 sh_105 (by omega) (by omega) (fun h36 eh36 => ?_)
                    have hFh36 := Fr.ar eh36
                    have hMh36 := u_105 hMh9 eh36 (by omega) (by omega)
                    refine g_iincB dX12_putsBack_240 rfl rfl (by omega) (by omega) ?_
                    refine g_goto 217 dX12_putsBack_243 (by decide) ?_
                    exact ih _ _ hMh36 (Fr.tr (Fr.sub hFh9 rfl) hFh36 rfl) (by omega) (by omega) (by omega)
              refine g_istore_n dX12_putsBack_216 (by decide) rfl ?_
              exact c217 41 _ _ hMh6 Fr.rf (by omega) (by omega) (by omega)
            · skip
              refine g_aload_n dX12_putsBack_73 rfl ?_
              refine gR_X12_27 rfl dX12_putsBack_74 sh_98 (b := 103) (m_98_11 hMh6) ?_
              refine g_iload_n dX12_putsBack_77 rfl (fun _ => ?_)
              refine g_aload_n dX12_putsBack_78 rfl ?_
              refine gR_X12_118 rfl dX12_putsBack_79 sh_98 (b := 133) (m_98_58 hMh6) ?_
              refine g_bipush dX12_putsBack_82 (inR_c rfl) (by decide) ?_
              refine g_iload_n dX12_putsBack_84 rfl (fun _ => ?_)
              refine g_imulB dX12_putsBack_85 (by omega) (by omega) ?_
              refine g_iload_n dX12_putsBack_86 rfl (fun _ => ?_)
              refine g_iaddB dX12_putsBack_87 (by omega) (by omega) ?_
              refine g_ialdB dX12_putsBack_88 sh_133 (by omega) (by omega) (m_133 hMh6 _) (fun v37 ev37 bv37 cv37 => ?_)
              refine g_iastB dX12_putsBack_89 sh_103 (by omega) (by omega) (fun h38 eh38 => ?_)
              have hFh38 := Fr.ar eh38
              have hMh38 := u_103 hMh6 eh38 (by omega) (by omega)
              refine g_aload_n dX12_putsBack_90 rfl ?_
              refine gR_X12_30 rfl dX12_putsBack_91 sh_98 (b := 104) (m_98_12 hMh38) ?_
              refine g_iload_n dX12_putsBack_94 rfl (fun _ => ?_)
              refine g_aload_n dX12_putsBack_95 rfl ?_
              refine gR_X12_121 rfl dX12_putsBack_96 sh_98 (b := 134) (m_98_59 hMh38) ?_
              refine g_bipush dX12_putsBack_99 (inR_c rfl) (by decide) ?_
              refine g_iload_n dX12_putsBack_101 rfl (fun _ => ?_)
              refine g_imulB dX12_putsBack_102 (by omega) (by omega) ?_
              refine g_iload_n dX12_putsBack_103 rfl (fun _ => ?_)
              refine g_iaddB dX12_putsBack_104 (by omega) (by omega) ?_
              refine g_ialdB dX12_putsBack_105 sh_134 (by omega) (by omega) (m_134 hMh38 _) (fun v39 ev39 bv39 cv39 => ?_)
              refine g_iastB dX12_putsBack_106 sh_104 (by omega) (by omega) (fun h40 eh40 => ?_)
              have hFh40 := Fr.ar eh40
              have hMh40 := u_104 hMh38 eh40 (by omega) (by omega)
              refine g_aload_n dX12_putsBack_107 rfl ?_
              refine gR_X12_36 rfl dX12_putsBack_108 sh_98 (b := 106) (m_98_14 hMh40) ?_
              refine g_iload_n dX12_putsBack_111 rfl (fun _ => ?_)
              refine g_aload_n dX12_putsBack_112 rfl ?_
              refine gR_X12_127 rfl dX12_putsBack_113 sh_98 (b := 136) (m_98_61 hMh40) ?_
              refine g_bipush dX12_putsBack_116 (inR_c rfl) (by decide) ?_
              refine g_iload_n dX12_putsBack_118 rfl (fun _ => ?_)
              refine g_imulB dX12_putsBack_119 (by omega) (by omega) ?_
              refine g_iload_n dX12_putsBack_120 rfl (fun _ => ?_)
              refine g_iaddB dX12_putsBack_121 (by omega) (by omega) ?_
              refine g_zaldB dX12_putsBack_122 sh_136 (by omega) (by omega) (m_136 hMh40 _) (fun v41 ev41 bv41 cv41 => ?_)
              refine g_zastB dX12_putsBack_123 sh_106 (by omega) (by omega) (by omega) (fun h42 eh42 => ?_)
              have hFh42 := Fr.ar eh42
              have hMh42 := u_106 hMh40 eh42 (by omega) (by omega)
              refine g_aload_n dX12_putsBack_124 rfl ?_
              refine gR_X12_40 rfl dX12_putsBack_125 sh_98 (b := 107) (m_98_15 hMh42) ?_
              refine g_iload_n dX12_putsBack_128 rfl (fun _ => ?_)
              refine g_aload_n dX12_putsBack_129 rfl ?_
              refine gR_X12_130 rfl dX12_putsBack_130 sh_98 (b := 137) (m_98_62 hMh42) ?_
              refine g_bipush dX12_putsBack_133 (inR_c rfl) (by decide) ?_
              refine g_iload_n dX12_putsBack_135 rfl (fun _ => ?_)
              refine g_imulB dX12_putsBack_136 (by omega) (by omega) ?_
              refine g_iload_n dX12_putsBack_137 rfl (fun _ => ?_)
              refine g_iaddB dX12_putsBack_138 (by omega) (by omega) ?_
              refine g_ialdB dX12_putsBack_139 sh_137 (by omega) (by omega) (m_137 hMh42 _) (fun v43 ev43 bv43 cv43 => ?_)
              refine g_iastB dX12_putsBack_140 sh_107 (by omega) (by omega) (fun h44 eh44 => ?_)
              have hFh44 := Fr.ar eh44
              have hMh44 := u_107 hMh42 eh44 (by omega) (by omega)
              refine g_aload_n dX12_putsBack_141 rfl ?_
              refine gR_X12_43 rfl dX12_putsBack_142 sh_98 (b := 108) (m_98_16 hMh44) ?_
              refine g_iload_n dX12_putsBack_145 rfl (fun _ => ?_)
              refine g_aload_n dX12_putsBack_146 rfl ?_
              refine gR_X12_133 rfl dX12_putsBack_147 sh_98 (b := 138) (m_98_63 hMh44) ?_
              refine g_bipush dX12_putsBack_150 (inR_c rfl) (by decide) ?_
              refine g_iload_n dX12_putsBack_152 rfl (fun _ => ?_)
              refine g_imulB dX12_putsBack_153 (by omega) (by omega) ?_
              refine g_iload_n dX12_putsBack_154 rfl (fun _ => ?_)
              refine g_iaddB dX12_putsBack_155 (by omega) (by omega) ?_
              refine g_ialdB dX12_putsBack_156 sh_138 (by omega) (by omega) (m_138 hMh44 _) (fun v45 ev45 bv45 cv45 => ?_)
              refine g_iastB dX12_putsBack_157 sh_108 (by omega) (by omega) (fun h46 eh46 => ?_)
              have hFh46 := Fr.ar eh46
              have hMh46 := u_108 hMh44 eh46 (by omega) (by omega)
              refine g_aload_n dX12_putsBack_158 rfl ?_
              refine gR_X12_46 rfl dX12_putsBack_159 sh_98 (b := 109) (m_98_17 hMh46) ?_
              refine g_iload_n dX12_putsBack_162 rfl (fun _ => ?_)
              refine g_aload_n dX12_putsBack_163 rfl ?_
              refine gR_X12_136 rfl dX12_putsBack_164 sh_98 (b := 139) (m_98_64 hMh46) ?_
              refine g_bipush dX12_putsBack_167 (inR_c rfl) (by decide) ?_
              refine g_iload_n dX12_putsBack_169 rfl (fun _ => ?_)
              refine g_imulB dX12_putsBack_170 (by omega) (by omega) ?_
              refine g_iload_n dX12_putsBack_171 rfl (fun _ => ?_)
              refine g_iaddB dX12_putsBack_172 (by omega) (by omega) ?_
              refine g_ialdB dX12_putsBack_173 sh_139 (by omega) (by omega) (m_139 hMh46 _) (fun v47 ev47 bv47 cv47 => ?_)
              refine g_iastB dX12_putsBack_174 sh_109 (by omega) (by omega) (fun h48 eh48 => ?_)
              have hFh48 := Fr.ar eh48
              have hMh48 := u_109 hMh46 eh48 (by omega) (by omega)
              refine g_aload_n dX12_putsBack_175 rfl ?_
              refine gR_X12_49 rfl dX12_putsBack_176 sh_98 (b := 110) (m_98_18 hMh48) ?_
              refine g_iload_n dX12_putsBack_179 rfl (fun _ => ?_)
              refine g_aload_n dX12_putsBack_180 rfl ?_
              refine gR_X12_139 rfl dX12_putsBack_181 sh_98 (b := 140) (m_98_65 hMh48) ?_
              refine g_bipush dX12_putsBack_184 (inR_c rfl) (by decide) ?_
              refine g_iload_n dX12_putsBack_186 rfl (fun _ => ?_)
              refine g_imulB dX12_putsBack_187 (by omega) (by omega) ?_
              refine g_iload_n dX12_putsBack_188 rfl (fun _ => ?_)
              refine g_iaddB dX12_putsBack_189 (by omega) (by omega) ?_
              refine g_zaldB dX12_putsBack_190 sh_140 (by omega) (by omega) (m_140 hMh48 _) (fun v49 ev49 bv49 cv49 => ?_)
              refine g_zastB dX12_putsBack_191 sh_110 (by omega) (by omega) (by omega) (fun h50 eh50 => ?_)
              have hFh50 := Fr.ar eh50
              have hMh50 := u_110 hMh48 eh50 (by omega) (by omega)
              refine g_aload_n dX12_putsBack_192 rfl ?_
              refine gR_X12_52 rfl dX12_putsBack_193 sh_98 (b := 111) (m_98_19 hMh50) ?_
              refine g_iload_n dX12_putsBack_196 rfl (fun _ => ?_)
              refine g_aload_n dX12_putsBack_197 rfl ?_
              refine gR_X12_142 rfl dX12_putsBack_198 sh_98 (b := 141) (m_98_66 hMh50) ?_
              refine g_bipush dX12_putsBack_201 (inR_c rfl) (by decide) ?_
              refine g_iload_n dX12_putsBack_203 rfl (fun _ => ?_)
              refine g_imulB dX12_putsBack_204 (by omega) (by omega) ?_
              refine g_iload_n dX12_putsBack_205 rfl (fun _ => ?_)
              refine g_iaddB dX12_putsBack_206 (by omega) (by omega) ?_
              refine g_ialdB dX12_putsBack_207 sh_141 (by omega) (by omega) (m_141 hMh50 _) (fun v51 ev51 bv51 cv51 => ?_)
              refine g_iastB dX12_putsBack_208 sh_111 (by omega) (by omega) (fun h52 eh52 => ?_)
              have hFh52 := Fr.ar eh52
              have hMh52 := u_111 hMh50 eh52 (by omega) (by omega)
              refine g_iincB dX12_putsBack_209 rfl rfl (by omega) (by omega) ?_
              refine g_goto 67 dX12_putsBack_212 (by decide) ?_
              exact ih _ _ hMh52 (Fr.tr (Fr.tr (Fr.tr (Fr.tr (Fr.tr (Fr.tr (Fr.tr (Fr.tr (Fr.sub hFh6 rfl) hFh38 rfl) hFh40 rfl) hFh42 rfl) hFh44 rfl) hFh46 rfl) hFh48 rfl) hFh50 rfl) hFh52 rfl) (by omega) (by omega) (by omega)
        refine g_istore_n dX12_putsBack_66 (by decide) rfl ?_
        exact c67 9 _ _ hMh3 Fr.rf (by omega) (by omega) (by omega)
      · skip
        refine g_aload_n dX12_putsBack_8 rfl ?_
        refine gR_X12_17 rfl dX12_putsBack_9 sh_98 (b := 100) (m_98_8 hMh3) ?_
        refine g_iload_n dX12_putsBack_12 rfl (fun _ => ?_)
        refine g_aload_n dX12_putsBack_13 rfl ?_
        refine gR_X12_109 rfl dX12_putsBack_14 sh_98 (b := 130) (m_98_55 hMh3) ?_
        refine g_bipush dX12_putsBack_17 (inR_c rfl) (by decide) ?_
        refine g_iload_n dX12_putsBack_19 rfl (fun _ => ?_)
        refine g_imulB dX12_putsBack_20 (by omega) (by omega) ?_
        refine g_iload_n dX12_putsBack_21 rfl (fun _ => ?_)
        refine g_iaddB dX12_putsBack_22 (by omega) (by omega) ?_
        refine g_ialdB dX12_putsBack_23 sh_130 (by omega) (by omega) (m_130 hMh3 _) (fun v53 ev53 bv53 cv53 => ?_)
        refine g_iastB dX12_putsBack_24 sh_100 (by omega) (by omega) (fun h54 eh54 => ?_)
        have hFh54 := Fr.ar eh54
        have hMh54 := u_100 hMh3 eh54 (by omega) (by omega)
        refine g_aload_n dX12_putsBack_25 rfl ?_
        refine gR_X12_21 rfl dX12_putsBack_26 sh_98 (b := 101) (m_98_9 hMh54) ?_
        refine g_iload_n dX12_putsBack_29 rfl (fun _ => ?_)
        refine g_aload_n dX12_putsBack_30 rfl ?_
        refine gR_X12_112 rfl dX12_putsBack_31 sh_98 (b := 131) (m_98_56 hMh54) ?_
        refine g_bipush dX12_putsBack_34 (inR_c rfl) (by decide) ?_
        refine g_iload_n dX12_putsBack_36 rfl (fun _ => ?_)
        refine g_imulB dX12_putsBack_37 (by omega) (by omega) ?_
        refine g_iload_n dX12_putsBack_38 rfl (fun _ => ?_)
        refine g_iaddB dX12_putsBack_39 (by omega) (by omega) ?_
        refine g_ialdB dX12_putsBack_40 sh_131 (by omega) (by omega) (m_131 hMh54 _) (fun v55 ev55 bv55 cv55 => ?_)
        refine g_iastB dX12_putsBack_41 sh_101 (by omega) (by omega) (fun h56 eh56 => ?_)
        have hFh56 := Fr.ar eh56
        have hMh56 := u_101 hMh54 eh56 (by omega) (by omega)
        refine g_aload_n dX12_putsBack_42 rfl ?_
        refine gR_X12_24 rfl dX12_putsBack_43 sh_98 (b := 102) (m_98_10 hMh56) ?_
        refine g_iload_n dX12_putsBack_46 rfl (fun _ => ?_)
        refine g_aload_n dX12_putsBack_47 rfl ?_
        refine gR_X12_115 rfl dX12_putsBack_48 sh_98 (b := 132) (m_98_57 hMh56) ?_
        refine g_bipush dX12_putsBack_51 (inR_c rfl) (by decide) ?_
        refine g_iload_n dX12_putsBack_53 rfl (fun _ => ?_)
        refine g_imulB dX12_putsBack_54 (by omega) (by omega) ?_
        refine g_iload_n dX12_putsBack_55 rfl (fun _ => ?_)
        refine g_iaddB dX12_putsBack_56 (by omega) (by omega) ?_
        refine g_ialdB dX12_putsBack_57 sh_132 (by omega) (by omega) (m_132 hMh56 _) (fun v57 ev57 bv57 cv57 => ?_)
        refine g_iastB dX12_putsBack_58 sh_102 (by omega) (by omega) (fun h58 eh58 => ?_)
        have hFh58 := Fr.ar eh58
        have hMh58 := u_102 hMh56 eh58 (by omega) (by omega)
        refine g_iincB dX12_putsBack_59 rfl rfl (by omega) (by omega) ?_
        refine g_goto 2 dX12_putsBack_62 (by decide) ?_
        exact ih _ _ hMh58 (Fr.tr (Fr.tr (Fr.tr (Fr.sub hFh3 rfl) hFh54 rfl) hFh56 rfl) hFh58 rfl) (by omega) (by omega) (by omega)
  refine g_istore_n dX12_putsBack_1 (by decide) rfl ?_
  exact c2 11 _ _ hM Fr.rf (by omega) (by omega) (by omega)
set_option maxRecDepth 100000 in
set_option maxHeartbeats 4000000 in
theorem c_X12_allBruises_98 (h : MEM) (hM : MBm h) : CP yX12_allBruises cX12_allBruises 3 (some .int) 1 [pR 98] h (fun x => 0 ≤ x ∧ x ≤ 0) := by
  refine CP.of (L0 := [some (pR 98), none, none]) rfl (Nat.le_of_ble_eq_true rfl) rfl (fun Po hPo hav => ?_)
  refine g_iconst dX12_allBruises_0 (inR_c rfl) ?_
  refine g_istore_n dX12_allBruises_1 (by decide) rfl ?_
  refine g_iconst dX12_allBruises_2 (inR_c rfl) ?_
  refine g_istore_n dX12_allBruises_3 (by decide) rfl ?_
  refine g_iload_n dX12_allBruises_4 rfl (fun _ => ?_)
  refine g_aload_n dX12_allBruises_5 rfl ?_
  refine gI_X12_182 rfl dX12_allBruises_6 sh_98 (m_98_4 hM) (fun v1 ev1 bv1 cv1 => ?_)
  refine g_icmp_ge 27 dX12_allBruises_9 (by decide) (fun q2 => ?_) (fun _ => by exfalso; omega)
  refine g_iload_n dX12_allBruises_27 rfl (fun _ => ?_)
  exact g_ireturn dX12_allBruises_28 retI (hPo _ ⟨(by omega), (by omega)⟩)
set_option maxRecDepth 100000 in
set_option maxHeartbeats 4000000 in
theorem c_X12_allSlates_98 (h : MEM) (hM : MBm h) : CP yX12_allSlates cX12_allSlates 3 (some .int) 1 [pR 98] h (fun x => 0 ≤ x ∧ x ≤ 0) := by
  refine CP.of (L0 := [some (pR 98), none, none]) rfl (Nat.le_of_ble_eq_true rfl) rfl (fun Po hPo hav => ?_)
  refine g_iconst dX12_allSlates_0 (inR_c rfl) ?_
  refine g_istore_n dX12_allSlates_1 (by decide) rfl ?_
  refine g_iconst dX12_allSlates_2 (inR_c rfl) ?_
  refine g_istore_n dX12_allSlates_3 (by decide) rfl ?_
  refine g_iload_n dX12_allSlates_4 rfl (fun _ => ?_)
  refine g_aload_n dX12_allSlates_5 rfl ?_
  refine gI_X12_172 rfl dX12_allSlates_6 sh_98 (m_98_2 hM) (fun v1 ev1 bv1 cv1 => ?_)
  refine g_icmp_ge 27 dX12_allSlates_9 (by decide) (fun q2 => ?_) (fun _ => by exfalso; omega)
  refine g_iload_n dX12_allSlates_27 rfl (fun _ => ?_)
  exact g_ireturn dX12_allSlates_28 retI (hPo _ ⟨(by omega), (by omega)⟩)
set_option maxRecDepth 100000 in
set_option maxHeartbeats 4000000 in
theorem c_X12_tried_98 (x1 x2 : Int) (h : MEM) (hM : MBm h) (bx1 : -2147483648 ≤ x1) (dx1 : x1 ≤ 2147483647) (bx2 : -2147483648 ≤ x2) (dx2 : x2 ≤ 2147483647) (p0_0 : 0 ≤ h 98 5) (p0_1 : h 98 5 ≤ 0) : CI yX12_tried cX12_tried 4 (some .int) 5 [pR 98, pI x1, pI x2] h (fun x h' => Fr [(98, 3), (98, 4), (98, 5), (98, 6), (98, 7), (98, 8), (98, 49), (98, 52), (100, 0), (101, 0), (102, 0), (103, 0), (104, 0), (105, 0), (106, 0), (107, 0), (108, 0), (109, 0), (110, 0), (111, 0), (112, 0), (113, 0), (114, 0), (130, 0), (131, 0), (132, 0), (133, 0), (134, 0), (135, 0), (136, 0), (137, 0), (138, 0), (139, 0), (140, 0), (141, 0), (142, 0), (143, 0), (144, 0), (145, 1), (145, 2), (145, 3), (145, 4), (145, 5), (145, 6)] h h' ∧ ((1 ≤ x1 ∧ x1 ≤ 40 ∧ 0 ≤ x2 ∧ x2 ≤ 3) ∧ x = 0 ∨ ¬ (1 ≤ x1 ∧ x1 ≤ 40 ∧ 0 ≤ x2 ∧ x2 ≤ 3) ∧ x = -1)) := by
  refine CI.of (L0 := [some (pR 98), some (pI x1), some (pI x2), none]) rfl (Nat.le_of_ble_eq_true rfl) rfl (fun Po hPo hav => ?_)
  obtain ⟨w98_5, ew98_5⟩ : ∃ z, z = h 98 5 := ⟨_, rfl⟩
  refine g_iload_n dX12_tried_0 rfl (fun _ => ?_)
  refine g_cSP (av := [_]) (c_X12_areHours _ h hM (by omega) (by omega)) dX12_tried_1 mi_X12_areHours st_X12_areHours ml_X12_398 rfl rfl rfl rfl (Nat.le_of_ble_eq_true rfl) (fun v1 q2 => ?_)
  rcases q2 with ⟨rfl, q2⟩ | ⟨rfl, q2⟩
  · skip
    refine g_if_eq 41 dX12_tried_4 (by decide) (fun _ => by exfalso; omega) (fun q3 => ?_)
    refine g_iload_n dX12_tried_7 rfl (fun _ => ?_)
    refine g_i2l dX12_tried_8 ?_
    refine g_lconst (v := 0) dX12_tried_9 rfl ?_
    refine g_ldc2 (v := 3) dX12_tried_10 kl_X12_417 (by decide) ?_
    refine g_cSP (av := [_, _, _]) (c_X12_lies _ _ _ h hM (by omega) (by omega) (by omega) (by omega) (by omega) (by omega)) dX12_tried_13 mi_X12_lies st_X12_lies ml_X12_175 rfl rfl rfl rfl (Nat.le_of_ble_eq_true rfl) (fun v4 q5 => ?_)
    rcases q5 with ⟨rfl, q5⟩ | ⟨rfl, q5⟩
    · skip
      refine g_if_ne 43 dX12_tried_16 (by decide) (fun q6 => ?_) (fun _ => by exfalso; omega)
      refine g_aload_n dX12_tried_43 rfl ?_
      refine g_iconst dX12_tried_44 (inR_c rfl) ?_
      have q7 : h 98 5 = w98_5 := ew98_5.symm
      refine g_cVV (as := [_]) (c_X12_setsAside_98_k0  h hM) dX12_tried_45 mi_X12_setsAside in_X12_setsAside se_X12_setsAside ml_X12_419 rfl rfl rfl sh_98 rfl rfl (Nat.le_of_ble_eq_true rfl) (fun h8 q9 => ?_)
      obtain ⟨hMh8, hFh8, z10⟩ := q9
      have kz10 : h8 145 3 = w98_5 := by omega
      refine g_aload_n dX12_tried_48 rfl ?_
      refine g_iconst dX12_tried_49 (inR_c rfl) ?_
      refine pI_X12_366 rfl dX12_tried_50 sh_98 (fun h11 eh11 => ?_)
      have hFh11 := Fr.st eh11
      have hMh11 := u_98_51 hMh8 eh11 (by omega) (by omega)
      refine g_aload_n dX12_tried_53 rfl ?_
      refine g_iload_n dX12_tried_54 rfl (fun _ => ?_)
      have q12 : h11 98 5 = w98_5 := ((hFh11 98 5 rfl).trans ((hFh8 98 5 rfl).trans ew98_5.symm))
      have q13 : h11 98 5 = w98_5 := ((hFh11 98 5 rfl).trans ((hFh8 98 5 rfl).trans ew98_5.symm))
      refine g_cVV (as := [_]) (c_X12_goesOn_98 _ h11 hMh11 (by omega) (by omega) (by omega) (by omega)) dX12_tried_55 mi_X12_goesOn in_X12_goesOn se_X12_goesOn ml_X12_401 rfl rfl rfl sh_98 rfl rfl (Nat.le_of_ble_eq_true rfl) (fun h14 q15 => ?_)
      obtain ⟨hMh14, hFh14, z16⟩ := q15
      have kz16 : h14 98 5 = (w98_5 + x1) := by omega
      refine g_iload_n dX12_tried_58 rfl (fun _ => ?_)
      refine g_if_ne 69 dX12_tried_59 (by decide) (fun q17 => ?_) (fun q17 => ?_)
      · skip
        refine g_iload_n dX12_tried_69 rfl (fun _ => ?_)
        refine g_iconst dX12_tried_70 (inR_c rfl) ?_
        refine g_icmp_ne 81 dX12_tried_71 (by decide) (fun q18 => ?_) (fun q18 => ?_)
        · skip
          refine g_iload_n dX12_tried_81 rfl (fun _ => ?_)
          refine g_iconst dX12_tried_82 (inR_c rfl) ?_
          refine g_icmp_ne 93 dX12_tried_83 (by decide) (fun q19 => ?_) (fun q19 => ?_)
          · skip
            refine g_iload_n dX12_tried_93 rfl (fun _ => ?_)
            refine g_iconst dX12_tried_94 (inR_c rfl) ?_
            refine g_icmp_ne 105 dX12_tried_95 (by decide) (fun _ => by exfalso; omega) (fun q20 => ?_)
            refine g_aload_n dX12_tried_98 rfl ?_
            refine gI_X12_372 rfl dX12_tried_99 sh_98 (m_98_7 hMh14) (fun v21 ev21 bv21 cv21 => ?_)
            refine g_goto 132 dX12_tried_102 (by decide) ?_
            refine g_istore_n dX12_tried_132 (by decide) rfl ?_
            refine g_aload_n dX12_tried_133 rfl ?_
            refine g_iconst dX12_tried_134 (inR_c rfl) ?_
            have q22 : h14 145 3 = w98_5 := ((hFh14 145 _ rfl).trans ((hFh11 145 _ rfl).trans kz10))
            refine g_cVV (as := [_]) (c_X12_putsBack_98_k0  h14 hMh14) dX12_tried_135 mi_X12_putsBack in_X12_putsBack se_X12_putsBack ml_X12_428 rfl rfl rfl sh_98 rfl rfl (Nat.le_of_ble_eq_true rfl) (fun h23 q24 => ?_)
            obtain ⟨hMh23, hFh23, z25⟩ := q24
            have kz25 : h23 98 5 = w98_5 := by omega
            refine g_iload_n dX12_tried_138 rfl (fun _ => ?_)
            exact g_ireturn dX12_tried_139 retI (hPo _ _ ⟨(Fr.tr (Fr.tr (Fr.tr (Fr.sub hFh8 rfl) hFh11 rfl) hFh14 rfl) hFh23 rfl), (by omega)⟩)
          · skip
            refine g_aload_n dX12_tried_86 rfl ?_
            refine g_cVP (as := []) (c_X12_allBruises_98  h14 hMh14) dX12_tried_87 mi_X12_allBruises in_X12_allBruises se_X12_allBruises ml_X12_425 rfl rfl rfl sh_98 rfl rfl (Nat.le_of_ble_eq_true rfl) (fun v26 q27 => ?_)
            obtain ⟨bv26, cv26⟩ := q27
            refine g_goto 132 dX12_tried_90 (by decide) ?_
            refine g_istore_n dX12_tried_132 (by decide) rfl ?_
            refine g_aload_n dX12_tried_133 rfl ?_
            refine g_iconst dX12_tried_134 (inR_c rfl) ?_
            have q28 : h14 145 3 = w98_5 := ((hFh14 145 _ rfl).trans ((hFh11 145 _ rfl).trans kz10))
            refine g_cVV (as := [_]) (c_X12_putsBack_98_k0  h14 hMh14) dX12_tried_135 mi_X12_putsBack in_X12_putsBack se_X12_putsBack ml_X12_428 rfl rfl rfl sh_98 rfl rfl (Nat.le_of_ble_eq_true rfl) (fun h29 q30 => ?_)
            obtain ⟨hMh29, hFh29, z31⟩ := q30
            have kz31 : h29 98 5 = w98_5 := by omega
            refine g_iload_n dX12_tried_138 rfl (fun _ => ?_)
            exact g_ireturn dX12_tried_139 retI (hPo _ _ ⟨(Fr.tr (Fr.tr (Fr.tr (Fr.sub hFh8 rfl) hFh11 rfl) hFh14 rfl) hFh29 rfl), (by omega)⟩)
        · skip
          refine g_aload_n dX12_tried_74 rfl ?_
          refine gE_X12_366 rfl dX12_tried_75 sh_98 ((hFh14 98 51 rfl).trans (st_at eh11)) ?_
          refine g_goto 132 dX12_tried_78 (by decide) ?_
          refine g_istore_n dX12_tried_132 (by decide) rfl ?_
          refine g_aload_n dX12_tried_133 rfl ?_
          refine g_iconst dX12_tried_134 (inR_c rfl) ?_
          have q32 : h14 145 3 = w98_5 := ((hFh14 145 _ rfl).trans ((hFh11 145 _ rfl).trans kz10))
          refine g_cVV (as := [_]) (c_X12_putsBack_98_k0  h14 hMh14) dX12_tried_135 mi_X12_putsBack in_X12_putsBack se_X12_putsBack ml_X12_428 rfl rfl rfl sh_98 rfl rfl (Nat.le_of_ble_eq_true rfl) (fun h33 q34 => ?_)
          obtain ⟨hMh33, hFh33, z35⟩ := q34
          have kz35 : h33 98 5 = w98_5 := by omega
          refine g_iload_n dX12_tried_138 rfl (fun _ => ?_)
          exact g_ireturn dX12_tried_139 retI (hPo _ _ ⟨(Fr.tr (Fr.tr (Fr.tr (Fr.sub hFh8 rfl) hFh11 rfl) hFh14 rfl) hFh33 rfl), (by omega)⟩)
      · skip
        refine g_aload_n dX12_tried_62 rfl ?_
        refine g_cVP (as := []) (c_X12_allSlates_98  h14 hMh14) dX12_tried_63 mi_X12_allSlates in_X12_allSlates se_X12_allSlates ml_X12_422 rfl rfl rfl sh_98 rfl rfl (Nat.le_of_ble_eq_true rfl) (fun v36 q37 => ?_)
        obtain ⟨bv36, cv36⟩ := q37
        refine g_goto 132 dX12_tried_66 (by decide) ?_
        refine g_istore_n dX12_tried_132 (by decide) rfl ?_
        refine g_aload_n dX12_tried_133 rfl ?_
        refine g_iconst dX12_tried_134 (inR_c rfl) ?_
        have q38 : h14 145 3 = w98_5 := ((hFh14 145 _ rfl).trans ((hFh11 145 _ rfl).trans kz10))
        refine g_cVV (as := [_]) (c_X12_putsBack_98_k0  h14 hMh14) dX12_tried_135 mi_X12_putsBack in_X12_putsBack se_X12_putsBack ml_X12_428 rfl rfl rfl sh_98 rfl rfl (Nat.le_of_ble_eq_true rfl) (fun h39 q40 => ?_)
        obtain ⟨hMh39, hFh39, z41⟩ := q40
        have kz41 : h39 98 5 = w98_5 := by omega
        refine g_iload_n dX12_tried_138 rfl (fun _ => ?_)
        exact g_ireturn dX12_tried_139 retI (hPo _ _ ⟨(Fr.tr (Fr.tr (Fr.tr (Fr.sub hFh8 rfl) hFh11 rfl) hFh14 rfl) hFh39 rfl), (by omega)⟩)
    · skip
      refine g_if_ne 43 dX12_tried_16 (by decide) (fun _ => by exfalso; omega) (fun q42 => ?_)
      refine g_aload_n dX12_tried_19 rfl ?_
      refine g_iload_n dX12_tried_20 rfl (fun _ => ?_)
      refine g_bipush dX12_tried_21 (inR_c rfl) (by decide) ?_
      refine g_isubF dX12_tried_23 (fun v43 bv43 cv43 => ?_)
      refine g_cVP (as := [_]) (c_X12_isRoof_98 _ h hM (by omega) (by omega)) dX12_tried_24 mi_X12_isRoof in_X12_isRoof se_X12_isRoof ml_X12_198 rfl rfl rfl sh_98 rfl rfl (Nat.le_of_ble_eq_true rfl) (fun v44 q45 => ?_)
      obtain ⟨v46, ev46⟩ : ∃ z, z = h 98 2 := ⟨_, rfl⟩
      have bv46 : 0 ≤ v46 ∧ v46 ≤ 0 := by rw [ev46]; exact (m_98_2 hM)
      rcases q45 with ⟨rfl, q45⟩ | ⟨rfl, q45⟩
      · skip
        exfalso; omega
      · skip
        refine g_if_ne 43 dX12_tried_27 (by decide) (fun _ => by exfalso; omega) (fun q47 => ?_)
        refine g_aload_n dX12_tried_30 rfl ?_
        refine g_iload_n dX12_tried_31 rfl (fun _ => ?_)
        refine g_bipush dX12_tried_32 (inR_c rfl) (by decide) ?_
        refine g_isubF dX12_tried_34 (fun v48 bv48 cv48 => ?_)
        refine g_cVP (as := [_]) (c_X12_isMaster_98 _ h hM (by omega) (by omega)) dX12_tried_35 mi_X12_isMaster in_X12_isMaster se_X12_isMaster ml_X12_201 rfl rfl rfl sh_98 rfl rfl (Nat.le_of_ble_eq_true rfl) (fun v49 q50 => ?_)
        obtain ⟨v51, ev51⟩ : ∃ z, z = h 98 4 := ⟨_, rfl⟩
        have bv51 : 0 ≤ v51 ∧ v51 ≤ 0 := by rw [ev51]; exact (m_98_4 hM)
        rcases q50 with ⟨rfl, q50⟩ | ⟨rfl, q50⟩
        · skip
          exfalso; omega
        · skip
          refine g_if_ne 43 dX12_tried_38 (by decide) (fun _ => by exfalso; omega) (fun q52 => ?_)
          refine g_iconst dX12_tried_41 (inR_c rfl) ?_
          exact g_ireturn dX12_tried_42 retI (hPo _ _ ⟨Fr.rf, (by omega)⟩)
  · skip
    refine g_if_eq 41 dX12_tried_4 (by decide) (fun q53 => ?_) (fun _ => by exfalso; omega)
    refine g_iconst dX12_tried_41 (inR_c rfl) ?_
    exact g_ireturn dX12_tried_42 retI (hPo _ _ ⟨Fr.rf, (by omega)⟩)
set_option maxRecDepth 100000 in
set_option maxHeartbeats 4000000 in
theorem c_X11_areTold_0 (x1 : Int) (h : MEM) (hM : MBx h) (bx1 : -2147483648 ≤ x1) (dx1 : x1 ≤ 2147483647) : CP yX11_areTold cX11_areTold 2 (some .boolean) 2 [pR 0, pI x1] h (fun x => 0 ≤ x ∧ x ≤ 1) := by
  refine CP.of (L0 := [some (pR 0), some (pI x1)]) rfl (Nat.le_of_ble_eq_true rfl) rfl (fun Po hPo hav => ?_)
  refine g_iload_n dX11_areTold_0 rfl (fun _ => ?_)
  refine g_if_le 31 dX11_areTold_1 (by decide) (fun q1 => ?_) (fun q1 => ?_)
  · skip
    refine g_iconst dX11_areTold_31 (inR_c rfl) ?_
    exact g_ireturn dX11_areTold_32 (retZ (by omega)) (hPo _ ⟨(by omega), (by omega)⟩)
  · skip
    refine g_iload_n dX11_areTold_4 rfl (fun _ => ?_)
    refine g_aload_n dX11_areTold_5 rfl ?_
    refine gR_X11_10 rfl dX11_areTold_6 sh_0 (b := 1) (m_0_0 hM) ?_
    refine gR_X11_95 rfl dX11_areTold_9 sh_1 (b := 6) (m_1_1 hM) ?_
    refine gI_X11_310 rfl dX11_areTold_12 sh_6 (m_6_0 hM) (fun v2 ev2 bv2 cv2 => ?_)
    refine g_ishrF dX11_areTold_15 (fun v3 ev3 bv3 cv3 => ?_)
    refine g_if_ne 31 dX11_areTold_16 (by decide) (fun q4 => ?_) (fun q4 => ?_)
    · skip
      refine g_iconst dX11_areTold_31 (inR_c rfl) ?_
      exact g_ireturn dX11_areTold_32 (retZ (by omega)) (hPo _ ⟨(by omega), (by omega)⟩)
    · skip
      refine g_iload_n dX11_areTold_19 rfl (fun _ => ?_)
      refine g_bitc dX11_areTold_20 ml_X11_241 rfl (Nat.le_of_ble_eq_true rfl) (fun v5 ev5 bv5 cv5 => ?_)
      refine g_iconst dX11_areTold_23 (inR_c rfl) ?_
      refine g_icmp_gt 31 dX11_areTold_24 (by decide) (fun q6 => ?_) (fun q6 => ?_)
      · skip
        refine g_iconst dX11_areTold_31 (inR_c rfl) ?_
        exact g_ireturn dX11_areTold_32 (retZ (by omega)) (hPo _ ⟨(by omega), (by omega)⟩)
      · skip
        refine g_iconst dX11_areTold_27 (inR_c rfl) ?_
        refine g_goto 32 dX11_areTold_28 (by decide) ?_
        exact g_ireturn dX11_areTold_32 (retZ (by omega)) (hPo _ ⟨(by omega), (by omega)⟩)
set_option maxRecDepth 100000 in
set_option maxHeartbeats 4000000 in
theorem c_X11_set_0 (x1 x2 x3 x4 : Int) (h : MEM) (hM : MBx h) (bx1 : -2147483648 ≤ x1) (dx1 : x1 ≤ 2147483647) (bx2 : -2147483648 ≤ x2) (dx2 : x2 ≤ 2147483647) (bx3 : -2147483648 ≤ x3) (dx3 : x3 ≤ 2147483647) (bx4 : -2147483648 ≤ x4) (dx4 : x4 ≤ 2147483647) : CP yX11_set cX11_set 6 (some .int) 3 [pR 0, pI x1, pI x2, pI x3, pI x4] h (fun x => x = -1) := by
  refine CP.of (L0 := [some (pR 0), some (pI x1), some (pI x2), some (pI x3), some (pI x4), none]) rfl (Nat.le_of_ble_eq_true rfl) rfl (fun Po hPo hav => ?_)
  refine g_aload_n dX11_set_0 rfl ?_
  refine gR_X11_10 rfl dX11_set_1 sh_0 (b := 1) (m_0_0 hM) ?_
  refine gR_X11_95 rfl dX11_set_4 sh_1 (b := 6) (m_1_1 hM) ?_
  refine g_iload dX11_set_7 rfl (fun _ => ?_)
  refine g_cVP (as := [_]) (c_X0_has_6 _ h hM (by omega) (by omega)) dX11_set_9 mi_X0_has in_X0_has se_X0_has ml_X11_113 rfl rfl rfl sh_6 rfl rfl (Nat.le_of_ble_eq_true rfl) (fun v1 q2 => ?_)
  obtain ⟨v3, ev3⟩ : ∃ z, z = h 6 0 := ⟨_, rfl⟩
  have bv3 : 0 ≤ v3 ∧ v3 ≤ 0 := by rw [ev3]; exact (m_6_0 hM)
  rcases q2 with ⟨rfl, q2⟩ | ⟨rfl, q2⟩
  · skip
    exfalso; omega
  · skip
    refine g_if_eq 29 dX11_set_12 (by decide) (fun q4 => ?_) (fun _ => by exfalso; omega)
    refine g_iconst dX11_set_29 (inR_c rfl) ?_
    refine g_istore dX11_set_30 (by decide) rfl ?_
    refine g_aload_n dX11_set_32 rfl ?_
    refine g_iload_n dX11_set_33 rfl (fun _ => ?_)
    refine g_cVP (as := [_]) (c_X11_areTold_0 _ h hM (by omega) (by omega)) dX11_set_34 mi_X11_areTold in_X11_areTold se_X11_areTold ml_X11_216 rfl rfl rfl sh_0 rfl rfl (Nat.le_of_ble_eq_true rfl) (fun v5 q6 => ?_)
    obtain ⟨bv5, cv5⟩ := q6
    refine g_if_eq 81 dX11_set_37 (by decide) (fun q7 => ?_) (fun q7 => ?_)
    · skip
      refine g_iconst dX11_set_81 (inR_c rfl) ?_
      exact g_ireturn dX11_set_82 retI (hPo _ (by omega))
    · skip
      refine g_aload_n dX11_set_40 rfl ?_
      refine gR_X11_10 rfl dX11_set_41 sh_0 (b := 1) (m_0_0 hM) ?_
      refine gR_X11_85 rfl dX11_set_44 sh_1 (b := 2) (m_1_0 hM) ?_
      refine g_iload_n dX11_set_47 rfl (fun _ => ?_)
      refine g_cVP (as := [_]) (c_X6_has_2 _ h hM (by omega) (by omega)) dX11_set_48 mi_X6_has in_X6_has se_X6_has ml_X11_159 rfl rfl rfl sh_2 rfl rfl (Nat.le_of_ble_eq_true rfl) (fun v8 q9 => ?_)
      obtain ⟨v10, ev10⟩ : ∃ z, z = h 2 0 := ⟨_, rfl⟩
      have bv10 : 0 ≤ v10 ∧ v10 ≤ 0 := by rw [ev10]; exact (m_2_0 hM)
      rcases q9 with ⟨rfl, q9⟩ | ⟨rfl, q9⟩
      · skip
        exfalso; omega
      · skip
        refine g_if_eq 81 dX11_set_51 (by decide) (fun q11 => ?_) (fun _ => by exfalso; omega)
        refine g_iconst dX11_set_81 (inR_c rfl) ?_
        exact g_ireturn dX11_set_82 retI (hPo _ (by omega))
set_option maxRecDepth 100000 in
set_option maxHeartbeats 4000000 in
theorem c_X12_set_98 (x1 x2 x3 x4 : Int) (h : MEM) (hM : MBm h) (bx1 : -2147483648 ≤ x1) (dx1 : x1 ≤ 2147483647) (bx2 : -2147483648 ≤ x2) (dx2 : x2 ≤ 2147483647) (bx3 : -2147483648 ≤ x3) (dx3 : x3 ≤ 2147483647) (bx4 : -2147483648 ≤ x4) (dx4 : x4 ≤ 2147483647) : CP yX12_set cX12_set 8 (some .int) 2 [pR 98, pI x1, pI x2, pI x3, pI x4] h (fun x => x = -1) := by
  refine CP.of (L0 := [some (pR 98), some (pI x1), some (pI x2), some (pI x3), some (pI x4), none, none, none]) rfl (Nat.le_of_ble_eq_true rfl) rfl (fun Po hPo hav => ?_)
  refine g_iload_n dX12_set_0 rfl (fun _ => ?_)
  refine g_i2l dX12_set_1 ?_
  refine g_lconst (v := 1) dX12_set_2 rfl ?_
  refine g_iconst dX12_set_3 (inR_c rfl) ?_
  refine g_aload_n dX12_set_4 rfl ?_
  refine gI_X12_179 rfl dX12_set_5 sh_98 (m_98_3 hM) (fun v1 ev1 bv1 cv1 => ?_)
  refine g_ishlX (lo := 1) (hi := 1) dX12_set_8 (ishl1_b 0 (by decide) (by omega) (by omega)) (fun v2 ev2 bv2 cv2 => ?_)
  refine g_iconst dX12_set_9 (inR_c rfl) ?_
  refine g_isubB dX12_set_10 (by omega) (by omega) ?_
  refine g_i2l dX12_set_11 ?_
  refine g_cSP (av := [_, _, _]) (c_X12_lies _ _ _ h hM (by omega) (by omega) (by omega) (by omega) (by omega) (by omega)) dX12_set_12 mi_X12_lies st_X12_lies ml_X12_175 rfl rfl rfl rfl (Nat.le_of_ble_eq_true rfl) (fun v3 q4 => ?_)
  rcases q4 with ⟨rfl, q4⟩ | ⟨rfl, q4⟩
  · skip
    exfalso; omega
  · skip
    refine g_if_eq 79 dX12_set_15 (by decide) (fun q5 => ?_) (fun _ => by exfalso; omega)
    refine g_iconst dX12_set_79 (inR_c rfl) ?_
    exact g_ireturn dX12_set_80 retI (hPo _ (by omega))
set_option maxRecDepth 100000 in
set_option maxHeartbeats 4000000 in
theorem c_X9_hoursWithoutSnow_1 (x1 : Int) (h : MEM) (hM : MBx h) (bx1 : 1 ≤ x1) (dx1 : x1 ≤ 8) (p0_0 : 0 ≤ h 1 6) (p0_1 : h 1 6 ≤ 0) : CP yX9_hoursWithoutSnow cX9_hoursWithoutSnow 5 (some .int) 1 [pR 1, pI x1] h (fun x => 0 ≤ x ∧ x ≤ 255 ∧ x = pw x1 - 1) := by
  refine CP.of (L0 := [some (pR 1), some (pI x1), none, none, none]) rfl (Nat.le_of_ble_eq_true rfl) rfl (fun Po hPo hav => ?_)
  obtain ⟨w1_6, ew1_6⟩ : ∃ z, z = h 1 6 := ⟨_, rfl⟩
  refine g_iconst dX9_hoursWithoutSnow_0 (inR_c rfl) ?_
  refine g_istore_n dX9_hoursWithoutSnow_1 (by decide) rfl ?_
  refine g_iconst dX9_hoursWithoutSnow_2 (inR_c rfl) ?_
  have c4 : ∀ (n : Nat) (y1 y2 : Int) , 0 ≤ y1 → y1 ≤ 255 → 0 ≤ y2 → y2 ≤ 8 → y1 = pw y2 - 1 → y2 ≤ x1 → 8 - y2 < (n : Int) → G yX9_hoursWithoutSnow cX9_hoursWithoutSnow 5 (some .int) none Po (1, 60, 0, 0) 4 [some (pR 1), some (pI x1), some (pI y1), some (pI y2), none] [] SH h 0 0 := by
    intro n
    induction n with
    | zero =>
      intro y1 y2 by1 dy1 by2 dy2 e4_0 e4_1 hn
      exfalso; omega
    | succ n ih =>
      intro y1 y2 by1 dy1 by2 dy2 e4_0 e4_1 hn
      refine g_iload_n dX9_hoursWithoutSnow_4 rfl (fun _ => ?_)
      refine g_iload_n dX9_hoursWithoutSnow_5 rfl (fun _ => ?_)
      refine g_icmp_ge 51 dX9_hoursWithoutSnow_6 (by decide) (fun q3 => ?_) (fun q3 => ?_)
      · skip
        refine g_iload_n dX9_hoursWithoutSnow_51 rfl (fun _ => ?_)
        have pe2 := pw_c (show y2 = x1 by omega)
        exact g_ireturn dX9_hoursWithoutSnow_52 retI (hPo _ ⟨(by omega), (by omega), (by omega)⟩)
      · skip
        refine g_aload_n dX9_hoursWithoutSnow_9 rfl ?_
        refine gE_X9_42 rfl dX9_hoursWithoutSnow_10 sh_1 ew1_6.symm ?_
        refine g_iload_n dX9_hoursWithoutSnow_13 rfl (fun _ => ?_)
        refine g_iaddB dX9_hoursWithoutSnow_14 (by omega) (by omega) ?_
        refine g_istore dX9_hoursWithoutSnow_15 (by decide) rfl ?_
        refine g_iload dX9_hoursWithoutSnow_17 rfl (fun _ => ?_)
        refine g_if_lt 45 dX9_hoursWithoutSnow_19 (by decide) (fun _ => by exfalso; omega) (fun q4 => ?_)
        refine g_iload dX9_hoursWithoutSnow_22 rfl (fun _ => ?_)
        refine g_bipush dX9_hoursWithoutSnow_24 (inR_c rfl) (by decide) ?_
        refine g_icmp_ge 45 dX9_hoursWithoutSnow_26 (by decide) (fun _ => by exfalso; omega) (fun q5 => ?_)
        refine g_aload_n dX9_hoursWithoutSnow_29 rfl ?_
        refine gR_X9_39 rfl dX9_hoursWithoutSnow_30 sh_1 (b := 19) (m_1_5 hM) ?_
        refine g_iload dX9_hoursWithoutSnow_33 rfl (fun _ => ?_)
        refine g_ialdB dX9_hoursWithoutSnow_35 sh_19 (by omega) (by omega) (m_19 hM _) (fun v6 ev6 bv6 cv6 => ?_)
        refine g_if_ne 45 dX9_hoursWithoutSnow_36 (by decide) (fun _ => by exfalso; omega) (fun q7 => ?_)
        refine g_iload_n dX9_hoursWithoutSnow_39 rfl (fun _ => ?_)
        refine g_iconst dX9_hoursWithoutSnow_40 (inR_c rfl) ?_
        refine g_iload_n dX9_hoursWithoutSnow_41 rfl (fun _ => ?_)
        refine g_ishlX (lo := 1) (hi := 128) dX9_hoursWithoutSnow_42 (ishl1_b 7 (by decide) (by omega) (by omega)) (fun v8 ev8 bv8 cv8 => ?_)
        refine g_iorX (lo := 0) (hi := 255) dX9_hoursWithoutSnow_43 (ior_b 8 (by decide) (by omega) (by omega) (by omega) (by omega)) (fun v9 ev9 bv9 cv9 => ?_)
        refine g_istore_n dX9_hoursWithoutSnow_44 (by decide) rfl ?_
        refine g_iincB dX9_hoursWithoutSnow_45 rfl rfl (by omega) (by omega) ?_
        refine g_goto 4 dX9_hoursWithoutSnow_48 (by decide) ?_
        refine g_drop 4 ?_
        exact ih _ _ (by omega) (by omega) (by omega) (by omega) (by first | exact pw_0 | exact or_st e4_0 (by omega) (by omega) (by assumption) (by assumption)) (by omega) (by omega)
  refine g_istore_n dX9_hoursWithoutSnow_3 (by decide) rfl ?_
  exact c4 9 _ _ (by omega) (by omega) (by omega) (by omega) (by first | exact pw_0 | exact or_st e4_0 (by omega) (by omega) (by assumption) (by assumption)) (by omega) (by omega)
set_option maxRecDepth 100000 in
set_option maxHeartbeats 4000000 in
theorem c_X9_letSnow_21 (x1 x2 : Int) (h : MEM) (hM : MBx h) (bx1 : 0 ≤ x1) (dx1 : x1 ≤ 255) (bx2 : 1 ≤ x2) (dx2 : x2 ≤ 8) : CV yX9_letSnow cX9_letSnow 5 (none) 1 [pR 21, pI x1, pI x2] h (fun h' => MBx h' ∧ Fr [(39, 0)] h h') := by
  refine CV.of (L0 := [some (pR 21), some (pI x1), some (pI x2), none, none]) rfl (Nat.le_of_ble_eq_true rfl) rfl (fun Po hPo hav => ?_)
  refine g_iconst dX9_letSnow_0 (inR_c rfl) ?_
  have c2 : ∀ (n : Nat) (y1 : Int) (h2 : MEM), MBx h2 → Fr [(39, 0)] h h2 → 0 ≤ y1 → y1 ≤ 8 → 8 - y1 < (n : Int) → G yX9_letSnow cX9_letSnow 5 (none) none Po (1, 60, 0, 0) 2 [some (pR 21), some (pI x1), some (pI x2), some (pI y1), none] [] SH h2 0 0 := by
    intro n
    induction n with
    | zero =>
      intro y1 h2 hMh2 hFh2 by1 dy1 hn
      exfalso; omega
    | succ n ih =>
      intro y1 h2 hMh2 hFh2 by1 dy1 hn
      refine g_iload_n dX9_letSnow_2 rfl (fun _ => ?_)
      refine g_iload_n dX9_letSnow_3 rfl (fun _ => ?_)
      refine g_icmp_ge 50 dX9_letSnow_4 (by decide) (fun q3 => ?_) (fun q3 => ?_)
      · skip
        exact g_return dX9_letSnow_50 rfl (hPo _ ⟨hMh2, (Fr.sub hFh2 rfl)⟩)
      · skip
        refine g_aload_n dX9_letSnow_7 rfl ?_
        refine gI_X9_42 rfl dX9_letSnow_8 sh_21 (m_21_6 hMh2) (fun v4 ev4 bv4 cv4 => ?_)
        refine g_iload_n dX9_letSnow_11 rfl (fun _ => ?_)
        refine g_iaddF dX9_letSnow_12 (fun v5 bv5 cv5 => ?_)
        refine g_istore dX9_letSnow_13 (by decide) rfl ?_
        refine g_iload_n dX9_letSnow_15 rfl (fun _ => ?_)
        refine g_iload_n dX9_letSnow_16 rfl (fun _ => ?_)
        refine g_ishrF dX9_letSnow_17 (fun v6 ev6 bv6 cv6 => ?_)
        refine g_iconst dX9_letSnow_18 (inR_c rfl) ?_
        refine g_iandX (lo := 0) (hi := 1) dX9_letSnow_19 (iand_r (by omega) (by omega)) (fun v7 ev7 bv7 cv7 => ?_)
        refine g_iconst dX9_letSnow_20 (inR_c rfl) ?_
        refine g_icmp_ne 44 dX9_letSnow_21 (by decide) (fun q8 => ?_) (fun q8 => ?_)
        · skip
          refine g_iincB dX9_letSnow_44 rfl rfl (by omega) (by omega) ?_
          refine g_goto 2 dX9_letSnow_47 (by decide) ?_
          refine g_drop 4 ?_
          exact ih _ _ hMh2 (Fr.sub hFh2 rfl) (by omega) (by omega) (by omega)
        · skip
          refine g_iload dX9_letSnow_24 rfl (fun _ => ?_)
          refine g_if_lt 44 dX9_letSnow_26 (by decide) (fun q9 => ?_) (fun q9 => ?_)
          · skip
            refine g_iincB dX9_letSnow_44 rfl rfl (by omega) (by omega) ?_
            refine g_goto 2 dX9_letSnow_47 (by decide) ?_
            refine g_drop 4 ?_
            exact ih _ _ hMh2 (Fr.sub hFh2 rfl) (by omega) (by omega) (by omega)
          · skip
            refine g_iload dX9_letSnow_29 rfl (fun _ => ?_)
            refine g_bipush dX9_letSnow_31 (inR_c rfl) (by decide) ?_
            refine g_icmp_ge 44 dX9_letSnow_33 (by decide) (fun q10 => ?_) (fun q10 => ?_)
            · skip
              refine g_iincB dX9_letSnow_44 rfl rfl (by omega) (by omega) ?_
              refine g_goto 2 dX9_letSnow_47 (by decide) ?_
              refine g_drop 4 ?_
              exact ih _ _ hMh2 (Fr.sub hFh2 rfl) (by omega) (by omega) (by omega)
            · skip
              refine g_aload_n dX9_letSnow_36 rfl ?_
              refine gR_X9_39 rfl dX9_letSnow_37 sh_21 (b := 39) (m_21_5 hMh2) ?_
              refine g_iload dX9_letSnow_40 rfl (fun _ => ?_)
              refine g_iconst dX9_letSnow_42 (inR_c rfl) ?_
              refine g_iastB dX9_letSnow_43 sh_39 (by omega) (by omega) (fun h11 eh11 => ?_)
              have hFh11 := Fr.ar eh11
              have hMh11 := u_39 hMh2 eh11 (by omega) (by omega)
              refine g_iincB dX9_letSnow_44 rfl rfl (by omega) (by omega) ?_
              refine g_goto 2 dX9_letSnow_47 (by decide) ?_
              refine g_drop 4 ?_
              exact ih _ _ hMh11 (Fr.tr (Fr.sub hFh2 rfl) hFh11 rfl) (by omega) (by omega) (by omega)
  refine g_istore_n dX9_letSnow_1 (by decide) rfl ?_
  exact c2 9 _ _ hM Fr.rf (by omega) (by omega) (by omega)
set_option maxRecDepth 100000 in
set_option maxHeartbeats 4000000 in
theorem c_X11_free_0 (x1 x2 x3 : Int) (h : MEM) (hM : MBx h) (bx1 : -2147483648 ≤ x1) (dx1 : x1 ≤ 2147483647) (bx2 : -2147483648 ≤ x2) (dx2 : x2 ≤ 2147483647) (bx3 : -2147483648 ≤ x3) (dx3 : x3 ≤ 2147483647) (p0_0 : 0 ≤ h 1 6) (p0_1 : h 1 6 ≤ 0) : CI yX11_free cX11_free 11 (some .int) 3 [pR 0, pI x1, pI x2, pI x3] h (fun x h' => Fr [(21, 7), (21, 8), (21, 9), (22, 1), (23, 0), (24, 0), (25, 0), (26, 1), (27, 0), (28, 0), (29, 0), (30, 0), (31, 0), (32, 1), (33, 0), (34, 0), (35, 0), (36, 0), (37, 0), (38, 0), (39, 0)] h h' ∧ QF x1 x2 x3 x) := by
  refine CI.of (L0 := [some (pR 0), some (pI x1), some (pI x2), some (pI x3), none, none, none, none, none, none, none]) rfl (Nat.le_of_ble_eq_true rfl) rfl (fun Po hPo hav => ?_)
  obtain ⟨w1_6, ew1_6⟩ : ∃ z, z = h 1 6 := ⟨_, rfl⟩
  refine g_iload_n dX11_free_0 rfl (fun _ => ?_)
  refine g_iconst dX11_free_1 (inR_c rfl) ?_
  refine g_bipush dX11_free_2 (inR_c rfl) (by decide) ?_
  refine g_cSP (av := [_, _, _]) (c_X11_isWithin _ _ _ h hM (by omega) (by omega) (by omega) (by omega) (by omega) (by omega)) dX11_free_4 mi_X11_isWithin st_X11_isWithin ml_X11_81 rfl rfl rfl rfl (Nat.le_of_ble_eq_true rfl) (fun v1 q2 => ?_)
  rcases q2 with ⟨rfl, q2⟩ | ⟨rfl, q2⟩
  · skip
    refine g_if_eq 29 dX11_free_7 (by decide) (fun _ => by exfalso; omega) (fun q3 => ?_)
    refine g_iload_n dX11_free_10 rfl (fun _ => ?_)
    refine g_iconst dX11_free_11 (inR_c rfl) ?_
    refine g_bipush dX11_free_12 (inR_c rfl) (by decide) ?_
    refine g_cSP (av := [_, _, _]) (c_X11_isWithin _ _ _ h hM (by omega) (by omega) (by omega) (by omega) (by omega) (by omega)) dX11_free_14 mi_X11_isWithin st_X11_isWithin ml_X11_81 rfl rfl rfl rfl (Nat.le_of_ble_eq_true rfl) (fun v4 q5 => ?_)
    rcases q5 with ⟨rfl, q5⟩ | ⟨rfl, q5⟩
    · skip
      refine g_if_eq 29 dX11_free_17 (by decide) (fun _ => by exfalso; omega) (fun q6 => ?_)
      refine g_iload_n dX11_free_20 rfl (fun _ => ?_)
      refine g_iconst dX11_free_21 (inR_c rfl) ?_
      refine g_iconst dX11_free_22 (inR_c rfl) ?_
      refine g_cSP (av := [_, _, _]) (c_X11_isWithin _ _ _ h hM (by omega) (by omega) (by omega) (by omega) (by omega) (by omega)) dX11_free_23 mi_X11_isWithin st_X11_isWithin ml_X11_81 rfl rfl rfl rfl (Nat.le_of_ble_eq_true rfl) (fun v7 q8 => ?_)
      rcases q8 with ⟨rfl, q8⟩ | ⟨rfl, q8⟩
      · skip
        refine g_if_ne 31 dX11_free_26 (by decide) (fun q9 => ?_) (fun _ => by exfalso; omega)
        refine g_aload_n dX11_free_31 rfl ?_
        refine gR_X11_10 rfl dX11_free_32 sh_0 (b := 1) (m_0_0 hM) ?_
        refine g_iload_n dX11_free_35 rfl (fun _ => ?_)
        have q10 : h 1 6 = w1_6 := ew1_6.symm
        refine g_cVP (as := [_]) (c_X9_hoursWithoutSnow_1 _ h hM (by omega) (by omega) (by omega) (by omega)) dX11_free_36 mi_X9_hoursWithoutSnow in_X9_hoursWithoutSnow se_X9_hoursWithoutSnow ml_X11_238 rfl rfl rfl sh_1 rfl rfl (Nat.le_of_ble_eq_true rfl) (fun v11 q12 => ?_)
        obtain ⟨bv11, cv11, zv11⟩ := q12
        have pb := pw_b (n := x1) (by omega) (by omega)
        refine g_istore dX11_free_39 (by decide) rfl ?_
        refine g_iload dX11_free_41 rfl (fun _ => ?_)
        refine g_bitc dX11_free_43 ml_X11_241 rfl (Nat.le_of_ble_eq_true rfl) (fun v13 ev13 bv13 cv13 => ?_)
        have pz := bcE_pc (x := v11) (by omega) (by omega)
        have pq := pcZ_pw (n := x1) (by omega) (by omega)
        rw [← show v11 = pw x1 - 1 from (by omega)] at pq
        refine g_iload_n dX11_free_46 rfl (fun _ => ?_)
        refine g_icmp_ge 53 dX11_free_47 (by decide) (fun q14 => ?_) (fun q14 => ?_)
        · skip
          refine g_iconst dX11_free_53 (inR_c rfl) ?_
          refine g_istore dX11_free_54 (by decide) rfl ?_
          refine g_iconst dX11_free_56 (inR_c rfl) ?_
          refine g_istore dX11_free_57 (by decide) rfl ?_
          refine g_iconst dX11_free_59 (inR_c rfl) ?_
          refine g_istore dX11_free_60 (by decide) rfl ?_
          refine g_iconst dX11_free_62 (inR_c rfl) ?_
          have c65 : ∀ (n : Nat) (y15 y16 y17 y18 : Int) (h19 : MEM), MBx h19 → Fr [(21, 7), (21, 8), (21, 9), (22, 1), (23, 0), (24, 0), (25, 0), (26, 1), (27, 0), (28, 0), (29, 0), (30, 0), (31, 0), (32, 1), (33, 0), (34, 0), (35, 0), (36, 0), (37, 0), (38, 0), (39, 0)] h h19 → -1 ≤ y15 → y15 ≤ 255 → 0 ≤ y16 → y16 ≤ 0 → 0 ≤ y17 → y17 ≤ 0 → 0 ≤ y18 → y18 ≤ 256 → least x2 y18 y15 → y18 ≤ v11 + 1 → 256 - y18 < (n : Int) → G yX11_free cX11_free 11 (some .int) none Po (3, 180, 0, 0) 65 [some (pR 0), some (pI x1), some (pI x2), some (pI x3), some (pI v11), some (pI y15), some (pI y16), some (pI y17), some (pI y18), none, none] [] SH h19 0 0 := by
            intro n
            induction n with
            | zero =>
              intro y15 y16 y17 y18 h19 hMh19 hFh19 by15 dy15 by16 dy16 by17 dy17 by18 dy18 e65_0 e65_1 hn
              exfalso; omega
            | succ n ih =>
              intro y15 y16 y17 y18 h19 hMh19 hFh19 by15 dy15 by16 dy16 by17 dy17 by18 dy18 e65_0 e65_1 hn
              refine g_iload dX11_free_65 rfl (fun _ => ?_)
              refine g_iload dX11_free_67 rfl (fun _ => ?_)
              refine g_icmp_gt 194 dX11_free_69 (by decide) (fun q20 => ?_) (fun q20 => ?_)
              · skip
                refine g_iload_n dX11_free_194 rfl (fun _ => ?_)
                rcases (show x3 = 0 ∨ x3 = 1 ∨ (x3 ≠ 0 ∧ x3 ≠ 1) by omega) with q21 | q21 | q21
                · skip
                  refine g_lookup 220 dX11_free_195 (by decide) (lsw_k (off := 25) q21 (by decide)) (by decide) ?_
                  refine g_iload dX11_free_220 rfl (fun _ => ?_)
                  exact g_ireturn dX11_free_222 retI (hPo _ _ ⟨(Fr.sub hFh19 rfl), (by first | exact Or.inl ⟨by omega, by omega⟩ | exact Or.inr (Or.inl ⟨by omega, by omega, by omega⟩) | exact Or.inr (Or.inr (Or.inr ⟨by omega, by omega, by omega, by omega⟩)) | exact Or.inr (Or.inr (Or.inl ⟨by omega, by omega, by omega, lst_done (n := x1) e65_0 (by omega) (by omega) (by omega) (by omega) (by omega)⟩)))⟩)
                · skip
                  refine g_lookup 223 dX11_free_195 (by decide) (lsw_k (off := 28) q21 (by decide)) (by decide) ?_
                  refine g_iload dX11_free_223 rfl (fun _ => ?_)
                  exact g_ireturn dX11_free_225 retI (hPo _ _ ⟨(Fr.sub hFh19 rfl), (by first | exact Or.inl ⟨by omega, by omega⟩ | exact Or.inr (Or.inl ⟨by omega, by omega, by omega⟩) | exact Or.inr (Or.inr (Or.inr ⟨by omega, by omega, by omega, by omega⟩)) | exact Or.inr (Or.inr (Or.inl ⟨by omega, by omega, by omega, lst_done (n := x1) e65_0 (by omega) (by omega) (by omega) (by omega) (by omega)⟩)))⟩)
                · skip
                  refine g_lookup 226 dX11_free_195 (by decide) (lsw_d (ps := [(0, 25), (1, 28)]) (by simp only [List.all_cons, List.all_nil, Bool.and_true, Bool.and_eq_true, bne_iff_ne, ne_eq]; omega)) (by decide) ?_
                  refine g_iload dX11_free_226 rfl (fun _ => ?_)
                  exact g_ireturn dX11_free_228 retI (hPo _ _ ⟨(Fr.sub hFh19 rfl), (by first | exact Or.inl ⟨by omega, by omega⟩ | exact Or.inr (Or.inl ⟨by omega, by omega, by omega⟩) | exact Or.inr (Or.inr (Or.inr ⟨by omega, by omega, by omega, by omega⟩)) | exact Or.inr (Or.inr (Or.inl ⟨by omega, by omega, by omega, lst_done (n := x1) e65_0 (by omega) (by omega) (by omega) (by omega) (by omega)⟩)))⟩)
              · skip
                refine g_iload dX11_free_72 rfl (fun _ => ?_)
                refine g_iload dX11_free_74 rfl (fun _ => ?_)
                refine g_iconst dX11_free_76 (inR_c rfl) ?_
                refine g_ixorF dX11_free_77 (fun v22 ev22 bv22 cv22 => ?_)
                refine g_iandX (lo := 0) (hi := 255) dX11_free_78 (iand_l (by omega) (by omega)) (fun v23 ev23 bv23 cv23 => ?_)
                have a78 : 0 ≤ v23 ∧ v23 ≤ 0 := by have := andn_0 (n := x1) (o := v11) (b := y18) (by omega) (by omega) (by omega) (by omega) (by omega) (by assumption) (by assumption); omega
                refine g_if_ne 188 dX11_free_79 (by decide) (fun _ => by exfalso; omega) (fun q24 => ?_)
                refine g_iload dX11_free_82 rfl (fun _ => ?_)
                refine g_bitc dX11_free_84 ml_X11_241 rfl (Nat.le_of_ble_eq_true rfl) (fun v25 ev25 bv25 cv25 => ?_)
                have pz2 := bcE_pc (x := y18) (by omega) (by omega)
                refine g_iload_n dX11_free_87 rfl (fun _ => ?_)
                refine g_icmp_ne 188 dX11_free_88 (by decide) (fun q26 => ?_) (fun q26 => ?_)
                · skip
                  refine g_iincB dX11_free_188 rfl rfl (by omega) (by omega) ?_
                  refine g_goto 65 dX11_free_191 (by decide) ?_
                  exact ih _ _ _ _ _ hMh19 (Fr.sub hFh19 rfl) (by omega) (by omega) (by omega) (by omega) (by omega) (by omega) (by omega) (by omega) (by first | exact lst_0 | exact lst_skip e65_0 (by omega) | exact lst_new e65_0 (by omega) (by omega) (by omega) | exact lst_keep e65_0 (by omega)) (by omega) (by omega)
                · skip
                  refine g_aload_n dX11_free_91 rfl ?_
                  refine gR_X11_16 rfl dX11_free_92 sh_0 (b := 21) (m_0_1 hMh19) ?_
                  refine g_aload_n dX11_free_95 rfl ?_
                  refine gR_X11_10 rfl dX11_free_96 sh_0 (b := 1) (m_0_0 hMh19) ?_
                  refine g_cVV (as := [_]) (c_X9_copyFrom_21_1  h19 hMh19) dX11_free_99 mi_X9_copyFrom in_X9_copyFrom se_X9_copyFrom ml_X11_202 rfl rfl rfl sh_21 rfl rfl (Nat.le_of_ble_eq_true rfl) (fun h27 q28 => ?_)
                  obtain ⟨hMh27, hFh27⟩ := q28
                  refine g_aload_n dX11_free_102 rfl ?_
                  refine gR_X11_16 rfl dX11_free_103 sh_0 (b := 21) (m_0_1 hMh27) ?_
                  refine g_iload dX11_free_106 rfl (fun _ => ?_)
                  refine g_iload_n dX11_free_108 rfl (fun _ => ?_)
                  refine g_cVV (as := [_, _]) (c_X9_letSnow_21 _ _ h27 hMh27 (by omega) (by omega) (by omega) (by omega)) dX11_free_109 mi_X9_letSnow in_X9_letSnow se_X9_letSnow ml_X11_246 rfl rfl rfl sh_21 rfl rfl (Nat.le_of_ble_eq_true rfl) (fun h29 q30 => ?_)
                  obtain ⟨hMh29, hFh29⟩ := q30
                  refine g_aload_n dX11_free_112 rfl ?_
                  refine gR_X11_16 rfl dX11_free_113 sh_0 (b := 21) (m_0_1 hMh29) ?_
                  refine g_aload_n dX11_free_116 rfl ?_
                  refine gR_X11_70 rfl dX11_free_117 sh_0 (b := 82) (m_0_10 hMh29) ?_
                  refine g_iload_n dX11_free_120 rfl (fun _ => ?_)
                  refine g_cV (as := [_, _]) (c_X9_passHours_21_82 _ h29 hMh29 (by omega) (by omega)) dX11_free_121 mi_X9_passHours in_X9_passHours se_X9_passHours ml_X11_152 rfl rfl rfl sh_21 rfl rfl (Nat.le_of_ble_eq_true rfl) (fun v31 h32 q33 => ?_)
                  obtain ⟨hMh32, hFh32, bv31, cv31⟩ := q33
                  refine g_pop dX11_free_124 rfl ?_
                  refine g_aload_n dX11_free_125 rfl ?_
                  refine gR_X11_16 rfl dX11_free_126 sh_0 (b := 21) (m_0_1 hMh32) ?_
                  refine gR_X11_104 rfl dX11_free_129 sh_21 (b := 32) (m_21_2 hMh32) ?_
                  refine g_cVP (as := []) (c_X4_allBruises_32  h32 hMh32) dX11_free_132 mi_X4_allBruises in_X4_allBruises se_X4_allBruises ml_X11_210 rfl rfl rfl sh_32 rfl rfl (Nat.le_of_ble_eq_true rfl) (fun v34 q35 => ?_)
                  obtain ⟨bv34, cv34⟩ := q35
                  refine g_istore dX11_free_135 (by decide) rfl ?_
                  refine g_aload_n dX11_free_137 rfl ?_
                  refine gR_X11_16 rfl dX11_free_138 sh_0 (b := 21) (m_0_1 hMh32) ?_
                  refine gR_X11_85 rfl dX11_free_141 sh_21 (b := 22) (m_21_0 hMh32) ?_
                  refine g_cVP (as := []) (c_X6_allSlates_22  h32 hMh32) dX11_free_144 mi_X6_allSlates in_X6_allSlates se_X6_allSlates ml_X11_206 rfl rfl rfl sh_22 rfl rfl (Nat.le_of_ble_eq_true rfl) (fun v36 q37 => ?_)
                  obtain ⟨bv36, cv36⟩ := q37
                  refine g_istore dX11_free_147 (by decide) rfl ?_
                  refine g_iload dX11_free_149 rfl (fun _ => ?_)
                  refine g_iconst dX11_free_151 (inR_c rfl) ?_
                  refine g_icmp_eq 176 dX11_free_152 (by decide) (fun q38 => ?_) (fun q38 => ?_)
                  · skip
                    refine g_iload dX11_free_176 rfl (fun _ => ?_)
                    refine g_istore dX11_free_178 (by decide) rfl ?_
                    refine g_iload dX11_free_180 rfl (fun _ => ?_)
                    refine g_istore dX11_free_182 (by decide) rfl ?_
                    refine g_iload dX11_free_184 rfl (fun _ => ?_)
                    refine g_istore dX11_free_186 (by decide) rfl ?_
                    refine g_iincB dX11_free_188 rfl rfl (by omega) (by omega) ?_
                    refine g_goto 65 dX11_free_191 (by decide) ?_
                    refine g_drop 9 ?_
                    refine g_drop 10 ?_
                    exact ih _ _ _ _ _ hMh32 (Fr.tr (Fr.tr (Fr.tr (Fr.sub hFh19 rfl) hFh27 rfl) hFh29 rfl) hFh32 rfl) (by omega) (by omega) (by omega) (by omega) (by omega) (by omega) (by omega) (by omega) (by first | exact lst_0 | exact lst_skip e65_0 (by omega) | exact lst_new e65_0 (by omega) (by omega) (by omega) | exact lst_keep e65_0 (by omega)) (by omega) (by omega)
                  · skip
                    refine g_iload dX11_free_155 rfl (fun _ => ?_)
                    refine g_iload dX11_free_157 rfl (fun _ => ?_)
                    refine g_icmp_lt 176 dX11_free_159 (by decide) (fun _ => by exfalso; omega) (fun q39 => ?_)
                    refine g_iload dX11_free_162 rfl (fun _ => ?_)
                    refine g_iload dX11_free_164 rfl (fun _ => ?_)
                    refine g_icmp_ne 188 dX11_free_166 (by decide) (fun _ => by exfalso; omega) (fun q40 => ?_)
                    refine g_iload dX11_free_169 rfl (fun _ => ?_)
                    refine g_iload dX11_free_171 rfl (fun _ => ?_)
                    refine g_icmp_le 188 dX11_free_173 (by decide) (fun q41 => ?_) (fun _ => by exfalso; omega)
                    refine g_iincB dX11_free_188 rfl rfl (by omega) (by omega) ?_
                    refine g_goto 65 dX11_free_191 (by decide) ?_
                    refine g_drop 9 ?_
                    refine g_drop 10 ?_
                    exact ih _ _ _ _ _ hMh32 (Fr.tr (Fr.tr (Fr.tr (Fr.sub hFh19 rfl) hFh27 rfl) hFh29 rfl) hFh32 rfl) (by omega) (by omega) (by omega) (by omega) (by omega) (by omega) (by omega) (by omega) (by first | exact lst_0 | exact lst_skip e65_0 (by omega) | exact lst_new e65_0 (by omega) (by omega) (by omega) | exact lst_keep e65_0 (by omega)) (by omega) (by omega)
          refine g_istore dX11_free_63 (by decide) rfl ?_
          exact c65 257 _ _ _ _ _ hM Fr.rf (by omega) (by omega) (by omega) (by omega) (by omega) (by omega) (by omega) (by omega) (by first | exact lst_0 | exact lst_skip e65_0 (by omega) | exact lst_new e65_0 (by omega) (by omega) (by omega) | exact lst_keep e65_0 (by omega)) (by omega) (by omega)
        · skip
          refine g_bipush dX11_free_50 (inR_c rfl) (by decide) ?_
          exact g_ireturn dX11_free_52 retI (hPo _ _ ⟨Fr.rf, (by first | exact Or.inl ⟨by omega, by omega⟩ | exact Or.inr (Or.inl ⟨by omega, by omega, by omega⟩) | exact Or.inr (Or.inr (Or.inr ⟨by omega, by omega, by omega, by omega⟩)) | exact Or.inr (Or.inr (Or.inl ⟨by omega, by omega, by omega, lst_done (n := x1) e65_0 (by omega) (by omega) (by omega) (by omega) (by omega)⟩)))⟩)
      · skip
        refine g_if_ne 31 dX11_free_26 (by decide) (fun _ => by exfalso; omega) (fun q42 => ?_)
        refine g_iconst dX11_free_29 (inR_c rfl) ?_
        exact g_ireturn dX11_free_30 retI (hPo _ _ ⟨Fr.rf, (by first | exact Or.inl ⟨by omega, by omega⟩ | exact Or.inr (Or.inl ⟨by omega, by omega, by omega⟩) | exact Or.inr (Or.inr (Or.inr ⟨by omega, by omega, by omega, by omega⟩)) | exact Or.inr (Or.inr (Or.inl ⟨by omega, by omega, by omega, lst_done (n := x1) e65_0 (by omega) (by omega) (by omega) (by omega) (by omega)⟩)))⟩)
    · skip
      refine g_if_eq 29 dX11_free_17 (by decide) (fun q43 => ?_) (fun _ => by exfalso; omega)
      refine g_iconst dX11_free_29 (inR_c rfl) ?_
      exact g_ireturn dX11_free_30 retI (hPo _ _ ⟨Fr.rf, (by first | exact Or.inl ⟨by omega, by omega⟩ | exact Or.inr (Or.inl ⟨by omega, by omega, by omega⟩) | exact Or.inr (Or.inr (Or.inr ⟨by omega, by omega, by omega, by omega⟩)) | exact Or.inr (Or.inr (Or.inl ⟨by omega, by omega, by omega, lst_done (n := x1) e65_0 (by omega) (by omega) (by omega) (by omega) (by omega)⟩)))⟩)
  · skip
    refine g_if_eq 29 dX11_free_7 (by decide) (fun q44 => ?_) (fun _ => by exfalso; omega)
    refine g_iconst dX11_free_29 (inR_c rfl) ?_
    exact g_ireturn dX11_free_30 retI (hPo _ _ ⟨Fr.rf, (by first | exact Or.inl ⟨by omega, by omega⟩ | exact Or.inr (Or.inl ⟨by omega, by omega, by omega⟩) | exact Or.inr (Or.inr (Or.inr ⟨by omega, by omega, by omega, by omega⟩)) | exact Or.inr (Or.inr (Or.inl ⟨by omega, by omega, by omega, lst_done (n := x1) e65_0 (by omega) (by omega) (by omega) (by omega) (by omega)⟩)))⟩)
set_option maxRecDepth 100000 in
set_option maxHeartbeats 4000000 in
theorem c_X12_sizeOf (x1 : Int) (h : MEM) (hM : MBm h) (bx1 : 0 ≤ x1) (dx1 : x1 ≤ 255) : CP yX12_sizeOf cX12_sizeOf 3 (some .int) 1 [pI x1] h (fun x => 0 ≤ x ∧ x ≤ 9 ∧ x = pcZ x1) := by
  refine CP.of (L0 := [some (pI x1), none, none]) rfl (Nat.le_of_ble_eq_true rfl) rfl (fun Po hPo hav => ?_)
  refine g_iconst dX12_sizeOf_0 (inR_c rfl) ?_
  refine g_istore_n dX12_sizeOf_1 (by decide) rfl ?_
  refine g_iload_n dX12_sizeOf_2 rfl (fun _ => ?_)
  have c4 : ∀ (n : Nat) (y1 y2 : Int) , 0 ≤ y1 → y1 ≤ 9 → 0 ≤ y2 → y2 ≤ 255 → y1 + pcZ y2 = pcZ x1 → y2 < (n : Int) → G yX12_sizeOf cX12_sizeOf 3 (some .int) none Po (1, 60, 0, 0) 4 [none, some (pI y1), some (pI y2)] [] SH h 0 0 := by
    intro n
    induction n with
    | zero =>
      intro y1 y2 by1 dy1 by2 dy2 e4_0 hn
      exfalso; omega
    | succ n ih =>
      intro y1 y2 by1 dy1 by2 dy2 e4_0 hn
      refine g_iload_n dX12_sizeOf_4 rfl (fun _ => ?_)
      refine g_if_eq 20 dX12_sizeOf_5 (by decide) (fun q3 => ?_) (fun q3 => ?_)
      · skip
        refine g_iload_n dX12_sizeOf_20 rfl (fun _ => ?_)
        exact g_ireturn dX12_sizeOf_21 retI (hPo _ ⟨(by omega), (by omega), (by have := pcZ_0; first | omega | (subst_vars; omega) | (simp_all; omega))⟩)
      · skip
        have al8 : 0 ≤ y1 ∧ y1 ≤ 8 := by have b1 := pcZ_b (x := x1); have b2 := pcZ_b (x := y2); omega
        refine g_iincB dX12_sizeOf_8 rfl rfl (by omega) (by omega) ?_
        refine g_iload_n dX12_sizeOf_11 rfl (fun _ => ?_)
        refine g_iload_n dX12_sizeOf_12 rfl (fun _ => ?_)
        refine g_iconst dX12_sizeOf_13 (inR_c rfl) ?_
        refine g_isubB dX12_sizeOf_14 (by omega) (by omega) ?_
        refine g_iandX (lo := 0) (hi := 254) dX12_sizeOf_15 (iand_r (by omega) (by omega)) (fun v4 ev4 bv4 cv4 => ?_)
        have pd := pc_drop (x := y2) (v := v4) (by omega) (by omega) (by assumption)
        refine g_istore_n dX12_sizeOf_16 (by decide) rfl ?_
        refine g_goto 4 dX12_sizeOf_17 (by decide) ?_
        exact ih _ _ (by omega) (by omega) (by omega) (by omega) (by omega) (by omega)
  refine g_istore_n dX12_sizeOf_3 (by decide) rfl ?_
  refine g_drop 0 ?_
  exact c4 257 _ _ (by omega) (by omega) (by omega) (by omega) (by omega) (by omega)
set_option maxRecDepth 100000 in
set_option maxHeartbeats 4000000 in
theorem c_X12_free_98 (x1 x2 x3 : Int) (h : MEM) (hM : MBm h) (bx1 : -2147483648 ≤ x1) (dx1 : x1 ≤ 2147483647) (bx2 : -2147483648 ≤ x2) (dx2 : x2 ≤ 2147483647) (bx3 : -2147483648 ≤ x3) (dx3 : x3 ≤ 2147483647) (p0_0 : 0 ≤ h 98 5) (p0_1 : h 98 5 ≤ 0) : CI yX12_free cX12_free 11 (some .int) 5 [pR 98, pI x1, pI x2, pI x3] h (fun x h' => Fr [(98, 3), (98, 4), (98, 5), (98, 6), (98, 7), (98, 8), (98, 49), (98, 53), (98, 54), (98, 55), (100, 0), (101, 0), (102, 0), (103, 0), (104, 0), (105, 0), (106, 0), (107, 0), (108, 0), (109, 0), (110, 0), (111, 0), (112, 0), (113, 0), (114, 0), (130, 0), (131, 0), (132, 0), (133, 0), (134, 0), (135, 0), (136, 0), (137, 0), (138, 0), (139, 0), (140, 0), (141, 0), (142, 0), (143, 0), (144, 0), (145, 1), (145, 2), (145, 3), (145, 4), (145, 5), (145, 6)] h h' ∧ QF x1 x2 x3 x) := by
  refine CI.of (L0 := [some (pR 98), some (pI x1), some (pI x2), some (pI x3), none, none, none, none, none, none, none]) rfl (Nat.le_of_ble_eq_true rfl) rfl (fun Po hPo hav => ?_)
  obtain ⟨w98_5, ew98_5⟩ : ∃ z, z = h 98 5 := ⟨_, rfl⟩
  refine g_iload_n dX12_free_0 rfl (fun _ => ?_)
  refine g_i2l dX12_free_1 ?_
  refine g_lconst (v := 1) dX12_free_2 rfl ?_
  refine g_ldc2 (v := 8) dX12_free_3 kl_X12_461 (by decide) ?_
  refine g_cSP (av := [_, _, _]) (c_X12_lies _ _ _ h hM (by omega) (by omega) (by omega) (by omega) (by omega) (by omega)) dX12_free_6 mi_X12_lies st_X12_lies ml_X12_175 rfl rfl rfl rfl (Nat.le_of_ble_eq_true rfl) (fun v1 q2 => ?_)
  rcases q2 with ⟨rfl, q2⟩ | ⟨rfl, q2⟩
  · skip
    refine g_if_eq 36 dX12_free_9 (by decide) (fun _ => by exfalso; omega) (fun q3 => ?_)
    refine g_iload_n dX12_free_12 rfl (fun _ => ?_)
    refine g_i2l dX12_free_13 ?_
    refine g_lconst (v := 0) dX12_free_14 rfl ?_
    refine g_ldc2 (v := 8) dX12_free_15 kl_X12_461 (by decide) ?_
    refine g_cSP (av := [_, _, _]) (c_X12_lies _ _ _ h hM (by omega) (by omega) (by omega) (by omega) (by omega) (by omega)) dX12_free_18 mi_X12_lies st_X12_lies ml_X12_175 rfl rfl rfl rfl (Nat.le_of_ble_eq_true rfl) (fun v4 q5 => ?_)
    rcases q5 with ⟨rfl, q5⟩ | ⟨rfl, q5⟩
    · skip
      refine g_if_eq 36 dX12_free_21 (by decide) (fun _ => by exfalso; omega) (fun q6 => ?_)
      refine g_iload_n dX12_free_24 rfl (fun _ => ?_)
      refine g_i2l dX12_free_25 ?_
      refine g_lconst (v := 0) dX12_free_26 rfl ?_
      refine g_ldc2 (v := 2) dX12_free_27 kl_X12_463 (by decide) ?_
      refine g_cSP (av := [_, _, _]) (c_X12_lies _ _ _ h hM (by omega) (by omega) (by omega) (by omega) (by omega) (by omega)) dX12_free_30 mi_X12_lies st_X12_lies ml_X12_175 rfl rfl rfl rfl (Nat.le_of_ble_eq_true rfl) (fun v7 q8 => ?_)
      rcases q8 with ⟨rfl, q8⟩ | ⟨rfl, q8⟩
      · skip
        refine g_if_ne 38 dX12_free_33 (by decide) (fun q9 => ?_) (fun _ => by exfalso; omega)
        refine g_iconst dX12_free_38 (inR_c rfl) ?_
        refine g_istore dX12_free_39 (by decide) rfl ?_
        refine g_iconst dX12_free_41 (inR_c rfl) ?_
        have c44 : ∀ (n : Nat) (y10 y11 : Int) , 0 ≤ y10 → y10 ≤ 255 → 0 ≤ y11 → y11 ≤ 8 → y10 = pw y11 - 1 → y11 ≤ x1 → 8 - y11 < (n : Int) → G yX12_free cX12_free 11 (some .int) none Po (5, 300, 0, 0) 44 [some (pR 98), some (pI x1), some (pI x2), some (pI x3), some (pI y10), some (pI y11), none, none, none, none, none] [] SH h 0 0 := by
          intro n
          induction n with
          | zero =>
            intro y10 y11 by10 dy10 by11 dy11 e44_0 e44_1 hn
            exfalso; omega
          | succ n ih =>
            intro y10 y11 by10 dy10 by11 dy11 e44_0 e44_1 hn
            refine g_iload dX12_free_44 rfl (fun _ => ?_)
            refine g_iload_n dX12_free_46 rfl (fun _ => ?_)
            refine g_icmp_ge 96 dX12_free_47 (by decide) (fun q12 => ?_) (fun q12 => ?_)
            · skip
              refine g_iload dX12_free_96 rfl (fun _ => ?_)
              refine g_cSP (av := [_]) (c_X12_sizeOf _ h hM (by omega) (by omega)) dX12_free_98 mi_X12_sizeOf st_X12_sizeOf ml_X12_450 rfl rfl rfl rfl (Nat.le_of_ble_eq_true rfl) (fun v13 q14 => ?_)
              obtain ⟨bv13, cv13, zv13⟩ := q14
              have pe2 := pw_c (show y11 = x1 by omega)
              have pb := pw_b (n := x1) (by omega) (by omega)
              have pq := pcZ_pw (n := x1) (by omega) (by omega)
              rw [← show y10 = pw x1 - 1 from (by omega)] at pq
              refine g_iload_n dX12_free_101 rfl (fun _ => ?_)
              refine g_icmp_ge 108 dX12_free_102 (by decide) (fun q15 => ?_) (fun q15 => ?_)
              · skip
                refine g_iconst dX12_free_108 (inR_c rfl) ?_
                refine g_istore dX12_free_109 (by decide) rfl ?_
                refine g_iconst dX12_free_111 (inR_c rfl) ?_
                refine g_istore dX12_free_112 (by decide) rfl ?_
                refine g_iconst dX12_free_114 (inR_c rfl) ?_
                refine g_istore dX12_free_115 (by decide) rfl ?_
                refine g_aload_n dX12_free_117 rfl ?_
                refine g_aload_n dX12_free_118 rfl ?_
                refine gE_X12_334 rfl dX12_free_119 sh_98 ew98_5.symm ?_
                refine pI_X12_353 rfl dX12_free_122 sh_98 (fun h16 eh16 => ?_)
                have hFh16 := Fr.st eh16
                have hMh16 := u_98_52 hM eh16 (by omega) (by omega)
                refine g_aload_n dX12_free_125 rfl ?_
                refine g_iload_n dX12_free_126 rfl (fun _ => ?_)
                refine pI_X12_356 rfl dX12_free_127 sh_98 (fun h17 eh17 => ?_)
                have hFh17 := Fr.st eh17
                have hMh17 := u_98_53 hMh16 eh17 (by omega) (by omega)
                refine g_iconst dX12_free_130 (inR_c rfl) ?_
                have c133 : ∀ (n : Nat) (y18 y19 y20 y21 : Int) (h22 : MEM), MBm h22 → Fr [(98, 3), (98, 4), (98, 5), (98, 6), (98, 7), (98, 8), (98, 49), (98, 55), (100, 0), (101, 0), (102, 0), (103, 0), (104, 0), (105, 0), (106, 0), (107, 0), (108, 0), (109, 0), (110, 0), (111, 0), (112, 0), (113, 0), (114, 0), (130, 0), (131, 0), (132, 0), (133, 0), (134, 0), (135, 0), (136, 0), (137, 0), (138, 0), (139, 0), (140, 0), (141, 0), (142, 0), (143, 0), (144, 0), (145, 1), (145, 2), (145, 3), (145, 4), (145, 5), (145, 6)] h17 h22 → -1 ≤ y18 → y18 ≤ 255 → 0 ≤ y19 → y19 ≤ 0 → 0 ≤ y20 → y20 ≤ 0 → 0 ≤ y21 → y21 ≤ 256 → least x2 y21 y18 → y21 ≤ y10 + 1 → h22 98 5 = 0 → 256 - y21 < (n : Int) → G yX12_free cX12_free 11 (some .int) none Po (5, 300, 0, 0) 133 [some (pR 98), some (pI x1), some (pI x2), some (pI x3), some (pI y10), some (pI y18), some (pI y19), some (pI y20), some (pI y21), none, none] [] SH h22 0 0 := by
                  intro n
                  induction n with
                  | zero =>
                    intro y18 y19 y20 y21 h22 hMh22 hFh22 by18 dy18 by19 dy19 by20 dy20 by21 dy21 e133_0 e133_1 e133_2 hn
                    exfalso; omega
                  | succ n ih =>
                    intro y18 y19 y20 y21 h22 hMh22 hFh22 by18 dy18 by19 dy19 by20 dy20 by21 dy21 e133_0 e133_1 e133_2 hn
                    refine g_iload dX12_free_133 rfl (fun _ => ?_)
                    refine g_iconst dX12_free_135 (inR_c rfl) ?_
                    refine g_iload_n dX12_free_136 rfl (fun _ => ?_)
                    refine g_ishlX (lo := 1) (hi := 256) dX12_free_137 (ishl1_b 8 (by decide) (by omega) (by omega)) (fun v23 ev23 bv23 cv23 => ?_)
                    have pe := ishl_pw (n := x1) (by omega) (by omega)
                    refine g_icmp_ge 244 dX12_free_138 (by decide) (fun q24 => ?_) (fun q24 => ?_)
                    · skip
                      refine g_aload_n dX12_free_244 rfl ?_
                      refine g_iconst dX12_free_245 (inR_c rfl) ?_
                      refine pI_X12_356 rfl dX12_free_246 sh_98 (fun h25 eh25 => ?_)
                      have hFh25 := Fr.st eh25
                      have hMh25 := u_98_53 hMh22 eh25 (by omega) (by omega)
                      refine g_iload_n dX12_free_249 rfl (fun _ => ?_)
                      refine g_if_ne 258 dX12_free_250 (by decide) (fun q26 => ?_) (fun q26 => ?_)
                      · skip
                        refine g_iload_n dX12_free_258 rfl (fun _ => ?_)
                        refine g_iconst dX12_free_259 (inR_c rfl) ?_
                        refine g_icmp_ne 268 dX12_free_260 (by decide) (fun q27 => ?_) (fun q27 => ?_)
                        · skip
                          refine g_iload dX12_free_268 rfl (fun _ => ?_)
                          exact g_ireturn dX12_free_270 retI (hPo _ _ ⟨(Fr.tr (Fr.tr (Fr.tr (Fr.sub hFh16 rfl) hFh17 rfl) hFh22 rfl) hFh25 rfl), (by first | exact Or.inl ⟨by omega, by omega⟩ | exact Or.inr (Or.inl ⟨by omega, by omega, by omega⟩) | exact Or.inr (Or.inr (Or.inr ⟨by omega, by omega, by omega, by omega⟩)) | exact Or.inr (Or.inr (Or.inl ⟨by omega, by omega, by omega, lst_done (n := x1) e133_0 (by omega) (by omega) (by omega) (by omega) (by omega)⟩)))⟩)
                        · skip
                          refine g_iload dX12_free_263 rfl (fun _ => ?_)
                          refine g_goto 270 dX12_free_265 (by decide) ?_
                          exact g_ireturn dX12_free_270 retI (hPo _ _ ⟨(Fr.tr (Fr.tr (Fr.tr (Fr.sub hFh16 rfl) hFh17 rfl) hFh22 rfl) hFh25 rfl), (by first | exact Or.inl ⟨by omega, by omega⟩ | exact Or.inr (Or.inl ⟨by omega, by omega, by omega⟩) | exact Or.inr (Or.inr (Or.inr ⟨by omega, by omega, by omega, by omega⟩)) | exact Or.inr (Or.inr (Or.inl ⟨by omega, by omega, by omega, lst_done (n := x1) e133_0 (by omega) (by omega) (by omega) (by omega) (by omega)⟩)))⟩)
                      · skip
                        refine g_iload dX12_free_253 rfl (fun _ => ?_)
                        refine g_goto 270 dX12_free_255 (by decide) ?_
                        exact g_ireturn dX12_free_270 retI (hPo _ _ ⟨(Fr.tr (Fr.tr (Fr.tr (Fr.sub hFh16 rfl) hFh17 rfl) hFh22 rfl) hFh25 rfl), (by first | exact Or.inl ⟨by omega, by omega⟩ | exact Or.inr (Or.inl ⟨by omega, by omega, by omega⟩) | exact Or.inr (Or.inr (Or.inr ⟨by omega, by omega, by omega, by omega⟩)) | exact Or.inr (Or.inr (Or.inl ⟨by omega, by omega, by omega, lst_done (n := x1) e133_0 (by omega) (by omega) (by omega) (by omega) (by omega)⟩)))⟩)
                    · skip
                      refine g_iload dX12_free_141 rfl (fun _ => ?_)
                      refine g_iload dX12_free_143 rfl (fun _ => ?_)
                      refine g_iconst dX12_free_145 (inR_c rfl) ?_
                      refine g_ixorF dX12_free_146 (fun v28 ev28 bv28 cv28 => ?_)
                      refine g_iandX (lo := 0) (hi := 255) dX12_free_147 (iand_l (by omega) (by omega)) (fun v29 ev29 bv29 cv29 => ?_)
                      have a147 : 0 ≤ v29 ∧ v29 ≤ 0 := by have := andn_0 (n := x1) (o := y10) (b := y21) (by omega) (by omega) (by omega) (by omega) (by omega) (by assumption) (by assumption); omega
                      refine g_if_ne 238 dX12_free_148 (by decide) (fun _ => by exfalso; omega) (fun q30 => ?_)
                      refine g_iload dX12_free_151 rfl (fun _ => ?_)
                      refine g_cSP (av := [_]) (c_X12_sizeOf _ h22 hMh22 (by omega) (by omega)) dX12_free_153 mi_X12_sizeOf st_X12_sizeOf ml_X12_450 rfl rfl rfl rfl (Nat.le_of_ble_eq_true rfl) (fun v31 q32 => ?_)
                      obtain ⟨bv31, cv31, zv31⟩ := q32
                      refine g_iload_n dX12_free_156 rfl (fun _ => ?_)
                      refine g_icmp_eq 163 dX12_free_157 (by decide) (fun q33 => ?_) (fun q33 => ?_)
                      · skip
                        refine g_aload_n dX12_free_163 rfl ?_
                        refine g_iload dX12_free_164 rfl (fun _ => ?_)
                        refine pI_X12_359 rfl dX12_free_166 sh_98 (fun h34 eh34 => ?_)
                        have hFh34 := Fr.st eh34
                        have hMh34 := u_98_54 hMh22 eh34 (by omega) (by omega)
                        refine g_aload_n dX12_free_169 rfl ?_
                        refine g_iconst dX12_free_170 (inR_c rfl) ?_
                        have q35 : h34 98 5 = h22 98 5 := (hFh34 98 5 rfl)
                        obtain ⟨v36, ev36⟩ : ∃ z, z = h34 98 5 := ⟨_, rfl⟩
                        have bv36 : 0 ≤ v36 ∧ v36 ≤ 2000000000 := by rw [ev36]; exact (m_98_5 hMh34)
                        refine g_cVV (as := [_]) (c_X12_setsAside_98_k0  h34 hMh34) dX12_free_171 mi_X12_setsAside in_X12_setsAside se_X12_setsAside ml_X12_419 rfl rfl rfl sh_98 rfl rfl (Nat.le_of_ble_eq_true rfl) (fun h37 q38 => ?_)
                        obtain ⟨hMh37, hFh37, z39⟩ := q38
                        have kz39 : h37 145 3 = v36 := by omega
                        refine g_aload_n dX12_free_174 rfl ?_
                        refine g_iload_n dX12_free_175 rfl (fun _ => ?_)
                        have q40 : h37 98 5 = v36 := ((hFh37 98 5 rfl).trans ev36.symm)
                        have q41 : h37 98 5 = v36 := ((hFh37 98 5 rfl).trans ev36.symm)
                        refine g_cVV (as := [_]) (c_X12_goesOn_98 _ h37 hMh37 (by omega) (by omega) (by omega) (by omega)) dX12_free_176 mi_X12_goesOn in_X12_goesOn se_X12_goesOn ml_X12_401 rfl rfl rfl sh_98 rfl rfl (Nat.le_of_ble_eq_true rfl) (fun h42 q43 => ?_)
                        obtain ⟨hMh42, hFh42, z44⟩ := q43
                        have kz44 : h42 98 5 = (v36 + x1) := by omega
                        refine g_aload_n dX12_free_179 rfl ?_
                        refine g_cVP (as := []) (c_X12_allBruises_98  h42 hMh42) dX12_free_180 mi_X12_allBruises in_X12_allBruises se_X12_allBruises ml_X12_425 rfl rfl rfl sh_98 rfl rfl (Nat.le_of_ble_eq_true rfl) (fun v45 q46 => ?_)
                        obtain ⟨bv45, cv45⟩ := q46
                        refine g_istore dX12_free_183 (by decide) rfl ?_
                        refine g_aload_n dX12_free_185 rfl ?_
                        refine g_cVP (as := []) (c_X12_allSlates_98  h42 hMh42) dX12_free_186 mi_X12_allSlates in_X12_allSlates se_X12_allSlates ml_X12_422 rfl rfl rfl sh_98 rfl rfl (Nat.le_of_ble_eq_true rfl) (fun v47 q48 => ?_)
                        obtain ⟨bv47, cv47⟩ := q48
                        refine g_istore dX12_free_189 (by decide) rfl ?_
                        refine g_aload_n dX12_free_191 rfl ?_
                        refine g_iconst dX12_free_192 (inR_c rfl) ?_
                        have q49 : h42 145 3 = v36 := ((hFh42 145 _ rfl).trans kz39)
                        refine g_cVV (as := [_]) (c_X12_putsBack_98_k0  h42 hMh42) dX12_free_193 mi_X12_putsBack in_X12_putsBack se_X12_putsBack ml_X12_428 rfl rfl rfl sh_98 rfl rfl (Nat.le_of_ble_eq_true rfl) (fun h50 q51 => ?_)
                        obtain ⟨hMh50, hFh50, z52⟩ := q51
                        have kz52 : h50 98 5 = v36 := by omega
                        refine g_iload dX12_free_196 rfl (fun _ => ?_)
                        refine g_iconst dX12_free_198 (inR_c rfl) ?_
                        refine g_icmp_eq 226 dX12_free_199 (by decide) (fun q53 => ?_) (fun q53 => ?_)
                        · skip
                          refine g_iload dX12_free_226 rfl (fun _ => ?_)
                          refine g_istore dX12_free_228 (by decide) rfl ?_
                          refine g_iload dX12_free_230 rfl (fun _ => ?_)
                          refine g_istore dX12_free_232 (by decide) rfl ?_
                          refine g_iload dX12_free_234 rfl (fun _ => ?_)
                          refine g_istore dX12_free_236 (by decide) rfl ?_
                          refine g_iincB dX12_free_238 rfl rfl (by omega) (by omega) ?_
                          refine g_goto 133 dX12_free_241 (by decide) ?_
                          refine g_drop 9 ?_
                          refine g_drop 10 ?_
                          have q54 : h50 98 5 = v36 := kz52
                          exact ih _ _ _ _ _ hMh50 (Fr.tr (Fr.tr (Fr.tr (Fr.tr (Fr.sub hFh22 rfl) hFh34 rfl) hFh37 rfl) hFh42 rfl) hFh50 rfl) (by omega) (by omega) (by omega) (by omega) (by omega) (by omega) (by omega) (by omega) (by first | exact lst_0 | exact lst_skip e133_0 (by omega) | exact lst_new e133_0 (by omega) (by omega) (by omega) | exact lst_keep e133_0 (by omega)) (by omega) (by omega) (by omega)
                        · skip
                          refine g_iload dX12_free_202 rfl (fun _ => ?_)
                          refine g_iload dX12_free_204 rfl (fun _ => ?_)
                          refine g_icmp_gt 238 dX12_free_206 (by decide) (fun _ => by exfalso; omega) (fun q55 => ?_)
                          refine g_iload dX12_free_209 rfl (fun _ => ?_)
                          refine g_iload dX12_free_211 rfl (fun _ => ?_)
                          refine g_icmp_ne 226 dX12_free_213 (by decide) (fun _ => by exfalso; omega) (fun q56 => ?_)
                          refine g_iload dX12_free_216 rfl (fun _ => ?_)
                          refine g_iload dX12_free_218 rfl (fun _ => ?_)
                          refine g_icmp_gt 226 dX12_free_220 (by decide) (fun _ => by exfalso; omega) (fun q57 => ?_)
                          refine g_goto 238 dX12_free_223 (by decide) ?_
                          refine g_iincB dX12_free_238 rfl rfl (by omega) (by omega) ?_
                          refine g_goto 133 dX12_free_241 (by decide) ?_
                          refine g_drop 9 ?_
                          refine g_drop 10 ?_
                          have q58 : h50 98 5 = v36 := kz52
                          exact ih _ _ _ _ _ hMh50 (Fr.tr (Fr.tr (Fr.tr (Fr.tr (Fr.sub hFh22 rfl) hFh34 rfl) hFh37 rfl) hFh42 rfl) hFh50 rfl) (by omega) (by omega) (by omega) (by omega) (by omega) (by omega) (by omega) (by omega) (by first | exact lst_0 | exact lst_skip e133_0 (by omega) | exact lst_new e133_0 (by omega) (by omega) (by omega) | exact lst_keep e133_0 (by omega)) (by omega) (by omega) (by omega)
                      · skip
                        refine g_goto 238 dX12_free_160 (by decide) ?_
                        refine g_iincB dX12_free_238 rfl rfl (by omega) (by omega) ?_
                        refine g_goto 133 dX12_free_241 (by decide) ?_
                        obtain ⟨v59, ev59⟩ : ∃ z, z = h22 98 5 := ⟨_, rfl⟩
                        have bv59 : 0 ≤ v59 ∧ v59 ≤ 2000000000 := by rw [ev59]; exact (m_98_5 hMh22)
                        exact ih _ _ _ _ _ hMh22 (Fr.sub hFh22 rfl) (by omega) (by omega) (by omega) (by omega) (by omega) (by omega) (by omega) (by omega) (by first | exact lst_0 | exact lst_skip e133_0 (by omega) | exact lst_new e133_0 (by omega) (by omega) (by omega) | exact lst_keep e133_0 (by omega)) (by omega) (by omega) (by omega)
                refine g_istore dX12_free_131 (by decide) rfl ?_
                have q60 : h17 98 5 = w98_5 := ((hFh17 98 5 rfl).trans ((hFh16 98 5 rfl).trans ew98_5.symm))
                exact c133 257 _ _ _ _ _ hMh17 Fr.rf (by omega) (by omega) (by omega) (by omega) (by omega) (by omega) (by omega) (by omega) (by first | exact lst_0 | exact lst_skip e133_0 (by omega) | exact lst_new e133_0 (by omega) (by omega) (by omega) | exact lst_keep e133_0 (by omega)) (by omega) (by omega) (by omega)
              · skip
                refine g_bipush dX12_free_105 (inR_c rfl) (by decide) ?_
                exact g_ireturn dX12_free_107 retI (hPo _ _ ⟨Fr.rf, (by first | exact Or.inl ⟨by omega, by omega⟩ | exact Or.inr (Or.inl ⟨by omega, by omega, by omega⟩) | exact Or.inr (Or.inr (Or.inr ⟨by omega, by omega, by omega, by omega⟩)) | exact Or.inr (Or.inr (Or.inl ⟨by omega, by omega, by omega, lst_done (n := x1) e133_0 (by omega) (by omega) (by omega) (by omega) (by omega)⟩)))⟩)
            · skip
              refine g_iload dX12_free_50 rfl (fun _ => ?_)
              refine g_aload_n dX12_free_52 rfl ?_
              refine gE_X12_334 rfl dX12_free_53 sh_98 ew98_5.symm ?_
              refine g_iload dX12_free_56 rfl (fun _ => ?_)
              refine g_iaddB dX12_free_58 (by omega) (by omega) ?_
              refine g_bipush dX12_free_59 (inR_c rfl) (by decide) ?_
              refine g_icmp_ge 86 dX12_free_61 (by decide) (fun _ => by exfalso; omega) (fun q61 => ?_)
              refine g_aload_n dX12_free_64 rfl ?_
              refine gR_X12_61 rfl dX12_free_65 sh_98 (b := 114) (m_98_22 hM) ?_
              refine g_aload_n dX12_free_68 rfl ?_
              refine gE_X12_334 rfl dX12_free_69 sh_98 ew98_5.symm ?_
              refine g_iload dX12_free_72 rfl (fun _ => ?_)
              refine g_iaddB dX12_free_74 (by omega) (by omega) ?_
              refine g_zaldB dX12_free_75 sh_114 (by omega) (by omega) (m_114 hM _) (fun v62 ev62 bv62 cv62 => ?_)
              refine g_if_ne 86 dX12_free_76 (by decide) (fun _ => by exfalso; omega) (fun q63 => ?_)
              refine g_iconst dX12_free_79 (inR_c rfl) ?_
              refine g_iload dX12_free_80 rfl (fun _ => ?_)
              refine g_ishlX (lo := 1) (hi := 128) dX12_free_82 (ishl1_b 7 (by decide) (by omega) (by omega)) (fun v64 ev64 bv64 cv64 => ?_)
              refine g_goto 87 dX12_free_83 (by decide) ?_
              refine g_iorX (lo := 0) (hi := 255) dX12_free_87 (ior_b 8 (by decide) (by omega) (by omega) (by omega) (by omega)) (fun v65 ev65 bv65 cv65 => ?_)
              refine g_istore dX12_free_88 (by decide) rfl ?_
              refine g_iincB dX12_free_90 rfl rfl (by omega) (by omega) ?_
              refine g_goto 44 dX12_free_93 (by decide) ?_
              exact ih _ _ (by omega) (by omega) (by omega) (by omega) (by first | exact pw_0 | exact or_st e44_0 (by omega) (by omega) (by assumption) (by assumption)) (by omega) (by omega)
        refine g_istore dX12_free_42 (by decide) rfl ?_
        exact c44 9 _ _ (by omega) (by omega) (by omega) (by omega) (by first | exact pw_0 | exact or_st e44_0 (by omega) (by omega) (by assumption) (by assumption)) (by omega) (by omega)
      · skip
        refine g_if_ne 38 dX12_free_33 (by decide) (fun _ => by exfalso; omega) (fun q66 => ?_)
        refine g_iconst dX12_free_36 (inR_c rfl) ?_
        exact g_ireturn dX12_free_37 retI (hPo _ _ ⟨Fr.rf, (by first | exact Or.inl ⟨by omega, by omega⟩ | exact Or.inr (Or.inl ⟨by omega, by omega, by omega⟩) | exact Or.inr (Or.inr (Or.inr ⟨by omega, by omega, by omega, by omega⟩)) | exact Or.inr (Or.inr (Or.inl ⟨by omega, by omega, by omega, lst_done (n := x1) e133_0 (by omega) (by omega) (by omega) (by omega) (by omega)⟩)))⟩)
    · skip
      refine g_if_eq 36 dX12_free_21 (by decide) (fun q67 => ?_) (fun _ => by exfalso; omega)
      refine g_iconst dX12_free_36 (inR_c rfl) ?_
      exact g_ireturn dX12_free_37 retI (hPo _ _ ⟨Fr.rf, (by first | exact Or.inl ⟨by omega, by omega⟩ | exact Or.inr (Or.inl ⟨by omega, by omega, by omega⟩) | exact Or.inr (Or.inr (Or.inr ⟨by omega, by omega, by omega, by omega⟩)) | exact Or.inr (Or.inr (Or.inl ⟨by omega, by omega, by omega, lst_done (n := x1) e133_0 (by omega) (by omega) (by omega) (by omega) (by omega)⟩)))⟩)
  · skip
    refine g_if_eq 36 dX12_free_9 (by decide) (fun q68 => ?_) (fun _ => by exfalso; omega)
    refine g_iconst dX12_free_36 (inR_c rfl) ?_
    exact g_ireturn dX12_free_37 retI (hPo _ _ ⟨Fr.rf, (by first | exact Or.inl ⟨by omega, by omega⟩ | exact Or.inr (Or.inl ⟨by omega, by omega, by omega⟩) | exact Or.inr (Or.inr (Or.inr ⟨by omega, by omega, by omega, by omega⟩)) | exact Or.inr (Or.inr (Or.inl ⟨by omega, by omega, by omega, lst_done (n := x1) e133_0 (by omega) (by omega) (by omega) (by omega) (by omega)⟩)))⟩)
