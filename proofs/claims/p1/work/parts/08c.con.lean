set_option maxRecDepth 100000 in
set_option maxHeartbeats 4000000 in
theorem c_X12_putsBack_98_k0 (h : MEM) (hM : MBm h) : CV yX12_putsBack cX12_putsBack 3 (none) 1 [pR 98, pI 0] h (fun h' => MBm h' ∧ Fr [(98, 3), (98, 4), (98, 5), (98, 6), (98, 7), (98, 8), (100, 0), (101, 0), (102, 0), (103, 0), (104, 0), (105, 0), (106, 0), (107, 0), (108, 0), (109, 0), (110, 0), (111, 0), (112, 0), (113, 0), (114, 0)] h h') := by
  refine CV.of (L0 := [some (pR 98), some (pI 0), none]) rfl (Nat.le_of_ble_eq_true rfl) rfl (fun Po hPo hav => ?_)
  refine g_iconst dX12_putsBack_0 (inR_c rfl) ?_
  have c2 : ∀ (n : Nat) (y1 : Int) (h2 : MEM), MBm h2 → Fr [(100, 0), (101, 0), (102, 0)] h h2 → 0 ≤ y1 → y1 ≤ 10 → 10 - y1 < (n : Int) → G yX12_putsBack cX12_putsBack 3 (none) none Po (1, 60, 0, 0) 2 [some (pR 98), some (pI 0), some (pI y1)] [] SH h2 0 0 := by
    intro n
    induction n with
    | zero =>
      intro y1 h2 hMh2 hFh2 by1 dy1 hn
      exfalso; omega
    | succ n ih =>
      intro y1 h2 hMh2 hFh2 by1 dy1 hn
      refine g_iload_n dX12_putsBack_2 rfl (fun _ => ?_)
      refine g_bipush dX12_putsBack_3 (inR_c rfl) (by decide) ?_
      refine g_icmp_ge 65 dX12_putsBack_5 (by decide) (fun q3 => ?_) (fun q3 => ?_)
      · skip
        refine g_iconst dX12_putsBack_65 (inR_c rfl) ?_
        have c67 : ∀ (n : Nat) (y4 : Int) (h5 : MEM), MBm h5 → Fr [(103, 0), (104, 0), (106, 0), (107, 0), (108, 0), (109, 0), (110, 0), (111, 0)] h2 h5 → 0 ≤ y4 → y4 ≤ 8 → 8 - y4 < (n : Int) → G yX12_putsBack cX12_putsBack 3 (none) none Po (1, 60, 0, 0) 67 [some (pR 98), some (pI 0), some (pI y4)] [] SH h5 0 0 := by
          intro n
          induction n with
          | zero =>
            intro y4 h5 hMh5 hFh5 by4 dy4 hn
            exfalso; omega
          | succ n ih =>
            intro y4 h5 hMh5 hFh5 by4 dy4 hn
            refine g_iload_n dX12_putsBack_67 rfl (fun _ => ?_)
            refine g_bipush dX12_putsBack_68 (inR_c rfl) (by decide) ?_
            refine g_icmp_ge 215 dX12_putsBack_70 (by decide) (fun q6 => ?_) (fun q6 => ?_)
            · skip
              refine g_iconst dX12_putsBack_215 (inR_c rfl) ?_
              have c217 : ∀ (n : Nat) (y7 : Int) (h8 : MEM), MBm h8 → Fr [(105, 0)] h5 h8 → 0 ≤ y7 → y7 ≤ 40 → 40 - y7 < (n : Int) → G yX12_putsBack cX12_putsBack 3 (none) none Po (1, 60, 0, 0) 217 [some (pR 98), some (pI 0), some (pI y7)] [] SH h8 0 0 := by
                intro n
                induction n with
                | zero =>
                  intro y7 h8 hMh8 hFh8 by7 dy7 hn
                  exfalso; omega
                | succ n ih =>
                  intro y7 h8 hMh8 hFh8 by7 dy7 hn
                  refine g_iload_n dX12_putsBack_217 rfl (fun _ => ?_)
                  refine g_bipush dX12_putsBack_218 (inR_c rfl) (by decide) ?_
                  refine g_icmp_ge 246 dX12_putsBack_220 (by decide) (fun q9 => ?_) (fun q9 => ?_)
                  · skip
                    refine g_iconst dX12_putsBack_246 (inR_c rfl) ?_
                    have c248 : ∀ (n : Nat) (y10 : Int) (h11 : MEM), MBm h11 → Fr [(112, 0), (113, 0)] h8 h11 → 0 ≤ y10 → y10 ≤ 64 → 64 - y10 < (n : Int) → G yX12_putsBack cX12_putsBack 3 (none) none Po (1, 60, 0, 0) 248 [some (pR 98), some (pI 0), some (pI y10)] [] SH h11 0 0 := by
                      intro n
                      induction n with
                      | zero =>
                        intro y10 h11 hMh11 hFh11 by10 dy10 hn
                        exfalso; omega
                      | succ n ih =>
                        intro y10 h11 hMh11 hFh11 by10 dy10 hn
                        refine g_iload_n dX12_putsBack_248 rfl (fun _ => ?_)
                        refine g_bipush dX12_putsBack_249 (inR_c rfl) (by decide) ?_
                        refine g_icmp_ge 294 dX12_putsBack_251 (by decide) (fun q12 => ?_) (fun q12 => ?_)
                        · skip
                          refine g_iconst dX12_putsBack_294 (inR_c rfl) ?_
                          have c296 : ∀ (n : Nat) (y13 : Int) (h14 : MEM), MBm h14 → Fr [(114, 0)] h11 h14 → 0 ≤ y13 → y13 ≤ 100 → 100 - y13 < (n : Int) → G yX12_putsBack cX12_putsBack 3 (none) none Po (1, 60, 0, 0) 296 [some (pR 98), some (pI 0), some (pI y13)] [] SH h14 0 0 := by
                            intro n
                            induction n with
                            | zero =>
                              intro y13 h14 hMh14 hFh14 by13 dy13 hn
                              exfalso; omega
                            | succ n ih =>
                              intro y13 h14 hMh14 hFh14 by13 dy13 hn
                              refine g_iload_n dX12_putsBack_296 rfl (fun _ => ?_)
                              refine g_bipush dX12_putsBack_297 (inR_c rfl) (by decide) ?_
                              refine g_icmp_ge 325 dX12_putsBack_299 (by decide) (fun q15 => ?_) (fun q15 => ?_)
                              · skip
                                refine g_aload_n dX12_putsBack_325 rfl ?_
                                refine g_aload_n dX12_putsBack_326 rfl ?_
                                refine gR_X12_154 rfl dX12_putsBack_327 sh_98 (b := 145) (m_98_70 hMh14) ?_
                                refine g_bipush dX12_putsBack_330 (inR_c rfl) (by decide) ?_
                                refine g_iload_n dX12_putsBack_332 rfl (fun _ => ?_)
                                refine g_imulB dX12_putsBack_333 (by omega) (by omega) ?_
                                refine g_ialdB dX12_putsBack_334 sh_145 (by omega) (by omega) (m_145_0 hMh14) (fun v16 ev16 bv16 cv16 => ?_)
                                refine pI_X12_172 rfl dX12_putsBack_335 sh_98 (fun h17 eh17 => ?_)
                                have hFh17 := Fr.st eh17
                                have hMh17 := u_98_2 hMh14 eh17 (by omega) (by omega)
                                refine g_aload_n dX12_putsBack_338 rfl ?_
                                refine g_aload_n dX12_putsBack_339 rfl ?_
                                refine gR_X12_154 rfl dX12_putsBack_340 sh_98 (b := 145) (m_98_70 hMh17) ?_
                                refine g_bipush dX12_putsBack_343 (inR_c rfl) (by decide) ?_
                                refine g_iload_n dX12_putsBack_345 rfl (fun _ => ?_)
                                refine g_imulB dX12_putsBack_346 (by omega) (by omega) ?_
                                refine g_iconst dX12_putsBack_347 (inR_c rfl) ?_
                                refine g_iaddB dX12_putsBack_348 (by omega) (by omega) ?_
                                refine g_ialdB dX12_putsBack_349 sh_145 (by omega) (by omega) (m_145_1 hMh17) (fun v18 ev18 bv18 cv18 => ?_)
                                refine pI_X12_179 rfl dX12_putsBack_350 sh_98 (fun h19 eh19 => ?_)
                                have hFh19 := Fr.st eh19
                                have hMh19 := u_98_3 hMh17 eh19 (by omega) (by omega)
                                refine g_aload_n dX12_putsBack_353 rfl ?_
                                refine g_aload_n dX12_putsBack_354 rfl ?_
                                refine gR_X12_154 rfl dX12_putsBack_355 sh_98 (b := 145) (m_98_70 hMh19) ?_
                                refine g_bipush dX12_putsBack_358 (inR_c rfl) (by decide) ?_
                                refine g_iload_n dX12_putsBack_360 rfl (fun _ => ?_)
                                refine g_imulB dX12_putsBack_361 (by omega) (by omega) ?_
                                refine g_iconst dX12_putsBack_362 (inR_c rfl) ?_
                                refine g_iaddB dX12_putsBack_363 (by omega) (by omega) ?_
                                refine g_ialdB dX12_putsBack_364 sh_145 (by omega) (by omega) (m_145_2 hMh19) (fun v20 ev20 bv20 cv20 => ?_)
                                refine pI_X12_182 rfl dX12_putsBack_365 sh_98 (fun h21 eh21 => ?_)
                                have hFh21 := Fr.st eh21
                                have hMh21 := u_98_4 hMh19 eh21 (by omega) (by omega)
                                refine g_aload_n dX12_putsBack_368 rfl ?_
                                refine g_aload_n dX12_putsBack_369 rfl ?_
                                refine gR_X12_154 rfl dX12_putsBack_370 sh_98 (b := 145) (m_98_70 hMh21) ?_
                                refine g_bipush dX12_putsBack_373 (inR_c rfl) (by decide) ?_
                                refine g_iload_n dX12_putsBack_375 rfl (fun _ => ?_)
                                refine g_imulB dX12_putsBack_376 (by omega) (by omega) ?_
                                refine g_iconst dX12_putsBack_377 (inR_c rfl) ?_
                                refine g_iaddB dX12_putsBack_378 (by omega) (by omega) ?_
                                refine g_ialdB dX12_putsBack_379 sh_145 (by omega) (by omega) (m_145_3 hMh21) (fun v22 ev22 bv22 cv22 => ?_)
                                refine pI_X12_334 rfl dX12_putsBack_380 sh_98 (fun h23 eh23 => ?_)
                                have hFh23 := Fr.st eh23
                                have hMh23 := u_98_5 hMh21 eh23 (by omega) (by omega)
                                refine g_aload_n dX12_putsBack_383 rfl ?_
                                refine g_aload_n dX12_putsBack_384 rfl ?_
                                refine gR_X12_154 rfl dX12_putsBack_385 sh_98 (b := 145) (m_98_70 hMh23) ?_
                                refine g_bipush dX12_putsBack_388 (inR_c rfl) (by decide) ?_
                                refine g_iload_n dX12_putsBack_390 rfl (fun _ => ?_)
                                refine g_imulB dX12_putsBack_391 (by omega) (by omega) ?_
                                refine g_iconst dX12_putsBack_392 (inR_c rfl) ?_
                                refine g_iaddB dX12_putsBack_393 (by omega) (by omega) ?_
                                refine g_ialdB dX12_putsBack_394 sh_145 (by omega) (by omega) (m_145_4 hMh23) (fun v24 ev24 bv24 cv24 => ?_)
                                refine pI_X12_13 rfl dX12_putsBack_395 sh_98 (fun h25 eh25 => ?_)
                                have hFh25 := Fr.st eh25
                                have hMh25 := u_98_6 hMh23 eh25 (by omega) (by omega)
                                refine g_aload_n dX12_putsBack_398 rfl ?_
                                refine g_aload_n dX12_putsBack_399 rfl ?_
                                refine gR_X12_154 rfl dX12_putsBack_400 sh_98 (b := 145) (m_98_70 hMh25) ?_
                                refine g_bipush dX12_putsBack_403 (inR_c rfl) (by decide) ?_
                                refine g_iload_n dX12_putsBack_405 rfl (fun _ => ?_)
                                refine g_imulB dX12_putsBack_406 (by omega) (by omega) ?_
                                refine g_iconst dX12_putsBack_407 (inR_c rfl) ?_
                                refine g_iaddB dX12_putsBack_408 (by omega) (by omega) ?_
                                refine g_ialdB dX12_putsBack_409 sh_145 (by omega) (by omega) (m_145_5 hMh25) (fun v26 ev26 bv26 cv26 => ?_)
                                refine pI_X12_372 rfl dX12_putsBack_410 sh_98 (fun h27 eh27 => ?_)
                                have hFh27 := Fr.st eh27
                                have hMh27 := u_98_7 hMh25 eh27 (by omega) (by omega)
                                exact g_return dX12_putsBack_413 rfl (hPo _ ⟨hMh27, (Fr.tr (Fr.tr (Fr.tr (Fr.tr (Fr.tr (Fr.tr (Fr.tr (Fr.tr (Fr.tr (Fr.tr (Fr.sub hFh2 rfl) hFh5 rfl) hFh8 rfl) hFh11 rfl) hFh14 rfl) hFh17 rfl) hFh19 rfl) hFh21 rfl) hFh23 rfl) hFh25 rfl) hFh27 rfl)⟩)
                              · skip
                                refine g_aload_n dX12_putsBack_302 rfl ?_
                                refine gR_X12_61 rfl dX12_putsBack_303 sh_98 (b := 114) (m_98_22 hMh14) ?_
                                refine g_iload_n dX12_putsBack_306 rfl (fun _ => ?_)
                                refine g_aload_n dX12_putsBack_307 rfl ?_
                                refine gR_X12_151 rfl dX12_putsBack_308 sh_98 (b := 144) (m_98_69 hMh14) ?_
                                refine g_bipush dX12_putsBack_311 (inR_c rfl) (by decide) ?_
                                refine g_iload_n dX12_putsBack_313 rfl (fun _ => ?_)
                                refine g_imulB dX12_putsBack_314 (by omega) (by omega) ?_
                                refine g_iload_n dX12_putsBack_315 rfl (fun _ => ?_)
                                refine g_iaddB dX12_putsBack_316 (by omega) (by omega) ?_
                                refine g_zaldB dX12_putsBack_317 sh_144 (by omega) (by omega) (m_144 hMh14 _) (fun v28 ev28 bv28 cv28 => ?_)
                                refine g_zastB dX12_putsBack_318 sh_114 (by omega) (by omega) (by omega) (fun h29 eh29 => ?_)
                                have hFh29 := Fr.ar eh29
                                have hMh29 := u_114 hMh14 eh29 (by omega) (by omega)
                                refine g_iincB dX12_putsBack_319 rfl rfl (by omega) (by omega) ?_
                                refine g_goto 296 dX12_putsBack_322 (by decide) ?_
                                exact ih _ _ hMh29 (Fr.tr (Fr.sub hFh14 rfl) hFh29 rfl) (by omega) (by omega) (by omega)
                          refine g_istore_n dX12_putsBack_295 (by decide) rfl ?_
                          exact c296 101 _ _ hMh11 Fr.rf (by omega) (by omega) (by omega)
                        · skip
                          refine g_aload_n dX12_putsBack_254 rfl ?_
                          refine gR_X12_55 rfl dX12_putsBack_255 sh_98 (b := 112) (m_98_20 hMh11) ?_
                          refine g_iload_n dX12_putsBack_258 rfl (fun _ => ?_)
                          refine g_aload_n dX12_putsBack_259 rfl ?_
                          refine gR_X12_145 rfl dX12_putsBack_260 sh_98 (b := 142) (m_98_67 hMh11) ?_
                          refine g_bipush dX12_putsBack_263 (inR_c rfl) (by decide) ?_
                          refine g_iload_n dX12_putsBack_265 rfl (fun _ => ?_)
                          refine g_imulB dX12_putsBack_266 (by omega) (by omega) ?_
                          refine g_iload_n dX12_putsBack_267 rfl (fun _ => ?_)
                          refine g_iaddB dX12_putsBack_268 (by omega) (by omega) ?_
                          refine g_ialdB dX12_putsBack_269 sh_142 (by omega) (by omega) (m_142 hMh11 _) (fun v30 ev30 bv30 cv30 => ?_)
                          refine g_iastB dX12_putsBack_270 sh_112 (by omega) (by omega) (fun h31 eh31 => ?_)
                          have hFh31 := Fr.ar eh31
                          have hMh31 := u_112 hMh11 eh31 (by omega) (by omega)
                          refine g_aload_n dX12_putsBack_271 rfl ?_
                          refine gR_X12_58 rfl dX12_putsBack_272 sh_98 (b := 113) (m_98_21 hMh31) ?_
                          refine g_iload_n dX12_putsBack_275 rfl (fun _ => ?_)
                          refine g_aload_n dX12_putsBack_276 rfl ?_
                          refine gR_X12_148 rfl dX12_putsBack_277 sh_98 (b := 143) (m_98_68 hMh31) ?_
                          refine g_bipush dX12_putsBack_280 (inR_c rfl) (by decide) ?_
                          refine g_iload_n dX12_putsBack_282 rfl (fun _ => ?_)
                          refine g_imulB dX12_putsBack_283 (by omega) (by omega) ?_
                          refine g_iload_n dX12_putsBack_284 rfl (fun _ => ?_)
                          refine g_iaddB dX12_putsBack_285 (by omega) (by omega) ?_
                          refine g_ialdB dX12_putsBack_286 sh_143 (by omega) (by omega) (m_143 hMh31 _) (fun v32 ev32 bv32 cv32 => ?_)
                          refine g_iastB dX12_putsBack_287 sh_113 (by omega) (by omega) (fun h33 eh33 => ?_)
                          have hFh33 := Fr.ar eh33
                          have hMh33 := u_113 hMh31 eh33 (by omega) (by omega)
                          refine g_iincB dX12_putsBack_288 rfl rfl (by omega) (by omega) ?_
                          refine g_goto 248 dX12_putsBack_291 (by decide) ?_
                          exact ih _ _ hMh33 (Fr.tr (Fr.tr (Fr.sub hFh11 rfl) hFh31 rfl) hFh33 rfl) (by omega) (by omega) (by omega)
                    refine g_istore_n dX12_putsBack_247 (by decide) rfl ?_
                    exact c248 65 _ _ hMh8 Fr.rf (by omega) (by omega) (by omega)
                  · skip
                    refine g_aload_n dX12_putsBack_223 rfl ?_
                    refine gR_X12_33 rfl dX12_putsBack_224 sh_98 (b := 105) (m_98_13 hMh8) ?_
                    refine g_iload_n dX12_putsBack_227 rfl (fun _ => ?_)
                    refine g_aload_n dX12_putsBack_228 rfl ?_
                    refine gR_X12_124 rfl dX12_putsBack_229 sh_98 (b := 135) (m_98_60 hMh8) ?_
                    refine g_bipush dX12_putsBack_232 (inR_c rfl) (by decide) ?_
                    refine g_iload_n dX12_putsBack_234 rfl (fun _ => ?_)
                    refine g_imulB dX12_putsBack_235 (by omega) (by omega) ?_
                    refine g_iload_n dX12_putsBack_236 rfl (fun _ => ?_)
                    refine g_iaddB dX12_putsBack_237 (by omega) (by omega) ?_
                    refine g_ialdB dX12_putsBack_238 sh_135 (by omega) (by omega) (m_135 hMh8 _) (fun v34 ev34 bv34 cv34 => ?_)
                    refine g_iastB dX12_putsBack_239 sh_105 (by omega) (by omega) (fun h35 eh35 => ?_)
                    have hFh35 := Fr.ar eh35
                    have hMh35 := u_105 hMh8 eh35 (by omega) (by omega)
                    refine g_iincB dX12_putsBack_240 rfl rfl (by omega) (by omega) ?_
                    refine g_goto 217 dX12_putsBack_243 (by decide) ?_
                    exact ih _ _ hMh35 (Fr.tr (Fr.sub hFh8 rfl) hFh35 rfl) (by omega) (by omega) (by omega)
              refine g_istore_n dX12_putsBack_216 (by decide) rfl ?_
              exact c217 41 _ _ hMh5 Fr.rf (by omega) (by omega) (by omega)
            · skip
              refine g_aload_n dX12_putsBack_73 rfl ?_
              refine gR_X12_27 rfl dX12_putsBack_74 sh_98 (b := 103) (m_98_11 hMh5) ?_
              refine g_iload_n dX12_putsBack_77 rfl (fun _ => ?_)
              refine g_aload_n dX12_putsBack_78 rfl ?_
              refine gR_X12_118 rfl dX12_putsBack_79 sh_98 (b := 133) (m_98_58 hMh5) ?_
              refine g_bipush dX12_putsBack_82 (inR_c rfl) (by decide) ?_
              refine g_iload_n dX12_putsBack_84 rfl (fun _ => ?_)
              refine g_imulB dX12_putsBack_85 (by omega) (by omega) ?_
              refine g_iload_n dX12_putsBack_86 rfl (fun _ => ?_)
              refine g_iaddB dX12_putsBack_87 (by omega) (by omega) ?_
              refine g_ialdB dX12_putsBack_88 sh_133 (by omega) (by omega) (m_133 hMh5 _) (fun v36 ev36 bv36 cv36 => ?_)
              refine g_iastB dX12_putsBack_89 sh_103 (by omega) (by omega) (fun h37 eh37 => ?_)
              have hFh37 := Fr.ar eh37
              have hMh37 := u_103 hMh5 eh37 (by omega) (by omega)
              refine g_aload_n dX12_putsBack_90 rfl ?_
              refine gR_X12_30 rfl dX12_putsBack_91 sh_98 (b := 104) (m_98_12 hMh37) ?_
              refine g_iload_n dX12_putsBack_94 rfl (fun _ => ?_)
              refine g_aload_n dX12_putsBack_95 rfl ?_
              refine gR_X12_121 rfl dX12_putsBack_96 sh_98 (b := 134) (m_98_59 hMh37) ?_
              refine g_bipush dX12_putsBack_99 (inR_c rfl) (by decide) ?_
              refine g_iload_n dX12_putsBack_101 rfl (fun _ => ?_)
              refine g_imulB dX12_putsBack_102 (by omega) (by omega) ?_
              refine g_iload_n dX12_putsBack_103 rfl (fun _ => ?_)
              refine g_iaddB dX12_putsBack_104 (by omega) (by omega) ?_
              refine g_ialdB dX12_putsBack_105 sh_134 (by omega) (by omega) (m_134 hMh37 _) (fun v38 ev38 bv38 cv38 => ?_)
              refine g_iastB dX12_putsBack_106 sh_104 (by omega) (by omega) (fun h39 eh39 => ?_)
              have hFh39 := Fr.ar eh39
              have hMh39 := u_104 hMh37 eh39 (by omega) (by omega)
              refine g_aload_n dX12_putsBack_107 rfl ?_
              refine gR_X12_36 rfl dX12_putsBack_108 sh_98 (b := 106) (m_98_14 hMh39) ?_
              refine g_iload_n dX12_putsBack_111 rfl (fun _ => ?_)
              refine g_aload_n dX12_putsBack_112 rfl ?_
              refine gR_X12_127 rfl dX12_putsBack_113 sh_98 (b := 136) (m_98_61 hMh39) ?_
              refine g_bipush dX12_putsBack_116 (inR_c rfl) (by decide) ?_
              refine g_iload_n dX12_putsBack_118 rfl (fun _ => ?_)
              refine g_imulB dX12_putsBack_119 (by omega) (by omega) ?_
              refine g_iload_n dX12_putsBack_120 rfl (fun _ => ?_)
              refine g_iaddB dX12_putsBack_121 (by omega) (by omega) ?_
              refine g_zaldB dX12_putsBack_122 sh_136 (by omega) (by omega) (m_136 hMh39 _) (fun v40 ev40 bv40 cv40 => ?_)
              refine g_zastB dX12_putsBack_123 sh_106 (by omega) (by omega) (by omega) (fun h41 eh41 => ?_)
              have hFh41 := Fr.ar eh41
              have hMh41 := u_106 hMh39 eh41 (by omega) (by omega)
              refine g_aload_n dX12_putsBack_124 rfl ?_
              refine gR_X12_40 rfl dX12_putsBack_125 sh_98 (b := 107) (m_98_15 hMh41) ?_
              refine g_iload_n dX12_putsBack_128 rfl (fun _ => ?_)
              refine g_aload_n dX12_putsBack_129 rfl ?_
              refine gR_X12_130 rfl dX12_putsBack_130 sh_98 (b := 137) (m_98_62 hMh41) ?_
              refine g_bipush dX12_putsBack_133 (inR_c rfl) (by decide) ?_
              refine g_iload_n dX12_putsBack_135 rfl (fun _ => ?_)
              refine g_imulB dX12_putsBack_136 (by omega) (by omega) ?_
              refine g_iload_n dX12_putsBack_137 rfl (fun _ => ?_)
              refine g_iaddB dX12_putsBack_138 (by omega) (by omega) ?_
              refine g_ialdB dX12_putsBack_139 sh_137 (by omega) (by omega) (m_137 hMh41 _) (fun v42 ev42 bv42 cv42 => ?_)
              refine g_iastB dX12_putsBack_140 sh_107 (by omega) (by omega) (fun h43 eh43 => ?_)
              have hFh43 := Fr.ar eh43
              have hMh43 := u_107 hMh41 eh43 (by omega) (by omega)
              refine g_aload_n dX12_putsBack_141 rfl ?_
              refine gR_X12_43 rfl dX12_putsBack_142 sh_98 (b := 108) (m_98_16 hMh43) ?_
              refine g_iload_n dX12_putsBack_145 rfl (fun _ => ?_)
              refine g_aload_n dX12_putsBack_146 rfl ?_
              refine gR_X12_133 rfl dX12_putsBack_147 sh_98 (b := 138) (m_98_63 hMh43) ?_
              refine g_bipush dX12_putsBack_150 (inR_c rfl) (by decide) ?_
              refine g_iload_n dX12_putsBack_152 rfl (fun _ => ?_)
              refine g_imulB dX12_putsBack_153 (by omega) (by omega) ?_
              refine g_iload_n dX12_putsBack_154 rfl (fun _ => ?_)
              refine g_iaddB dX12_putsBack_155 (by omega) (by omega) ?_
              refine g_ialdB dX12_putsBack_156 sh_138 (by omega) (by omega) (m_138 hMh43 _) (fun v44 ev44 bv44 cv44 => ?_)
              refine g_iastB dX12_putsBack_157 sh_108 (by omega) (by omega) (fun h45 eh45 => ?_)
              have hFh45 := Fr.ar eh45
              have hMh45 := u_108 hMh43 eh45 (by omega) (by omega)
              refine g_aload_n dX12_putsBack_158 rfl ?_
              refine gR_X12_46 rfl dX12_putsBack_159 sh_98 (b := 109) (m_98_17 hMh45) ?_
              refine g_iload_n dX12_putsBack_162 rfl (fun _ => ?_)
              refine g_aload_n dX12_putsBack_163 rfl ?_
              refine gR_X12_136 rfl dX12_putsBack_164 sh_98 (b := 139) (m_98_64 hMh45) ?_
              refine g_bipush dX12_putsBack_167 (inR_c rfl) (by decide) ?_
              refine g_iload_n dX12_putsBack_169 rfl (fun _ => ?_)
              refine g_imulB dX12_putsBack_170 (by omega) (by omega) ?_
              refine g_iload_n dX12_putsBack_171 rfl (fun _ => ?_)
              refine g_iaddB dX12_putsBack_172 (by omega) (by omega) ?_
              refine g_ialdB dX12_putsBack_173 sh_139 (by omega) (by omega) (m_139 hMh45 _) (fun v46 ev46 bv46 cv46 => ?_)
              refine g_iastB dX12_putsBack_174 sh_109 (by omega) (by omega) (fun h47 eh47 => ?_)
              have hFh47 := Fr.ar eh47
              have hMh47 := u_109 hMh45 eh47 (by omega) (by omega)
              refine g_aload_n dX12_putsBack_175 rfl ?_
              refine gR_X12_49 rfl dX12_putsBack_176 sh_98 (b := 110) (m_98_18 hMh47) ?_
              refine g_iload_n dX12_putsBack_179 rfl (fun _ => ?_)
              refine g_aload_n dX12_putsBack_180 rfl ?_
              refine gR_X12_139 rfl dX12_putsBack_181 sh_98 (b := 140) (m_98_65 hMh47) ?_
              refine g_bipush dX12_putsBack_184 (inR_c rfl) (by decide) ?_
              refine g_iload_n dX12_putsBack_186 rfl (fun _ => ?_)
              refine g_imulB dX12_putsBack_187 (by omega) (by omega) ?_
              refine g_iload_n dX12_putsBack_188 rfl (fun _ => ?_)
              refine g_iaddB dX12_putsBack_189 (by omega) (by omega) ?_
              refine g_zaldB dX12_putsBack_190 sh_140 (by omega) (by omega) (m_140 hMh47 _) (fun v48 ev48 bv48 cv48 => ?_)
              refine g_zastB dX12_putsBack_191 sh_110 (by omega) (by omega) (by omega) (fun h49 eh49 => ?_)
              have hFh49 := Fr.ar eh49
              have hMh49 := u_110 hMh47 eh49 (by omega) (by omega)
              refine g_aload_n dX12_putsBack_192 rfl ?_
              refine gR_X12_52 rfl dX12_putsBack_193 sh_98 (b := 111) (m_98_19 hMh49) ?_
              refine g_iload_n dX12_putsBack_196 rfl (fun _ => ?_)
              refine g_aload_n dX12_putsBack_197 rfl ?_
              refine gR_X12_142 rfl dX12_putsBack_198 sh_98 (b := 141) (m_98_66 hMh49) ?_
              refine g_bipush dX12_putsBack_201 (inR_c rfl) (by decide) ?_
              refine g_iload_n dX12_putsBack_203 rfl (fun _ => ?_)
              refine g_imulB dX12_putsBack_204 (by omega) (by omega) ?_
              refine g_iload_n dX12_putsBack_205 rfl (fun _ => ?_)
              refine g_iaddB dX12_putsBack_206 (by omega) (by omega) ?_
              refine g_ialdB dX12_putsBack_207 sh_141 (by omega) (by omega) (m_141 hMh49 _) (fun v50 ev50 bv50 cv50 => ?_)
              refine g_iastB dX12_putsBack_208 sh_111 (by omega) (by omega) (fun h51 eh51 => ?_)
              have hFh51 := Fr.ar eh51
              have hMh51 := u_111 hMh49 eh51 (by omega) (by omega)
              refine g_iincB dX12_putsBack_209 rfl rfl (by omega) (by omega) ?_
              refine g_goto 67 dX12_putsBack_212 (by decide) ?_
              exact ih _ _ hMh51 (Fr.tr (Fr.tr (Fr.tr (Fr.tr (Fr.tr (Fr.tr (Fr.tr (Fr.tr (Fr.sub hFh5 rfl) hFh37 rfl) hFh39 rfl) hFh41 rfl) hFh43 rfl) hFh45 rfl) hFh47 rfl) hFh49 rfl) hFh51 rfl) (by omega) (by omega) (by omega)
        refine g_istore_n dX12_putsBack_66 (by decide) rfl ?_
        exact c67 9 _ _ hMh2 Fr.rf (by omega) (by omega) (by omega)
      · skip
        refine g_aload_n dX12_putsBack_8 rfl ?_
        refine gR_X12_17 rfl dX12_putsBack_9 sh_98 (b := 100) (m_98_8 hMh2) ?_
        refine g_iload_n dX12_putsBack_12 rfl (fun _ => ?_)
        refine g_aload_n dX12_putsBack_13 rfl ?_
        refine gR_X12_109 rfl dX12_putsBack_14 sh_98 (b := 130) (m_98_55 hMh2) ?_
        refine g_bipush dX12_putsBack_17 (inR_c rfl) (by decide) ?_
        refine g_iload_n dX12_putsBack_19 rfl (fun _ => ?_)
        refine g_imulB dX12_putsBack_20 (by omega) (by omega) ?_
        refine g_iload_n dX12_putsBack_21 rfl (fun _ => ?_)
        refine g_iaddB dX12_putsBack_22 (by omega) (by omega) ?_
        refine g_ialdB dX12_putsBack_23 sh_130 (by omega) (by omega) (m_130 hMh2 _) (fun v52 ev52 bv52 cv52 => ?_)
        refine g_iastB dX12_putsBack_24 sh_100 (by omega) (by omega) (fun h53 eh53 => ?_)
        have hFh53 := Fr.ar eh53
        have hMh53 := u_100 hMh2 eh53 (by omega) (by omega)
        refine g_aload_n dX12_putsBack_25 rfl ?_
        refine gR_X12_21 rfl dX12_putsBack_26 sh_98 (b := 101) (m_98_9 hMh53) ?_
        refine g_iload_n dX12_putsBack_29 rfl (fun _ => ?_)
        refine g_aload_n dX12_putsBack_30 rfl ?_
        refine gR_X12_112 rfl dX12_putsBack_31 sh_98 (b := 131) (m_98_56 hMh53) ?_
        refine g_bipush dX12_putsBack_34 (inR_c rfl) (by decide) ?_
        refine g_iload_n dX12_putsBack_36 rfl (fun _ => ?_)
        refine g_imulB dX12_putsBack_37 (by omega) (by omega) ?_
        refine g_iload_n dX12_putsBack_38 rfl (fun _ => ?_)
        refine g_iaddB dX12_putsBack_39 (by omega) (by omega) ?_
        refine g_ialdB dX12_putsBack_40 sh_131 (by omega) (by omega) (m_131 hMh53 _) (fun v54 ev54 bv54 cv54 => ?_)
        refine g_iastB dX12_putsBack_41 sh_101 (by omega) (by omega) (fun h55 eh55 => ?_)
        have hFh55 := Fr.ar eh55
        have hMh55 := u_101 hMh53 eh55 (by omega) (by omega)
        refine g_aload_n dX12_putsBack_42 rfl ?_
        refine gR_X12_24 rfl dX12_putsBack_43 sh_98 (b := 102) (m_98_10 hMh55) ?_
        refine g_iload_n dX12_putsBack_46 rfl (fun _ => ?_)
        refine g_aload_n dX12_putsBack_47 rfl ?_
        refine gR_X12_115 rfl dX12_putsBack_48 sh_98 (b := 132) (m_98_57 hMh55) ?_
        refine g_bipush dX12_putsBack_51 (inR_c rfl) (by decide) ?_
        refine g_iload_n dX12_putsBack_53 rfl (fun _ => ?_)
        refine g_imulB dX12_putsBack_54 (by omega) (by omega) ?_
        refine g_iload_n dX12_putsBack_55 rfl (fun _ => ?_)
        refine g_iaddB dX12_putsBack_56 (by omega) (by omega) ?_
        refine g_ialdB dX12_putsBack_57 sh_132 (by omega) (by omega) (m_132 hMh55 _) (fun v56 ev56 bv56 cv56 => ?_)
        refine g_iastB dX12_putsBack_58 sh_102 (by omega) (by omega) (fun h57 eh57 => ?_)
        have hFh57 := Fr.ar eh57
        have hMh57 := u_102 hMh55 eh57 (by omega) (by omega)
        refine g_iincB dX12_putsBack_59 rfl rfl (by omega) (by omega) ?_
        refine g_goto 2 dX12_putsBack_62 (by decide) ?_
        exact ih _ _ hMh57 (Fr.tr (Fr.tr (Fr.tr (Fr.sub hFh2 rfl) hFh53 rfl) hFh55 rfl) hFh57 rfl) (by omega) (by omega) (by omega)
  refine g_istore_n dX12_putsBack_1 (by decide) rfl ?_
  exact c2 11 _ _ hM Fr.rf (by omega) (by omega) (by omega)
set_option maxRecDepth 100000 in
set_option maxHeartbeats 4000000 in
theorem c_X12_allBruises_98 (h : MEM) (hM : MBm h) : CP yX12_allBruises cX12_allBruises 3 (some .int) 1 [pR 98] h (fun x => 0 ≤ x ∧ x ≤ 0) := by
  refine CP.of (L0 := [some (pR 98), none, none]) rfl (Nat.le_of_ble_eq_true rfl) rfl (fun Po hPo hav => ?_)
  refine g_iconst dX12_allBruises_0 (inR_c rfl) ?_
  refine g_istore_n dX12_allBruises_1 (by decide) rfl ?_
  refine g_iconst dX12_allBruises_2 (inR_c rfl) ?_
  refine g_istore_n dX12_allBruises_3 (by decide) rfl ?_
  refine g_iload_n dX12_allBruises_4 rfl (fun _ => ?_)
  refine g_aload_n dX12_allBruises_5 rfl ?_
  refine gI_X12_182 rfl dX12_allBruises_6 sh_98 (m_98_4 hM) (fun v1 ev1 bv1 cv1 => ?_)
  refine g_icmp_ge 27 dX12_allBruises_9 (by decide) (fun q2 => ?_) (fun _ => by exfalso; omega)
  refine g_iload_n dX12_allBruises_27 rfl (fun _ => ?_)
  exact g_ireturn dX12_allBruises_28 retI (hPo _ ⟨(by omega), (by omega)⟩)
set_option maxRecDepth 100000 in
set_option maxHeartbeats 4000000 in
theorem c_X12_allSlates_98 (h : MEM) (hM : MBm h) : CP yX12_allSlates cX12_allSlates 3 (some .int) 1 [pR 98] h (fun x => 0 ≤ x ∧ x ≤ 0) := by
  refine CP.of (L0 := [some (pR 98), none, none]) rfl (Nat.le_of_ble_eq_true rfl) rfl (fun Po hPo hav => ?_)
  refine g_iconst dX12_allSlates_0 (inR_c rfl) ?_
  refine g_istore_n dX12_allSlates_1 (by decide) rfl ?_
  refine g_iconst dX12_allSlates_2 (inR_c rfl) ?_
  refine g_istore_n dX12_allSlates_3 (by decide) rfl ?_
  refine g_iload_n dX12_allSlates_4 rfl (fun _ => ?_)
  refine g_aload_n dX12_allSlates_5 rfl ?_
  refine gI_X12_172 rfl dX12_allSlates_6 sh_98 (m_98_2 hM) (fun v1 ev1 bv1 cv1 => ?_)
  refine g_icmp_ge 27 dX12_allSlates_9 (by decide) (fun q2 => ?_) (fun _ => by exfalso; omega)
  refine g_iload_n dX12_allSlates_27 rfl (fun _ => ?_)
  exact g_ireturn dX12_allSlates_28 retI (hPo _ ⟨(by omega), (by omega)⟩)
set_option maxRecDepth 100000 in
set_option maxHeartbeats 4000000 in
theorem c_X12_tried_98 (x1 x2 : Int) (h : MEM) (hM : MBm h) (bx1 : -2147483648 ≤ x1) (dx1 : x1 ≤ 2147483647) (bx2 : -2147483648 ≤ x2) (dx2 : x2 ≤ 2147483647) (p0_0 : 0 ≤ h 98 5) (p0_1 : h 98 5 ≤ 0) : CI yX12_tried cX12_tried 4 (some .int) 5 [pR 98, pI x1, pI x2] h (fun x h' => Fr [(98, 3), (98, 4), (98, 5), (98, 6), (98, 7), (98, 8), (98, 49), (98, 52), (100, 0), (101, 0), (102, 0), (103, 0), (104, 0), (105, 0), (106, 0), (107, 0), (108, 0), (109, 0), (110, 0), (111, 0), (112, 0), (113, 0), (114, 0), (130, 0), (131, 0), (132, 0), (133, 0), (134, 0), (135, 0), (136, 0), (137, 0), (138, 0), (139, 0), (140, 0), (141, 0), (142, 0), (143, 0), (144, 0), (145, 1), (145, 2), (145, 3), (145, 4), (145, 5), (145, 6)] h h' ∧ ((1 ≤ x1 ∧ x1 ≤ 40 ∧ 0 ≤ x2 ∧ x2 ≤ 3) ∧ x = 0 ∨ ¬ (1 ≤ x1 ∧ x1 ≤ 40 ∧ 0 ≤ x2 ∧ x2 ≤ 3) ∧ x = -1)) := by
  refine CI.of (L0 := [some (pR 98), some (pI x1), some (pI x2), none]) rfl (Nat.le_of_ble_eq_true rfl) rfl (fun Po hPo hav => ?_)
  obtain ⟨w98_5, ew98_5⟩ : ∃ z, z = h 98 5 := ⟨_, rfl⟩
  refine g_iload_n dX12_tried_0 rfl (fun _ => ?_)
  refine g_cSP (av := [_]) (c_X12_areHours _ h hM (by omega) (by omega)) dX12_tried_1 mi_X12_areHours st_X12_areHours ml_X12_398 rfl rfl rfl rfl (Nat.le_of_ble_eq_true rfl) (fun v1 q2 => ?_)
  rcases q2 with ⟨rfl, q2⟩ | ⟨rfl, q2⟩
  · skip
    refine g_if_eq 41 dX12_tried_4 (by decide) (fun _ => by exfalso; omega) (fun q3 => ?_)
    refine g_iload_n dX12_tried_7 rfl (fun _ => ?_)
    refine g_i2l dX12_tried_8 ?_
    refine g_lconst (v := 0) dX12_tried_9 rfl ?_
    refine g_ldc2 (v := 3) dX12_tried_10 kl_X12_417 (by decide) ?_
    refine g_cSP (av := [_, _, _]) (c_X12_lies _ _ _ h hM (by omega) (by omega) (by omega) (by omega) (by omega) (by omega)) dX12_tried_13 mi_X12_lies st_X12_lies ml_X12_175 rfl rfl rfl rfl (Nat.le_of_ble_eq_true rfl) (fun v4 q5 => ?_)
    rcases q5 with ⟨rfl, q5⟩ | ⟨rfl, q5⟩
    · skip
      refine g_if_ne 43 dX12_tried_16 (by decide) (fun q6 => ?_) (fun _ => by exfalso; omega)
      refine g_aload_n dX12_tried_43 rfl ?_
      refine g_iconst dX12_tried_44 (inR_c rfl) ?_
      refine g_cVV (as := [_]) (c_X12_setsAside_98_k0  h hM) dX12_tried_45 mi_X12_setsAside in_X12_setsAside se_X12_setsAside ml_X12_419 rfl rfl rfl sh_98 rfl rfl (Nat.le_of_ble_eq_true rfl) (fun h7 q8 => ?_)
      obtain ⟨hMh7, hFh7⟩ := q8
      refine g_aload_n dX12_tried_48 rfl ?_
      refine g_iconst dX12_tried_49 (inR_c rfl) ?_
      refine pI_X12_366 rfl dX12_tried_50 sh_98 (fun h9 eh9 => ?_)
      have hFh9 := Fr.st eh9
      have hMh9 := u_98_51 hMh7 eh9 (by omega) (by omega)
      refine g_aload_n dX12_tried_53 rfl ?_
      refine g_iload_n dX12_tried_54 rfl (fun _ => ?_)
      have q10 : h9 98 5 = w98_5 := ((hFh9 98 5 rfl).trans ((hFh7 98 5 rfl).trans ew98_5.symm))
      have q11 : h9 98 5 = w98_5 := ((hFh9 98 5 rfl).trans ((hFh7 98 5 rfl).trans ew98_5.symm))
      refine g_cVV (as := [_]) (c_X12_goesOn_98 _ h9 hMh9 (by omega) (by omega) (by omega) (by omega)) dX12_tried_55 mi_X12_goesOn in_X12_goesOn se_X12_goesOn ml_X12_401 rfl rfl rfl sh_98 rfl rfl (Nat.le_of_ble_eq_true rfl) (fun h12 q13 => ?_)
      obtain ⟨hMh12, hFh12, z14⟩ := q13
      have kz14 : h12 98 5 = (w98_5 + x1) := by omega
      refine g_iload_n dX12_tried_58 rfl (fun _ => ?_)
      refine g_if_ne 69 dX12_tried_59 (by decide) (fun q15 => ?_) (fun q15 => ?_)
      · skip
        refine g_iload_n dX12_tried_69 rfl (fun _ => ?_)
        refine g_iconst dX12_tried_70 (inR_c rfl) ?_
        refine g_icmp_ne 81 dX12_tried_71 (by decide) (fun q16 => ?_) (fun q16 => ?_)
        · skip
          refine g_iload_n dX12_tried_81 rfl (fun _ => ?_)
          refine g_iconst dX12_tried_82 (inR_c rfl) ?_
          refine g_icmp_ne 93 dX12_tried_83 (by decide) (fun q17 => ?_) (fun q17 => ?_)
          · skip
            refine g_iload_n dX12_tried_93 rfl (fun _ => ?_)
            refine g_iconst dX12_tried_94 (inR_c rfl) ?_
            refine g_icmp_ne 105 dX12_tried_95 (by decide) (fun _ => by exfalso; omega) (fun q18 => ?_)
            refine g_aload_n dX12_tried_98 rfl ?_
            refine gI_X12_372 rfl dX12_tried_99 sh_98 (m_98_7 hMh12) (fun v19 ev19 bv19 cv19 => ?_)
            refine g_goto 132 dX12_tried_102 (by decide) ?_
            refine g_istore_n dX12_tried_132 (by decide) rfl ?_
            refine g_aload_n dX12_tried_133 rfl ?_
            refine g_iconst dX12_tried_134 (inR_c rfl) ?_
            refine g_cVV (as := [_]) (c_X12_putsBack_98_k0  h12 hMh12) dX12_tried_135 mi_X12_putsBack in_X12_putsBack se_X12_putsBack ml_X12_428 rfl rfl rfl sh_98 rfl rfl (Nat.le_of_ble_eq_true rfl) (fun h20 q21 => ?_)
            obtain ⟨hMh20, hFh20⟩ := q21
            refine g_iload_n dX12_tried_138 rfl (fun _ => ?_)
            exact g_ireturn dX12_tried_139 retI (hPo _ _ ⟨(Fr.tr (Fr.tr (Fr.tr (Fr.sub hFh7 rfl) hFh9 rfl) hFh12 rfl) hFh20 rfl), (by omega)⟩)
          · skip
            refine g_aload_n dX12_tried_86 rfl ?_
            refine g_cVP (as := []) (c_X12_allBruises_98  h12 hMh12) dX12_tried_87 mi_X12_allBruises in_X12_allBruises se_X12_allBruises ml_X12_425 rfl rfl rfl sh_98 rfl rfl (Nat.le_of_ble_eq_true rfl) (fun v22 q23 => ?_)
            obtain ⟨bv22, cv22⟩ := q23
            refine g_goto 132 dX12_tried_90 (by decide) ?_
            refine g_istore_n dX12_tried_132 (by decide) rfl ?_
            refine g_aload_n dX12_tried_133 rfl ?_
            refine g_iconst dX12_tried_134 (inR_c rfl) ?_
            refine g_cVV (as := [_]) (c_X12_putsBack_98_k0  h12 hMh12) dX12_tried_135 mi_X12_putsBack in_X12_putsBack se_X12_putsBack ml_X12_428 rfl rfl rfl sh_98 rfl rfl (Nat.le_of_ble_eq_true rfl) (fun h24 q25 => ?_)
            obtain ⟨hMh24, hFh24⟩ := q25
            refine g_iload_n dX12_tried_138 rfl (fun _ => ?_)
            exact g_ireturn dX12_tried_139 retI (hPo _ _ ⟨(Fr.tr (Fr.tr (Fr.tr (Fr.sub hFh7 rfl) hFh9 rfl) hFh12 rfl) hFh24 rfl), (by omega)⟩)
        · skip
          refine g_aload_n dX12_tried_74 rfl ?_
          refine gE_X12_366 rfl dX12_tried_75 sh_98 ((hFh12 98 51 rfl).trans (st_at eh9)) ?_
          refine g_goto 132 dX12_tried_78 (by decide) ?_
          refine g_istore_n dX12_tried_132 (by decide) rfl ?_
          refine g_aload_n dX12_tried_133 rfl ?_
          refine g_iconst dX12_tried_134 (inR_c rfl) ?_
          refine g_cVV (as := [_]) (c_X12_putsBack_98_k0  h12 hMh12) dX12_tried_135 mi_X12_putsBack in_X12_putsBack se_X12_putsBack ml_X12_428 rfl rfl rfl sh_98 rfl rfl (Nat.le_of_ble_eq_true rfl) (fun h26 q27 => ?_)
          obtain ⟨hMh26, hFh26⟩ := q27
          refine g_iload_n dX12_tried_138 rfl (fun _ => ?_)
          exact g_ireturn dX12_tried_139 retI (hPo _ _ ⟨(Fr.tr (Fr.tr (Fr.tr (Fr.sub hFh7 rfl) hFh9 rfl) hFh12 rfl) hFh26 rfl), (by omega)⟩)
      · skip
        refine g_aload_n dX12_tried_62 rfl ?_
        refine g_cVP (as := []) (c_X12_allSlates_98  h12 hMh12) dX12_tried_63 mi_X12_allSlates in_X12_allSlates se_X12_allSlates ml_X12_422 rfl rfl rfl sh_98 rfl rfl (Nat.le_of_ble_eq_true rfl) (fun v28 q29 => ?_)
        obtain ⟨bv28, cv28⟩ := q29
        refine g_goto 132 dX12_tried_66 (by decide) ?_
        refine g_istore_n dX12_tried_132 (by decide) rfl ?_
        refine g_aload_n dX12_tried_133 rfl ?_
        refine g_iconst dX12_tried_134 (inR_c rfl) ?_
        refine g_cVV (as := [_]) (c_X12_putsBack_98_k0  h12 hMh12) dX12_tried_135 mi_X12_putsBack in_X12_putsBack se_X12_putsBack ml_X12_428 rfl rfl rfl sh_98 rfl rfl (Nat.le_of_ble_eq_true rfl) (fun h30 q31 => ?_)
        obtain ⟨hMh30, hFh30⟩ := q31
        refine g_iload_n dX12_tried_138 rfl (fun _ => ?_)
        exact g_ireturn dX12_tried_139 retI (hPo _ _ ⟨(Fr.tr (Fr.tr (Fr.tr (Fr.sub hFh7 rfl) hFh9 rfl) hFh12 rfl) hFh30 rfl), (by omega)⟩)
    · skip
      refine g_if_ne 43 dX12_tried_16 (by decide) (fun _ => by exfalso; omega) (fun q32 => ?_)
      refine g_aload_n dX12_tried_19 rfl ?_
      refine g_iload_n dX12_tried_20 rfl (fun _ => ?_)
      refine g_bipush dX12_tried_21 (inR_c rfl) (by decide) ?_
      refine g_isubF dX12_tried_23 (fun v33 bv33 cv33 => ?_)
      refine g_cVP (as := [_]) (c_X12_isRoof_98 _ h hM (by omega) (by omega)) dX12_tried_24 mi_X12_isRoof in_X12_isRoof se_X12_isRoof ml_X12_198 rfl rfl rfl sh_98 rfl rfl (Nat.le_of_ble_eq_true rfl) (fun v34 q35 => ?_)
      obtain ⟨v36, ev36⟩ : ∃ z, z = h 98 2 := ⟨_, rfl⟩
      have bv36 : 0 ≤ v36 ∧ v36 ≤ 0 := by rw [ev36]; exact (m_98_2 hM)
      rcases q35 with ⟨rfl, q35⟩ | ⟨rfl, q35⟩
      · skip
        exfalso; omega
      · skip
        refine g_if_ne 43 dX12_tried_27 (by decide) (fun _ => by exfalso; omega) (fun q37 => ?_)
        refine g_aload_n dX12_tried_30 rfl ?_
        refine g_iload_n dX12_tried_31 rfl (fun _ => ?_)
        refine g_bipush dX12_tried_32 (inR_c rfl) (by decide) ?_
        refine g_isubF dX12_tried_34 (fun v38 bv38 cv38 => ?_)
        refine g_cVP (as := [_]) (c_X12_isMaster_98 _ h hM (by omega) (by omega)) dX12_tried_35 mi_X12_isMaster in_X12_isMaster se_X12_isMaster ml_X12_201 rfl rfl rfl sh_98 rfl rfl (Nat.le_of_ble_eq_true rfl) (fun v39 q40 => ?_)
        obtain ⟨v41, ev41⟩ : ∃ z, z = h 98 4 := ⟨_, rfl⟩
        have bv41 : 0 ≤ v41 ∧ v41 ≤ 0 := by rw [ev41]; exact (m_98_4 hM)
        rcases q40 with ⟨rfl, q40⟩ | ⟨rfl, q40⟩
        · skip
          exfalso; omega
        · skip
          refine g_if_ne 43 dX12_tried_38 (by decide) (fun _ => by exfalso; omega) (fun q42 => ?_)
          refine g_iconst dX12_tried_41 (inR_c rfl) ?_
          exact g_ireturn dX12_tried_42 retI (hPo _ _ ⟨Fr.rf, (by omega)⟩)
  · skip
    refine g_if_eq 41 dX12_tried_4 (by decide) (fun q43 => ?_) (fun _ => by exfalso; omega)
    refine g_iconst dX12_tried_41 (inR_c rfl) ?_
    exact g_ireturn dX12_tried_42 retI (hPo _ _ ⟨Fr.rf, (by omega)⟩)
set_option maxRecDepth 100000 in
set_option maxHeartbeats 4000000 in
theorem c_X11_areTold_0 (x1 : Int) (h : MEM) (hM : MBx h) (bx1 : -2147483648 ≤ x1) (dx1 : x1 ≤ 2147483647) : CP yX11_areTold cX11_areTold 2 (some .boolean) 2 [pR 0, pI x1] h (fun x => 0 ≤ x ∧ x ≤ 1) := by
  refine CP.of (L0 := [some (pR 0), some (pI x1)]) rfl (Nat.le_of_ble_eq_true rfl) rfl (fun Po hPo hav => ?_)
  refine g_iload_n dX11_areTold_0 rfl (fun _ => ?_)
  refine g_if_le 31 dX11_areTold_1 (by decide) (fun q1 => ?_) (fun q1 => ?_)
  · skip
    refine g_iconst dX11_areTold_31 (inR_c rfl) ?_
    exact g_ireturn dX11_areTold_32 (retZ (by omega)) (hPo _ ⟨(by omega), (by omega)⟩)
  · skip
    refine g_iload_n dX11_areTold_4 rfl (fun _ => ?_)
    refine g_aload_n dX11_areTold_5 rfl ?_
    refine gR_X11_10 rfl dX11_areTold_6 sh_0 (b := 1) (m_0_0 hM) ?_
    refine gR_X11_95 rfl dX11_areTold_9 sh_1 (b := 6) (m_1_1 hM) ?_
    refine gI_X11_310 rfl dX11_areTold_12 sh_6 (m_6_0 hM) (fun v2 ev2 bv2 cv2 => ?_)
    refine g_ishrF dX11_areTold_15 (fun v3 bv3 cv3 => ?_)
    refine g_if_ne 31 dX11_areTold_16 (by decide) (fun q4 => ?_) (fun q4 => ?_)
    · skip
      refine g_iconst dX11_areTold_31 (inR_c rfl) ?_
      exact g_ireturn dX11_areTold_32 (retZ (by omega)) (hPo _ ⟨(by omega), (by omega)⟩)
    · skip
      refine g_iload_n dX11_areTold_19 rfl (fun _ => ?_)
      refine g_bitc dX11_areTold_20 ml_X11_241 rfl (Nat.le_of_ble_eq_true rfl) (fun v5 ev5 bv5 cv5 => ?_)
      refine g_iconst dX11_areTold_23 (inR_c rfl) ?_
      refine g_icmp_gt 31 dX11_areTold_24 (by decide) (fun q6 => ?_) (fun q6 => ?_)
      · skip
        refine g_iconst dX11_areTold_31 (inR_c rfl) ?_
        exact g_ireturn dX11_areTold_32 (retZ (by omega)) (hPo _ ⟨(by omega), (by omega)⟩)
      · skip
        refine g_iconst dX11_areTold_27 (inR_c rfl) ?_
        refine g_goto 32 dX11_areTold_28 (by decide) ?_
        exact g_ireturn dX11_areTold_32 (retZ (by omega)) (hPo _ ⟨(by omega), (by omega)⟩)
set_option maxRecDepth 100000 in
set_option maxHeartbeats 4000000 in
theorem c_X11_set_0 (x1 x2 x3 x4 : Int) (h : MEM) (hM : MBx h) (bx1 : -2147483648 ≤ x1) (dx1 : x1 ≤ 2147483647) (bx2 : -2147483648 ≤ x2) (dx2 : x2 ≤ 2147483647) (bx3 : -2147483648 ≤ x3) (dx3 : x3 ≤ 2147483647) (bx4 : -2147483648 ≤ x4) (dx4 : x4 ≤ 2147483647) : CP yX11_set cX11_set 6 (some .int) 3 [pR 0, pI x1, pI x2, pI x3, pI x4] h (fun x => x = -1) := by
  refine CP.of (L0 := [some (pR 0), some (pI x1), some (pI x2), some (pI x3), some (pI x4), none]) rfl (Nat.le_of_ble_eq_true rfl) rfl (fun Po hPo hav => ?_)
  refine g_aload_n dX11_set_0 rfl ?_
  refine gR_X11_10 rfl dX11_set_1 sh_0 (b := 1) (m_0_0 hM) ?_
  refine gR_X11_95 rfl dX11_set_4 sh_1 (b := 6) (m_1_1 hM) ?_
  refine g_iload dX11_set_7 rfl (fun _ => ?_)
  refine g_cVP (as := [_]) (c_X0_has_6 _ h hM (by omega) (by omega)) dX11_set_9 mi_X0_has in_X0_has se_X0_has ml_X11_113 rfl rfl rfl sh_6 rfl rfl (Nat.le_of_ble_eq_true rfl) (fun v1 q2 => ?_)
  obtain ⟨v3, ev3⟩ : ∃ z, z = h 6 0 := ⟨_, rfl⟩
  have bv3 : 0 ≤ v3 ∧ v3 ≤ 0 := by rw [ev3]; exact (m_6_0 hM)
  rcases q2 with ⟨rfl, q2⟩ | ⟨rfl, q2⟩
  · skip
    exfalso; omega
  · skip
    refine g_if_eq 29 dX11_set_12 (by decide) (fun q4 => ?_) (fun _ => by exfalso; omega)
    refine g_iconst dX11_set_29 (inR_c rfl) ?_
    refine g_istore dX11_set_30 (by decide) rfl ?_
    refine g_aload_n dX11_set_32 rfl ?_
    refine g_iload_n dX11_set_33 rfl (fun _ => ?_)
    refine g_cVP (as := [_]) (c_X11_areTold_0 _ h hM (by omega) (by omega)) dX11_set_34 mi_X11_areTold in_X11_areTold se_X11_areTold ml_X11_216 rfl rfl rfl sh_0 rfl rfl (Nat.le_of_ble_eq_true rfl) (fun v5 q6 => ?_)
    obtain ⟨bv5, cv5⟩ := q6
    refine g_if_eq 81 dX11_set_37 (by decide) (fun q7 => ?_) (fun q7 => ?_)
    · skip
      refine g_iconst dX11_set_81 (inR_c rfl) ?_
      exact g_ireturn dX11_set_82 retI (hPo _ (by omega))
    · skip
      refine g_aload_n dX11_set_40 rfl ?_
      refine gR_X11_10 rfl dX11_set_41 sh_0 (b := 1) (m_0_0 hM) ?_
      refine gR_X11_85 rfl dX11_set_44 sh_1 (b := 2) (m_1_0 hM) ?_
      refine g_iload_n dX11_set_47 rfl (fun _ => ?_)
      refine g_cVP (as := [_]) (c_X6_has_2 _ h hM (by omega) (by omega)) dX11_set_48 mi_X6_has in_X6_has se_X6_has ml_X11_159 rfl rfl rfl sh_2 rfl rfl (Nat.le_of_ble_eq_true rfl) (fun v8 q9 => ?_)
      obtain ⟨v10, ev10⟩ : ∃ z, z = h 2 0 := ⟨_, rfl⟩
      have bv10 : 0 ≤ v10 ∧ v10 ≤ 0 := by rw [ev10]; exact (m_2_0 hM)
      rcases q9 with ⟨rfl, q9⟩ | ⟨rfl, q9⟩
      · skip
        exfalso; omega
      · skip
        refine g_if_eq 81 dX11_set_51 (by decide) (fun q11 => ?_) (fun _ => by exfalso; omega)
        refine g_iconst dX11_set_81 (inR_c rfl) ?_
        exact g_ireturn dX11_set_82 retI (hPo _ (by omega))
set_option maxRecDepth 100000 in
set_option maxHeartbeats 4000000 in
theorem c_X12_set_98 (x1 x2 x3 x4 : Int) (h : MEM) (hM : MBm h) (bx1 : -2147483648 ≤ x1) (dx1 : x1 ≤ 2147483647) (bx2 : -2147483648 ≤ x2) (dx2 : x2 ≤ 2147483647) (bx3 : -2147483648 ≤ x3) (dx3 : x3 ≤ 2147483647) (bx4 : -2147483648 ≤ x4) (dx4 : x4 ≤ 2147483647) : CP yX12_set cX12_set 8 (some .int) 2 [pR 98, pI x1, pI x2, pI x3, pI x4] h (fun x => x = -1) := by
  refine CP.of (L0 := [some (pR 98), some (pI x1), some (pI x2), some (pI x3), some (pI x4), none, none, none]) rfl (Nat.le_of_ble_eq_true rfl) rfl (fun Po hPo hav => ?_)
  refine g_iload_n dX12_set_0 rfl (fun _ => ?_)
  refine g_i2l dX12_set_1 ?_
  refine g_lconst (v := 1) dX12_set_2 rfl ?_
  refine g_iconst dX12_set_3 (inR_c rfl) ?_
  refine g_aload_n dX12_set_4 rfl ?_
  refine gI_X12_179 rfl dX12_set_5 sh_98 (m_98_3 hM) (fun v1 ev1 bv1 cv1 => ?_)
  refine g_ishlX (lo := 1) (hi := 1) dX12_set_8 (ishl1_b 0 (by decide) (by omega) (by omega)) (fun v2 bv2 cv2 => ?_)
  refine g_iconst dX12_set_9 (inR_c rfl) ?_
  refine g_isubB dX12_set_10 (by omega) (by omega) ?_
  refine g_i2l dX12_set_11 ?_
  refine g_cSP (av := [_, _, _]) (c_X12_lies _ _ _ h hM (by omega) (by omega) (by omega) (by omega) (by omega) (by omega)) dX12_set_12 mi_X12_lies st_X12_lies ml_X12_175 rfl rfl rfl rfl (Nat.le_of_ble_eq_true rfl) (fun v3 q4 => ?_)
  rcases q4 with ⟨rfl, q4⟩ | ⟨rfl, q4⟩
  · skip
    exfalso; omega
  · skip
    refine g_if_eq 79 dX12_set_15 (by decide) (fun q5 => ?_) (fun _ => by exfalso; omega)
    refine g_iconst dX12_set_79 (inR_c rfl) ?_
    exact g_ireturn dX12_set_80 retI (hPo _ (by omega))
set_option maxRecDepth 100000 in
set_option maxHeartbeats 4000000 in
theorem c_X11_worth_0 (x1 x2 x3 : Int) (h : MEM) (hM : MBx h) (bx1 : -2147483648 ≤ x1) (dx1 : x1 ≤ 2147483647) (bx2 : -2147483648 ≤ x2) (dx2 : x2 ≤ 2147483647) (bx3 : -2147483648 ≤ x3) (dx3 : x3 ≤ 2147483647) : CP yX11_worth cX11_worth 5 (some .int) 3 [pR 0, pI x1, pI x2, pI x3] h (fun x => x = -10000) := by
  refine CP.of (L0 := [some (pR 0), some (pI x1), some (pI x2), some (pI x3), none]) rfl (Nat.le_of_ble_eq_true rfl) rfl (fun Po hPo hav => ?_)
  refine g_aload_n dX11_worth_0 rfl ?_
  refine g_iload_n dX11_worth_1 rfl (fun _ => ?_)
  refine g_iload_n dX11_worth_2 rfl (fun _ => ?_)
  refine g_cVP (as := [_, _]) (c_X11_hasGearBearer_0 _ _ h hM (by omega) (by omega) (by omega) (by omega)) dX11_worth_3 mi_X11_hasGearBearer in_X11_hasGearBearer se_X11_hasGearBearer ml_X11_126 rfl rfl rfl sh_0 rfl rfl (Nat.le_of_ble_eq_true rfl) (fun v1 q2 => ?_)
  obtain ⟨bv1, cv1⟩ := q2
  refine g_if_eq 32 dX11_worth_6 (by decide) (fun q3 => ?_) (fun _ => by exfalso; omega)
  refine g_sipush dX11_worth_32 (inR_c rfl) (by decide) ?_
  exact g_ireturn dX11_worth_35 retI (hPo _ (by omega))
set_option maxRecDepth 100000 in
set_option maxHeartbeats 4000000 in
theorem c_X12_worth_98 (x1 x2 x3 : Int) (h : MEM) (hM : MBm h) (bx1 : -2147483648 ≤ x1) (dx1 : x1 ≤ 2147483647) (bx2 : -2147483648 ≤ x2) (dx2 : x2 ≤ 2147483647) (bx3 : -2147483648 ≤ x3) (dx3 : x3 ≤ 2147483647) (p0_0 : 0 ≤ h 98 5) (p0_1 : h 98 5 ≤ 0) : CP yX12_worth cX12_worth 5 (some .int) 3 [pR 98, pI x1, pI x2, pI x3] h (fun x => x = -10000) := by
  refine CP.of (L0 := [some (pR 98), some (pI x1), some (pI x2), some (pI x3), none]) rfl (Nat.le_of_ble_eq_true rfl) rfl (fun Po hPo hav => ?_)
  obtain ⟨w98_5, ew98_5⟩ : ∃ z, z = h 98 5 := ⟨_, rfl⟩
  refine g_iload_n dX12_worth_0 rfl (fun _ => ?_)
  refine g_cSP (av := [_]) (c_X12_areHours _ h hM (by omega) (by omega)) dX12_worth_1 mi_X12_areHours st_X12_areHours ml_X12_398 rfl rfl rfl rfl (Nat.le_of_ble_eq_true rfl) (fun v1 q2 => ?_)
  rcases q2 with ⟨rfl, q2⟩ | ⟨rfl, q2⟩
  · skip
    refine g_if_eq 58 dX12_worth_4 (by decide) (fun _ => by exfalso; omega) (fun q3 => ?_)
    refine g_iload_n dX12_worth_7 rfl (fun _ => ?_)
    refine g_i2l dX12_worth_8 ?_
    refine g_lconst (v := 0) dX12_worth_9 rfl ?_
    refine g_lconst (v := 1) dX12_worth_10 rfl ?_
    refine g_cSP (av := [_, _, _]) (c_X12_lies _ _ _ h hM (by omega) (by omega) (by omega) (by omega) (by omega) (by omega)) dX12_worth_11 mi_X12_lies st_X12_lies ml_X12_175 rfl rfl rfl rfl (Nat.le_of_ble_eq_true rfl) (fun v4 q5 => ?_)
    rcases q5 with ⟨rfl, q5⟩ | ⟨rfl, q5⟩
    · skip
      refine g_if_eq 58 dX12_worth_14 (by decide) (fun _ => by exfalso; omega) (fun q6 => ?_)
      refine g_iload_n dX12_worth_17 rfl (fun _ => ?_)
      refine g_if_ne 41 dX12_worth_18 (by decide) (fun q7 => ?_) (fun q7 => ?_)
      · skip
        refine g_aload_n dX12_worth_41 rfl ?_
        refine g_iload_n dX12_worth_42 rfl (fun _ => ?_)
        refine g_cVP (as := [_]) (c_X12_isMaster_98 _ h hM (by omega) (by omega)) dX12_worth_43 mi_X12_isMaster in_X12_isMaster se_X12_isMaster ml_X12_201 rfl rfl rfl sh_98 rfl rfl (Nat.le_of_ble_eq_true rfl) (fun v8 q9 => ?_)
        obtain ⟨v10, ev10⟩ : ∃ z, z = h 98 4 := ⟨_, rfl⟩
        have bv10 : 0 ≤ v10 ∧ v10 ≤ 0 := by rw [ev10]; exact (m_98_4 hM)
        rcases q9 with ⟨rfl, q9⟩ | ⟨rfl, q9⟩
        · skip
          exfalso; omega
        · skip
          refine g_if_eq 58 dX12_worth_46 (by decide) (fun q11 => ?_) (fun _ => by exfalso; omega)
          refine g_sipush dX12_worth_58 (inR_c rfl) (by decide) ?_
          exact g_ireturn dX12_worth_61 retI (hPo _ (by omega))
      · skip
        refine g_aload_n dX12_worth_21 rfl ?_
        refine g_iload_n dX12_worth_22 rfl (fun _ => ?_)
        refine g_cVP (as := [_]) (c_X12_isApprentice_98 _ h hM (by omega) (by omega)) dX12_worth_23 mi_X12_isApprentice in_X12_isApprentice se_X12_isApprentice ml_X12_195 rfl rfl rfl sh_98 rfl rfl (Nat.le_of_ble_eq_true rfl) (fun v12 q13 => ?_)
        obtain ⟨v14, ev14⟩ : ∃ z, z = h 98 3 := ⟨_, rfl⟩
        have bv14 : 0 ≤ v14 ∧ v14 ≤ 0 := by rw [ev14]; exact (m_98_3 hM)
        rcases q13 with ⟨rfl, q13⟩ | ⟨rfl, q13⟩
        · skip
          exfalso; omega
        · skip
          refine g_if_eq 58 dX12_worth_26 (by decide) (fun q15 => ?_) (fun _ => by exfalso; omega)
          refine g_sipush dX12_worth_58 (inR_c rfl) (by decide) ?_
          exact g_ireturn dX12_worth_61 retI (hPo _ (by omega))
    · skip
      refine g_if_eq 58 dX12_worth_14 (by decide) (fun q16 => ?_) (fun _ => by exfalso; omega)
      refine g_sipush dX12_worth_58 (inR_c rfl) (by decide) ?_
      exact g_ireturn dX12_worth_61 retI (hPo _ (by omega))
  · skip
    refine g_if_eq 58 dX12_worth_4 (by decide) (fun q17 => ?_) (fun _ => by exfalso; omega)
    refine g_sipush dX12_worth_58 (inR_c rfl) (by decide) ?_
    exact g_ireturn dX12_worth_61 retI (hPo _ (by omega))
set_option maxRecDepth 100000 in
set_option maxHeartbeats 4000000 in
theorem c_X3_tellRow_71 (x1 : Int) (h : MEM) (hM : MBx h) (bx1 : 0 ≤ x1) (dx1 : x1 ≤ 0) : CV yX3_tellRow cX3_tellRow 4 (none) 1 [pR 71, pI x1] h (fun h' => h' = h) := by
  refine CV.of (L0 := [some (pR 71), some (pI x1), none, none]) rfl (Nat.le_of_ble_eq_true rfl) rfl (fun Po hPo hav => ?_)
  replace hPo : ∀ _ : Unit, True → Po none SH h := fun _ _ => hPo h rfl
  refine g_iconst dX3_tellRow_0 (inR_c rfl) ?_
  refine g_istore_n dX3_tellRow_1 (by decide) rfl ?_
  refine g_iconst dX3_tellRow_2 (inR_c rfl) ?_
  refine g_istore_n dX3_tellRow_3 (by decide) rfl ?_
  refine g_iload_n dX3_tellRow_4 rfl (fun _ => ?_)
  refine g_iload_n dX3_tellRow_5 rfl (fun _ => ?_)
  refine g_icmp_ge 49 dX3_tellRow_6 (by decide) (fun q1 => ?_) (fun _ => by exfalso; omega)
  exact g_return dX3_tellRow_49 rfl (hPo () trivial)
set_option maxRecDepth 100000 in
set_option maxHeartbeats 4000000 in
theorem c_X3_plan_71_1 (x1 : Int) (h : MEM) (hM : MBx h) (bx1 : 1 ≤ x1) (dx1 : x1 ≤ 99) : CV yX3_plan cX3_plan 7 (none) 2 [pR 71, pR 1, pI x1] h (fun h' => MBx h' ∧ Fr [(71, 1), (74, 0)] h h') := by
  refine CV.of (L0 := [some (pR 71), some (pR 1), some (pI x1), none, none, none, none]) rfl (Nat.le_of_ble_eq_true rfl) rfl (fun Po hPo hav => ?_)
  refine g_aload_n dX3_plan_0 rfl ?_
  refine gR_X3_25 rfl dX3_plan_1 sh_1 (b := 12) (m_1_2 hM) ?_
  refine gI_X3_31 rfl dX3_plan_4 sh_12 (m_12_0 hM) (fun v1 ev1 bv1 cv1 => ?_)
  refine g_istore_n dX3_plan_7 (by decide) rfl ?_
  refine g_iconst dX3_plan_8 (inR_c rfl) ?_
  refine g_aload_n dX3_plan_9 rfl ?_
  refine gR_X3_36 rfl dX3_plan_10 sh_1 (b := 6) (m_1_1 hM) ?_
  refine gI_X3_40 rfl dX3_plan_13 sh_6 (m_6_0 hM) (fun v2 ev2 bv2 cv2 => ?_)
  refine g_ishlX (lo := 1) (hi := 1) dX3_plan_16 (ishl1_b 0 (by decide) (by omega) (by omega)) (fun v3 bv3 cv3 => ?_)
  refine g_istore dX3_plan_17 (by decide) rfl ?_
  refine g_iconst dX3_plan_19 (inR_c rfl) ?_
  refine g_istore dX3_plan_20 (by decide) rfl ?_
  refine g_iload dX3_plan_22 rfl (fun _ => ?_)
  refine g_iload_n dX3_plan_24 rfl (fun _ => ?_)
  refine g_icmp_ge 48 dX3_plan_25 (by decide) (fun q4 => ?_) (fun _ => by exfalso; omega)
  refine g_iconst dX3_plan_48 (inR_c rfl) ?_
  have c51 : ∀ (n : Nat) (y5 : Int) (h6 : MEM), MBx h6 → Fr [(74, 0)] h h6 → 0 ≤ y5 → y5 ≤ 1 → 1 - y5 < (n : Int) → G yX3_plan cX3_plan 7 (none) none Po (2, 120, 0, 0) 51 [some (pR 71), none, none, some (pI v1), some (pI v3), some (pI y5), none] [] SH h6 0 0 := by
    intro n
    induction n with
    | zero =>
      intro y5 h6 hMh6 hFh6 by5 dy5 hn
      exfalso; omega
    | succ n ih =>
      intro y5 h6 hMh6 hFh6 by5 dy5 hn
      refine g_iload dX3_plan_51 rfl (fun _ => ?_)
      refine g_iload dX3_plan_53 rfl (fun _ => ?_)
      refine g_icmp_ge 78 dX3_plan_55 (by decide) (fun q7 => ?_) (fun q7 => ?_)
      · skip
        refine g_iload_n dX3_plan_78 rfl (fun _ => ?_)
        refine g_iconst dX3_plan_79 (inR_c rfl) ?_
        refine g_isubB dX3_plan_80 (by omega) (by omega) ?_
        refine g_istore dX3_plan_81 (by decide) rfl ?_
        refine g_iload dX3_plan_83 rfl (fun _ => ?_)
        refine g_if_lt 132 dX3_plan_85 (by decide) (fun q8 => ?_) (fun _ => by exfalso; omega)
        refine g_aload_n dX3_plan_132 rfl ?_
        refine g_aload_n dX3_plan_133 rfl ?_
        refine gR_X3_22 rfl dX3_plan_134 sh_71 (b := 74) (m_71_3 hMh6) ?_
        refine g_iconst dX3_plan_137 (inR_c rfl) ?_
        refine g_ialdB dX3_plan_138 sh_74 (by omega) (by omega) (m_74 hMh6 _) (fun v9 ev9 bv9 cv9 => ?_)
        refine pI_X3_9 rfl dX3_plan_139 sh_71 (fun h10 eh10 => ?_)
        have hFh10 := Fr.st eh10
        have hMh10 := u_71_0 hMh6 eh10 (by omega) (by omega)
        refine g_aload_n dX3_plan_142 rfl ?_
        refine g_iload_n dX3_plan_143 rfl (fun _ => ?_)
        refine g_cVVP (as := [_]) (c_X3_tellRow_71 _ h10 hMh10 (by omega) (by omega)) dX3_plan_144 mi_X3_tellRow in_X3_tellRow se_X3_tellRow ml_X3_51 rfl rfl rfl sh_71 rfl rfl (Nat.le_of_ble_eq_true rfl) (fun q11 => ?_)
        exact g_return dX3_plan_147 rfl (hPo _ ⟨hMh10, (Fr.tr (Fr.sub hFh6 rfl) hFh10 rfl)⟩)
      · skip
        refine g_aload_n dX3_plan_58 rfl ?_
        refine gR_X3_22 rfl dX3_plan_59 sh_71 (b := 74) (m_71_3 hMh6) ?_
        refine g_iload_n dX3_plan_62 rfl (fun _ => ?_)
        refine g_sipush dX3_plan_63 (inR_c rfl) (by decide) ?_
        refine g_imulB dX3_plan_66 (by omega) (by omega) ?_
        refine g_iload dX3_plan_67 rfl (fun _ => ?_)
        refine g_iaddB dX3_plan_69 (by omega) (by omega) ?_
        refine g_iconst dX3_plan_70 (inR_c rfl) ?_
        refine g_iastB dX3_plan_71 sh_74 (by omega) (by omega) (fun h12 eh12 => ?_)
        have hFh12 := Fr.ar eh12
        have hMh12 := u_74 hMh6 eh12 (by omega) (by omega)
        refine g_iincB dX3_plan_72 rfl rfl (by omega) (by omega) ?_
        refine g_goto 51 dX3_plan_75 (by decide) ?_
        exact ih _ _ hMh12 (Fr.tr (Fr.sub hFh6 rfl) hFh12 rfl) (by omega) (by omega) (by omega)
  refine g_istore dX3_plan_49 (by decide) rfl ?_
  refine g_drop 1 ?_
  refine g_drop 2 ?_
  exact c51 2 _ _ hM Fr.rf (by omega) (by omega) (by omega)
set_option maxRecDepth 100000 in
set_option maxHeartbeats 4000000 in
theorem c_X3_handOut_71_1 (h : MEM) (hM : MBx h) : CV yX3_handOut cX3_handOut 3 (none) 1 [pR 71, pR 1] h (fun h' => h' = h) := by
  refine CV.of (L0 := [some (pR 71), some (pR 1), none]) rfl (Nat.le_of_ble_eq_true rfl) rfl (fun Po hPo hav => ?_)
  replace hPo : ∀ _ : Unit, True → Po none SH h := fun _ _ => hPo h rfl
  refine g_iconst dX3_handOut_0 (inR_c rfl) ?_
  refine g_istore_n dX3_handOut_1 (by decide) rfl ?_
  refine g_iload_n dX3_handOut_2 rfl (fun _ => ?_)
  refine g_aload_n dX3_handOut_3 rfl ?_
  refine gR_X3_25 rfl dX3_handOut_4 sh_1 (b := 12) (m_1_2 hM) ?_
  refine gI_X3_31 rfl dX3_handOut_7 sh_12 (m_12_0 hM) (fun v1 ev1 bv1 cv1 => ?_)
  refine g_icmp_ge 50 dX3_handOut_10 (by decide) (fun q2 => ?_) (fun _ => by exfalso; omega)
  exact g_return dX3_handOut_50 rfl (hPo () trivial)
set_option maxRecDepth 100000 in
set_option maxHeartbeats 4000000 in
theorem c_X11_lent_0 (x1 x2 : Int) (h : MEM) (hM : MBx h) (bx1 : -2147483648 ≤ x1) (dx1 : x1 ≤ 2147483647) (bx2 : -2147483648 ≤ x2) (dx2 : x2 ≤ 2147483647) : CI yX11_lent cX11_lent 4 (some .int) 3 [pR 0, pI x1, pI x2] h (fun x h' => Fr [(71, 1), (74, 0)] h h' ∧ ((1 ≤ x1 ∧ x1 ≤ 99 ∧ 10 ≤ x2 ∧ x2 ≤ 11) ∧ x = 0 ∨ ¬ (1 ≤ x1 ∧ x1 ≤ 99 ∧ 10 ≤ x2 ∧ x2 ≤ 11) ∧ x = -1)) := by
  refine CI.of (L0 := [some (pR 0), some (pI x1), some (pI x2), none]) rfl (Nat.le_of_ble_eq_true rfl) rfl (fun Po hPo hav => ?_)
  refine g_aload_n dX11_lent_0 rfl ?_
  refine gR_X11_10 rfl dX11_lent_1 sh_0 (b := 1) (m_0_0 hM) ?_
  refine gR_X11_104 rfl dX11_lent_4 sh_1 (b := 12) (m_1_2 hM) ?_
  refine g_iload_n dX11_lent_7 rfl (fun _ => ?_)
  refine g_cVP (as := [_]) (c_X4_has_12 _ h hM (by omega) (by omega)) dX11_lent_8 mi_X4_has in_X4_has se_X4_has ml_X11_124 rfl rfl rfl sh_12 rfl rfl (Nat.le_of_ble_eq_true rfl) (fun v1 q2 => ?_)
  obtain ⟨v3, ev3⟩ : ∃ z, z = h 12 0 := ⟨_, rfl⟩
  have bv3 : 0 ≤ v3 ∧ v3 ≤ 0 := by rw [ev3]; exact (m_12_0 hM)
  rcases q2 with ⟨rfl, q2⟩ | ⟨rfl, q2⟩
  · skip
    exfalso; omega
  · skip
    refine g_istore_n dX11_lent_11 (by decide) rfl ?_
    refine g_iload_n dX11_lent_12 rfl (fun _ => ?_)
    refine g_iconst dX11_lent_13 (inR_c rfl) ?_
    refine g_bipush dX11_lent_14 (inR_c rfl) (by decide) ?_
    refine g_cSP (av := [_, _, _]) (c_X11_isWithin _ _ _ h hM (by omega) (by omega) (by omega) (by omega) (by omega) (by omega)) dX11_lent_16 mi_X11_isWithin st_X11_isWithin ml_X11_81 rfl rfl rfl rfl (Nat.le_of_ble_eq_true rfl) (fun v4 q5 => ?_)
    rcases q5 with ⟨rfl, q5⟩ | ⟨rfl, q5⟩
    · skip
      refine g_if_eq 38 dX11_lent_19 (by decide) (fun _ => by exfalso; omega) (fun q6 => ?_)
      refine g_iload_n dX11_lent_22 rfl (fun _ => ?_)
      refine g_bipush dX11_lent_23 (inR_c rfl) (by decide) ?_
      refine g_icmp_eq 40 dX11_lent_25 (by decide) (fun q7 => ?_) (fun q7 => ?_)
      · skip
        refine g_aload_n dX11_lent_40 rfl ?_
        refine gR_X11_49 rfl dX11_lent_41 sh_0 (b := 71) (m_0_7 hM) ?_
        refine g_aload_n dX11_lent_44 rfl ?_
        refine gR_X11_10 rfl dX11_lent_45 sh_0 (b := 1) (m_0_0 hM) ?_
        refine g_iload_n dX11_lent_48 rfl (fun _ => ?_)
        refine g_cVV (as := [_, _]) (c_X3_plan_71_1 _ h hM (by omega) (by omega)) dX11_lent_49 mi_X3_plan in_X3_plan se_X3_plan ml_X11_250 rfl rfl rfl sh_71 rfl rfl (Nat.le_of_ble_eq_true rfl) (fun h8 q9 => ?_)
        obtain ⟨hMh8, hFh8⟩ := q9
        refine g_iload_n dX11_lent_52 rfl (fun _ => ?_)
        refine g_if_eq 66 dX11_lent_53 (by decide) (fun q10 => ?_) (fun _ => by exfalso; omega)
        refine g_iload_n dX11_lent_66 rfl (fun _ => ?_)
        refine g_bipush dX11_lent_67 (inR_c rfl) (by decide) ?_
        refine g_icmp_ne 83 dX11_lent_69 (by decide) (fun q11 => ?_) (fun _ => by exfalso; omega)
        refine g_aload_n dX11_lent_83 rfl ?_
        refine gR_X11_49 rfl dX11_lent_84 sh_0 (b := 71) (m_0_7 hMh8) ?_
        refine gI_X11_260 rfl dX11_lent_87 sh_71 (m_71_0 hMh8) (fun v12 ev12 bv12 cv12 => ?_)
        exact g_ireturn dX11_lent_90 retI (hPo _ _ ⟨(Fr.sub hFh8 rfl), (by omega)⟩)
      · skip
        refine g_iload_n dX11_lent_28 rfl (fun _ => ?_)
        refine g_bipush dX11_lent_29 (inR_c rfl) (by decide) ?_
        refine g_icmp_eq 40 dX11_lent_31 (by decide) (fun q13 => ?_) (fun q13 => ?_)
        · skip
          refine g_aload_n dX11_lent_40 rfl ?_
          refine gR_X11_49 rfl dX11_lent_41 sh_0 (b := 71) (m_0_7 hM) ?_
          refine g_aload_n dX11_lent_44 rfl ?_
          refine gR_X11_10 rfl dX11_lent_45 sh_0 (b := 1) (m_0_0 hM) ?_
          refine g_iload_n dX11_lent_48 rfl (fun _ => ?_)
          refine g_cVV (as := [_, _]) (c_X3_plan_71_1 _ h hM (by omega) (by omega)) dX11_lent_49 mi_X3_plan in_X3_plan se_X3_plan ml_X11_250 rfl rfl rfl sh_71 rfl rfl (Nat.le_of_ble_eq_true rfl) (fun h14 q15 => ?_)
          obtain ⟨hMh14, hFh14⟩ := q15
          refine g_iload_n dX11_lent_52 rfl (fun _ => ?_)
          refine g_if_eq 66 dX11_lent_53 (by decide) (fun q16 => ?_) (fun _ => by exfalso; omega)
          refine g_iload_n dX11_lent_66 rfl (fun _ => ?_)
          refine g_bipush dX11_lent_67 (inR_c rfl) (by decide) ?_
          refine g_icmp_ne 83 dX11_lent_69 (by decide) (fun _ => by exfalso; omega) (fun q17 => ?_)
          refine g_aload_n dX11_lent_72 rfl ?_
          refine gR_X11_49 rfl dX11_lent_73 sh_0 (b := 71) (m_0_7 hMh14) ?_
          refine g_aload_n dX11_lent_76 rfl ?_
          refine gR_X11_10 rfl dX11_lent_77 sh_0 (b := 1) (m_0_0 hMh14) ?_
          refine g_cVVP (as := [_]) (c_X3_handOut_71_1  h14 hMh14) dX11_lent_80 mi_X3_handOut in_X3_handOut se_X3_handOut ml_X11_257 rfl rfl rfl sh_71 rfl rfl (Nat.le_of_ble_eq_true rfl) (fun q18 => ?_)
          refine g_aload_n dX11_lent_83 rfl ?_
          refine gR_X11_49 rfl dX11_lent_84 sh_0 (b := 71) (m_0_7 hMh14) ?_
          refine gI_X11_260 rfl dX11_lent_87 sh_71 (m_71_0 hMh14) (fun v19 ev19 bv19 cv19 => ?_)
          exact g_ireturn dX11_lent_90 retI (hPo _ _ ⟨(Fr.sub hFh14 rfl), (by omega)⟩)
        · skip
          refine g_iload_n dX11_lent_34 rfl (fun _ => ?_)
          refine g_if_ne 40 dX11_lent_35 (by decide) (fun _ => by exfalso; omega) (fun q20 => ?_)
          refine g_iconst dX11_lent_38 (inR_c rfl) ?_
          exact g_ireturn dX11_lent_39 retI (hPo _ _ ⟨Fr.rf, (by omega)⟩)
    · skip
      refine g_if_eq 38 dX11_lent_19 (by decide) (fun q21 => ?_) (fun _ => by exfalso; omega)
      refine g_iconst dX11_lent_38 (inR_c rfl) ?_
      exact g_ireturn dX11_lent_39 retI (hPo _ _ ⟨Fr.rf, (by omega)⟩)
set_option maxRecDepth 100000 in
set_option maxHeartbeats 4000000 in
theorem c_X12_sizeOf_k0 (h : MEM) (hM : MBm h) : CP yX12_sizeOf cX12_sizeOf 3 (some .int) 1 [pI 0] h (fun x => 0 ≤ x ∧ x ≤ 0) := by
  refine CP.of (L0 := [some (pI 0), none, none]) rfl (Nat.le_of_ble_eq_true rfl) rfl (fun Po hPo hav => ?_)
  refine g_iconst dX12_sizeOf_0 (inR_c rfl) ?_
  refine g_istore_n dX12_sizeOf_1 (by decide) rfl ?_
  refine g_iload_n dX12_sizeOf_2 rfl (fun _ => ?_)
  refine g_istore_n dX12_sizeOf_3 (by decide) rfl ?_
  refine g_iload_n dX12_sizeOf_4 rfl (fun _ => ?_)
  refine g_if_eq 20 dX12_sizeOf_5 (by decide) (fun q1 => ?_) (fun _ => by exfalso; omega)
  refine g_iload_n dX12_sizeOf_20 rfl (fun _ => ?_)
  exact g_ireturn dX12_sizeOf_21 retI (hPo _ ⟨(by omega), (by omega)⟩)
set_option maxRecDepth 100000 in
set_option maxHeartbeats 4000000 in
theorem c_X12_lent_98 (x1 x2 : Int) (h : MEM) (hM : MBm h) (bx1 : -2147483648 ≤ x1) (dx1 : x1 ≤ 2147483647) (bx2 : -2147483648 ≤ x2) (dx2 : x2 ≤ 2147483647) : CI yX12_lent cX12_lent 8 (some .int) 3 [pR 98, pI x1, pI x2] h (fun x h' => Fr [(147, 0)] h h' ∧ ((1 ≤ x1 ∧ x1 ≤ 99 ∧ 10 ≤ x2 ∧ x2 ≤ 11) ∧ x = 0 ∨ ¬ (1 ≤ x1 ∧ x1 ≤ 99 ∧ 10 ≤ x2 ∧ x2 ≤ 11) ∧ x = -1)) := by
  refine CI.of (L0 := [some (pR 98), some (pI x1), some (pI x2), none, none, none, none, none]) rfl (Nat.le_of_ble_eq_true rfl) rfl (fun Po hPo hav => ?_)
  refine g_iload_n dX12_lent_0 rfl (fun _ => ?_)
  refine g_i2l dX12_lent_1 ?_
  refine g_lconst (v := 1) dX12_lent_2 rfl ?_
  refine g_ldc2 (v := 99) dX12_lent_3 kl_X12_187 (by decide) ?_
  refine g_cSP (av := [_, _, _]) (c_X12_lies _ _ _ h hM (by omega) (by omega) (by omega) (by omega) (by omega) (by omega)) dX12_lent_6 mi_X12_lies st_X12_lies ml_X12_175 rfl rfl rfl rfl (Nat.le_of_ble_eq_true rfl) (fun v1 q2 => ?_)
  rcases q2 with ⟨rfl, q2⟩ | ⟨rfl, q2⟩
  · skip
    refine g_if_eq 34 dX12_lent_9 (by decide) (fun _ => by exfalso; omega) (fun q3 => ?_)
    refine g_iload_n dX12_lent_12 rfl (fun _ => ?_)
    refine g_i2l dX12_lent_13 ?_
    refine g_ldc2 (v := 10) dX12_lent_14 kl_X12_410 (by decide) ?_
    refine g_ldc2 (v := 11) dX12_lent_17 kl_X12_468 (by decide) ?_
    refine g_cSP (av := [_, _, _]) (c_X12_lies _ _ _ h hM (by omega) (by omega) (by omega) (by omega) (by omega) (by omega)) dX12_lent_20 mi_X12_lies st_X12_lies ml_X12_175 rfl rfl rfl rfl (Nat.le_of_ble_eq_true rfl) (fun v4 q5 => ?_)
    rcases q5 with ⟨rfl, q5⟩ | ⟨rfl, q5⟩
    · skip
      refine g_if_ne 36 dX12_lent_23 (by decide) (fun q6 => ?_) (fun _ => by exfalso; omega)
      refine g_iconst dX12_lent_36 (inR_c rfl) ?_
      have c38 : ∀ (n : Nat) (y7 : Int) (h8 : MEM), MBm h8 → Fr [(147, 0)] h h8 → 0 ≤ y7 → y7 ≤ 256 → 256 - y7 < (n : Int) → G yX12_lent cX12_lent 8 (some .int) none Po (3, 180, 0, 0) 38 [some (pR 98), some (pI x1), some (pI x2), some (pI y7), none, none, none, none] [] SH h8 0 0 := by
        intro n
        induction n with
        | zero =>
          intro y7 h8 hMh8 hFh8 by7 dy7 hn
          exfalso; omega
        | succ n ih =>
          intro y7 h8 hMh8 hFh8 by7 dy7 hn
          refine g_iload_n dX12_lent_38 rfl (fun _ => ?_)
          refine g_sipush dX12_lent_39 (inR_c rfl) (by decide) ?_
          refine g_icmp_ge 67 dX12_lent_42 (by decide) (fun q9 => ?_) (fun q9 => ?_)
          · skip
            refine g_aload_n dX12_lent_67 rfl ?_
            refine gI_X12_182 rfl dX12_lent_68 sh_98 (m_98_4 hMh8) (fun v10 ev10 bv10 cv10 => ?_)
            refine g_iconst dX12_lent_71 (inR_c rfl) ?_
            refine g_isubB dX12_lent_72 (by omega) (by omega) ?_
            refine g_istore_n dX12_lent_73 (by decide) rfl ?_
            refine g_iload_n dX12_lent_74 rfl (fun _ => ?_)
            refine g_if_lt 197 dX12_lent_75 (by decide) (fun q11 => ?_) (fun _ => by exfalso; omega)
            refine g_iload_n dX12_lent_197 rfl (fun _ => ?_)
            refine g_bipush dX12_lent_198 (inR_c rfl) (by decide) ?_
            refine g_icmp_ne 210 dX12_lent_200 (by decide) (fun q12 => ?_) (fun q12 => ?_)
            · skip
              refine g_iconst dX12_lent_210 (inR_c rfl) ?_
              refine g_istore_n dX12_lent_211 (by decide) rfl ?_
              refine g_iconst dX12_lent_212 (inR_c rfl) ?_
              refine g_istore dX12_lent_213 (by decide) rfl ?_
              refine g_iconst dX12_lent_215 (inR_c rfl) ?_
              refine g_istore dX12_lent_216 (by decide) rfl ?_
              refine g_iload dX12_lent_218 rfl (fun _ => ?_)
              refine g_aload_n dX12_lent_220 rfl ?_
              refine gE_X12_182 rfl dX12_lent_221 sh_98 ev10.symm ?_
              refine g_icmp_ge 334 dX12_lent_224 (by decide) (fun q13 => ?_) (fun _ => by exfalso; omega)
              refine g_iload_n dX12_lent_334 rfl (fun _ => ?_)
              refine g_bipush dX12_lent_335 (inR_c rfl) (by decide) ?_
              refine g_icmp_eq 343 dX12_lent_337 (by decide) (fun q14 => ?_) (fun _ => by exfalso; omega)
              refine g_iconst dX12_lent_343 (inR_c rfl) ?_
              refine g_istore dX12_lent_344 (by decide) rfl ?_
              refine g_iload dX12_lent_346 rfl (fun _ => ?_)
              refine g_aload_n dX12_lent_348 rfl ?_
              refine gI_X12_179 rfl dX12_lent_349 sh_98 (m_98_3 hMh8) (fun v15 ev15 bv15 cv15 => ?_)
              refine g_icmp_ge 378 dX12_lent_352 (by decide) (fun q16 => ?_) (fun _ => by exfalso; omega)
              refine g_iload_n dX12_lent_378 rfl (fun _ => ?_)
              refine g_cSP (av := [_]) (c_X12_sizeOf_k0  h8 hMh8) dX12_lent_379 mi_X12_sizeOf st_X12_sizeOf ml_X12_450 rfl rfl rfl rfl (Nat.le_of_ble_eq_true rfl) (fun v17 q18 => ?_)
              obtain ⟨bv17, cv17⟩ := q18
              exact g_ireturn dX12_lent_382 retI (hPo _ _ ⟨(Fr.sub hFh8 rfl), (by omega)⟩)
            · skip
              refine g_aload_n dX12_lent_203 rfl ?_
              refine gR_X12_160 rfl dX12_lent_204 sh_98 (b := 147) (m_98_75 hMh8) ?_
              refine g_iconst dX12_lent_207 (inR_c rfl) ?_
              refine g_ialdB dX12_lent_208 sh_147 (by omega) (by omega) (m_147 hMh8 _) (fun v19 ev19 bv19 cv19 => ?_)
              exact g_ireturn dX12_lent_209 retI (hPo _ _ ⟨(Fr.sub hFh8 rfl), (by omega)⟩)
          · skip
            refine g_aload_n dX12_lent_45 rfl ?_
            refine gR_X12_160 rfl dX12_lent_46 sh_98 (b := 147) (m_98_75 hMh8) ?_
            refine g_sipush dX12_lent_49 (inR_c rfl) (by decide) ?_
            refine g_aload_n dX12_lent_52 rfl ?_
            refine gI_X12_182 rfl dX12_lent_53 sh_98 (m_98_4 hMh8) (fun v20 ev20 bv20 cv20 => ?_)
            refine g_imulB dX12_lent_56 (by omega) (by omega) ?_
            refine g_iload_n dX12_lent_57 rfl (fun _ => ?_)
            refine g_iaddB dX12_lent_58 (by omega) (by omega) ?_
            refine g_iconst dX12_lent_59 (inR_c rfl) ?_
            refine g_iastB dX12_lent_60 sh_147 (by omega) (by omega) (fun h21 eh21 => ?_)
            have hFh21 := Fr.ar eh21
            have hMh21 := u_147 hMh8 eh21 (by omega) (by omega)
            refine g_iincB dX12_lent_61 rfl rfl (by omega) (by omega) ?_
            refine g_goto 38 dX12_lent_64 (by decide) ?_
            exact ih _ _ hMh21 (Fr.tr (Fr.sub hFh8 rfl) hFh21 rfl) (by omega) (by omega) (by omega)
      refine g_istore_n dX12_lent_37 (by decide) rfl ?_
      exact c38 257 _ _ hM Fr.rf (by omega) (by omega) (by omega)
    · skip
      refine g_if_ne 36 dX12_lent_23 (by decide) (fun _ => by exfalso; omega) (fun q22 => ?_)
      refine g_aload_n dX12_lent_26 rfl ?_
      refine g_iload_n dX12_lent_27 rfl (fun _ => ?_)
      refine g_cVP (as := [_]) (c_X12_isMaster_98 _ h hM (by omega) (by omega)) dX12_lent_28 mi_X12_isMaster in_X12_isMaster se_X12_isMaster ml_X12_201 rfl rfl rfl sh_98 rfl rfl (Nat.le_of_ble_eq_true rfl) (fun v23 q24 => ?_)
      obtain ⟨v25, ev25⟩ : ∃ z, z = h 98 4 := ⟨_, rfl⟩
      have bv25 : 0 ≤ v25 ∧ v25 ≤ 0 := by rw [ev25]; exact (m_98_4 hM)
      rcases q24 with ⟨rfl, q24⟩ | ⟨rfl, q24⟩
      · skip
        exfalso; omega
      · skip
        refine g_if_ne 36 dX12_lent_31 (by decide) (fun _ => by exfalso; omega) (fun q26 => ?_)
        refine g_iconst dX12_lent_34 (inR_c rfl) ?_
        exact g_ireturn dX12_lent_35 retI (hPo _ _ ⟨Fr.rf, (by omega)⟩)
  · skip
    refine g_if_eq 34 dX12_lent_9 (by decide) (fun q27 => ?_) (fun _ => by exfalso; omega)
    refine g_iconst dX12_lent_34 (inR_c rfl) ?_
    exact g_ireturn dX12_lent_35 retI (hPo _ _ ⟨Fr.rf, (by omega)⟩)
set_option maxRecDepth 100000 in
set_option maxHeartbeats 4000000 in
theorem c_X11_letGo_0 (x1 x2 x3 : Int) (h : MEM) (hM : MBx h) (bx1 : -2147483648 ≤ x1) (dx1 : x1 ≤ 2147483647) (bx2 : -2147483648 ≤ x2) (dx2 : x2 ≤ 2147483647) (bx3 : -2147483648 ≤ x3) (dx3 : x3 ≤ 2147483647) (p0_0 : 0 ≤ h 61 0) (p0_1 : h 61 0 ≤ 0) : CP yX11_letGo cX11_letGo 9 (some .int) 2 [pR 0, pI x1, pI x2, pI x3] h (fun x => x = -1) := by
  refine CP.of (L0 := [some (pR 0), some (pI x1), some (pI x2), some (pI x3), none, none, none, none, none]) rfl (Nat.le_of_ble_eq_true rfl) rfl (fun Po hPo hav => ?_)
  obtain ⟨w61_0, ew61_0⟩ : ∃ z, z = h 61 0 := ⟨_, rfl⟩
  refine g_aload_n dX11_letGo_0 rfl ?_
  refine gR_X11_10 rfl dX11_letGo_1 sh_0 (b := 1) (m_0_0 hM) ?_
  refine gR_X11_104 rfl dX11_letGo_4 sh_1 (b := 12) (m_1_2 hM) ?_
  refine gI_X11_263 rfl dX11_letGo_7 sh_12 (m_12_0 hM) (fun v1 ev1 bv1 cv1 => ?_)
  refine g_istore dX11_letGo_10 (by decide) rfl ?_
  refine g_aload_n dX11_letGo_12 rfl ?_
  refine gR_X11_10 rfl dX11_letGo_13 sh_0 (b := 1) (m_0_0 hM) ?_
  refine gR_X11_95 rfl dX11_letGo_16 sh_1 (b := 6) (m_1_1 hM) ?_
  refine g_iload_n dX11_letGo_19 rfl (fun _ => ?_)
  refine g_cVP (as := [_]) (c_X0_has_6 _ h hM (by omega) (by omega)) dX11_letGo_20 mi_X0_has in_X0_has se_X0_has ml_X11_113 rfl rfl rfl sh_6 rfl rfl (Nat.le_of_ble_eq_true rfl) (fun v2 q3 => ?_)
  obtain ⟨v4, ev4⟩ : ∃ z, z = h 6 0 := ⟨_, rfl⟩
  have bv4 : 0 ≤ v4 ∧ v4 ≤ 0 := by rw [ev4]; exact (m_6_0 hM)
  rcases q3 with ⟨rfl, q3⟩ | ⟨rfl, q3⟩
  · skip
    exfalso; omega
  · skip
    refine g_if_eq 62 dX11_letGo_23 (by decide) (fun q5 => ?_) (fun _ => by exfalso; omega)
    refine g_iconst dX11_letGo_62 (inR_c rfl) ?_
    exact g_ireturn dX11_letGo_63 retI (hPo _ (by omega))
set_option maxRecDepth 100000 in
set_option maxHeartbeats 4000000 in
theorem c_X12_letGo_98 (x1 x2 x3 : Int) (h : MEM) (hM : MBm h) (bx1 : -2147483648 ≤ x1) (dx1 : x1 ≤ 2147483647) (bx2 : -2147483648 ≤ x2) (dx2 : x2 ≤ 2147483647) (bx3 : -2147483648 ≤ x3) (dx3 : x3 ≤ 2147483647) (p0_0 : 0 ≤ h 98 1) (p0_1 : h 98 1 ≤ 0) : CP yX12_letGo cX12_letGo 9 (some .int) 3 [pR 98, pI x1, pI x2, pI x3] h (fun x => x = -1) := by
  refine CP.of (L0 := [some (pR 98), some (pI x1), some (pI x2), some (pI x3), none, none, none, none, none]) rfl (Nat.le_of_ble_eq_true rfl) rfl (fun Po hPo hav => ?_)
  obtain ⟨w98_1, ew98_1⟩ : ∃ z, z = h 98 1 := ⟨_, rfl⟩
  refine g_aload_n dX12_letGo_0 rfl ?_
  refine g_iload_n dX12_letGo_1 rfl (fun _ => ?_)
  refine g_cVP (as := [_]) (c_X12_isApprentice_98 _ h hM (by omega) (by omega)) dX12_letGo_2 mi_X12_isApprentice in_X12_isApprentice se_X12_isApprentice ml_X12_195 rfl rfl rfl sh_98 rfl rfl (Nat.le_of_ble_eq_true rfl) (fun v1 q2 => ?_)
  obtain ⟨v3, ev3⟩ : ∃ z, z = h 98 3 := ⟨_, rfl⟩
  have bv3 : 0 ≤ v3 ∧ v3 ≤ 0 := by rw [ev3]; exact (m_98_3 hM)
  rcases q2 with ⟨rfl, q2⟩ | ⟨rfl, q2⟩
  · skip
    exfalso; omega
  · skip
    refine g_if_eq 50 dX12_letGo_5 (by decide) (fun q4 => ?_) (fun _ => by exfalso; omega)
    refine g_iconst dX12_letGo_50 (inR_c rfl) ?_
    exact g_ireturn dX12_letGo_51 retI (hPo _ (by omega))
set_option maxRecDepth 100000 in
set_option maxHeartbeats 4000000 in
theorem c_X8_gather_75_1 (h : MEM) (hM : MBx h) : CI yX8_gather cX8_gather 4 (some .boolean) 1 [pR 75, pR 1] h (fun x h' => MBx h' ∧ Fr [(75, 1)] h h' ∧ 1 ≤ x ∧ x ≤ 1) := by
  refine CI.of (L0 := [some (pR 75), some (pR 1), none, none]) rfl (Nat.le_of_ble_eq_true rfl) rfl (fun Po hPo hav => ?_)
  refine g_aload_n dX8_gather_0 rfl ?_
  refine g_iconst dX8_gather_1 (inR_c rfl) ?_
  refine pI_X8_9 rfl dX8_gather_2 sh_75 (fun h1 eh1 => ?_)
  have hFh1 := Fr.st eh1
  have hMh1 := u_75_0 hM eh1 (by omega) (by omega)
  refine g_iconst dX8_gather_5 (inR_c rfl) ?_
  refine g_istore_n dX8_gather_6 (by decide) rfl ?_
  refine g_iconst dX8_gather_7 (inR_c rfl) ?_
  refine g_istore_n dX8_gather_8 (by decide) rfl ?_
  refine g_iload_n dX8_gather_9 rfl (fun _ => ?_)
  refine g_aload_n dX8_gather_10 rfl ?_
  refine gR_X8_22 rfl dX8_gather_11 sh_1 (b := 6) (m_1_1 hMh1) ?_
  refine gI_X8_28 rfl dX8_gather_14 sh_6 (m_6_0 hMh1) (fun v2 ev2 bv2 cv2 => ?_)
  refine g_icmp_ge 49 dX8_gather_17 (by decide) (fun q3 => ?_) (fun _ => by exfalso; omega)
  refine g_iconst dX8_gather_49 (inR_c rfl) ?_
  refine g_istore_n dX8_gather_50 (by decide) rfl ?_
  refine g_iload_n dX8_gather_51 rfl (fun _ => ?_)
  refine g_aload_n dX8_gather_52 rfl ?_
  refine gR_X8_39 rfl dX8_gather_53 sh_1 (b := 12) (m_1_2 hMh1) ?_
  refine gI_X8_43 rfl dX8_gather_56 sh_12 (m_12_0 hMh1) (fun v4 ev4 bv4 cv4 => ?_)
  refine g_icmp_ge 90 dX8_gather_59 (by decide) (fun q5 => ?_) (fun _ => by exfalso; omega)
  refine g_iload_n dX8_gather_90 rfl (fun _ => ?_)
  exact g_ireturn dX8_gather_91 (retZ (by omega)) (hPo _ _ ⟨hMh1, (Fr.sub hFh1 rfl), (by omega), (by omega)⟩)
set_option maxRecDepth 100000 in
set_option maxHeartbeats 4000000 in
theorem c_X8_mostSets_75 (h : MEM) (hM : MBx h) : CI yX8_mostSets cX8_mostSets 6 (some .int) 1 [pR 75] h (fun x h' => MBx h' ∧ Fr [(77, 0)] h h' ∧ 0 ≤ x ∧ x ≤ 0) := by
  refine CI.of (L0 := [some (pR 75), none, none, none, none, none]) rfl (Nat.le_of_ble_eq_true rfl) rfl (fun Po hPo hav => ?_)
  refine g_iconst dX8_mostSets_0 (inR_c rfl) ?_
  refine g_aload_n dX8_mostSets_1 rfl ?_
  refine gI_X8_9 rfl dX8_mostSets_2 sh_75 (m_75_0 hM) (fun v1 ev1 bv1 cv1 => ?_)
  refine g_ishlX (lo := 1) (hi := 1) dX8_mostSets_5 (ishl1_b 0 (by decide) (by omega) (by omega)) (fun v2 bv2 cv2 => ?_)
  refine g_iconst dX8_mostSets_6 (inR_c rfl) ?_
  refine g_isubB dX8_mostSets_7 (by omega) (by omega) ?_
  refine g_istore_n dX8_mostSets_8 (by decide) rfl ?_
  refine g_aload_n dX8_mostSets_9 rfl ?_
  refine gR_X8_19 rfl dX8_mostSets_10 sh_75 (b := 77) (m_75_2 hM) ?_
  refine g_iconst dX8_mostSets_13 (inR_c rfl) ?_
  refine g_iconst dX8_mostSets_14 (inR_c rfl) ?_
  refine g_iastB dX8_mostSets_15 sh_77 (by omega) (by omega) (fun h3 eh3 => ?_)
  have hFh3 := Fr.ar eh3
  have hMh3 := u_77 hM eh3 (by omega) (by omega)
  refine g_iconst dX8_mostSets_16 (inR_c rfl) ?_
  refine g_istore_n dX8_mostSets_17 (by decide) rfl ?_
  refine g_iload_n dX8_mostSets_18 rfl (fun _ => ?_)
  refine g_iload_n dX8_mostSets_19 rfl (fun _ => ?_)
  refine g_icmp_gt 109 dX8_mostSets_20 (by decide) (fun q4 => ?_) (fun _ => by exfalso; omega)
  refine g_aload_n dX8_mostSets_109 rfl ?_
  refine gR_X8_19 rfl dX8_mostSets_110 sh_75 (b := 77) (m_75_2 hMh3) ?_
  refine g_iload_n dX8_mostSets_113 rfl (fun _ => ?_)
  refine g_ialdB dX8_mostSets_114 sh_77 (by omega) (by omega) (m_77 hMh3 _) (fun v5 ev5 bv5 cv5 => ?_)
  exact g_ireturn dX8_mostSets_115 retI (hPo _ _ ⟨hMh3, (Fr.sub hFh3 rfl), (by omega), (by omega)⟩)
set_option maxRecDepth 100000 in
set_option maxHeartbeats 4000000 in
theorem c_X11_settled_0 (x1 : Int) (h : MEM) (hM : MBx h) (bx1 : -2147483648 ≤ x1) (dx1 : x1 ≤ 2147483647) : CI yX11_settled cX11_settled 3 (some .int) 2 [pR 0, pI x1] h (fun x h' => Fr [(75, 1), (77, 0)] h h' ∧ ((0 ≤ x1 ∧ x1 ≤ 1) ∧ x = 0 ∨ ¬ (0 ≤ x1 ∧ x1 ≤ 1) ∧ x = -1)) := by
  refine CI.of (L0 := [some (pR 0), some (pI x1), none]) rfl (Nat.le_of_ble_eq_true rfl) rfl (fun Po hPo hav => ?_)
  refine g_iload_n dX11_settled_0 rfl (fun _ => ?_)
  refine g_iconst dX11_settled_1 (inR_c rfl) ?_
  refine g_iconst dX11_settled_2 (inR_c rfl) ?_
  refine g_cSP (av := [_, _, _]) (c_X11_isWithin _ _ _ h hM (by omega) (by omega) (by omega) (by omega) (by omega) (by omega)) dX11_settled_3 mi_X11_isWithin st_X11_isWithin ml_X11_81 rfl rfl rfl rfl (Nat.le_of_ble_eq_true rfl) (fun v1 q2 => ?_)
  rcases q2 with ⟨rfl, q2⟩ | ⟨rfl, q2⟩
  · skip
    refine g_if_ne 11 dX11_settled_6 (by decide) (fun q3 => ?_) (fun _ => by exfalso; omega)
    refine g_aload_n dX11_settled_11 rfl ?_
    refine gR_X11_56 rfl dX11_settled_12 sh_0 (b := 75) (m_0_8 hM) ?_
    refine g_aload_n dX11_settled_15 rfl ?_
    refine gR_X11_10 rfl dX11_settled_16 sh_0 (b := 1) (m_0_0 hM) ?_
    refine g_cV (as := [_]) (c_X8_gather_75_1  h hM) dX11_settled_19 mi_X8_gather in_X8_gather se_X8_gather ml_X11_269 rfl rfl rfl sh_75 rfl rfl (Nat.le_of_ble_eq_true rfl) (fun v4 h5 q6 => ?_)
    obtain ⟨hMh5, hFh5, bv4, cv4⟩ := q6
    refine g_if_ne 28 dX11_settled_22 (by decide) (fun q7 => ?_) (fun _ => by exfalso; omega)
    refine g_aload_n dX11_settled_28 rfl ?_
    refine gR_X11_56 rfl dX11_settled_29 sh_0 (b := 75) (m_0_8 hMh5) ?_
    refine g_cV (as := []) (c_X8_mostSets_75  h5 hMh5) dX11_settled_32 mi_X8_mostSets in_X8_mostSets se_X8_mostSets ml_X11_273 rfl rfl rfl sh_75 rfl rfl (Nat.le_of_ble_eq_true rfl) (fun v8 h9 q10 => ?_)
    obtain ⟨hMh9, hFh9, bv8, cv8⟩ := q10
    refine g_istore_n dX11_settled_35 (by decide) rfl ?_
    refine g_iload_n dX11_settled_36 rfl (fun _ => ?_)
    refine g_if_ne 52 dX11_settled_37 (by decide) (fun q11 => ?_) (fun q11 => ?_)
    · skip
      refine g_iload_n dX11_settled_52 rfl (fun _ => ?_)
      exact g_ireturn dX11_settled_53 retI (hPo _ _ ⟨(Fr.tr (Fr.sub hFh5 rfl) hFh9 rfl), (by omega)⟩)
    · skip
      refine g_aload_n dX11_settled_40 rfl ?_
      refine gR_X11_56 rfl dX11_settled_41 sh_0 (b := 75) (m_0_8 hMh9) ?_
      refine gI_X11_276 rfl dX11_settled_44 sh_75 (m_75_0 hMh9) (fun v12 ev12 bv12 cv12 => ?_)
      refine g_iload_n dX11_settled_47 rfl (fun _ => ?_)
      refine g_isubB dX11_settled_48 (by omega) (by omega) ?_
      refine g_goto 53 dX11_settled_49 (by decide) ?_
      exact g_ireturn dX11_settled_53 retI (hPo _ _ ⟨(Fr.tr (Fr.sub hFh5 rfl) hFh9 rfl), (by omega)⟩)
  · skip
    refine g_if_ne 11 dX11_settled_6 (by decide) (fun _ => by exfalso; omega) (fun q13 => ?_)
    refine g_iconst dX11_settled_9 (inR_c rfl) ?_
    exact g_ireturn dX11_settled_10 retI (hPo _ _ ⟨Fr.rf, (by omega)⟩)
set_option maxRecDepth 100000 in
set_option maxHeartbeats 4000000 in
theorem c_X12_settled_98 (x1 : Int) (h : MEM) (hM : MBm h) (bx1 : -2147483648 ≤ x1) (dx1 : x1 ≤ 2147483647) : CI yX12_settled cX12_settled 7 (some .int) 2 [pR 98, pI x1] h (fun x h' => Fr [(149, 0)] h h' ∧ ((0 ≤ x1 ∧ x1 ≤ 1) ∧ x = 0 ∨ ¬ (0 ≤ x1 ∧ x1 ≤ 1) ∧ x = -1)) := by
  refine CI.of (L0 := [some (pR 98), some (pI x1), none, none, none, none, none]) rfl (Nat.le_of_ble_eq_true rfl) rfl (fun Po hPo hav => ?_)
  refine g_iload_n dX12_settled_0 rfl (fun _ => ?_)
  refine g_i2l dX12_settled_1 ?_
  refine g_lconst (v := 0) dX12_settled_2 rfl ?_
  refine g_lconst (v := 1) dX12_settled_3 rfl ?_
  refine g_cSP (av := [_, _, _]) (c_X12_lies _ _ _ h hM (by omega) (by omega) (by omega) (by omega) (by omega) (by omega)) dX12_settled_4 mi_X12_lies st_X12_lies ml_X12_175 rfl rfl rfl rfl (Nat.le_of_ble_eq_true rfl) (fun v1 q2 => ?_)
  rcases q2 with ⟨rfl, q2⟩ | ⟨rfl, q2⟩
  · skip
    refine g_if_ne 12 dX12_settled_7 (by decide) (fun q3 => ?_) (fun _ => by exfalso; omega)
    refine g_iconst dX12_settled_12 (inR_c rfl) ?_
    refine g_istore_n dX12_settled_13 (by decide) rfl ?_
    refine g_iconst dX12_settled_14 (inR_c rfl) ?_
    have c16 : ∀ (n : Nat) (y4 : Int) , 0 ≤ y4 → y4 ≤ 16 → 16 - y4 < (n : Int) → G yX12_settled cX12_settled 7 (some .int) none Po (2, 120, 0, 0) 16 [some (pR 98), some (pI x1), some (pI 0), some (pI y4), none, none, none] [] SH h 0 0 := by
      intro n
      induction n with
      | zero =>
        intro y4 by4 dy4 hn
        exfalso; omega
      | succ n ih =>
        intro y4 by4 dy4 hn
        refine g_iload_n dX12_settled_16 rfl (fun _ => ?_)
        refine g_bipush dX12_settled_17 (inR_c rfl) (by decide) ?_
        refine g_icmp_ge 101 dX12_settled_19 (by decide) (fun q5 => ?_) (fun q5 => ?_)
        · skip
          refine g_iload_n dX12_settled_101 rfl (fun _ => ?_)
          refine g_bipush dX12_settled_102 (inR_c rfl) (by decide) ?_
          refine g_icmp_le 110 dX12_settled_104 (by decide) (fun q6 => ?_) (fun _ => by exfalso; omega)
          refine g_iconst dX12_settled_110 (inR_c rfl) ?_
          have c112 : ∀ (n : Nat) (y7 : Int) (h8 : MEM), MBm h8 → Fr [(149, 0)] h h8 → 0 ≤ y7 → y7 ≤ 1 → 1 - y7 < (n : Int) → G yX12_settled cX12_settled 7 (some .int) none Po (2, 120, 0, 0) 112 [some (pR 98), some (pI x1), some (pI 0), some (pI y7), none, none, none] [] SH h8 0 0 := by
            intro n
            induction n with
            | zero =>
              intro y7 h8 hMh8 hFh8 by7 dy7 hn
              exfalso; omega
            | succ n ih =>
              intro y7 h8 hMh8 hFh8 by7 dy7 hn
              refine g_iload_n dX12_settled_112 rfl (fun _ => ?_)
              refine g_iconst dX12_settled_113 (inR_c rfl) ?_
              refine g_iload_n dX12_settled_114 rfl (fun _ => ?_)
              refine g_ishlX (lo := 1) (hi := 1) dX12_settled_115 (ishl1_b 0 (by decide) (by omega) (by omega)) (fun v9 bv9 cv9 => ?_)
              refine g_icmp_ge 257 dX12_settled_116 (by decide) (fun q10 => ?_) (fun q10 => ?_)
              · skip
                refine g_aload_n dX12_settled_257 rfl ?_
                refine gR_X12_166 rfl dX12_settled_258 sh_98 (b := 149) (m_98_77 hMh8) ?_
                refine g_iconst dX12_settled_261 (inR_c rfl) ?_
                refine g_iload_n dX12_settled_262 rfl (fun _ => ?_)
                refine g_ishlX (lo := 1) (hi := 1) dX12_settled_263 (ishl1_b 0 (by decide) (by omega) (by omega)) (fun v11 bv11 cv11 => ?_)
                refine g_iconst dX12_settled_264 (inR_c rfl) ?_
                refine g_isubB dX12_settled_265 (by omega) (by omega) ?_
                refine g_ialdB dX12_settled_266 sh_149 (by omega) (by omega) (m_149 hMh8 _) (fun v12 ev12 bv12 cv12 => ?_)
                refine g_istore_n dX12_settled_267 (by decide) rfl ?_
                refine g_iload_n dX12_settled_268 rfl (fun _ => ?_)
                refine g_if_ne 278 dX12_settled_269 (by decide) (fun q13 => ?_) (fun q13 => ?_)
                · skip
                  refine g_iload_n dX12_settled_278 rfl (fun _ => ?_)
                  exact g_ireturn dX12_settled_279 retI (hPo _ _ ⟨(Fr.sub hFh8 rfl), (by omega)⟩)
                · skip
                  refine g_iload_n dX12_settled_272 rfl (fun _ => ?_)
                  refine g_iload_n dX12_settled_273 rfl (fun _ => ?_)
                  refine g_isubB dX12_settled_274 (by omega) (by omega) ?_
                  refine g_goto 279 dX12_settled_275 (by decide) ?_
                  exact g_ireturn dX12_settled_279 retI (hPo _ _ ⟨(Fr.sub hFh8 rfl), (by omega)⟩)
              · skip
                refine g_iconst dX12_settled_119 (inR_c rfl) ?_
                refine g_istore dX12_settled_120 (by decide) rfl ?_
                refine g_iconst dX12_settled_122 (inR_c rfl) ?_
                refine g_istore dX12_settled_123 (by decide) rfl ?_
                refine g_iload dX12_settled_125 rfl (fun _ => ?_)
                refine g_iload_n dX12_settled_127 rfl (fun _ => ?_)
                refine g_icmp_ge 162 dX12_settled_128 (by decide) (fun q14 => ?_) (fun _ => by exfalso; omega)
                refine g_aload_n dX12_settled_162 rfl ?_
                refine gR_X12_166 rfl dX12_settled_163 sh_98 (b := 149) (m_98_77 hMh8) ?_
                refine g_iload_n dX12_settled_166 rfl (fun _ => ?_)
                refine g_iload_n dX12_settled_167 rfl (fun _ => ?_)
                refine g_if_ne 175 dX12_settled_168 (by decide) (fun _ => by exfalso; omega) (fun q15 => ?_)
                refine g_iconst dX12_settled_171 (inR_c rfl) ?_
                refine g_goto 187 dX12_settled_172 (by decide) ?_
                refine g_iastB dX12_settled_187 sh_149 (by omega) (by omega) (fun h16 eh16 => ?_)
                have hFh16 := Fr.ar eh16
                have hMh16 := u_149 hMh8 eh16 (by omega) (by omega)
                refine g_iload_n dX12_settled_188 rfl (fun _ => ?_)
                refine g_iconst dX12_settled_189 (inR_c rfl) ?_
                refine g_isubB dX12_settled_190 (by omega) (by omega) ?_
                refine g_iload_n dX12_settled_191 rfl (fun _ => ?_)
                refine g_iandX (lo := 0) (hi := 0) dX12_settled_192 (iand_r (by omega) (by omega)) (fun v17 bv17 cv17 => ?_)
                refine g_istore dX12_settled_193 (by decide) rfl ?_
                refine g_iload dX12_settled_195 rfl (fun _ => ?_)
                refine g_if_le 251 dX12_settled_197 (by decide) (fun q18 => ?_) (fun _ => by exfalso; omega)
                refine g_iincB dX12_settled_251 rfl rfl (by omega) (by omega) ?_
                refine g_goto 112 dX12_settled_254 (by decide) ?_
                refine g_drop 4 ?_
                refine g_drop 5 ?_
                exact ih _ _ hMh16 (Fr.tr (Fr.sub hFh8 rfl) hFh16 rfl) (by omega) (by omega) (by omega)
          refine g_istore_n dX12_settled_111 (by decide) rfl ?_
          exact c112 2 _ _ hM Fr.rf (by omega) (by omega) (by omega)
        · skip
          refine g_iload_n dX12_settled_22 rfl (fun _ => ?_)
          refine g_bipush dX12_settled_23 (inR_c rfl) (by decide) ?_
          refine g_icmp_ge 50 dX12_settled_25 (by decide) (fun q19 => ?_) (fun q19 => ?_)
          · skip
            refine g_iload_n dX12_settled_50 rfl (fun _ => ?_)
            refine g_bipush dX12_settled_51 (inR_c rfl) (by decide) ?_
            refine g_isubB dX12_settled_53 (by omega) (by omega) ?_
            refine g_aload_n dX12_settled_54 rfl ?_
            refine gI_X12_182 rfl dX12_settled_55 sh_98 (m_98_4 hM) (fun v20 ev20 bv20 cv20 => ?_)
            refine g_icmp_ge 73 dX12_settled_58 (by decide) (fun q21 => ?_) (fun _ => by exfalso; omega)
            refine g_iconst dX12_settled_73 (inR_c rfl) ?_
            refine g_istore dX12_settled_74 (by decide) rfl ?_
            refine g_iload dX12_settled_76 rfl (fun _ => ?_)
            refine g_if_ne 84 dX12_settled_78 (by decide) (fun _ => by exfalso; omega) (fun q22 => ?_)
            refine g_goto 95 dX12_settled_81 (by decide) ?_
            refine g_iincB dX12_settled_95 rfl rfl (by omega) (by omega) ?_
            refine g_goto 16 dX12_settled_98 (by decide) ?_
            refine g_drop 4 ?_
            exact ih _ (by omega) (by omega) (by omega)
          · skip
            refine g_iload_n dX12_settled_28 rfl (fun _ => ?_)
            refine g_aload_n dX12_settled_29 rfl ?_
            refine gI_X12_179 rfl dX12_settled_30 sh_98 (m_98_3 hM) (fun v23 ev23 bv23 cv23 => ?_)
            refine g_icmp_ge 46 dX12_settled_33 (by decide) (fun q24 => ?_) (fun _ => by exfalso; omega)
            refine g_iconst dX12_settled_46 (inR_c rfl) ?_
            refine g_goto 74 dX12_settled_47 (by decide) ?_
            refine g_istore dX12_settled_74 (by decide) rfl ?_
            refine g_iload dX12_settled_76 rfl (fun _ => ?_)
            refine g_if_ne 84 dX12_settled_78 (by decide) (fun _ => by exfalso; omega) (fun q25 => ?_)
            refine g_goto 95 dX12_settled_81 (by decide) ?_
            refine g_iincB dX12_settled_95 rfl rfl (by omega) (by omega) ?_
            refine g_goto 16 dX12_settled_98 (by decide) ?_
            refine g_drop 4 ?_
            exact ih _ (by omega) (by omega) (by omega)
    refine g_istore_n dX12_settled_15 (by decide) rfl ?_
    exact c16 17 _ (by omega) (by omega) (by omega)
  · skip
    refine g_if_ne 12 dX12_settled_7 (by decide) (fun _ => by exfalso; omega) (fun q26 => ?_)
    refine g_iconst dX12_settled_10 (inR_c rfl) ?_
    exact g_ireturn dX12_settled_11 retI (hPo _ _ ⟨Fr.rf, (by omega)⟩)
