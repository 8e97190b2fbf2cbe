set_option maxRecDepth 100000 in
set_option maxHeartbeats 4000000 in
theorem c_X12_lentWith_98 (x1 x2 x3 : Int) (h : MEM) (hM : MBm h) (bx1 : 0 ≤ x1) (dx1 : x1 ≤ 7) (bx2 : 0 ≤ x2) (dx2 : x2 ≤ 7) (bx3 : 0 ≤ x3) (dx3 : x3 ≤ 255) : CP yX12_lentWith cX12_lentWith 4 (some .int) 1 [pR 98, pI x1, pI x2, pI x3] h (fun x => -2147483648 ≤ x ∧ x ≤ 2147483647) := by
  refine CP.of (L0 := [some (pR 98), some (pI x1), some (pI x2), some (pI x3)]) rfl (Nat.le_of_ble_eq_true rfl) rfl (fun Po hPo hav => ?_)
  refine g_iconst dX12_lentWith_0 (inR_c rfl) ?_
  refine g_aload_n dX12_lentWith_1 rfl ?_
  refine gR_X12_160 rfl dX12_lentWith_2 sh_98 (b := 147) (m_98_75 hM) ?_
  refine g_sipush dX12_lentWith_5 (inR_c rfl) (by decide) ?_
  refine g_iload_n dX12_lentWith_8 rfl (fun _ => ?_)
  refine g_iconst dX12_lentWith_9 (inR_c rfl) ?_
  refine g_iaddB dX12_lentWith_10 (by omega) (by omega) ?_
  refine g_imulB dX12_lentWith_11 (by omega) (by omega) ?_
  refine g_iload_n dX12_lentWith_12 rfl (fun _ => ?_)
  refine g_iconst dX12_lentWith_13 (inR_c rfl) ?_
  refine g_iload_n dX12_lentWith_14 rfl (fun _ => ?_)
  refine g_ishlX (lo := 1) (hi := 128) dX12_lentWith_15 (ishl1_b 7 (by decide) (by omega) (by omega)) (fun v1 ev1 bv1 cv1 => ?_)
  refine g_iorX (lo := 0) (hi := 255) dX12_lentWith_16 (ior_b 8 (by decide) (by omega) (by omega) (by omega) (by omega)) (fun v2 ev2 bv2 cv2 => ?_)
  refine g_iaddB dX12_lentWith_17 (by omega) (by omega) ?_
  refine g_ialdB dX12_lentWith_18 sh_147 (by omega) (by omega) (m_147 hM _) (fun v3 ev3 bv3 cv3 => ?_)
  refine g_iaddF dX12_lentWith_19 (fun v4 bv4 cv4 => ?_)
  exact g_ireturn dX12_lentWith_20 retI (hPo _ ⟨(by omega), (by omega)⟩)
set_option maxRecDepth 100000 in
set_option maxHeartbeats 4000000 in
theorem c_X12_lent_98 (x1 x2 : Int) (h : MEM) (hM : MBm h) (bx1 : -2147483648 ≤ x1) (dx1 : x1 ≤ 2147483647) (bx2 : -2147483648 ≤ x2) (dx2 : x2 ≤ 2147483647) : CI yX12_lent cX12_lent 8 (some .int) 3 [pR 98, pI x1, pI x2] h (fun x h' => MBm h' ∧ Fr [(106, 0), (147, 0)] h h' ∧ -2147483648 ≤ x ∧ x ≤ 2147483647) := by
  refine CI.of (L0 := [some (pR 98), some (pI x1), some (pI x2), none, none, none, none, none]) rfl (Nat.le_of_ble_eq_true rfl) rfl (fun Po hPo hav => ?_)
  refine g_iload_n dX12_lent_0 rfl (fun _ => ?_)
  refine g_i2l dX12_lent_1 ?_
  refine g_lconst (v := 1) dX12_lent_2 rfl ?_
  refine g_ldc2 (v := 99) dX12_lent_3 kl_X12_187 (by decide) ?_
  refine g_cSP (av := [_, _, _]) (c_X12_lies _ _ _ h hM (by omega) (by omega) (by omega) (by omega) (by omega) (by omega)) dX12_lent_6 mi_X12_lies st_X12_lies ml_X12_175 rfl rfl rfl rfl (Nat.le_of_ble_eq_true rfl) (fun v1 q2 => ?_)
  rcases q2 with ⟨rfl, q2⟩ | ⟨rfl, q2⟩
  · skip
    refine g_if_eq 34 dX12_lent_9 (by decide) (fun _ => by exfalso; omega) (fun q3 => ?_)
    refine g_iload_n dX12_lent_12 rfl (fun _ => ?_)
    refine g_i2l dX12_lent_13 ?_
    refine g_ldc2 (v := 10) dX12_lent_14 kl_X12_410 (by decide) ?_
    refine g_ldc2 (v := 11) dX12_lent_17 kl_X12_468 (by decide) ?_
    refine g_cSP (av := [_, _, _]) (c_X12_lies _ _ _ h hM (by omega) (by omega) (by omega) (by omega) (by omega) (by omega)) dX12_lent_20 mi_X12_lies st_X12_lies ml_X12_175 rfl rfl rfl rfl (Nat.le_of_ble_eq_true rfl) (fun v4 q5 => ?_)
    rcases q5 with ⟨rfl, q5⟩ | ⟨rfl, q5⟩
    · skip
      refine g_if_ne 36 dX12_lent_23 (by decide) (fun q6 => ?_) (fun _ => by exfalso; omega)
      refine g_iconst dX12_lent_36 (inR_c rfl) ?_
      have c38 : ∀ (n : Nat) (y7 : Int) (h8 : MEM), MBm h8 → Fr [(147, 0)] h h8 → 0 ≤ y7 → y7 ≤ 256 → 256 - y7 < (n : Int) → G yX12_lent cX12_lent 8 (some .int) none Po (3, 180, 0, 0) 38 [some (pR 98), some (pI x1), some (pI x2), some (pI y7), none, none, none, none] [] SH h8 0 0 := by
        intro n
        induction n with
        | zero =>
          intro y7 h8 hMh8 hFh8 by7 dy7 hn
          exfalso; omega
        | succ n ih38 =>
          intro y7 h8 hMh8 hFh8 by7 dy7 hn
          refine g_iload_n dX12_lent_38 rfl (fun _ => ?_)
          refine g_sipush dX12_lent_39 (inR_c rfl) (by decide) ?_
          refine g_icmp_ge 67 dX12_lent_42 (by decide) (fun q9 => ?_) (fun q9 => ?_)
          · skip
            refine g_aload_n dX12_lent_67 rfl ?_
            refine gI_X12_182 rfl dX12_lent_68 sh_98 (m_98_4 hMh8) (fun v10 ev10 bv10 cv10 => ?_)
            refine g_iconst dX12_lent_71 (inR_c rfl) ?_
            refine g_isubB dX12_lent_72 (by omega) (by omega) ?_
            have c74 : ∀ (n : Nat) (y11 : Int) (h12 : MEM), MBm h12 → Fr [(147, 0)] h8 h12 → -1 ≤ y11 → y11 ≤ 7 → y11 - (-1) < (n : Int) → G yX12_lent cX12_lent 8 (some .int) none Po (3, 180, 0, 0) 74 [some (pR 98), some (pI x1), some (pI x2), some (pI y11), none, none, none, none] [] SH h12 0 0 := by
              intro n
              induction n with
              | zero =>
                intro y11 h12 hMh12 hFh12 by11 dy11 hn
                exfalso; omega
              | succ n ih74 =>
                intro y11 h12 hMh12 hFh12 by11 dy11 hn
                refine g_iload_n dX12_lent_74 rfl (fun _ => ?_)
                refine g_if_lt 197 dX12_lent_75 (by decide) (fun q13 => ?_) (fun q13 => ?_)
                · skip
                  refine g_iload_n dX12_lent_197 rfl (fun _ => ?_)
                  refine g_bipush dX12_lent_198 (inR_c rfl) (by decide) ?_
                  refine g_icmp_ne 210 dX12_lent_200 (by decide) (fun q14 => ?_) (fun q14 => ?_)
                  · skip
                    refine g_iconst dX12_lent_210 (inR_c rfl) ?_
                    refine g_istore_n dX12_lent_211 (by decide) rfl ?_
                    refine g_iconst dX12_lent_212 (inR_c rfl) ?_
                    refine g_istore dX12_lent_213 (by decide) rfl ?_
                    refine g_iconst dX12_lent_215 (inR_c rfl) ?_
                    have c218 : ∀ (n : Nat) (y15 y16 y17 : Int) , 0 ≤ y15 → y15 ≤ 255 → 0 ≤ y16 → y16 ≤ 8 → 0 ≤ y17 → y17 ≤ 8 → 8 - y17 < (n : Int) → G yX12_lent cX12_lent 8 (some .int) none Po (3, 180, 0, 0) 218 [some (pR 98), some (pI x1), some (pI x2), some (pI y15), some (pI y16), some (pI y17), none, none] [] SH h12 0 0 := by
                      intro n
                      induction n with
                      | zero =>
                        intro y15 y16 y17 by15 dy15 by16 dy16 by17 dy17 hn
                        exfalso; omega
                      | succ n ih218 =>
                        intro y15 y16 y17 by15 dy15 by16 dy16 by17 dy17 hn
                        refine g_iload dX12_lent_218 rfl (fun _ => ?_)
                        refine g_aload_n dX12_lent_220 rfl ?_
                        refine gE_X12_182 rfl dX12_lent_221 sh_98 ((hFh12 98 4 rfl).trans ev10.symm) ?_
                        refine g_icmp_ge 334 dX12_lent_224 (by decide) (fun q18 => ?_) (fun q18 => ?_)
                        · skip
                          refine g_iload_n dX12_lent_334 rfl (fun _ => ?_)
                          refine g_bipush dX12_lent_335 (inR_c rfl) (by decide) ?_
                          refine g_icmp_eq 343 dX12_lent_337 (by decide) (fun q19 => ?_) (fun _ => by exfalso; omega)
                          refine g_iconst dX12_lent_343 (inR_c rfl) ?_
                          have c346 : ∀ (n : Nat) (y20 : Int) (h21 : MEM), MBm h21 → Fr [(106, 0)] h12 h21 → 0 ≤ y20 → y20 ≤ 8 → 8 - y20 < (n : Int) → G yX12_lent cX12_lent 8 (some .int) none Po (3, 180, 0, 0) 346 [some (pR 98), none, none, some (pI y15), none, some (pI y20), none, none] [] SH h21 0 0 := by
                            intro n
                            induction n with
                            | zero =>
                              intro y20 h21 hMh21 hFh21 by20 dy20 hn
                              exfalso; omega
                            | succ n ih346 =>
                              intro y20 h21 hMh21 hFh21 by20 dy20 hn
                              refine g_iload dX12_lent_346 rfl (fun _ => ?_)
                              refine g_aload_n dX12_lent_348 rfl ?_
                              refine gI_X12_179 rfl dX12_lent_349 sh_98 (m_98_3 hMh21) (fun v22 ev22 bv22 cv22 => ?_)
                              refine g_icmp_ge 378 dX12_lent_352 (by decide) (fun q23 => ?_) (fun q23 => ?_)
                              · skip
                                refine g_iload_n dX12_lent_378 rfl (fun _ => ?_)
                                refine g_cSP (av := [_]) (c_X12_sizeOf _ h21 hMh21 (by omega) (by omega)) dX12_lent_379 mi_X12_sizeOf st_X12_sizeOf ml_X12_450 rfl rfl rfl rfl (Nat.le_of_ble_eq_true rfl) (fun v24 q25 => ?_)
                                obtain ⟨bv24, cv24⟩ := q25
                                exact g_ireturn dX12_lent_382 retI (hPo _ _ ⟨hMh21, (Fr.tr (Fr.tr (Fr.sub hFh8 rfl) hFh12 rfl) hFh21 rfl), (by omega), (by omega)⟩)
                              · skip
                                refine g_iload_n dX12_lent_355 rfl (fun _ => ?_)
                                refine g_iload dX12_lent_356 rfl (fun _ => ?_)
                                refine g_cSP (av := [_, _]) (c_X12_has _ _ h21 hMh21 (by omega) (by omega) (by omega) (by omega)) dX12_lent_358 mi_X12_has st_X12_has ml_X12_362 rfl rfl rfl rfl (Nat.le_of_ble_eq_true rfl) (fun v26 q27 => ?_)
                                obtain ⟨bv26, cv26, zv26⟩ := q27
                                refine g_if_eq 372 dX12_lent_361 (by decide) (fun q28 => ?_) (fun q28 => ?_)
                                · skip
                                  refine g_iincB dX12_lent_372 rfl rfl (by omega) (by omega) ?_
                                  refine g_goto 346 dX12_lent_375 (by decide) ?_
                                  exact ih346 _ _ hMh21 (Fr.sub hFh21 rfl) (by omega) (by omega) (by omega)
                                · skip
                                  refine g_aload_n dX12_lent_364 rfl ?_
                                  refine gR_X12_36 rfl dX12_lent_365 sh_98 (b := 106) (m_98_14 hMh21) ?_
                                  refine g_iload dX12_lent_368 rfl (fun _ => ?_)
                                  refine g_iconst dX12_lent_370 (inR_c rfl) ?_
                                  refine g_zastB dX12_lent_371 sh_106 (by omega) (by omega) (by omega) (fun h29 eh29 => ?_)
                                  have hFh29 := Fr.ar eh29
                                  have hMh29 := u_106 hMh21 eh29 (by omega) (by omega)
                                  refine g_iincB dX12_lent_372 rfl rfl (by omega) (by omega) ?_
                                  refine g_goto 346 dX12_lent_375 (by decide) ?_
                                  exact ih346 _ _ hMh29 (Fr.tr (Fr.sub hFh21 rfl) hFh29 rfl) (by omega) (by omega) (by omega)
                          refine g_istore dX12_lent_344 (by decide) rfl ?_
                          refine g_drop 1 ?_
                          refine g_drop 2 ?_
                          refine g_drop 4 ?_
                          exact c346 9 _ _ hMh12 Fr.rf (by omega) (by omega) (by omega)
                        · skip
                          refine g_bipush dX12_lent_227 (inR_c rfl) (by decide) ?_
                          refine g_istore dX12_lent_229 (by decide) rfl ?_
                          refine g_aload_n dX12_lent_231 rfl ?_
                          refine gI_X12_179 rfl dX12_lent_232 sh_98 (m_98_3 hMh12) (fun v30 ev30 bv30 cv30 => ?_)
                          refine g_iconst dX12_lent_235 (inR_c rfl) ?_
                          refine g_isubB dX12_lent_236 (by omega) (by omega) ?_
                          have c239 : ∀ (n : Nat) (y31 y32 : Int) , 0 ≤ y31 → y31 ≤ 8 → -1 ≤ y32 → y32 ≤ 7 → y32 - (-1) < (n : Int) → G yX12_lent cX12_lent 8 (some .int) none Po (3, 180, 0, 0) 239 [some (pR 98), some (pI x1), some (pI x2), some (pI y15), some (pI y16), some (pI y17), some (pI y31), some (pI y32)] [] SH h12 0 0 := by
                            intro n
                            induction n with
                            | zero =>
                              intro y31 y32 by31 dy31 by32 dy32 hn
                              exfalso; omega
                            | succ n ih239 =>
                              intro y31 y32 by31 dy31 by32 dy32 hn
                              refine g_iload dX12_lent_239 rfl (fun _ => ?_)
                              refine g_if_lt 300 dX12_lent_241 (by decide) (fun q33 => ?_) (fun q33 => ?_)
                              · skip
                                refine g_iload dX12_lent_300 rfl (fun _ => ?_)
                                refine g_iload_n dX12_lent_302 rfl (fun _ => ?_)
                                refine g_icmp_ne 310 dX12_lent_303 (by decide) (fun q34 => ?_) (fun _ => by exfalso; omega)
                                refine g_iload_n dX12_lent_310 rfl (fun _ => ?_)
                                refine g_iload dX12_lent_311 rfl (fun _ => ?_)
                                refine g_bipush dX12_lent_313 (inR_c rfl) (by decide) ?_
                                refine g_icmp_ge 325 dX12_lent_315 (by decide) (fun q35 => ?_) (fun q35 => ?_)
                                · skip
                                  refine g_iconst dX12_lent_325 (inR_c rfl) ?_
                                  refine g_iorX (lo := 0) (hi := 255) dX12_lent_326 (ior_b 8 (by decide) (by omega) (by omega) (by omega) (by omega)) (fun v36 ev36 bv36 cv36 => ?_)
                                  refine g_istore_n dX12_lent_327 (by decide) rfl ?_
                                  refine g_iincB dX12_lent_328 rfl rfl (by omega) (by omega) ?_
                                  refine g_goto 218 dX12_lent_331 (by decide) ?_
                                  refine g_drop 6 ?_
                                  refine g_drop 7 ?_
                                  exact ih218 _ _ _ (by omega) (by omega) (by omega) (by omega) (by omega) (by omega) (by omega)
                                · skip
                                  refine g_iconst dX12_lent_318 (inR_c rfl) ?_
                                  refine g_iload dX12_lent_319 rfl (fun _ => ?_)
                                  refine g_ishlX (lo := 1) (hi := 128) dX12_lent_321 (ishl1_b 7 (by decide) (by omega) (by omega)) (fun v37 ev37 bv37 cv37 => ?_)
                                  refine g_goto 326 dX12_lent_322 (by decide) ?_
                                  refine g_iorX (lo := 0) (hi := 255) dX12_lent_326 (ior_b 8 (by decide) (by omega) (by omega) (by omega) (by omega)) (fun v38 ev38 bv38 cv38 => ?_)
                                  refine g_istore_n dX12_lent_327 (by decide) rfl ?_
                                  refine g_iincB dX12_lent_328 rfl rfl (by omega) (by omega) ?_
                                  refine g_goto 218 dX12_lent_331 (by decide) ?_
                                  refine g_drop 6 ?_
                                  refine g_drop 7 ?_
                                  exact ih218 _ _ _ (by omega) (by omega) (by omega) (by omega) (by omega) (by omega) (by omega)
                              · skip
                                refine g_iload_n dX12_lent_244 rfl (fun _ => ?_)
                                refine g_iload dX12_lent_245 rfl (fun _ => ?_)
                                refine g_cSP (av := [_, _]) (c_X12_has _ _ h12 hMh12 (by omega) (by omega) (by omega) (by omega)) dX12_lent_247 mi_X12_has st_X12_has ml_X12_362 rfl rfl rfl rfl (Nat.le_of_ble_eq_true rfl) (fun v39 q40 => ?_)
                                obtain ⟨bv39, cv39, zv39⟩ := q40
                                refine g_if_ne 294 dX12_lent_250 (by decide) (fun q41 => ?_) (fun q41 => ?_)
                                · skip
                                  refine g_iincB dX12_lent_294 rfl rfl (by omega) (by omega) ?_
                                  refine g_goto 239 dX12_lent_297 (by decide) ?_
                                  exact ih239 _ _ (by omega) (by omega) (by omega) (by omega) (by omega)
                                · skip
                                  refine g_aload_n dX12_lent_253 rfl ?_
                                  refine g_iload dX12_lent_254 rfl (fun _ => ?_)
                                  refine g_iload dX12_lent_256 rfl (fun _ => ?_)
                                  refine g_iload_n dX12_lent_258 rfl (fun _ => ?_)
                                  refine g_cVP (as := [_, _, _]) (c_X12_canLend_98 _ _ _ h12 hMh12 (by omega) (by omega) (by omega) (by omega) (by omega) (by omega)) dX12_lent_259 mi_X12_canLend in_X12_canLend se_X12_canLend ml_X12_470 rfl rfl rfl sh_98 rfl rfl (Nat.le_of_ble_eq_true rfl) (fun v42 q43 => ?_)
                                  obtain ⟨bv42, cv42⟩ := q43
                                  refine g_if_eq 294 dX12_lent_262 (by decide) (fun q44 => ?_) (fun q44 => ?_)
                                  · skip
                                    refine g_iincB dX12_lent_294 rfl rfl (by omega) (by omega) ?_
                                    refine g_goto 239 dX12_lent_297 (by decide) ?_
                                    exact ih239 _ _ (by omega) (by omega) (by omega) (by omega) (by omega)
                                  · skip
                                    refine g_aload_n dX12_lent_265 rfl ?_
                                    refine g_iload dX12_lent_266 rfl (fun _ => ?_)
                                    refine g_iload dX12_lent_268 rfl (fun _ => ?_)
                                    refine g_iload_n dX12_lent_270 rfl (fun _ => ?_)
                                    refine g_cVP (as := [_, _, _]) (c_X12_lentWith_98 _ _ _ h12 hMh12 (by omega) (by omega) (by omega) (by omega) (by omega) (by omega)) dX12_lent_271 mi_X12_lentWith in_X12_lentWith se_X12_lentWith ml_X12_474 rfl rfl rfl sh_98 rfl rfl (Nat.le_of_ble_eq_true rfl) (fun v45 q46 => ?_)
                                    obtain ⟨bv45, cv45⟩ := q46
                                    refine g_aload_n dX12_lent_274 rfl ?_
                                    refine gR_X12_160 rfl dX12_lent_275 sh_98 (b := 147) (m_98_75 hMh12) ?_
                                    refine g_sipush dX12_lent_278 (inR_c rfl) (by decide) ?_
                                    refine g_iload dX12_lent_281 rfl (fun _ => ?_)
                                    refine g_imulB dX12_lent_283 (by omega) (by omega) ?_
                                    refine g_iload_n dX12_lent_284 rfl (fun _ => ?_)
                                    refine g_iaddB dX12_lent_285 (by omega) (by omega) ?_
                                    refine g_ialdB dX12_lent_286 sh_147 (by omega) (by omega) (m_147 hMh12 _) (fun v47 ev47 bv47 cv47 => ?_)
                                    refine g_icmp_ne 294 dX12_lent_287 (by decide) (fun q48 => ?_) (fun q48 => ?_)
                                    · skip
                                      refine g_iincB dX12_lent_294 rfl rfl (by omega) (by omega) ?_
                                      refine g_goto 239 dX12_lent_297 (by decide) ?_
                                      exact ih239 _ _ (by omega) (by omega) (by omega) (by omega) (by omega)
                                    · skip
                                      refine g_iload dX12_lent_290 rfl (fun _ => ?_)
                                      refine g_istore dX12_lent_292 (by decide) rfl ?_
                                      refine g_iincB dX12_lent_294 rfl rfl (by omega) (by omega) ?_
                                      refine g_goto 239 dX12_lent_297 (by decide) ?_
                                      exact ih239 _ _ (by omega) (by omega) (by omega) (by omega) (by omega)
                          refine g_istore dX12_lent_237 (by decide) rfl ?_
                          exact c239 9 _ _ (by omega) (by omega) (by omega) (by omega) (by omega)
                    refine g_istore dX12_lent_216 (by decide) rfl ?_
                    exact c218 9 _ _ _ (by omega) (by omega) (by omega) (by omega) (by omega) (by omega) (by omega)
                  · skip
                    refine g_aload_n dX12_lent_203 rfl ?_
                    refine gR_X12_160 rfl dX12_lent_204 sh_98 (b := 147) (m_98_75 hMh12) ?_
                    refine g_iconst dX12_lent_207 (inR_c rfl) ?_
                    refine g_ialdB dX12_lent_208 sh_147 (by omega) (by omega) (m_147 hMh12 _) (fun v49 ev49 bv49 cv49 => ?_)
                    exact g_ireturn dX12_lent_209 retI (hPo _ _ ⟨hMh12, (Fr.tr (Fr.sub hFh8 rfl) hFh12 rfl), (by omega), (by omega)⟩)
                · skip
                  refine g_iconst dX12_lent_78 (inR_c rfl) ?_
                  have c81 : ∀ (n : Nat) (y50 : Int) (h51 : MEM), MBm h51 → Fr [(147, 0)] h12 h51 → 0 ≤ y50 → y50 ≤ 256 → 256 - y50 < (n : Int) → G yX12_lent cX12_lent 8 (some .int) none Po (3, 180, 0, 0) 81 [some (pR 98), some (pI x1), some (pI x2), some (pI y11), some (pI y50), none, none, none] [] SH h51 0 0 := by
                    intro n
                    induction n with
                    | zero =>
                      intro y50 h51 hMh51 hFh51 by50 dy50 hn
                      exfalso; omega
                    | succ n ih81 =>
                      intro y50 h51 hMh51 hFh51 by50 dy50 hn
                      refine g_iload dX12_lent_81 rfl (fun _ => ?_)
                      refine g_sipush dX12_lent_83 (inR_c rfl) (by decide) ?_
                      refine g_icmp_ge 191 dX12_lent_86 (by decide) (fun q52 => ?_) (fun q52 => ?_)
                      · skip
                        refine g_iincB dX12_lent_191 rfl rfl (by omega) (by omega) ?_
                        refine g_goto 74 dX12_lent_194 (by decide) ?_
                        refine g_drop 4 ?_
                        exact ih74 _ _ hMh51 (Fr.tr (Fr.sub hFh12 rfl) hFh51 rfl) (by omega) (by omega) (by omega)
                      · skip
                        refine g_aload_n dX12_lent_89 rfl ?_
                        refine gR_X12_160 rfl dX12_lent_90 sh_98 (b := 147) (m_98_75 hMh51) ?_
                        refine g_sipush dX12_lent_93 (inR_c rfl) (by decide) ?_
                        refine g_iload_n dX12_lent_96 rfl (fun _ => ?_)
                        refine g_iconst dX12_lent_97 (inR_c rfl) ?_
                        refine g_iaddB dX12_lent_98 (by omega) (by omega) ?_
                        refine g_imulB dX12_lent_99 (by omega) (by omega) ?_
                        refine g_iload dX12_lent_100 rfl (fun _ => ?_)
                        refine g_iaddB dX12_lent_102 (by omega) (by omega) ?_
                        refine g_ialdB dX12_lent_103 sh_147 (by omega) (by omega) (m_147 hMh51 _) (fun v53 ev53 bv53 cv53 => ?_)
                        refine g_istore dX12_lent_104 (by decide) rfl ?_
                        refine g_iconst dX12_lent_106 (inR_c rfl) ?_
                        have c109 : ∀ (n : Nat) (y54 y55 : Int) , -2147483648 ≤ y54 → y54 ≤ 2147483647 → 0 ≤ y55 → y55 ≤ 8 → 8 - y55 < (n : Int) → G yX12_lent cX12_lent 8 (some .int) none Po (3, 180, 0, 0) 109 [some (pR 98), some (pI x1), some (pI x2), some (pI y11), some (pI y50), some (pI y54), some (pI y55), none] [] SH h51 0 0 := by
                          intro n
                          induction n with
                          | zero =>
                            intro y54 y55 by54 dy54 by55 dy55 hn
                            exfalso; omega
                          | succ n ih109 =>
                            intro y54 y55 by54 dy54 by55 dy55 hn
                            refine g_iload dX12_lent_109 rfl (fun _ => ?_)
                            refine g_aload_n dX12_lent_111 rfl ?_
                            refine gI_X12_179 rfl dX12_lent_112 sh_98 (m_98_3 hMh51) (fun v56 ev56 bv56 cv56 => ?_)
                            refine g_icmp_ge 170 dX12_lent_115 (by decide) (fun q57 => ?_) (fun q57 => ?_)
                            · skip
                              refine g_aload_n dX12_lent_170 rfl ?_
                              refine gR_X12_160 rfl dX12_lent_171 sh_98 (b := 147) (m_98_75 hMh51) ?_
                              refine g_sipush dX12_lent_174 (inR_c rfl) (by decide) ?_
                              refine g_iload_n dX12_lent_177 rfl (fun _ => ?_)
                              refine g_imulB dX12_lent_178 (by omega) (by omega) ?_
                              refine g_iload dX12_lent_179 rfl (fun _ => ?_)
                              refine g_iaddB dX12_lent_181 (by omega) (by omega) ?_
                              refine g_iload dX12_lent_182 rfl (fun _ => ?_)
                              refine g_iastB dX12_lent_184 sh_147 (by omega) (by omega) (fun h58 eh58 => ?_)
                              have hFh58 := Fr.ar eh58
                              have hMh58 := u_147 hMh51 eh58 (by omega) (by omega)
                              refine g_iincB dX12_lent_185 rfl rfl (by omega) (by omega) ?_
                              refine g_goto 81 dX12_lent_188 (by decide) ?_
                              refine g_drop 5 ?_
                              refine g_drop 6 ?_
                              exact ih81 _ _ hMh58 (Fr.tr (Fr.sub hFh51 rfl) hFh58 rfl) (by omega) (by omega) (by omega)
                            · skip
                              refine g_iload dX12_lent_118 rfl (fun _ => ?_)
                              refine g_iload dX12_lent_120 rfl (fun _ => ?_)
                              refine g_cSP (av := [_, _]) (c_X12_has _ _ h51 hMh51 (by omega) (by omega) (by omega) (by omega)) dX12_lent_122 mi_X12_has st_X12_has ml_X12_362 rfl rfl rfl rfl (Nat.le_of_ble_eq_true rfl) (fun v59 q60 => ?_)
                              obtain ⟨bv59, cv59, zv59⟩ := q60
                              refine g_if_ne 164 dX12_lent_125 (by decide) (fun q61 => ?_) (fun q61 => ?_)
                              · skip
                                refine g_iincB dX12_lent_164 rfl rfl (by omega) (by omega) ?_
                                refine g_goto 109 dX12_lent_167 (by decide) ?_
                                exact ih109 _ _ (by omega) (by omega) (by omega) (by omega) (by omega)
                              · skip
                                refine g_aload_n dX12_lent_128 rfl ?_
                                refine g_iload_n dX12_lent_129 rfl (fun _ => ?_)
                                refine g_iload dX12_lent_130 rfl (fun _ => ?_)
                                refine g_iload_n dX12_lent_132 rfl (fun _ => ?_)
                                refine g_cVP (as := [_, _, _]) (c_X12_canLend_98 _ _ _ h51 hMh51 (by omega) (by omega) (by omega) (by omega) (by omega) (by omega)) dX12_lent_133 mi_X12_canLend in_X12_canLend se_X12_canLend ml_X12_470 rfl rfl rfl sh_98 rfl rfl (Nat.le_of_ble_eq_true rfl) (fun v62 q63 => ?_)
                                obtain ⟨bv62, cv62⟩ := q63
                                refine g_if_eq 164 dX12_lent_136 (by decide) (fun q64 => ?_) (fun q64 => ?_)
                                · skip
                                  refine g_iincB dX12_lent_164 rfl rfl (by omega) (by omega) ?_
                                  refine g_goto 109 dX12_lent_167 (by decide) ?_
                                  exact ih109 _ _ (by omega) (by omega) (by omega) (by omega) (by omega)
                                · skip
                                  refine g_aload_n dX12_lent_139 rfl ?_
                                  refine g_iload_n dX12_lent_140 rfl (fun _ => ?_)
                                  refine g_iload dX12_lent_141 rfl (fun _ => ?_)
                                  refine g_iload dX12_lent_143 rfl (fun _ => ?_)
                                  refine g_cVP (as := [_, _, _]) (c_X12_lentWith_98 _ _ _ h51 hMh51 (by omega) (by omega) (by omega) (by omega) (by omega) (by omega)) dX12_lent_145 mi_X12_lentWith in_X12_lentWith se_X12_lentWith ml_X12_474 rfl rfl rfl sh_98 rfl rfl (Nat.le_of_ble_eq_true rfl) (fun v65 q66 => ?_)
                                  obtain ⟨bv65, cv65⟩ := q66
                                  refine g_iload dX12_lent_148 rfl (fun _ => ?_)
                                  refine g_icmp_le 164 dX12_lent_150 (by decide) (fun q67 => ?_) (fun q67 => ?_)
                                  · skip
                                    refine g_iincB dX12_lent_164 rfl rfl (by omega) (by omega) ?_
                                    refine g_goto 109 dX12_lent_167 (by decide) ?_
                                    exact ih109 _ _ (by omega) (by omega) (by omega) (by omega) (by omega)
                                  · skip
                                    refine g_aload_n dX12_lent_153 rfl ?_
                                    refine g_iload_n dX12_lent_154 rfl (fun _ => ?_)
                                    refine g_iload dX12_lent_155 rfl (fun _ => ?_)
                                    refine g_iload dX12_lent_157 rfl (fun _ => ?_)
                                    refine g_cVP (as := [_, _, _]) (c_X12_lentWith_98 _ _ _ h51 hMh51 (by omega) (by omega) (by omega) (by omega) (by omega) (by omega)) dX12_lent_159 mi_X12_lentWith in_X12_lentWith se_X12_lentWith ml_X12_474 rfl rfl rfl sh_98 rfl rfl (Nat.le_of_ble_eq_true rfl) (fun v68 q69 => ?_)
                                    obtain ⟨bv68, cv68⟩ := q69
                                    refine g_istore dX12_lent_162 (by decide) rfl ?_
                                    refine g_iincB dX12_lent_164 rfl rfl (by omega) (by omega) ?_
                                    refine g_goto 109 dX12_lent_167 (by decide) ?_
                                    exact ih109 _ _ (by omega) (by omega) (by omega) (by omega) (by omega)
                        refine g_istore dX12_lent_107 (by decide) rfl ?_
                        exact c109 9 _ _ (by omega) (by omega) (by omega) (by omega) (by omega)
                  refine g_istore dX12_lent_79 (by decide) rfl ?_
                  exact c81 257 _ _ hMh12 Fr.rf (by omega) (by omega) (by omega)
            refine g_istore_n dX12_lent_73 (by decide) rfl ?_
            exact c74 9 _ _ hMh8 Fr.rf (by omega) (by omega) (by omega)
          · skip
            refine g_aload_n dX12_lent_45 rfl ?_
            refine gR_X12_160 rfl dX12_lent_46 sh_98 (b := 147) (m_98_75 hMh8) ?_
            refine g_sipush dX12_lent_49 (inR_c rfl) (by decide) ?_
            refine g_aload_n dX12_lent_52 rfl ?_
            refine gI_X12_182 rfl dX12_lent_53 sh_98 (m_98_4 hMh8) (fun v70 ev70 bv70 cv70 => ?_)
            refine g_imulB dX12_lent_56 (by omega) (by omega) ?_
            refine g_iload_n dX12_lent_57 rfl (fun _ => ?_)
            refine g_iaddB dX12_lent_58 (by omega) (by omega) ?_
            refine g_iconst dX12_lent_59 (inR_c rfl) ?_
            refine g_iastB dX12_lent_60 sh_147 (by omega) (by omega) (fun h71 eh71 => ?_)
            have hFh71 := Fr.ar eh71
            have hMh71 := u_147 hMh8 eh71 (by omega) (by omega)
            refine g_iincB dX12_lent_61 rfl rfl (by omega) (by omega) ?_
            refine g_goto 38 dX12_lent_64 (by decide) ?_
            exact ih38 _ _ hMh71 (Fr.tr (Fr.sub hFh8 rfl) hFh71 rfl) (by omega) (by omega) (by omega)
      refine g_istore_n dX12_lent_37 (by decide) rfl ?_
      exact c38 257 _ _ hM Fr.rf (by omega) (by omega) (by omega)
    · skip
      refine g_if_ne 36 dX12_lent_23 (by decide) (fun _ => by exfalso; omega) (fun q72 => ?_)
      refine g_aload_n dX12_lent_26 rfl ?_
      refine g_iload_n dX12_lent_27 rfl (fun _ => ?_)
      refine g_cVP (as := [_]) (c_X12_isMaster_98 _ h hM (by omega) (by omega)) dX12_lent_28 mi_X12_isMaster in_X12_isMaster se_X12_isMaster ml_X12_201 rfl rfl rfl sh_98 rfl rfl (Nat.le_of_ble_eq_true rfl) (fun v73 q74 => ?_)
      obtain ⟨v75, ev75⟩ : ∃ z, z = h 98 4 := ⟨_, rfl⟩
      have bv75 : 0 ≤ v75 ∧ v75 ≤ 8 := by rw [ev75]; exact (m_98_4 hM)
      rcases q74 with ⟨rfl, q74⟩ | ⟨rfl, q74⟩
      · skip
        refine g_if_ne 36 dX12_lent_31 (by decide) (fun q76 => ?_) (fun _ => by exfalso; omega)
        refine g_iconst dX12_lent_36 (inR_c rfl) ?_
        have c38 : ∀ (n : Nat) (y77 : Int) (h78 : MEM), MBm h78 → Fr [(147, 0)] h h78 → 0 ≤ y77 → y77 ≤ 256 → 256 - y77 < (n : Int) → G yX12_lent cX12_lent 8 (some .int) none Po (3, 180, 0, 0) 38 [some (pR 98), some (pI x1), some (pI x2), some (pI y77), none, none, none, none] [] SH h78 0 0 := by
          intro n
          induction n with
          | zero =>
            intro y77 h78 hMh78 hFh78 by77 dy77 hn
            exfalso; omega
          | succ n ih38 =>
            intro y77 h78 hMh78 hFh78 by77 dy77 hn
            refine g_iload_n dX12_lent_38 rfl (fun _ => ?_)
            refine g_sipush dX12_lent_39 (inR_c rfl) (by decide) ?_
            refine g_icmp_ge 67 dX12_lent_42 (by decide) (fun q79 => ?_) (fun q79 => ?_)
            · skip
              refine g_aload_n dX12_lent_67 rfl ?_
              refine gE_X12_182 rfl dX12_lent_68 sh_98 ((hFh78 98 4 rfl).trans ev75.symm) ?_
              refine g_iconst dX12_lent_71 (inR_c rfl) ?_
              refine g_isubB dX12_lent_72 (by omega) (by omega) ?_
              have c74 : ∀ (n : Nat) (y80 : Int) (h81 : MEM), MBm h81 → Fr [(147, 0)] h78 h81 → -1 ≤ y80 → y80 ≤ 7 → y80 - (-1) < (n : Int) → G yX12_lent cX12_lent 8 (some .int) none Po (3, 180, 0, 0) 74 [some (pR 98), some (pI x1), some (pI x2), some (pI y80), none, none, none, none] [] SH h81 0 0 := by
                intro n
                induction n with
                | zero =>
                  intro y80 h81 hMh81 hFh81 by80 dy80 hn
                  exfalso; omega
                | succ n ih74 =>
                  intro y80 h81 hMh81 hFh81 by80 dy80 hn
                  refine g_iload_n dX12_lent_74 rfl (fun _ => ?_)
                  refine g_if_lt 197 dX12_lent_75 (by decide) (fun q82 => ?_) (fun q82 => ?_)
                  · skip
                    refine g_iload_n dX12_lent_197 rfl (fun _ => ?_)
                    refine g_bipush dX12_lent_198 (inR_c rfl) (by decide) ?_
                    refine g_icmp_ne 210 dX12_lent_200 (by decide) (fun q83 => ?_) (fun _ => by exfalso; omega)
                    refine g_iconst dX12_lent_210 (inR_c rfl) ?_
                    refine g_istore_n dX12_lent_211 (by decide) rfl ?_
                    refine g_iconst dX12_lent_212 (inR_c rfl) ?_
                    refine g_istore dX12_lent_213 (by decide) rfl ?_
                    refine g_iconst dX12_lent_215 (inR_c rfl) ?_
                    have c218 : ∀ (n : Nat) (y84 y85 y86 : Int) , 0 ≤ y84 → y84 ≤ 255 → 0 ≤ y85 → y85 ≤ 8 → 0 ≤ y86 → y86 ≤ 8 → 8 - y86 < (n : Int) → G yX12_lent cX12_lent 8 (some .int) none Po (3, 180, 0, 0) 218 [some (pR 98), some (pI x1), some (pI x2), some (pI y84), some (pI y85), some (pI y86), none, none] [] SH h81 0 0 := by
                      intro n
                      induction n with
                      | zero =>
                        intro y84 y85 y86 by84 dy84 by85 dy85 by86 dy86 hn
                        exfalso; omega
                      | succ n ih218 =>
                        intro y84 y85 y86 by84 dy84 by85 dy85 by86 dy86 hn
                        refine g_iload dX12_lent_218 rfl (fun _ => ?_)
                        refine g_aload_n dX12_lent_220 rfl ?_
                        refine gE_X12_182 rfl dX12_lent_221 sh_98 ((hFh81 98 4 rfl).trans ((hFh78 98 4 rfl).trans ev75.symm)) ?_
                        refine g_icmp_ge 334 dX12_lent_224 (by decide) (fun q87 => ?_) (fun q87 => ?_)
                        · skip
                          refine g_iload_n dX12_lent_334 rfl (fun _ => ?_)
                          refine g_bipush dX12_lent_335 (inR_c rfl) (by decide) ?_
                          refine g_icmp_eq 343 dX12_lent_337 (by decide) (fun _ => by exfalso; omega) (fun q88 => ?_)
                          refine g_iload dX12_lent_340 rfl (fun _ => ?_)
                          exact g_ireturn dX12_lent_342 retI (hPo _ _ ⟨hMh81, (Fr.tr (Fr.sub hFh78 rfl) hFh81 rfl), (by omega), (by omega)⟩)
                        · skip
                          refine g_bipush dX12_lent_227 (inR_c rfl) (by decide) ?_
                          refine g_istore dX12_lent_229 (by decide) rfl ?_
                          refine g_aload_n dX12_lent_231 rfl ?_
                          refine gI_X12_179 rfl dX12_lent_232 sh_98 (m_98_3 hMh81) (fun v89 ev89 bv89 cv89 => ?_)
                          refine g_iconst dX12_lent_235 (inR_c rfl) ?_
                          refine g_isubB dX12_lent_236 (by omega) (by omega) ?_
                          have c239 : ∀ (n : Nat) (y90 y91 : Int) , 0 ≤ y90 → y90 ≤ 8 → -1 ≤ y91 → y91 ≤ 7 → y91 - (-1) < (n : Int) → G yX12_lent cX12_lent 8 (some .int) none Po (3, 180, 0, 0) 239 [some (pR 98), some (pI x1), some (pI x2), some (pI y84), some (pI y85), some (pI y86), some (pI y90), some (pI y91)] [] SH h81 0 0 := by
                            intro n
                            induction n with
                            | zero =>
                              intro y90 y91 by90 dy90 by91 dy91 hn
                              exfalso; omega
                            | succ n ih239 =>
                              intro y90 y91 by90 dy90 by91 dy91 hn
                              refine g_iload dX12_lent_239 rfl (fun _ => ?_)
                              refine g_if_lt 300 dX12_lent_241 (by decide) (fun q92 => ?_) (fun q92 => ?_)
                              · skip
                                refine g_iload dX12_lent_300 rfl (fun _ => ?_)
                                refine g_iload_n dX12_lent_302 rfl (fun _ => ?_)
                                refine g_icmp_ne 310 dX12_lent_303 (by decide) (fun q93 => ?_) (fun q93 => ?_)
                                · skip
                                  refine g_iload_n dX12_lent_310 rfl (fun _ => ?_)
                                  refine g_iload dX12_lent_311 rfl (fun _ => ?_)
                                  refine g_bipush dX12_lent_313 (inR_c rfl) (by decide) ?_
                                  refine g_icmp_ge 325 dX12_lent_315 (by decide) (fun q94 => ?_) (fun q94 => ?_)
                                  · skip
                                    refine g_iconst dX12_lent_325 (inR_c rfl) ?_
                                    refine g_iorX (lo := 0) (hi := 255) dX12_lent_326 (ior_b 8 (by decide) (by omega) (by omega) (by omega) (by omega)) (fun v95 ev95 bv95 cv95 => ?_)
                                    refine g_istore_n dX12_lent_327 (by decide) rfl ?_
                                    refine g_iincB dX12_lent_328 rfl rfl (by omega) (by omega) ?_
                                    refine g_goto 218 dX12_lent_331 (by decide) ?_
                                    refine g_drop 6 ?_
                                    refine g_drop 7 ?_
                                    exact ih218 _ _ _ (by omega) (by omega) (by omega) (by omega) (by omega) (by omega) (by omega)
                                  · skip
                                    refine g_iconst dX12_lent_318 (inR_c rfl) ?_
                                    refine g_iload dX12_lent_319 rfl (fun _ => ?_)
                                    refine g_ishlX (lo := 1) (hi := 128) dX12_lent_321 (ishl1_b 7 (by decide) (by omega) (by omega)) (fun v96 ev96 bv96 cv96 => ?_)
                                    refine g_goto 326 dX12_lent_322 (by decide) ?_
                                    refine g_iorX (lo := 0) (hi := 255) dX12_lent_326 (ior_b 8 (by decide) (by omega) (by omega) (by omega) (by omega)) (fun v97 ev97 bv97 cv97 => ?_)
                                    refine g_istore_n dX12_lent_327 (by decide) rfl ?_
                                    refine g_iincB dX12_lent_328 rfl rfl (by omega) (by omega) ?_
                                    refine g_goto 218 dX12_lent_331 (by decide) ?_
                                    refine g_drop 6 ?_
                                    refine g_drop 7 ?_
                                    exact ih218 _ _ _ (by omega) (by omega) (by omega) (by omega) (by omega) (by omega) (by omega)
                                · skip
                                  refine g_iload dX12_lent_306 rfl (fun _ => ?_)
                                  refine g_istore dX12_lent_308 (by decide) rfl ?_
                                  refine g_iload_n dX12_lent_310 rfl (fun _ => ?_)
                                  refine g_iload dX12_lent_311 rfl (fun _ => ?_)
                                  refine g_bipush dX12_lent_313 (inR_c rfl) (by decide) ?_
                                  refine g_icmp_ge 325 dX12_lent_315 (by decide) (fun q98 => ?_) (fun q98 => ?_)
                                  · skip
                                    refine g_iconst dX12_lent_325 (inR_c rfl) ?_
                                    refine g_iorX (lo := 0) (hi := 255) dX12_lent_326 (ior_b 8 (by decide) (by omega) (by omega) (by omega) (by omega)) (fun v99 ev99 bv99 cv99 => ?_)
                                    refine g_istore_n dX12_lent_327 (by decide) rfl ?_
                                    refine g_iincB dX12_lent_328 rfl rfl (by omega) (by omega) ?_
                                    refine g_goto 218 dX12_lent_331 (by decide) ?_
                                    refine g_drop 6 ?_
                                    refine g_drop 7 ?_
                                    exact ih218 _ _ _ (by omega) (by omega) (by omega) (by omega) (by omega) (by omega) (by omega)
                                  · skip
                                    refine g_iconst dX12_lent_318 (inR_c rfl) ?_
                                    refine g_iload dX12_lent_319 rfl (fun _ => ?_)
                                    refine g_ishlX (lo := 1) (hi := 128) dX12_lent_321 (ishl1_b 7 (by decide) (by omega) (by omega)) (fun v100 ev100 bv100 cv100 => ?_)
                                    refine g_goto 326 dX12_lent_322 (by decide) ?_
                                    refine g_iorX (lo := 0) (hi := 255) dX12_lent_326 (ior_b 8 (by decide) (by omega) (by omega) (by omega) (by omega)) (fun v101 ev101 bv101 cv101 => ?_)
                                    refine g_istore_n dX12_lent_327 (by decide) rfl ?_
                                    refine g_iincB dX12_lent_328 rfl rfl (by omega) (by omega) ?_
                                    refine g_goto 218 dX12_lent_331 (by decide) ?_
                                    refine g_drop 6 ?_
                                    refine g_drop 7 ?_
                                    exact ih218 _ _ _ (by omega) (by omega) (by omega) (by omega) (by omega) (by omega) (by omega)
                              · skip
                                refine g_iload_n dX12_lent_244 rfl (fun _ => ?_)
                                refine g_iload dX12_lent_245 rfl (fun _ => ?_)
                                refine g_cSP (av := [_, _]) (c_X12_has _ _ h81 hMh81 (by omega) (by omega) (by omega) (by omega)) dX12_lent_247 mi_X12_has st_X12_has ml_X12_362 rfl rfl rfl rfl (Nat.le_of_ble_eq_true rfl) (fun v102 q103 => ?_)
                                obtain ⟨bv102, cv102, zv102⟩ := q103
                                refine g_if_ne 294 dX12_lent_250 (by decide) (fun q104 => ?_) (fun q104 => ?_)
                                · skip
                                  refine g_iincB dX12_lent_294 rfl rfl (by omega) (by omega) ?_
                                  refine g_goto 239 dX12_lent_297 (by decide) ?_
                                  exact ih239 _ _ (by omega) (by omega) (by omega) (by omega) (by omega)
                                · skip
                                  refine g_aload_n dX12_lent_253 rfl ?_
                                  refine g_iload dX12_lent_254 rfl (fun _ => ?_)
                                  refine g_iload dX12_lent_256 rfl (fun _ => ?_)
                                  refine g_iload_n dX12_lent_258 rfl (fun _ => ?_)
                                  refine g_cVP (as := [_, _, _]) (c_X12_canLend_98 _ _ _ h81 hMh81 (by omega) (by omega) (by omega) (by omega) (by omega) (by omega)) dX12_lent_259 mi_X12_canLend in_X12_canLend se_X12_canLend ml_X12_470 rfl rfl rfl sh_98 rfl rfl (Nat.le_of_ble_eq_true rfl) (fun v105 q106 => ?_)
                                  obtain ⟨bv105, cv105⟩ := q106
                                  refine g_if_eq 294 dX12_lent_262 (by decide) (fun q107 => ?_) (fun q107 => ?_)
                                  · skip
                                    refine g_iincB dX12_lent_294 rfl rfl (by omega) (by omega) ?_
                                    refine g_goto 239 dX12_lent_297 (by decide) ?_
                                    exact ih239 _ _ (by omega) (by omega) (by omega) (by omega) (by omega)
                                  · skip
                                    refine g_aload_n dX12_lent_265 rfl ?_
                                    refine g_iload dX12_lent_266 rfl (fun _ => ?_)
                                    refine g_iload dX12_lent_268 rfl (fun _ => ?_)
                                    refine g_iload_n dX12_lent_270 rfl (fun _ => ?_)
                                    refine g_cVP (as := [_, _, _]) (c_X12_lentWith_98 _ _ _ h81 hMh81 (by omega) (by omega) (by omega) (by omega) (by omega) (by omega)) dX12_lent_271 mi_X12_lentWith in_X12_lentWith se_X12_lentWith ml_X12_474 rfl rfl rfl sh_98 rfl rfl (Nat.le_of_ble_eq_true rfl) (fun v108 q109 => ?_)
                                    obtain ⟨bv108, cv108⟩ := q109
                                    refine g_aload_n dX12_lent_274 rfl ?_
                                    refine gR_X12_160 rfl dX12_lent_275 sh_98 (b := 147) (m_98_75 hMh81) ?_
                                    refine g_sipush dX12_lent_278 (inR_c rfl) (by decide) ?_
                                    refine g_iload dX12_lent_281 rfl (fun _ => ?_)
                                    refine g_imulB dX12_lent_283 (by omega) (by omega) ?_
                                    refine g_iload_n dX12_lent_284 rfl (fun _ => ?_)
                                    refine g_iaddB dX12_lent_285 (by omega) (by omega) ?_
                                    refine g_ialdB dX12_lent_286 sh_147 (by omega) (by omega) (m_147 hMh81 _) (fun v110 ev110 bv110 cv110 => ?_)
                                    refine g_icmp_ne 294 dX12_lent_287 (by decide) (fun q111 => ?_) (fun q111 => ?_)
                                    · skip
                                      refine g_iincB dX12_lent_294 rfl rfl (by omega) (by omega) ?_
                                      refine g_goto 239 dX12_lent_297 (by decide) ?_
                                      exact ih239 _ _ (by omega) (by omega) (by omega) (by omega) (by omega)
                                    · skip
                                      refine g_iload dX12_lent_290 rfl (fun _ => ?_)
                                      refine g_istore dX12_lent_292 (by decide) rfl ?_
                                      refine g_iincB dX12_lent_294 rfl rfl (by omega) (by omega) ?_
                                      refine g_goto 239 dX12_lent_297 (by decide) ?_
                                      exact ih239 _ _ (by omega) (by omega) (by omega) (by omega) (by omega)
                          refine g_istore dX12_lent_237 (by decide) rfl ?_
                          exact c239 9 _ _ (by omega) (by omega) (by omega) (by omega) (by omega)
                    refine g_istore dX12_lent_216 (by decide) rfl ?_
                    exact c218 9 _ _ _ (by omega) (by omega) (by omega) (by omega) (by omega) (by omega) (by omega)
                  · skip
                    refine g_iconst dX12_lent_78 (inR_c rfl) ?_
                    have c81 : ∀ (n : Nat) (y112 : Int) (h113 : MEM), MBm h113 → Fr [(147, 0)] h81 h113 → 0 ≤ y112 → y112 ≤ 256 → 256 - y112 < (n : Int) → G yX12_lent cX12_lent 8 (some .int) none Po (3, 180, 0, 0) 81 [some (pR 98), some (pI x1), some (pI x2), some (pI y80), some (pI y112), none, none, none] [] SH h113 0 0 := by
                      intro n
                      induction n with
                      | zero =>
                        intro y112 h113 hMh113 hFh113 by112 dy112 hn
                        exfalso; omega
                      | succ n ih81 =>
                        intro y112 h113 hMh113 hFh113 by112 dy112 hn
                        refine g_iload dX12_lent_81 rfl (fun _ => ?_)
                        refine g_sipush dX12_lent_83 (inR_c rfl) (by decide) ?_
                        refine g_icmp_ge 191 dX12_lent_86 (by decide) (fun q114 => ?_) (fun q114 => ?_)
                        · skip
                          refine g_iincB dX12_lent_191 rfl rfl (by omega) (by omega) ?_
                          refine g_goto 74 dX12_lent_194 (by decide) ?_
                          refine g_drop 4 ?_
                          exact ih74 _ _ hMh113 (Fr.tr (Fr.sub hFh81 rfl) hFh113 rfl) (by omega) (by omega) (by omega)
                        · skip
                          refine g_aload_n dX12_lent_89 rfl ?_
                          refine gR_X12_160 rfl dX12_lent_90 sh_98 (b := 147) (m_98_75 hMh113) ?_
                          refine g_sipush dX12_lent_93 (inR_c rfl) (by decide) ?_
                          refine g_iload_n dX12_lent_96 rfl (fun _ => ?_)
                          refine g_iconst dX12_lent_97 (inR_c rfl) ?_
                          refine g_iaddB dX12_lent_98 (by omega) (by omega) ?_
                          refine g_imulB dX12_lent_99 (by omega) (by omega) ?_
                          refine g_iload dX12_lent_100 rfl (fun _ => ?_)
                          refine g_iaddB dX12_lent_102 (by omega) (by omega) ?_
                          refine g_ialdB dX12_lent_103 sh_147 (by omega) (by omega) (m_147 hMh113 _) (fun v115 ev115 bv115 cv115 => ?_)
                          refine g_istore dX12_lent_104 (by decide) rfl ?_
                          refine g_iconst dX12_lent_106 (inR_c rfl) ?_
                          have c109 : ∀ (n : Nat) (y116 y117 : Int) , -2147483648 ≤ y116 → y116 ≤ 2147483647 → 0 ≤ y117 → y117 ≤ 8 → 8 - y117 < (n : Int) → G yX12_lent cX12_lent 8 (some .int) none Po (3, 180, 0, 0) 109 [some (pR 98), some (pI x1), some (pI x2), some (pI y80), some (pI y112), some (pI y116), some (pI y117), none] [] SH h113 0 0 := by
                            intro n
                            induction n with
                            | zero =>
                              intro y116 y117 by116 dy116 by117 dy117 hn
                              exfalso; omega
                            | succ n ih109 =>
                              intro y116 y117 by116 dy116 by117 dy117 hn
                              refine g_iload dX12_lent_109 rfl (fun _ => ?_)
                              refine g_aload_n dX12_lent_111 rfl ?_
                              refine gI_X12_179 rfl dX12_lent_112 sh_98 (m_98_3 hMh113) (fun v118 ev118 bv118 cv118 => ?_)
                              refine g_icmp_ge 170 dX12_lent_115 (by decide) (fun q119 => ?_) (fun q119 => ?_)
                              · skip
                                refine g_aload_n dX12_lent_170 rfl ?_
                                refine gR_X12_160 rfl dX12_lent_171 sh_98 (b := 147) (m_98_75 hMh113) ?_
                                refine g_sipush dX12_lent_174 (inR_c rfl) (by decide) ?_
                                refine g_iload_n dX12_lent_177 rfl (fun _ => ?_)
                                refine g_imulB dX12_lent_178 (by omega) (by omega) ?_
                                refine g_iload dX12_lent_179 rfl (fun _ => ?_)
                                refine g_iaddB dX12_lent_181 (by omega) (by omega) ?_
                                refine g_iload dX12_lent_182 rfl (fun _ => ?_)
                                refine g_iastB dX12_lent_184 sh_147 (by omega) (by omega) (fun h120 eh120 => ?_)
                                have hFh120 := Fr.ar eh120
                                have hMh120 := u_147 hMh113 eh120 (by omega) (by omega)
                                refine g_iincB dX12_lent_185 rfl rfl (by omega) (by omega) ?_
                                refine g_goto 81 dX12_lent_188 (by decide) ?_
                                refine g_drop 5 ?_
                                refine g_drop 6 ?_
                                exact ih81 _ _ hMh120 (Fr.tr (Fr.sub hFh113 rfl) hFh120 rfl) (by omega) (by omega) (by omega)
                              · skip
                                refine g_iload dX12_lent_118 rfl (fun _ => ?_)
                                refine g_iload dX12_lent_120 rfl (fun _ => ?_)
                                refine g_cSP (av := [_, _]) (c_X12_has _ _ h113 hMh113 (by omega) (by omega) (by omega) (by omega)) dX12_lent_122 mi_X12_has st_X12_has ml_X12_362 rfl rfl rfl rfl (Nat.le_of_ble_eq_true rfl) (fun v121 q122 => ?_)
                                obtain ⟨bv121, cv121, zv121⟩ := q122
                                refine g_if_ne 164 dX12_lent_125 (by decide) (fun q123 => ?_) (fun q123 => ?_)
                                · skip
                                  refine g_iincB dX12_lent_164 rfl rfl (by omega) (by omega) ?_
                                  refine g_goto 109 dX12_lent_167 (by decide) ?_
                                  exact ih109 _ _ (by omega) (by omega) (by omega) (by omega) (by omega)
                                · skip
                                  refine g_aload_n dX12_lent_128 rfl ?_
                                  refine g_iload_n dX12_lent_129 rfl (fun _ => ?_)
                                  refine g_iload dX12_lent_130 rfl (fun _ => ?_)
                                  refine g_iload_n dX12_lent_132 rfl (fun _ => ?_)
                                  refine g_cVP (as := [_, _, _]) (c_X12_canLend_98 _ _ _ h113 hMh113 (by omega) (by omega) (by omega) (by omega) (by omega) (by omega)) dX12_lent_133 mi_X12_canLend in_X12_canLend se_X12_canLend ml_X12_470 rfl rfl rfl sh_98 rfl rfl (Nat.le_of_ble_eq_true rfl) (fun v124 q125 => ?_)
                                  obtain ⟨bv124, cv124⟩ := q125
                                  refine g_if_eq 164 dX12_lent_136 (by decide) (fun q126 => ?_) (fun q126 => ?_)
                                  · skip
                                    refine g_iincB dX12_lent_164 rfl rfl (by omega) (by omega) ?_
                                    refine g_goto 109 dX12_lent_167 (by decide) ?_
                                    exact ih109 _ _ (by omega) (by omega) (by omega) (by omega) (by omega)
                                  · skip
                                    refine g_aload_n dX12_lent_139 rfl ?_
                                    refine g_iload_n dX12_lent_140 rfl (fun _ => ?_)
                                    refine g_iload dX12_lent_141 rfl (fun _ => ?_)
                                    refine g_iload dX12_lent_143 rfl (fun _ => ?_)
                                    refine g_cVP (as := [_, _, _]) (c_X12_lentWith_98 _ _ _ h113 hMh113 (by omega) (by omega) (by omega) (by omega) (by omega) (by omega)) dX12_lent_145 mi_X12_lentWith in_X12_lentWith se_X12_lentWith ml_X12_474 rfl rfl rfl sh_98 rfl rfl (Nat.le_of_ble_eq_true rfl) (fun v127 q128 => ?_)
                                    obtain ⟨bv127, cv127⟩ := q128
                                    refine g_iload dX12_lent_148 rfl (fun _ => ?_)
                                    refine g_icmp_le 164 dX12_lent_150 (by decide) (fun q129 => ?_) (fun q129 => ?_)
                                    · skip
                                      refine g_iincB dX12_lent_164 rfl rfl (by omega) (by omega) ?_
                                      refine g_goto 109 dX12_lent_167 (by decide) ?_
                                      exact ih109 _ _ (by omega) (by omega) (by omega) (by omega) (by omega)
                                    · skip
                                      refine g_aload_n dX12_lent_153 rfl ?_
                                      refine g_iload_n dX12_lent_154 rfl (fun _ => ?_)
                                      refine g_iload dX12_lent_155 rfl (fun _ => ?_)
                                      refine g_iload dX12_lent_157 rfl (fun _ => ?_)
                                      refine g_cVP (as := [_, _, _]) (c_X12_lentWith_98 _ _ _ h113 hMh113 (by omega) (by omega) (by omega) (by omega) (by omega) (by omega)) dX12_lent_159 mi_X12_lentWith in_X12_lentWith se_X12_lentWith ml_X12_474 rfl rfl rfl sh_98 rfl rfl (Nat.le_of_ble_eq_true rfl) (fun v130 q131 => ?_)
                                      obtain ⟨bv130, cv130⟩ := q131
                                      refine g_istore dX12_lent_162 (by decide) rfl ?_
                                      refine g_iincB dX12_lent_164 rfl rfl (by omega) (by omega) ?_
                                      refine g_goto 109 dX12_lent_167 (by decide) ?_
                                      exact ih109 _ _ (by omega) (by omega) (by omega) (by omega) (by omega)
                          refine g_istore dX12_lent_107 (by decide) rfl ?_
                          exact c109 9 _ _ (by omega) (by omega) (by omega) (by omega) (by omega)
                    refine g_istore dX12_lent_79 (by decide) rfl ?_
                    exact c81 257 _ _ hMh81 Fr.rf (by omega) (by omega) (by omega)
              refine g_istore_n dX12_lent_73 (by decide) rfl ?_
              exact c74 9 _ _ hMh78 Fr.rf (by omega) (by omega) (by omega)
            · skip
              refine g_aload_n dX12_lent_45 rfl ?_
              refine gR_X12_160 rfl dX12_lent_46 sh_98 (b := 147) (m_98_75 hMh78) ?_
              refine g_sipush dX12_lent_49 (inR_c rfl) (by decide) ?_
              refine g_aload_n dX12_lent_52 rfl ?_
              refine gE_X12_182 rfl dX12_lent_53 sh_98 ((hFh78 98 4 rfl).trans ev75.symm) ?_
              refine g_imulB dX12_lent_56 (by omega) (by omega) ?_
              refine g_iload_n dX12_lent_57 rfl (fun _ => ?_)
              refine g_iaddB dX12_lent_58 (by omega) (by omega) ?_
              refine g_iconst dX12_lent_59 (inR_c rfl) ?_
              refine g_iastB dX12_lent_60 sh_147 (by omega) (by omega) (fun h132 eh132 => ?_)
              have hFh132 := Fr.ar eh132
              have hMh132 := u_147 hMh78 eh132 (by omega) (by omega)
              refine g_iincB dX12_lent_61 rfl rfl (by omega) (by omega) ?_
              refine g_goto 38 dX12_lent_64 (by decide) ?_
              exact ih38 _ _ hMh132 (Fr.tr (Fr.sub hFh78 rfl) hFh132 rfl) (by omega) (by omega) (by omega)
        refine g_istore_n dX12_lent_37 (by decide) rfl ?_
        exact c38 257 _ _ hM Fr.rf (by omega) (by omega) (by omega)
      · skip
        refine g_if_ne 36 dX12_lent_31 (by decide) (fun _ => by exfalso; omega) (fun q133 => ?_)
        refine g_iconst dX12_lent_34 (inR_c rfl) ?_
        exact g_ireturn dX12_lent_35 retI (hPo _ _ ⟨hM, Fr.rf, (by omega), (by omega)⟩)
  · skip
    refine g_if_eq 34 dX12_lent_9 (by decide) (fun q134 => ?_) (fun _ => by exfalso; omega)
    refine g_iconst dX12_lent_34 (inR_c rfl) ?_
    exact g_ireturn dX12_lent_35 retI (hPo _ _ ⟨hM, Fr.rf, (by omega), (by omega)⟩)
set_option maxRecDepth 100000 in
set_option maxHeartbeats 4000000 in
theorem c_X12_byteAt_98 (x1 : Int) (h : MEM) (hM : MBm h) (bx1 : 0 ≤ x1) (dx1 : x1 ≤ 7) : CP yX12_byteAt cX12_byteAt 2 (some .int) 1 [pR 98, pI x1] h (fun x => 0 ≤ x ∧ x ≤ 255) := by
  refine CP.of (L0 := [some (pR 98), some (pI x1)]) rfl (Nat.le_of_ble_eq_true rfl) rfl (fun Po hPo hav => ?_)
  refine g_aload_n dX12_byteAt_0 rfl ?_
  refine gR_X12_7 rfl dX12_byteAt_1 sh_98 (b := 99) (m_98_0 hM) ?_
  refine g_iload_n dX12_byteAt_4 rfl (fun _ => ?_)
  refine g_baldB dX12_byteAt_5 sh_99 (by omega) (by omega) (m_99 hM _) (fun v1 ev1 bv1 cv1 => ?_)
  refine g_sipush dX12_byteAt_6 (inR_c rfl) (by decide) ?_
  refine g_iandX (lo := 0) (hi := 255) dX12_byteAt_9 (iand_r (by omega) (by omega)) (fun v2 ev2 bv2 cv2 => ?_)
  exact g_ireturn dX12_byteAt_10 retI (hPo _ ⟨(by omega), (by omega)⟩)
set_option maxRecDepth 100000 in
set_option maxHeartbeats 4000000 in
theorem c_X12_isAsTold_98 (x1 : Int) (h : MEM) (hM : MBm h) (bx1 : 1 ≤ x1) (dx1 : x1 ≤ 6) (p0_0 : 0 ≤ h 98 5) (p0_1 : h 98 5 ≤ 999600) (f_WFL : WFL h) : CI yX12_isAsTold cX12_isAsTold 4 (some .boolean) 9 [pR 98, pI x1] h (fun x h' => MBm h' ∧ Fr [(98, 6), (98, 7), (98, 8), (98, 47), (98, 48), (98, 49), (98, 52), (101, 0), (105, 0), (107, 0), (111, 0), (112, 0), (113, 0), (128, 0), (129, 0)] h h' ∧ 0 ≤ x ∧ x ≤ 1) := by
  refine CI.of (L0 := [some (pR 98), some (pI x1), none, none]) rfl (Nat.le_of_ble_eq_true rfl) rfl (fun Po hPo hav => ?_)
  obtain ⟨w98_5, ew98_5⟩ : ∃ z, z = h 98 5 := ⟨_, rfl⟩
  refine g_iconst dX12_isAsTold_0 (inR_c rfl) ?_
  refine g_istore_n dX12_isAsTold_1 (by decide) rfl ?_
  refine g_aload_n dX12_isAsTold_2 rfl ?_
  refine g_iload_n dX12_isAsTold_3 rfl (fun _ => ?_)
  have q1 : h 98 5 = w98_5 := ew98_5.symm
  have q2 : h 98 5 = w98_5 := ew98_5.symm
  refine g_cVV (as := [_]) (c_X12_goesOn_98 _ h hM (by omega) (by omega) (by omega) (by omega) f_WFL) dX12_isAsTold_4 mi_X12_goesOn in_X12_goesOn se_X12_goesOn ml_X12_401 rfl rfl rfl sh_98 rfl rfl (Nat.le_of_ble_eq_true rfl) (fun h3 q4 => ?_)
  obtain ⟨hMh3, hFh3, z5⟩ := q4
  have kz5 : h3 98 5 = (w98_5 + x1) := by omega
  refine g_iconst dX12_isAsTold_7 (inR_c rfl) ?_
  have c9 : ∀ (n : Nat) (y6 y7 : Int) , 0 ≤ y6 → y6 ≤ 1 → 0 ≤ y7 → y7 ≤ 8 → 8 - y7 < (n : Int) → G yX12_isAsTold cX12_isAsTold 4 (some .boolean) none Po (9, 540, 0, 0) 9 [some (pR 98), none, some (pI y6), some (pI y7)] [] SH h3 0 0 := by
    intro n
    induction n with
    | zero =>
      intro y6 y7 by6 dy6 by7 dy7 hn
      exfalso; omega
    | succ n ih9 =>
      intro y6 y7 by6 dy6 by7 dy7 hn
      refine g_iload_n dX12_isAsTold_9 rfl (fun _ => ?_)
      refine g_aload_n dX12_isAsTold_10 rfl ?_
      refine gI_X12_182 rfl dX12_isAsTold_11 sh_98 (m_98_4 hMh3) (fun v8 ev8 bv8 cv8 => ?_)
      refine g_icmp_ge 54 dX12_isAsTold_14 (by decide) (fun q9 => ?_) (fun q9 => ?_)
      · skip
        refine g_iload_n dX12_isAsTold_54 rfl (fun _ => ?_)
        exact g_ireturn dX12_isAsTold_55 (retZ (by omega)) (hPo _ _ ⟨hMh3, (Fr.sub hFh3 rfl), (by omega), (by omega)⟩)
      · skip
        refine g_iload_n dX12_isAsTold_17 rfl (fun _ => ?_)
        refine g_if_eq 46 dX12_isAsTold_18 (by decide) (fun q10 => ?_) (fun q10 => ?_)
        · skip
          refine g_iconst dX12_isAsTold_46 (inR_c rfl) ?_
          refine g_istore_n dX12_isAsTold_47 (by decide) rfl ?_
          refine g_iincB dX12_isAsTold_48 rfl rfl (by omega) (by omega) ?_
          refine g_goto 9 dX12_isAsTold_51 (by decide) ?_
          exact ih9 _ _ (by omega) (by omega) (by omega) (by omega) (by omega)
        · skip
          refine g_aload_n dX12_isAsTold_21 rfl ?_
          refine gR_X12_52 rfl dX12_isAsTold_22 sh_98 (b := 111) (m_98_19 hMh3) ?_
          refine g_iload_n dX12_isAsTold_25 rfl (fun _ => ?_)
          refine g_ialdB dX12_isAsTold_26 sh_111 (by omega) (by omega) (m_111 hMh3 _) (fun v11 ev11 bv11 cv11 => ?_)
          refine g_aload_n dX12_isAsTold_27 rfl ?_
          refine gR_X12_142 rfl dX12_isAsTold_28 sh_98 (b := 141) (m_98_66 hMh3) ?_
          refine g_iload_n dX12_isAsTold_31 rfl (fun _ => ?_)
          refine g_ialdB dX12_isAsTold_32 sh_141 (by omega) (by omega) (m_141 hMh3 _) (fun v12 ev12 bv12 cv12 => ?_)
          refine g_isubF dX12_isAsTold_33 (fun v13 bv13 cv13 => ?_)
          refine g_aload_n dX12_isAsTold_34 rfl ?_
          refine g_iload_n dX12_isAsTold_35 rfl (fun _ => ?_)
          refine g_cVP (as := [_]) (c_X12_byteAt_98 _ h3 hMh3 (by omega) (by omega)) dX12_isAsTold_36 mi_X12_byteAt in_X12_byteAt se_X12_byteAt ml_X12_477 rfl rfl rfl sh_98 rfl rfl (Nat.le_of_ble_eq_true rfl) (fun v14 q15 => ?_)
          obtain ⟨bv14, cv14⟩ := q15
          refine g_icmp_ne 46 dX12_isAsTold_39 (by decide) (fun q16 => ?_) (fun q16 => ?_)
          · skip
            refine g_iconst dX12_isAsTold_46 (inR_c rfl) ?_
            refine g_istore_n dX12_isAsTold_47 (by decide) rfl ?_
            refine g_iincB dX12_isAsTold_48 rfl rfl (by omega) (by omega) ?_
            refine g_goto 9 dX12_isAsTold_51 (by decide) ?_
            exact ih9 _ _ (by omega) (by omega) (by omega) (by omega) (by omega)
          · skip
            refine g_iconst dX12_isAsTold_42 (inR_c rfl) ?_
            refine g_goto 47 dX12_isAsTold_43 (by decide) ?_
            refine g_istore_n dX12_isAsTold_47 (by decide) rfl ?_
            refine g_iincB dX12_isAsTold_48 rfl rfl (by omega) (by omega) ?_
            refine g_goto 9 dX12_isAsTold_51 (by decide) ?_
            exact ih9 _ _ (by omega) (by omega) (by omega) (by omega) (by omega)
  refine g_istore_n dX12_isAsTold_8 (by decide) rfl ?_
  refine g_drop 1 ?_
  exact c9 9 _ _ (by omega) (by omega) (by omega) (by omega) (by omega)
set_option maxRecDepth 100000 in
set_option maxHeartbeats 4000000 in
theorem c_X12_letGo_98 (x1 x2 x3 : Int) (gi gs : Nat → Int) (h : MEM) (hM : MBm h) (bx1 : -2147483648 ≤ x1) (dx1 : x1 ≤ 2147483647) (bx2 : -2147483648 ≤ x2) (dx2 : x2 ≤ 2147483647) (bx3 : -2147483648 ≤ x3) (dx3 : x3 ≤ 2147483647) (p0_0 : 0 ≤ h 98 5) (p0_1 : h 98 5 ≤ 999600) (f_WFL : WFL h) (f_IS : ISn gi h) (f_S1 : S1n gs h) : CI yX12_letGo cX12_letGo 9 (some .int) 10 [pR 98, pI x1, pI x2, pI x3] h (fun x h' => MBm h' ∧ Fr [(98, 2), (98, 3), (98, 4), (98, 5), (98, 6), (98, 7), (98, 8), (98, 47), (98, 48), (98, 49), (98, 52), (100, 0), (101, 0), (102, 0), (103, 0), (104, 0), (105, 0), (106, 0), (107, 0), (108, 0), (109, 0), (110, 0), (111, 0), (112, 0), (113, 0), (114, 0), (128, 0), (129, 0), (130, 0), (131, 0), (132, 0), (133, 0), (134, 0), (135, 0), (136, 0), (137, 0), (138, 0), (139, 0), (140, 0), (141, 0), (142, 0), (143, 0), (144, 0), (145, 1), (145, 2), (145, 3), (145, 4), (145, 5), (145, 6)] h h' ∧ -2147483648 ≤ x ∧ x ≤ 2147483647 ∧ ISn gi h' ∧ S1n gs h' ∧ h' 98 2 = h 98 2 ∧ h' 98 3 = h 98 3 ∧ h' 98 4 = h 98 4 ∧ h' 98 5 = h 98 5) := by
  refine CI.of (L0 := [some (pR 98), some (pI x1), some (pI x2), some (pI x3), none, none, none, none, none]) rfl (Nat.le_of_ble_eq_true rfl) rfl (fun Po hPo hav => ?_)
  obtain ⟨v1, ev1⟩ : ∃ z, z = h 98 2 := ⟨_, rfl⟩
  have bv1 : 0 ≤ v1 ∧ v1 ≤ 10 := by rw [ev1]; exact (m_98_2 hM)
  obtain ⟨v2, ev2⟩ : ∃ z, z = h 98 3 := ⟨_, rfl⟩
  have bv2 : 0 ≤ v2 ∧ v2 ≤ 8 := by rw [ev2]; exact (m_98_3 hM)
  obtain ⟨v3, ev3⟩ : ∃ z, z = h 98 4 := ⟨_, rfl⟩
  have bv3 : 0 ≤ v3 ∧ v3 ≤ 8 := by rw [ev3]; exact (m_98_4 hM)
  obtain ⟨v4, ev4⟩ : ∃ z, z = h 98 5 := ⟨_, rfl⟩
  have bv4 : 0 ≤ v4 ∧ v4 ≤ 2000000000 := by rw [ev4]; exact (m_98_5 hM)
  obtain ⟨w98_5, ew98_5⟩ : ∃ z, z = h 98 5 := ⟨_, rfl⟩
  have q5 : h 98 2 = v1 := ev1.symm
  have q6 : h 98 3 = v2 := ev2.symm
  have q7 : h 98 4 = v3 := ev3.symm
  have q8 : h 98 5 = w98_5 := ew98_5.symm
  refine g_aload_n dX12_letGo_0 rfl ?_
  refine g_iload_n dX12_letGo_1 rfl (fun _ => ?_)
  refine g_cVP (as := [_]) (c_X12_isApprentice_98 _ h hM (by omega) (by omega)) dX12_letGo_2 mi_X12_isApprentice in_X12_isApprentice se_X12_isApprentice ml_X12_195 rfl rfl rfl sh_98 rfl rfl (Nat.le_of_ble_eq_true rfl) (fun v9 q10 => ?_)
  have q11 : h 98 3 = v2 := ev2.symm
  rcases q10 with ⟨rfl, q10⟩ | ⟨rfl, q10⟩
  · skip
    refine g_if_eq 50 dX12_letGo_5 (by decide) (fun _ => by exfalso; omega) (fun q12 => ?_)
    refine g_iload_n dX12_letGo_8 rfl (fun _ => ?_)
    refine g_i2l dX12_letGo_9 ?_
    refine g_lconst (v := 1) dX12_letGo_10 rfl ?_
    refine g_ldc2 (v := 6) dX12_letGo_11 kl_X12_480 (by decide) ?_
    refine g_cSP (av := [_, _, _]) (c_X12_lies _ _ _ h hM (by omega) (by omega) (by omega) (by omega) (by omega) (by omega)) dX12_letGo_14 mi_X12_lies st_X12_lies ml_X12_175 rfl rfl rfl rfl (Nat.le_of_ble_eq_true rfl) (fun v13 q14 => ?_)
    rcases q14 with ⟨rfl, q14⟩ | ⟨rfl, q14⟩
    · skip
      refine g_if_eq 50 dX12_letGo_17 (by decide) (fun _ => by exfalso; omega) (fun q15 => ?_)
      refine g_iload_n dX12_letGo_20 rfl (fun _ => ?_)
      refine g_i2l dX12_letGo_21 ?_
      refine g_ldc2 (v := -1) dX12_letGo_22 kl_X12_482 (by decide) ?_
      refine g_lconst (v := 1) dX12_letGo_25 rfl ?_
      refine g_cSP (av := [_, _, _]) (c_X12_lies _ _ _ h hM (by omega) (by omega) (by omega) (by omega) (by omega) (by omega)) dX12_letGo_26 mi_X12_lies st_X12_lies ml_X12_175 rfl rfl rfl rfl (Nat.le_of_ble_eq_true rfl) (fun v16 q17 => ?_)
      rcases q17 with ⟨rfl, q17⟩ | ⟨rfl, q17⟩
      · skip
        refine g_if_eq 50 dX12_letGo_29 (by decide) (fun _ => by exfalso; omega) (fun q18 => ?_)
        refine g_aload_n dX12_letGo_32 rfl ?_
        refine gE_X12_182 rfl dX12_letGo_33 sh_98 ev3.symm ?_
        refine g_if_eq 50 dX12_letGo_36 (by decide) (fun q19 => ?_) (fun q19 => ?_)
        · skip
          refine g_iconst dX12_letGo_50 (inR_c rfl) ?_
          have q20 : h 98 2 = v1 := ev1.symm
          have q21 : h 98 3 = v2 := ev2.symm
          have q22 : h 98 4 = v3 := ev3.symm
          have q23 : h 98 5 = w98_5 := ew98_5.symm
          exact g_ireturn dX12_letGo_51 retI (hPo _ _ ⟨hM, Fr.rf, (by omega), (by omega), f_IS, f_S1, (by omega), (by omega), (by omega), (by omega)⟩)
        · skip
          refine g_aload_n dX12_letGo_39 rfl ?_
          refine gE_X12_182 rfl dX12_letGo_40 sh_98 ev3.symm ?_
          refine g_aload_n dX12_letGo_43 rfl ?_
          refine gI_X12_204 rfl dX12_letGo_44 sh_98 (m_98_1 hM) (fun v24 ev24 bv24 cv24 => ?_)
          refine g_icmp_le 52 dX12_letGo_47 (by decide) (fun q25 => ?_) (fun q25 => ?_)
          · skip
            refine g_aload_n dX12_letGo_52 rfl ?_
            refine g_iconst dX12_letGo_53 (inR_c rfl) ?_
            refine pI_X12_204 rfl dX12_letGo_54 sh_98 (fun h26 eh26 => ?_)
            have hFh26 := Fr.st eh26
            have hMh26 := u_98_1 hM eh26 (by omega) (by omega)
            refine g_iconst dX12_letGo_57 (inR_c rfl) ?_
            refine g_istore dX12_letGo_58 (by decide) rfl ?_
            refine g_bipush dX12_letGo_60 (inR_c rfl) (by decide) ?_
            refine g_istore dX12_letGo_62 (by decide) rfl ?_
            refine g_iconst dX12_letGo_64 (inR_c rfl) ?_
            have c67 : ∀ (n : Nat) (y27 y28 y29 : Int) (h30 : MEM), MBm h30 → Fr [(98, 3), (98, 4), (98, 5), (98, 6), (98, 7), (98, 8), (98, 47), (98, 48), (98, 49), (98, 52), (100, 0), (101, 0), (102, 0), (103, 0), (104, 0), (105, 0), (106, 0), (107, 0), (108, 0), (109, 0), (110, 0), (111, 0), (112, 0), (113, 0), (114, 0), (128, 0), (129, 0), (130, 0), (131, 0), (132, 0), (133, 0), (134, 0), (135, 0), (136, 0), (137, 0), (138, 0), (139, 0), (140, 0), (141, 0), (142, 0), (143, 0), (144, 0), (145, 1), (145, 2), (145, 3), (145, 4), (145, 5), (145, 6)] h26 h30 → -2147483648 ≤ y27 → y27 ≤ 2147483647 → -2 ≤ y28 → y28 ≤ 10 → 0 ≤ y29 → y29 ≤ 10 → h30 98 2 = v1 → h30 98 3 = v2 → h30 98 4 = v3 → h30 98 5 = w98_5 → ISn gi h30 → S1n gs h30 → 10 - y29 < (n : Int) → G yX12_letGo cX12_letGo 9 (some .int) none Po (10, 600, 0, 0) 67 [some (pR 98), some (pI x1), some (pI x2), some (pI x3), some (pI y27), some (pI y28), some (pI y29), none, none] [] SH h30 0 0 := by
              intro n
              induction n with
              | zero =>
                intro y27 y28 y29 h30 hMh30 hFh30 by27 dy27 by28 dy28 by29 dy29 kp67_98_2 kp67_98_3 kp67_98_4 kp67_98_5 e67_0 e67_1 hn
                exfalso; omega
              | succ n ih67 =>
                intro y27 y28 y29 h30 hMh30 hFh30 by27 dy27 by28 dy28 by29 dy29 kp67_98_2 kp67_98_3 kp67_98_4 kp67_98_5 e67_0 e67_1 hn
                refine g_iload dX12_letGo_67 rfl (fun _ => ?_)
                refine g_bipush dX12_letGo_69 (inR_c rfl) (by decide) ?_
                refine g_icmp_ge 193 dX12_letGo_71 (by decide) (fun q31 => ?_) (fun q31 => ?_)
                · skip
                  refine g_iload_n dX12_letGo_193 rfl (fun _ => ?_)
                  refine g_iconst dX12_letGo_194 (inR_c rfl) ?_
                  refine g_icmp_ne 203 dX12_letGo_195 (by decide) (fun q32 => ?_) (fun q32 => ?_)
                  · skip
                    refine g_iload dX12_letGo_203 rfl (fun _ => ?_)
                    have q33 : h30 98 2 = v1 := kp67_98_2
                    have q34 : h30 98 3 = v2 := kp67_98_3
                    have q35 : h30 98 4 = v3 := kp67_98_4
                    have q36 : h30 98 5 = w98_5 := kp67_98_5
                    exact g_ireturn dX12_letGo_205 retI (hPo _ _ ⟨hMh30, (Fr.tr (Fr.sub hFh26 rfl) hFh30 rfl), (by omega), (by omega), e67_0, e67_1, (by omega), (by omega), (by omega), (by omega)⟩)
                  · skip
                    refine g_iload dX12_letGo_198 rfl (fun _ => ?_)
                    refine g_goto 205 dX12_letGo_200 (by decide) ?_
                    have q37 : h30 98 2 = v1 := kp67_98_2
                    have q38 : h30 98 3 = v2 := kp67_98_3
                    have q39 : h30 98 4 = v3 := kp67_98_4
                    have q40 : h30 98 5 = w98_5 := kp67_98_5
                    exact g_ireturn dX12_letGo_205 retI (hPo _ _ ⟨hMh30, (Fr.tr (Fr.sub hFh26 rfl) hFh30 rfl), (by omega), (by omega), e67_0, e67_1, (by omega), (by omega), (by omega), (by omega)⟩)
                · skip
                  refine g_iconst dX12_letGo_74 (inR_c rfl) ?_
                  have c77 : ∀ (n : Nat) (y41 y42 y43 : Int) (h44 : MEM), MBm h44 → Fr [(98, 3), (98, 4), (98, 5), (98, 6), (98, 7), (98, 8), (98, 47), (98, 48), (98, 49), (98, 52), (100, 0), (101, 0), (102, 0), (103, 0), (104, 0), (105, 0), (106, 0), (107, 0), (108, 0), (109, 0), (110, 0), (111, 0), (112, 0), (113, 0), (114, 0), (128, 0), (129, 0), (130, 0), (131, 0), (132, 0), (133, 0), (134, 0), (135, 0), (136, 0), (137, 0), (138, 0), (139, 0), (140, 0), (141, 0), (142, 0), (143, 0), (144, 0), (145, 1), (145, 2), (145, 3), (145, 4), (145, 5), (145, 6)] h30 h44 → -2147483648 ≤ y41 → y41 ≤ 2147483647 → -2 ≤ y42 → y42 ≤ 10 → 0 ≤ y43 → y43 ≤ 11 → h44 98 2 = v1 → h44 98 3 = v2 → h44 98 4 = v3 → h44 98 5 = w98_5 → ISn gi h44 → S1n gs h44 → 11 - y43 < (n : Int) → G yX12_letGo cX12_letGo 9 (some .int) none Po (10, 600, 0, 0) 77 [some (pR 98), some (pI x1), some (pI x2), some (pI x3), some (pI y41), some (pI y42), some (pI y29), some (pI y43), none] [] SH h44 0 0 := by
                    intro n
                    induction n with
                    | zero =>
                      intro y41 y42 y43 h44 hMh44 hFh44 by41 dy41 by42 dy42 by43 dy43 kp77_98_2 kp77_98_3 kp77_98_4 kp77_98_5 e77_0 e77_1 hn
                      exfalso; omega
                    | succ n ih77 =>
                      intro y41 y42 y43 h44 hMh44 hFh44 by41 dy41 by42 dy42 by43 dy43 kp77_98_2 kp77_98_3 kp77_98_4 kp77_98_5 e77_0 e77_1 hn
                      refine g_iload dX12_letGo_77 rfl (fun _ => ?_)
                      refine g_aload_n dX12_letGo_79 rfl ?_
                      refine gE_X12_172 rfl dX12_letGo_80 sh_98 kp77_98_2 ?_
                      refine g_icmp_gt 187 dX12_letGo_83 (by decide) (fun q45 => ?_) (fun q45 => ?_)
                      · skip
                        refine g_iincB dX12_letGo_187 rfl rfl (by omega) (by omega) ?_
                        refine g_goto 67 dX12_letGo_190 (by decide) ?_
                        refine g_drop 7 ?_
                        have q46 : h44 98 2 = v1 := kp77_98_2
                        have q47 : h44 98 3 = v2 := kp77_98_3
                        have q48 : h44 98 4 = v3 := kp77_98_4
                        have q49 : h44 98 5 = w98_5 := kp77_98_5
                        exact ih67 _ _ _ _ hMh44 (Fr.tr (Fr.sub hFh30 rfl) hFh44 rfl) (by omega) (by omega) (by omega) (by omega) (by omega) (by omega) (by omega) (by omega) (by omega) (by omega) e77_0 e77_1 (by omega)
                      · skip
                        refine g_aload_n dX12_letGo_86 rfl ?_
                        refine g_iconst dX12_letGo_87 (inR_c rfl) ?_
                        have q50 : h44 98 2 = v1 := kp77_98_2
                        have q51 : h44 98 3 = v2 := kp77_98_3
                        have q52 : h44 98 4 = v3 := kp77_98_4
                        have q53 : h44 98 5 = w98_5 := kp77_98_5
                        refine g_cVV (as := [_]) (c_X12_setsAside_98_k0 _ _ h44 hMh44 e77_0 e77_1) dX12_letGo_88 mi_X12_setsAside in_X12_setsAside se_X12_setsAside ml_X12_419 rfl rfl rfl sh_98 rfl rfl (Nat.le_of_ble_eq_true rfl) (fun h54 q55 => ?_)
                        obtain ⟨hMh54, hFh54, z56, z57, z58, z59, z60, z61⟩ := q55
                        have kz58 : h54 145 0 = v1 := by omega
                        have kz59 : h54 145 1 = v2 := by omega
                        have kz60 : h54 145 2 = v3 := by omega
                        have kz61 : h54 145 3 = w98_5 := by omega
                        refine g_aload_n dX12_letGo_91 rfl ?_
                        refine gR_X12_30 rfl dX12_letGo_92 sh_98 (b := 104) (m_98_12 hMh54) ?_
                        refine g_iload_n dX12_letGo_95 rfl (fun _ => ?_)
                        refine g_iload dX12_letGo_96 rfl (fun _ => ?_)
                        refine g_iastB dX12_letGo_98 sh_104 (by omega) (by omega) (fun h62 eh62 => ?_)
                        have hFh62 := Fr.ar eh62
                        have hMh62 := u_104 hMh54 eh62 (by omega) (by omega)
                        refine g_aload_n dX12_letGo_99 rfl ?_
                        refine gR_X12_27 rfl dX12_letGo_100 sh_98 (b := 103) (m_98_11 hMh62) ?_
                        refine g_iload_n dX12_letGo_103 rfl (fun _ => ?_)
                        refine g_iload dX12_letGo_104 rfl (fun _ => ?_)
                        refine g_aload_n dX12_letGo_106 rfl ?_
                        refine gE_X12_172 rfl dX12_letGo_107 sh_98 ((hFh62 98 2 rfl).trans ((hFh54 98 2 rfl).trans kp77_98_2)) ?_
                        refine g_icmp_ne 118 dX12_letGo_110 (by decide) (fun q63 => ?_) (fun q63 => ?_)
                        · skip
                          refine g_iload dX12_letGo_118 rfl (fun _ => ?_)
                          refine g_iastB dX12_letGo_120 sh_103 (by omega) (by omega) (fun h64 eh64 => ?_)
                          have hFh64 := Fr.ar eh64
                          have hMh64 := u_103 hMh62 eh64 (by omega) (by omega)
                          refine g_aload_n dX12_letGo_121 rfl ?_
                          refine g_iload_n dX12_letGo_122 rfl (fun _ => ?_)
                          have q65 : h64 98 5 = w98_5 := ((hFh64 98 5 rfl).trans ((hFh62 98 5 rfl).trans ((hFh54 98 5 rfl).trans kp77_98_5)))
                          refine g_cV (as := [_]) (c_X12_isAsTold_98 _ h64 hMh64 (by omega) (by omega) (by omega) (by omega) (WFL.fr (T := [(98, 2), (98, 3), (98, 4), (98, 5), (98, 6), (98, 7), (98, 8), (98, 47), (98, 48), (98, 49), (98, 52), (100, 0), (101, 0), (102, 0), (103, 0), (104, 0), (105, 0), (106, 0), (107, 0), (108, 0), (109, 0), (110, 0), (111, 0), (112, 0), (113, 0), (114, 0), (128, 0), (129, 0), (130, 0), (131, 0), (132, 0), (133, 0), (134, 0), (135, 0), (136, 0), (137, 0), (138, 0), (139, 0), (140, 0), (141, 0), (142, 0), (143, 0), (144, 0), (145, 1), (145, 2), (145, 3), (145, 4), (145, 5), (145, 6)]) f_WFL (Fr.tr (Fr.tr (Fr.tr (Fr.tr (Fr.tr (Fr.sub hFh26 rfl) hFh30 rfl) hFh44 rfl) hFh54 rfl) hFh62 rfl) hFh64 rfl) rfl)) dX12_letGo_123 mi_X12_isAsTold in_X12_isAsTold se_X12_isAsTold ml_X12_484 rfl rfl rfl sh_98 rfl rfl (Nat.le_of_ble_eq_true rfl) (fun v66 h67 q68 => ?_)
                          obtain ⟨hMh67, hFh67, bv66, cv66⟩ := q68
                          refine g_istore dX12_letGo_126 (by decide) rfl ?_
                          refine g_aload_n dX12_letGo_128 rfl ?_
                          refine g_iconst dX12_letGo_129 (inR_c rfl) ?_
                          have q69 : h67 145 0 = v1 := ((hFh67 145 _ rfl).trans ((hFh64 145 _ rfl).trans ((hFh62 145 _ rfl).trans kz58)))
                          have q70 : h67 145 1 = v2 := ((hFh67 145 _ rfl).trans ((hFh64 145 _ rfl).trans ((hFh62 145 _ rfl).trans kz59)))
                          have q71 : h67 145 2 = v3 := ((hFh67 145 _ rfl).trans ((hFh64 145 _ rfl).trans ((hFh62 145 _ rfl).trans kz60)))
                          have q72 : h67 145 3 = w98_5 := ((hFh67 145 _ rfl).trans ((hFh64 145 _ rfl).trans ((hFh62 145 _ rfl).trans kz61)))
                          refine g_cVV (as := [_]) (c_X12_putsBack_98_k0 _ h67 hMh67 (S0n.fr (T := [(98, 6), (98, 7), (98, 8), (98, 47), (98, 48), (98, 49), (98, 52), (101, 0), (103, 0), (104, 0), (105, 0), (107, 0), (111, 0), (112, 0), (113, 0), (128, 0), (129, 0)]) z56 (Fr.tr (Fr.tr (Fr.sub hFh62 rfl) hFh64 rfl) hFh67 rfl) rfl)) dX12_letGo_130 mi_X12_putsBack in_X12_putsBack se_X12_putsBack ml_X12_428 rfl rfl rfl sh_98 rfl rfl (Nat.le_of_ble_eq_true rfl) (fun h73 q74 => ?_)
                          obtain ⟨hMh73, hFh73, z75, z76, z77, z78, z79⟩ := q74
                          have kz76 : h73 98 2 = v1 := by omega
                          have kz77 : h73 98 3 = v2 := by omega
                          have kz78 : h73 98 4 = v3 := by omega
                          have kz79 : h73 98 5 = w98_5 := by omega
                          refine g_iload dX12_letGo_133 rfl (fun _ => ?_)
                          refine g_if_ne 141 dX12_letGo_135 (by decide) (fun q80 => ?_) (fun q80 => ?_)
                          · skip
                            refine g_iload dX12_letGo_141 rfl (fun _ => ?_)
                            refine g_if_ne 174 dX12_letGo_143 (by decide) (fun q81 => ?_) (fun q81 => ?_)
                            · skip
                              refine g_iload dX12_letGo_174 rfl (fun _ => ?_)
                              refine g_istore dX12_letGo_176 (by decide) rfl ?_
                              refine g_iincF dX12_letGo_178 rfl rfl (fun v82 bv82 cv82 => ?_)
                              refine g_iincB dX12_letGo_181 rfl rfl (by omega) (by omega) ?_
                              refine g_goto 77 dX12_letGo_184 (by decide) ?_
                              refine g_drop 8 ?_
                              have q83 : h73 98 2 = v1 := kz76
                              have q84 : h73 98 3 = v2 := kz77
                              have q85 : h73 98 4 = v3 := kz78
                              have q86 : h73 98 5 = w98_5 := kz79
                              exact ih77 _ _ _ _ hMh73 (Fr.tr (Fr.tr (Fr.tr (Fr.tr (Fr.tr (Fr.sub hFh44 rfl) hFh54 rfl) hFh62 rfl) hFh64 rfl) hFh67 rfl) hFh73 rfl) (by omega) (by omega) (by omega) (by omega) (by omega) (by omega) (by omega) (by omega) (by omega) (by omega) z75 (S1n.fr (T := [(98, 3), (98, 4), (98, 5), (98, 6), (98, 7), (98, 8), (98, 47), (98, 48), (98, 49), (98, 52), (100, 0), (101, 0), (102, 0), (103, 0), (104, 0), (105, 0), (106, 0), (107, 0), (108, 0), (109, 0), (110, 0), (111, 0), (112, 0), (113, 0), (114, 0), (128, 0), (129, 0)]) z57 (Fr.tr (Fr.tr (Fr.tr (Fr.sub hFh62 rfl) hFh64 rfl) hFh67 rfl) hFh73 rfl) rfl) (by omega)
                            · skip
                              refine g_iload_n dX12_letGo_146 rfl (fun _ => ?_)
                              refine g_if_ne 155 dX12_letGo_147 (by decide) (fun q87 => ?_) (fun q87 => ?_)
                              · skip
                                refine g_iload dX12_letGo_155 rfl (fun _ => ?_)
                                refine g_aload_n dX12_letGo_157 rfl ?_
                                refine gE_X12_172 rfl dX12_letGo_158 sh_98 kz76 ?_
                                refine g_icmp_ne 169 dX12_letGo_161 (by decide) (fun q88 => ?_) (fun _ => by exfalso; omega)
                                refine g_iload dX12_letGo_169 rfl (fun _ => ?_)
                                refine g_goto 176 dX12_letGo_171 (by decide) ?_
                                refine g_istore dX12_letGo_176 (by decide) rfl ?_
                                refine g_iincB dX12_letGo_178 rfl rfl (by omega) (by omega) ?_
                                refine g_iincB dX12_letGo_181 rfl rfl (by omega) (by omega) ?_
                                refine g_goto 77 dX12_letGo_184 (by decide) ?_
                                refine g_drop 8 ?_
                                have q89 : h73 98 2 = v1 := kz76
                                have q90 : h73 98 3 = v2 := kz77
                                have q91 : h73 98 4 = v3 := kz78
                                have q92 : h73 98 5 = w98_5 := kz79
                                exact ih77 _ _ _ _ hMh73 (Fr.tr (Fr.tr (Fr.tr (Fr.tr (Fr.tr (Fr.sub hFh44 rfl) hFh54 rfl) hFh62 rfl) hFh64 rfl) hFh67 rfl) hFh73 rfl) (by omega) (by omega) (by omega) (by omega) (by omega) (by omega) (by omega) (by omega) (by omega) (by omega) z75 (S1n.fr (T := [(98, 3), (98, 4), (98, 5), (98, 6), (98, 7), (98, 8), (98, 47), (98, 48), (98, 49), (98, 52), (100, 0), (101, 0), (102, 0), (103, 0), (104, 0), (105, 0), (106, 0), (107, 0), (108, 0), (109, 0), (110, 0), (111, 0), (112, 0), (113, 0), (114, 0), (128, 0), (129, 0)]) z57 (Fr.tr (Fr.tr (Fr.tr (Fr.sub hFh62 rfl) hFh64 rfl) hFh67 rfl) hFh73 rfl) rfl) (by omega)
                              · skip
                                refine g_iload dX12_letGo_150 rfl (fun _ => ?_)
                                refine g_goto 176 dX12_letGo_152 (by decide) ?_
                                refine g_istore dX12_letGo_176 (by decide) rfl ?_
                                refine g_iincB dX12_letGo_178 rfl rfl (by omega) (by omega) ?_
                                refine g_iincB dX12_letGo_181 rfl rfl (by omega) (by omega) ?_
                                refine g_goto 77 dX12_letGo_184 (by decide) ?_
                                refine g_drop 8 ?_
                                have q93 : h73 98 2 = v1 := kz76
                                have q94 : h73 98 3 = v2 := kz77
                                have q95 : h73 98 4 = v3 := kz78
                                have q96 : h73 98 5 = w98_5 := kz79
                                exact ih77 _ _ _ _ hMh73 (Fr.tr (Fr.tr (Fr.tr (Fr.tr (Fr.tr (Fr.sub hFh44 rfl) hFh54 rfl) hFh62 rfl) hFh64 rfl) hFh67 rfl) hFh73 rfl) (by omega) (by omega) (by omega) (by omega) (by omega) (by omega) (by omega) (by omega) (by omega) (by omega) z75 (S1n.fr (T := [(98, 3), (98, 4), (98, 5), (98, 6), (98, 7), (98, 8), (98, 47), (98, 48), (98, 49), (98, 52), (100, 0), (101, 0), (102, 0), (103, 0), (104, 0), (105, 0), (106, 0), (107, 0), (108, 0), (109, 0), (110, 0), (111, 0), (112, 0), (113, 0), (114, 0), (128, 0), (129, 0)]) z57 (Fr.tr (Fr.tr (Fr.tr (Fr.sub hFh62 rfl) hFh64 rfl) hFh67 rfl) hFh73 rfl) rfl) (by omega)
                          · skip
                            refine g_goto 181 dX12_letGo_138 (by decide) ?_
                            refine g_iincB dX12_letGo_181 rfl rfl (by omega) (by omega) ?_
                            refine g_goto 77 dX12_letGo_184 (by decide) ?_
                            refine g_drop 8 ?_
                            have q97 : h73 98 2 = v1 := kz76
                            have q98 : h73 98 3 = v2 := kz77
                            have q99 : h73 98 4 = v3 := kz78
                            have q100 : h73 98 5 = w98_5 := kz79
                            exact ih77 _ _ _ _ hMh73 (Fr.tr (Fr.tr (Fr.tr (Fr.tr (Fr.tr (Fr.sub hFh44 rfl) hFh54 rfl) hFh62 rfl) hFh64 rfl) hFh67 rfl) hFh73 rfl) (by omega) (by omega) (by omega) (by omega) (by omega) (by omega) (by omega) (by omega) (by omega) (by omega) z75 (S1n.fr (T := [(98, 3), (98, 4), (98, 5), (98, 6), (98, 7), (98, 8), (98, 47), (98, 48), (98, 49), (98, 52), (100, 0), (101, 0), (102, 0), (103, 0), (104, 0), (105, 0), (106, 0), (107, 0), (108, 0), (109, 0), (110, 0), (111, 0), (112, 0), (113, 0), (114, 0), (128, 0), (129, 0)]) z57 (Fr.tr (Fr.tr (Fr.tr (Fr.sub hFh62 rfl) hFh64 rfl) hFh67 rfl) hFh73 rfl) rfl) (by omega)
                        · skip
                          refine g_bipush dX12_letGo_113 (inR_c rfl) (by decide) ?_
                          refine g_goto 120 dX12_letGo_115 (by decide) ?_
                          refine g_iastB dX12_letGo_120 sh_103 (by omega) (by omega) (fun h101 eh101 => ?_)
                          have hFh101 := Fr.ar eh101
                          have hMh101 := u_103 hMh62 eh101 (by omega) (by omega)
                          refine g_aload_n dX12_letGo_121 rfl ?_
                          refine g_iload_n dX12_letGo_122 rfl (fun _ => ?_)
                          have q102 : h101 98 5 = w98_5 := ((hFh101 98 5 rfl).trans ((hFh62 98 5 rfl).trans ((hFh54 98 5 rfl).trans kp77_98_5)))
                          refine g_cV (as := [_]) (c_X12_isAsTold_98 _ h101 hMh101 (by omega) (by omega) (by omega) (by omega) (WFL.fr (T := [(98, 2), (98, 3), (98, 4), (98, 5), (98, 6), (98, 7), (98, 8), (98, 47), (98, 48), (98, 49), (98, 52), (100, 0), (101, 0), (102, 0), (103, 0), (104, 0), (105, 0), (106, 0), (107, 0), (108, 0), (109, 0), (110, 0), (111, 0), (112, 0), (113, 0), (114, 0), (128, 0), (129, 0), (130, 0), (131, 0), (132, 0), (133, 0), (134, 0), (135, 0), (136, 0), (137, 0), (138, 0), (139, 0), (140, 0), (141, 0), (142, 0), (143, 0), (144, 0), (145, 1), (145, 2), (145, 3), (145, 4), (145, 5), (145, 6)]) f_WFL (Fr.tr (Fr.tr (Fr.tr (Fr.tr (Fr.tr (Fr.sub hFh26 rfl) hFh30 rfl) hFh44 rfl) hFh54 rfl) hFh62 rfl) hFh101 rfl) rfl)) dX12_letGo_123 mi_X12_isAsTold in_X12_isAsTold se_X12_isAsTold ml_X12_484 rfl rfl rfl sh_98 rfl rfl (Nat.le_of_ble_eq_true rfl) (fun v103 h104 q105 => ?_)
                          obtain ⟨hMh104, hFh104, bv103, cv103⟩ := q105
                          refine g_istore dX12_letGo_126 (by decide) rfl ?_
                          refine g_aload_n dX12_letGo_128 rfl ?_
                          refine g_iconst dX12_letGo_129 (inR_c rfl) ?_
                          have q106 : h104 145 0 = v1 := ((hFh104 145 _ rfl).trans ((hFh101 145 _ rfl).trans ((hFh62 145 _ rfl).trans kz58)))
                          have q107 : h104 145 1 = v2 := ((hFh104 145 _ rfl).trans ((hFh101 145 _ rfl).trans ((hFh62 145 _ rfl).trans kz59)))
                          have q108 : h104 145 2 = v3 := ((hFh104 145 _ rfl).trans ((hFh101 145 _ rfl).trans ((hFh62 145 _ rfl).trans kz60)))
                          have q109 : h104 145 3 = w98_5 := ((hFh104 145 _ rfl).trans ((hFh101 145 _ rfl).trans ((hFh62 145 _ rfl).trans kz61)))
                          refine g_cVV (as := [_]) (c_X12_putsBack_98_k0 _ h104 hMh104 (S0n.fr (T := [(98, 6), (98, 7), (98, 8), (98, 47), (98, 48), (98, 49), (98, 52), (101, 0), (103, 0), (104, 0), (105, 0), (107, 0), (111, 0), (112, 0), (113, 0), (128, 0), (129, 0)]) z56 (Fr.tr (Fr.tr (Fr.sub hFh62 rfl) hFh101 rfl) hFh104 rfl) rfl)) dX12_letGo_130 mi_X12_putsBack in_X12_putsBack se_X12_putsBack ml_X12_428 rfl rfl rfl sh_98 rfl rfl (Nat.le_of_ble_eq_true rfl) (fun h110 q111 => ?_)
                          obtain ⟨hMh110, hFh110, z112, z113, z114, z115, z116⟩ := q111
                          have kz113 : h110 98 2 = v1 := by omega
                          have kz114 : h110 98 3 = v2 := by omega
                          have kz115 : h110 98 4 = v3 := by omega
                          have kz116 : h110 98 5 = w98_5 := by omega
                          refine g_iload dX12_letGo_133 rfl (fun _ => ?_)
                          refine g_if_ne 141 dX12_letGo_135 (by decide) (fun q117 => ?_) (fun q117 => ?_)
                          · skip
                            refine g_iload dX12_letGo_141 rfl (fun _ => ?_)
                            refine g_if_ne 174 dX12_letGo_143 (by decide) (fun q118 => ?_) (fun q118 => ?_)
                            · skip
                              refine g_iload dX12_letGo_174 rfl (fun _ => ?_)
                              refine g_istore dX12_letGo_176 (by decide) rfl ?_
                              refine g_iincF dX12_letGo_178 rfl rfl (fun v119 bv119 cv119 => ?_)
                              refine g_iincB dX12_letGo_181 rfl rfl (by omega) (by omega) ?_
                              refine g_goto 77 dX12_letGo_184 (by decide) ?_
                              refine g_drop 8 ?_
                              have q120 : h110 98 2 = v1 := kz113
                              have q121 : h110 98 3 = v2 := kz114
                              have q122 : h110 98 4 = v3 := kz115
                              have q123 : h110 98 5 = w98_5 := kz116
                              exact ih77 _ _ _ _ hMh110 (Fr.tr (Fr.tr (Fr.tr (Fr.tr (Fr.tr (Fr.sub hFh44 rfl) hFh54 rfl) hFh62 rfl) hFh101 rfl) hFh104 rfl) hFh110 rfl) (by omega) (by omega) (by omega) (by omega) (by omega) (by omega) (by omega) (by omega) (by omega) (by omega) z112 (S1n.fr (T := [(98, 3), (98, 4), (98, 5), (98, 6), (98, 7), (98, 8), (98, 47), (98, 48), (98, 49), (98, 52), (100, 0), (101, 0), (102, 0), (103, 0), (104, 0), (105, 0), (106, 0), (107, 0), (108, 0), (109, 0), (110, 0), (111, 0), (112, 0), (113, 0), (114, 0), (128, 0), (129, 0)]) z57 (Fr.tr (Fr.tr (Fr.tr (Fr.sub hFh62 rfl) hFh101 rfl) hFh104 rfl) hFh110 rfl) rfl) (by omega)
                            · skip
                              refine g_iload_n dX12_letGo_146 rfl (fun _ => ?_)
                              refine g_if_ne 155 dX12_letGo_147 (by decide) (fun q124 => ?_) (fun q124 => ?_)
                              · skip
                                refine g_iload dX12_letGo_155 rfl (fun _ => ?_)
                                refine g_aload_n dX12_letGo_157 rfl ?_
                                refine gE_X12_172 rfl dX12_letGo_158 sh_98 kz113 ?_
                                refine g_icmp_ne 169 dX12_letGo_161 (by decide) (fun _ => by exfalso; omega) (fun q125 => ?_)
                                refine g_bipush dX12_letGo_164 (inR_c rfl) (by decide) ?_
                                refine g_goto 176 dX12_letGo_166 (by decide) ?_
                                refine g_istore dX12_letGo_176 (by decide) rfl ?_
                                refine g_iincB dX12_letGo_178 rfl rfl (by omega) (by omega) ?_
                                refine g_iincB dX12_letGo_181 rfl rfl (by omega) (by omega) ?_
                                refine g_goto 77 dX12_letGo_184 (by decide) ?_
                                refine g_drop 8 ?_
                                have q126 : h110 98 2 = v1 := kz113
                                have q127 : h110 98 3 = v2 := kz114
                                have q128 : h110 98 4 = v3 := kz115
                                have q129 : h110 98 5 = w98_5 := kz116
                                exact ih77 _ _ _ _ hMh110 (Fr.tr (Fr.tr (Fr.tr (Fr.tr (Fr.tr (Fr.sub hFh44 rfl) hFh54 rfl) hFh62 rfl) hFh101 rfl) hFh104 rfl) hFh110 rfl) (by omega) (by omega) (by omega) (by omega) (by omega) (by omega) (by omega) (by omega) (by omega) (by omega) z112 (S1n.fr (T := [(98, 3), (98, 4), (98, 5), (98, 6), (98, 7), (98, 8), (98, 47), (98, 48), (98, 49), (98, 52), (100, 0), (101, 0), (102, 0), (103, 0), (104, 0), (105, 0), (106, 0), (107, 0), (108, 0), (109, 0), (110, 0), (111, 0), (112, 0), (113, 0), (114, 0), (128, 0), (129, 0)]) z57 (Fr.tr (Fr.tr (Fr.tr (Fr.sub hFh62 rfl) hFh101 rfl) hFh104 rfl) hFh110 rfl) rfl) (by omega)
                              · skip
                                refine g_iload dX12_letGo_150 rfl (fun _ => ?_)
                                refine g_goto 176 dX12_letGo_152 (by decide) ?_
                                refine g_istore dX12_letGo_176 (by decide) rfl ?_
                                refine g_iincB dX12_letGo_178 rfl rfl (by omega) (by omega) ?_
                                refine g_iincB dX12_letGo_181 rfl rfl (by omega) (by omega) ?_
                                refine g_goto 77 dX12_letGo_184 (by decide) ?_
                                refine g_drop 8 ?_
                                have q130 : h110 98 2 = v1 := kz113
                                have q131 : h110 98 3 = v2 := kz114
                                have q132 : h110 98 4 = v3 := kz115
                                have q133 : h110 98 5 = w98_5 := kz116
                                exact ih77 _ _ _ _ hMh110 (Fr.tr (Fr.tr (Fr.tr (Fr.tr (Fr.tr (Fr.sub hFh44 rfl) hFh54 rfl) hFh62 rfl) hFh101 rfl) hFh104 rfl) hFh110 rfl) (by omega) (by omega) (by omega) (by omega) (by omega) (by omega) (by omega) (by omega) (by omega) (by omega) z112 (S1n.fr (T := [(98, 3), (98, 4), (98, 5), (98, 6), (98, 7), (98, 8), (98, 47), (98, 48), (98, 49), (98, 52), (100, 0), (101, 0), (102, 0), (103, 0), (104, 0), (105, 0), (106, 0), (107, 0), (108, 0), (109, 0), (110, 0), (111, 0), (112, 0), (113, 0), (114, 0), (128, 0), (129, 0)]) z57 (Fr.tr (Fr.tr (Fr.tr (Fr.sub hFh62 rfl) hFh101 rfl) hFh104 rfl) hFh110 rfl) rfl) (by omega)
                          · skip
                            refine g_goto 181 dX12_letGo_138 (by decide) ?_
                            refine g_iincB dX12_letGo_181 rfl rfl (by omega) (by omega) ?_
                            refine g_goto 77 dX12_letGo_184 (by decide) ?_
                            refine g_drop 8 ?_
                            have q134 : h110 98 2 = v1 := kz113
                            have q135 : h110 98 3 = v2 := kz114
                            have q136 : h110 98 4 = v3 := kz115
                            have q137 : h110 98 5 = w98_5 := kz116
                            exact ih77 _ _ _ _ hMh110 (Fr.tr (Fr.tr (Fr.tr (Fr.tr (Fr.tr (Fr.sub hFh44 rfl) hFh54 rfl) hFh62 rfl) hFh101 rfl) hFh104 rfl) hFh110 rfl) (by omega) (by omega) (by omega) (by omega) (by omega) (by omega) (by omega) (by omega) (by omega) (by omega) z112 (S1n.fr (T := [(98, 3), (98, 4), (98, 5), (98, 6), (98, 7), (98, 8), (98, 47), (98, 48), (98, 49), (98, 52), (100, 0), (101, 0), (102, 0), (103, 0), (104, 0), (105, 0), (106, 0), (107, 0), (108, 0), (109, 0), (110, 0), (111, 0), (112, 0), (113, 0), (114, 0), (128, 0), (129, 0)]) z57 (Fr.tr (Fr.tr (Fr.tr (Fr.sub hFh62 rfl) hFh101 rfl) hFh104 rfl) hFh110 rfl) rfl) (by omega)
                  refine g_istore dX12_letGo_75 (by decide) rfl ?_
                  have q138 : h30 98 2 = v1 := kp67_98_2
                  have q139 : h30 98 3 = v2 := kp67_98_3
                  have q140 : h30 98 4 = v3 := kp67_98_4
                  have q141 : h30 98 5 = w98_5 := kp67_98_5
                  exact c77 12 _ _ _ _ hMh30 Fr.rf (by omega) (by omega) (by omega) (by omega) (by omega) (by omega) (by omega) (by omega) (by omega) (by omega) e67_0 e67_1 (by omega)
            refine g_istore dX12_letGo_65 (by decide) rfl ?_
            have q142 : h26 98 2 = v1 := ((hFh26 98 2 rfl).trans ev1.symm)
            have q143 : h26 98 3 = v2 := ((hFh26 98 3 rfl).trans ev2.symm)
            have q144 : h26 98 4 = v3 := ((hFh26 98 4 rfl).trans ev3.symm)
            have q145 : h26 98 5 = w98_5 := ((hFh26 98 5 rfl).trans ew98_5.symm)
            exact c67 11 _ _ _ _ hMh26 Fr.rf (by omega) (by omega) (by omega) (by omega) (by omega) (by omega) (by omega) (by omega) (by omega) (by omega) (ISn.fr (T := [(98, 2)]) f_IS (Fr.sub hFh26 rfl) rfl) (S1n.fr (T := [(98, 2)]) f_S1 (Fr.sub hFh26 rfl) rfl) (by omega)
          · skip
            refine g_iconst dX12_letGo_50 (inR_c rfl) ?_
            have q146 : h 98 2 = v1 := ev1.symm
            have q147 : h 98 3 = v2 := ev2.symm
            have q148 : h 98 4 = v3 := ev3.symm
            have q149 : h 98 5 = w98_5 := ew98_5.symm
            exact g_ireturn dX12_letGo_51 retI (hPo _ _ ⟨hM, Fr.rf, (by omega), (by omega), f_IS, f_S1, (by omega), (by omega), (by omega), (by omega)⟩)
      · skip
        refine g_if_eq 50 dX12_letGo_29 (by decide) (fun q150 => ?_) (fun _ => by exfalso; omega)
        refine g_iconst dX12_letGo_50 (inR_c rfl) ?_
        have q151 : h 98 2 = v1 := ev1.symm
        have q152 : h 98 3 = v2 := ev2.symm
        have q153 : h 98 4 = v3 := ev3.symm
        have q154 : h 98 5 = w98_5 := ew98_5.symm
        exact g_ireturn dX12_letGo_51 retI (hPo _ _ ⟨hM, Fr.rf, (by omega), (by omega), f_IS, f_S1, (by omega), (by omega), (by omega), (by omega)⟩)
    · skip
      refine g_if_eq 50 dX12_letGo_17 (by decide) (fun q155 => ?_) (fun _ => by exfalso; omega)
      refine g_iconst dX12_letGo_50 (inR_c rfl) ?_
      have q156 : h 98 2 = v1 := ev1.symm
      have q157 : h 98 3 = v2 := ev2.symm
      have q158 : h 98 4 = v3 := ev3.symm
      have q159 : h 98 5 = w98_5 := ew98_5.symm
      exact g_ireturn dX12_letGo_51 retI (hPo _ _ ⟨hM, Fr.rf, (by omega), (by omega), f_IS, f_S1, (by omega), (by omega), (by omega), (by omega)⟩)
  · skip
    refine g_if_eq 50 dX12_letGo_5 (by decide) (fun q160 => ?_) (fun _ => by exfalso; omega)
    refine g_iconst dX12_letGo_50 (inR_c rfl) ?_
    have q161 : h 98 2 = v1 := ev1.symm
    have q162 : h 98 3 = v2 := ev2.symm
    have q163 : h 98 4 = v3 := ev3.symm
    have q164 : h 98 5 = w98_5 := ew98_5.symm
    exact g_ireturn dX12_letGo_51 retI (hPo _ _ ⟨hM, Fr.rf, (by omega), (by omega), f_IS, f_S1, (by omega), (by omega), (by omega), (by omega)⟩)
set_option maxRecDepth 100000 in
set_option maxHeartbeats 4000000 in
theorem c_X12_settled_98 (x1 : Int) (h : MEM) (hM : MBm h) (bx1 : -2147483648 ≤ x1) (dx1 : x1 ≤ 2147483647) : CI yX12_settled cX12_settled 7 (some .int) 2 [pR 98, pI x1] h (fun x h' => MBm h' ∧ Fr [(148, 0), (149, 0)] h h' ∧ -2147483648 ≤ x ∧ x ≤ 2147483647) := by
  refine CI.of (L0 := [some (pR 98), some (pI x1), none, none, none, none, none]) rfl (Nat.le_of_ble_eq_true rfl) rfl (fun Po hPo hav => ?_)
  refine g_iload_n dX12_settled_0 rfl (fun _ => ?_)
  refine g_i2l dX12_settled_1 ?_
  refine g_lconst (v := 0) dX12_settled_2 rfl ?_
  refine g_lconst (v := 1) dX12_settled_3 rfl ?_
  refine g_cSP (av := [_, _, _]) (c_X12_lies _ _ _ h hM (by omega) (by omega) (by omega) (by omega) (by omega) (by omega)) dX12_settled_4 mi_X12_lies st_X12_lies ml_X12_175 rfl rfl rfl rfl (Nat.le_of_ble_eq_true rfl) (fun v1 q2 => ?_)
  rcases q2 with ⟨rfl, q2⟩ | ⟨rfl, q2⟩
  · skip
    refine g_if_ne 12 dX12_settled_7 (by decide) (fun q3 => ?_) (fun _ => by exfalso; omega)
    refine g_iconst dX12_settled_12 (inR_c rfl) ?_
    refine g_istore_n dX12_settled_13 (by decide) rfl ?_
    refine g_iconst dX12_settled_14 (inR_c rfl) ?_
    have c16 : ∀ (n : Nat) (y4 y5 : Int) (h6 : MEM), MBm h6 → Fr [(148, 0)] h h6 → 0 ≤ y4 → y4 ≤ 16 → 0 ≤ y5 → y5 ≤ 16 → y4 + (-1) * y5 ≤ 0 → 16 - y5 < (n : Int) → G yX12_settled cX12_settled 7 (some .int) none Po (2, 120, 0, 0) 16 [some (pR 98), some (pI x1), some (pI y4), some (pI y5), none, none, none] [] SH h6 0 0 := by
      intro n
      induction n with
      | zero =>
        intro y4 y5 h6 hMh6 hFh6 by4 dy4 by5 dy5 li16_0 hn
        exfalso; omega
      | succ n ih16 =>
        intro y4 y5 h6 hMh6 hFh6 by4 dy4 by5 dy5 li16_0 hn
        refine g_iload_n dX12_settled_16 rfl (fun _ => ?_)
        refine g_bipush dX12_settled_17 (inR_c rfl) (by decide) ?_
        refine g_icmp_ge 101 dX12_settled_19 (by decide) (fun q7 => ?_) (fun q7 => ?_)
        · skip
          refine g_iload_n dX12_settled_101 rfl (fun _ => ?_)
          refine g_bipush dX12_settled_102 (inR_c rfl) (by decide) ?_
          refine g_icmp_le 110 dX12_settled_104 (by decide) (fun q8 => ?_) (fun q8 => ?_)
          · skip
            refine g_iconst dX12_settled_110 (inR_c rfl) ?_
            have c112 : ∀ (n : Nat) (y9 : Int) (h10 : MEM), MBm h10 → Fr [(149, 0)] h6 h10 → 0 ≤ y9 → y9 ≤ 128 → 128 - y9 < (n : Int) → G yX12_settled cX12_settled 7 (some .int) none Po (2, 120, 0, 0) 112 [some (pR 98), some (pI x1), some (pI y4), some (pI y9), none, none, none] [] SH h10 0 0 := by
              intro n
              induction n with
              | zero =>
                intro y9 h10 hMh10 hFh10 by9 dy9 hn
                exfalso; omega
              | succ n ih112 =>
                intro y9 h10 hMh10 hFh10 by9 dy9 hn
                refine g_iload_n dX12_settled_112 rfl (fun _ => ?_)
                refine g_iconst dX12_settled_113 (inR_c rfl) ?_
                refine g_iload_n dX12_settled_114 rfl (fun _ => ?_)
                refine g_ishlX (lo := 1) (hi := 128) dX12_settled_115 (ishl1_b 7 (by decide) (by omega) (by omega)) (fun v11 ev11 bv11 cv11 => ?_)
                refine g_icmp_ge 257 dX12_settled_116 (by decide) (fun q12 => ?_) (fun q12 => ?_)
                · skip
                  refine g_aload_n dX12_settled_257 rfl ?_
                  refine gR_X12_166 rfl dX12_settled_258 sh_98 (b := 149) (m_98_77 hMh10) ?_
                  refine g_iconst dX12_settled_261 (inR_c rfl) ?_
                  refine g_iload_n dX12_settled_262 rfl (fun _ => ?_)
                  refine g_ishlX (lo := 1) (hi := 128) dX12_settled_263 (ishl1_b 7 (by decide) (by omega) (by omega)) (fun v13 ev13 bv13 cv13 => ?_)
                  refine g_iconst dX12_settled_264 (inR_c rfl) ?_
                  refine g_isubB dX12_settled_265 (by omega) (by omega) ?_
                  refine g_ialdB dX12_settled_266 sh_149 (by omega) (by omega) (m_149 hMh10 _) (fun v14 ev14 bv14 cv14 => ?_)
                  refine g_istore_n dX12_settled_267 (by decide) rfl ?_
                  refine g_iload_n dX12_settled_268 rfl (fun _ => ?_)
                  refine g_if_ne 278 dX12_settled_269 (by decide) (fun q15 => ?_) (fun q15 => ?_)
                  · skip
                    refine g_iload_n dX12_settled_278 rfl (fun _ => ?_)
                    exact g_ireturn dX12_settled_279 retI (hPo _ _ ⟨hMh10, (Fr.tr (Fr.sub hFh6 rfl) hFh10 rfl), (by omega), (by omega)⟩)
                  · skip
                    refine g_iload_n dX12_settled_272 rfl (fun _ => ?_)
                    refine g_iload_n dX12_settled_273 rfl (fun _ => ?_)
                    refine g_isubF dX12_settled_274 (fun v16 bv16 cv16 => ?_)
                    refine g_goto 279 dX12_settled_275 (by decide) ?_
                    exact g_ireturn dX12_settled_279 retI (hPo _ _ ⟨hMh10, (Fr.tr (Fr.sub hFh6 rfl) hFh10 rfl), (by omega), (by omega)⟩)
                · skip
                  refine g_iconst dX12_settled_119 (inR_c rfl) ?_
                  refine g_istore dX12_settled_120 (by decide) rfl ?_
                  refine g_iconst dX12_settled_122 (inR_c rfl) ?_
                  have c125 : ∀ (n : Nat) (y17 y18 : Int) , -2147483648 ≤ y17 → y17 ≤ 2147483647 → 0 ≤ y18 → y18 ≤ 7 → 7 - y18 < (n : Int) → G yX12_settled cX12_settled 7 (some .int) none Po (2, 120, 0, 0) 125 [some (pR 98), some (pI x1), some (pI y4), some (pI y9), some (pI y17), some (pI y18), none] [] SH h10 0 0 := by
                    intro n
                    induction n with
                    | zero =>
                      intro y17 y18 by17 dy17 by18 dy18 hn
                      exfalso; omega
                    | succ n ih125 =>
                      intro y17 y18 by17 dy17 by18 dy18 hn
                      refine g_iload dX12_settled_125 rfl (fun _ => ?_)
                      refine g_iload_n dX12_settled_127 rfl (fun _ => ?_)
                      refine g_icmp_ge 162 dX12_settled_128 (by decide) (fun q19 => ?_) (fun q19 => ?_)
                      · skip
                        refine g_aload_n dX12_settled_162 rfl ?_
                        refine gR_X12_166 rfl dX12_settled_163 sh_98 (b := 149) (m_98_77 hMh10) ?_
                        refine g_iload_n dX12_settled_166 rfl (fun _ => ?_)
                        refine g_iload_n dX12_settled_167 rfl (fun _ => ?_)
                        refine g_if_ne 175 dX12_settled_168 (by decide) (fun q20 => ?_) (fun q20 => ?_)
                        · skip
                          refine g_iload dX12_settled_175 rfl (fun _ => ?_)
                          refine g_if_ne 184 dX12_settled_177 (by decide) (fun q21 => ?_) (fun q21 => ?_)
                          · skip
                            refine g_ldc_w (v := (-1000000000)) dX12_settled_184 kc_X12_487 (inR_c rfl) ?_
                            refine g_iastB dX12_settled_187 sh_149 (by omega) (by omega) (fun h22 eh22 => ?_)
                            have hFh22 := Fr.ar eh22
                            have hMh22 := u_149 hMh10 eh22 (by omega) (by omega)
                            refine g_iload_n dX12_settled_188 rfl (fun _ => ?_)
                            refine g_iconst dX12_settled_189 (inR_c rfl) ?_
                            refine g_isubB dX12_settled_190 (by omega) (by omega) ?_
                            refine g_iload_n dX12_settled_191 rfl (fun _ => ?_)
                            refine g_iandX (lo := 0) (hi := (y9 - 1)) dX12_settled_192 (iand_l (by omega) (by omega)) (fun v23 ev23 bv23 cv23 => ?_)
                            have c195 : ∀ (n : Nat) (y24 : Int) (h25 : MEM), MBm h25 → Fr [(149, 0)] h22 h25 → 0 ≤ y24 → y24 ≤ 127 → y24 < (n : Int) → G yX12_settled cX12_settled 7 (some .int) none Po (2, 120, 0, 0) 195 [some (pR 98), some (pI x1), some (pI y4), some (pI y9), none, some (pI y24), none] [] SH h25 0 0 := by
                              intro n
                              induction n with
                              | zero =>
                                intro y24 h25 hMh25 hFh25 by24 dy24 hn
                                exfalso; omega
                              | succ n ih195 =>
                                intro y24 h25 hMh25 hFh25 by24 dy24 hn
                                refine g_iload dX12_settled_195 rfl (fun _ => ?_)
                                refine g_if_le 251 dX12_settled_197 (by decide) (fun q26 => ?_) (fun q26 => ?_)
                                · skip
                                  refine g_iincB dX12_settled_251 rfl rfl (by omega) (by omega) ?_
                                  refine g_goto 112 dX12_settled_254 (by decide) ?_
                                  refine g_drop 5 ?_
                                  exact ih112 _ _ hMh25 (Fr.tr (Fr.tr (Fr.sub hFh10 rfl) hFh22 rfl) hFh25 rfl) (by omega) (by omega) (by omega)
                                · skip
                                  refine g_aload_n dX12_settled_200 rfl ?_
                                  refine gR_X12_166 rfl dX12_settled_201 sh_98 (b := 149) (m_98_77 hMh25) ?_
                                  refine g_iload dX12_settled_204 rfl (fun _ => ?_)
                                  refine g_ialdB dX12_settled_206 sh_149 (by omega) (by omega) (m_149 hMh25 _) (fun v27 ev27 bv27 cv27 => ?_)
                                  refine g_aload_n dX12_settled_207 rfl ?_
                                  refine gR_X12_166 rfl dX12_settled_208 sh_98 (b := 149) (m_98_77 hMh25) ?_
                                  refine g_iload_n dX12_settled_211 rfl (fun _ => ?_)
                                  refine g_iload dX12_settled_212 rfl (fun _ => ?_)
                                  refine g_iconst dX12_settled_214 (inR_c rfl) ?_
                                  refine g_ixorF dX12_settled_215 (fun v28 ev28 bv28 cv28 => ?_)
                                  refine g_iandX (lo := 0) (hi := y9) dX12_settled_216 (iand_l (by omega) (by omega)) (fun v29 ev29 bv29 cv29 => ?_)
                                  refine g_ialdB dX12_settled_217 sh_149 (by omega) (by omega) (m_149 hMh25 _) (fun v30 ev30 bv30 cv30 => ?_)
                                  refine g_iaddF dX12_settled_218 (fun v31 bv31 cv31 => ?_)
                                  refine g_istore dX12_settled_219 (by decide) rfl ?_
                                  refine g_iload dX12_settled_221 rfl (fun _ => ?_)
                                  refine g_aload_n dX12_settled_223 rfl ?_
                                  refine gR_X12_166 rfl dX12_settled_224 sh_98 (b := 149) (m_98_77 hMh25) ?_
                                  refine g_iload_n dX12_settled_227 rfl (fun _ => ?_)
                                  refine g_ialdB dX12_settled_228 sh_149 (by omega) (by omega) (m_149 hMh25 _) (fun v32 ev32 bv32 cv32 => ?_)
                                  refine g_icmp_le 240 dX12_settled_229 (by decide) (fun q33 => ?_) (fun q33 => ?_)
                                  · skip
                                    refine g_iload dX12_settled_240 rfl (fun _ => ?_)
                                    refine g_iconst dX12_settled_242 (inR_c rfl) ?_
                                    refine g_isubB dX12_settled_243 (by omega) (by omega) ?_
                                    refine g_iload_n dX12_settled_244 rfl (fun _ => ?_)
                                    refine g_iandX (lo := 0) (hi := (y24 - 1)) dX12_settled_245 (iand_l (by omega) (by omega)) (fun v34 ev34 bv34 cv34 => ?_)
                                    refine g_istore dX12_settled_246 (by decide) rfl ?_
                                    refine g_goto 195 dX12_settled_248 (by decide) ?_
                                    refine g_drop 6 ?_
                                    exact ih195 _ _ hMh25 (Fr.sub hFh25 rfl) (by omega) (by omega) (by omega)
                                  · skip
                                    refine g_aload_n dX12_settled_232 rfl ?_
                                    refine gR_X12_166 rfl dX12_settled_233 sh_98 (b := 149) (m_98_77 hMh25) ?_
                                    refine g_iload_n dX12_settled_236 rfl (fun _ => ?_)
                                    refine g_iload dX12_settled_237 rfl (fun _ => ?_)
                                    refine g_iastB dX12_settled_239 sh_149 (by omega) (by omega) (fun h35 eh35 => ?_)
                                    have hFh35 := Fr.ar eh35
                                    have hMh35 := u_149 hMh25 eh35 (by omega) (by omega)
                                    refine g_iload dX12_settled_240 rfl (fun _ => ?_)
                                    refine g_iconst dX12_settled_242 (inR_c rfl) ?_
                                    refine g_isubB dX12_settled_243 (by omega) (by omega) ?_
                                    refine g_iload_n dX12_settled_244 rfl (fun _ => ?_)
                                    refine g_iandX (lo := 0) (hi := (y24 - 1)) dX12_settled_245 (iand_l (by omega) (by omega)) (fun v36 ev36 bv36 cv36 => ?_)
                                    refine g_istore dX12_settled_246 (by decide) rfl ?_
                                    refine g_goto 195 dX12_settled_248 (by decide) ?_
                                    refine g_drop 6 ?_
                                    exact ih195 _ _ hMh35 (Fr.tr (Fr.sub hFh25 rfl) hFh35 rfl) (by omega) (by omega) (by omega)
                            refine g_istore dX12_settled_193 (by decide) rfl ?_
                            refine g_drop 4 ?_
                            exact c195 129 _ _ hMh22 Fr.rf (by omega) (by omega) (by omega)
                          · skip
                            refine g_iconst dX12_settled_180 (inR_c rfl) ?_
                            refine g_goto 187 dX12_settled_181 (by decide) ?_
                            refine g_iastB dX12_settled_187 sh_149 (by omega) (by omega) (fun h37 eh37 => ?_)
                            have hFh37 := Fr.ar eh37
                            have hMh37 := u_149 hMh10 eh37 (by omega) (by omega)
                            refine g_iload_n dX12_settled_188 rfl (fun _ => ?_)
                            refine g_iconst dX12_settled_189 (inR_c rfl) ?_
                            refine g_isubB dX12_settled_190 (by omega) (by omega) ?_
                            refine g_iload_n dX12_settled_191 rfl (fun _ => ?_)
                            refine g_iandX (lo := 0) (hi := (y9 - 1)) dX12_settled_192 (iand_l (by omega) (by omega)) (fun v38 ev38 bv38 cv38 => ?_)
                            have c195 : ∀ (n : Nat) (y39 : Int) (h40 : MEM), MBm h40 → Fr [(149, 0)] h37 h40 → 0 ≤ y39 → y39 ≤ 127 → y39 < (n : Int) → G yX12_settled cX12_settled 7 (some .int) none Po (2, 120, 0, 0) 195 [some (pR 98), some (pI x1), some (pI y4), some (pI y9), none, some (pI y39), none] [] SH h40 0 0 := by
                              intro n
                              induction n with
                              | zero =>
                                intro y39 h40 hMh40 hFh40 by39 dy39 hn
                                exfalso; omega
                              | succ n ih195 =>
                                intro y39 h40 hMh40 hFh40 by39 dy39 hn
                                refine g_iload dX12_settled_195 rfl (fun _ => ?_)
                                refine g_if_le 251 dX12_settled_197 (by decide) (fun q41 => ?_) (fun q41 => ?_)
                                · skip
                                  refine g_iincB dX12_settled_251 rfl rfl (by omega) (by omega) ?_
                                  refine g_goto 112 dX12_settled_254 (by decide) ?_
                                  refine g_drop 5 ?_
                                  exact ih112 _ _ hMh40 (Fr.tr (Fr.tr (Fr.sub hFh10 rfl) hFh37 rfl) hFh40 rfl) (by omega) (by omega) (by omega)
                                · skip
                                  refine g_aload_n dX12_settled_200 rfl ?_
                                  refine gR_X12_166 rfl dX12_settled_201 sh_98 (b := 149) (m_98_77 hMh40) ?_
                                  refine g_iload dX12_settled_204 rfl (fun _ => ?_)
                                  refine g_ialdB dX12_settled_206 sh_149 (by omega) (by omega) (m_149 hMh40 _) (fun v42 ev42 bv42 cv42 => ?_)
                                  refine g_aload_n dX12_settled_207 rfl ?_
                                  refine gR_X12_166 rfl dX12_settled_208 sh_98 (b := 149) (m_98_77 hMh40) ?_
                                  refine g_iload_n dX12_settled_211 rfl (fun _ => ?_)
                                  refine g_iload dX12_settled_212 rfl (fun _ => ?_)
                                  refine g_iconst dX12_settled_214 (inR_c rfl) ?_
                                  refine g_ixorF dX12_settled_215 (fun v43 ev43 bv43 cv43 => ?_)
                                  refine g_iandX (lo := 0) (hi := y9) dX12_settled_216 (iand_l (by omega) (by omega)) (fun v44 ev44 bv44 cv44 => ?_)
                                  refine g_ialdB dX12_settled_217 sh_149 (by omega) (by omega) (m_149 hMh40 _) (fun v45 ev45 bv45 cv45 => ?_)
                                  refine g_iaddF dX12_settled_218 (fun v46 bv46 cv46 => ?_)
                                  refine g_istore dX12_settled_219 (by decide) rfl ?_
                                  refine g_iload dX12_settled_221 rfl (fun _ => ?_)
                                  refine g_aload_n dX12_settled_223 rfl ?_
                                  refine gR_X12_166 rfl dX12_settled_224 sh_98 (b := 149) (m_98_77 hMh40) ?_
                                  refine g_iload_n dX12_settled_227 rfl (fun _ => ?_)
                                  refine g_ialdB dX12_settled_228 sh_149 (by omega) (by omega) (m_149 hMh40 _) (fun v47 ev47 bv47 cv47 => ?_)
                                  refine g_icmp_le 240 dX12_settled_229 (by decide) (fun q48 => ?_) (fun q48 => ?_)
                                  · skip
                                    refine g_iload dX12_settled_240 rfl (fun _ => ?_)
                                    refine g_iconst dX12_settled_242 (inR_c rfl) ?_
                                    refine g_isubB dX12_settled_243 (by omega) (by omega) ?_
                                    refine g_iload_n dX12_settled_244 rfl (fun _ => ?_)
                                    refine g_iandX (lo := 0) (hi := (y39 - 1)) dX12_settled_245 (iand_l (by omega) (by omega)) (fun v49 ev49 bv49 cv49 => ?_)
                                    refine g_istore dX12_settled_246 (by decide) rfl ?_
                                    refine g_goto 195 dX12_settled_248 (by decide) ?_
                                    refine g_drop 6 ?_
                                    exact ih195 _ _ hMh40 (Fr.sub hFh40 rfl) (by omega) (by omega) (by omega)
                                  · skip
                                    refine g_aload_n dX12_settled_232 rfl ?_
                                    refine gR_X12_166 rfl dX12_settled_233 sh_98 (b := 149) (m_98_77 hMh40) ?_
                                    refine g_iload_n dX12_settled_236 rfl (fun _ => ?_)
                                    refine g_iload dX12_settled_237 rfl (fun _ => ?_)
                                    refine g_iastB dX12_settled_239 sh_149 (by omega) (by omega) (fun h50 eh50 => ?_)
                                    have hFh50 := Fr.ar eh50
                                    have hMh50 := u_149 hMh40 eh50 (by omega) (by omega)
                                    refine g_iload dX12_settled_240 rfl (fun _ => ?_)
                                    refine g_iconst dX12_settled_242 (inR_c rfl) ?_
                                    refine g_isubB dX12_settled_243 (by omega) (by omega) ?_
                                    refine g_iload_n dX12_settled_244 rfl (fun _ => ?_)
                                    refine g_iandX (lo := 0) (hi := (y39 - 1)) dX12_settled_245 (iand_l (by omega) (by omega)) (fun v51 ev51 bv51 cv51 => ?_)
                                    refine g_istore dX12_settled_246 (by decide) rfl ?_
                                    refine g_goto 195 dX12_settled_248 (by decide) ?_
                                    refine g_drop 6 ?_
                                    exact ih195 _ _ hMh50 (Fr.tr (Fr.sub hFh40 rfl) hFh50 rfl) (by omega) (by omega) (by omega)
                            refine g_istore dX12_settled_193 (by decide) rfl ?_
                            refine g_drop 4 ?_
                            exact c195 129 _ _ hMh37 Fr.rf (by omega) (by omega) (by omega)
                        · skip
                          refine g_iconst dX12_settled_171 (inR_c rfl) ?_
                          refine g_goto 187 dX12_settled_172 (by decide) ?_
                          refine g_iastB dX12_settled_187 sh_149 (by omega) (by omega) (fun h52 eh52 => ?_)
                          have hFh52 := Fr.ar eh52
                          have hMh52 := u_149 hMh10 eh52 (by omega) (by omega)
                          refine g_iload_n dX12_settled_188 rfl (fun _ => ?_)
                          refine g_iconst dX12_settled_189 (inR_c rfl) ?_
                          refine g_isubB dX12_settled_190 (by omega) (by omega) ?_
                          refine g_iload_n dX12_settled_191 rfl (fun _ => ?_)
                          refine g_iandX (lo := 0) (hi := y9) dX12_settled_192 (iand_r (by omega) (by omega)) (fun v53 ev53 bv53 cv53 => ?_)
                          have c195 : ∀ (n : Nat) (y54 : Int) (h55 : MEM), MBm h55 → Fr [(149, 0)] h52 h55 → 0 ≤ y54 → y54 ≤ 127 → y54 < (n : Int) → G yX12_settled cX12_settled 7 (some .int) none Po (2, 120, 0, 0) 195 [some (pR 98), some (pI x1), some (pI y4), some (pI y9), none, some (pI y54), none] [] SH h55 0 0 := by
                            intro n
                            induction n with
                            | zero =>
                              intro y54 h55 hMh55 hFh55 by54 dy54 hn
                              exfalso; omega
                            | succ n ih195 =>
                              intro y54 h55 hMh55 hFh55 by54 dy54 hn
                              refine g_iload dX12_settled_195 rfl (fun _ => ?_)
                              refine g_if_le 251 dX12_settled_197 (by decide) (fun q56 => ?_) (fun q56 => ?_)
                              · skip
                                refine g_iincB dX12_settled_251 rfl rfl (by omega) (by omega) ?_
                                refine g_goto 112 dX12_settled_254 (by decide) ?_
                                refine g_drop 5 ?_
                                exact ih112 _ _ hMh55 (Fr.tr (Fr.tr (Fr.sub hFh10 rfl) hFh52 rfl) hFh55 rfl) (by omega) (by omega) (by omega)
                              · skip
                                refine g_aload_n dX12_settled_200 rfl ?_
                                refine gR_X12_166 rfl dX12_settled_201 sh_98 (b := 149) (m_98_77 hMh55) ?_
                                refine g_iload dX12_settled_204 rfl (fun _ => ?_)
                                refine g_ialdB dX12_settled_206 sh_149 (by omega) (by omega) (m_149 hMh55 _) (fun v57 ev57 bv57 cv57 => ?_)
                                refine g_aload_n dX12_settled_207 rfl ?_
                                refine gR_X12_166 rfl dX12_settled_208 sh_98 (b := 149) (m_98_77 hMh55) ?_
                                refine g_iload_n dX12_settled_211 rfl (fun _ => ?_)
                                refine g_iload dX12_settled_212 rfl (fun _ => ?_)
                                refine g_iconst dX12_settled_214 (inR_c rfl) ?_
                                refine g_ixorF dX12_settled_215 (fun v58 ev58 bv58 cv58 => ?_)
                                refine g_iandX (lo := 0) (hi := y9) dX12_settled_216 (iand_l (by omega) (by omega)) (fun v59 ev59 bv59 cv59 => ?_)
                                refine g_ialdB dX12_settled_217 sh_149 (by omega) (by omega) (m_149 hMh55 _) (fun v60 ev60 bv60 cv60 => ?_)
                                refine g_iaddF dX12_settled_218 (fun v61 bv61 cv61 => ?_)
                                refine g_istore dX12_settled_219 (by decide) rfl ?_
                                refine g_iload dX12_settled_221 rfl (fun _ => ?_)
                                refine g_aload_n dX12_settled_223 rfl ?_
                                refine gR_X12_166 rfl dX12_settled_224 sh_98 (b := 149) (m_98_77 hMh55) ?_
                                refine g_iload_n dX12_settled_227 rfl (fun _ => ?_)
                                refine g_ialdB dX12_settled_228 sh_149 (by omega) (by omega) (m_149 hMh55 _) (fun v62 ev62 bv62 cv62 => ?_)
                                refine g_icmp_le 240 dX12_settled_229 (by decide) (fun q63 => ?_) (fun q63 => ?_)
                                · skip
                                  refine g_iload dX12_settled_240 rfl (fun _ => ?_)
                                  refine g_iconst dX12_settled_242 (inR_c rfl) ?_
                                  refine g_isubB dX12_settled_243 (by omega) (by omega) ?_
                                  refine g_iload_n dX12_settled_244 rfl (fun _ => ?_)
                                  refine g_iandX (lo := 0) (hi := y9) dX12_settled_245 (iand_r (by omega) (by omega)) (fun v64 ev64 bv64 cv64 => ?_)
                                  refine g_istore dX12_settled_246 (by decide) rfl ?_
                                  refine g_goto 195 dX12_settled_248 (by decide) ?_
                                  refine g_drop 6 ?_
                                  exact ih195 _ _ hMh55 (Fr.sub hFh55 rfl) (by omega) (by omega) (by omega)
                                · skip
                                  refine g_aload_n dX12_settled_232 rfl ?_
                                  refine gR_X12_166 rfl dX12_settled_233 sh_98 (b := 149) (m_98_77 hMh55) ?_
                                  refine g_iload_n dX12_settled_236 rfl (fun _ => ?_)
                                  refine g_iload dX12_settled_237 rfl (fun _ => ?_)
                                  refine g_iastB dX12_settled_239 sh_149 (by omega) (by omega) (fun h65 eh65 => ?_)
                                  have hFh65 := Fr.ar eh65
                                  have hMh65 := u_149 hMh55 eh65 (by omega) (by omega)
                                  refine g_iload dX12_settled_240 rfl (fun _ => ?_)
                                  refine g_iconst dX12_settled_242 (inR_c rfl) ?_
                                  refine g_isubB dX12_settled_243 (by omega) (by omega) ?_
                                  refine g_iload_n dX12_settled_244 rfl (fun _ => ?_)
                                  refine g_iandX (lo := 0) (hi := y9) dX12_settled_245 (iand_r (by omega) (by omega)) (fun v66 ev66 bv66 cv66 => ?_)
                                  refine g_istore dX12_settled_246 (by decide) rfl ?_
                                  refine g_goto 195 dX12_settled_248 (by decide) ?_
                                  refine g_drop 6 ?_
                                  exact ih195 _ _ hMh65 (Fr.tr (Fr.sub hFh55 rfl) hFh65 rfl) (by omega) (by omega) (by omega)
                          refine g_istore dX12_settled_193 (by decide) rfl ?_
                          refine g_drop 4 ?_
                          exact c195 129 _ _ hMh52 Fr.rf (by omega) (by omega) (by omega)
                      · skip
                        refine g_iload dX12_settled_131 rfl (fun _ => ?_)
                        refine g_iload_n dX12_settled_133 rfl (fun _ => ?_)
                        refine g_iload dX12_settled_134 rfl (fun _ => ?_)
                        refine g_cSP (av := [_, _]) (c_X12_has _ _ h10 hMh10 (by omega) (by omega) (by omega) (by omega)) dX12_settled_136 mi_X12_has st_X12_has ml_X12_362 rfl rfl rfl rfl (Nat.le_of_ble_eq_true rfl) (fun v67 q68 => ?_)
                        obtain ⟨bv67, cv67, zv67⟩ := q68
                        refine g_if_eq 152 dX12_settled_139 (by decide) (fun q69 => ?_) (fun q69 => ?_)
                        · skip
                          refine g_iconst dX12_settled_152 (inR_c rfl) ?_
                          refine g_iaddB dX12_settled_153 (by omega) (by omega) ?_
                          refine g_istore dX12_settled_154 (by decide) rfl ?_
                          refine g_iincB dX12_settled_156 rfl rfl (by omega) (by omega) ?_
                          refine g_goto 125 dX12_settled_159 (by decide) ?_
                          exact ih125 _ _ (by omega) (by omega) (by omega) (by omega) (by omega)
                        · skip
                          refine g_aload_n dX12_settled_142 rfl ?_
                          refine gR_X12_163 rfl dX12_settled_143 sh_98 (b := 148) (m_98_76 hMh10) ?_
                          refine g_iload dX12_settled_146 rfl (fun _ => ?_)
                          refine g_ialdB dX12_settled_148 sh_148 (by omega) (by omega) (m_148 hMh10 _) (fun v70 ev70 bv70 cv70 => ?_)
                          refine g_goto 153 dX12_settled_149 (by decide) ?_
                          refine g_iaddF dX12_settled_153 (fun v71 bv71 cv71 => ?_)
                          refine g_istore dX12_settled_154 (by decide) rfl ?_
                          refine g_iincB dX12_settled_156 rfl rfl (by omega) (by omega) ?_
                          refine g_goto 125 dX12_settled_159 (by decide) ?_
                          exact ih125 _ _ (by omega) (by omega) (by omega) (by omega) (by omega)
                  refine g_istore dX12_settled_123 (by decide) rfl ?_
                  exact c125 8 _ _ (by omega) (by omega) (by omega) (by omega) (by omega)
            refine g_istore_n dX12_settled_111 (by decide) rfl ?_
            exact c112 129 _ _ hMh6 Fr.rf (by omega) (by omega) (by omega)
          · skip
            refine g_bipush dX12_settled_107 (inR_c rfl) (by decide) ?_
            exact g_ireturn dX12_settled_109 retI (hPo _ _ ⟨hMh6, (Fr.sub hFh6 rfl), (by omega), (by omega)⟩)
        · skip
          refine g_iload_n dX12_settled_22 rfl (fun _ => ?_)
          refine g_bipush dX12_settled_23 (inR_c rfl) (by decide) ?_
          refine g_icmp_ge 50 dX12_settled_25 (by decide) (fun q72 => ?_) (fun q72 => ?_)
          · skip
            refine g_iload_n dX12_settled_50 rfl (fun _ => ?_)
            refine g_bipush dX12_settled_51 (inR_c rfl) (by decide) ?_
            refine g_isubB dX12_settled_53 (by omega) (by omega) ?_
            refine g_aload_n dX12_settled_54 rfl ?_
            refine gI_X12_182 rfl dX12_settled_55 sh_98 (m_98_4 hMh6) (fun v73 ev73 bv73 cv73 => ?_)
            refine g_icmp_ge 73 dX12_settled_58 (by decide) (fun q74 => ?_) (fun q74 => ?_)
            · skip
              refine g_iconst dX12_settled_73 (inR_c rfl) ?_
              refine g_istore dX12_settled_74 (by decide) rfl ?_
              refine g_iload dX12_settled_76 rfl (fun _ => ?_)
              refine g_if_ne 84 dX12_settled_78 (by decide) (fun _ => by exfalso; omega) (fun q75 => ?_)
              refine g_goto 95 dX12_settled_81 (by decide) ?_
              refine g_iincB dX12_settled_95 rfl rfl (by omega) (by omega) ?_
              refine g_goto 16 dX12_settled_98 (by decide) ?_
              refine g_drop 4 ?_
              exact ih16 _ _ _ hMh6 (Fr.sub hFh6 rfl) (by omega) (by omega) (by omega) (by omega) (by omega) (by omega)
            · skip
              refine g_aload_n dX12_settled_61 rfl ?_
              refine g_iconst dX12_settled_62 (inR_c rfl) ?_
              refine g_iload_n dX12_settled_63 rfl (fun _ => ?_)
              refine g_bipush dX12_settled_64 (inR_c rfl) (by decide) ?_
              refine g_isubB dX12_settled_66 (by omega) (by omega) ?_
              refine g_cVP (as := [_, _]) (c_X12_owed_98 _ _ h6 hMh6 (by omega) (by omega) (by omega) (by omega)) dX12_settled_67 mi_X12_owed in_X12_owed se_X12_owed ml_X12_414 rfl rfl rfl sh_98 rfl rfl (Nat.le_of_ble_eq_true rfl) (fun v76 q77 => ?_)
              obtain ⟨bv76, cv76⟩ := q77
              refine g_goto 74 dX12_settled_70 (by decide) ?_
              refine g_istore dX12_settled_74 (by decide) rfl ?_
              refine g_iload dX12_settled_76 rfl (fun _ => ?_)
              refine g_if_ne 84 dX12_settled_78 (by decide) (fun q78 => ?_) (fun q78 => ?_)
              · skip
                refine g_aload_n dX12_settled_84 rfl ?_
                refine gR_X12_163 rfl dX12_settled_85 sh_98 (b := 148) (m_98_76 hMh6) ?_
                refine g_iload_n dX12_settled_88 rfl (fun _ => ?_)
                refine g_iload dX12_settled_89 rfl (fun _ => ?_)
                refine g_iastB dX12_settled_91 sh_148 (by omega) (by omega) (fun h79 eh79 => ?_)
                have hFh79 := Fr.ar eh79
                have hMh79 := u_148 hMh6 eh79 (by omega) (by omega)
                refine g_iincB dX12_settled_92 rfl rfl (by omega) (by omega) ?_
                refine g_iincB dX12_settled_95 rfl rfl (by omega) (by omega) ?_
                refine g_goto 16 dX12_settled_98 (by decide) ?_
                refine g_drop 4 ?_
                exact ih16 _ _ _ hMh79 (Fr.tr (Fr.sub hFh6 rfl) hFh79 rfl) (by omega) (by omega) (by omega) (by omega) (by omega) (by omega)
              · skip
                refine g_goto 95 dX12_settled_81 (by decide) ?_
                refine g_iincB dX12_settled_95 rfl rfl (by omega) (by omega) ?_
                refine g_goto 16 dX12_settled_98 (by decide) ?_
                refine g_drop 4 ?_
                exact ih16 _ _ _ hMh6 (Fr.sub hFh6 rfl) (by omega) (by omega) (by omega) (by omega) (by omega) (by omega)
          · skip
            refine g_iload_n dX12_settled_28 rfl (fun _ => ?_)
            refine g_aload_n dX12_settled_29 rfl ?_
            refine gI_X12_179 rfl dX12_settled_30 sh_98 (m_98_3 hMh6) (fun v80 ev80 bv80 cv80 => ?_)
            refine g_icmp_ge 46 dX12_settled_33 (by decide) (fun q81 => ?_) (fun q81 => ?_)
            · skip
              refine g_iconst dX12_settled_46 (inR_c rfl) ?_
              refine g_goto 74 dX12_settled_47 (by decide) ?_
              refine g_istore dX12_settled_74 (by decide) rfl ?_
              refine g_iload dX12_settled_76 rfl (fun _ => ?_)
              refine g_if_ne 84 dX12_settled_78 (by decide) (fun _ => by exfalso; omega) (fun q82 => ?_)
              refine g_goto 95 dX12_settled_81 (by decide) ?_
              refine g_iincB dX12_settled_95 rfl rfl (by omega) (by omega) ?_
              refine g_goto 16 dX12_settled_98 (by decide) ?_
              refine g_drop 4 ?_
              exact ih16 _ _ _ hMh6 (Fr.sub hFh6 rfl) (by omega) (by omega) (by omega) (by omega) (by omega) (by omega)
            · skip
              refine g_aload_n dX12_settled_36 rfl ?_
              refine g_iload_n dX12_settled_37 rfl (fun _ => ?_)
              refine g_iconst dX12_settled_38 (inR_c rfl) ?_
              refine g_cVP (as := [_, _]) (c_X12_owed_98 _ _ h6 hMh6 (by omega) (by omega) (by omega) (by omega)) dX12_settled_39 mi_X12_owed in_X12_owed se_X12_owed ml_X12_414 rfl rfl rfl sh_98 rfl rfl (Nat.le_of_ble_eq_true rfl) (fun v83 q84 => ?_)
              obtain ⟨bv83, cv83⟩ := q84
              refine g_inegF dX12_settled_42 (fun v85 bv85 cv85 => ?_)
              refine g_goto 74 dX12_settled_43 (by decide) ?_
              refine g_istore dX12_settled_74 (by decide) rfl ?_
              refine g_iload dX12_settled_76 rfl (fun _ => ?_)
              refine g_if_ne 84 dX12_settled_78 (by decide) (fun q86 => ?_) (fun q86 => ?_)
              · skip
                refine g_aload_n dX12_settled_84 rfl ?_
                refine gR_X12_163 rfl dX12_settled_85 sh_98 (b := 148) (m_98_76 hMh6) ?_
                refine g_iload_n dX12_settled_88 rfl (fun _ => ?_)
                refine g_iload dX12_settled_89 rfl (fun _ => ?_)
                refine g_iastB dX12_settled_91 sh_148 (by omega) (by omega) (fun h87 eh87 => ?_)
                have hFh87 := Fr.ar eh87
                have hMh87 := u_148 hMh6 eh87 (by omega) (by omega)
                refine g_iincB dX12_settled_92 rfl rfl (by omega) (by omega) ?_
                refine g_iincB dX12_settled_95 rfl rfl (by omega) (by omega) ?_
                refine g_goto 16 dX12_settled_98 (by decide) ?_
                refine g_drop 4 ?_
                exact ih16 _ _ _ hMh87 (Fr.tr (Fr.sub hFh6 rfl) hFh87 rfl) (by omega) (by omega) (by omega) (by omega) (by omega) (by omega)
              · skip
                refine g_goto 95 dX12_settled_81 (by decide) ?_
                refine g_iincB dX12_settled_95 rfl rfl (by omega) (by omega) ?_
                refine g_goto 16 dX12_settled_98 (by decide) ?_
                refine g_drop 4 ?_
                exact ih16 _ _ _ hMh6 (Fr.sub hFh6 rfl) (by omega) (by omega) (by omega) (by omega) (by omega) (by omega)
    refine g_istore_n dX12_settled_15 (by decide) rfl ?_
    exact c16 17 _ _ _ hM Fr.rf (by omega) (by omega) (by omega) (by omega) (by omega) (by omega)
  · skip
    refine g_if_ne 12 dX12_settled_7 (by decide) (fun _ => by exfalso; omega) (fun q88 => ?_)
    refine g_iconst dX12_settled_10 (inR_c rfl) ?_
    exact g_ireturn dX12_settled_11 retI (hPo _ _ ⟨hM, Fr.rf, (by omega), (by omega)⟩)
