set_option maxRecDepth 100000 in
set_option maxHeartbeats 4000000 in
theorem c_X6_allSlates_22 (h : MEM) (hM : MBx h) : CP yX6_allSlates cX6_allSlates 3 (some .int) 1 [pR 22] h (fun x => -2147483648 ≤ x ∧ x ≤ 2147483647) := by
  refine CP.of (L0 := [some (pR 22), none, none]) rfl (Nat.le_of_ble_eq_true rfl) rfl (fun Po hPo hav => ?_)
  refine g_iconst dX6_allSlates_0 (inR_c rfl) ?_
  refine g_istore_n dX6_allSlates_1 (by decide) rfl ?_
  refine g_iconst dX6_allSlates_2 (inR_c rfl) ?_
  have c4 : ∀ (n : Nat) (y1 y2 : Int) , -2147483648 ≤ y1 → y1 ≤ 2147483647 → 0 ≤ y2 → y2 ≤ 10 → 10 - y2 < (n : Int) → G yX6_allSlates cX6_allSlates 3 (some .int) none Po (1, 60, 0, 0) 4 [some (pR 22), some (pI y1), some (pI y2)] [] SH h 0 0 := by
    intro n
    induction n with
    | zero =>
      intro y1 y2 by1 dy1 by2 dy2 hn
      exfalso; omega
    | succ n ih4 =>
      intro y1 y2 by1 dy1 by2 dy2 hn
      refine g_iload_n dX6_allSlates_4 rfl (fun _ => ?_)
      refine g_aload_n dX6_allSlates_5 rfl ?_
      refine gI_X6_9 rfl dX6_allSlates_6 sh_22 (m_22_0 hM) (fun v3 ev3 bv3 cv3 => ?_)
      refine g_icmp_ge 27 dX6_allSlates_9 (by decide) (fun q4 => ?_) (fun q4 => ?_)
      · skip
        refine g_iload_n dX6_allSlates_27 rfl (fun _ => ?_)
        exact g_ireturn dX6_allSlates_28 retI (hPo _ ⟨(by omega), (by omega)⟩)
      · skip
        refine g_iload_n dX6_allSlates_12 rfl (fun _ => ?_)
        refine g_aload_n dX6_allSlates_13 rfl ?_
        refine gR_X6_19 rfl dX6_allSlates_14 sh_22 (b := 24) (m_22_2 hM) ?_
        refine g_iload_n dX6_allSlates_17 rfl (fun _ => ?_)
        refine g_ialdB dX6_allSlates_18 sh_24 (by omega) (by omega) (m_24 hM _) (fun v5 ev5 bv5 cv5 => ?_)
        refine g_iaddF dX6_allSlates_19 (fun v6 bv6 cv6 => ?_)
        refine g_istore_n dX6_allSlates_20 (by decide) rfl ?_
        refine g_iincB dX6_allSlates_21 rfl rfl (by omega) (by omega) ?_
        refine g_goto 4 dX6_allSlates_24 (by decide) ?_
        exact ih4 _ _ (by omega) (by omega) (by omega) (by omega) (by omega)
  refine g_istore_n dX6_allSlates_3 (by decide) rfl ?_
  exact c4 11 _ _ (by omega) (by omega) (by omega) (by omega) (by omega)
set_option maxRecDepth 100000 in
set_option maxHeartbeats 4000000 in
theorem c_X4_allBruises_32 (h : MEM) (hM : MBx h) : CP yX4_allBruises cX4_allBruises 3 (some .int) 1 [pR 32] h (fun x => -2147483648 ≤ x ∧ x ≤ 2147483647) := by
  refine CP.of (L0 := [some (pR 32), none, none]) rfl (Nat.le_of_ble_eq_true rfl) rfl (fun Po hPo hav => ?_)
  refine g_iconst dX4_allBruises_0 (inR_c rfl) ?_
  refine g_istore_n dX4_allBruises_1 (by decide) rfl ?_
  refine g_iconst dX4_allBruises_2 (inR_c rfl) ?_
  have c4 : ∀ (n : Nat) (y1 y2 : Int) , -2147483648 ≤ y1 → y1 ≤ 2147483647 → 0 ≤ y2 → y2 ≤ 8 → 8 - y2 < (n : Int) → G yX4_allBruises cX4_allBruises 3 (some .int) none Po (1, 60, 0, 0) 4 [some (pR 32), some (pI y1), some (pI y2)] [] SH h 0 0 := by
    intro n
    induction n with
    | zero =>
      intro y1 y2 by1 dy1 by2 dy2 hn
      exfalso; omega
    | succ n ih4 =>
      intro y1 y2 by1 dy1 by2 dy2 hn
      refine g_iload_n dX4_allBruises_4 rfl (fun _ => ?_)
      refine g_aload_n dX4_allBruises_5 rfl ?_
      refine gI_X4_9 rfl dX4_allBruises_6 sh_32 (m_32_0 hM) (fun v3 ev3 bv3 cv3 => ?_)
      refine g_icmp_ge 27 dX4_allBruises_9 (by decide) (fun q4 => ?_) (fun q4 => ?_)
      · skip
        refine g_iload_n dX4_allBruises_27 rfl (fun _ => ?_)
        exact g_ireturn dX4_allBruises_28 retI (hPo _ ⟨(by omega), (by omega)⟩)
      · skip
        refine g_iload_n dX4_allBruises_12 rfl (fun _ => ?_)
        refine g_aload_n dX4_allBruises_13 rfl ?_
        refine gR_X4_25 rfl dX4_allBruises_14 sh_32 (b := 36) (m_32_4 hM) ?_
        refine g_iload_n dX4_allBruises_17 rfl (fun _ => ?_)
        refine g_ialdB dX4_allBruises_18 sh_36 (by omega) (by omega) (m_36 hM _) (fun v5 ev5 bv5 cv5 => ?_)
        refine g_iaddF dX4_allBruises_19 (fun v6 bv6 cv6 => ?_)
        refine g_istore_n dX4_allBruises_20 (by decide) rfl ?_
        refine g_iincB dX4_allBruises_21 rfl rfl (by omega) (by omega) ?_
        refine g_goto 4 dX4_allBruises_24 (by decide) ?_
        exact ih4 _ _ (by omega) (by omega) (by omega) (by omega) (by omega)
  refine g_istore_n dX4_allBruises_3 (by decide) rfl ?_
  exact c4 9 _ _ (by omega) (by omega) (by omega) (by omega) (by omega)
set_option maxRecDepth 100000 in
set_option maxHeartbeats 4000000 in
theorem c_X2_reckon_90_40 (x1 x2 : Int) (h : MEM) (hM : MBx h) (bx1 : -2147483648 ≤ x1) (dx1 : x1 ≤ 2147483647) (bx2 : -2147483648 ≤ x2) (dx2 : x2 ≤ 2147483647) : CI yX2_reckon cX2_reckon 9 (some .int) 2 [pR 90, pI x1, pI x2, pR 40] h (fun x h' => MBx h' ∧ Fr [(97, 0)] h h' ∧ -2147483648 ≤ x ∧ x ≤ 2147483647) := by
  refine CI.of (L0 := [some (pR 90), some (pI x1), some (pI x2), some (pR 40), none, none, none, none, none]) rfl (Nat.le_of_ble_eq_true rfl) rfl (fun Po hPo hav => ?_)
  refine g_iload_n dX2_reckon_0 rfl (fun _ => ?_)
  refine g_istore dX2_reckon_1 (by decide) rfl ?_
  refine g_iconst dX2_reckon_3 (inR_c rfl) ?_
  refine g_istore dX2_reckon_4 (by decide) rfl ?_
  refine g_iconst dX2_reckon_6 (inR_c rfl) ?_
  have c9 : ∀ (n : Nat) (y1 y2 y3 : Int) (h4 : MEM), MBx h4 → Fr [(97, 0)] h h4 → -2147483648 ≤ y1 → y1 ≤ 2147483647 → 0 ≤ y2 → y2 ≤ 40 → 0 ≤ y3 → y3 ≤ 200 → 200 - y3 < (n : Int) → G yX2_reckon cX2_reckon 9 (some .int) none Po (2, 120, 0, 0) 9 [some (pR 90), none, some (pI x2), some (pR 40), some (pI y1), some (pI y2), some (pI y3), none, none] [] SH h4 0 0 := by
    intro n
    induction n with
    | zero =>
      intro y1 y2 y3 h4 hMh4 hFh4 by1 dy1 by2 dy2 by3 dy3 hn
      exfalso; omega
    | succ n ih9 =>
      intro y1 y2 y3 h4 hMh4 hFh4 by1 dy1 by2 dy2 by3 dy3 hn
      refine g_iload dX2_reckon_9 rfl (fun _ => ?_)
      refine g_sipush dX2_reckon_11 (inR_c rfl) (by decide) ?_
      refine g_icmp_ge 289 dX2_reckon_14 (by decide) (fun q5 => ?_) (fun q5 => ?_)
      · skip
        refine g_iload dX2_reckon_289 rfl (fun _ => ?_)
        refine g_if_le 306 dX2_reckon_291 (by decide) (fun q6 => ?_) (fun q6 => ?_)
        · skip
          refine g_iconst dX2_reckon_306 (inR_c rfl) ?_
          exact g_ireturn dX2_reckon_307 retI (hPo _ _ ⟨hMh4, (Fr.sub hFh4 rfl), (by omega), (by omega)⟩)
        · skip
          refine g_aload_n dX2_reckon_294 rfl ?_
          refine gR_X2_37 rfl dX2_reckon_295 sh_90 (b := 97) (m_90_8 hMh4) ?_
          refine g_iload dX2_reckon_298 rfl (fun _ => ?_)
          refine g_iconst dX2_reckon_300 (inR_c rfl) ?_
          refine g_isubB dX2_reckon_301 (by omega) (by omega) ?_
          refine g_ialdB dX2_reckon_302 sh_97 (by omega) (by omega) (m_97 hMh4 _) (fun v7 ev7 bv7 cv7 => ?_)
          refine g_goto 307 dX2_reckon_303 (by decide) ?_
          exact g_ireturn dX2_reckon_307 retI (hPo _ _ ⟨hMh4, (Fr.sub hFh4 rfl), (by omega), (by omega)⟩)
      · skip
        refine g_iload dX2_reckon_17 rfl (fun _ => ?_)
        refine g_if_lt 289 dX2_reckon_19 (by decide) (fun q8 => ?_) (fun q8 => ?_)
        · skip
          refine g_iload dX2_reckon_289 rfl (fun _ => ?_)
          refine g_if_le 306 dX2_reckon_291 (by decide) (fun q9 => ?_) (fun q9 => ?_)
          · skip
            refine g_iconst dX2_reckon_306 (inR_c rfl) ?_
            exact g_ireturn dX2_reckon_307 retI (hPo _ _ ⟨hMh4, (Fr.sub hFh4 rfl), (by omega), (by omega)⟩)
          · skip
            refine g_aload_n dX2_reckon_294 rfl ?_
            refine gR_X2_37 rfl dX2_reckon_295 sh_90 (b := 97) (m_90_8 hMh4) ?_
            refine g_iload dX2_reckon_298 rfl (fun _ => ?_)
            refine g_iconst dX2_reckon_300 (inR_c rfl) ?_
            refine g_isubB dX2_reckon_301 (by omega) (by omega) ?_
            refine g_ialdB dX2_reckon_302 sh_97 (by omega) (by omega) (m_97 hMh4 _) (fun v10 ev10 bv10 cv10 => ?_)
            refine g_goto 307 dX2_reckon_303 (by decide) ?_
            exact g_ireturn dX2_reckon_307 retI (hPo _ _ ⟨hMh4, (Fr.sub hFh4 rfl), (by omega), (by omega)⟩)
        · skip
          refine g_iload dX2_reckon_22 rfl (fun _ => ?_)
          refine g_iload_n dX2_reckon_24 rfl (fun _ => ?_)
          refine g_icmp_ge 289 dX2_reckon_25 (by decide) (fun q11 => ?_) (fun q11 => ?_)
          · skip
            refine g_iload dX2_reckon_289 rfl (fun _ => ?_)
            refine g_if_le 306 dX2_reckon_291 (by decide) (fun q12 => ?_) (fun q12 => ?_)
            · skip
              refine g_iconst dX2_reckon_306 (inR_c rfl) ?_
              exact g_ireturn dX2_reckon_307 retI (hPo _ _ ⟨hMh4, (Fr.sub hFh4 rfl), (by omega), (by omega)⟩)
            · skip
              refine g_aload_n dX2_reckon_294 rfl ?_
              refine gR_X2_37 rfl dX2_reckon_295 sh_90 (b := 97) (m_90_8 hMh4) ?_
              refine g_iload dX2_reckon_298 rfl (fun _ => ?_)
              refine g_iconst dX2_reckon_300 (inR_c rfl) ?_
              refine g_isubB dX2_reckon_301 (by omega) (by omega) ?_
              refine g_ialdB dX2_reckon_302 sh_97 (by omega) (by omega) (m_97 hMh4 _) (fun v13 ev13 bv13 cv13 => ?_)
              refine g_goto 307 dX2_reckon_303 (by decide) ?_
              exact g_ireturn dX2_reckon_307 retI (hPo _ _ ⟨hMh4, (Fr.sub hFh4 rfl), (by omega), (by omega)⟩)
          · skip
            refine g_iload dX2_reckon_28 rfl (fun _ => ?_)
            refine g_aload_n dX2_reckon_30 rfl ?_
            refine gI_X2_15 rfl dX2_reckon_31 sh_90 (m_90_1 hMh4) (fun v14 ev14 bv14 cv14 => ?_)
            refine g_icmp_ge 289 dX2_reckon_34 (by decide) (fun q15 => ?_) (fun q15 => ?_)
            · skip
              refine g_iload dX2_reckon_289 rfl (fun _ => ?_)
              refine g_if_le 306 dX2_reckon_291 (by decide) (fun q16 => ?_) (fun q16 => ?_)
              · skip
                refine g_iconst dX2_reckon_306 (inR_c rfl) ?_
                exact g_ireturn dX2_reckon_307 retI (hPo _ _ ⟨hMh4, (Fr.sub hFh4 rfl), (by omega), (by omega)⟩)
              · skip
                refine g_aload_n dX2_reckon_294 rfl ?_
                refine gR_X2_37 rfl dX2_reckon_295 sh_90 (b := 97) (m_90_8 hMh4) ?_
                refine g_iload dX2_reckon_298 rfl (fun _ => ?_)
                refine g_iconst dX2_reckon_300 (inR_c rfl) ?_
                refine g_isubB dX2_reckon_301 (by omega) (by omega) ?_
                refine g_ialdB dX2_reckon_302 sh_97 (by omega) (by omega) (m_97 hMh4 _) (fun v17 ev17 bv17 cv17 => ?_)
                refine g_goto 307 dX2_reckon_303 (by decide) ?_
                exact g_ireturn dX2_reckon_307 retI (hPo _ _ ⟨hMh4, (Fr.sub hFh4 rfl), (by omega), (by omega)⟩)
            · skip
              refine g_aload_n dX2_reckon_37 rfl ?_
              refine gR_X2_31 rfl dX2_reckon_38 sh_90 (b := 95) (m_90_6 hMh4) ?_
              refine g_iload dX2_reckon_41 rfl (fun _ => ?_)
              refine g_ialdB dX2_reckon_43 sh_95 (by omega) (by omega) (m_95 hMh4 _) (fun v18 ev18 bv18 cv18 => ?_)
              refine g_istore dX2_reckon_44 (by decide) rfl ?_
              refine g_aload_n dX2_reckon_46 rfl ?_
              refine gR_X2_34 rfl dX2_reckon_47 sh_90 (b := 96) (m_90_7 hMh4) ?_
              refine g_iload dX2_reckon_50 rfl (fun _ => ?_)
              refine g_ialdB dX2_reckon_52 sh_96 (by omega) (by omega) (m_96 hMh4 _) (fun v19 ev19 bv19 cv19 => ?_)
              refine g_istore dX2_reckon_53 (by decide) rfl ?_
              refine g_iincB dX2_reckon_55 rfl rfl (by omega) (by omega) ?_
              refine g_iload dX2_reckon_58 rfl (fun _ => ?_)
              refine g_if_eq 69 dX2_reckon_60 (by decide) (fun q20 => ?_) (fun q20 => ?_)
              · skip
                refine g_iload dX2_reckon_69 rfl (fun _ => ?_)
                refine g_bipush dX2_reckon_71 (inR_c rfl) (by decide) ?_
                refine g_icmp_ge 94 dX2_reckon_73 (by decide) (fun q21 => ?_) (fun q21 => ?_)
                · skip
                  refine g_iconst dX2_reckon_94 (inR_c rfl) ?_
                  exact g_ireturn dX2_reckon_95 retI (hPo _ _ ⟨hMh4, (Fr.sub hFh4 rfl), (by omega), (by omega)⟩)
                · skip
                  refine g_iload dX2_reckon_76 rfl (fun _ => ?_)
                  refine g_iconst dX2_reckon_78 (inR_c rfl) ?_
                  refine g_icmp_ne 96 dX2_reckon_79 (by decide) (fun q22 => ?_) (fun _ => by exfalso; omega)
                  refine g_aload_n dX2_reckon_96 rfl ?_
                  refine gR_X2_37 rfl dX2_reckon_97 sh_90 (b := 97) (m_90_8 hMh4) ?_
                  refine g_iload dX2_reckon_100 rfl (fun _ => ?_)
                  refine g_iload dX2_reckon_102 rfl (fun _ => ?_)
                  refine g_if_ne 112 dX2_reckon_104 (by decide) (fun _ => by exfalso; omega) (fun q23 => ?_)
                  refine g_iload dX2_reckon_107 rfl (fun _ => ?_)
                  refine g_goto 116 dX2_reckon_109 (by decide) ?_
                  refine g_iastB dX2_reckon_116 sh_97 (by omega) (by omega) (fun h24 eh24 => ?_)
                  have hFh24 := Fr.ar eh24
                  have hMh24 := u_97 hMh4 eh24 (by omega) (by omega)
                  refine g_iincB dX2_reckon_117 rfl rfl (by omega) (by omega) ?_
                  refine g_goto 283 dX2_reckon_120 (by decide) ?_
                  refine g_iincB dX2_reckon_283 rfl rfl (by omega) (by omega) ?_
                  refine g_goto 9 dX2_reckon_286 (by decide) ?_
                  refine g_drop 7 ?_
                  refine g_drop 8 ?_
                  exact ih9 _ _ _ _ hMh24 (Fr.tr (Fr.sub hFh4 rfl) hFh24 rfl) (by omega) (by omega) (by omega) (by omega) (by omega) (by omega) (by omega)
              · skip
                refine g_iload dX2_reckon_63 rfl (fun _ => ?_)
                refine g_iconst dX2_reckon_65 (inR_c rfl) ?_
                refine g_icmp_ne 123 dX2_reckon_66 (by decide) (fun q25 => ?_) (fun q25 => ?_)
                · skip
                  refine g_iload dX2_reckon_123 rfl (fun _ => ?_)
                  refine g_iconst dX2_reckon_125 (inR_c rfl) ?_
                  refine g_icmp_ge 131 dX2_reckon_126 (by decide) (fun q26 => ?_) (fun q26 => ?_)
                  · skip
                    refine g_iload dX2_reckon_131 rfl (fun _ => ?_)
                    refine g_iconst dX2_reckon_133 (inR_c rfl) ?_
                    refine g_icmp_ne 160 dX2_reckon_134 (by decide) (fun q27 => ?_) (fun q27 => ?_)
                    · skip
                      refine g_iload dX2_reckon_160 rfl (fun _ => ?_)
                      refine g_iconst dX2_reckon_162 (inR_c rfl) ?_
                      refine g_icmp_eq 172 dX2_reckon_163 (by decide) (fun q28 => ?_) (fun q28 => ?_)
                      · skip
                        refine g_aload_n dX2_reckon_172 rfl ?_
                        refine gR_X2_37 rfl dX2_reckon_173 sh_90 (b := 97) (m_90_8 hMh4) ?_
                        refine g_iload dX2_reckon_176 rfl (fun _ => ?_)
                        refine g_iconst dX2_reckon_178 (inR_c rfl) ?_
                        refine g_isubB dX2_reckon_179 (by omega) (by omega) ?_
                        refine g_ialdB dX2_reckon_180 sh_97 (by omega) (by omega) (m_97 hMh4 _) (fun v29 ev29 bv29 cv29 => ?_)
                        refine g_if_eq 188 dX2_reckon_181 (by decide) (fun q30 => ?_) (fun q30 => ?_)
                        · skip
                          refine g_iconst dX2_reckon_188 (inR_c rfl) ?_
                          refine g_iload dX2_reckon_189 rfl (fun _ => ?_)
                          refine g_iconst dX2_reckon_191 (inR_c rfl) ?_
                          refine g_icmp_ne 199 dX2_reckon_192 (by decide) (fun _ => by exfalso; omega) (fun q31 => ?_)
                          refine g_iconst dX2_reckon_195 (inR_c rfl) ?_
                          refine g_goto 200 dX2_reckon_196 (by decide) ?_
                          refine g_icmp_ne 210 dX2_reckon_200 (by decide) (fun q32 => ?_) (fun _ => by exfalso; omega)
                          refine g_iincB dX2_reckon_210 rfl rfl (by omega) (by omega) ?_
                          refine g_goto 283 dX2_reckon_213 (by decide) ?_
                          refine g_iincB dX2_reckon_283 rfl rfl (by omega) (by omega) ?_
                          refine g_goto 9 dX2_reckon_286 (by decide) ?_
                          refine g_drop 7 ?_
                          refine g_drop 8 ?_
                          exact ih9 _ _ _ _ hMh4 (Fr.sub hFh4 rfl) (by omega) (by omega) (by omega) (by omega) (by omega) (by omega) (by omega)
                        · skip
                          refine g_iconst dX2_reckon_184 (inR_c rfl) ?_
                          refine g_goto 189 dX2_reckon_185 (by decide) ?_
                          refine g_iload dX2_reckon_189 rfl (fun _ => ?_)
                          refine g_iconst dX2_reckon_191 (inR_c rfl) ?_
                          refine g_icmp_ne 199 dX2_reckon_192 (by decide) (fun _ => by exfalso; omega) (fun q33 => ?_)
                          refine g_iconst dX2_reckon_195 (inR_c rfl) ?_
                          refine g_goto 200 dX2_reckon_196 (by decide) ?_
                          refine g_icmp_ne 210 dX2_reckon_200 (by decide) (fun _ => by exfalso; omega) (fun q34 => ?_)
                          refine g_iload dX2_reckon_203 rfl (fun _ => ?_)
                          refine g_istore dX2_reckon_205 (by decide) rfl ?_
                          refine g_goto 283 dX2_reckon_207 (by decide) ?_
                          refine g_iincB dX2_reckon_283 rfl rfl (by omega) (by omega) ?_
                          refine g_goto 9 dX2_reckon_286 (by decide) ?_
                          refine g_drop 7 ?_
                          refine g_drop 8 ?_
                          exact ih9 _ _ _ _ hMh4 (Fr.sub hFh4 rfl) (by omega) (by omega) (by omega) (by omega) (by omega) (by omega) (by omega)
                      · skip
                        refine g_iload dX2_reckon_166 rfl (fun _ => ?_)
                        refine g_iconst dX2_reckon_168 (inR_c rfl) ?_
                        refine g_icmp_ne 216 dX2_reckon_169 (by decide) (fun q35 => ?_) (fun q35 => ?_)
                        · skip
                          refine g_iload dX2_reckon_216 rfl (fun _ => ?_)
                          refine g_iconst dX2_reckon_218 (inR_c rfl) ?_
                          refine g_icmp_lt 248 dX2_reckon_219 (by decide) (fun q36 => ?_) (fun q36 => ?_)
                          · skip
                            refine g_iconst dX2_reckon_248 (inR_c rfl) ?_
                            exact g_ireturn dX2_reckon_249 retI (hPo _ _ ⟨hMh4, (Fr.sub hFh4 rfl), (by omega), (by omega)⟩)
                          · skip
                            refine g_aload_n dX2_reckon_222 rfl ?_
                            refine gR_X2_37 rfl dX2_reckon_223 sh_90 (b := 97) (m_90_8 hMh4) ?_
                            refine g_iload dX2_reckon_226 rfl (fun _ => ?_)
                            refine g_iconst dX2_reckon_228 (inR_c rfl) ?_
                            refine g_isubB dX2_reckon_229 (by omega) (by omega) ?_
                            refine g_ialdB dX2_reckon_230 sh_97 (by omega) (by omega) (m_97 hMh4 _) (fun v37 ev37 bv37 cv37 => ?_)
                            refine g_if_ne 250 dX2_reckon_231 (by decide) (fun q38 => ?_) (fun q38 => ?_)
                            · skip
                              refine g_iincB dX2_reckon_250 rfl rfl (by omega) (by omega) ?_
                              refine g_aload_n dX2_reckon_253 rfl ?_
                              refine gR_X2_37 rfl dX2_reckon_254 sh_90 (b := 97) (m_90_8 hMh4) ?_
                              refine g_iload dX2_reckon_257 rfl (fun _ => ?_)
                              refine g_iconst dX2_reckon_259 (inR_c rfl) ?_
                              refine g_isubB dX2_reckon_260 (by omega) (by omega) ?_
                              refine g_iload dX2_reckon_261 rfl (fun _ => ?_)
                              refine g_aload_n dX2_reckon_263 rfl ?_
                              refine gR_X2_37 rfl dX2_reckon_264 sh_90 (b := 97) (m_90_8 hMh4) ?_
                              refine g_iload dX2_reckon_267 rfl (fun _ => ?_)
                              refine g_iconst dX2_reckon_269 (inR_c rfl) ?_
                              refine g_isubB dX2_reckon_270 (by omega) (by omega) ?_
                              refine g_ialdB dX2_reckon_271 sh_97 (by omega) (by omega) (m_97 hMh4 _) (fun v39 ev39 bv39 cv39 => ?_)
                              refine g_aload_n dX2_reckon_272 rfl ?_
                              refine gR_X2_37 rfl dX2_reckon_273 sh_90 (b := 97) (m_90_8 hMh4) ?_
                              refine g_iload dX2_reckon_276 rfl (fun _ => ?_)
                              refine g_ialdE dX2_reckon_278 sh_97 (by omega) (by omega) ev37.symm ?_
                              refine g_cSP (av := [_, _, _]) (c_X2_joined _ _ _ h4 hMh4 (by omega) (by omega) (by omega) (by omega) (by omega) (by omega)) dX2_reckon_279 mi_X2_joined st_X2_joined ml_X2_53 rfl rfl rfl rfl (Nat.le_of_ble_eq_true rfl) (fun v40 q41 => ?_)
                              obtain ⟨bv40, cv40⟩ := q41
                              refine g_iastB dX2_reckon_282 sh_97 (by omega) (by omega) (fun h42 eh42 => ?_)
                              have hFh42 := Fr.ar eh42
                              have hMh42 := u_97 hMh4 eh42 (by omega) (by omega)
                              refine g_iincB dX2_reckon_283 rfl rfl (by omega) (by omega) ?_
                              refine g_goto 9 dX2_reckon_286 (by decide) ?_
                              refine g_drop 7 ?_
                              refine g_drop 8 ?_
                              exact ih9 _ _ _ _ hMh42 (Fr.tr (Fr.sub hFh4 rfl) hFh42 rfl) (by omega) (by omega) (by omega) (by omega) (by omega) (by omega) (by omega)
                            · skip
                              refine g_iload dX2_reckon_234 rfl (fun _ => ?_)
                              refine g_bipush dX2_reckon_236 (inR_c rfl) (by decide) ?_
                              refine g_icmp_eq 248 dX2_reckon_238 (by decide) (fun q43 => ?_) (fun q43 => ?_)
                              · skip
                                refine g_iconst dX2_reckon_248 (inR_c rfl) ?_
                                exact g_ireturn dX2_reckon_249 retI (hPo _ _ ⟨hMh4, (Fr.sub hFh4 rfl), (by omega), (by omega)⟩)
                              · skip
                                refine g_iload dX2_reckon_241 rfl (fun _ => ?_)
                                refine g_bipush dX2_reckon_243 (inR_c rfl) (by decide) ?_
                                refine g_icmp_ne 250 dX2_reckon_245 (by decide) (fun q44 => ?_) (fun q44 => ?_)
                                · skip
                                  refine g_iincB dX2_reckon_250 rfl rfl (by omega) (by omega) ?_
                                  refine g_aload_n dX2_reckon_253 rfl ?_
                                  refine gR_X2_37 rfl dX2_reckon_254 sh_90 (b := 97) (m_90_8 hMh4) ?_
                                  refine g_iload dX2_reckon_257 rfl (fun _ => ?_)
                                  refine g_iconst dX2_reckon_259 (inR_c rfl) ?_
                                  refine g_isubB dX2_reckon_260 (by omega) (by omega) ?_
                                  refine g_iload dX2_reckon_261 rfl (fun _ => ?_)
                                  refine g_aload_n dX2_reckon_263 rfl ?_
                                  refine gR_X2_37 rfl dX2_reckon_264 sh_90 (b := 97) (m_90_8 hMh4) ?_
                                  refine g_iload dX2_reckon_267 rfl (fun _ => ?_)
                                  refine g_iconst dX2_reckon_269 (inR_c rfl) ?_
                                  refine g_isubB dX2_reckon_270 (by omega) (by omega) ?_
                                  refine g_ialdB dX2_reckon_271 sh_97 (by omega) (by omega) (m_97 hMh4 _) (fun v45 ev45 bv45 cv45 => ?_)
                                  refine g_aload_n dX2_reckon_272 rfl ?_
                                  refine gR_X2_37 rfl dX2_reckon_273 sh_90 (b := 97) (m_90_8 hMh4) ?_
                                  refine g_iload dX2_reckon_276 rfl (fun _ => ?_)
                                  refine g_ialdE dX2_reckon_278 sh_97 (by omega) (by omega) ev37.symm ?_
                                  refine g_cSP (av := [_, _, _]) (c_X2_joined _ _ _ h4 hMh4 (by omega) (by omega) (by omega) (by omega) (by omega) (by omega)) dX2_reckon_279 mi_X2_joined st_X2_joined ml_X2_53 rfl rfl rfl rfl (Nat.le_of_ble_eq_true rfl) (fun v46 q47 => ?_)
                                  obtain ⟨bv46, cv46⟩ := q47
                                  refine g_iastB dX2_reckon_282 sh_97 (by omega) (by omega) (fun h48 eh48 => ?_)
                                  have hFh48 := Fr.ar eh48
                                  have hMh48 := u_97 hMh4 eh48 (by omega) (by omega)
                                  refine g_iincB dX2_reckon_283 rfl rfl (by omega) (by omega) ?_
                                  refine g_goto 9 dX2_reckon_286 (by decide) ?_
                                  refine g_drop 7 ?_
                                  refine g_drop 8 ?_
                                  exact ih9 _ _ _ _ hMh48 (Fr.tr (Fr.sub hFh4 rfl) hFh48 rfl) (by omega) (by omega) (by omega) (by omega) (by omega) (by omega) (by omega)
                                · skip
                                  refine g_iconst dX2_reckon_248 (inR_c rfl) ?_
                                  exact g_ireturn dX2_reckon_249 retI (hPo _ _ ⟨hMh4, (Fr.sub hFh4 rfl), (by omega), (by omega)⟩)
                        · skip
                          refine g_aload_n dX2_reckon_172 rfl ?_
                          refine gR_X2_37 rfl dX2_reckon_173 sh_90 (b := 97) (m_90_8 hMh4) ?_
                          refine g_iload dX2_reckon_176 rfl (fun _ => ?_)
                          refine g_iconst dX2_reckon_178 (inR_c rfl) ?_
                          refine g_isubB dX2_reckon_179 (by omega) (by omega) ?_
                          refine g_ialdB dX2_reckon_180 sh_97 (by omega) (by omega) (m_97 hMh4 _) (fun v49 ev49 bv49 cv49 => ?_)
                          refine g_if_eq 188 dX2_reckon_181 (by decide) (fun q50 => ?_) (fun q50 => ?_)
                          · skip
                            refine g_iconst dX2_reckon_188 (inR_c rfl) ?_
                            refine g_iload dX2_reckon_189 rfl (fun _ => ?_)
                            refine g_iconst dX2_reckon_191 (inR_c rfl) ?_
                            refine g_icmp_ne 199 dX2_reckon_192 (by decide) (fun q51 => ?_) (fun _ => by exfalso; omega)
                            refine g_iconst dX2_reckon_199 (inR_c rfl) ?_
                            refine g_icmp_ne 210 dX2_reckon_200 (by decide) (fun _ => by exfalso; omega) (fun q52 => ?_)
                            refine g_iload dX2_reckon_203 rfl (fun _ => ?_)
                            refine g_istore dX2_reckon_205 (by decide) rfl ?_
                            refine g_goto 283 dX2_reckon_207 (by decide) ?_
                            refine g_iincB dX2_reckon_283 rfl rfl (by omega) (by omega) ?_
                            refine g_goto 9 dX2_reckon_286 (by decide) ?_
                            refine g_drop 7 ?_
                            refine g_drop 8 ?_
                            exact ih9 _ _ _ _ hMh4 (Fr.sub hFh4 rfl) (by omega) (by omega) (by omega) (by omega) (by omega) (by omega) (by omega)
                          · skip
                            refine g_iconst dX2_reckon_184 (inR_c rfl) ?_
                            refine g_goto 189 dX2_reckon_185 (by decide) ?_
                            refine g_iload dX2_reckon_189 rfl (fun _ => ?_)
                            refine g_iconst dX2_reckon_191 (inR_c rfl) ?_
                            refine g_icmp_ne 199 dX2_reckon_192 (by decide) (fun q53 => ?_) (fun _ => by exfalso; omega)
                            refine g_iconst dX2_reckon_199 (inR_c rfl) ?_
                            refine g_icmp_ne 210 dX2_reckon_200 (by decide) (fun q54 => ?_) (fun _ => by exfalso; omega)
                            refine g_iincB dX2_reckon_210 rfl rfl (by omega) (by omega) ?_
                            refine g_goto 283 dX2_reckon_213 (by decide) ?_
                            refine g_iincB dX2_reckon_283 rfl rfl (by omega) (by omega) ?_
                            refine g_goto 9 dX2_reckon_286 (by decide) ?_
                            refine g_drop 7 ?_
                            refine g_drop 8 ?_
                            exact ih9 _ _ _ _ hMh4 (Fr.sub hFh4 rfl) (by omega) (by omega) (by omega) (by omega) (by omega) (by omega) (by omega)
                    · skip
                      refine g_aload_n dX2_reckon_137 rfl ?_
                      refine gR_X2_37 rfl dX2_reckon_138 sh_90 (b := 97) (m_90_8 hMh4) ?_
                      refine g_iload dX2_reckon_141 rfl (fun _ => ?_)
                      refine g_iconst dX2_reckon_143 (inR_c rfl) ?_
                      refine g_isubB dX2_reckon_144 (by omega) (by omega) ?_
                      refine g_iconst dX2_reckon_145 (inR_c rfl) ?_
                      refine g_aload_n dX2_reckon_146 rfl ?_
                      refine gR_X2_37 rfl dX2_reckon_147 sh_90 (b := 97) (m_90_8 hMh4) ?_
                      refine g_iload dX2_reckon_150 rfl (fun _ => ?_)
                      refine g_iconst dX2_reckon_152 (inR_c rfl) ?_
                      refine g_isubB dX2_reckon_153 (by omega) (by omega) ?_
                      refine g_ialdB dX2_reckon_154 sh_97 (by omega) (by omega) (m_97 hMh4 _) (fun v55 ev55 bv55 cv55 => ?_)
                      refine g_isubF dX2_reckon_155 (fun v56 bv56 cv56 => ?_)
                      refine g_iastB dX2_reckon_156 sh_97 (by omega) (by omega) (fun h57 eh57 => ?_)
                      have hFh57 := Fr.ar eh57
                      have hMh57 := u_97 hMh4 eh57 (by omega) (by omega)
                      refine g_goto 283 dX2_reckon_157 (by decide) ?_
                      refine g_iincB dX2_reckon_283 rfl rfl (by omega) (by omega) ?_
                      refine g_goto 9 dX2_reckon_286 (by decide) ?_
                      refine g_drop 7 ?_
                      refine g_drop 8 ?_
                      exact ih9 _ _ _ _ hMh57 (Fr.tr (Fr.sub hFh4 rfl) hFh57 rfl) (by omega) (by omega) (by omega) (by omega) (by omega) (by omega) (by omega)
                  · skip
                    refine g_iconst dX2_reckon_129 (inR_c rfl) ?_
                    exact g_ireturn dX2_reckon_130 retI (hPo _ _ ⟨hMh4, (Fr.sub hFh4 rfl), (by omega), (by omega)⟩)
                · skip
                  refine g_iload dX2_reckon_69 rfl (fun _ => ?_)
                  refine g_bipush dX2_reckon_71 (inR_c rfl) (by decide) ?_
                  refine g_icmp_ge 94 dX2_reckon_73 (by decide) (fun q58 => ?_) (fun q58 => ?_)
                  · skip
                    refine g_iconst dX2_reckon_94 (inR_c rfl) ?_
                    exact g_ireturn dX2_reckon_95 retI (hPo _ _ ⟨hMh4, (Fr.sub hFh4 rfl), (by omega), (by omega)⟩)
                  · skip
                    refine g_iload dX2_reckon_76 rfl (fun _ => ?_)
                    refine g_iconst dX2_reckon_78 (inR_c rfl) ?_
                    refine g_icmp_ne 96 dX2_reckon_79 (by decide) (fun _ => by exfalso; omega) (fun q59 => ?_)
                    refine g_iload dX2_reckon_82 rfl (fun _ => ?_)
                    refine g_if_lt 94 dX2_reckon_84 (by decide) (fun q60 => ?_) (fun q60 => ?_)
                    · skip
                      refine g_iconst dX2_reckon_94 (inR_c rfl) ?_
                      exact g_ireturn dX2_reckon_95 retI (hPo _ _ ⟨hMh4, (Fr.sub hFh4 rfl), (by omega), (by omega)⟩)
                    · skip
                      refine g_iload dX2_reckon_87 rfl (fun _ => ?_)
                      refine g_aload_n dX2_reckon_89 rfl ?_
                      refine g_alen dX2_reckon_90 sh_40 (by decide) (by decide) ?_
                      refine g_icmp_lt 96 dX2_reckon_91 (by decide) (fun q61 => ?_) (fun q61 => ?_)
                      · skip
                        refine g_aload_n dX2_reckon_96 rfl ?_
                        refine gR_X2_37 rfl dX2_reckon_97 sh_90 (b := 97) (m_90_8 hMh4) ?_
                        refine g_iload dX2_reckon_100 rfl (fun _ => ?_)
                        refine g_iload dX2_reckon_102 rfl (fun _ => ?_)
                        refine g_if_ne 112 dX2_reckon_104 (by decide) (fun q62 => ?_) (fun _ => by exfalso; omega)
                        refine g_aload_n dX2_reckon_112 rfl ?_
                        refine g_iload dX2_reckon_113 rfl (fun _ => ?_)
                        refine g_ialdB dX2_reckon_115 sh_40 (by omega) (by omega) (m_40 hMh4 _) (fun v63 ev63 bv63 cv63 => ?_)
                        refine g_iastB dX2_reckon_116 sh_97 (by omega) (by omega) (fun h64 eh64 => ?_)
                        have hFh64 := Fr.ar eh64
                        have hMh64 := u_97 hMh4 eh64 (by omega) (by omega)
                        refine g_iincB dX2_reckon_117 rfl rfl (by omega) (by omega) ?_
                        refine g_goto 283 dX2_reckon_120 (by decide) ?_
                        refine g_iincB dX2_reckon_283 rfl rfl (by omega) (by omega) ?_
                        refine g_goto 9 dX2_reckon_286 (by decide) ?_
                        refine g_drop 7 ?_
                        refine g_drop 8 ?_
                        exact ih9 _ _ _ _ hMh64 (Fr.tr (Fr.sub hFh4 rfl) hFh64 rfl) (by omega) (by omega) (by omega) (by omega) (by omega) (by omega) (by omega)
                      · skip
                        refine g_iconst dX2_reckon_94 (inR_c rfl) ?_
                        exact g_ireturn dX2_reckon_95 retI (hPo _ _ ⟨hMh4, (Fr.sub hFh4 rfl), (by omega), (by omega)⟩)
  refine g_istore dX2_reckon_7 (by decide) rfl ?_
  refine g_drop 1 ?_
  exact c9 201 _ _ _ _ hM Fr.rf (by omega) (by omega) (by omega) (by omega) (by omega) (by omega) (by omega)
set_option maxRecDepth 100000 in
set_option maxHeartbeats 4000000 in
theorem c_X2_answer_90_40 (x1 x2 : Int) (h : MEM) (hM : MBx h) (bx1 : 100 ≤ x1) (dx1 : x1 ≤ 109) (bx2 : 9 ≤ x2) (dx2 : x2 ≤ 99) : CI yX2_answer cX2_answer 5 (some .int) 3 [pR 90, pI x1, pI x2, pR 40] h (fun x h' => MBx h' ∧ Fr [(97, 0)] h h' ∧ 0 ≤ x ∧ x ≤ 99) := by
  refine CI.of (L0 := [some (pR 90), some (pI x1), some (pI x2), some (pR 40), none]) rfl (Nat.le_of_ble_eq_true rfl) rfl (fun Po hPo hav => ?_)
  refine g_iconst dX2_answer_0 (inR_c rfl) ?_
  have c3 : ∀ (n : Nat) (y1 : Int) (h2 : MEM), MBx h2 → Fr [(97, 0)] h h2 → 0 ≤ y1 → y1 ≤ 14 → 14 - y1 < (n : Int) → G yX2_answer cX2_answer 5 (some .int) none Po (3, 180, 0, 0) 3 [some (pR 90), some (pI x1), some (pI x2), some (pR 40), some (pI y1)] [] SH h2 0 0 := by
    intro n
    induction n with
    | zero =>
      intro y1 h2 hMh2 hFh2 by1 dy1 hn
      exfalso; omega
    | succ n ih3 =>
      intro y1 h2 hMh2 hFh2 by1 dy1 hn
      refine g_iload dX2_answer_3 rfl (fun _ => ?_)
      refine g_aload_n dX2_answer_5 rfl ?_
      refine gI_X2_9 rfl dX2_answer_6 sh_90 (m_90_0 hMh2) (fun v3 ev3 bv3 cv3 => ?_)
      refine g_icmp_ge 79 dX2_answer_9 (by decide) (fun q4 => ?_) (fun q4 => ?_)
      · skip
        refine g_iconst dX2_answer_79 (inR_c rfl) ?_
        exact g_ireturn dX2_answer_80 retI (hPo _ _ ⟨hMh2, (Fr.sub hFh2 rfl), (by omega), (by omega)⟩)
      · skip
        refine g_aload_n dX2_answer_12 rfl ?_
        refine gR_X2_18 rfl dX2_answer_13 sh_90 (b := 91) (m_90_2 hMh2) ?_
        refine g_iload dX2_answer_16 rfl (fun _ => ?_)
        refine g_ialdB dX2_answer_18 sh_91 (by omega) (by omega) (m_91 hMh2 _) (fun v5 ev5 bv5 cv5 => ?_)
        refine g_iload_n dX2_answer_19 rfl (fun _ => ?_)
        refine g_icmp_ne 73 dX2_answer_20 (by decide) (fun q6 => ?_) (fun q6 => ?_)
        · skip
          refine g_iincB dX2_answer_73 rfl rfl (by omega) (by omega) ?_
          refine g_goto 3 dX2_answer_76 (by decide) ?_
          exact ih3 _ _ hMh2 (Fr.sub hFh2 rfl) (by omega) (by omega) (by omega)
        · skip
          refine g_aload_n dX2_answer_23 rfl ?_
          refine g_aload_n dX2_answer_24 rfl ?_
          refine gR_X2_25 rfl dX2_answer_25 sh_90 (b := 93) (m_90_4 hMh2) ?_
          refine g_iload dX2_answer_28 rfl (fun _ => ?_)
          refine g_ialdB dX2_answer_30 sh_93 (by omega) (by omega) (m_93 hMh2 _) (fun v7 ev7 bv7 cv7 => ?_)
          refine g_aload_n dX2_answer_31 rfl ?_
          refine gR_X2_28 rfl dX2_answer_32 sh_90 (b := 94) (m_90_5 hMh2) ?_
          refine g_iload dX2_answer_35 rfl (fun _ => ?_)
          refine g_ialdB dX2_answer_37 sh_94 (by omega) (by omega) (m_94 hMh2 _) (fun v8 ev8 bv8 cv8 => ?_)
          refine g_aload_n dX2_answer_38 rfl ?_
          refine g_cV (as := [_, _, _]) (c_X2_reckon_90_40 _ _ h2 hMh2 (by omega) (by omega) (by omega) (by omega)) dX2_answer_39 mi_X2_reckon in_X2_reckon se_X2_reckon ml_X2_40 rfl rfl rfl sh_90 rfl rfl (Nat.le_of_ble_eq_true rfl) (fun v9 h10 q11 => ?_)
          obtain ⟨hMh10, hFh10, bv9, cv9⟩ := q11
          refine g_if_eq 73 dX2_answer_42 (by decide) (fun q12 => ?_) (fun q12 => ?_)
          · skip
            refine g_iincB dX2_answer_73 rfl rfl (by omega) (by omega) ?_
            refine g_goto 3 dX2_answer_76 (by decide) ?_
            exact ih3 _ _ hMh10 (Fr.tr (Fr.sub hFh2 rfl) hFh10 rfl) (by omega) (by omega) (by omega)
          · skip
            refine g_iconst dX2_answer_45 (inR_c rfl) ?_
            refine g_iload_n dX2_answer_46 rfl (fun _ => ?_)
            refine g_aload_n dX2_answer_47 rfl ?_
            refine g_aload_n dX2_answer_48 rfl ?_
            refine gR_X2_22 rfl dX2_answer_49 sh_90 (b := 92) (m_90_3 hMh10) ?_
            refine g_iload dX2_answer_52 rfl (fun _ => ?_)
            refine g_ialdB dX2_answer_54 sh_92 (by omega) (by omega) (m_92 hMh10 _) (fun v13 ev13 bv13 cv13 => ?_)
            refine g_aload_n dX2_answer_55 rfl ?_
            refine gR_X2_25 rfl dX2_answer_56 sh_90 (b := 93) (m_90_4 hMh10) ?_
            refine g_iload dX2_answer_59 rfl (fun _ => ?_)
            refine g_ialdE dX2_answer_61 sh_93 (by omega) (by omega) ((hFh10 93 _ rfl).trans ev7.symm) ?_
            refine g_aload_n dX2_answer_62 rfl ?_
            refine g_cV (as := [_, _, _]) (c_X2_reckon_90_40 _ _ h10 hMh10 (by omega) (by omega) (by omega) (by omega)) dX2_answer_63 mi_X2_reckon in_X2_reckon se_X2_reckon ml_X2_40 rfl rfl rfl sh_90 rfl rfl (Nat.le_of_ble_eq_true rfl) (fun v14 h15 q16 => ?_)
            obtain ⟨hMh15, hFh15, bv14, cv14⟩ := q16
            refine g_mmin dX2_answer_66 ml_X2_44 (Nat.le_of_ble_eq_true rfl) (Nat.le_of_ble_eq_true rfl) trivial (fun v17 ev17 => ?_)
            have bv17 : -2147483648 ≤ v17 ∧ v17 ≤ 99 := by omega
            refine g_mmax dX2_answer_69 ml_X2_50 (Nat.le_of_ble_eq_true rfl) (Nat.le_of_ble_eq_true rfl) trivial (fun v18 ev18 => ?_)
            have bv18 : 0 ≤ v18 ∧ v18 ≤ 99 := by omega
            exact g_ireturn dX2_answer_72 retI (hPo _ _ ⟨hMh15, (Fr.tr (Fr.tr (Fr.sub hFh2 rfl) hFh10 rfl) hFh15 rfl), (by omega), (by omega)⟩)
  refine g_istore dX2_answer_1 (by decide) rfl ?_
  exact c3 15 _ _ hM Fr.rf (by omega) (by omega) (by omega)
set_option maxRecDepth 100000 in
set_option maxHeartbeats 4000000 in
theorem c_X9_letFall_21_90 (x1 x2 : Int) (h : MEM) (hM : MBx h) (bx1 : 0 ≤ x1) (dx1 : x1 ≤ 7) (bx2 : 0 ≤ x2) (dx2 : x2 ≤ 9) : CI yX9_letFall cX9_letFall 10 (some .int) 4 [pR 21, pR 90, pI x1, pI x2] h (fun x h' => MBx h' ∧ Fr [(21, 9), (24, 0), (30, 0), (31, 0), (36, 0), (37, 0), (38, 0), (40, 0), (97, 0)] h h' ∧ -2147483648 ≤ x ∧ x ≤ 99) := by
  refine CI.of (L0 := [some (pR 21), some (pR 90), some (pI x1), some (pI x2), none, none, none, none, none, none]) rfl (Nat.le_of_ble_eq_true rfl) rfl (fun Po hPo hav => ?_)
  refine g_aload_n dX9_letFall_0 rfl ?_
  refine gR_X9_21 rfl dX9_letFall_1 sh_21 (b := 26) (m_21_1 hM) ?_
  refine gR_X9_103 rfl dX9_letFall_4 sh_26 (b := 27) (m_26_1 hM) ?_
  refine g_iload_n dX9_letFall_7 rfl (fun _ => ?_)
  refine g_ialdB dX9_letFall_8 sh_27 (by omega) (by omega) (m_27 hM _) (fun v1 ev1 bv1 cv1 => ?_)
  refine g_istore dX9_letFall_9 (by decide) rfl ?_
  refine g_aload_n dX9_letFall_11 rfl ?_
  refine gR_X9_12 rfl dX9_letFall_12 sh_21 (b := 22) (m_21_0 hM) ?_
  refine g_iload dX9_letFall_15 rfl (fun _ => ?_)
  refine g_cVP (as := [_]) (c_X6_has_22 _ h hM (by omega) (by omega)) dX9_letFall_17 mi_X6_has in_X6_has se_X6_has ml_X9_106 rfl rfl rfl sh_22 rfl rfl (Nat.le_of_ble_eq_true rfl) (fun v2 q3 => ?_)
  obtain ⟨v4, ev4⟩ : ∃ z, z = h 22 0 := ⟨_, rfl⟩
  have bv4 : 0 ≤ v4 ∧ v4 ≤ 10 := by rw [ev4]; exact (m_22_0 hM)
  rcases q3 with ⟨rfl, q3⟩ | ⟨rfl, q3⟩
  · skip
    refine g_if_ne 25 dX9_letFall_20 (by decide) (fun q5 => ?_) (fun _ => by exfalso; omega)
    refine g_aload_n dX9_letFall_25 rfl ?_
    refine g_iload_n dX9_letFall_26 rfl (fun _ => ?_)
    refine g_iload dX9_letFall_27 rfl (fun _ => ?_)
    refine g_iload_n dX9_letFall_29 rfl (fun _ => ?_)
    refine g_cVV (as := [_, _, _]) (c_X9_tell_21 _ _ _ h hM (by omega) (by omega) (by omega) (by omega) (by omega) (by omega)) dX9_letFall_30 mi_X9_tell in_X9_tell se_X9_tell ml_X9_107 rfl rfl rfl sh_21 rfl rfl (Nat.le_of_ble_eq_true rfl) (fun h6 q7 => ?_)
    obtain ⟨hMh6, hFh6⟩ := q7
    refine g_aload_n dX9_letFall_33 rfl ?_
    refine g_bipush dX9_letFall_34 (inR_c rfl) (by decide) ?_
    refine g_bipush dX9_letFall_36 (inR_c rfl) (by decide) ?_
    refine g_aload_n dX9_letFall_38 rfl ?_
    refine gR_X9_52 rfl dX9_letFall_39 sh_21 (b := 40) (m_21_9 hMh6) ?_
    refine g_cV (as := [_, _, _]) (c_X2_answer_90_40 _ _ h6 hMh6 (by omega) (by omega) (by omega) (by omega)) dX9_letFall_42 mi_X2_answer in_X2_answer se_X2_answer ml_X9_114 rfl rfl rfl sh_90 rfl rfl (Nat.le_of_ble_eq_true rfl) (fun v8 h9 q10 => ?_)
    obtain ⟨hMh9, hFh9, bv8, cv8⟩ := q10
    refine g_aload_n dX9_letFall_45 rfl ?_
    refine gR_X9_12 rfl dX9_letFall_46 sh_21 (b := 22) (m_21_0 hMh9) ?_
    refine gR_X9_111 rfl dX9_letFall_49 sh_22 (b := 24) (m_22_2 hMh9) ?_
    refine g_iload dX9_letFall_52 rfl (fun _ => ?_)
    refine g_ialdB dX9_letFall_54 sh_24 (by omega) (by omega) (m_24 hMh9 _) (fun v11 ev11 bv11 cv11 => ?_)
    refine g_mmin dX9_letFall_55 ml_X9_123 (Nat.le_of_ble_eq_true rfl) (Nat.le_of_ble_eq_true rfl) trivial (fun v12 ev12 => ?_)
    have bv12 : -2147483648 ≤ v12 ∧ v12 ≤ 99 := by omega
    refine g_istore dX9_letFall_58 (by decide) rfl ?_
    refine g_aload_n dX9_letFall_60 rfl ?_
    refine gR_X9_21 rfl dX9_letFall_61 sh_21 (b := 26) (m_21_1 hMh9) ?_
    refine gR_X9_75 rfl dX9_letFall_64 sh_26 (b := 29) (m_26_3 hMh9) ?_
    refine g_iload_n dX9_letFall_67 rfl (fun _ => ?_)
    refine g_ialdB dX9_letFall_68 sh_29 (by omega) (by omega) (m_29 hMh9 _) (fun v13 ev13 bv13 cv13 => ?_)
    refine g_iconst dX9_letFall_69 (inR_c rfl) ?_
    refine g_icmp_ne 81 dX9_letFall_70 (by decide) (fun q14 => ?_) (fun q14 => ?_)
    · skip
      refine g_iconst dX9_letFall_81 (inR_c rfl) ?_
      have c84 : ∀ (n : Nat) (y15 : Int) (h16 : MEM), MBx h16 → Fr [(21, 9), (24, 0), (30, 0), (31, 0), (36, 0), (37, 0), (38, 0), (40, 0), (97, 0)] h9 h16 → 0 ≤ y15 → y15 ≤ 99 → 99 - y15 < (n : Int) → G yX9_letFall cX9_letFall 10 (some .int) none Po (4, 240, 0, 0) 84 [some (pR 21), some (pR 90), some (pI x1), some (pI x2), some (pI v1), some (pI v12), some (pI y15), none, none, none] [] SH h16 0 0 := by
        intro n
        induction n with
        | zero =>
          intro y15 h16 hMh16 hFh16 by15 dy15 hn
          exfalso; omega
        | succ n ih84 =>
          intro y15 h16 hMh16 hFh16 by15 dy15 hn
          refine g_iload dX9_letFall_84 rfl (fun _ => ?_)
          refine g_iload dX9_letFall_86 rfl (fun _ => ?_)
          refine g_icmp_ge 214 dX9_letFall_88 (by decide) (fun q17 => ?_) (fun q17 => ?_)
          · skip
            refine g_iload dX9_letFall_214 rfl (fun _ => ?_)
            exact g_ireturn dX9_letFall_216 retI (hPo _ _ ⟨hMh16, (Fr.tr (Fr.tr (Fr.sub hFh6 rfl) hFh9 rfl) hFh16 rfl), (by omega), (by omega)⟩)
          · skip
            refine g_aload_n dX9_letFall_91 rfl ?_
            refine gR_X9_12 rfl dX9_letFall_92 sh_21 (b := 22) (m_21_0 hMh16) ?_
            refine gR_X9_111 rfl dX9_letFall_95 sh_22 (b := 24) (m_22_2 hMh16) ?_
            refine g_iload dX9_letFall_98 rfl (fun _ => ?_)
            refine g_dup2 dX9_letFall_100 rfl rfl ?_
            refine g_ialdB dX9_letFall_101 sh_24 (by omega) (by omega) (m_24 hMh16 _) (fun v18 ev18 bv18 cv18 => ?_)
            refine g_iconst dX9_letFall_102 (inR_c rfl) ?_
            refine g_isubF dX9_letFall_103 (fun v19 bv19 cv19 => ?_)
            refine g_iastB dX9_letFall_104 sh_24 (by omega) (by omega) (fun h20 eh20 => ?_)
            have hFh20 := Fr.ar eh20
            have hMh20 := u_24 hMh16 eh20 (by omega) (by omega)
            refine g_aload_n dX9_letFall_105 rfl ?_
            refine gR_X9_21 rfl dX9_letFall_106 sh_21 (b := 26) (m_21_1 hMh20) ?_
            refine gR_X9_129 rfl dX9_letFall_109 sh_26 (b := 30) (m_26_4 hMh20) ?_
            refine g_iload_n dX9_letFall_112 rfl (fun _ => ?_)
            refine g_dup2 dX9_letFall_113 rfl rfl ?_
            refine g_ialdB dX9_letFall_114 sh_30 (by omega) (by omega) (m_30 hMh20 _) (fun v21 ev21 bv21 cv21 => ?_)
            refine g_iconst dX9_letFall_115 (inR_c rfl) ?_
            refine g_iaddF dX9_letFall_116 (fun v22 bv22 cv22 => ?_)
            refine g_iastB dX9_letFall_117 sh_30 (by omega) (by omega) (fun h23 eh23 => ?_)
            have hFh23 := Fr.ar eh23
            have hMh23 := u_30 hMh20 eh23 (by omega) (by omega)
            refine g_aload_n dX9_letFall_118 rfl ?_
            refine gR_X9_28 rfl dX9_letFall_119 sh_21 (b := 32) (m_21_2 hMh23) ?_
            refine g_iload dX9_letFall_122 rfl (fun _ => ?_)
            refine g_cVP (as := [_]) (c_X4_struckBelow_32 _ h23 hMh23 (by omega) (by omega)) dX9_letFall_124 mi_X4_struckBelow in_X4_struckBelow se_X4_struckBelow ml_X9_132 rfl rfl rfl sh_32 rfl rfl (Nat.le_of_ble_eq_true rfl) (fun v24 q25 => ?_)
            obtain ⟨bv24, cv24⟩ := q25
            refine g_istore dX9_letFall_127 (by decide) rfl ?_
            refine g_aload_n dX9_letFall_129 rfl ?_
            refine gR_X9_28 rfl dX9_letFall_130 sh_21 (b := 32) (m_21_2 hMh23) ?_
            refine g_iload dX9_letFall_133 rfl (fun _ => ?_)
            refine g_cVP (as := [_]) (c_X4_has_32 _ h23 hMh23 (by omega) (by omega)) dX9_letFall_135 mi_X4_has in_X4_has se_X4_has ml_X9_78 rfl rfl rfl sh_32 rfl rfl (Nat.le_of_ble_eq_true rfl) (fun v26 q27 => ?_)
            have q28 : h23 32 0 = h 32 0 := ((hFh23 32 0 rfl).trans ((hFh20 32 0 rfl).trans ((hFh16 32 0 rfl).trans ((hFh9 32 0 rfl).trans (hFh6 32 0 rfl)))))
            obtain ⟨v29, ev29⟩ : ∃ z, z = h23 32 0 := ⟨_, rfl⟩
            have bv29 : 0 ≤ v29 ∧ v29 ≤ 8 := by rw [ev29]; exact (m_32_0 hMh23)
            rcases q27 with ⟨rfl, q27⟩ | ⟨rfl, q27⟩
            · skip
              refine g_if_eq 198 dX9_letFall_138 (by decide) (fun _ => by exfalso; omega) (fun q30 => ?_)
              refine g_aload_n dX9_letFall_141 rfl ?_
              refine g_iload_n dX9_letFall_142 rfl (fun _ => ?_)
              refine g_iload dX9_letFall_143 rfl (fun _ => ?_)
              refine g_iload_n dX9_letFall_145 rfl (fun _ => ?_)
              refine g_cVV (as := [_, _, _]) (c_X9_tell_21 _ _ _ h23 hMh23 (by omega) (by omega) (by omega) (by omega) (by omega) (by omega)) dX9_letFall_146 mi_X9_tell in_X9_tell se_X9_tell ml_X9_107 rfl rfl rfl sh_21 rfl rfl (Nat.le_of_ble_eq_true rfl) (fun h31 q32 => ?_)
              obtain ⟨hMh31, hFh31⟩ := q32
              refine g_aload_n dX9_letFall_149 rfl ?_
              refine g_iload_n dX9_letFall_150 rfl (fun _ => ?_)
              refine g_iload dX9_letFall_151 rfl (fun _ => ?_)
              refine g_cVV (as := [_, _]) (c_X9_tellMaster_21 _ _ h31 hMh31 (by omega) (by omega) (by omega) (by omega)) dX9_letFall_153 mi_X9_tellMaster in_X9_tellMaster se_X9_tellMaster ml_X9_136 rfl rfl rfl sh_21 rfl rfl (Nat.le_of_ble_eq_true rfl) (fun h33 q34 => ?_)
              obtain ⟨hMh33, hFh33⟩ := q34
              refine g_aload_n dX9_letFall_156 rfl ?_
              refine g_bipush dX9_letFall_157 (inR_c rfl) (by decide) ?_
              refine g_bipush dX9_letFall_159 (inR_c rfl) (by decide) ?_
              refine g_aload_n dX9_letFall_161 rfl ?_
              refine gR_X9_52 rfl dX9_letFall_162 sh_21 (b := 40) (m_21_9 hMh33) ?_
              refine g_cV (as := [_, _, _]) (c_X2_answer_90_40 _ _ h33 hMh33 (by omega) (by omega) (by omega) (by omega)) dX9_letFall_165 mi_X2_answer in_X2_answer se_X2_answer ml_X9_114 rfl rfl rfl sh_90 rfl rfl (Nat.le_of_ble_eq_true rfl) (fun v35 h36 q37 => ?_)
              obtain ⟨hMh36, hFh36, bv35, cv35⟩ := q37
              refine g_istore dX9_letFall_168 (by decide) rfl ?_
              refine g_aload_n dX9_letFall_170 rfl ?_
              refine g_bipush dX9_letFall_171 (inR_c rfl) (by decide) ?_
              refine g_bipush dX9_letFall_173 (inR_c rfl) (by decide) ?_
              refine g_aload_n dX9_letFall_175 rfl ?_
              refine gR_X9_52 rfl dX9_letFall_176 sh_21 (b := 40) (m_21_9 hMh36) ?_
              refine g_cV (as := [_, _, _]) (c_X2_answer_90_40 _ _ h36 hMh36 (by omega) (by omega) (by omega) (by omega)) dX9_letFall_179 mi_X2_answer in_X2_answer se_X2_answer ml_X9_114 rfl rfl rfl sh_90 rfl rfl (Nat.le_of_ble_eq_true rfl) (fun v38 h39 q40 => ?_)
              obtain ⟨hMh39, hFh39, bv38, cv38⟩ := q40
              refine g_istore dX9_letFall_182 (by decide) rfl ?_
              refine g_aload_n dX9_letFall_184 rfl ?_
              refine g_iload_n dX9_letFall_185 rfl (fun _ => ?_)
              refine g_iload dX9_letFall_186 rfl (fun _ => ?_)
              refine g_iload dX9_letFall_188 rfl (fun _ => ?_)
              refine g_iload dX9_letFall_190 rfl (fun _ => ?_)
              refine g_cVV (as := [_, _, _, _]) (c_X9_bruise_21 _ _ _ _ h39 hMh39 (by omega) (by omega) (by omega) (by omega) (by omega) (by omega) (by omega) (by omega)) dX9_letFall_192 mi_X9_bruise in_X9_bruise se_X9_bruise ml_X9_140 rfl rfl rfl sh_21 rfl rfl (Nat.le_of_ble_eq_true rfl) (fun h41 q42 => ?_)
              obtain ⟨hMh41, hFh41⟩ := q42
              refine g_goto 208 dX9_letFall_195 (by decide) ?_
              refine g_iincB dX9_letFall_208 rfl rfl (by omega) (by omega) ?_
              refine g_goto 84 dX9_letFall_211 (by decide) ?_
              refine g_drop 7 ?_
              refine g_drop 8 ?_
              refine g_drop 9 ?_
              exact ih84 _ _ hMh41 (Fr.tr (Fr.tr (Fr.tr (Fr.tr (Fr.tr (Fr.tr (Fr.tr (Fr.sub hFh16 rfl) hFh20 rfl) hFh23 rfl) hFh31 rfl) hFh33 rfl) hFh36 rfl) hFh39 rfl) hFh41 rfl) (by omega) (by omega) (by omega)
            · skip
              refine g_if_eq 198 dX9_letFall_138 (by decide) (fun q43 => ?_) (fun _ => by exfalso; omega)
              refine g_aload_n dX9_letFall_198 rfl ?_
              refine g_dup dX9_letFall_199 rfl ?_
              refine gI_X9_49 rfl dX9_letFall_200 sh_21 (m_21_8 hMh23) (fun v44 ev44 bv44 cv44 => ?_)
              refine g_iconst dX9_letFall_203 (inR_c rfl) ?_
              refine g_iaddF dX9_letFall_204 (fun v45 bv45 cv45 => ?_)
              refine pI_X9_49 rfl dX9_letFall_205 sh_21 (fun h46 eh46 => ?_)
              have hFh46 := Fr.st eh46
              have hMh46 := u_21_8 hMh23 eh46 (by omega) (by omega)
              refine g_iincB dX9_letFall_208 rfl rfl (by omega) (by omega) ?_
              refine g_goto 84 dX9_letFall_211 (by decide) ?_
              refine g_drop 7 ?_
              exact ih84 _ _ hMh46 (Fr.tr (Fr.tr (Fr.tr (Fr.sub hFh16 rfl) hFh20 rfl) hFh23 rfl) hFh46 rfl) (by omega) (by omega) (by omega)
      refine g_istore dX9_letFall_82 (by decide) rfl ?_
      exact c84 100 _ _ hMh9 Fr.rf (by omega) (by omega) (by omega)
    · skip
      refine g_iload dX9_letFall_73 rfl (fun _ => ?_)
      refine g_if_le 81 dX9_letFall_75 (by decide) (fun q47 => ?_) (fun q47 => ?_)
      · skip
        refine g_iconst dX9_letFall_81 (inR_c rfl) ?_
        have c84 : ∀ (n : Nat) (y48 : Int) (h49 : MEM), MBx h49 → Fr [(21, 9), (24, 0), (30, 0), (31, 0), (36, 0), (37, 0), (38, 0), (40, 0), (97, 0)] h9 h49 → 0 ≤ y48 → y48 ≤ 99 → 99 - y48 < (n : Int) → G yX9_letFall cX9_letFall 10 (some .int) none Po (4, 240, 0, 0) 84 [some (pR 21), some (pR 90), some (pI x1), some (pI x2), some (pI v1), some (pI v12), some (pI y48), none, none, none] [] SH h49 0 0 := by
          intro n
          induction n with
          | zero =>
            intro y48 h49 hMh49 hFh49 by48 dy48 hn
            exfalso; omega
          | succ n ih84 =>
            intro y48 h49 hMh49 hFh49 by48 dy48 hn
            refine g_iload dX9_letFall_84 rfl (fun _ => ?_)
            refine g_iload dX9_letFall_86 rfl (fun _ => ?_)
            refine g_icmp_ge 214 dX9_letFall_88 (by decide) (fun q50 => ?_) (fun _ => by exfalso; omega)
            refine g_iload dX9_letFall_214 rfl (fun _ => ?_)
            exact g_ireturn dX9_letFall_216 retI (hPo _ _ ⟨hMh49, (Fr.tr (Fr.tr (Fr.sub hFh6 rfl) hFh9 rfl) hFh49 rfl), (by omega), (by omega)⟩)
        refine g_istore dX9_letFall_82 (by decide) rfl ?_
        exact c84 100 _ _ hMh9 Fr.rf (by omega) (by omega) (by omega)
      · skip
        refine g_iincB dX9_letFall_78 rfl rfl (by omega) (by omega) ?_
        refine g_iconst dX9_letFall_81 (inR_c rfl) ?_
        have c84 : ∀ (n : Nat) (y51 : Int) (h52 : MEM), MBx h52 → Fr [(21, 9), (24, 0), (30, 0), (31, 0), (36, 0), (37, 0), (38, 0), (40, 0), (97, 0)] h9 h52 → 0 ≤ y51 → y51 ≤ 99 → 99 - y51 < (n : Int) → G yX9_letFall cX9_letFall 10 (some .int) none Po (4, 240, 0, 0) 84 [some (pR 21), some (pR 90), some (pI x1), some (pI x2), some (pI v1), some (pI (v12 + (-1))), some (pI y51), none, none, none] [] SH h52 0 0 := by
          intro n
          induction n with
          | zero =>
            intro y51 h52 hMh52 hFh52 by51 dy51 hn
            exfalso; omega
          | succ n ih84 =>
            intro y51 h52 hMh52 hFh52 by51 dy51 hn
            refine g_iload dX9_letFall_84 rfl (fun _ => ?_)
            refine g_iload dX9_letFall_86 rfl (fun _ => ?_)
            refine g_icmp_ge 214 dX9_letFall_88 (by decide) (fun q53 => ?_) (fun q53 => ?_)
            · skip
              refine g_iload dX9_letFall_214 rfl (fun _ => ?_)
              exact g_ireturn dX9_letFall_216 retI (hPo _ _ ⟨hMh52, (Fr.tr (Fr.tr (Fr.sub hFh6 rfl) hFh9 rfl) hFh52 rfl), (by omega), (by omega)⟩)
            · skip
              refine g_aload_n dX9_letFall_91 rfl ?_
              refine gR_X9_12 rfl dX9_letFall_92 sh_21 (b := 22) (m_21_0 hMh52) ?_
              refine gR_X9_111 rfl dX9_letFall_95 sh_22 (b := 24) (m_22_2 hMh52) ?_
              refine g_iload dX9_letFall_98 rfl (fun _ => ?_)
              refine g_dup2 dX9_letFall_100 rfl rfl ?_
              refine g_ialdB dX9_letFall_101 sh_24 (by omega) (by omega) (m_24 hMh52 _) (fun v54 ev54 bv54 cv54 => ?_)
              refine g_iconst dX9_letFall_102 (inR_c rfl) ?_
              refine g_isubF dX9_letFall_103 (fun v55 bv55 cv55 => ?_)
              refine g_iastB dX9_letFall_104 sh_24 (by omega) (by omega) (fun h56 eh56 => ?_)
              have hFh56 := Fr.ar eh56
              have hMh56 := u_24 hMh52 eh56 (by omega) (by omega)
              refine g_aload_n dX9_letFall_105 rfl ?_
              refine gR_X9_21 rfl dX9_letFall_106 sh_21 (b := 26) (m_21_1 hMh56) ?_
              refine gR_X9_129 rfl dX9_letFall_109 sh_26 (b := 30) (m_26_4 hMh56) ?_
              refine g_iload_n dX9_letFall_112 rfl (fun _ => ?_)
              refine g_dup2 dX9_letFall_113 rfl rfl ?_
              refine g_ialdB dX9_letFall_114 sh_30 (by omega) (by omega) (m_30 hMh56 _) (fun v57 ev57 bv57 cv57 => ?_)
              refine g_iconst dX9_letFall_115 (inR_c rfl) ?_
              refine g_iaddF dX9_letFall_116 (fun v58 bv58 cv58 => ?_)
              refine g_iastB dX9_letFall_117 sh_30 (by omega) (by omega) (fun h59 eh59 => ?_)
              have hFh59 := Fr.ar eh59
              have hMh59 := u_30 hMh56 eh59 (by omega) (by omega)
              refine g_aload_n dX9_letFall_118 rfl ?_
              refine gR_X9_28 rfl dX9_letFall_119 sh_21 (b := 32) (m_21_2 hMh59) ?_
              refine g_iload dX9_letFall_122 rfl (fun _ => ?_)
              refine g_cVP (as := [_]) (c_X4_struckBelow_32 _ h59 hMh59 (by omega) (by omega)) dX9_letFall_124 mi_X4_struckBelow in_X4_struckBelow se_X4_struckBelow ml_X9_132 rfl rfl rfl sh_32 rfl rfl (Nat.le_of_ble_eq_true rfl) (fun v60 q61 => ?_)
              obtain ⟨bv60, cv60⟩ := q61
              refine g_istore dX9_letFall_127 (by decide) rfl ?_
              refine g_aload_n dX9_letFall_129 rfl ?_
              refine gR_X9_28 rfl dX9_letFall_130 sh_21 (b := 32) (m_21_2 hMh59) ?_
              refine g_iload dX9_letFall_133 rfl (fun _ => ?_)
              refine g_cVP (as := [_]) (c_X4_has_32 _ h59 hMh59 (by omega) (by omega)) dX9_letFall_135 mi_X4_has in_X4_has se_X4_has ml_X9_78 rfl rfl rfl sh_32 rfl rfl (Nat.le_of_ble_eq_true rfl) (fun v62 q63 => ?_)
              have q64 : h59 32 0 = h 32 0 := ((hFh59 32 0 rfl).trans ((hFh56 32 0 rfl).trans ((hFh52 32 0 rfl).trans ((hFh9 32 0 rfl).trans (hFh6 32 0 rfl)))))
              obtain ⟨v65, ev65⟩ : ∃ z, z = h59 32 0 := ⟨_, rfl⟩
              have bv65 : 0 ≤ v65 ∧ v65 ≤ 8 := by rw [ev65]; exact (m_32_0 hMh59)
              rcases q63 with ⟨rfl, q63⟩ | ⟨rfl, q63⟩
              · skip
                refine g_if_eq 198 dX9_letFall_138 (by decide) (fun _ => by exfalso; omega) (fun q66 => ?_)
                refine g_aload_n dX9_letFall_141 rfl ?_
                refine g_iload_n dX9_letFall_142 rfl (fun _ => ?_)
                refine g_iload dX9_letFall_143 rfl (fun _ => ?_)
                refine g_iload_n dX9_letFall_145 rfl (fun _ => ?_)
                refine g_cVV (as := [_, _, _]) (c_X9_tell_21 _ _ _ h59 hMh59 (by omega) (by omega) (by omega) (by omega) (by omega) (by omega)) dX9_letFall_146 mi_X9_tell in_X9_tell se_X9_tell ml_X9_107 rfl rfl rfl sh_21 rfl rfl (Nat.le_of_ble_eq_true rfl) (fun h67 q68 => ?_)
                obtain ⟨hMh67, hFh67⟩ := q68
                refine g_aload_n dX9_letFall_149 rfl ?_
                refine g_iload_n dX9_letFall_150 rfl (fun _ => ?_)
                refine g_iload dX9_letFall_151 rfl (fun _ => ?_)
                refine g_cVV (as := [_, _]) (c_X9_tellMaster_21 _ _ h67 hMh67 (by omega) (by omega) (by omega) (by omega)) dX9_letFall_153 mi_X9_tellMaster in_X9_tellMaster se_X9_tellMaster ml_X9_136 rfl rfl rfl sh_21 rfl rfl (Nat.le_of_ble_eq_true rfl) (fun h69 q70 => ?_)
                obtain ⟨hMh69, hFh69⟩ := q70
                refine g_aload_n dX9_letFall_156 rfl ?_
                refine g_bipush dX9_letFall_157 (inR_c rfl) (by decide) ?_
                refine g_bipush dX9_letFall_159 (inR_c rfl) (by decide) ?_
                refine g_aload_n dX9_letFall_161 rfl ?_
                refine gR_X9_52 rfl dX9_letFall_162 sh_21 (b := 40) (m_21_9 hMh69) ?_
                refine g_cV (as := [_, _, _]) (c_X2_answer_90_40 _ _ h69 hMh69 (by omega) (by omega) (by omega) (by omega)) dX9_letFall_165 mi_X2_answer in_X2_answer se_X2_answer ml_X9_114 rfl rfl rfl sh_90 rfl rfl (Nat.le_of_ble_eq_true rfl) (fun v71 h72 q73 => ?_)
                obtain ⟨hMh72, hFh72, bv71, cv71⟩ := q73
                refine g_istore dX9_letFall_168 (by decide) rfl ?_
                refine g_aload_n dX9_letFall_170 rfl ?_
                refine g_bipush dX9_letFall_171 (inR_c rfl) (by decide) ?_
                refine g_bipush dX9_letFall_173 (inR_c rfl) (by decide) ?_
                refine g_aload_n dX9_letFall_175 rfl ?_
                refine gR_X9_52 rfl dX9_letFall_176 sh_21 (b := 40) (m_21_9 hMh72) ?_
                refine g_cV (as := [_, _, _]) (c_X2_answer_90_40 _ _ h72 hMh72 (by omega) (by omega) (by omega) (by omega)) dX9_letFall_179 mi_X2_answer in_X2_answer se_X2_answer ml_X9_114 rfl rfl rfl sh_90 rfl rfl (Nat.le_of_ble_eq_true rfl) (fun v74 h75 q76 => ?_)
                obtain ⟨hMh75, hFh75, bv74, cv74⟩ := q76
                refine g_istore dX9_letFall_182 (by decide) rfl ?_
                refine g_aload_n dX9_letFall_184 rfl ?_
                refine g_iload_n dX9_letFall_185 rfl (fun _ => ?_)
                refine g_iload dX9_letFall_186 rfl (fun _ => ?_)
                refine g_iload dX9_letFall_188 rfl (fun _ => ?_)
                refine g_iload dX9_letFall_190 rfl (fun _ => ?_)
                refine g_cVV (as := [_, _, _, _]) (c_X9_bruise_21 _ _ _ _ h75 hMh75 (by omega) (by omega) (by omega) (by omega) (by omega) (by omega) (by omega) (by omega)) dX9_letFall_192 mi_X9_bruise in_X9_bruise se_X9_bruise ml_X9_140 rfl rfl rfl sh_21 rfl rfl (Nat.le_of_ble_eq_true rfl) (fun h77 q78 => ?_)
                obtain ⟨hMh77, hFh77⟩ := q78
                refine g_goto 208 dX9_letFall_195 (by decide) ?_
                refine g_iincB dX9_letFall_208 rfl rfl (by omega) (by omega) ?_
                refine g_goto 84 dX9_letFall_211 (by decide) ?_
                refine g_drop 7 ?_
                refine g_drop 8 ?_
                refine g_drop 9 ?_
                exact ih84 _ _ hMh77 (Fr.tr (Fr.tr (Fr.tr (Fr.tr (Fr.tr (Fr.tr (Fr.tr (Fr.sub hFh52 rfl) hFh56 rfl) hFh59 rfl) hFh67 rfl) hFh69 rfl) hFh72 rfl) hFh75 rfl) hFh77 rfl) (by omega) (by omega) (by omega)
              · skip
                refine g_if_eq 198 dX9_letFall_138 (by decide) (fun q79 => ?_) (fun _ => by exfalso; omega)
                refine g_aload_n dX9_letFall_198 rfl ?_
                refine g_dup dX9_letFall_199 rfl ?_
                refine gI_X9_49 rfl dX9_letFall_200 sh_21 (m_21_8 hMh59) (fun v80 ev80 bv80 cv80 => ?_)
                refine g_iconst dX9_letFall_203 (inR_c rfl) ?_
                refine g_iaddF dX9_letFall_204 (fun v81 bv81 cv81 => ?_)
                refine pI_X9_49 rfl dX9_letFall_205 sh_21 (fun h82 eh82 => ?_)
                have hFh82 := Fr.st eh82
                have hMh82 := u_21_8 hMh59 eh82 (by omega) (by omega)
                refine g_iincB dX9_letFall_208 rfl rfl (by omega) (by omega) ?_
                refine g_goto 84 dX9_letFall_211 (by decide) ?_
                refine g_drop 7 ?_
                exact ih84 _ _ hMh82 (Fr.tr (Fr.tr (Fr.tr (Fr.sub hFh52 rfl) hFh56 rfl) hFh59 rfl) hFh82 rfl) (by omega) (by omega) (by omega)
        refine g_istore dX9_letFall_82 (by decide) rfl ?_
        exact c84 100 _ _ hMh9 Fr.rf (by omega) (by omega) (by omega)
  · skip
    refine g_if_ne 25 dX9_letFall_20 (by decide) (fun _ => by exfalso; omega) (fun q83 => ?_)
    refine g_iconst dX9_letFall_23 (inR_c rfl) ?_
    exact g_ireturn dX9_letFall_24 retI (hPo _ _ ⟨hM, Fr.rf, (by omega), (by omega)⟩)
set_option maxRecDepth 100000 in
set_option maxHeartbeats 4000000 in
theorem c_X9_lay_21_90 (x1 x2 : Int) (h : MEM) (hM : MBx h) (bx1 : 0 ≤ x1) (dx1 : x1 ≤ 7) (bx2 : 0 ≤ x2) (dx2 : x2 ≤ 9) : CV yX9_lay cX9_lay 5 (none) 4 [pR 21, pR 90, pI x1, pI x2] h (fun h' => MBx h' ∧ Fr [(24, 0), (40, 0), (97, 0)] h h') := by
  refine CV.of (L0 := [some (pR 21), some (pR 90), some (pI x1), some (pI x2), none]) rfl (Nat.le_of_ble_eq_true rfl) rfl (fun Po hPo hav => ?_)
  refine g_aload_n dX9_lay_0 rfl ?_
  refine gR_X9_21 rfl dX9_lay_1 sh_21 (b := 26) (m_21_1 hM) ?_
  refine gR_X9_103 rfl dX9_lay_4 sh_26 (b := 27) (m_26_1 hM) ?_
  refine g_iload_n dX9_lay_7 rfl (fun _ => ?_)
  refine g_ialdB dX9_lay_8 sh_27 (by omega) (by omega) (m_27 hM _) (fun v1 ev1 bv1 cv1 => ?_)
  refine g_istore dX9_lay_9 (by decide) rfl ?_
  refine g_aload_n dX9_lay_11 rfl ?_
  refine gR_X9_12 rfl dX9_lay_12 sh_21 (b := 22) (m_21_0 hM) ?_
  refine g_iload dX9_lay_15 rfl (fun _ => ?_)
  refine g_cVP (as := [_]) (c_X6_has_22 _ h hM (by omega) (by omega)) dX9_lay_17 mi_X6_has in_X6_has se_X6_has ml_X9_106 rfl rfl rfl sh_22 rfl rfl (Nat.le_of_ble_eq_true rfl) (fun v2 q3 => ?_)
  obtain ⟨v4, ev4⟩ : ∃ z, z = h 22 0 := ⟨_, rfl⟩
  have bv4 : 0 ≤ v4 ∧ v4 ≤ 10 := by rw [ev4]; exact (m_22_0 hM)
  rcases q3 with ⟨rfl, q3⟩ | ⟨rfl, q3⟩
  · skip
    refine g_if_ne 24 dX9_lay_20 (by decide) (fun q5 => ?_) (fun _ => by exfalso; omega)
    refine g_aload_n dX9_lay_24 rfl ?_
    refine g_iload_n dX9_lay_25 rfl (fun _ => ?_)
    refine g_iload dX9_lay_26 rfl (fun _ => ?_)
    refine g_iload_n dX9_lay_28 rfl (fun _ => ?_)
    refine g_cVV (as := [_, _, _]) (c_X9_tell_21 _ _ _ h hM (by omega) (by omega) (by omega) (by omega) (by omega) (by omega)) dX9_lay_29 mi_X9_tell in_X9_tell se_X9_tell ml_X9_107 rfl rfl rfl sh_21 rfl rfl (Nat.le_of_ble_eq_true rfl) (fun h6 q7 => ?_)
    obtain ⟨hMh6, hFh6⟩ := q7
    refine g_aload_n dX9_lay_32 rfl ?_
    refine gR_X9_12 rfl dX9_lay_33 sh_21 (b := 22) (m_21_0 hMh6) ?_
    refine gR_X9_111 rfl dX9_lay_36 sh_22 (b := 24) (m_22_2 hMh6) ?_
    refine g_iload dX9_lay_39 rfl (fun _ => ?_)
    refine g_dup2 dX9_lay_41 rfl rfl ?_
    refine g_ialdB dX9_lay_42 sh_24 (by omega) (by omega) (m_24 hMh6 _) (fun v8 ev8 bv8 cv8 => ?_)
    refine g_aload_n dX9_lay_43 rfl ?_
    refine g_bipush dX9_lay_44 (inR_c rfl) (by decide) ?_
    refine g_bipush dX9_lay_46 (inR_c rfl) (by decide) ?_
    refine g_aload_n dX9_lay_48 rfl ?_
    refine gR_X9_52 rfl dX9_lay_49 sh_21 (b := 40) (m_21_9 hMh6) ?_
    refine g_cV (as := [_, _, _]) (c_X2_answer_90_40 _ _ h6 hMh6 (by omega) (by omega) (by omega) (by omega)) dX9_lay_52 mi_X2_answer in_X2_answer se_X2_answer ml_X9_114 rfl rfl rfl sh_90 rfl rfl (Nat.le_of_ble_eq_true rfl) (fun v9 h10 q11 => ?_)
    obtain ⟨hMh10, hFh10, bv9, cv9⟩ := q11
    refine g_aload_n dX9_lay_55 rfl ?_
    refine gR_X9_12 rfl dX9_lay_56 sh_21 (b := 22) (m_21_0 hMh10) ?_
    refine gR_X9_120 rfl dX9_lay_59 sh_22 (b := 23) (m_22_1 hMh10) ?_
    refine g_iload dX9_lay_62 rfl (fun _ => ?_)
    refine g_ialdB dX9_lay_64 sh_23 (by omega) (by omega) (m_23 hMh10 _) (fun v12 ev12 bv12 cv12 => ?_)
    refine g_aload_n dX9_lay_65 rfl ?_
    refine gR_X9_12 rfl dX9_lay_66 sh_21 (b := 22) (m_21_0 hMh10) ?_
    refine gR_X9_111 rfl dX9_lay_69 sh_22 (b := 24) (m_22_2 hMh10) ?_
    refine g_iload dX9_lay_72 rfl (fun _ => ?_)
    refine g_ialdE dX9_lay_74 sh_24 (by omega) (by omega) ((hFh10 24 _ rfl).trans ev8.symm) ?_
    refine g_isubF dX9_lay_75 (fun v13 bv13 cv13 => ?_)
    refine g_mmin dX9_lay_76 ml_X9_123 (Nat.le_of_ble_eq_true rfl) (Nat.le_of_ble_eq_true rfl) trivial (fun v14 ev14 => ?_)
    have bv14 : -2147483648 ≤ v14 ∧ v14 ≤ 99 := by omega
    refine g_iaddF dX9_lay_79 (fun v15 bv15 cv15 => ?_)
    refine g_iastB dX9_lay_80 sh_24 (by omega) (by omega) (fun h16 eh16 => ?_)
    have hFh16 := Fr.ar eh16
    have hMh16 := u_24 hMh10 eh16 (by omega) (by omega)
    exact g_return dX9_lay_81 rfl (hPo _ ⟨hMh16, (Fr.tr (Fr.tr (Fr.sub hFh6 rfl) hFh10 rfl) hFh16 rfl)⟩)
  · skip
    refine g_if_ne 24 dX9_lay_20 (by decide) (fun _ => by exfalso; omega) (fun q17 => ?_)
    exact g_return dX9_lay_23 rfl (hPo _ ⟨hM, Fr.rf⟩)
set_option maxRecDepth 100000 in
set_option maxHeartbeats 4000000 in
theorem c_X9_passHour_21_90 (x1 : Int) (h : MEM) (hM : MBx h) (bx1 : 0 ≤ x1) (dx1 : x1 ≤ 9) : CI yX9_passHour cX9_passHour 6 (some .int) 5 [pR 21, pR 90, pI x1] h (fun x h' => MBx h' ∧ Fr [(21, 7), (21, 9), (24, 0), (30, 0), (31, 0), (36, 0), (37, 0), (38, 0), (40, 0), (97, 0)] h h' ∧ -2147483648 ≤ x ∧ x ≤ 2147483647) := by
  refine CI.of (L0 := [some (pR 21), some (pR 90), some (pI x1), none, none, none]) rfl (Nat.le_of_ble_eq_true rfl) rfl (fun Po hPo hav => ?_)
  refine g_iconst dX9_passHour_0 (inR_c rfl) ?_
  refine g_istore_n dX9_passHour_1 (by decide) rfl ?_
  refine g_aload_n dX9_passHour_2 rfl ?_
  refine gI_X9_42 rfl dX9_passHour_3 sh_21 (m_21_6 hM) (fun v1 ev1 bv1 cv1 => ?_)
  refine g_if_lt 35 dX9_passHour_6 (by decide) (fun q2 => ?_) (fun q2 => ?_)
  · skip
    refine g_iconst dX9_passHour_35 (inR_c rfl) ?_
    refine g_istore dX9_passHour_36 (by decide) rfl ?_
    refine g_iload dX9_passHour_38 rfl (fun _ => ?_)
    refine g_if_ne 104 dX9_passHour_40 (by decide) (fun _ => by exfalso; omega) (fun q3 => ?_)
    refine g_iconst dX9_passHour_43 (inR_c rfl) ?_
    have c46 : ∀ (n : Nat) (y4 : Int) (h5 : MEM), MBx h5 → Fr [(24, 0), (40, 0), (97, 0)] h h5 → 0 ≤ y4 → y4 ≤ 8 → 8 - y4 < (n : Int) → G yX9_passHour cX9_passHour 6 (some .int) none Po (5, 300, 0, 0) 46 [some (pR 21), some (pR 90), some (pI x1), some (pI 0), none, some (pI y4)] [] SH h5 0 0 := by
      intro n
      induction n with
      | zero =>
        intro y4 h5 hMh5 hFh5 by4 dy4 hn
        exfalso; omega
      | succ n ih46 =>
        intro y4 h5 hMh5 hFh5 by4 dy4 hn
        refine g_iload dX9_passHour_46 rfl (fun _ => ?_)
        refine g_aload_n dX9_passHour_48 rfl ?_
        refine gR_X9_21 rfl dX9_passHour_49 sh_21 (b := 26) (m_21_1 hMh5) ?_
        refine gI_X9_85 rfl dX9_passHour_52 sh_26 (m_26_0 hMh5) (fun v6 ev6 bv6 cv6 => ?_)
        refine g_icmp_ge 72 dX9_passHour_55 (by decide) (fun q7 => ?_) (fun q7 => ?_)
        · skip
          refine g_iconst dX9_passHour_72 (inR_c rfl) ?_
          have c75 : ∀ (n : Nat) (y8 y9 : Int) (h10 : MEM), MBx h10 → Fr [(21, 9), (24, 0), (30, 0), (31, 0), (36, 0), (37, 0), (38, 0), (40, 0), (97, 0)] h5 h10 → -2147483648 ≤ y8 → y8 ≤ 2147483647 → 0 ≤ y9 → y9 ≤ 8 → 8 - y9 < (n : Int) → G yX9_passHour cX9_passHour 6 (some .int) none Po (5, 300, 0, 0) 75 [some (pR 21), some (pR 90), some (pI x1), some (pI y8), none, some (pI y9)] [] SH h10 0 0 := by
            intro n
            induction n with
            | zero =>
              intro y8 y9 h10 hMh10 hFh10 by8 dy8 by9 dy9 hn
              exfalso; omega
            | succ n ih75 =>
              intro y8 y9 h10 hMh10 hFh10 by8 dy8 by9 dy9 hn
              refine g_iload dX9_passHour_75 rfl (fun _ => ?_)
              refine g_aload_n dX9_passHour_77 rfl ?_
              refine gR_X9_21 rfl dX9_passHour_78 sh_21 (b := 26) (m_21_1 hMh10) ?_
              refine gE_X9_85 rfl dX9_passHour_81 sh_26 ((hFh10 26 0 rfl).trans ev6.symm) ?_
              refine g_icmp_ge 104 dX9_passHour_84 (by decide) (fun q11 => ?_) (fun q11 => ?_)
              · skip
                refine g_aload_n dX9_passHour_104 rfl ?_
                refine g_dup dX9_passHour_105 rfl ?_
                refine gE_X9_42 rfl dX9_passHour_106 sh_21 ((hFh10 21 6 rfl).trans ((hFh5 21 6 rfl).trans ev1.symm)) ?_
                refine g_iconst dX9_passHour_109 (inR_c rfl) ?_
                refine g_iaddB dX9_passHour_110 (by omega) (by omega) ?_
                refine pI_X9_42 rfl dX9_passHour_111 sh_21 (fun h12 eh12 => ?_)
                have hFh12 := Fr.st eh12
                have hMh12 := u_21_6 hMh10 eh12 (by omega) (by omega)
                refine g_iload_n dX9_passHour_114 rfl (fun _ => ?_)
                exact g_ireturn dX9_passHour_115 retI (hPo _ _ ⟨hMh12, (Fr.tr (Fr.tr (Fr.sub hFh5 rfl) hFh10 rfl) hFh12 rfl), (by omega), (by omega)⟩)
              · skip
                refine g_iload_n dX9_passHour_87 rfl (fun _ => ?_)
                refine g_aload_n dX9_passHour_88 rfl ?_
                refine g_aload_n dX9_passHour_89 rfl ?_
                refine g_iload dX9_passHour_90 rfl (fun _ => ?_)
                refine g_iload_n dX9_passHour_92 rfl (fun _ => ?_)
                refine g_cV (as := [_, _, _]) (c_X9_letFall_21_90 _ _ h10 hMh10 (by omega) (by omega) (by omega) (by omega)) dX9_passHour_93 mi_X9_letFall in_X9_letFall se_X9_letFall ml_X9_99 rfl rfl rfl sh_21 rfl rfl (Nat.le_of_ble_eq_true rfl) (fun v13 h14 q15 => ?_)
                obtain ⟨hMh14, hFh14, bv13, cv13⟩ := q15
                refine g_iaddF dX9_passHour_96 (fun v16 bv16 cv16 => ?_)
                refine g_istore_n dX9_passHour_97 (by decide) rfl ?_
                refine g_iincB dX9_passHour_98 rfl rfl (by omega) (by omega) ?_
                refine g_goto 75 dX9_passHour_101 (by decide) ?_
                exact ih75 _ _ _ hMh14 (Fr.tr (Fr.sub hFh10 rfl) hFh14 rfl) (by omega) (by omega) (by omega) (by omega) (by omega)
          refine g_istore dX9_passHour_73 (by decide) rfl ?_
          exact c75 9 _ _ _ hMh5 Fr.rf (by omega) (by omega) (by omega) (by omega) (by omega)
        · skip
          refine g_aload_n dX9_passHour_58 rfl ?_
          refine g_aload_n dX9_passHour_59 rfl ?_
          refine g_iload dX9_passHour_60 rfl (fun _ => ?_)
          refine g_iload_n dX9_passHour_62 rfl (fun _ => ?_)
          refine g_cVV (as := [_, _, _]) (c_X9_lay_21_90 _ _ h5 hMh5 (by omega) (by omega) (by omega) (by omega)) dX9_passHour_63 mi_X9_lay in_X9_lay se_X9_lay ml_X9_95 rfl rfl rfl sh_21 rfl rfl (Nat.le_of_ble_eq_true rfl) (fun h17 q18 => ?_)
          obtain ⟨hMh17, hFh17⟩ := q18
          refine g_iincB dX9_passHour_66 rfl rfl (by omega) (by omega) ?_
          refine g_goto 46 dX9_passHour_69 (by decide) ?_
          exact ih46 _ _ hMh17 (Fr.tr (Fr.sub hFh5 rfl) hFh17 rfl) (by omega) (by omega) (by omega)
    refine g_istore dX9_passHour_44 (by decide) rfl ?_
    refine g_drop 4 ?_
    exact c46 9 _ _ hM Fr.rf (by omega) (by omega) (by omega)
  · skip
    refine g_aload_n dX9_passHour_9 rfl ?_
    refine gE_X9_42 rfl dX9_passHour_10 sh_21 ev1.symm ?_
    refine g_bipush dX9_passHour_13 (inR_c rfl) (by decide) ?_
    refine g_icmp_ge 35 dX9_passHour_15 (by decide) (fun q19 => ?_) (fun q19 => ?_)
    · skip
      refine g_iconst dX9_passHour_35 (inR_c rfl) ?_
      refine g_istore dX9_passHour_36 (by decide) rfl ?_
      refine g_iload dX9_passHour_38 rfl (fun _ => ?_)
      refine g_if_ne 104 dX9_passHour_40 (by decide) (fun _ => by exfalso; omega) (fun q20 => ?_)
      refine g_iconst dX9_passHour_43 (inR_c rfl) ?_
      have c46 : ∀ (n : Nat) (y21 : Int) (h22 : MEM), MBx h22 → Fr [(24, 0), (40, 0), (97, 0)] h h22 → 0 ≤ y21 → y21 ≤ 8 → 8 - y21 < (n : Int) → G yX9_passHour cX9_passHour 6 (some .int) none Po (5, 300, 0, 0) 46 [some (pR 21), some (pR 90), some (pI x1), some (pI 0), none, some (pI y21)] [] SH h22 0 0 := by
        intro n
        induction n with
        | zero =>
          intro y21 h22 hMh22 hFh22 by21 dy21 hn
          exfalso; omega
        | succ n ih46 =>
          intro y21 h22 hMh22 hFh22 by21 dy21 hn
          refine g_iload dX9_passHour_46 rfl (fun _ => ?_)
          refine g_aload_n dX9_passHour_48 rfl ?_
          refine gR_X9_21 rfl dX9_passHour_49 sh_21 (b := 26) (m_21_1 hMh22) ?_
          refine gI_X9_85 rfl dX9_passHour_52 sh_26 (m_26_0 hMh22) (fun v23 ev23 bv23 cv23 => ?_)
          refine g_icmp_ge 72 dX9_passHour_55 (by decide) (fun q24 => ?_) (fun q24 => ?_)
          · skip
            refine g_iconst dX9_passHour_72 (inR_c rfl) ?_
            have c75 : ∀ (n : Nat) (y25 y26 : Int) (h27 : MEM), MBx h27 → Fr [(21, 9), (24, 0), (30, 0), (31, 0), (36, 0), (37, 0), (38, 0), (40, 0), (97, 0)] h22 h27 → -2147483648 ≤ y25 → y25 ≤ 2147483647 → 0 ≤ y26 → y26 ≤ 8 → 8 - y26 < (n : Int) → G yX9_passHour cX9_passHour 6 (some .int) none Po (5, 300, 0, 0) 75 [some (pR 21), some (pR 90), some (pI x1), some (pI y25), none, some (pI y26)] [] SH h27 0 0 := by
              intro n
              induction n with
              | zero =>
                intro y25 y26 h27 hMh27 hFh27 by25 dy25 by26 dy26 hn
                exfalso; omega
              | succ n ih75 =>
                intro y25 y26 h27 hMh27 hFh27 by25 dy25 by26 dy26 hn
                refine g_iload dX9_passHour_75 rfl (fun _ => ?_)
                refine g_aload_n dX9_passHour_77 rfl ?_
                refine gR_X9_21 rfl dX9_passHour_78 sh_21 (b := 26) (m_21_1 hMh27) ?_
                refine gE_X9_85 rfl dX9_passHour_81 sh_26 ((hFh27 26 0 rfl).trans ev23.symm) ?_
                refine g_icmp_ge 104 dX9_passHour_84 (by decide) (fun q28 => ?_) (fun q28 => ?_)
                · skip
                  refine g_aload_n dX9_passHour_104 rfl ?_
                  refine g_dup dX9_passHour_105 rfl ?_
                  refine gE_X9_42 rfl dX9_passHour_106 sh_21 ((hFh27 21 6 rfl).trans ((hFh22 21 6 rfl).trans ev1.symm)) ?_
                  refine g_iconst dX9_passHour_109 (inR_c rfl) ?_
                  refine g_iaddF dX9_passHour_110 (fun v29 bv29 cv29 => ?_)
                  refine pI_X9_42 rfl dX9_passHour_111 sh_21 (fun h30 eh30 => ?_)
                  have hFh30 := Fr.st eh30
                  have hMh30 := u_21_6 hMh27 eh30 (by omega) (by omega)
                  refine g_iload_n dX9_passHour_114 rfl (fun _ => ?_)
                  exact g_ireturn dX9_passHour_115 retI (hPo _ _ ⟨hMh30, (Fr.tr (Fr.tr (Fr.sub hFh22 rfl) hFh27 rfl) hFh30 rfl), (by omega), (by omega)⟩)
                · skip
                  refine g_iload_n dX9_passHour_87 rfl (fun _ => ?_)
                  refine g_aload_n dX9_passHour_88 rfl ?_
                  refine g_aload_n dX9_passHour_89 rfl ?_
                  refine g_iload dX9_passHour_90 rfl (fun _ => ?_)
                  refine g_iload_n dX9_passHour_92 rfl (fun _ => ?_)
                  refine g_cV (as := [_, _, _]) (c_X9_letFall_21_90 _ _ h27 hMh27 (by omega) (by omega) (by omega) (by omega)) dX9_passHour_93 mi_X9_letFall in_X9_letFall se_X9_letFall ml_X9_99 rfl rfl rfl sh_21 rfl rfl (Nat.le_of_ble_eq_true rfl) (fun v31 h32 q33 => ?_)
                  obtain ⟨hMh32, hFh32, bv31, cv31⟩ := q33
                  refine g_iaddF dX9_passHour_96 (fun v34 bv34 cv34 => ?_)
                  refine g_istore_n dX9_passHour_97 (by decide) rfl ?_
                  refine g_iincB dX9_passHour_98 rfl rfl (by omega) (by omega) ?_
                  refine g_goto 75 dX9_passHour_101 (by decide) ?_
                  exact ih75 _ _ _ hMh32 (Fr.tr (Fr.sub hFh27 rfl) hFh32 rfl) (by omega) (by omega) (by omega) (by omega) (by omega)
            refine g_istore dX9_passHour_73 (by decide) rfl ?_
            exact c75 9 _ _ _ hMh22 Fr.rf (by omega) (by omega) (by omega) (by omega) (by omega)
          · skip
            refine g_aload_n dX9_passHour_58 rfl ?_
            refine g_aload_n dX9_passHour_59 rfl ?_
            refine g_iload dX9_passHour_60 rfl (fun _ => ?_)
            refine g_iload_n dX9_passHour_62 rfl (fun _ => ?_)
            refine g_cVV (as := [_, _, _]) (c_X9_lay_21_90 _ _ h22 hMh22 (by omega) (by omega) (by omega) (by omega)) dX9_passHour_63 mi_X9_lay in_X9_lay se_X9_lay ml_X9_95 rfl rfl rfl sh_21 rfl rfl (Nat.le_of_ble_eq_true rfl) (fun h35 q36 => ?_)
            obtain ⟨hMh35, hFh35⟩ := q36
            refine g_iincB dX9_passHour_66 rfl rfl (by omega) (by omega) ?_
            refine g_goto 46 dX9_passHour_69 (by decide) ?_
            exact ih46 _ _ hMh35 (Fr.tr (Fr.sub hFh22 rfl) hFh35 rfl) (by omega) (by omega) (by omega)
      refine g_istore dX9_passHour_44 (by decide) rfl ?_
      refine g_drop 4 ?_
      exact c46 9 _ _ hM Fr.rf (by omega) (by omega) (by omega)
    · skip
      refine g_aload_n dX9_passHour_18 rfl ?_
      refine gR_X9_39 rfl dX9_passHour_19 sh_21 (b := 39) (m_21_5 hM) ?_
      refine g_aload_n dX9_passHour_22 rfl ?_
      refine gE_X9_42 rfl dX9_passHour_23 sh_21 ev1.symm ?_
      refine g_ialdB dX9_passHour_26 sh_39 (by omega) (by omega) (m_39 hM _) (fun v37 ev37 bv37 cv37 => ?_)
      refine g_iconst dX9_passHour_27 (inR_c rfl) ?_
      refine g_icmp_ne 35 dX9_passHour_28 (by decide) (fun q38 => ?_) (fun q38 => ?_)
      · skip
        refine g_iconst dX9_passHour_35 (inR_c rfl) ?_
        refine g_istore dX9_passHour_36 (by decide) rfl ?_
        refine g_iload dX9_passHour_38 rfl (fun _ => ?_)
        refine g_if_ne 104 dX9_passHour_40 (by decide) (fun _ => by exfalso; omega) (fun q39 => ?_)
        refine g_iconst dX9_passHour_43 (inR_c rfl) ?_
        have c46 : ∀ (n : Nat) (y40 : Int) (h41 : MEM), MBx h41 → Fr [(24, 0), (40, 0), (97, 0)] h h41 → 0 ≤ y40 → y40 ≤ 8 → 8 - y40 < (n : Int) → G yX9_passHour cX9_passHour 6 (some .int) none Po (5, 300, 0, 0) 46 [some (pR 21), some (pR 90), some (pI x1), some (pI 0), none, some (pI y40)] [] SH h41 0 0 := by
          intro n
          induction n with
          | zero =>
            intro y40 h41 hMh41 hFh41 by40 dy40 hn
            exfalso; omega
          | succ n ih46 =>
            intro y40 h41 hMh41 hFh41 by40 dy40 hn
            refine g_iload dX9_passHour_46 rfl (fun _ => ?_)
            refine g_aload_n dX9_passHour_48 rfl ?_
            refine gR_X9_21 rfl dX9_passHour_49 sh_21 (b := 26) (m_21_1 hMh41) ?_
            refine gI_X9_85 rfl dX9_passHour_52 sh_26 (m_26_0 hMh41) (fun v42 ev42 bv42 cv42 => ?_)
            refine g_icmp_ge 72 dX9_passHour_55 (by decide) (fun q43 => ?_) (fun q43 => ?_)
            · skip
              refine g_iconst dX9_passHour_72 (inR_c rfl) ?_
              have c75 : ∀ (n : Nat) (y44 y45 : Int) (h46 : MEM), MBx h46 → Fr [(21, 9), (24, 0), (30, 0), (31, 0), (36, 0), (37, 0), (38, 0), (40, 0), (97, 0)] h41 h46 → -2147483648 ≤ y44 → y44 ≤ 2147483647 → 0 ≤ y45 → y45 ≤ 8 → 8 - y45 < (n : Int) → G yX9_passHour cX9_passHour 6 (some .int) none Po (5, 300, 0, 0) 75 [some (pR 21), some (pR 90), some (pI x1), some (pI y44), none, some (pI y45)] [] SH h46 0 0 := by
                intro n
                induction n with
                | zero =>
                  intro y44 y45 h46 hMh46 hFh46 by44 dy44 by45 dy45 hn
                  exfalso; omega
                | succ n ih75 =>
                  intro y44 y45 h46 hMh46 hFh46 by44 dy44 by45 dy45 hn
                  refine g_iload dX9_passHour_75 rfl (fun _ => ?_)
                  refine g_aload_n dX9_passHour_77 rfl ?_
                  refine gR_X9_21 rfl dX9_passHour_78 sh_21 (b := 26) (m_21_1 hMh46) ?_
                  refine gE_X9_85 rfl dX9_passHour_81 sh_26 ((hFh46 26 0 rfl).trans ev42.symm) ?_
                  refine g_icmp_ge 104 dX9_passHour_84 (by decide) (fun q47 => ?_) (fun q47 => ?_)
                  · skip
                    refine g_aload_n dX9_passHour_104 rfl ?_
                    refine g_dup dX9_passHour_105 rfl ?_
                    refine gE_X9_42 rfl dX9_passHour_106 sh_21 ((hFh46 21 6 rfl).trans ((hFh41 21 6 rfl).trans ev1.symm)) ?_
                    refine g_iconst dX9_passHour_109 (inR_c rfl) ?_
                    refine g_iaddB dX9_passHour_110 (by omega) (by omega) ?_
                    refine pI_X9_42 rfl dX9_passHour_111 sh_21 (fun h48 eh48 => ?_)
                    have hFh48 := Fr.st eh48
                    have hMh48 := u_21_6 hMh46 eh48 (by omega) (by omega)
                    refine g_iload_n dX9_passHour_114 rfl (fun _ => ?_)
                    exact g_ireturn dX9_passHour_115 retI (hPo _ _ ⟨hMh48, (Fr.tr (Fr.tr (Fr.sub hFh41 rfl) hFh46 rfl) hFh48 rfl), (by omega), (by omega)⟩)
                  · skip
                    refine g_iload_n dX9_passHour_87 rfl (fun _ => ?_)
                    refine g_aload_n dX9_passHour_88 rfl ?_
                    refine g_aload_n dX9_passHour_89 rfl ?_
                    refine g_iload dX9_passHour_90 rfl (fun _ => ?_)
                    refine g_iload_n dX9_passHour_92 rfl (fun _ => ?_)
                    refine g_cV (as := [_, _, _]) (c_X9_letFall_21_90 _ _ h46 hMh46 (by omega) (by omega) (by omega) (by omega)) dX9_passHour_93 mi_X9_letFall in_X9_letFall se_X9_letFall ml_X9_99 rfl rfl rfl sh_21 rfl rfl (Nat.le_of_ble_eq_true rfl) (fun v49 h50 q51 => ?_)
                    obtain ⟨hMh50, hFh50, bv49, cv49⟩ := q51
                    refine g_iaddF dX9_passHour_96 (fun v52 bv52 cv52 => ?_)
                    refine g_istore_n dX9_passHour_97 (by decide) rfl ?_
                    refine g_iincB dX9_passHour_98 rfl rfl (by omega) (by omega) ?_
                    refine g_goto 75 dX9_passHour_101 (by decide) ?_
                    exact ih75 _ _ _ hMh50 (Fr.tr (Fr.sub hFh46 rfl) hFh50 rfl) (by omega) (by omega) (by omega) (by omega) (by omega)
              refine g_istore dX9_passHour_73 (by decide) rfl ?_
              exact c75 9 _ _ _ hMh41 Fr.rf (by omega) (by omega) (by omega) (by omega) (by omega)
            · skip
              refine g_aload_n dX9_passHour_58 rfl ?_
              refine g_aload_n dX9_passHour_59 rfl ?_
              refine g_iload dX9_passHour_60 rfl (fun _ => ?_)
              refine g_iload_n dX9_passHour_62 rfl (fun _ => ?_)
              refine g_cVV (as := [_, _, _]) (c_X9_lay_21_90 _ _ h41 hMh41 (by omega) (by omega) (by omega) (by omega)) dX9_passHour_63 mi_X9_lay in_X9_lay se_X9_lay ml_X9_95 rfl rfl rfl sh_21 rfl rfl (Nat.le_of_ble_eq_true rfl) (fun h53 q54 => ?_)
              obtain ⟨hMh53, hFh53⟩ := q54
              refine g_iincB dX9_passHour_66 rfl rfl (by omega) (by omega) ?_
              refine g_goto 46 dX9_passHour_69 (by decide) ?_
              exact ih46 _ _ hMh53 (Fr.tr (Fr.sub hFh41 rfl) hFh53 rfl) (by omega) (by omega) (by omega)
        refine g_istore dX9_passHour_44 (by decide) rfl ?_
        refine g_drop 4 ?_
        exact c46 9 _ _ hM Fr.rf (by omega) (by omega) (by omega)
      · skip
        refine g_iconst dX9_passHour_31 (inR_c rfl) ?_
        refine g_goto 36 dX9_passHour_32 (by decide) ?_
        refine g_istore dX9_passHour_36 (by decide) rfl ?_
        refine g_iload dX9_passHour_38 rfl (fun _ => ?_)
        refine g_if_ne 104 dX9_passHour_40 (by decide) (fun q55 => ?_) (fun _ => by exfalso; omega)
        refine g_aload_n dX9_passHour_104 rfl ?_
        refine g_dup dX9_passHour_105 rfl ?_
        refine gE_X9_42 rfl dX9_passHour_106 sh_21 ev1.symm ?_
        refine g_iconst dX9_passHour_109 (inR_c rfl) ?_
        refine g_iaddB dX9_passHour_110 (by omega) (by omega) ?_
        refine pI_X9_42 rfl dX9_passHour_111 sh_21 (fun h56 eh56 => ?_)
        have hFh56 := Fr.st eh56
        have hMh56 := u_21_6 hM eh56 (by omega) (by omega)
        refine g_iload_n dX9_passHour_114 rfl (fun _ => ?_)
        exact g_ireturn dX9_passHour_115 retI (hPo _ _ ⟨hMh56, (Fr.sub hFh56 rfl), (by omega), (by omega)⟩)
set_option maxRecDepth 100000 in
set_option maxHeartbeats 4000000 in
theorem c_X9_passHours_21_90 (x1 : Int) (h : MEM) (hM : MBx h) (bx1 : 1 ≤ x1) (dx1 : x1 ≤ 40) : CI yX9_passHours cX9_passHours 5 (some .int) 6 [pR 21, pR 90, pI x1] h (fun x h' => MBx h' ∧ Fr [(21, 7), (21, 8), (21, 9), (24, 0), (30, 0), (31, 0), (36, 0), (37, 0), (38, 0), (40, 0), (97, 0)] h h' ∧ -2147483648 ≤ x ∧ x ≤ 2147483647) := by
  refine CI.of (L0 := [some (pR 21), some (pR 90), some (pI x1), none, none]) rfl (Nat.le_of_ble_eq_true rfl) rfl (fun Po hPo hav => ?_)
  refine g_iconst dX9_passHours_0 (inR_c rfl) ?_
  refine g_istore_n dX9_passHours_1 (by decide) rfl ?_
  refine g_iconst dX9_passHours_2 (inR_c rfl) ?_
  have c5 : ∀ (n : Nat) (y1 y2 : Int) (h3 : MEM), MBx h3 → Fr [(21, 7), (21, 8), (21, 9), (24, 0), (30, 0), (31, 0), (36, 0), (37, 0), (38, 0), (40, 0), (97, 0)] h h3 → -2147483648 ≤ y1 → y1 ≤ 2147483647 → 0 ≤ y2 → y2 ≤ 40 → 40 - y2 < (n : Int) → G yX9_passHours cX9_passHours 5 (some .int) none Po (6, 360, 0, 0) 5 [some (pR 21), some (pR 90), some (pI x1), some (pI y1), some (pI y2)] [] SH h3 0 0 := by
    intro n
    induction n with
    | zero =>
      intro y1 y2 h3 hMh3 hFh3 by1 dy1 by2 dy2 hn
      exfalso; omega
    | succ n ih5 =>
      intro y1 y2 h3 hMh3 hFh3 by1 dy1 by2 dy2 hn
      refine g_iload dX9_passHours_5 rfl (fun _ => ?_)
      refine g_iload_n dX9_passHours_7 rfl (fun _ => ?_)
      refine g_icmp_ge 29 dX9_passHours_8 (by decide) (fun q4 => ?_) (fun q4 => ?_)
      · skip
        refine g_iload_n dX9_passHours_29 rfl (fun _ => ?_)
        exact g_ireturn dX9_passHours_30 retI (hPo _ _ ⟨hMh3, (Fr.sub hFh3 rfl), (by omega), (by omega)⟩)
      · skip
        refine g_iload_n dX9_passHours_11 rfl (fun _ => ?_)
        refine g_aload_n dX9_passHours_12 rfl ?_
        refine g_aload_n dX9_passHours_13 rfl ?_
        refine g_aload_n dX9_passHours_14 rfl ?_
        refine g_cV (as := []) (c_X9_nextWind_21  h3 hMh3) dX9_passHours_15 mi_X9_nextWind in_X9_nextWind se_X9_nextWind ml_X9_87 rfl rfl rfl sh_21 rfl rfl (Nat.le_of_ble_eq_true rfl) (fun v5 h6 q7 => ?_)
        obtain ⟨hMh6, hFh6, bv5, cv5⟩ := q7
        refine g_cV (as := [_, _]) (c_X9_passHour_21_90 _ h6 hMh6 (by omega) (by omega)) dX9_passHours_18 mi_X9_passHour in_X9_passHour se_X9_passHour ml_X9_91 rfl rfl rfl sh_21 rfl rfl (Nat.le_of_ble_eq_true rfl) (fun v8 h9 q10 => ?_)
        obtain ⟨hMh9, hFh9, bv8, cv8⟩ := q10
        refine g_iaddF dX9_passHours_21 (fun v11 bv11 cv11 => ?_)
        refine g_istore_n dX9_passHours_22 (by decide) rfl ?_
        refine g_iincB dX9_passHours_23 rfl rfl (by omega) (by omega) ?_
        refine g_goto 5 dX9_passHours_26 (by decide) ?_
        exact ih5 _ _ _ hMh9 (Fr.tr (Fr.tr (Fr.sub hFh3 rfl) hFh6 rfl) hFh9 rfl) (by omega) (by omega) (by omega) (by omega) (by omega)
  refine g_istore dX9_passHours_3 (by decide) rfl ?_
  exact c5 41 _ _ _ hM Fr.rf (by omega) (by omega) (by omega) (by omega) (by omega)
set_option maxRecDepth 100000 in
set_option maxHeartbeats 4000000 in
theorem c_X11_tried_0 (x1 x2 : Int) (h : MEM) (hM : MBx h) (bx1 : -2147483648 ≤ x1) (dx1 : x1 ≤ 2147483647) (bx2 : -2147483648 ≤ x2) (dx2 : x2 ≤ 2147483647) (f_LD : LD h) : CI yX11_tried cX11_tried 6 (some .int) 7 [pR 0, pI x1, pI x2] h (fun x h' => MBx h' ∧ Fr [(21, 7), (21, 8), (21, 9), (22, 1), (23, 0), (24, 0), (25, 0), (26, 1), (27, 0), (28, 0), (29, 0), (30, 0), (31, 0), (32, 1), (33, 0), (34, 0), (35, 0), (36, 0), (37, 0), (38, 0), (39, 0), (40, 0), (89, 0), (97, 0)] h h' ∧ -2147483648 ≤ x ∧ x ≤ 2147483647) := by
  refine CI.of (L0 := [some (pR 0), some (pI x1), some (pI x2), none, none, none]) rfl (Nat.le_of_ble_eq_true rfl) rfl (fun Po hPo hav => ?_)
  rcases id f_LD with ⟨er0_10, er0_11⟩ | ⟨er0_10, er0_11⟩
  · skip
    refine g_iload_n dX11_tried_0 rfl (fun _ => ?_)
    refine g_bipush dX11_tried_1 (inR_c rfl) (by decide) ?_
    refine g_icmp_lt 27 dX11_tried_3 (by decide) (fun q1 => ?_) (fun q1 => ?_)
    · skip
      refine g_iconst dX11_tried_27 (inR_c rfl) ?_
      refine g_istore_n dX11_tried_28 (by decide) rfl ?_
      refine g_iload_n dX11_tried_29 rfl (fun _ => ?_)
      refine g_bipush dX11_tried_30 (inR_c rfl) (by decide) ?_
      refine g_icmp_lt 56 dX11_tried_32 (by decide) (fun q2 => ?_) (fun _ => by exfalso; omega)
      refine g_iconst dX11_tried_56 (inR_c rfl) ?_
      refine g_istore dX11_tried_57 (by decide) rfl ?_
      refine g_iload_n dX11_tried_59 rfl (fun _ => ?_)
      refine g_iconst dX11_tried_60 (inR_c rfl) ?_
      refine g_bipush dX11_tried_61 (inR_c rfl) (by decide) ?_
      refine g_cSP (av := [_, _, _]) (c_X11_isWithin _ _ _ h hM (by omega) (by omega) (by omega) (by omega) (by omega) (by omega)) dX11_tried_63 mi_X11_isWithin st_X11_isWithin ml_X11_81 rfl rfl rfl rfl (Nat.le_of_ble_eq_true rfl) (fun v3 q4 => ?_)
      rcases q4 with ⟨rfl, q4⟩ | ⟨rfl, q4⟩
      · skip
        refine g_if_eq 87 dX11_tried_66 (by decide) (fun _ => by exfalso; omega) (fun q5 => ?_)
        refine g_iload_n dX11_tried_69 rfl (fun _ => ?_)
        refine g_iconst dX11_tried_70 (inR_c rfl) ?_
        refine g_iconst dX11_tried_71 (inR_c rfl) ?_
        refine g_cSP (av := [_, _, _]) (c_X11_isWithin _ _ _ h hM (by omega) (by omega) (by omega) (by omega) (by omega) (by omega)) dX11_tried_72 mi_X11_isWithin st_X11_isWithin ml_X11_81 rfl rfl rfl rfl (Nat.le_of_ble_eq_true rfl) (fun v6 q7 => ?_)
        rcases q7 with ⟨rfl, q7⟩ | ⟨rfl, q7⟩
        · skip
          refine g_if_ne 89 dX11_tried_75 (by decide) (fun q8 => ?_) (fun _ => by exfalso; omega)
          refine g_aload_n dX11_tried_89 rfl ?_
          refine gR_X11_16 rfl dX11_tried_90 sh_0 (b := 21) (m_0_1 hM) ?_
          refine g_aload_n dX11_tried_93 rfl ?_
          refine gR_X11_10 rfl dX11_tried_94 sh_0 (b := 1) (m_0_0 hM) ?_
          obtain ⟨v9, ev9⟩ : ∃ z, z = h 2 0 := ⟨_, rfl⟩
          have bv9 : 0 ≤ v9 ∧ v9 ≤ 10 := by rw [ev9]; exact (m_2_0 hM)
          obtain ⟨v10, ev10⟩ : ∃ z, z = h 6 0 := ⟨_, rfl⟩
          have bv10 : 0 ≤ v10 ∧ v10 ≤ 8 := by rw [ev10]; exact (m_6_0 hM)
          obtain ⟨v11, ev11⟩ : ∃ z, z = h 12 0 := ⟨_, rfl⟩
          have bv11 : 0 ≤ v11 ∧ v11 ≤ 8 := by rw [ev11]; exact (m_12_0 hM)
          refine g_cVV (as := [_]) (c_X9_copyFrom_21_1  h hM) dX11_tried_97 mi_X9_copyFrom in_X9_copyFrom se_X9_copyFrom ml_X11_202 rfl rfl rfl sh_21 rfl rfl (Nat.le_of_ble_eq_true rfl) (fun h12 q13 => ?_)
          obtain ⟨hMh12, hFh12, z14, z15, z16⟩ := q13
          have kz14 : h12 22 0 = v9 := by omega
          have kz15 : h12 26 0 = v10 := by omega
          have kz16 : h12 32 0 = v11 := by omega
          refine g_aload_n dX11_tried_100 rfl ?_
          refine gR_X11_16 rfl dX11_tried_101 sh_0 (b := 21) (m_0_1 hMh12) ?_
          refine g_aload_n dX11_tried_104 rfl ?_
          refine gR_X11_70 rfl dX11_tried_105 sh_0 (b := 82) ((hFh12 0 10 rfl).trans er0_10) ?_
          refine g_iload_n dX11_tried_108 rfl (fun _ => ?_)
          refine g_cV (as := [_, _]) (c_X9_passHours_21_82 _ h12 hMh12 (by omega) (by omega)) dX11_tried_109 mi_X9_passHours in_X9_passHours se_X9_passHours ml_X11_152 rfl rfl rfl sh_21 rfl rfl (Nat.le_of_ble_eq_true rfl) (fun v17 h18 q19 => ?_)
          obtain ⟨hMh18, hFh18, bv17, cv17⟩ := q19
          refine g_istore dX11_tried_112 (by decide) rfl ?_
          refine g_iload_n dX11_tried_114 rfl (fun _ => ?_)
          refine g_if_eq 134 dX11_tried_115 (by decide) (fun q20 => ?_) (fun _ => by exfalso; omega)
          refine g_iload dX11_tried_134 rfl (fun _ => ?_)
          refine g_if_eq 155 dX11_tried_136 (by decide) (fun q21 => ?_) (fun _ => by exfalso; omega)
          refine g_iload_n dX11_tried_155 rfl (fun _ => ?_)
          rcases (show x2 = 0 ∨ x2 = 1 ∨ x2 = 2 ∨ (x2 < 0 ∨ 2 < x2) by omega) with q22 | q22 | q22 | q22
          · skip
            refine g_tableIn 184 0 dX11_tried_156 (by omega) (by omega) rfl (by decide) ?_
            refine g_aload_n dX11_tried_184 rfl ?_
            refine gR_X11_16 rfl dX11_tried_185 sh_0 (b := 21) (m_0_1 hMh18) ?_
            refine gR_X11_85 rfl dX11_tried_188 sh_21 (b := 22) (m_21_0 hMh18) ?_
            refine g_cVP (as := []) (c_X6_allSlates_22  h18 hMh18) dX11_tried_191 mi_X6_allSlates in_X6_allSlates se_X6_allSlates ml_X11_206 rfl rfl rfl sh_22 rfl rfl (Nat.le_of_ble_eq_true rfl) (fun v23 q24 => ?_)
            obtain ⟨bv23, cv23⟩ := q24
            exact g_ireturn dX11_tried_194 retI (hPo _ _ ⟨hMh18, (Fr.tr (Fr.sub hFh12 rfl) hFh18 rfl), (by omega), (by omega)⟩)
          · skip
            refine g_tableIn 195 1 dX11_tried_156 (by omega) (by omega) rfl (by decide) ?_
            refine g_iload dX11_tried_195 rfl (fun _ => ?_)
            exact g_ireturn dX11_tried_197 retI (hPo _ _ ⟨hMh18, (Fr.tr (Fr.sub hFh12 rfl) hFh18 rfl), (by omega), (by omega)⟩)
          · skip
            refine g_tableIn 198 2 dX11_tried_156 (by omega) (by omega) rfl (by decide) ?_
            refine g_aload_n dX11_tried_198 rfl ?_
            refine gR_X11_16 rfl dX11_tried_199 sh_0 (b := 21) (m_0_1 hMh18) ?_
            refine gR_X11_104 rfl dX11_tried_202 sh_21 (b := 32) (m_21_2 hMh18) ?_
            refine g_cVP (as := []) (c_X4_allBruises_32  h18 hMh18) dX11_tried_205 mi_X4_allBruises in_X4_allBruises se_X4_allBruises ml_X11_210 rfl rfl rfl sh_32 rfl rfl (Nat.le_of_ble_eq_true rfl) (fun v25 q26 => ?_)
            obtain ⟨bv25, cv25⟩ := q26
            exact g_ireturn dX11_tried_208 retI (hPo _ _ ⟨hMh18, (Fr.tr (Fr.sub hFh12 rfl) hFh18 rfl), (by omega), (by omega)⟩)
          · skip
            refine g_tableOut 209 dX11_tried_156 (by omega) (by decide) ?_
            refine g_aload_n dX11_tried_209 rfl ?_
            refine gR_X11_16 rfl dX11_tried_210 sh_0 (b := 21) (m_0_1 hMh18) ?_
            refine gI_X11_213 rfl dX11_tried_213 sh_21 (m_21_8 hMh18) (fun v27 ev27 bv27 cv27 => ?_)
            exact g_ireturn dX11_tried_216 retI (hPo _ _ ⟨hMh18, (Fr.tr (Fr.sub hFh12 rfl) hFh18 rfl), (by omega), (by omega)⟩)
        · skip
          refine g_if_ne 89 dX11_tried_75 (by decide) (fun _ => by exfalso; omega) (fun q28 => ?_)
          refine g_iload_n dX11_tried_78 rfl (fun _ => ?_)
          refine g_if_ne 89 dX11_tried_79 (by decide) (fun _ => by exfalso; omega) (fun q29 => ?_)
          refine g_iload dX11_tried_82 rfl (fun _ => ?_)
          refine g_if_ne 89 dX11_tried_84 (by decide) (fun _ => by exfalso; omega) (fun q30 => ?_)
          refine g_iconst dX11_tried_87 (inR_c rfl) ?_
          exact g_ireturn dX11_tried_88 retI (hPo _ _ ⟨hM, Fr.rf, (by omega), (by omega)⟩)
      · skip
        refine g_if_eq 87 dX11_tried_66 (by decide) (fun q31 => ?_) (fun _ => by exfalso; omega)
        refine g_iconst dX11_tried_87 (inR_c rfl) ?_
        exact g_ireturn dX11_tried_88 retI (hPo _ _ ⟨hM, Fr.rf, (by omega), (by omega)⟩)
    · skip
      refine g_aload_n dX11_tried_6 rfl ?_
      refine gR_X11_10 rfl dX11_tried_7 sh_0 (b := 1) (m_0_0 hM) ?_
      refine gR_X11_85 rfl dX11_tried_10 sh_1 (b := 2) (m_1_0 hM) ?_
      refine g_iload_n dX11_tried_13 rfl (fun _ => ?_)
      refine g_bipush dX11_tried_14 (inR_c rfl) (by decide) ?_
      refine g_isubB dX11_tried_16 (by omega) (by omega) ?_
      refine g_cVP (as := [_]) (c_X6_has_2 _ h hM (by omega) (by omega)) dX11_tried_17 mi_X6_has in_X6_has se_X6_has ml_X11_159 rfl rfl rfl sh_2 rfl rfl (Nat.le_of_ble_eq_true rfl) (fun v32 q33 => ?_)
      obtain ⟨v34, ev34⟩ : ∃ z, z = h 2 0 := ⟨_, rfl⟩
      have bv34 : 0 ≤ v34 ∧ v34 ≤ 10 := by rw [ev34]; exact (m_2_0 hM)
      rcases q33 with ⟨rfl, q33⟩ | ⟨rfl, q33⟩
      · skip
        refine g_if_eq 27 dX11_tried_20 (by decide) (fun _ => by exfalso; omega) (fun q35 => ?_)
        refine g_iconst dX11_tried_23 (inR_c rfl) ?_
        refine g_goto 28 dX11_tried_24 (by decide) ?_
        refine g_istore_n dX11_tried_28 (by decide) rfl ?_
        refine g_iload_n dX11_tried_29 rfl (fun _ => ?_)
        refine g_bipush dX11_tried_30 (inR_c rfl) (by decide) ?_
        refine g_icmp_lt 56 dX11_tried_32 (by decide) (fun q36 => ?_) (fun _ => by exfalso; omega)
        refine g_iconst dX11_tried_56 (inR_c rfl) ?_
        refine g_istore dX11_tried_57 (by decide) rfl ?_
        refine g_iload_n dX11_tried_59 rfl (fun _ => ?_)
        refine g_iconst dX11_tried_60 (inR_c rfl) ?_
        refine g_bipush dX11_tried_61 (inR_c rfl) (by decide) ?_
        refine g_cSP (av := [_, _, _]) (c_X11_isWithin _ _ _ h hM (by omega) (by omega) (by omega) (by omega) (by omega) (by omega)) dX11_tried_63 mi_X11_isWithin st_X11_isWithin ml_X11_81 rfl rfl rfl rfl (Nat.le_of_ble_eq_true rfl) (fun v37 q38 => ?_)
        rcases q38 with ⟨rfl, q38⟩ | ⟨rfl, q38⟩
        · skip
          refine g_if_eq 87 dX11_tried_66 (by decide) (fun _ => by exfalso; omega) (fun q39 => ?_)
          refine g_iload_n dX11_tried_69 rfl (fun _ => ?_)
          refine g_iconst dX11_tried_70 (inR_c rfl) ?_
          refine g_iconst dX11_tried_71 (inR_c rfl) ?_
          refine g_cSP (av := [_, _, _]) (c_X11_isWithin _ _ _ h hM (by omega) (by omega) (by omega) (by omega) (by omega) (by omega)) dX11_tried_72 mi_X11_isWithin st_X11_isWithin ml_X11_81 rfl rfl rfl rfl (Nat.le_of_ble_eq_true rfl) (fun v40 q41 => ?_)
          rcases q41 with ⟨rfl, q41⟩ | ⟨rfl, q41⟩
          · skip
            exfalso; omega
          · skip
            refine g_if_ne 89 dX11_tried_75 (by decide) (fun _ => by exfalso; omega) (fun q42 => ?_)
            refine g_iload_n dX11_tried_78 rfl (fun _ => ?_)
            refine g_if_ne 89 dX11_tried_79 (by decide) (fun q43 => ?_) (fun _ => by exfalso; omega)
            refine g_aload_n dX11_tried_89 rfl ?_
            refine gR_X11_16 rfl dX11_tried_90 sh_0 (b := 21) (m_0_1 hM) ?_
            refine g_aload_n dX11_tried_93 rfl ?_
            refine gR_X11_10 rfl dX11_tried_94 sh_0 (b := 1) (m_0_0 hM) ?_
            have q44 : h 2 0 = v34 := ev34.symm
            obtain ⟨v45, ev45⟩ : ∃ z, z = h 6 0 := ⟨_, rfl⟩
            have bv45 : 0 ≤ v45 ∧ v45 ≤ 8 := by rw [ev45]; exact (m_6_0 hM)
            obtain ⟨v46, ev46⟩ : ∃ z, z = h 12 0 := ⟨_, rfl⟩
            have bv46 : 0 ≤ v46 ∧ v46 ≤ 8 := by rw [ev46]; exact (m_12_0 hM)
            refine g_cVV (as := [_]) (c_X9_copyFrom_21_1  h hM) dX11_tried_97 mi_X9_copyFrom in_X9_copyFrom se_X9_copyFrom ml_X11_202 rfl rfl rfl sh_21 rfl rfl (Nat.le_of_ble_eq_true rfl) (fun h47 q48 => ?_)
            obtain ⟨hMh47, hFh47, z49, z50, z51⟩ := q48
            have kz49 : h47 22 0 = v34 := by omega
            have kz50 : h47 26 0 = v45 := by omega
            have kz51 : h47 32 0 = v46 := by omega
            refine g_aload_n dX11_tried_100 rfl ?_
            refine gR_X11_16 rfl dX11_tried_101 sh_0 (b := 21) (m_0_1 hMh47) ?_
            refine g_aload_n dX11_tried_104 rfl ?_
            refine gR_X11_70 rfl dX11_tried_105 sh_0 (b := 82) ((hFh47 0 10 rfl).trans er0_10) ?_
            refine g_iload_n dX11_tried_108 rfl (fun _ => ?_)
            refine g_cV (as := [_, _]) (c_X9_passHours_21_82 _ h47 hMh47 (by omega) (by omega)) dX11_tried_109 mi_X9_passHours in_X9_passHours se_X9_passHours ml_X11_152 rfl rfl rfl sh_21 rfl rfl (Nat.le_of_ble_eq_true rfl) (fun v52 h53 q54 => ?_)
            obtain ⟨hMh53, hFh53, bv52, cv52⟩ := q54
            refine g_istore dX11_tried_112 (by decide) rfl ?_
            refine g_iload_n dX11_tried_114 rfl (fun _ => ?_)
            refine g_if_eq 134 dX11_tried_115 (by decide) (fun _ => by exfalso; omega) (fun q55 => ?_)
            refine g_aload_n dX11_tried_118 rfl ?_
            refine gR_X11_16 rfl dX11_tried_119 sh_0 (b := 21) (m_0_1 hMh53) ?_
            refine gR_X11_85 rfl dX11_tried_122 sh_21 (b := 22) (m_21_0 hMh53) ?_
            refine gR_X11_163 rfl dX11_tried_125 sh_22 (b := 24) (m_22_2 hMh53) ?_
            refine g_iload_n dX11_tried_128 rfl (fun _ => ?_)
            refine g_bipush dX11_tried_129 (inR_c rfl) (by decide) ?_
            refine g_isubB dX11_tried_131 (by omega) (by omega) ?_
            refine g_ialdB dX11_tried_132 sh_24 (by omega) (by omega) (m_24 hMh53 _) (fun v56 ev56 bv56 cv56 => ?_)
            exact g_ireturn dX11_tried_133 retI (hPo _ _ ⟨hMh53, (Fr.tr (Fr.sub hFh47 rfl) hFh53 rfl), (by omega), (by omega)⟩)
        · skip
          refine g_if_eq 87 dX11_tried_66 (by decide) (fun q57 => ?_) (fun _ => by exfalso; omega)
          refine g_iconst dX11_tried_87 (inR_c rfl) ?_
          exact g_ireturn dX11_tried_88 retI (hPo _ _ ⟨hM, Fr.rf, (by omega), (by omega)⟩)
      · skip
        refine g_if_eq 27 dX11_tried_20 (by decide) (fun q58 => ?_) (fun _ => by exfalso; omega)
        refine g_iconst dX11_tried_27 (inR_c rfl) ?_
        refine g_istore_n dX11_tried_28 (by decide) rfl ?_
        refine g_iload_n dX11_tried_29 rfl (fun _ => ?_)
        refine g_bipush dX11_tried_30 (inR_c rfl) (by decide) ?_
        refine g_icmp_lt 56 dX11_tried_32 (by decide) (fun q59 => ?_) (fun q59 => ?_)
        · skip
          refine g_iconst dX11_tried_56 (inR_c rfl) ?_
          refine g_istore dX11_tried_57 (by decide) rfl ?_
          refine g_iload_n dX11_tried_59 rfl (fun _ => ?_)
          refine g_iconst dX11_tried_60 (inR_c rfl) ?_
          refine g_bipush dX11_tried_61 (inR_c rfl) (by decide) ?_
          refine g_cSP (av := [_, _, _]) (c_X11_isWithin _ _ _ h hM (by omega) (by omega) (by omega) (by omega) (by omega) (by omega)) dX11_tried_63 mi_X11_isWithin st_X11_isWithin ml_X11_81 rfl rfl rfl rfl (Nat.le_of_ble_eq_true rfl) (fun v60 q61 => ?_)
          rcases q61 with ⟨rfl, q61⟩ | ⟨rfl, q61⟩
          · skip
            refine g_if_eq 87 dX11_tried_66 (by decide) (fun _ => by exfalso; omega) (fun q62 => ?_)
            refine g_iload_n dX11_tried_69 rfl (fun _ => ?_)
            refine g_iconst dX11_tried_70 (inR_c rfl) ?_
            refine g_iconst dX11_tried_71 (inR_c rfl) ?_
            refine g_cSP (av := [_, _, _]) (c_X11_isWithin _ _ _ h hM (by omega) (by omega) (by omega) (by omega) (by omega) (by omega)) dX11_tried_72 mi_X11_isWithin st_X11_isWithin ml_X11_81 rfl rfl rfl rfl (Nat.le_of_ble_eq_true rfl) (fun v63 q64 => ?_)
            rcases q64 with ⟨rfl, q64⟩ | ⟨rfl, q64⟩
            · skip
              exfalso; omega
            · skip
              refine g_if_ne 89 dX11_tried_75 (by decide) (fun _ => by exfalso; omega) (fun q65 => ?_)
              refine g_iload_n dX11_tried_78 rfl (fun _ => ?_)
              refine g_if_ne 89 dX11_tried_79 (by decide) (fun _ => by exfalso; omega) (fun q66 => ?_)
              refine g_iload dX11_tried_82 rfl (fun _ => ?_)
              refine g_if_ne 89 dX11_tried_84 (by decide) (fun _ => by exfalso; omega) (fun q67 => ?_)
              refine g_iconst dX11_tried_87 (inR_c rfl) ?_
              exact g_ireturn dX11_tried_88 retI (hPo _ _ ⟨hM, Fr.rf, (by omega), (by omega)⟩)
          · skip
            refine g_if_eq 87 dX11_tried_66 (by decide) (fun q68 => ?_) (fun _ => by exfalso; omega)
            refine g_iconst dX11_tried_87 (inR_c rfl) ?_
            exact g_ireturn dX11_tried_88 retI (hPo _ _ ⟨hM, Fr.rf, (by omega), (by omega)⟩)
        · skip
          refine g_aload_n dX11_tried_35 rfl ?_
          refine gR_X11_10 rfl dX11_tried_36 sh_0 (b := 1) (m_0_0 hM) ?_
          refine gR_X11_104 rfl dX11_tried_39 sh_1 (b := 12) (m_1_2 hM) ?_
          refine g_iload_n dX11_tried_42 rfl (fun _ => ?_)
          refine g_bipush dX11_tried_43 (inR_c rfl) (by decide) ?_
          refine g_isubB dX11_tried_45 (by omega) (by omega) ?_
          refine g_cVP (as := [_]) (c_X4_has_12 _ h hM (by omega) (by omega)) dX11_tried_46 mi_X4_has in_X4_has se_X4_has ml_X11_124 rfl rfl rfl sh_12 rfl rfl (Nat.le_of_ble_eq_true rfl) (fun v69 q70 => ?_)
          obtain ⟨v71, ev71⟩ : ∃ z, z = h 12 0 := ⟨_, rfl⟩
          have bv71 : 0 ≤ v71 ∧ v71 ≤ 8 := by rw [ev71]; exact (m_12_0 hM)
          rcases q70 with ⟨rfl, q70⟩ | ⟨rfl, q70⟩
          · skip
            refine g_if_eq 56 dX11_tried_49 (by decide) (fun _ => by exfalso; omega) (fun q72 => ?_)
            refine g_iconst dX11_tried_52 (inR_c rfl) ?_
            refine g_goto 57 dX11_tried_53 (by decide) ?_
            refine g_istore dX11_tried_57 (by decide) rfl ?_
            refine g_iload_n dX11_tried_59 rfl (fun _ => ?_)
            refine g_iconst dX11_tried_60 (inR_c rfl) ?_
            refine g_bipush dX11_tried_61 (inR_c rfl) (by decide) ?_
            refine g_cSP (av := [_, _, _]) (c_X11_isWithin _ _ _ h hM (by omega) (by omega) (by omega) (by omega) (by omega) (by omega)) dX11_tried_63 mi_X11_isWithin st_X11_isWithin ml_X11_81 rfl rfl rfl rfl (Nat.le_of_ble_eq_true rfl) (fun v73 q74 => ?_)
            rcases q74 with ⟨rfl, q74⟩ | ⟨rfl, q74⟩
            · skip
              refine g_if_eq 87 dX11_tried_66 (by decide) (fun _ => by exfalso; omega) (fun q75 => ?_)
              refine g_iload_n dX11_tried_69 rfl (fun _ => ?_)
              refine g_iconst dX11_tried_70 (inR_c rfl) ?_
              refine g_iconst dX11_tried_71 (inR_c rfl) ?_
              refine g_cSP (av := [_, _, _]) (c_X11_isWithin _ _ _ h hM (by omega) (by omega) (by omega) (by omega) (by omega) (by omega)) dX11_tried_72 mi_X11_isWithin st_X11_isWithin ml_X11_81 rfl rfl rfl rfl (Nat.le_of_ble_eq_true rfl) (fun v76 q77 => ?_)
              rcases q77 with ⟨rfl, q77⟩ | ⟨rfl, q77⟩
              · skip
                exfalso; omega
              · skip
                refine g_if_ne 89 dX11_tried_75 (by decide) (fun _ => by exfalso; omega) (fun q78 => ?_)
                refine g_iload_n dX11_tried_78 rfl (fun _ => ?_)
                refine g_if_ne 89 dX11_tried_79 (by decide) (fun _ => by exfalso; omega) (fun q79 => ?_)
                refine g_iload dX11_tried_82 rfl (fun _ => ?_)
                refine g_if_ne 89 dX11_tried_84 (by decide) (fun q80 => ?_) (fun _ => by exfalso; omega)
                refine g_aload_n dX11_tried_89 rfl ?_
                refine gR_X11_16 rfl dX11_tried_90 sh_0 (b := 21) (m_0_1 hM) ?_
                refine g_aload_n dX11_tried_93 rfl ?_
                refine gR_X11_10 rfl dX11_tried_94 sh_0 (b := 1) (m_0_0 hM) ?_
                have q81 : h 2 0 = v34 := ev34.symm
                obtain ⟨v82, ev82⟩ : ∃ z, z = h 6 0 := ⟨_, rfl⟩
                have bv82 : 0 ≤ v82 ∧ v82 ≤ 8 := by rw [ev82]; exact (m_6_0 hM)
                have q83 : h 12 0 = v71 := ev71.symm
                refine g_cVV (as := [_]) (c_X9_copyFrom_21_1  h hM) dX11_tried_97 mi_X9_copyFrom in_X9_copyFrom se_X9_copyFrom ml_X11_202 rfl rfl rfl sh_21 rfl rfl (Nat.le_of_ble_eq_true rfl) (fun h84 q85 => ?_)
                obtain ⟨hMh84, hFh84, z86, z87, z88⟩ := q85
                have kz86 : h84 22 0 = v34 := by omega
                have kz87 : h84 26 0 = v82 := by omega
                have kz88 : h84 32 0 = v71 := by omega
                refine g_aload_n dX11_tried_100 rfl ?_
                refine gR_X11_16 rfl dX11_tried_101 sh_0 (b := 21) (m_0_1 hMh84) ?_
                refine g_aload_n dX11_tried_104 rfl ?_
                refine gR_X11_70 rfl dX11_tried_105 sh_0 (b := 82) ((hFh84 0 10 rfl).trans er0_10) ?_
                refine g_iload_n dX11_tried_108 rfl (fun _ => ?_)
                refine g_cV (as := [_, _]) (c_X9_passHours_21_82 _ h84 hMh84 (by omega) (by omega)) dX11_tried_109 mi_X9_passHours in_X9_passHours se_X9_passHours ml_X11_152 rfl rfl rfl sh_21 rfl rfl (Nat.le_of_ble_eq_true rfl) (fun v89 h90 q91 => ?_)
                obtain ⟨hMh90, hFh90, bv89, cv89⟩ := q91
                refine g_istore dX11_tried_112 (by decide) rfl ?_
                refine g_iload_n dX11_tried_114 rfl (fun _ => ?_)
                refine g_if_eq 134 dX11_tried_115 (by decide) (fun q92 => ?_) (fun _ => by exfalso; omega)
                refine g_iload dX11_tried_134 rfl (fun _ => ?_)
                refine g_if_eq 155 dX11_tried_136 (by decide) (fun _ => by exfalso; omega) (fun q93 => ?_)
                refine g_aload_n dX11_tried_139 rfl ?_
                refine gR_X11_16 rfl dX11_tried_140 sh_0 (b := 21) (m_0_1 hMh90) ?_
                refine gR_X11_104 rfl dX11_tried_143 sh_21 (b := 32) (m_21_2 hMh90) ?_
                refine gR_X11_199 rfl dX11_tried_146 sh_32 (b := 36) (m_32_4 hMh90) ?_
                refine g_iload_n dX11_tried_149 rfl (fun _ => ?_)
                refine g_bipush dX11_tried_150 (inR_c rfl) (by decide) ?_
                refine g_isubB dX11_tried_152 (by omega) (by omega) ?_
                refine g_ialdB dX11_tried_153 sh_36 (by omega) (by omega) (m_36 hMh90 _) (fun v94 ev94 bv94 cv94 => ?_)
                exact g_ireturn dX11_tried_154 retI (hPo _ _ ⟨hMh90, (Fr.tr (Fr.sub hFh84 rfl) hFh90 rfl), (by omega), (by omega)⟩)
            · skip
              refine g_if_eq 87 dX11_tried_66 (by decide) (fun q95 => ?_) (fun _ => by exfalso; omega)
              refine g_iconst dX11_tried_87 (inR_c rfl) ?_
              exact g_ireturn dX11_tried_88 retI (hPo _ _ ⟨hM, Fr.rf, (by omega), (by omega)⟩)
          · skip
            refine g_if_eq 56 dX11_tried_49 (by decide) (fun q96 => ?_) (fun _ => by exfalso; omega)
            refine g_iconst dX11_tried_56 (inR_c rfl) ?_
            refine g_istore dX11_tried_57 (by decide) rfl ?_
            refine g_iload_n dX11_tried_59 rfl (fun _ => ?_)
            refine g_iconst dX11_tried_60 (inR_c rfl) ?_
            refine g_bipush dX11_tried_61 (inR_c rfl) (by decide) ?_
            refine g_cSP (av := [_, _, _]) (c_X11_isWithin _ _ _ h hM (by omega) (by omega) (by omega) (by omega) (by omega) (by omega)) dX11_tried_63 mi_X11_isWithin st_X11_isWithin ml_X11_81 rfl rfl rfl rfl (Nat.le_of_ble_eq_true rfl) (fun v97 q98 => ?_)
            rcases q98 with ⟨rfl, q98⟩ | ⟨rfl, q98⟩
            · skip
              refine g_if_eq 87 dX11_tried_66 (by decide) (fun _ => by exfalso; omega) (fun q99 => ?_)
              refine g_iload_n dX11_tried_69 rfl (fun _ => ?_)
              refine g_iconst dX11_tried_70 (inR_c rfl) ?_
              refine g_iconst dX11_tried_71 (inR_c rfl) ?_
              refine g_cSP (av := [_, _, _]) (c_X11_isWithin _ _ _ h hM (by omega) (by omega) (by omega) (by omega) (by omega) (by omega)) dX11_tried_72 mi_X11_isWithin st_X11_isWithin ml_X11_81 rfl rfl rfl rfl (Nat.le_of_ble_eq_true rfl) (fun v100 q101 => ?_)
              rcases q101 with ⟨rfl, q101⟩ | ⟨rfl, q101⟩
              · skip
                exfalso; omega
              · skip
                refine g_if_ne 89 dX11_tried_75 (by decide) (fun _ => by exfalso; omega) (fun q102 => ?_)
                refine g_iload_n dX11_tried_78 rfl (fun _ => ?_)
                refine g_if_ne 89 dX11_tried_79 (by decide) (fun _ => by exfalso; omega) (fun q103 => ?_)
                refine g_iload dX11_tried_82 rfl (fun _ => ?_)
                refine g_if_ne 89 dX11_tried_84 (by decide) (fun _ => by exfalso; omega) (fun q104 => ?_)
                refine g_iconst dX11_tried_87 (inR_c rfl) ?_
                exact g_ireturn dX11_tried_88 retI (hPo _ _ ⟨hM, Fr.rf, (by omega), (by omega)⟩)
            · skip
              refine g_if_eq 87 dX11_tried_66 (by decide) (fun q105 => ?_) (fun _ => by exfalso; omega)
              refine g_iconst dX11_tried_87 (inR_c rfl) ?_
              exact g_ireturn dX11_tried_88 retI (hPo _ _ ⟨hM, Fr.rf, (by omega), (by omega)⟩)
  · skip
    refine g_iload_n dX11_tried_0 rfl (fun _ => ?_)
    refine g_bipush dX11_tried_1 (inR_c rfl) (by decide) ?_
    refine g_icmp_lt 27 dX11_tried_3 (by decide) (fun q106 => ?_) (fun q106 => ?_)
    · skip
      refine g_iconst dX11_tried_27 (inR_c rfl) ?_
      refine g_istore_n dX11_tried_28 (by decide) rfl ?_
      refine g_iload_n dX11_tried_29 rfl (fun _ => ?_)
      refine g_bipush dX11_tried_30 (inR_c rfl) (by decide) ?_
      refine g_icmp_lt 56 dX11_tried_32 (by decide) (fun q107 => ?_) (fun _ => by exfalso; omega)
      refine g_iconst dX11_tried_56 (inR_c rfl) ?_
      refine g_istore dX11_tried_57 (by decide) rfl ?_
      refine g_iload_n dX11_tried_59 rfl (fun _ => ?_)
      refine g_iconst dX11_tried_60 (inR_c rfl) ?_
      refine g_bipush dX11_tried_61 (inR_c rfl) (by decide) ?_
      refine g_cSP (av := [_, _, _]) (c_X11_isWithin _ _ _ h hM (by omega) (by omega) (by omega) (by omega) (by omega) (by omega)) dX11_tried_63 mi_X11_isWithin st_X11_isWithin ml_X11_81 rfl rfl rfl rfl (Nat.le_of_ble_eq_true rfl) (fun v108 q109 => ?_)
      rcases q109 with ⟨rfl, q109⟩ | ⟨rfl, q109⟩
      · skip
        refine g_if_eq 87 dX11_tried_66 (by decide) (fun _ => by exfalso; omega) (fun q110 => ?_)
        refine g_iload_n dX11_tried_69 rfl (fun _ => ?_)
        refine g_iconst dX11_tried_70 (inR_c rfl) ?_
        refine g_iconst dX11_tried_71 (inR_c rfl) ?_
        refine g_cSP (av := [_, _, _]) (c_X11_isWithin _ _ _ h hM (by omega) (by omega) (by omega) (by omega) (by omega) (by omega)) dX11_tried_72 mi_X11_isWithin st_X11_isWithin ml_X11_81 rfl rfl rfl rfl (Nat.le_of_ble_eq_true rfl) (fun v111 q112 => ?_)
        rcases q112 with ⟨rfl, q112⟩ | ⟨rfl, q112⟩
        · skip
          refine g_if_ne 89 dX11_tried_75 (by decide) (fun q113 => ?_) (fun _ => by exfalso; omega)
          refine g_aload_n dX11_tried_89 rfl ?_
          refine gR_X11_16 rfl dX11_tried_90 sh_0 (b := 21) (m_0_1 hM) ?_
          refine g_aload_n dX11_tried_93 rfl ?_
          refine gR_X11_10 rfl dX11_tried_94 sh_0 (b := 1) (m_0_0 hM) ?_
          obtain ⟨v114, ev114⟩ : ∃ z, z = h 2 0 := ⟨_, rfl⟩
          have bv114 : 0 ≤ v114 ∧ v114 ≤ 10 := by rw [ev114]; exact (m_2_0 hM)
          obtain ⟨v115, ev115⟩ : ∃ z, z = h 6 0 := ⟨_, rfl⟩
          have bv115 : 0 ≤ v115 ∧ v115 ≤ 8 := by rw [ev115]; exact (m_6_0 hM)
          obtain ⟨v116, ev116⟩ : ∃ z, z = h 12 0 := ⟨_, rfl⟩
          have bv116 : 0 ≤ v116 ∧ v116 ≤ 8 := by rw [ev116]; exact (m_12_0 hM)
          refine g_cVV (as := [_]) (c_X9_copyFrom_21_1  h hM) dX11_tried_97 mi_X9_copyFrom in_X9_copyFrom se_X9_copyFrom ml_X11_202 rfl rfl rfl sh_21 rfl rfl (Nat.le_of_ble_eq_true rfl) (fun h117 q118 => ?_)
          obtain ⟨hMh117, hFh117, z119, z120, z121⟩ := q118
          have kz119 : h117 22 0 = v114 := by omega
          have kz120 : h117 26 0 = v115 := by omega
          have kz121 : h117 32 0 = v116 := by omega
          refine g_aload_n dX11_tried_100 rfl ?_
          refine gR_X11_16 rfl dX11_tried_101 sh_0 (b := 21) (m_0_1 hMh117) ?_
          refine g_aload_n dX11_tried_104 rfl ?_
          refine gR_X11_70 rfl dX11_tried_105 sh_0 (b := 90) ((hFh117 0 10 rfl).trans er0_10) ?_
          refine g_iload_n dX11_tried_108 rfl (fun _ => ?_)
          refine g_cV (as := [_, _]) (c_X9_passHours_21_90 _ h117 hMh117 (by omega) (by omega)) dX11_tried_109 mi_X9_passHours in_X9_passHours se_X9_passHours ml_X11_152 rfl rfl rfl sh_21 rfl rfl (Nat.le_of_ble_eq_true rfl) (fun v122 h123 q124 => ?_)
          obtain ⟨hMh123, hFh123, bv122, cv122⟩ := q124
          refine g_istore dX11_tried_112 (by decide) rfl ?_
          refine g_iload_n dX11_tried_114 rfl (fun _ => ?_)
          refine g_if_eq 134 dX11_tried_115 (by decide) (fun q125 => ?_) (fun _ => by exfalso; omega)
          refine g_iload dX11_tried_134 rfl (fun _ => ?_)
          refine g_if_eq 155 dX11_tried_136 (by decide) (fun q126 => ?_) (fun _ => by exfalso; omega)
          refine g_iload_n dX11_tried_155 rfl (fun _ => ?_)
          rcases (show x2 = 0 ∨ x2 = 1 ∨ x2 = 2 ∨ (x2 < 0 ∨ 2 < x2) by omega) with q127 | q127 | q127 | q127
          · skip
            refine g_tableIn 184 0 dX11_tried_156 (by omega) (by omega) rfl (by decide) ?_
            refine g_aload_n dX11_tried_184 rfl ?_
            refine gR_X11_16 rfl dX11_tried_185 sh_0 (b := 21) (m_0_1 hMh123) ?_
            refine gR_X11_85 rfl dX11_tried_188 sh_21 (b := 22) (m_21_0 hMh123) ?_
            refine g_cVP (as := []) (c_X6_allSlates_22  h123 hMh123) dX11_tried_191 mi_X6_allSlates in_X6_allSlates se_X6_allSlates ml_X11_206 rfl rfl rfl sh_22 rfl rfl (Nat.le_of_ble_eq_true rfl) (fun v128 q129 => ?_)
            obtain ⟨bv128, cv128⟩ := q129
            exact g_ireturn dX11_tried_194 retI (hPo _ _ ⟨hMh123, (Fr.tr (Fr.sub hFh117 rfl) hFh123 rfl), (by omega), (by omega)⟩)
          · skip
            refine g_tableIn 195 1 dX11_tried_156 (by omega) (by omega) rfl (by decide) ?_
            refine g_iload dX11_tried_195 rfl (fun _ => ?_)
            exact g_ireturn dX11_tried_197 retI (hPo _ _ ⟨hMh123, (Fr.tr (Fr.sub hFh117 rfl) hFh123 rfl), (by omega), (by omega)⟩)
          · skip
            refine g_tableIn 198 2 dX11_tried_156 (by omega) (by omega) rfl (by decide) ?_
            refine g_aload_n dX11_tried_198 rfl ?_
            refine gR_X11_16 rfl dX11_tried_199 sh_0 (b := 21) (m_0_1 hMh123) ?_
            refine gR_X11_104 rfl dX11_tried_202 sh_21 (b := 32) (m_21_2 hMh123) ?_
            refine g_cVP (as := []) (c_X4_allBruises_32  h123 hMh123) dX11_tried_205 mi_X4_allBruises in_X4_allBruises se_X4_allBruises ml_X11_210 rfl rfl rfl sh_32 rfl rfl (Nat.le_of_ble_eq_true rfl) (fun v130 q131 => ?_)
            obtain ⟨bv130, cv130⟩ := q131
            exact g_ireturn dX11_tried_208 retI (hPo _ _ ⟨hMh123, (Fr.tr (Fr.sub hFh117 rfl) hFh123 rfl), (by omega), (by omega)⟩)
          · skip
            refine g_tableOut 209 dX11_tried_156 (by omega) (by decide) ?_
            refine g_aload_n dX11_tried_209 rfl ?_
            refine gR_X11_16 rfl dX11_tried_210 sh_0 (b := 21) (m_0_1 hMh123) ?_
            refine gI_X11_213 rfl dX11_tried_213 sh_21 (m_21_8 hMh123) (fun v132 ev132 bv132 cv132 => ?_)
            exact g_ireturn dX11_tried_216 retI (hPo _ _ ⟨hMh123, (Fr.tr (Fr.sub hFh117 rfl) hFh123 rfl), (by omega), (by omega)⟩)
        · skip
          refine g_if_ne 89 dX11_tried_75 (by decide) (fun _ => by exfalso; omega) (fun q133 => ?_)
          refine g_iload_n dX11_tried_78 rfl (fun _ => ?_)
          refine g_if_ne 89 dX11_tried_79 (by decide) (fun _ => by exfalso; omega) (fun q134 => ?_)
          refine g_iload dX11_tried_82 rfl (fun _ => ?_)
          refine g_if_ne 89 dX11_tried_84 (by decide) (fun _ => by exfalso; omega) (fun q135 => ?_)
          refine g_iconst dX11_tried_87 (inR_c rfl) ?_
          exact g_ireturn dX11_tried_88 retI (hPo _ _ ⟨hM, Fr.rf, (by omega), (by omega)⟩)
      · skip
        refine g_if_eq 87 dX11_tried_66 (by decide) (fun q136 => ?_) (fun _ => by exfalso; omega)
        refine g_iconst dX11_tried_87 (inR_c rfl) ?_
        exact g_ireturn dX11_tried_88 retI (hPo _ _ ⟨hM, Fr.rf, (by omega), (by omega)⟩)
    · skip
      refine g_aload_n dX11_tried_6 rfl ?_
      refine gR_X11_10 rfl dX11_tried_7 sh_0 (b := 1) (m_0_0 hM) ?_
      refine gR_X11_85 rfl dX11_tried_10 sh_1 (b := 2) (m_1_0 hM) ?_
      refine g_iload_n dX11_tried_13 rfl (fun _ => ?_)
      refine g_bipush dX11_tried_14 (inR_c rfl) (by decide) ?_
      refine g_isubB dX11_tried_16 (by omega) (by omega) ?_
      refine g_cVP (as := [_]) (c_X6_has_2 _ h hM (by omega) (by omega)) dX11_tried_17 mi_X6_has in_X6_has se_X6_has ml_X11_159 rfl rfl rfl sh_2 rfl rfl (Nat.le_of_ble_eq_true rfl) (fun v137 q138 => ?_)
      obtain ⟨v139, ev139⟩ : ∃ z, z = h 2 0 := ⟨_, rfl⟩
      have bv139 : 0 ≤ v139 ∧ v139 ≤ 10 := by rw [ev139]; exact (m_2_0 hM)
      rcases q138 with ⟨rfl, q138⟩ | ⟨rfl, q138⟩
      · skip
        refine g_if_eq 27 dX11_tried_20 (by decide) (fun _ => by exfalso; omega) (fun q140 => ?_)
        refine g_iconst dX11_tried_23 (inR_c rfl) ?_
        refine g_goto 28 dX11_tried_24 (by decide) ?_
        refine g_istore_n dX11_tried_28 (by decide) rfl ?_
        refine g_iload_n dX11_tried_29 rfl (fun _ => ?_)
        refine g_bipush dX11_tried_30 (inR_c rfl) (by decide) ?_
        refine g_icmp_lt 56 dX11_tried_32 (by decide) (fun q141 => ?_) (fun _ => by exfalso; omega)
        refine g_iconst dX11_tried_56 (inR_c rfl) ?_
        refine g_istore dX11_tried_57 (by decide) rfl ?_
        refine g_iload_n dX11_tried_59 rfl (fun _ => ?_)
        refine g_iconst dX11_tried_60 (inR_c rfl) ?_
        refine g_bipush dX11_tried_61 (inR_c rfl) (by decide) ?_
        refine g_cSP (av := [_, _, _]) (c_X11_isWithin _ _ _ h hM (by omega) (by omega) (by omega) (by omega) (by omega) (by omega)) dX11_tried_63 mi_X11_isWithin st_X11_isWithin ml_X11_81 rfl rfl rfl rfl (Nat.le_of_ble_eq_true rfl) (fun v142 q143 => ?_)
        rcases q143 with ⟨rfl, q143⟩ | ⟨rfl, q143⟩
        · skip
          refine g_if_eq 87 dX11_tried_66 (by decide) (fun _ => by exfalso; omega) (fun q144 => ?_)
          refine g_iload_n dX11_tried_69 rfl (fun _ => ?_)
          refine g_iconst dX11_tried_70 (inR_c rfl) ?_
          refine g_iconst dX11_tried_71 (inR_c rfl) ?_
          refine g_cSP (av := [_, _, _]) (c_X11_isWithin _ _ _ h hM (by omega) (by omega) (by omega) (by omega) (by omega) (by omega)) dX11_tried_72 mi_X11_isWithin st_X11_isWithin ml_X11_81 rfl rfl rfl rfl (Nat.le_of_ble_eq_true rfl) (fun v145 q146 => ?_)
          rcases q146 with ⟨rfl, q146⟩ | ⟨rfl, q146⟩
          · skip
            exfalso; omega
          · skip
            refine g_if_ne 89 dX11_tried_75 (by decide) (fun _ => by exfalso; omega) (fun q147 => ?_)
            refine g_iload_n dX11_tried_78 rfl (fun _ => ?_)
            refine g_if_ne 89 dX11_tried_79 (by decide) (fun q148 => ?_) (fun _ => by exfalso; omega)
            refine g_aload_n dX11_tried_89 rfl ?_
            refine gR_X11_16 rfl dX11_tried_90 sh_0 (b := 21) (m_0_1 hM) ?_
            refine g_aload_n dX11_tried_93 rfl ?_
            refine gR_X11_10 rfl dX11_tried_94 sh_0 (b := 1) (m_0_0 hM) ?_
            have q149 : h 2 0 = v139 := ev139.symm
            obtain ⟨v150, ev150⟩ : ∃ z, z = h 6 0 := ⟨_, rfl⟩
            have bv150 : 0 ≤ v150 ∧ v150 ≤ 8 := by rw [ev150]; exact (m_6_0 hM)
            obtain ⟨v151, ev151⟩ : ∃ z, z = h 12 0 := ⟨_, rfl⟩
            have bv151 : 0 ≤ v151 ∧ v151 ≤ 8 := by rw [ev151]; exact (m_12_0 hM)
            refine g_cVV (as := [_]) (c_X9_copyFrom_21_1  h hM) dX11_tried_97 mi_X9_copyFrom in_X9_copyFrom se_X9_copyFrom ml_X11_202 rfl rfl rfl sh_21 rfl rfl (Nat.le_of_ble_eq_true rfl) (fun h152 q153 => ?_)
            obtain ⟨hMh152, hFh152, z154, z155, z156⟩ := q153
            have kz154 : h152 22 0 = v139 := by omega
            have kz155 : h152 26 0 = v150 := by omega
            have kz156 : h152 32 0 = v151 := by omega
            refine g_aload_n dX11_tried_100 rfl ?_
            refine gR_X11_16 rfl dX11_tried_101 sh_0 (b := 21) (m_0_1 hMh152) ?_
            refine g_aload_n dX11_tried_104 rfl ?_
            refine gR_X11_70 rfl dX11_tried_105 sh_0 (b := 90) ((hFh152 0 10 rfl).trans er0_10) ?_
            refine g_iload_n dX11_tried_108 rfl (fun _ => ?_)
            refine g_cV (as := [_, _]) (c_X9_passHours_21_90 _ h152 hMh152 (by omega) (by omega)) dX11_tried_109 mi_X9_passHours in_X9_passHours se_X9_passHours ml_X11_152 rfl rfl rfl sh_21 rfl rfl (Nat.le_of_ble_eq_true rfl) (fun v157 h158 q159 => ?_)
            obtain ⟨hMh158, hFh158, bv157, cv157⟩ := q159
            refine g_istore dX11_tried_112 (by decide) rfl ?_
            refine g_iload_n dX11_tried_114 rfl (fun _ => ?_)
            refine g_if_eq 134 dX11_tried_115 (by decide) (fun _ => by exfalso; omega) (fun q160 => ?_)
            refine g_aload_n dX11_tried_118 rfl ?_
            refine gR_X11_16 rfl dX11_tried_119 sh_0 (b := 21) (m_0_1 hMh158) ?_
            refine gR_X11_85 rfl dX11_tried_122 sh_21 (b := 22) (m_21_0 hMh158) ?_
            refine gR_X11_163 rfl dX11_tried_125 sh_22 (b := 24) (m_22_2 hMh158) ?_
            refine g_iload_n dX11_tried_128 rfl (fun _ => ?_)
            refine g_bipush dX11_tried_129 (inR_c rfl) (by decide) ?_
            refine g_isubB dX11_tried_131 (by omega) (by omega) ?_
            refine g_ialdB dX11_tried_132 sh_24 (by omega) (by omega) (m_24 hMh158 _) (fun v161 ev161 bv161 cv161 => ?_)
            exact g_ireturn dX11_tried_133 retI (hPo _ _ ⟨hMh158, (Fr.tr (Fr.sub hFh152 rfl) hFh158 rfl), (by omega), (by omega)⟩)
        · skip
          refine g_if_eq 87 dX11_tried_66 (by decide) (fun q162 => ?_) (fun _ => by exfalso; omega)
          refine g_iconst dX11_tried_87 (inR_c rfl) ?_
          exact g_ireturn dX11_tried_88 retI (hPo _ _ ⟨hM, Fr.rf, (by omega), (by omega)⟩)
      · skip
        refine g_if_eq 27 dX11_tried_20 (by decide) (fun q163 => ?_) (fun _ => by exfalso; omega)
        refine g_iconst dX11_tried_27 (inR_c rfl) ?_
        refine g_istore_n dX11_tried_28 (by decide) rfl ?_
        refine g_iload_n dX11_tried_29 rfl (fun _ => ?_)
        refine g_bipush dX11_tried_30 (inR_c rfl) (by decide) ?_
        refine g_icmp_lt 56 dX11_tried_32 (by decide) (fun q164 => ?_) (fun q164 => ?_)
        · skip
          refine g_iconst dX11_tried_56 (inR_c rfl) ?_
          refine g_istore dX11_tried_57 (by decide) rfl ?_
          refine g_iload_n dX11_tried_59 rfl (fun _ => ?_)
          refine g_iconst dX11_tried_60 (inR_c rfl) ?_
          refine g_bipush dX11_tried_61 (inR_c rfl) (by decide) ?_
          refine g_cSP (av := [_, _, _]) (c_X11_isWithin _ _ _ h hM (by omega) (by omega) (by omega) (by omega) (by omega) (by omega)) dX11_tried_63 mi_X11_isWithin st_X11_isWithin ml_X11_81 rfl rfl rfl rfl (Nat.le_of_ble_eq_true rfl) (fun v165 q166 => ?_)
          rcases q166 with ⟨rfl, q166⟩ | ⟨rfl, q166⟩
          · skip
            refine g_if_eq 87 dX11_tried_66 (by decide) (fun _ => by exfalso; omega) (fun q167 => ?_)
            refine g_iload_n dX11_tried_69 rfl (fun _ => ?_)
            refine g_iconst dX11_tried_70 (inR_c rfl) ?_
            refine g_iconst dX11_tried_71 (inR_c rfl) ?_
            refine g_cSP (av := [_, _, _]) (c_X11_isWithin _ _ _ h hM (by omega) (by omega) (by omega) (by omega) (by omega) (by omega)) dX11_tried_72 mi_X11_isWithin st_X11_isWithin ml_X11_81 rfl rfl rfl rfl (Nat.le_of_ble_eq_true rfl) (fun v168 q169 => ?_)
            rcases q169 with ⟨rfl, q169⟩ | ⟨rfl, q169⟩
            · skip
              exfalso; omega
            · skip
              refine g_if_ne 89 dX11_tried_75 (by decide) (fun _ => by exfalso; omega) (fun q170 => ?_)
              refine g_iload_n dX11_tried_78 rfl (fun _ => ?_)
              refine g_if_ne 89 dX11_tried_79 (by decide) (fun _ => by exfalso; omega) (fun q171 => ?_)
              refine g_iload dX11_tried_82 rfl (fun _ => ?_)
              refine g_if_ne 89 dX11_tried_84 (by decide) (fun _ => by exfalso; omega) (fun q172 => ?_)
              refine g_iconst dX11_tried_87 (inR_c rfl) ?_
              exact g_ireturn dX11_tried_88 retI (hPo _ _ ⟨hM, Fr.rf, (by omega), (by omega)⟩)
          · skip
            refine g_if_eq 87 dX11_tried_66 (by decide) (fun q173 => ?_) (fun _ => by exfalso; omega)
            refine g_iconst dX11_tried_87 (inR_c rfl) ?_
            exact g_ireturn dX11_tried_88 retI (hPo _ _ ⟨hM, Fr.rf, (by omega), (by omega)⟩)
        · skip
          refine g_aload_n dX11_tried_35 rfl ?_
          refine gR_X11_10 rfl dX11_tried_36 sh_0 (b := 1) (m_0_0 hM) ?_
          refine gR_X11_104 rfl dX11_tried_39 sh_1 (b := 12) (m_1_2 hM) ?_
          refine g_iload_n dX11_tried_42 rfl (fun _ => ?_)
          refine g_bipush dX11_tried_43 (inR_c rfl) (by decide) ?_
          refine g_isubB dX11_tried_45 (by omega) (by omega) ?_
          refine g_cVP (as := [_]) (c_X4_has_12 _ h hM (by omega) (by omega)) dX11_tried_46 mi_X4_has in_X4_has se_X4_has ml_X11_124 rfl rfl rfl sh_12 rfl rfl (Nat.le_of_ble_eq_true rfl) (fun v174 q175 => ?_)
          obtain ⟨v176, ev176⟩ : ∃ z, z = h 12 0 := ⟨_, rfl⟩
          have bv176 : 0 ≤ v176 ∧ v176 ≤ 8 := by rw [ev176]; exact (m_12_0 hM)
          rcases q175 with ⟨rfl, q175⟩ | ⟨rfl, q175⟩
          · skip
            refine g_if_eq 56 dX11_tried_49 (by decide) (fun _ => by exfalso; omega) (fun q177 => ?_)
            refine g_iconst dX11_tried_52 (inR_c rfl) ?_
            refine g_goto 57 dX11_tried_53 (by decide) ?_
            refine g_istore dX11_tried_57 (by decide) rfl ?_
            refine g_iload_n dX11_tried_59 rfl (fun _ => ?_)
            refine g_iconst dX11_tried_60 (inR_c rfl) ?_
            refine g_bipush dX11_tried_61 (inR_c rfl) (by decide) ?_
            refine g_cSP (av := [_, _, _]) (c_X11_isWithin _ _ _ h hM (by omega) (by omega) (by omega) (by omega) (by omega) (by omega)) dX11_tried_63 mi_X11_isWithin st_X11_isWithin ml_X11_81 rfl rfl rfl rfl (Nat.le_of_ble_eq_true rfl) (fun v178 q179 => ?_)
            rcases q179 with ⟨rfl, q179⟩ | ⟨rfl, q179⟩
            · skip
              refine g_if_eq 87 dX11_tried_66 (by decide) (fun _ => by exfalso; omega) (fun q180 => ?_)
              refine g_iload_n dX11_tried_69 rfl (fun _ => ?_)
              refine g_iconst dX11_tried_70 (inR_c rfl) ?_
              refine g_iconst dX11_tried_71 (inR_c rfl) ?_
              refine g_cSP (av := [_, _, _]) (c_X11_isWithin _ _ _ h hM (by omega) (by omega) (by omega) (by omega) (by omega) (by omega)) dX11_tried_72 mi_X11_isWithin st_X11_isWithin ml_X11_81 rfl rfl rfl rfl (Nat.le_of_ble_eq_true rfl) (fun v181 q182 => ?_)
              rcases q182 with ⟨rfl, q182⟩ | ⟨rfl, q182⟩
              · skip
                exfalso; omega
              · skip
                refine g_if_ne 89 dX11_tried_75 (by decide) (fun _ => by exfalso; omega) (fun q183 => ?_)
                refine g_iload_n dX11_tried_78 rfl (fun _ => ?_)
                refine g_if_ne 89 dX11_tried_79 (by decide) (fun _ => by exfalso; omega) (fun q184 => ?_)
                refine g_iload dX11_tried_82 rfl (fun _ => ?_)
                refine g_if_ne 89 dX11_tried_84 (by decide) (fun q185 => ?_) (fun _ => by exfalso; omega)
                refine g_aload_n dX11_tried_89 rfl ?_
                refine gR_X11_16 rfl dX11_tried_90 sh_0 (b := 21) (m_0_1 hM) ?_
                refine g_aload_n dX11_tried_93 rfl ?_
                refine gR_X11_10 rfl dX11_tried_94 sh_0 (b := 1) (m_0_0 hM) ?_
                have q186 : h 2 0 = v139 := ev139.symm
                obtain ⟨v187, ev187⟩ : ∃ z, z = h 6 0 := ⟨_, rfl⟩
                have bv187 : 0 ≤ v187 ∧ v187 ≤ 8 := by rw [ev187]; exact (m_6_0 hM)
                have q188 : h 12 0 = v176 := ev176.symm
                refine g_cVV (as := [_]) (c_X9_copyFrom_21_1  h hM) dX11_tried_97 mi_X9_copyFrom in_X9_copyFrom se_X9_copyFrom ml_X11_202 rfl rfl rfl sh_21 rfl rfl (Nat.le_of_ble_eq_true rfl) (fun h189 q190 => ?_)
                obtain ⟨hMh189, hFh189, z191, z192, z193⟩ := q190
                have kz191 : h189 22 0 = v139 := by omega
                have kz192 : h189 26 0 = v187 := by omega
                have kz193 : h189 32 0 = v176 := by omega
                refine g_aload_n dX11_tried_100 rfl ?_
                refine gR_X11_16 rfl dX11_tried_101 sh_0 (b := 21) (m_0_1 hMh189) ?_
                refine g_aload_n dX11_tried_104 rfl ?_
                refine gR_X11_70 rfl dX11_tried_105 sh_0 (b := 90) ((hFh189 0 10 rfl).trans er0_10) ?_
                refine g_iload_n dX11_tried_108 rfl (fun _ => ?_)
                refine g_cV (as := [_, _]) (c_X9_passHours_21_90 _ h189 hMh189 (by omega) (by omega)) dX11_tried_109 mi_X9_passHours in_X9_passHours se_X9_passHours ml_X11_152 rfl rfl rfl sh_21 rfl rfl (Nat.le_of_ble_eq_true rfl) (fun v194 h195 q196 => ?_)
                obtain ⟨hMh195, hFh195, bv194, cv194⟩ := q196
                refine g_istore dX11_tried_112 (by decide) rfl ?_
                refine g_iload_n dX11_tried_114 rfl (fun _ => ?_)
                refine g_if_eq 134 dX11_tried_115 (by decide) (fun q197 => ?_) (fun _ => by exfalso; omega)
                refine g_iload dX11_tried_134 rfl (fun _ => ?_)
                refine g_if_eq 155 dX11_tried_136 (by decide) (fun _ => by exfalso; omega) (fun q198 => ?_)
                refine g_aload_n dX11_tried_139 rfl ?_
                refine gR_X11_16 rfl dX11_tried_140 sh_0 (b := 21) (m_0_1 hMh195) ?_
                refine gR_X11_104 rfl dX11_tried_143 sh_21 (b := 32) (m_21_2 hMh195) ?_
                refine gR_X11_199 rfl dX11_tried_146 sh_32 (b := 36) (m_32_4 hMh195) ?_
                refine g_iload_n dX11_tried_149 rfl (fun _ => ?_)
                refine g_bipush dX11_tried_150 (inR_c rfl) (by decide) ?_
                refine g_isubB dX11_tried_152 (by omega) (by omega) ?_
                refine g_ialdB dX11_tried_153 sh_36 (by omega) (by omega) (m_36 hMh195 _) (fun v199 ev199 bv199 cv199 => ?_)
                exact g_ireturn dX11_tried_154 retI (hPo _ _ ⟨hMh195, (Fr.tr (Fr.sub hFh189 rfl) hFh195 rfl), (by omega), (by omega)⟩)
            · skip
              refine g_if_eq 87 dX11_tried_66 (by decide) (fun q200 => ?_) (fun _ => by exfalso; omega)
              refine g_iconst dX11_tried_87 (inR_c rfl) ?_
              exact g_ireturn dX11_tried_88 retI (hPo _ _ ⟨hM, Fr.rf, (by omega), (by omega)⟩)
          · skip
            refine g_if_eq 56 dX11_tried_49 (by decide) (fun q201 => ?_) (fun _ => by exfalso; omega)
            refine g_iconst dX11_tried_56 (inR_c rfl) ?_
            refine g_istore dX11_tried_57 (by decide) rfl ?_
            refine g_iload_n dX11_tried_59 rfl (fun _ => ?_)
            refine g_iconst dX11_tried_60 (inR_c rfl) ?_
            refine g_bipush dX11_tried_61 (inR_c rfl) (by decide) ?_
            refine g_cSP (av := [_, _, _]) (c_X11_isWithin _ _ _ h hM (by omega) (by omega) (by omega) (by omega) (by omega) (by omega)) dX11_tried_63 mi_X11_isWithin st_X11_isWithin ml_X11_81 rfl rfl rfl rfl (Nat.le_of_ble_eq_true rfl) (fun v202 q203 => ?_)
            rcases q203 with ⟨rfl, q203⟩ | ⟨rfl, q203⟩
            · skip
              refine g_if_eq 87 dX11_tried_66 (by decide) (fun _ => by exfalso; omega) (fun q204 => ?_)
              refine g_iload_n dX11_tried_69 rfl (fun _ => ?_)
              refine g_iconst dX11_tried_70 (inR_c rfl) ?_
              refine g_iconst dX11_tried_71 (inR_c rfl) ?_
              refine g_cSP (av := [_, _, _]) (c_X11_isWithin _ _ _ h hM (by omega) (by omega) (by omega) (by omega) (by omega) (by omega)) dX11_tried_72 mi_X11_isWithin st_X11_isWithin ml_X11_81 rfl rfl rfl rfl (Nat.le_of_ble_eq_true rfl) (fun v205 q206 => ?_)
              rcases q206 with ⟨rfl, q206⟩ | ⟨rfl, q206⟩
              · skip
                exfalso; omega
              · skip
                refine g_if_ne 89 dX11_tried_75 (by decide) (fun _ => by exfalso; omega) (fun q207 => ?_)
                refine g_iload_n dX11_tried_78 rfl (fun _ => ?_)
                refine g_if_ne 89 dX11_tried_79 (by decide) (fun _ => by exfalso; omega) (fun q208 => ?_)
                refine g_iload dX11_tried_82 rfl (fun _ => ?_)
                refine g_if_ne 89 dX11_tried_84 (by decide) (fun _ => by exfalso; omega) (fun q209 => ?_)
                refine g_iconst dX11_tried_87 (inR_c rfl) ?_
                exact g_ireturn dX11_tried_88 retI (hPo _ _ ⟨hM, Fr.rf, (by omega), (by omega)⟩)
            · skip
              refine g_if_eq 87 dX11_tried_66 (by decide) (fun q210 => ?_) (fun _ => by exfalso; omega)
              refine g_iconst dX11_tried_87 (inR_c rfl) ?_
              exact g_ireturn dX11_tried_88 retI (hPo _ _ ⟨hM, Fr.rf, (by omega), (by omega)⟩)
