set_option maxRecDepth 100000 in
set_option maxHeartbeats 4000000 in
theorem c_X12_law_98 (x1 : Int) (h : MEM) (hM : MBm h) (bx1 : -2147483648 ≤ x1) (dx1 : x1 ≤ 2147483647) (f_WFL : WFL h) : CI yX12_law cX12_law 4 (some .int) 9 [pR 98, pI x1] h (fun x h' => MBm h' ∧ Fr [(98, 2), (98, 24), (98, 37), (98, 38), (98, 39), (98, 40), (98, 41), (98, 42), (98, 43), (98, 44), (98, 45), (115, 0), (116, 0), (117, 0), (118, 0), (119, 0), (120, 0), (121, 0), (122, 0), (123, 0), (124, 0), (125, 0), (126, 0), (127, 0)] h h' ∧ -6000 ≤ x ∧ x ≤ 14 ∧ WFL h') := by
  refine CI.of (L0 := [some (pR 98), some (pI x1), none, none]) rfl (Nat.le_of_ble_eq_true rfl) rfl (fun Po hPo hav => ?_)
  refine g_iload_n dX12_law_0 rfl (fun _ => ?_)
  refine g_i2l dX12_law_1 ?_
  refine g_lconst (v := 1) dX12_law_2 rfl ?_
  refine g_ldc2 (v := 200) dX12_law_3 kl_X12_316 (by decide) ?_
  refine g_cSP (av := [_, _, _]) (c_X12_lies _ _ _ h hM (by omega) (by omega) (by omega) (by omega) (by omega) (by omega)) dX12_law_6 mi_X12_lies st_X12_lies ml_X12_175 rfl rfl rfl rfl (Nat.le_of_ble_eq_true rfl) (fun v1 q2 => ?_)
  rcases q2 with ⟨rfl, q2⟩ | ⟨rfl, q2⟩
  · skip
    refine g_if_eq 20 dX12_law_9 (by decide) (fun _ => by exfalso; omega) (fun q3 => ?_)
    refine g_iload_n dX12_law_12 rfl (fun _ => ?_)
    refine g_aload_n dX12_law_13 rfl ?_
    refine gI_X12_204 rfl dX12_law_14 sh_98 (m_98_1 hM) (fun v4 ev4 bv4 cv4 => ?_)
    refine g_icmp_le 22 dX12_law_17 (by decide) (fun q5 => ?_) (fun q5 => ?_)
    · skip
      refine g_aload_n dX12_law_22 rfl ?_
      refine g_iconst dX12_law_23 (inR_c rfl) ?_
      refine pI_X12_204 rfl dX12_law_24 sh_98 (fun h6 eh6 => ?_)
      have hFh6 := Fr.st eh6
      have hMh6 := u_98_1 hM eh6 (by omega) (by omega)
      refine g_aload_n dX12_law_27 rfl ?_
      refine g_iconst dX12_law_28 (inR_c rfl) ?_
      refine pI_X12_211 rfl dX12_law_29 sh_98 (fun h7 eh7 => ?_)
      have hFh7 := Fr.st eh7
      have hMh7 := u_98_36 hMh6 eh7 (by omega) (by omega)
      refine g_aload_n dX12_law_32 rfl ?_
      refine g_iload_n dX12_law_33 rfl (fun _ => ?_)
      refine pI_X12_214 rfl dX12_law_34 sh_98 (fun h8 eh8 => ?_)
      have hFh8 := Fr.st eh8
      have hMh8 := u_98_37 hMh7 eh8 (by omega) (by omega)
      refine g_aload_n dX12_law_37 rfl ?_
      refine g_iconst dX12_law_38 (inR_c rfl) ?_
      refine pI_X12_217 rfl dX12_law_39 sh_98 (fun h9 eh9 => ?_)
      have hFh9 := Fr.st eh9
      have hMh9 := u_98_38 hMh8 eh9 (by omega) (by omega)
      refine g_aload_n dX12_law_42 rfl ?_
      refine g_iconst dX12_law_43 (inR_c rfl) ?_
      refine pI_X12_310 rfl dX12_law_44 sh_98 (fun h10 eh10 => ?_)
      have hFh10 := Fr.st eh10
      have hMh10 := u_98_39 hMh9 eh10 (by omega) (by omega)
      refine g_aload_n dX12_law_47 rfl ?_
      refine g_iconst dX12_law_48 (inR_c rfl) ?_
      refine pI_X12_224 rfl dX12_law_49 sh_98 (fun h11 eh11 => ?_)
      have hFh11 := Fr.st eh11
      have hMh11 := u_98_40 hMh10 eh11 (by omega) (by omega)
      have q12 : h11 98 39 = 0 := ((hFh11 98 39 rfl).trans (st_at eh10))
      have q13 : h11 98 40 = 0 := (st_at eh11)
      have q14 : h11 98 36 = 0 := ((hFh11 98 36 rfl).trans ((hFh10 98 36 rfl).trans ((hFh9 98 36 rfl).trans ((hFh8 98 36 rfl).trans (st_at eh7)))))
      have q15 : h11 98 37 = x1 := ((hFh11 98 37 rfl).trans ((hFh10 98 37 rfl).trans ((hFh9 98 37 rfl).trans (st_at eh8))))
      have nw0 : NWo h11 := Or.inr (NW_0 (by omega) (by omega) (by omega) (by omega))
      refine g_iconst dX12_law_52 (inR_c rfl) ?_
      have c54 : ∀ (n : Nat) (y16 : Int) (h17 : MEM), MBm h17 → Fr [(98, 37), (98, 39), (98, 40), (98, 41), (98, 42), (98, 43), (98, 44), (98, 45), (121, 0), (122, 0), (123, 0), (124, 0), (125, 0), (126, 0), (127, 0)] h11 h17 → 0 ≤ y16 → y16 ≤ 1 → NWo h17 → h17 98 36 ≤ 200 → -6000 ≤ h17 98 38 → h17 98 36 ≤ h17 98 37 → 10000 * (200 - h17 98 36) + (h17 98 38 + 6000) < (n : Int) → G yX12_law cX12_law 4 (some .int) none Po (9, 540, 0, 0) 54 [some (pR 98), none, some (pI y16), none] [] SH h17 0 0 := by
        intro n
        induction n with
        | zero =>
          intro y16 h17 hMh17 hFh17 by16 dy16 e54_0 e54_1 e54_2 e54_3 hn
          exfalso; omega
        | succ n ih54 =>
          intro y16 h17 hMh17 hFh17 by16 dy16 e54_0 e54_1 e54_2 e54_3 hn
          obtain ⟨v18, ev18⟩ : ∃ z, z = h17 98 36 := ⟨_, rfl⟩
          have bv18 : 0 ≤ v18 ∧ v18 ≤ 200 := by rw [ev18]; exact (m_98_36 hMh17)
          have q19 : h17 98 37 = x1 := ((hFh17 98 37 rfl).trans ((hFh11 98 37 rfl).trans ((hFh10 98 37 rfl).trans ((hFh9 98 37 rfl).trans (st_at eh8)))))
          obtain ⟨v20, ev20⟩ : ∃ z, z = h17 98 38 := ⟨_, rfl⟩
          have bv20 : -6000 ≤ v20 ∧ v20 ≤ 0 := by rw [ev20]; exact (m_98_38 hMh17)
          refine g_iload_n dX12_law_54 rfl (fun _ => ?_)
          refine g_if_eq 128 dX12_law_55 (by decide) (fun q21 => ?_) (fun q21 => ?_)
          · skip
            refine g_aload_n dX12_law_128 rfl ?_
            refine gE_X12_217 rfl dX12_law_129 sh_98 ev20.symm ?_
            refine g_if_ge 140 dX12_law_132 (by decide) (fun q22 => ?_) (fun q22 => ?_)
            · skip
              refine g_iconst dX12_law_140 (inR_c rfl) ?_
              have c142 : ∀ (n : Nat) (y23 : Int) (h24 : MEM), MBm h24 → Fr [(115, 0), (116, 0), (117, 0), (118, 0)] h17 h24 → 0 ≤ y23 → y23 ≤ 14 → CP1 y23 h24 → 14 - y23 < (n : Int) → G yX12_law cX12_law 4 (some .int) none Po (9, 540, 0, 0) 142 [some (pR 98), none, none, some (pI y23)] [] SH h24 0 0 := by
                intro n
                induction n with
                | zero =>
                  intro y23 h24 hMh24 hFh24 by23 dy23 e142_0 hn
                  exfalso; omega
                | succ n ih142 =>
                  intro y23 h24 hMh24 hFh24 by23 dy23 e142_0 hn
                  refine g_iload_n dX12_law_142 rfl (fun _ => ?_)
                  refine g_aload_n dX12_law_143 rfl ?_
                  refine gI_X12_310 rfl dX12_law_144 sh_98 (m_98_39 hMh24) (fun v25 ev25 bv25 cv25 => ?_)
                  refine g_icmp_ge 204 dX12_law_147 (by decide) (fun q26 => ?_) (fun q26 => ?_)
                  · skip
                    refine g_iconst dX12_law_204 (inR_c rfl) ?_
                    have q27 : h24 98 39 = v25 := ev25.symm
                    have cpa : CPA h24 := CPA_mk e142_0 (by omega)
                    have c206 : ∀ (n : Nat) (y28 : Int) (h29 : MEM), MBm h29 → Fr [(119, 0), (120, 0)] h24 h29 → 0 ≤ y28 → y28 ≤ 200 → CP2 y28 h29 → 200 - y28 < (n : Int) → G yX12_law cX12_law 4 (some .int) none Po (9, 540, 0, 0) 206 [some (pR 98), none, none, some (pI y28)] [] SH h29 0 0 := by
                      intro n
                      induction n with
                      | zero =>
                        intro y28 h29 hMh29 hFh29 by28 dy28 e206_0 hn
                        exfalso; omega
                      | succ n ih206 =>
                        intro y28 h29 hMh29 hFh29 by28 dy28 e206_0 hn
                        refine g_iload_n dX12_law_206 rfl (fun _ => ?_)
                        refine g_aload_n dX12_law_207 rfl ?_
                        refine gI_X12_224 rfl dX12_law_208 sh_98 (m_98_40 hMh29) (fun v30 ev30 bv30 cv30 => ?_)
                        refine g_icmp_ge 244 dX12_law_211 (by decide) (fun q31 => ?_) (fun q31 => ?_)
                        · skip
                          refine g_aload_n dX12_law_244 rfl ?_
                          have q32 : h29 98 40 = v30 := ev30.symm
                          have cpb : CPB h29 := CPB_mk e206_0 (by omega)
                          refine g_aload_n dX12_law_245 rfl ?_
                          refine gE_X12_310 rfl dX12_law_246 sh_98 ((hFh29 98 39 rfl).trans ev25.symm) ?_
                          refine pI_X12_321 rfl dX12_law_249 sh_98 (fun h33 eh33 => ?_)
                          have hFh33 := Fr.st eh33
                          have hMh33 := u_98_23 hMh29 eh33 (by omega) (by omega)
                          have q34 : h33 98 23 = v25 := (st_at eh33)
                          have q35 : h33 98 39 = v25 := ((hFh33 98 39 rfl).trans ((hFh29 98 39 rfl).trans ev25.symm))
                          have q36 : h33 98 38 = v20 := ((hFh33 98 38 rfl).trans ((hFh29 98 38 rfl).trans ((hFh24 98 38 rfl).trans ev20.symm)))
                          have wfl : WFL h33 := WFL_new (((NWo.fr (T := [(98, 24), (115, 0), (116, 0), (117, 0), (118, 0), (119, 0), (120, 0)]) e54_0 (Fr.tr (Fr.tr (Fr.sub hFh24 rfl) hFh29 rfl) hFh33 rfl) rfl)).resolve_left (by omega)) (CPA.fr (T := [(98, 24), (119, 0), (120, 0)]) cpa (Fr.tr (Fr.sub hFh29 rfl) hFh33 rfl) rfl) (CPB.fr (T := [(98, 24)]) cpb (Fr.sub hFh33 rfl) rfl) (by omega)
                          refine g_aload_n dX12_law_252 rfl ?_
                          refine gE_X12_321 rfl dX12_law_253 sh_98 (st_at eh33) ?_
                          exact g_ireturn dX12_law_256 retI (hPo _ _ ⟨hMh33, (Fr.tr (Fr.tr (Fr.tr (Fr.tr (Fr.tr (Fr.tr (Fr.tr (Fr.tr (Fr.tr (Fr.sub hFh6 rfl) hFh7 rfl) hFh8 rfl) hFh9 rfl) hFh10 rfl) hFh11 rfl) hFh17 rfl) hFh24 rfl) hFh29 rfl) hFh33 rfl), (by omega), (by omega), wfl⟩)
                        · skip
                          refine g_aload_n dX12_law_214 rfl ?_
                          refine gR_X12_76 rfl dX12_law_215 sh_98 (b := 119) (m_98_28 hMh29) ?_
                          refine g_iload_n dX12_law_218 rfl (fun _ => ?_)
                          refine g_aload_n dX12_law_219 rfl ?_
                          refine gR_X12_94 rfl dX12_law_220 sh_98 (b := 125) (m_98_34 hMh29) ?_
                          refine g_iload_n dX12_law_223 rfl (fun _ => ?_)
                          refine g_ialdB dX12_law_224 sh_125 (by omega) (by omega) (m_125 hMh29 _) (fun v37 ev37 bv37 cv37 => ?_)
                          refine g_iastB dX12_law_225 sh_119 (by omega) (by omega) (fun h38 eh38 => ?_)
                          have hFh38 := Fr.ar eh38
                          have hMh38 := u_119 hMh29 eh38 (by omega) (by omega)
                          refine g_aload_n dX12_law_226 rfl ?_
                          refine gR_X12_79 rfl dX12_law_227 sh_98 (b := 120) (m_98_29 hMh38) ?_
                          refine g_iload_n dX12_law_230 rfl (fun _ => ?_)
                          refine g_aload_n dX12_law_231 rfl ?_
                          refine gR_X12_97 rfl dX12_law_232 sh_98 (b := 126) (m_98_35 hMh38) ?_
                          refine g_iload_n dX12_law_235 rfl (fun _ => ?_)
                          refine g_ialdB dX12_law_236 sh_126 (by omega) (by omega) (m_126 hMh38 _) (fun v39 ev39 bv39 cv39 => ?_)
                          refine g_iastB dX12_law_237 sh_120 (by omega) (by omega) (fun h40 eh40 => ?_)
                          have hFh40 := Fr.ar eh40
                          have hMh40 := u_120 hMh38 eh40 (by omega) (by omega)
                          refine g_iincB dX12_law_238 rfl rfl (by omega) (by omega) ?_
                          refine g_goto 206 dX12_law_241 (by decide) ?_
                          exact ih206 _ _ hMh40 (Fr.tr (Fr.tr (Fr.sub hFh29 rfl) hFh38 rfl) hFh40 rfl) (by omega) (by omega) (by first | exact CP2_0 | exact CP2_s e206_0 (by omega) (by assumption) (by assumption) (by assumption)) (by omega)
                    refine g_istore_n dX12_law_205 (by decide) rfl ?_
                    exact c206 201 _ _ hMh24 Fr.rf (by omega) (by omega) (by first | exact CP2_0 | exact CP2_s e206_0 (by omega) (by assumption) (by assumption) (by assumption)) (by omega)
                  · skip
                    refine g_aload_n dX12_law_150 rfl ?_
                    refine gR_X12_64 rfl dX12_law_151 sh_98 (b := 115) (m_98_24 hMh24) ?_
                    refine g_iload_n dX12_law_154 rfl (fun _ => ?_)
                    refine g_aload_n dX12_law_155 rfl ?_
                    refine gR_X12_82 rfl dX12_law_156 sh_98 (b := 121) (m_98_30 hMh24) ?_
                    refine g_iload_n dX12_law_159 rfl (fun _ => ?_)
                    refine g_ialdB dX12_law_160 sh_121 (by omega) (by omega) (m_121 hMh24 _) (fun v41 ev41 bv41 cv41 => ?_)
                    refine g_iastB dX12_law_161 sh_115 (by omega) (by omega) (fun h42 eh42 => ?_)
                    have hFh42 := Fr.ar eh42
                    have hMh42 := u_115 hMh24 eh42 (by omega) (by omega)
                    refine g_aload_n dX12_law_162 rfl ?_
                    refine gR_X12_67 rfl dX12_law_163 sh_98 (b := 116) (m_98_25 hMh42) ?_
                    refine g_iload_n dX12_law_166 rfl (fun _ => ?_)
                    refine g_aload_n dX12_law_167 rfl ?_
                    refine gR_X12_85 rfl dX12_law_168 sh_98 (b := 122) (m_98_31 hMh42) ?_
                    refine g_iload_n dX12_law_171 rfl (fun _ => ?_)
                    refine g_ialdB dX12_law_172 sh_122 (by omega) (by omega) (m_122 hMh42 _) (fun v43 ev43 bv43 cv43 => ?_)
                    refine g_iastB dX12_law_173 sh_116 (by omega) (by omega) (fun h44 eh44 => ?_)
                    have hFh44 := Fr.ar eh44
                    have hMh44 := u_116 hMh42 eh44 (by omega) (by omega)
                    refine g_aload_n dX12_law_174 rfl ?_
                    refine gR_X12_70 rfl dX12_law_175 sh_98 (b := 117) (m_98_26 hMh44) ?_
                    refine g_iload_n dX12_law_178 rfl (fun _ => ?_)
                    refine g_aload_n dX12_law_179 rfl ?_
                    refine gR_X12_88 rfl dX12_law_180 sh_98 (b := 123) (m_98_32 hMh44) ?_
                    refine g_iload_n dX12_law_183 rfl (fun _ => ?_)
                    refine g_ialdB dX12_law_184 sh_123 (by omega) (by omega) (m_123 hMh44 _) (fun v45 ev45 bv45 cv45 => ?_)
                    refine g_iastB dX12_law_185 sh_117 (by omega) (by omega) (fun h46 eh46 => ?_)
                    have hFh46 := Fr.ar eh46
                    have hMh46 := u_117 hMh44 eh46 (by omega) (by omega)
                    refine g_aload_n dX12_law_186 rfl ?_
                    refine gR_X12_73 rfl dX12_law_187 sh_98 (b := 118) (m_98_27 hMh46) ?_
                    refine g_iload_n dX12_law_190 rfl (fun _ => ?_)
                    refine g_aload_n dX12_law_191 rfl ?_
                    refine gR_X12_91 rfl dX12_law_192 sh_98 (b := 124) (m_98_33 hMh46) ?_
                    refine g_iload_n dX12_law_195 rfl (fun _ => ?_)
                    refine g_ialdB dX12_law_196 sh_124 (by omega) (by omega) (m_124 hMh46 _) (fun v47 ev47 bv47 cv47 => ?_)
                    refine g_iastB dX12_law_197 sh_118 (by omega) (by omega) (fun h48 eh48 => ?_)
                    have hFh48 := Fr.ar eh48
                    have hMh48 := u_118 hMh46 eh48 (by omega) (by omega)
                    refine g_iincB dX12_law_198 rfl rfl (by omega) (by omega) ?_
                    refine g_goto 142 dX12_law_201 (by decide) ?_
                    exact ih142 _ _ hMh48 (Fr.tr (Fr.tr (Fr.tr (Fr.tr (Fr.sub hFh24 rfl) hFh42 rfl) hFh44 rfl) hFh46 rfl) hFh48 rfl) (by omega) (by omega) (by first | exact CP1_0 | exact CP1_s e142_0 (by omega) (by assumption) (by assumption) (by assumption) (by assumption) (by assumption) (by assumption) (by assumption)) (by omega)
              refine g_istore_n dX12_law_141 (by decide) rfl ?_
              refine g_drop 2 ?_
              exact c142 15 _ _ hMh17 Fr.rf (by omega) (by omega) (by first | exact CP1_0 | exact CP1_s e142_0 (by omega) (by assumption) (by assumption) (by assumption) (by assumption) (by assumption) (by assumption) (by assumption)) (by omega)
            · skip
              refine g_aload_n dX12_law_135 rfl ?_
              refine gE_X12_217 rfl dX12_law_136 sh_98 ev20.symm ?_
              exact g_ireturn dX12_law_139 retI (hPo _ _ ⟨hMh17, (Fr.tr (Fr.tr (Fr.tr (Fr.tr (Fr.tr (Fr.tr (Fr.sub hFh6 rfl) hFh7 rfl) hFh8 rfl) hFh9 rfl) hFh10 rfl) hFh11 rfl) hFh17 rfl), (by omega), (by omega), (WFL.fr (T := [(98, 2), (98, 37), (98, 38), (98, 39), (98, 40), (98, 41), (98, 42), (98, 43), (98, 44), (98, 45), (121, 0), (122, 0), (123, 0), (124, 0), (125, 0), (126, 0), (127, 0)]) f_WFL (Fr.tr (Fr.tr (Fr.tr (Fr.tr (Fr.tr (Fr.tr (Fr.sub hFh6 rfl) hFh7 rfl) hFh8 rfl) hFh9 rfl) hFh10 rfl) hFh11 rfl) hFh17 rfl) rfl)⟩)
          · skip
            refine g_aload_n dX12_law_58 rfl ?_
            refine g_cVP (as := []) (c_X12_isGood_98  h17 hMh17) dX12_law_59 mi_X12_isGood in_X12_isGood se_X12_isGood ml_X12_220 rfl rfl rfl sh_98 rfl rfl (Nat.le_of_ble_eq_true rfl) (fun v49 q50 => ?_)
            have q51 : h17 98 38 = v20 := ev20.symm
            rcases q50 with ⟨rfl, q50⟩ | ⟨rfl, q50⟩
            · skip
              refine g_if_eq 128 dX12_law_62 (by decide) (fun _ => by exfalso; omega) (fun q52 => ?_)
              refine g_aload_n dX12_law_65 rfl ?_
              have q53 : h17 98 36 = v18 := ev18.symm
              have q54 : h17 98 38 = v20 := ev20.symm
              refine g_cVV (as := []) (c_X12_clause_98  h17 hMh17 (by omega) (by omega) e54_0) dX12_law_66 mi_X12_clause in_X12_clause se_X12_clause ml_X12_318 rfl rfl rfl sh_98 rfl rfl (Nat.le_of_ble_eq_true rfl) (fun h55 q56 => ?_)
              obtain ⟨hMh55, hFh55, zh55, yh55, wh55, uh55⟩ := q56
              obtain ⟨v57, ev57⟩ : ∃ z, z = h55 98 36 := ⟨_, rfl⟩
              have bv57 : 0 ≤ v57 ∧ v57 ≤ 200 := by rw [ev57]; exact (m_98_36 hMh55)
              obtain ⟨v58, ev58⟩ : ∃ z, z = h55 98 38 := ⟨_, rfl⟩
              have bv58 : -6000 ≤ v58 ∧ v58 ≤ 0 := by rw [ev58]; exact (m_98_38 hMh55)
              have q59 : h55 98 37 = x1 := ((hFh55 98 37 rfl).trans ((hFh17 98 37 rfl).trans ((hFh11 98 37 rfl).trans ((hFh10 98 37 rfl).trans ((hFh9 98 37 rfl).trans (st_at eh8))))))
              have nw1 : NWo h55 := (by assumption)
              refine g_aload_n dX12_law_69 rfl ?_
              refine g_cVP (as := []) (c_X12_isGood_98  h55 hMh55) dX12_law_70 mi_X12_isGood in_X12_isGood se_X12_isGood ml_X12_220 rfl rfl rfl sh_98 rfl rfl (Nat.le_of_ble_eq_true rfl) (fun v60 q61 => ?_)
              have q62 : h55 98 38 = v58 := ev58.symm
              rcases q61 with ⟨rfl, q61⟩ | ⟨rfl, q61⟩
              · skip
                refine g_if_eq 91 dX12_law_73 (by decide) (fun _ => by exfalso; omega) (fun q63 => ?_)
                refine g_aload_n dX12_law_76 rfl ?_
                refine gE_X12_211 rfl dX12_law_77 sh_98 ev57.symm ?_
                refine g_aload_n dX12_law_80 rfl ?_
                refine gE_X12_214 rfl dX12_law_81 sh_98 ((hFh55 98 37 rfl).trans ((hFh17 98 37 rfl).trans ((hFh11 98 37 rfl).trans ((hFh10 98 37 rfl).trans ((hFh9 98 37 rfl).trans (st_at eh8)))))) ?_
                refine g_icmp_ge 91 dX12_law_84 (by decide) (fun q64 => ?_) (fun q64 => ?_)
                · skip
                  refine g_iconst dX12_law_91 (inR_c rfl) ?_
                  refine g_istore_n dX12_law_92 (by decide) rfl ?_
                  refine g_iload_n dX12_law_93 rfl (fun _ => ?_)
                  refine g_if_eq 54 dX12_law_94 (by decide) (fun q65 => ?_) (fun _ => by exfalso; omega)
                  have q66 : h55 98 36 = v57 := ev57.symm
                  have q67 : h55 98 37 = x1 := ((hFh55 98 37 rfl).trans ((hFh17 98 37 rfl).trans ((hFh11 98 37 rfl).trans ((hFh10 98 37 rfl).trans ((hFh9 98 37 rfl).trans (st_at eh8))))))
                  have q68 : h55 98 38 = v58 := ev58.symm
                  exact ih54 _ _ hMh55 (Fr.tr (Fr.sub hFh17 rfl) hFh55 rfl) (by omega) (by omega) nw1 (by omega) (by omega) (by omega) (by omega)
                · skip
                  refine g_iconst dX12_law_87 (inR_c rfl) ?_
                  refine g_goto 92 dX12_law_88 (by decide) ?_
                  refine g_istore_n dX12_law_92 (by decide) rfl ?_
                  refine g_iload_n dX12_law_93 rfl (fun _ => ?_)
                  refine g_if_eq 54 dX12_law_94 (by decide) (fun _ => by exfalso; omega) (fun q69 => ?_)
                  refine g_aload_n dX12_law_97 rfl ?_
                  have q70 : h55 98 36 = v57 := ev57.symm
                  have q71 : h55 98 37 = x1 := ((hFh55 98 37 rfl).trans ((hFh17 98 37 rfl).trans ((hFh11 98 37 rfl).trans ((hFh10 98 37 rfl).trans ((hFh9 98 37 rfl).trans (st_at eh8))))))
                  refine g_cVP (as := []) (c_X12_here_98  h55 hMh55) dX12_law_98 mi_X12_here in_X12_here se_X12_here ml_X12_237 rfl rfl rfl sh_98 rfl rfl (Nat.le_of_ble_eq_true rfl) (fun v72 q73 => ?_)
                  obtain ⟨bv72, cv72, zv72, yv72⟩ := q73
                  refine g_bipush dX12_law_101 (inR_c rfl) (by decide) ?_
                  refine g_icmp_eq 115 dX12_law_103 (by decide) (fun q74 => ?_) (fun q74 => ?_)
                  · skip
                    refine g_aload_n dX12_law_115 rfl ?_
                    have nw2 := nw1
                    have q75 : h55 98 36 = v57 := ev57.symm
                    have q76 : h55 98 37 = x1 := ((hFh55 98 37 rfl).trans ((hFh17 98 37 rfl).trans ((hFh11 98 37 rfl).trans ((hFh10 98 37 rfl).trans ((hFh9 98 37 rfl).trans (st_at eh8))))))
                    have q77 : h55 98 38 = v58 := ev58.symm
                    refine g_dup dX12_law_116 rfl ?_
                    refine gE_X12_211 rfl dX12_law_117 sh_98 ev57.symm ?_
                    have a117 : 0 ≤ v57 ∧ v57 ≤ 199 := (by omega)
                    refine g_iconst dX12_law_120 (inR_c rfl) ?_
                    refine g_iaddB dX12_law_121 (by omega) (by omega) ?_
                    refine pI_X12_211 rfl dX12_law_122 sh_98 (fun h78 eh78 => ?_)
                    have hFh78 := Fr.st eh78
                    have hMh78 := u_98_36 hMh55 eh78 (by omega) (by omega)
                    have q79 : h78 98 36 = (v57 + 1) := (st_at eh78)
                    have nw3 : NWo h78 := NW_pl nw2 hFh78 (by omega) (by omega)
                    refine g_goto 54 dX12_law_125 (by decide) ?_
                    have q80 : h78 98 36 = (v57 + 1) := (st_at eh78)
                    have q81 : h78 98 37 = x1 := ((hFh78 98 37 rfl).trans ((hFh55 98 37 rfl).trans ((hFh17 98 37 rfl).trans ((hFh11 98 37 rfl).trans ((hFh10 98 37 rfl).trans ((hFh9 98 37 rfl).trans (st_at eh8)))))))
                    have q82 : h78 98 38 = v58 := ((hFh78 98 38 rfl).trans ev58.symm)
                    exact ih54 _ _ hMh78 (Fr.tr (Fr.tr (Fr.sub hFh17 rfl) hFh55 rfl) hFh78 rfl) (by omega) (by omega) nw3 (by omega) (by omega) (by omega) (by omega)
                  · skip
                    refine g_aload_n dX12_law_106 rfl ?_
                    refine g_iconst dX12_law_107 (inR_c rfl) ?_
                    refine g_aload_n dX12_law_108 rfl ?_
                    refine gE_X12_211 rfl dX12_law_109 sh_98 ev57.symm ?_
                    refine g_cVV (as := [_, _]) (c_X12_wrongs_98 _ _ h55 hMh55 (by omega) (by omega) (by omega) (by omega)) dX12_law_112 mi_X12_wrongs in_X12_wrongs se_X12_wrongs ml_X12_233 rfl rfl rfl sh_98 rfl rfl (Nat.le_of_ble_eq_true rfl) (fun h83 q84 => ?_)
                    obtain ⟨hMh83, hFh83, az85, bz85⟩ := q84
                    obtain ⟨v86, ev86⟩ : ∃ z, z = h83 98 38 := ⟨_, rfl⟩
                    have bv86 : -6000 ≤ v86 ∧ v86 ≤ -1 := by rw [ev86]; exact ⟨az85, bz85⟩
                    refine g_aload_n dX12_law_115 rfl ?_
                    have q87 : h83 98 38 = v86 := ev86.symm
                    have nw2 : NWo h83 := (Or.inl (by omega))
                    have q88 : h83 98 36 = v57 := ((hFh83 98 36 rfl).trans ev57.symm)
                    have q89 : h83 98 37 = x1 := ((hFh83 98 37 rfl).trans ((hFh55 98 37 rfl).trans ((hFh17 98 37 rfl).trans ((hFh11 98 37 rfl).trans ((hFh10 98 37 rfl).trans ((hFh9 98 37 rfl).trans (st_at eh8)))))))
                    have q90 : h83 98 38 = v86 := ev86.symm
                    refine g_dup dX12_law_116 rfl ?_
                    refine gE_X12_211 rfl dX12_law_117 sh_98 ((hFh83 98 36 rfl).trans ev57.symm) ?_
                    have a117 : 0 ≤ v57 ∧ v57 ≤ 199 := (by omega)
                    refine g_iconst dX12_law_120 (inR_c rfl) ?_
                    refine g_iaddB dX12_law_121 (by omega) (by omega) ?_
                    refine pI_X12_211 rfl dX12_law_122 sh_98 (fun h91 eh91 => ?_)
                    have hFh91 := Fr.st eh91
                    have hMh91 := u_98_36 hMh83 eh91 (by omega) (by omega)
                    have q92 : h91 98 36 = (v57 + 1) := (st_at eh91)
                    have nw3 : NWo h91 := NW_pl nw2 hFh91 (by omega) (by omega)
                    refine g_goto 54 dX12_law_125 (by decide) ?_
                    have q93 : h91 98 36 = (v57 + 1) := (st_at eh91)
                    have q94 : h91 98 37 = x1 := ((hFh91 98 37 rfl).trans ((hFh83 98 37 rfl).trans ((hFh55 98 37 rfl).trans ((hFh17 98 37 rfl).trans ((hFh11 98 37 rfl).trans ((hFh10 98 37 rfl).trans ((hFh9 98 37 rfl).trans (st_at eh8))))))))
                    have q95 : h91 98 38 = v86 := ((hFh91 98 38 rfl).trans ev86.symm)
                    exact ih54 _ _ hMh91 (Fr.tr (Fr.tr (Fr.tr (Fr.sub hFh17 rfl) hFh55 rfl) hFh83 rfl) hFh91 rfl) (by omega) (by omega) nw3 (by omega) (by omega) (by omega) (by omega)
              · skip
                refine g_if_eq 91 dX12_law_73 (by decide) (fun q96 => ?_) (fun _ => by exfalso; omega)
                refine g_iconst dX12_law_91 (inR_c rfl) ?_
                refine g_istore_n dX12_law_92 (by decide) rfl ?_
                refine g_iload_n dX12_law_93 rfl (fun _ => ?_)
                refine g_if_eq 54 dX12_law_94 (by decide) (fun q97 => ?_) (fun _ => by exfalso; omega)
                have q98 : h55 98 36 = v57 := ev57.symm
                have q99 : h55 98 37 = x1 := ((hFh55 98 37 rfl).trans ((hFh17 98 37 rfl).trans ((hFh11 98 37 rfl).trans ((hFh10 98 37 rfl).trans ((hFh9 98 37 rfl).trans (st_at eh8))))))
                have q100 : h55 98 38 = v58 := ev58.symm
                exact ih54 _ _ hMh55 (Fr.tr (Fr.sub hFh17 rfl) hFh55 rfl) (by omega) (by omega) nw1 (by omega) (by omega) (by omega) (by omega)
            · skip
              refine g_if_eq 128 dX12_law_62 (by decide) (fun q101 => ?_) (fun _ => by exfalso; omega)
              refine g_aload_n dX12_law_128 rfl ?_
              refine gE_X12_217 rfl dX12_law_129 sh_98 ev20.symm ?_
              refine g_if_ge 140 dX12_law_132 (by decide) (fun _ => by exfalso; omega) (fun q102 => ?_)
              refine g_aload_n dX12_law_135 rfl ?_
              refine gE_X12_217 rfl dX12_law_136 sh_98 ev20.symm ?_
              exact g_ireturn dX12_law_139 retI (hPo _ _ ⟨hMh17, (Fr.tr (Fr.tr (Fr.tr (Fr.tr (Fr.tr (Fr.tr (Fr.sub hFh6 rfl) hFh7 rfl) hFh8 rfl) hFh9 rfl) hFh10 rfl) hFh11 rfl) hFh17 rfl), (by omega), (by omega), (WFL.fr (T := [(98, 2), (98, 37), (98, 38), (98, 39), (98, 40), (98, 41), (98, 42), (98, 43), (98, 44), (98, 45), (121, 0), (122, 0), (123, 0), (124, 0), (125, 0), (126, 0), (127, 0)]) f_WFL (Fr.tr (Fr.tr (Fr.tr (Fr.tr (Fr.tr (Fr.tr (Fr.sub hFh6 rfl) hFh7 rfl) hFh8 rfl) hFh9 rfl) hFh10 rfl) hFh11 rfl) hFh17 rfl) rfl)⟩)
      refine g_istore_n dX12_law_53 (by decide) rfl ?_
      refine g_drop 1 ?_
      have q103 : h11 98 36 = 0 := ((hFh11 98 36 rfl).trans ((hFh10 98 36 rfl).trans ((hFh9 98 36 rfl).trans ((hFh8 98 36 rfl).trans (st_at eh7)))))
      have q104 : h11 98 37 = x1 := ((hFh11 98 37 rfl).trans ((hFh10 98 37 rfl).trans ((hFh9 98 37 rfl).trans (st_at eh8))))
      have q105 : h11 98 38 = 0 := ((hFh11 98 38 rfl).trans ((hFh10 98 38 rfl).trans (st_at eh9)))
      exact c54 2006001 _ _ hMh11 Fr.rf (by omega) (by omega) nw0 (by omega) (by omega) (by omega) (by omega)
    · skip
      refine g_iconst dX12_law_20 (inR_c rfl) ?_
      exact g_ireturn dX12_law_21 retI (hPo _ _ ⟨hM, Fr.rf, (by omega), (by omega), f_WFL⟩)
  · skip
    refine g_if_eq 20 dX12_law_9 (by decide) (fun q106 => ?_) (fun _ => by exfalso; omega)
    refine g_iconst dX12_law_20 (inR_c rfl) ?_
    exact g_ireturn dX12_law_21 retI (hPo _ _ ⟨hM, Fr.rf, (by omega), (by omega), f_WFL⟩)
set_option maxRecDepth 100000 in
set_option maxHeartbeats 4000000 in
theorem c_X12_areHours (x1 : Int) (h : MEM) (hM : MBm h) (bx1 : -2147483648 ≤ x1) (dx1 : x1 ≤ 2147483647) : CP yX12_areHours cX12_areHours 1 (some .boolean) 2 [pI x1] h (fun x => (x = 1 ∧ 1 ≤ x1 + (0) ∧ x1 ≤ 40 + (0) ∨ x = 0 ∧ ¬ (1 ≤ x1 + (0) ∧ x1 ≤ 40 + (0)))) := by
  refine CP.of (L0 := [some (pI x1)]) rfl (Nat.le_of_ble_eq_true rfl) rfl (fun Po hPo hav => ?_)
  refine g_iload_n dX12_areHours_0 rfl (fun _ => ?_)
  refine g_i2l dX12_areHours_1 ?_
  refine g_lconst (v := 1) dX12_areHours_2 rfl ?_
  refine g_ldc2 (v := 40) dX12_areHours_3 kl_X12_396 (by decide) ?_
  refine g_cSP (av := [_, _, _]) (c_X12_lies _ _ _ h hM (by omega) (by omega) (by omega) (by omega) (by omega) (by omega)) dX12_areHours_6 mi_X12_lies st_X12_lies ml_X12_175 rfl rfl rfl rfl (Nat.le_of_ble_eq_true rfl) (fun v1 q2 => ?_)
  rcases q2 with ⟨rfl, q2⟩ | ⟨rfl, q2⟩
  · skip
    exact g_ireturn dX12_areHours_9 (retZ (by omega)) (hPo _ (by omega))
  · skip
    exact g_ireturn dX12_areHours_9 (retZ (by omega)) (hPo _ (by omega))
set_option maxRecDepth 100000 in
set_option maxHeartbeats 4000000 in
theorem c_X12_has (x1 x2 : Int) (h : MEM) (hM : MBm h) (bx1 : -2147483648 ≤ x1) (dx1 : x1 ≤ 2147483647) (bx2 : -2147483648 ≤ x2) (dx2 : x2 ≤ 2147483647) : CP yX12_has cX12_has 2 (some .boolean) 1 [pI x1, pI x2] h (fun x => 0 ≤ x ∧ x ≤ 1 ∧ ((x = 1 ∧ HAS x1 x2 ∨ x = 0 ∧ ¬ HAS x1 x2))) := by
  refine CP.of (L0 := [some (pI x1), some (pI x2)]) rfl (Nat.le_of_ble_eq_true rfl) rfl (fun Po hPo hav => ?_)
  refine g_iload_n dX12_has_0 rfl (fun _ => ?_)
  refine g_iload_n dX12_has_1 rfl (fun _ => ?_)
  refine g_ishrF dX12_has_2 (fun v1 ev1 bv1 cv1 => ?_)
  refine g_iconst dX12_has_3 (inR_c rfl) ?_
  refine g_iandX (lo := 0) (hi := 1) dX12_has_4 (iand_r (by omega) (by omega)) (fun v2 ev2 bv2 cv2 => ?_)
  refine g_iconst dX12_has_5 (inR_c rfl) ?_
  refine g_icmp_ne 13 dX12_has_6 (by decide) (fun q3 => ?_) (fun q3 => ?_)
  · skip
    refine g_iconst dX12_has_13 (inR_c rfl) ?_
    exact g_ireturn dX12_has_14 (retZ (by omega)) (hPo _ ⟨(by omega), (by omega), (by first | exact Or.inl ⟨rfl, HAS1 (by assumption) (by assumption) (by omega)⟩ | exact Or.inr ⟨rfl, HAS0 (by assumption) (by assumption) (by omega)⟩)⟩)
  · skip
    refine g_iconst dX12_has_9 (inR_c rfl) ?_
    refine g_goto 14 dX12_has_10 (by decide) ?_
    exact g_ireturn dX12_has_14 (retZ (by omega)) (hPo _ ⟨(by omega), (by omega), (by first | exact Or.inl ⟨rfl, HAS1 (by assumption) (by assumption) (by omega)⟩ | exact Or.inr ⟨rfl, HAS0 (by assumption) (by assumption) (by omega)⟩)⟩)
set_option maxRecDepth 100000 in
set_option maxHeartbeats 4000000 in
theorem c_X12_isFree_98 (h : MEM) (hM : MBm h) (p0_0 : 0 ≤ h 98 5) (p0_1 : h 98 5 ≤ 2000000000) : CP yX12_isFree cX12_isFree 1 (some .boolean) 2 [pR 98] h (fun x => 0 ≤ x ∧ x ≤ 1) := by
  refine CP.of (L0 := [some (pR 98)]) rfl (Nat.le_of_ble_eq_true rfl) rfl (fun Po hPo hav => ?_)
  obtain ⟨w98_5, ew98_5⟩ : ∃ z, z = h 98 5 := ⟨_, rfl⟩
  refine g_aload_n dX12_isFree_0 rfl ?_
  refine gE_X12_334 rfl dX12_isFree_1 sh_98 ew98_5.symm ?_
  refine g_bipush dX12_isFree_4 (inR_c rfl) (by decide) ?_
  have c21 : G yX12_isFree cX12_isFree 1 (some .boolean) none Po (2, 120, 0, 0) 21 [some (pR 98)] [] SH h 0 0 := by
    refine g_aload_n dX12_isFree_21 rfl ?_
    refine gE_X12_334 rfl dX12_isFree_22 sh_98 ew98_5.symm ?_
    refine g_i2l dX12_isFree_25 ?_
    refine g_aload_n dX12_isFree_26 rfl ?_
    refine gI_X12_353 rfl dX12_isFree_27 sh_98 (m_98_52 hM) (fun v1 ev1 bv1 cv1 => ?_)
    refine g_i2l dX12_isFree_30 ?_
    refine g_aload_n dX12_isFree_31 rfl ?_
    refine gE_X12_353 rfl dX12_isFree_32 sh_98 ev1.symm ?_
    refine g_aload_n dX12_isFree_35 rfl ?_
    refine gI_X12_356 rfl dX12_isFree_36 sh_98 (m_98_53 hM) (fun v2 ev2 bv2 cv2 => ?_)
    refine g_iaddF dX12_isFree_39 (fun v3 bv3 cv3 => ?_)
    refine g_iconst dX12_isFree_40 (inR_c rfl) ?_
    refine g_isubF dX12_isFree_41 (fun v4 bv4 cv4 => ?_)
    refine g_i2l dX12_isFree_42 ?_
    refine g_cSP (av := [_, _, _]) (c_X12_lies _ _ _ h hM (by omega) (by omega) (by omega) (by omega) (by omega) (by omega)) dX12_isFree_43 mi_X12_lies st_X12_lies ml_X12_175 rfl rfl rfl rfl (Nat.le_of_ble_eq_true rfl) (fun v5 q6 => ?_)
    rcases q6 with ⟨rfl, q6⟩ | ⟨rfl, q6⟩
    · skip
      refine g_if_eq 72 dX12_isFree_46 (by decide) (fun _ => by exfalso; omega) (fun q7 => ?_)
      refine g_aload_n dX12_isFree_49 rfl ?_
      refine gI_X12_359 rfl dX12_isFree_50 sh_98 (m_98_54 hM) (fun v8 ev8 bv8 cv8 => ?_)
      refine g_aload_n dX12_isFree_53 rfl ?_
      refine gE_X12_334 rfl dX12_isFree_54 sh_98 ew98_5.symm ?_
      refine g_aload_n dX12_isFree_57 rfl ?_
      refine gE_X12_353 rfl dX12_isFree_58 sh_98 ev1.symm ?_
      refine g_isubF dX12_isFree_61 (fun v9 bv9 cv9 => ?_)
      refine g_cSP (av := [_, _]) (c_X12_has _ _ h hM (by omega) (by omega) (by omega) (by omega)) dX12_isFree_62 mi_X12_has st_X12_has ml_X12_362 rfl rfl rfl rfl (Nat.le_of_ble_eq_true rfl) (fun v10 q11 => ?_)
      obtain ⟨bv10, cv10, zv10⟩ := q11
      refine g_if_eq 72 dX12_isFree_65 (by decide) (fun q12 => ?_) (fun q12 => ?_)
      · skip
        refine g_iconst dX12_isFree_72 (inR_c rfl) ?_
        exact g_ireturn dX12_isFree_73 (retZ (by omega)) (hPo _ ⟨(by omega), (by omega)⟩)
      · skip
        refine g_iconst dX12_isFree_68 (inR_c rfl) ?_
        refine g_goto 73 dX12_isFree_69 (by decide) ?_
        exact g_ireturn dX12_isFree_73 (retZ (by omega)) (hPo _ ⟨(by omega), (by omega)⟩)
    · skip
      refine g_if_eq 72 dX12_isFree_46 (by decide) (fun q13 => ?_) (fun _ => by exfalso; omega)
      refine g_iconst dX12_isFree_72 (inR_c rfl) ?_
      exact g_ireturn dX12_isFree_73 (retZ (by omega)) (hPo _ ⟨(by omega), (by omega)⟩)
  refine g_icmp_ge 21 dX12_isFree_6 (by decide) (fun q14 => ?_) (fun q14 => ?_)
  · skip
    exact c21 
  · skip
    refine g_aload_n dX12_isFree_9 rfl ?_
    refine gR_X12_61 rfl dX12_isFree_10 sh_98 (b := 114) (m_98_22 hM) ?_
    refine g_aload_n dX12_isFree_13 rfl ?_
    refine gE_X12_334 rfl dX12_isFree_14 sh_98 ew98_5.symm ?_
    refine g_zaldB dX12_isFree_17 sh_114 (by omega) (by omega) (m_114 hM _) (fun v15 ev15 bv15 cv15 => ?_)
    refine g_if_ne 68 dX12_isFree_18 (by decide) (fun q16 => ?_) (fun q16 => ?_)
    · skip
      refine g_iconst dX12_isFree_68 (inR_c rfl) ?_
      refine g_goto 73 dX12_isFree_69 (by decide) ?_
      exact g_ireturn dX12_isFree_73 (retZ (by omega)) (hPo _ ⟨(by omega), (by omega)⟩)
    · skip
      exact c21 
set_option maxRecDepth 100000 in
set_option maxHeartbeats 4000000 in
theorem c_X12_skillOf_98 (x1 : Int) (h : MEM) (hM : MBm h) (bx1 : 0 ≤ x1) (dx1 : x1 ≤ 7) : CP yX12_skillOf cX12_skillOf 4 (some .int) 1 [pR 98, pI x1] h (fun x => -2147483648 ≤ x ∧ x ≤ 2147483647) := by
  refine CP.of (L0 := [some (pR 98), some (pI x1), none, none]) rfl (Nat.le_of_ble_eq_true rfl) rfl (fun Po hPo hav => ?_)
  refine g_aload_n dX12_skillOf_0 rfl ?_
  refine gI_X12_324 rfl dX12_skillOf_1 sh_98 (m_98_47 hM) (fun v1 ev1 bv1 cv1 => ?_)
  refine g_iconst dX12_skillOf_4 (inR_c rfl) ?_
  refine g_icmp_eq 27 dX12_skillOf_5 (by decide) (fun q2 => ?_) (fun q2 => ?_)
  · skip
    refine g_iconst dX12_skillOf_27 (inR_c rfl) ?_
    refine g_istore_n dX12_skillOf_28 (by decide) rfl ?_
    refine g_iconst dX12_skillOf_29 (inR_c rfl) ?_
    have c31 : ∀ (n : Nat) (y3 y4 : Int) , -2147483648 ≤ y3 → y3 ≤ 2147483647 → 0 ≤ y4 → y4 ≤ 5 → 5 - y4 < (n : Int) → G yX12_skillOf cX12_skillOf 4 (some .int) none Po (1, 60, 0, 0) 31 [some (pR 98), some (pI x1), some (pI y3), some (pI y4)] [] SH h 0 0 := by
      intro n
      induction n with
      | zero =>
        intro y3 y4 by3 dy3 by4 dy4 hn
        exfalso; omega
      | succ n ih31 =>
        intro y3 y4 by3 dy3 by4 dy4 hn
        refine g_iload_n dX12_skillOf_31 rfl (fun _ => ?_)
        refine g_iconst dX12_skillOf_32 (inR_c rfl) ?_
        refine g_icmp_ge 55 dX12_skillOf_33 (by decide) (fun q5 => ?_) (fun q5 => ?_)
        · skip
          refine g_iload_n dX12_skillOf_55 rfl (fun _ => ?_)
          exact g_ireturn dX12_skillOf_56 retI (hPo _ ⟨(by omega), (by omega)⟩)
        · skip
          refine g_iload_n dX12_skillOf_36 rfl (fun _ => ?_)
          refine g_aload_n dX12_skillOf_37 rfl ?_
          refine gR_X12_33 rfl dX12_skillOf_38 sh_98 (b := 105) (m_98_13 hM) ?_
          refine g_iconst dX12_skillOf_41 (inR_c rfl) ?_
          refine g_iload_n dX12_skillOf_42 rfl (fun _ => ?_)
          refine g_imulB dX12_skillOf_43 (by omega) (by omega) ?_
          refine g_iload_n dX12_skillOf_44 rfl (fun _ => ?_)
          refine g_iaddB dX12_skillOf_45 (by omega) (by omega) ?_
          refine g_ialdB dX12_skillOf_46 sh_105 (by omega) (by omega) (m_105 hM _) (fun v6 ev6 bv6 cv6 => ?_)
          refine g_iaddF dX12_skillOf_47 (fun v7 bv7 cv7 => ?_)
          refine g_istore_n dX12_skillOf_48 (by decide) rfl ?_
          refine g_iincB dX12_skillOf_49 rfl rfl (by omega) (by omega) ?_
          refine g_goto 31 dX12_skillOf_52 (by decide) ?_
          exact ih31 _ _ (by omega) (by omega) (by omega) (by omega) (by omega)
    refine g_istore_n dX12_skillOf_30 (by decide) rfl ?_
    exact c31 6 _ _ (by omega) (by omega) (by omega) (by omega) (by omega)
  · skip
    refine g_aload_n dX12_skillOf_8 rfl ?_
    refine gR_X12_33 rfl dX12_skillOf_9 sh_98 (b := 105) (m_98_13 hM) ?_
    refine g_iconst dX12_skillOf_12 (inR_c rfl) ?_
    refine g_iload_n dX12_skillOf_13 rfl (fun _ => ?_)
    refine g_imulB dX12_skillOf_14 (by omega) (by omega) ?_
    refine g_aload_n dX12_skillOf_15 rfl ?_
    refine gR_X12_43 rfl dX12_skillOf_16 sh_98 (b := 108) (m_98_16 hM) ?_
    refine g_aload_n dX12_skillOf_19 rfl ?_
    refine gE_X12_324 rfl dX12_skillOf_20 sh_98 ev1.symm ?_
    refine g_ialdB dX12_skillOf_23 sh_108 (by omega) (by omega) (m_108 hM _) (fun v8 ev8 bv8 cv8 => ?_)
    refine g_iaddB dX12_skillOf_24 (by omega) (by omega) ?_
    refine g_ialdB dX12_skillOf_25 sh_105 (by omega) (by omega) (m_105 hM _) (fun v9 ev9 bv9 cv9 => ?_)
    exact g_ireturn dX12_skillOf_26 retI (hPo _ ⟨(by omega), (by omega)⟩)
set_option maxRecDepth 100000 in
set_option maxHeartbeats 4000000 in
theorem c_X12_valueOf_98 (x1 : Int) (h : MEM) (hM : MBm h) (bx1 : -2147483648 ≤ x1) (dx1 : x1 ≤ 2147483647) (f_AT9 : AT9 h) : CP yX12_valueOf cX12_valueOf 3 (some .int) 2 [pR 98, pI x1] h (fun x => -2147483648 ≤ x ∧ x ≤ 2147483647) := by
  refine CP.of (L0 := [some (pR 98), some (pI x1), none]) rfl (Nat.le_of_ble_eq_true rfl) rfl (fun Po hPo hav => ?_)
  refine g_iload_n dX12_valueOf_0 rfl (fun _ => ?_)
  refine g_cSP (av := [_]) (c_X12_isOfMaster _ h hM (by omega) (by omega)) dX12_valueOf_1 mi_X12_isOfMaster st_X12_isOfMaster ml_X12_251 rfl rfl rfl rfl (Nat.le_of_ble_eq_true rfl) (fun v1 q2 => ?_)
  obtain ⟨bv1, cv1, zv1⟩ := q2
  refine g_if_eq 60 dX12_valueOf_4 (by decide) (fun q3 => ?_) (fun q3 => ?_)
  · skip
    refine g_aload_n dX12_valueOf_60 rfl ?_
    refine gR_X12_27 rfl dX12_valueOf_61 sh_98 (b := 103) (m_98_11 hM) ?_
    refine g_aload_n dX12_valueOf_64 rfl ?_
    refine gI_X12_327 rfl dX12_valueOf_65 sh_98 (m_98_46 hM) (fun v4 ev4 bv4 cv4 => ?_)
    refine g_ialdB dX12_valueOf_68 sh_103 (by omega) (by omega) (m_103 hM _) (fun v5 ev5 bv5 cv5 => ?_)
    have a68 : 0 ≤ v5 ∧ v5 ≤ 9 := AT9_at f_AT9 (by assumption) (by assumption) (by omega)
    refine g_istore_n dX12_valueOf_69 (by decide) rfl ?_
    refine g_iload_n dX12_valueOf_70 rfl (fun _ => ?_)
    rcases (show x1 = 97 ∨ x1 = 98 ∨ x1 = 99 ∨ x1 = 100 ∨ x1 = 101 ∨ x1 = 102 ∨ x1 = 103 ∨ x1 = 104 ∨ x1 = 105 ∨ x1 = 106 ∨ x1 = 107 ∨ x1 = 108 ∨ x1 = 109 ∨ x1 = 110 ∨ x1 = 111 ∨ x1 = 112 ∨ x1 = 113 ∨ x1 = 114 ∨ x1 = 115 ∨ x1 = 116 ∨ (x1 < 97 ∨ 116 < x1) by omega) with q6 | q6 | q6 | q6 | q6 | q6 | q6 | q6 | q6 | q6 | q6 | q6 | q6 | q6 | q6 | q6 | q6 | q6 | q6 | q6 | q6
    · skip
      refine g_tableIn 164 0 dX12_valueOf_71 (by omega) (by omega) rfl (by decide) ?_
      refine g_aload_n dX12_valueOf_164 rfl ?_
      refine gE_X12_327 rfl dX12_valueOf_165 sh_98 ev4.symm ?_
      exact g_ireturn dX12_valueOf_168 retI (hPo _ ⟨(by omega), (by omega)⟩)
    · skip
      refine g_tableIn 227 1 dX12_valueOf_71 (by omega) (by omega) rfl (by decide) ?_
      refine g_aload_n dX12_valueOf_227 rfl ?_
      refine gI_X12_337 rfl dX12_valueOf_228 sh_98 (m_98_48 hM) (fun v7 ev7 bv7 cv7 => ?_)
      exact g_ireturn dX12_valueOf_231 retI (hPo _ ⟨(by omega), (by omega)⟩)
    · skip
      refine g_tableIn 227 2 dX12_valueOf_71 (by omega) (by omega) rfl (by decide) ?_
      refine g_aload_n dX12_valueOf_227 rfl ?_
      refine gI_X12_337 rfl dX12_valueOf_228 sh_98 (m_98_48 hM) (fun v8 ev8 bv8 cv8 => ?_)
      exact g_ireturn dX12_valueOf_231 retI (hPo _ ⟨(by omega), (by omega)⟩)
    · skip
      refine g_tableIn 227 3 dX12_valueOf_71 (by omega) (by omega) rfl (by decide) ?_
      refine g_aload_n dX12_valueOf_227 rfl ?_
      refine gI_X12_337 rfl dX12_valueOf_228 sh_98 (m_98_48 hM) (fun v9 ev9 bv9 cv9 => ?_)
      exact g_ireturn dX12_valueOf_231 retI (hPo _ ⟨(by omega), (by omega)⟩)
    · skip
      refine g_tableIn 215 4 dX12_valueOf_71 (by omega) (by omega) rfl (by decide) ?_
      refine g_aload_n dX12_valueOf_215 rfl ?_
      refine gR_X12_24 rfl dX12_valueOf_216 sh_98 (b := 102) (m_98_10 hM) ?_
      refine g_iload_n dX12_valueOf_219 rfl (fun _ => ?_)
      refine g_ialdB dX12_valueOf_220 sh_102 (by omega) (by omega) (m_102 hM _) (fun v10 ev10 bv10 cv10 => ?_)
      exact g_ireturn dX12_valueOf_221 retI (hPo _ ⟨(by omega), (by omega)⟩)
    · skip
      refine g_tableIn 227 5 dX12_valueOf_71 (by omega) (by omega) rfl (by decide) ?_
      refine g_aload_n dX12_valueOf_227 rfl ?_
      refine gI_X12_337 rfl dX12_valueOf_228 sh_98 (m_98_48 hM) (fun v11 ev11 bv11 cv11 => ?_)
      exact g_ireturn dX12_valueOf_231 retI (hPo _ ⟨(by omega), (by omega)⟩)
    · skip
      refine g_tableIn 169 6 dX12_valueOf_71 (by omega) (by omega) rfl (by decide) ?_
      refine g_aload_n dX12_valueOf_169 rfl ?_
      refine gR_X12_30 rfl dX12_valueOf_170 sh_98 (b := 104) (m_98_12 hM) ?_
      refine g_aload_n dX12_valueOf_173 rfl ?_
      refine gE_X12_327 rfl dX12_valueOf_174 sh_98 ev4.symm ?_
      refine g_ialdB dX12_valueOf_177 sh_104 (by omega) (by omega) (m_104 hM _) (fun v12 ev12 bv12 cv12 => ?_)
      exact g_ireturn dX12_valueOf_178 retI (hPo _ ⟨(by omega), (by omega)⟩)
    · skip
      refine g_tableIn 227 7 dX12_valueOf_71 (by omega) (by omega) rfl (by decide) ?_
      refine g_aload_n dX12_valueOf_227 rfl ?_
      refine gI_X12_337 rfl dX12_valueOf_228 sh_98 (m_98_48 hM) (fun v13 ev13 bv13 cv13 => ?_)
      exact g_ireturn dX12_valueOf_231 retI (hPo _ ⟨(by omega), (by omega)⟩)
    · skip
      refine g_tableIn 227 8 dX12_valueOf_71 (by omega) (by omega) rfl (by decide) ?_
      refine g_aload_n dX12_valueOf_227 rfl ?_
      refine gI_X12_337 rfl dX12_valueOf_228 sh_98 (m_98_48 hM) (fun v14 ev14 bv14 cv14 => ?_)
      exact g_ireturn dX12_valueOf_231 retI (hPo _ ⟨(by omega), (by omega)⟩)
    · skip
      refine g_tableIn 227 9 dX12_valueOf_71 (by omega) (by omega) rfl (by decide) ?_
      refine g_aload_n dX12_valueOf_227 rfl ?_
      refine gI_X12_337 rfl dX12_valueOf_228 sh_98 (m_98_48 hM) (fun v15 ev15 bv15 cv15 => ?_)
      exact g_ireturn dX12_valueOf_231 retI (hPo _ ⟨(by omega), (by omega)⟩)
    · skip
      refine g_tableIn 227 10 dX12_valueOf_71 (by omega) (by omega) rfl (by decide) ?_
      refine g_aload_n dX12_valueOf_227 rfl ?_
      refine gI_X12_337 rfl dX12_valueOf_228 sh_98 (m_98_48 hM) (fun v16 ev16 bv16 cv16 => ?_)
      exact g_ireturn dX12_valueOf_231 retI (hPo _ ⟨(by omega), (by omega)⟩)
    · skip
      refine g_tableIn 227 11 dX12_valueOf_71 (by omega) (by omega) rfl (by decide) ?_
      refine g_aload_n dX12_valueOf_227 rfl ?_
      refine gI_X12_337 rfl dX12_valueOf_228 sh_98 (m_98_48 hM) (fun v17 ev17 bv17 cv17 => ?_)
      exact g_ireturn dX12_valueOf_231 retI (hPo _ ⟨(by omega), (by omega)⟩)
    · skip
      refine g_tableIn 227 12 dX12_valueOf_71 (by omega) (by omega) rfl (by decide) ?_
      refine g_aload_n dX12_valueOf_227 rfl ?_
      refine gI_X12_337 rfl dX12_valueOf_228 sh_98 (m_98_48 hM) (fun v18 ev18 bv18 cv18 => ?_)
      exact g_ireturn dX12_valueOf_231 retI (hPo _ ⟨(by omega), (by omega)⟩)
    · skip
      refine g_tableIn 208 13 dX12_valueOf_71 (by omega) (by omega) rfl (by decide) ?_
      refine g_aload_n dX12_valueOf_208 rfl ?_
      refine gR_X12_21 rfl dX12_valueOf_209 sh_98 (b := 101) (m_98_9 hM) ?_
      refine g_iload_n dX12_valueOf_212 rfl (fun _ => ?_)
      refine g_ialdB dX12_valueOf_213 sh_101 (by omega) (by omega) (m_101 hM _) (fun v19 ev19 bv19 cv19 => ?_)
      exact g_ireturn dX12_valueOf_214 retI (hPo _ ⟨(by omega), (by omega)⟩)
    · skip
      refine g_tableIn 188 14 dX12_valueOf_71 (by omega) (by omega) rfl (by decide) ?_
      refine g_aload_n dX12_valueOf_188 rfl ?_
      refine gR_X12_36 rfl dX12_valueOf_189 sh_98 (b := 106) (m_98_14 hM) ?_
      refine g_aload_n dX12_valueOf_192 rfl ?_
      refine gE_X12_327 rfl dX12_valueOf_193 sh_98 ev4.symm ?_
      refine g_zaldB dX12_valueOf_196 sh_106 (by omega) (by omega) (m_106 hM _) (fun v20 ev20 bv20 cv20 => ?_)
      refine g_if_eq 204 dX12_valueOf_197 (by decide) (fun q21 => ?_) (fun q21 => ?_)
      · skip
        refine g_iconst dX12_valueOf_204 (inR_c rfl) ?_
        exact g_ireturn dX12_valueOf_205 retI (hPo _ ⟨(by omega), (by omega)⟩)
      · skip
        refine g_iconst dX12_valueOf_200 (inR_c rfl) ?_
        refine g_goto 205 dX12_valueOf_201 (by decide) ?_
        exact g_ireturn dX12_valueOf_205 retI (hPo _ ⟨(by omega), (by omega)⟩)
    · skip
      refine g_tableIn 227 15 dX12_valueOf_71 (by omega) (by omega) rfl (by decide) ?_
      refine g_aload_n dX12_valueOf_227 rfl ?_
      refine gI_X12_337 rfl dX12_valueOf_228 sh_98 (m_98_48 hM) (fun v22 ev22 bv22 cv22 => ?_)
      exact g_ireturn dX12_valueOf_231 retI (hPo _ ⟨(by omega), (by omega)⟩)
    · skip
      refine g_tableIn 206 16 dX12_valueOf_71 (by omega) (by omega) rfl (by decide) ?_
      refine g_iload_n dX12_valueOf_206 rfl (fun _ => ?_)
      exact g_ireturn dX12_valueOf_207 retI (hPo _ ⟨(by omega), (by omega)⟩)
    · skip
      refine g_tableIn 227 17 dX12_valueOf_71 (by omega) (by omega) rfl (by decide) ?_
      refine g_aload_n dX12_valueOf_227 rfl ?_
      refine gI_X12_337 rfl dX12_valueOf_228 sh_98 (m_98_48 hM) (fun v23 ev23 bv23 cv23 => ?_)
      exact g_ireturn dX12_valueOf_231 retI (hPo _ ⟨(by omega), (by omega)⟩)
    · skip
      refine g_tableIn 179 18 dX12_valueOf_71 (by omega) (by omega) rfl (by decide) ?_
      refine g_aload_n dX12_valueOf_179 rfl ?_
      refine g_aload_n dX12_valueOf_180 rfl ?_
      refine gE_X12_327 rfl dX12_valueOf_181 sh_98 ev4.symm ?_
      refine g_cVP (as := [_]) (c_X12_skillOf_98 _ h hM (by omega) (by omega)) dX12_valueOf_184 mi_X12_skillOf in_X12_skillOf se_X12_skillOf ml_X12_330 rfl rfl rfl sh_98 rfl rfl (Nat.le_of_ble_eq_true rfl) (fun v24 q25 => ?_)
      obtain ⟨bv24, cv24⟩ := q25
      exact g_ireturn dX12_valueOf_187 retI (hPo _ ⟨(by omega), (by omega)⟩)
    · skip
      refine g_tableIn 222 19 dX12_valueOf_71 (by omega) (by omega) rfl (by decide) ?_
      refine g_aload_n dX12_valueOf_222 rfl ?_
      refine gI_X12_334 rfl dX12_valueOf_223 sh_98 (m_98_5 hM) (fun v26 ev26 bv26 cv26 => ?_)
      exact g_ireturn dX12_valueOf_226 retI (hPo _ ⟨(by omega), (by omega)⟩)
    · skip
      refine g_tableOut 227 dX12_valueOf_71 (by omega) (by decide) ?_
      refine g_aload_n dX12_valueOf_227 rfl ?_
      refine gI_X12_337 rfl dX12_valueOf_228 sh_98 (m_98_48 hM) (fun v27 ev27 bv27 cv27 => ?_)
      exact g_ireturn dX12_valueOf_231 retI (hPo _ ⟨(by omega), (by omega)⟩)
  · skip
    refine g_aload_n dX12_valueOf_7 rfl ?_
    refine gI_X12_324 rfl dX12_valueOf_8 sh_98 (m_98_47 hM) (fun v28 ev28 bv28 cv28 => ?_)
    refine g_iconst dX12_valueOf_11 (inR_c rfl) ?_
    refine g_icmp_ne 19 dX12_valueOf_12 (by decide) (fun q29 => ?_) (fun q29 => ?_)
    · skip
      refine g_iload_n dX12_valueOf_19 rfl (fun _ => ?_)
      refine g_bipush dX12_valueOf_20 (inR_c rfl) (by decide) ?_
      refine g_icmp_ne 32 dX12_valueOf_22 (by decide) (fun q30 => ?_) (fun q30 => ?_)
      · skip
        refine g_iload_n dX12_valueOf_32 rfl (fun _ => ?_)
        refine g_bipush dX12_valueOf_33 (inR_c rfl) (by decide) ?_
        refine g_icmp_ne 50 dX12_valueOf_35 (by decide) (fun q31 => ?_) (fun q31 => ?_)
        · skip
          refine g_aload_n dX12_valueOf_50 rfl ?_
          refine gR_X12_52 rfl dX12_valueOf_51 sh_98 (b := 111) (m_98_19 hM) ?_
          refine g_aload_n dX12_valueOf_54 rfl ?_
          refine gE_X12_324 rfl dX12_valueOf_55 sh_98 ev28.symm ?_
          refine g_ialdB dX12_valueOf_58 sh_111 (by omega) (by omega) (m_111 hM _) (fun v32 ev32 bv32 cv32 => ?_)
          exact g_ireturn dX12_valueOf_59 retI (hPo _ ⟨(by omega), (by omega)⟩)
        · skip
          refine g_aload_n dX12_valueOf_38 rfl ?_
          refine gR_X12_43 rfl dX12_valueOf_39 sh_98 (b := 108) (m_98_16 hM) ?_
          refine g_aload_n dX12_valueOf_42 rfl ?_
          refine gE_X12_324 rfl dX12_valueOf_43 sh_98 ev28.symm ?_
          refine g_ialdB dX12_valueOf_46 sh_108 (by omega) (by omega) (m_108 hM _) (fun v33 ev33 bv33 cv33 => ?_)
          refine g_goto 59 dX12_valueOf_47 (by decide) ?_
          exact g_ireturn dX12_valueOf_59 retI (hPo _ ⟨(by omega), (by omega)⟩)
      · skip
        refine g_aload_n dX12_valueOf_25 rfl ?_
        refine gE_X12_324 rfl dX12_valueOf_26 sh_98 ev28.symm ?_
        refine g_goto 59 dX12_valueOf_29 (by decide) ?_
        exact g_ireturn dX12_valueOf_59 retI (hPo _ ⟨(by omega), (by omega)⟩)
    · skip
      refine g_iconst dX12_valueOf_15 (inR_c rfl) ?_
      refine g_goto 59 dX12_valueOf_16 (by decide) ?_
      exact g_ireturn dX12_valueOf_59 retI (hPo _ ⟨(by omega), (by omega)⟩)
set_option maxRecDepth 100000 in
set_option maxHeartbeats 4000000 in
theorem c_X12_worked (x1 x2 x3 : Int) (h : MEM) (hM : MBm h) (bx1 : 3 ≤ x1) (dx1 : x1 ≤ 2147483647) (bx2 : -2147483648 ≤ x2) (dx2 : x2 ≤ 2147483647) (bx3 : -2147483648 ≤ x3) (dx3 : x3 ≤ 2147483647) : CP yX12_worked cX12_worked 3 (some .int) 1 [pI x1, pI x2, pI x3] h (fun x => -2147483648 ≤ x ∧ x ≤ 2147483647) := by
  refine CP.of (L0 := [some (pI x1), some (pI x2), some (pI x3)]) rfl (Nat.le_of_ble_eq_true rfl) rfl (fun Po hPo hav => ?_)
  refine g_iload_n dX12_worked_0 rfl (fun _ => ?_)
  rcases (show x1 = 37 ∨ x1 = 42 ∨ x1 = 43 ∨ x1 = 45 ∨ x1 = 47 ∨ x1 = 60 ∨ x1 = 62 ∨ (x1 ≠ 37 ∧ x1 ≠ 42 ∧ x1 ≠ 43 ∧ x1 ≠ 45 ∧ x1 ≠ 47 ∧ x1 ≠ 60 ∧ x1 ≠ 62) by omega) with q1 | q1 | q1 | q1 | q1 | q1 | q1 | q1
  · skip
    refine g_lookup 92 dX12_worked_1 (by decide) (lsw_k (off := 91) q1 (by decide)) (by decide) ?_
    refine g_iload_n dX12_worked_92 rfl (fun _ => ?_)
    refine g_if_ne 100 dX12_worked_93 (by decide) (fun q2 => ?_) (fun q2 => ?_)
    · skip
      refine g_iload_n dX12_worked_100 rfl (fun _ => ?_)
      refine g_iload_n dX12_worked_101 rfl (fun _ => ?_)
      refine g_iremF dX12_worked_102 (by omega) (fun v3 ev3 bv3 cv3 => ?_)
      exact g_ireturn dX12_worked_103 retI (hPo _ ⟨(by omega), (by omega)⟩)
    · skip
      refine g_iconst dX12_worked_96 (inR_c rfl) ?_
      refine g_goto 103 dX12_worked_97 (by decide) ?_
      exact g_ireturn dX12_worked_103 retI (hPo _ ⟨(by omega), (by omega)⟩)
  · skip
    refine g_lookup 76 dX12_worked_1 (by decide) (lsw_k (off := 75) q1 (by decide)) (by decide) ?_
    refine g_iload_n dX12_worked_76 rfl (fun _ => ?_)
    refine g_iload_n dX12_worked_77 rfl (fun _ => ?_)
    refine g_imulF dX12_worked_78 (fun v4 bv4 cv4 => ?_)
    exact g_ireturn dX12_worked_79 retI (hPo _ ⟨(by omega), (by omega)⟩)
  · skip
    refine g_lookup 68 dX12_worked_1 (by decide) (lsw_k (off := 67) q1 (by decide)) (by decide) ?_
    refine g_iload_n dX12_worked_68 rfl (fun _ => ?_)
    refine g_iload_n dX12_worked_69 rfl (fun _ => ?_)
    refine g_iaddF dX12_worked_70 (fun v5 bv5 cv5 => ?_)
    exact g_ireturn dX12_worked_71 retI (hPo _ ⟨(by omega), (by omega)⟩)
  · skip
    refine g_lookup 72 dX12_worked_1 (by decide) (lsw_k (off := 71) q1 (by decide)) (by decide) ?_
    refine g_iload_n dX12_worked_72 rfl (fun _ => ?_)
    refine g_iload_n dX12_worked_73 rfl (fun _ => ?_)
    refine g_isubF dX12_worked_74 (fun v6 bv6 cv6 => ?_)
    exact g_ireturn dX12_worked_75 retI (hPo _ ⟨(by omega), (by omega)⟩)
  · skip
    refine g_lookup 80 dX12_worked_1 (by decide) (lsw_k (off := 79) q1 (by decide)) (by decide) ?_
    refine g_iload_n dX12_worked_80 rfl (fun _ => ?_)
    refine g_if_ne 88 dX12_worked_81 (by decide) (fun q7 => ?_) (fun q7 => ?_)
    · skip
      refine g_iload_n dX12_worked_88 rfl (fun _ => ?_)
      refine g_iload_n dX12_worked_89 rfl (fun _ => ?_)
      refine g_idivF dX12_worked_90 (by omega) (fun v8 ev8 bv8 cv8 => ?_)
      exact g_ireturn dX12_worked_91 retI (hPo _ ⟨(by omega), (by omega)⟩)
    · skip
      refine g_iconst dX12_worked_84 (inR_c rfl) ?_
      refine g_goto 91 dX12_worked_85 (by decide) ?_
      exact g_ireturn dX12_worked_91 retI (hPo _ ⟨(by omega), (by omega)⟩)
  · skip
    refine g_lookup 104 dX12_worked_1 (by decide) (lsw_k (off := 103) q1 (by decide)) (by decide) ?_
    refine g_iload_n dX12_worked_104 rfl (fun _ => ?_)
    refine g_iload_n dX12_worked_105 rfl (fun _ => ?_)
    refine g_icmp_ge 113 dX12_worked_106 (by decide) (fun q9 => ?_) (fun q9 => ?_)
    · skip
      refine g_iconst dX12_worked_113 (inR_c rfl) ?_
      exact g_ireturn dX12_worked_114 retI (hPo _ ⟨(by omega), (by omega)⟩)
    · skip
      refine g_iconst dX12_worked_109 (inR_c rfl) ?_
      refine g_goto 114 dX12_worked_110 (by decide) ?_
      exact g_ireturn dX12_worked_114 retI (hPo _ ⟨(by omega), (by omega)⟩)
  · skip
    refine g_lookup 115 dX12_worked_1 (by decide) (lsw_k (off := 114) q1 (by decide)) (by decide) ?_
    refine g_iload_n dX12_worked_115 rfl (fun _ => ?_)
    refine g_iload_n dX12_worked_116 rfl (fun _ => ?_)
    refine g_icmp_le 124 dX12_worked_117 (by decide) (fun q10 => ?_) (fun q10 => ?_)
    · skip
      refine g_iconst dX12_worked_124 (inR_c rfl) ?_
      exact g_ireturn dX12_worked_125 retI (hPo _ ⟨(by omega), (by omega)⟩)
    · skip
      refine g_iconst dX12_worked_120 (inR_c rfl) ?_
      refine g_goto 125 dX12_worked_121 (by decide) ?_
      exact g_ireturn dX12_worked_125 retI (hPo _ ⟨(by omega), (by omega)⟩)
  · skip
    refine g_lookup 126 dX12_worked_1 (by decide) (lsw_d (ps := [(37, 91), (42, 75), (43, 67), (45, 71), (47, 79), (60, 103), (62, 114)]) (by simp only [List.all_cons, List.all_nil, Bool.and_true, Bool.and_eq_true, bne_iff_ne, ne_eq]; omega)) (by decide) ?_
    refine g_iload_n dX12_worked_126 rfl (fun _ => ?_)
    refine g_iload_n dX12_worked_127 rfl (fun _ => ?_)
    refine g_icmp_ne 135 dX12_worked_128 (by decide) (fun q11 => ?_) (fun q11 => ?_)
    · skip
      refine g_iconst dX12_worked_135 (inR_c rfl) ?_
      exact g_ireturn dX12_worked_136 retI (hPo _ ⟨(by omega), (by omega)⟩)
    · skip
      refine g_iconst dX12_worked_131 (inR_c rfl) ?_
      refine g_goto 136 dX12_worked_132 (by decide) ?_
      exact g_ireturn dX12_worked_136 retI (hPo _ ⟨(by omega), (by omega)⟩)
set_option maxRecDepth 100000 in
set_option maxHeartbeats 4000000 in
theorem c_X12_does_98 (x1 x2 : Int) (h : MEM) (hM : MBm h) (bx1 : 3 ≤ x1) (dx1 : x1 ≤ 2147483647) (bx2 : 0 ≤ x2) (dx2 : x2 ≤ 198) : CV yX12_does cX12_does 4 (none) 2 [pR 98, pI x1, pI x2] h (fun h' => MBm h' ∧ Fr [(128, 0), (129, 0)] h h') := by
  refine CV.of (L0 := [some (pR 98), some (pI x1), some (pI x2), none]) rfl (Nat.le_of_ble_eq_true rfl) rfl (fun Po hPo hav => ?_)
  refine g_iload_n dX12_does_0 rfl (fun _ => ?_)
  refine g_iconst dX12_does_1 (inR_c rfl) ?_
  refine g_iaddB dX12_does_2 (by omega) (by omega) ?_
  refine g_istore_n dX12_does_3 (by decide) rfl ?_
  refine g_iload_n dX12_does_4 rfl (fun _ => ?_)
  refine g_bipush dX12_does_5 (inR_c rfl) (by decide) ?_
  have c16 : G yX12_does cX12_does 4 (none) none Po (2, 120, 0, 0) 16 [some (pR 98), some (pI x1), some (pI x2), some (pI (x2 + 1))] [] SH h 0 0 := by
    refine g_aload_n dX12_does_16 rfl ?_
    refine gR_X12_106 rfl dX12_does_17 sh_98 (b := 129) (m_98_50 hM) ?_
    refine g_iload_n dX12_does_20 rfl (fun _ => ?_)
    refine g_zaldB dX12_does_21 sh_129 (by omega) (by omega) (m_129 hM _) (fun v1 ev1 bv1 cv1 => ?_)
    refine g_if_ne 45 dX12_does_22 (by decide) (fun q2 => ?_) (fun q2 => ?_)
    · skip
      exact g_return dX12_does_45 rfl (hPo _ ⟨hM, Fr.rf⟩)
    · skip
      refine g_aload_n dX12_does_25 rfl ?_
      refine gR_X12_103 rfl dX12_does_26 sh_98 (b := 128) (m_98_49 hM) ?_
      refine g_iload_n dX12_does_29 rfl (fun _ => ?_)
      refine g_ialdB dX12_does_30 sh_128 (by omega) (by omega) (m_128 hM _) (fun v3 ev3 bv3 cv3 => ?_)
      refine g_iload_n dX12_does_31 rfl (fun _ => ?_)
      refine g_bipush dX12_does_32 (inR_c rfl) (by decide) ?_
      have c42 : ∀ (y4 : Int) , 0 ≤ y4 → y4 ≤ 1 → G yX12_does cX12_does 4 (none) none Po (2, 120, 0, 0) 42 [some (pR 98), none, some (pI x2), some (pI (x2 + 1))] [(pI y4), (pI v3)] SH h 0 0 := by
        intro y4 by4 dy4
        refine g_icmp_eq 46 dX12_does_42 (by decide) (fun q5 => ?_) (fun q5 => ?_)
        · skip
          refine g_aload_n dX12_does_46 rfl ?_
          refine gR_X12_103 rfl dX12_does_47 sh_98 (b := 128) (m_98_49 hM) ?_
          refine g_iload_n dX12_does_50 rfl (fun _ => ?_)
          refine g_aload_n dX12_does_51 rfl ?_
          refine gR_X12_103 rfl dX12_does_52 sh_98 (b := 128) (m_98_49 hM) ?_
          refine g_iload_n dX12_does_55 rfl (fun _ => ?_)
          refine g_ialdB dX12_does_56 sh_128 (by omega) (by omega) (m_128 hM _) (fun v6 ev6 bv6 cv6 => ?_)
          refine g_iastB dX12_does_57 sh_128 (by omega) (by omega) (fun h7 eh7 => ?_)
          have hFh7 := Fr.ar eh7
          have hMh7 := u_128 hM eh7 (by omega) (by omega)
          refine g_aload_n dX12_does_58 rfl ?_
          refine gR_X12_106 rfl dX12_does_59 sh_98 (b := 129) (m_98_50 hMh7) ?_
          refine g_iload_n dX12_does_62 rfl (fun _ => ?_)
          refine g_aload_n dX12_does_63 rfl ?_
          refine gR_X12_106 rfl dX12_does_64 sh_98 (b := 129) (m_98_50 hMh7) ?_
          refine g_iload_n dX12_does_67 rfl (fun _ => ?_)
          refine g_zaldB dX12_does_68 sh_129 (by omega) (by omega) (m_129 hMh7 _) (fun v8 ev8 bv8 cv8 => ?_)
          refine g_zastB dX12_does_69 sh_129 (by omega) (by omega) (by omega) (fun h9 eh9 => ?_)
          have hFh9 := Fr.ar eh9
          have hMh9 := u_129 hMh7 eh9 (by omega) (by omega)
          exact g_return dX12_does_70 rfl (hPo _ ⟨hMh9, (Fr.tr (Fr.sub hFh7 rfl) hFh9 rfl)⟩)
        · skip
          exact g_return dX12_does_45 rfl (hPo _ ⟨hM, Fr.rf⟩)
      refine g_icmp_ne 41 dX12_does_34 (by decide) (fun q10 => ?_) (fun q10 => ?_)
      · skip
        refine g_iconst dX12_does_41 (inR_c rfl) ?_
        refine g_drop 1 ?_
        exact c42 _ (by omega) (by omega)
      · skip
        refine g_iconst dX12_does_37 (inR_c rfl) ?_
        refine g_goto 42 dX12_does_38 (by decide) ?_
        refine g_drop 1 ?_
        exact c42 _ (by omega) (by omega)
  refine g_icmp_eq 16 dX12_does_7 (by decide) (fun q11 => ?_) (fun q11 => ?_)
  · skip
    exact c16 
  · skip
    refine g_iload_n dX12_does_10 rfl (fun _ => ?_)
    refine g_bipush dX12_does_11 (inR_c rfl) (by decide) ?_
    refine g_icmp_ne 71 dX12_does_13 (by decide) (fun q12 => ?_) (fun q12 => ?_)
    · skip
      refine g_aload_n dX12_does_71 rfl ?_
      refine gR_X12_106 rfl dX12_does_72 sh_98 (b := 129) (m_98_50 hM) ?_
      refine g_iload_n dX12_does_75 rfl (fun _ => ?_)
      refine g_aload_n dX12_does_76 rfl ?_
      refine gR_X12_106 rfl dX12_does_77 sh_98 (b := 129) (m_98_50 hM) ?_
      refine g_iload_n dX12_does_80 rfl (fun _ => ?_)
      refine g_zaldB dX12_does_81 sh_129 (by omega) (by omega) (m_129 hM _) (fun v13 ev13 bv13 cv13 => ?_)
      have c120 : ∀ (y14 : Int) , 0 ≤ y14 → y14 ≤ 1 → G yX12_does cX12_does 4 (none) none Po (2, 120, 0, 0) 120 [some (pR 98), some (pI x1), some (pI x2), some (pI (x2 + 1))] [(pI y14), (pI x2), (pR 129)] SH h 0 0 := by
        intro y14 by14 dy14
        refine g_zastB dX12_does_120 sh_129 (by omega) (by omega) (by omega) (fun h15 eh15 => ?_)
        have hFh15 := Fr.ar eh15
        have hMh15 := u_129 hM eh15 (by omega) (by omega)
        refine g_aload_n dX12_does_121 rfl ?_
        refine gR_X12_103 rfl dX12_does_122 sh_98 (b := 128) (m_98_49 hMh15) ?_
        refine g_iload_n dX12_does_125 rfl (fun _ => ?_)
        refine g_iload_n dX12_does_126 rfl (fun _ => ?_)
        refine g_aload_n dX12_does_127 rfl ?_
        refine gR_X12_103 rfl dX12_does_128 sh_98 (b := 128) (m_98_49 hMh15) ?_
        refine g_iload_n dX12_does_131 rfl (fun _ => ?_)
        refine g_ialdB dX12_does_132 sh_128 (by omega) (by omega) (m_128 hMh15 _) (fun v16 ev16 bv16 cv16 => ?_)
        refine g_aload_n dX12_does_133 rfl ?_
        refine gR_X12_103 rfl dX12_does_134 sh_98 (b := 128) (m_98_49 hMh15) ?_
        refine g_iload_n dX12_does_137 rfl (fun _ => ?_)
        refine g_ialdB dX12_does_138 sh_128 (by omega) (by omega) (m_128 hMh15 _) (fun v17 ev17 bv17 cv17 => ?_)
        refine g_cSP (av := [_, _, _]) (c_X12_worked _ _ _ h15 hMh15 (by omega) (by omega) (by omega) (by omega) (by omega) (by omega)) dX12_does_139 mi_X12_worked st_X12_worked ml_X12_340 rfl rfl rfl rfl (Nat.le_of_ble_eq_true rfl) (fun v18 q19 => ?_)
        obtain ⟨bv18, cv18⟩ := q19
        refine g_iastB dX12_does_142 sh_128 (by omega) (by omega) (fun h20 eh20 => ?_)
        have hFh20 := Fr.ar eh20
        have hMh20 := u_128 hMh15 eh20 (by omega) (by omega)
        exact g_return dX12_does_143 rfl (hPo _ ⟨hMh20, (Fr.tr (Fr.sub hFh15 rfl) hFh20 rfl)⟩)
      have c115 : G yX12_does cX12_does 4 (none) none Po (2, 120, 0, 0) 115 [some (pR 98), some (pI x1), some (pI x2), some (pI (x2 + 1))] [(pI x2), (pR 129)] SH h 0 0 := by
        refine g_iconst dX12_does_115 (inR_c rfl) ?_
        refine g_goto 120 dX12_does_116 (by decide) ?_
        exact c120 _ (by omega) (by omega)
      refine g_if_ne 115 dX12_does_82 (by decide) (fun q21 => ?_) (fun q21 => ?_)
      · skip
        exact c115 
      · skip
        refine g_aload_n dX12_does_85 rfl ?_
        refine gR_X12_106 rfl dX12_does_86 sh_98 (b := 129) (m_98_50 hM) ?_
        refine g_iload_n dX12_does_89 rfl (fun _ => ?_)
        refine g_zaldB dX12_does_90 sh_129 (by omega) (by omega) (m_129 hM _) (fun v22 ev22 bv22 cv22 => ?_)
        refine g_if_ne 115 dX12_does_91 (by decide) (fun q23 => ?_) (fun q23 => ?_)
        · skip
          exact c115 
        · skip
          refine g_iload_n dX12_does_94 rfl (fun _ => ?_)
          refine g_bipush dX12_does_95 (inR_c rfl) (by decide) ?_
          have c119 : G yX12_does cX12_does 4 (none) none Po (2, 120, 0, 0) 119 [some (pR 98), some (pI x1), some (pI x2), some (pI (x2 + 1))] [(pI x2), (pR 129)] SH h 0 0 := by
            refine g_iconst dX12_does_119 (inR_c rfl) ?_
            exact c120 _ (by omega) (by omega)
          have c106 : G yX12_does cX12_does 4 (none) none Po (2, 120, 0, 0) 106 [some (pR 98), some (pI x1), some (pI x2), some (pI (x2 + 1))] [(pI x2), (pR 129)] SH h 0 0 := by
            refine g_aload_n dX12_does_106 rfl ?_
            refine gR_X12_103 rfl dX12_does_107 sh_98 (b := 128) (m_98_49 hM) ?_
            refine g_iload_n dX12_does_110 rfl (fun _ => ?_)
            refine g_ialdB dX12_does_111 sh_128 (by omega) (by omega) (m_128 hM _) (fun v24 ev24 bv24 cv24 => ?_)
            refine g_if_ne 119 dX12_does_112 (by decide) (fun q25 => ?_) (fun q25 => ?_)
            · skip
              exact c119 
            · skip
              exact c115 
          refine g_icmp_eq 106 dX12_does_97 (by decide) (fun q26 => ?_) (fun q26 => ?_)
          · skip
            exact c106 
          · skip
            refine g_iload_n dX12_does_100 rfl (fun _ => ?_)
            refine g_bipush dX12_does_101 (inR_c rfl) (by decide) ?_
            refine g_icmp_ne 119 dX12_does_103 (by decide) (fun q27 => ?_) (fun q27 => ?_)
            · skip
              exact c119 
            · skip
              exact c106 
    · skip
      exact c16 
set_option maxRecDepth 100000 in
set_option maxHeartbeats 4000000 in
theorem c_X12_works_98 (x1 x2 : Int) (h : MEM) (hM : MBm h) (bx1 : 0 ≤ x1) (dx1 : x1 ≤ 200) (bx2 : 0 ≤ x2) (dx2 : x2 ≤ 200) (f_AT9 : AT9 h) (f_RPV : RPV x1 x2 h) : CV yX12_works cX12_works 5 (none) 3 [pR 98, pI x1, pI x2] h (fun h' => MBm h' ∧ Fr [(128, 0), (129, 0)] h h') := by
  refine CV.of (L0 := [some (pR 98), some (pI x1), some (pI x2), none, none]) rfl (Nat.le_of_ble_eq_true rfl) rfl (fun Po hPo hav => ?_)
  refine g_iconst dX12_works_0 (inR_c rfl) ?_
  refine g_istore_n dX12_works_1 (by decide) rfl ?_
  refine g_iload_n dX12_works_2 rfl (fun _ => ?_)
  have c5 : ∀ (n : Nat) (y1 y2 : Int) (h3 : MEM), MBm h3 → Fr [(128, 0), (129, 0)] h h3 → 0 ≤ y1 → y1 ≤ 200 → 0 ≤ y2 → y2 ≤ 200 → y1 = rpD (h 119) x1.toNat (y2 - x1).toNat → x1 ≤ y2 → 200 - y2 < (n : Int) → G yX12_works cX12_works 5 (none) none Po (3, 180, 0, 0) 5 [some (pR 98), none, some (pI x2), some (pI y1), some (pI y2)] [] SH h3 0 0 := by
    intro n
    induction n with
    | zero =>
      intro y1 y2 h3 hMh3 hFh3 by1 dy1 by2 dy2 e5_0 e5_1 hn
      exfalso; omega
    | succ n ih5 =>
      intro y1 y2 h3 hMh3 hFh3 by1 dy1 by2 dy2 e5_0 e5_1 hn
      refine g_iload dX12_works_5 rfl (fun _ => ?_)
      refine g_iload_n dX12_works_7 rfl (fun _ => ?_)
      refine g_icmp_ge 127 dX12_works_8 (by decide) (fun q4 => ?_) (fun q4 => ?_)
      · skip
        exact g_return dX12_works_127 rfl (hPo _ ⟨hMh3, (Fr.sub hFh3 rfl)⟩)
      · skip
        refine g_aload_n dX12_works_11 rfl ?_
        refine gR_X12_76 rfl dX12_works_12 sh_98 (b := 119) (m_98_28 hMh3) ?_
        refine g_iload dX12_works_15 rfl (fun _ => ?_)
        refine g_ialdB dX12_works_17 sh_119 (by omega) (by omega) (m_119 hMh3 _) (fun v5 ev5 bv5 cv5 => ?_)
        have cw : h3 119 (y2).toNat = h 119 (y2).toNat := (hFh3 119 _ rfl)
        refine g_iconst dX12_works_18 (inR_c rfl) ?_
        refine g_icmp_le 42 dX12_works_19 (by decide) (fun q6 => ?_) (fun q6 => ?_)
        · skip
          refine g_aload_n dX12_works_42 rfl ?_
          refine gR_X12_76 rfl dX12_works_43 sh_98 (b := 119) (m_98_28 hMh3) ?_
          refine g_iload dX12_works_46 rfl (fun _ => ?_)
          refine g_ialdE dX12_works_48 sh_119 (by omega) (by omega) ev5.symm ?_
          refine g_iconst dX12_works_49 (inR_c rfl) ?_
          refine g_icmp_ne 74 dX12_works_50 (by decide) (fun q7 => ?_) (fun q7 => ?_)
          · skip
            refine g_aload_n dX12_works_74 rfl ?_
            have al8 : 0 ≤ y1 ∧ y1 ≤ 199 := (by have rw := rpw_get f_RPV e5_0 (by omega) (by omega) (by omega) cw (by assumption); omega)
            refine gR_X12_106 rfl dX12_works_75 sh_98 (b := 129) (m_98_50 hMh3) ?_
            refine g_iload_n dX12_works_78 rfl (fun _ => ?_)
            refine g_iconst dX12_works_79 (inR_c rfl) ?_
            refine g_zastB dX12_works_80 sh_129 (by omega) (by omega) (by omega) (fun h9 eh9 => ?_)
            have hFh9 := Fr.ar eh9
            have hMh9 := u_129 hMh3 eh9 (by omega) (by omega)
            refine g_aload_n dX12_works_81 rfl ?_
            refine gR_X12_103 rfl dX12_works_82 sh_98 (b := 128) (m_98_49 hMh9) ?_
            refine g_iload_n dX12_works_85 rfl (fun _ => ?_)
            refine g_aload_n dX12_works_86 rfl ?_
            refine gR_X12_76 rfl dX12_works_87 sh_98 (b := 119) (m_98_28 hMh9) ?_
            refine g_iload dX12_works_90 rfl (fun _ => ?_)
            refine g_ialdE dX12_works_92 sh_119 (by omega) (by omega) ((hFh9 119 _ rfl).trans ev5.symm) ?_
            refine g_if_ne 106 dX12_works_93 (by decide) (fun q10 => ?_) (fun q10 => ?_)
            · skip
              refine g_aload_n dX12_works_106 rfl ?_
              refine g_aload_n dX12_works_107 rfl ?_
              refine gR_X12_79 rfl dX12_works_108 sh_98 (b := 120) (m_98_29 hMh9) ?_
              refine g_iload dX12_works_111 rfl (fun _ => ?_)
              refine g_ialdB dX12_works_113 sh_120 (by omega) (by omega) (m_120 hMh9 _) (fun v11 ev11 bv11 cv11 => ?_)
              refine g_cVP (as := [_]) (c_X12_valueOf_98 _ h9 hMh9 (by omega) (by omega) (AT9.fr (T := [(128, 0), (129, 0)]) f_AT9 (Fr.tr (Fr.sub hFh3 rfl) hFh9 rfl) rfl)) dX12_works_114 mi_X12_valueOf in_X12_valueOf se_X12_valueOf ml_X12_347 rfl rfl rfl sh_98 rfl rfl (Nat.le_of_ble_eq_true rfl) (fun v12 q13 => ?_)
              obtain ⟨bv12, cv12⟩ := q13
              refine g_iastB dX12_works_117 sh_128 (by omega) (by omega) (fun h14 eh14 => ?_)
              have hFh14 := Fr.ar eh14
              have hMh14 := u_128 hMh9 eh14 (by omega) (by omega)
              refine g_iincB dX12_works_118 rfl rfl (by omega) (by omega) ?_
              refine g_iincB dX12_works_121 rfl rfl (by omega) (by omega) ?_
              refine g_goto 5 dX12_works_124 (by decide) ?_
              exact ih5 _ _ _ hMh14 (Fr.tr (Fr.tr (Fr.sub hFh3 rfl) hFh9 rfl) hFh14 rfl) (by omega) (by omega) (by omega) (by omega) (by first | exact rpw_0 | (rw [(rpw_get f_RPV e5_0 (by omega) (by omega) (by omega) cw (by assumption)).2.2.2.2]; split <;> (try split) <;> omega)) (by omega) (by omega)
            · skip
              refine g_aload_n dX12_works_96 rfl ?_
              refine gR_X12_79 rfl dX12_works_97 sh_98 (b := 120) (m_98_29 hMh9) ?_
              refine g_iload dX12_works_100 rfl (fun _ => ?_)
              refine g_ialdB dX12_works_102 sh_120 (by omega) (by omega) (m_120 hMh9 _) (fun v15 ev15 bv15 cv15 => ?_)
              refine g_goto 117 dX12_works_103 (by decide) ?_
              refine g_iastB dX12_works_117 sh_128 (by omega) (by omega) (fun h16 eh16 => ?_)
              have hFh16 := Fr.ar eh16
              have hMh16 := u_128 hMh9 eh16 (by omega) (by omega)
              refine g_iincB dX12_works_118 rfl rfl (by omega) (by omega) ?_
              refine g_iincB dX12_works_121 rfl rfl (by omega) (by omega) ?_
              refine g_goto 5 dX12_works_124 (by decide) ?_
              exact ih5 _ _ _ hMh16 (Fr.tr (Fr.tr (Fr.sub hFh3 rfl) hFh9 rfl) hFh16 rfl) (by omega) (by omega) (by omega) (by omega) (by first | exact rpw_0 | (rw [(rpw_get f_RPV e5_0 (by omega) (by omega) (by omega) cw (by assumption)).2.2.2.2]; split <;> (try split) <;> omega)) (by omega) (by omega)
          · skip
            refine g_aload_n dX12_works_53 rfl ?_
            have al17 : 1 ≤ y1 ∧ y1 ≤ 200 := (by have rw := rpw_get f_RPV e5_0 (by omega) (by omega) (by omega) cw (by assumption); omega)
            refine gR_X12_103 rfl dX12_works_54 sh_98 (b := 128) (m_98_49 hMh3) ?_
            refine g_iload_n dX12_works_57 rfl (fun _ => ?_)
            refine g_iconst dX12_works_58 (inR_c rfl) ?_
            refine g_isubB dX12_works_59 (by omega) (by omega) ?_
            refine g_iconst dX12_works_60 (inR_c rfl) ?_
            refine g_aload_n dX12_works_61 rfl ?_
            refine gR_X12_103 rfl dX12_works_62 sh_98 (b := 128) (m_98_49 hMh3) ?_
            refine g_iload_n dX12_works_65 rfl (fun _ => ?_)
            refine g_iconst dX12_works_66 (inR_c rfl) ?_
            refine g_isubB dX12_works_67 (by omega) (by omega) ?_
            refine g_ialdB dX12_works_68 sh_128 (by omega) (by omega) (m_128 hMh3 _) (fun v18 ev18 bv18 cv18 => ?_)
            refine g_isubF dX12_works_69 (fun v19 bv19 cv19 => ?_)
            refine g_iastB dX12_works_70 sh_128 (by omega) (by omega) (fun h20 eh20 => ?_)
            have hFh20 := Fr.ar eh20
            have hMh20 := u_128 hMh3 eh20 (by omega) (by omega)
            refine g_goto 121 dX12_works_71 (by decide) ?_
            refine g_iincB dX12_works_121 rfl rfl (by omega) (by omega) ?_
            refine g_goto 5 dX12_works_124 (by decide) ?_
            exact ih5 _ _ _ hMh20 (Fr.tr (Fr.sub hFh3 rfl) hFh20 rfl) (by omega) (by omega) (by omega) (by omega) (by first | exact rpw_0 | (rw [(rpw_get f_RPV e5_0 (by omega) (by omega) (by omega) cw (by assumption)).2.2.2.2]; split <;> (try split) <;> omega)) (by omega) (by omega)
        · skip
          refine g_iincB dX12_works_22 rfl rfl (by omega) (by omega) ?_
          have al21 : 1 ≤ (y1 + (-1)) ∧ (y1 + (-1)) ≤ 199 := (by have rw := rpw_get f_RPV e5_0 (by omega) (by omega) (by omega) cw (by assumption); omega)
          refine g_aload_n dX12_works_25 rfl ?_
          refine g_aload_n dX12_works_26 rfl ?_
          refine gR_X12_76 rfl dX12_works_27 sh_98 (b := 119) (m_98_28 hMh3) ?_
          refine g_iload dX12_works_30 rfl (fun _ => ?_)
          refine g_ialdE dX12_works_32 sh_119 (by omega) (by omega) ev5.symm ?_
          refine g_iload_n dX12_works_33 rfl (fun _ => ?_)
          refine g_iconst dX12_works_34 (inR_c rfl) ?_
          refine g_isubB dX12_works_35 (by omega) (by omega) ?_
          refine g_cVV (as := [_, _]) (c_X12_does_98 _ _ h3 hMh3 (by omega) (by omega) (by omega) (by omega)) dX12_works_36 mi_X12_does in_X12_does se_X12_does ml_X12_344 rfl rfl rfl sh_98 rfl rfl (Nat.le_of_ble_eq_true rfl) (fun h22 q23 => ?_)
          obtain ⟨hMh22, hFh22⟩ := q23
          refine g_goto 121 dX12_works_39 (by decide) ?_
          refine g_iincB dX12_works_121 rfl rfl (by omega) (by omega) ?_
          refine g_goto 5 dX12_works_124 (by decide) ?_
          exact ih5 _ _ _ hMh22 (Fr.tr (Fr.sub hFh3 rfl) hFh22 rfl) (by omega) (by omega) (by omega) (by omega) (by first | exact rpw_0 | (rw [(rpw_get f_RPV e5_0 (by omega) (by omega) (by omega) cw (by assumption)).2.2.2.2]; split <;> (try split) <;> omega)) (by omega) (by omega)
  refine g_istore dX12_works_3 (by decide) rfl ?_
  refine g_drop 1 ?_
  exact c5 201 _ _ _ hM Fr.rf (by omega) (by omega) (by omega) (by omega) (by first | exact rpw_0 | (rw [(rpw_get f_RPV e5_0 (by omega) (by omega) (by omega) cw (by assumption)).2.2.2.2]; split <;> (try split) <;> omega)) (by omega) (by omega)
set_option maxRecDepth 100000 in
set_option maxHeartbeats 4000000 in
theorem c_X12_tells_98 (x1 x2 x3 x4 : Int) (h : MEM) (hM : MBm h) (bx1 : 100 ≤ x1) (dx1 : x1 ≤ 109) (bx2 : 0 ≤ x2) (dx2 : x2 ≤ 7) (bx3 : -1 ≤ x3) (dx3 : x3 ≤ 7) (bx4 : 9 ≤ x4) (dx4 : x4 ≤ 99) (r0_0 : 0 ≤ h 103 (x2).toNat) (r0_1 : h 103 (x2).toNat ≤ 9) (f_WFL : WFL h) : CI yX12_tells cX12_tells 7 (some .int) 4 [pR 98, pI x1, pI x2, pI x3, pI x4] h (fun x h' => MBm h' ∧ Fr [(98, 47), (98, 48), (128, 0), (129, 0)] h h' ∧ 0 ≤ x ∧ x ≤ 99) := by
  refine CI.of (L0 := [some (pR 98), some (pI x1), some (pI x2), some (pI x3), some (pI x4), none, none]) rfl (Nat.le_of_ble_eq_true rfl) rfl (fun Po hPo hav => ?_)
  obtain ⟨wa0, ewa0⟩ : ∃ z, z = h 103 (x2).toNat := ⟨_, rfl⟩
  have bwa0 : 0 ≤ wa0 ∧ wa0 ≤ 9 := by omega
  refine g_aload_n dX12_tells_0 rfl ?_
  refine g_iload_n dX12_tells_1 rfl (fun _ => ?_)
  refine pI_X12_327 rfl dX12_tells_2 sh_98 (fun h1 eh1 => ?_)
  have hFh1 := Fr.st eh1
  have hMh1 := u_98_46 hM eh1 (by omega) (by omega)
  refine g_aload_n dX12_tells_5 rfl ?_
  refine g_iload_n dX12_tells_6 rfl (fun _ => ?_)
  refine pI_X12_324 rfl dX12_tells_7 sh_98 (fun h2 eh2 => ?_)
  have hFh2 := Fr.st eh2
  have hMh2 := u_98_47 hMh1 eh2 (by omega) (by omega)
  have q3 : h2 98 46 = x2 := ((hFh2 98 46 rfl).trans (st_at eh1))
  have q4 : h2 103 (x2).toNat = wa0 := ((hFh2 103 _ rfl).trans ((hFh1 103 _ rfl).trans ewa0.symm))
  have fat : AT9 h2 := AT9_mk (by assumption) (by assumption) (by omega)
  refine g_iconst dX12_tells_10 (inR_c rfl) ?_
  have c13 : ∀ (n : Nat) (y5 : Int) (h6 : MEM), MBm h6 → Fr [(128, 0), (129, 0)] h2 h6 → 0 ≤ y5 → y5 ≤ 14 → 14 - y5 < (n : Int) → G yX12_tells cX12_tells 7 (some .int) none Po (4, 240, 0, 0) 13 [some (pR 98), some (pI x1), none, none, some (pI x4), some (pI y5), none] [] SH h6 0 0 := by
    intro n
    induction n with
    | zero =>
      intro y5 h6 hMh6 hFh6 by5 dy5 hn
      exfalso; omega
    | succ n ih13 =>
      intro y5 h6 hMh6 hFh6 by5 dy5 hn
      refine g_iload dX12_tells_13 rfl (fun _ => ?_)
      refine g_aload_n dX12_tells_15 rfl ?_
      refine gI_X12_321 rfl dX12_tells_16 sh_98 (m_98_23 hMh6) (fun v7 ev7 bv7 cv7 => ?_)
      refine g_icmp_ge 145 dX12_tells_19 (by decide) (fun q8 => ?_) (fun q8 => ?_)
      · skip
        refine g_iconst dX12_tells_145 (inR_c rfl) ?_
        exact g_ireturn dX12_tells_146 retI (hPo _ _ ⟨hMh6, (Fr.tr (Fr.tr (Fr.sub hFh1 rfl) hFh2 rfl) hFh6 rfl), (by omega), (by omega)⟩)
      · skip
        refine g_aload_n dX12_tells_22 rfl ?_
        refine gR_X12_64 rfl dX12_tells_23 sh_98 (b := 115) (m_98_24 hMh6) ?_
        refine g_iload dX12_tells_26 rfl (fun _ => ?_)
        refine g_ialdB dX12_tells_28 sh_115 (by omega) (by omega) (m_115 hMh6 _) (fun v9 ev9 bv9 cv9 => ?_)
        refine g_iload_n dX12_tells_29 rfl (fun _ => ?_)
        refine g_icmp_eq 36 dX12_tells_30 (by decide) (fun q10 => ?_) (fun q10 => ?_)
        · skip
          refine g_aload_n dX12_tells_36 rfl ?_
          refine g_aload_n dX12_tells_37 rfl ?_
          refine gR_X12_70 rfl dX12_tells_38 sh_98 (b := 117) (m_98_26 hMh6) ?_
          refine g_iload dX12_tells_41 rfl (fun _ => ?_)
          refine g_ialdB dX12_tells_43 sh_117 (by omega) (by omega) (m_117 hMh6 _) (fun v11 ev11 bv11 cv11 => ?_)
          refine g_aload_n dX12_tells_44 rfl ?_
          refine gR_X12_73 rfl dX12_tells_45 sh_98 (b := 118) (m_98_27 hMh6) ?_
          refine g_iload dX12_tells_48 rfl (fun _ => ?_)
          refine g_ialdB dX12_tells_50 sh_118 (by omega) (by omega) (m_118 hMh6 _) (fun v12 ev12 bv12 cv12 => ?_)
          have q13 : h6 98 23 = v7 := ev7.symm
          have q14 : h6 117 (y5).toNat = v11 := ev11.symm
          have q15 : h6 118 (y5).toNat = v12 := ev12.symm
          have frp : RPV v11 v12 h6 := WFL_1 (WFL.fr (T := [(98, 47), (98, 48), (128, 0), (129, 0)]) f_WFL (Fr.tr (Fr.tr (Fr.sub hFh1 rfl) hFh2 rfl) hFh6 rfl) rfl) (k := y5) (by omega) (by omega) (by assumption) (by assumption)
          refine g_cVV (as := [_, _]) (c_X12_works_98 _ _ h6 hMh6 (by omega) (by omega) (by omega) (by omega) (AT9.fr (T := [(128, 0), (129, 0)]) fat (Fr.sub hFh6 rfl) rfl) frp) dX12_tells_51 mi_X12_works in_X12_works se_X12_works ml_X12_350 rfl rfl rfl sh_98 rfl rfl (Nat.le_of_ble_eq_true rfl) (fun h16 q17 => ?_)
          obtain ⟨hMh16, hFh16⟩ := q17
          refine g_aload_n dX12_tells_54 rfl ?_
          refine gR_X12_106 rfl dX12_tells_55 sh_98 (b := 129) (m_98_50 hMh16) ?_
          refine g_iconst dX12_tells_58 (inR_c rfl) ?_
          refine g_zaldB dX12_tells_59 sh_129 (by omega) (by omega) (m_129 hMh16 _) (fun v18 ev18 bv18 cv18 => ?_)
          refine g_if_ne 139 dX12_tells_60 (by decide) (fun q19 => ?_) (fun q19 => ?_)
          · skip
            refine g_iincB dX12_tells_139 rfl rfl (by omega) (by omega) ?_
            refine g_goto 13 dX12_tells_142 (by decide) ?_
            exact ih13 _ _ hMh16 (Fr.tr (Fr.sub hFh6 rfl) hFh16 rfl) (by omega) (by omega) (by omega)
          · skip
            refine g_aload_n dX12_tells_63 rfl ?_
            refine gR_X12_103 rfl dX12_tells_64 sh_98 (b := 128) (m_98_49 hMh16) ?_
            refine g_iconst dX12_tells_67 (inR_c rfl) ?_
            refine g_ialdB dX12_tells_68 sh_128 (by omega) (by omega) (m_128 hMh16 _) (fun v20 ev20 bv20 cv20 => ?_)
            refine g_iconst dX12_tells_69 (inR_c rfl) ?_
            refine g_icmp_eq 76 dX12_tells_70 (by decide) (fun q21 => ?_) (fun q21 => ?_)
            · skip
              refine g_aload_n dX12_tells_76 rfl ?_
              refine g_aload_n dX12_tells_77 rfl ?_
              refine gR_X12_67 rfl dX12_tells_78 sh_98 (b := 116) (m_98_25 hMh16) ?_
              refine g_iload dX12_tells_81 rfl (fun _ => ?_)
              refine g_ialdB dX12_tells_83 sh_116 (by omega) (by omega) (m_116 hMh16 _) (fun v22 ev22 bv22 cv22 => ?_)
              refine g_aload_n dX12_tells_84 rfl ?_
              refine gR_X12_70 rfl dX12_tells_85 sh_98 (b := 117) (m_98_26 hMh16) ?_
              refine g_iload dX12_tells_88 rfl (fun _ => ?_)
              refine g_ialdE dX12_tells_90 sh_117 (by omega) (by omega) ((hFh16 117 _ rfl).trans ev11.symm) ?_
              have q23 : h16 98 23 = v7 := ((hFh16 98 23 rfl).trans ev7.symm)
              have q24 : h16 116 (y5).toNat = v22 := ev22.symm
              have q25 : h16 117 (y5).toNat = v11 := ((hFh16 117 _ rfl).trans ev11.symm)
              have frp2 : RPV v22 v11 h16 := WFL_2 (WFL.fr (T := [(98, 47), (98, 48), (128, 0), (129, 0)]) f_WFL (Fr.tr (Fr.tr (Fr.tr (Fr.sub hFh1 rfl) hFh2 rfl) hFh6 rfl) hFh16 rfl) rfl) (k := y5) (by omega) (by omega) (by assumption) (by assumption)
              refine g_cVV (as := [_, _]) (c_X12_works_98 _ _ h16 hMh16 (by omega) (by omega) (by omega) (by omega) (AT9.fr (T := [(128, 0), (129, 0)]) fat (Fr.tr (Fr.sub hFh6 rfl) hFh16 rfl) rfl) frp2) dX12_tells_91 mi_X12_works in_X12_works se_X12_works ml_X12_350 rfl rfl rfl sh_98 rfl rfl (Nat.le_of_ble_eq_true rfl) (fun h26 q27 => ?_)
              obtain ⟨hMh26, hFh26⟩ := q27
              refine g_aload_n dX12_tells_94 rfl ?_
              refine gR_X12_106 rfl dX12_tells_95 sh_98 (b := 129) (m_98_50 hMh26) ?_
              refine g_iconst dX12_tells_98 (inR_c rfl) ?_
              refine g_zaldB dX12_tells_99 sh_129 (by omega) (by omega) (m_129 hMh26 _) (fun v28 ev28 bv28 cv28 => ?_)
              refine g_if_eq 107 dX12_tells_100 (by decide) (fun q29 => ?_) (fun q29 => ?_)
              · skip
                refine g_aload_n dX12_tells_107 rfl ?_
                refine gR_X12_103 rfl dX12_tells_108 sh_98 (b := 128) (m_98_49 hMh26) ?_
                refine g_iconst dX12_tells_111 (inR_c rfl) ?_
                refine g_ialdB dX12_tells_112 sh_128 (by omega) (by omega) (m_128 hMh26 _) (fun v30 ev30 bv30 cv30 => ?_)
                refine g_istore dX12_tells_113 (by decide) rfl ?_
                refine g_iload dX12_tells_115 rfl (fun _ => ?_)
                refine g_if_ge 124 dX12_tells_117 (by decide) (fun q31 => ?_) (fun q31 => ?_)
                · skip
                  refine g_iload dX12_tells_124 rfl (fun _ => ?_)
                  refine g_iload dX12_tells_126 rfl (fun _ => ?_)
                  refine g_icmp_le 136 dX12_tells_128 (by decide) (fun q32 => ?_) (fun q32 => ?_)
                  · skip
                    refine g_iload dX12_tells_136 rfl (fun _ => ?_)
                    exact g_ireturn dX12_tells_138 retI (hPo _ _ ⟨hMh26, (Fr.tr (Fr.tr (Fr.tr (Fr.tr (Fr.sub hFh1 rfl) hFh2 rfl) hFh6 rfl) hFh16 rfl) hFh26 rfl), (by omega), (by omega)⟩)
                  · skip
                    refine g_iload dX12_tells_131 rfl (fun _ => ?_)
                    refine g_goto 138 dX12_tells_133 (by decide) ?_
                    exact g_ireturn dX12_tells_138 retI (hPo _ _ ⟨hMh26, (Fr.tr (Fr.tr (Fr.tr (Fr.tr (Fr.sub hFh1 rfl) hFh2 rfl) hFh6 rfl) hFh16 rfl) hFh26 rfl), (by omega), (by omega)⟩)
                · skip
                  refine g_iconst dX12_tells_120 (inR_c rfl) ?_
                  refine g_goto 138 dX12_tells_121 (by decide) ?_
                  exact g_ireturn dX12_tells_138 retI (hPo _ _ ⟨hMh26, (Fr.tr (Fr.tr (Fr.tr (Fr.tr (Fr.sub hFh1 rfl) hFh2 rfl) hFh6 rfl) hFh16 rfl) hFh26 rfl), (by omega), (by omega)⟩)
              · skip
                refine g_iconst dX12_tells_103 (inR_c rfl) ?_
                refine g_goto 113 dX12_tells_104 (by decide) ?_
                refine g_istore dX12_tells_113 (by decide) rfl ?_
                refine g_iload dX12_tells_115 rfl (fun _ => ?_)
                refine g_if_ge 124 dX12_tells_117 (by decide) (fun q33 => ?_) (fun _ => by exfalso; omega)
                refine g_iload dX12_tells_124 rfl (fun _ => ?_)
                refine g_iload dX12_tells_126 rfl (fun _ => ?_)
                refine g_icmp_le 136 dX12_tells_128 (by decide) (fun q34 => ?_) (fun _ => by exfalso; omega)
                refine g_iload dX12_tells_136 rfl (fun _ => ?_)
                exact g_ireturn dX12_tells_138 retI (hPo _ _ ⟨hMh26, (Fr.tr (Fr.tr (Fr.tr (Fr.tr (Fr.sub hFh1 rfl) hFh2 rfl) hFh6 rfl) hFh16 rfl) hFh26 rfl), (by omega), (by omega)⟩)
            · skip
              refine g_goto 139 dX12_tells_73 (by decide) ?_
              refine g_iincB dX12_tells_139 rfl rfl (by omega) (by omega) ?_
              refine g_goto 13 dX12_tells_142 (by decide) ?_
              exact ih13 _ _ hMh16 (Fr.tr (Fr.sub hFh6 rfl) hFh16 rfl) (by omega) (by omega) (by omega)
        · skip
          refine g_goto 139 dX12_tells_33 (by decide) ?_
          refine g_iincB dX12_tells_139 rfl rfl (by omega) (by omega) ?_
          refine g_goto 13 dX12_tells_142 (by decide) ?_
          exact ih13 _ _ hMh6 (Fr.sub hFh6 rfl) (by omega) (by omega) (by omega)
  refine g_istore dX12_tells_11 (by decide) rfl ?_
  refine g_drop 2 ?_
  refine g_drop 3 ?_
  exact c13 15 _ _ hMh2 Fr.rf (by omega) (by omega) (by omega)
set_option maxRecDepth 100000 in
set_option maxHeartbeats 4000000 in
theorem c_X12_less (x1 x2 : Int) (h : MEM) (hM : MBm h) (bx1 : -2147483648 ≤ x1) (dx1 : x1 ≤ 2147483647) (bx2 : -2147483648 ≤ x2) (dx2 : x2 ≤ 2147483647) : CP yX12_less cX12_less 2 (some .int) 1 [pI x1, pI x2] h (fun x => -2147483648 ≤ x ∧ x ≤ 2147483647 ∧ ((x1 ≤ x2 ∧ x = x1 ∨ x2 < x1 ∧ x = x2))) := by
  refine CP.of (L0 := [some (pI x1), some (pI x2)]) rfl (Nat.le_of_ble_eq_true rfl) rfl (fun Po hPo hav => ?_)
  refine g_iload_n dX12_less_0 rfl (fun _ => ?_)
  refine g_iload_n dX12_less_1 rfl (fun _ => ?_)
  refine g_icmp_ge 9 dX12_less_2 (by decide) (fun q1 => ?_) (fun q1 => ?_)
  · skip
    refine g_iload_n dX12_less_9 rfl (fun _ => ?_)
    exact g_ireturn dX12_less_10 retI (hPo _ ⟨(by omega), (by omega), (by omega)⟩)
  · skip
    refine g_iload_n dX12_less_5 rfl (fun _ => ?_)
    refine g_goto 10 dX12_less_6 (by decide) ?_
    exact g_ireturn dX12_less_10 retI (hPo _ ⟨(by omega), (by omega), (by omega)⟩)
set_option maxRecDepth 100000 in
set_option maxHeartbeats 4000000 in
theorem c_X12_whoBelow_98 (x1 : Int) (h : MEM) (hM : MBm h) (bx1 : 0 ≤ x1) (dx1 : x1 ≤ 9) : CP yX12_whoBelow cX12_whoBelow 4 (some .int) 1 [pR 98, pI x1] h (fun x => -1 ≤ x ∧ x ≤ 7) := by
  refine CP.of (L0 := [some (pR 98), some (pI x1), none, none]) rfl (Nat.le_of_ble_eq_true rfl) rfl (fun Po hPo hav => ?_)
  refine g_iconst dX12_whoBelow_0 (inR_c rfl) ?_
  refine g_istore_n dX12_whoBelow_1 (by decide) rfl ?_
  refine g_iconst dX12_whoBelow_2 (inR_c rfl) ?_
  have c4 : ∀ (n : Nat) (y1 y2 : Int) , -1 ≤ y1 → y1 ≤ 7 → 0 ≤ y2 → y2 ≤ 8 → 8 - y2 < (n : Int) → G yX12_whoBelow cX12_whoBelow 4 (some .int) none Po (1, 60, 0, 0) 4 [some (pR 98), some (pI x1), some (pI y1), some (pI y2)] [] SH h 0 0 := by
    intro n
    induction n with
    | zero =>
      intro y1 y2 by1 dy1 by2 dy2 hn
      exfalso; omega
    | succ n ih4 =>
      intro y1 y2 by1 dy1 by2 dy2 hn
      refine g_iload_n dX12_whoBelow_4 rfl (fun _ => ?_)
      refine g_aload_n dX12_whoBelow_5 rfl ?_
      refine gI_X12_182 rfl dX12_whoBelow_6 sh_98 (m_98_4 hM) (fun v3 ev3 bv3 cv3 => ?_)
      refine g_icmp_ge 59 dX12_whoBelow_9 (by decide) (fun q4 => ?_) (fun q4 => ?_)
      · skip
        refine g_iload_n dX12_whoBelow_59 rfl (fun _ => ?_)
        exact g_ireturn dX12_whoBelow_60 retI (hPo _ ⟨(by omega), (by omega)⟩)
      · skip
        refine g_aload_n dX12_whoBelow_12 rfl ?_
        refine gR_X12_46 rfl dX12_whoBelow_13 sh_98 (b := 109) (m_98_17 hM) ?_
        refine g_iload_n dX12_whoBelow_16 rfl (fun _ => ?_)
        refine g_ialdB dX12_whoBelow_17 sh_109 (by omega) (by omega) (m_109 hM _) (fun v5 ev5 bv5 cv5 => ?_)
        refine g_iload_n dX12_whoBelow_18 rfl (fun _ => ?_)
        refine g_icmp_ne 53 dX12_whoBelow_19 (by decide) (fun q6 => ?_) (fun q6 => ?_)
        · skip
          refine g_iincB dX12_whoBelow_53 rfl rfl (by omega) (by omega) ?_
          refine g_goto 4 dX12_whoBelow_56 (by decide) ?_
          exact ih4 _ _ (by omega) (by omega) (by omega) (by omega) (by omega)
        · skip
          refine g_aload_n dX12_whoBelow_22 rfl ?_
          refine gR_X12_49 rfl dX12_whoBelow_23 sh_98 (b := 110) (m_98_18 hM) ?_
          refine g_iload_n dX12_whoBelow_26 rfl (fun _ => ?_)
          refine g_zaldB dX12_whoBelow_27 sh_110 (by omega) (by omega) (m_110 hM _) (fun v7 ev7 bv7 cv7 => ?_)
          refine g_if_ne 53 dX12_whoBelow_28 (by decide) (fun q8 => ?_) (fun q8 => ?_)
          · skip
            refine g_iincB dX12_whoBelow_53 rfl rfl (by omega) (by omega) ?_
            refine g_goto 4 dX12_whoBelow_56 (by decide) ?_
            exact ih4 _ _ (by omega) (by omega) (by omega) (by omega) (by omega)
          · skip
            refine g_iload_n dX12_whoBelow_31 rfl (fun _ => ?_)
            refine g_iconst dX12_whoBelow_32 (inR_c rfl) ?_
            refine g_icmp_eq 51 dX12_whoBelow_33 (by decide) (fun q9 => ?_) (fun q9 => ?_)
            · skip
              refine g_iload_n dX12_whoBelow_51 rfl (fun _ => ?_)
              refine g_istore_n dX12_whoBelow_52 (by decide) rfl ?_
              refine g_iincB dX12_whoBelow_53 rfl rfl (by omega) (by omega) ?_
              refine g_goto 4 dX12_whoBelow_56 (by decide) ?_
              exact ih4 _ _ (by omega) (by omega) (by omega) (by omega) (by omega)
            · skip
              refine g_aload_n dX12_whoBelow_36 rfl ?_
              refine gR_X12_52 rfl dX12_whoBelow_37 sh_98 (b := 111) (m_98_19 hM) ?_
              refine g_iload_n dX12_whoBelow_40 rfl (fun _ => ?_)
              refine g_ialdB dX12_whoBelow_41 sh_111 (by omega) (by omega) (m_111 hM _) (fun v10 ev10 bv10 cv10 => ?_)
              refine g_aload_n dX12_whoBelow_42 rfl ?_
              refine gR_X12_52 rfl dX12_whoBelow_43 sh_98 (b := 111) (m_98_19 hM) ?_
              refine g_iload_n dX12_whoBelow_46 rfl (fun _ => ?_)
              refine g_ialdB dX12_whoBelow_47 sh_111 (by omega) (by omega) (m_111 hM _) (fun v11 ev11 bv11 cv11 => ?_)
              refine g_icmp_ge 53 dX12_whoBelow_48 (by decide) (fun q12 => ?_) (fun q12 => ?_)
              · skip
                refine g_iincB dX12_whoBelow_53 rfl rfl (by omega) (by omega) ?_
                refine g_goto 4 dX12_whoBelow_56 (by decide) ?_
                exact ih4 _ _ (by omega) (by omega) (by omega) (by omega) (by omega)
              · skip
                refine g_iload_n dX12_whoBelow_51 rfl (fun _ => ?_)
                refine g_istore_n dX12_whoBelow_52 (by decide) rfl ?_
                refine g_iincB dX12_whoBelow_53 rfl rfl (by omega) (by omega) ?_
                refine g_goto 4 dX12_whoBelow_56 (by decide) ?_
                exact ih4 _ _ (by omega) (by omega) (by omega) (by omega) (by omega)
  refine g_istore_n dX12_whoBelow_3 (by decide) rfl ?_
  exact c4 9 _ _ (by omega) (by omega) (by omega) (by omega) (by omega)
set_option maxRecDepth 100000 in
set_option maxHeartbeats 4000000 in
theorem c_X12_falls_98 (x1 : Int) (h : MEM) (hM : MBm h) (bx1 : 0 ≤ x1) (dx1 : x1 ≤ 7) (r0_0 : 0 ≤ h 103 (x1).toNat) (r0_1 : h 103 (x1).toNat ≤ 9) (f_WFL : WFL h) : CV yX12_falls cX12_falls 6 (none) 5 [pR 98, pI x1] h (fun h' => MBm h' ∧ Fr [(98, 8), (98, 47), (98, 48), (98, 52), (101, 0), (105, 0), (107, 0), (111, 0), (112, 0), (113, 0), (128, 0), (129, 0)] h h') := by
  refine CV.of (L0 := [some (pR 98), some (pI x1), none, none, none, none]) rfl (Nat.le_of_ble_eq_true rfl) rfl (fun Po hPo hav => ?_)
  obtain ⟨wa0, ewa0⟩ : ∃ z, z = h 103 (x1).toNat := ⟨_, rfl⟩
  have bwa0 : 0 ≤ wa0 ∧ wa0 ≤ 9 := by omega
  refine g_aload_n dX12_falls_0 rfl ?_
  refine gR_X12_27 rfl dX12_falls_1 sh_98 (b := 103) (m_98_11 hM) ?_
  refine g_iload_n dX12_falls_4 rfl (fun _ => ?_)
  refine g_ialdE dX12_falls_5 sh_103 (by omega) (by omega) ewa0.symm ?_
  refine g_istore_n dX12_falls_6 (by decide) rfl ?_
  refine g_aload_n dX12_falls_7 rfl ?_
  refine gR_X12_21 rfl dX12_falls_8 sh_98 (b := 101) (m_98_9 hM) ?_
  refine g_iload_n dX12_falls_11 rfl (fun _ => ?_)
  refine g_dup2 dX12_falls_12 rfl rfl ?_
  refine g_ialdB dX12_falls_13 sh_101 (by omega) (by omega) (m_101 hM _) (fun v1 ev1 bv1 cv1 => ?_)
  refine g_iconst dX12_falls_14 (inR_c rfl) ?_
  refine g_isubF dX12_falls_15 (fun v2 bv2 cv2 => ?_)
  refine g_iastB dX12_falls_16 sh_101 (by omega) (by omega) (fun h3 eh3 => ?_)
  have hFh3 := Fr.ar eh3
  have hMh3 := u_101 hM eh3 (by omega) (by omega)
  refine g_aload_n dX12_falls_17 rfl ?_
  refine gR_X12_40 rfl dX12_falls_18 sh_98 (b := 107) (m_98_15 hMh3) ?_
  refine g_iload_n dX12_falls_21 rfl (fun _ => ?_)
  refine g_dup2 dX12_falls_22 rfl rfl ?_
  refine g_ialdB dX12_falls_23 sh_107 (by omega) (by omega) (m_107 hMh3 _) (fun v4 ev4 bv4 cv4 => ?_)
  refine g_iconst dX12_falls_24 (inR_c rfl) ?_
  refine g_iaddF dX12_falls_25 (fun v5 bv5 cv5 => ?_)
  refine g_iastB dX12_falls_26 sh_107 (by omega) (by omega) (fun h6 eh6 => ?_)
  have hFh6 := Fr.ar eh6
  have hMh6 := u_107 hMh3 eh6 (by omega) (by omega)
  refine g_aload_n dX12_falls_27 rfl ?_
  refine g_dup dX12_falls_28 rfl ?_
  refine gI_X12_366 rfl dX12_falls_29 sh_98 (m_98_51 hMh6) (fun v7 ev7 bv7 cv7 => ?_)
  refine g_iconst dX12_falls_32 (inR_c rfl) ?_
  refine g_iaddF dX12_falls_33 (fun v8 bv8 cv8 => ?_)
  refine pI_X12_366 rfl dX12_falls_34 sh_98 (fun h9 eh9 => ?_)
  have hFh9 := Fr.st eh9
  have hMh9 := u_98_51 hMh6 eh9 (by omega) (by omega)
  refine g_aload_n dX12_falls_37 rfl ?_
  refine g_iload_n dX12_falls_38 rfl (fun _ => ?_)
  refine g_cVP (as := [_]) (c_X12_whoBelow_98 _ h9 hMh9 (by omega) (by omega)) dX12_falls_39 mi_X12_whoBelow in_X12_whoBelow se_X12_whoBelow ml_X12_369 rfl rfl rfl sh_98 rfl rfl (Nat.le_of_ble_eq_true rfl) (fun v10 q11 => ?_)
  obtain ⟨bv10, cv10⟩ := q11
  refine g_istore_n dX12_falls_42 (by decide) rfl ?_
  refine g_iload_n dX12_falls_43 rfl (fun _ => ?_)
  refine g_iconst dX12_falls_44 (inR_c rfl) ?_
  refine g_icmp_ne 59 dX12_falls_45 (by decide) (fun q12 => ?_) (fun q12 => ?_)
  · skip
    refine g_aload_n dX12_falls_59 rfl ?_
    refine g_bipush dX12_falls_60 (inR_c rfl) (by decide) ?_
    refine g_iload_n dX12_falls_62 rfl (fun _ => ?_)
    refine g_iload_n dX12_falls_63 rfl (fun _ => ?_)
    refine g_bipush dX12_falls_64 (inR_c rfl) (by decide) ?_
    have q13 : h9 103 (x1).toNat = wa0 := ((hFh9 103 _ rfl).trans ((hFh6 103 _ rfl).trans ((hFh3 103 _ rfl).trans ewa0.symm)))
    refine g_cV (as := [_, _, _, _]) (c_X12_tells_98 _ _ _ _ h9 hMh9 (by omega) (by omega) (by omega) (by omega) (by omega) (by omega) (by omega) (by omega) (by omega) (by omega) (WFL.fr (T := [(98, 52), (101, 0), (107, 0)]) f_WFL (Fr.tr (Fr.tr (Fr.sub hFh3 rfl) hFh6 rfl) hFh9 rfl) rfl)) dX12_falls_66 mi_X12_tells in_X12_tells se_X12_tells ml_X12_375 rfl rfl rfl sh_98 rfl rfl (Nat.le_of_ble_eq_true rfl) (fun v14 h15 q16 => ?_)
    obtain ⟨hMh15, hFh15, bv14, cv14⟩ := q16
    refine g_istore dX12_falls_69 (by decide) rfl ?_
    refine g_aload_n dX12_falls_71 rfl ?_
    refine g_bipush dX12_falls_72 (inR_c rfl) (by decide) ?_
    refine g_iload_n dX12_falls_74 rfl (fun _ => ?_)
    refine g_iload_n dX12_falls_75 rfl (fun _ => ?_)
    refine g_bipush dX12_falls_76 (inR_c rfl) (by decide) ?_
    have q17 : h15 103 (x1).toNat = wa0 := ((hFh15 103 _ rfl).trans ((hFh9 103 _ rfl).trans ((hFh6 103 _ rfl).trans ((hFh3 103 _ rfl).trans ewa0.symm))))
    refine g_cV (as := [_, _, _, _]) (c_X12_tells_98 _ _ _ _ h15 hMh15 (by omega) (by omega) (by omega) (by omega) (by omega) (by omega) (by omega) (by omega) (by omega) (by omega) (WFL.fr (T := [(98, 47), (98, 48), (98, 52), (101, 0), (107, 0), (128, 0), (129, 0)]) f_WFL (Fr.tr (Fr.tr (Fr.tr (Fr.sub hFh3 rfl) hFh6 rfl) hFh9 rfl) hFh15 rfl) rfl)) dX12_falls_78 mi_X12_tells in_X12_tells se_X12_tells ml_X12_375 rfl rfl rfl sh_98 rfl rfl (Nat.le_of_ble_eq_true rfl) (fun v18 h19 q20 => ?_)
    obtain ⟨hMh19, hFh19, bv18, cv18⟩ := q20
    refine g_istore dX12_falls_81 (by decide) rfl ?_
    refine g_aload_n dX12_falls_83 rfl ?_
    refine gR_X12_52 rfl dX12_falls_84 sh_98 (b := 111) (m_98_19 hMh19) ?_
    refine g_iload_n dX12_falls_87 rfl (fun _ => ?_)
    refine g_dup2 dX12_falls_88 rfl rfl ?_
    refine g_ialdB dX12_falls_89 sh_111 (by omega) (by omega) (m_111 hMh19 _) (fun v21 ev21 bv21 cv21 => ?_)
    refine g_iconst dX12_falls_90 (inR_c rfl) ?_
    refine g_iaddF dX12_falls_91 (fun v22 bv22 cv22 => ?_)
    refine g_iastB dX12_falls_92 sh_111 (by omega) (by omega) (fun h23 eh23 => ?_)
    have hFh23 := Fr.ar eh23
    have hMh23 := u_111 hMh19 eh23 (by omega) (by omega)
    refine g_aload_n dX12_falls_93 rfl ?_
    refine gR_X12_33 rfl dX12_falls_94 sh_98 (b := 105) (m_98_13 hMh23) ?_
    refine g_iconst dX12_falls_97 (inR_c rfl) ?_
    refine g_iload_n dX12_falls_98 rfl (fun _ => ?_)
    refine g_imulB dX12_falls_99 (by omega) (by omega) ?_
    refine g_aload_n dX12_falls_100 rfl ?_
    refine gR_X12_43 rfl dX12_falls_101 sh_98 (b := 108) (m_98_16 hMh23) ?_
    refine g_iload_n dX12_falls_104 rfl (fun _ => ?_)
    refine g_ialdB dX12_falls_105 sh_108 (by omega) (by omega) (m_108 hMh23 _) (fun v24 ev24 bv24 cv24 => ?_)
    refine g_iaddB dX12_falls_106 (by omega) (by omega) ?_
    refine g_bipush dX12_falls_107 (inR_c rfl) (by decide) ?_
    refine g_aload_n dX12_falls_109 rfl ?_
    refine gR_X12_33 rfl dX12_falls_110 sh_98 (b := 105) (m_98_13 hMh23) ?_
    refine g_iconst dX12_falls_113 (inR_c rfl) ?_
    refine g_iload_n dX12_falls_114 rfl (fun _ => ?_)
    refine g_imulB dX12_falls_115 (by omega) (by omega) ?_
    refine g_aload_n dX12_falls_116 rfl ?_
    refine gR_X12_43 rfl dX12_falls_117 sh_98 (b := 108) (m_98_16 hMh23) ?_
    refine g_iload_n dX12_falls_120 rfl (fun _ => ?_)
    refine g_ialdE dX12_falls_121 sh_108 (by omega) (by omega) ev24.symm ?_
    refine g_iaddB dX12_falls_122 (by omega) (by omega) ?_
    refine g_ialdB dX12_falls_123 sh_105 (by omega) (by omega) (m_105 hMh23 _) (fun v25 ev25 bv25 cv25 => ?_)
    refine g_iload dX12_falls_124 rfl (fun _ => ?_)
    refine g_iaddF dX12_falls_126 (fun v26 bv26 cv26 => ?_)
    refine g_cSP (av := [_, _]) (c_X12_less _ _ h23 hMh23 (by omega) (by omega) (by omega) (by omega)) dX12_falls_127 mi_X12_less st_X12_less ml_X12_379 rfl rfl rfl rfl (Nat.le_of_ble_eq_true rfl) (fun v27 q28 => ?_)
    obtain ⟨bv27, cv27, zv27⟩ := q28
    refine g_iastB dX12_falls_130 sh_105 (by omega) (by omega) (fun h29 eh29 => ?_)
    have hFh29 := Fr.ar eh29
    have hMh29 := u_105 hMh23 eh29 (by omega) (by omega)
    refine g_aload_n dX12_falls_131 rfl ?_
    refine gR_X12_55 rfl dX12_falls_132 sh_98 (b := 112) (m_98_20 hMh29) ?_
    refine g_bipush dX12_falls_135 (inR_c rfl) (by decide) ?_
    refine g_iload_n dX12_falls_137 rfl (fun _ => ?_)
    refine g_imulB dX12_falls_138 (by omega) (by omega) ?_
    refine g_iload_n dX12_falls_139 rfl (fun _ => ?_)
    refine g_iaddB dX12_falls_140 (by omega) (by omega) ?_
    refine g_dup2 dX12_falls_141 rfl rfl ?_
    refine g_ialdB dX12_falls_142 sh_112 (by omega) (by omega) (m_112 hMh29 _) (fun v30 ev30 bv30 cv30 => ?_)
    refine g_iload dX12_falls_143 rfl (fun _ => ?_)
    refine g_iaddF dX12_falls_145 (fun v31 bv31 cv31 => ?_)
    refine g_iastB dX12_falls_146 sh_112 (by omega) (by omega) (fun h32 eh32 => ?_)
    have hFh32 := Fr.ar eh32
    have hMh32 := u_112 hMh29 eh32 (by omega) (by omega)
    refine g_aload_n dX12_falls_147 rfl ?_
    refine gR_X12_58 rfl dX12_falls_148 sh_98 (b := 113) (m_98_21 hMh32) ?_
    refine g_bipush dX12_falls_151 (inR_c rfl) (by decide) ?_
    refine g_iload_n dX12_falls_153 rfl (fun _ => ?_)
    refine g_imulB dX12_falls_154 (by omega) (by omega) ?_
    refine g_iload_n dX12_falls_155 rfl (fun _ => ?_)
    refine g_iaddB dX12_falls_156 (by omega) (by omega) ?_
    refine g_dup2 dX12_falls_157 rfl rfl ?_
    refine g_ialdB dX12_falls_158 sh_113 (by omega) (by omega) (m_113 hMh32 _) (fun v33 ev33 bv33 cv33 => ?_)
    refine g_iconst dX12_falls_159 (inR_c rfl) ?_
    refine g_iaddF dX12_falls_160 (fun v34 bv34 cv34 => ?_)
    refine g_iastB dX12_falls_161 sh_113 (by omega) (by omega) (fun h35 eh35 => ?_)
    have hFh35 := Fr.ar eh35
    have hMh35 := u_113 hMh32 eh35 (by omega) (by omega)
    exact g_return dX12_falls_162 rfl (hPo _ ⟨hMh35, (Fr.tr (Fr.tr (Fr.tr (Fr.tr (Fr.tr (Fr.tr (Fr.tr (Fr.tr (Fr.sub hFh3 rfl) hFh6 rfl) hFh9 rfl) hFh15 rfl) hFh19 rfl) hFh23 rfl) hFh29 rfl) hFh32 rfl) hFh35 rfl)⟩)
  · skip
    refine g_aload_n dX12_falls_48 rfl ?_
    refine g_dup dX12_falls_49 rfl ?_
    refine gI_X12_372 rfl dX12_falls_50 sh_98 (m_98_7 hMh9) (fun v36 ev36 bv36 cv36 => ?_)
    refine g_iconst dX12_falls_53 (inR_c rfl) ?_
    refine g_iaddF dX12_falls_54 (fun v37 bv37 cv37 => ?_)
    refine pI_X12_372 rfl dX12_falls_55 sh_98 (fun h38 eh38 => ?_)
    have hFh38 := Fr.st eh38
    have hMh38 := u_98_7 hMh9 eh38 (by omega) (by omega)
    exact g_return dX12_falls_58 rfl (hPo _ ⟨hMh38, (Fr.tr (Fr.tr (Fr.tr (Fr.sub hFh3 rfl) hFh6 rfl) hFh9 rfl) hFh38 rfl)⟩)
set_option maxRecDepth 100000 in
set_option maxHeartbeats 4000000 in
theorem c_X12_worksOne_98 (x1 : Int) (h : MEM) (hM : MBm h) (bx1 : 0 ≤ x1) (dx1 : x1 ≤ 9) (f_WFL : WFL h) : CV yX12_worksOne cX12_worksOne 5 (none) 6 [pR 98, pI x1] h (fun h' => MBm h' ∧ Fr [(98, 8), (98, 47), (98, 48), (98, 49), (98, 52), (101, 0), (105, 0), (107, 0), (111, 0), (112, 0), (113, 0), (128, 0), (129, 0)] h h') := by
  refine CV.of (L0 := [some (pR 98), some (pI x1), none, none, none]) rfl (Nat.le_of_ble_eq_true rfl) rfl (fun Po hPo hav => ?_)
  refine g_aload_n dX12_worksOne_0 rfl ?_
  refine g_iload_n dX12_worksOne_1 rfl (fun _ => ?_)
  refine pI_X12_337 rfl dX12_worksOne_2 sh_98 (fun h1 eh1 => ?_)
  have hFh1 := Fr.st eh1
  have hMh1 := u_98_48 hM eh1 (by omega) (by omega)
  refine g_iconst dX12_worksOne_5 (inR_c rfl) ?_
  have c7 : ∀ (n : Nat) (y2 : Int) (h3 : MEM), MBm h3 → Fr [(98, 47), (98, 48), (101, 0), (128, 0), (129, 0)] h1 h3 → 0 ≤ y2 → y2 ≤ 8 → 8 - y2 < (n : Int) → G yX12_worksOne cX12_worksOne 5 (none) none Po (6, 360, 0, 0) 7 [some (pR 98), none, some (pI y2), none, none] [] SH h3 0 0 := by
    intro n
    induction n with
    | zero =>
      intro y2 h3 hMh3 hFh3 by2 dy2 hn
      exfalso; omega
    | succ n ih7 =>
      intro y2 h3 hMh3 hFh3 by2 dy2 hn
      refine g_iload_n dX12_worksOne_7 rfl (fun _ => ?_)
      refine g_aload_n dX12_worksOne_8 rfl ?_
      refine gI_X12_179 rfl dX12_worksOne_9 sh_98 (m_98_3 hMh3) (fun v4 ev4 bv4 cv4 => ?_)
      refine g_icmp_ge 82 dX12_worksOne_12 (by decide) (fun q5 => ?_) (fun q5 => ?_)
      · skip
        refine g_iconst dX12_worksOne_82 (inR_c rfl) ?_
        have c84 : ∀ (n : Nat) (y6 : Int) (h7 : MEM), MBm h7 → Fr [(98, 8), (98, 47), (98, 48), (98, 52), (101, 0), (105, 0), (107, 0), (111, 0), (112, 0), (113, 0), (128, 0), (129, 0)] h3 h7 → 0 ≤ y6 → y6 ≤ 8 → 8 - y6 < (n : Int) → G yX12_worksOne cX12_worksOne 5 (none) none Po (6, 360, 0, 0) 84 [some (pR 98), none, some (pI y6), none, none] [] SH h7 0 0 := by
          intro n
          induction n with
          | zero =>
            intro y6 h7 hMh7 hFh7 by6 dy6 hn
            exfalso; omega
          | succ n ih84 =>
            intro y6 h7 hMh7 hFh7 by6 dy6 hn
            refine g_iload_n dX12_worksOne_84 rfl (fun _ => ?_)
            refine g_aload_n dX12_worksOne_85 rfl ?_
            refine gE_X12_179 rfl dX12_worksOne_86 sh_98 ((hFh7 98 3 rfl).trans ev4.symm) ?_
            refine g_icmp_ge 174 dX12_worksOne_89 (by decide) (fun q8 => ?_) (fun q8 => ?_)
            · skip
              exact g_return dX12_worksOne_174 rfl (hPo _ ⟨hMh7, (Fr.tr (Fr.tr (Fr.sub hFh1 rfl) hFh3 rfl) hFh7 rfl)⟩)
            · skip
              refine g_aload_n dX12_worksOne_92 rfl ?_
              refine gR_X12_27 rfl dX12_worksOne_93 sh_98 (b := 103) (m_98_11 hMh7) ?_
              refine g_iload_n dX12_worksOne_96 rfl (fun _ => ?_)
              refine g_ialdB dX12_worksOne_97 sh_103 (by omega) (by omega) (m_103 hMh7 _) (fun v9 ev9 bv9 cv9 => ?_)
              refine g_bipush dX12_worksOne_98 (inR_c rfl) (by decide) ?_
              refine g_icmp_ne 106 dX12_worksOne_100 (by decide) (fun q10 => ?_) (fun q10 => ?_)
              · skip
                refine g_aload_n dX12_worksOne_106 rfl ?_
                refine g_bipush dX12_worksOne_107 (inR_c rfl) (by decide) ?_
                refine g_iload_n dX12_worksOne_109 rfl (fun _ => ?_)
                refine g_iconst dX12_worksOne_110 (inR_c rfl) ?_
                refine g_bipush dX12_worksOne_111 (inR_c rfl) (by decide) ?_
                have q11 : h7 103 (y6).toNat = v9 := ev9.symm
                refine g_cV (as := [_, _, _, _]) (c_X12_tells_98 _ _ _ _ h7 hMh7 (by omega) (by omega) (by omega) (by omega) (by omega) (by omega) (by omega) (by omega) (by omega) (by omega) (WFL.fr (T := [(98, 8), (98, 47), (98, 48), (98, 49), (98, 52), (101, 0), (105, 0), (107, 0), (111, 0), (112, 0), (113, 0), (128, 0), (129, 0)]) f_WFL (Fr.tr (Fr.tr (Fr.sub hFh1 rfl) hFh3 rfl) hFh7 rfl) rfl)) dX12_worksOne_113 mi_X12_tells in_X12_tells se_X12_tells ml_X12_375 rfl rfl rfl sh_98 rfl rfl (Nat.le_of_ble_eq_true rfl) (fun v12 h13 q14 => ?_)
                obtain ⟨hMh13, hFh13, bv12, cv12⟩ := q14
                refine g_aload_n dX12_worksOne_116 rfl ?_
                refine gR_X12_36 rfl dX12_worksOne_117 sh_98 (b := 106) (m_98_14 hMh13) ?_
                refine g_iload_n dX12_worksOne_120 rfl (fun _ => ?_)
                refine g_zaldB dX12_worksOne_121 sh_106 (by omega) (by omega) (m_106 hMh13 _) (fun v15 ev15 bv15 cv15 => ?_)
                refine g_if_eq 129 dX12_worksOne_122 (by decide) (fun q16 => ?_) (fun q16 => ?_)
                · skip
                  refine g_iconst dX12_worksOne_129 (inR_c rfl) ?_
                  refine g_isubB dX12_worksOne_130 (by omega) (by omega) ?_
                  refine g_istore_n dX12_worksOne_131 (by decide) rfl ?_
                  refine g_iload_n dX12_worksOne_132 rfl (fun _ => ?_)
                  refine g_aload_n dX12_worksOne_133 rfl ?_
                  refine gR_X12_21 rfl dX12_worksOne_134 sh_98 (b := 101) (m_98_9 hMh13) ?_
                  refine g_aload_n dX12_worksOne_137 rfl ?_
                  refine gR_X12_27 rfl dX12_worksOne_138 sh_98 (b := 103) (m_98_11 hMh13) ?_
                  refine g_iload_n dX12_worksOne_141 rfl (fun _ => ?_)
                  refine g_ialdE dX12_worksOne_142 sh_103 (by omega) (by omega) ((hFh13 103 _ rfl).trans ev9.symm) ?_
                  refine g_ialdB dX12_worksOne_143 sh_101 (by omega) (by omega) (m_101 hMh13 _) (fun v17 ev17 bv17 cv17 => ?_)
                  refine g_cSP (av := [_, _]) (c_X12_less _ _ h13 hMh13 (by omega) (by omega) (by omega) (by omega)) dX12_worksOne_144 mi_X12_less st_X12_less ml_X12_379 rfl rfl rfl rfl (Nat.le_of_ble_eq_true rfl) (fun v18 q19 => ?_)
                  obtain ⟨bv18, cv18, zv18⟩ := q19
                  refine g_istore_n dX12_worksOne_147 (by decide) rfl ?_
                  refine g_iconst dX12_worksOne_148 (inR_c rfl) ?_
                  have c151 : ∀ (n : Nat) (y20 : Int) (h21 : MEM), MBm h21 → Fr [(98, 8), (98, 47), (98, 48), (98, 52), (101, 0), (105, 0), (107, 0), (111, 0), (112, 0), (113, 0), (128, 0), (129, 0)] h13 h21 → 0 ≤ y20 → y20 ≤ 2147483647 → y20 ≤ v18 ∨ y20 = 0 → v18 - y20 + 2147483649 < (n : Int) → G yX12_worksOne cX12_worksOne 5 (none) none Po (6, 360, 0, 0) 151 [some (pR 98), none, some (pI y6), some (pI v18), some (pI y20)] [] SH h21 0 0 := by
                    intro n
                    induction n with
                    | zero =>
                      intro y20 h21 hMh21 hFh21 by20 dy20 e151_0 hn
                      exfalso; omega
                    | succ n ih151 =>
                      intro y20 h21 hMh21 hFh21 by20 dy20 e151_0 hn
                      refine g_iload dX12_worksOne_151 rfl (fun _ => ?_)
                      refine g_iload_n dX12_worksOne_153 rfl (fun _ => ?_)
                      refine g_icmp_ge 168 dX12_worksOne_154 (by decide) (fun q22 => ?_) (fun q22 => ?_)
                      · skip
                        refine g_iincB dX12_worksOne_168 rfl rfl (by omega) (by omega) ?_
                        refine g_goto 84 dX12_worksOne_171 (by decide) ?_
                        refine g_drop 3 ?_
                        refine g_drop 4 ?_
                        exact ih84 _ _ hMh21 (Fr.tr (Fr.tr (Fr.sub hFh7 rfl) hFh13 rfl) hFh21 rfl) (by omega) (by omega) (by omega)
                      · skip
                        refine g_aload_n dX12_worksOne_157 rfl ?_
                        refine g_iload_n dX12_worksOne_158 rfl (fun _ => ?_)
                        have q23 : h21 103 (y6).toNat = v9 := ((hFh21 103 _ rfl).trans ((hFh13 103 _ rfl).trans ev9.symm))
                        refine g_cVV (as := [_]) (c_X12_falls_98 _ h21 hMh21 (by omega) (by omega) (by omega) (by omega) (WFL.fr (T := [(98, 8), (98, 47), (98, 48), (98, 49), (98, 52), (101, 0), (105, 0), (107, 0), (111, 0), (112, 0), (113, 0), (128, 0), (129, 0)]) f_WFL (Fr.tr (Fr.tr (Fr.tr (Fr.tr (Fr.sub hFh1 rfl) hFh3 rfl) hFh7 rfl) hFh13 rfl) hFh21 rfl) rfl)) dX12_worksOne_159 mi_X12_falls in_X12_falls se_X12_falls ml_X12_383 rfl rfl rfl sh_98 rfl rfl (Nat.le_of_ble_eq_true rfl) (fun h24 q25 => ?_)
                        obtain ⟨hMh24, hFh24⟩ := q25
                        refine g_iincB dX12_worksOne_162 rfl rfl (by omega) (by omega) ?_
                        refine g_goto 151 dX12_worksOne_165 (by decide) ?_
                        exact ih151 _ _ hMh24 (Fr.tr (Fr.sub hFh21 rfl) hFh24 rfl) (by omega) (by omega) (by omega) (by omega)
                  refine g_istore dX12_worksOne_149 (by decide) rfl ?_
                  exact c151 4294967297 _ _ hMh13 Fr.rf (by omega) (by omega) (by omega) (by omega)
                · skip
                  refine g_iconst dX12_worksOne_125 (inR_c rfl) ?_
                  refine g_goto 130 dX12_worksOne_126 (by decide) ?_
                  refine g_isubB dX12_worksOne_130 (by omega) (by omega) ?_
                  refine g_istore_n dX12_worksOne_131 (by decide) rfl ?_
                  refine g_iload_n dX12_worksOne_132 rfl (fun _ => ?_)
                  refine g_aload_n dX12_worksOne_133 rfl ?_
                  refine gR_X12_21 rfl dX12_worksOne_134 sh_98 (b := 101) (m_98_9 hMh13) ?_
                  refine g_aload_n dX12_worksOne_137 rfl ?_
                  refine gR_X12_27 rfl dX12_worksOne_138 sh_98 (b := 103) (m_98_11 hMh13) ?_
                  refine g_iload_n dX12_worksOne_141 rfl (fun _ => ?_)
                  refine g_ialdE dX12_worksOne_142 sh_103 (by omega) (by omega) ((hFh13 103 _ rfl).trans ev9.symm) ?_
                  refine g_ialdB dX12_worksOne_143 sh_101 (by omega) (by omega) (m_101 hMh13 _) (fun v26 ev26 bv26 cv26 => ?_)
                  refine g_cSP (av := [_, _]) (c_X12_less _ _ h13 hMh13 (by omega) (by omega) (by omega) (by omega)) dX12_worksOne_144 mi_X12_less st_X12_less ml_X12_379 rfl rfl rfl rfl (Nat.le_of_ble_eq_true rfl) (fun v27 q28 => ?_)
                  obtain ⟨bv27, cv27, zv27⟩ := q28
                  refine g_istore_n dX12_worksOne_147 (by decide) rfl ?_
                  refine g_iconst dX12_worksOne_148 (inR_c rfl) ?_
                  have c151 : ∀ (n : Nat) (y29 : Int) (h30 : MEM), MBm h30 → Fr [(98, 8), (98, 47), (98, 48), (98, 52), (101, 0), (105, 0), (107, 0), (111, 0), (112, 0), (113, 0), (128, 0), (129, 0)] h13 h30 → 0 ≤ y29 → y29 ≤ 2147483647 → y29 ≤ v27 ∨ y29 = 0 → v27 - y29 + 2147483649 < (n : Int) → G yX12_worksOne cX12_worksOne 5 (none) none Po (6, 360, 0, 0) 151 [some (pR 98), none, some (pI y6), some (pI v27), some (pI y29)] [] SH h30 0 0 := by
                    intro n
                    induction n with
                    | zero =>
                      intro y29 h30 hMh30 hFh30 by29 dy29 e151_0 hn
                      exfalso; omega
                    | succ n ih151 =>
                      intro y29 h30 hMh30 hFh30 by29 dy29 e151_0 hn
                      refine g_iload dX12_worksOne_151 rfl (fun _ => ?_)
                      refine g_iload_n dX12_worksOne_153 rfl (fun _ => ?_)
                      refine g_icmp_ge 168 dX12_worksOne_154 (by decide) (fun q31 => ?_) (fun q31 => ?_)
                      · skip
                        refine g_iincB dX12_worksOne_168 rfl rfl (by omega) (by omega) ?_
                        refine g_goto 84 dX12_worksOne_171 (by decide) ?_
                        refine g_drop 3 ?_
                        refine g_drop 4 ?_
                        exact ih84 _ _ hMh30 (Fr.tr (Fr.tr (Fr.sub hFh7 rfl) hFh13 rfl) hFh30 rfl) (by omega) (by omega) (by omega)
                      · skip
                        refine g_aload_n dX12_worksOne_157 rfl ?_
                        refine g_iload_n dX12_worksOne_158 rfl (fun _ => ?_)
                        have q32 : h30 103 (y6).toNat = v9 := ((hFh30 103 _ rfl).trans ((hFh13 103 _ rfl).trans ev9.symm))
                        refine g_cVV (as := [_]) (c_X12_falls_98 _ h30 hMh30 (by omega) (by omega) (by omega) (by omega) (WFL.fr (T := [(98, 8), (98, 47), (98, 48), (98, 49), (98, 52), (101, 0), (105, 0), (107, 0), (111, 0), (112, 0), (113, 0), (128, 0), (129, 0)]) f_WFL (Fr.tr (Fr.tr (Fr.tr (Fr.tr (Fr.sub hFh1 rfl) hFh3 rfl) hFh7 rfl) hFh13 rfl) hFh30 rfl) rfl)) dX12_worksOne_159 mi_X12_falls in_X12_falls se_X12_falls ml_X12_383 rfl rfl rfl sh_98 rfl rfl (Nat.le_of_ble_eq_true rfl) (fun h33 q34 => ?_)
                        obtain ⟨hMh33, hFh33⟩ := q34
                        refine g_iincB dX12_worksOne_162 rfl rfl (by omega) (by omega) ?_
                        refine g_goto 151 dX12_worksOne_165 (by decide) ?_
                        exact ih151 _ _ hMh33 (Fr.tr (Fr.sub hFh30 rfl) hFh33 rfl) (by omega) (by omega) (by omega) (by omega)
                  refine g_istore dX12_worksOne_149 (by decide) rfl ?_
                  exact c151 4294967297 _ _ hMh13 Fr.rf (by omega) (by omega) (by omega) (by omega)
              · skip
                refine g_goto 168 dX12_worksOne_103 (by decide) ?_
                refine g_iincB dX12_worksOne_168 rfl rfl (by omega) (by omega) ?_
                refine g_goto 84 dX12_worksOne_171 (by decide) ?_
                exact ih84 _ _ hMh7 (Fr.sub hFh7 rfl) (by omega) (by omega) (by omega)
        refine g_istore_n dX12_worksOne_83 (by decide) rfl ?_
        exact c84 9 _ _ hMh3 Fr.rf (by omega) (by omega) (by omega)
      · skip
        refine g_aload_n dX12_worksOne_15 rfl ?_
        refine gR_X12_27 rfl dX12_worksOne_16 sh_98 (b := 103) (m_98_11 hMh3) ?_
        refine g_iload_n dX12_worksOne_19 rfl (fun _ => ?_)
        refine g_ialdB dX12_worksOne_20 sh_103 (by omega) (by omega) (m_103 hMh3 _) (fun v35 ev35 bv35 cv35 => ?_)
        refine g_bipush dX12_worksOne_21 (inR_c rfl) (by decide) ?_
        refine g_icmp_eq 76 dX12_worksOne_23 (by decide) (fun q36 => ?_) (fun q36 => ?_)
        · skip
          refine g_iincB dX12_worksOne_76 rfl rfl (by omega) (by omega) ?_
          refine g_goto 7 dX12_worksOne_79 (by decide) ?_
          exact ih7 _ _ hMh3 (Fr.sub hFh3 rfl) (by omega) (by omega) (by omega)
        · skip
          refine g_aload_n dX12_worksOne_26 rfl ?_
          refine gR_X12_21 rfl dX12_worksOne_27 sh_98 (b := 101) (m_98_9 hMh3) ?_
          refine g_aload_n dX12_worksOne_30 rfl ?_
          refine gR_X12_27 rfl dX12_worksOne_31 sh_98 (b := 103) (m_98_11 hMh3) ?_
          refine g_iload_n dX12_worksOne_34 rfl (fun _ => ?_)
          refine g_ialdE dX12_worksOne_35 sh_103 (by omega) (by omega) ev35.symm ?_
          refine g_dup2 dX12_worksOne_36 rfl rfl ?_
          refine g_ialdB dX12_worksOne_37 sh_101 (by omega) (by omega) (m_101 hMh3 _) (fun v37 ev37 bv37 cv37 => ?_)
          refine g_aload_n dX12_worksOne_38 rfl ?_
          refine gR_X12_17 rfl dX12_worksOne_39 sh_98 (b := 100) (m_98_8 hMh3) ?_
          refine g_aload_n dX12_worksOne_42 rfl ?_
          refine gR_X12_27 rfl dX12_worksOne_43 sh_98 (b := 103) (m_98_11 hMh3) ?_
          refine g_iload_n dX12_worksOne_46 rfl (fun _ => ?_)
          refine g_ialdE dX12_worksOne_47 sh_103 (by omega) (by omega) ev35.symm ?_
          refine g_ialdB dX12_worksOne_48 sh_100 (by omega) (by omega) (m_100 hMh3 _) (fun v38 ev38 bv38 cv38 => ?_)
          refine g_aload_n dX12_worksOne_49 rfl ?_
          refine gR_X12_21 rfl dX12_worksOne_50 sh_98 (b := 101) (m_98_9 hMh3) ?_
          refine g_aload_n dX12_worksOne_53 rfl ?_
          refine gR_X12_27 rfl dX12_worksOne_54 sh_98 (b := 103) (m_98_11 hMh3) ?_
          refine g_iload_n dX12_worksOne_57 rfl (fun _ => ?_)
          refine g_ialdE dX12_worksOne_58 sh_103 (by omega) (by omega) ev35.symm ?_
          refine g_ialdE dX12_worksOne_59 sh_101 (by omega) (by omega) ev37.symm ?_
          refine g_isubF dX12_worksOne_60 (fun v39 bv39 cv39 => ?_)
          refine g_aload_n dX12_worksOne_61 rfl ?_
          refine g_bipush dX12_worksOne_62 (inR_c rfl) (by decide) ?_
          refine g_iload_n dX12_worksOne_64 rfl (fun _ => ?_)
          refine g_iconst dX12_worksOne_65 (inR_c rfl) ?_
          refine g_bipush dX12_worksOne_66 (inR_c rfl) (by decide) ?_
          have q40 : h3 103 (y2).toNat = v35 := ev35.symm
          refine g_cV (as := [_, _, _, _]) (c_X12_tells_98 _ _ _ _ h3 hMh3 (by omega) (by omega) (by omega) (by omega) (by omega) (by omega) (by omega) (by omega) (by omega) (by omega) (WFL.fr (T := [(98, 47), (98, 48), (98, 49), (101, 0), (128, 0), (129, 0)]) f_WFL (Fr.tr (Fr.sub hFh1 rfl) hFh3 rfl) rfl)) dX12_worksOne_68 mi_X12_tells in_X12_tells se_X12_tells ml_X12_375 rfl rfl rfl sh_98 rfl rfl (Nat.le_of_ble_eq_true rfl) (fun v41 h42 q43 => ?_)
          obtain ⟨hMh42, hFh42, bv41, cv41⟩ := q43
          refine g_cSP (av := [_, _]) (c_X12_less _ _ h42 hMh42 (by omega) (by omega) (by omega) (by omega)) dX12_worksOne_71 mi_X12_less st_X12_less ml_X12_379 rfl rfl rfl rfl (Nat.le_of_ble_eq_true rfl) (fun v44 q45 => ?_)
          obtain ⟨bv44, cv44, zv44⟩ := q45
          refine g_iaddF dX12_worksOne_74 (fun v46 bv46 cv46 => ?_)
          refine g_iastB dX12_worksOne_75 sh_101 (by omega) (by omega) (fun h47 eh47 => ?_)
          have hFh47 := Fr.ar eh47
          have hMh47 := u_101 hMh42 eh47 (by omega) (by omega)
          refine g_iincB dX12_worksOne_76 rfl rfl (by omega) (by omega) ?_
          refine g_goto 7 dX12_worksOne_79 (by decide) ?_
          exact ih7 _ _ hMh47 (Fr.tr (Fr.tr (Fr.sub hFh3 rfl) hFh42 rfl) hFh47 rfl) (by omega) (by omega) (by omega)
  refine g_istore_n dX12_worksOne_6 (by decide) rfl ?_
  refine g_drop 1 ?_
  exact c7 9 _ _ hMh1 Fr.rf (by omega) (by omega) (by omega)
