theorem INV_0 : INV 0 (hOf INI) := by
  refine ⟨⟨fun a j _ => MB_0 a j, fun a j _ => MB_0 a j, Or.inl ⟨rfl, rfl⟩, fun k h0 h1 => absurd h1 (by rw [show hOf INI 98 23 = 0 from rfl]; omega)⟩, ?_, fun _ => 0, fun _ => 0, fun _ _ => rfl, fun _ _ => rfl, fun _ _ => rfl, fun _ _ => rfl⟩
  rw [show hOf INI 2 0 = 0 from rfl, show hOf INI 6 0 = 0 from rfl, show hOf INI 12 0 = 0 from rfl, show hOf INI 42 0 = 0 from rfl, show hOf INI 46 0 = 0 from rfl, show hOf INI 52 0 = 0 from rfl, show hOf INI 0 12 = 0 from rfl, show hOf INI 98 2 = 0 from rfl, show hOf INI 98 3 = 0 from rfl, show hOf INI 98 4 = 0 from rfl, show hOf INI 98 5 = 0 from rfl, show hOf INI 145 6 = 0 from rfl, show hOf INI 145 7 = 0 from rfl, show hOf INI 145 8 = 0 from rfl, show hOf INI 145 9 = 0 from rfl, show hOf INI 98 79 = 0 from rfl]
  omega
theorem law_loop (xs : List Int) (hN : xs.length ≤ 3072) (Po : Option PV → List SE → MEM → Prop) (hPo : ∀ h', Po (some (pI 1)) SH h') : ∀ (n : Nat) (i : Int) (h : MEM), INV i h → 3078 - i < (n : Int) → G x cL_law 4 (some .boolean) (some xs) Po (2048, 84000, 600000, 7302250) 18 [some pX, some (pR 0), some (pR 98), some (pI i)] [] SH h 151 10868 := by
  intro n
  induction n with
  | zero =>
    intro i h I hn
    have := I.2.1
    exfalso; omega
  | succ n ih =>
    intro i h I hn
    have b0 : 0 ≤ i ∧ i ≤ 3072 := ⟨I.2.1.1, I.2.1.2.1⟩
    refine g_iload_n dL_law_18 rfl (fun _ => ?_)
    refine g_aloadX_n dL_law_19 rfl ?_
    refine g_slenB dL_law_20 (fun v ev bv cv => ?_)
    refine g_bipush dL_law_21 (inR_c rfl) (by decide) ?_
    refine g_isubB dL_law_23 (by omega) (by omega) ?_
    refine g_icmp_gt 1222 dL_law_24 (by decide) (fun q => ?_) (fun q => ?_)
    · refine g_iconst dL_law_1222 (inR_c rfl) ?_
      exact g_ireturn dL_law_1223 (retZ (by omega)) (hPo _)
    · have hi : i + 6 ≤ xs.length := by omega
      have kk : ∀ h' : MEM, INV (i + 6) h' → G x cL_law 4 (some .boolean) (some xs) Po (2048, 84000, 600000, 7302250) 1216 [some pX, some (pR 0), some (pR 98), some (pI i)] [] SH h' 151 10868 := by
        intro h' I'
        refine g_iincB dL_law_1216 rfl rfl (by omega) (by omega) ?_
        refine g_goto 18 dL_law_1219 (by decide) ?_
        exact ih (i + 6) h' I' (by omega)
      have kd : G x cL_law 4 (some .boolean) (some xs) Po (2048, 84000, 600000, 7302250) 1216 [some pX, some (pR 0), some (pR 98), some (pI i)] [] SH h 151 10868 := by
        refine kk h ⟨I.1, ?_, I.2.2⟩
        have := I.2.1
        omega
      refine g_aloadX_n dL_law_27 rfl ?_
      refine g_iload_n dL_law_28 rfl (fun _ => ?_)
      refine g_sldB dL_law_29 (by omega) (by omega) (fun w ew bw cw => ?_)
      refine g_bipush dL_law_30 (inR_c rfl) (by decide) ?_
      refine g_iandX (lo := 0) (hi := 31) dL_law_32 (iand_r (by omega) (by omega)) (fun u eu bu cu => ?_)
      rcases (show u = 0 ∨ u = 1 ∨ u = 2 ∨ u = 3 ∨ u = 4 ∨ u = 5 ∨ u = 6 ∨ u = 7 ∨ u = 8 ∨ u = 9 ∨ u = 10 ∨ u = 11 ∨ u = 12 ∨ u = 13 ∨ u = 14 ∨ u = 15 ∨ u = 16 ∨ u = 17 ∨ u = 18 ∨ u = 19 ∨ u = 20 ∨ u = 21 ∨ u = 22 ∨ u = 23 ∨ u = 24 ∨ u = 25 ∨ u = 26 ∨ u = 27 ∨ u = 28 ∨ u = 29 ∨ (u < 0 ∨ 29 < u) by omega) with q2 | q2 | q2 | q2 | q2 | q2 | q2 | q2 | q2 | q2 | q2 | q2 | q2 | q2 | q2 | q2 | q2 | q2 | q2 | q2 | q2 | q2 | q2 | q2 | q2 | q2 | q2 | q2 | q2 | q2 | q2
      · refine g_tableIn 168 0 dL_law_33 (by omega) (by omega) rfl (by decide) ?_
        exact law_case_0 xs Po i h I hi hN kk
      · refine g_tableIn 211 1 dL_law_33 (by omega) (by omega) rfl (by decide) ?_
        exact law_case_1 xs Po i h I hi hN kk
      · refine g_tableIn 234 2 dL_law_33 (by omega) (by omega) rfl (by decide) ?_
        exact law_case_2 xs Po i h I hi hN kk
      · refine g_tableIn 283 3 dL_law_33 (by omega) (by omega) rfl (by decide) ?_
        exact law_case_3 xs Po i h I hi hN kk
      · refine g_tableIn 316 4 dL_law_33 (by omega) (by omega) rfl (by decide) ?_
        exact law_case_4 xs Po i h I hi hN kk
      · refine g_tableIn 349 5 dL_law_33 (by omega) (by omega) rfl (by decide) ?_
        exact law_case_5 xs Po i h I hi hN kk
      · refine g_tableIn 408 6 dL_law_33 (by omega) (by omega) rfl (by decide) ?_
        exact law_case_6 xs Po i h I hi hN kk
      · refine g_tableIn 457 7 dL_law_33 (by omega) (by omega) rfl (by decide) ?_
        exact law_case_7 xs Po i h I hi hN kk
      · refine g_tableIn 520 8 dL_law_33 (by omega) (by omega) rfl (by decide) ?_
        exact law_case_8 xs Po i h I hi hN kk
      · refine g_tableIn 543 9 dL_law_33 (by omega) (by omega) rfl (by decide) ?_
        exact law_case_9 xs Po i h I hi hN kk
      · refine g_tableIn 566 10 dL_law_33 (by omega) (by omega) rfl (by decide) ?_
        exact law_case_10 xs Po i h I hi hN kk
      · refine g_tableIn 589 11 dL_law_33 (by omega) (by omega) rfl (by decide) ?_
        exact law_case_11 xs Po i h I hi hN kk
      · refine g_tableIn 622 12 dL_law_33 (by omega) (by omega) rfl (by decide) ?_
        exact law_case_12 xs Po i h I hi hN kk
      · refine g_tableIn 655 13 dL_law_33 (by omega) (by omega) rfl (by decide) ?_
        exact law_case_13 xs Po i h I hi hN kk
      · refine g_tableIn 688 14 dL_law_33 (by omega) (by omega) rfl (by decide) ?_
        exact law_case_14 xs Po i h I hi hN kk
      · refine g_tableIn 721 15 dL_law_33 (by omega) (by omega) rfl (by decide) ?_
        exact law_case_15 xs Po i h I hi hN kk
      · refine g_tableIn 774 16 dL_law_33 (by omega) (by omega) rfl (by decide) ?_
        exact law_case_16 xs Po i h I hi hN kk
      · refine g_tableIn 817 17 dL_law_33 (by omega) (by omega) rfl (by decide) ?_
        exact law_case_17 xs Po i h I hi hN kk
      · refine g_tableIn 860 18 dL_law_33 (by omega) (by omega) rfl (by decide) ?_
        exact law_case_18 xs Po i h I hi hN kk
      · refine g_tableIn 893 19 dL_law_33 (by omega) (by omega) rfl (by decide) ?_
        exact law_case_19 xs Po i h I hi hN kk
      · refine g_tableIn 936 20 dL_law_33 (by omega) (by omega) rfl (by decide) ?_
        exact law_case_20 xs Po i h I hi hN kk
      · refine g_tableIn 959 21 dL_law_33 (by omega) (by omega) rfl (by decide) ?_
        exact law_case_21 xs Po i h I hi hN kk
      · refine g_tableIn 1002 22 dL_law_33 (by omega) (by omega) rfl (by decide) ?_
        exact law_case_22 xs Po i h I hi hN kk
      · refine g_tableIn 1025 23 dL_law_33 (by omega) (by omega) rfl (by decide) ?_
        exact law_case_23 xs Po i h I hi hN kk
      · refine g_tableIn 1068 24 dL_law_33 (by omega) (by omega) rfl (by decide) ?_
        exact law_case_24 xs Po i h I hi hN kk
      · refine g_tableIn 1121 25 dL_law_33 (by omega) (by omega) rfl (by decide) ?_
        exact law_case_25 xs Po i h I hi hN kk
      · refine g_tableIn 1144 26 dL_law_33 (by omega) (by omega) rfl (by decide) ?_
        exact law_case_26 xs Po i h I hi hN kk
      · refine g_tableIn 1157 27 dL_law_33 (by omega) (by omega) rfl (by decide) ?_
        exact law_case_27 xs Po i h I hi hN kk
      · refine g_tableIn 1170 28 dL_law_33 (by omega) (by omega) rfl (by decide) ?_
        exact law_case_28 xs Po i h I hi hN kk
      · refine g_tableIn 1193 29 dL_law_33 (by omega) (by omega) rfl (by decide) ?_
        exact law_case_29 xs Po i h I hi hN kk
      · refine g_tableOut 1216 dL_law_33 (by omega) (by decide) ?_
        exact kd
set_option maxRecDepth 100000 in
set_option maxHeartbeats 4000000 in
theorem law_body (xs : List Int) (hN : xs.length ≤ 3072) (Po : Option PV → List SE → MEM → Prop) (hPo : ∀ h', Po (some (pI 1)) SH h') (h : MEM) (eh : h = hOf []) : G x cL_law 4 (some .boolean) (some xs) Po (2048, 84000, 600000, 7302250) 0 [some pX, none, none, none] [] [] h 0 0 := by
  subst eh
  show G x cL_law 4 (some .boolean) (some xs) Po (2048, 84000, 600000, 7302250) 0 [some pX, none, none, none] [] (SH.take 0) (hOf J0) 0 0
  refine g_newJ (n := 0) (n' := 1) (rs := rsX11) (l' := J1) dL_law_0 (ci := 11) rfl wsT11 tyX11 tyX11_ok kcl_L_7 kins_11 kini_11 rfl kdf_11 (Nat.le_of_ble_eq_true rfl) (Nat.le_of_ble_eq_true rfl) (by decide +kernel) (by decide +kernel) jl_0 rfl ?_
  refine g_dup dL_law_3 rfl ?_
  refine g_ck k_X11_init_0 dL_law_4 kmi_X11_init kin_X11_init rfl kml_L_9 rfl (by decide) ?_
  refine g_astore_n dL_law_7 (by decide) rfl ?_
  refine g_newJ (n := 98) (n' := 99) (rs := rsX12) (l' := J231) dL_law_8 (ci := 12) rfl wsT12 tyX12 tyX12_ok kcl_L_10 kins_12 kini_12 rfl kdf_12 (Nat.le_of_ble_eq_true rfl) (Nat.le_of_ble_eq_true rfl) (by decide +kernel) (by decide +kernel) jl_230 rfl ?_
  refine g_dup dL_law_11 rfl ?_
  refine g_ck k_X12_init_98 dL_law_12 kmi_X12_init kin_X12_init rfl kml_L_12 rfl (by decide) ?_
  refine g_astore_n dL_law_15 (by decide) rfl ?_
  rw [J_end, SH_end]
  refine g_iconst dL_law_16 (inR_c rfl) ?_
  refine g_istore_n dL_law_17 (by decide) rfl ?_
  exact law_loop xs hN Po hPo 3079 0 _ INV_0 (by omega)

