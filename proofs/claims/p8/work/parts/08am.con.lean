set_option maxRecDepth 100000 in
set_option maxHeartbeats 4000000 in
theorem c_X9_hoursWithoutSnow_1 (x1 : Int) (h : MEM) (hM : MBx h) (bx1 : 1 ≤ x1) (dx1 : x1 ≤ 8) : CP yX9_hoursWithoutSnow cX9_hoursWithoutSnow 5 (some .int) 1 [pR 1, pI x1] h (fun x => 0 ≤ x ∧ x ≤ 255) := by
  refine CP.of (L0 := [some (pR 1), some (pI x1), none, none, none]) rfl (Nat.le_of_ble_eq_true rfl) rfl (fun Po hPo hav => ?_)
  refine g_iconst dX9_hoursWithoutSnow_0 (inR_c rfl) ?_
  refine g_istore_n dX9_hoursWithoutSnow_1 (by decide) rfl ?_
  refine g_iconst dX9_hoursWithoutSnow_2 (inR_c rfl) ?_
  have c4 : ∀ (n : Nat) (y1 y2 : Int) , 0 ≤ y1 → y1 ≤ 255 → 0 ≤ y2 → y2 ≤ 8 → 8 - y2 < (n : Int) → G yX9_hoursWithoutSnow cX9_hoursWithoutSnow 5 (some .int) none Po (1, 60, 0, 0) 4 [some (pR 1), some (pI x1), some (pI y1), some (pI y2), none] [] SH h 0 0 := by
    intro n
    induction n with
    | zero =>
      intro y1 y2 by1 dy1 by2 dy2 hn
      exfalso; omega
    | succ n ih4 =>
      intro y1 y2 by1 dy1 by2 dy2 hn
      refine g_iload_n dX9_hoursWithoutSnow_4 rfl (fun _ => ?_)
      refine g_iload_n dX9_hoursWithoutSnow_5 rfl (fun _ => ?_)
      refine g_icmp_ge 51 dX9_hoursWithoutSnow_6 (by decide) (fun q3 => ?_) (fun q3 => ?_)
      · skip
        refine g_iload_n dX9_hoursWithoutSnow_51 rfl (fun _ => ?_)
        exact g_ireturn dX9_hoursWithoutSnow_52 retI (hPo _ ⟨(by omega), (by omega)⟩)
      · skip
        refine g_aload_n dX9_hoursWithoutSnow_9 rfl ?_
        refine gI_X9_42 rfl dX9_hoursWithoutSnow_10 sh_1 (m_1_6 hM) (fun v4 ev4 bv4 cv4 => ?_)
        refine g_iload_n dX9_hoursWithoutSnow_13 rfl (fun _ => ?_)
        refine g_iaddF dX9_hoursWithoutSnow_14 (fun v5 bv5 cv5 => ?_)
        refine g_istore dX9_hoursWithoutSnow_15 (by decide) rfl ?_
        refine g_iload dX9_hoursWithoutSnow_17 rfl (fun _ => ?_)
        refine g_if_lt 45 dX9_hoursWithoutSnow_19 (by decide) (fun q6 => ?_) (fun q6 => ?_)
        · skip
          refine g_iincB dX9_hoursWithoutSnow_45 rfl rfl (by omega) (by omega) ?_
          refine g_goto 4 dX9_hoursWithoutSnow_48 (by decide) ?_
          refine g_drop 4 ?_
          exact ih4 _ _ (by omega) (by omega) (by omega) (by omega) (by omega)
        · skip
          refine g_iload dX9_hoursWithoutSnow_22 rfl (fun _ => ?_)
          refine g_bipush dX9_hoursWithoutSnow_24 (inR_c rfl) (by decide) ?_
          refine g_icmp_ge 45 dX9_hoursWithoutSnow_26 (by decide) (fun q7 => ?_) (fun q7 => ?_)
          · skip
            refine g_iincB dX9_hoursWithoutSnow_45 rfl rfl (by omega) (by omega) ?_
            refine g_goto 4 dX9_hoursWithoutSnow_48 (by decide) ?_
            refine g_drop 4 ?_
            exact ih4 _ _ (by omega) (by omega) (by omega) (by omega) (by omega)
          · skip
            refine g_aload_n dX9_hoursWithoutSnow_29 rfl ?_
            refine gR_X9_39 rfl dX9_hoursWithoutSnow_30 sh_1 (b := 19) (m_1_5 hM) ?_
            refine g_iload dX9_hoursWithoutSnow_33 rfl (fun _ => ?_)
            refine g_ialdB dX9_hoursWithoutSnow_35 sh_19 (by omega) (by omega) (m_19 hM _) (fun v8 ev8 bv8 cv8 => ?_)
            refine g_if_ne 45 dX9_hoursWithoutSnow_36 (by decide) (fun q9 => ?_) (fun q9 => ?_)
            · skip
              refine g_iincB dX9_hoursWithoutSnow_45 rfl rfl (by omega) (by omega) ?_
              refine g_goto 4 dX9_hoursWithoutSnow_48 (by decide) ?_
              refine g_drop 4 ?_
              exact ih4 _ _ (by omega) (by omega) (by omega) (by omega) (by omega)
            · skip
              refine g_iload_n dX9_hoursWithoutSnow_39 rfl (fun _ => ?_)
              refine g_iconst dX9_hoursWithoutSnow_40 (inR_c rfl) ?_
              refine g_iload_n dX9_hoursWithoutSnow_41 rfl (fun _ => ?_)
              refine g_ishlX (lo := 1) (hi := 128) dX9_hoursWithoutSnow_42 (ishl1_b 7 (by decide) (by omega) (by omega)) (fun v10 ev10 bv10 cv10 => ?_)
              refine g_iorX (lo := 0) (hi := 255) dX9_hoursWithoutSnow_43 (ior_b 8 (by decide) (by omega) (by omega) (by omega) (by omega)) (fun v11 ev11 bv11 cv11 => ?_)
              refine g_istore_n dX9_hoursWithoutSnow_44 (by decide) rfl ?_
              refine g_iincB dX9_hoursWithoutSnow_45 rfl rfl (by omega) (by omega) ?_
              refine g_goto 4 dX9_hoursWithoutSnow_48 (by decide) ?_
              refine g_drop 4 ?_
              exact ih4 _ _ (by omega) (by omega) (by omega) (by omega) (by omega)
  refine g_istore_n dX9_hoursWithoutSnow_3 (by decide) rfl ?_
  exact c4 9 _ _ (by omega) (by omega) (by omega) (by omega) (by omega)
set_option maxRecDepth 100000 in
set_option maxHeartbeats 4000000 in
theorem c_X9_letSnow_21 (x1 x2 : Int) (h : MEM) (hM : MBx h) (bx1 : 0 ≤ x1) (dx1 : x1 ≤ 255) (bx2 : 1 ≤ x2) (dx2 : x2 ≤ 8) : CV yX9_letSnow cX9_letSnow 5 (none) 1 [pR 21, pI x1, pI x2] h (fun h' => MBx h' ∧ Fr [(39, 0)] h h') := by
  refine CV.of (L0 := [some (pR 21), some (pI x1), some (pI x2), none, none]) rfl (Nat.le_of_ble_eq_true rfl) rfl (fun Po hPo hav => ?_)
  refine g_iconst dX9_letSnow_0 (inR_c rfl) ?_
  have c2 : ∀ (n : Nat) (y1 : Int) (h2 : MEM), MBx h2 → Fr [(39, 0)] h h2 → 0 ≤ y1 → y1 ≤ 8 → 8 - y1 < (n : Int) → G yX9_letSnow cX9_letSnow 5 (none) none Po (1, 60, 0, 0) 2 [some (pR 21), some (pI x1), some (pI x2), some (pI y1), none] [] SH h2 0 0 := by
    intro n
    induction n with
    | zero =>
      intro y1 h2 hMh2 hFh2 by1 dy1 hn
      exfalso; omega
    | succ n ih2 =>
      intro y1 h2 hMh2 hFh2 by1 dy1 hn
      refine g_iload_n dX9_letSnow_2 rfl (fun _ => ?_)
      refine g_iload_n dX9_letSnow_3 rfl (fun _ => ?_)
      refine g_icmp_ge 50 dX9_letSnow_4 (by decide) (fun q3 => ?_) (fun q3 => ?_)
      · skip
        exact g_return dX9_letSnow_50 rfl (hPo _ ⟨hMh2, (Fr.sub hFh2 rfl)⟩)
      · skip
        refine g_aload_n dX9_letSnow_7 rfl ?_
        refine gI_X9_42 rfl dX9_letSnow_8 sh_21 (m_21_6 hMh2) (fun v4 ev4 bv4 cv4 => ?_)
        refine g_iload_n dX9_letSnow_11 rfl (fun _ => ?_)
        refine g_iaddF dX9_letSnow_12 (fun v5 bv5 cv5 => ?_)
        refine g_istore dX9_letSnow_13 (by decide) rfl ?_
        refine g_iload_n dX9_letSnow_15 rfl (fun _ => ?_)
        refine g_iload_n dX9_letSnow_16 rfl (fun _ => ?_)
        refine g_ishrF dX9_letSnow_17 (fun v6 ev6 bv6 cv6 => ?_)
        refine g_iconst dX9_letSnow_18 (inR_c rfl) ?_
        refine g_iandX (lo := 0) (hi := 1) dX9_letSnow_19 (iand_r (by omega) (by omega)) (fun v7 ev7 bv7 cv7 => ?_)
        refine g_iconst dX9_letSnow_20 (inR_c rfl) ?_
        refine g_icmp_ne 44 dX9_letSnow_21 (by decide) (fun q8 => ?_) (fun q8 => ?_)
        · skip
          refine g_iincB dX9_letSnow_44 rfl rfl (by omega) (by omega) ?_
          refine g_goto 2 dX9_letSnow_47 (by decide) ?_
          refine g_drop 4 ?_
          exact ih2 _ _ hMh2 (Fr.sub hFh2 rfl) (by omega) (by omega) (by omega)
        · skip
          refine g_iload dX9_letSnow_24 rfl (fun _ => ?_)
          refine g_if_lt 44 dX9_letSnow_26 (by decide) (fun q9 => ?_) (fun q9 => ?_)
          · skip
            refine g_iincB dX9_letSnow_44 rfl rfl (by omega) (by omega) ?_
            refine g_goto 2 dX9_letSnow_47 (by decide) ?_
            refine g_drop 4 ?_
            exact ih2 _ _ hMh2 (Fr.sub hFh2 rfl) (by omega) (by omega) (by omega)
          · skip
            refine g_iload dX9_letSnow_29 rfl (fun _ => ?_)
            refine g_bipush dX9_letSnow_31 (inR_c rfl) (by decide) ?_
            refine g_icmp_ge 44 dX9_letSnow_33 (by decide) (fun q10 => ?_) (fun q10 => ?_)
            · skip
              refine g_iincB dX9_letSnow_44 rfl rfl (by omega) (by omega) ?_
              refine g_goto 2 dX9_letSnow_47 (by decide) ?_
              refine g_drop 4 ?_
              exact ih2 _ _ hMh2 (Fr.sub hFh2 rfl) (by omega) (by omega) (by omega)
            · skip
              refine g_aload_n dX9_letSnow_36 rfl ?_
              refine gR_X9_39 rfl dX9_letSnow_37 sh_21 (b := 39) (m_21_5 hMh2) ?_
              refine g_iload dX9_letSnow_40 rfl (fun _ => ?_)
              refine g_iconst dX9_letSnow_42 (inR_c rfl) ?_
              refine g_iastB dX9_letSnow_43 sh_39 (by omega) (by omega) (fun h11 eh11 => ?_)
              have hFh11 := Fr.ar eh11
              have hMh11 := u_39 hMh2 eh11 (by omega) (by omega)
              refine g_iincB dX9_letSnow_44 rfl rfl (by omega) (by omega) ?_
              refine g_goto 2 dX9_letSnow_47 (by decide) ?_
              refine g_drop 4 ?_
              exact ih2 _ _ hMh11 (Fr.tr (Fr.sub hFh2 rfl) hFh11 rfl) (by omega) (by omega) (by omega)
  refine g_istore_n dX9_letSnow_1 (by decide) rfl ?_
  exact c2 9 _ _ hM Fr.rf (by omega) (by omega) (by omega)
set_option maxRecDepth 100000 in
set_option maxHeartbeats 4000000 in
theorem c_X11_free_0 (x1 x2 x3 : Int) (h : MEM) (hM : MBx h) (bx1 : -2147483648 ≤ x1) (dx1 : x1 ≤ 2147483647) (bx2 : -2147483648 ≤ x2) (dx2 : x2 ≤ 2147483647) (bx3 : -2147483648 ≤ x3) (dx3 : x3 ≤ 2147483647) (f_LD : LD h) : CI yX11_free cX11_free 11 (some .int) 7 [pR 0, pI x1, pI x2, pI x3] h (fun x h' => MBx h' ∧ Fr [(21, 7), (21, 8), (21, 9), (22, 1), (23, 0), (24, 0), (25, 0), (26, 1), (27, 0), (28, 0), (29, 0), (30, 0), (31, 0), (32, 1), (33, 0), (34, 0), (35, 0), (36, 0), (37, 0), (38, 0), (39, 0), (40, 0), (89, 0), (97, 0)] h h' ∧ -2147483648 ≤ x ∧ x ≤ 2147483647) := by
  refine CI.of (L0 := [some (pR 0), some (pI x1), some (pI x2), some (pI x3), none, none, none, none, none, none, none]) rfl (Nat.le_of_ble_eq_true rfl) rfl (fun Po hPo hav => ?_)
  rcases id f_LD with ⟨er0_10, er0_11⟩ | ⟨er0_10, er0_11⟩
  · skip
    refine g_iload_n dX11_free_0 rfl (fun _ => ?_)
    refine g_iconst dX11_free_1 (inR_c rfl) ?_
    refine g_bipush dX11_free_2 (inR_c rfl) (by decide) ?_
    refine g_cSP (av := [_, _, _]) (c_X11_isWithin _ _ _ h hM (by omega) (by omega) (by omega) (by omega) (by omega) (by omega)) dX11_free_4 mi_X11_isWithin st_X11_isWithin ml_X11_81 rfl rfl rfl rfl (Nat.le_of_ble_eq_true rfl) (fun v1 q2 => ?_)
    rcases q2 with ⟨rfl, q2⟩ | ⟨rfl, q2⟩
    · skip
      refine g_if_eq 29 dX11_free_7 (by decide) (fun _ => by exfalso; omega) (fun q3 => ?_)
      refine g_iload_n dX11_free_10 rfl (fun _ => ?_)
      refine g_iconst dX11_free_11 (inR_c rfl) ?_
      refine g_bipush dX11_free_12 (inR_c rfl) (by decide) ?_
      refine g_cSP (av := [_, _, _]) (c_X11_isWithin _ _ _ h hM (by omega) (by omega) (by omega) (by omega) (by omega) (by omega)) dX11_free_14 mi_X11_isWithin st_X11_isWithin ml_X11_81 rfl rfl rfl rfl (Nat.le_of_ble_eq_true rfl) (fun v4 q5 => ?_)
      rcases q5 with ⟨rfl, q5⟩ | ⟨rfl, q5⟩
      · skip
        refine g_if_eq 29 dX11_free_17 (by decide) (fun _ => by exfalso; omega) (fun q6 => ?_)
        refine g_iload_n dX11_free_20 rfl (fun _ => ?_)
        refine g_iconst dX11_free_21 (inR_c rfl) ?_
        refine g_iconst dX11_free_22 (inR_c rfl) ?_
        refine g_cSP (av := [_, _, _]) (c_X11_isWithin _ _ _ h hM (by omega) (by omega) (by omega) (by omega) (by omega) (by omega)) dX11_free_23 mi_X11_isWithin st_X11_isWithin ml_X11_81 rfl rfl rfl rfl (Nat.le_of_ble_eq_true rfl) (fun v7 q8 => ?_)
        rcases q8 with ⟨rfl, q8⟩ | ⟨rfl, q8⟩
        · skip
          refine g_if_ne 31 dX11_free_26 (by decide) (fun q9 => ?_) (fun _ => by exfalso; omega)
          refine g_aload_n dX11_free_31 rfl ?_
          refine gR_X11_10 rfl dX11_free_32 sh_0 (b := 1) (m_0_0 hM) ?_
          refine g_iload_n dX11_free_35 rfl (fun _ => ?_)
          refine g_cVP (as := [_]) (c_X9_hoursWithoutSnow_1 _ h hM (by omega) (by omega)) dX11_free_36 mi_X9_hoursWithoutSnow in_X9_hoursWithoutSnow se_X9_hoursWithoutSnow ml_X11_238 rfl rfl rfl sh_1 rfl rfl (Nat.le_of_ble_eq_true rfl) (fun v10 q11 => ?_)
          obtain ⟨bv10, cv10⟩ := q11
          refine g_istore dX11_free_39 (by decide) rfl ?_
          refine g_iload dX11_free_41 rfl (fun _ => ?_)
          refine g_bitc dX11_free_43 ml_X11_241 rfl (Nat.le_of_ble_eq_true rfl) (fun v12 ev12 bv12 cv12 => ?_)
          refine g_iload_n dX11_free_46 rfl (fun _ => ?_)
          refine g_icmp_ge 53 dX11_free_47 (by decide) (fun q13 => ?_) (fun q13 => ?_)
          · skip
            refine g_iconst dX11_free_53 (inR_c rfl) ?_
            refine g_istore dX11_free_54 (by decide) rfl ?_
            refine g_iconst dX11_free_56 (inR_c rfl) ?_
            refine g_istore dX11_free_57 (by decide) rfl ?_
            refine g_iconst dX11_free_59 (inR_c rfl) ?_
            refine g_istore dX11_free_60 (by decide) rfl ?_
            refine g_iconst dX11_free_62 (inR_c rfl) ?_
            have c65 : ∀ (n : Nat) (y14 y15 y16 y17 : Int) (h18 : MEM), MBx h18 → Fr [(21, 7), (21, 8), (21, 9), (22, 1), (23, 0), (24, 0), (25, 0), (26, 1), (27, 0), (28, 0), (29, 0), (30, 0), (31, 0), (32, 1), (33, 0), (34, 0), (35, 0), (36, 0), (37, 0), (38, 0), (39, 0), (40, 0), (89, 0), (97, 0)] h h18 → -1 ≤ y14 → y14 ≤ 255 → -2147483648 ≤ y15 → y15 ≤ 2147483647 → -2147483648 ≤ y16 → y16 ≤ 2147483647 → 0 ≤ y17 → y17 ≤ 256 → 256 - y17 < (n : Int) → G yX11_free cX11_free 11 (some .int) none Po (7, 420, 0, 0) 65 [some (pR 0), some (pI x1), some (pI x2), some (pI x3), some (pI v10), some (pI y14), some (pI y15), some (pI y16), some (pI y17), none, none] [] SH h18 0 0 := by
              intro n
              induction n with
              | zero =>
                intro y14 y15 y16 y17 h18 hMh18 hFh18 by14 dy14 by15 dy15 by16 dy16 by17 dy17 hn
                exfalso; omega
              | succ n ih65 =>
                intro y14 y15 y16 y17 h18 hMh18 hFh18 by14 dy14 by15 dy15 by16 dy16 by17 dy17 hn
                refine g_iload dX11_free_65 rfl (fun _ => ?_)
                refine g_iload dX11_free_67 rfl (fun _ => ?_)
                refine g_icmp_gt 194 dX11_free_69 (by decide) (fun q19 => ?_) (fun q19 => ?_)
                · skip
                  refine g_iload_n dX11_free_194 rfl (fun _ => ?_)
                  rcases (show x3 = 0 ∨ x3 = 1 ∨ (x3 ≠ 0 ∧ x3 ≠ 1) by omega) with q20 | q20 | q20
                  · skip
                    refine g_lookup 220 dX11_free_195 (by decide) (lsw_k (off := 25) q20 (by decide)) (by decide) ?_
                    refine g_iload dX11_free_220 rfl (fun _ => ?_)
                    exact g_ireturn dX11_free_222 retI (hPo _ _ ⟨hMh18, (Fr.sub hFh18 rfl), (by omega), (by omega)⟩)
                  · skip
                    refine g_lookup 223 dX11_free_195 (by decide) (lsw_k (off := 28) q20 (by decide)) (by decide) ?_
                    refine g_iload dX11_free_223 rfl (fun _ => ?_)
                    exact g_ireturn dX11_free_225 retI (hPo _ _ ⟨hMh18, (Fr.sub hFh18 rfl), (by omega), (by omega)⟩)
                  · skip
                    refine g_lookup 226 dX11_free_195 (by decide) (lsw_d (ps := [(0, 25), (1, 28)]) (by simp only [List.all_cons, List.all_nil, Bool.and_true, Bool.and_eq_true, bne_iff_ne, ne_eq]; omega)) (by decide) ?_
                    refine g_iload dX11_free_226 rfl (fun _ => ?_)
                    exact g_ireturn dX11_free_228 retI (hPo _ _ ⟨hMh18, (Fr.sub hFh18 rfl), (by omega), (by omega)⟩)
                · skip
                  refine g_iload dX11_free_72 rfl (fun _ => ?_)
                  refine g_iload dX11_free_74 rfl (fun _ => ?_)
                  refine g_iconst dX11_free_76 (inR_c rfl) ?_
                  refine g_ixorF dX11_free_77 (fun v21 ev21 bv21 cv21 => ?_)
                  refine g_iandX (lo := 0) (hi := y17) dX11_free_78 (iand_l (by omega) (by omega)) (fun v22 ev22 bv22 cv22 => ?_)
                  refine g_if_ne 188 dX11_free_79 (by decide) (fun q23 => ?_) (fun q23 => ?_)
                  · skip
                    refine g_iincB dX11_free_188 rfl rfl (by omega) (by omega) ?_
                    refine g_goto 65 dX11_free_191 (by decide) ?_
                    exact ih65 _ _ _ _ _ hMh18 (Fr.sub hFh18 rfl) (by omega) (by omega) (by omega) (by omega) (by omega) (by omega) (by omega) (by omega) (by omega)
                  · skip
                    refine g_iload dX11_free_82 rfl (fun _ => ?_)
                    refine g_bitc dX11_free_84 ml_X11_241 rfl (Nat.le_of_ble_eq_true rfl) (fun v24 ev24 bv24 cv24 => ?_)
                    refine g_iload_n dX11_free_87 rfl (fun _ => ?_)
                    refine g_icmp_ne 188 dX11_free_88 (by decide) (fun q25 => ?_) (fun q25 => ?_)
                    · skip
                      refine g_iincB dX11_free_188 rfl rfl (by omega) (by omega) ?_
                      refine g_goto 65 dX11_free_191 (by decide) ?_
                      exact ih65 _ _ _ _ _ hMh18 (Fr.sub hFh18 rfl) (by omega) (by omega) (by omega) (by omega) (by omega) (by omega) (by omega) (by omega) (by omega)
                    · skip
                      refine g_aload_n dX11_free_91 rfl ?_
                      refine gR_X11_16 rfl dX11_free_92 sh_0 (b := 21) (m_0_1 hMh18) ?_
                      refine g_aload_n dX11_free_95 rfl ?_
                      refine gR_X11_10 rfl dX11_free_96 sh_0 (b := 1) (m_0_0 hMh18) ?_
                      have q26 : h18 2 0 = h 2 0 := (hFh18 2 0 rfl)
                      obtain ⟨v27, ev27⟩ : ∃ z, z = h18 2 0 := ⟨_, rfl⟩
                      have bv27 : 0 ≤ v27 ∧ v27 ≤ 10 := by rw [ev27]; exact (m_2_0 hMh18)
                      have q28 : h18 6 0 = h 6 0 := (hFh18 6 0 rfl)
                      obtain ⟨v29, ev29⟩ : ∃ z, z = h18 6 0 := ⟨_, rfl⟩
                      have bv29 : 0 ≤ v29 ∧ v29 ≤ 8 := by rw [ev29]; exact (m_6_0 hMh18)
                      have q30 : h18 12 0 = h 12 0 := (hFh18 12 0 rfl)
                      obtain ⟨v31, ev31⟩ : ∃ z, z = h18 12 0 := ⟨_, rfl⟩
                      have bv31 : 0 ≤ v31 ∧ v31 ≤ 8 := by rw [ev31]; exact (m_12_0 hMh18)
                      refine g_cVV (as := [_]) (c_X9_copyFrom_21_1  h18 hMh18) dX11_free_99 mi_X9_copyFrom in_X9_copyFrom se_X9_copyFrom ml_X11_202 rfl rfl rfl sh_21 rfl rfl (Nat.le_of_ble_eq_true rfl) (fun h32 q33 => ?_)
                      obtain ⟨hMh32, hFh32, z34, z35, z36⟩ := q33
                      have kz34 : h32 22 0 = v27 := by omega
                      have kz35 : h32 26 0 = v29 := by omega
                      have kz36 : h32 32 0 = v31 := by omega
                      refine g_aload_n dX11_free_102 rfl ?_
                      refine gR_X11_16 rfl dX11_free_103 sh_0 (b := 21) (m_0_1 hMh32) ?_
                      refine g_iload dX11_free_106 rfl (fun _ => ?_)
                      refine g_iload_n dX11_free_108 rfl (fun _ => ?_)
                      refine g_cVV (as := [_, _]) (c_X9_letSnow_21 _ _ h32 hMh32 (by omega) (by omega) (by omega) (by omega)) dX11_free_109 mi_X9_letSnow in_X9_letSnow se_X9_letSnow ml_X11_246 rfl rfl rfl sh_21 rfl rfl (Nat.le_of_ble_eq_true rfl) (fun h37 q38 => ?_)
                      obtain ⟨hMh37, hFh37⟩ := q38
                      refine g_aload_n dX11_free_112 rfl ?_
                      refine gR_X11_16 rfl dX11_free_113 sh_0 (b := 21) (m_0_1 hMh37) ?_
                      refine g_aload_n dX11_free_116 rfl ?_
                      refine gR_X11_70 rfl dX11_free_117 sh_0 (b := 82) ((hFh37 0 10 rfl).trans ((hFh32 0 10 rfl).trans ((hFh18 0 10 rfl).trans er0_10))) ?_
                      refine g_iload_n dX11_free_120 rfl (fun _ => ?_)
                      refine g_cV (as := [_, _]) (c_X9_passHours_21_82 _ h37 hMh37 (by omega) (by omega)) dX11_free_121 mi_X9_passHours in_X9_passHours se_X9_passHours ml_X11_152 rfl rfl rfl sh_21 rfl rfl (Nat.le_of_ble_eq_true rfl) (fun v39 h40 q41 => ?_)
                      obtain ⟨hMh40, hFh40, bv39, cv39⟩ := q41
                      refine g_pop dX11_free_124 rfl ?_
                      refine g_aload_n dX11_free_125 rfl ?_
                      refine gR_X11_16 rfl dX11_free_126 sh_0 (b := 21) (m_0_1 hMh40) ?_
                      refine gR_X11_104 rfl dX11_free_129 sh_21 (b := 32) (m_21_2 hMh40) ?_
                      refine g_cVP (as := []) (c_X4_allBruises_32  h40 hMh40) dX11_free_132 mi_X4_allBruises in_X4_allBruises se_X4_allBruises ml_X11_210 rfl rfl rfl sh_32 rfl rfl (Nat.le_of_ble_eq_true rfl) (fun v42 q43 => ?_)
                      obtain ⟨bv42, cv42⟩ := q43
                      refine g_istore dX11_free_135 (by decide) rfl ?_
                      refine g_aload_n dX11_free_137 rfl ?_
                      refine gR_X11_16 rfl dX11_free_138 sh_0 (b := 21) (m_0_1 hMh40) ?_
                      refine gR_X11_85 rfl dX11_free_141 sh_21 (b := 22) (m_21_0 hMh40) ?_
                      refine g_cVP (as := []) (c_X6_allSlates_22  h40 hMh40) dX11_free_144 mi_X6_allSlates in_X6_allSlates se_X6_allSlates ml_X11_206 rfl rfl rfl sh_22 rfl rfl (Nat.le_of_ble_eq_true rfl) (fun v44 q45 => ?_)
                      obtain ⟨bv44, cv44⟩ := q45
                      refine g_istore dX11_free_147 (by decide) rfl ?_
                      refine g_iload dX11_free_149 rfl (fun _ => ?_)
                      refine g_iconst dX11_free_151 (inR_c rfl) ?_
                      refine g_icmp_eq 176 dX11_free_152 (by decide) (fun q46 => ?_) (fun q46 => ?_)
                      · skip
                        refine g_iload dX11_free_176 rfl (fun _ => ?_)
                        refine g_istore dX11_free_178 (by decide) rfl ?_
                        refine g_iload dX11_free_180 rfl (fun _ => ?_)
                        refine g_istore dX11_free_182 (by decide) rfl ?_
                        refine g_iload dX11_free_184 rfl (fun _ => ?_)
                        refine g_istore dX11_free_186 (by decide) rfl ?_
                        refine g_iincB dX11_free_188 rfl rfl (by omega) (by omega) ?_
                        refine g_goto 65 dX11_free_191 (by decide) ?_
                        refine g_drop 9 ?_
                        refine g_drop 10 ?_
                        exact ih65 _ _ _ _ _ hMh40 (Fr.tr (Fr.tr (Fr.tr (Fr.sub hFh18 rfl) hFh32 rfl) hFh37 rfl) hFh40 rfl) (by omega) (by omega) (by omega) (by omega) (by omega) (by omega) (by omega) (by omega) (by omega)
                      · skip
                        refine g_iload dX11_free_155 rfl (fun _ => ?_)
                        refine g_iload dX11_free_157 rfl (fun _ => ?_)
                        refine g_icmp_lt 176 dX11_free_159 (by decide) (fun q47 => ?_) (fun q47 => ?_)
                        · skip
                          refine g_iload dX11_free_176 rfl (fun _ => ?_)
                          refine g_istore dX11_free_178 (by decide) rfl ?_
                          refine g_iload dX11_free_180 rfl (fun _ => ?_)
                          refine g_istore dX11_free_182 (by decide) rfl ?_
                          refine g_iload dX11_free_184 rfl (fun _ => ?_)
                          refine g_istore dX11_free_186 (by decide) rfl ?_
                          refine g_iincB dX11_free_188 rfl rfl (by omega) (by omega) ?_
                          refine g_goto 65 dX11_free_191 (by decide) ?_
                          refine g_drop 9 ?_
                          refine g_drop 10 ?_
                          exact ih65 _ _ _ _ _ hMh40 (Fr.tr (Fr.tr (Fr.tr (Fr.sub hFh18 rfl) hFh32 rfl) hFh37 rfl) hFh40 rfl) (by omega) (by omega) (by omega) (by omega) (by omega) (by omega) (by omega) (by omega) (by omega)
                        · skip
                          refine g_iload dX11_free_162 rfl (fun _ => ?_)
                          refine g_iload dX11_free_164 rfl (fun _ => ?_)
                          refine g_icmp_ne 188 dX11_free_166 (by decide) (fun q48 => ?_) (fun q48 => ?_)
                          · skip
                            refine g_iincB dX11_free_188 rfl rfl (by omega) (by omega) ?_
                            refine g_goto 65 dX11_free_191 (by decide) ?_
                            refine g_drop 9 ?_
                            refine g_drop 10 ?_
                            exact ih65 _ _ _ _ _ hMh40 (Fr.tr (Fr.tr (Fr.tr (Fr.sub hFh18 rfl) hFh32 rfl) hFh37 rfl) hFh40 rfl) (by omega) (by omega) (by omega) (by omega) (by omega) (by omega) (by omega) (by omega) (by omega)
                          · skip
                            refine g_iload dX11_free_169 rfl (fun _ => ?_)
                            refine g_iload dX11_free_171 rfl (fun _ => ?_)
                            refine g_icmp_le 188 dX11_free_173 (by decide) (fun q49 => ?_) (fun q49 => ?_)
                            · skip
                              refine g_iincB dX11_free_188 rfl rfl (by omega) (by omega) ?_
                              refine g_goto 65 dX11_free_191 (by decide) ?_
                              refine g_drop 9 ?_
                              refine g_drop 10 ?_
                              exact ih65 _ _ _ _ _ hMh40 (Fr.tr (Fr.tr (Fr.tr (Fr.sub hFh18 rfl) hFh32 rfl) hFh37 rfl) hFh40 rfl) (by omega) (by omega) (by omega) (by omega) (by omega) (by omega) (by omega) (by omega) (by omega)
                            · skip
                              refine g_iload dX11_free_176 rfl (fun _ => ?_)
                              refine g_istore dX11_free_178 (by decide) rfl ?_
                              refine g_iload dX11_free_180 rfl (fun _ => ?_)
                              refine g_istore dX11_free_182 (by decide) rfl ?_
                              refine g_iload dX11_free_184 rfl (fun _ => ?_)
                              refine g_istore dX11_free_186 (by decide) rfl ?_
                              refine g_iincB dX11_free_188 rfl rfl (by omega) (by omega) ?_
                              refine g_goto 65 dX11_free_191 (by decide) ?_
                              refine g_drop 9 ?_
                              refine g_drop 10 ?_
                              exact ih65 _ _ _ _ _ hMh40 (Fr.tr (Fr.tr (Fr.tr (Fr.sub hFh18 rfl) hFh32 rfl) hFh37 rfl) hFh40 rfl) (by omega) (by omega) (by omega) (by omega) (by omega) (by omega) (by omega) (by omega) (by omega)
            refine g_istore dX11_free_63 (by decide) rfl ?_
            exact c65 257 _ _ _ _ _ hM Fr.rf (by omega) (by omega) (by omega) (by omega) (by omega) (by omega) (by omega) (by omega) (by omega)
          · skip
            refine g_bipush dX11_free_50 (inR_c rfl) (by decide) ?_
            exact g_ireturn dX11_free_52 retI (hPo _ _ ⟨hM, Fr.rf, (by omega), (by omega)⟩)
        · skip
          refine g_if_ne 31 dX11_free_26 (by decide) (fun _ => by exfalso; omega) (fun q50 => ?_)
          refine g_iconst dX11_free_29 (inR_c rfl) ?_
          exact g_ireturn dX11_free_30 retI (hPo _ _ ⟨hM, Fr.rf, (by omega), (by omega)⟩)
      · skip
        refine g_if_eq 29 dX11_free_17 (by decide) (fun q51 => ?_) (fun _ => by exfalso; omega)
        refine g_iconst dX11_free_29 (inR_c rfl) ?_
        exact g_ireturn dX11_free_30 retI (hPo _ _ ⟨hM, Fr.rf, (by omega), (by omega)⟩)
    · skip
      refine g_if_eq 29 dX11_free_7 (by decide) (fun q52 => ?_) (fun _ => by exfalso; omega)
      refine g_iconst dX11_free_29 (inR_c rfl) ?_
      exact g_ireturn dX11_free_30 retI (hPo _ _ ⟨hM, Fr.rf, (by omega), (by omega)⟩)
  · skip
    refine g_iload_n dX11_free_0 rfl (fun _ => ?_)
    refine g_iconst dX11_free_1 (inR_c rfl) ?_
    refine g_bipush dX11_free_2 (inR_c rfl) (by decide) ?_
    refine g_cSP (av := [_, _, _]) (c_X11_isWithin _ _ _ h hM (by omega) (by omega) (by omega) (by omega) (by omega) (by omega)) dX11_free_4 mi_X11_isWithin st_X11_isWithin ml_X11_81 rfl rfl rfl rfl (Nat.le_of_ble_eq_true rfl) (fun v53 q54 => ?_)
    rcases q54 with ⟨rfl, q54⟩ | ⟨rfl, q54⟩
    · skip
      refine g_if_eq 29 dX11_free_7 (by decide) (fun _ => by exfalso; omega) (fun q55 => ?_)
      refine g_iload_n dX11_free_10 rfl (fun _ => ?_)
      refine g_iconst dX11_free_11 (inR_c rfl) ?_
      refine g_bipush dX11_free_12 (inR_c rfl) (by decide) ?_
      refine g_cSP (av := [_, _, _]) (c_X11_isWithin _ _ _ h hM (by omega) (by omega) (by omega) (by omega) (by omega) (by omega)) dX11_free_14 mi_X11_isWithin st_X11_isWithin ml_X11_81 rfl rfl rfl rfl (Nat.le_of_ble_eq_true rfl) (fun v56 q57 => ?_)
      rcases q57 with ⟨rfl, q57⟩ | ⟨rfl, q57⟩
      · skip
        refine g_if_eq 29 dX11_free_17 (by decide) (fun _ => by exfalso; omega) (fun q58 => ?_)
        refine g_iload_n dX11_free_20 rfl (fun _ => ?_)
        refine g_iconst dX11_free_21 (inR_c rfl) ?_
        refine g_iconst dX11_free_22 (inR_c rfl) ?_
        refine g_cSP (av := [_, _, _]) (c_X11_isWithin _ _ _ h hM (by omega) (by omega) (by omega) (by omega) (by omega) (by omega)) dX11_free_23 mi_X11_isWithin st_X11_isWithin ml_X11_81 rfl rfl rfl rfl (Nat.le_of_ble_eq_true rfl) (fun v59 q60 => ?_)
        rcases q60 with ⟨rfl, q60⟩ | ⟨rfl, q60⟩
        · skip
          refine g_if_ne 31 dX11_free_26 (by decide) (fun q61 => ?_) (fun _ => by exfalso; omega)
          refine g_aload_n dX11_free_31 rfl ?_
          refine gR_X11_10 rfl dX11_free_32 sh_0 (b := 1) (m_0_0 hM) ?_
          refine g_iload_n dX11_free_35 rfl (fun _ => ?_)
          refine g_cVP (as := [_]) (c_X9_hoursWithoutSnow_1 _ h hM (by omega) (by omega)) dX11_free_36 mi_X9_hoursWithoutSnow in_X9_hoursWithoutSnow se_X9_hoursWithoutSnow ml_X11_238 rfl rfl rfl sh_1 rfl rfl (Nat.le_of_ble_eq_true rfl) (fun v62 q63 => ?_)
          obtain ⟨bv62, cv62⟩ := q63
          refine g_istore dX11_free_39 (by decide) rfl ?_
          refine g_iload dX11_free_41 rfl (fun _ => ?_)
          refine g_bitc dX11_free_43 ml_X11_241 rfl (Nat.le_of_ble_eq_true rfl) (fun v64 ev64 bv64 cv64 => ?_)
          refine g_iload_n dX11_free_46 rfl (fun _ => ?_)
          refine g_icmp_ge 53 dX11_free_47 (by decide) (fun q65 => ?_) (fun q65 => ?_)
          · skip
            refine g_iconst dX11_free_53 (inR_c rfl) ?_
            refine g_istore dX11_free_54 (by decide) rfl ?_
            refine g_iconst dX11_free_56 (inR_c rfl) ?_
            refine g_istore dX11_free_57 (by decide) rfl ?_
            refine g_iconst dX11_free_59 (inR_c rfl) ?_
            refine g_istore dX11_free_60 (by decide) rfl ?_
            refine g_iconst dX11_free_62 (inR_c rfl) ?_
            have c65 : ∀ (n : Nat) (y66 y67 y68 y69 : Int) (h70 : MEM), MBx h70 → Fr [(21, 7), (21, 8), (21, 9), (22, 1), (23, 0), (24, 0), (25, 0), (26, 1), (27, 0), (28, 0), (29, 0), (30, 0), (31, 0), (32, 1), (33, 0), (34, 0), (35, 0), (36, 0), (37, 0), (38, 0), (39, 0), (40, 0), (89, 0), (97, 0)] h h70 → -1 ≤ y66 → y66 ≤ 255 → -2147483648 ≤ y67 → y67 ≤ 2147483647 → -2147483648 ≤ y68 → y68 ≤ 2147483647 → 0 ≤ y69 → y69 ≤ 256 → 256 - y69 < (n : Int) → G yX11_free cX11_free 11 (some .int) none Po (7, 420, 0, 0) 65 [some (pR 0), some (pI x1), some (pI x2), some (pI x3), some (pI v62), some (pI y66), some (pI y67), some (pI y68), some (pI y69), none, none] [] SH h70 0 0 := by
              intro n
              induction n with
              | zero =>
                intro y66 y67 y68 y69 h70 hMh70 hFh70 by66 dy66 by67 dy67 by68 dy68 by69 dy69 hn
                exfalso; omega
              | succ n ih65 =>
                intro y66 y67 y68 y69 h70 hMh70 hFh70 by66 dy66 by67 dy67 by68 dy68 by69 dy69 hn
                refine g_iload dX11_free_65 rfl (fun _ => ?_)
                refine g_iload dX11_free_67 rfl (fun _ => ?_)
                refine g_icmp_gt 194 dX11_free_69 (by decide) (fun q71 => ?_) (fun q71 => ?_)
                · skip
                  refine g_iload_n dX11_free_194 rfl (fun _ => ?_)
                  rcases (show x3 = 0 ∨ x3 = 1 ∨ (x3 ≠ 0 ∧ x3 ≠ 1) by omega) with q72 | q72 | q72
                  · skip
                    refine g_lookup 220 dX11_free_195 (by decide) (lsw_k (off := 25) q72 (by decide)) (by decide) ?_
                    refine g_iload dX11_free_220 rfl (fun _ => ?_)
                    exact g_ireturn dX11_free_222 retI (hPo _ _ ⟨hMh70, (Fr.sub hFh70 rfl), (by omega), (by omega)⟩)
                  · skip
                    refine g_lookup 223 dX11_free_195 (by decide) (lsw_k (off := 28) q72 (by decide)) (by decide) ?_
                    refine g_iload dX11_free_223 rfl (fun _ => ?_)
                    exact g_ireturn dX11_free_225 retI (hPo _ _ ⟨hMh70, (Fr.sub hFh70 rfl), (by omega), (by omega)⟩)
                  · skip
                    refine g_lookup 226 dX11_free_195 (by decide) (lsw_d (ps := [(0, 25), (1, 28)]) (by simp only [List.all_cons, List.all_nil, Bool.and_true, Bool.and_eq_true, bne_iff_ne, ne_eq]; omega)) (by decide) ?_
                    refine g_iload dX11_free_226 rfl (fun _ => ?_)
                    exact g_ireturn dX11_free_228 retI (hPo _ _ ⟨hMh70, (Fr.sub hFh70 rfl), (by omega), (by omega)⟩)
                · skip
                  refine g_iload dX11_free_72 rfl (fun _ => ?_)
                  refine g_iload dX11_free_74 rfl (fun _ => ?_)
                  refine g_iconst dX11_free_76 (inR_c rfl) ?_
                  refine g_ixorF dX11_free_77 (fun v73 ev73 bv73 cv73 => ?_)
                  refine g_iandX (lo := 0) (hi := y69) dX11_free_78 (iand_l (by omega) (by omega)) (fun v74 ev74 bv74 cv74 => ?_)
                  refine g_if_ne 188 dX11_free_79 (by decide) (fun q75 => ?_) (fun q75 => ?_)
                  · skip
                    refine g_iincB dX11_free_188 rfl rfl (by omega) (by omega) ?_
                    refine g_goto 65 dX11_free_191 (by decide) ?_
                    exact ih65 _ _ _ _ _ hMh70 (Fr.sub hFh70 rfl) (by omega) (by omega) (by omega) (by omega) (by omega) (by omega) (by omega) (by omega) (by omega)
                  · skip
                    refine g_iload dX11_free_82 rfl (fun _ => ?_)
                    refine g_bitc dX11_free_84 ml_X11_241 rfl (Nat.le_of_ble_eq_true rfl) (fun v76 ev76 bv76 cv76 => ?_)
                    refine g_iload_n dX11_free_87 rfl (fun _ => ?_)
                    refine g_icmp_ne 188 dX11_free_88 (by decide) (fun q77 => ?_) (fun q77 => ?_)
                    · skip
                      refine g_iincB dX11_free_188 rfl rfl (by omega) (by omega) ?_
                      refine g_goto 65 dX11_free_191 (by decide) ?_
                      exact ih65 _ _ _ _ _ hMh70 (Fr.sub hFh70 rfl) (by omega) (by omega) (by omega) (by omega) (by omega) (by omega) (by omega) (by omega) (by omega)
                    · skip
                      refine g_aload_n dX11_free_91 rfl ?_
                      refine gR_X11_16 rfl dX11_free_92 sh_0 (b := 21) (m_0_1 hMh70) ?_
                      refine g_aload_n dX11_free_95 rfl ?_
                      refine gR_X11_10 rfl dX11_free_96 sh_0 (b := 1) (m_0_0 hMh70) ?_
                      have q78 : h70 2 0 = h 2 0 := (hFh70 2 0 rfl)
                      obtain ⟨v79, ev79⟩ : ∃ z, z = h70 2 0 := ⟨_, rfl⟩
                      have bv79 : 0 ≤ v79 ∧ v79 ≤ 10 := by rw [ev79]; exact (m_2_0 hMh70)
                      have q80 : h70 6 0 = h 6 0 := (hFh70 6 0 rfl)
                      obtain ⟨v81, ev81⟩ : ∃ z, z = h70 6 0 := ⟨_, rfl⟩
                      have bv81 : 0 ≤ v81 ∧ v81 ≤ 8 := by rw [ev81]; exact (m_6_0 hMh70)
                      have q82 : h70 12 0 = h 12 0 := (hFh70 12 0 rfl)
                      obtain ⟨v83, ev83⟩ : ∃ z, z = h70 12 0 := ⟨_, rfl⟩
                      have bv83 : 0 ≤ v83 ∧ v83 ≤ 8 := by rw [ev83]; exact (m_12_0 hMh70)
                      refine g_cVV (as := [_]) (c_X9_copyFrom_21_1  h70 hMh70) dX11_free_99 mi_X9_copyFrom in_X9_copyFrom se_X9_copyFrom ml_X11_202 rfl rfl rfl sh_21 rfl rfl (Nat.le_of_ble_eq_true rfl) (fun h84 q85 => ?_)
                      obtain ⟨hMh84, hFh84, z86, z87, z88⟩ := q85
                      have kz86 : h84 22 0 = v79 := by omega
                      have kz87 : h84 26 0 = v81 := by omega
                      have kz88 : h84 32 0 = v83 := by omega
                      refine g_aload_n dX11_free_102 rfl ?_
                      refine gR_X11_16 rfl dX11_free_103 sh_0 (b := 21) (m_0_1 hMh84) ?_
                      refine g_iload dX11_free_106 rfl (fun _ => ?_)
                      refine g_iload_n dX11_free_108 rfl (fun _ => ?_)
                      refine g_cVV (as := [_, _]) (c_X9_letSnow_21 _ _ h84 hMh84 (by omega) (by omega) (by omega) (by omega)) dX11_free_109 mi_X9_letSnow in_X9_letSnow se_X9_letSnow ml_X11_246 rfl rfl rfl sh_21 rfl rfl (Nat.le_of_ble_eq_true rfl) (fun h89 q90 => ?_)
                      obtain ⟨hMh89, hFh89⟩ := q90
                      refine g_aload_n dX11_free_112 rfl ?_
                      refine gR_X11_16 rfl dX11_free_113 sh_0 (b := 21) (m_0_1 hMh89) ?_
                      refine g_aload_n dX11_free_116 rfl ?_
                      refine gR_X11_70 rfl dX11_free_117 sh_0 (b := 90) ((hFh89 0 10 rfl).trans ((hFh84 0 10 rfl).trans ((hFh70 0 10 rfl).trans er0_10))) ?_
                      refine g_iload_n dX11_free_120 rfl (fun _ => ?_)
                      refine g_cV (as := [_, _]) (c_X9_passHours_21_90 _ h89 hMh89 (by omega) (by omega)) dX11_free_121 mi_X9_passHours in_X9_passHours se_X9_passHours ml_X11_152 rfl rfl rfl sh_21 rfl rfl (Nat.le_of_ble_eq_true rfl) (fun v91 h92 q93 => ?_)
                      obtain ⟨hMh92, hFh92, bv91, cv91⟩ := q93
                      refine g_pop dX11_free_124 rfl ?_
                      refine g_aload_n dX11_free_125 rfl ?_
                      refine gR_X11_16 rfl dX11_free_126 sh_0 (b := 21) (m_0_1 hMh92) ?_
                      refine gR_X11_104 rfl dX11_free_129 sh_21 (b := 32) (m_21_2 hMh92) ?_
                      refine g_cVP (as := []) (c_X4_allBruises_32  h92 hMh92) dX11_free_132 mi_X4_allBruises in_X4_allBruises se_X4_allBruises ml_X11_210 rfl rfl rfl sh_32 rfl rfl (Nat.le_of_ble_eq_true rfl) (fun v94 q95 => ?_)
                      obtain ⟨bv94, cv94⟩ := q95
                      refine g_istore dX11_free_135 (by decide) rfl ?_
                      refine g_aload_n dX11_free_137 rfl ?_
                      refine gR_X11_16 rfl dX11_free_138 sh_0 (b := 21) (m_0_1 hMh92) ?_
                      refine gR_X11_85 rfl dX11_free_141 sh_21 (b := 22) (m_21_0 hMh92) ?_
                      refine g_cVP (as := []) (c_X6_allSlates_22  h92 hMh92) dX11_free_144 mi_X6_allSlates in_X6_allSlates se_X6_allSlates ml_X11_206 rfl rfl rfl sh_22 rfl rfl (Nat.le_of_ble_eq_true rfl) (fun v96 q97 => ?_)
                      obtain ⟨bv96, cv96⟩ := q97
                      refine g_istore dX11_free_147 (by decide) rfl ?_
                      refine g_iload dX11_free_149 rfl (fun _ => ?_)
                      refine g_iconst dX11_free_151 (inR_c rfl) ?_
                      refine g_icmp_eq 176 dX11_free_152 (by decide) (fun q98 => ?_) (fun q98 => ?_)
                      · skip
                        refine g_iload dX11_free_176 rfl (fun _ => ?_)
                        refine g_istore dX11_free_178 (by decide) rfl ?_
                        refine g_iload dX11_free_180 rfl (fun _ => ?_)
                        refine g_istore dX11_free_182 (by decide) rfl ?_
                        refine g_iload dX11_free_184 rfl (fun _ => ?_)
                        refine g_istore dX11_free_186 (by decide) rfl ?_
                        refine g_iincB dX11_free_188 rfl rfl (by omega) (by omega) ?_
                        refine g_goto 65 dX11_free_191 (by decide) ?_
                        refine g_drop 9 ?_
                        refine g_drop 10 ?_
                        exact ih65 _ _ _ _ _ hMh92 (Fr.tr (Fr.tr (Fr.tr (Fr.sub hFh70 rfl) hFh84 rfl) hFh89 rfl) hFh92 rfl) (by omega) (by omega) (by omega) (by omega) (by omega) (by omega) (by omega) (by omega) (by omega)
                      · skip
                        refine g_iload dX11_free_155 rfl (fun _ => ?_)
                        refine g_iload dX11_free_157 rfl (fun _ => ?_)
                        refine g_icmp_lt 176 dX11_free_159 (by decide) (fun q99 => ?_) (fun q99 => ?_)
                        · skip
                          refine g_iload dX11_free_176 rfl (fun _ => ?_)
                          refine g_istore dX11_free_178 (by decide) rfl ?_
                          refine g_iload dX11_free_180 rfl (fun _ => ?_)
                          refine g_istore dX11_free_182 (by decide) rfl ?_
                          refine g_iload dX11_free_184 rfl (fun _ => ?_)
                          refine g_istore dX11_free_186 (by decide) rfl ?_
                          refine g_iincB dX11_free_188 rfl rfl (by omega) (by omega) ?_
                          refine g_goto 65 dX11_free_191 (by decide) ?_
                          refine g_drop 9 ?_
                          refine g_drop 10 ?_
                          exact ih65 _ _ _ _ _ hMh92 (Fr.tr (Fr.tr (Fr.tr (Fr.sub hFh70 rfl) hFh84 rfl) hFh89 rfl) hFh92 rfl) (by omega) (by omega) (by omega) (by omega) (by omega) (by omega) (by omega) (by omega) (by omega)
                        · skip
                          refine g_iload dX11_free_162 rfl (fun _ => ?_)
                          refine g_iload dX11_free_164 rfl (fun _ => ?_)
                          refine g_icmp_ne 188 dX11_free_166 (by decide) (fun q100 => ?_) (fun q100 => ?_)
                          · skip
                            refine g_iincB dX11_free_188 rfl rfl (by omega) (by omega) ?_
                            refine g_goto 65 dX11_free_191 (by decide) ?_
                            refine g_drop 9 ?_
                            refine g_drop 10 ?_
                            exact ih65 _ _ _ _ _ hMh92 (Fr.tr (Fr.tr (Fr.tr (Fr.sub hFh70 rfl) hFh84 rfl) hFh89 rfl) hFh92 rfl) (by omega) (by omega) (by omega) (by omega) (by omega) (by omega) (by omega) (by omega) (by omega)
                          · skip
                            refine g_iload dX11_free_169 rfl (fun _ => ?_)
                            refine g_iload dX11_free_171 rfl (fun _ => ?_)
                            refine g_icmp_le 188 dX11_free_173 (by decide) (fun q101 => ?_) (fun q101 => ?_)
                            · skip
                              refine g_iincB dX11_free_188 rfl rfl (by omega) (by omega) ?_
                              refine g_goto 65 dX11_free_191 (by decide) ?_
                              refine g_drop 9 ?_
                              refine g_drop 10 ?_
                              exact ih65 _ _ _ _ _ hMh92 (Fr.tr (Fr.tr (Fr.tr (Fr.sub hFh70 rfl) hFh84 rfl) hFh89 rfl) hFh92 rfl) (by omega) (by omega) (by omega) (by omega) (by omega) (by omega) (by omega) (by omega) (by omega)
                            · skip
                              refine g_iload dX11_free_176 rfl (fun _ => ?_)
                              refine g_istore dX11_free_178 (by decide) rfl ?_
                              refine g_iload dX11_free_180 rfl (fun _ => ?_)
                              refine g_istore dX11_free_182 (by decide) rfl ?_
                              refine g_iload dX11_free_184 rfl (fun _ => ?_)
                              refine g_istore dX11_free_186 (by decide) rfl ?_
                              refine g_iincB dX11_free_188 rfl rfl (by omega) (by omega) ?_
                              refine g_goto 65 dX11_free_191 (by decide) ?_
                              refine g_drop 9 ?_
                              refine g_drop 10 ?_
                              exact ih65 _ _ _ _ _ hMh92 (Fr.tr (Fr.tr (Fr.tr (Fr.sub hFh70 rfl) hFh84 rfl) hFh89 rfl) hFh92 rfl) (by omega) (by omega) (by omega) (by omega) (by omega) (by omega) (by omega) (by omega) (by omega)
            refine g_istore dX11_free_63 (by decide) rfl ?_
            exact c65 257 _ _ _ _ _ hM Fr.rf (by omega) (by omega) (by omega) (by omega) (by omega) (by omega) (by omega) (by omega) (by omega)
          · skip
            refine g_bipush dX11_free_50 (inR_c rfl) (by decide) ?_
            exact g_ireturn dX11_free_52 retI (hPo _ _ ⟨hM, Fr.rf, (by omega), (by omega)⟩)
        · skip
          refine g_if_ne 31 dX11_free_26 (by decide) (fun _ => by exfalso; omega) (fun q102 => ?_)
          refine g_iconst dX11_free_29 (inR_c rfl) ?_
          exact g_ireturn dX11_free_30 retI (hPo _ _ ⟨hM, Fr.rf, (by omega), (by omega)⟩)
      · skip
        refine g_if_eq 29 dX11_free_17 (by decide) (fun q103 => ?_) (fun _ => by exfalso; omega)
        refine g_iconst dX11_free_29 (inR_c rfl) ?_
        exact g_ireturn dX11_free_30 retI (hPo _ _ ⟨hM, Fr.rf, (by omega), (by omega)⟩)
    · skip
      refine g_if_eq 29 dX11_free_7 (by decide) (fun q104 => ?_) (fun _ => by exfalso; omega)
      refine g_iconst dX11_free_29 (inR_c rfl) ?_
      exact g_ireturn dX11_free_30 retI (hPo _ _ ⟨hM, Fr.rf, (by omega), (by omega)⟩)
set_option maxRecDepth 100000 in
set_option maxHeartbeats 4000000 in
theorem c_X9_putGear_21 (x1 x2 x3 : Int) (h : MEM) (hM : MBx h) (bx1 : -2147483648 ≤ x1) (dx1 : x1 ≤ 2147483647) (bx2 : -2147483648 ≤ x2) (dx2 : x2 ≤ 2147483647) (bx3 : 1 ≤ x3) (dx3 : x3 ≤ 1) : CV yX9_putGear cX9_putGear 4 (none) 2 [pR 21, pI x1, pI x2, pI x3] h (fun h' => MBx h' ∧ Fr [(29, 0), (35, 0)] h h') := by
  refine CV.of (L0 := [some (pR 21), some (pI x1), some (pI x2), some (pI x3)]) rfl (Nat.le_of_ble_eq_true rfl) rfl (fun Po hPo hav => ?_)
  refine g_iload_n dX9_putGear_0 rfl (fun _ => ?_)
  have c25 : ∀ (h1 : MEM), MBx h1 → Fr [(29, 0)] h h1 → G yX9_putGear cX9_putGear 4 (none) none Po (2, 120, 0, 0) 25 [some (pR 21), some (pI x1), some (pI x2), some (pI x3)] [] SH h1 0 0 := by
    intro h1 hMh1 hFh1
    refine g_iload_n dX9_putGear_25 rfl (fun _ => ?_)
    refine g_iconst dX9_putGear_26 (inR_c rfl) ?_
    refine g_icmp_ne 51 dX9_putGear_27 (by decide) (fun q2 => ?_) (fun q2 => ?_)
    · skip
      exact g_return dX9_putGear_51 rfl (hPo _ ⟨hMh1, (Fr.sub hFh1 rfl)⟩)
    · skip
      refine g_aload_n dX9_putGear_30 rfl ?_
      refine gR_X9_28 rfl dX9_putGear_31 sh_21 (b := 32) (m_21_2 hMh1) ?_
      refine g_iload_n dX9_putGear_34 rfl (fun _ => ?_)
      refine g_cVP (as := [_]) (c_X4_has_32 _ h1 hMh1 (by omega) (by omega)) dX9_putGear_35 mi_X4_has in_X4_has se_X4_has ml_X9_78 rfl rfl rfl sh_32 rfl rfl (Nat.le_of_ble_eq_true rfl) (fun v3 q4 => ?_)
      have q5 : h1 32 0 = h 32 0 := (hFh1 32 0 rfl)
      obtain ⟨v6, ev6⟩ : ∃ z, z = h1 32 0 := ⟨_, rfl⟩
      have bv6 : 0 ≤ v6 ∧ v6 ≤ 8 := by rw [ev6]; exact (m_32_0 hMh1)
      rcases q4 with ⟨rfl, q4⟩ | ⟨rfl, q4⟩
      · skip
        refine g_if_eq 51 dX9_putGear_38 (by decide) (fun _ => by exfalso; omega) (fun q7 => ?_)
        refine g_aload_n dX9_putGear_41 rfl ?_
        refine gR_X9_28 rfl dX9_putGear_42 sh_21 (b := 32) (m_21_2 hMh1) ?_
        refine gR_X9_79 rfl dX9_putGear_45 sh_32 (b := 35) (m_32_3 hMh1) ?_
        refine g_iload_n dX9_putGear_48 rfl (fun _ => ?_)
        refine g_iload_n dX9_putGear_49 rfl (fun _ => ?_)
        refine g_iastB dX9_putGear_50 sh_35 (by omega) (by omega) (fun h8 eh8 => ?_)
        have hFh8 := Fr.ar eh8
        have hMh8 := u_35 hMh1 eh8 (by omega) (by omega)
        exact g_return dX9_putGear_51 rfl (hPo _ ⟨hMh8, (Fr.tr (Fr.sub hFh1 rfl) hFh8 rfl)⟩)
      · skip
        refine g_if_eq 51 dX9_putGear_38 (by decide) (fun q9 => ?_) (fun _ => by exfalso; omega)
        exact g_return dX9_putGear_51 rfl (hPo _ ⟨hMh1, (Fr.sub hFh1 rfl)⟩)
  refine g_if_ne 25 dX9_putGear_1 (by decide) (fun q10 => ?_) (fun q10 => ?_)
  · skip
    exact c25 _ hM Fr.rf
  · skip
    refine g_aload_n dX9_putGear_4 rfl ?_
    refine gR_X9_21 rfl dX9_putGear_5 sh_21 (b := 26) (m_21_1 hM) ?_
    refine g_iload_n dX9_putGear_8 rfl (fun _ => ?_)
    refine g_cVP (as := [_]) (c_X0_has_26 _ h hM (by omega) (by omega)) dX9_putGear_9 mi_X0_has in_X0_has se_X0_has ml_X9_71 rfl rfl rfl sh_26 rfl rfl (Nat.le_of_ble_eq_true rfl) (fun v11 q12 => ?_)
    obtain ⟨v13, ev13⟩ : ∃ z, z = h 26 0 := ⟨_, rfl⟩
    have bv13 : 0 ≤ v13 ∧ v13 ≤ 8 := by rw [ev13]; exact (m_26_0 hM)
    rcases q12 with ⟨rfl, q12⟩ | ⟨rfl, q12⟩
    · skip
      refine g_if_eq 25 dX9_putGear_12 (by decide) (fun _ => by exfalso; omega) (fun q14 => ?_)
      refine g_aload_n dX9_putGear_15 rfl ?_
      refine gR_X9_21 rfl dX9_putGear_16 sh_21 (b := 26) (m_21_1 hM) ?_
      refine gR_X9_75 rfl dX9_putGear_19 sh_26 (b := 29) (m_26_3 hM) ?_
      refine g_iload_n dX9_putGear_22 rfl (fun _ => ?_)
      refine g_iload_n dX9_putGear_23 rfl (fun _ => ?_)
      refine g_iastB dX9_putGear_24 sh_29 (by omega) (by omega) (fun h15 eh15 => ?_)
      have hFh15 := Fr.ar eh15
      have hMh15 := u_29 hM eh15 (by omega) (by omega)
      exact c25 _ hMh15 (Fr.sub hFh15 rfl)
    · skip
      refine g_if_eq 25 dX9_putGear_12 (by decide) (fun q16 => ?_) (fun _ => by exfalso; omega)
      exact c25 _ hM Fr.rf
set_option maxRecDepth 100000 in
set_option maxHeartbeats 4000000 in
theorem c_X11_worth_0 (x1 x2 x3 : Int) (h : MEM) (hM : MBx h) (bx1 : -2147483648 ≤ x1) (dx1 : x1 ≤ 2147483647) (bx2 : -2147483648 ≤ x2) (dx2 : x2 ≤ 2147483647) (bx3 : -2147483648 ≤ x3) (dx3 : x3 ≤ 2147483647) (f_LD : LD h) : CI yX11_worth cX11_worth 5 (some .int) 7 [pR 0, pI x1, pI x2, pI x3] h (fun x h' => MBx h' ∧ Fr [(21, 7), (21, 8), (21, 9), (22, 1), (23, 0), (24, 0), (25, 0), (26, 1), (27, 0), (28, 0), (29, 0), (30, 0), (31, 0), (32, 1), (33, 0), (34, 0), (35, 0), (36, 0), (37, 0), (38, 0), (39, 0), (40, 0), (89, 0), (97, 0)] h h' ∧ -2147483648 ≤ x ∧ x ≤ 2147483647) := by
  refine CI.of (L0 := [some (pR 0), some (pI x1), some (pI x2), some (pI x3), none]) rfl (Nat.le_of_ble_eq_true rfl) rfl (fun Po hPo hav => ?_)
  rcases id f_LD with ⟨er0_10, er0_11⟩ | ⟨er0_10, er0_11⟩
  · skip
    refine g_aload_n dX11_worth_0 rfl ?_
    refine g_iload_n dX11_worth_1 rfl (fun _ => ?_)
    refine g_iload_n dX11_worth_2 rfl (fun _ => ?_)
    refine g_cVP (as := [_, _]) (c_X11_hasGearBearer_0 _ _ h hM (by omega) (by omega) (by omega) (by omega)) dX11_worth_3 mi_X11_hasGearBearer in_X11_hasGearBearer se_X11_hasGearBearer ml_X11_126 rfl rfl rfl sh_0 rfl rfl (Nat.le_of_ble_eq_true rfl) (fun v1 q2 => ?_)
    obtain ⟨bv1, cv1⟩ := q2
    refine g_if_eq 32 dX11_worth_6 (by decide) (fun q3 => ?_) (fun q3 => ?_)
    · skip
      refine g_sipush dX11_worth_32 (inR_c rfl) (by decide) ?_
      exact g_ireturn dX11_worth_35 retI (hPo _ _ ⟨hM, Fr.rf, (by omega), (by omega)⟩)
    · skip
      refine g_iload_n dX11_worth_9 rfl (fun _ => ?_)
      refine g_iconst dX11_worth_10 (inR_c rfl) ?_
      refine g_bipush dX11_worth_11 (inR_c rfl) (by decide) ?_
      refine g_cSP (av := [_, _, _]) (c_X11_isWithin _ _ _ h hM (by omega) (by omega) (by omega) (by omega) (by omega) (by omega)) dX11_worth_13 mi_X11_isWithin st_X11_isWithin ml_X11_81 rfl rfl rfl rfl (Nat.le_of_ble_eq_true rfl) (fun v4 q5 => ?_)
      rcases q5 with ⟨rfl, q5⟩ | ⟨rfl, q5⟩
      · skip
        refine g_if_eq 32 dX11_worth_16 (by decide) (fun _ => by exfalso; omega) (fun q6 => ?_)
        refine g_aload_n dX11_worth_19 rfl ?_
        refine gR_X11_10 rfl dX11_worth_20 sh_0 (b := 1) (m_0_0 hM) ?_
        refine g_iload_n dX11_worth_23 rfl (fun _ => ?_)
        refine g_iload_n dX11_worth_24 rfl (fun _ => ?_)
        refine g_cVP (as := [_, _]) (c_X9_gearOf_1 _ _ h hM (by omega) (by omega) (by omega) (by omega)) dX11_worth_25 mi_X9_gearOf in_X9_gearOf se_X9_gearOf ml_X11_130 rfl rfl rfl sh_1 rfl rfl (Nat.le_of_ble_eq_true rfl) (fun v7 q8 => ?_)
        obtain ⟨bv7, cv7⟩ := q8
        refine g_iconst dX11_worth_28 (inR_c rfl) ?_
        refine g_icmp_ne 36 dX11_worth_29 (by decide) (fun q9 => ?_) (fun q9 => ?_)
        · skip
          refine g_aload_n dX11_worth_36 rfl ?_
          refine gR_X11_16 rfl dX11_worth_37 sh_0 (b := 21) (m_0_1 hM) ?_
          refine g_aload_n dX11_worth_40 rfl ?_
          refine gR_X11_10 rfl dX11_worth_41 sh_0 (b := 1) (m_0_0 hM) ?_
          obtain ⟨v10, ev10⟩ : ∃ z, z = h 2 0 := ⟨_, rfl⟩
          have bv10 : 0 ≤ v10 ∧ v10 ≤ 10 := by rw [ev10]; exact (m_2_0 hM)
          obtain ⟨v11, ev11⟩ : ∃ z, z = h 6 0 := ⟨_, rfl⟩
          have bv11 : 0 ≤ v11 ∧ v11 ≤ 8 := by rw [ev11]; exact (m_6_0 hM)
          obtain ⟨v12, ev12⟩ : ∃ z, z = h 12 0 := ⟨_, rfl⟩
          have bv12 : 0 ≤ v12 ∧ v12 ≤ 8 := by rw [ev12]; exact (m_12_0 hM)
          refine g_cVV (as := [_]) (c_X9_copyFrom_21_1  h hM) dX11_worth_44 mi_X9_copyFrom in_X9_copyFrom se_X9_copyFrom ml_X11_202 rfl rfl rfl sh_21 rfl rfl (Nat.le_of_ble_eq_true rfl) (fun h13 q14 => ?_)
          obtain ⟨hMh13, hFh13, z15, z16, z17⟩ := q14
          have kz15 : h13 22 0 = v10 := by omega
          have kz16 : h13 26 0 = v11 := by omega
          have kz17 : h13 32 0 = v12 := by omega
          refine g_aload_n dX11_worth_47 rfl ?_
          refine gR_X11_16 rfl dX11_worth_48 sh_0 (b := 21) (m_0_1 hMh13) ?_
          refine g_aload_n dX11_worth_51 rfl ?_
          refine gR_X11_70 rfl dX11_worth_52 sh_0 (b := 82) ((hFh13 0 10 rfl).trans er0_10) ?_
          refine g_iload_n dX11_worth_55 rfl (fun _ => ?_)
          refine g_cV (as := [_, _]) (c_X9_passHours_21_82 _ h13 hMh13 (by omega) (by omega)) dX11_worth_56 mi_X9_passHours in_X9_passHours se_X9_passHours ml_X11_152 rfl rfl rfl sh_21 rfl rfl (Nat.le_of_ble_eq_true rfl) (fun v18 h19 q20 => ?_)
          obtain ⟨hMh19, hFh19, bv18, cv18⟩ := q20
          refine g_pop dX11_worth_59 rfl ?_
          refine g_aload_n dX11_worth_60 rfl ?_
          refine gR_X11_16 rfl dX11_worth_61 sh_0 (b := 21) (m_0_1 hMh19) ?_
          refine gR_X11_104 rfl dX11_worth_64 sh_21 (b := 32) (m_21_2 hMh19) ?_
          refine g_cVP (as := []) (c_X4_allBruises_32  h19 hMh19) dX11_worth_67 mi_X4_allBruises in_X4_allBruises se_X4_allBruises ml_X11_210 rfl rfl rfl sh_32 rfl rfl (Nat.le_of_ble_eq_true rfl) (fun v21 q22 => ?_)
          obtain ⟨bv21, cv21⟩ := q22
          refine g_istore dX11_worth_70 (by decide) rfl ?_
          refine g_aload_n dX11_worth_72 rfl ?_
          refine gR_X11_16 rfl dX11_worth_73 sh_0 (b := 21) (m_0_1 hMh19) ?_
          refine g_aload_n dX11_worth_76 rfl ?_
          refine gR_X11_10 rfl dX11_worth_77 sh_0 (b := 1) (m_0_0 hMh19) ?_
          have q23 : h19 2 0 = v10 := ((hFh19 2 0 rfl).trans ((hFh13 2 0 rfl).trans ev10.symm))
          have q24 : h19 6 0 = v11 := ((hFh19 6 0 rfl).trans ((hFh13 6 0 rfl).trans ev11.symm))
          have q25 : h19 12 0 = v12 := ((hFh19 12 0 rfl).trans ((hFh13 12 0 rfl).trans ev12.symm))
          refine g_cVV (as := [_]) (c_X9_copyFrom_21_1  h19 hMh19) dX11_worth_80 mi_X9_copyFrom in_X9_copyFrom se_X9_copyFrom ml_X11_202 rfl rfl rfl sh_21 rfl rfl (Nat.le_of_ble_eq_true rfl) (fun h26 q27 => ?_)
          obtain ⟨hMh26, hFh26, z28, z29, z30⟩ := q27
          have kz28 : h26 22 0 = v10 := by omega
          have kz29 : h26 26 0 = v11 := by omega
          have kz30 : h26 32 0 = v12 := by omega
          refine g_aload_n dX11_worth_83 rfl ?_
          refine gR_X11_16 rfl dX11_worth_84 sh_0 (b := 21) (m_0_1 hMh26) ?_
          refine g_iload_n dX11_worth_87 rfl (fun _ => ?_)
          refine g_iload_n dX11_worth_88 rfl (fun _ => ?_)
          refine g_iconst dX11_worth_89 (inR_c rfl) ?_
          refine g_cVV (as := [_, _, _]) (c_X9_putGear_21 _ _ _ h26 hMh26 (by omega) (by omega) (by omega) (by omega) (by omega) (by omega)) dX11_worth_90 mi_X9_putGear in_X9_putGear se_X9_putGear ml_X11_133 rfl rfl rfl sh_21 rfl rfl (Nat.le_of_ble_eq_true rfl) (fun h31 q32 => ?_)
          obtain ⟨hMh31, hFh31⟩ := q32
          refine g_aload_n dX11_worth_93 rfl ?_
          refine gR_X11_16 rfl dX11_worth_94 sh_0 (b := 21) (m_0_1 hMh31) ?_
          refine g_aload_n dX11_worth_97 rfl ?_
          refine gR_X11_70 rfl dX11_worth_98 sh_0 (b := 82) ((hFh31 0 10 rfl).trans ((hFh26 0 10 rfl).trans ((hFh19 0 10 rfl).trans ((hFh13 0 10 rfl).trans er0_10)))) ?_
          refine g_iload_n dX11_worth_101 rfl (fun _ => ?_)
          refine g_cV (as := [_, _]) (c_X9_passHours_21_82 _ h31 hMh31 (by omega) (by omega)) dX11_worth_102 mi_X9_passHours in_X9_passHours se_X9_passHours ml_X11_152 rfl rfl rfl sh_21 rfl rfl (Nat.le_of_ble_eq_true rfl) (fun v33 h34 q35 => ?_)
          obtain ⟨hMh34, hFh34, bv33, cv33⟩ := q35
          refine g_pop dX11_worth_105 rfl ?_
          refine g_iload dX11_worth_106 rfl (fun _ => ?_)
          refine g_aload_n dX11_worth_108 rfl ?_
          refine gR_X11_16 rfl dX11_worth_109 sh_0 (b := 21) (m_0_1 hMh34) ?_
          refine gR_X11_104 rfl dX11_worth_112 sh_21 (b := 32) (m_21_2 hMh34) ?_
          refine g_cVP (as := []) (c_X4_allBruises_32  h34 hMh34) dX11_worth_115 mi_X4_allBruises in_X4_allBruises se_X4_allBruises ml_X11_210 rfl rfl rfl sh_32 rfl rfl (Nat.le_of_ble_eq_true rfl) (fun v36 q37 => ?_)
          obtain ⟨bv36, cv36⟩ := q37
          refine g_isubF dX11_worth_118 (fun v38 bv38 cv38 => ?_)
          exact g_ireturn dX11_worth_119 retI (hPo _ _ ⟨hMh34, (Fr.tr (Fr.tr (Fr.tr (Fr.tr (Fr.sub hFh13 rfl) hFh19 rfl) hFh26 rfl) hFh31 rfl) hFh34 rfl), (by omega), (by omega)⟩)
        · skip
          refine g_sipush dX11_worth_32 (inR_c rfl) (by decide) ?_
          exact g_ireturn dX11_worth_35 retI (hPo _ _ ⟨hM, Fr.rf, (by omega), (by omega)⟩)
      · skip
        refine g_if_eq 32 dX11_worth_16 (by decide) (fun q39 => ?_) (fun _ => by exfalso; omega)
        refine g_sipush dX11_worth_32 (inR_c rfl) (by decide) ?_
        exact g_ireturn dX11_worth_35 retI (hPo _ _ ⟨hM, Fr.rf, (by omega), (by omega)⟩)
  · skip
    refine g_aload_n dX11_worth_0 rfl ?_
    refine g_iload_n dX11_worth_1 rfl (fun _ => ?_)
    refine g_iload_n dX11_worth_2 rfl (fun _ => ?_)
    refine g_cVP (as := [_, _]) (c_X11_hasGearBearer_0 _ _ h hM (by omega) (by omega) (by omega) (by omega)) dX11_worth_3 mi_X11_hasGearBearer in_X11_hasGearBearer se_X11_hasGearBearer ml_X11_126 rfl rfl rfl sh_0 rfl rfl (Nat.le_of_ble_eq_true rfl) (fun v40 q41 => ?_)
    obtain ⟨bv40, cv40⟩ := q41
    refine g_if_eq 32 dX11_worth_6 (by decide) (fun q42 => ?_) (fun q42 => ?_)
    · skip
      refine g_sipush dX11_worth_32 (inR_c rfl) (by decide) ?_
      exact g_ireturn dX11_worth_35 retI (hPo _ _ ⟨hM, Fr.rf, (by omega), (by omega)⟩)
    · skip
      refine g_iload_n dX11_worth_9 rfl (fun _ => ?_)
      refine g_iconst dX11_worth_10 (inR_c rfl) ?_
      refine g_bipush dX11_worth_11 (inR_c rfl) (by decide) ?_
      refine g_cSP (av := [_, _, _]) (c_X11_isWithin _ _ _ h hM (by omega) (by omega) (by omega) (by omega) (by omega) (by omega)) dX11_worth_13 mi_X11_isWithin st_X11_isWithin ml_X11_81 rfl rfl rfl rfl (Nat.le_of_ble_eq_true rfl) (fun v43 q44 => ?_)
      rcases q44 with ⟨rfl, q44⟩ | ⟨rfl, q44⟩
      · skip
        refine g_if_eq 32 dX11_worth_16 (by decide) (fun _ => by exfalso; omega) (fun q45 => ?_)
        refine g_aload_n dX11_worth_19 rfl ?_
        refine gR_X11_10 rfl dX11_worth_20 sh_0 (b := 1) (m_0_0 hM) ?_
        refine g_iload_n dX11_worth_23 rfl (fun _ => ?_)
        refine g_iload_n dX11_worth_24 rfl (fun _ => ?_)
        refine g_cVP (as := [_, _]) (c_X9_gearOf_1 _ _ h hM (by omega) (by omega) (by omega) (by omega)) dX11_worth_25 mi_X9_gearOf in_X9_gearOf se_X9_gearOf ml_X11_130 rfl rfl rfl sh_1 rfl rfl (Nat.le_of_ble_eq_true rfl) (fun v46 q47 => ?_)
        obtain ⟨bv46, cv46⟩ := q47
        refine g_iconst dX11_worth_28 (inR_c rfl) ?_
        refine g_icmp_ne 36 dX11_worth_29 (by decide) (fun q48 => ?_) (fun q48 => ?_)
        · skip
          refine g_aload_n dX11_worth_36 rfl ?_
          refine gR_X11_16 rfl dX11_worth_37 sh_0 (b := 21) (m_0_1 hM) ?_
          refine g_aload_n dX11_worth_40 rfl ?_
          refine gR_X11_10 rfl dX11_worth_41 sh_0 (b := 1) (m_0_0 hM) ?_
          obtain ⟨v49, ev49⟩ : ∃ z, z = h 2 0 := ⟨_, rfl⟩
          have bv49 : 0 ≤ v49 ∧ v49 ≤ 10 := by rw [ev49]; exact (m_2_0 hM)
          obtain ⟨v50, ev50⟩ : ∃ z, z = h 6 0 := ⟨_, rfl⟩
          have bv50 : 0 ≤ v50 ∧ v50 ≤ 8 := by rw [ev50]; exact (m_6_0 hM)
          obtain ⟨v51, ev51⟩ : ∃ z, z = h 12 0 := ⟨_, rfl⟩
          have bv51 : 0 ≤ v51 ∧ v51 ≤ 8 := by rw [ev51]; exact (m_12_0 hM)
          refine g_cVV (as := [_]) (c_X9_copyFrom_21_1  h hM) dX11_worth_44 mi_X9_copyFrom in_X9_copyFrom se_X9_copyFrom ml_X11_202 rfl rfl rfl sh_21 rfl rfl (Nat.le_of_ble_eq_true rfl) (fun h52 q53 => ?_)
          obtain ⟨hMh52, hFh52, z54, z55, z56⟩ := q53
          have kz54 : h52 22 0 = v49 := by omega
          have kz55 : h52 26 0 = v50 := by omega
          have kz56 : h52 32 0 = v51 := by omega
          refine g_aload_n dX11_worth_47 rfl ?_
          refine gR_X11_16 rfl dX11_worth_48 sh_0 (b := 21) (m_0_1 hMh52) ?_
          refine g_aload_n dX11_worth_51 rfl ?_
          refine gR_X11_70 rfl dX11_worth_52 sh_0 (b := 90) ((hFh52 0 10 rfl).trans er0_10) ?_
          refine g_iload_n dX11_worth_55 rfl (fun _ => ?_)
          refine g_cV (as := [_, _]) (c_X9_passHours_21_90 _ h52 hMh52 (by omega) (by omega)) dX11_worth_56 mi_X9_passHours in_X9_passHours se_X9_passHours ml_X11_152 rfl rfl rfl sh_21 rfl rfl (Nat.le_of_ble_eq_true rfl) (fun v57 h58 q59 => ?_)
          obtain ⟨hMh58, hFh58, bv57, cv57⟩ := q59
          refine g_pop dX11_worth_59 rfl ?_
          refine g_aload_n dX11_worth_60 rfl ?_
          refine gR_X11_16 rfl dX11_worth_61 sh_0 (b := 21) (m_0_1 hMh58) ?_
          refine gR_X11_104 rfl dX11_worth_64 sh_21 (b := 32) (m_21_2 hMh58) ?_
          refine g_cVP (as := []) (c_X4_allBruises_32  h58 hMh58) dX11_worth_67 mi_X4_allBruises in_X4_allBruises se_X4_allBruises ml_X11_210 rfl rfl rfl sh_32 rfl rfl (Nat.le_of_ble_eq_true rfl) (fun v60 q61 => ?_)
          obtain ⟨bv60, cv60⟩ := q61
          refine g_istore dX11_worth_70 (by decide) rfl ?_
          refine g_aload_n dX11_worth_72 rfl ?_
          refine gR_X11_16 rfl dX11_worth_73 sh_0 (b := 21) (m_0_1 hMh58) ?_
          refine g_aload_n dX11_worth_76 rfl ?_
          refine gR_X11_10 rfl dX11_worth_77 sh_0 (b := 1) (m_0_0 hMh58) ?_
          have q62 : h58 2 0 = v49 := ((hFh58 2 0 rfl).trans ((hFh52 2 0 rfl).trans ev49.symm))
          have q63 : h58 6 0 = v50 := ((hFh58 6 0 rfl).trans ((hFh52 6 0 rfl).trans ev50.symm))
          have q64 : h58 12 0 = v51 := ((hFh58 12 0 rfl).trans ((hFh52 12 0 rfl).trans ev51.symm))
          refine g_cVV (as := [_]) (c_X9_copyFrom_21_1  h58 hMh58) dX11_worth_80 mi_X9_copyFrom in_X9_copyFrom se_X9_copyFrom ml_X11_202 rfl rfl rfl sh_21 rfl rfl (Nat.le_of_ble_eq_true rfl) (fun h65 q66 => ?_)
          obtain ⟨hMh65, hFh65, z67, z68, z69⟩ := q66
          have kz67 : h65 22 0 = v49 := by omega
          have kz68 : h65 26 0 = v50 := by omega
          have kz69 : h65 32 0 = v51 := by omega
          refine g_aload_n dX11_worth_83 rfl ?_
          refine gR_X11_16 rfl dX11_worth_84 sh_0 (b := 21) (m_0_1 hMh65) ?_
          refine g_iload_n dX11_worth_87 rfl (fun _ => ?_)
          refine g_iload_n dX11_worth_88 rfl (fun _ => ?_)
          refine g_iconst dX11_worth_89 (inR_c rfl) ?_
          refine g_cVV (as := [_, _, _]) (c_X9_putGear_21 _ _ _ h65 hMh65 (by omega) (by omega) (by omega) (by omega) (by omega) (by omega)) dX11_worth_90 mi_X9_putGear in_X9_putGear se_X9_putGear ml_X11_133 rfl rfl rfl sh_21 rfl rfl (Nat.le_of_ble_eq_true rfl) (fun h70 q71 => ?_)
          obtain ⟨hMh70, hFh70⟩ := q71
          refine g_aload_n dX11_worth_93 rfl ?_
          refine gR_X11_16 rfl dX11_worth_94 sh_0 (b := 21) (m_0_1 hMh70) ?_
          refine g_aload_n dX11_worth_97 rfl ?_
          refine gR_X11_70 rfl dX11_worth_98 sh_0 (b := 90) ((hFh70 0 10 rfl).trans ((hFh65 0 10 rfl).trans ((hFh58 0 10 rfl).trans ((hFh52 0 10 rfl).trans er0_10)))) ?_
          refine g_iload_n dX11_worth_101 rfl (fun _ => ?_)
          refine g_cV (as := [_, _]) (c_X9_passHours_21_90 _ h70 hMh70 (by omega) (by omega)) dX11_worth_102 mi_X9_passHours in_X9_passHours se_X9_passHours ml_X11_152 rfl rfl rfl sh_21 rfl rfl (Nat.le_of_ble_eq_true rfl) (fun v72 h73 q74 => ?_)
          obtain ⟨hMh73, hFh73, bv72, cv72⟩ := q74
          refine g_pop dX11_worth_105 rfl ?_
          refine g_iload dX11_worth_106 rfl (fun _ => ?_)
          refine g_aload_n dX11_worth_108 rfl ?_
          refine gR_X11_16 rfl dX11_worth_109 sh_0 (b := 21) (m_0_1 hMh73) ?_
          refine gR_X11_104 rfl dX11_worth_112 sh_21 (b := 32) (m_21_2 hMh73) ?_
          refine g_cVP (as := []) (c_X4_allBruises_32  h73 hMh73) dX11_worth_115 mi_X4_allBruises in_X4_allBruises se_X4_allBruises ml_X11_210 rfl rfl rfl sh_32 rfl rfl (Nat.le_of_ble_eq_true rfl) (fun v75 q76 => ?_)
          obtain ⟨bv75, cv75⟩ := q76
          refine g_isubF dX11_worth_118 (fun v77 bv77 cv77 => ?_)
          exact g_ireturn dX11_worth_119 retI (hPo _ _ ⟨hMh73, (Fr.tr (Fr.tr (Fr.tr (Fr.tr (Fr.sub hFh52 rfl) hFh58 rfl) hFh65 rfl) hFh70 rfl) hFh73 rfl), (by omega), (by omega)⟩)
        · skip
          refine g_sipush dX11_worth_32 (inR_c rfl) (by decide) ?_
          exact g_ireturn dX11_worth_35 retI (hPo _ _ ⟨hM, Fr.rf, (by omega), (by omega)⟩)
      · skip
        refine g_if_eq 32 dX11_worth_16 (by decide) (fun q78 => ?_) (fun _ => by exfalso; omega)
        refine g_sipush dX11_worth_32 (inR_c rfl) (by decide) ?_
        exact g_ireturn dX11_worth_35 retI (hPo _ _ ⟨hM, Fr.rf, (by omega), (by omega)⟩)
set_option maxRecDepth 100000 in
set_option maxHeartbeats 4000000 in
theorem c_X3_leastBorrower_71 (x1 x2 : Int) (h : MEM) (hM : MBx h) (bx1 : 0 ≤ x1) (dx1 : x1 ≤ 7) (bx2 : 0 ≤ x2) (dx2 : x2 ≤ 255) : CP yX3_leastBorrower cX3_leastBorrower 4 (some .int) 1 [pR 71, pI x1, pI x2] h (fun x => 0 ≤ x ∧ x ≤ 8) := by
  refine CP.of (L0 := [some (pR 71), some (pI x1), some (pI x2), none]) rfl (Nat.le_of_ble_eq_true rfl) rfl (fun Po hPo hav => ?_)
  refine g_iconst dX3_leastBorrower_0 (inR_c rfl) ?_
  have c2 : ∀ (n : Nat) (y1 : Int) , 0 ≤ y1 → y1 ≤ 8 → 8 - y1 < (n : Int) → G yX3_leastBorrower cX3_leastBorrower 4 (some .int) none Po (1, 60, 0, 0) 2 [some (pR 71), some (pI x1), some (pI x2), some (pI y1)] [] SH h 0 0 := by
    intro n
    induction n with
    | zero =>
      intro y1 by1 dy1 hn
      exfalso; omega
    | succ n ih2 =>
      intro y1 by1 dy1 hn
      refine g_iload_n dX3_leastBorrower_2 rfl (fun _ => ?_)
      refine g_bipush dX3_leastBorrower_3 (inR_c rfl) (by decide) ?_
      refine g_icmp_ge 68 dX3_leastBorrower_5 (by decide) (fun q2 => ?_) (fun q2 => ?_)
      · skip
        refine g_bipush dX3_leastBorrower_68 (inR_c rfl) (by decide) ?_
        exact g_ireturn dX3_leastBorrower_70 retI (hPo _ ⟨(by omega), (by omega)⟩)
      · skip
        refine g_aload_n dX3_leastBorrower_8 rfl ?_
        refine gR_X3_19 rfl dX3_leastBorrower_9 sh_71 (b := 73) (m_71_2 hM) ?_
        refine g_iload_n dX3_leastBorrower_12 rfl (fun _ => ?_)
        refine g_ialdB dX3_leastBorrower_13 sh_73 (by omega) (by omega) (m_73 hM _) (fun v3 ev3 bv3 cv3 => ?_)
        refine g_iload_n dX3_leastBorrower_14 rfl (fun _ => ?_)
        refine g_iconst dX3_leastBorrower_15 (inR_c rfl) ?_
        refine g_ixorF dX3_leastBorrower_16 (fun v4 ev4 bv4 cv4 => ?_)
        refine g_iandF dX3_leastBorrower_17 (fun v5 ev5 bv5 cv5 => ?_)
        refine g_iconst dX3_leastBorrower_18 (inR_c rfl) ?_
        refine g_iload_n dX3_leastBorrower_19 rfl (fun _ => ?_)
        refine g_ishlX (lo := 1) (hi := 128) dX3_leastBorrower_20 (ishl1_b 7 (by decide) (by omega) (by omega)) (fun v6 ev6 bv6 cv6 => ?_)
        refine g_iandX (lo := 0) (hi := v6) dX3_leastBorrower_21 (iand_r (by omega) (by omega)) (fun v7 ev7 bv7 cv7 => ?_)
        refine g_if_eq 62 dX3_leastBorrower_22 (by decide) (fun q8 => ?_) (fun q8 => ?_)
        · skip
          refine g_iincB dX3_leastBorrower_62 rfl rfl (by omega) (by omega) ?_
          refine g_goto 2 dX3_leastBorrower_65 (by decide) ?_
          exact ih2 _ (by omega) (by omega) (by omega)
        · skip
          refine g_iconst dX3_leastBorrower_25 (inR_c rfl) ?_
          refine g_aload_n dX3_leastBorrower_26 rfl ?_
          refine gR_X3_22 rfl dX3_leastBorrower_27 sh_71 (b := 74) (m_71_3 hM) ?_
          refine g_iload_n dX3_leastBorrower_30 rfl (fun _ => ?_)
          refine g_iconst dX3_leastBorrower_31 (inR_c rfl) ?_
          refine g_iaddB dX3_leastBorrower_32 (by omega) (by omega) ?_
          refine g_sipush dX3_leastBorrower_33 (inR_c rfl) (by decide) ?_
          refine g_imulB dX3_leastBorrower_36 (by omega) (by omega) ?_
          refine g_iload_n dX3_leastBorrower_37 rfl (fun _ => ?_)
          refine g_iconst dX3_leastBorrower_38 (inR_c rfl) ?_
          refine g_iload_n dX3_leastBorrower_39 rfl (fun _ => ?_)
          refine g_ishlX (lo := 1) (hi := 128) dX3_leastBorrower_40 (ishl1_b 7 (by decide) (by omega) (by omega)) (fun v9 ev9 bv9 cv9 => ?_)
          refine g_iorX (lo := 0) (hi := 255) dX3_leastBorrower_41 (ior_b 8 (by decide) (by omega) (by omega) (by omega) (by omega)) (fun v10 ev10 bv10 cv10 => ?_)
          refine g_iaddB dX3_leastBorrower_42 (by omega) (by omega) ?_
          refine g_ialdB dX3_leastBorrower_43 sh_74 (by omega) (by omega) (m_74 hM _) (fun v11 ev11 bv11 cv11 => ?_)
          refine g_iaddF dX3_leastBorrower_44 (fun v12 bv12 cv12 => ?_)
          refine g_aload_n dX3_leastBorrower_45 rfl ?_
          refine gR_X3_22 rfl dX3_leastBorrower_46 sh_71 (b := 74) (m_71_3 hM) ?_
          refine g_iload_n dX3_leastBorrower_49 rfl (fun _ => ?_)
          refine g_sipush dX3_leastBorrower_50 (inR_c rfl) (by decide) ?_
          refine g_imulB dX3_leastBorrower_53 (by omega) (by omega) ?_
          refine g_iload_n dX3_leastBorrower_54 rfl (fun _ => ?_)
          refine g_iaddB dX3_leastBorrower_55 (by omega) (by omega) ?_
          refine g_ialdB dX3_leastBorrower_56 sh_74 (by omega) (by omega) (m_74 hM _) (fun v13 ev13 bv13 cv13 => ?_)
          refine g_icmp_ne 62 dX3_leastBorrower_57 (by decide) (fun q14 => ?_) (fun q14 => ?_)
          · skip
            refine g_iincB dX3_leastBorrower_62 rfl rfl (by omega) (by omega) ?_
            refine g_goto 2 dX3_leastBorrower_65 (by decide) ?_
            exact ih2 _ (by omega) (by omega) (by omega)
          · skip
            refine g_iload_n dX3_leastBorrower_60 rfl (fun _ => ?_)
            exact g_ireturn dX3_leastBorrower_61 retI (hPo _ ⟨(by omega), (by omega)⟩)
  refine g_istore_n dX3_leastBorrower_1 (by decide) rfl ?_
  exact c2 9 _ (by omega) (by omega) (by omega)
set_option maxRecDepth 100000 in
set_option maxHeartbeats 4000000 in
theorem c_X3_tellRow_71 (x1 : Int) (h : MEM) (hM : MBx h) (bx1 : 0 ≤ x1) (dx1 : x1 ≤ 8) : CV yX3_tellRow cX3_tellRow 4 (none) 2 [pR 71, pI x1] h (fun h' => MBx h' ∧ Fr [(72, 0)] h h') := by
  refine CV.of (L0 := [some (pR 71), some (pI x1), none, none]) rfl (Nat.le_of_ble_eq_true rfl) rfl (fun Po hPo hav => ?_)
  refine g_iconst dX3_tellRow_0 (inR_c rfl) ?_
  refine g_istore_n dX3_tellRow_1 (by decide) rfl ?_
  refine g_iconst dX3_tellRow_2 (inR_c rfl) ?_
  have c4 : ∀ (n : Nat) (y1 y2 : Int) (h3 : MEM), MBx h3 → Fr [(72, 0)] h h3 → 0 ≤ y1 → y1 ≤ 255 → 0 ≤ y2 → y2 ≤ 8 → 8 - y2 < (n : Int) → G yX3_tellRow cX3_tellRow 4 (none) none Po (2, 120, 0, 0) 4 [some (pR 71), some (pI x1), some (pI y1), some (pI y2)] [] SH h3 0 0 := by
    intro n
    induction n with
    | zero =>
      intro y1 y2 h3 hMh3 hFh3 by1 dy1 by2 dy2 hn
      exfalso; omega
    | succ n ih4 =>
      intro y1 y2 h3 hMh3 hFh3 by1 dy1 by2 dy2 hn
      refine g_iload_n dX3_tellRow_4 rfl (fun _ => ?_)
      refine g_iload_n dX3_tellRow_5 rfl (fun _ => ?_)
      refine g_icmp_ge 49 dX3_tellRow_6 (by decide) (fun q4 => ?_) (fun q4 => ?_)
      · skip
        exact g_return dX3_tellRow_49 rfl (hPo _ ⟨hMh3, (Fr.sub hFh3 rfl)⟩)
      · skip
        refine g_aload_n dX3_tellRow_9 rfl ?_
        refine gR_X3_15 rfl dX3_tellRow_10 sh_71 (b := 72) (m_71_1 hMh3) ?_
        refine g_iload_n dX3_tellRow_13 rfl (fun _ => ?_)
        refine g_aload_n dX3_tellRow_14 rfl ?_
        refine g_iload_n dX3_tellRow_15 rfl (fun _ => ?_)
        refine g_iload_n dX3_tellRow_16 rfl (fun _ => ?_)
        refine g_cVP (as := [_, _]) (c_X3_leastBorrower_71 _ _ h3 hMh3 (by omega) (by omega) (by omega) (by omega)) dX3_tellRow_17 mi_X3_leastBorrower in_X3_leastBorrower se_X3_leastBorrower ml_X3_69 rfl rfl rfl sh_71 rfl rfl (Nat.le_of_ble_eq_true rfl) (fun v5 q6 => ?_)
        obtain ⟨bv5, cv5⟩ := q6
        refine g_iastB dX3_tellRow_20 sh_72 (by omega) (by omega) (fun h7 eh7 => ?_)
        have hFh7 := Fr.ar eh7
        have hMh7 := u_72 hMh3 eh7 (by omega) (by omega)
        refine g_aload_n dX3_tellRow_21 rfl ?_
        refine gR_X3_15 rfl dX3_tellRow_22 sh_71 (b := 72) (m_71_1 hMh7) ?_
        refine g_iload_n dX3_tellRow_25 rfl (fun _ => ?_)
        refine g_ialdE dX3_tellRow_26 sh_72 (by omega) (by omega) (st_at eh7) ?_
        refine g_bipush dX3_tellRow_27 (inR_c rfl) (by decide) ?_
        refine g_icmp_eq 43 dX3_tellRow_29 (by decide) (fun q8 => ?_) (fun q8 => ?_)
        · skip
          refine g_iincB dX3_tellRow_43 rfl rfl (by omega) (by omega) ?_
          refine g_goto 4 dX3_tellRow_46 (by decide) ?_
          exact ih4 _ _ _ hMh7 (Fr.tr (Fr.sub hFh3 rfl) hFh7 rfl) (by omega) (by omega) (by omega) (by omega) (by omega)
        · skip
          refine g_iload_n dX3_tellRow_32 rfl (fun _ => ?_)
          refine g_iconst dX3_tellRow_33 (inR_c rfl) ?_
          refine g_aload_n dX3_tellRow_34 rfl ?_
          refine gR_X3_15 rfl dX3_tellRow_35 sh_71 (b := 72) (m_71_1 hMh7) ?_
          refine g_iload_n dX3_tellRow_38 rfl (fun _ => ?_)
          refine g_ialdE dX3_tellRow_39 sh_72 (by omega) (by omega) (st_at eh7) ?_
          refine g_ishlX (lo := 1) (hi := 128) dX3_tellRow_40 (ishl1_b 7 (by decide) (by omega) (by omega)) (fun v9 ev9 bv9 cv9 => ?_)
          refine g_iorX (lo := 0) (hi := 255) dX3_tellRow_41 (ior_b 8 (by decide) (by omega) (by omega) (by omega) (by omega)) (fun v10 ev10 bv10 cv10 => ?_)
          refine g_istore_n dX3_tellRow_42 (by decide) rfl ?_
          refine g_iincB dX3_tellRow_43 rfl rfl (by omega) (by omega) ?_
          refine g_goto 4 dX3_tellRow_46 (by decide) ?_
          exact ih4 _ _ _ hMh7 (Fr.tr (Fr.sub hFh3 rfl) hFh7 rfl) (by omega) (by omega) (by omega) (by omega) (by omega)
  refine g_istore_n dX3_tellRow_3 (by decide) rfl ?_
  exact c4 9 _ _ _ hM Fr.rf (by omega) (by omega) (by omega) (by omega) (by omega)
set_option maxRecDepth 100000 in
set_option maxHeartbeats 4000000 in
theorem c_X3_mostFrom_71 (x1 x2 : Int) (h : MEM) (hM : MBx h) (bx1 : 0 ≤ x1) (dx1 : x1 ≤ 7) (bx2 : 0 ≤ x2) (dx2 : x2 ≤ 255) : CP yX3_mostFrom cX3_mostFrom 5 (some .int) 1 [pR 71, pI x1, pI x2] h (fun x => -2147483648 ≤ x ∧ x ≤ 2147483647) := by
  refine CP.of (L0 := [some (pR 71), some (pI x1), some (pI x2), none, none]) rfl (Nat.le_of_ble_eq_true rfl) rfl (fun Po hPo hav => ?_)
  refine g_aload_n dX3_mostFrom_0 rfl ?_
  refine gR_X3_22 rfl dX3_mostFrom_1 sh_71 (b := 74) (m_71_3 hM) ?_
  refine g_iload_n dX3_mostFrom_4 rfl (fun _ => ?_)
  refine g_iconst dX3_mostFrom_5 (inR_c rfl) ?_
  refine g_iaddB dX3_mostFrom_6 (by omega) (by omega) ?_
  refine g_sipush dX3_mostFrom_7 (inR_c rfl) (by decide) ?_
  refine g_imulB dX3_mostFrom_10 (by omega) (by omega) ?_
  refine g_iload_n dX3_mostFrom_11 rfl (fun _ => ?_)
  refine g_iaddB dX3_mostFrom_12 (by omega) (by omega) ?_
  refine g_ialdB dX3_mostFrom_13 sh_74 (by omega) (by omega) (m_74 hM _) (fun v1 ev1 bv1 cv1 => ?_)
  refine g_istore_n dX3_mostFrom_14 (by decide) rfl ?_
  refine g_iconst dX3_mostFrom_15 (inR_c rfl) ?_
  have c18 : ∀ (n : Nat) (y2 y3 : Int) , -2147483648 ≤ y2 → y2 ≤ 2147483647 → 0 ≤ y3 → y3 ≤ 8 → 8 - y3 < (n : Int) → G yX3_mostFrom cX3_mostFrom 5 (some .int) none Po (1, 60, 0, 0) 18 [some (pR 71), some (pI x1), some (pI x2), some (pI y2), some (pI y3)] [] SH h 0 0 := by
    intro n
    induction n with
    | zero =>
      intro y2 y3 by2 dy2 by3 dy3 hn
      exfalso; omega
    | succ n ih18 =>
      intro y2 y3 by2 dy2 by3 dy3 hn
      refine g_iload dX3_mostFrom_18 rfl (fun _ => ?_)
      refine g_bipush dX3_mostFrom_20 (inR_c rfl) (by decide) ?_
      refine g_icmp_ge 75 dX3_mostFrom_22 (by decide) (fun q4 => ?_) (fun q4 => ?_)
      · skip
        refine g_iload_n dX3_mostFrom_75 rfl (fun _ => ?_)
        exact g_ireturn dX3_mostFrom_76 retI (hPo _ ⟨(by omega), (by omega)⟩)
      · skip
        refine g_aload_n dX3_mostFrom_25 rfl ?_
        refine gR_X3_19 rfl dX3_mostFrom_26 sh_71 (b := 73) (m_71_2 hM) ?_
        refine g_iload_n dX3_mostFrom_29 rfl (fun _ => ?_)
        refine g_ialdB dX3_mostFrom_30 sh_73 (by omega) (by omega) (m_73 hM _) (fun v5 ev5 bv5 cv5 => ?_)
        refine g_iload_n dX3_mostFrom_31 rfl (fun _ => ?_)
        refine g_iconst dX3_mostFrom_32 (inR_c rfl) ?_
        refine g_ixorF dX3_mostFrom_33 (fun v6 ev6 bv6 cv6 => ?_)
        refine g_iandF dX3_mostFrom_34 (fun v7 ev7 bv7 cv7 => ?_)
        refine g_iconst dX3_mostFrom_35 (inR_c rfl) ?_
        refine g_iload dX3_mostFrom_36 rfl (fun _ => ?_)
        refine g_ishlX (lo := 1) (hi := 128) dX3_mostFrom_38 (ishl1_b 7 (by decide) (by omega) (by omega)) (fun v8 ev8 bv8 cv8 => ?_)
        refine g_iandX (lo := 0) (hi := v8) dX3_mostFrom_39 (iand_r (by omega) (by omega)) (fun v9 ev9 bv9 cv9 => ?_)
        refine g_if_eq 69 dX3_mostFrom_40 (by decide) (fun q10 => ?_) (fun q10 => ?_)
        · skip
          refine g_iincB dX3_mostFrom_69 rfl rfl (by omega) (by omega) ?_
          refine g_goto 18 dX3_mostFrom_72 (by decide) ?_
          exact ih18 _ _ (by omega) (by omega) (by omega) (by omega) (by omega)
        · skip
          refine g_iload_n dX3_mostFrom_43 rfl (fun _ => ?_)
          refine g_iconst dX3_mostFrom_44 (inR_c rfl) ?_
          refine g_aload_n dX3_mostFrom_45 rfl ?_
          refine gR_X3_22 rfl dX3_mostFrom_46 sh_71 (b := 74) (m_71_3 hM) ?_
          refine g_iload_n dX3_mostFrom_49 rfl (fun _ => ?_)
          refine g_iconst dX3_mostFrom_50 (inR_c rfl) ?_
          refine g_iaddB dX3_mostFrom_51 (by omega) (by omega) ?_
          refine g_sipush dX3_mostFrom_52 (inR_c rfl) (by decide) ?_
          refine g_imulB dX3_mostFrom_55 (by omega) (by omega) ?_
          refine g_iload_n dX3_mostFrom_56 rfl (fun _ => ?_)
          refine g_iconst dX3_mostFrom_57 (inR_c rfl) ?_
          refine g_iload dX3_mostFrom_58 rfl (fun _ => ?_)
          refine g_ishlX (lo := 1) (hi := 128) dX3_mostFrom_60 (ishl1_b 7 (by decide) (by omega) (by omega)) (fun v11 ev11 bv11 cv11 => ?_)
          refine g_iorX (lo := 0) (hi := 255) dX3_mostFrom_61 (ior_b 8 (by decide) (by omega) (by omega) (by omega) (by omega)) (fun v12 ev12 bv12 cv12 => ?_)
          refine g_iaddB dX3_mostFrom_62 (by omega) (by omega) ?_
          refine g_ialdB dX3_mostFrom_63 sh_74 (by omega) (by omega) (m_74 hM _) (fun v13 ev13 bv13 cv13 => ?_)
          refine g_iaddF dX3_mostFrom_64 (fun v14 bv14 cv14 => ?_)
          refine g_mmax dX3_mostFrom_65 ml_X3_64 (Nat.le_of_ble_eq_true rfl) (Nat.le_of_ble_eq_true rfl) trivial (fun v15 ev15 => ?_)
          have bv15 : -2147483648 ≤ v15 ∧ v15 ≤ 2147483647 := by omega
          refine g_istore_n dX3_mostFrom_68 (by decide) rfl ?_
          refine g_iincB dX3_mostFrom_69 rfl rfl (by omega) (by omega) ?_
          refine g_goto 18 dX3_mostFrom_72 (by decide) ?_
          exact ih18 _ _ (by omega) (by omega) (by omega) (by omega) (by omega)
  refine g_istore dX3_mostFrom_16 (by decide) rfl ?_
  exact c18 9 _ _ (by omega) (by omega) (by omega) (by omega) (by omega)
set_option maxRecDepth 100000 in
set_option maxHeartbeats 4000000 in
theorem c_X3_borrowersOf_1 (x1 x2 : Int) (h : MEM) (hM : MBx h) (bx1 : 0 ≤ x1) (dx1 : x1 ≤ 7) (bx2 : 1 ≤ x2) (dx2 : x2 ≤ 99) : CP yX3_borrowersOf cX3_borrowersOf 5 (some .int) 1 [pR 1, pI x1, pI x2] h (fun x => 0 ≤ x ∧ x ≤ 255) := by
  refine CP.of (L0 := [some (pR 1), some (pI x1), some (pI x2), none, none]) rfl (Nat.le_of_ble_eq_true rfl) rfl (fun Po hPo hav => ?_)
  refine g_iconst dX3_borrowersOf_0 (inR_c rfl) ?_
  refine g_istore_n dX3_borrowersOf_1 (by decide) rfl ?_
  refine g_iconst dX3_borrowersOf_2 (inR_c rfl) ?_
  have c5 : ∀ (n : Nat) (y1 y2 : Int) , 0 ≤ y1 → y1 ≤ 255 → 0 ≤ y2 → y2 ≤ 8 → 8 - y2 < (n : Int) → G yX3_borrowersOf cX3_borrowersOf 5 (some .int) none Po (1, 60, 0, 0) 5 [some (pR 1), some (pI x1), some (pI x2), some (pI y1), some (pI y2)] [] SH h 0 0 := by
    intro n
    induction n with
    | zero =>
      intro y1 y2 by1 dy1 by2 dy2 hn
      exfalso; omega
    | succ n ih5 =>
      intro y1 y2 by1 dy1 by2 dy2 hn
      refine g_iload dX3_borrowersOf_5 rfl (fun _ => ?_)
      refine g_aload_n dX3_borrowersOf_7 rfl ?_
      refine gR_X3_36 rfl dX3_borrowersOf_8 sh_1 (b := 6) (m_1_1 hM) ?_
      refine gI_X3_40 rfl dX3_borrowersOf_11 sh_6 (m_6_0 hM) (fun v3 ev3 bv3 cv3 => ?_)
      refine g_icmp_ge 71 dX3_borrowersOf_14 (by decide) (fun q4 => ?_) (fun q4 => ?_)
      · skip
        refine g_iload_n dX3_borrowersOf_71 rfl (fun _ => ?_)
        exact g_ireturn dX3_borrowersOf_72 retI (hPo _ ⟨(by omega), (by omega)⟩)
      · skip
        refine g_aload_n dX3_borrowersOf_17 rfl ?_
        refine gR_X3_25 rfl dX3_borrowersOf_18 sh_1 (b := 12) (m_1_2 hM) ?_
        refine gR_X3_55 rfl dX3_borrowersOf_21 sh_12 (b := 16) (m_12_4 hM) ?_
        refine g_iload_n dX3_borrowersOf_24 rfl (fun _ => ?_)
        refine g_ialdB dX3_borrowersOf_25 sh_16 (by omega) (by omega) (m_16 hM _) (fun v5 ev5 bv5 cv5 => ?_)
        refine g_if_le 65 dX3_borrowersOf_26 (by decide) (fun q6 => ?_) (fun q6 => ?_)
        · skip
          refine g_iincB dX3_borrowersOf_65 rfl rfl (by omega) (by omega) ?_
          refine g_goto 5 dX3_borrowersOf_68 (by decide) ?_
          exact ih5 _ _ (by omega) (by omega) (by omega) (by omega) (by omega)
        · skip
          refine g_aload_n dX3_borrowersOf_29 rfl ?_
          refine gR_X3_36 rfl dX3_borrowersOf_30 sh_1 (b := 6) (m_1_1 hM) ?_
          refine gR_X3_58 rfl dX3_borrowersOf_33 sh_6 (b := 9) (m_6_3 hM) ?_
          refine g_iload dX3_borrowersOf_36 rfl (fun _ => ?_)
          refine g_ialdB dX3_borrowersOf_38 sh_9 (by omega) (by omega) (m_9 hM _) (fun v7 ev7 bv7 cv7 => ?_)
          refine g_if_ne 65 dX3_borrowersOf_39 (by decide) (fun q8 => ?_) (fun q8 => ?_)
          · skip
            refine g_iincB dX3_borrowersOf_65 rfl rfl (by omega) (by omega) ?_
            refine g_goto 5 dX3_borrowersOf_68 (by decide) ?_
            exact ih5 _ _ (by omega) (by omega) (by omega) (by omega) (by omega)
          · skip
            refine g_aload_n dX3_borrowersOf_42 rfl ?_
            refine gR_X3_61 rfl dX3_borrowersOf_43 sh_1 (b := 18) (m_1_4 hM) ?_
            refine g_iload dX3_borrowersOf_46 rfl (fun _ => ?_)
            refine g_bipush dX3_borrowersOf_48 (inR_c rfl) (by decide) ?_
            refine g_imulB dX3_borrowersOf_50 (by omega) (by omega) ?_
            refine g_iload_n dX3_borrowersOf_51 rfl (fun _ => ?_)
            refine g_iaddB dX3_borrowersOf_52 (by omega) (by omega) ?_
            refine g_ialdB dX3_borrowersOf_53 sh_18 (by omega) (by omega) (m_18 hM _) (fun v9 ev9 bv9 cv9 => ?_)
            refine g_iload_n dX3_borrowersOf_54 rfl (fun _ => ?_)
            refine g_icmp_lt 65 dX3_borrowersOf_55 (by decide) (fun q10 => ?_) (fun q10 => ?_)
            · skip
              refine g_iincB dX3_borrowersOf_65 rfl rfl (by omega) (by omega) ?_
              refine g_goto 5 dX3_borrowersOf_68 (by decide) ?_
              exact ih5 _ _ (by omega) (by omega) (by omega) (by omega) (by omega)
            · skip
              refine g_iload_n dX3_borrowersOf_58 rfl (fun _ => ?_)
              refine g_iconst dX3_borrowersOf_59 (inR_c rfl) ?_
              refine g_iload dX3_borrowersOf_60 rfl (fun _ => ?_)
              refine g_ishlX (lo := 1) (hi := 128) dX3_borrowersOf_62 (ishl1_b 7 (by decide) (by omega) (by omega)) (fun v11 ev11 bv11 cv11 => ?_)
              refine g_iorX (lo := 0) (hi := 255) dX3_borrowersOf_63 (ior_b 8 (by decide) (by omega) (by omega) (by omega) (by omega)) (fun v12 ev12 bv12 cv12 => ?_)
              refine g_istore_n dX3_borrowersOf_64 (by decide) rfl ?_
              refine g_iincB dX3_borrowersOf_65 rfl rfl (by omega) (by omega) ?_
              refine g_goto 5 dX3_borrowersOf_68 (by decide) ?_
              exact ih5 _ _ (by omega) (by omega) (by omega) (by omega) (by omega)
  refine g_istore dX3_borrowersOf_3 (by decide) rfl ?_
  exact c5 9 _ _ (by omega) (by omega) (by omega) (by omega) (by omega)
set_option maxRecDepth 100000 in
set_option maxHeartbeats 4000000 in
theorem c_X3_plan_71_1 (x1 : Int) (h : MEM) (hM : MBx h) (bx1 : 1 ≤ x1) (dx1 : x1 ≤ 99) : CV yX3_plan cX3_plan 7 (none) 3 [pR 71, pR 1, pI x1] h (fun h' => MBx h' ∧ Fr [(71, 1), (72, 0), (73, 0), (74, 0)] h h') := by
  refine CV.of (L0 := [some (pR 71), some (pR 1), some (pI x1), none, none, none, none]) rfl (Nat.le_of_ble_eq_true rfl) rfl (fun Po hPo hav => ?_)
  refine g_aload_n dX3_plan_0 rfl ?_
  refine gR_X3_25 rfl dX3_plan_1 sh_1 (b := 12) (m_1_2 hM) ?_
  refine gI_X3_31 rfl dX3_plan_4 sh_12 (m_12_0 hM) (fun v1 ev1 bv1 cv1 => ?_)
  refine g_istore_n dX3_plan_7 (by decide) rfl ?_
  refine g_iconst dX3_plan_8 (inR_c rfl) ?_
  refine g_aload_n dX3_plan_9 rfl ?_
  refine gR_X3_36 rfl dX3_plan_10 sh_1 (b := 6) (m_1_1 hM) ?_
  refine gI_X3_40 rfl dX3_plan_13 sh_6 (m_6_0 hM) (fun v2 ev2 bv2 cv2 => ?_)
  refine g_ishlX (lo := 1) (hi := 256) dX3_plan_16 (ishl1_b 8 (by decide) (by omega) (by omega)) (fun v3 ev3 bv3 cv3 => ?_)
  refine g_istore dX3_plan_17 (by decide) rfl ?_
  refine g_iconst dX3_plan_19 (inR_c rfl) ?_
  have c22 : ∀ (n : Nat) (y4 : Int) (h5 : MEM), MBx h5 → Fr [(73, 0)] h h5 → 0 ≤ y4 → y4 ≤ 8 → 8 - y4 < (n : Int) → G yX3_plan cX3_plan 7 (none) none Po (3, 180, 0, 0) 22 [some (pR 71), some (pR 1), some (pI x1), some (pI v1), some (pI v3), some (pI y4), none] [] SH h5 0 0 := by
    intro n
    induction n with
    | zero =>
      intro y4 h5 hMh5 hFh5 by4 dy4 hn
      exfalso; omega
    | succ n ih22 =>
      intro y4 h5 hMh5 hFh5 by4 dy4 hn
      refine g_iload dX3_plan_22 rfl (fun _ => ?_)
      refine g_iload_n dX3_plan_24 rfl (fun _ => ?_)
      refine g_icmp_ge 48 dX3_plan_25 (by decide) (fun q6 => ?_) (fun q6 => ?_)
      · skip
        refine g_iconst dX3_plan_48 (inR_c rfl) ?_
        have c51 : ∀ (n : Nat) (y7 : Int) (h8 : MEM), MBx h8 → Fr [(74, 0)] h5 h8 → 0 ≤ y7 → y7 ≤ 256 → 256 - y7 < (n : Int) → G yX3_plan cX3_plan 7 (none) none Po (3, 180, 0, 0) 51 [some (pR 71), none, none, some (pI v1), some (pI v3), some (pI y7), none] [] SH h8 0 0 := by
          intro n
          induction n with
          | zero =>
            intro y7 h8 hMh8 hFh8 by7 dy7 hn
            exfalso; omega
          | succ n ih51 =>
            intro y7 h8 hMh8 hFh8 by7 dy7 hn
            refine g_iload dX3_plan_51 rfl (fun _ => ?_)
            refine g_iload dX3_plan_53 rfl (fun _ => ?_)
            refine g_icmp_ge 78 dX3_plan_55 (by decide) (fun q9 => ?_) (fun q9 => ?_)
            · skip
              refine g_iload_n dX3_plan_78 rfl (fun _ => ?_)
              refine g_iconst dX3_plan_79 (inR_c rfl) ?_
              refine g_isubB dX3_plan_80 (by omega) (by omega) ?_
              have c83 : ∀ (n : Nat) (y10 : Int) (h11 : MEM), MBx h11 → Fr [(74, 0)] h8 h11 → -1 ≤ y10 → y10 ≤ 7 → y10 - (-1) < (n : Int) → G yX3_plan cX3_plan 7 (none) none Po (3, 180, 0, 0) 83 [some (pR 71), none, none, some (pI v1), some (pI v3), some (pI y10), none] [] SH h11 0 0 := by
                intro n
                induction n with
                | zero =>
                  intro y10 h11 hMh11 hFh11 by10 dy10 hn
                  exfalso; omega
                | succ n ih83 =>
                  intro y10 h11 hMh11 hFh11 by10 dy10 hn
                  refine g_iload dX3_plan_83 rfl (fun _ => ?_)
                  refine g_if_lt 132 dX3_plan_85 (by decide) (fun q12 => ?_) (fun q12 => ?_)
                  · skip
                    refine g_aload_n dX3_plan_132 rfl ?_
                    refine g_aload_n dX3_plan_133 rfl ?_
                    refine gR_X3_22 rfl dX3_plan_134 sh_71 (b := 74) (m_71_3 hMh11) ?_
                    refine g_iconst dX3_plan_137 (inR_c rfl) ?_
                    refine g_ialdB dX3_plan_138 sh_74 (by omega) (by omega) (m_74 hMh11 _) (fun v13 ev13 bv13 cv13 => ?_)
                    refine pI_X3_9 rfl dX3_plan_139 sh_71 (fun h14 eh14 => ?_)
                    have hFh14 := Fr.st eh14
                    have hMh14 := u_71_0 hMh11 eh14 (by omega) (by omega)
                    refine g_aload_n dX3_plan_142 rfl ?_
                    refine g_iload_n dX3_plan_143 rfl (fun _ => ?_)
                    refine g_cVV (as := [_]) (c_X3_tellRow_71 _ h14 hMh14 (by omega) (by omega)) dX3_plan_144 mi_X3_tellRow in_X3_tellRow se_X3_tellRow ml_X3_51 rfl rfl rfl sh_71 rfl rfl (Nat.le_of_ble_eq_true rfl) (fun h15 q16 => ?_)
                    obtain ⟨hMh15, hFh15⟩ := q16
                    exact g_return dX3_plan_147 rfl (hPo _ ⟨hMh15, (Fr.tr (Fr.tr (Fr.tr (Fr.tr (Fr.sub hFh5 rfl) hFh8 rfl) hFh11 rfl) hFh14 rfl) hFh15 rfl)⟩)
                  · skip
                    refine g_iconst dX3_plan_88 (inR_c rfl) ?_
                    have c91 : ∀ (n : Nat) (y17 : Int) (h18 : MEM), MBx h18 → Fr [(74, 0)] h11 h18 → 0 ≤ y17 → y17 ≤ 256 → 256 - y17 < (n : Int) → G yX3_plan cX3_plan 7 (none) none Po (3, 180, 0, 0) 91 [some (pR 71), none, none, some (pI v1), some (pI v3), some (pI y10), some (pI y17)] [] SH h18 0 0 := by
                      intro n
                      induction n with
                      | zero =>
                        intro y17 h18 hMh18 hFh18 by17 dy17 hn
                        exfalso; omega
                      | succ n ih91 =>
                        intro y17 h18 hMh18 hFh18 by17 dy17 hn
                        refine g_iload dX3_plan_91 rfl (fun _ => ?_)
                        refine g_iload dX3_plan_93 rfl (fun _ => ?_)
                        refine g_icmp_ge 126 dX3_plan_95 (by decide) (fun q19 => ?_) (fun q19 => ?_)
                        · skip
                          refine g_iincB dX3_plan_126 rfl rfl (by omega) (by omega) ?_
                          refine g_goto 83 dX3_plan_129 (by decide) ?_
                          refine g_drop 6 ?_
                          exact ih83 _ _ hMh18 (Fr.tr (Fr.sub hFh11 rfl) hFh18 rfl) (by omega) (by omega) (by omega)
                        · skip
                          refine g_aload_n dX3_plan_98 rfl ?_
                          refine gR_X3_22 rfl dX3_plan_99 sh_71 (b := 74) (m_71_3 hMh18) ?_
                          refine g_iload dX3_plan_102 rfl (fun _ => ?_)
                          refine g_sipush dX3_plan_104 (inR_c rfl) (by decide) ?_
                          refine g_imulB dX3_plan_107 (by omega) (by omega) ?_
                          refine g_iload dX3_plan_108 rfl (fun _ => ?_)
                          refine g_iaddB dX3_plan_110 (by omega) (by omega) ?_
                          refine g_aload_n dX3_plan_111 rfl ?_
                          refine g_iload dX3_plan_112 rfl (fun _ => ?_)
                          refine g_iload dX3_plan_114 rfl (fun _ => ?_)
                          refine g_cVP (as := [_, _]) (c_X3_mostFrom_71 _ _ h18 hMh18 (by omega) (by omega) (by omega) (by omega)) dX3_plan_116 mi_X3_mostFrom in_X3_mostFrom se_X3_mostFrom ml_X3_47 rfl rfl rfl sh_71 rfl rfl (Nat.le_of_ble_eq_true rfl) (fun v20 q21 => ?_)
                          obtain ⟨bv20, cv20⟩ := q21
                          refine g_iastB dX3_plan_119 sh_74 (by omega) (by omega) (fun h22 eh22 => ?_)
                          have hFh22 := Fr.ar eh22
                          have hMh22 := u_74 hMh18 eh22 (by omega) (by omega)
                          refine g_iincB dX3_plan_120 rfl rfl (by omega) (by omega) ?_
                          refine g_goto 91 dX3_plan_123 (by decide) ?_
                          exact ih91 _ _ hMh22 (Fr.tr (Fr.sub hFh18 rfl) hFh22 rfl) (by omega) (by omega) (by omega)
                    refine g_istore dX3_plan_89 (by decide) rfl ?_
                    exact c91 257 _ _ hMh11 Fr.rf (by omega) (by omega) (by omega)
              refine g_istore dX3_plan_81 (by decide) rfl ?_
              exact c83 9 _ _ hMh8 Fr.rf (by omega) (by omega) (by omega)
            · skip
              refine g_aload_n dX3_plan_58 rfl ?_
              refine gR_X3_22 rfl dX3_plan_59 sh_71 (b := 74) (m_71_3 hMh8) ?_
              refine g_iload_n dX3_plan_62 rfl (fun _ => ?_)
              refine g_sipush dX3_plan_63 (inR_c rfl) (by decide) ?_
              refine g_imulB dX3_plan_66 (by omega) (by omega) ?_
              refine g_iload dX3_plan_67 rfl (fun _ => ?_)
              refine g_iaddB dX3_plan_69 (by omega) (by omega) ?_
              refine g_iconst dX3_plan_70 (inR_c rfl) ?_
              refine g_iastB dX3_plan_71 sh_74 (by omega) (by omega) (fun h23 eh23 => ?_)
              have hFh23 := Fr.ar eh23
              have hMh23 := u_74 hMh8 eh23 (by omega) (by omega)
              refine g_iincB dX3_plan_72 rfl rfl (by omega) (by omega) ?_
              refine g_goto 51 dX3_plan_75 (by decide) ?_
              exact ih51 _ _ hMh23 (Fr.tr (Fr.sub hFh8 rfl) hFh23 rfl) (by omega) (by omega) (by omega)
        refine g_istore dX3_plan_49 (by decide) rfl ?_
        refine g_drop 1 ?_
        refine g_drop 2 ?_
        exact c51 257 _ _ hMh5 Fr.rf (by omega) (by omega) (by omega)
      · skip
        refine g_aload_n dX3_plan_28 rfl ?_
        refine gR_X3_19 rfl dX3_plan_29 sh_71 (b := 73) (m_71_2 hMh5) ?_
        refine g_iload dX3_plan_32 rfl (fun _ => ?_)
        refine g_aload_n dX3_plan_34 rfl ?_
        refine g_iload dX3_plan_35 rfl (fun _ => ?_)
        refine g_iload_n dX3_plan_37 rfl (fun _ => ?_)
        refine g_cSP (av := [_, _, _]) (c_X3_borrowersOf_1 _ _ h5 hMh5 (by omega) (by omega) (by omega) (by omega)) dX3_plan_38 mi_X3_borrowersOf st_X3_borrowersOf ml_X3_43 rfl rfl rfl rfl (Nat.le_of_ble_eq_true rfl) (fun v24 q25 => ?_)
        obtain ⟨bv24, cv24⟩ := q25
        refine g_iastB dX3_plan_41 sh_73 (by omega) (by omega) (fun h26 eh26 => ?_)
        have hFh26 := Fr.ar eh26
        have hMh26 := u_73 hMh5 eh26 (by omega) (by omega)
        refine g_iincB dX3_plan_42 rfl rfl (by omega) (by omega) ?_
        refine g_goto 22 dX3_plan_45 (by decide) ?_
        exact ih22 _ _ hMh26 (Fr.tr (Fr.sub hFh5 rfl) hFh26 rfl) (by omega) (by omega) (by omega)
  refine g_istore dX3_plan_20 (by decide) rfl ?_
  exact c22 9 _ _ hM Fr.rf (by omega) (by omega) (by omega)
set_option maxRecDepth 100000 in
set_option maxHeartbeats 4000000 in
theorem c_X3_handOut_71_1 (h : MEM) (hM : MBx h) : CV yX3_handOut cX3_handOut 3 (none) 2 [pR 71, pR 1] h (fun h' => MBx h' ∧ Fr [(9, 0)] h h') := by
  refine CV.of (L0 := [some (pR 71), some (pR 1), none]) rfl (Nat.le_of_ble_eq_true rfl) rfl (fun Po hPo hav => ?_)
  refine g_iconst dX3_handOut_0 (inR_c rfl) ?_
  have c2 : ∀ (n : Nat) (y1 : Int) (h2 : MEM), MBx h2 → Fr [(9, 0)] h h2 → 0 ≤ y1 → y1 ≤ 8 → 8 - y1 < (n : Int) → G yX3_handOut cX3_handOut 3 (none) none Po (2, 120, 0, 0) 2 [some (pR 71), some (pR 1), some (pI y1)] [] SH h2 0 0 := by
    intro n
    induction n with
    | zero =>
      intro y1 h2 hMh2 hFh2 by1 dy1 hn
      exfalso; omega
    | succ n ih2 =>
      intro y1 h2 hMh2 hFh2 by1 dy1 hn
      refine g_iload_n dX3_handOut_2 rfl (fun _ => ?_)
      refine g_aload_n dX3_handOut_3 rfl ?_
      refine gR_X3_25 rfl dX3_handOut_4 sh_1 (b := 12) (m_1_2 hMh2) ?_
      refine gI_X3_31 rfl dX3_handOut_7 sh_12 (m_12_0 hMh2) (fun v3 ev3 bv3 cv3 => ?_)
      refine g_icmp_ge 50 dX3_handOut_10 (by decide) (fun q4 => ?_) (fun q4 => ?_)
      · skip
        exact g_return dX3_handOut_50 rfl (hPo _ ⟨hMh2, (Fr.sub hFh2 rfl)⟩)
      · skip
        refine g_aload_n dX3_handOut_13 rfl ?_
        refine gR_X3_36 rfl dX3_handOut_14 sh_1 (b := 6) (m_1_1 hMh2) ?_
        refine g_aload_n dX3_handOut_17 rfl ?_
        refine gR_X3_15 rfl dX3_handOut_18 sh_71 (b := 72) (m_71_1 hMh2) ?_
        refine g_iload_n dX3_handOut_21 rfl (fun _ => ?_)
        refine g_ialdB dX3_handOut_22 sh_72 (by omega) (by omega) (m_72 hMh2 _) (fun v5 ev5 bv5 cv5 => ?_)
        refine g_cVP (as := [_]) (c_X0_has_6 _ h2 hMh2 (by omega) (by omega)) dX3_handOut_23 mi_X0_has in_X0_has se_X0_has ml_X3_72 rfl rfl rfl sh_6 rfl rfl (Nat.le_of_ble_eq_true rfl) (fun v6 q7 => ?_)
        have q8 : h2 6 0 = h 6 0 := (hFh2 6 0 rfl)
        obtain ⟨v9, ev9⟩ : ∃ z, z = h2 6 0 := ⟨_, rfl⟩
        have bv9 : 0 ≤ v9 ∧ v9 ≤ 8 := by rw [ev9]; exact (m_6_0 hMh2)
        rcases q7 with ⟨rfl, q7⟩ | ⟨rfl, q7⟩
        · skip
          refine g_if_eq 44 dX3_handOut_26 (by decide) (fun _ => by exfalso; omega) (fun q10 => ?_)
          refine g_aload_n dX3_handOut_29 rfl ?_
          refine gR_X3_36 rfl dX3_handOut_30 sh_1 (b := 6) (m_1_1 hMh2) ?_
          refine gR_X3_58 rfl dX3_handOut_33 sh_6 (b := 9) (m_6_3 hMh2) ?_
          refine g_aload_n dX3_handOut_36 rfl ?_
          refine gR_X3_15 rfl dX3_handOut_37 sh_71 (b := 72) (m_71_1 hMh2) ?_
          refine g_iload_n dX3_handOut_40 rfl (fun _ => ?_)
          refine g_ialdE dX3_handOut_41 sh_72 (by omega) (by omega) ev5.symm ?_
          refine g_iconst dX3_handOut_42 (inR_c rfl) ?_
          refine g_iastB dX3_handOut_43 sh_9 (by omega) (by omega) (fun h11 eh11 => ?_)
          have hFh11 := Fr.ar eh11
          have hMh11 := u_9 hMh2 eh11 (by omega) (by omega)
          refine g_iincB dX3_handOut_44 rfl rfl (by omega) (by omega) ?_
          refine g_goto 2 dX3_handOut_47 (by decide) ?_
          exact ih2 _ _ hMh11 (Fr.tr (Fr.sub hFh2 rfl) hFh11 rfl) (by omega) (by omega) (by omega)
        · skip
          refine g_if_eq 44 dX3_handOut_26 (by decide) (fun q12 => ?_) (fun _ => by exfalso; omega)
          refine g_iincB dX3_handOut_44 rfl rfl (by omega) (by omega) ?_
          refine g_goto 2 dX3_handOut_47 (by decide) ?_
          exact ih2 _ _ hMh2 (Fr.sub hFh2 rfl) (by omega) (by omega) (by omega)
  refine g_istore_n dX3_handOut_1 (by decide) rfl ?_
  exact c2 9 _ _ hM Fr.rf (by omega) (by omega) (by omega)
set_option maxRecDepth 100000 in
set_option maxHeartbeats 4000000 in
theorem c_X11_lent_0 (x1 x2 : Int) (h : MEM) (hM : MBx h) (bx1 : -2147483648 ≤ x1) (dx1 : x1 ≤ 2147483647) (bx2 : -2147483648 ≤ x2) (dx2 : x2 ≤ 2147483647) : CI yX11_lent cX11_lent 4 (some .int) 4 [pR 0, pI x1, pI x2] h (fun x h' => MBx h' ∧ Fr [(9, 0), (71, 1), (72, 0), (73, 0), (74, 0)] h h' ∧ -2147483648 ≤ x ∧ x ≤ 2147483647) := by
  refine CI.of (L0 := [some (pR 0), some (pI x1), some (pI x2), none]) rfl (Nat.le_of_ble_eq_true rfl) rfl (fun Po hPo hav => ?_)
  refine g_aload_n dX11_lent_0 rfl ?_
  refine gR_X11_10 rfl dX11_lent_1 sh_0 (b := 1) (m_0_0 hM) ?_
  refine gR_X11_104 rfl dX11_lent_4 sh_1 (b := 12) (m_1_2 hM) ?_
  refine g_iload_n dX11_lent_7 rfl (fun _ => ?_)
  refine g_cVP (as := [_]) (c_X4_has_12 _ h hM (by omega) (by omega)) dX11_lent_8 mi_X4_has in_X4_has se_X4_has ml_X11_124 rfl rfl rfl sh_12 rfl rfl (Nat.le_of_ble_eq_true rfl) (fun v1 q2 => ?_)
  obtain ⟨v3, ev3⟩ : ∃ z, z = h 12 0 := ⟨_, rfl⟩
  have bv3 : 0 ≤ v3 ∧ v3 ≤ 8 := by rw [ev3]; exact (m_12_0 hM)
  rcases q2 with ⟨rfl, q2⟩ | ⟨rfl, q2⟩
  · skip
    refine g_istore_n dX11_lent_11 (by decide) rfl ?_
    refine g_iload_n dX11_lent_12 rfl (fun _ => ?_)
    refine g_iconst dX11_lent_13 (inR_c rfl) ?_
    refine g_bipush dX11_lent_14 (inR_c rfl) (by decide) ?_
    refine g_cSP (av := [_, _, _]) (c_X11_isWithin _ _ _ h hM (by omega) (by omega) (by omega) (by omega) (by omega) (by omega)) dX11_lent_16 mi_X11_isWithin st_X11_isWithin ml_X11_81 rfl rfl rfl rfl (Nat.le_of_ble_eq_true rfl) (fun v4 q5 => ?_)
    rcases q5 with ⟨rfl, q5⟩ | ⟨rfl, q5⟩
    · skip
      refine g_if_eq 38 dX11_lent_19 (by decide) (fun _ => by exfalso; omega) (fun q6 => ?_)
      refine g_iload_n dX11_lent_22 rfl (fun _ => ?_)
      refine g_bipush dX11_lent_23 (inR_c rfl) (by decide) ?_
      have c40 : G yX11_lent cX11_lent 4 (some .int) none Po (4, 240, 0, 0) 40 [some (pR 0), some (pI x1), some (pI x2), some (pI 1)] [] SH h 0 0 := by
        refine g_aload_n dX11_lent_40 rfl ?_
        refine gR_X11_49 rfl dX11_lent_41 sh_0 (b := 71) (m_0_7 hM) ?_
        refine g_aload_n dX11_lent_44 rfl ?_
        refine gR_X11_10 rfl dX11_lent_45 sh_0 (b := 1) (m_0_0 hM) ?_
        refine g_iload_n dX11_lent_48 rfl (fun _ => ?_)
        refine g_cVV (as := [_, _]) (c_X3_plan_71_1 _ h hM (by omega) (by omega)) dX11_lent_49 mi_X3_plan in_X3_plan se_X3_plan ml_X11_250 rfl rfl rfl sh_71 rfl rfl (Nat.le_of_ble_eq_true rfl) (fun h7 q8 => ?_)
        obtain ⟨hMh7, hFh7⟩ := q8
        refine g_iload_n dX11_lent_52 rfl (fun _ => ?_)
        refine g_if_eq 66 dX11_lent_53 (by decide) (fun _ => by exfalso; omega) (fun q9 => ?_)
        refine g_aload_n dX11_lent_56 rfl ?_
        refine gR_X11_49 rfl dX11_lent_57 sh_0 (b := 71) (m_0_7 hMh7) ?_
        refine gR_X11_254 rfl dX11_lent_60 sh_71 (b := 72) (m_71_1 hMh7) ?_
        refine g_iload_n dX11_lent_63 rfl (fun _ => ?_)
        refine g_ialdB dX11_lent_64 sh_72 (by omega) (by omega) (m_72 hMh7 _) (fun v10 ev10 bv10 cv10 => ?_)
        exact g_ireturn dX11_lent_65 retI (hPo _ _ ⟨hMh7, (Fr.sub hFh7 rfl), (by omega), (by omega)⟩)
      refine g_icmp_eq 40 dX11_lent_25 (by decide) (fun _ => by exfalso; omega) (fun q11 => ?_)
      refine g_iload_n dX11_lent_28 rfl (fun _ => ?_)
      refine g_bipush dX11_lent_29 (inR_c rfl) (by decide) ?_
      refine g_icmp_eq 40 dX11_lent_31 (by decide) (fun _ => by exfalso; omega) (fun q12 => ?_)
      refine g_iload_n dX11_lent_34 rfl (fun _ => ?_)
      refine g_if_ne 40 dX11_lent_35 (by decide) (fun q13 => ?_) (fun _ => by exfalso; omega)
      exact c40 
    · skip
      refine g_if_eq 38 dX11_lent_19 (by decide) (fun q14 => ?_) (fun _ => by exfalso; omega)
      refine g_iconst dX11_lent_38 (inR_c rfl) ?_
      exact g_ireturn dX11_lent_39 retI (hPo _ _ ⟨hM, Fr.rf, (by omega), (by omega)⟩)
  · skip
    refine g_istore_n dX11_lent_11 (by decide) rfl ?_
    refine g_iload_n dX11_lent_12 rfl (fun _ => ?_)
    refine g_iconst dX11_lent_13 (inR_c rfl) ?_
    refine g_bipush dX11_lent_14 (inR_c rfl) (by decide) ?_
    refine g_cSP (av := [_, _, _]) (c_X11_isWithin _ _ _ h hM (by omega) (by omega) (by omega) (by omega) (by omega) (by omega)) dX11_lent_16 mi_X11_isWithin st_X11_isWithin ml_X11_81 rfl rfl rfl rfl (Nat.le_of_ble_eq_true rfl) (fun v15 q16 => ?_)
    rcases q16 with ⟨rfl, q16⟩ | ⟨rfl, q16⟩
    · skip
      refine g_if_eq 38 dX11_lent_19 (by decide) (fun _ => by exfalso; omega) (fun q17 => ?_)
      refine g_iload_n dX11_lent_22 rfl (fun _ => ?_)
      refine g_bipush dX11_lent_23 (inR_c rfl) (by decide) ?_
      have c40 : G yX11_lent cX11_lent 4 (some .int) none Po (4, 240, 0, 0) 40 [some (pR 0), some (pI x1), some (pI x2), some (pI 0)] [] SH h 0 0 := by
        refine g_aload_n dX11_lent_40 rfl ?_
        refine gR_X11_49 rfl dX11_lent_41 sh_0 (b := 71) (m_0_7 hM) ?_
        refine g_aload_n dX11_lent_44 rfl ?_
        refine gR_X11_10 rfl dX11_lent_45 sh_0 (b := 1) (m_0_0 hM) ?_
        refine g_iload_n dX11_lent_48 rfl (fun _ => ?_)
        refine g_cVV (as := [_, _]) (c_X3_plan_71_1 _ h hM (by omega) (by omega)) dX11_lent_49 mi_X3_plan in_X3_plan se_X3_plan ml_X11_250 rfl rfl rfl sh_71 rfl rfl (Nat.le_of_ble_eq_true rfl) (fun h18 q19 => ?_)
        obtain ⟨hMh18, hFh18⟩ := q19
        refine g_iload_n dX11_lent_52 rfl (fun _ => ?_)
        refine g_if_eq 66 dX11_lent_53 (by decide) (fun q20 => ?_) (fun _ => by exfalso; omega)
        refine g_iload_n dX11_lent_66 rfl (fun _ => ?_)
        refine g_bipush dX11_lent_67 (inR_c rfl) (by decide) ?_
        refine g_icmp_ne 83 dX11_lent_69 (by decide) (fun q21 => ?_) (fun q21 => ?_)
        · skip
          refine g_aload_n dX11_lent_83 rfl ?_
          refine gR_X11_49 rfl dX11_lent_84 sh_0 (b := 71) (m_0_7 hMh18) ?_
          refine gI_X11_260 rfl dX11_lent_87 sh_71 (m_71_0 hMh18) (fun v22 ev22 bv22 cv22 => ?_)
          exact g_ireturn dX11_lent_90 retI (hPo _ _ ⟨hMh18, (Fr.sub hFh18 rfl), (by omega), (by omega)⟩)
        · skip
          refine g_aload_n dX11_lent_72 rfl ?_
          refine gR_X11_49 rfl dX11_lent_73 sh_0 (b := 71) (m_0_7 hMh18) ?_
          refine g_aload_n dX11_lent_76 rfl ?_
          refine gR_X11_10 rfl dX11_lent_77 sh_0 (b := 1) (m_0_0 hMh18) ?_
          refine g_cVV (as := [_]) (c_X3_handOut_71_1  h18 hMh18) dX11_lent_80 mi_X3_handOut in_X3_handOut se_X3_handOut ml_X11_257 rfl rfl rfl sh_71 rfl rfl (Nat.le_of_ble_eq_true rfl) (fun h23 q24 => ?_)
          obtain ⟨hMh23, hFh23⟩ := q24
          refine g_aload_n dX11_lent_83 rfl ?_
          refine gR_X11_49 rfl dX11_lent_84 sh_0 (b := 71) (m_0_7 hMh23) ?_
          refine gI_X11_260 rfl dX11_lent_87 sh_71 (m_71_0 hMh23) (fun v25 ev25 bv25 cv25 => ?_)
          exact g_ireturn dX11_lent_90 retI (hPo _ _ ⟨hMh23, (Fr.tr (Fr.sub hFh18 rfl) hFh23 rfl), (by omega), (by omega)⟩)
      refine g_icmp_eq 40 dX11_lent_25 (by decide) (fun q26 => ?_) (fun q26 => ?_)
      · skip
        exact c40 
      · skip
        refine g_iload_n dX11_lent_28 rfl (fun _ => ?_)
        refine g_bipush dX11_lent_29 (inR_c rfl) (by decide) ?_
        refine g_icmp_eq 40 dX11_lent_31 (by decide) (fun q27 => ?_) (fun q27 => ?_)
        · skip
          exact c40 
        · skip
          refine g_iload_n dX11_lent_34 rfl (fun _ => ?_)
          refine g_if_ne 40 dX11_lent_35 (by decide) (fun _ => by exfalso; omega) (fun q28 => ?_)
          refine g_iconst dX11_lent_38 (inR_c rfl) ?_
          exact g_ireturn dX11_lent_39 retI (hPo _ _ ⟨hM, Fr.rf, (by omega), (by omega)⟩)
    · skip
      refine g_if_eq 38 dX11_lent_19 (by decide) (fun q29 => ?_) (fun _ => by exfalso; omega)
      refine g_iconst dX11_lent_38 (inR_c rfl) ?_
      exact g_ireturn dX11_lent_39 retI (hPo _ _ ⟨hM, Fr.rf, (by omega), (by omega)⟩)
set_option maxRecDepth 100000 in
set_option maxHeartbeats 4000000 in
theorem c_X11_bruisesAsTold_0 (x1 x2 x3 : Int) (h : MEM) (hM : MBx h) (bx1 : 0 ≤ x1) (dx1 : x1 ≤ 7) (bx2 : 0 ≤ x2) (dx2 : x2 ≤ 109) (bx3 : 1 ≤ x3) (dx3 : x3 ≤ 6) (f_LD : LD h) : CI yX11_bruisesAsTold cX11_bruisesAsTold 5 (some .boolean) 7 [pR 0, pI x1, pI x2, pI x3] h (fun x h' => MBx h' ∧ Fr [(21, 7), (21, 8), (21, 9), (22, 1), (23, 0), (24, 0), (25, 0), (26, 1), (27, 0), (28, 0), (29, 0), (30, 0), (31, 0), (32, 1), (33, 0), (34, 0), (35, 0), (36, 0), (37, 0), (38, 0), (39, 0), (40, 0), (89, 0), (97, 0)] h h' ∧ 0 ≤ x ∧ x ≤ 1) := by
  refine CI.of (L0 := [some (pR 0), some (pI x1), some (pI x2), some (pI x3), none]) rfl (Nat.le_of_ble_eq_true rfl) rfl (fun Po hPo hav => ?_)
  rcases id f_LD with ⟨er0_10, er0_11⟩ | ⟨er0_10, er0_11⟩
  · skip
    refine g_aload_n dX11_bruisesAsTold_0 rfl ?_
    refine gR_X11_16 rfl dX11_bruisesAsTold_1 sh_0 (b := 21) (m_0_1 hM) ?_
    refine g_aload_n dX11_bruisesAsTold_4 rfl ?_
    refine gR_X11_10 rfl dX11_bruisesAsTold_5 sh_0 (b := 1) (m_0_0 hM) ?_
    obtain ⟨v1, ev1⟩ : ∃ z, z = h 2 0 := ⟨_, rfl⟩
    have bv1 : 0 ≤ v1 ∧ v1 ≤ 10 := by rw [ev1]; exact (m_2_0 hM)
    obtain ⟨v2, ev2⟩ : ∃ z, z = h 6 0 := ⟨_, rfl⟩
    have bv2 : 0 ≤ v2 ∧ v2 ≤ 8 := by rw [ev2]; exact (m_6_0 hM)
    obtain ⟨v3, ev3⟩ : ∃ z, z = h 12 0 := ⟨_, rfl⟩
    have bv3 : 0 ≤ v3 ∧ v3 ≤ 8 := by rw [ev3]; exact (m_12_0 hM)
    refine g_cVV (as := [_]) (c_X9_copyFrom_21_1  h hM) dX11_bruisesAsTold_8 mi_X9_copyFrom in_X9_copyFrom se_X9_copyFrom ml_X11_202 rfl rfl rfl sh_21 rfl rfl (Nat.le_of_ble_eq_true rfl) (fun h4 q5 => ?_)
    obtain ⟨hMh4, hFh4, z6, z7, z8⟩ := q5
    have kz6 : h4 22 0 = v1 := by omega
    have kz7 : h4 26 0 = v2 := by omega
    have kz8 : h4 32 0 = v3 := by omega
    refine g_aload_n dX11_bruisesAsTold_11 rfl ?_
    refine gR_X11_16 rfl dX11_bruisesAsTold_12 sh_0 (b := 21) (m_0_1 hMh4) ?_
    refine gR_X11_95 rfl dX11_bruisesAsTold_15 sh_21 (b := 26) (m_21_1 hMh4) ?_
    refine g_iload_n dX11_bruisesAsTold_18 rfl (fun _ => ?_)
    refine g_cVP (as := [_]) (c_X0_has_26 _ h4 hMh4 (by omega) (by omega)) dX11_bruisesAsTold_19 mi_X0_has in_X0_has se_X0_has ml_X11_113 rfl rfl rfl sh_26 rfl rfl (Nat.le_of_ble_eq_true rfl) (fun v9 q10 => ?_)
    have q11 : h4 26 0 = v2 := kz7
    rcases q10 with ⟨rfl, q10⟩ | ⟨rfl, q10⟩
    · skip
      refine g_if_ne 27 dX11_bruisesAsTold_22 (by decide) (fun q12 => ?_) (fun _ => by exfalso; omega)
      refine g_aload_n dX11_bruisesAsTold_27 rfl ?_
      refine gR_X11_16 rfl dX11_bruisesAsTold_28 sh_0 (b := 21) (m_0_1 hMh4) ?_
      refine gR_X11_95 rfl dX11_bruisesAsTold_31 sh_21 (b := 26) (m_21_1 hMh4) ?_
      refine gR_X11_178 rfl dX11_bruisesAsTold_34 sh_26 (b := 28) (m_26_2 hMh4) ?_
      refine g_iload_n dX11_bruisesAsTold_37 rfl (fun _ => ?_)
      refine g_iload_n dX11_bruisesAsTold_38 rfl (fun _ => ?_)
      refine g_bipush dX11_bruisesAsTold_39 (inR_c rfl) (by decide) ?_
      refine g_idivX (lo := 0) (hi := x2) dX11_bruisesAsTold_41 (by omega) (idiv_b (by omega) (by omega) (by omega)) (fun v13 ev13 bv13 cv13 => ?_)
      refine g_iastB dX11_bruisesAsTold_42 sh_28 (by omega) (by omega) (fun h14 eh14 => ?_)
      have hFh14 := Fr.ar eh14
      have hMh14 := u_28 hMh4 eh14 (by omega) (by omega)
      refine g_aload_n dX11_bruisesAsTold_43 rfl ?_
      refine gR_X11_16 rfl dX11_bruisesAsTold_44 sh_0 (b := 21) (m_0_1 hMh14) ?_
      refine gR_X11_95 rfl dX11_bruisesAsTold_47 sh_21 (b := 26) (m_21_1 hMh14) ?_
      refine gR_X11_120 rfl dX11_bruisesAsTold_50 sh_26 (b := 27) (m_26_1 hMh14) ?_
      refine g_iload_n dX11_bruisesAsTold_53 rfl (fun _ => ?_)
      refine g_iload_n dX11_bruisesAsTold_54 rfl (fun _ => ?_)
      refine g_bipush dX11_bruisesAsTold_55 (inR_c rfl) (by decide) ?_
      refine g_iremX (lo := 0) (hi := 10) dX11_bruisesAsTold_57 (by omega) (irem_b (by omega) (by omega) (by omega)) (fun v15 ev15 bv15 cv15 => ?_)
      refine g_iastB dX11_bruisesAsTold_58 sh_27 (by omega) (by omega) (fun h16 eh16 => ?_)
      have hFh16 := Fr.ar eh16
      have hMh16 := u_27 hMh14 eh16 (by omega) (by omega)
      refine g_aload_n dX11_bruisesAsTold_59 rfl ?_
      refine gR_X11_16 rfl dX11_bruisesAsTold_60 sh_0 (b := 21) (m_0_1 hMh16) ?_
      refine g_aload_n dX11_bruisesAsTold_63 rfl ?_
      refine gR_X11_70 rfl dX11_bruisesAsTold_64 sh_0 (b := 82) ((hFh16 0 10 rfl).trans ((hFh14 0 10 rfl).trans ((hFh4 0 10 rfl).trans er0_10))) ?_
      refine g_iload_n dX11_bruisesAsTold_67 rfl (fun _ => ?_)
      refine g_cV (as := [_, _]) (c_X9_passHours_21_82 _ h16 hMh16 (by omega) (by omega)) dX11_bruisesAsTold_68 mi_X9_passHours in_X9_passHours se_X9_passHours ml_X11_152 rfl rfl rfl sh_21 rfl rfl (Nat.le_of_ble_eq_true rfl) (fun v17 h18 q19 => ?_)
      obtain ⟨hMh18, hFh18, bv17, cv17⟩ := q19
      refine g_pop dX11_bruisesAsTold_71 rfl ?_
      refine g_iconst dX11_bruisesAsTold_72 (inR_c rfl) ?_
      have c75 : ∀ (n : Nat) (y20 : Int) , 0 ≤ y20 → y20 ≤ 8 → 8 - y20 < (n : Int) → G yX11_bruisesAsTold cX11_bruisesAsTold 5 (some .boolean) none Po (7, 420, 0, 0) 75 [some (pR 0), none, none, none, some (pI y20)] [] SH h18 0 0 := by
        intro n
        induction n with
        | zero =>
          intro y20 by20 dy20 hn
          exfalso; omega
        | succ n ih75 =>
          intro y20 by20 dy20 hn
          refine g_iload dX11_bruisesAsTold_75 rfl (fun _ => ?_)
          refine g_aload_n dX11_bruisesAsTold_77 rfl ?_
          refine gR_X11_10 rfl dX11_bruisesAsTold_78 sh_0 (b := 1) (m_0_0 hMh18) ?_
          refine gR_X11_104 rfl dX11_bruisesAsTold_81 sh_1 (b := 12) (m_1_2 hMh18) ?_
          refine gE_X11_263 rfl dX11_bruisesAsTold_84 sh_12 ((hFh18 12 0 rfl).trans ((hFh16 12 0 rfl).trans ((hFh14 12 0 rfl).trans ((hFh4 12 0 rfl).trans ev3.symm)))) ?_
          refine g_icmp_ge 137 dX11_bruisesAsTold_87 (by decide) (fun q21 => ?_) (fun q21 => ?_)
          · skip
            refine g_iconst dX11_bruisesAsTold_137 (inR_c rfl) ?_
            exact g_ireturn dX11_bruisesAsTold_138 (retZ (by omega)) (hPo _ _ ⟨hMh18, (Fr.tr (Fr.tr (Fr.tr (Fr.sub hFh4 rfl) hFh14 rfl) hFh16 rfl) hFh18 rfl), (by omega), (by omega)⟩)
          · skip
            refine g_aload_n dX11_bruisesAsTold_90 rfl ?_
            refine gR_X11_16 rfl dX11_bruisesAsTold_91 sh_0 (b := 21) (m_0_1 hMh18) ?_
            refine gR_X11_104 rfl dX11_bruisesAsTold_94 sh_21 (b := 32) (m_21_2 hMh18) ?_
            refine gR_X11_199 rfl dX11_bruisesAsTold_97 sh_32 (b := 36) (m_32_4 hMh18) ?_
            refine g_iload dX11_bruisesAsTold_100 rfl (fun _ => ?_)
            refine g_ialdB dX11_bruisesAsTold_102 sh_36 (by omega) (by omega) (m_36 hMh18 _) (fun v22 ev22 bv22 cv22 => ?_)
            refine g_aload_n dX11_bruisesAsTold_103 rfl ?_
            refine gR_X11_10 rfl dX11_bruisesAsTold_104 sh_0 (b := 1) (m_0_0 hMh18) ?_
            refine gR_X11_104 rfl dX11_bruisesAsTold_107 sh_1 (b := 12) (m_1_2 hMh18) ?_
            refine gR_X11_199 rfl dX11_bruisesAsTold_110 sh_12 (b := 16) (m_12_4 hMh18) ?_
            refine g_iload dX11_bruisesAsTold_113 rfl (fun _ => ?_)
            refine g_ialdB dX11_bruisesAsTold_115 sh_16 (by omega) (by omega) (m_16 hMh18 _) (fun v23 ev23 bv23 cv23 => ?_)
            refine g_isubF dX11_bruisesAsTold_116 (fun v24 bv24 cv24 => ?_)
            refine g_aload_n dX11_bruisesAsTold_117 rfl ?_
            refine gR_X11_25 rfl dX11_bruisesAsTold_118 sh_0 (b := 61) (m_0_3 hMh18) ?_
            refine g_iload dX11_bruisesAsTold_121 rfl (fun _ => ?_)
            refine g_cVP (as := [_]) (c_X10_byteAt_61 _ h18 hMh18 (by omega) (by omega)) dX11_bruisesAsTold_123 mi_X10_byteAt in_X10_byteAt se_X10_byteAt ml_X11_317 rfl rfl rfl sh_61 rfl rfl (Nat.le_of_ble_eq_true rfl) (fun v25 q26 => ?_)
            obtain ⟨bv25, cv25⟩ := q26
            refine g_icmp_eq 131 dX11_bruisesAsTold_126 (by decide) (fun q27 => ?_) (fun q27 => ?_)
            · skip
              refine g_iincB dX11_bruisesAsTold_131 rfl rfl (by omega) (by omega) ?_
              refine g_goto 75 dX11_bruisesAsTold_134 (by decide) ?_
              exact ih75 _ (by omega) (by omega) (by omega)
            · skip
              refine g_iconst dX11_bruisesAsTold_129 (inR_c rfl) ?_
              exact g_ireturn dX11_bruisesAsTold_130 (retZ (by omega)) (hPo _ _ ⟨hMh18, (Fr.tr (Fr.tr (Fr.tr (Fr.sub hFh4 rfl) hFh14 rfl) hFh16 rfl) hFh18 rfl), (by omega), (by omega)⟩)
      refine g_istore dX11_bruisesAsTold_73 (by decide) rfl ?_
      refine g_drop 1 ?_
      refine g_drop 2 ?_
      refine g_drop 3 ?_
      exact c75 9 _ (by omega) (by omega) (by omega)
    · skip
      refine g_if_ne 27 dX11_bruisesAsTold_22 (by decide) (fun _ => by exfalso; omega) (fun q28 => ?_)
      refine g_iconst dX11_bruisesAsTold_25 (inR_c rfl) ?_
      exact g_ireturn dX11_bruisesAsTold_26 (retZ (by omega)) (hPo _ _ ⟨hMh4, (Fr.sub hFh4 rfl), (by omega), (by omega)⟩)
  · skip
    refine g_aload_n dX11_bruisesAsTold_0 rfl ?_
    refine gR_X11_16 rfl dX11_bruisesAsTold_1 sh_0 (b := 21) (m_0_1 hM) ?_
    refine g_aload_n dX11_bruisesAsTold_4 rfl ?_
    refine gR_X11_10 rfl dX11_bruisesAsTold_5 sh_0 (b := 1) (m_0_0 hM) ?_
    obtain ⟨v29, ev29⟩ : ∃ z, z = h 2 0 := ⟨_, rfl⟩
    have bv29 : 0 ≤ v29 ∧ v29 ≤ 10 := by rw [ev29]; exact (m_2_0 hM)
    obtain ⟨v30, ev30⟩ : ∃ z, z = h 6 0 := ⟨_, rfl⟩
    have bv30 : 0 ≤ v30 ∧ v30 ≤ 8 := by rw [ev30]; exact (m_6_0 hM)
    obtain ⟨v31, ev31⟩ : ∃ z, z = h 12 0 := ⟨_, rfl⟩
    have bv31 : 0 ≤ v31 ∧ v31 ≤ 8 := by rw [ev31]; exact (m_12_0 hM)
    refine g_cVV (as := [_]) (c_X9_copyFrom_21_1  h hM) dX11_bruisesAsTold_8 mi_X9_copyFrom in_X9_copyFrom se_X9_copyFrom ml_X11_202 rfl rfl rfl sh_21 rfl rfl (Nat.le_of_ble_eq_true rfl) (fun h32 q33 => ?_)
    obtain ⟨hMh32, hFh32, z34, z35, z36⟩ := q33
    have kz34 : h32 22 0 = v29 := by omega
    have kz35 : h32 26 0 = v30 := by omega
    have kz36 : h32 32 0 = v31 := by omega
    refine g_aload_n dX11_bruisesAsTold_11 rfl ?_
    refine gR_X11_16 rfl dX11_bruisesAsTold_12 sh_0 (b := 21) (m_0_1 hMh32) ?_
    refine gR_X11_95 rfl dX11_bruisesAsTold_15 sh_21 (b := 26) (m_21_1 hMh32) ?_
    refine g_iload_n dX11_bruisesAsTold_18 rfl (fun _ => ?_)
    refine g_cVP (as := [_]) (c_X0_has_26 _ h32 hMh32 (by omega) (by omega)) dX11_bruisesAsTold_19 mi_X0_has in_X0_has se_X0_has ml_X11_113 rfl rfl rfl sh_26 rfl rfl (Nat.le_of_ble_eq_true rfl) (fun v37 q38 => ?_)
    have q39 : h32 26 0 = v30 := kz35
    rcases q38 with ⟨rfl, q38⟩ | ⟨rfl, q38⟩
    · skip
      refine g_if_ne 27 dX11_bruisesAsTold_22 (by decide) (fun q40 => ?_) (fun _ => by exfalso; omega)
      refine g_aload_n dX11_bruisesAsTold_27 rfl ?_
      refine gR_X11_16 rfl dX11_bruisesAsTold_28 sh_0 (b := 21) (m_0_1 hMh32) ?_
      refine gR_X11_95 rfl dX11_bruisesAsTold_31 sh_21 (b := 26) (m_21_1 hMh32) ?_
      refine gR_X11_178 rfl dX11_bruisesAsTold_34 sh_26 (b := 28) (m_26_2 hMh32) ?_
      refine g_iload_n dX11_bruisesAsTold_37 rfl (fun _ => ?_)
      refine g_iload_n dX11_bruisesAsTold_38 rfl (fun _ => ?_)
      refine g_bipush dX11_bruisesAsTold_39 (inR_c rfl) (by decide) ?_
      refine g_idivX (lo := 0) (hi := x2) dX11_bruisesAsTold_41 (by omega) (idiv_b (by omega) (by omega) (by omega)) (fun v41 ev41 bv41 cv41 => ?_)
      refine g_iastB dX11_bruisesAsTold_42 sh_28 (by omega) (by omega) (fun h42 eh42 => ?_)
      have hFh42 := Fr.ar eh42
      have hMh42 := u_28 hMh32 eh42 (by omega) (by omega)
      refine g_aload_n dX11_bruisesAsTold_43 rfl ?_
      refine gR_X11_16 rfl dX11_bruisesAsTold_44 sh_0 (b := 21) (m_0_1 hMh42) ?_
      refine gR_X11_95 rfl dX11_bruisesAsTold_47 sh_21 (b := 26) (m_21_1 hMh42) ?_
      refine gR_X11_120 rfl dX11_bruisesAsTold_50 sh_26 (b := 27) (m_26_1 hMh42) ?_
      refine g_iload_n dX11_bruisesAsTold_53 rfl (fun _ => ?_)
      refine g_iload_n dX11_bruisesAsTold_54 rfl (fun _ => ?_)
      refine g_bipush dX11_bruisesAsTold_55 (inR_c rfl) (by decide) ?_
      refine g_iremX (lo := 0) (hi := 10) dX11_bruisesAsTold_57 (by omega) (irem_b (by omega) (by omega) (by omega)) (fun v43 ev43 bv43 cv43 => ?_)
      refine g_iastB dX11_bruisesAsTold_58 sh_27 (by omega) (by omega) (fun h44 eh44 => ?_)
      have hFh44 := Fr.ar eh44
      have hMh44 := u_27 hMh42 eh44 (by omega) (by omega)
      refine g_aload_n dX11_bruisesAsTold_59 rfl ?_
      refine gR_X11_16 rfl dX11_bruisesAsTold_60 sh_0 (b := 21) (m_0_1 hMh44) ?_
      refine g_aload_n dX11_bruisesAsTold_63 rfl ?_
      refine gR_X11_70 rfl dX11_bruisesAsTold_64 sh_0 (b := 90) ((hFh44 0 10 rfl).trans ((hFh42 0 10 rfl).trans ((hFh32 0 10 rfl).trans er0_10))) ?_
      refine g_iload_n dX11_bruisesAsTold_67 rfl (fun _ => ?_)
      refine g_cV (as := [_, _]) (c_X9_passHours_21_90 _ h44 hMh44 (by omega) (by omega)) dX11_bruisesAsTold_68 mi_X9_passHours in_X9_passHours se_X9_passHours ml_X11_152 rfl rfl rfl sh_21 rfl rfl (Nat.le_of_ble_eq_true rfl) (fun v45 h46 q47 => ?_)
      obtain ⟨hMh46, hFh46, bv45, cv45⟩ := q47
      refine g_pop dX11_bruisesAsTold_71 rfl ?_
      refine g_iconst dX11_bruisesAsTold_72 (inR_c rfl) ?_
      have c75 : ∀ (n : Nat) (y48 : Int) , 0 ≤ y48 → y48 ≤ 8 → 8 - y48 < (n : Int) → G yX11_bruisesAsTold cX11_bruisesAsTold 5 (some .boolean) none Po (7, 420, 0, 0) 75 [some (pR 0), none, none, none, some (pI y48)] [] SH h46 0 0 := by
        intro n
        induction n with
        | zero =>
          intro y48 by48 dy48 hn
          exfalso; omega
        | succ n ih75 =>
          intro y48 by48 dy48 hn
          refine g_iload dX11_bruisesAsTold_75 rfl (fun _ => ?_)
          refine g_aload_n dX11_bruisesAsTold_77 rfl ?_
          refine gR_X11_10 rfl dX11_bruisesAsTold_78 sh_0 (b := 1) (m_0_0 hMh46) ?_
          refine gR_X11_104 rfl dX11_bruisesAsTold_81 sh_1 (b := 12) (m_1_2 hMh46) ?_
          refine gE_X11_263 rfl dX11_bruisesAsTold_84 sh_12 ((hFh46 12 0 rfl).trans ((hFh44 12 0 rfl).trans ((hFh42 12 0 rfl).trans ((hFh32 12 0 rfl).trans ev31.symm)))) ?_
          refine g_icmp_ge 137 dX11_bruisesAsTold_87 (by decide) (fun q49 => ?_) (fun q49 => ?_)
          · skip
            refine g_iconst dX11_bruisesAsTold_137 (inR_c rfl) ?_
            exact g_ireturn dX11_bruisesAsTold_138 (retZ (by omega)) (hPo _ _ ⟨hMh46, (Fr.tr (Fr.tr (Fr.tr (Fr.sub hFh32 rfl) hFh42 rfl) hFh44 rfl) hFh46 rfl), (by omega), (by omega)⟩)
          · skip
            refine g_aload_n dX11_bruisesAsTold_90 rfl ?_
            refine gR_X11_16 rfl dX11_bruisesAsTold_91 sh_0 (b := 21) (m_0_1 hMh46) ?_
            refine gR_X11_104 rfl dX11_bruisesAsTold_94 sh_21 (b := 32) (m_21_2 hMh46) ?_
            refine gR_X11_199 rfl dX11_bruisesAsTold_97 sh_32 (b := 36) (m_32_4 hMh46) ?_
            refine g_iload dX11_bruisesAsTold_100 rfl (fun _ => ?_)
            refine g_ialdB dX11_bruisesAsTold_102 sh_36 (by omega) (by omega) (m_36 hMh46 _) (fun v50 ev50 bv50 cv50 => ?_)
            refine g_aload_n dX11_bruisesAsTold_103 rfl ?_
            refine gR_X11_10 rfl dX11_bruisesAsTold_104 sh_0 (b := 1) (m_0_0 hMh46) ?_
            refine gR_X11_104 rfl dX11_bruisesAsTold_107 sh_1 (b := 12) (m_1_2 hMh46) ?_
            refine gR_X11_199 rfl dX11_bruisesAsTold_110 sh_12 (b := 16) (m_12_4 hMh46) ?_
            refine g_iload dX11_bruisesAsTold_113 rfl (fun _ => ?_)
            refine g_ialdB dX11_bruisesAsTold_115 sh_16 (by omega) (by omega) (m_16 hMh46 _) (fun v51 ev51 bv51 cv51 => ?_)
            refine g_isubF dX11_bruisesAsTold_116 (fun v52 bv52 cv52 => ?_)
            refine g_aload_n dX11_bruisesAsTold_117 rfl ?_
            refine gR_X11_25 rfl dX11_bruisesAsTold_118 sh_0 (b := 61) (m_0_3 hMh46) ?_
            refine g_iload dX11_bruisesAsTold_121 rfl (fun _ => ?_)
            refine g_cVP (as := [_]) (c_X10_byteAt_61 _ h46 hMh46 (by omega) (by omega)) dX11_bruisesAsTold_123 mi_X10_byteAt in_X10_byteAt se_X10_byteAt ml_X11_317 rfl rfl rfl sh_61 rfl rfl (Nat.le_of_ble_eq_true rfl) (fun v53 q54 => ?_)
            obtain ⟨bv53, cv53⟩ := q54
            refine g_icmp_eq 131 dX11_bruisesAsTold_126 (by decide) (fun q55 => ?_) (fun q55 => ?_)
            · skip
              refine g_iincB dX11_bruisesAsTold_131 rfl rfl (by omega) (by omega) ?_
              refine g_goto 75 dX11_bruisesAsTold_134 (by decide) ?_
              exact ih75 _ (by omega) (by omega) (by omega)
            · skip
              refine g_iconst dX11_bruisesAsTold_129 (inR_c rfl) ?_
              exact g_ireturn dX11_bruisesAsTold_130 (retZ (by omega)) (hPo _ _ ⟨hMh46, (Fr.tr (Fr.tr (Fr.tr (Fr.sub hFh32 rfl) hFh42 rfl) hFh44 rfl) hFh46 rfl), (by omega), (by omega)⟩)
      refine g_istore dX11_bruisesAsTold_73 (by decide) rfl ?_
      refine g_drop 1 ?_
      refine g_drop 2 ?_
      refine g_drop 3 ?_
      exact c75 9 _ (by omega) (by omega) (by omega)
    · skip
      refine g_if_ne 27 dX11_bruisesAsTold_22 (by decide) (fun _ => by exfalso; omega) (fun q56 => ?_)
      refine g_iconst dX11_bruisesAsTold_25 (inR_c rfl) ?_
      exact g_ireturn dX11_bruisesAsTold_26 (retZ (by omega)) (hPo _ _ ⟨hMh32, (Fr.sub hFh32 rfl), (by omega), (by omega)⟩)
