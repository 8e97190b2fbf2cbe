set_option maxRecDepth 100000 in
set_option maxHeartbeats 4000000 in
theorem c_X11_letGo_0 (x1 x2 x3 : Int) (h : MEM) (hM : MBx h) (bx1 : -2147483648 ≤ x1) (dx1 : x1 ≤ 2147483647) (bx2 : -2147483648 ≤ x2) (dx2 : x2 ≤ 2147483647) (bx3 : -2147483648 ≤ x3) (dx3 : x3 ≤ 2147483647) (f_LD : LD h) : CI yX11_letGo cX11_letGo 9 (some .int) 8 [pR 0, pI x1, pI x2, pI x3] h (fun x h' => MBx h' ∧ Fr [(21, 7), (21, 8), (21, 9), (22, 1), (23, 0), (24, 0), (25, 0), (26, 1), (27, 0), (28, 0), (29, 0), (30, 0), (31, 0), (32, 1), (33, 0), (34, 0), (35, 0), (36, 0), (37, 0), (38, 0), (39, 0), (40, 0), (61, 1), (89, 0), (97, 0)] h h' ∧ -2147483648 ≤ x ∧ x ≤ 2147483647) := by
  refine CI.of (L0 := [some (pR 0), some (pI x1), some (pI x2), some (pI x3), none, none, none, none, none]) rfl (Nat.le_of_ble_eq_true rfl) rfl (fun Po hPo hav => ?_)
  rcases id f_LD with ⟨er0_10, er0_11⟩ | ⟨er0_10, er0_11⟩
  · skip
    refine g_aload_n dX11_letGo_0 rfl ?_
    refine gR_X11_10 rfl dX11_letGo_1 sh_0 (b := 1) (m_0_0 hM) ?_
    refine gR_X11_104 rfl dX11_letGo_4 sh_1 (b := 12) (m_1_2 hM) ?_
    refine gI_X11_263 rfl dX11_letGo_7 sh_12 (m_12_0 hM) (fun v1 ev1 bv1 cv1 => ?_)
    refine g_istore dX11_letGo_10 (by decide) rfl ?_
    refine g_aload_n dX11_letGo_12 rfl ?_
    refine gR_X11_10 rfl dX11_letGo_13 sh_0 (b := 1) (m_0_0 hM) ?_
    refine gR_X11_95 rfl dX11_letGo_16 sh_1 (b := 6) (m_1_1 hM) ?_
    refine g_iload_n dX11_letGo_19 rfl (fun _ => ?_)
    refine g_cVP (as := [_]) (c_X0_has_6 _ h hM (by omega) (by omega)) dX11_letGo_20 mi_X0_has in_X0_has se_X0_has ml_X11_113 rfl rfl rfl sh_6 rfl rfl (Nat.le_of_ble_eq_true rfl) (fun v2 q3 => ?_)
    obtain ⟨v4, ev4⟩ : ∃ z, z = h 6 0 := ⟨_, rfl⟩
    have bv4 : 0 ≤ v4 ∧ v4 ≤ 8 := by rw [ev4]; exact (m_6_0 hM)
    rcases q3 with ⟨rfl, q3⟩ | ⟨rfl, q3⟩
    · skip
      refine g_if_eq 62 dX11_letGo_23 (by decide) (fun _ => by exfalso; omega) (fun q5 => ?_)
      refine g_iload_n dX11_letGo_26 rfl (fun _ => ?_)
      refine g_iconst dX11_letGo_27 (inR_c rfl) ?_
      refine g_bipush dX11_letGo_28 (inR_c rfl) (by decide) ?_
      refine g_cSP (av := [_, _, _]) (c_X11_isWithin _ _ _ h hM (by omega) (by omega) (by omega) (by omega) (by omega) (by omega)) dX11_letGo_30 mi_X11_isWithin st_X11_isWithin ml_X11_81 rfl rfl rfl rfl (Nat.le_of_ble_eq_true rfl) (fun v6 q7 => ?_)
      rcases q7 with ⟨rfl, q7⟩ | ⟨rfl, q7⟩
      · skip
        refine g_if_eq 62 dX11_letGo_33 (by decide) (fun _ => by exfalso; omega) (fun q8 => ?_)
        refine g_iload_n dX11_letGo_36 rfl (fun _ => ?_)
        refine g_iconst dX11_letGo_37 (inR_c rfl) ?_
        refine g_iconst dX11_letGo_38 (inR_c rfl) ?_
        refine g_cSP (av := [_, _, _]) (c_X11_isWithin _ _ _ h hM (by omega) (by omega) (by omega) (by omega) (by omega) (by omega)) dX11_letGo_39 mi_X11_isWithin st_X11_isWithin ml_X11_81 rfl rfl rfl rfl (Nat.le_of_ble_eq_true rfl) (fun v9 q10 => ?_)
        rcases q10 with ⟨rfl, q10⟩ | ⟨rfl, q10⟩
        · skip
          refine g_if_eq 62 dX11_letGo_42 (by decide) (fun _ => by exfalso; omega) (fun q11 => ?_)
          refine g_iload dX11_letGo_45 rfl (fun _ => ?_)
          refine g_if_eq 62 dX11_letGo_47 (by decide) (fun q12 => ?_) (fun q12 => ?_)
          · skip
            refine g_iconst dX11_letGo_62 (inR_c rfl) ?_
            exact g_ireturn dX11_letGo_63 retI (hPo _ _ ⟨hM, Fr.rf, (by omega), (by omega)⟩)
          · skip
            refine g_aload_n dX11_letGo_50 rfl ?_
            refine gR_X11_25 rfl dX11_letGo_51 sh_0 (b := 61) (m_0_3 hM) ?_
            refine gI_X11_140 rfl dX11_letGo_54 sh_61 (m_61_0 hM) (fun v13 ev13 bv13 cv13 => ?_)
            refine g_iload dX11_letGo_57 rfl (fun _ => ?_)
            refine g_icmp_ge 64 dX11_letGo_59 (by decide) (fun q14 => ?_) (fun q14 => ?_)
            · skip
              refine g_iconst dX11_letGo_64 (inR_c rfl) ?_
              refine g_istore dX11_letGo_65 (by decide) rfl ?_
              refine g_iconst dX11_letGo_67 (inR_c rfl) ?_
              refine g_istore dX11_letGo_68 (by decide) rfl ?_
              refine g_iconst dX11_letGo_70 (inR_c rfl) ?_
              have c73 : ∀ (n : Nat) (y15 y16 y17 : Int) (h18 : MEM), MBx h18 → Fr [(21, 7), (21, 8), (21, 9), (22, 1), (23, 0), (24, 0), (25, 0), (26, 1), (27, 0), (28, 0), (29, 0), (30, 0), (31, 0), (32, 1), (33, 0), (34, 0), (35, 0), (36, 0), (37, 0), (38, 0), (39, 0), (40, 0), (89, 0), (97, 0)] h h18 → -2147483648 ≤ y15 → y15 ≤ 2147483647 → -1 ≤ y16 → y16 ≤ 109 → 0 ≤ y17 → y17 ≤ 110 → 110 - y17 < (n : Int) → G yX11_letGo cX11_letGo 9 (some .int) none Po (8, 480, 0, 0) 73 [some (pR 0), some (pI x1), some (pI x2), some (pI x3), none, some (pI y15), some (pI y16), some (pI y17), none] [] SH h18 0 0 := by
                intro n
                induction n with
                | zero =>
                  intro y15 y16 y17 h18 hMh18 hFh18 by15 dy15 by16 dy16 by17 dy17 hn
                  exfalso; omega
                | succ n ih73 =>
                  intro y15 y16 y17 h18 hMh18 hFh18 by15 dy15 by16 dy16 by17 dy17 hn
                  refine g_iload dX11_letGo_73 rfl (fun _ => ?_)
                  refine g_bipush dX11_letGo_75 (inR_c rfl) (by decide) ?_
                  refine g_icmp_ge 143 dX11_letGo_77 (by decide) (fun q19 => ?_) (fun q19 => ?_)
                  · skip
                    refine g_aload_n dX11_letGo_143 rfl ?_
                    refine gR_X11_25 rfl dX11_letGo_144 sh_0 (b := 61) (m_0_3 hMh18) ?_
                    refine g_iconst dX11_letGo_147 (inR_c rfl) ?_
                    refine pI_X11_140 rfl dX11_letGo_148 sh_61 (fun h20 eh20 => ?_)
                    have hFh20 := Fr.st eh20
                    have hMh20 := u_61_0 hMh18 eh20 (by omega) (by omega)
                    refine g_iload_n dX11_letGo_151 rfl (fun _ => ?_)
                    refine g_iconst dX11_letGo_152 (inR_c rfl) ?_
                    refine g_icmp_ne 159 dX11_letGo_153 (by decide) (fun q21 => ?_) (fun q21 => ?_)
                    · skip
                      refine g_iload dX11_letGo_159 rfl (fun _ => ?_)
                      refine g_if_ne 167 dX11_letGo_161 (by decide) (fun q22 => ?_) (fun q22 => ?_)
                      · skip
                        refine g_iload_n dX11_letGo_167 rfl (fun _ => ?_)
                        refine g_if_ne 179 dX11_letGo_168 (by decide) (fun q23 => ?_) (fun q23 => ?_)
                        · skip
                          refine g_iload dX11_letGo_179 rfl (fun _ => ?_)
                          refine g_bipush dX11_letGo_181 (inR_c rfl) (by decide) ?_
                          refine g_iremF dX11_letGo_183 (by omega) (fun v24 ev24 bv24 cv24 => ?_)
                          exact g_ireturn dX11_letGo_184 retI (hPo _ _ ⟨hMh20, (Fr.tr (Fr.sub hFh18 rfl) hFh20 rfl), (by omega), (by omega)⟩)
                        · skip
                          refine g_iload dX11_letGo_171 rfl (fun _ => ?_)
                          refine g_bipush dX11_letGo_173 (inR_c rfl) (by decide) ?_
                          refine g_idivF dX11_letGo_175 (by omega) (fun v25 ev25 bv25 cv25 => ?_)
                          refine g_goto 184 dX11_letGo_176 (by decide) ?_
                          exact g_ireturn dX11_letGo_184 retI (hPo _ _ ⟨hMh20, (Fr.tr (Fr.sub hFh18 rfl) hFh20 rfl), (by omega), (by omega)⟩)
                      · skip
                        refine g_bipush dX11_letGo_164 (inR_c rfl) (by decide) ?_
                        exact g_ireturn dX11_letGo_166 retI (hPo _ _ ⟨hMh20, (Fr.tr (Fr.sub hFh18 rfl) hFh20 rfl), (by omega), (by omega)⟩)
                    · skip
                      refine g_iload dX11_letGo_156 rfl (fun _ => ?_)
                      exact g_ireturn dX11_letGo_158 retI (hPo _ _ ⟨hMh20, (Fr.tr (Fr.sub hFh18 rfl) hFh20 rfl), (by omega), (by omega)⟩)
                  · skip
                    refine g_iload dX11_letGo_80 rfl (fun _ => ?_)
                    refine g_bipush dX11_letGo_82 (inR_c rfl) (by decide) ?_
                    refine g_iremX (lo := 0) (hi := 10) dX11_letGo_84 (by omega) (irem_b (by omega) (by omega) (by omega)) (fun v26 ev26 bv26 cv26 => ?_)
                    refine g_istore dX11_letGo_85 (by decide) rfl ?_
                    refine g_iload dX11_letGo_87 rfl (fun _ => ?_)
                    refine g_bipush dX11_letGo_89 (inR_c rfl) (by decide) ?_
                    have c109 : G yX11_letGo cX11_letGo 9 (some .int) none Po (8, 480, 0, 0) 109 [some (pR 0), some (pI x1), some (pI x2), some (pI x3), none, some (pI y15), some (pI y16), some (pI y17), none] [] SH h18 0 0 := by
                      refine g_aload_n dX11_letGo_109 rfl ?_
                      refine g_iload_n dX11_letGo_110 rfl (fun _ => ?_)
                      refine g_iload dX11_letGo_111 rfl (fun _ => ?_)
                      refine g_iload_n dX11_letGo_113 rfl (fun _ => ?_)
                      refine g_cV (as := [_, _, _]) (c_X11_bruisesAsTold_0 _ _ _ h18 hMh18 (by omega) (by omega) (by omega) (by omega) (by omega) (by omega) (LD.fr (T := [(21, 7), (21, 8), (21, 9), (22, 1), (23, 0), (24, 0), (25, 0), (26, 1), (27, 0), (28, 0), (29, 0), (30, 0), (31, 0), (32, 1), (33, 0), (34, 0), (35, 0), (36, 0), (37, 0), (38, 0), (39, 0), (40, 0), (89, 0), (97, 0)]) f_LD (Fr.sub hFh18 rfl) rfl)) dX11_letGo_114 mi_X11_bruisesAsTold in_X11_bruisesAsTold se_X11_bruisesAsTold ml_X11_266 rfl rfl rfl sh_0 rfl rfl (Nat.le_of_ble_eq_true rfl) (fun v27 h28 q29 => ?_)
                      obtain ⟨hMh28, hFh28, bv27, cv27⟩ := q29
                      refine g_if_eq 137 dX11_letGo_117 (by decide) (fun q30 => ?_) (fun q30 => ?_)
                      · skip
                        refine g_iincB dX11_letGo_137 rfl rfl (by omega) (by omega) ?_
                        refine g_goto 73 dX11_letGo_140 (by decide) ?_
                        exact ih73 _ _ _ _ hMh28 (Fr.tr (Fr.sub hFh18 rfl) hFh28 rfl) (by omega) (by omega) (by omega) (by omega) (by omega) (by omega) (by omega)
                      · skip
                        refine g_iload dX11_letGo_120 rfl (fun _ => ?_)
                        refine g_if_ne 130 dX11_letGo_122 (by decide) (fun q31 => ?_) (fun q31 => ?_)
                        · skip
                          refine g_iload dX11_letGo_130 rfl (fun _ => ?_)
                          refine g_istore dX11_letGo_132 (by decide) rfl ?_
                          refine g_iincF dX11_letGo_134 rfl rfl (fun v32 bv32 cv32 => ?_)
                          refine g_iincB dX11_letGo_137 rfl rfl (by omega) (by omega) ?_
                          refine g_goto 73 dX11_letGo_140 (by decide) ?_
                          exact ih73 _ _ _ _ hMh28 (Fr.tr (Fr.sub hFh18 rfl) hFh28 rfl) (by omega) (by omega) (by omega) (by omega) (by omega) (by omega) (by omega)
                        · skip
                          refine g_iload dX11_letGo_125 rfl (fun _ => ?_)
                          refine g_goto 132 dX11_letGo_127 (by decide) ?_
                          refine g_istore dX11_letGo_132 (by decide) rfl ?_
                          refine g_iincB dX11_letGo_134 rfl rfl (by omega) (by omega) ?_
                          refine g_iincB dX11_letGo_137 rfl rfl (by omega) (by omega) ?_
                          refine g_goto 73 dX11_letGo_140 (by decide) ?_
                          exact ih73 _ _ _ _ hMh28 (Fr.tr (Fr.sub hFh18 rfl) hFh28 rfl) (by omega) (by omega) (by omega) (by omega) (by omega) (by omega) (by omega)
                    refine g_icmp_eq 109 dX11_letGo_91 (by decide) (fun q33 => ?_) (fun q33 => ?_)
                    · skip
                      refine g_drop 8 ?_
                      exact c109 
                    · skip
                      refine g_aload_n dX11_letGo_94 rfl ?_
                      refine gR_X11_10 rfl dX11_letGo_95 sh_0 (b := 1) (m_0_0 hMh18) ?_
                      refine gR_X11_85 rfl dX11_letGo_98 sh_1 (b := 2) (m_1_0 hMh18) ?_
                      refine g_iload dX11_letGo_101 rfl (fun _ => ?_)
                      refine g_cVP (as := [_]) (c_X6_has_2 _ h18 hMh18 (by omega) (by omega)) dX11_letGo_103 mi_X6_has in_X6_has se_X6_has ml_X11_159 rfl rfl rfl sh_2 rfl rfl (Nat.le_of_ble_eq_true rfl) (fun v34 q35 => ?_)
                      have q36 : h18 2 0 = h 2 0 := (hFh18 2 0 rfl)
                      obtain ⟨v37, ev37⟩ : ∃ z, z = h18 2 0 := ⟨_, rfl⟩
                      have bv37 : 0 ≤ v37 ∧ v37 ≤ 10 := by rw [ev37]; exact (m_2_0 hMh18)
                      rcases q35 with ⟨rfl, q35⟩ | ⟨rfl, q35⟩
                      · skip
                        refine g_if_eq 137 dX11_letGo_106 (by decide) (fun _ => by exfalso; omega) (fun q38 => ?_)
                        refine g_drop 8 ?_
                        exact c109 
                      · skip
                        refine g_if_eq 137 dX11_letGo_106 (by decide) (fun q39 => ?_) (fun _ => by exfalso; omega)
                        refine g_iincB dX11_letGo_137 rfl rfl (by omega) (by omega) ?_
                        refine g_goto 73 dX11_letGo_140 (by decide) ?_
                        refine g_drop 8 ?_
                        exact ih73 _ _ _ _ hMh18 (Fr.sub hFh18 rfl) (by omega) (by omega) (by omega) (by omega) (by omega) (by omega) (by omega)
              refine g_istore dX11_letGo_71 (by decide) rfl ?_
              refine g_drop 4 ?_
              exact c73 111 _ _ _ _ hM Fr.rf (by omega) (by omega) (by omega) (by omega) (by omega) (by omega) (by omega)
            · skip
              refine g_iconst dX11_letGo_62 (inR_c rfl) ?_
              exact g_ireturn dX11_letGo_63 retI (hPo _ _ ⟨hM, Fr.rf, (by omega), (by omega)⟩)
        · skip
          refine g_if_eq 62 dX11_letGo_42 (by decide) (fun q40 => ?_) (fun _ => by exfalso; omega)
          refine g_iconst dX11_letGo_62 (inR_c rfl) ?_
          exact g_ireturn dX11_letGo_63 retI (hPo _ _ ⟨hM, Fr.rf, (by omega), (by omega)⟩)
      · skip
        refine g_if_eq 62 dX11_letGo_33 (by decide) (fun q41 => ?_) (fun _ => by exfalso; omega)
        refine g_iconst dX11_letGo_62 (inR_c rfl) ?_
        exact g_ireturn dX11_letGo_63 retI (hPo _ _ ⟨hM, Fr.rf, (by omega), (by omega)⟩)
    · skip
      refine g_if_eq 62 dX11_letGo_23 (by decide) (fun q42 => ?_) (fun _ => by exfalso; omega)
      refine g_iconst dX11_letGo_62 (inR_c rfl) ?_
      exact g_ireturn dX11_letGo_63 retI (hPo _ _ ⟨hM, Fr.rf, (by omega), (by omega)⟩)
  · skip
    refine g_aload_n dX11_letGo_0 rfl ?_
    refine gR_X11_10 rfl dX11_letGo_1 sh_0 (b := 1) (m_0_0 hM) ?_
    refine gR_X11_104 rfl dX11_letGo_4 sh_1 (b := 12) (m_1_2 hM) ?_
    refine gI_X11_263 rfl dX11_letGo_7 sh_12 (m_12_0 hM) (fun v43 ev43 bv43 cv43 => ?_)
    refine g_istore dX11_letGo_10 (by decide) rfl ?_
    refine g_aload_n dX11_letGo_12 rfl ?_
    refine gR_X11_10 rfl dX11_letGo_13 sh_0 (b := 1) (m_0_0 hM) ?_
    refine gR_X11_95 rfl dX11_letGo_16 sh_1 (b := 6) (m_1_1 hM) ?_
    refine g_iload_n dX11_letGo_19 rfl (fun _ => ?_)
    refine g_cVP (as := [_]) (c_X0_has_6 _ h hM (by omega) (by omega)) dX11_letGo_20 mi_X0_has in_X0_has se_X0_has ml_X11_113 rfl rfl rfl sh_6 rfl rfl (Nat.le_of_ble_eq_true rfl) (fun v44 q45 => ?_)
    obtain ⟨v46, ev46⟩ : ∃ z, z = h 6 0 := ⟨_, rfl⟩
    have bv46 : 0 ≤ v46 ∧ v46 ≤ 8 := by rw [ev46]; exact (m_6_0 hM)
    rcases q45 with ⟨rfl, q45⟩ | ⟨rfl, q45⟩
    · skip
      refine g_if_eq 62 dX11_letGo_23 (by decide) (fun _ => by exfalso; omega) (fun q47 => ?_)
      refine g_iload_n dX11_letGo_26 rfl (fun _ => ?_)
      refine g_iconst dX11_letGo_27 (inR_c rfl) ?_
      refine g_bipush dX11_letGo_28 (inR_c rfl) (by decide) ?_
      refine g_cSP (av := [_, _, _]) (c_X11_isWithin _ _ _ h hM (by omega) (by omega) (by omega) (by omega) (by omega) (by omega)) dX11_letGo_30 mi_X11_isWithin st_X11_isWithin ml_X11_81 rfl rfl rfl rfl (Nat.le_of_ble_eq_true rfl) (fun v48 q49 => ?_)
      rcases q49 with ⟨rfl, q49⟩ | ⟨rfl, q49⟩
      · skip
        refine g_if_eq 62 dX11_letGo_33 (by decide) (fun _ => by exfalso; omega) (fun q50 => ?_)
        refine g_iload_n dX11_letGo_36 rfl (fun _ => ?_)
        refine g_iconst dX11_letGo_37 (inR_c rfl) ?_
        refine g_iconst dX11_letGo_38 (inR_c rfl) ?_
        refine g_cSP (av := [_, _, _]) (c_X11_isWithin _ _ _ h hM (by omega) (by omega) (by omega) (by omega) (by omega) (by omega)) dX11_letGo_39 mi_X11_isWithin st_X11_isWithin ml_X11_81 rfl rfl rfl rfl (Nat.le_of_ble_eq_true rfl) (fun v51 q52 => ?_)
        rcases q52 with ⟨rfl, q52⟩ | ⟨rfl, q52⟩
        · skip
          refine g_if_eq 62 dX11_letGo_42 (by decide) (fun _ => by exfalso; omega) (fun q53 => ?_)
          refine g_iload dX11_letGo_45 rfl (fun _ => ?_)
          refine g_if_eq 62 dX11_letGo_47 (by decide) (fun q54 => ?_) (fun q54 => ?_)
          · skip
            refine g_iconst dX11_letGo_62 (inR_c rfl) ?_
            exact g_ireturn dX11_letGo_63 retI (hPo _ _ ⟨hM, Fr.rf, (by omega), (by omega)⟩)
          · skip
            refine g_aload_n dX11_letGo_50 rfl ?_
            refine gR_X11_25 rfl dX11_letGo_51 sh_0 (b := 61) (m_0_3 hM) ?_
            refine gI_X11_140 rfl dX11_letGo_54 sh_61 (m_61_0 hM) (fun v55 ev55 bv55 cv55 => ?_)
            refine g_iload dX11_letGo_57 rfl (fun _ => ?_)
            refine g_icmp_ge 64 dX11_letGo_59 (by decide) (fun q56 => ?_) (fun q56 => ?_)
            · skip
              refine g_iconst dX11_letGo_64 (inR_c rfl) ?_
              refine g_istore dX11_letGo_65 (by decide) rfl ?_
              refine g_iconst dX11_letGo_67 (inR_c rfl) ?_
              refine g_istore dX11_letGo_68 (by decide) rfl ?_
              refine g_iconst dX11_letGo_70 (inR_c rfl) ?_
              have c73 : ∀ (n : Nat) (y57 y58 y59 : Int) (h60 : MEM), MBx h60 → Fr [(21, 7), (21, 8), (21, 9), (22, 1), (23, 0), (24, 0), (25, 0), (26, 1), (27, 0), (28, 0), (29, 0), (30, 0), (31, 0), (32, 1), (33, 0), (34, 0), (35, 0), (36, 0), (37, 0), (38, 0), (39, 0), (40, 0), (89, 0), (97, 0)] h h60 → -2147483648 ≤ y57 → y57 ≤ 2147483647 → -1 ≤ y58 → y58 ≤ 109 → 0 ≤ y59 → y59 ≤ 110 → 110 - y59 < (n : Int) → G yX11_letGo cX11_letGo 9 (some .int) none Po (8, 480, 0, 0) 73 [some (pR 0), some (pI x1), some (pI x2), some (pI x3), none, some (pI y57), some (pI y58), some (pI y59), none] [] SH h60 0 0 := by
                intro n
                induction n with
                | zero =>
                  intro y57 y58 y59 h60 hMh60 hFh60 by57 dy57 by58 dy58 by59 dy59 hn
                  exfalso; omega
                | succ n ih73 =>
                  intro y57 y58 y59 h60 hMh60 hFh60 by57 dy57 by58 dy58 by59 dy59 hn
                  refine g_iload dX11_letGo_73 rfl (fun _ => ?_)
                  refine g_bipush dX11_letGo_75 (inR_c rfl) (by decide) ?_
                  refine g_icmp_ge 143 dX11_letGo_77 (by decide) (fun q61 => ?_) (fun q61 => ?_)
                  · skip
                    refine g_aload_n dX11_letGo_143 rfl ?_
                    refine gR_X11_25 rfl dX11_letGo_144 sh_0 (b := 61) (m_0_3 hMh60) ?_
                    refine g_iconst dX11_letGo_147 (inR_c rfl) ?_
                    refine pI_X11_140 rfl dX11_letGo_148 sh_61 (fun h62 eh62 => ?_)
                    have hFh62 := Fr.st eh62
                    have hMh62 := u_61_0 hMh60 eh62 (by omega) (by omega)
                    refine g_iload_n dX11_letGo_151 rfl (fun _ => ?_)
                    refine g_iconst dX11_letGo_152 (inR_c rfl) ?_
                    refine g_icmp_ne 159 dX11_letGo_153 (by decide) (fun q63 => ?_) (fun q63 => ?_)
                    · skip
                      refine g_iload dX11_letGo_159 rfl (fun _ => ?_)
                      refine g_if_ne 167 dX11_letGo_161 (by decide) (fun q64 => ?_) (fun q64 => ?_)
                      · skip
                        refine g_iload_n dX11_letGo_167 rfl (fun _ => ?_)
                        refine g_if_ne 179 dX11_letGo_168 (by decide) (fun q65 => ?_) (fun q65 => ?_)
                        · skip
                          refine g_iload dX11_letGo_179 rfl (fun _ => ?_)
                          refine g_bipush dX11_letGo_181 (inR_c rfl) (by decide) ?_
                          refine g_iremF dX11_letGo_183 (by omega) (fun v66 ev66 bv66 cv66 => ?_)
                          exact g_ireturn dX11_letGo_184 retI (hPo _ _ ⟨hMh62, (Fr.tr (Fr.sub hFh60 rfl) hFh62 rfl), (by omega), (by omega)⟩)
                        · skip
                          refine g_iload dX11_letGo_171 rfl (fun _ => ?_)
                          refine g_bipush dX11_letGo_173 (inR_c rfl) (by decide) ?_
                          refine g_idivF dX11_letGo_175 (by omega) (fun v67 ev67 bv67 cv67 => ?_)
                          refine g_goto 184 dX11_letGo_176 (by decide) ?_
                          exact g_ireturn dX11_letGo_184 retI (hPo _ _ ⟨hMh62, (Fr.tr (Fr.sub hFh60 rfl) hFh62 rfl), (by omega), (by omega)⟩)
                      · skip
                        refine g_bipush dX11_letGo_164 (inR_c rfl) (by decide) ?_
                        exact g_ireturn dX11_letGo_166 retI (hPo _ _ ⟨hMh62, (Fr.tr (Fr.sub hFh60 rfl) hFh62 rfl), (by omega), (by omega)⟩)
                    · skip
                      refine g_iload dX11_letGo_156 rfl (fun _ => ?_)
                      exact g_ireturn dX11_letGo_158 retI (hPo _ _ ⟨hMh62, (Fr.tr (Fr.sub hFh60 rfl) hFh62 rfl), (by omega), (by omega)⟩)
                  · skip
                    refine g_iload dX11_letGo_80 rfl (fun _ => ?_)
                    refine g_bipush dX11_letGo_82 (inR_c rfl) (by decide) ?_
                    refine g_iremX (lo := 0) (hi := 10) dX11_letGo_84 (by omega) (irem_b (by omega) (by omega) (by omega)) (fun v68 ev68 bv68 cv68 => ?_)
                    refine g_istore dX11_letGo_85 (by decide) rfl ?_
                    refine g_iload dX11_letGo_87 rfl (fun _ => ?_)
                    refine g_bipush dX11_letGo_89 (inR_c rfl) (by decide) ?_
                    have c109 : G yX11_letGo cX11_letGo 9 (some .int) none Po (8, 480, 0, 0) 109 [some (pR 0), some (pI x1), some (pI x2), some (pI x3), none, some (pI y57), some (pI y58), some (pI y59), none] [] SH h60 0 0 := by
                      refine g_aload_n dX11_letGo_109 rfl ?_
                      refine g_iload_n dX11_letGo_110 rfl (fun _ => ?_)
                      refine g_iload dX11_letGo_111 rfl (fun _ => ?_)
                      refine g_iload_n dX11_letGo_113 rfl (fun _ => ?_)
                      refine g_cV (as := [_, _, _]) (c_X11_bruisesAsTold_0 _ _ _ h60 hMh60 (by omega) (by omega) (by omega) (by omega) (by omega) (by omega) (LD.fr (T := [(21, 7), (21, 8), (21, 9), (22, 1), (23, 0), (24, 0), (25, 0), (26, 1), (27, 0), (28, 0), (29, 0), (30, 0), (31, 0), (32, 1), (33, 0), (34, 0), (35, 0), (36, 0), (37, 0), (38, 0), (39, 0), (40, 0), (89, 0), (97, 0)]) f_LD (Fr.sub hFh60 rfl) rfl)) dX11_letGo_114 mi_X11_bruisesAsTold in_X11_bruisesAsTold se_X11_bruisesAsTold ml_X11_266 rfl rfl rfl sh_0 rfl rfl (Nat.le_of_ble_eq_true rfl) (fun v69 h70 q71 => ?_)
                      obtain ⟨hMh70, hFh70, bv69, cv69⟩ := q71
                      refine g_if_eq 137 dX11_letGo_117 (by decide) (fun q72 => ?_) (fun q72 => ?_)
                      · skip
                        refine g_iincB dX11_letGo_137 rfl rfl (by omega) (by omega) ?_
                        refine g_goto 73 dX11_letGo_140 (by decide) ?_
                        exact ih73 _ _ _ _ hMh70 (Fr.tr (Fr.sub hFh60 rfl) hFh70 rfl) (by omega) (by omega) (by omega) (by omega) (by omega) (by omega) (by omega)
                      · skip
                        refine g_iload dX11_letGo_120 rfl (fun _ => ?_)
                        refine g_if_ne 130 dX11_letGo_122 (by decide) (fun q73 => ?_) (fun q73 => ?_)
                        · skip
                          refine g_iload dX11_letGo_130 rfl (fun _ => ?_)
                          refine g_istore dX11_letGo_132 (by decide) rfl ?_
                          refine g_iincF dX11_letGo_134 rfl rfl (fun v74 bv74 cv74 => ?_)
                          refine g_iincB dX11_letGo_137 rfl rfl (by omega) (by omega) ?_
                          refine g_goto 73 dX11_letGo_140 (by decide) ?_
                          exact ih73 _ _ _ _ hMh70 (Fr.tr (Fr.sub hFh60 rfl) hFh70 rfl) (by omega) (by omega) (by omega) (by omega) (by omega) (by omega) (by omega)
                        · skip
                          refine g_iload dX11_letGo_125 rfl (fun _ => ?_)
                          refine g_goto 132 dX11_letGo_127 (by decide) ?_
                          refine g_istore dX11_letGo_132 (by decide) rfl ?_
                          refine g_iincB dX11_letGo_134 rfl rfl (by omega) (by omega) ?_
                          refine g_iincB dX11_letGo_137 rfl rfl (by omega) (by omega) ?_
                          refine g_goto 73 dX11_letGo_140 (by decide) ?_
                          exact ih73 _ _ _ _ hMh70 (Fr.tr (Fr.sub hFh60 rfl) hFh70 rfl) (by omega) (by omega) (by omega) (by omega) (by omega) (by omega) (by omega)
                    refine g_icmp_eq 109 dX11_letGo_91 (by decide) (fun q75 => ?_) (fun q75 => ?_)
                    · skip
                      refine g_drop 8 ?_
                      exact c109 
                    · skip
                      refine g_aload_n dX11_letGo_94 rfl ?_
                      refine gR_X11_10 rfl dX11_letGo_95 sh_0 (b := 1) (m_0_0 hMh60) ?_
                      refine gR_X11_85 rfl dX11_letGo_98 sh_1 (b := 2) (m_1_0 hMh60) ?_
                      refine g_iload dX11_letGo_101 rfl (fun _ => ?_)
                      refine g_cVP (as := [_]) (c_X6_has_2 _ h60 hMh60 (by omega) (by omega)) dX11_letGo_103 mi_X6_has in_X6_has se_X6_has ml_X11_159 rfl rfl rfl sh_2 rfl rfl (Nat.le_of_ble_eq_true rfl) (fun v76 q77 => ?_)
                      have q78 : h60 2 0 = h 2 0 := (hFh60 2 0 rfl)
                      obtain ⟨v79, ev79⟩ : ∃ z, z = h60 2 0 := ⟨_, rfl⟩
                      have bv79 : 0 ≤ v79 ∧ v79 ≤ 10 := by rw [ev79]; exact (m_2_0 hMh60)
                      rcases q77 with ⟨rfl, q77⟩ | ⟨rfl, q77⟩
                      · skip
                        refine g_if_eq 137 dX11_letGo_106 (by decide) (fun _ => by exfalso; omega) (fun q80 => ?_)
                        refine g_drop 8 ?_
                        exact c109 
                      · skip
                        refine g_if_eq 137 dX11_letGo_106 (by decide) (fun q81 => ?_) (fun _ => by exfalso; omega)
                        refine g_iincB dX11_letGo_137 rfl rfl (by omega) (by omega) ?_
                        refine g_goto 73 dX11_letGo_140 (by decide) ?_
                        refine g_drop 8 ?_
                        exact ih73 _ _ _ _ hMh60 (Fr.sub hFh60 rfl) (by omega) (by omega) (by omega) (by omega) (by omega) (by omega) (by omega)
              refine g_istore dX11_letGo_71 (by decide) rfl ?_
              refine g_drop 4 ?_
              exact c73 111 _ _ _ _ hM Fr.rf (by omega) (by omega) (by omega) (by omega) (by omega) (by omega) (by omega)
            · skip
              refine g_iconst dX11_letGo_62 (inR_c rfl) ?_
              exact g_ireturn dX11_letGo_63 retI (hPo _ _ ⟨hM, Fr.rf, (by omega), (by omega)⟩)
        · skip
          refine g_if_eq 62 dX11_letGo_42 (by decide) (fun q82 => ?_) (fun _ => by exfalso; omega)
          refine g_iconst dX11_letGo_62 (inR_c rfl) ?_
          exact g_ireturn dX11_letGo_63 retI (hPo _ _ ⟨hM, Fr.rf, (by omega), (by omega)⟩)
      · skip
        refine g_if_eq 62 dX11_letGo_33 (by decide) (fun q83 => ?_) (fun _ => by exfalso; omega)
        refine g_iconst dX11_letGo_62 (inR_c rfl) ?_
        exact g_ireturn dX11_letGo_63 retI (hPo _ _ ⟨hM, Fr.rf, (by omega), (by omega)⟩)
    · skip
      refine g_if_eq 62 dX11_letGo_23 (by decide) (fun q84 => ?_) (fun _ => by exfalso; omega)
      refine g_iconst dX11_letGo_62 (inR_c rfl) ?_
      exact g_ireturn dX11_letGo_63 retI (hPo _ _ ⟨hM, Fr.rf, (by omega), (by omega)⟩)
set_option maxRecDepth 100000 in
set_option maxHeartbeats 4000000 in
theorem c_X8_add_75 (x1 : Int) (h : MEM) (hM : MBx h) (bx1 : -2147483648 ≤ x1) (dx1 : x1 ≤ 2147483647) : CI yX8_add cX8_add 2 (some .boolean) 1 [pR 75, pI x1] h (fun x h' => MBx h' ∧ Fr [(75, 1), (76, 0)] h h' ∧ 0 ≤ x ∧ x ≤ 1) := by
  refine CI.of (L0 := [some (pR 75), some (pI x1)]) rfl (Nat.le_of_ble_eq_true rfl) rfl (fun Po hPo hav => ?_)
  refine g_iload_n dX8_add_0 rfl (fun _ => ?_)
  refine g_if_ne 6 dX8_add_1 (by decide) (fun q1 => ?_) (fun q1 => ?_)
  · skip
    refine g_aload_n dX8_add_6 rfl ?_
    refine gI_X8_9 rfl dX8_add_7 sh_75 (m_75_0 hM) (fun v2 ev2 bv2 cv2 => ?_)
    refine g_bipush dX8_add_10 (inR_c rfl) (by decide) ?_
    refine g_icmp_lt 17 dX8_add_12 (by decide) (fun q3 => ?_) (fun q3 => ?_)
    · skip
      refine g_aload_n dX8_add_17 rfl ?_
      refine gR_X8_15 rfl dX8_add_18 sh_75 (b := 76) (m_75_1 hM) ?_
      refine g_aload_n dX8_add_21 rfl ?_
      refine gE_X8_9 rfl dX8_add_22 sh_75 ev2.symm ?_
      refine g_iload_n dX8_add_25 rfl (fun _ => ?_)
      refine g_iastB dX8_add_26 sh_76 (by omega) (by omega) (fun h4 eh4 => ?_)
      have hFh4 := Fr.ar eh4
      have hMh4 := u_76 hM eh4 (by omega) (by omega)
      refine g_aload_n dX8_add_27 rfl ?_
      refine g_dup dX8_add_28 rfl ?_
      refine gE_X8_9 rfl dX8_add_29 sh_75 ((hFh4 75 0 rfl).trans ev2.symm) ?_
      refine g_iconst dX8_add_32 (inR_c rfl) ?_
      refine g_iaddB dX8_add_33 (by omega) (by omega) ?_
      refine pI_X8_9 rfl dX8_add_34 sh_75 (fun h5 eh5 => ?_)
      have hFh5 := Fr.st eh5
      have hMh5 := u_75_0 hMh4 eh5 (by omega) (by omega)
      refine g_iconst dX8_add_37 (inR_c rfl) ?_
      exact g_ireturn dX8_add_38 (retZ (by omega)) (hPo _ _ ⟨hMh5, (Fr.tr (Fr.sub hFh4 rfl) hFh5 rfl), (by omega), (by omega)⟩)
    · skip
      refine g_iconst dX8_add_15 (inR_c rfl) ?_
      exact g_ireturn dX8_add_16 (retZ (by omega)) (hPo _ _ ⟨hM, Fr.rf, (by omega), (by omega)⟩)
  · skip
    refine g_iconst dX8_add_4 (inR_c rfl) ?_
    exact g_ireturn dX8_add_5 (retZ (by omega)) (hPo _ _ ⟨hM, Fr.rf, (by omega), (by omega)⟩)
set_option maxRecDepth 100000 in
set_option maxHeartbeats 4000000 in
theorem c_X8_gather_75_1 (h : MEM) (hM : MBx h) : CI yX8_gather cX8_gather 4 (some .boolean) 3 [pR 75, pR 1] h (fun x h' => MBx h' ∧ Fr [(75, 1), (76, 0)] h h' ∧ 0 ≤ x ∧ x ≤ 1) := by
  refine CI.of (L0 := [some (pR 75), some (pR 1), none, none]) rfl (Nat.le_of_ble_eq_true rfl) rfl (fun Po hPo hav => ?_)
  refine g_aload_n dX8_gather_0 rfl ?_
  refine g_iconst dX8_gather_1 (inR_c rfl) ?_
  refine pI_X8_9 rfl dX8_gather_2 sh_75 (fun h1 eh1 => ?_)
  have hFh1 := Fr.st eh1
  have hMh1 := u_75_0 hM eh1 (by omega) (by omega)
  refine g_iconst dX8_gather_5 (inR_c rfl) ?_
  refine g_istore_n dX8_gather_6 (by decide) rfl ?_
  refine g_iconst dX8_gather_7 (inR_c rfl) ?_
  have c9 : ∀ (n : Nat) (y2 y3 : Int) (h4 : MEM), MBx h4 → Fr [(75, 1), (76, 0)] h1 h4 → 0 ≤ y2 → y2 ≤ 1 → 0 ≤ y3 → y3 ≤ 8 → 8 - y3 < (n : Int) → G yX8_gather cX8_gather 4 (some .boolean) none Po (3, 180, 0, 0) 9 [some (pR 75), some (pR 1), some (pI y2), some (pI y3)] [] SH h4 0 0 := by
    intro n
    induction n with
    | zero =>
      intro y2 y3 h4 hMh4 hFh4 by2 dy2 by3 dy3 hn
      exfalso; omega
    | succ n ih9 =>
      intro y2 y3 h4 hMh4 hFh4 by2 dy2 by3 dy3 hn
      refine g_iload_n dX8_gather_9 rfl (fun _ => ?_)
      refine g_aload_n dX8_gather_10 rfl ?_
      refine gR_X8_22 rfl dX8_gather_11 sh_1 (b := 6) (m_1_1 hMh4) ?_
      refine gI_X8_28 rfl dX8_gather_14 sh_6 (m_6_0 hMh4) (fun v5 ev5 bv5 cv5 => ?_)
      refine g_icmp_ge 49 dX8_gather_17 (by decide) (fun q6 => ?_) (fun q6 => ?_)
      · skip
        refine g_iconst dX8_gather_49 (inR_c rfl) ?_
        have c51 : ∀ (n : Nat) (y7 y8 : Int) (h9 : MEM), MBx h9 → Fr [(75, 1), (76, 0)] h4 h9 → 0 ≤ y7 → y7 ≤ 1 → 0 ≤ y8 → y8 ≤ 8 → 8 - y8 < (n : Int) → G yX8_gather cX8_gather 4 (some .boolean) none Po (3, 180, 0, 0) 51 [some (pR 75), some (pR 1), some (pI y7), some (pI y8)] [] SH h9 0 0 := by
          intro n
          induction n with
          | zero =>
            intro y7 y8 h9 hMh9 hFh9 by7 dy7 by8 dy8 hn
            exfalso; omega
          | succ n ih51 =>
            intro y7 y8 h9 hMh9 hFh9 by7 dy7 by8 dy8 hn
            refine g_iload_n dX8_gather_51 rfl (fun _ => ?_)
            refine g_aload_n dX8_gather_52 rfl ?_
            refine gR_X8_39 rfl dX8_gather_53 sh_1 (b := 12) (m_1_2 hMh9) ?_
            refine gI_X8_43 rfl dX8_gather_56 sh_12 (m_12_0 hMh9) (fun v10 ev10 bv10 cv10 => ?_)
            refine g_icmp_ge 90 dX8_gather_59 (by decide) (fun q11 => ?_) (fun q11 => ?_)
            · skip
              refine g_iload_n dX8_gather_90 rfl (fun _ => ?_)
              exact g_ireturn dX8_gather_91 (retZ (by omega)) (hPo _ _ ⟨hMh9, (Fr.tr (Fr.tr (Fr.sub hFh1 rfl) hFh4 rfl) hFh9 rfl), (by omega), (by omega)⟩)
            · skip
              refine g_aload_n dX8_gather_62 rfl ?_
              refine g_aload_n dX8_gather_63 rfl ?_
              refine g_iload_n dX8_gather_64 rfl (fun _ => ?_)
              refine g_cVP (as := [_]) (c_X9_owedTo_1 _ h9 hMh9 (by omega) (by omega)) dX8_gather_65 mi_X9_owedTo in_X9_owedTo se_X9_owedTo ml_X8_46 rfl rfl rfl sh_1 rfl rfl (Nat.le_of_ble_eq_true rfl) (fun v12 q13 => ?_)
              obtain ⟨bv12, cv12⟩ := q13
              refine g_cV (as := [_]) (c_X8_add_75 _ h9 hMh9 (by omega) (by omega)) dX8_gather_68 mi_X8_add in_X8_add se_X8_add ml_X8_35 rfl rfl rfl sh_75 rfl rfl (Nat.le_of_ble_eq_true rfl) (fun v14 h15 q16 => ?_)
              obtain ⟨hMh15, hFh15, bv14, cv14⟩ := q16
              refine g_if_eq 82 dX8_gather_71 (by decide) (fun q17 => ?_) (fun q17 => ?_)
              · skip
                refine g_iconst dX8_gather_82 (inR_c rfl) ?_
                refine g_istore_n dX8_gather_83 (by decide) rfl ?_
                refine g_iincB dX8_gather_84 rfl rfl (by omega) (by omega) ?_
                refine g_goto 51 dX8_gather_87 (by decide) ?_
                exact ih51 _ _ _ hMh15 (Fr.tr (Fr.sub hFh9 rfl) hFh15 rfl) (by omega) (by omega) (by omega) (by omega) (by omega)
              · skip
                refine g_iload_n dX8_gather_74 rfl (fun _ => ?_)
                refine g_if_eq 82 dX8_gather_75 (by decide) (fun q18 => ?_) (fun q18 => ?_)
                · skip
                  refine g_iconst dX8_gather_82 (inR_c rfl) ?_
                  refine g_istore_n dX8_gather_83 (by decide) rfl ?_
                  refine g_iincB dX8_gather_84 rfl rfl (by omega) (by omega) ?_
                  refine g_goto 51 dX8_gather_87 (by decide) ?_
                  exact ih51 _ _ _ hMh15 (Fr.tr (Fr.sub hFh9 rfl) hFh15 rfl) (by omega) (by omega) (by omega) (by omega) (by omega)
                · skip
                  refine g_iconst dX8_gather_78 (inR_c rfl) ?_
                  refine g_goto 83 dX8_gather_79 (by decide) ?_
                  refine g_istore_n dX8_gather_83 (by decide) rfl ?_
                  refine g_iincB dX8_gather_84 rfl rfl (by omega) (by omega) ?_
                  refine g_goto 51 dX8_gather_87 (by decide) ?_
                  exact ih51 _ _ _ hMh15 (Fr.tr (Fr.sub hFh9 rfl) hFh15 rfl) (by omega) (by omega) (by omega) (by omega) (by omega)
        refine g_istore_n dX8_gather_50 (by decide) rfl ?_
        exact c51 9 _ _ _ hMh4 Fr.rf (by omega) (by omega) (by omega) (by omega) (by omega)
      · skip
        refine g_aload_n dX8_gather_20 rfl ?_
        refine g_aload_n dX8_gather_21 rfl ?_
        refine g_iload_n dX8_gather_22 rfl (fun _ => ?_)
        refine g_cVP (as := [_]) (c_X9_owedBy_1 _ h4 hMh4 (by omega) (by omega)) dX8_gather_23 mi_X9_owedBy in_X9_owedBy se_X9_owedBy ml_X8_31 rfl rfl rfl sh_1 rfl rfl (Nat.le_of_ble_eq_true rfl) (fun v19 q20 => ?_)
        obtain ⟨bv19, cv19⟩ := q20
        refine g_inegF dX8_gather_26 (fun v21 bv21 cv21 => ?_)
        refine g_cV (as := [_]) (c_X8_add_75 _ h4 hMh4 (by omega) (by omega)) dX8_gather_27 mi_X8_add in_X8_add se_X8_add ml_X8_35 rfl rfl rfl sh_75 rfl rfl (Nat.le_of_ble_eq_true rfl) (fun v22 h23 q24 => ?_)
        obtain ⟨hMh23, hFh23, bv22, cv22⟩ := q24
        refine g_if_eq 41 dX8_gather_30 (by decide) (fun q25 => ?_) (fun q25 => ?_)
        · skip
          refine g_iconst dX8_gather_41 (inR_c rfl) ?_
          refine g_istore_n dX8_gather_42 (by decide) rfl ?_
          refine g_iincB dX8_gather_43 rfl rfl (by omega) (by omega) ?_
          refine g_goto 9 dX8_gather_46 (by decide) ?_
          exact ih9 _ _ _ hMh23 (Fr.tr (Fr.sub hFh4 rfl) hFh23 rfl) (by omega) (by omega) (by omega) (by omega) (by omega)
        · skip
          refine g_iload_n dX8_gather_33 rfl (fun _ => ?_)
          refine g_if_eq 41 dX8_gather_34 (by decide) (fun q26 => ?_) (fun q26 => ?_)
          · skip
            refine g_iconst dX8_gather_41 (inR_c rfl) ?_
            refine g_istore_n dX8_gather_42 (by decide) rfl ?_
            refine g_iincB dX8_gather_43 rfl rfl (by omega) (by omega) ?_
            refine g_goto 9 dX8_gather_46 (by decide) ?_
            exact ih9 _ _ _ hMh23 (Fr.tr (Fr.sub hFh4 rfl) hFh23 rfl) (by omega) (by omega) (by omega) (by omega) (by omega)
          · skip
            refine g_iconst dX8_gather_37 (inR_c rfl) ?_
            refine g_goto 42 dX8_gather_38 (by decide) ?_
            refine g_istore_n dX8_gather_42 (by decide) rfl ?_
            refine g_iincB dX8_gather_43 rfl rfl (by omega) (by omega) ?_
            refine g_goto 9 dX8_gather_46 (by decide) ?_
            exact ih9 _ _ _ hMh23 (Fr.tr (Fr.sub hFh4 rfl) hFh23 rfl) (by omega) (by omega) (by omega) (by omega) (by omega)
  refine g_istore_n dX8_gather_8 (by decide) rfl ?_
  exact c9 9 _ _ _ hMh1 Fr.rf (by omega) (by omega) (by omega) (by omega) (by omega)
set_option maxRecDepth 100000 in
set_option maxHeartbeats 4000000 in
theorem c_X8_mostSets_75 (h : MEM) (hM : MBx h) : CI yX8_mostSets cX8_mostSets 6 (some .int) 1 [pR 75] h (fun x h' => MBx h' ∧ Fr [(77, 0)] h h' ∧ -2147483648 ≤ x ∧ x ≤ 2147483647) := by
  refine CI.of (L0 := [some (pR 75), none, none, none, none, none]) rfl (Nat.le_of_ble_eq_true rfl) rfl (fun Po hPo hav => ?_)
  refine g_iconst dX8_mostSets_0 (inR_c rfl) ?_
  refine g_aload_n dX8_mostSets_1 rfl ?_
  refine gI_X8_9 rfl dX8_mostSets_2 sh_75 (m_75_0 hM) (fun v1 ev1 bv1 cv1 => ?_)
  refine g_ishlX (lo := 1) (hi := 128) dX8_mostSets_5 (ishl1_b 7 (by decide) (by omega) (by omega)) (fun v2 ev2 bv2 cv2 => ?_)
  refine g_iconst dX8_mostSets_6 (inR_c rfl) ?_
  refine g_isubB dX8_mostSets_7 (by omega) (by omega) ?_
  refine g_istore_n dX8_mostSets_8 (by decide) rfl ?_
  refine g_aload_n dX8_mostSets_9 rfl ?_
  refine gR_X8_19 rfl dX8_mostSets_10 sh_75 (b := 77) (m_75_2 hM) ?_
  refine g_iconst dX8_mostSets_13 (inR_c rfl) ?_
  refine g_iconst dX8_mostSets_14 (inR_c rfl) ?_
  refine g_iastB dX8_mostSets_15 sh_77 (by omega) (by omega) (fun h3 eh3 => ?_)
  have hFh3 := Fr.ar eh3
  have hMh3 := u_77 hM eh3 (by omega) (by omega)
  refine g_iconst dX8_mostSets_16 (inR_c rfl) ?_
  have c18 : ∀ (n : Nat) (y4 : Int) (h5 : MEM), MBx h5 → Fr [(77, 0)] h3 h5 → 1 ≤ y4 → y4 ≤ 128 → 128 - y4 < (n : Int) → G yX8_mostSets cX8_mostSets 6 (some .int) none Po (1, 60, 0, 0) 18 [some (pR 75), some (pI (v2 - 1)), some (pI y4), none, none, none] [] SH h5 0 0 := by
    intro n
    induction n with
    | zero =>
      intro y4 h5 hMh5 hFh5 by4 dy4 hn
      exfalso; omega
    | succ n ih18 =>
      intro y4 h5 hMh5 hFh5 by4 dy4 hn
      refine g_iload_n dX8_mostSets_18 rfl (fun _ => ?_)
      refine g_iload_n dX8_mostSets_19 rfl (fun _ => ?_)
      refine g_icmp_gt 109 dX8_mostSets_20 (by decide) (fun q6 => ?_) (fun q6 => ?_)
      · skip
        refine g_aload_n dX8_mostSets_109 rfl ?_
        refine gR_X8_19 rfl dX8_mostSets_110 sh_75 (b := 77) (m_75_2 hMh5) ?_
        refine g_iload_n dX8_mostSets_113 rfl (fun _ => ?_)
        refine g_ialdB dX8_mostSets_114 sh_77 (by omega) (by omega) (m_77 hMh5 _) (fun v7 ev7 bv7 cv7 => ?_)
        exact g_ireturn dX8_mostSets_115 retI (hPo _ _ ⟨hMh5, (Fr.tr (Fr.sub hFh3 rfl) hFh5 rfl), (by omega), (by omega)⟩)
      · skip
        refine g_iconst dX8_mostSets_23 (inR_c rfl) ?_
        refine g_istore_n dX8_mostSets_24 (by decide) rfl ?_
        refine g_iconst dX8_mostSets_25 (inR_c rfl) ?_
        refine g_istore dX8_mostSets_26 (by decide) rfl ?_
        refine g_iconst dX8_mostSets_28 (inR_c rfl) ?_
        have c31 : ∀ (n : Nat) (y8 y9 y10 : Int) , -2147483648 ≤ y8 → y8 ≤ 2147483647 → 0 ≤ y9 → y9 ≤ 2147483647 → 0 ≤ y10 → y10 ≤ 7 → 7 - y10 < (n : Int) → G yX8_mostSets cX8_mostSets 6 (some .int) none Po (1, 60, 0, 0) 31 [some (pR 75), some (pI (v2 - 1)), some (pI y4), some (pI y8), some (pI y9), some (pI y10)] [] SH h5 0 0 := by
          intro n
          induction n with
          | zero =>
            intro y8 y9 y10 by8 dy8 by9 dy9 by10 dy10 hn
            exfalso; omega
          | succ n ih31 =>
            intro y8 y9 y10 by8 dy8 by9 dy9 by10 dy10 hn
            refine g_iload dX8_mostSets_31 rfl (fun _ => ?_)
            refine g_aload_n dX8_mostSets_33 rfl ?_
            refine gE_X8_9 rfl dX8_mostSets_34 sh_75 ((hFh5 75 0 rfl).trans ((hFh3 75 0 rfl).trans ev1.symm)) ?_
            refine g_icmp_ge 84 dX8_mostSets_37 (by decide) (fun q11 => ?_) (fun q11 => ?_)
            · skip
              refine g_aload_n dX8_mostSets_84 rfl ?_
              refine gR_X8_19 rfl dX8_mostSets_85 sh_75 (b := 77) (m_75_2 hMh5) ?_
              refine g_iload_n dX8_mostSets_88 rfl (fun _ => ?_)
              refine g_iload_n dX8_mostSets_89 rfl (fun _ => ?_)
              refine g_if_ne 100 dX8_mostSets_90 (by decide) (fun q12 => ?_) (fun q12 => ?_)
              · skip
                refine g_iload dX8_mostSets_100 rfl (fun _ => ?_)
                refine g_iastB dX8_mostSets_102 sh_77 (by omega) (by omega) (fun h13 eh13 => ?_)
                have hFh13 := Fr.ar eh13
                have hMh13 := u_77 hMh5 eh13 (by omega) (by omega)
                refine g_iincB dX8_mostSets_103 rfl rfl (by omega) (by omega) ?_
                refine g_goto 18 dX8_mostSets_106 (by decide) ?_
                refine g_drop 3 ?_
                refine g_drop 4 ?_
                refine g_drop 5 ?_
                exact ih18 _ _ hMh13 (Fr.tr (Fr.sub hFh5 rfl) hFh13 rfl) (by omega) (by omega) (by omega)
              · skip
                refine g_iload dX8_mostSets_93 rfl (fun _ => ?_)
                refine g_iconst dX8_mostSets_95 (inR_c rfl) ?_
                refine g_iaddF dX8_mostSets_96 (fun v14 bv14 cv14 => ?_)
                refine g_goto 102 dX8_mostSets_97 (by decide) ?_
                refine g_iastB dX8_mostSets_102 sh_77 (by omega) (by omega) (fun h15 eh15 => ?_)
                have hFh15 := Fr.ar eh15
                have hMh15 := u_77 hMh5 eh15 (by omega) (by omega)
                refine g_iincB dX8_mostSets_103 rfl rfl (by omega) (by omega) ?_
                refine g_goto 18 dX8_mostSets_106 (by decide) ?_
                refine g_drop 3 ?_
                refine g_drop 4 ?_
                refine g_drop 5 ?_
                exact ih18 _ _ hMh15 (Fr.tr (Fr.sub hFh5 rfl) hFh15 rfl) (by omega) (by omega) (by omega)
            · skip
              refine g_iload_n dX8_mostSets_40 rfl (fun _ => ?_)
              refine g_iload dX8_mostSets_41 rfl (fun _ => ?_)
              refine g_ishrF dX8_mostSets_43 (fun v16 ev16 bv16 cv16 => ?_)
              refine g_iconst dX8_mostSets_44 (inR_c rfl) ?_
              refine g_iandX (lo := 0) (hi := 1) dX8_mostSets_45 (iand_r (by omega) (by omega)) (fun v17 ev17 bv17 cv17 => ?_)
              refine g_iconst dX8_mostSets_46 (inR_c rfl) ?_
              refine g_icmp_ne 78 dX8_mostSets_47 (by decide) (fun q18 => ?_) (fun q18 => ?_)
              · skip
                refine g_iincB dX8_mostSets_78 rfl rfl (by omega) (by omega) ?_
                refine g_goto 31 dX8_mostSets_81 (by decide) ?_
                exact ih31 _ _ _ (by omega) (by omega) (by omega) (by omega) (by omega) (by omega) (by omega)
              · skip
                refine g_iload_n dX8_mostSets_50 rfl (fun _ => ?_)
                refine g_aload_n dX8_mostSets_51 rfl ?_
                refine gR_X8_15 rfl dX8_mostSets_52 sh_75 (b := 76) (m_75_1 hMh5) ?_
                refine g_iload dX8_mostSets_55 rfl (fun _ => ?_)
                refine g_ialdB dX8_mostSets_57 sh_76 (by omega) (by omega) (m_76 hMh5 _) (fun v19 ev19 bv19 cv19 => ?_)
                refine g_iaddF dX8_mostSets_58 (fun v20 bv20 cv20 => ?_)
                refine g_istore_n dX8_mostSets_59 (by decide) rfl ?_
                refine g_iload dX8_mostSets_60 rfl (fun _ => ?_)
                refine g_aload_n dX8_mostSets_62 rfl ?_
                refine gR_X8_19 rfl dX8_mostSets_63 sh_75 (b := 77) (m_75_2 hMh5) ?_
                refine g_iload_n dX8_mostSets_66 rfl (fun _ => ?_)
                refine g_iconst dX8_mostSets_67 (inR_c rfl) ?_
                refine g_iload dX8_mostSets_68 rfl (fun _ => ?_)
                refine g_ishlX (lo := 1) (hi := 64) dX8_mostSets_70 (ishl1_b 6 (by decide) (by omega) (by omega)) (fun v21 ev21 bv21 cv21 => ?_)
                refine g_ixorX (lo := 0) (hi := 127) dX8_mostSets_71 (ixor_b 7 (by decide) (by omega) (by omega) (by omega) (by omega)) (fun v22 ev22 bv22 cv22 => ?_)
                refine g_ialdB dX8_mostSets_72 sh_77 (by omega) (by omega) (m_77 hMh5 _) (fun v23 ev23 bv23 cv23 => ?_)
                refine g_mmax dX8_mostSets_73 ml_X8_49 (Nat.le_of_ble_eq_true rfl) (Nat.le_of_ble_eq_true rfl) trivial (fun v24 ev24 => ?_)
                have bv24 : 0 ≤ v24 ∧ v24 ≤ 2147483647 := by omega
                refine g_istore dX8_mostSets_76 (by decide) rfl ?_
                refine g_iincB dX8_mostSets_78 rfl rfl (by omega) (by omega) ?_
                refine g_goto 31 dX8_mostSets_81 (by decide) ?_
                exact ih31 _ _ _ (by omega) (by omega) (by omega) (by omega) (by omega) (by omega) (by omega)
        refine g_istore dX8_mostSets_29 (by decide) rfl ?_
        exact c31 8 _ _ _ (by omega) (by omega) (by omega) (by omega) (by omega) (by omega) (by omega)
  refine g_istore_n dX8_mostSets_17 (by decide) rfl ?_
  exact c18 128 _ _ hMh3 Fr.rf (by omega) (by omega) (by omega)
set_option maxRecDepth 100000 in
set_option maxHeartbeats 4000000 in
theorem c_X11_settled_0 (x1 : Int) (h : MEM) (hM : MBx h) (bx1 : -2147483648 ≤ x1) (dx1 : x1 ≤ 2147483647) : CI yX11_settled cX11_settled 3 (some .int) 4 [pR 0, pI x1] h (fun x h' => MBx h' ∧ Fr [(75, 1), (76, 0), (77, 0)] h h' ∧ -2147483648 ≤ x ∧ x ≤ 2147483647) := by
  refine CI.of (L0 := [some (pR 0), some (pI x1), none]) rfl (Nat.le_of_ble_eq_true rfl) rfl (fun Po hPo hav => ?_)
  refine g_iload_n dX11_settled_0 rfl (fun _ => ?_)
  refine g_iconst dX11_settled_1 (inR_c rfl) ?_
  refine g_iconst dX11_settled_2 (inR_c rfl) ?_
  refine g_cSP (av := [_, _, _]) (c_X11_isWithin _ _ _ h hM (by omega) (by omega) (by omega) (by omega) (by omega) (by omega)) dX11_settled_3 mi_X11_isWithin st_X11_isWithin ml_X11_81 rfl rfl rfl rfl (Nat.le_of_ble_eq_true rfl) (fun v1 q2 => ?_)
  rcases q2 with ⟨rfl, q2⟩ | ⟨rfl, q2⟩
  · skip
    refine g_if_ne 11 dX11_settled_6 (by decide) (fun q3 => ?_) (fun _ => by exfalso; omega)
    refine g_aload_n dX11_settled_11 rfl ?_
    refine gR_X11_56 rfl dX11_settled_12 sh_0 (b := 75) (m_0_8 hM) ?_
    refine g_aload_n dX11_settled_15 rfl ?_
    refine gR_X11_10 rfl dX11_settled_16 sh_0 (b := 1) (m_0_0 hM) ?_
    refine g_cV (as := [_]) (c_X8_gather_75_1  h hM) dX11_settled_19 mi_X8_gather in_X8_gather se_X8_gather ml_X11_269 rfl rfl rfl sh_75 rfl rfl (Nat.le_of_ble_eq_true rfl) (fun v4 h5 q6 => ?_)
    obtain ⟨hMh5, hFh5, bv4, cv4⟩ := q6
    refine g_if_ne 28 dX11_settled_22 (by decide) (fun q7 => ?_) (fun q7 => ?_)
    · skip
      refine g_aload_n dX11_settled_28 rfl ?_
      refine gR_X11_56 rfl dX11_settled_29 sh_0 (b := 75) (m_0_8 hMh5) ?_
      refine g_cV (as := []) (c_X8_mostSets_75  h5 hMh5) dX11_settled_32 mi_X8_mostSets in_X8_mostSets se_X8_mostSets ml_X11_273 rfl rfl rfl sh_75 rfl rfl (Nat.le_of_ble_eq_true rfl) (fun v8 h9 q10 => ?_)
      obtain ⟨hMh9, hFh9, bv8, cv8⟩ := q10
      refine g_istore_n dX11_settled_35 (by decide) rfl ?_
      refine g_iload_n dX11_settled_36 rfl (fun _ => ?_)
      refine g_if_ne 52 dX11_settled_37 (by decide) (fun q11 => ?_) (fun q11 => ?_)
      · skip
        refine g_iload_n dX11_settled_52 rfl (fun _ => ?_)
        exact g_ireturn dX11_settled_53 retI (hPo _ _ ⟨hMh9, (Fr.tr (Fr.sub hFh5 rfl) hFh9 rfl), (by omega), (by omega)⟩)
      · skip
        refine g_aload_n dX11_settled_40 rfl ?_
        refine gR_X11_56 rfl dX11_settled_41 sh_0 (b := 75) (m_0_8 hMh9) ?_
        refine gI_X11_276 rfl dX11_settled_44 sh_75 (m_75_0 hMh9) (fun v12 ev12 bv12 cv12 => ?_)
        refine g_iload_n dX11_settled_47 rfl (fun _ => ?_)
        refine g_isubF dX11_settled_48 (fun v13 bv13 cv13 => ?_)
        refine g_goto 53 dX11_settled_49 (by decide) ?_
        exact g_ireturn dX11_settled_53 retI (hPo _ _ ⟨hMh9, (Fr.tr (Fr.sub hFh5 rfl) hFh9 rfl), (by omega), (by omega)⟩)
    · skip
      refine g_bipush dX11_settled_25 (inR_c rfl) (by decide) ?_
      exact g_ireturn dX11_settled_27 retI (hPo _ _ ⟨hMh5, (Fr.sub hFh5 rfl), (by omega), (by omega)⟩)
  · skip
    refine g_if_ne 11 dX11_settled_6 (by decide) (fun _ => by exfalso; omega) (fun q14 => ?_)
    refine g_iconst dX11_settled_9 (inR_c rfl) ?_
    exact g_ireturn dX11_settled_10 retI (hPo _ _ ⟨hM, Fr.rf, (by omega), (by omega)⟩)
set_option maxRecDepth 100000 in
set_option maxHeartbeats 4000000 in
theorem c_X11_owes_0 (x1 x2 x3 : Int) (h : MEM) (hM : MBx h) (bx1 : -2147483648 ≤ x1) (dx1 : x1 ≤ 2147483647) (bx2 : -2147483648 ≤ x2) (dx2 : x2 ≤ 2147483647) (bx3 : -2147483648 ≤ x3) (dx3 : x3 ≤ 2147483647) : CP yX11_owes cX11_owes 5 (some .int) 2 [pR 0, pI x1, pI x2, pI x3] h (fun x => -2147483648 ≤ x ∧ x ≤ 2147483647) := by
  refine CP.of (L0 := [some (pR 0), some (pI x1), some (pI x2), some (pI x3), none]) rfl (Nat.le_of_ble_eq_true rfl) rfl (fun Po hPo hav => ?_)
  refine g_aload_n dX11_owes_0 rfl ?_
  refine gR_X11_10 rfl dX11_owes_1 sh_0 (b := 1) (m_0_0 hM) ?_
  refine gR_X11_95 rfl dX11_owes_4 sh_1 (b := 6) (m_1_1 hM) ?_
  refine g_iload_n dX11_owes_7 rfl (fun _ => ?_)
  refine g_cVP (as := [_]) (c_X0_has_6 _ h hM (by omega) (by omega)) dX11_owes_8 mi_X0_has in_X0_has se_X0_has ml_X11_113 rfl rfl rfl sh_6 rfl rfl (Nat.le_of_ble_eq_true rfl) (fun v1 q2 => ?_)
  obtain ⟨v3, ev3⟩ : ∃ z, z = h 6 0 := ⟨_, rfl⟩
  have bv3 : 0 ≤ v3 ∧ v3 ≤ 8 := by rw [ev3]; exact (m_6_0 hM)
  rcases q2 with ⟨rfl, q2⟩ | ⟨rfl, q2⟩
  · skip
    refine g_if_eq 37 dX11_owes_11 (by decide) (fun _ => by exfalso; omega) (fun q4 => ?_)
    refine g_aload_n dX11_owes_14 rfl ?_
    refine gR_X11_10 rfl dX11_owes_15 sh_0 (b := 1) (m_0_0 hM) ?_
    refine gR_X11_104 rfl dX11_owes_18 sh_1 (b := 12) (m_1_2 hM) ?_
    refine g_iload_n dX11_owes_21 rfl (fun _ => ?_)
    refine g_cVP (as := [_]) (c_X4_has_12 _ h hM (by omega) (by omega)) dX11_owes_22 mi_X4_has in_X4_has se_X4_has ml_X11_124 rfl rfl rfl sh_12 rfl rfl (Nat.le_of_ble_eq_true rfl) (fun v5 q6 => ?_)
    obtain ⟨v7, ev7⟩ : ∃ z, z = h 12 0 := ⟨_, rfl⟩
    have bv7 : 0 ≤ v7 ∧ v7 ≤ 8 := by rw [ev7]; exact (m_12_0 hM)
    rcases q6 with ⟨rfl, q6⟩ | ⟨rfl, q6⟩
    · skip
      refine g_if_eq 37 dX11_owes_25 (by decide) (fun _ => by exfalso; omega) (fun q8 => ?_)
      refine g_iload_n dX11_owes_28 rfl (fun _ => ?_)
      refine g_iconst dX11_owes_29 (inR_c rfl) ?_
      refine g_iconst dX11_owes_30 (inR_c rfl) ?_
      refine g_cSP (av := [_, _, _]) (c_X11_isWithin _ _ _ h hM (by omega) (by omega) (by omega) (by omega) (by omega) (by omega)) dX11_owes_31 mi_X11_isWithin st_X11_isWithin ml_X11_81 rfl rfl rfl rfl (Nat.le_of_ble_eq_true rfl) (fun v9 q10 => ?_)
      rcases q10 with ⟨rfl, q10⟩ | ⟨rfl, q10⟩
      · skip
        refine g_if_ne 39 dX11_owes_34 (by decide) (fun q11 => ?_) (fun _ => by exfalso; omega)
        refine g_iload_n dX11_owes_39 rfl (fun _ => ?_)
        refine g_bipush dX11_owes_40 (inR_c rfl) (by decide) ?_
        refine g_imulB dX11_owes_42 (by omega) (by omega) ?_
        refine g_iload_n dX11_owes_43 rfl (fun _ => ?_)
        refine g_iaddB dX11_owes_44 (by omega) (by omega) ?_
        refine g_istore dX11_owes_45 (by decide) rfl ?_
        refine g_iload_n dX11_owes_47 rfl (fun _ => ?_)
        refine g_if_ne 64 dX11_owes_48 (by decide) (fun q12 => ?_) (fun q12 => ?_)
        · skip
          refine g_aload_n dX11_owes_64 rfl ?_
          refine gR_X11_10 rfl dX11_owes_65 sh_0 (b := 1) (m_0_0 hM) ?_
          refine gR_X11_280 rfl dX11_owes_68 sh_1 (b := 18) (m_1_4 hM) ?_
          refine g_iload dX11_owes_71 rfl (fun _ => ?_)
          refine g_ialdB dX11_owes_73 sh_18 (by omega) (by omega) (m_18 hM _) (fun v13 ev13 bv13 cv13 => ?_)
          exact g_ireturn dX11_owes_74 retI (hPo _ ⟨(by omega), (by omega)⟩)
        · skip
          refine g_aload_n dX11_owes_51 rfl ?_
          refine gR_X11_10 rfl dX11_owes_52 sh_0 (b := 1) (m_0_0 hM) ?_
          refine gR_X11_277 rfl dX11_owes_55 sh_1 (b := 17) (m_1_3 hM) ?_
          refine g_iload dX11_owes_58 rfl (fun _ => ?_)
          refine g_ialdB dX11_owes_60 sh_17 (by omega) (by omega) (m_17 hM _) (fun v14 ev14 bv14 cv14 => ?_)
          refine g_goto 74 dX11_owes_61 (by decide) ?_
          exact g_ireturn dX11_owes_74 retI (hPo _ ⟨(by omega), (by omega)⟩)
      · skip
        refine g_if_ne 39 dX11_owes_34 (by decide) (fun _ => by exfalso; omega) (fun q15 => ?_)
        refine g_iconst dX11_owes_37 (inR_c rfl) ?_
        exact g_ireturn dX11_owes_38 retI (hPo _ ⟨(by omega), (by omega)⟩)
    · skip
      refine g_if_eq 37 dX11_owes_25 (by decide) (fun q16 => ?_) (fun _ => by exfalso; omega)
      refine g_iconst dX11_owes_37 (inR_c rfl) ?_
      exact g_ireturn dX11_owes_38 retI (hPo _ ⟨(by omega), (by omega)⟩)
  · skip
    refine g_if_eq 37 dX11_owes_11 (by decide) (fun q17 => ?_) (fun _ => by exfalso; omega)
    refine g_iconst dX11_owes_37 (inR_c rfl) ?_
    exact g_ireturn dX11_owes_38 retI (hPo _ ⟨(by omega), (by omega)⟩)
set_option maxRecDepth 100000 in
set_option maxHeartbeats 4000000 in
theorem c_X9_struckBy_1 (x1 : Int) (h : MEM) (hM : MBx h) (bx1 : 0 ≤ x1) (dx1 : x1 ≤ 7) : CP yX9_struckBy cX9_struckBy 4 (some .int) 2 [pR 1, pI x1] h (fun x => 0 ≤ x ∧ x ≤ 255) := by
  refine CP.of (L0 := [some (pR 1), some (pI x1), none, none]) rfl (Nat.le_of_ble_eq_true rfl) rfl (fun Po hPo hav => ?_)
  refine g_iconst dX9_struckBy_0 (inR_c rfl) ?_
  refine g_istore_n dX9_struckBy_1 (by decide) rfl ?_
  refine g_iconst dX9_struckBy_2 (inR_c rfl) ?_
  have c4 : ∀ (n : Nat) (y1 y2 : Int) , 0 ≤ y1 → y1 ≤ 255 → 0 ≤ y2 → y2 ≤ 8 → 8 - y2 < (n : Int) → G yX9_struckBy cX9_struckBy 4 (some .int) none Po (2, 120, 0, 0) 4 [some (pR 1), some (pI x1), some (pI y1), some (pI y2)] [] SH h 0 0 := by
    intro n
    induction n with
    | zero =>
      intro y1 y2 by1 dy1 by2 dy2 hn
      exfalso; omega
    | succ n ih4 =>
      intro y1 y2 by1 dy1 by2 dy2 hn
      refine g_iload_n dX9_struckBy_4 rfl (fun _ => ?_)
      refine g_aload_n dX9_struckBy_5 rfl ?_
      refine gR_X9_28 rfl dX9_struckBy_6 sh_1 (b := 12) (m_1_2 hM) ?_
      refine gI_X9_82 rfl dX9_struckBy_9 sh_12 (m_12_0 hM) (fun v3 ev3 bv3 cv3 => ?_)
      refine g_icmp_ge 52 dX9_struckBy_12 (by decide) (fun q4 => ?_) (fun q4 => ?_)
      · skip
        refine g_iload_n dX9_struckBy_52 rfl (fun _ => ?_)
        exact g_ireturn dX9_struckBy_53 retI (hPo _ ⟨(by omega), (by omega)⟩)
      · skip
        refine g_aload_n dX9_struckBy_15 rfl ?_
        refine gR_X9_21 rfl dX9_struckBy_16 sh_1 (b := 6) (m_1_1 hM) ?_
        refine g_iload_n dX9_struckBy_19 rfl (fun _ => ?_)
        refine g_cVP (as := [_]) (c_X0_has_6 _ h hM (by omega) (by omega)) dX9_struckBy_20 mi_X0_has in_X0_has se_X0_has ml_X9_71 rfl rfl rfl sh_6 rfl rfl (Nat.le_of_ble_eq_true rfl) (fun v5 q6 => ?_)
        obtain ⟨v7, ev7⟩ : ∃ z, z = h 6 0 := ⟨_, rfl⟩
        have bv7 : 0 ≤ v7 ∧ v7 ≤ 8 := by rw [ev7]; exact (m_6_0 hM)
        rcases q6 with ⟨rfl, q6⟩ | ⟨rfl, q6⟩
        · skip
          refine g_if_eq 52 dX9_struckBy_23 (by decide) (fun _ => by exfalso; omega) (fun q8 => ?_)
          refine g_aload_n dX9_struckBy_26 rfl ?_
          refine gR_X9_36 rfl dX9_struckBy_27 sh_1 (b := 18) (m_1_4 hM) ?_
          refine g_iload_n dX9_struckBy_30 rfl (fun _ => ?_)
          refine g_bipush dX9_struckBy_31 (inR_c rfl) (by decide) ?_
          refine g_imulB dX9_struckBy_33 (by omega) (by omega) ?_
          refine g_iload_n dX9_struckBy_34 rfl (fun _ => ?_)
          refine g_iaddB dX9_struckBy_35 (by omega) (by omega) ?_
          refine g_ialdB dX9_struckBy_36 sh_18 (by omega) (by omega) (m_18 hM _) (fun v9 ev9 bv9 cv9 => ?_)
          refine g_if_le 46 dX9_struckBy_37 (by decide) (fun q10 => ?_) (fun q10 => ?_)
          · skip
            refine g_iincB dX9_struckBy_46 rfl rfl (by omega) (by omega) ?_
            refine g_goto 4 dX9_struckBy_49 (by decide) ?_
            exact ih4 _ _ (by omega) (by omega) (by omega) (by omega) (by omega)
          · skip
            refine g_iload_n dX9_struckBy_40 rfl (fun _ => ?_)
            refine g_iconst dX9_struckBy_41 (inR_c rfl) ?_
            refine g_iload_n dX9_struckBy_42 rfl (fun _ => ?_)
            refine g_ishlX (lo := 1) (hi := 128) dX9_struckBy_43 (ishl1_b 7 (by decide) (by omega) (by omega)) (fun v11 ev11 bv11 cv11 => ?_)
            refine g_iorX (lo := 0) (hi := 255) dX9_struckBy_44 (ior_b 8 (by decide) (by omega) (by omega) (by omega) (by omega)) (fun v12 ev12 bv12 cv12 => ?_)
            refine g_istore_n dX9_struckBy_45 (by decide) rfl ?_
            refine g_iincB dX9_struckBy_46 rfl rfl (by omega) (by omega) ?_
            refine g_goto 4 dX9_struckBy_49 (by decide) ?_
            exact ih4 _ _ (by omega) (by omega) (by omega) (by omega) (by omega)
        · skip
          refine g_if_eq 52 dX9_struckBy_23 (by decide) (fun q13 => ?_) (fun _ => by exfalso; omega)
          refine g_iload_n dX9_struckBy_52 rfl (fun _ => ?_)
          exact g_ireturn dX9_struckBy_53 retI (hPo _ ⟨(by omega), (by omega)⟩)
  refine g_istore_n dX9_struckBy_3 (by decide) rfl ?_
  exact c4 9 _ _ (by omega) (by omega) (by omega) (by omega) (by omega)
set_option maxRecDepth 100000 in
set_option maxHeartbeats 4000000 in
theorem c_X11_teachers_0 (x1 : Int) (h : MEM) (hM : MBx h) (bx1 : -2147483648 ≤ x1) (dx1 : x1 ≤ 2147483647) : CP yX11_teachers cX11_teachers 2 (some .int) 3 [pR 0, pI x1] h (fun x => -1 ≤ x ∧ x ≤ 255) := by
  refine CP.of (L0 := [some (pR 0), some (pI x1)]) rfl (Nat.le_of_ble_eq_true rfl) rfl (fun Po hPo hav => ?_)
  refine g_aload_n dX11_teachers_0 rfl ?_
  refine gR_X11_10 rfl dX11_teachers_1 sh_0 (b := 1) (m_0_0 hM) ?_
  refine gR_X11_95 rfl dX11_teachers_4 sh_1 (b := 6) (m_1_1 hM) ?_
  refine g_iload_n dX11_teachers_7 rfl (fun _ => ?_)
  refine g_cVP (as := [_]) (c_X0_has_6 _ h hM (by omega) (by omega)) dX11_teachers_8 mi_X0_has in_X0_has se_X0_has ml_X11_113 rfl rfl rfl sh_6 rfl rfl (Nat.le_of_ble_eq_true rfl) (fun v1 q2 => ?_)
  obtain ⟨v3, ev3⟩ : ∃ z, z = h 6 0 := ⟨_, rfl⟩
  have bv3 : 0 ≤ v3 ∧ v3 ≤ 8 := by rw [ev3]; exact (m_6_0 hM)
  rcases q2 with ⟨rfl, q2⟩ | ⟨rfl, q2⟩
  · skip
    refine g_if_eq 25 dX11_teachers_11 (by decide) (fun _ => by exfalso; omega) (fun q4 => ?_)
    refine g_aload_n dX11_teachers_14 rfl ?_
    refine gR_X11_10 rfl dX11_teachers_15 sh_0 (b := 1) (m_0_0 hM) ?_
    refine g_iload_n dX11_teachers_18 rfl (fun _ => ?_)
    refine g_cVP (as := [_]) (c_X9_struckBy_1 _ h hM (by omega) (by omega)) dX11_teachers_19 mi_X9_struckBy in_X9_struckBy se_X9_struckBy ml_X11_283 rfl rfl rfl sh_1 rfl rfl (Nat.le_of_ble_eq_true rfl) (fun v5 q6 => ?_)
    obtain ⟨bv5, cv5⟩ := q6
    refine g_goto 26 dX11_teachers_22 (by decide) ?_
    exact g_ireturn dX11_teachers_26 retI (hPo _ ⟨(by omega), (by omega)⟩)
  · skip
    refine g_if_eq 25 dX11_teachers_11 (by decide) (fun q7 => ?_) (fun _ => by exfalso; omega)
    refine g_iconst dX11_teachers_25 (inR_c rfl) ?_
    exact g_ireturn dX11_teachers_26 retI (hPo _ ⟨(by omega), (by omega)⟩)
set_option maxRecDepth 100000 in
set_option maxHeartbeats 4000000 in
theorem c_X1_ringOf_78 (x1 x2 x3 : Int) (h : MEM) (hM : MBx h) (bx1 : 0 ≤ x1) (dx1 : x1 ≤ 7) (bx2 : 0 ≤ x2) (dx2 : x2 ≤ 7) (bx3 : 0 ≤ x3) (dx3 : x3 ≤ 8) : CI yX1_ringOf cX1_ringOf 8 (some .int) 1 [pR 78, pI x1, pI x2, pI x3] h (fun x h' => MBx h' ∧ Fr [(80, 0)] h h' ∧ -1 ≤ x ∧ x ≤ 7) := by
  refine CI.of (L0 := [some (pR 78), some (pI x1), some (pI x2), some (pI x3), none, none, none, none]) rfl (Nat.le_of_ble_eq_true rfl) rfl (fun Po hPo hav => ?_)
  refine g_iconst dX1_ringOf_0 (inR_c rfl) ?_
  refine g_iload_n dX1_ringOf_1 rfl (fun _ => ?_)
  refine g_ishlX (lo := 1) (hi := 128) dX1_ringOf_2 (ishl1_b 7 (by decide) (by omega) (by omega)) (fun v1 ev1 bv1 cv1 => ?_)
  refine g_istore dX1_ringOf_3 (by decide) rfl ?_
  refine g_aload_n dX1_ringOf_5 rfl ?_
  refine gR_X1_19 rfl dX1_ringOf_6 sh_78 (b := 80) (m_78_2 hM) ?_
  refine g_iconst dX1_ringOf_9 (inR_c rfl) ?_
  refine g_iload dX1_ringOf_10 rfl (fun _ => ?_)
  refine g_iastB dX1_ringOf_12 sh_80 (by omega) (by omega) (fun h2 eh2 => ?_)
  have hFh2 := Fr.ar eh2
  have hMh2 := u_80 hM eh2 (by omega) (by omega)
  refine g_iconst dX1_ringOf_13 (inR_c rfl) ?_
  have c16 : ∀ (n : Nat) (y3 y4 : Int) (h5 : MEM), MBx h5 → Fr [(80, 0)] h2 h5 → -2147483648 ≤ y3 → y3 ≤ 2147483647 → 0 ≤ y4 → y4 ≤ 7 → 7 - y4 < (n : Int) → G yX1_ringOf cX1_ringOf 8 (some .int) none Po (1, 60, 0, 0) 16 [some (pR 78), some (pI x1), none, some (pI x3), some (pI y3), some (pI y4), none, none] [] SH h5 0 0 := by
    intro n
    induction n with
    | zero =>
      intro y3 y4 h5 hMh5 hFh5 by3 dy3 by4 dy4 hn
      exfalso; omega
    | succ n ih16 =>
      intro y3 y4 h5 hMh5 hFh5 by3 dy3 by4 dy4 hn
      refine g_iload dX1_ringOf_16 rfl (fun _ => ?_)
      refine g_bipush dX1_ringOf_18 (inR_c rfl) (by decide) ?_
      refine g_icmp_ge 139 dX1_ringOf_20 (by decide) (fun _ => by exfalso; omega) (fun q6 => ?_)
      refine g_aload_n dX1_ringOf_23 rfl ?_
      refine gR_X1_19 rfl dX1_ringOf_24 sh_78 (b := 80) (m_78_2 hMh5) ?_
      refine g_iload dX1_ringOf_27 rfl (fun _ => ?_)
      refine g_ialdB dX1_ringOf_29 sh_80 (by omega) (by omega) (m_80 hMh5 _) (fun v7 ev7 bv7 cv7 => ?_)
      refine g_iload_n dX1_ringOf_30 rfl (fun _ => ?_)
      refine g_ishrF dX1_ringOf_31 (fun v8 ev8 bv8 cv8 => ?_)
      refine g_iconst dX1_ringOf_32 (inR_c rfl) ?_
      refine g_iandX (lo := 0) (hi := 1) dX1_ringOf_33 (iand_r (by omega) (by omega)) (fun v9 ev9 bv9 cv9 => ?_)
      refine g_iconst dX1_ringOf_34 (inR_c rfl) ?_
      refine g_icmp_ne 41 dX1_ringOf_35 (by decide) (fun q10 => ?_) (fun q10 => ?_)
      · skip
        refine g_iconst dX1_ringOf_41 (inR_c rfl) ?_
        refine g_istore dX1_ringOf_42 (by decide) rfl ?_
        refine g_iconst dX1_ringOf_44 (inR_c rfl) ?_
        have c47 : ∀ (n : Nat) (y11 y12 : Int) , -2147483648 ≤ y11 → y11 ≤ 2147483647 → 0 ≤ y12 → y12 ≤ 8 → 8 - y12 < (n : Int) → G yX1_ringOf cX1_ringOf 8 (some .int) none Po (1, 60, 0, 0) 47 [some (pR 78), some (pI x1), none, some (pI x3), some (pI y3), some (pI y4), some (pI y11), some (pI y12)] [] SH h5 0 0 := by
          intro n
          induction n with
          | zero =>
            intro y11 y12 by11 dy11 by12 dy12 hn
            exfalso; omega
          | succ n ih47 =>
            intro y11 y12 by11 dy11 by12 dy12 hn
            refine g_iload dX1_ringOf_47 rfl (fun _ => ?_)
            refine g_iload_n dX1_ringOf_49 rfl (fun _ => ?_)
            refine g_icmp_ge 89 dX1_ringOf_50 (by decide) (fun q13 => ?_) (fun q13 => ?_)
            · skip
              refine g_iload dX1_ringOf_89 rfl (fun _ => ?_)
              refine g_iload dX1_ringOf_91 rfl (fun _ => ?_)
              refine g_iconst dX1_ringOf_93 (inR_c rfl) ?_
              refine g_ixorF dX1_ringOf_94 (fun v14 ev14 bv14 cv14 => ?_)
              refine g_iandF dX1_ringOf_95 (fun v15 ev15 bv15 cv15 => ?_)
              refine g_if_eq 108 dX1_ringOf_96 (by decide) (fun q16 => ?_) (fun q16 => ?_)
              · skip
                refine g_iconst dX1_ringOf_108 (inR_c rfl) ?_
                exact g_ireturn dX1_ringOf_109 retI (hPo _ _ ⟨hMh5, (Fr.tr (Fr.sub hFh2 rfl) hFh5 rfl), (by omega), (by omega)⟩)
              · skip
                refine g_iload dX1_ringOf_99 rfl (fun _ => ?_)
                refine g_iconst dX1_ringOf_101 (inR_c rfl) ?_
                refine g_iaddB dX1_ringOf_102 (by omega) (by omega) ?_
                refine g_bipush dX1_ringOf_103 (inR_c rfl) (by decide) ?_
                refine g_icmp_lt 110 dX1_ringOf_105 (by decide) (fun q17 => ?_) (fun q17 => ?_)
                · skip
                  refine g_aload_n dX1_ringOf_110 rfl ?_
                  refine gR_X1_19 rfl dX1_ringOf_111 sh_78 (b := 80) (m_78_2 hMh5) ?_
                  refine g_iload dX1_ringOf_114 rfl (fun _ => ?_)
                  refine g_iconst dX1_ringOf_116 (inR_c rfl) ?_
                  refine g_iaddB dX1_ringOf_117 (by omega) (by omega) ?_
                  refine g_iload dX1_ringOf_118 rfl (fun _ => ?_)
                  refine g_iload dX1_ringOf_120 rfl (fun _ => ?_)
                  refine g_iconst dX1_ringOf_122 (inR_c rfl) ?_
                  refine g_ixorF dX1_ringOf_123 (fun v18 ev18 bv18 cv18 => ?_)
                  refine g_iandF dX1_ringOf_124 (fun v19 ev19 bv19 cv19 => ?_)
                  refine g_iastB dX1_ringOf_125 sh_80 (by omega) (by omega) (fun h20 eh20 => ?_)
                  have hFh20 := Fr.ar eh20
                  have hMh20 := u_80 hMh5 eh20 (by omega) (by omega)
                  refine g_iload dX1_ringOf_126 rfl (fun _ => ?_)
                  refine g_iload dX1_ringOf_128 rfl (fun _ => ?_)
                  refine g_iorF dX1_ringOf_130 (fun v21 ev21 bv21 cv21 => ?_)
                  refine g_istore dX1_ringOf_131 (by decide) rfl ?_
                  refine g_iincB dX1_ringOf_133 rfl rfl (by omega) (by omega) ?_
                  refine g_goto 16 dX1_ringOf_136 (by decide) ?_
                  refine g_drop 6 ?_
                  refine g_drop 7 ?_
                  exact ih16 _ _ _ hMh20 (Fr.tr (Fr.sub hFh5 rfl) hFh20 rfl) (by omega) (by omega) (by omega) (by omega) (by omega)
                · skip
                  refine g_iconst dX1_ringOf_108 (inR_c rfl) ?_
                  exact g_ireturn dX1_ringOf_109 retI (hPo _ _ ⟨hMh5, (Fr.tr (Fr.sub hFh2 rfl) hFh5 rfl), (by omega), (by omega)⟩)
            · skip
              refine g_aload_n dX1_ringOf_53 rfl ?_
              refine gR_X1_22 rfl dX1_ringOf_54 sh_78 (b := 81) (m_78_3 hMh5) ?_
              refine g_iload dX1_ringOf_57 rfl (fun _ => ?_)
              refine g_ialdB dX1_ringOf_59 sh_81 (by omega) (by omega) (m_81 hMh5 _) (fun v22 ev22 bv22 cv22 => ?_)
              refine g_aload_n dX1_ringOf_60 rfl ?_
              refine gR_X1_19 rfl dX1_ringOf_61 sh_78 (b := 80) (m_78_2 hMh5) ?_
              refine g_iload dX1_ringOf_64 rfl (fun _ => ?_)
              refine g_ialdE dX1_ringOf_66 sh_80 (by omega) (by omega) ev7.symm ?_
              refine g_iandF dX1_ringOf_67 (fun v23 ev23 bv23 cv23 => ?_)
              refine g_if_eq 83 dX1_ringOf_68 (by decide) (fun q24 => ?_) (fun q24 => ?_)
              · skip
                refine g_iincB dX1_ringOf_83 rfl rfl (by omega) (by omega) ?_
                refine g_goto 47 dX1_ringOf_86 (by decide) ?_
                exact ih47 _ _ (by omega) (by omega) (by omega) (by omega) (by omega)
              · skip
                refine g_iload dX1_ringOf_71 rfl (fun _ => ?_)
                refine g_aload_n dX1_ringOf_73 rfl ?_
                refine gR_X1_22 rfl dX1_ringOf_74 sh_78 (b := 81) (m_78_3 hMh5) ?_
                refine g_iload dX1_ringOf_77 rfl (fun _ => ?_)
                refine g_ialdE dX1_ringOf_79 sh_81 (by omega) (by omega) ev22.symm ?_
                refine g_iorF dX1_ringOf_80 (fun v25 ev25 bv25 cv25 => ?_)
                refine g_istore dX1_ringOf_81 (by decide) rfl ?_
                refine g_iincB dX1_ringOf_83 rfl rfl (by omega) (by omega) ?_
                refine g_goto 47 dX1_ringOf_86 (by decide) ?_
                exact ih47 _ _ (by omega) (by omega) (by omega) (by omega) (by omega)
        refine g_istore dX1_ringOf_45 (by decide) rfl ?_
        exact c47 9 _ _ (by omega) (by omega) (by omega) (by omega) (by omega)
      · skip
        refine g_iload dX1_ringOf_38 rfl (fun _ => ?_)
        exact g_ireturn dX1_ringOf_40 retI (hPo _ _ ⟨hMh5, (Fr.tr (Fr.sub hFh2 rfl) hFh5 rfl), (by omega), (by omega)⟩)
  refine g_istore dX1_ringOf_14 (by decide) rfl ?_
  refine g_drop 2 ?_
  exact c16 8 _ _ _ hMh2 Fr.rf (by omega) (by omega) (by omega) (by omega) (by omega)
set_option maxRecDepth 100000 in
set_option maxHeartbeats 4000000 in
theorem c_X1_leastBetween_78 (x1 x2 x3 : Int) (h : MEM) (hM : MBx h) (bx1 : -2147483648 ≤ x1) (dx1 : x1 ≤ 2147483647) (bx2 : -2147483648 ≤ x2) (dx2 : x2 ≤ 2147483647) (bx3 : 0 ≤ x3) (dx3 : x3 ≤ 8) : CP yX1_leastBetween cX1_leastBetween 5 (some .int) 1 [pR 78, pI x1, pI x2, pI x3] h (fun x => -1 ≤ x ∧ x ≤ 7) := by
  refine CP.of (L0 := [some (pR 78), some (pI x1), some (pI x2), some (pI x3), none]) rfl (Nat.le_of_ble_eq_true rfl) rfl (fun Po hPo hav => ?_)
  refine g_iconst dX1_leastBetween_0 (inR_c rfl) ?_
  have c3 : ∀ (n : Nat) (y1 : Int) , 0 ≤ y1 → y1 ≤ 8 → 8 - y1 < (n : Int) → G yX1_leastBetween cX1_leastBetween 5 (some .int) none Po (1, 60, 0, 0) 3 [some (pR 78), some (pI x1), some (pI x2), some (pI x3), some (pI y1)] [] SH h 0 0 := by
    intro n
    induction n with
    | zero =>
      intro y1 by1 dy1 hn
      exfalso; omega
    | succ n ih3 =>
      intro y1 by1 dy1 hn
      refine g_iload dX1_leastBetween_3 rfl (fun _ => ?_)
      refine g_iload_n dX1_leastBetween_5 rfl (fun _ => ?_)
      refine g_icmp_ge 42 dX1_leastBetween_6 (by decide) (fun q2 => ?_) (fun q2 => ?_)
      · skip
        refine g_iconst dX1_leastBetween_42 (inR_c rfl) ?_
        exact g_ireturn dX1_leastBetween_43 retI (hPo _ ⟨(by omega), (by omega)⟩)
      · skip
        refine g_aload_n dX1_leastBetween_9 rfl ?_
        refine gR_X1_22 rfl dX1_leastBetween_10 sh_78 (b := 81) (m_78_3 hM) ?_
        refine g_iload dX1_leastBetween_13 rfl (fun _ => ?_)
        refine g_ialdB dX1_leastBetween_15 sh_81 (by omega) (by omega) (m_81 hM _) (fun v3 ev3 bv3 cv3 => ?_)
        refine g_iload_n dX1_leastBetween_16 rfl (fun _ => ?_)
        refine g_iandF dX1_leastBetween_17 (fun v4 ev4 bv4 cv4 => ?_)
        refine g_if_eq 36 dX1_leastBetween_18 (by decide) (fun q5 => ?_) (fun q5 => ?_)
        · skip
          refine g_iincB dX1_leastBetween_36 rfl rfl (by omega) (by omega) ?_
          refine g_goto 3 dX1_leastBetween_39 (by decide) ?_
          exact ih3 _ (by omega) (by omega) (by omega)
        · skip
          refine g_aload_n dX1_leastBetween_21 rfl ?_
          refine gR_X1_22 rfl dX1_leastBetween_22 sh_78 (b := 81) (m_78_3 hM) ?_
          refine g_iload dX1_leastBetween_25 rfl (fun _ => ?_)
          refine g_ialdE dX1_leastBetween_27 sh_81 (by omega) (by omega) ev3.symm ?_
          refine g_iload_n dX1_leastBetween_28 rfl (fun _ => ?_)
          refine g_iandF dX1_leastBetween_29 (fun v6 ev6 bv6 cv6 => ?_)
          refine g_if_eq 36 dX1_leastBetween_30 (by decide) (fun q7 => ?_) (fun q7 => ?_)
          · skip
            refine g_iincB dX1_leastBetween_36 rfl rfl (by omega) (by omega) ?_
            refine g_goto 3 dX1_leastBetween_39 (by decide) ?_
            exact ih3 _ (by omega) (by omega) (by omega)
          · skip
            refine g_iload dX1_leastBetween_33 rfl (fun _ => ?_)
            exact g_ireturn dX1_leastBetween_35 retI (hPo _ ⟨(by omega), (by omega)⟩)
  refine g_istore dX1_leastBetween_1 (by decide) rfl ?_
  exact c3 9 _ (by omega) (by omega) (by omega)
set_option maxRecDepth 100000 in
set_option maxHeartbeats 4000000 in
theorem c_X1_search_78_1 (x1 x2 : Int) (h : MEM) (hM : MBx h) (bx1 : 0 ≤ x1) (dx1 : x1 ≤ 7) (bx2 : 0 ≤ x2) (dx2 : x2 ≤ 7) : CI yX1_search cX1_search 8 (some .boolean) 3 [pR 78, pR 1, pI x1, pI x2] h (fun x h' => MBx h' ∧ Fr [(78, 1), (79, 0), (80, 0), (81, 0)] h h' ∧ 0 ≤ x ∧ x ≤ 1) := by
  refine CI.of (L0 := [some (pR 78), some (pR 1), some (pI x1), some (pI x2), none, none, none, none]) rfl (Nat.le_of_ble_eq_true rfl) rfl (fun Po hPo hav => ?_)
  refine g_aload_n dX1_search_0 rfl ?_
  refine gR_X1_25 rfl dX1_search_1 sh_1 (b := 6) (m_1_1 hM) ?_
  refine gI_X1_31 rfl dX1_search_4 sh_6 (m_6_0 hM) (fun v1 ev1 bv1 cv1 => ?_)
  refine g_istore dX1_search_7 (by decide) rfl ?_
  refine g_iconst dX1_search_9 (inR_c rfl) ?_
  have c12 : ∀ (n : Nat) (y2 : Int) (h3 : MEM), MBx h3 → Fr [(81, 0)] h h3 → 0 ≤ y2 → y2 ≤ 8 → 8 - y2 < (n : Int) → G yX1_search cX1_search 8 (some .boolean) none Po (3, 180, 0, 0) 12 [some (pR 78), some (pR 1), some (pI x1), some (pI x2), some (pI v1), some (pI y2), none, none] [] SH h3 0 0 := by
    intro n
    induction n with
    | zero =>
      intro y2 h3 hMh3 hFh3 by2 dy2 hn
      exfalso; omega
    | succ n ih12 =>
      intro y2 h3 hMh3 hFh3 by2 dy2 hn
      refine g_iload dX1_search_12 rfl (fun _ => ?_)
      refine g_iload dX1_search_14 rfl (fun _ => ?_)
      refine g_icmp_ge 38 dX1_search_16 (by decide) (fun q4 => ?_) (fun q4 => ?_)
      · skip
        refine g_aload_n dX1_search_38 rfl ?_
        refine g_aload_n dX1_search_39 rfl ?_
        refine g_iload_n dX1_search_40 rfl (fun _ => ?_)
        refine g_iload_n dX1_search_41 rfl (fun _ => ?_)
        refine g_iload dX1_search_42 rfl (fun _ => ?_)
        refine g_cV (as := [_, _, _]) (c_X1_ringOf_78 _ _ _ h3 hMh3 (by omega) (by omega) (by omega) (by omega) (by omega) (by omega)) dX1_search_44 mi_X1_ringOf in_X1_ringOf se_X1_ringOf ml_X1_40 rfl rfl rfl sh_78 rfl rfl (Nat.le_of_ble_eq_true rfl) (fun v5 h6 q7 => ?_)
        obtain ⟨hMh6, hFh6, bv5, cv5⟩ := q7
        refine pI_X1_9 rfl dX1_search_47 sh_78 (fun h8 eh8 => ?_)
        have hFh8 := Fr.st eh8
        have hMh8 := u_78_0 hMh6 eh8 (by omega) (by omega)
        refine g_aload_n dX1_search_50 rfl ?_
        refine gE_X1_9 rfl dX1_search_51 sh_78 (st_at eh8) ?_
        refine g_iconst dX1_search_54 (inR_c rfl) ?_
        refine g_icmp_ne 60 dX1_search_55 (by decide) (fun q9 => ?_) (fun q9 => ?_)
        · skip
          refine g_iconst dX1_search_60 (inR_c rfl) ?_
          refine g_iload_n dX1_search_61 rfl (fun _ => ?_)
          refine g_ishlX (lo := 1) (hi := 128) dX1_search_62 (ishl1_b 7 (by decide) (by omega) (by omega)) (fun v10 ev10 bv10 cv10 => ?_)
          refine g_istore dX1_search_63 (by decide) rfl ?_
          refine g_iconst dX1_search_65 (inR_c rfl) ?_
          have c68 : ∀ (n : Nat) (y11 y12 : Int) (h13 : MEM), MBx h13 → Fr [(79, 0)] h8 h13 → -2147483648 ≤ y11 → y11 ≤ 2147483647 → 0 ≤ y12 → y12 ≤ 7 → 7 - y12 < (n : Int) → G yX1_search cX1_search 8 (some .boolean) none Po (3, 180, 0, 0) 68 [some (pR 78), none, none, none, some (pI v1), some (pI y11), some (pI y12), none] [] SH h13 0 0 := by
            intro n
            induction n with
            | zero =>
              intro y11 y12 h13 hMh13 hFh13 by11 dy11 by12 dy12 hn
              exfalso; omega
            | succ n ih68 =>
              intro y11 y12 h13 hMh13 hFh13 by11 dy11 by12 dy12 hn
              refine g_iload dX1_search_68 rfl (fun _ => ?_)
              refine g_aload_n dX1_search_70 rfl ?_
              refine gE_X1_9 rfl dX1_search_71 sh_78 ((hFh13 78 0 rfl).trans (st_at eh8)) ?_
              refine g_icmp_ge 153 dX1_search_74 (by decide) (fun q14 => ?_) (fun q14 => ?_)
              · skip
                refine g_iconst dX1_search_153 (inR_c rfl) ?_
                exact g_ireturn dX1_search_154 (retZ (by omega)) (hPo _ _ ⟨hMh13, (Fr.tr (Fr.tr (Fr.tr (Fr.sub hFh3 rfl) hFh6 rfl) hFh8 rfl) hFh13 rfl), (by omega), (by omega)⟩)
              · skip
                refine g_aload_n dX1_search_77 rfl ?_
                refine gE_X1_9 rfl dX1_search_78 sh_78 ((hFh13 78 0 rfl).trans (st_at eh8)) ?_
                refine g_bipush dX1_search_81 (inR_c rfl) (by decide) ?_
                refine g_icmp_ge 153 dX1_search_83 (by decide) (fun _ => by exfalso; omega) (fun q15 => ?_)
                refine g_aload_n dX1_search_86 rfl ?_
                refine gR_X1_19 rfl dX1_search_87 sh_78 (b := 80) (m_78_2 hMh13) ?_
                refine g_aload_n dX1_search_90 rfl ?_
                refine gE_X1_9 rfl dX1_search_91 sh_78 ((hFh13 78 0 rfl).trans (st_at eh8)) ?_
                refine g_iconst dX1_search_94 (inR_c rfl) ?_
                refine g_isubB dX1_search_95 (by omega) (by omega) ?_
                refine g_iload dX1_search_96 rfl (fun _ => ?_)
                refine g_isubB dX1_search_98 (by omega) (by omega) ?_
                refine g_ialdB dX1_search_99 sh_80 (by omega) (by omega) (m_80 hMh13 _) (fun v16 ev16 bv16 cv16 => ?_)
                refine g_istore dX1_search_100 (by decide) rfl ?_
                refine g_aload_n dX1_search_102 rfl ?_
                refine gR_X1_15 rfl dX1_search_103 sh_78 (b := 79) (m_78_1 hMh13) ?_
                refine g_iload dX1_search_106 rfl (fun _ => ?_)
                refine g_aload_n dX1_search_108 rfl ?_
                refine g_iload dX1_search_109 rfl (fun _ => ?_)
                refine g_iload dX1_search_111 rfl (fun _ => ?_)
                refine g_iload dX1_search_113 rfl (fun _ => ?_)
                refine g_cVP (as := [_, _, _]) (c_X1_leastBetween_78 _ _ _ h13 hMh13 (by omega) (by omega) (by omega) (by omega) (by omega) (by omega)) dX1_search_115 mi_X1_leastBetween in_X1_leastBetween se_X1_leastBetween ml_X1_44 rfl rfl rfl sh_78 rfl rfl (Nat.le_of_ble_eq_true rfl) (fun v17 q18 => ?_)
                obtain ⟨bv17, cv17⟩ := q18
                refine g_iastB dX1_search_118 sh_79 (by omega) (by omega) (fun h19 eh19 => ?_)
                have hFh19 := Fr.ar eh19
                have hMh19 := u_79 hMh13 eh19 (by omega) (by omega)
                refine g_aload_n dX1_search_119 rfl ?_
                refine gR_X1_15 rfl dX1_search_120 sh_78 (b := 79) (m_78_1 hMh19) ?_
                refine g_iload dX1_search_123 rfl (fun _ => ?_)
                refine g_ialdE dX1_search_125 sh_79 (by omega) (by omega) (st_at eh19) ?_
                refine g_iconst dX1_search_126 (inR_c rfl) ?_
                refine g_icmp_eq 147 dX1_search_127 (by decide) (fun q20 => ?_) (fun q20 => ?_)
                · skip
                  refine g_iincB dX1_search_147 rfl rfl (by omega) (by omega) ?_
                  refine g_goto 68 dX1_search_150 (by decide) ?_
                  refine g_drop 7 ?_
                  exact ih68 _ _ _ hMh19 (Fr.tr (Fr.sub hFh13 rfl) hFh19 rfl) (by omega) (by omega) (by omega) (by omega) (by omega)
                · skip
                  refine g_aload_n dX1_search_130 rfl ?_
                  refine gR_X1_22 rfl dX1_search_131 sh_78 (b := 81) (m_78_3 hMh19) ?_
                  refine g_aload_n dX1_search_134 rfl ?_
                  refine gR_X1_15 rfl dX1_search_135 sh_78 (b := 79) (m_78_1 hMh19) ?_
                  refine g_iload dX1_search_138 rfl (fun _ => ?_)
                  refine g_ialdE dX1_search_140 sh_79 (by omega) (by omega) (st_at eh19) ?_
                  refine g_ialdB dX1_search_141 sh_81 (by omega) (by omega) (m_81 hMh19 _) (fun v21 ev21 bv21 cv21 => ?_)
                  refine g_iload dX1_search_142 rfl (fun _ => ?_)
                  refine g_iandF dX1_search_144 (fun v22 ev22 bv22 cv22 => ?_)
                  refine g_istore dX1_search_145 (by decide) rfl ?_
                  refine g_iincB dX1_search_147 rfl rfl (by omega) (by omega) ?_
                  refine g_goto 68 dX1_search_150 (by decide) ?_
                  refine g_drop 7 ?_
                  exact ih68 _ _ _ hMh19 (Fr.tr (Fr.sub hFh13 rfl) hFh19 rfl) (by omega) (by omega) (by omega) (by omega) (by omega)
          refine g_istore dX1_search_66 (by decide) rfl ?_
          refine g_drop 1 ?_
          refine g_drop 2 ?_
          refine g_drop 3 ?_
          exact c68 8 _ _ _ hMh8 Fr.rf (by omega) (by omega) (by omega) (by omega) (by omega)
        · skip
          refine g_iconst dX1_search_58 (inR_c rfl) ?_
          exact g_ireturn dX1_search_59 (retZ (by omega)) (hPo _ _ ⟨hMh8, (Fr.tr (Fr.tr (Fr.sub hFh3 rfl) hFh6 rfl) hFh8 rfl), (by omega), (by omega)⟩)
      · skip
        refine g_aload_n dX1_search_19 rfl ?_
        refine gR_X1_22 rfl dX1_search_20 sh_78 (b := 81) (m_78_3 hMh3) ?_
        refine g_iload dX1_search_23 rfl (fun _ => ?_)
        refine g_aload_n dX1_search_25 rfl ?_
        refine g_iload dX1_search_26 rfl (fun _ => ?_)
        refine g_cVP (as := [_]) (c_X9_struckBy_1 _ h3 hMh3 (by omega) (by omega)) dX1_search_28 mi_X9_struckBy in_X9_struckBy se_X9_struckBy ml_X1_36 rfl rfl rfl sh_1 rfl rfl (Nat.le_of_ble_eq_true rfl) (fun v23 q24 => ?_)
        obtain ⟨bv23, cv23⟩ := q24
        refine g_iastB dX1_search_31 sh_81 (by omega) (by omega) (fun h25 eh25 => ?_)
        have hFh25 := Fr.ar eh25
        have hMh25 := u_81 hMh3 eh25 (by omega) (by omega)
        refine g_iincB dX1_search_32 rfl rfl (by omega) (by omega) ?_
        refine g_goto 12 dX1_search_35 (by decide) ?_
        exact ih12 _ _ hMh25 (Fr.tr (Fr.sub hFh3 rfl) hFh25 rfl) (by omega) (by omega) (by omega)
  refine g_istore dX1_search_10 (by decide) rfl ?_
  exact c12 9 _ _ hM Fr.rf (by omega) (by omega) (by omega)
set_option maxRecDepth 100000 in
set_option maxHeartbeats 4000000 in
theorem c_X11_chain_0 (x1 x2 x3 : Int) (h : MEM) (hM : MBx h) (bx1 : -2147483648 ≤ x1) (dx1 : x1 ≤ 2147483647) (bx2 : -2147483648 ≤ x2) (dx2 : x2 ≤ 2147483647) (bx3 : -2147483648 ≤ x3) (dx3 : x3 ≤ 2147483647) : CI yX11_chain cX11_chain 4 (some .int) 4 [pR 0, pI x1, pI x2, pI x3] h (fun x h' => MBx h' ∧ Fr [(78, 1), (79, 0), (80, 0), (81, 0)] h h' ∧ -3 ≤ x ∧ x ≤ 8) := by
  refine CI.of (L0 := [some (pR 0), some (pI x1), some (pI x2), some (pI x3)]) rfl (Nat.le_of_ble_eq_true rfl) rfl (fun Po hPo hav => ?_)
  refine g_aload_n dX11_chain_0 rfl ?_
  refine gR_X11_10 rfl dX11_chain_1 sh_0 (b := 1) (m_0_0 hM) ?_
  refine gR_X11_104 rfl dX11_chain_4 sh_1 (b := 12) (m_1_2 hM) ?_
  refine g_iload_n dX11_chain_7 rfl (fun _ => ?_)
  refine g_cVP (as := [_]) (c_X4_has_12 _ h hM (by omega) (by omega)) dX11_chain_8 mi_X4_has in_X4_has se_X4_has ml_X11_124 rfl rfl rfl sh_12 rfl rfl (Nat.le_of_ble_eq_true rfl) (fun v1 q2 => ?_)
  obtain ⟨v3, ev3⟩ : ∃ z, z = h 12 0 := ⟨_, rfl⟩
  have bv3 : 0 ≤ v3 ∧ v3 ≤ 8 := by rw [ev3]; exact (m_12_0 hM)
  rcases q2 with ⟨rfl, q2⟩ | ⟨rfl, q2⟩
  · skip
    refine g_if_eq 38 dX11_chain_11 (by decide) (fun _ => by exfalso; omega) (fun q4 => ?_)
    refine g_aload_n dX11_chain_14 rfl ?_
    refine gR_X11_10 rfl dX11_chain_15 sh_0 (b := 1) (m_0_0 hM) ?_
    refine gR_X11_104 rfl dX11_chain_18 sh_1 (b := 12) (m_1_2 hM) ?_
    refine g_iload_n dX11_chain_21 rfl (fun _ => ?_)
    refine g_cVP (as := [_]) (c_X4_has_12 _ h hM (by omega) (by omega)) dX11_chain_22 mi_X4_has in_X4_has se_X4_has ml_X11_124 rfl rfl rfl sh_12 rfl rfl (Nat.le_of_ble_eq_true rfl) (fun v5 q6 => ?_)
    have q7 : h 12 0 = v3 := ev3.symm
    rcases q6 with ⟨rfl, q6⟩ | ⟨rfl, q6⟩
    · skip
      refine g_if_eq 38 dX11_chain_25 (by decide) (fun _ => by exfalso; omega) (fun q8 => ?_)
      refine g_iload_n dX11_chain_28 rfl (fun _ => ?_)
      refine g_iconst dX11_chain_29 (inR_c rfl) ?_
      refine g_bipush dX11_chain_30 (inR_c rfl) (by decide) ?_
      refine g_cSP (av := [_, _, _]) (c_X11_isWithin _ _ _ h hM (by omega) (by omega) (by omega) (by omega) (by omega) (by omega)) dX11_chain_32 mi_X11_isWithin st_X11_isWithin ml_X11_81 rfl rfl rfl rfl (Nat.le_of_ble_eq_true rfl) (fun v9 q10 => ?_)
      rcases q10 with ⟨rfl, q10⟩ | ⟨rfl, q10⟩
      · skip
        refine g_if_ne 41 dX11_chain_35 (by decide) (fun q11 => ?_) (fun _ => by exfalso; omega)
        refine g_aload_n dX11_chain_41 rfl ?_
        refine gR_X11_63 rfl dX11_chain_42 sh_0 (b := 78) (m_0_9 hM) ?_
        refine g_aload_n dX11_chain_45 rfl ?_
        refine gR_X11_10 rfl dX11_chain_46 sh_0 (b := 1) (m_0_0 hM) ?_
        refine g_iload_n dX11_chain_49 rfl (fun _ => ?_)
        refine g_iload_n dX11_chain_50 rfl (fun _ => ?_)
        refine g_cV (as := [_, _, _]) (c_X1_search_78_1 _ _ h hM (by omega) (by omega) (by omega) (by omega)) dX11_chain_51 mi_X1_search in_X1_search se_X1_search ml_X11_286 rfl rfl rfl sh_78 rfl rfl (Nat.le_of_ble_eq_true rfl) (fun v12 h13 q14 => ?_)
        obtain ⟨hMh13, hFh13, bv12, cv12⟩ := q14
        refine g_if_ne 60 dX11_chain_54 (by decide) (fun q15 => ?_) (fun q15 => ?_)
        · skip
          refine g_iload_n dX11_chain_60 rfl (fun _ => ?_)
          refine g_iconst dX11_chain_61 (inR_c rfl) ?_
          refine g_icmp_ne 73 dX11_chain_62 (by decide) (fun q16 => ?_) (fun q16 => ?_)
          · skip
            refine g_iload_n dX11_chain_73 rfl (fun _ => ?_)
            refine g_aload_n dX11_chain_74 rfl ?_
            refine gR_X11_63 rfl dX11_chain_75 sh_0 (b := 78) (m_0_9 hMh13) ?_
            refine gI_X11_289 rfl dX11_chain_78 sh_78 (m_78_0 hMh13) (fun v17 ev17 bv17 cv17 => ?_)
            refine g_icmp_ge 96 dX11_chain_81 (by decide) (fun q18 => ?_) (fun q18 => ?_)
            · skip
              refine g_bipush dX11_chain_96 (inR_c rfl) (by decide) ?_
              exact g_ireturn dX11_chain_98 retI (hPo _ _ ⟨hMh13, (Fr.sub hFh13 rfl), (by omega), (by omega)⟩)
            · skip
              refine g_aload_n dX11_chain_84 rfl ?_
              refine gR_X11_63 rfl dX11_chain_85 sh_0 (b := 78) (m_0_9 hMh13) ?_
              refine gR_X11_290 rfl dX11_chain_88 sh_78 (b := 79) (m_78_1 hMh13) ?_
              refine g_iload_n dX11_chain_91 rfl (fun _ => ?_)
              refine g_ialdB dX11_chain_92 sh_79 (by omega) (by omega) (m_79 hMh13 _) (fun v19 ev19 bv19 cv19 => ?_)
              refine g_goto 98 dX11_chain_93 (by decide) ?_
              exact g_ireturn dX11_chain_98 retI (hPo _ _ ⟨hMh13, (Fr.sub hFh13 rfl), (by omega), (by omega)⟩)
          · skip
            refine g_aload_n dX11_chain_65 rfl ?_
            refine gR_X11_63 rfl dX11_chain_66 sh_0 (b := 78) (m_0_9 hMh13) ?_
            refine gI_X11_289 rfl dX11_chain_69 sh_78 (m_78_0 hMh13) (fun v20 ev20 bv20 cv20 => ?_)
            exact g_ireturn dX11_chain_72 retI (hPo _ _ ⟨hMh13, (Fr.sub hFh13 rfl), (by omega), (by omega)⟩)
        · skip
          refine g_bipush dX11_chain_57 (inR_c rfl) (by decide) ?_
          exact g_ireturn dX11_chain_59 retI (hPo _ _ ⟨hMh13, (Fr.sub hFh13 rfl), (by omega), (by omega)⟩)
      · skip
        refine g_if_ne 41 dX11_chain_35 (by decide) (fun _ => by exfalso; omega) (fun q21 => ?_)
        refine g_bipush dX11_chain_38 (inR_c rfl) (by decide) ?_
        exact g_ireturn dX11_chain_40 retI (hPo _ _ ⟨hM, Fr.rf, (by omega), (by omega)⟩)
    · skip
      refine g_if_eq 38 dX11_chain_25 (by decide) (fun q22 => ?_) (fun _ => by exfalso; omega)
      refine g_bipush dX11_chain_38 (inR_c rfl) (by decide) ?_
      exact g_ireturn dX11_chain_40 retI (hPo _ _ ⟨hM, Fr.rf, (by omega), (by omega)⟩)
  · skip
    refine g_if_eq 38 dX11_chain_11 (by decide) (fun q23 => ?_) (fun _ => by exfalso; omega)
    refine g_bipush dX11_chain_38 (inR_c rfl) (by decide) ?_
    exact g_ireturn dX11_chain_40 retI (hPo _ _ ⟨hM, Fr.rf, (by omega), (by omega)⟩)
set_option maxRecDepth 100000 in
set_option maxHeartbeats 4000000 in
theorem c_X11_commonDivisor (x1 x2 : Int) (h : MEM) (hM : MBx h) (bx1 : -2147483648 ≤ x1) (dx1 : x1 ≤ 2147483647) (bx2 : 1 ≤ x2) (dx2 : x2 ≤ 1000) : CP yX11_commonDivisor cX11_commonDivisor 6 (some .int) 1 [pI x1, pI x2] h (fun x => -2147483648 ≤ x ∧ x ≤ 2147483647) := by
  refine CP.of (L0 := [some (pI x1), some (pI x2), none, none, none, none]) rfl (Nat.le_of_ble_eq_true rfl) rfl (fun Po hPo hav => ?_)
  refine g_iload_n dX11_commonDivisor_0 rfl (fun _ => ?_)
  refine g_istore_n dX11_commonDivisor_1 (by decide) rfl ?_
  refine g_iload_n dX11_commonDivisor_2 rfl (fun _ => ?_)
  refine g_istore_n dX11_commonDivisor_3 (by decide) rfl ?_
  refine g_iconst dX11_commonDivisor_4 (inR_c rfl) ?_
  have c7 : ∀ (n : Nat) (y1 y2 y3 : Int) , -2147483648 ≤ y1 → y1 ≤ 2147483647 → -2147483648 ≤ y2 → y2 ≤ 2147483647 → 0 ≤ y3 → y3 ≤ 100 → 100 - y3 < (n : Int) → G yX11_commonDivisor cX11_commonDivisor 6 (some .int) none Po (1, 60, 0, 0) 7 [none, none, some (pI y1), some (pI y2), some (pI y3), none] [] SH h 0 0 := by
    intro n
    induction n with
    | zero =>
      intro y1 y2 y3 by1 dy1 by2 dy2 by3 dy3 hn
      exfalso; omega
    | succ n ih7 =>
      intro y1 y2 y3 by1 dy1 by2 dy2 by3 dy3 hn
      refine g_iload dX11_commonDivisor_7 rfl (fun _ => ?_)
      refine g_bipush dX11_commonDivisor_9 (inR_c rfl) (by decide) ?_
      refine g_icmp_ge 34 dX11_commonDivisor_11 (by decide) (fun q4 => ?_) (fun q4 => ?_)
      · skip
        refine g_iload_n dX11_commonDivisor_34 rfl (fun _ => ?_)
        exact g_ireturn dX11_commonDivisor_35 retI (hPo _ ⟨(by omega), (by omega)⟩)
      · skip
        refine g_iload_n dX11_commonDivisor_14 rfl (fun _ => ?_)
        refine g_if_eq 34 dX11_commonDivisor_15 (by decide) (fun q5 => ?_) (fun q5 => ?_)
        · skip
          refine g_iload_n dX11_commonDivisor_34 rfl (fun _ => ?_)
          exact g_ireturn dX11_commonDivisor_35 retI (hPo _ ⟨(by omega), (by omega)⟩)
        · skip
          refine g_iload_n dX11_commonDivisor_18 rfl (fun _ => ?_)
          refine g_iload_n dX11_commonDivisor_19 rfl (fun _ => ?_)
          refine g_iremF dX11_commonDivisor_20 (by omega) (fun v6 ev6 bv6 cv6 => ?_)
          refine g_istore dX11_commonDivisor_21 (by decide) rfl ?_
          refine g_iload_n dX11_commonDivisor_23 rfl (fun _ => ?_)
          refine g_istore_n dX11_commonDivisor_24 (by decide) rfl ?_
          refine g_iload dX11_commonDivisor_25 rfl (fun _ => ?_)
          refine g_istore_n dX11_commonDivisor_27 (by decide) rfl ?_
          refine g_iincB dX11_commonDivisor_28 rfl rfl (by omega) (by omega) ?_
          refine g_goto 7 dX11_commonDivisor_31 (by decide) ?_
          refine g_drop 5 ?_
          exact ih7 _ _ _ (by omega) (by omega) (by omega) (by omega) (by omega) (by omega) (by omega)
  refine g_istore dX11_commonDivisor_5 (by decide) rfl ?_
  refine g_drop 0 ?_
  refine g_drop 1 ?_
  exact c7 101 _ _ _ (by omega) (by omega) (by omega) (by omega) (by omega) (by omega) (by omega)
set_option maxRecDepth 100000 in
set_option maxHeartbeats 4000000 in
theorem c_X11_bruisesByWinds_0 (x1 x2 x3 : Int) (h : MEM) (hM : MBx h) (bx1 : 0 ≤ x1) (dx1 : x1 ≤ 7) (bx2 : 1 ≤ x2) (dx2 : x2 ≤ 3) (bx3 : 0 ≤ x3) (dx3 : x3 ≤ 999) (f_LD : LD h) : CI yX11_bruisesByWinds cX11_bruisesByWinds 6 (some .int) 6 [pR 0, pI x1, pI x2, pI x3] h (fun x h' => MBx h' ∧ Fr [(21, 7), (21, 8), (21, 9), (22, 1), (23, 0), (24, 0), (25, 0), (26, 1), (27, 0), (28, 0), (29, 0), (30, 0), (31, 0), (32, 1), (33, 0), (34, 0), (35, 0), (36, 0), (37, 0), (38, 0), (39, 0), (40, 0), (89, 0), (97, 0)] h h' ∧ -2147483648 ≤ x ∧ x ≤ 2147483647) := by
  refine CI.of (L0 := [some (pR 0), some (pI x1), some (pI x2), some (pI x3), none, none]) rfl (Nat.le_of_ble_eq_true rfl) rfl (fun Po hPo hav => ?_)
  rcases id f_LD with ⟨er0_10, er0_11⟩ | ⟨er0_10, er0_11⟩
  · skip
    refine g_aload_n dX11_bruisesByWinds_0 rfl ?_
    refine gR_X11_16 rfl dX11_bruisesByWinds_1 sh_0 (b := 21) (m_0_1 hM) ?_
    refine g_aload_n dX11_bruisesByWinds_4 rfl ?_
    refine gR_X11_10 rfl dX11_bruisesByWinds_5 sh_0 (b := 1) (m_0_0 hM) ?_
    obtain ⟨v1, ev1⟩ : ∃ z, z = h 2 0 := ⟨_, rfl⟩
    have bv1 : 0 ≤ v1 ∧ v1 ≤ 10 := by rw [ev1]; exact (m_2_0 hM)
    obtain ⟨v2, ev2⟩ : ∃ z, z = h 6 0 := ⟨_, rfl⟩
    have bv2 : 0 ≤ v2 ∧ v2 ≤ 8 := by rw [ev2]; exact (m_6_0 hM)
    obtain ⟨v3, ev3⟩ : ∃ z, z = h 12 0 := ⟨_, rfl⟩
    have bv3 : 0 ≤ v3 ∧ v3 ≤ 8 := by rw [ev3]; exact (m_12_0 hM)
    refine g_cVV (as := [_]) (c_X9_copyFrom_21_1  h hM) dX11_bruisesByWinds_8 mi_X9_copyFrom in_X9_copyFrom se_X9_copyFrom ml_X11_202 rfl rfl rfl sh_21 rfl rfl (Nat.le_of_ble_eq_true rfl) (fun h4 q5 => ?_)
    obtain ⟨hMh4, hFh4, z6, z7, z8⟩ := q5
    have kz6 : h4 22 0 = v1 := by omega
    have kz7 : h4 26 0 = v2 := by omega
    have kz8 : h4 32 0 = v3 := by omega
    refine g_iload_n dX11_bruisesByWinds_11 rfl (fun _ => ?_)
    refine g_istore dX11_bruisesByWinds_12 (by decide) rfl ?_
    refine g_iconst dX11_bruisesByWinds_14 (inR_c rfl) ?_
    have c17 : ∀ (n : Nat) (y9 y10 : Int) (h11 : MEM), MBx h11 → Fr [(21, 7), (21, 9), (24, 0), (30, 0), (31, 0), (36, 0), (37, 0), (38, 0), (40, 0), (89, 0), (97, 0)] h4 h11 → 0 ≤ y9 → y9 ≤ 999 → 0 ≤ y10 → y10 ≤ 3 → 3 - y10 < (n : Int) → G yX11_bruisesByWinds cX11_bruisesByWinds 6 (some .int) none Po (6, 360, 0, 0) 17 [some (pR 0), some (pI x1), some (pI x2), none, some (pI y9), some (pI y10)] [] SH h11 0 0 := by
      intro n
      induction n with
      | zero =>
        intro y9 y10 h11 hMh11 hFh11 by9 dy9 by10 dy10 hn
        exfalso; omega
      | succ n ih17 =>
        intro y9 y10 h11 hMh11 hFh11 by9 dy9 by10 dy10 hn
        refine g_iload dX11_bruisesByWinds_17 rfl (fun _ => ?_)
        refine g_iload_n dX11_bruisesByWinds_19 rfl (fun _ => ?_)
        refine g_icmp_ge 53 dX11_bruisesByWinds_20 (by decide) (fun q12 => ?_) (fun q12 => ?_)
        · skip
          refine g_aload_n dX11_bruisesByWinds_53 rfl ?_
          refine gR_X11_16 rfl dX11_bruisesByWinds_54 sh_0 (b := 21) (m_0_1 hMh11) ?_
          refine gR_X11_104 rfl dX11_bruisesByWinds_57 sh_21 (b := 32) (m_21_2 hMh11) ?_
          refine g_iload_n dX11_bruisesByWinds_60 rfl (fun _ => ?_)
          refine g_cVP (as := [_]) (c_X4_has_32 _ h11 hMh11 (by omega) (by omega)) dX11_bruisesByWinds_61 mi_X4_has in_X4_has se_X4_has ml_X11_124 rfl rfl rfl sh_32 rfl rfl (Nat.le_of_ble_eq_true rfl) (fun v13 q14 => ?_)
          have q15 : h11 32 0 = v3 := ((hFh11 32 0 rfl).trans kz8)
          rcases q14 with ⟨rfl, q14⟩ | ⟨rfl, q14⟩
          · skip
            refine g_if_eq 82 dX11_bruisesByWinds_64 (by decide) (fun _ => by exfalso; omega) (fun q16 => ?_)
            refine g_aload_n dX11_bruisesByWinds_67 rfl ?_
            refine gR_X11_16 rfl dX11_bruisesByWinds_68 sh_0 (b := 21) (m_0_1 hMh11) ?_
            refine gR_X11_104 rfl dX11_bruisesByWinds_71 sh_21 (b := 32) (m_21_2 hMh11) ?_
            refine gR_X11_199 rfl dX11_bruisesByWinds_74 sh_32 (b := 36) (m_32_4 hMh11) ?_
            refine g_iload_n dX11_bruisesByWinds_77 rfl (fun _ => ?_)
            refine g_ialdB dX11_bruisesByWinds_78 sh_36 (by omega) (by omega) (m_36 hMh11 _) (fun v17 ev17 bv17 cv17 => ?_)
            refine g_goto 83 dX11_bruisesByWinds_79 (by decide) ?_
            exact g_ireturn dX11_bruisesByWinds_83 retI (hPo _ _ ⟨hMh11, (Fr.tr (Fr.sub hFh4 rfl) hFh11 rfl), (by omega), (by omega)⟩)
          · skip
            refine g_if_eq 82 dX11_bruisesByWinds_64 (by decide) (fun q18 => ?_) (fun _ => by exfalso; omega)
            refine g_iconst dX11_bruisesByWinds_82 (inR_c rfl) ?_
            exact g_ireturn dX11_bruisesByWinds_83 retI (hPo _ _ ⟨hMh11, (Fr.tr (Fr.sub hFh4 rfl) hFh11 rfl), (by omega), (by omega)⟩)
        · skip
          refine g_aload_n dX11_bruisesByWinds_23 rfl ?_
          refine gR_X11_16 rfl dX11_bruisesByWinds_24 sh_0 (b := 21) (m_0_1 hMh11) ?_
          refine g_aload_n dX11_bruisesByWinds_27 rfl ?_
          refine gR_X11_70 rfl dX11_bruisesByWinds_28 sh_0 (b := 82) ((hFh11 0 10 rfl).trans ((hFh4 0 10 rfl).trans er0_10)) ?_
          refine g_iload dX11_bruisesByWinds_31 rfl (fun _ => ?_)
          refine g_bipush dX11_bruisesByWinds_33 (inR_c rfl) (by decide) ?_
          refine g_iremX (lo := 0) (hi := 9) dX11_bruisesByWinds_35 (by omega) (irem_b (by omega) (by omega) (by omega)) (fun v19 ev19 bv19 cv19 => ?_)
          refine g_cV (as := [_, _]) (c_X9_passHour_21_82 _ h11 hMh11 (by omega) (by omega)) dX11_bruisesByWinds_36 mi_X9_passHour in_X9_passHour se_X9_passHour ml_X11_156 rfl rfl rfl sh_21 rfl rfl (Nat.le_of_ble_eq_true rfl) (fun v20 h21 q22 => ?_)
          obtain ⟨hMh21, hFh21, bv20, cv20⟩ := q22
          refine g_pop dX11_bruisesByWinds_39 rfl ?_
          refine g_iload dX11_bruisesByWinds_40 rfl (fun _ => ?_)
          refine g_bipush dX11_bruisesByWinds_42 (inR_c rfl) (by decide) ?_
          refine g_idivX (lo := 0) (hi := y9) dX11_bruisesByWinds_44 (by omega) (idiv_b (by omega) (by omega) (by omega)) (fun v23 ev23 bv23 cv23 => ?_)
          refine g_istore dX11_bruisesByWinds_45 (by decide) rfl ?_
          refine g_iincB dX11_bruisesByWinds_47 rfl rfl (by omega) (by omega) ?_
          refine g_goto 17 dX11_bruisesByWinds_50 (by decide) ?_
          exact ih17 _ _ _ hMh21 (Fr.tr (Fr.sub hFh11 rfl) hFh21 rfl) (by omega) (by omega) (by omega) (by omega) (by omega)
    refine g_istore dX11_bruisesByWinds_15 (by decide) rfl ?_
    refine g_drop 3 ?_
    exact c17 4 _ _ _ hMh4 Fr.rf (by omega) (by omega) (by omega) (by omega) (by omega)
  · skip
    refine g_aload_n dX11_bruisesByWinds_0 rfl ?_
    refine gR_X11_16 rfl dX11_bruisesByWinds_1 sh_0 (b := 21) (m_0_1 hM) ?_
    refine g_aload_n dX11_bruisesByWinds_4 rfl ?_
    refine gR_X11_10 rfl dX11_bruisesByWinds_5 sh_0 (b := 1) (m_0_0 hM) ?_
    obtain ⟨v24, ev24⟩ : ∃ z, z = h 2 0 := ⟨_, rfl⟩
    have bv24 : 0 ≤ v24 ∧ v24 ≤ 10 := by rw [ev24]; exact (m_2_0 hM)
    obtain ⟨v25, ev25⟩ : ∃ z, z = h 6 0 := ⟨_, rfl⟩
    have bv25 : 0 ≤ v25 ∧ v25 ≤ 8 := by rw [ev25]; exact (m_6_0 hM)
    obtain ⟨v26, ev26⟩ : ∃ z, z = h 12 0 := ⟨_, rfl⟩
    have bv26 : 0 ≤ v26 ∧ v26 ≤ 8 := by rw [ev26]; exact (m_12_0 hM)
    refine g_cVV (as := [_]) (c_X9_copyFrom_21_1  h hM) dX11_bruisesByWinds_8 mi_X9_copyFrom in_X9_copyFrom se_X9_copyFrom ml_X11_202 rfl rfl rfl sh_21 rfl rfl (Nat.le_of_ble_eq_true rfl) (fun h27 q28 => ?_)
    obtain ⟨hMh27, hFh27, z29, z30, z31⟩ := q28
    have kz29 : h27 22 0 = v24 := by omega
    have kz30 : h27 26 0 = v25 := by omega
    have kz31 : h27 32 0 = v26 := by omega
    refine g_iload_n dX11_bruisesByWinds_11 rfl (fun _ => ?_)
    refine g_istore dX11_bruisesByWinds_12 (by decide) rfl ?_
    refine g_iconst dX11_bruisesByWinds_14 (inR_c rfl) ?_
    have c17 : ∀ (n : Nat) (y32 y33 : Int) (h34 : MEM), MBx h34 → Fr [(21, 7), (21, 9), (24, 0), (30, 0), (31, 0), (36, 0), (37, 0), (38, 0), (40, 0), (89, 0), (97, 0)] h27 h34 → 0 ≤ y32 → y32 ≤ 999 → 0 ≤ y33 → y33 ≤ 3 → 3 - y33 < (n : Int) → G yX11_bruisesByWinds cX11_bruisesByWinds 6 (some .int) none Po (6, 360, 0, 0) 17 [some (pR 0), some (pI x1), some (pI x2), none, some (pI y32), some (pI y33)] [] SH h34 0 0 := by
      intro n
      induction n with
      | zero =>
        intro y32 y33 h34 hMh34 hFh34 by32 dy32 by33 dy33 hn
        exfalso; omega
      | succ n ih17 =>
        intro y32 y33 h34 hMh34 hFh34 by32 dy32 by33 dy33 hn
        refine g_iload dX11_bruisesByWinds_17 rfl (fun _ => ?_)
        refine g_iload_n dX11_bruisesByWinds_19 rfl (fun _ => ?_)
        refine g_icmp_ge 53 dX11_bruisesByWinds_20 (by decide) (fun q35 => ?_) (fun q35 => ?_)
        · skip
          refine g_aload_n dX11_bruisesByWinds_53 rfl ?_
          refine gR_X11_16 rfl dX11_bruisesByWinds_54 sh_0 (b := 21) (m_0_1 hMh34) ?_
          refine gR_X11_104 rfl dX11_bruisesByWinds_57 sh_21 (b := 32) (m_21_2 hMh34) ?_
          refine g_iload_n dX11_bruisesByWinds_60 rfl (fun _ => ?_)
          refine g_cVP (as := [_]) (c_X4_has_32 _ h34 hMh34 (by omega) (by omega)) dX11_bruisesByWinds_61 mi_X4_has in_X4_has se_X4_has ml_X11_124 rfl rfl rfl sh_32 rfl rfl (Nat.le_of_ble_eq_true rfl) (fun v36 q37 => ?_)
          have q38 : h34 32 0 = v26 := ((hFh34 32 0 rfl).trans kz31)
          rcases q37 with ⟨rfl, q37⟩ | ⟨rfl, q37⟩
          · skip
            refine g_if_eq 82 dX11_bruisesByWinds_64 (by decide) (fun _ => by exfalso; omega) (fun q39 => ?_)
            refine g_aload_n dX11_bruisesByWinds_67 rfl ?_
            refine gR_X11_16 rfl dX11_bruisesByWinds_68 sh_0 (b := 21) (m_0_1 hMh34) ?_
            refine gR_X11_104 rfl dX11_bruisesByWinds_71 sh_21 (b := 32) (m_21_2 hMh34) ?_
            refine gR_X11_199 rfl dX11_bruisesByWinds_74 sh_32 (b := 36) (m_32_4 hMh34) ?_
            refine g_iload_n dX11_bruisesByWinds_77 rfl (fun _ => ?_)
            refine g_ialdB dX11_bruisesByWinds_78 sh_36 (by omega) (by omega) (m_36 hMh34 _) (fun v40 ev40 bv40 cv40 => ?_)
            refine g_goto 83 dX11_bruisesByWinds_79 (by decide) ?_
            exact g_ireturn dX11_bruisesByWinds_83 retI (hPo _ _ ⟨hMh34, (Fr.tr (Fr.sub hFh27 rfl) hFh34 rfl), (by omega), (by omega)⟩)
          · skip
            refine g_if_eq 82 dX11_bruisesByWinds_64 (by decide) (fun q41 => ?_) (fun _ => by exfalso; omega)
            refine g_iconst dX11_bruisesByWinds_82 (inR_c rfl) ?_
            exact g_ireturn dX11_bruisesByWinds_83 retI (hPo _ _ ⟨hMh34, (Fr.tr (Fr.sub hFh27 rfl) hFh34 rfl), (by omega), (by omega)⟩)
        · skip
          refine g_aload_n dX11_bruisesByWinds_23 rfl ?_
          refine gR_X11_16 rfl dX11_bruisesByWinds_24 sh_0 (b := 21) (m_0_1 hMh34) ?_
          refine g_aload_n dX11_bruisesByWinds_27 rfl ?_
          refine gR_X11_70 rfl dX11_bruisesByWinds_28 sh_0 (b := 90) ((hFh34 0 10 rfl).trans ((hFh27 0 10 rfl).trans er0_10)) ?_
          refine g_iload dX11_bruisesByWinds_31 rfl (fun _ => ?_)
          refine g_bipush dX11_bruisesByWinds_33 (inR_c rfl) (by decide) ?_
          refine g_iremX (lo := 0) (hi := 9) dX11_bruisesByWinds_35 (by omega) (irem_b (by omega) (by omega) (by omega)) (fun v42 ev42 bv42 cv42 => ?_)
          refine g_cV (as := [_, _]) (c_X9_passHour_21_90 _ h34 hMh34 (by omega) (by omega)) dX11_bruisesByWinds_36 mi_X9_passHour in_X9_passHour se_X9_passHour ml_X11_156 rfl rfl rfl sh_21 rfl rfl (Nat.le_of_ble_eq_true rfl) (fun v43 h44 q45 => ?_)
          obtain ⟨hMh44, hFh44, bv43, cv43⟩ := q45
          refine g_pop dX11_bruisesByWinds_39 rfl ?_
          refine g_iload dX11_bruisesByWinds_40 rfl (fun _ => ?_)
          refine g_bipush dX11_bruisesByWinds_42 (inR_c rfl) (by decide) ?_
          refine g_idivX (lo := 0) (hi := y32) dX11_bruisesByWinds_44 (by omega) (idiv_b (by omega) (by omega) (by omega)) (fun v46 ev46 bv46 cv46 => ?_)
          refine g_istore dX11_bruisesByWinds_45 (by decide) rfl ?_
          refine g_iincB dX11_bruisesByWinds_47 rfl rfl (by omega) (by omega) ?_
          refine g_goto 17 dX11_bruisesByWinds_50 (by decide) ?_
          exact ih17 _ _ _ hMh44 (Fr.tr (Fr.sub hFh34 rfl) hFh44 rfl) (by omega) (by omega) (by omega) (by omega) (by omega)
    refine g_istore dX11_bruisesByWinds_15 (by decide) rfl ?_
    refine g_drop 3 ?_
    exact c17 4 _ _ _ hMh27 Fr.rf (by omega) (by omega) (by omega) (by omega) (by omega)
set_option maxRecDepth 100000 in
set_option maxHeartbeats 4000000 in
theorem c_X11_odds_0 (x1 x2 x3 x4 : Int) (h : MEM) (hM : MBx h) (bx1 : -2147483648 ≤ x1) (dx1 : x1 ≤ 2147483647) (bx2 : -2147483648 ≤ x2) (dx2 : x2 ≤ 2147483647) (bx3 : -2147483648 ≤ x3) (dx3 : x3 ≤ 2147483647) (bx4 : -2147483648 ≤ x4) (dx4 : x4 ≤ 2147483647) (f_LD : LD h) : CI yX11_odds cX11_odds 8 (some .int) 7 [pR 0, pI x1, pI x2, pI x3, pI x4] h (fun x h' => MBx h' ∧ Fr [(21, 7), (21, 8), (21, 9), (22, 1), (23, 0), (24, 0), (25, 0), (26, 1), (27, 0), (28, 0), (29, 0), (30, 0), (31, 0), (32, 1), (33, 0), (34, 0), (35, 0), (36, 0), (37, 0), (38, 0), (39, 0), (40, 0), (89, 0), (97, 0)] h h' ∧ -2147483648 ≤ x ∧ x ≤ 2147483647) := by
  refine CI.of (L0 := [some (pR 0), some (pI x1), some (pI x2), some (pI x3), some (pI x4), none, none, none]) rfl (Nat.le_of_ble_eq_true rfl) rfl (fun Po hPo hav => ?_)
  rcases id f_LD with ⟨er0_10, er0_11⟩ | ⟨er0_10, er0_11⟩
  · skip
    refine g_aload_n dX11_odds_0 rfl ?_
    refine gR_X11_10 rfl dX11_odds_1 sh_0 (b := 1) (m_0_0 hM) ?_
    refine gR_X11_104 rfl dX11_odds_4 sh_1 (b := 12) (m_1_2 hM) ?_
    refine g_iload_n dX11_odds_7 rfl (fun _ => ?_)
    refine g_cVP (as := [_]) (c_X4_has_12 _ h hM (by omega) (by omega)) dX11_odds_8 mi_X4_has in_X4_has se_X4_has ml_X11_124 rfl rfl rfl sh_12 rfl rfl (Nat.le_of_ble_eq_true rfl) (fun v1 q2 => ?_)
    obtain ⟨v3, ev3⟩ : ∃ z, z = h 12 0 := ⟨_, rfl⟩
    have bv3 : 0 ≤ v3 ∧ v3 ≤ 8 := by rw [ev3]; exact (m_12_0 hM)
    rcases q2 with ⟨rfl, q2⟩ | ⟨rfl, q2⟩
    · skip
      refine g_if_eq 44 dX11_odds_11 (by decide) (fun _ => by exfalso; omega) (fun q4 => ?_)
      refine g_iload_n dX11_odds_14 rfl (fun _ => ?_)
      refine g_iconst dX11_odds_15 (inR_c rfl) ?_
      refine g_iconst dX11_odds_16 (inR_c rfl) ?_
      refine g_cSP (av := [_, _, _]) (c_X11_isWithin _ _ _ h hM (by omega) (by omega) (by omega) (by omega) (by omega) (by omega)) dX11_odds_17 mi_X11_isWithin st_X11_isWithin ml_X11_81 rfl rfl rfl rfl (Nat.le_of_ble_eq_true rfl) (fun v5 q6 => ?_)
      rcases q6 with ⟨rfl, q6⟩ | ⟨rfl, q6⟩
      · skip
        refine g_if_eq 44 dX11_odds_20 (by decide) (fun _ => by exfalso; omega) (fun q7 => ?_)
        refine g_iload_n dX11_odds_23 rfl (fun _ => ?_)
        refine g_iconst dX11_odds_24 (inR_c rfl) ?_
        refine g_sipush dX11_odds_25 (inR_c rfl) (by decide) ?_
        refine g_cSP (av := [_, _, _]) (c_X11_isWithin _ _ _ h hM (by omega) (by omega) (by omega) (by omega) (by omega) (by omega)) dX11_odds_28 mi_X11_isWithin st_X11_isWithin ml_X11_81 rfl rfl rfl rfl (Nat.le_of_ble_eq_true rfl) (fun v8 q9 => ?_)
        rcases q9 with ⟨rfl, q9⟩ | ⟨rfl, q9⟩
        · skip
          refine g_if_eq 44 dX11_odds_31 (by decide) (fun _ => by exfalso; omega) (fun q10 => ?_)
          refine g_iload dX11_odds_34 rfl (fun _ => ?_)
          refine g_iconst dX11_odds_36 (inR_c rfl) ?_
          refine g_iconst dX11_odds_37 (inR_c rfl) ?_
          refine g_cSP (av := [_, _, _]) (c_X11_isWithin _ _ _ h hM (by omega) (by omega) (by omega) (by omega) (by omega) (by omega)) dX11_odds_38 mi_X11_isWithin st_X11_isWithin ml_X11_81 rfl rfl rfl rfl (Nat.le_of_ble_eq_true rfl) (fun v11 q12 => ?_)
          rcases q12 with ⟨rfl, q12⟩ | ⟨rfl, q12⟩
          · skip
            refine g_if_ne 46 dX11_odds_41 (by decide) (fun q13 => ?_) (fun _ => by exfalso; omega)
            refine g_iconst dX11_odds_46 (inR_c rfl) ?_
            refine g_istore dX11_odds_47 (by decide) rfl ?_
            refine g_iconst dX11_odds_49 (inR_c rfl) ?_
            have c52 : ∀ (n : Nat) (y14 y15 : Int) , 1 ≤ y14 → y14 ≤ 100000000 → 0 ≤ y15 → y15 ≤ 3 → y15 ≤ 3 → (-1) * y14 ≤ -1 → PW y14 y15 → 3 - y15 < (n : Int) → G yX11_odds cX11_odds 8 (some .int) none Po (7, 420, 0, 0) 52 [some (pR 0), some (pI x1), some (pI x2), some (pI x3), some (pI x4), some (pI y14), some (pI y15), none] [] SH h 0 0 := by
              intro n
              induction n with
              | zero =>
                intro y14 y15 by14 dy14 by15 dy15 li52_0 li52_1 e52_0 hn
                exfalso; omega
              | succ n ih52 =>
                intro y14 y15 by14 dy14 by15 dy15 li52_0 li52_1 e52_0 hn
                refine g_iload dX11_odds_52 rfl (fun _ => ?_)
                refine g_iload_n dX11_odds_54 rfl (fun _ => ?_)
                refine g_icmp_ge 71 dX11_odds_55 (by decide) (fun q16 => ?_) (fun q16 => ?_)
                · skip
                  refine g_iconst dX11_odds_71 (inR_c rfl) ?_
                  have al17 : 1 ≤ y14 ∧ y14 ≤ 1000 := ⟨by omega, PW_3 e52_0 (by omega) (by omega)⟩
                  refine g_istore dX11_odds_72 (by decide) rfl ?_
                  refine g_iconst dX11_odds_74 (inR_c rfl) ?_
                  have c77 : ∀ (n : Nat) (y18 y19 : Int) (h20 : MEM), MBx h20 → Fr [(21, 7), (21, 8), (21, 9), (22, 1), (23, 0), (24, 0), (25, 0), (26, 1), (27, 0), (28, 0), (29, 0), (30, 0), (31, 0), (32, 1), (33, 0), (34, 0), (35, 0), (36, 0), (37, 0), (38, 0), (39, 0), (40, 0), (89, 0), (97, 0)] h h20 → -2147483648 ≤ y18 → y18 ≤ 2147483647 → 0 ≤ y19 → y19 ≤ 1000 → y19 + (-1) * y14 ≤ 0 → 1000 - y19 < (n : Int) → G yX11_odds cX11_odds 8 (some .int) none Po (7, 420, 0, 0) 77 [some (pR 0), some (pI x1), some (pI x2), some (pI x3), some (pI x4), some (pI y14), some (pI y18), some (pI y19)] [] SH h20 0 0 := by
                    intro n
                    induction n with
                    | zero =>
                      intro y18 y19 h20 hMh20 hFh20 by18 dy18 by19 dy19 li77_0 hn
                      exfalso; omega
                    | succ n ih77 =>
                      intro y18 y19 h20 hMh20 hFh20 by18 dy18 by19 dy19 li77_0 hn
                      refine g_iload dX11_odds_77 rfl (fun _ => ?_)
                      refine g_iload dX11_odds_79 rfl (fun _ => ?_)
                      refine g_icmp_ge 105 dX11_odds_81 (by decide) (fun q21 => ?_) (fun q21 => ?_)
                      · skip
                        refine g_iload dX11_odds_105 rfl (fun _ => ?_)
                        refine g_iload dX11_odds_107 rfl (fun _ => ?_)
                        refine g_cSP (av := [_, _]) (c_X11_commonDivisor _ _ h20 hMh20 (by omega) (by omega) (by omega) (by omega)) dX11_odds_109 mi_X11_commonDivisor st_X11_commonDivisor ml_X11_296 rfl rfl rfl rfl (Nat.le_of_ble_eq_true rfl) (fun v22 q23 => ?_)
                        obtain ⟨bv22, cv22⟩ := q23
                        refine g_istore dX11_odds_112 (by decide) rfl ?_
                        refine g_iload dX11_odds_114 rfl (fun _ => ?_)
                        refine g_if_ne 121 dX11_odds_116 (by decide) (fun q24 => ?_) (fun q24 => ?_)
                        · skip
                          refine g_iload dX11_odds_121 rfl (fun _ => ?_)
                          refine g_if_ne 134 dX11_odds_123 (by decide) (fun q25 => ?_) (fun q25 => ?_)
                          · skip
                            refine g_iload dX11_odds_134 rfl (fun _ => ?_)
                            refine g_iload dX11_odds_136 rfl (fun _ => ?_)
                            refine g_idivF dX11_odds_138 (by omega) (fun v26 ev26 bv26 cv26 => ?_)
                            exact g_ireturn dX11_odds_139 retI (hPo _ _ ⟨hMh20, (Fr.sub hFh20 rfl), (by omega), (by omega)⟩)
                          · skip
                            refine g_iload dX11_odds_126 rfl (fun _ => ?_)
                            refine g_iload dX11_odds_128 rfl (fun _ => ?_)
                            refine g_idivF dX11_odds_130 (by omega) (fun v27 ev27 bv27 cv27 => ?_)
                            refine g_goto 139 dX11_odds_131 (by decide) ?_
                            exact g_ireturn dX11_odds_139 retI (hPo _ _ ⟨hMh20, (Fr.sub hFh20 rfl), (by omega), (by omega)⟩)
                        · skip
                          refine g_iconst dX11_odds_119 (inR_c rfl) ?_
                          exact g_ireturn dX11_odds_120 retI (hPo _ _ ⟨hMh20, (Fr.sub hFh20 rfl), (by omega), (by omega)⟩)
                      · skip
                        refine g_aload_n dX11_odds_84 rfl ?_
                        refine g_iload_n dX11_odds_85 rfl (fun _ => ?_)
                        refine g_iload_n dX11_odds_86 rfl (fun _ => ?_)
                        refine g_iload dX11_odds_87 rfl (fun _ => ?_)
                        refine g_cV (as := [_, _, _]) (c_X11_bruisesByWinds_0 _ _ _ h20 hMh20 (by omega) (by omega) (by omega) (by omega) (by omega) (by omega) (LD.fr (T := [(21, 7), (21, 8), (21, 9), (22, 1), (23, 0), (24, 0), (25, 0), (26, 1), (27, 0), (28, 0), (29, 0), (30, 0), (31, 0), (32, 1), (33, 0), (34, 0), (35, 0), (36, 0), (37, 0), (38, 0), (39, 0), (40, 0), (89, 0), (97, 0)]) f_LD (Fr.sub hFh20 rfl) rfl)) dX11_odds_89 mi_X11_bruisesByWinds in_X11_bruisesByWinds se_X11_bruisesByWinds ml_X11_293 rfl rfl rfl sh_0 rfl rfl (Nat.le_of_ble_eq_true rfl) (fun v28 h29 q30 => ?_)
                        obtain ⟨hMh29, hFh29, bv28, cv28⟩ := q30
                        refine g_iload_n dX11_odds_92 rfl (fun _ => ?_)
                        refine g_icmp_lt 99 dX11_odds_93 (by decide) (fun q31 => ?_) (fun q31 => ?_)
                        · skip
                          refine g_iincB dX11_odds_99 rfl rfl (by omega) (by omega) ?_
                          refine g_goto 77 dX11_odds_102 (by decide) ?_
                          exact ih77 _ _ _ hMh29 (Fr.tr (Fr.sub hFh20 rfl) hFh29 rfl) (by omega) (by omega) (by omega) (by omega) (by omega) (by omega)
                        · skip
                          refine g_iincF dX11_odds_96 rfl rfl (fun v32 bv32 cv32 => ?_)
                          refine g_iincB dX11_odds_99 rfl rfl (by omega) (by omega) ?_
                          refine g_goto 77 dX11_odds_102 (by decide) ?_
                          exact ih77 _ _ _ hMh29 (Fr.tr (Fr.sub hFh20 rfl) hFh29 rfl) (by omega) (by omega) (by omega) (by omega) (by omega) (by omega)
                  refine g_istore dX11_odds_75 (by decide) rfl ?_
                  exact c77 1001 _ _ _ hM Fr.rf (by omega) (by omega) (by omega) (by omega) (by omega) (by omega)
                · skip
                  refine g_iload dX11_odds_58 rfl (fun _ => ?_)
                  have al33 : 1 ≤ y14 ∧ y14 ≤ 10000000 := ⟨by omega, PW_b e52_0 (by omega) (by omega)⟩
                  refine g_bipush dX11_odds_60 (inR_c rfl) (by decide) ?_
                  refine g_imulB dX11_odds_62 (by omega) (by omega) ?_
                  refine g_istore dX11_odds_63 (by decide) rfl ?_
                  refine g_iincB dX11_odds_65 rfl rfl (by omega) (by omega) ?_
                  refine g_goto 52 dX11_odds_68 (by decide) ?_
                  exact ih52 _ _ (by omega) (by omega) (by omega) (by omega) (by omega) (by omega) (by first | exact PW_0 | exact PW_u e52_0 (by omega)) (by omega)
            refine g_istore dX11_odds_50 (by decide) rfl ?_
            exact c52 4 _ _ (by omega) (by omega) (by omega) (by omega) (by omega) (by omega) (by first | exact PW_0 | exact PW_u e52_0 (by omega)) (by omega)
          · skip
            refine g_if_ne 46 dX11_odds_41 (by decide) (fun _ => by exfalso; omega) (fun q34 => ?_)
            refine g_iconst dX11_odds_44 (inR_c rfl) ?_
            exact g_ireturn dX11_odds_45 retI (hPo _ _ ⟨hM, Fr.rf, (by omega), (by omega)⟩)
        · skip
          refine g_if_eq 44 dX11_odds_31 (by decide) (fun q35 => ?_) (fun _ => by exfalso; omega)
          refine g_iconst dX11_odds_44 (inR_c rfl) ?_
          exact g_ireturn dX11_odds_45 retI (hPo _ _ ⟨hM, Fr.rf, (by omega), (by omega)⟩)
      · skip
        refine g_if_eq 44 dX11_odds_20 (by decide) (fun q36 => ?_) (fun _ => by exfalso; omega)
        refine g_iconst dX11_odds_44 (inR_c rfl) ?_
        exact g_ireturn dX11_odds_45 retI (hPo _ _ ⟨hM, Fr.rf, (by omega), (by omega)⟩)
    · skip
      refine g_if_eq 44 dX11_odds_11 (by decide) (fun q37 => ?_) (fun _ => by exfalso; omega)
      refine g_iconst dX11_odds_44 (inR_c rfl) ?_
      exact g_ireturn dX11_odds_45 retI (hPo _ _ ⟨hM, Fr.rf, (by omega), (by omega)⟩)
  · skip
    refine g_aload_n dX11_odds_0 rfl ?_
    refine gR_X11_10 rfl dX11_odds_1 sh_0 (b := 1) (m_0_0 hM) ?_
    refine gR_X11_104 rfl dX11_odds_4 sh_1 (b := 12) (m_1_2 hM) ?_
    refine g_iload_n dX11_odds_7 rfl (fun _ => ?_)
    refine g_cVP (as := [_]) (c_X4_has_12 _ h hM (by omega) (by omega)) dX11_odds_8 mi_X4_has in_X4_has se_X4_has ml_X11_124 rfl rfl rfl sh_12 rfl rfl (Nat.le_of_ble_eq_true rfl) (fun v38 q39 => ?_)
    obtain ⟨v40, ev40⟩ : ∃ z, z = h 12 0 := ⟨_, rfl⟩
    have bv40 : 0 ≤ v40 ∧ v40 ≤ 8 := by rw [ev40]; exact (m_12_0 hM)
    rcases q39 with ⟨rfl, q39⟩ | ⟨rfl, q39⟩
    · skip
      refine g_if_eq 44 dX11_odds_11 (by decide) (fun _ => by exfalso; omega) (fun q41 => ?_)
      refine g_iload_n dX11_odds_14 rfl (fun _ => ?_)
      refine g_iconst dX11_odds_15 (inR_c rfl) ?_
      refine g_iconst dX11_odds_16 (inR_c rfl) ?_
      refine g_cSP (av := [_, _, _]) (c_X11_isWithin _ _ _ h hM (by omega) (by omega) (by omega) (by omega) (by omega) (by omega)) dX11_odds_17 mi_X11_isWithin st_X11_isWithin ml_X11_81 rfl rfl rfl rfl (Nat.le_of_ble_eq_true rfl) (fun v42 q43 => ?_)
      rcases q43 with ⟨rfl, q43⟩ | ⟨rfl, q43⟩
      · skip
        refine g_if_eq 44 dX11_odds_20 (by decide) (fun _ => by exfalso; omega) (fun q44 => ?_)
        refine g_iload_n dX11_odds_23 rfl (fun _ => ?_)
        refine g_iconst dX11_odds_24 (inR_c rfl) ?_
        refine g_sipush dX11_odds_25 (inR_c rfl) (by decide) ?_
        refine g_cSP (av := [_, _, _]) (c_X11_isWithin _ _ _ h hM (by omega) (by omega) (by omega) (by omega) (by omega) (by omega)) dX11_odds_28 mi_X11_isWithin st_X11_isWithin ml_X11_81 rfl rfl rfl rfl (Nat.le_of_ble_eq_true rfl) (fun v45 q46 => ?_)
        rcases q46 with ⟨rfl, q46⟩ | ⟨rfl, q46⟩
        · skip
          refine g_if_eq 44 dX11_odds_31 (by decide) (fun _ => by exfalso; omega) (fun q47 => ?_)
          refine g_iload dX11_odds_34 rfl (fun _ => ?_)
          refine g_iconst dX11_odds_36 (inR_c rfl) ?_
          refine g_iconst dX11_odds_37 (inR_c rfl) ?_
          refine g_cSP (av := [_, _, _]) (c_X11_isWithin _ _ _ h hM (by omega) (by omega) (by omega) (by omega) (by omega) (by omega)) dX11_odds_38 mi_X11_isWithin st_X11_isWithin ml_X11_81 rfl rfl rfl rfl (Nat.le_of_ble_eq_true rfl) (fun v48 q49 => ?_)
          rcases q49 with ⟨rfl, q49⟩ | ⟨rfl, q49⟩
          · skip
            refine g_if_ne 46 dX11_odds_41 (by decide) (fun q50 => ?_) (fun _ => by exfalso; omega)
            refine g_iconst dX11_odds_46 (inR_c rfl) ?_
            refine g_istore dX11_odds_47 (by decide) rfl ?_
            refine g_iconst dX11_odds_49 (inR_c rfl) ?_
            have c52 : ∀ (n : Nat) (y51 y52 : Int) , 1 ≤ y51 → y51 ≤ 100000000 → 0 ≤ y52 → y52 ≤ 3 → y52 ≤ 3 → (-1) * y51 ≤ -1 → PW y51 y52 → 3 - y52 < (n : Int) → G yX11_odds cX11_odds 8 (some .int) none Po (7, 420, 0, 0) 52 [some (pR 0), some (pI x1), some (pI x2), some (pI x3), some (pI x4), some (pI y51), some (pI y52), none] [] SH h 0 0 := by
              intro n
              induction n with
              | zero =>
                intro y51 y52 by51 dy51 by52 dy52 li52_0 li52_1 e52_0 hn
                exfalso; omega
              | succ n ih52 =>
                intro y51 y52 by51 dy51 by52 dy52 li52_0 li52_1 e52_0 hn
                refine g_iload dX11_odds_52 rfl (fun _ => ?_)
                refine g_iload_n dX11_odds_54 rfl (fun _ => ?_)
                refine g_icmp_ge 71 dX11_odds_55 (by decide) (fun q53 => ?_) (fun q53 => ?_)
                · skip
                  refine g_iconst dX11_odds_71 (inR_c rfl) ?_
                  have al54 : 1 ≤ y51 ∧ y51 ≤ 1000 := ⟨by omega, PW_3 e52_0 (by omega) (by omega)⟩
                  refine g_istore dX11_odds_72 (by decide) rfl ?_
                  refine g_iconst dX11_odds_74 (inR_c rfl) ?_
                  have c77 : ∀ (n : Nat) (y55 y56 : Int) (h57 : MEM), MBx h57 → Fr [(21, 7), (21, 8), (21, 9), (22, 1), (23, 0), (24, 0), (25, 0), (26, 1), (27, 0), (28, 0), (29, 0), (30, 0), (31, 0), (32, 1), (33, 0), (34, 0), (35, 0), (36, 0), (37, 0), (38, 0), (39, 0), (40, 0), (89, 0), (97, 0)] h h57 → -2147483648 ≤ y55 → y55 ≤ 2147483647 → 0 ≤ y56 → y56 ≤ 1000 → y56 + (-1) * y51 ≤ 0 → 1000 - y56 < (n : Int) → G yX11_odds cX11_odds 8 (some .int) none Po (7, 420, 0, 0) 77 [some (pR 0), some (pI x1), some (pI x2), some (pI x3), some (pI x4), some (pI y51), some (pI y55), some (pI y56)] [] SH h57 0 0 := by
                    intro n
                    induction n with
                    | zero =>
                      intro y55 y56 h57 hMh57 hFh57 by55 dy55 by56 dy56 li77_0 hn
                      exfalso; omega
                    | succ n ih77 =>
                      intro y55 y56 h57 hMh57 hFh57 by55 dy55 by56 dy56 li77_0 hn
                      refine g_iload dX11_odds_77 rfl (fun _ => ?_)
                      refine g_iload dX11_odds_79 rfl (fun _ => ?_)
                      refine g_icmp_ge 105 dX11_odds_81 (by decide) (fun q58 => ?_) (fun q58 => ?_)
                      · skip
                        refine g_iload dX11_odds_105 rfl (fun _ => ?_)
                        refine g_iload dX11_odds_107 rfl (fun _ => ?_)
                        refine g_cSP (av := [_, _]) (c_X11_commonDivisor _ _ h57 hMh57 (by omega) (by omega) (by omega) (by omega)) dX11_odds_109 mi_X11_commonDivisor st_X11_commonDivisor ml_X11_296 rfl rfl rfl rfl (Nat.le_of_ble_eq_true rfl) (fun v59 q60 => ?_)
                        obtain ⟨bv59, cv59⟩ := q60
                        refine g_istore dX11_odds_112 (by decide) rfl ?_
                        refine g_iload dX11_odds_114 rfl (fun _ => ?_)
                        refine g_if_ne 121 dX11_odds_116 (by decide) (fun q61 => ?_) (fun q61 => ?_)
                        · skip
                          refine g_iload dX11_odds_121 rfl (fun _ => ?_)
                          refine g_if_ne 134 dX11_odds_123 (by decide) (fun q62 => ?_) (fun q62 => ?_)
                          · skip
                            refine g_iload dX11_odds_134 rfl (fun _ => ?_)
                            refine g_iload dX11_odds_136 rfl (fun _ => ?_)
                            refine g_idivF dX11_odds_138 (by omega) (fun v63 ev63 bv63 cv63 => ?_)
                            exact g_ireturn dX11_odds_139 retI (hPo _ _ ⟨hMh57, (Fr.sub hFh57 rfl), (by omega), (by omega)⟩)
                          · skip
                            refine g_iload dX11_odds_126 rfl (fun _ => ?_)
                            refine g_iload dX11_odds_128 rfl (fun _ => ?_)
                            refine g_idivF dX11_odds_130 (by omega) (fun v64 ev64 bv64 cv64 => ?_)
                            refine g_goto 139 dX11_odds_131 (by decide) ?_
                            exact g_ireturn dX11_odds_139 retI (hPo _ _ ⟨hMh57, (Fr.sub hFh57 rfl), (by omega), (by omega)⟩)
                        · skip
                          refine g_iconst dX11_odds_119 (inR_c rfl) ?_
                          exact g_ireturn dX11_odds_120 retI (hPo _ _ ⟨hMh57, (Fr.sub hFh57 rfl), (by omega), (by omega)⟩)
                      · skip
                        refine g_aload_n dX11_odds_84 rfl ?_
                        refine g_iload_n dX11_odds_85 rfl (fun _ => ?_)
                        refine g_iload_n dX11_odds_86 rfl (fun _ => ?_)
                        refine g_iload dX11_odds_87 rfl (fun _ => ?_)
                        refine g_cV (as := [_, _, _]) (c_X11_bruisesByWinds_0 _ _ _ h57 hMh57 (by omega) (by omega) (by omega) (by omega) (by omega) (by omega) (LD.fr (T := [(21, 7), (21, 8), (21, 9), (22, 1), (23, 0), (24, 0), (25, 0), (26, 1), (27, 0), (28, 0), (29, 0), (30, 0), (31, 0), (32, 1), (33, 0), (34, 0), (35, 0), (36, 0), (37, 0), (38, 0), (39, 0), (40, 0), (89, 0), (97, 0)]) f_LD (Fr.sub hFh57 rfl) rfl)) dX11_odds_89 mi_X11_bruisesByWinds in_X11_bruisesByWinds se_X11_bruisesByWinds ml_X11_293 rfl rfl rfl sh_0 rfl rfl (Nat.le_of_ble_eq_true rfl) (fun v65 h66 q67 => ?_)
                        obtain ⟨hMh66, hFh66, bv65, cv65⟩ := q67
                        refine g_iload_n dX11_odds_92 rfl (fun _ => ?_)
                        refine g_icmp_lt 99 dX11_odds_93 (by decide) (fun q68 => ?_) (fun q68 => ?_)
                        · skip
                          refine g_iincB dX11_odds_99 rfl rfl (by omega) (by omega) ?_
                          refine g_goto 77 dX11_odds_102 (by decide) ?_
                          exact ih77 _ _ _ hMh66 (Fr.tr (Fr.sub hFh57 rfl) hFh66 rfl) (by omega) (by omega) (by omega) (by omega) (by omega) (by omega)
                        · skip
                          refine g_iincF dX11_odds_96 rfl rfl (fun v69 bv69 cv69 => ?_)
                          refine g_iincB dX11_odds_99 rfl rfl (by omega) (by omega) ?_
                          refine g_goto 77 dX11_odds_102 (by decide) ?_
                          exact ih77 _ _ _ hMh66 (Fr.tr (Fr.sub hFh57 rfl) hFh66 rfl) (by omega) (by omega) (by omega) (by omega) (by omega) (by omega)
                  refine g_istore dX11_odds_75 (by decide) rfl ?_
                  exact c77 1001 _ _ _ hM Fr.rf (by omega) (by omega) (by omega) (by omega) (by omega) (by omega)
                · skip
                  refine g_iload dX11_odds_58 rfl (fun _ => ?_)
                  have al70 : 1 ≤ y51 ∧ y51 ≤ 10000000 := ⟨by omega, PW_b e52_0 (by omega) (by omega)⟩
                  refine g_bipush dX11_odds_60 (inR_c rfl) (by decide) ?_
                  refine g_imulB dX11_odds_62 (by omega) (by omega) ?_
                  refine g_istore dX11_odds_63 (by decide) rfl ?_
                  refine g_iincB dX11_odds_65 rfl rfl (by omega) (by omega) ?_
                  refine g_goto 52 dX11_odds_68 (by decide) ?_
                  exact ih52 _ _ (by omega) (by omega) (by omega) (by omega) (by omega) (by omega) (by first | exact PW_0 | exact PW_u e52_0 (by omega)) (by omega)
            refine g_istore dX11_odds_50 (by decide) rfl ?_
            exact c52 4 _ _ (by omega) (by omega) (by omega) (by omega) (by omega) (by omega) (by first | exact PW_0 | exact PW_u e52_0 (by omega)) (by omega)
          · skip
            refine g_if_ne 46 dX11_odds_41 (by decide) (fun _ => by exfalso; omega) (fun q71 => ?_)
            refine g_iconst dX11_odds_44 (inR_c rfl) ?_
            exact g_ireturn dX11_odds_45 retI (hPo _ _ ⟨hM, Fr.rf, (by omega), (by omega)⟩)
        · skip
          refine g_if_eq 44 dX11_odds_31 (by decide) (fun q72 => ?_) (fun _ => by exfalso; omega)
          refine g_iconst dX11_odds_44 (inR_c rfl) ?_
          exact g_ireturn dX11_odds_45 retI (hPo _ _ ⟨hM, Fr.rf, (by omega), (by omega)⟩)
      · skip
        refine g_if_eq 44 dX11_odds_20 (by decide) (fun q73 => ?_) (fun _ => by exfalso; omega)
        refine g_iconst dX11_odds_44 (inR_c rfl) ?_
        exact g_ireturn dX11_odds_45 retI (hPo _ _ ⟨hM, Fr.rf, (by omega), (by omega)⟩)
    · skip
      refine g_if_eq 44 dX11_odds_11 (by decide) (fun q74 => ?_) (fun _ => by exfalso; omega)
      refine g_iconst dX11_odds_44 (inR_c rfl) ?_
      exact g_ireturn dX11_odds_45 retI (hPo _ _ ⟨hM, Fr.rf, (by omega), (by omega)⟩)
