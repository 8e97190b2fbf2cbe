set_option maxRecDepth 100000 in
set_option maxHeartbeats 4000000 in
theorem c_X12_clause_98 (h : MEM) (hM : MBm h) (p0_0 : 0 ≤ h 98 38) (p0_1 : h 98 38 ≤ 0) (f_NW : NWo h) : CV yX12_clause cX12_clause 2 (none) 8 [pR 98] h (fun h' => MBm h' ∧ Fr [(98, 37), (98, 39), (98, 40), (98, 41), (98, 42), (98, 43), (98, 44), (98, 45), (121, 0), (122, 0), (123, 0), (124, 0), (125, 0), (126, 0), (127, 0)] h h' ∧ NWo h' ∧ h 98 36 ≤ h' 98 36 ∧ (h' 98 38 < 0 ∨ h 98 36 + 1 ≤ h' 98 36) ∧ h' 98 36 ≤ h' 98 37) := by
  refine CV.of (L0 := [some (pR 98), none]) rfl (Nat.le_of_ble_eq_true rfl) rfl (fun Po hPo hav => ?_)
  obtain ⟨w98_38, ew98_38⟩ : ∃ z, z = h 98 38 := ⟨_, rfl⟩
  obtain ⟨v1, ev1⟩ : ∃ z, z = h 98 36 := ⟨_, rfl⟩
  have bv1 : 0 ≤ v1 ∧ v1 ≤ 200 := by rw [ev1]; exact (m_98_36 hM)
  obtain ⟨v2, ev2⟩ : ∃ z, z = h 98 37 := ⟨_, rfl⟩
  have bv2 : 0 ≤ v2 ∧ v2 ≤ 200 := by rw [ev2]; exact (m_98_37 hM)
  obtain ⟨v3, ev3⟩ : ∃ z, z = h 98 39 := ⟨_, rfl⟩
  have bv3 : 0 ≤ v3 ∧ v3 ≤ 14 := by rw [ev3]; exact (m_98_39 hM)
  obtain ⟨v4, ev4⟩ : ∃ z, z = h 98 40 := ⟨_, rfl⟩
  have bv4 : 0 ≤ v4 ∧ v4 ≤ 200 := by rw [ev4]; exact (m_98_40 hM)
  refine g_aload_n dX12_clause_0 rfl ?_
  refine g_cVP (as := []) (c_X12_here_98  h hM) dX12_clause_1 mi_X12_here in_X12_here se_X12_here ml_X12_237 rfl rfl rfl sh_98 rfl rfl (Nat.le_of_ble_eq_true rfl) (fun v5 q6 => ?_)
  obtain ⟨bv5, cv5, zv5, yv5⟩ := q6
  refine g_istore_n dX12_clause_4 (by decide) rfl ?_
  refine g_iload_n dX12_clause_5 rfl (fun _ => ?_)
  refine g_bipush dX12_clause_6 (inR_c rfl) (by decide) ?_
  refine g_icmp_eq 41 dX12_clause_8 (by decide) (fun q7 => ?_) (fun q7 => ?_)
  · skip
    refine g_aload_n dX12_clause_41 rfl ?_
    refine gE_X12_310 rfl dX12_clause_42 sh_98 ev3.symm ?_
    refine g_bipush dX12_clause_45 (inR_c rfl) (by decide) ?_
    refine g_icmp_ne 59 dX12_clause_47 (by decide) (fun q8 => ?_) (fun q8 => ?_)
    · skip
      refine g_aload_n dX12_clause_59 rfl ?_
      refine g_cVP (as := []) (c_X12_isGood_98  h hM) dX12_clause_60 mi_X12_isGood in_X12_isGood se_X12_isGood ml_X12_220 rfl rfl rfl sh_98 rfl rfl (Nat.le_of_ble_eq_true rfl) (fun v9 q10 => ?_)
      have q11 : h 98 38 = w98_38 := ew98_38.symm
      rcases q10 with ⟨rfl, q10⟩ | ⟨rfl, q10⟩
      · skip
        refine g_if_ne 67 dX12_clause_63 (by decide) (fun q12 => ?_) (fun _ => by exfalso; omega)
        refine g_aload_n dX12_clause_67 rfl ?_
        have q13 : h 98 38 = w98_38 := ew98_38.symm
        have q14 : h 98 40 = v4 := ev4.symm
        have q15 : h 98 36 = v1 := ev1.symm
        have q16 : h 98 37 = v2 := ev2.symm
        have q17 : h 98 39 = v3 := ev3.symm
        have nw := f_NW.resolve_left (by omega)
        have nl := nw.lin
        refine gR_X12_82 rfl dX12_clause_68 sh_98 (b := 121) (m_98_30 hM) ?_
        refine g_aload_n dX12_clause_71 rfl ?_
        refine gE_X12_310 rfl dX12_clause_72 sh_98 ev3.symm ?_
        refine g_iload_n dX12_clause_75 rfl (fun _ => ?_)
        refine g_iastB dX12_clause_76 sh_121 (by omega) (by omega) (fun h18 eh18 => ?_)
        have hFh18 := Fr.ar eh18
        have hMh18 := u_121 hM eh18 (by omega) (by omega)
        refine g_aload_n dX12_clause_77 rfl ?_
        have fY1 : ∀ j, h18 122 j = h 122 j := fun j => (hFh18 122 j rfl)
        refine gR_X12_85 rfl dX12_clause_78 sh_98 (b := 122) (m_98_31 hMh18) ?_
        refine g_aload_n dX12_clause_81 rfl ?_
        refine gE_X12_310 rfl dX12_clause_82 sh_98 ((hFh18 98 39 rfl).trans ev3.symm) ?_
        refine g_aload_n dX12_clause_85 rfl ?_
        refine gE_X12_224 rfl dX12_clause_86 sh_98 ((hFh18 98 40 rfl).trans ev4.symm) ?_
        refine g_iastB dX12_clause_89 sh_122 (by omega) (by omega) (fun h19 eh19 => ?_)
        have hFh19 := Fr.ar eh19
        have hMh19 := u_122 hMh18 eh19 (by omega) (by omega)
        refine g_aload_n dX12_clause_90 rfl ?_
        refine g_dup dX12_clause_91 rfl ?_
        refine gE_X12_211 rfl dX12_clause_92 sh_98 ((hFh19 98 36 rfl).trans ((hFh18 98 36 rfl).trans ev1.symm)) ?_
        have a92 : 0 ≤ v1 ∧ v1 ≤ 199 := (by omega)
        refine g_iconst dX12_clause_95 (inR_c rfl) ?_
        refine g_iaddB dX12_clause_96 (by omega) (by omega) ?_
        refine pI_X12_211 rfl dX12_clause_97 sh_98 (fun h20 eh20 => ?_)
        have hFh20 := Fr.st eh20
        have hMh20 := u_98_36 hMh19 eh20 (by omega) (by omega)
        refine g_aload_n dX12_clause_100 rfl ?_
        refine g_iconst dX12_clause_101 (inR_c rfl) ?_
        refine pI_X12_227 rfl dX12_clause_102 sh_98 (fun h21 eh21 => ?_)
        have hFh21 := Fr.st eh21
        have hMh21 := u_98_42 hMh20 eh21 (by omega) (by omega)
        refine g_aload_n dX12_clause_105 rfl ?_
        refine g_iconst dX12_clause_106 (inR_c rfl) ?_
        refine pI_X12_230 rfl dX12_clause_107 sh_98 (fun h22 eh22 => ?_)
        have hFh22 := Fr.st eh22
        have hMh22 := u_98_41 hMh21 eh22 (by omega) (by omega)
        have eC0 : h22 98 40 = h 98 40 := ((hFh22 98 40 rfl).trans ((hFh21 98 40 rfl).trans ((hFh20 98 40 rfl).trans ((hFh19 98 40 rfl).trans (hFh18 98 40 rfl)))))
        have fN0 : ∀ j, h22 125 j = h 125 j := fun j => ((hFh22 125 j rfl).trans ((hFh21 125 j rfl).trans ((hFh20 125 j rfl).trans ((hFh19 125 j rfl).trans (hFh18 125 j rfl)))))
        have q23 : h22 98 36 = (v1 + 1) := ((hFh22 98 36 rfl).trans ((hFh21 98 36 rfl).trans (st_at eh20)))
        have q24 : h22 98 37 = v2 := ((hFh22 98 37 rfl).trans ((hFh21 98 37 rfl).trans ((hFh20 98 37 rfl).trans ((hFh19 98 37 rfl).trans ((hFh18 98 37 rfl).trans ev2.symm)))))
        have q25 : h22 98 42 = 0 := ((hFh22 98 42 rfl).trans (st_at eh21))
        have q26 : h22 98 40 = v4 := ((hFh22 98 40 rfl).trans ((hFh21 98 40 rfl).trans ((hFh20 98 40 rfl).trans ((hFh19 98 40 rfl).trans ((hFh18 98 40 rfl).trans ev4.symm)))))
        refine g_aload_n dX12_clause_110 rfl ?_
        have Ev0 : EVo (h22 98 40) (h22 125) 0 (h22 127) 0 h22 := E_start (by omega) (by omega) (by omega) (by omega)
        have q27 : h22 98 38 = w98_38 := ((hFh22 98 38 rfl).trans ((hFh21 98 38 rfl).trans ((hFh20 98 38 rfl).trans ((hFh19 98 38 rfl).trans ((hFh18 98 38 rfl).trans ew98_38.symm)))))
        refine g_cVV (as := []) (c_X12_value_98 _ _ _ _ h22 hMh22 (by omega) (by omega) Ev0) dX12_clause_111 mi_X12_value in_X12_value se_X12_value ml_X12_289 rfl rfl rfl sh_98 rfl rfl (Nat.le_of_ble_eq_true rfl) (fun h28 q29 => ?_)
        obtain ⟨hMh28, hFh28, zh28, yh28, wh28⟩ := q29
        have dz0 : DZo (h28 98 40) (h28 125) h28 := DZ_mid (by assumption)
        refine g_aload_n dX12_clause_114 rfl ?_
        have fY2 : ∀ j, h28 123 j = h 123 j := fun j => ((hFh28 123 j rfl).trans ((hFh22 123 j rfl).trans ((hFh21 123 j rfl).trans ((hFh20 123 j rfl).trans ((hFh19 123 j rfl).trans (hFh18 123 j rfl))))))
        obtain ⟨v30, ev30⟩ : ∃ z, z = h28 98 40 := ⟨_, rfl⟩
        have bv30 : 0 ≤ v30 ∧ v30 ≤ 200 := by rw [ev30]; exact (m_98_40 hMh28)
        refine gR_X12_88 rfl dX12_clause_115 sh_98 (b := 123) (m_98_32 hMh28) ?_
        refine g_aload_n dX12_clause_118 rfl ?_
        refine gE_X12_310 rfl dX12_clause_119 sh_98 ((hFh28 98 39 rfl).trans ((hFh22 98 39 rfl).trans ((hFh21 98 39 rfl).trans ((hFh20 98 39 rfl).trans ((hFh19 98 39 rfl).trans ((hFh18 98 39 rfl).trans ev3.symm)))))) ?_
        refine g_aload_n dX12_clause_122 rfl ?_
        refine gE_X12_224 rfl dX12_clause_123 sh_98 ev30.symm ?_
        refine g_iastB dX12_clause_126 sh_123 (by omega) (by omega) (fun h31 eh31 => ?_)
        have hFh31 := Fr.ar eh31
        have hMh31 := u_123 hMh28 eh31 (by omega) (by omega)
        refine g_aload_n dX12_clause_127 rfl ?_
        refine g_cVP (as := []) (c_X12_isGood_98  h31 hMh31) dX12_clause_128 mi_X12_isGood in_X12_isGood se_X12_isGood ml_X12_220 rfl rfl rfl sh_98 rfl rfl (Nat.le_of_ble_eq_true rfl) (fun v32 q33 => ?_)
        have q34 : h31 98 38 = h28 98 38 := (hFh31 98 38 rfl)
        obtain ⟨v35, ev35⟩ : ∃ z, z = h31 98 38 := ⟨_, rfl⟩
        have bv35 : -6000 ≤ v35 ∧ v35 ≤ 0 := by rw [ev35]; exact (m_98_38 hMh31)
        rcases q33 with ⟨rfl, q33⟩ | ⟨rfl, q33⟩
        · skip
          refine g_if_eq 138 dX12_clause_131 (by decide) (fun _ => by exfalso; omega) (fun q36 => ?_)
          refine g_aload_n dX12_clause_134 rfl ?_
          have q37 : h31 98 38 = v35 := ev35.symm
          refine g_cVV (as := []) (c_X12_condition_98 _ _ h31 hMh31 (by omega) (by omega) (DZo.fr (T := [(123, 0)]) dz0 (Fr.sub hFh31 rfl) rfl)) dX12_clause_135 mi_X12_condition in_X12_condition se_X12_condition ml_X12_313 rfl rfl rfl sh_98 rfl rfl (Nat.le_of_ble_eq_true rfl) (fun h38 q39 => ?_)
          obtain ⟨hMh38, hFh38, zh38, yh38, wh38⟩ := q39
          refine g_aload_n dX12_clause_138 rfl ?_
          have fY3 : ∀ j, h38 124 j = h 124 j := fun j => ((hFh38 124 j rfl).trans ((hFh31 124 j rfl).trans ((hFh28 124 j rfl).trans ((hFh22 124 j rfl).trans ((hFh21 124 j rfl).trans ((hFh20 124 j rfl).trans ((hFh19 124 j rfl).trans (hFh18 124 j rfl))))))))
          obtain ⟨v40, ev40⟩ : ∃ z, z = h38 98 40 := ⟨_, rfl⟩
          have bv40 : 0 ≤ v40 ∧ v40 ≤ 200 := by rw [ev40]; exact (m_98_40 hMh38)
          refine gR_X12_91 rfl dX12_clause_139 sh_98 (b := 124) (m_98_33 hMh38) ?_
          refine g_aload_n dX12_clause_142 rfl ?_
          refine gE_X12_310 rfl dX12_clause_143 sh_98 ((hFh38 98 39 rfl).trans ((hFh31 98 39 rfl).trans ((hFh28 98 39 rfl).trans ((hFh22 98 39 rfl).trans ((hFh21 98 39 rfl).trans ((hFh20 98 39 rfl).trans ((hFh19 98 39 rfl).trans ((hFh18 98 39 rfl).trans ev3.symm)))))))) ?_
          refine g_aload_n dX12_clause_146 rfl ?_
          refine gE_X12_224 rfl dX12_clause_147 sh_98 ev40.symm ?_
          refine g_iastB dX12_clause_150 sh_124 (by omega) (by omega) (fun h41 eh41 => ?_)
          have hFh41 := Fr.ar eh41
          have hMh41 := u_124 hMh38 eh41 (by omega) (by omega)
          refine g_aload_n dX12_clause_151 rfl ?_
          refine g_dup dX12_clause_152 rfl ?_
          refine gE_X12_310 rfl dX12_clause_153 sh_98 ((hFh41 98 39 rfl).trans ((hFh38 98 39 rfl).trans ((hFh31 98 39 rfl).trans ((hFh28 98 39 rfl).trans ((hFh22 98 39 rfl).trans ((hFh21 98 39 rfl).trans ((hFh20 98 39 rfl).trans ((hFh19 98 39 rfl).trans ((hFh18 98 39 rfl).trans ev3.symm))))))))) ?_
          refine g_iconst dX12_clause_156 (inR_c rfl) ?_
          refine g_iaddB dX12_clause_157 (by omega) (by omega) ?_
          refine pI_X12_310 rfl dX12_clause_158 sh_98 (fun h42 eh42 => ?_)
          have hFh42 := Fr.st eh42
          have hMh42 := u_98_39 hMh41 eh42 (by omega) (by omega)
          have q43 : h42 98 36 = h38 98 36 := ((hFh42 98 36 rfl).trans (hFh41 98 36 rfl))
          obtain ⟨v44, ev44⟩ : ∃ z, z = h42 98 36 := ⟨_, rfl⟩
          have bv44 : 0 ≤ v44 ∧ v44 ≤ 200 := by rw [ev44]; exact (m_98_36 hMh42)
          have q45 : h42 98 37 = v2 := ((hFh42 98 37 rfl).trans ((hFh41 98 37 rfl).trans ((hFh38 98 37 rfl).trans ((hFh31 98 37 rfl).trans ((hFh28 98 37 rfl).trans ((hFh22 98 37 rfl).trans ((hFh21 98 37 rfl).trans ((hFh20 98 37 rfl).trans ((hFh19 98 37 rfl).trans ((hFh18 98 37 rfl).trans ev2.symm))))))))))
          have q46 : h42 98 38 = h38 98 38 := ((hFh42 98 38 rfl).trans (hFh41 98 38 rfl))
          obtain ⟨v47, ev47⟩ : ∃ z, z = h42 98 38 := ⟨_, rfl⟩
          have bv47 : -6000 ≤ v47 ∧ v47 ≤ 0 := by rw [ev47]; exact (m_98_38 hMh42)
          have q48 : h42 98 40 = v40 := ((hFh42 98 40 rfl).trans ((hFh41 98 40 rfl).trans ev40.symm))
          have q49 : h42 98 39 = (v3 + 1) := (st_at eh42)
          have fX1 : ∀ j, h42 122 j = h19 122 j := fun j => ((hFh42 122 j rfl).trans ((hFh41 122 j rfl).trans ((hFh38 122 j rfl).trans ((hFh31 122 j rfl).trans ((hFh28 122 j rfl).trans ((hFh22 122 j rfl).trans ((hFh21 122 j rfl).trans (hFh20 122 j rfl))))))))
          have fX2 : ∀ j, h42 123 j = h31 123 j := fun j => ((hFh42 123 j rfl).trans ((hFh41 123 j rfl).trans (hFh38 123 j rfl)))
          have fX3 : ∀ j, h42 124 j = h41 124 j := fun j => (hFh42 124 j rfl)
          have bD : h42 98 38 = h38 98 38 := ((hFh42 98 38 rfl).trans (hFh41 98 38 rfl))
          have cD : h42 98 40 = h38 98 40 := ((hFh42 98 40 rfl).trans (hFh41 98 40 rfl))
          have nD : ∀ j, h42 125 j = h38 125 j := fun j => ((hFh42 125 j rfl).trans (hFh41 125 j rfl))
          have nw2 : NWo h42 := (by first | exact Or.inl (by omega) | exact NW_end nw eC0 fN0 (by assumption) (by omega) (by assumption) bD cD nD (by omega) (by omega) (by omega) (up_at (by assumption) fY1 fX1) (by omega) (by omega) (up_at (by assumption) fY2 fX2) (by omega) (up_at (by assumption) fY3 fX3) (by omega))
          exact g_return dX12_clause_161 rfl (hPo _ ⟨hMh42, (Fr.tr (Fr.tr (Fr.tr (Fr.tr (Fr.tr (Fr.tr (Fr.tr (Fr.tr (Fr.tr (Fr.sub hFh18 rfl) hFh19 rfl) hFh20 rfl) hFh21 rfl) hFh22 rfl) hFh28 rfl) hFh31 rfl) hFh38 rfl) hFh41 rfl) hFh42 rfl), nw2, (by omega), (by omega), (by omega)⟩)
        · skip
          refine g_if_eq 138 dX12_clause_131 (by decide) (fun q50 => ?_) (fun _ => by exfalso; omega)
          refine g_aload_n dX12_clause_138 rfl ?_
          have fY3 : ∀ j, h31 124 j = h 124 j := fun j => ((hFh31 124 j rfl).trans ((hFh28 124 j rfl).trans ((hFh22 124 j rfl).trans ((hFh21 124 j rfl).trans ((hFh20 124 j rfl).trans ((hFh19 124 j rfl).trans (hFh18 124 j rfl)))))))
          have q51 : h31 98 40 = v30 := ((hFh31 98 40 rfl).trans ev30.symm)
          refine gR_X12_91 rfl dX12_clause_139 sh_98 (b := 124) (m_98_33 hMh31) ?_
          refine g_aload_n dX12_clause_142 rfl ?_
          refine gE_X12_310 rfl dX12_clause_143 sh_98 ((hFh31 98 39 rfl).trans ((hFh28 98 39 rfl).trans ((hFh22 98 39 rfl).trans ((hFh21 98 39 rfl).trans ((hFh20 98 39 rfl).trans ((hFh19 98 39 rfl).trans ((hFh18 98 39 rfl).trans ev3.symm))))))) ?_
          refine g_aload_n dX12_clause_146 rfl ?_
          refine gE_X12_224 rfl dX12_clause_147 sh_98 ((hFh31 98 40 rfl).trans ev30.symm) ?_
          refine g_iastB dX12_clause_150 sh_124 (by omega) (by omega) (fun h52 eh52 => ?_)
          have hFh52 := Fr.ar eh52
          have hMh52 := u_124 hMh31 eh52 (by omega) (by omega)
          refine g_aload_n dX12_clause_151 rfl ?_
          refine g_dup dX12_clause_152 rfl ?_
          refine gE_X12_310 rfl dX12_clause_153 sh_98 ((hFh52 98 39 rfl).trans ((hFh31 98 39 rfl).trans ((hFh28 98 39 rfl).trans ((hFh22 98 39 rfl).trans ((hFh21 98 39 rfl).trans ((hFh20 98 39 rfl).trans ((hFh19 98 39 rfl).trans ((hFh18 98 39 rfl).trans ev3.symm)))))))) ?_
          refine g_iconst dX12_clause_156 (inR_c rfl) ?_
          refine g_iaddB dX12_clause_157 (by omega) (by omega) ?_
          refine pI_X12_310 rfl dX12_clause_158 sh_98 (fun h53 eh53 => ?_)
          have hFh53 := Fr.st eh53
          have hMh53 := u_98_39 hMh52 eh53 (by omega) (by omega)
          have q54 : h53 98 36 = h28 98 36 := ((hFh53 98 36 rfl).trans ((hFh52 98 36 rfl).trans (hFh31 98 36 rfl)))
          obtain ⟨v55, ev55⟩ : ∃ z, z = h53 98 36 := ⟨_, rfl⟩
          have bv55 : 0 ≤ v55 ∧ v55 ≤ 200 := by rw [ev55]; exact (m_98_36 hMh53)
          have q56 : h53 98 37 = v2 := ((hFh53 98 37 rfl).trans ((hFh52 98 37 rfl).trans ((hFh31 98 37 rfl).trans ((hFh28 98 37 rfl).trans ((hFh22 98 37 rfl).trans ((hFh21 98 37 rfl).trans ((hFh20 98 37 rfl).trans ((hFh19 98 37 rfl).trans ((hFh18 98 37 rfl).trans ev2.symm)))))))))
          have q57 : h53 98 38 = v35 := ((hFh53 98 38 rfl).trans ((hFh52 98 38 rfl).trans ev35.symm))
          have q58 : h53 98 40 = v30 := ((hFh53 98 40 rfl).trans ((hFh52 98 40 rfl).trans ((hFh31 98 40 rfl).trans ev30.symm)))
          have q59 : h53 98 39 = (v3 + 1) := (st_at eh53)
          have fX1 : ∀ j, h53 122 j = h19 122 j := fun j => ((hFh53 122 j rfl).trans ((hFh52 122 j rfl).trans ((hFh31 122 j rfl).trans ((hFh28 122 j rfl).trans ((hFh22 122 j rfl).trans ((hFh21 122 j rfl).trans (hFh20 122 j rfl)))))))
          have fX2 : ∀ j, h53 123 j = h31 123 j := fun j => ((hFh53 123 j rfl).trans (hFh52 123 j rfl))
          have fX3 : ∀ j, h53 124 j = h52 124 j := fun j => (hFh53 124 j rfl)
          have nw2 : NWo h53 := (by first | exact Or.inl (by omega) | exact NW_end nw eC0 fN0 (by assumption) (by omega) (by assumption) bD cD nD (by omega) (by omega) (by omega) (up_at (by assumption) fY1 fX1) (by omega) (by omega) (up_at (by assumption) fY2 fX2) (by omega) (up_at (by assumption) fY3 fX3) (by omega))
          exact g_return dX12_clause_161 rfl (hPo _ ⟨hMh53, (Fr.tr (Fr.tr (Fr.tr (Fr.tr (Fr.tr (Fr.tr (Fr.tr (Fr.tr (Fr.sub hFh18 rfl) hFh19 rfl) hFh20 rfl) hFh21 rfl) hFh22 rfl) hFh28 rfl) hFh31 rfl) hFh52 rfl) hFh53 rfl), nw2, (by omega), (by omega), (by omega)⟩)
      · skip
        exfalso; omega
    · skip
      refine g_aload_n dX12_clause_50 rfl ?_
      refine g_iconst dX12_clause_51 (inR_c rfl) ?_
      refine g_aload_n dX12_clause_52 rfl ?_
      refine gE_X12_211 rfl dX12_clause_53 sh_98 ev1.symm ?_
      refine g_cVV (as := [_, _]) (c_X12_wrongs_98 _ _ h hM (by omega) (by omega) (by omega) (by omega)) dX12_clause_56 mi_X12_wrongs in_X12_wrongs se_X12_wrongs ml_X12_233 rfl rfl rfl sh_98 rfl rfl (Nat.le_of_ble_eq_true rfl) (fun h60 q61 => ?_)
      obtain ⟨hMh60, hFh60, az62, bz62⟩ := q61
      obtain ⟨v63, ev63⟩ : ∃ z, z = h60 98 38 := ⟨_, rfl⟩
      have bv63 : -6000 ≤ v63 ∧ v63 ≤ -1 := by rw [ev63]; exact ⟨az62, bz62⟩
      refine g_aload_n dX12_clause_59 rfl ?_
      refine g_cVP (as := []) (c_X12_isGood_98  h60 hMh60) dX12_clause_60 mi_X12_isGood in_X12_isGood se_X12_isGood ml_X12_220 rfl rfl rfl sh_98 rfl rfl (Nat.le_of_ble_eq_true rfl) (fun v64 q65 => ?_)
      have q66 : h60 98 38 = v63 := ev63.symm
      rcases q65 with ⟨rfl, q65⟩ | ⟨rfl, q65⟩
      · skip
        exfalso; omega
      · skip
        refine g_if_ne 67 dX12_clause_63 (by decide) (fun _ => by exfalso; omega) (fun q67 => ?_)
        have q68 : h60 98 36 = v1 := ((hFh60 98 36 rfl).trans ev1.symm)
        have q69 : h60 98 37 = v2 := ((hFh60 98 37 rfl).trans ev2.symm)
        have q70 : h60 98 38 = v63 := ev63.symm
        have q71 : h60 98 40 = v4 := ((hFh60 98 40 rfl).trans ev4.symm)
        have q72 : h60 98 39 = v3 := ((hFh60 98 39 rfl).trans ev3.symm)
        have nw2 : NWo h60 := (by first | exact Or.inl (by omega) | exact NW_end nw eC0 fN0 (by assumption) (by omega) (by assumption) bD cD nD (by omega) (by omega) (by omega) (up_at (by assumption) fY1 fX1) (by omega) (by omega) (up_at (by assumption) fY2 fX2) (by omega) (up_at (by assumption) fY3 fX3) (by omega))
        exact g_return dX12_clause_66 rfl (hPo _ ⟨hMh60, (Fr.sub hFh60 rfl), nw2, (by omega), (by omega), (by omega)⟩)
  · skip
    refine g_iload_n dX12_clause_11 rfl (fun _ => ?_)
    refine g_bipush dX12_clause_12 (inR_c rfl) (by decide) ?_
    refine g_icmp_eq 41 dX12_clause_14 (by decide) (fun q73 => ?_) (fun q73 => ?_)
    · skip
      refine g_aload_n dX12_clause_41 rfl ?_
      refine gE_X12_310 rfl dX12_clause_42 sh_98 ev3.symm ?_
      refine g_bipush dX12_clause_45 (inR_c rfl) (by decide) ?_
      refine g_icmp_ne 59 dX12_clause_47 (by decide) (fun q74 => ?_) (fun q74 => ?_)
      · skip
        refine g_aload_n dX12_clause_59 rfl ?_
        refine g_cVP (as := []) (c_X12_isGood_98  h hM) dX12_clause_60 mi_X12_isGood in_X12_isGood se_X12_isGood ml_X12_220 rfl rfl rfl sh_98 rfl rfl (Nat.le_of_ble_eq_true rfl) (fun v75 q76 => ?_)
        have q77 : h 98 38 = w98_38 := ew98_38.symm
        rcases q76 with ⟨rfl, q76⟩ | ⟨rfl, q76⟩
        · skip
          refine g_if_ne 67 dX12_clause_63 (by decide) (fun q78 => ?_) (fun _ => by exfalso; omega)
          refine g_aload_n dX12_clause_67 rfl ?_
          have q79 : h 98 38 = w98_38 := ew98_38.symm
          have q80 : h 98 40 = v4 := ev4.symm
          have q81 : h 98 36 = v1 := ev1.symm
          have q82 : h 98 37 = v2 := ev2.symm
          have q83 : h 98 39 = v3 := ev3.symm
          have nw := f_NW.resolve_left (by omega)
          have nl := nw.lin
          refine gR_X12_82 rfl dX12_clause_68 sh_98 (b := 121) (m_98_30 hM) ?_
          refine g_aload_n dX12_clause_71 rfl ?_
          refine gE_X12_310 rfl dX12_clause_72 sh_98 ev3.symm ?_
          refine g_iload_n dX12_clause_75 rfl (fun _ => ?_)
          refine g_iastB dX12_clause_76 sh_121 (by omega) (by omega) (fun h84 eh84 => ?_)
          have hFh84 := Fr.ar eh84
          have hMh84 := u_121 hM eh84 (by omega) (by omega)
          refine g_aload_n dX12_clause_77 rfl ?_
          have fY1 : ∀ j, h84 122 j = h 122 j := fun j => (hFh84 122 j rfl)
          refine gR_X12_85 rfl dX12_clause_78 sh_98 (b := 122) (m_98_31 hMh84) ?_
          refine g_aload_n dX12_clause_81 rfl ?_
          refine gE_X12_310 rfl dX12_clause_82 sh_98 ((hFh84 98 39 rfl).trans ev3.symm) ?_
          refine g_aload_n dX12_clause_85 rfl ?_
          refine gE_X12_224 rfl dX12_clause_86 sh_98 ((hFh84 98 40 rfl).trans ev4.symm) ?_
          refine g_iastB dX12_clause_89 sh_122 (by omega) (by omega) (fun h85 eh85 => ?_)
          have hFh85 := Fr.ar eh85
          have hMh85 := u_122 hMh84 eh85 (by omega) (by omega)
          refine g_aload_n dX12_clause_90 rfl ?_
          refine g_dup dX12_clause_91 rfl ?_
          refine gE_X12_211 rfl dX12_clause_92 sh_98 ((hFh85 98 36 rfl).trans ((hFh84 98 36 rfl).trans ev1.symm)) ?_
          have a92 : 0 ≤ v1 ∧ v1 ≤ 199 := (by omega)
          refine g_iconst dX12_clause_95 (inR_c rfl) ?_
          refine g_iaddB dX12_clause_96 (by omega) (by omega) ?_
          refine pI_X12_211 rfl dX12_clause_97 sh_98 (fun h86 eh86 => ?_)
          have hFh86 := Fr.st eh86
          have hMh86 := u_98_36 hMh85 eh86 (by omega) (by omega)
          refine g_aload_n dX12_clause_100 rfl ?_
          refine g_iconst dX12_clause_101 (inR_c rfl) ?_
          refine pI_X12_227 rfl dX12_clause_102 sh_98 (fun h87 eh87 => ?_)
          have hFh87 := Fr.st eh87
          have hMh87 := u_98_42 hMh86 eh87 (by omega) (by omega)
          refine g_aload_n dX12_clause_105 rfl ?_
          refine g_iconst dX12_clause_106 (inR_c rfl) ?_
          refine pI_X12_230 rfl dX12_clause_107 sh_98 (fun h88 eh88 => ?_)
          have hFh88 := Fr.st eh88
          have hMh88 := u_98_41 hMh87 eh88 (by omega) (by omega)
          have eC0 : h88 98 40 = h 98 40 := ((hFh88 98 40 rfl).trans ((hFh87 98 40 rfl).trans ((hFh86 98 40 rfl).trans ((hFh85 98 40 rfl).trans (hFh84 98 40 rfl)))))
          have fN0 : ∀ j, h88 125 j = h 125 j := fun j => ((hFh88 125 j rfl).trans ((hFh87 125 j rfl).trans ((hFh86 125 j rfl).trans ((hFh85 125 j rfl).trans (hFh84 125 j rfl)))))
          have q89 : h88 98 36 = (v1 + 1) := ((hFh88 98 36 rfl).trans ((hFh87 98 36 rfl).trans (st_at eh86)))
          have q90 : h88 98 37 = v2 := ((hFh88 98 37 rfl).trans ((hFh87 98 37 rfl).trans ((hFh86 98 37 rfl).trans ((hFh85 98 37 rfl).trans ((hFh84 98 37 rfl).trans ev2.symm)))))
          have q91 : h88 98 42 = 0 := ((hFh88 98 42 rfl).trans (st_at eh87))
          have q92 : h88 98 40 = v4 := ((hFh88 98 40 rfl).trans ((hFh87 98 40 rfl).trans ((hFh86 98 40 rfl).trans ((hFh85 98 40 rfl).trans ((hFh84 98 40 rfl).trans ev4.symm)))))
          refine g_aload_n dX12_clause_110 rfl ?_
          have Ev0 : EVo (h88 98 40) (h88 125) 0 (h88 127) 0 h88 := E_start (by omega) (by omega) (by omega) (by omega)
          have q93 : h88 98 38 = w98_38 := ((hFh88 98 38 rfl).trans ((hFh87 98 38 rfl).trans ((hFh86 98 38 rfl).trans ((hFh85 98 38 rfl).trans ((hFh84 98 38 rfl).trans ew98_38.symm)))))
          refine g_cVV (as := []) (c_X12_value_98 _ _ _ _ h88 hMh88 (by omega) (by omega) Ev0) dX12_clause_111 mi_X12_value in_X12_value se_X12_value ml_X12_289 rfl rfl rfl sh_98 rfl rfl (Nat.le_of_ble_eq_true rfl) (fun h94 q95 => ?_)
          obtain ⟨hMh94, hFh94, zh94, yh94, wh94⟩ := q95
          have dz0 : DZo (h94 98 40) (h94 125) h94 := DZ_mid (by assumption)
          refine g_aload_n dX12_clause_114 rfl ?_
          have fY2 : ∀ j, h94 123 j = h 123 j := fun j => ((hFh94 123 j rfl).trans ((hFh88 123 j rfl).trans ((hFh87 123 j rfl).trans ((hFh86 123 j rfl).trans ((hFh85 123 j rfl).trans (hFh84 123 j rfl))))))
          obtain ⟨v96, ev96⟩ : ∃ z, z = h94 98 40 := ⟨_, rfl⟩
          have bv96 : 0 ≤ v96 ∧ v96 ≤ 200 := by rw [ev96]; exact (m_98_40 hMh94)
          refine gR_X12_88 rfl dX12_clause_115 sh_98 (b := 123) (m_98_32 hMh94) ?_
          refine g_aload_n dX12_clause_118 rfl ?_
          refine gE_X12_310 rfl dX12_clause_119 sh_98 ((hFh94 98 39 rfl).trans ((hFh88 98 39 rfl).trans ((hFh87 98 39 rfl).trans ((hFh86 98 39 rfl).trans ((hFh85 98 39 rfl).trans ((hFh84 98 39 rfl).trans ev3.symm)))))) ?_
          refine g_aload_n dX12_clause_122 rfl ?_
          refine gE_X12_224 rfl dX12_clause_123 sh_98 ev96.symm ?_
          refine g_iastB dX12_clause_126 sh_123 (by omega) (by omega) (fun h97 eh97 => ?_)
          have hFh97 := Fr.ar eh97
          have hMh97 := u_123 hMh94 eh97 (by omega) (by omega)
          refine g_aload_n dX12_clause_127 rfl ?_
          refine g_cVP (as := []) (c_X12_isGood_98  h97 hMh97) dX12_clause_128 mi_X12_isGood in_X12_isGood se_X12_isGood ml_X12_220 rfl rfl rfl sh_98 rfl rfl (Nat.le_of_ble_eq_true rfl) (fun v98 q99 => ?_)
          have q100 : h97 98 38 = h94 98 38 := (hFh97 98 38 rfl)
          obtain ⟨v101, ev101⟩ : ∃ z, z = h97 98 38 := ⟨_, rfl⟩
          have bv101 : -6000 ≤ v101 ∧ v101 ≤ 0 := by rw [ev101]; exact (m_98_38 hMh97)
          rcases q99 with ⟨rfl, q99⟩ | ⟨rfl, q99⟩
          · skip
            refine g_if_eq 138 dX12_clause_131 (by decide) (fun _ => by exfalso; omega) (fun q102 => ?_)
            refine g_aload_n dX12_clause_134 rfl ?_
            have q103 : h97 98 38 = v101 := ev101.symm
            refine g_cVV (as := []) (c_X12_condition_98 _ _ h97 hMh97 (by omega) (by omega) (DZo.fr (T := [(123, 0)]) dz0 (Fr.sub hFh97 rfl) rfl)) dX12_clause_135 mi_X12_condition in_X12_condition se_X12_condition ml_X12_313 rfl rfl rfl sh_98 rfl rfl (Nat.le_of_ble_eq_true rfl) (fun h104 q105 => ?_)
            obtain ⟨hMh104, hFh104, zh104, yh104, wh104⟩ := q105
            refine g_aload_n dX12_clause_138 rfl ?_
            have fY3 : ∀ j, h104 124 j = h 124 j := fun j => ((hFh104 124 j rfl).trans ((hFh97 124 j rfl).trans ((hFh94 124 j rfl).trans ((hFh88 124 j rfl).trans ((hFh87 124 j rfl).trans ((hFh86 124 j rfl).trans ((hFh85 124 j rfl).trans (hFh84 124 j rfl))))))))
            obtain ⟨v106, ev106⟩ : ∃ z, z = h104 98 40 := ⟨_, rfl⟩
            have bv106 : 0 ≤ v106 ∧ v106 ≤ 200 := by rw [ev106]; exact (m_98_40 hMh104)
            refine gR_X12_91 rfl dX12_clause_139 sh_98 (b := 124) (m_98_33 hMh104) ?_
            refine g_aload_n dX12_clause_142 rfl ?_
            refine gE_X12_310 rfl dX12_clause_143 sh_98 ((hFh104 98 39 rfl).trans ((hFh97 98 39 rfl).trans ((hFh94 98 39 rfl).trans ((hFh88 98 39 rfl).trans ((hFh87 98 39 rfl).trans ((hFh86 98 39 rfl).trans ((hFh85 98 39 rfl).trans ((hFh84 98 39 rfl).trans ev3.symm)))))))) ?_
            refine g_aload_n dX12_clause_146 rfl ?_
            refine gE_X12_224 rfl dX12_clause_147 sh_98 ev106.symm ?_
            refine g_iastB dX12_clause_150 sh_124 (by omega) (by omega) (fun h107 eh107 => ?_)
            have hFh107 := Fr.ar eh107
            have hMh107 := u_124 hMh104 eh107 (by omega) (by omega)
            refine g_aload_n dX12_clause_151 rfl ?_
            refine g_dup dX12_clause_152 rfl ?_
            refine gE_X12_310 rfl dX12_clause_153 sh_98 ((hFh107 98 39 rfl).trans ((hFh104 98 39 rfl).trans ((hFh97 98 39 rfl).trans ((hFh94 98 39 rfl).trans ((hFh88 98 39 rfl).trans ((hFh87 98 39 rfl).trans ((hFh86 98 39 rfl).trans ((hFh85 98 39 rfl).trans ((hFh84 98 39 rfl).trans ev3.symm))))))))) ?_
            refine g_iconst dX12_clause_156 (inR_c rfl) ?_
            refine g_iaddB dX12_clause_157 (by omega) (by omega) ?_
            refine pI_X12_310 rfl dX12_clause_158 sh_98 (fun h108 eh108 => ?_)
            have hFh108 := Fr.st eh108
            have hMh108 := u_98_39 hMh107 eh108 (by omega) (by omega)
            have q109 : h108 98 36 = h104 98 36 := ((hFh108 98 36 rfl).trans (hFh107 98 36 rfl))
            obtain ⟨v110, ev110⟩ : ∃ z, z = h108 98 36 := ⟨_, rfl⟩
            have bv110 : 0 ≤ v110 ∧ v110 ≤ 200 := by rw [ev110]; exact (m_98_36 hMh108)
            have q111 : h108 98 37 = v2 := ((hFh108 98 37 rfl).trans ((hFh107 98 37 rfl).trans ((hFh104 98 37 rfl).trans ((hFh97 98 37 rfl).trans ((hFh94 98 37 rfl).trans ((hFh88 98 37 rfl).trans ((hFh87 98 37 rfl).trans ((hFh86 98 37 rfl).trans ((hFh85 98 37 rfl).trans ((hFh84 98 37 rfl).trans ev2.symm))))))))))
            have q112 : h108 98 38 = h104 98 38 := ((hFh108 98 38 rfl).trans (hFh107 98 38 rfl))
            obtain ⟨v113, ev113⟩ : ∃ z, z = h108 98 38 := ⟨_, rfl⟩
            have bv113 : -6000 ≤ v113 ∧ v113 ≤ 0 := by rw [ev113]; exact (m_98_38 hMh108)
            have q114 : h108 98 40 = v106 := ((hFh108 98 40 rfl).trans ((hFh107 98 40 rfl).trans ev106.symm))
            have q115 : h108 98 39 = (v3 + 1) := (st_at eh108)
            have fX1 : ∀ j, h108 122 j = h85 122 j := fun j => ((hFh108 122 j rfl).trans ((hFh107 122 j rfl).trans ((hFh104 122 j rfl).trans ((hFh97 122 j rfl).trans ((hFh94 122 j rfl).trans ((hFh88 122 j rfl).trans ((hFh87 122 j rfl).trans (hFh86 122 j rfl))))))))
            have fX2 : ∀ j, h108 123 j = h97 123 j := fun j => ((hFh108 123 j rfl).trans ((hFh107 123 j rfl).trans (hFh104 123 j rfl)))
            have fX3 : ∀ j, h108 124 j = h107 124 j := fun j => (hFh108 124 j rfl)
            have bD : h108 98 38 = h104 98 38 := ((hFh108 98 38 rfl).trans (hFh107 98 38 rfl))
            have cD : h108 98 40 = h104 98 40 := ((hFh108 98 40 rfl).trans (hFh107 98 40 rfl))
            have nD : ∀ j, h108 125 j = h104 125 j := fun j => ((hFh108 125 j rfl).trans (hFh107 125 j rfl))
            have nw2 : NWo h108 := (by first | exact Or.inl (by omega) | exact NW_end nw eC0 fN0 (by assumption) (by omega) (by assumption) bD cD nD (by omega) (by omega) (by omega) (up_at (by assumption) fY1 fX1) (by omega) (by omega) (up_at (by assumption) fY2 fX2) (by omega) (up_at (by assumption) fY3 fX3) (by omega))
            exact g_return dX12_clause_161 rfl (hPo _ ⟨hMh108, (Fr.tr (Fr.tr (Fr.tr (Fr.tr (Fr.tr (Fr.tr (Fr.tr (Fr.tr (Fr.tr (Fr.sub hFh84 rfl) hFh85 rfl) hFh86 rfl) hFh87 rfl) hFh88 rfl) hFh94 rfl) hFh97 rfl) hFh104 rfl) hFh107 rfl) hFh108 rfl), nw2, (by omega), (by omega), (by omega)⟩)
          · skip
            refine g_if_eq 138 dX12_clause_131 (by decide) (fun q116 => ?_) (fun _ => by exfalso; omega)
            refine g_aload_n dX12_clause_138 rfl ?_
            have fY3 : ∀ j, h97 124 j = h 124 j := fun j => ((hFh97 124 j rfl).trans ((hFh94 124 j rfl).trans ((hFh88 124 j rfl).trans ((hFh87 124 j rfl).trans ((hFh86 124 j rfl).trans ((hFh85 124 j rfl).trans (hFh84 124 j rfl)))))))
            have q117 : h97 98 40 = v96 := ((hFh97 98 40 rfl).trans ev96.symm)
            refine gR_X12_91 rfl dX12_clause_139 sh_98 (b := 124) (m_98_33 hMh97) ?_
            refine g_aload_n dX12_clause_142 rfl ?_
            refine gE_X12_310 rfl dX12_clause_143 sh_98 ((hFh97 98 39 rfl).trans ((hFh94 98 39 rfl).trans ((hFh88 98 39 rfl).trans ((hFh87 98 39 rfl).trans ((hFh86 98 39 rfl).trans ((hFh85 98 39 rfl).trans ((hFh84 98 39 rfl).trans ev3.symm))))))) ?_
            refine g_aload_n dX12_clause_146 rfl ?_
            refine gE_X12_224 rfl dX12_clause_147 sh_98 ((hFh97 98 40 rfl).trans ev96.symm) ?_
            refine g_iastB dX12_clause_150 sh_124 (by omega) (by omega) (fun h118 eh118 => ?_)
            have hFh118 := Fr.ar eh118
            have hMh118 := u_124 hMh97 eh118 (by omega) (by omega)
            refine g_aload_n dX12_clause_151 rfl ?_
            refine g_dup dX12_clause_152 rfl ?_
            refine gE_X12_310 rfl dX12_clause_153 sh_98 ((hFh118 98 39 rfl).trans ((hFh97 98 39 rfl).trans ((hFh94 98 39 rfl).trans ((hFh88 98 39 rfl).trans ((hFh87 98 39 rfl).trans ((hFh86 98 39 rfl).trans ((hFh85 98 39 rfl).trans ((hFh84 98 39 rfl).trans ev3.symm)))))))) ?_
            refine g_iconst dX12_clause_156 (inR_c rfl) ?_
            refine g_iaddB dX12_clause_157 (by omega) (by omega) ?_
            refine pI_X12_310 rfl dX12_clause_158 sh_98 (fun h119 eh119 => ?_)
            have hFh119 := Fr.st eh119
            have hMh119 := u_98_39 hMh118 eh119 (by omega) (by omega)
            have q120 : h119 98 36 = h94 98 36 := ((hFh119 98 36 rfl).trans ((hFh118 98 36 rfl).trans (hFh97 98 36 rfl)))
            obtain ⟨v121, ev121⟩ : ∃ z, z = h119 98 36 := ⟨_, rfl⟩
            have bv121 : 0 ≤ v121 ∧ v121 ≤ 200 := by rw [ev121]; exact (m_98_36 hMh119)
            have q122 : h119 98 37 = v2 := ((hFh119 98 37 rfl).trans ((hFh118 98 37 rfl).trans ((hFh97 98 37 rfl).trans ((hFh94 98 37 rfl).trans ((hFh88 98 37 rfl).trans ((hFh87 98 37 rfl).trans ((hFh86 98 37 rfl).trans ((hFh85 98 37 rfl).trans ((hFh84 98 37 rfl).trans ev2.symm)))))))))
            have q123 : h119 98 38 = v101 := ((hFh119 98 38 rfl).trans ((hFh118 98 38 rfl).trans ev101.symm))
            have q124 : h119 98 40 = v96 := ((hFh119 98 40 rfl).trans ((hFh118 98 40 rfl).trans ((hFh97 98 40 rfl).trans ev96.symm)))
            have q125 : h119 98 39 = (v3 + 1) := (st_at eh119)
            have fX1 : ∀ j, h119 122 j = h85 122 j := fun j => ((hFh119 122 j rfl).trans ((hFh118 122 j rfl).trans ((hFh97 122 j rfl).trans ((hFh94 122 j rfl).trans ((hFh88 122 j rfl).trans ((hFh87 122 j rfl).trans (hFh86 122 j rfl)))))))
            have fX2 : ∀ j, h119 123 j = h97 123 j := fun j => ((hFh119 123 j rfl).trans (hFh118 123 j rfl))
            have fX3 : ∀ j, h119 124 j = h118 124 j := fun j => (hFh119 124 j rfl)
            have nw2 : NWo h119 := (by first | exact Or.inl (by omega) | exact NW_end nw eC0 fN0 (by assumption) (by omega) (by assumption) bD cD nD (by omega) (by omega) (by omega) (up_at (by assumption) fY1 fX1) (by omega) (by omega) (up_at (by assumption) fY2 fX2) (by omega) (up_at (by assumption) fY3 fX3) (by omega))
            exact g_return dX12_clause_161 rfl (hPo _ ⟨hMh119, (Fr.tr (Fr.tr (Fr.tr (Fr.tr (Fr.tr (Fr.tr (Fr.tr (Fr.tr (Fr.sub hFh84 rfl) hFh85 rfl) hFh86 rfl) hFh87 rfl) hFh88 rfl) hFh94 rfl) hFh97 rfl) hFh118 rfl) hFh119 rfl), nw2, (by omega), (by omega), (by omega)⟩)
        · skip
          exfalso; omega
      · skip
        refine g_aload_n dX12_clause_50 rfl ?_
        refine g_iconst dX12_clause_51 (inR_c rfl) ?_
        refine g_aload_n dX12_clause_52 rfl ?_
        refine gE_X12_211 rfl dX12_clause_53 sh_98 ev1.symm ?_
        refine g_cVV (as := [_, _]) (c_X12_wrongs_98 _ _ h hM (by omega) (by omega) (by omega) (by omega)) dX12_clause_56 mi_X12_wrongs in_X12_wrongs se_X12_wrongs ml_X12_233 rfl rfl rfl sh_98 rfl rfl (Nat.le_of_ble_eq_true rfl) (fun h126 q127 => ?_)
        obtain ⟨hMh126, hFh126, az128, bz128⟩ := q127
        obtain ⟨v129, ev129⟩ : ∃ z, z = h126 98 38 := ⟨_, rfl⟩
        have bv129 : -6000 ≤ v129 ∧ v129 ≤ -1 := by rw [ev129]; exact ⟨az128, bz128⟩
        refine g_aload_n dX12_clause_59 rfl ?_
        refine g_cVP (as := []) (c_X12_isGood_98  h126 hMh126) dX12_clause_60 mi_X12_isGood in_X12_isGood se_X12_isGood ml_X12_220 rfl rfl rfl sh_98 rfl rfl (Nat.le_of_ble_eq_true rfl) (fun v130 q131 => ?_)
        have q132 : h126 98 38 = v129 := ev129.symm
        rcases q131 with ⟨rfl, q131⟩ | ⟨rfl, q131⟩
        · skip
          exfalso; omega
        · skip
          refine g_if_ne 67 dX12_clause_63 (by decide) (fun _ => by exfalso; omega) (fun q133 => ?_)
          have q134 : h126 98 36 = v1 := ((hFh126 98 36 rfl).trans ev1.symm)
          have q135 : h126 98 37 = v2 := ((hFh126 98 37 rfl).trans ev2.symm)
          have q136 : h126 98 38 = v129 := ev129.symm
          have q137 : h126 98 40 = v4 := ((hFh126 98 40 rfl).trans ev4.symm)
          have q138 : h126 98 39 = v3 := ((hFh126 98 39 rfl).trans ev3.symm)
          have nw2 : NWo h126 := (by first | exact Or.inl (by omega) | exact NW_end nw eC0 fN0 (by assumption) (by omega) (by assumption) bD cD nD (by omega) (by omega) (by omega) (up_at (by assumption) fY1 fX1) (by omega) (by omega) (up_at (by assumption) fY2 fX2) (by omega) (up_at (by assumption) fY3 fX3) (by omega))
          exact g_return dX12_clause_66 rfl (hPo _ ⟨hMh126, (Fr.sub hFh126 rfl), nw2, (by omega), (by omega), (by omega)⟩)
    · skip
      refine g_iload_n dX12_clause_17 rfl (fun _ => ?_)
      refine g_bipush dX12_clause_18 (inR_c rfl) (by decide) ?_
      refine g_icmp_eq 41 dX12_clause_20 (by decide) (fun q139 => ?_) (fun q139 => ?_)
      · skip
        refine g_aload_n dX12_clause_41 rfl ?_
        refine gE_X12_310 rfl dX12_clause_42 sh_98 ev3.symm ?_
        refine g_bipush dX12_clause_45 (inR_c rfl) (by decide) ?_
        refine g_icmp_ne 59 dX12_clause_47 (by decide) (fun q140 => ?_) (fun q140 => ?_)
        · skip
          refine g_aload_n dX12_clause_59 rfl ?_
          refine g_cVP (as := []) (c_X12_isGood_98  h hM) dX12_clause_60 mi_X12_isGood in_X12_isGood se_X12_isGood ml_X12_220 rfl rfl rfl sh_98 rfl rfl (Nat.le_of_ble_eq_true rfl) (fun v141 q142 => ?_)
          have q143 : h 98 38 = w98_38 := ew98_38.symm
          rcases q142 with ⟨rfl, q142⟩ | ⟨rfl, q142⟩
          · skip
            refine g_if_ne 67 dX12_clause_63 (by decide) (fun q144 => ?_) (fun _ => by exfalso; omega)
            refine g_aload_n dX12_clause_67 rfl ?_
            have q145 : h 98 38 = w98_38 := ew98_38.symm
            have q146 : h 98 40 = v4 := ev4.symm
            have q147 : h 98 36 = v1 := ev1.symm
            have q148 : h 98 37 = v2 := ev2.symm
            have q149 : h 98 39 = v3 := ev3.symm
            have nw := f_NW.resolve_left (by omega)
            have nl := nw.lin
            refine gR_X12_82 rfl dX12_clause_68 sh_98 (b := 121) (m_98_30 hM) ?_
            refine g_aload_n dX12_clause_71 rfl ?_
            refine gE_X12_310 rfl dX12_clause_72 sh_98 ev3.symm ?_
            refine g_iload_n dX12_clause_75 rfl (fun _ => ?_)
            refine g_iastB dX12_clause_76 sh_121 (by omega) (by omega) (fun h150 eh150 => ?_)
            have hFh150 := Fr.ar eh150
            have hMh150 := u_121 hM eh150 (by omega) (by omega)
            refine g_aload_n dX12_clause_77 rfl ?_
            have fY1 : ∀ j, h150 122 j = h 122 j := fun j => (hFh150 122 j rfl)
            refine gR_X12_85 rfl dX12_clause_78 sh_98 (b := 122) (m_98_31 hMh150) ?_
            refine g_aload_n dX12_clause_81 rfl ?_
            refine gE_X12_310 rfl dX12_clause_82 sh_98 ((hFh150 98 39 rfl).trans ev3.symm) ?_
            refine g_aload_n dX12_clause_85 rfl ?_
            refine gE_X12_224 rfl dX12_clause_86 sh_98 ((hFh150 98 40 rfl).trans ev4.symm) ?_
            refine g_iastB dX12_clause_89 sh_122 (by omega) (by omega) (fun h151 eh151 => ?_)
            have hFh151 := Fr.ar eh151
            have hMh151 := u_122 hMh150 eh151 (by omega) (by omega)
            refine g_aload_n dX12_clause_90 rfl ?_
            refine g_dup dX12_clause_91 rfl ?_
            refine gE_X12_211 rfl dX12_clause_92 sh_98 ((hFh151 98 36 rfl).trans ((hFh150 98 36 rfl).trans ev1.symm)) ?_
            have a92 : 0 ≤ v1 ∧ v1 ≤ 199 := (by omega)
            refine g_iconst dX12_clause_95 (inR_c rfl) ?_
            refine g_iaddB dX12_clause_96 (by omega) (by omega) ?_
            refine pI_X12_211 rfl dX12_clause_97 sh_98 (fun h152 eh152 => ?_)
            have hFh152 := Fr.st eh152
            have hMh152 := u_98_36 hMh151 eh152 (by omega) (by omega)
            refine g_aload_n dX12_clause_100 rfl ?_
            refine g_iconst dX12_clause_101 (inR_c rfl) ?_
            refine pI_X12_227 rfl dX12_clause_102 sh_98 (fun h153 eh153 => ?_)
            have hFh153 := Fr.st eh153
            have hMh153 := u_98_42 hMh152 eh153 (by omega) (by omega)
            refine g_aload_n dX12_clause_105 rfl ?_
            refine g_iconst dX12_clause_106 (inR_c rfl) ?_
            refine pI_X12_230 rfl dX12_clause_107 sh_98 (fun h154 eh154 => ?_)
            have hFh154 := Fr.st eh154
            have hMh154 := u_98_41 hMh153 eh154 (by omega) (by omega)
            have eC0 : h154 98 40 = h 98 40 := ((hFh154 98 40 rfl).trans ((hFh153 98 40 rfl).trans ((hFh152 98 40 rfl).trans ((hFh151 98 40 rfl).trans (hFh150 98 40 rfl)))))
            have fN0 : ∀ j, h154 125 j = h 125 j := fun j => ((hFh154 125 j rfl).trans ((hFh153 125 j rfl).trans ((hFh152 125 j rfl).trans ((hFh151 125 j rfl).trans (hFh150 125 j rfl)))))
            have q155 : h154 98 36 = (v1 + 1) := ((hFh154 98 36 rfl).trans ((hFh153 98 36 rfl).trans (st_at eh152)))
            have q156 : h154 98 37 = v2 := ((hFh154 98 37 rfl).trans ((hFh153 98 37 rfl).trans ((hFh152 98 37 rfl).trans ((hFh151 98 37 rfl).trans ((hFh150 98 37 rfl).trans ev2.symm)))))
            have q157 : h154 98 42 = 0 := ((hFh154 98 42 rfl).trans (st_at eh153))
            have q158 : h154 98 40 = v4 := ((hFh154 98 40 rfl).trans ((hFh153 98 40 rfl).trans ((hFh152 98 40 rfl).trans ((hFh151 98 40 rfl).trans ((hFh150 98 40 rfl).trans ev4.symm)))))
            refine g_aload_n dX12_clause_110 rfl ?_
            have Ev0 : EVo (h154 98 40) (h154 125) 0 (h154 127) 0 h154 := E_start (by omega) (by omega) (by omega) (by omega)
            have q159 : h154 98 38 = w98_38 := ((hFh154 98 38 rfl).trans ((hFh153 98 38 rfl).trans ((hFh152 98 38 rfl).trans ((hFh151 98 38 rfl).trans ((hFh150 98 38 rfl).trans ew98_38.symm)))))
            refine g_cVV (as := []) (c_X12_value_98 _ _ _ _ h154 hMh154 (by omega) (by omega) Ev0) dX12_clause_111 mi_X12_value in_X12_value se_X12_value ml_X12_289 rfl rfl rfl sh_98 rfl rfl (Nat.le_of_ble_eq_true rfl) (fun h160 q161 => ?_)
            obtain ⟨hMh160, hFh160, zh160, yh160, wh160⟩ := q161
            have dz0 : DZo (h160 98 40) (h160 125) h160 := DZ_mid (by assumption)
            refine g_aload_n dX12_clause_114 rfl ?_
            have fY2 : ∀ j, h160 123 j = h 123 j := fun j => ((hFh160 123 j rfl).trans ((hFh154 123 j rfl).trans ((hFh153 123 j rfl).trans ((hFh152 123 j rfl).trans ((hFh151 123 j rfl).trans (hFh150 123 j rfl))))))
            obtain ⟨v162, ev162⟩ : ∃ z, z = h160 98 40 := ⟨_, rfl⟩
            have bv162 : 0 ≤ v162 ∧ v162 ≤ 200 := by rw [ev162]; exact (m_98_40 hMh160)
            refine gR_X12_88 rfl dX12_clause_115 sh_98 (b := 123) (m_98_32 hMh160) ?_
            refine g_aload_n dX12_clause_118 rfl ?_
            refine gE_X12_310 rfl dX12_clause_119 sh_98 ((hFh160 98 39 rfl).trans ((hFh154 98 39 rfl).trans ((hFh153 98 39 rfl).trans ((hFh152 98 39 rfl).trans ((hFh151 98 39 rfl).trans ((hFh150 98 39 rfl).trans ev3.symm)))))) ?_
            refine g_aload_n dX12_clause_122 rfl ?_
            refine gE_X12_224 rfl dX12_clause_123 sh_98 ev162.symm ?_
            refine g_iastB dX12_clause_126 sh_123 (by omega) (by omega) (fun h163 eh163 => ?_)
            have hFh163 := Fr.ar eh163
            have hMh163 := u_123 hMh160 eh163 (by omega) (by omega)
            refine g_aload_n dX12_clause_127 rfl ?_
            refine g_cVP (as := []) (c_X12_isGood_98  h163 hMh163) dX12_clause_128 mi_X12_isGood in_X12_isGood se_X12_isGood ml_X12_220 rfl rfl rfl sh_98 rfl rfl (Nat.le_of_ble_eq_true rfl) (fun v164 q165 => ?_)
            have q166 : h163 98 38 = h160 98 38 := (hFh163 98 38 rfl)
            obtain ⟨v167, ev167⟩ : ∃ z, z = h163 98 38 := ⟨_, rfl⟩
            have bv167 : -6000 ≤ v167 ∧ v167 ≤ 0 := by rw [ev167]; exact (m_98_38 hMh163)
            rcases q165 with ⟨rfl, q165⟩ | ⟨rfl, q165⟩
            · skip
              refine g_if_eq 138 dX12_clause_131 (by decide) (fun _ => by exfalso; omega) (fun q168 => ?_)
              refine g_aload_n dX12_clause_134 rfl ?_
              have q169 : h163 98 38 = v167 := ev167.symm
              refine g_cVV (as := []) (c_X12_condition_98 _ _ h163 hMh163 (by omega) (by omega) (DZo.fr (T := [(123, 0)]) dz0 (Fr.sub hFh163 rfl) rfl)) dX12_clause_135 mi_X12_condition in_X12_condition se_X12_condition ml_X12_313 rfl rfl rfl sh_98 rfl rfl (Nat.le_of_ble_eq_true rfl) (fun h170 q171 => ?_)
              obtain ⟨hMh170, hFh170, zh170, yh170, wh170⟩ := q171
              refine g_aload_n dX12_clause_138 rfl ?_
              have fY3 : ∀ j, h170 124 j = h 124 j := fun j => ((hFh170 124 j rfl).trans ((hFh163 124 j rfl).trans ((hFh160 124 j rfl).trans ((hFh154 124 j rfl).trans ((hFh153 124 j rfl).trans ((hFh152 124 j rfl).trans ((hFh151 124 j rfl).trans (hFh150 124 j rfl))))))))
              obtain ⟨v172, ev172⟩ : ∃ z, z = h170 98 40 := ⟨_, rfl⟩
              have bv172 : 0 ≤ v172 ∧ v172 ≤ 200 := by rw [ev172]; exact (m_98_40 hMh170)
              refine gR_X12_91 rfl dX12_clause_139 sh_98 (b := 124) (m_98_33 hMh170) ?_
              refine g_aload_n dX12_clause_142 rfl ?_
              refine gE_X12_310 rfl dX12_clause_143 sh_98 ((hFh170 98 39 rfl).trans ((hFh163 98 39 rfl).trans ((hFh160 98 39 rfl).trans ((hFh154 98 39 rfl).trans ((hFh153 98 39 rfl).trans ((hFh152 98 39 rfl).trans ((hFh151 98 39 rfl).trans ((hFh150 98 39 rfl).trans ev3.symm)))))))) ?_
              refine g_aload_n dX12_clause_146 rfl ?_
              refine gE_X12_224 rfl dX12_clause_147 sh_98 ev172.symm ?_
              refine g_iastB dX12_clause_150 sh_124 (by omega) (by omega) (fun h173 eh173 => ?_)
              have hFh173 := Fr.ar eh173
              have hMh173 := u_124 hMh170 eh173 (by omega) (by omega)
              refine g_aload_n dX12_clause_151 rfl ?_
              refine g_dup dX12_clause_152 rfl ?_
              refine gE_X12_310 rfl dX12_clause_153 sh_98 ((hFh173 98 39 rfl).trans ((hFh170 98 39 rfl).trans ((hFh163 98 39 rfl).trans ((hFh160 98 39 rfl).trans ((hFh154 98 39 rfl).trans ((hFh153 98 39 rfl).trans ((hFh152 98 39 rfl).trans ((hFh151 98 39 rfl).trans ((hFh150 98 39 rfl).trans ev3.symm))))))))) ?_
              refine g_iconst dX12_clause_156 (inR_c rfl) ?_
              refine g_iaddB dX12_clause_157 (by omega) (by omega) ?_
              refine pI_X12_310 rfl dX12_clause_158 sh_98 (fun h174 eh174 => ?_)
              have hFh174 := Fr.st eh174
              have hMh174 := u_98_39 hMh173 eh174 (by omega) (by omega)
              have q175 : h174 98 36 = h170 98 36 := ((hFh174 98 36 rfl).trans (hFh173 98 36 rfl))
              obtain ⟨v176, ev176⟩ : ∃ z, z = h174 98 36 := ⟨_, rfl⟩
              have bv176 : 0 ≤ v176 ∧ v176 ≤ 200 := by rw [ev176]; exact (m_98_36 hMh174)
              have q177 : h174 98 37 = v2 := ((hFh174 98 37 rfl).trans ((hFh173 98 37 rfl).trans ((hFh170 98 37 rfl).trans ((hFh163 98 37 rfl).trans ((hFh160 98 37 rfl).trans ((hFh154 98 37 rfl).trans ((hFh153 98 37 rfl).trans ((hFh152 98 37 rfl).trans ((hFh151 98 37 rfl).trans ((hFh150 98 37 rfl).trans ev2.symm))))))))))
              have q178 : h174 98 38 = h170 98 38 := ((hFh174 98 38 rfl).trans (hFh173 98 38 rfl))
              obtain ⟨v179, ev179⟩ : ∃ z, z = h174 98 38 := ⟨_, rfl⟩
              have bv179 : -6000 ≤ v179 ∧ v179 ≤ 0 := by rw [ev179]; exact (m_98_38 hMh174)
              have q180 : h174 98 40 = v172 := ((hFh174 98 40 rfl).trans ((hFh173 98 40 rfl).trans ev172.symm))
              have q181 : h174 98 39 = (v3 + 1) := (st_at eh174)
              have fX1 : ∀ j, h174 122 j = h151 122 j := fun j => ((hFh174 122 j rfl).trans ((hFh173 122 j rfl).trans ((hFh170 122 j rfl).trans ((hFh163 122 j rfl).trans ((hFh160 122 j rfl).trans ((hFh154 122 j rfl).trans ((hFh153 122 j rfl).trans (hFh152 122 j rfl))))))))
              have fX2 : ∀ j, h174 123 j = h163 123 j := fun j => ((hFh174 123 j rfl).trans ((hFh173 123 j rfl).trans (hFh170 123 j rfl)))
              have fX3 : ∀ j, h174 124 j = h173 124 j := fun j => (hFh174 124 j rfl)
              have bD : h174 98 38 = h170 98 38 := ((hFh174 98 38 rfl).trans (hFh173 98 38 rfl))
              have cD : h174 98 40 = h170 98 40 := ((hFh174 98 40 rfl).trans (hFh173 98 40 rfl))
              have nD : ∀ j, h174 125 j = h170 125 j := fun j => ((hFh174 125 j rfl).trans (hFh173 125 j rfl))
              have nw2 : NWo h174 := (by first | exact Or.inl (by omega) | exact NW_end nw eC0 fN0 (by assumption) (by omega) (by assumption) bD cD nD (by omega) (by omega) (by omega) (up_at (by assumption) fY1 fX1) (by omega) (by omega) (up_at (by assumption) fY2 fX2) (by omega) (up_at (by assumption) fY3 fX3) (by omega))
              exact g_return dX12_clause_161 rfl (hPo _ ⟨hMh174, (Fr.tr (Fr.tr (Fr.tr (Fr.tr (Fr.tr (Fr.tr (Fr.tr (Fr.tr (Fr.tr (Fr.sub hFh150 rfl) hFh151 rfl) hFh152 rfl) hFh153 rfl) hFh154 rfl) hFh160 rfl) hFh163 rfl) hFh170 rfl) hFh173 rfl) hFh174 rfl), nw2, (by omega), (by omega), (by omega)⟩)
            · skip
              refine g_if_eq 138 dX12_clause_131 (by decide) (fun q182 => ?_) (fun _ => by exfalso; omega)
              refine g_aload_n dX12_clause_138 rfl ?_
              have fY3 : ∀ j, h163 124 j = h 124 j := fun j => ((hFh163 124 j rfl).trans ((hFh160 124 j rfl).trans ((hFh154 124 j rfl).trans ((hFh153 124 j rfl).trans ((hFh152 124 j rfl).trans ((hFh151 124 j rfl).trans (hFh150 124 j rfl)))))))
              have q183 : h163 98 40 = v162 := ((hFh163 98 40 rfl).trans ev162.symm)
              refine gR_X12_91 rfl dX12_clause_139 sh_98 (b := 124) (m_98_33 hMh163) ?_
              refine g_aload_n dX12_clause_142 rfl ?_
              refine gE_X12_310 rfl dX12_clause_143 sh_98 ((hFh163 98 39 rfl).trans ((hFh160 98 39 rfl).trans ((hFh154 98 39 rfl).trans ((hFh153 98 39 rfl).trans ((hFh152 98 39 rfl).trans ((hFh151 98 39 rfl).trans ((hFh150 98 39 rfl).trans ev3.symm))))))) ?_
              refine g_aload_n dX12_clause_146 rfl ?_
              refine gE_X12_224 rfl dX12_clause_147 sh_98 ((hFh163 98 40 rfl).trans ev162.symm) ?_
              refine g_iastB dX12_clause_150 sh_124 (by omega) (by omega) (fun h184 eh184 => ?_)
              have hFh184 := Fr.ar eh184
              have hMh184 := u_124 hMh163 eh184 (by omega) (by omega)
              refine g_aload_n dX12_clause_151 rfl ?_
              refine g_dup dX12_clause_152 rfl ?_
              refine gE_X12_310 rfl dX12_clause_153 sh_98 ((hFh184 98 39 rfl).trans ((hFh163 98 39 rfl).trans ((hFh160 98 39 rfl).trans ((hFh154 98 39 rfl).trans ((hFh153 98 39 rfl).trans ((hFh152 98 39 rfl).trans ((hFh151 98 39 rfl).trans ((hFh150 98 39 rfl).trans ev3.symm)))))))) ?_
              refine g_iconst dX12_clause_156 (inR_c rfl) ?_
              refine g_iaddB dX12_clause_157 (by omega) (by omega) ?_
              refine pI_X12_310 rfl dX12_clause_158 sh_98 (fun h185 eh185 => ?_)
              have hFh185 := Fr.st eh185
              have hMh185 := u_98_39 hMh184 eh185 (by omega) (by omega)
              have q186 : h185 98 36 = h160 98 36 := ((hFh185 98 36 rfl).trans ((hFh184 98 36 rfl).trans (hFh163 98 36 rfl)))
              obtain ⟨v187, ev187⟩ : ∃ z, z = h185 98 36 := ⟨_, rfl⟩
              have bv187 : 0 ≤ v187 ∧ v187 ≤ 200 := by rw [ev187]; exact (m_98_36 hMh185)
              have q188 : h185 98 37 = v2 := ((hFh185 98 37 rfl).trans ((hFh184 98 37 rfl).trans ((hFh163 98 37 rfl).trans ((hFh160 98 37 rfl).trans ((hFh154 98 37 rfl).trans ((hFh153 98 37 rfl).trans ((hFh152 98 37 rfl).trans ((hFh151 98 37 rfl).trans ((hFh150 98 37 rfl).trans ev2.symm)))))))))
              have q189 : h185 98 38 = v167 := ((hFh185 98 38 rfl).trans ((hFh184 98 38 rfl).trans ev167.symm))
              have q190 : h185 98 40 = v162 := ((hFh185 98 40 rfl).trans ((hFh184 98 40 rfl).trans ((hFh163 98 40 rfl).trans ev162.symm)))
              have q191 : h185 98 39 = (v3 + 1) := (st_at eh185)
              have fX1 : ∀ j, h185 122 j = h151 122 j := fun j => ((hFh185 122 j rfl).trans ((hFh184 122 j rfl).trans ((hFh163 122 j rfl).trans ((hFh160 122 j rfl).trans ((hFh154 122 j rfl).trans ((hFh153 122 j rfl).trans (hFh152 122 j rfl)))))))
              have fX2 : ∀ j, h185 123 j = h163 123 j := fun j => ((hFh185 123 j rfl).trans (hFh184 123 j rfl))
              have fX3 : ∀ j, h185 124 j = h184 124 j := fun j => (hFh185 124 j rfl)
              have nw2 : NWo h185 := (by first | exact Or.inl (by omega) | exact NW_end nw eC0 fN0 (by assumption) (by omega) (by assumption) bD cD nD (by omega) (by omega) (by omega) (up_at (by assumption) fY1 fX1) (by omega) (by omega) (up_at (by assumption) fY2 fX2) (by omega) (up_at (by assumption) fY3 fX3) (by omega))
              exact g_return dX12_clause_161 rfl (hPo _ ⟨hMh185, (Fr.tr (Fr.tr (Fr.tr (Fr.tr (Fr.tr (Fr.tr (Fr.tr (Fr.tr (Fr.sub hFh150 rfl) hFh151 rfl) hFh152 rfl) hFh153 rfl) hFh154 rfl) hFh160 rfl) hFh163 rfl) hFh184 rfl) hFh185 rfl), nw2, (by omega), (by omega), (by omega)⟩)
          · skip
            exfalso; omega
        · skip
          refine g_aload_n dX12_clause_50 rfl ?_
          refine g_iconst dX12_clause_51 (inR_c rfl) ?_
          refine g_aload_n dX12_clause_52 rfl ?_
          refine gE_X12_211 rfl dX12_clause_53 sh_98 ev1.symm ?_
          refine g_cVV (as := [_, _]) (c_X12_wrongs_98 _ _ h hM (by omega) (by omega) (by omega) (by omega)) dX12_clause_56 mi_X12_wrongs in_X12_wrongs se_X12_wrongs ml_X12_233 rfl rfl rfl sh_98 rfl rfl (Nat.le_of_ble_eq_true rfl) (fun h192 q193 => ?_)
          obtain ⟨hMh192, hFh192, az194, bz194⟩ := q193
          obtain ⟨v195, ev195⟩ : ∃ z, z = h192 98 38 := ⟨_, rfl⟩
          have bv195 : -6000 ≤ v195 ∧ v195 ≤ -1 := by rw [ev195]; exact ⟨az194, bz194⟩
          refine g_aload_n dX12_clause_59 rfl ?_
          refine g_cVP (as := []) (c_X12_isGood_98  h192 hMh192) dX12_clause_60 mi_X12_isGood in_X12_isGood se_X12_isGood ml_X12_220 rfl rfl rfl sh_98 rfl rfl (Nat.le_of_ble_eq_true rfl) (fun v196 q197 => ?_)
          have q198 : h192 98 38 = v195 := ev195.symm
          rcases q197 with ⟨rfl, q197⟩ | ⟨rfl, q197⟩
          · skip
            exfalso; omega
          · skip
            refine g_if_ne 67 dX12_clause_63 (by decide) (fun _ => by exfalso; omega) (fun q199 => ?_)
            have q200 : h192 98 36 = v1 := ((hFh192 98 36 rfl).trans ev1.symm)
            have q201 : h192 98 37 = v2 := ((hFh192 98 37 rfl).trans ev2.symm)
            have q202 : h192 98 38 = v195 := ev195.symm
            have q203 : h192 98 40 = v4 := ((hFh192 98 40 rfl).trans ev4.symm)
            have q204 : h192 98 39 = v3 := ((hFh192 98 39 rfl).trans ev3.symm)
            have nw2 : NWo h192 := (by first | exact Or.inl (by omega) | exact NW_end nw eC0 fN0 (by assumption) (by omega) (by assumption) bD cD nD (by omega) (by omega) (by omega) (up_at (by assumption) fY1 fX1) (by omega) (by omega) (up_at (by assumption) fY2 fX2) (by omega) (up_at (by assumption) fY3 fX3) (by omega))
            exact g_return dX12_clause_66 rfl (hPo _ ⟨hMh192, (Fr.sub hFh192 rfl), nw2, (by omega), (by omega), (by omega)⟩)
      · skip
        refine g_iload_n dX12_clause_23 rfl (fun _ => ?_)
        refine g_bipush dX12_clause_24 (inR_c rfl) (by decide) ?_
        refine g_icmp_eq 41 dX12_clause_26 (by decide) (fun q205 => ?_) (fun q205 => ?_)
        · skip
          refine g_aload_n dX12_clause_41 rfl ?_
          refine gE_X12_310 rfl dX12_clause_42 sh_98 ev3.symm ?_
          refine g_bipush dX12_clause_45 (inR_c rfl) (by decide) ?_
          refine g_icmp_ne 59 dX12_clause_47 (by decide) (fun q206 => ?_) (fun q206 => ?_)
          · skip
            refine g_aload_n dX12_clause_59 rfl ?_
            refine g_cVP (as := []) (c_X12_isGood_98  h hM) dX12_clause_60 mi_X12_isGood in_X12_isGood se_X12_isGood ml_X12_220 rfl rfl rfl sh_98 rfl rfl (Nat.le_of_ble_eq_true rfl) (fun v207 q208 => ?_)
            have q209 : h 98 38 = w98_38 := ew98_38.symm
            rcases q208 with ⟨rfl, q208⟩ | ⟨rfl, q208⟩
            · skip
              refine g_if_ne 67 dX12_clause_63 (by decide) (fun q210 => ?_) (fun _ => by exfalso; omega)
              refine g_aload_n dX12_clause_67 rfl ?_
              have q211 : h 98 38 = w98_38 := ew98_38.symm
              have q212 : h 98 40 = v4 := ev4.symm
              have q213 : h 98 36 = v1 := ev1.symm
              have q214 : h 98 37 = v2 := ev2.symm
              have q215 : h 98 39 = v3 := ev3.symm
              have nw := f_NW.resolve_left (by omega)
              have nl := nw.lin
              refine gR_X12_82 rfl dX12_clause_68 sh_98 (b := 121) (m_98_30 hM) ?_
              refine g_aload_n dX12_clause_71 rfl ?_
              refine gE_X12_310 rfl dX12_clause_72 sh_98 ev3.symm ?_
              refine g_iload_n dX12_clause_75 rfl (fun _ => ?_)
              refine g_iastB dX12_clause_76 sh_121 (by omega) (by omega) (fun h216 eh216 => ?_)
              have hFh216 := Fr.ar eh216
              have hMh216 := u_121 hM eh216 (by omega) (by omega)
              refine g_aload_n dX12_clause_77 rfl ?_
              have fY1 : ∀ j, h216 122 j = h 122 j := fun j => (hFh216 122 j rfl)
              refine gR_X12_85 rfl dX12_clause_78 sh_98 (b := 122) (m_98_31 hMh216) ?_
              refine g_aload_n dX12_clause_81 rfl ?_
              refine gE_X12_310 rfl dX12_clause_82 sh_98 ((hFh216 98 39 rfl).trans ev3.symm) ?_
              refine g_aload_n dX12_clause_85 rfl ?_
              refine gE_X12_224 rfl dX12_clause_86 sh_98 ((hFh216 98 40 rfl).trans ev4.symm) ?_
              refine g_iastB dX12_clause_89 sh_122 (by omega) (by omega) (fun h217 eh217 => ?_)
              have hFh217 := Fr.ar eh217
              have hMh217 := u_122 hMh216 eh217 (by omega) (by omega)
              refine g_aload_n dX12_clause_90 rfl ?_
              refine g_dup dX12_clause_91 rfl ?_
              refine gE_X12_211 rfl dX12_clause_92 sh_98 ((hFh217 98 36 rfl).trans ((hFh216 98 36 rfl).trans ev1.symm)) ?_
              have a92 : 0 ≤ v1 ∧ v1 ≤ 199 := (by omega)
              refine g_iconst dX12_clause_95 (inR_c rfl) ?_
              refine g_iaddB dX12_clause_96 (by omega) (by omega) ?_
              refine pI_X12_211 rfl dX12_clause_97 sh_98 (fun h218 eh218 => ?_)
              have hFh218 := Fr.st eh218
              have hMh218 := u_98_36 hMh217 eh218 (by omega) (by omega)
              refine g_aload_n dX12_clause_100 rfl ?_
              refine g_iconst dX12_clause_101 (inR_c rfl) ?_
              refine pI_X12_227 rfl dX12_clause_102 sh_98 (fun h219 eh219 => ?_)
              have hFh219 := Fr.st eh219
              have hMh219 := u_98_42 hMh218 eh219 (by omega) (by omega)
              refine g_aload_n dX12_clause_105 rfl ?_
              refine g_iconst dX12_clause_106 (inR_c rfl) ?_
              refine pI_X12_230 rfl dX12_clause_107 sh_98 (fun h220 eh220 => ?_)
              have hFh220 := Fr.st eh220
              have hMh220 := u_98_41 hMh219 eh220 (by omega) (by omega)
              have eC0 : h220 98 40 = h 98 40 := ((hFh220 98 40 rfl).trans ((hFh219 98 40 rfl).trans ((hFh218 98 40 rfl).trans ((hFh217 98 40 rfl).trans (hFh216 98 40 rfl)))))
              have fN0 : ∀ j, h220 125 j = h 125 j := fun j => ((hFh220 125 j rfl).trans ((hFh219 125 j rfl).trans ((hFh218 125 j rfl).trans ((hFh217 125 j rfl).trans (hFh216 125 j rfl)))))
              have q221 : h220 98 36 = (v1 + 1) := ((hFh220 98 36 rfl).trans ((hFh219 98 36 rfl).trans (st_at eh218)))
              have q222 : h220 98 37 = v2 := ((hFh220 98 37 rfl).trans ((hFh219 98 37 rfl).trans ((hFh218 98 37 rfl).trans ((hFh217 98 37 rfl).trans ((hFh216 98 37 rfl).trans ev2.symm)))))
              have q223 : h220 98 42 = 0 := ((hFh220 98 42 rfl).trans (st_at eh219))
              have q224 : h220 98 40 = v4 := ((hFh220 98 40 rfl).trans ((hFh219 98 40 rfl).trans ((hFh218 98 40 rfl).trans ((hFh217 98 40 rfl).trans ((hFh216 98 40 rfl).trans ev4.symm)))))
              refine g_aload_n dX12_clause_110 rfl ?_
              have Ev0 : EVo (h220 98 40) (h220 125) 0 (h220 127) 0 h220 := E_start (by omega) (by omega) (by omega) (by omega)
              have q225 : h220 98 38 = w98_38 := ((hFh220 98 38 rfl).trans ((hFh219 98 38 rfl).trans ((hFh218 98 38 rfl).trans ((hFh217 98 38 rfl).trans ((hFh216 98 38 rfl).trans ew98_38.symm)))))
              refine g_cVV (as := []) (c_X12_value_98 _ _ _ _ h220 hMh220 (by omega) (by omega) Ev0) dX12_clause_111 mi_X12_value in_X12_value se_X12_value ml_X12_289 rfl rfl rfl sh_98 rfl rfl (Nat.le_of_ble_eq_true rfl) (fun h226 q227 => ?_)
              obtain ⟨hMh226, hFh226, zh226, yh226, wh226⟩ := q227
              have dz0 : DZo (h226 98 40) (h226 125) h226 := DZ_mid (by assumption)
              refine g_aload_n dX12_clause_114 rfl ?_
              have fY2 : ∀ j, h226 123 j = h 123 j := fun j => ((hFh226 123 j rfl).trans ((hFh220 123 j rfl).trans ((hFh219 123 j rfl).trans ((hFh218 123 j rfl).trans ((hFh217 123 j rfl).trans (hFh216 123 j rfl))))))
              obtain ⟨v228, ev228⟩ : ∃ z, z = h226 98 40 := ⟨_, rfl⟩
              have bv228 : 0 ≤ v228 ∧ v228 ≤ 200 := by rw [ev228]; exact (m_98_40 hMh226)
              refine gR_X12_88 rfl dX12_clause_115 sh_98 (b := 123) (m_98_32 hMh226) ?_
              refine g_aload_n dX12_clause_118 rfl ?_
              refine gE_X12_310 rfl dX12_clause_119 sh_98 ((hFh226 98 39 rfl).trans ((hFh220 98 39 rfl).trans ((hFh219 98 39 rfl).trans ((hFh218 98 39 rfl).trans ((hFh217 98 39 rfl).trans ((hFh216 98 39 rfl).trans ev3.symm)))))) ?_
              refine g_aload_n dX12_clause_122 rfl ?_
              refine gE_X12_224 rfl dX12_clause_123 sh_98 ev228.symm ?_
              refine g_iastB dX12_clause_126 sh_123 (by omega) (by omega) (fun h229 eh229 => ?_)
              have hFh229 := Fr.ar eh229
              have hMh229 := u_123 hMh226 eh229 (by omega) (by omega)
              refine g_aload_n dX12_clause_127 rfl ?_
              refine g_cVP (as := []) (c_X12_isGood_98  h229 hMh229) dX12_clause_128 mi_X12_isGood in_X12_isGood se_X12_isGood ml_X12_220 rfl rfl rfl sh_98 rfl rfl (Nat.le_of_ble_eq_true rfl) (fun v230 q231 => ?_)
              have q232 : h229 98 38 = h226 98 38 := (hFh229 98 38 rfl)
              obtain ⟨v233, ev233⟩ : ∃ z, z = h229 98 38 := ⟨_, rfl⟩
              have bv233 : -6000 ≤ v233 ∧ v233 ≤ 0 := by rw [ev233]; exact (m_98_38 hMh229)
              rcases q231 with ⟨rfl, q231⟩ | ⟨rfl, q231⟩
              · skip
                refine g_if_eq 138 dX12_clause_131 (by decide) (fun _ => by exfalso; omega) (fun q234 => ?_)
                refine g_aload_n dX12_clause_134 rfl ?_
                have q235 : h229 98 38 = v233 := ev233.symm
                refine g_cVV (as := []) (c_X12_condition_98 _ _ h229 hMh229 (by omega) (by omega) (DZo.fr (T := [(123, 0)]) dz0 (Fr.sub hFh229 rfl) rfl)) dX12_clause_135 mi_X12_condition in_X12_condition se_X12_condition ml_X12_313 rfl rfl rfl sh_98 rfl rfl (Nat.le_of_ble_eq_true rfl) (fun h236 q237 => ?_)
                obtain ⟨hMh236, hFh236, zh236, yh236, wh236⟩ := q237
                refine g_aload_n dX12_clause_138 rfl ?_
                have fY3 : ∀ j, h236 124 j = h 124 j := fun j => ((hFh236 124 j rfl).trans ((hFh229 124 j rfl).trans ((hFh226 124 j rfl).trans ((hFh220 124 j rfl).trans ((hFh219 124 j rfl).trans ((hFh218 124 j rfl).trans ((hFh217 124 j rfl).trans (hFh216 124 j rfl))))))))
                obtain ⟨v238, ev238⟩ : ∃ z, z = h236 98 40 := ⟨_, rfl⟩
                have bv238 : 0 ≤ v238 ∧ v238 ≤ 200 := by rw [ev238]; exact (m_98_40 hMh236)
                refine gR_X12_91 rfl dX12_clause_139 sh_98 (b := 124) (m_98_33 hMh236) ?_
                refine g_aload_n dX12_clause_142 rfl ?_
                refine gE_X12_310 rfl dX12_clause_143 sh_98 ((hFh236 98 39 rfl).trans ((hFh229 98 39 rfl).trans ((hFh226 98 39 rfl).trans ((hFh220 98 39 rfl).trans ((hFh219 98 39 rfl).trans ((hFh218 98 39 rfl).trans ((hFh217 98 39 rfl).trans ((hFh216 98 39 rfl).trans ev3.symm)))))))) ?_
                refine g_aload_n dX12_clause_146 rfl ?_
                refine gE_X12_224 rfl dX12_clause_147 sh_98 ev238.symm ?_
                refine g_iastB dX12_clause_150 sh_124 (by omega) (by omega) (fun h239 eh239 => ?_)
                have hFh239 := Fr.ar eh239
                have hMh239 := u_124 hMh236 eh239 (by omega) (by omega)
                refine g_aload_n dX12_clause_151 rfl ?_
                refine g_dup dX12_clause_152 rfl ?_
                refine gE_X12_310 rfl dX12_clause_153 sh_98 ((hFh239 98 39 rfl).trans ((hFh236 98 39 rfl).trans ((hFh229 98 39 rfl).trans ((hFh226 98 39 rfl).trans ((hFh220 98 39 rfl).trans ((hFh219 98 39 rfl).trans ((hFh218 98 39 rfl).trans ((hFh217 98 39 rfl).trans ((hFh216 98 39 rfl).trans ev3.symm))))))))) ?_
                refine g_iconst dX12_clause_156 (inR_c rfl) ?_
                refine g_iaddB dX12_clause_157 (by omega) (by omega) ?_
                refine pI_X12_310 rfl dX12_clause_158 sh_98 (fun h240 eh240 => ?_)
                have hFh240 := Fr.st eh240
                have hMh240 := u_98_39 hMh239 eh240 (by omega) (by omega)
                have q241 : h240 98 36 = h236 98 36 := ((hFh240 98 36 rfl).trans (hFh239 98 36 rfl))
                obtain ⟨v242, ev242⟩ : ∃ z, z = h240 98 36 := ⟨_, rfl⟩
                have bv242 : 0 ≤ v242 ∧ v242 ≤ 200 := by rw [ev242]; exact (m_98_36 hMh240)
                have q243 : h240 98 37 = v2 := ((hFh240 98 37 rfl).trans ((hFh239 98 37 rfl).trans ((hFh236 98 37 rfl).trans ((hFh229 98 37 rfl).trans ((hFh226 98 37 rfl).trans ((hFh220 98 37 rfl).trans ((hFh219 98 37 rfl).trans ((hFh218 98 37 rfl).trans ((hFh217 98 37 rfl).trans ((hFh216 98 37 rfl).trans ev2.symm))))))))))
                have q244 : h240 98 38 = h236 98 38 := ((hFh240 98 38 rfl).trans (hFh239 98 38 rfl))
                obtain ⟨v245, ev245⟩ : ∃ z, z = h240 98 38 := ⟨_, rfl⟩
                have bv245 : -6000 ≤ v245 ∧ v245 ≤ 0 := by rw [ev245]; exact (m_98_38 hMh240)
                have q246 : h240 98 40 = v238 := ((hFh240 98 40 rfl).trans ((hFh239 98 40 rfl).trans ev238.symm))
                have q247 : h240 98 39 = (v3 + 1) := (st_at eh240)
                have fX1 : ∀ j, h240 122 j = h217 122 j := fun j => ((hFh240 122 j rfl).trans ((hFh239 122 j rfl).trans ((hFh236 122 j rfl).trans ((hFh229 122 j rfl).trans ((hFh226 122 j rfl).trans ((hFh220 122 j rfl).trans ((hFh219 122 j rfl).trans (hFh218 122 j rfl))))))))
                have fX2 : ∀ j, h240 123 j = h229 123 j := fun j => ((hFh240 123 j rfl).trans ((hFh239 123 j rfl).trans (hFh236 123 j rfl)))
                have fX3 : ∀ j, h240 124 j = h239 124 j := fun j => (hFh240 124 j rfl)
                have bD : h240 98 38 = h236 98 38 := ((hFh240 98 38 rfl).trans (hFh239 98 38 rfl))
                have cD : h240 98 40 = h236 98 40 := ((hFh240 98 40 rfl).trans (hFh239 98 40 rfl))
                have nD : ∀ j, h240 125 j = h236 125 j := fun j => ((hFh240 125 j rfl).trans (hFh239 125 j rfl))
                have nw2 : NWo h240 := (by first | exact Or.inl (by omega) | exact NW_end nw eC0 fN0 (by assumption) (by omega) (by assumption) bD cD nD (by omega) (by omega) (by omega) (up_at (by assumption) fY1 fX1) (by omega) (by omega) (up_at (by assumption) fY2 fX2) (by omega) (up_at (by assumption) fY3 fX3) (by omega))
                exact g_return dX12_clause_161 rfl (hPo _ ⟨hMh240, (Fr.tr (Fr.tr (Fr.tr (Fr.tr (Fr.tr (Fr.tr (Fr.tr (Fr.tr (Fr.tr (Fr.sub hFh216 rfl) hFh217 rfl) hFh218 rfl) hFh219 rfl) hFh220 rfl) hFh226 rfl) hFh229 rfl) hFh236 rfl) hFh239 rfl) hFh240 rfl), nw2, (by omega), (by omega), (by omega)⟩)
              · skip
                refine g_if_eq 138 dX12_clause_131 (by decide) (fun q248 => ?_) (fun _ => by exfalso; omega)
                refine g_aload_n dX12_clause_138 rfl ?_
                have fY3 : ∀ j, h229 124 j = h 124 j := fun j => ((hFh229 124 j rfl).trans ((hFh226 124 j rfl).trans ((hFh220 124 j rfl).trans ((hFh219 124 j rfl).trans ((hFh218 124 j rfl).trans ((hFh217 124 j rfl).trans (hFh216 124 j rfl)))))))
                have q249 : h229 98 40 = v228 := ((hFh229 98 40 rfl).trans ev228.symm)
                refine gR_X12_91 rfl dX12_clause_139 sh_98 (b := 124) (m_98_33 hMh229) ?_
                refine g_aload_n dX12_clause_142 rfl ?_
                refine gE_X12_310 rfl dX12_clause_143 sh_98 ((hFh229 98 39 rfl).trans ((hFh226 98 39 rfl).trans ((hFh220 98 39 rfl).trans ((hFh219 98 39 rfl).trans ((hFh218 98 39 rfl).trans ((hFh217 98 39 rfl).trans ((hFh216 98 39 rfl).trans ev3.symm))))))) ?_
                refine g_aload_n dX12_clause_146 rfl ?_
                refine gE_X12_224 rfl dX12_clause_147 sh_98 ((hFh229 98 40 rfl).trans ev228.symm) ?_
                refine g_iastB dX12_clause_150 sh_124 (by omega) (by omega) (fun h250 eh250 => ?_)
                have hFh250 := Fr.ar eh250
                have hMh250 := u_124 hMh229 eh250 (by omega) (by omega)
                refine g_aload_n dX12_clause_151 rfl ?_
                refine g_dup dX12_clause_152 rfl ?_
                refine gE_X12_310 rfl dX12_clause_153 sh_98 ((hFh250 98 39 rfl).trans ((hFh229 98 39 rfl).trans ((hFh226 98 39 rfl).trans ((hFh220 98 39 rfl).trans ((hFh219 98 39 rfl).trans ((hFh218 98 39 rfl).trans ((hFh217 98 39 rfl).trans ((hFh216 98 39 rfl).trans ev3.symm)))))))) ?_
                refine g_iconst dX12_clause_156 (inR_c rfl) ?_
                refine g_iaddB dX12_clause_157 (by omega) (by omega) ?_
                refine pI_X12_310 rfl dX12_clause_158 sh_98 (fun h251 eh251 => ?_)
                have hFh251 := Fr.st eh251
                have hMh251 := u_98_39 hMh250 eh251 (by omega) (by omega)
                have q252 : h251 98 36 = h226 98 36 := ((hFh251 98 36 rfl).trans ((hFh250 98 36 rfl).trans (hFh229 98 36 rfl)))
                obtain ⟨v253, ev253⟩ : ∃ z, z = h251 98 36 := ⟨_, rfl⟩
                have bv253 : 0 ≤ v253 ∧ v253 ≤ 200 := by rw [ev253]; exact (m_98_36 hMh251)
                have q254 : h251 98 37 = v2 := ((hFh251 98 37 rfl).trans ((hFh250 98 37 rfl).trans ((hFh229 98 37 rfl).trans ((hFh226 98 37 rfl).trans ((hFh220 98 37 rfl).trans ((hFh219 98 37 rfl).trans ((hFh218 98 37 rfl).trans ((hFh217 98 37 rfl).trans ((hFh216 98 37 rfl).trans ev2.symm)))))))))
                have q255 : h251 98 38 = v233 := ((hFh251 98 38 rfl).trans ((hFh250 98 38 rfl).trans ev233.symm))
                have q256 : h251 98 40 = v228 := ((hFh251 98 40 rfl).trans ((hFh250 98 40 rfl).trans ((hFh229 98 40 rfl).trans ev228.symm)))
                have q257 : h251 98 39 = (v3 + 1) := (st_at eh251)
                have fX1 : ∀ j, h251 122 j = h217 122 j := fun j => ((hFh251 122 j rfl).trans ((hFh250 122 j rfl).trans ((hFh229 122 j rfl).trans ((hFh226 122 j rfl).trans ((hFh220 122 j rfl).trans ((hFh219 122 j rfl).trans (hFh218 122 j rfl)))))))
                have fX2 : ∀ j, h251 123 j = h229 123 j := fun j => ((hFh251 123 j rfl).trans (hFh250 123 j rfl))
                have fX3 : ∀ j, h251 124 j = h250 124 j := fun j => (hFh251 124 j rfl)
                have nw2 : NWo h251 := (by first | exact Or.inl (by omega) | exact NW_end nw eC0 fN0 (by assumption) (by omega) (by assumption) bD cD nD (by omega) (by omega) (by omega) (up_at (by assumption) fY1 fX1) (by omega) (by omega) (up_at (by assumption) fY2 fX2) (by omega) (up_at (by assumption) fY3 fX3) (by omega))
                exact g_return dX12_clause_161 rfl (hPo _ ⟨hMh251, (Fr.tr (Fr.tr (Fr.tr (Fr.tr (Fr.tr (Fr.tr (Fr.tr (Fr.tr (Fr.sub hFh216 rfl) hFh217 rfl) hFh218 rfl) hFh219 rfl) hFh220 rfl) hFh226 rfl) hFh229 rfl) hFh250 rfl) hFh251 rfl), nw2, (by omega), (by omega), (by omega)⟩)
            · skip
              exfalso; omega
          · skip
            refine g_aload_n dX12_clause_50 rfl ?_
            refine g_iconst dX12_clause_51 (inR_c rfl) ?_
            refine g_aload_n dX12_clause_52 rfl ?_
            refine gE_X12_211 rfl dX12_clause_53 sh_98 ev1.symm ?_
            refine g_cVV (as := [_, _]) (c_X12_wrongs_98 _ _ h hM (by omega) (by omega) (by omega) (by omega)) dX12_clause_56 mi_X12_wrongs in_X12_wrongs se_X12_wrongs ml_X12_233 rfl rfl rfl sh_98 rfl rfl (Nat.le_of_ble_eq_true rfl) (fun h258 q259 => ?_)
            obtain ⟨hMh258, hFh258, az260, bz260⟩ := q259
            obtain ⟨v261, ev261⟩ : ∃ z, z = h258 98 38 := ⟨_, rfl⟩
            have bv261 : -6000 ≤ v261 ∧ v261 ≤ -1 := by rw [ev261]; exact ⟨az260, bz260⟩
            refine g_aload_n dX12_clause_59 rfl ?_
            refine g_cVP (as := []) (c_X12_isGood_98  h258 hMh258) dX12_clause_60 mi_X12_isGood in_X12_isGood se_X12_isGood ml_X12_220 rfl rfl rfl sh_98 rfl rfl (Nat.le_of_ble_eq_true rfl) (fun v262 q263 => ?_)
            have q264 : h258 98 38 = v261 := ev261.symm
            rcases q263 with ⟨rfl, q263⟩ | ⟨rfl, q263⟩
            · skip
              exfalso; omega
            · skip
              refine g_if_ne 67 dX12_clause_63 (by decide) (fun _ => by exfalso; omega) (fun q265 => ?_)
              have q266 : h258 98 36 = v1 := ((hFh258 98 36 rfl).trans ev1.symm)
              have q267 : h258 98 37 = v2 := ((hFh258 98 37 rfl).trans ev2.symm)
              have q268 : h258 98 38 = v261 := ev261.symm
              have q269 : h258 98 40 = v4 := ((hFh258 98 40 rfl).trans ev4.symm)
              have q270 : h258 98 39 = v3 := ((hFh258 98 39 rfl).trans ev3.symm)
              have nw2 : NWo h258 := (by first | exact Or.inl (by omega) | exact NW_end nw eC0 fN0 (by assumption) (by omega) (by assumption) bD cD nD (by omega) (by omega) (by omega) (up_at (by assumption) fY1 fX1) (by omega) (by omega) (up_at (by assumption) fY2 fX2) (by omega) (up_at (by assumption) fY3 fX3) (by omega))
              exact g_return dX12_clause_66 rfl (hPo _ ⟨hMh258, (Fr.sub hFh258 rfl), nw2, (by omega), (by omega), (by omega)⟩)
        · skip
          refine g_aload_n dX12_clause_29 rfl ?_
          refine g_iconst dX12_clause_30 (inR_c rfl) ?_
          refine g_aload_n dX12_clause_31 rfl ?_
          refine gE_X12_211 rfl dX12_clause_32 sh_98 ev1.symm ?_
          refine g_cVV (as := [_, _]) (c_X12_wrongs_98 _ _ h hM (by omega) (by omega) (by omega) (by omega)) dX12_clause_35 mi_X12_wrongs in_X12_wrongs se_X12_wrongs ml_X12_233 rfl rfl rfl sh_98 rfl rfl (Nat.le_of_ble_eq_true rfl) (fun h271 q272 => ?_)
          obtain ⟨hMh271, hFh271, az273, bz273⟩ := q272
          obtain ⟨v274, ev274⟩ : ∃ z, z = h271 98 38 := ⟨_, rfl⟩
          have bv274 : -6000 ≤ v274 ∧ v274 ≤ -1 := by rw [ev274]; exact ⟨az273, bz273⟩
          refine g_goto 59 dX12_clause_38 (by decide) ?_
          refine g_aload_n dX12_clause_59 rfl ?_
          refine g_cVP (as := []) (c_X12_isGood_98  h271 hMh271) dX12_clause_60 mi_X12_isGood in_X12_isGood se_X12_isGood ml_X12_220 rfl rfl rfl sh_98 rfl rfl (Nat.le_of_ble_eq_true rfl) (fun v275 q276 => ?_)
          have q277 : h271 98 38 = v274 := ev274.symm
          rcases q276 with ⟨rfl, q276⟩ | ⟨rfl, q276⟩
          · skip
            exfalso; omega
          · skip
            refine g_if_ne 67 dX12_clause_63 (by decide) (fun _ => by exfalso; omega) (fun q278 => ?_)
            have q279 : h271 98 36 = v1 := ((hFh271 98 36 rfl).trans ev1.symm)
            have q280 : h271 98 37 = v2 := ((hFh271 98 37 rfl).trans ev2.symm)
            have q281 : h271 98 38 = v274 := ev274.symm
            have q282 : h271 98 40 = v4 := ((hFh271 98 40 rfl).trans ev4.symm)
            have q283 : h271 98 39 = v3 := ((hFh271 98 39 rfl).trans ev3.symm)
            have nw2 : NWo h271 := (by first | exact Or.inl (by omega) | exact NW_end nw eC0 fN0 (by assumption) (by omega) (by assumption) bD cD nD (by omega) (by omega) (by omega) (up_at (by assumption) fY1 fX1) (by omega) (by omega) (up_at (by assumption) fY2 fX2) (by omega) (up_at (by assumption) fY3 fX3) (by omega))
            exact g_return dX12_clause_66 rfl (hPo _ ⟨hMh271, (Fr.sub hFh271 rfl), nw2, (by omega), (by omega), (by omega)⟩)
set_option maxRecDepth 100000 in
set_option maxHeartbeats 4000000 in
theorem c_X12_law_98 (x1 : Int) (h : MEM) (hM : MBm h) (bx1 : -2147483648 ≤ x1) (dx1 : x1 ≤ 2147483647) (f_WFL : WFL h) : CI yX12_law cX12_law 4 (some .int) 9 [pR 98, pI x1] h (fun x h' => MBm h' ∧ Fr [(98, 2), (98, 24), (98, 37), (98, 38), (98, 39), (98, 40), (98, 41), (98, 42), (98, 43), (98, 44), (98, 45), (115, 0), (116, 0), (117, 0), (118, 0), (119, 0), (120, 0), (121, 0), (122, 0), (123, 0), (124, 0), (125, 0), (126, 0), (127, 0)] h h' ∧ -6000 ≤ x ∧ x ≤ 14 ∧ WFL h') := by
  refine CI.of (L0 := [some (pR 98), some (pI x1), none, none]) rfl (Nat.le_of_ble_eq_true rfl) rfl (fun Po hPo hav => ?_)
  refine g_iload_n dX12_law_0 rfl (fun _ => ?_)
  refine g_i2l dX12_law_1 ?_
  refine g_lconst (v := 1) dX12_law_2 rfl ?_
  refine g_ldc2 (v := 200) dX12_law_3 kl_X12_316 (by decide) ?_
  refine g_cSP (av := [_, _, _]) (c_X12_lies _ _ _ h hM (by omega) (by omega) (by omega) (by omega) (by omega) (by omega)) dX12_law_6 mi_X12_lies st_X12_lies ml_X12_175 rfl rfl rfl rfl (Nat.le_of_ble_eq_true rfl) (fun v1 q2 => ?_)
  rcases q2 with ⟨rfl, q2⟩ | ⟨rfl, q2⟩
  · skip
    refine g_if_eq 20 dX12_law_9 (by decide) (fun _ => by exfalso; omega) (fun q3 => ?_)
    refine g_iload_n dX12_law_12 rfl (fun _ => ?_)
    refine g_aload_n dX12_law_13 rfl ?_
    refine gI_X12_204 rfl dX12_law_14 sh_98 (m_98_1 hM) (fun v4 ev4 bv4 cv4 => ?_)
    refine g_icmp_le 22 dX12_law_17 (by decide) (fun q5 => ?_) (fun q5 => ?_)
    · skip
      refine g_aload_n dX12_law_22 rfl ?_
      refine g_iconst dX12_law_23 (inR_c rfl) ?_
      refine pI_X12_204 rfl dX12_law_24 sh_98 (fun h6 eh6 => ?_)
      have hFh6 := Fr.st eh6
      have hMh6 := u_98_1 hM eh6 (by omega) (by omega)
      refine g_aload_n dX12_law_27 rfl ?_
      refine g_iconst dX12_law_28 (inR_c rfl) ?_
      refine pI_X12_211 rfl dX12_law_29 sh_98 (fun h7 eh7 => ?_)
      have hFh7 := Fr.st eh7
      have hMh7 := u_98_36 hMh6 eh7 (by omega) (by omega)
      refine g_aload_n dX12_law_32 rfl ?_
      refine g_iload_n dX12_law_33 rfl (fun _ => ?_)
      refine pI_X12_214 rfl dX12_law_34 sh_98 (fun h8 eh8 => ?_)
      have hFh8 := Fr.st eh8
      have hMh8 := u_98_37 hMh7 eh8 (by omega) (by omega)
      refine g_aload_n dX12_law_37 rfl ?_
      refine g_iconst dX12_law_38 (inR_c rfl) ?_
      refine pI_X12_217 rfl dX12_law_39 sh_98 (fun h9 eh9 => ?_)
      have hFh9 := Fr.st eh9
      have hMh9 := u_98_38 hMh8 eh9 (by omega) (by omega)
      refine g_aload_n dX12_law_42 rfl ?_
      refine g_iconst dX12_law_43 (inR_c rfl) ?_
      refine pI_X12_310 rfl dX12_law_44 sh_98 (fun h10 eh10 => ?_)
      have hFh10 := Fr.st eh10
      have hMh10 := u_98_39 hMh9 eh10 (by omega) (by omega)
      refine g_aload_n dX12_law_47 rfl ?_
      refine g_iconst dX12_law_48 (inR_c rfl) ?_
      refine pI_X12_224 rfl dX12_law_49 sh_98 (fun h11 eh11 => ?_)
      have hFh11 := Fr.st eh11
      have hMh11 := u_98_40 hMh10 eh11 (by omega) (by omega)
      have q12 : h11 98 39 = 0 := ((hFh11 98 39 rfl).trans (st_at eh10))
      have q13 : h11 98 40 = 0 := (st_at eh11)
      have q14 : h11 98 36 = 0 := ((hFh11 98 36 rfl).trans ((hFh10 98 36 rfl).trans ((hFh9 98 36 rfl).trans ((hFh8 98 36 rfl).trans (st_at eh7)))))
      have q15 : h11 98 37 = x1 := ((hFh11 98 37 rfl).trans ((hFh10 98 37 rfl).trans ((hFh9 98 37 rfl).trans (st_at eh8))))
      have nw0 : NWo h11 := Or.inr (NW_0 (by omega) (by omega) (by omega) (by omega))
      refine g_iconst dX12_law_52 (inR_c rfl) ?_
      have c54 : ∀ (n : Nat) (y16 : Int) (h17 : MEM), MBm h17 → Fr [(98, 37), (98, 39), (98, 40), (98, 41), (98, 42), (98, 43), (98, 44), (98, 45), (121, 0), (122, 0), (123, 0), (124, 0), (125, 0), (126, 0), (127, 0)] h11 h17 → 0 ≤ y16 → y16 ≤ 1 → NWo h17 → h17 98 36 ≤ 200 → -6000 ≤ h17 98 38 → h17 98 36 ≤ h17 98 37 → 10000 * (200 - h17 98 36) + (h17 98 38 + 6000) < (n : Int) → G yX12_law cX12_law 4 (some .int) none Po (9, 540, 0, 0) 54 [some (pR 98), none, some (pI y16), none] [] SH h17 0 0 := by
        intro n
        induction n with
        | zero =>
          intro y16 h17 hMh17 hFh17 by16 dy16 e54_0 e54_1 e54_2 e54_3 hn
          exfalso; omega
        | succ n ih54 =>
          intro y16 h17 hMh17 hFh17 by16 dy16 e54_0 e54_1 e54_2 e54_3 hn
          refine g_iload_n dX12_law_54 rfl (fun _ => ?_)
          refine g_if_eq 128 dX12_law_55 (by decide) (fun q18 => ?_) (fun q18 => ?_)
          · skip
            refine g_aload_n dX12_law_128 rfl ?_
            refine gI_X12_217 rfl dX12_law_129 sh_98 (m_98_38 hMh17) (fun v19 ev19 bv19 cv19 => ?_)
            refine g_if_ge 140 dX12_law_132 (by decide) (fun q20 => ?_) (fun q20 => ?_)
            · skip
              refine g_iconst dX12_law_140 (inR_c rfl) ?_
              have c142 : ∀ (n : Nat) (y21 : Int) (h22 : MEM), MBm h22 → Fr [(115, 0), (116, 0), (117, 0), (118, 0)] h17 h22 → 0 ≤ y21 → y21 ≤ 14 → CP1 y21 h22 → 14 - y21 < (n : Int) → G yX12_law cX12_law 4 (some .int) none Po (9, 540, 0, 0) 142 [some (pR 98), none, none, some (pI y21)] [] SH h22 0 0 := by
                intro n
                induction n with
                | zero =>
                  intro y21 h22 hMh22 hFh22 by21 dy21 e142_0 hn
                  exfalso; omega
                | succ n ih142 =>
                  intro y21 h22 hMh22 hFh22 by21 dy21 e142_0 hn
                  refine g_iload_n dX12_law_142 rfl (fun _ => ?_)
                  refine g_aload_n dX12_law_143 rfl ?_
                  refine gI_X12_310 rfl dX12_law_144 sh_98 (m_98_39 hMh22) (fun v23 ev23 bv23 cv23 => ?_)
                  refine g_icmp_ge 204 dX12_law_147 (by decide) (fun q24 => ?_) (fun q24 => ?_)
                  · skip
                    refine g_iconst dX12_law_204 (inR_c rfl) ?_
                    have q25 : h22 98 39 = v23 := ev23.symm
                    have cpa : CPA h22 := CPA_mk e142_0 (by omega)
                    have c206 : ∀ (n : Nat) (y26 : Int) (h27 : MEM), MBm h27 → Fr [(119, 0), (120, 0)] h22 h27 → 0 ≤ y26 → y26 ≤ 200 → CP2 y26 h27 → 200 - y26 < (n : Int) → G yX12_law cX12_law 4 (some .int) none Po (9, 540, 0, 0) 206 [some (pR 98), none, none, some (pI y26)] [] SH h27 0 0 := by
                      intro n
                      induction n with
                      | zero =>
                        intro y26 h27 hMh27 hFh27 by26 dy26 e206_0 hn
                        exfalso; omega
                      | succ n ih206 =>
                        intro y26 h27 hMh27 hFh27 by26 dy26 e206_0 hn
                        refine g_iload_n dX12_law_206 rfl (fun _ => ?_)
                        refine g_aload_n dX12_law_207 rfl ?_
                        refine gI_X12_224 rfl dX12_law_208 sh_98 (m_98_40 hMh27) (fun v28 ev28 bv28 cv28 => ?_)
                        refine g_icmp_ge 244 dX12_law_211 (by decide) (fun q29 => ?_) (fun q29 => ?_)
                        · skip
                          refine g_aload_n dX12_law_244 rfl ?_
                          have q30 : h27 98 40 = v28 := ev28.symm
                          have cpb : CPB h27 := CPB_mk e206_0 (by omega)
                          refine g_aload_n dX12_law_245 rfl ?_
                          refine gE_X12_310 rfl dX12_law_246 sh_98 ((hFh27 98 39 rfl).trans ev23.symm) ?_
                          refine pI_X12_321 rfl dX12_law_249 sh_98 (fun h31 eh31 => ?_)
                          have hFh31 := Fr.st eh31
                          have hMh31 := u_98_23 hMh27 eh31 (by omega) (by omega)
                          have q32 : h31 98 23 = v23 := (st_at eh31)
                          have q33 : h31 98 39 = v23 := ((hFh31 98 39 rfl).trans ((hFh27 98 39 rfl).trans ev23.symm))
                          have q34 : h31 98 38 = v19 := ((hFh31 98 38 rfl).trans ((hFh27 98 38 rfl).trans ((hFh22 98 38 rfl).trans ev19.symm)))
                          have wfl : WFL h31 := WFL_new (((NWo.fr (T := [(98, 24), (115, 0), (116, 0), (117, 0), (118, 0), (119, 0), (120, 0)]) e54_0 (Fr.tr (Fr.tr (Fr.sub hFh22 rfl) hFh27 rfl) hFh31 rfl) rfl)).resolve_left (by omega)) (CPA.fr (T := [(98, 24), (119, 0), (120, 0)]) cpa (Fr.tr (Fr.sub hFh27 rfl) hFh31 rfl) rfl) (CPB.fr (T := [(98, 24)]) cpb (Fr.sub hFh31 rfl) rfl) (by omega)
                          refine g_aload_n dX12_law_252 rfl ?_
                          refine gE_X12_321 rfl dX12_law_253 sh_98 (st_at eh31) ?_
                          exact g_ireturn dX12_law_256 retI (hPo _ _ ⟨hMh31, (Fr.tr (Fr.tr (Fr.tr (Fr.tr (Fr.tr (Fr.tr (Fr.tr (Fr.tr (Fr.tr (Fr.sub hFh6 rfl) hFh7 rfl) hFh8 rfl) hFh9 rfl) hFh10 rfl) hFh11 rfl) hFh17 rfl) hFh22 rfl) hFh27 rfl) hFh31 rfl), (by omega), (by omega), wfl⟩)
                        · skip
                          refine g_aload_n dX12_law_214 rfl ?_
                          refine gR_X12_76 rfl dX12_law_215 sh_98 (b := 119) (m_98_28 hMh27) ?_
                          refine g_iload_n dX12_law_218 rfl (fun _ => ?_)
                          refine g_aload_n dX12_law_219 rfl ?_
                          refine gR_X12_94 rfl dX12_law_220 sh_98 (b := 125) (m_98_34 hMh27) ?_
                          refine g_iload_n dX12_law_223 rfl (fun _ => ?_)
                          refine g_ialdB dX12_law_224 sh_125 (by omega) (by omega) (m_125 hMh27 _) (fun v35 ev35 bv35 cv35 => ?_)
                          refine g_iastB dX12_law_225 sh_119 (by omega) (by omega) (fun h36 eh36 => ?_)
                          have hFh36 := Fr.ar eh36
                          have hMh36 := u_119 hMh27 eh36 (by omega) (by omega)
                          refine g_aload_n dX12_law_226 rfl ?_
                          refine gR_X12_79 rfl dX12_law_227 sh_98 (b := 120) (m_98_29 hMh36) ?_
                          refine g_iload_n dX12_law_230 rfl (fun _ => ?_)
                          refine g_aload_n dX12_law_231 rfl ?_
                          refine gR_X12_97 rfl dX12_law_232 sh_98 (b := 126) (m_98_35 hMh36) ?_
                          refine g_iload_n dX12_law_235 rfl (fun _ => ?_)
                          refine g_ialdB dX12_law_236 sh_126 (by omega) (by omega) (m_126 hMh36 _) (fun v37 ev37 bv37 cv37 => ?_)
                          refine g_iastB dX12_law_237 sh_120 (by omega) (by omega) (fun h38 eh38 => ?_)
                          have hFh38 := Fr.ar eh38
                          have hMh38 := u_120 hMh36 eh38 (by omega) (by omega)
                          refine g_iincB dX12_law_238 rfl rfl (by omega) (by omega) ?_
                          refine g_goto 206 dX12_law_241 (by decide) ?_
                          exact ih206 _ _ hMh38 (Fr.tr (Fr.tr (Fr.sub hFh27 rfl) hFh36 rfl) hFh38 rfl) (by omega) (by omega) (by first | exact CP2_0 | exact CP2_s e206_0 (by omega) (by assumption) (by assumption) (by assumption)) (by omega)
                    refine g_istore_n dX12_law_205 (by decide) rfl ?_
                    exact c206 201 _ _ hMh22 Fr.rf (by omega) (by omega) (by first | exact CP2_0 | exact CP2_s e206_0 (by omega) (by assumption) (by assumption) (by assumption)) (by omega)
                  · skip
                    refine g_aload_n dX12_law_150 rfl ?_
                    refine gR_X12_64 rfl dX12_law_151 sh_98 (b := 115) (m_98_24 hMh22) ?_
                    refine g_iload_n dX12_law_154 rfl (fun _ => ?_)
                    refine g_aload_n dX12_law_155 rfl ?_
                    refine gR_X12_82 rfl dX12_law_156 sh_98 (b := 121) (m_98_30 hMh22) ?_
                    refine g_iload_n dX12_law_159 rfl (fun _ => ?_)
                    refine g_ialdB dX12_law_160 sh_121 (by omega) (by omega) (m_121 hMh22 _) (fun v39 ev39 bv39 cv39 => ?_)
                    refine g_iastB dX12_law_161 sh_115 (by omega) (by omega) (fun h40 eh40 => ?_)
                    have hFh40 := Fr.ar eh40
                    have hMh40 := u_115 hMh22 eh40 (by omega) (by omega)
                    refine g_aload_n dX12_law_162 rfl ?_
                    refine gR_X12_67 rfl dX12_law_163 sh_98 (b := 116) (m_98_25 hMh40) ?_
                    refine g_iload_n dX12_law_166 rfl (fun _ => ?_)
                    refine g_aload_n dX12_law_167 rfl ?_
                    refine gR_X12_85 rfl dX12_law_168 sh_98 (b := 122) (m_98_31 hMh40) ?_
                    refine g_iload_n dX12_law_171 rfl (fun _ => ?_)
                    refine g_ialdB dX12_law_172 sh_122 (by omega) (by omega) (m_122 hMh40 _) (fun v41 ev41 bv41 cv41 => ?_)
                    refine g_iastB dX12_law_173 sh_116 (by omega) (by omega) (fun h42 eh42 => ?_)
                    have hFh42 := Fr.ar eh42
                    have hMh42 := u_116 hMh40 eh42 (by omega) (by omega)
                    refine g_aload_n dX12_law_174 rfl ?_
                    refine gR_X12_70 rfl dX12_law_175 sh_98 (b := 117) (m_98_26 hMh42) ?_
                    refine g_iload_n dX12_law_178 rfl (fun _ => ?_)
                    refine g_aload_n dX12_law_179 rfl ?_
                    refine gR_X12_88 rfl dX12_law_180 sh_98 (b := 123) (m_98_32 hMh42) ?_
                    refine g_iload_n dX12_law_183 rfl (fun _ => ?_)
                    refine g_ialdB dX12_law_184 sh_123 (by omega) (by omega) (m_123 hMh42 _) (fun v43 ev43 bv43 cv43 => ?_)
                    refine g_iastB dX12_law_185 sh_117 (by omega) (by omega) (fun h44 eh44 => ?_)
                    have hFh44 := Fr.ar eh44
                    have hMh44 := u_117 hMh42 eh44 (by omega) (by omega)
                    refine g_aload_n dX12_law_186 rfl ?_
                    refine gR_X12_73 rfl dX12_law_187 sh_98 (b := 118) (m_98_27 hMh44) ?_
                    refine g_iload_n dX12_law_190 rfl (fun _ => ?_)
                    refine g_aload_n dX12_law_191 rfl ?_
                    refine gR_X12_91 rfl dX12_law_192 sh_98 (b := 124) (m_98_33 hMh44) ?_
                    refine g_iload_n dX12_law_195 rfl (fun _ => ?_)
                    refine g_ialdB dX12_law_196 sh_124 (by omega) (by omega) (m_124 hMh44 _) (fun v45 ev45 bv45 cv45 => ?_)
                    refine g_iastB dX12_law_197 sh_118 (by omega) (by omega) (fun h46 eh46 => ?_)
                    have hFh46 := Fr.ar eh46
                    have hMh46 := u_118 hMh44 eh46 (by omega) (by omega)
                    refine g_iincB dX12_law_198 rfl rfl (by omega) (by omega) ?_
                    refine g_goto 142 dX12_law_201 (by decide) ?_
                    exact ih142 _ _ hMh46 (Fr.tr (Fr.tr (Fr.tr (Fr.tr (Fr.sub hFh22 rfl) hFh40 rfl) hFh42 rfl) hFh44 rfl) hFh46 rfl) (by omega) (by omega) (by first | exact CP1_0 | exact CP1_s e142_0 (by omega) (by assumption) (by assumption) (by assumption) (by assumption) (by assumption) (by assumption) (by assumption)) (by omega)
              refine g_istore_n dX12_law_141 (by decide) rfl ?_
              refine g_drop 2 ?_
              exact c142 15 _ _ hMh17 Fr.rf (by omega) (by omega) (by first | exact CP1_0 | exact CP1_s e142_0 (by omega) (by assumption) (by assumption) (by assumption) (by assumption) (by assumption) (by assumption) (by assumption)) (by omega)
            · skip
              refine g_aload_n dX12_law_135 rfl ?_
              refine gE_X12_217 rfl dX12_law_136 sh_98 ev19.symm ?_
              exact g_ireturn dX12_law_139 retI (hPo _ _ ⟨hMh17, (Fr.tr (Fr.tr (Fr.tr (Fr.tr (Fr.tr (Fr.tr (Fr.sub hFh6 rfl) hFh7 rfl) hFh8 rfl) hFh9 rfl) hFh10 rfl) hFh11 rfl) hFh17 rfl), (by omega), (by omega), (WFL.fr (T := [(98, 2), (98, 37), (98, 38), (98, 39), (98, 40), (98, 41), (98, 42), (98, 43), (98, 44), (98, 45), (121, 0), (122, 0), (123, 0), (124, 0), (125, 0), (126, 0), (127, 0)]) f_WFL (Fr.tr (Fr.tr (Fr.tr (Fr.tr (Fr.tr (Fr.tr (Fr.sub hFh6 rfl) hFh7 rfl) hFh8 rfl) hFh9 rfl) hFh10 rfl) hFh11 rfl) hFh17 rfl) rfl)⟩)
          · skip
            refine g_aload_n dX12_law_58 rfl ?_
            refine g_cVP (as := []) (c_X12_isGood_98  h17 hMh17) dX12_law_59 mi_X12_isGood in_X12_isGood se_X12_isGood ml_X12_220 rfl rfl rfl sh_98 rfl rfl (Nat.le_of_ble_eq_true rfl) (fun v47 q48 => ?_)
            obtain ⟨v49, ev49⟩ : ∃ z, z = h17 98 38 := ⟨_, rfl⟩
            have bv49 : -6000 ≤ v49 ∧ v49 ≤ 0 := by rw [ev49]; exact (m_98_38 hMh17)
            rcases q48 with ⟨rfl, q48⟩ | ⟨rfl, q48⟩
            · skip
              refine g_if_eq 128 dX12_law_62 (by decide) (fun _ => by exfalso; omega) (fun q50 => ?_)
              refine g_aload_n dX12_law_65 rfl ?_
              have q51 : h17 98 38 = v49 := ev49.symm
              refine g_cVV (as := []) (c_X12_clause_98  h17 hMh17 (by omega) (by omega) e54_0) dX12_law_66 mi_X12_clause in_X12_clause se_X12_clause ml_X12_318 rfl rfl rfl sh_98 rfl rfl (Nat.le_of_ble_eq_true rfl) (fun h52 q53 => ?_)
              obtain ⟨hMh52, hFh52, zh52, yh52, wh52, uh52⟩ := q53
              have nw1 : NWo h52 := (by assumption)
              refine g_aload_n dX12_law_69 rfl ?_
              refine g_cVP (as := []) (c_X12_isGood_98  h52 hMh52) dX12_law_70 mi_X12_isGood in_X12_isGood se_X12_isGood ml_X12_220 rfl rfl rfl sh_98 rfl rfl (Nat.le_of_ble_eq_true rfl) (fun v54 q55 => ?_)
              obtain ⟨v56, ev56⟩ : ∃ z, z = h52 98 38 := ⟨_, rfl⟩
              have bv56 : -6000 ≤ v56 ∧ v56 ≤ 0 := by rw [ev56]; exact (m_98_38 hMh52)
              rcases q55 with ⟨rfl, q55⟩ | ⟨rfl, q55⟩
              · skip
                refine g_if_eq 91 dX12_law_73 (by decide) (fun _ => by exfalso; omega) (fun q57 => ?_)
                refine g_aload_n dX12_law_76 rfl ?_
                refine gI_X12_211 rfl dX12_law_77 sh_98 (m_98_36 hMh52) (fun v58 ev58 bv58 cv58 => ?_)
                refine g_aload_n dX12_law_80 rfl ?_
                refine gE_X12_214 rfl dX12_law_81 sh_98 ((hFh52 98 37 rfl).trans ((hFh17 98 37 rfl).trans ((hFh11 98 37 rfl).trans ((hFh10 98 37 rfl).trans ((hFh9 98 37 rfl).trans (st_at eh8)))))) ?_
                refine g_icmp_ge 91 dX12_law_84 (by decide) (fun q59 => ?_) (fun q59 => ?_)
                · skip
                  refine g_iconst dX12_law_91 (inR_c rfl) ?_
                  refine g_istore_n dX12_law_92 (by decide) rfl ?_
                  refine g_iload_n dX12_law_93 rfl (fun _ => ?_)
                  refine g_if_eq 54 dX12_law_94 (by decide) (fun q60 => ?_) (fun _ => by exfalso; omega)
                  have q61 : h52 98 36 = v58 := ev58.symm
                  have q62 : h52 98 37 = x1 := ((hFh52 98 37 rfl).trans ((hFh17 98 37 rfl).trans ((hFh11 98 37 rfl).trans ((hFh10 98 37 rfl).trans ((hFh9 98 37 rfl).trans (st_at eh8))))))
                  have q63 : h52 98 38 = v56 := ev56.symm
                  exact ih54 _ _ hMh52 (Fr.tr (Fr.sub hFh17 rfl) hFh52 rfl) (by omega) (by omega) nw1 (by omega) (by omega) (by omega) (by omega)
                · skip
                  refine g_iconst dX12_law_87 (inR_c rfl) ?_
                  refine g_goto 92 dX12_law_88 (by decide) ?_
                  refine g_istore_n dX12_law_92 (by decide) rfl ?_
                  refine g_iload_n dX12_law_93 rfl (fun _ => ?_)
                  refine g_if_eq 54 dX12_law_94 (by decide) (fun _ => by exfalso; omega) (fun q64 => ?_)
                  refine g_aload_n dX12_law_97 rfl ?_
                  refine g_cVP (as := []) (c_X12_here_98  h52 hMh52) dX12_law_98 mi_X12_here in_X12_here se_X12_here ml_X12_237 rfl rfl rfl sh_98 rfl rfl (Nat.le_of_ble_eq_true rfl) (fun v65 q66 => ?_)
                  obtain ⟨bv65, cv65, zv65, yv65⟩ := q66
                  refine g_bipush dX12_law_101 (inR_c rfl) (by decide) ?_
                  refine g_icmp_eq 115 dX12_law_103 (by decide) (fun q67 => ?_) (fun q67 => ?_)
                  · skip
                    refine g_aload_n dX12_law_115 rfl ?_
                    have nw2 := nw1
                    have q68 : h52 98 36 = v58 := ev58.symm
                    have q69 : h52 98 37 = x1 := ((hFh52 98 37 rfl).trans ((hFh17 98 37 rfl).trans ((hFh11 98 37 rfl).trans ((hFh10 98 37 rfl).trans ((hFh9 98 37 rfl).trans (st_at eh8))))))
                    have q70 : h52 98 38 = v56 := ev56.symm
                    refine g_dup dX12_law_116 rfl ?_
                    refine gE_X12_211 rfl dX12_law_117 sh_98 ev58.symm ?_
                    have a117 : 0 ≤ v58 ∧ v58 ≤ 199 := (by omega)
                    refine g_iconst dX12_law_120 (inR_c rfl) ?_
                    refine g_iaddB dX12_law_121 (by omega) (by omega) ?_
                    refine pI_X12_211 rfl dX12_law_122 sh_98 (fun h71 eh71 => ?_)
                    have hFh71 := Fr.st eh71
                    have hMh71 := u_98_36 hMh52 eh71 (by omega) (by omega)
                    have q72 : h71 98 36 = (v58 + 1) := (st_at eh71)
                    have nw3 : NWo h71 := NW_pl nw2 hFh71 (by omega) (by omega)
                    refine g_goto 54 dX12_law_125 (by decide) ?_
                    have q73 : h71 98 36 = (v58 + 1) := (st_at eh71)
                    have q74 : h71 98 37 = x1 := ((hFh71 98 37 rfl).trans ((hFh52 98 37 rfl).trans ((hFh17 98 37 rfl).trans ((hFh11 98 37 rfl).trans ((hFh10 98 37 rfl).trans ((hFh9 98 37 rfl).trans (st_at eh8)))))))
                    have q75 : h71 98 38 = v56 := ((hFh71 98 38 rfl).trans ev56.symm)
                    exact ih54 _ _ hMh71 (Fr.tr (Fr.tr (Fr.sub hFh17 rfl) hFh52 rfl) hFh71 rfl) (by omega) (by omega) nw3 (by omega) (by omega) (by omega) (by omega)
                  · skip
                    refine g_aload_n dX12_law_106 rfl ?_
                    refine g_iconst dX12_law_107 (inR_c rfl) ?_
                    refine g_aload_n dX12_law_108 rfl ?_
                    refine gE_X12_211 rfl dX12_law_109 sh_98 ev58.symm ?_
                    refine g_cVV (as := [_, _]) (c_X12_wrongs_98 _ _ h52 hMh52 (by omega) (by omega) (by omega) (by omega)) dX12_law_112 mi_X12_wrongs in_X12_wrongs se_X12_wrongs ml_X12_233 rfl rfl rfl sh_98 rfl rfl (Nat.le_of_ble_eq_true rfl) (fun h76 q77 => ?_)
                    obtain ⟨hMh76, hFh76, az78, bz78⟩ := q77
                    obtain ⟨v79, ev79⟩ : ∃ z, z = h76 98 38 := ⟨_, rfl⟩
                    have bv79 : -6000 ≤ v79 ∧ v79 ≤ -1 := by rw [ev79]; exact ⟨az78, bz78⟩
                    refine g_aload_n dX12_law_115 rfl ?_
                    have q80 : h76 98 38 = v79 := ev79.symm
                    have nw2 := (Or.inl (by omega))
                    have q81 : h76 98 36 = v58 := ((hFh76 98 36 rfl).trans ev58.symm)
                    have q82 : h76 98 37 = x1 := ((hFh76 98 37 rfl).trans ((hFh52 98 37 rfl).trans ((hFh17 98 37 rfl).trans ((hFh11 98 37 rfl).trans ((hFh10 98 37 rfl).trans ((hFh9 98 37 rfl).trans (st_at eh8)))))))
                    have q83 : h76 98 38 = v79 := ev79.symm
                    refine g_dup dX12_law_116 rfl ?_
                    refine gE_X12_211 rfl dX12_law_117 sh_98 ((hFh76 98 36 rfl).trans ev58.symm) ?_
                    have a117 : 0 ≤ v58 ∧ v58 ≤ 199 := (by omega)
                    refine g_iconst dX12_law_120 (inR_c rfl) ?_
                    refine g_iaddB dX12_law_121 (by omega) (by omega) ?_
                    refine pI_X12_211 rfl dX12_law_122 sh_98 (fun h84 eh84 => ?_)
                    have hFh84 := Fr.st eh84
                    have hMh84 := u_98_36 hMh76 eh84 (by omega) (by omega)
                    have q85 : h84 98 36 = (v58 + 1) := (st_at eh84)
                    have nw3 : NWo h84 := NW_pl nw2 hFh84 (by omega) (by omega)
                    refine g_goto 54 dX12_law_125 (by decide) ?_
                    have q86 : h84 98 36 = (v58 + 1) := (st_at eh84)
                    have q87 : h84 98 37 = x1 := ((hFh84 98 37 rfl).trans ((hFh76 98 37 rfl).trans ((hFh52 98 37 rfl).trans ((hFh17 98 37 rfl).trans ((hFh11 98 37 rfl).trans ((hFh10 98 37 rfl).trans ((hFh9 98 37 rfl).trans (st_at eh8))))))))
                    have q88 : h84 98 38 = v79 := ((hFh84 98 38 rfl).trans ev79.symm)
                    exact ih54 _ _ hMh84 (Fr.tr (Fr.tr (Fr.tr (Fr.sub hFh17 rfl) hFh52 rfl) hFh76 rfl) hFh84 rfl) (by omega) (by omega) nw3 (by omega) (by omega) (by omega) (by omega)
              · skip
                refine g_if_eq 91 dX12_law_73 (by decide) (fun q89 => ?_) (fun _ => by exfalso; omega)
                refine g_iconst dX12_law_91 (inR_c rfl) ?_
                refine g_istore_n dX12_law_92 (by decide) rfl ?_
                refine g_iload_n dX12_law_93 rfl (fun _ => ?_)
                refine g_if_eq 54 dX12_law_94 (by decide) (fun q90 => ?_) (fun _ => by exfalso; omega)
                obtain ⟨v91, ev91⟩ : ∃ z, z = h52 98 36 := ⟨_, rfl⟩
                have bv91 : 0 ≤ v91 ∧ v91 ≤ 200 := by rw [ev91]; exact (m_98_36 hMh52)
                have q92 : h52 98 37 = x1 := ((hFh52 98 37 rfl).trans ((hFh17 98 37 rfl).trans ((hFh11 98 37 rfl).trans ((hFh10 98 37 rfl).trans ((hFh9 98 37 rfl).trans (st_at eh8))))))
                have q93 : h52 98 38 = v56 := ev56.symm
                exact ih54 _ _ hMh52 (Fr.tr (Fr.sub hFh17 rfl) hFh52 rfl) (by omega) (by omega) nw1 (by omega) (by omega) (by omega) (by omega)
            · skip
              refine g_if_eq 128 dX12_law_62 (by decide) (fun q94 => ?_) (fun _ => by exfalso; omega)
              refine g_aload_n dX12_law_128 rfl ?_
              refine gE_X12_217 rfl dX12_law_129 sh_98 ev49.symm ?_
              refine g_if_ge 140 dX12_law_132 (by decide) (fun _ => by exfalso; omega) (fun q95 => ?_)
              refine g_aload_n dX12_law_135 rfl ?_
              refine gE_X12_217 rfl dX12_law_136 sh_98 ev49.symm ?_
              exact g_ireturn dX12_law_139 retI (hPo _ _ ⟨hMh17, (Fr.tr (Fr.tr (Fr.tr (Fr.tr (Fr.tr (Fr.tr (Fr.sub hFh6 rfl) hFh7 rfl) hFh8 rfl) hFh9 rfl) hFh10 rfl) hFh11 rfl) hFh17 rfl), (by omega), (by omega), (WFL.fr (T := [(98, 2), (98, 37), (98, 38), (98, 39), (98, 40), (98, 41), (98, 42), (98, 43), (98, 44), (98, 45), (121, 0), (122, 0), (123, 0), (124, 0), (125, 0), (126, 0), (127, 0)]) f_WFL (Fr.tr (Fr.tr (Fr.tr (Fr.tr (Fr.tr (Fr.tr (Fr.sub hFh6 rfl) hFh7 rfl) hFh8 rfl) hFh9 rfl) hFh10 rfl) hFh11 rfl) hFh17 rfl) rfl)⟩)
      refine g_istore_n dX12_law_53 (by decide) rfl ?_
      refine g_drop 1 ?_
      have q96 : h11 98 36 = 0 := ((hFh11 98 36 rfl).trans ((hFh10 98 36 rfl).trans ((hFh9 98 36 rfl).trans ((hFh8 98 36 rfl).trans (st_at eh7)))))
      have q97 : h11 98 37 = x1 := ((hFh11 98 37 rfl).trans ((hFh10 98 37 rfl).trans ((hFh9 98 37 rfl).trans (st_at eh8))))
      have q98 : h11 98 38 = 0 := ((hFh11 98 38 rfl).trans ((hFh10 98 38 rfl).trans (st_at eh9)))
      exact c54 2006001 _ _ hMh11 Fr.rf (by omega) (by omega) nw0 (by omega) (by omega) (by omega) (by omega)
    · skip
      refine g_iconst dX12_law_20 (inR_c rfl) ?_
      exact g_ireturn dX12_law_21 retI (hPo _ _ ⟨hM, Fr.rf, (by omega), (by omega), f_WFL⟩)
  · skip
    refine g_if_eq 20 dX12_law_9 (by decide) (fun q99 => ?_) (fun _ => by exfalso; omega)
    refine g_iconst dX12_law_20 (inR_c rfl) ?_
    exact g_ireturn dX12_law_21 retI (hPo _ _ ⟨hM, Fr.rf, (by omega), (by omega), f_WFL⟩)
set_option maxRecDepth 100000 in
set_option maxHeartbeats 4000000 in
theorem c_X12_areHours (x1 : Int) (h : MEM) (hM : MBm h) (bx1 : -2147483648 ≤ x1) (dx1 : x1 ≤ 2147483647) : CP yX12_areHours cX12_areHours 1 (some .boolean) 2 [pI x1] h (fun x => (x = 1 ∧ 1 ≤ x1 + (0) ∧ x1 ≤ 40 + (0) ∨ x = 0 ∧ ¬ (1 ≤ x1 + (0) ∧ x1 ≤ 40 + (0)))) := by
  refine CP.of (L0 := [some (pI x1)]) rfl (Nat.le_of_ble_eq_true rfl) rfl (fun Po hPo hav => ?_)
  refine g_iload_n dX12_areHours_0 rfl (fun _ => ?_)
  refine g_i2l dX12_areHours_1 ?_
  refine g_lconst (v := 1) dX12_areHours_2 rfl ?_
  refine g_ldc2 (v := 40) dX12_areHours_3 kl_X12_396 (by decide) ?_
  refine g_cSP (av := [_, _, _]) (c_X12_lies _ _ _ h hM (by omega) (by omega) (by omega) (by omega) (by omega) (by omega)) dX12_areHours_6 mi_X12_lies st_X12_lies ml_X12_175 rfl rfl rfl rfl (Nat.le_of_ble_eq_true rfl) (fun v1 q2 => ?_)
  rcases q2 with ⟨rfl, q2⟩ | ⟨rfl, q2⟩
  · skip
    exact g_ireturn dX12_areHours_9 (retZ (by omega)) (hPo _ (by omega))
  · skip
    exact g_ireturn dX12_areHours_9 (retZ (by omega)) (hPo _ (by omega))
set_option maxRecDepth 100000 in
set_option maxHeartbeats 4000000 in
theorem c_X12_has (x1 x2 : Int) (h : MEM) (hM : MBm h) (bx1 : -2147483648 ≤ x1) (dx1 : x1 ≤ 2147483647) (bx2 : -2147483648 ≤ x2) (dx2 : x2 ≤ 2147483647) : CP yX12_has cX12_has 2 (some .boolean) 1 [pI x1, pI x2] h (fun x => 0 ≤ x ∧ x ≤ 1 ∧ ((x = 1 ∧ HAS x1 x2 ∨ x = 0 ∧ ¬ HAS x1 x2))) := by
  refine CP.of (L0 := [some (pI x1), some (pI x2)]) rfl (Nat.le_of_ble_eq_true rfl) rfl (fun Po hPo hav => ?_)
  refine g_iload_n dX12_has_0 rfl (fun _ => ?_)
  refine g_iload_n dX12_has_1 rfl (fun _ => ?_)
  refine g_ishrF dX12_has_2 (fun v1 ev1 bv1 cv1 => ?_)
  refine g_iconst dX12_has_3 (inR_c rfl) ?_
  refine g_iandX (lo := 0) (hi := 1) dX12_has_4 (iand_r (by omega) (by omega)) (fun v2 ev2 bv2 cv2 => ?_)
  refine g_iconst dX12_has_5 (inR_c rfl) ?_
  refine g_icmp_ne 13 dX12_has_6 (by decide) (fun q3 => ?_) (fun q3 => ?_)
  · skip
    refine g_iconst dX12_has_13 (inR_c rfl) ?_
    exact g_ireturn dX12_has_14 (retZ (by omega)) (hPo _ ⟨(by omega), (by omega), (by first | exact Or.inl ⟨rfl, HAS1 (by assumption) (by assumption) (by omega)⟩ | exact Or.inr ⟨rfl, HAS0 (by assumption) (by assumption) (by omega)⟩)⟩)
  · skip
    refine g_iconst dX12_has_9 (inR_c rfl) ?_
    refine g_goto 14 dX12_has_10 (by decide) ?_
    exact g_ireturn dX12_has_14 (retZ (by omega)) (hPo _ ⟨(by omega), (by omega), (by first | exact Or.inl ⟨rfl, HAS1 (by assumption) (by assumption) (by omega)⟩ | exact Or.inr ⟨rfl, HAS0 (by assumption) (by assumption) (by omega)⟩)⟩)
set_option maxRecDepth 100000 in
set_option maxHeartbeats 4000000 in
theorem c_X12_isFree_98 (h : MEM) (hM : MBm h) (p0_0 : 0 ≤ h 98 5) (p0_1 : h 98 5 ≤ 2000000000) : CP yX12_isFree cX12_isFree 1 (some .boolean) 2 [pR 98] h (fun x => 0 ≤ x ∧ x ≤ 1) := by
  refine CP.of (L0 := [some (pR 98)]) rfl (Nat.le_of_ble_eq_true rfl) rfl (fun Po hPo hav => ?_)
  obtain ⟨w98_5, ew98_5⟩ : ∃ z, z = h 98 5 := ⟨_, rfl⟩
  refine g_aload_n dX12_isFree_0 rfl ?_
  refine gE_X12_334 rfl dX12_isFree_1 sh_98 ew98_5.symm ?_
  refine g_bipush dX12_isFree_4 (inR_c rfl) (by decide) ?_
  have c21 : G yX12_isFree cX12_isFree 1 (some .boolean) none Po (2, 120, 0, 0) 21 [some (pR 98)] [] SH h 0 0 := by
    refine g_aload_n dX12_isFree_21 rfl ?_
    refine gE_X12_334 rfl dX12_isFree_22 sh_98 ew98_5.symm ?_
    refine g_i2l dX12_isFree_25 ?_
    refine g_aload_n dX12_isFree_26 rfl ?_
    refine gI_X12_353 rfl dX12_isFree_27 sh_98 (m_98_52 hM) (fun v1 ev1 bv1 cv1 => ?_)
    refine g_i2l dX12_isFree_30 ?_
    refine g_aload_n dX12_isFree_31 rfl ?_
    refine gE_X12_353 rfl dX12_isFree_32 sh_98 ev1.symm ?_
    refine g_aload_n dX12_isFree_35 rfl ?_
    refine gI_X12_356 rfl dX12_isFree_36 sh_98 (m_98_53 hM) (fun v2 ev2 bv2 cv2 => ?_)
    refine g_iaddF dX12_isFree_39 (fun v3 bv3 cv3 => ?_)
    refine g_iconst dX12_isFree_40 (inR_c rfl) ?_
    refine g_isubF dX12_isFree_41 (fun v4 bv4 cv4 => ?_)
    refine g_i2l dX12_isFree_42 ?_
    refine g_cSP (av := [_, _, _]) (c_X12_lies _ _ _ h hM (by omega) (by omega) (by omega) (by omega) (by omega) (by omega)) dX12_isFree_43 mi_X12_lies st_X12_lies ml_X12_175 rfl rfl rfl rfl (Nat.le_of_ble_eq_true rfl) (fun v5 q6 => ?_)
    rcases q6 with ⟨rfl, q6⟩ | ⟨rfl, q6⟩
    · skip
      refine g_if_eq 72 dX12_isFree_46 (by decide) (fun _ => by exfalso; omega) (fun q7 => ?_)
      refine g_aload_n dX12_isFree_49 rfl ?_
      refine gI_X12_359 rfl dX12_isFree_50 sh_98 (m_98_54 hM) (fun v8 ev8 bv8 cv8 => ?_)
      refine g_aload_n dX12_isFree_53 rfl ?_
      refine gE_X12_334 rfl dX12_isFree_54 sh_98 ew98_5.symm ?_
      refine g_aload_n dX12_isFree_57 rfl ?_
      refine gE_X12_353 rfl dX12_isFree_58 sh_98 ev1.symm ?_
      refine g_isubF dX12_isFree_61 (fun v9 bv9 cv9 => ?_)
      refine g_cSP (av := [_, _]) (c_X12_has _ _ h hM (by omega) (by omega) (by omega) (by omega)) dX12_isFree_62 mi_X12_has st_X12_has ml_X12_362 rfl rfl rfl rfl (Nat.le_of_ble_eq_true rfl) (fun v10 q11 => ?_)
      obtain ⟨bv10, cv10, zv10⟩ := q11
      refine g_if_eq 72 dX12_isFree_65 (by decide) (fun q12 => ?_) (fun q12 => ?_)
      · skip
        refine g_iconst dX12_isFree_72 (inR_c rfl) ?_
        exact g_ireturn dX12_isFree_73 (retZ (by omega)) (hPo _ ⟨(by omega), (by omega)⟩)
      · skip
        refine g_iconst dX12_isFree_68 (inR_c rfl) ?_
        refine g_goto 73 dX12_isFree_69 (by decide) ?_
        exact g_ireturn dX12_isFree_73 (retZ (by omega)) (hPo _ ⟨(by omega), (by omega)⟩)
    · skip
      refine g_if_eq 72 dX12_isFree_46 (by decide) (fun q13 => ?_) (fun _ => by exfalso; omega)
      refine g_iconst dX12_isFree_72 (inR_c rfl) ?_
      exact g_ireturn dX12_isFree_73 (retZ (by omega)) (hPo _ ⟨(by omega), (by omega)⟩)
  refine g_icmp_ge 21 dX12_isFree_6 (by decide) (fun q14 => ?_) (fun q14 => ?_)
  · skip
    exact c21 
  · skip
    refine g_aload_n dX12_isFree_9 rfl ?_
    refine gR_X12_61 rfl dX12_isFree_10 sh_98 (b := 114) (m_98_22 hM) ?_
    refine g_aload_n dX12_isFree_13 rfl ?_
    refine gE_X12_334 rfl dX12_isFree_14 sh_98 ew98_5.symm ?_
    refine g_zaldB dX12_isFree_17 sh_114 (by omega) (by omega) (m_114 hM _) (fun v15 ev15 bv15 cv15 => ?_)
    refine g_if_ne 68 dX12_isFree_18 (by decide) (fun q16 => ?_) (fun q16 => ?_)
    · skip
      refine g_iconst dX12_isFree_68 (inR_c rfl) ?_
      refine g_goto 73 dX12_isFree_69 (by decide) ?_
      exact g_ireturn dX12_isFree_73 (retZ (by omega)) (hPo _ ⟨(by omega), (by omega)⟩)
    · skip
      exact c21 
set_option maxRecDepth 100000 in
set_option maxHeartbeats 4000000 in
theorem c_X12_skillOf_98 (x1 : Int) (h : MEM) (hM : MBm h) (bx1 : 0 ≤ x1) (dx1 : x1 ≤ 7) : CP yX12_skillOf cX12_skillOf 4 (some .int) 1 [pR 98, pI x1] h (fun x => -2147483648 ≤ x ∧ x ≤ 2147483647) := by
  refine CP.of (L0 := [some (pR 98), some (pI x1), none, none]) rfl (Nat.le_of_ble_eq_true rfl) rfl (fun Po hPo hav => ?_)
  refine g_aload_n dX12_skillOf_0 rfl ?_
  refine gI_X12_324 rfl dX12_skillOf_1 sh_98 (m_98_47 hM) (fun v1 ev1 bv1 cv1 => ?_)
  refine g_iconst dX12_skillOf_4 (inR_c rfl) ?_
  refine g_icmp_eq 27 dX12_skillOf_5 (by decide) (fun q2 => ?_) (fun q2 => ?_)
  · skip
    refine g_iconst dX12_skillOf_27 (inR_c rfl) ?_
    refine g_istore_n dX12_skillOf_28 (by decide) rfl ?_
    refine g_iconst dX12_skillOf_29 (inR_c rfl) ?_
    have c31 : ∀ (n : Nat) (y3 y4 : Int) , -2147483648 ≤ y3 → y3 ≤ 2147483647 → 0 ≤ y4 → y4 ≤ 5 → 5 - y4 < (n : Int) → G yX12_skillOf cX12_skillOf 4 (some .int) none Po (1, 60, 0, 0) 31 [some (pR 98), some (pI x1), some (pI y3), some (pI y4)] [] SH h 0 0 := by
      intro n
      induction n with
      | zero =>
        intro y3 y4 by3 dy3 by4 dy4 hn
        exfalso; omega
      | succ n ih31 =>
        intro y3 y4 by3 dy3 by4 dy4 hn
        refine g_iload_n dX12_skillOf_31 rfl (fun _ => ?_)
        refine g_iconst dX12_skillOf_32 (inR_c rfl) ?_
        refine g_icmp_ge 55 dX12_skillOf_33 (by decide) (fun q5 => ?_) (fun q5 => ?_)
        · skip
          refine g_iload_n dX12_skillOf_55 rfl (fun _ => ?_)
          exact g_ireturn dX12_skillOf_56 retI (hPo _ ⟨(by omega), (by omega)⟩)
        · skip
          refine g_iload_n dX12_skillOf_36 rfl (fun _ => ?_)
          refine g_aload_n dX12_skillOf_37 rfl ?_
          refine gR_X12_33 rfl dX12_skillOf_38 sh_98 (b := 105) (m_98_13 hM) ?_
          refine g_iconst dX12_skillOf_41 (inR_c rfl) ?_
          refine g_iload_n dX12_skillOf_42 rfl (fun _ => ?_)
          refine g_imulB dX12_skillOf_43 (by omega) (by omega) ?_
          refine g_iload_n dX12_skillOf_44 rfl (fun _ => ?_)
          refine g_iaddB dX12_skillOf_45 (by omega) (by omega) ?_
          refine g_ialdB dX12_skillOf_46 sh_105 (by omega) (by omega) (m_105 hM _) (fun v6 ev6 bv6 cv6 => ?_)
          refine g_iaddF dX12_skillOf_47 (fun v7 bv7 cv7 => ?_)
          refine g_istore_n dX12_skillOf_48 (by decide) rfl ?_
          refine g_iincB dX12_skillOf_49 rfl rfl (by omega) (by omega) ?_
          refine g_goto 31 dX12_skillOf_52 (by decide) ?_
          exact ih31 _ _ (by omega) (by omega) (by omega) (by omega) (by omega)
    refine g_istore_n dX12_skillOf_30 (by decide) rfl ?_
    exact c31 6 _ _ (by omega) (by omega) (by omega) (by omega) (by omega)
  · skip
    refine g_aload_n dX12_skillOf_8 rfl ?_
    refine gR_X12_33 rfl dX12_skillOf_9 sh_98 (b := 105) (m_98_13 hM) ?_
    refine g_iconst dX12_skillOf_12 (inR_c rfl) ?_
    refine g_iload_n dX12_skillOf_13 rfl (fun _ => ?_)
    refine g_imulB dX12_skillOf_14 (by omega) (by omega) ?_
    refine g_aload_n dX12_skillOf_15 rfl ?_
    refine gR_X12_43 rfl dX12_skillOf_16 sh_98 (b := 108) (m_98_16 hM) ?_
    refine g_aload_n dX12_skillOf_19 rfl ?_
    refine gE_X12_324 rfl dX12_skillOf_20 sh_98 ev1.symm ?_
    refine g_ialdB dX12_skillOf_23 sh_108 (by omega) (by omega) (m_108 hM _) (fun v8 ev8 bv8 cv8 => ?_)
    refine g_iaddB dX12_skillOf_24 (by omega) (by omega) ?_
    refine g_ialdB dX12_skillOf_25 sh_105 (by omega) (by omega) (m_105 hM _) (fun v9 ev9 bv9 cv9 => ?_)
    exact g_ireturn dX12_skillOf_26 retI (hPo _ ⟨(by omega), (by omega)⟩)
set_option maxRecDepth 100000 in
set_option maxHeartbeats 4000000 in
theorem c_X12_valueOf_98 (x1 : Int) (h : MEM) (hM : MBm h) (bx1 : -2147483648 ≤ x1) (dx1 : x1 ≤ 2147483647) (f_AT9 : AT9 h) : CP yX12_valueOf cX12_valueOf 3 (some .int) 2 [pR 98, pI x1] h (fun x => -2147483648 ≤ x ∧ x ≤ 2147483647) := by
  refine CP.of (L0 := [some (pR 98), some (pI x1), none]) rfl (Nat.le_of_ble_eq_true rfl) rfl (fun Po hPo hav => ?_)
  refine g_iload_n dX12_valueOf_0 rfl (fun _ => ?_)
  refine g_cSP (av := [_]) (c_X12_isOfMaster _ h hM (by omega) (by omega)) dX12_valueOf_1 mi_X12_isOfMaster st_X12_isOfMaster ml_X12_251 rfl rfl rfl rfl (Nat.le_of_ble_eq_true rfl) (fun v1 q2 => ?_)
  obtain ⟨bv1, cv1, zv1⟩ := q2
  refine g_if_eq 60 dX12_valueOf_4 (by decide) (fun q3 => ?_) (fun q3 => ?_)
  · skip
    refine g_aload_n dX12_valueOf_60 rfl ?_
    refine gR_X12_27 rfl dX12_valueOf_61 sh_98 (b := 103) (m_98_11 hM) ?_
    refine g_aload_n dX12_valueOf_64 rfl ?_
    refine gI_X12_327 rfl dX12_valueOf_65 sh_98 (m_98_46 hM) (fun v4 ev4 bv4 cv4 => ?_)
    refine g_ialdB dX12_valueOf_68 sh_103 (by omega) (by omega) (m_103 hM _) (fun v5 ev5 bv5 cv5 => ?_)
    have a68 : 0 ≤ v5 ∧ v5 ≤ 9 := AT9_at f_AT9 (by assumption) (by assumption) (by omega)
    refine g_istore_n dX12_valueOf_69 (by decide) rfl ?_
    refine g_iload_n dX12_valueOf_70 rfl (fun _ => ?_)
    rcases (show x1 = 97 ∨ x1 = 98 ∨ x1 = 99 ∨ x1 = 100 ∨ x1 = 101 ∨ x1 = 102 ∨ x1 = 103 ∨ x1 = 104 ∨ x1 = 105 ∨ x1 = 106 ∨ x1 = 107 ∨ x1 = 108 ∨ x1 = 109 ∨ x1 = 110 ∨ x1 = 111 ∨ x1 = 112 ∨ x1 = 113 ∨ x1 = 114 ∨ x1 = 115 ∨ x1 = 116 ∨ (x1 < 97 ∨ 116 < x1) by omega) with q6 | q6 | q6 | q6 | q6 | q6 | q6 | q6 | q6 | q6 | q6 | q6 | q6 | q6 | q6 | q6 | q6 | q6 | q6 | q6 | q6
    · skip
      refine g_tableIn 164 0 dX12_valueOf_71 (by omega) (by omega) rfl (by decide) ?_
      refine g_aload_n dX12_valueOf_164 rfl ?_
      refine gE_X12_327 rfl dX12_valueOf_165 sh_98 ev4.symm ?_
      exact g_ireturn dX12_valueOf_168 retI (hPo _ ⟨(by omega), (by omega)⟩)
    · skip
      refine g_tableIn 227 1 dX12_valueOf_71 (by omega) (by omega) rfl (by decide) ?_
      refine g_aload_n dX12_valueOf_227 rfl ?_
      refine gI_X12_337 rfl dX12_valueOf_228 sh_98 (m_98_48 hM) (fun v7 ev7 bv7 cv7 => ?_)
      exact g_ireturn dX12_valueOf_231 retI (hPo _ ⟨(by omega), (by omega)⟩)
    · skip
      refine g_tableIn 227 2 dX12_valueOf_71 (by omega) (by omega) rfl (by decide) ?_
      refine g_aload_n dX12_valueOf_227 rfl ?_
      refine gI_X12_337 rfl dX12_valueOf_228 sh_98 (m_98_48 hM) (fun v8 ev8 bv8 cv8 => ?_)
      exact g_ireturn dX12_valueOf_231 retI (hPo _ ⟨(by omega), (by omega)⟩)
    · skip
      refine g_tableIn 227 3 dX12_valueOf_71 (by omega) (by omega) rfl (by decide) ?_
      refine g_aload_n dX12_valueOf_227 rfl ?_
      refine gI_X12_337 rfl dX12_valueOf_228 sh_98 (m_98_48 hM) (fun v9 ev9 bv9 cv9 => ?_)
      exact g_ireturn dX12_valueOf_231 retI (hPo _ ⟨(by omega), (by omega)⟩)
    · skip
      refine g_tableIn 215 4 dX12_valueOf_71 (by omega) (by omega) rfl (by decide) ?_
      refine g_aload_n dX12_valueOf_215 rfl ?_
      refine gR_X12_24 rfl dX12_valueOf_216 sh_98 (b := 102) (m_98_10 hM) ?_
      refine g_iload_n dX12_valueOf_219 rfl (fun _ => ?_)
      refine g_ialdB dX12_valueOf_220 sh_102 (by omega) (by omega) (m_102 hM _) (fun v10 ev10 bv10 cv10 => ?_)
      exact g_ireturn dX12_valueOf_221 retI (hPo _ ⟨(by omega), (by omega)⟩)
    · skip
      refine g_tableIn 227 5 dX12_valueOf_71 (by omega) (by omega) rfl (by decide) ?_
      refine g_aload_n dX12_valueOf_227 rfl ?_
      refine gI_X12_337 rfl dX12_valueOf_228 sh_98 (m_98_48 hM) (fun v11 ev11 bv11 cv11 => ?_)
      exact g_ireturn dX12_valueOf_231 retI (hPo _ ⟨(by omega), (by omega)⟩)
    · skip
      refine g_tableIn 169 6 dX12_valueOf_71 (by omega) (by omega) rfl (by decide) ?_
      refine g_aload_n dX12_valueOf_169 rfl ?_
      refine gR_X12_30 rfl dX12_valueOf_170 sh_98 (b := 104) (m_98_12 hM) ?_
      refine g_aload_n dX12_valueOf_173 rfl ?_
      refine gE_X12_327 rfl dX12_valueOf_174 sh_98 ev4.symm ?_
      refine g_ialdB dX12_valueOf_177 sh_104 (by omega) (by omega) (m_104 hM _) (fun v12 ev12 bv12 cv12 => ?_)
      exact g_ireturn dX12_valueOf_178 retI (hPo _ ⟨(by omega), (by omega)⟩)
    · skip
      refine g_tableIn 227 7 dX12_valueOf_71 (by omega) (by omega) rfl (by decide) ?_
      refine g_aload_n dX12_valueOf_227 rfl ?_
      refine gI_X12_337 rfl dX12_valueOf_228 sh_98 (m_98_48 hM) (fun v13 ev13 bv13 cv13 => ?_)
      exact g_ireturn dX12_valueOf_231 retI (hPo _ ⟨(by omega), (by omega)⟩)
    · skip
      refine g_tableIn 227 8 dX12_valueOf_71 (by omega) (by omega) rfl (by decide) ?_
      refine g_aload_n dX12_valueOf_227 rfl ?_
      refine gI_X12_337 rfl dX12_valueOf_228 sh_98 (m_98_48 hM) (fun v14 ev14 bv14 cv14 => ?_)
      exact g_ireturn dX12_valueOf_231 retI (hPo _ ⟨(by omega), (by omega)⟩)
    · skip
      refine g_tableIn 227 9 dX12_valueOf_71 (by omega) (by omega) rfl (by decide) ?_
      refine g_aload_n dX12_valueOf_227 rfl ?_
      refine gI_X12_337 rfl dX12_valueOf_228 sh_98 (m_98_48 hM) (fun v15 ev15 bv15 cv15 => ?_)
      exact g_ireturn dX12_valueOf_231 retI (hPo _ ⟨(by omega), (by omega)⟩)
    · skip
      refine g_tableIn 227 10 dX12_valueOf_71 (by omega) (by omega) rfl (by decide) ?_
      refine g_aload_n dX12_valueOf_227 rfl ?_
      refine gI_X12_337 rfl dX12_valueOf_228 sh_98 (m_98_48 hM) (fun v16 ev16 bv16 cv16 => ?_)
      exact g_ireturn dX12_valueOf_231 retI (hPo _ ⟨(by omega), (by omega)⟩)
    · skip
      refine g_tableIn 227 11 dX12_valueOf_71 (by omega) (by omega) rfl (by decide) ?_
      refine g_aload_n dX12_valueOf_227 rfl ?_
      refine gI_X12_337 rfl dX12_valueOf_228 sh_98 (m_98_48 hM) (fun v17 ev17 bv17 cv17 => ?_)
      exact g_ireturn dX12_valueOf_231 retI (hPo _ ⟨(by omega), (by omega)⟩)
    · skip
      refine g_tableIn 227 12 dX12_valueOf_71 (by omega) (by omega) rfl (by decide) ?_
      refine g_aload_n dX12_valueOf_227 rfl ?_
      refine gI_X12_337 rfl dX12_valueOf_228 sh_98 (m_98_48 hM) (fun v18 ev18 bv18 cv18 => ?_)
      exact g_ireturn dX12_valueOf_231 retI (hPo _ ⟨(by omega), (by omega)⟩)
    · skip
      refine g_tableIn 208 13 dX12_valueOf_71 (by omega) (by omega) rfl (by decide) ?_
      refine g_aload_n dX12_valueOf_208 rfl ?_
      refine gR_X12_21 rfl dX12_valueOf_209 sh_98 (b := 101) (m_98_9 hM) ?_
      refine g_iload_n dX12_valueOf_212 rfl (fun _ => ?_)
      refine g_ialdB dX12_valueOf_213 sh_101 (by omega) (by omega) (m_101 hM _) (fun v19 ev19 bv19 cv19 => ?_)
      exact g_ireturn dX12_valueOf_214 retI (hPo _ ⟨(by omega), (by omega)⟩)
    · skip
      refine g_tableIn 188 14 dX12_valueOf_71 (by omega) (by omega) rfl (by decide) ?_
      refine g_aload_n dX12_valueOf_188 rfl ?_
      refine gR_X12_36 rfl dX12_valueOf_189 sh_98 (b := 106) (m_98_14 hM) ?_
      refine g_aload_n dX12_valueOf_192 rfl ?_
      refine gE_X12_327 rfl dX12_valueOf_193 sh_98 ev4.symm ?_
      refine g_zaldB dX12_valueOf_196 sh_106 (by omega) (by omega) (m_106 hM _) (fun v20 ev20 bv20 cv20 => ?_)
      refine g_if_eq 204 dX12_valueOf_197 (by decide) (fun q21 => ?_) (fun q21 => ?_)
      · skip
        refine g_iconst dX12_valueOf_204 (inR_c rfl) ?_
        exact g_ireturn dX12_valueOf_205 retI (hPo _ ⟨(by omega), (by omega)⟩)
      · skip
        refine g_iconst dX12_valueOf_200 (inR_c rfl) ?_
        refine g_goto 205 dX12_valueOf_201 (by decide) ?_
        exact g_ireturn dX12_valueOf_205 retI (hPo _ ⟨(by omega), (by omega)⟩)
    · skip
      refine g_tableIn 227 15 dX12_valueOf_71 (by omega) (by omega) rfl (by decide) ?_
      refine g_aload_n dX12_valueOf_227 rfl ?_
      refine gI_X12_337 rfl dX12_valueOf_228 sh_98 (m_98_48 hM) (fun v22 ev22 bv22 cv22 => ?_)
      exact g_ireturn dX12_valueOf_231 retI (hPo _ ⟨(by omega), (by omega)⟩)
    · skip
      refine g_tableIn 206 16 dX12_valueOf_71 (by omega) (by omega) rfl (by decide) ?_
      refine g_iload_n dX12_valueOf_206 rfl (fun _ => ?_)
      exact g_ireturn dX12_valueOf_207 retI (hPo _ ⟨(by omega), (by omega)⟩)
    · skip
      refine g_tableIn 227 17 dX12_valueOf_71 (by omega) (by omega) rfl (by decide) ?_
      refine g_aload_n dX12_valueOf_227 rfl ?_
      refine gI_X12_337 rfl dX12_valueOf_228 sh_98 (m_98_48 hM) (fun v23 ev23 bv23 cv23 => ?_)
      exact g_ireturn dX12_valueOf_231 retI (hPo _ ⟨(by omega), (by omega)⟩)
    · skip
      refine g_tableIn 179 18 dX12_valueOf_71 (by omega) (by omega) rfl (by decide) ?_
      refine g_aload_n dX12_valueOf_179 rfl ?_
      refine g_aload_n dX12_valueOf_180 rfl ?_
      refine gE_X12_327 rfl dX12_valueOf_181 sh_98 ev4.symm ?_
      refine g_cVP (as := [_]) (c_X12_skillOf_98 _ h hM (by omega) (by omega)) dX12_valueOf_184 mi_X12_skillOf in_X12_skillOf se_X12_skillOf ml_X12_330 rfl rfl rfl sh_98 rfl rfl (Nat.le_of_ble_eq_true rfl) (fun v24 q25 => ?_)
      obtain ⟨bv24, cv24⟩ := q25
      exact g_ireturn dX12_valueOf_187 retI (hPo _ ⟨(by omega), (by omega)⟩)
    · skip
      refine g_tableIn 222 19 dX12_valueOf_71 (by omega) (by omega) rfl (by decide) ?_
      refine g_aload_n dX12_valueOf_222 rfl ?_
      refine gI_X12_334 rfl dX12_valueOf_223 sh_98 (m_98_5 hM) (fun v26 ev26 bv26 cv26 => ?_)
      exact g_ireturn dX12_valueOf_226 retI (hPo _ ⟨(by omega), (by omega)⟩)
    · skip
      refine g_tableOut 227 dX12_valueOf_71 (by omega) (by decide) ?_
      refine g_aload_n dX12_valueOf_227 rfl ?_
      refine gI_X12_337 rfl dX12_valueOf_228 sh_98 (m_98_48 hM) (fun v27 ev27 bv27 cv27 => ?_)
      exact g_ireturn dX12_valueOf_231 retI (hPo _ ⟨(by omega), (by omega)⟩)
  · skip
    refine g_aload_n dX12_valueOf_7 rfl ?_
    refine gI_X12_324 rfl dX12_valueOf_8 sh_98 (m_98_47 hM) (fun v28 ev28 bv28 cv28 => ?_)
    refine g_iconst dX12_valueOf_11 (inR_c rfl) ?_
    refine g_icmp_ne 19 dX12_valueOf_12 (by decide) (fun q29 => ?_) (fun q29 => ?_)
    · skip
      refine g_iload_n dX12_valueOf_19 rfl (fun _ => ?_)
      refine g_bipush dX12_valueOf_20 (inR_c rfl) (by decide) ?_
      refine g_icmp_ne 32 dX12_valueOf_22 (by decide) (fun q30 => ?_) (fun q30 => ?_)
      · skip
        refine g_iload_n dX12_valueOf_32 rfl (fun _ => ?_)
        refine g_bipush dX12_valueOf_33 (inR_c rfl) (by decide) ?_
        refine g_icmp_ne 50 dX12_valueOf_35 (by decide) (fun q31 => ?_) (fun q31 => ?_)
        · skip
          refine g_aload_n dX12_valueOf_50 rfl ?_
          refine gR_X12_52 rfl dX12_valueOf_51 sh_98 (b := 111) (m_98_19 hM) ?_
          refine g_aload_n dX12_valueOf_54 rfl ?_
          refine gE_X12_324 rfl dX12_valueOf_55 sh_98 ev28.symm ?_
          refine g_ialdB dX12_valueOf_58 sh_111 (by omega) (by omega) (m_111 hM _) (fun v32 ev32 bv32 cv32 => ?_)
          exact g_ireturn dX12_valueOf_59 retI (hPo _ ⟨(by omega), (by omega)⟩)
        · skip
          refine g_aload_n dX12_valueOf_38 rfl ?_
          refine gR_X12_43 rfl dX12_valueOf_39 sh_98 (b := 108) (m_98_16 hM) ?_
          refine g_aload_n dX12_valueOf_42 rfl ?_
          refine gE_X12_324 rfl dX12_valueOf_43 sh_98 ev28.symm ?_
          refine g_ialdB dX12_valueOf_46 sh_108 (by omega) (by omega) (m_108 hM _) (fun v33 ev33 bv33 cv33 => ?_)
          refine g_goto 59 dX12_valueOf_47 (by decide) ?_
          exact g_ireturn dX12_valueOf_59 retI (hPo _ ⟨(by omega), (by omega)⟩)
      · skip
        refine g_aload_n dX12_valueOf_25 rfl ?_
        refine gE_X12_324 rfl dX12_valueOf_26 sh_98 ev28.symm ?_
        refine g_goto 59 dX12_valueOf_29 (by decide) ?_
        exact g_ireturn dX12_valueOf_59 retI (hPo _ ⟨(by omega), (by omega)⟩)
    · skip
      refine g_iconst dX12_valueOf_15 (inR_c rfl) ?_
      refine g_goto 59 dX12_valueOf_16 (by decide) ?_
      exact g_ireturn dX12_valueOf_59 retI (hPo _ ⟨(by omega), (by omega)⟩)
set_option maxRecDepth 100000 in
set_option maxHeartbeats 4000000 in
theorem c_X12_worked (x1 x2 x3 : Int) (h : MEM) (hM : MBm h) (bx1 : 3 ≤ x1) (dx1 : x1 ≤ 2147483647) (bx2 : -2147483648 ≤ x2) (dx2 : x2 ≤ 2147483647) (bx3 : -2147483648 ≤ x3) (dx3 : x3 ≤ 2147483647) : CP yX12_worked cX12_worked 3 (some .int) 1 [pI x1, pI x2, pI x3] h (fun x => -2147483648 ≤ x ∧ x ≤ 2147483647) := by
  refine CP.of (L0 := [some (pI x1), some (pI x2), some (pI x3)]) rfl (Nat.le_of_ble_eq_true rfl) rfl (fun Po hPo hav => ?_)
  refine g_iload_n dX12_worked_0 rfl (fun _ => ?_)
  rcases (show x1 = 37 ∨ x1 = 42 ∨ x1 = 43 ∨ x1 = 45 ∨ x1 = 47 ∨ x1 = 60 ∨ x1 = 62 ∨ (x1 ≠ 37 ∧ x1 ≠ 42 ∧ x1 ≠ 43 ∧ x1 ≠ 45 ∧ x1 ≠ 47 ∧ x1 ≠ 60 ∧ x1 ≠ 62) by omega) with q1 | q1 | q1 | q1 | q1 | q1 | q1 | q1
  · skip
    refine g_lookup 92 dX12_worked_1 (by decide) (lsw_k (off := 91) q1 (by decide)) (by decide) ?_
    refine g_iload_n dX12_worked_92 rfl (fun _ => ?_)
    refine g_if_ne 100 dX12_worked_93 (by decide) (fun q2 => ?_) (fun q2 => ?_)
    · skip
      refine g_iload_n dX12_worked_100 rfl (fun _ => ?_)
      refine g_iload_n dX12_worked_101 rfl (fun _ => ?_)
      refine g_iremF dX12_worked_102 (by omega) (fun v3 ev3 bv3 cv3 => ?_)
      exact g_ireturn dX12_worked_103 retI (hPo _ ⟨(by omega), (by omega)⟩)
    · skip
      refine g_iconst dX12_worked_96 (inR_c rfl) ?_
      refine g_goto 103 dX12_worked_97 (by decide) ?_
      exact g_ireturn dX12_worked_103 retI (hPo _ ⟨(by omega), (by omega)⟩)
  · skip
    refine g_lookup 76 dX12_worked_1 (by decide) (lsw_k (off := 75) q1 (by decide)) (by decide) ?_
    refine g_iload_n dX12_worked_76 rfl (fun _ => ?_)
    refine g_iload_n dX12_worked_77 rfl (fun _ => ?_)
    refine g_imulF dX12_worked_78 (fun v4 bv4 cv4 => ?_)
    exact g_ireturn dX12_worked_79 retI (hPo _ ⟨(by omega), (by omega)⟩)
  · skip
    refine g_lookup 68 dX12_worked_1 (by decide) (lsw_k (off := 67) q1 (by decide)) (by decide) ?_
    refine g_iload_n dX12_worked_68 rfl (fun _ => ?_)
    refine g_iload_n dX12_worked_69 rfl (fun _ => ?_)
    refine g_iaddF dX12_worked_70 (fun v5 bv5 cv5 => ?_)
    exact g_ireturn dX12_worked_71 retI (hPo _ ⟨(by omega), (by omega)⟩)
  · skip
    refine g_lookup 72 dX12_worked_1 (by decide) (lsw_k (off := 71) q1 (by decide)) (by decide) ?_
    refine g_iload_n dX12_worked_72 rfl (fun _ => ?_)
    refine g_iload_n dX12_worked_73 rfl (fun _ => ?_)
    refine g_isubF dX12_worked_74 (fun v6 bv6 cv6 => ?_)
    exact g_ireturn dX12_worked_75 retI (hPo _ ⟨(by omega), (by omega)⟩)
  · skip
    refine g_lookup 80 dX12_worked_1 (by decide) (lsw_k (off := 79) q1 (by decide)) (by decide) ?_
    refine g_iload_n dX12_worked_80 rfl (fun _ => ?_)
    refine g_if_ne 88 dX12_worked_81 (by decide) (fun q7 => ?_) (fun q7 => ?_)
    · skip
      refine g_iload_n dX12_worked_88 rfl (fun _ => ?_)
      refine g_iload_n dX12_worked_89 rfl (fun _ => ?_)
      refine g_idivF dX12_worked_90 (by omega) (fun v8 ev8 bv8 cv8 => ?_)
      exact g_ireturn dX12_worked_91 retI (hPo _ ⟨(by omega), (by omega)⟩)
    · skip
      refine g_iconst dX12_worked_84 (inR_c rfl) ?_
      refine g_goto 91 dX12_worked_85 (by decide) ?_
      exact g_ireturn dX12_worked_91 retI (hPo _ ⟨(by omega), (by omega)⟩)
  · skip
    refine g_lookup 104 dX12_worked_1 (by decide) (lsw_k (off := 103) q1 (by decide)) (by decide) ?_
    refine g_iload_n dX12_worked_104 rfl (fun _ => ?_)
    refine g_iload_n dX12_worked_105 rfl (fun _ => ?_)
    refine g_icmp_ge 113 dX12_worked_106 (by decide) (fun q9 => ?_) (fun q9 => ?_)
    · skip
      refine g_iconst dX12_worked_113 (inR_c rfl) ?_
      exact g_ireturn dX12_worked_114 retI (hPo _ ⟨(by omega), (by omega)⟩)
    · skip
      refine g_iconst dX12_worked_109 (inR_c rfl) ?_
      refine g_goto 114 dX12_worked_110 (by decide) ?_
      exact g_ireturn dX12_worked_114 retI (hPo _ ⟨(by omega), (by omega)⟩)
  · skip
    refine g_lookup 115 dX12_worked_1 (by decide) (lsw_k (off := 114) q1 (by decide)) (by decide) ?_
    refine g_iload_n dX12_worked_115 rfl (fun _ => ?_)
    refine g_iload_n dX12_worked_116 rfl (fun _ => ?_)
    refine g_icmp_le 124 dX12_worked_117 (by decide) (fun q10 => ?_) (fun q10 => ?_)
    · skip
      refine g_iconst dX12_worked_124 (inR_c rfl) ?_
      exact g_ireturn dX12_worked_125 retI (hPo _ ⟨(by omega), (by omega)⟩)
    · skip
      refine g_iconst dX12_worked_120 (inR_c rfl) ?_
      refine g_goto 125 dX12_worked_121 (by decide) ?_
      exact g_ireturn dX12_worked_125 retI (hPo _ ⟨(by omega), (by omega)⟩)
  · skip
    refine g_lookup 126 dX12_worked_1 (by decide) (lsw_d (ps := [(37, 91), (42, 75), (43, 67), (45, 71), (47, 79), (60, 103), (62, 114)]) (by simp only [List.all_cons, List.all_nil, Bool.and_true, Bool.and_eq_true, bne_iff_ne, ne_eq]; omega)) (by decide) ?_
    refine g_iload_n dX12_worked_126 rfl (fun _ => ?_)
    refine g_iload_n dX12_worked_127 rfl (fun _ => ?_)
    refine g_icmp_ne 135 dX12_worked_128 (by decide) (fun q11 => ?_) (fun q11 => ?_)
    · skip
      refine g_iconst dX12_worked_135 (inR_c rfl) ?_
      exact g_ireturn dX12_worked_136 retI (hPo _ ⟨(by omega), (by omega)⟩)
    · skip
      refine g_iconst dX12_worked_131 (inR_c rfl) ?_
      refine g_goto 136 dX12_worked_132 (by decide) ?_
      exact g_ireturn dX12_worked_136 retI (hPo _ ⟨(by omega), (by omega)⟩)
