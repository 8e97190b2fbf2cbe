set_option maxRecDepth 100000 in
set_option maxHeartbeats 4000000 in
theorem c_X12_lies (x1 x2 x3 : Int) (h : MEM) (hM : MBm h) (bx1 : -2147483648 ≤ x1) (dx1 : x1 ≤ 2147483647) (bx2 : -2147483648 ≤ x2) (dx2 : x2 ≤ 2147483647) (bx3 : -2147483648 ≤ x3) (dx3 : x3 ≤ 2147483647) : CP yX12_lies cX12_lies 6 (some .boolean) 1 [pL x1, pL x2, pL x3] h (fun x => (x = 1 ∧ x2 ≤ x1 + (0) ∧ x1 ≤ x3 + (0) ∨ x = 0 ∧ ¬ (x2 ≤ x1 + (0) ∧ x1 ≤ x3 + (0)))) := by
  refine CP.of (L0 := [some (pL x1), none, some (pL x2), none, some (pL x3), none]) rfl (Nat.le_of_ble_eq_true rfl) rfl (fun Po hPo hav => ?_)
  refine g_lload_n dX12_lies_0 rfl (fun _ => ?_)
  refine g_lload_n dX12_lies_1 rfl (fun _ => ?_)
  refine g_lcmp dX12_lies_2 ?_
  refine g_if_lt 17 dX12_lies_3 (by decide) (fun q1 => ?_) (fun q1 => ?_)
  · refine g_iconst dX12_lies_17 (inR_c rfl) ?_
    exact g_ireturn dX12_lies_18 (retZ (by omega)) (hPo _ (by split at q1 <;> (try split at q1) <;> omega))
  · refine g_lload_n dX12_lies_6 rfl (fun _ => ?_)
    refine g_lload dX12_lies_7 rfl (fun _ => ?_)
    refine g_lcmp dX12_lies_9 ?_
    refine g_if_gt 17 dX12_lies_10 (by decide) (fun q2 => ?_) (fun q2 => ?_)
    · refine g_iconst dX12_lies_17 (inR_c rfl) ?_
      exact g_ireturn dX12_lies_18 (retZ (by omega)) (hPo _ (by split at q1 <;> (try split at q1) <;> split at q2 <;> (try split at q2) <;> omega))
    · refine g_iconst dX12_lies_13 (inR_c rfl) ?_
      refine g_goto 18 dX12_lies_14 (by decide) ?_
      exact g_ireturn dX12_lies_18 (retZ (by omega)) (hPo _ (by split at q1 <;> (try split at q1) <;> split at q2 <;> (try split at q2) <;> omega))

set_option maxRecDepth 100000 in
set_option maxHeartbeats 4000000 in
theorem c_X12_isDigit (x1 : Int) (h : MEM) (hM : MBm h) (bx1 : -2147483648 ≤ x1) (dx1 : x1 ≤ 2147483647) : CP yX12_isDigit cX12_isDigit 1 (some .boolean) 2 [pI x1] h (fun x => (x = 1 ∧ 0 ≤ x1 + (0) ∧ x1 ≤ 9 + (0) ∨ x = 0 ∧ ¬ (0 ≤ x1 + (0) ∧ x1 ≤ 9 + (0)))) := by
  refine CP.of (L0 := [some (pI x1)]) rfl (Nat.le_of_ble_eq_true rfl) rfl (fun Po hPo hav => ?_)
  refine g_iload_n dX12_isDigit_0 rfl (fun _ => ?_)
  refine g_i2l dX12_isDigit_1 ?_
  refine g_lconst (v := 0) dX12_isDigit_2 rfl ?_
  refine g_ldc2 (v := 9) dX12_isDigit_3 kl_X12_185 (by decide) ?_
  refine g_cSP (av := [_, _, _]) (c_X12_lies _ _ _ h hM (by omega) (by omega) (by omega) (by omega) (by omega) (by omega)) dX12_isDigit_6 mi_X12_lies st_X12_lies ml_X12_175 rfl rfl rfl rfl (Nat.le_of_ble_eq_true rfl) (fun v1 q2 => ?_)
  rcases q2 with ⟨rfl, q2⟩ | ⟨rfl, q2⟩
  · skip
    exact g_ireturn dX12_isDigit_9 (retZ (by omega)) (hPo _ (by omega))
  · skip
    exact g_ireturn dX12_isDigit_9 (retZ (by omega)) (hPo _ (by omega))
set_option maxRecDepth 100000 in
set_option maxHeartbeats 4000000 in
theorem c_X12_roof_98 (x1 x2 x3 : Int) (h : MEM) (hM : MBm h) (bx1 : -2147483648 ≤ x1) (dx1 : x1 ≤ 2147483647) (bx2 : -2147483648 ≤ x2) (dx2 : x2 ≤ 2147483647) (bx3 : -2147483648 ≤ x3) (dx3 : x3 ≤ 2147483647) : CI yX12_roof cX12_roof 4 (some .int) 3 [pR 98, pI x1, pI x2, pI x3] h (fun x h' => MBm h' ∧ Fr [(98, 3), (100, 0), (101, 0), (102, 0)] h h' ∧ -1 ≤ x ∧ x ≤ 9 ∧ (((0 ≤ x1 ∧ x1 ≤ 99 ∧ 0 ≤ x2 ∧ x2 ≤ x1 ∧ 0 ≤ x3 ∧ x3 ≤ 9) ∧ h 98 2 < 10 ∧ x = h 98 2 ∧ h' 98 2 = h 98 2 + 1) ∨ (¬ ((0 ≤ x1 ∧ x1 ≤ 99 ∧ 0 ≤ x2 ∧ x2 ≤ x1 ∧ 0 ≤ x3 ∧ x3 ≤ 9) ∧ h 98 2 < 10) ∧ x = -1 ∧ h' 98 2 = h 98 2))) := by
  refine CI.of (L0 := [some (pR 98), some (pI x1), some (pI x2), some (pI x3)]) rfl (Nat.le_of_ble_eq_true rfl) rfl (fun Po hPo hav => ?_)
  obtain ⟨v1, ev1⟩ : ∃ z, z = h 98 2 := ⟨_, rfl⟩
  have bv1 : 0 ≤ v1 ∧ v1 ≤ 10 := by rw [ev1]; exact (m_98_2 hM)
  refine g_iload_n dX12_roof_0 rfl (fun _ => ?_)
  refine g_i2l dX12_roof_1 ?_
  refine g_lconst (v := 0) dX12_roof_2 rfl ?_
  refine g_ldc2 (v := 99) dX12_roof_3 kl_X12_187 (by decide) ?_
  refine g_cSP (av := [_, _, _]) (c_X12_lies _ _ _ h hM (by omega) (by omega) (by omega) (by omega) (by omega) (by omega)) dX12_roof_6 mi_X12_lies st_X12_lies ml_X12_175 rfl rfl rfl rfl (Nat.le_of_ble_eq_true rfl) (fun v2 q3 => ?_)
  rcases q3 with ⟨rfl, q3⟩ | ⟨rfl, q3⟩
  · skip
    refine g_if_eq 39 dX12_roof_9 (by decide) (fun _ => by exfalso; omega) (fun q4 => ?_)
    refine g_iload_n dX12_roof_12 rfl (fun _ => ?_)
    refine g_i2l dX12_roof_13 ?_
    refine g_lconst (v := 0) dX12_roof_14 rfl ?_
    refine g_iload_n dX12_roof_15 rfl (fun _ => ?_)
    refine g_i2l dX12_roof_16 ?_
    refine g_cSP (av := [_, _, _]) (c_X12_lies _ _ _ h hM (by omega) (by omega) (by omega) (by omega) (by omega) (by omega)) dX12_roof_17 mi_X12_lies st_X12_lies ml_X12_175 rfl rfl rfl rfl (Nat.le_of_ble_eq_true rfl) (fun v5 q6 => ?_)
    rcases q6 with ⟨rfl, q6⟩ | ⟨rfl, q6⟩
    · skip
      refine g_if_eq 39 dX12_roof_20 (by decide) (fun _ => by exfalso; omega) (fun q7 => ?_)
      refine g_iload_n dX12_roof_23 rfl (fun _ => ?_)
      refine g_cSP (av := [_]) (c_X12_isDigit _ h hM (by omega) (by omega)) dX12_roof_24 mi_X12_isDigit st_X12_isDigit ml_X12_189 rfl rfl rfl rfl (Nat.le_of_ble_eq_true rfl) (fun v8 q9 => ?_)
      rcases q9 with ⟨rfl, q9⟩ | ⟨rfl, q9⟩
      · skip
        refine g_if_eq 39 dX12_roof_27 (by decide) (fun _ => by exfalso; omega) (fun q10 => ?_)
        refine g_aload_n dX12_roof_30 rfl ?_
        refine gE_X12_172 rfl dX12_roof_31 sh_98 ev1.symm ?_
        refine g_bipush dX12_roof_34 (inR_c rfl) (by decide) ?_
        refine g_icmp_ne 41 dX12_roof_36 (by decide) (fun q11 => ?_) (fun q11 => ?_)
        · skip
          refine g_aload_n dX12_roof_41 rfl ?_
          refine gR_X12_17 rfl dX12_roof_42 sh_98 (b := 100) (m_98_8 hM) ?_
          refine g_aload_n dX12_roof_45 rfl ?_
          refine gE_X12_172 rfl dX12_roof_46 sh_98 ev1.symm ?_
          refine g_iload_n dX12_roof_49 rfl (fun _ => ?_)
          refine g_iastB dX12_roof_50 sh_100 (by omega) (by omega) (fun h12 eh12 => ?_)
          have hFh12 := Fr.ar eh12
          have hMh12 := u_100 hM eh12 (by omega) (by omega)
          refine g_aload_n dX12_roof_51 rfl ?_
          refine gR_X12_21 rfl dX12_roof_52 sh_98 (b := 101) (m_98_9 hMh12) ?_
          refine g_aload_n dX12_roof_55 rfl ?_
          refine gE_X12_172 rfl dX12_roof_56 sh_98 ((hFh12 98 2 rfl).trans ev1.symm) ?_
          refine g_iload_n dX12_roof_59 rfl (fun _ => ?_)
          refine g_iastB dX12_roof_60 sh_101 (by omega) (by omega) (fun h13 eh13 => ?_)
          have hFh13 := Fr.ar eh13
          have hMh13 := u_101 hMh12 eh13 (by omega) (by omega)
          refine g_aload_n dX12_roof_61 rfl ?_
          refine gR_X12_24 rfl dX12_roof_62 sh_98 (b := 102) (m_98_10 hMh13) ?_
          refine g_aload_n dX12_roof_65 rfl ?_
          refine gE_X12_172 rfl dX12_roof_66 sh_98 ((hFh13 98 2 rfl).trans ((hFh12 98 2 rfl).trans ev1.symm)) ?_
          refine g_iload_n dX12_roof_69 rfl (fun _ => ?_)
          refine g_iastB dX12_roof_70 sh_102 (by omega) (by omega) (fun h14 eh14 => ?_)
          have hFh14 := Fr.ar eh14
          have hMh14 := u_102 hMh13 eh14 (by omega) (by omega)
          refine g_aload_n dX12_roof_71 rfl ?_
          refine g_dup dX12_roof_72 rfl ?_
          refine gE_X12_172 rfl dX12_roof_73 sh_98 ((hFh14 98 2 rfl).trans ((hFh13 98 2 rfl).trans ((hFh12 98 2 rfl).trans ev1.symm))) ?_
          refine g_iconst dX12_roof_76 (inR_c rfl) ?_
          refine g_iaddB dX12_roof_77 (by omega) (by omega) ?_
          refine pI_X12_172 rfl dX12_roof_78 sh_98 (fun h15 eh15 => ?_)
          have hFh15 := Fr.st eh15
          have hMh15 := u_98_2 hMh14 eh15 (by omega) (by omega)
          refine g_aload_n dX12_roof_81 rfl ?_
          refine gE_X12_172 rfl dX12_roof_82 sh_98 (st_at eh15) ?_
          refine g_iconst dX12_roof_85 (inR_c rfl) ?_
          refine g_isubB dX12_roof_86 (by omega) (by omega) ?_
          have q16 : h15 98 2 = (v1 + 1) := (st_at eh15)
          exact g_ireturn dX12_roof_87 retI (hPo _ _ ⟨hMh15, (Fr.tr (Fr.tr (Fr.tr (Fr.sub hFh12 rfl) hFh13 rfl) hFh14 rfl) hFh15 rfl), (by omega), (by omega), (by omega)⟩)
        · skip
          refine g_iconst dX12_roof_39 (inR_c rfl) ?_
          have q17 : h 98 2 = v1 := ev1.symm
          exact g_ireturn dX12_roof_40 retI (hPo _ _ ⟨hM, Fr.rf, (by omega), (by omega), (by omega)⟩)
      · skip
        refine g_if_eq 39 dX12_roof_27 (by decide) (fun q18 => ?_) (fun _ => by exfalso; omega)
        refine g_iconst dX12_roof_39 (inR_c rfl) ?_
        have q19 : h 98 2 = v1 := ev1.symm
        exact g_ireturn dX12_roof_40 retI (hPo _ _ ⟨hM, Fr.rf, (by omega), (by omega), (by omega)⟩)
    · skip
      refine g_if_eq 39 dX12_roof_20 (by decide) (fun q20 => ?_) (fun _ => by exfalso; omega)
      refine g_iconst dX12_roof_39 (inR_c rfl) ?_
      have q21 : h 98 2 = v1 := ev1.symm
      exact g_ireturn dX12_roof_40 retI (hPo _ _ ⟨hM, Fr.rf, (by omega), (by omega), (by omega)⟩)
  · skip
    refine g_if_eq 39 dX12_roof_9 (by decide) (fun q22 => ?_) (fun _ => by exfalso; omega)
    refine g_iconst dX12_roof_39 (inR_c rfl) ?_
    have q23 : h 98 2 = v1 := ev1.symm
    exact g_ireturn dX12_roof_40 retI (hPo _ _ ⟨hM, Fr.rf, (by omega), (by omega), (by omega)⟩)
set_option maxRecDepth 100000 in
set_option maxHeartbeats 4000000 in
theorem c_X12_apprentice_98 (x1 : Int) (h : MEM) (hM : MBm h) (bx1 : -2147483648 ≤ x1) (dx1 : x1 ≤ 2147483647) : CI yX12_apprentice cX12_apprentice 3 (some .int) 3 [pR 98, pI x1] h (fun x h' => MBm h' ∧ Fr [(98, 4), (103, 0), (104, 0), (105, 0), (106, 0), (107, 0), (112, 0), (113, 0)] h h' ∧ -1 ≤ x ∧ x ≤ 7 ∧ (((0 ≤ x1 ∧ x1 ≤ 9) ∧ h 98 3 < 8 ∧ x = h 98 3 ∧ h' 98 3 = h 98 3 + 1) ∨ (¬ ((0 ≤ x1 ∧ x1 ≤ 9) ∧ h 98 3 < 8) ∧ x = -1 ∧ h' 98 3 = h 98 3))) := by
  refine CI.of (L0 := [some (pR 98), some (pI x1), none]) rfl (Nat.le_of_ble_eq_true rfl) rfl (fun Po hPo hav => ?_)
  obtain ⟨v1, ev1⟩ : ∃ z, z = h 98 3 := ⟨_, rfl⟩
  have bv1 : 0 ≤ v1 ∧ v1 ≤ 8 := by rw [ev1]; exact (m_98_3 hM)
  refine g_iload_n dX12_apprentice_0 rfl (fun _ => ?_)
  refine g_cSP (av := [_]) (c_X12_isDigit _ h hM (by omega) (by omega)) dX12_apprentice_1 mi_X12_isDigit st_X12_isDigit ml_X12_189 rfl rfl rfl rfl (Nat.le_of_ble_eq_true rfl) (fun v2 q3 => ?_)
  rcases q3 with ⟨rfl, q3⟩ | ⟨rfl, q3⟩
  · skip
    refine g_if_eq 16 dX12_apprentice_4 (by decide) (fun _ => by exfalso; omega) (fun q4 => ?_)
    refine g_aload_n dX12_apprentice_7 rfl ?_
    refine gE_X12_179 rfl dX12_apprentice_8 sh_98 ev1.symm ?_
    refine g_bipush dX12_apprentice_11 (inR_c rfl) (by decide) ?_
    refine g_icmp_ne 18 dX12_apprentice_13 (by decide) (fun q5 => ?_) (fun q5 => ?_)
    · skip
      refine g_aload_n dX12_apprentice_18 rfl ?_
      refine gR_X12_27 rfl dX12_apprentice_19 sh_98 (b := 103) (m_98_11 hM) ?_
      refine g_aload_n dX12_apprentice_22 rfl ?_
      refine gE_X12_179 rfl dX12_apprentice_23 sh_98 ev1.symm ?_
      refine g_bipush dX12_apprentice_26 (inR_c rfl) (by decide) ?_
      refine g_iastB dX12_apprentice_28 sh_103 (by omega) (by omega) (fun h6 eh6 => ?_)
      have hFh6 := Fr.ar eh6
      have hMh6 := u_103 hM eh6 (by omega) (by omega)
      refine g_aload_n dX12_apprentice_29 rfl ?_
      refine gR_X12_30 rfl dX12_apprentice_30 sh_98 (b := 104) (m_98_12 hMh6) ?_
      refine g_aload_n dX12_apprentice_33 rfl ?_
      refine gE_X12_179 rfl dX12_apprentice_34 sh_98 ((hFh6 98 3 rfl).trans ev1.symm) ?_
      refine g_iload_n dX12_apprentice_37 rfl (fun _ => ?_)
      refine g_iastB dX12_apprentice_38 sh_104 (by omega) (by omega) (fun h7 eh7 => ?_)
      have hFh7 := Fr.ar eh7
      have hMh7 := u_104 hMh6 eh7 (by omega) (by omega)
      refine g_aload_n dX12_apprentice_39 rfl ?_
      refine gR_X12_36 rfl dX12_apprentice_40 sh_98 (b := 106) (m_98_14 hMh7) ?_
      refine g_aload_n dX12_apprentice_43 rfl ?_
      refine gE_X12_179 rfl dX12_apprentice_44 sh_98 ((hFh7 98 3 rfl).trans ((hFh6 98 3 rfl).trans ev1.symm)) ?_
      refine g_iconst dX12_apprentice_47 (inR_c rfl) ?_
      refine g_zastB dX12_apprentice_48 sh_106 (by omega) (by omega) (by omega) (fun h8 eh8 => ?_)
      have hFh8 := Fr.ar eh8
      have hMh8 := u_106 hMh7 eh8 (by omega) (by omega)
      refine g_aload_n dX12_apprentice_49 rfl ?_
      refine gR_X12_40 rfl dX12_apprentice_50 sh_98 (b := 107) (m_98_15 hMh8) ?_
      refine g_aload_n dX12_apprentice_53 rfl ?_
      refine gE_X12_179 rfl dX12_apprentice_54 sh_98 ((hFh8 98 3 rfl).trans ((hFh7 98 3 rfl).trans ((hFh6 98 3 rfl).trans ev1.symm))) ?_
      refine g_iconst dX12_apprentice_57 (inR_c rfl) ?_
      refine g_iastB dX12_apprentice_58 sh_107 (by omega) (by omega) (fun h9 eh9 => ?_)
      have hFh9 := Fr.ar eh9
      have hMh9 := u_107 hMh8 eh9 (by omega) (by omega)
      refine g_iconst dX12_apprentice_59 (inR_c rfl) ?_
      have c61 : ∀ (n : Nat) (y10 : Int) (h11 : MEM), MBm h11 → Fr [(105, 0)] h9 h11 → 0 ≤ y10 → y10 ≤ 5 → 5 - y10 < (n : Int) → G yX12_apprentice cX12_apprentice 3 (some .int) none Po (3, 180, 0, 0) 61 [some (pR 98), none, some (pI y10)] [] SH h11 0 0 := by
        intro n
        induction n with
        | zero =>
          intro y10 h11 hMh11 hFh11 by10 dy10 hn
          exfalso; omega
        | succ n ih61 =>
          intro y10 h11 hMh11 hFh11 by10 dy10 hn
          refine g_iload_n dX12_apprentice_61 rfl (fun _ => ?_)
          refine g_iconst dX12_apprentice_62 (inR_c rfl) ?_
          refine g_icmp_ge 86 dX12_apprentice_63 (by decide) (fun q12 => ?_) (fun q12 => ?_)
          · skip
            refine g_iconst dX12_apprentice_86 (inR_c rfl) ?_
            have c88 : ∀ (n : Nat) (y13 : Int) (h14 : MEM), MBm h14 → Fr [(112, 0), (113, 0)] h11 h14 → 0 ≤ y13 → y13 ≤ 8 → 8 - y13 < (n : Int) → G yX12_apprentice cX12_apprentice 3 (some .int) none Po (3, 180, 0, 0) 88 [some (pR 98), none, some (pI y13)] [] SH h14 0 0 := by
              intro n
              induction n with
              | zero =>
                intro y13 h14 hMh14 hFh14 by13 dy13 hn
                exfalso; omega
              | succ n ih88 =>
                intro y13 h14 hMh14 hFh14 by13 dy13 hn
                refine g_iload_n dX12_apprentice_88 rfl (fun _ => ?_)
                refine g_bipush dX12_apprentice_89 (inR_c rfl) (by decide) ?_
                refine g_icmp_ge 130 dX12_apprentice_91 (by decide) (fun q15 => ?_) (fun q15 => ?_)
                · skip
                  refine g_aload_n dX12_apprentice_130 rfl ?_
                  refine g_dup dX12_apprentice_131 rfl ?_
                  refine gE_X12_179 rfl dX12_apprentice_132 sh_98 ((hFh14 98 3 rfl).trans ((hFh11 98 3 rfl).trans ((hFh9 98 3 rfl).trans ((hFh8 98 3 rfl).trans ((hFh7 98 3 rfl).trans ((hFh6 98 3 rfl).trans ev1.symm)))))) ?_
                  refine g_iconst dX12_apprentice_135 (inR_c rfl) ?_
                  refine g_iaddB dX12_apprentice_136 (by omega) (by omega) ?_
                  refine pI_X12_179 rfl dX12_apprentice_137 sh_98 (fun h16 eh16 => ?_)
                  have hFh16 := Fr.st eh16
                  have hMh16 := u_98_3 hMh14 eh16 (by omega) (by omega)
                  refine g_aload_n dX12_apprentice_140 rfl ?_
                  refine gE_X12_179 rfl dX12_apprentice_141 sh_98 (st_at eh16) ?_
                  refine g_iconst dX12_apprentice_144 (inR_c rfl) ?_
                  refine g_isubB dX12_apprentice_145 (by omega) (by omega) ?_
                  have q17 : h16 98 3 = (v1 + 1) := (st_at eh16)
                  exact g_ireturn dX12_apprentice_146 retI (hPo _ _ ⟨hMh16, (Fr.tr (Fr.tr (Fr.tr (Fr.tr (Fr.tr (Fr.tr (Fr.sub hFh6 rfl) hFh7 rfl) hFh8 rfl) hFh9 rfl) hFh11 rfl) hFh14 rfl) hFh16 rfl), (by omega), (by omega), (by omega)⟩)
                · skip
                  refine g_aload_n dX12_apprentice_94 rfl ?_
                  refine gR_X12_55 rfl dX12_apprentice_95 sh_98 (b := 112) (m_98_20 hMh14) ?_
                  refine g_bipush dX12_apprentice_98 (inR_c rfl) (by decide) ?_
                  refine g_aload_n dX12_apprentice_100 rfl ?_
                  refine gE_X12_179 rfl dX12_apprentice_101 sh_98 ((hFh14 98 3 rfl).trans ((hFh11 98 3 rfl).trans ((hFh9 98 3 rfl).trans ((hFh8 98 3 rfl).trans ((hFh7 98 3 rfl).trans ((hFh6 98 3 rfl).trans ev1.symm)))))) ?_
                  refine g_imulB dX12_apprentice_104 (by omega) (by omega) ?_
                  refine g_iload_n dX12_apprentice_105 rfl (fun _ => ?_)
                  refine g_iaddB dX12_apprentice_106 (by omega) (by omega) ?_
                  refine g_iconst dX12_apprentice_107 (inR_c rfl) ?_
                  refine g_iastB dX12_apprentice_108 sh_112 (by omega) (by omega) (fun h18 eh18 => ?_)
                  have hFh18 := Fr.ar eh18
                  have hMh18 := u_112 hMh14 eh18 (by omega) (by omega)
                  refine g_aload_n dX12_apprentice_109 rfl ?_
                  refine gR_X12_58 rfl dX12_apprentice_110 sh_98 (b := 113) (m_98_21 hMh18) ?_
                  refine g_bipush dX12_apprentice_113 (inR_c rfl) (by decide) ?_
                  refine g_aload_n dX12_apprentice_115 rfl ?_
                  refine gE_X12_179 rfl dX12_apprentice_116 sh_98 ((hFh18 98 3 rfl).trans ((hFh14 98 3 rfl).trans ((hFh11 98 3 rfl).trans ((hFh9 98 3 rfl).trans ((hFh8 98 3 rfl).trans ((hFh7 98 3 rfl).trans ((hFh6 98 3 rfl).trans ev1.symm))))))) ?_
                  refine g_imulB dX12_apprentice_119 (by omega) (by omega) ?_
                  refine g_iload_n dX12_apprentice_120 rfl (fun _ => ?_)
                  refine g_iaddB dX12_apprentice_121 (by omega) (by omega) ?_
                  refine g_iconst dX12_apprentice_122 (inR_c rfl) ?_
                  refine g_iastB dX12_apprentice_123 sh_113 (by omega) (by omega) (fun h19 eh19 => ?_)
                  have hFh19 := Fr.ar eh19
                  have hMh19 := u_113 hMh18 eh19 (by omega) (by omega)
                  refine g_iincB dX12_apprentice_124 rfl rfl (by omega) (by omega) ?_
                  refine g_goto 88 dX12_apprentice_127 (by decide) ?_
                  exact ih88 _ _ hMh19 (Fr.tr (Fr.tr (Fr.sub hFh14 rfl) hFh18 rfl) hFh19 rfl) (by omega) (by omega) (by omega)
            refine g_istore_n dX12_apprentice_87 (by decide) rfl ?_
            exact c88 9 _ _ hMh11 Fr.rf (by omega) (by omega) (by omega)
          · skip
            refine g_aload_n dX12_apprentice_66 rfl ?_
            refine gR_X12_33 rfl dX12_apprentice_67 sh_98 (b := 105) (m_98_13 hMh11) ?_
            refine g_iconst dX12_apprentice_70 (inR_c rfl) ?_
            refine g_aload_n dX12_apprentice_71 rfl ?_
            refine gE_X12_179 rfl dX12_apprentice_72 sh_98 ((hFh11 98 3 rfl).trans ((hFh9 98 3 rfl).trans ((hFh8 98 3 rfl).trans ((hFh7 98 3 rfl).trans ((hFh6 98 3 rfl).trans ev1.symm))))) ?_
            refine g_imulB dX12_apprentice_75 (by omega) (by omega) ?_
            refine g_iload_n dX12_apprentice_76 rfl (fun _ => ?_)
            refine g_iaddB dX12_apprentice_77 (by omega) (by omega) ?_
            refine g_iconst dX12_apprentice_78 (inR_c rfl) ?_
            refine g_iastB dX12_apprentice_79 sh_105 (by omega) (by omega) (fun h20 eh20 => ?_)
            have hFh20 := Fr.ar eh20
            have hMh20 := u_105 hMh11 eh20 (by omega) (by omega)
            refine g_iincB dX12_apprentice_80 rfl rfl (by omega) (by omega) ?_
            refine g_goto 61 dX12_apprentice_83 (by decide) ?_
            exact ih61 _ _ hMh20 (Fr.tr (Fr.sub hFh11 rfl) hFh20 rfl) (by omega) (by omega) (by omega)
      refine g_istore_n dX12_apprentice_60 (by decide) rfl ?_
      refine g_drop 1 ?_
      exact c61 6 _ _ hMh9 Fr.rf (by omega) (by omega) (by omega)
    · skip
      refine g_iconst dX12_apprentice_16 (inR_c rfl) ?_
      have q21 : h 98 3 = v1 := ev1.symm
      exact g_ireturn dX12_apprentice_17 retI (hPo _ _ ⟨hM, Fr.rf, (by omega), (by omega), (by omega)⟩)
  · skip
    refine g_if_eq 16 dX12_apprentice_4 (by decide) (fun q22 => ?_) (fun _ => by exfalso; omega)
    refine g_iconst dX12_apprentice_16 (inR_c rfl) ?_
    have q23 : h 98 3 = v1 := ev1.symm
    exact g_ireturn dX12_apprentice_17 retI (hPo _ _ ⟨hM, Fr.rf, (by omega), (by omega), (by omega)⟩)
set_option maxRecDepth 100000 in
set_option maxHeartbeats 4000000 in
theorem c_X12_master_98 (x1 x2 : Int) (h : MEM) (hM : MBm h) (bx1 : -2147483648 ≤ x1) (dx1 : x1 ≤ 2147483647) (bx2 : 0 ≤ x2) (dx2 : x2 ≤ 1) : CI yX12_master cX12_master 4 (some .int) 2 [pR 98, pI x1, pI x2] h (fun x h' => MBm h' ∧ Fr [(98, 5), (108, 0), (109, 0), (110, 0), (111, 0), (112, 0), (113, 0)] h h' ∧ -1 ≤ x ∧ x ≤ 7 ∧ (((0 ≤ x1 ∧ x1 ≤ 4) ∧ h 98 4 < 8 ∧ x = h 98 4 ∧ h' 98 4 = h 98 4 + 1) ∨ (¬ ((0 ≤ x1 ∧ x1 ≤ 4) ∧ h 98 4 < 8) ∧ x = -1 ∧ h' 98 4 = h 98 4))) := by
  refine CI.of (L0 := [some (pR 98), some (pI x1), some (pI x2), none]) rfl (Nat.le_of_ble_eq_true rfl) rfl (fun Po hPo hav => ?_)
  obtain ⟨v1, ev1⟩ : ∃ z, z = h 98 4 := ⟨_, rfl⟩
  have bv1 : 0 ≤ v1 ∧ v1 ≤ 8 := by rw [ev1]; exact (m_98_4 hM)
  refine g_iload_n dX12_master_0 rfl (fun _ => ?_)
  refine g_i2l dX12_master_1 ?_
  refine g_lconst (v := 0) dX12_master_2 rfl ?_
  refine g_ldc2 (v := 4) dX12_master_3 kl_X12_193 (by decide) ?_
  refine g_cSP (av := [_, _, _]) (c_X12_lies _ _ _ h hM (by omega) (by omega) (by omega) (by omega) (by omega) (by omega)) dX12_master_6 mi_X12_lies st_X12_lies ml_X12_175 rfl rfl rfl rfl (Nat.le_of_ble_eq_true rfl) (fun v2 q3 => ?_)
  rcases q3 with ⟨rfl, q3⟩ | ⟨rfl, q3⟩
  · skip
    refine g_if_eq 21 dX12_master_9 (by decide) (fun _ => by exfalso; omega) (fun q4 => ?_)
    refine g_aload_n dX12_master_12 rfl ?_
    refine gE_X12_182 rfl dX12_master_13 sh_98 ev1.symm ?_
    refine g_bipush dX12_master_16 (inR_c rfl) (by decide) ?_
    refine g_icmp_ne 23 dX12_master_18 (by decide) (fun q5 => ?_) (fun q5 => ?_)
    · skip
      refine g_aload_n dX12_master_23 rfl ?_
      refine gR_X12_43 rfl dX12_master_24 sh_98 (b := 108) (m_98_16 hM) ?_
      refine g_aload_n dX12_master_27 rfl ?_
      refine gE_X12_182 rfl dX12_master_28 sh_98 ev1.symm ?_
      refine g_iload_n dX12_master_31 rfl (fun _ => ?_)
      refine g_iastB dX12_master_32 sh_108 (by omega) (by omega) (fun h6 eh6 => ?_)
      have hFh6 := Fr.ar eh6
      have hMh6 := u_108 hM eh6 (by omega) (by omega)
      refine g_aload_n dX12_master_33 rfl ?_
      refine gR_X12_46 rfl dX12_master_34 sh_98 (b := 109) (m_98_17 hMh6) ?_
      refine g_aload_n dX12_master_37 rfl ?_
      refine gE_X12_182 rfl dX12_master_38 sh_98 ((hFh6 98 4 rfl).trans ev1.symm) ?_
      refine g_bipush dX12_master_41 (inR_c rfl) (by decide) ?_
      refine g_iastB dX12_master_43 sh_109 (by omega) (by omega) (fun h7 eh7 => ?_)
      have hFh7 := Fr.ar eh7
      have hMh7 := u_109 hMh6 eh7 (by omega) (by omega)
      refine g_aload_n dX12_master_44 rfl ?_
      refine gR_X12_49 rfl dX12_master_45 sh_98 (b := 110) (m_98_18 hMh7) ?_
      refine g_aload_n dX12_master_48 rfl ?_
      refine gE_X12_182 rfl dX12_master_49 sh_98 ((hFh7 98 4 rfl).trans ((hFh6 98 4 rfl).trans ev1.symm)) ?_
      refine g_iload_n dX12_master_52 rfl (fun _ => ?_)
      refine g_zastB dX12_master_53 sh_110 (by omega) (by omega) (by omega) (fun h8 eh8 => ?_)
      have hFh8 := Fr.ar eh8
      have hMh8 := u_110 hMh7 eh8 (by omega) (by omega)
      refine g_aload_n dX12_master_54 rfl ?_
      refine gR_X12_52 rfl dX12_master_55 sh_98 (b := 111) (m_98_19 hMh8) ?_
      refine g_aload_n dX12_master_58 rfl ?_
      refine gE_X12_182 rfl dX12_master_59 sh_98 ((hFh8 98 4 rfl).trans ((hFh7 98 4 rfl).trans ((hFh6 98 4 rfl).trans ev1.symm))) ?_
      refine g_iconst dX12_master_62 (inR_c rfl) ?_
      refine g_iastB dX12_master_63 sh_111 (by omega) (by omega) (fun h9 eh9 => ?_)
      have hFh9 := Fr.ar eh9
      have hMh9 := u_111 hMh8 eh9 (by omega) (by omega)
      refine g_iconst dX12_master_64 (inR_c rfl) ?_
      have c66 : ∀ (n : Nat) (y10 : Int) (h11 : MEM), MBm h11 → Fr [(112, 0), (113, 0)] h9 h11 → 0 ≤ y10 → y10 ≤ 8 → 8 - y10 < (n : Int) → G yX12_master cX12_master 4 (some .int) none Po (2, 120, 0, 0) 66 [some (pR 98), none, none, some (pI y10)] [] SH h11 0 0 := by
        intro n
        induction n with
        | zero =>
          intro y10 h11 hMh11 hFh11 by10 dy10 hn
          exfalso; omega
        | succ n ih66 =>
          intro y10 h11 hMh11 hFh11 by10 dy10 hn
          refine g_iload_n dX12_master_66 rfl (fun _ => ?_)
          refine g_bipush dX12_master_67 (inR_c rfl) (by decide) ?_
          refine g_icmp_ge 108 dX12_master_69 (by decide) (fun q12 => ?_) (fun q12 => ?_)
          · skip
            refine g_aload_n dX12_master_108 rfl ?_
            refine g_dup dX12_master_109 rfl ?_
            refine gE_X12_182 rfl dX12_master_110 sh_98 ((hFh11 98 4 rfl).trans ((hFh9 98 4 rfl).trans ((hFh8 98 4 rfl).trans ((hFh7 98 4 rfl).trans ((hFh6 98 4 rfl).trans ev1.symm))))) ?_
            refine g_iconst dX12_master_113 (inR_c rfl) ?_
            refine g_iaddB dX12_master_114 (by omega) (by omega) ?_
            refine pI_X12_182 rfl dX12_master_115 sh_98 (fun h13 eh13 => ?_)
            have hFh13 := Fr.st eh13
            have hMh13 := u_98_4 hMh11 eh13 (by omega) (by omega)
            refine g_aload_n dX12_master_118 rfl ?_
            refine gE_X12_182 rfl dX12_master_119 sh_98 (st_at eh13) ?_
            refine g_iconst dX12_master_122 (inR_c rfl) ?_
            refine g_isubB dX12_master_123 (by omega) (by omega) ?_
            have q14 : h13 98 4 = (v1 + 1) := (st_at eh13)
            exact g_ireturn dX12_master_124 retI (hPo _ _ ⟨hMh13, (Fr.tr (Fr.tr (Fr.tr (Fr.tr (Fr.tr (Fr.sub hFh6 rfl) hFh7 rfl) hFh8 rfl) hFh9 rfl) hFh11 rfl) hFh13 rfl), (by omega), (by omega), (by omega)⟩)
          · skip
            refine g_aload_n dX12_master_72 rfl ?_
            refine gR_X12_55 rfl dX12_master_73 sh_98 (b := 112) (m_98_20 hMh11) ?_
            refine g_bipush dX12_master_76 (inR_c rfl) (by decide) ?_
            refine g_iload_n dX12_master_78 rfl (fun _ => ?_)
            refine g_imulB dX12_master_79 (by omega) (by omega) ?_
            refine g_aload_n dX12_master_80 rfl ?_
            refine gE_X12_182 rfl dX12_master_81 sh_98 ((hFh11 98 4 rfl).trans ((hFh9 98 4 rfl).trans ((hFh8 98 4 rfl).trans ((hFh7 98 4 rfl).trans ((hFh6 98 4 rfl).trans ev1.symm))))) ?_
            refine g_iaddB dX12_master_84 (by omega) (by omega) ?_
            refine g_iconst dX12_master_85 (inR_c rfl) ?_
            refine g_iastB dX12_master_86 sh_112 (by omega) (by omega) (fun h15 eh15 => ?_)
            have hFh15 := Fr.ar eh15
            have hMh15 := u_112 hMh11 eh15 (by omega) (by omega)
            refine g_aload_n dX12_master_87 rfl ?_
            refine gR_X12_58 rfl dX12_master_88 sh_98 (b := 113) (m_98_21 hMh15) ?_
            refine g_bipush dX12_master_91 (inR_c rfl) (by decide) ?_
            refine g_iload_n dX12_master_93 rfl (fun _ => ?_)
            refine g_imulB dX12_master_94 (by omega) (by omega) ?_
            refine g_aload_n dX12_master_95 rfl ?_
            refine gE_X12_182 rfl dX12_master_96 sh_98 ((hFh15 98 4 rfl).trans ((hFh11 98 4 rfl).trans ((hFh9 98 4 rfl).trans ((hFh8 98 4 rfl).trans ((hFh7 98 4 rfl).trans ((hFh6 98 4 rfl).trans ev1.symm)))))) ?_
            refine g_iaddB dX12_master_99 (by omega) (by omega) ?_
            refine g_iconst dX12_master_100 (inR_c rfl) ?_
            refine g_iastB dX12_master_101 sh_113 (by omega) (by omega) (fun h16 eh16 => ?_)
            have hFh16 := Fr.ar eh16
            have hMh16 := u_113 hMh15 eh16 (by omega) (by omega)
            refine g_iincB dX12_master_102 rfl rfl (by omega) (by omega) ?_
            refine g_goto 66 dX12_master_105 (by decide) ?_
            exact ih66 _ _ hMh16 (Fr.tr (Fr.tr (Fr.sub hFh11 rfl) hFh15 rfl) hFh16 rfl) (by omega) (by omega) (by omega)
      refine g_istore_n dX12_master_65 (by decide) rfl ?_
      refine g_drop 1 ?_
      refine g_drop 2 ?_
      exact c66 9 _ _ hMh9 Fr.rf (by omega) (by omega) (by omega)
    · skip
      refine g_iconst dX12_master_21 (inR_c rfl) ?_
      have q17 : h 98 4 = v1 := ev1.symm
      exact g_ireturn dX12_master_22 retI (hPo _ _ ⟨hM, Fr.rf, (by omega), (by omega), (by omega)⟩)
  · skip
    refine g_if_eq 21 dX12_master_9 (by decide) (fun q18 => ?_) (fun _ => by exfalso; omega)
    refine g_iconst dX12_master_21 (inR_c rfl) ?_
    have q19 : h 98 4 = v1 := ev1.symm
    exact g_ireturn dX12_master_22 retI (hPo _ _ ⟨hM, Fr.rf, (by omega), (by omega), (by omega)⟩)
set_option maxRecDepth 100000 in
set_option maxHeartbeats 4000000 in
theorem c_X12_isApprentice_98 (x1 : Int) (h : MEM) (hM : MBm h) (bx1 : -2147483648 ≤ x1) (dx1 : x1 ≤ 2147483647) : CP yX12_isApprentice cX12_isApprentice 2 (some .boolean) 2 [pR 98, pI x1] h (fun x => (x = 1 ∧ 0 ≤ x1 + (0) ∧ x1 ≤ h 98 3 + (-1) ∨ x = 0 ∧ ¬ (0 ≤ x1 + (0) ∧ x1 ≤ h 98 3 + (-1)))) := by
  refine CP.of (L0 := [some (pR 98), some (pI x1)]) rfl (Nat.le_of_ble_eq_true rfl) rfl (fun Po hPo hav => ?_)
  refine g_iload_n dX12_isApprentice_0 rfl (fun _ => ?_)
  refine g_i2l dX12_isApprentice_1 ?_
  refine g_lconst (v := 0) dX12_isApprentice_2 rfl ?_
  refine g_aload_n dX12_isApprentice_3 rfl ?_
  refine gI_X12_179 rfl dX12_isApprentice_4 sh_98 (m_98_3 hM) (fun v1 ev1 bv1 cv1 => ?_)
  refine g_iconst dX12_isApprentice_7 (inR_c rfl) ?_
  refine g_isubB dX12_isApprentice_8 (by omega) (by omega) ?_
  refine g_i2l dX12_isApprentice_9 ?_
  refine g_cSP (av := [_, _, _]) (c_X12_lies _ _ _ h hM (by omega) (by omega) (by omega) (by omega) (by omega) (by omega)) dX12_isApprentice_10 mi_X12_lies st_X12_lies ml_X12_175 rfl rfl rfl rfl (Nat.le_of_ble_eq_true rfl) (fun v2 q3 => ?_)
  rcases q3 with ⟨rfl, q3⟩ | ⟨rfl, q3⟩
  · skip
    exact g_ireturn dX12_isApprentice_13 (retZ (by omega)) (hPo _ (by omega))
  · skip
    exact g_ireturn dX12_isApprentice_13 (retZ (by omega)) (hPo _ (by omega))
set_option maxRecDepth 100000 in
set_option maxHeartbeats 4000000 in
theorem c_X12_isRoof_98 (x1 : Int) (h : MEM) (hM : MBm h) (bx1 : -2147483648 ≤ x1) (dx1 : x1 ≤ 2147483647) : CP yX12_isRoof cX12_isRoof 2 (some .boolean) 2 [pR 98, pI x1] h (fun x => (x = 1 ∧ 0 ≤ x1 + (0) ∧ x1 ≤ h 98 2 + (-1) ∨ x = 0 ∧ ¬ (0 ≤ x1 + (0) ∧ x1 ≤ h 98 2 + (-1)))) := by
  refine CP.of (L0 := [some (pR 98), some (pI x1)]) rfl (Nat.le_of_ble_eq_true rfl) rfl (fun Po hPo hav => ?_)
  refine g_iload_n dX12_isRoof_0 rfl (fun _ => ?_)
  refine g_i2l dX12_isRoof_1 ?_
  refine g_lconst (v := 0) dX12_isRoof_2 rfl ?_
  refine g_aload_n dX12_isRoof_3 rfl ?_
  refine gI_X12_172 rfl dX12_isRoof_4 sh_98 (m_98_2 hM) (fun v1 ev1 bv1 cv1 => ?_)
  refine g_iconst dX12_isRoof_7 (inR_c rfl) ?_
  refine g_isubB dX12_isRoof_8 (by omega) (by omega) ?_
  refine g_i2l dX12_isRoof_9 ?_
  refine g_cSP (av := [_, _, _]) (c_X12_lies _ _ _ h hM (by omega) (by omega) (by omega) (by omega) (by omega) (by omega)) dX12_isRoof_10 mi_X12_lies st_X12_lies ml_X12_175 rfl rfl rfl rfl (Nat.le_of_ble_eq_true rfl) (fun v2 q3 => ?_)
  rcases q3 with ⟨rfl, q3⟩ | ⟨rfl, q3⟩
  · skip
    exact g_ireturn dX12_isRoof_13 (retZ (by omega)) (hPo _ (by omega))
  · skip
    exact g_ireturn dX12_isRoof_13 (retZ (by omega)) (hPo _ (by omega))
set_option maxRecDepth 100000 in
set_option maxHeartbeats 4000000 in
theorem c_X12_on_98 (x1 x2 : Int) (h : MEM) (hM : MBm h) (bx1 : -2147483648 ≤ x1) (dx1 : x1 ≤ 2147483647) (bx2 : -2147483648 ≤ x2) (dx2 : x2 ≤ 2147483647) : CI yX12_on cX12_on 3 (some .boolean) 3 [pR 98, pI x1, pI x2] h (fun x h' => MBm h' ∧ Fr [(103, 0)] h h' ∧ 0 ≤ x ∧ x ≤ 1 ∧ (((0 ≤ x1 ∧ x1 < h 98 3 ∧ (x2 = -1 ∨ 0 ≤ x2 ∧ x2 < h 98 2)) ∧ x = 1) ∨ (¬ (0 ≤ x1 ∧ x1 < h 98 3 ∧ (x2 = -1 ∨ 0 ≤ x2 ∧ x2 < h 98 2)) ∧ x = 0))) := by
  refine CI.of (L0 := [some (pR 98), some (pI x1), some (pI x2)]) rfl (Nat.le_of_ble_eq_true rfl) rfl (fun Po hPo hav => ?_)
  obtain ⟨v1, ev1⟩ : ∃ z, z = h 98 3 := ⟨_, rfl⟩
  have bv1 : 0 ≤ v1 ∧ v1 ≤ 8 := by rw [ev1]; exact (m_98_3 hM)
  obtain ⟨v2, ev2⟩ : ∃ z, z = h 98 2 := ⟨_, rfl⟩
  have bv2 : 0 ≤ v2 ∧ v2 ≤ 10 := by rw [ev2]; exact (m_98_2 hM)
  refine g_aload_n dX12_on_0 rfl ?_
  refine g_iload_n dX12_on_1 rfl (fun _ => ?_)
  refine g_cVP (as := [_]) (c_X12_isApprentice_98 _ h hM (by omega) (by omega)) dX12_on_2 mi_X12_isApprentice in_X12_isApprentice se_X12_isApprentice ml_X12_195 rfl rfl rfl sh_98 rfl rfl (Nat.le_of_ble_eq_true rfl) (fun v3 q4 => ?_)
  have q5 : h 98 3 = v1 := ev1.symm
  rcases q4 with ⟨rfl, q4⟩ | ⟨rfl, q4⟩
  · skip
    refine g_if_eq 21 dX12_on_5 (by decide) (fun _ => by exfalso; omega) (fun q6 => ?_)
    refine g_iload_n dX12_on_8 rfl (fun _ => ?_)
    refine g_iconst dX12_on_9 (inR_c rfl) ?_
    refine g_icmp_eq 23 dX12_on_10 (by decide) (fun q7 => ?_) (fun q7 => ?_)
    · skip
      refine g_aload_n dX12_on_23 rfl ?_
      refine gR_X12_27 rfl dX12_on_24 sh_98 (b := 103) (m_98_11 hM) ?_
      refine g_iload_n dX12_on_27 rfl (fun _ => ?_)
      refine g_iload_n dX12_on_28 rfl (fun _ => ?_)
      refine g_iconst dX12_on_29 (inR_c rfl) ?_
      refine g_icmp_ne 38 dX12_on_30 (by decide) (fun _ => by exfalso; omega) (fun q8 => ?_)
      refine g_bipush dX12_on_33 (inR_c rfl) (by decide) ?_
      refine g_goto 39 dX12_on_35 (by decide) ?_
      refine g_iastB dX12_on_39 sh_103 (by omega) (by omega) (fun h9 eh9 => ?_)
      have hFh9 := Fr.ar eh9
      have hMh9 := u_103 hM eh9 (by omega) (by omega)
      refine g_iconst dX12_on_40 (inR_c rfl) ?_
      exact g_ireturn dX12_on_41 (retZ (by omega)) (hPo _ _ ⟨hMh9, (Fr.sub hFh9 rfl), (by omega), (by omega), (by omega)⟩)
    · skip
      refine g_aload_n dX12_on_13 rfl ?_
      refine g_iload_n dX12_on_14 rfl (fun _ => ?_)
      refine g_cVP (as := [_]) (c_X12_isRoof_98 _ h hM (by omega) (by omega)) dX12_on_15 mi_X12_isRoof in_X12_isRoof se_X12_isRoof ml_X12_198 rfl rfl rfl sh_98 rfl rfl (Nat.le_of_ble_eq_true rfl) (fun v10 q11 => ?_)
      have q12 : h 98 2 = v2 := ev2.symm
      rcases q11 with ⟨rfl, q11⟩ | ⟨rfl, q11⟩
      · skip
        refine g_if_ne 23 dX12_on_18 (by decide) (fun q13 => ?_) (fun _ => by exfalso; omega)
        refine g_aload_n dX12_on_23 rfl ?_
        refine gR_X12_27 rfl dX12_on_24 sh_98 (b := 103) (m_98_11 hM) ?_
        refine g_iload_n dX12_on_27 rfl (fun _ => ?_)
        refine g_iload_n dX12_on_28 rfl (fun _ => ?_)
        refine g_iconst dX12_on_29 (inR_c rfl) ?_
        refine g_icmp_ne 38 dX12_on_30 (by decide) (fun q14 => ?_) (fun _ => by exfalso; omega)
        refine g_iload_n dX12_on_38 rfl (fun _ => ?_)
        refine g_iastB dX12_on_39 sh_103 (by omega) (by omega) (fun h15 eh15 => ?_)
        have hFh15 := Fr.ar eh15
        have hMh15 := u_103 hM eh15 (by omega) (by omega)
        refine g_iconst dX12_on_40 (inR_c rfl) ?_
        exact g_ireturn dX12_on_41 (retZ (by omega)) (hPo _ _ ⟨hMh15, (Fr.sub hFh15 rfl), (by omega), (by omega), (by omega)⟩)
      · skip
        refine g_if_ne 23 dX12_on_18 (by decide) (fun _ => by exfalso; omega) (fun q16 => ?_)
        refine g_iconst dX12_on_21 (inR_c rfl) ?_
        exact g_ireturn dX12_on_22 (retZ (by omega)) (hPo _ _ ⟨hM, Fr.rf, (by omega), (by omega), (by omega)⟩)
  · skip
    refine g_if_eq 21 dX12_on_5 (by decide) (fun q17 => ?_) (fun _ => by exfalso; omega)
    refine g_iconst dX12_on_21 (inR_c rfl) ?_
    exact g_ireturn dX12_on_22 (retZ (by omega)) (hPo _ _ ⟨hM, Fr.rf, (by omega), (by omega), (by omega)⟩)
set_option maxRecDepth 100000 in
set_option maxHeartbeats 4000000 in
theorem c_X12_isMaster_98 (x1 : Int) (h : MEM) (hM : MBm h) (bx1 : -2147483648 ≤ x1) (dx1 : x1 ≤ 2147483647) : CP yX12_isMaster cX12_isMaster 2 (some .boolean) 2 [pR 98, pI x1] h (fun x => (x = 1 ∧ 0 ≤ x1 + (0) ∧ x1 ≤ h 98 4 + (-1) ∨ x = 0 ∧ ¬ (0 ≤ x1 + (0) ∧ x1 ≤ h 98 4 + (-1)))) := by
  refine CP.of (L0 := [some (pR 98), some (pI x1)]) rfl (Nat.le_of_ble_eq_true rfl) rfl (fun Po hPo hav => ?_)
  refine g_iload_n dX12_isMaster_0 rfl (fun _ => ?_)
  refine g_i2l dX12_isMaster_1 ?_
  refine g_lconst (v := 0) dX12_isMaster_2 rfl ?_
  refine g_aload_n dX12_isMaster_3 rfl ?_
  refine gI_X12_182 rfl dX12_isMaster_4 sh_98 (m_98_4 hM) (fun v1 ev1 bv1 cv1 => ?_)
  refine g_iconst dX12_isMaster_7 (inR_c rfl) ?_
  refine g_isubB dX12_isMaster_8 (by omega) (by omega) ?_
  refine g_i2l dX12_isMaster_9 ?_
  refine g_cSP (av := [_, _, _]) (c_X12_lies _ _ _ h hM (by omega) (by omega) (by omega) (by omega) (by omega) (by omega)) dX12_isMaster_10 mi_X12_lies st_X12_lies ml_X12_175 rfl rfl rfl rfl (Nat.le_of_ble_eq_true rfl) (fun v2 q3 => ?_)
  rcases q3 with ⟨rfl, q3⟩ | ⟨rfl, q3⟩
  · skip
    exact g_ireturn dX12_isMaster_13 (retZ (by omega)) (hPo _ (by omega))
  · skip
    exact g_ireturn dX12_isMaster_13 (retZ (by omega)) (hPo _ (by omega))
set_option maxRecDepth 100000 in
set_option maxHeartbeats 4000000 in
theorem c_X12_below_98 (x1 x2 : Int) (h : MEM) (hM : MBm h) (bx1 : -2147483648 ≤ x1) (dx1 : x1 ≤ 2147483647) (bx2 : -2147483648 ≤ x2) (dx2 : x2 ≤ 2147483647) : CI yX12_below cX12_below 3 (some .boolean) 3 [pR 98, pI x1, pI x2] h (fun x h' => MBm h' ∧ Fr [(109, 0)] h h' ∧ 0 ≤ x ∧ x ≤ 1 ∧ (((0 ≤ x1 ∧ x1 < h 98 4 ∧ (x2 = -1 ∨ 0 ≤ x2 ∧ x2 < h 98 2)) ∧ x = 1) ∨ (¬ (0 ≤ x1 ∧ x1 < h 98 4 ∧ (x2 = -1 ∨ 0 ≤ x2 ∧ x2 < h 98 2)) ∧ x = 0))) := by
  refine CI.of (L0 := [some (pR 98), some (pI x1), some (pI x2)]) rfl (Nat.le_of_ble_eq_true rfl) rfl (fun Po hPo hav => ?_)
  obtain ⟨v1, ev1⟩ : ∃ z, z = h 98 4 := ⟨_, rfl⟩
  have bv1 : 0 ≤ v1 ∧ v1 ≤ 8 := by rw [ev1]; exact (m_98_4 hM)
  obtain ⟨v2, ev2⟩ : ∃ z, z = h 98 2 := ⟨_, rfl⟩
  have bv2 : 0 ≤ v2 ∧ v2 ≤ 10 := by rw [ev2]; exact (m_98_2 hM)
  refine g_aload_n dX12_below_0 rfl ?_
  refine g_iload_n dX12_below_1 rfl (fun _ => ?_)
  refine g_cVP (as := [_]) (c_X12_isMaster_98 _ h hM (by omega) (by omega)) dX12_below_2 mi_X12_isMaster in_X12_isMaster se_X12_isMaster ml_X12_201 rfl rfl rfl sh_98 rfl rfl (Nat.le_of_ble_eq_true rfl) (fun v3 q4 => ?_)
  have q5 : h 98 4 = v1 := ev1.symm
  rcases q4 with ⟨rfl, q4⟩ | ⟨rfl, q4⟩
  · skip
    refine g_if_eq 21 dX12_below_5 (by decide) (fun _ => by exfalso; omega) (fun q6 => ?_)
    refine g_iload_n dX12_below_8 rfl (fun _ => ?_)
    refine g_iconst dX12_below_9 (inR_c rfl) ?_
    refine g_icmp_eq 23 dX12_below_10 (by decide) (fun q7 => ?_) (fun q7 => ?_)
    · skip
      refine g_aload_n dX12_below_23 rfl ?_
      refine gR_X12_46 rfl dX12_below_24 sh_98 (b := 109) (m_98_17 hM) ?_
      refine g_iload_n dX12_below_27 rfl (fun _ => ?_)
      refine g_iload_n dX12_below_28 rfl (fun _ => ?_)
      refine g_iconst dX12_below_29 (inR_c rfl) ?_
      refine g_icmp_ne 38 dX12_below_30 (by decide) (fun _ => by exfalso; omega) (fun q8 => ?_)
      refine g_bipush dX12_below_33 (inR_c rfl) (by decide) ?_
      refine g_goto 39 dX12_below_35 (by decide) ?_
      refine g_iastB dX12_below_39 sh_109 (by omega) (by omega) (fun h9 eh9 => ?_)
      have hFh9 := Fr.ar eh9
      have hMh9 := u_109 hM eh9 (by omega) (by omega)
      refine g_iconst dX12_below_40 (inR_c rfl) ?_
      exact g_ireturn dX12_below_41 (retZ (by omega)) (hPo _ _ ⟨hMh9, (Fr.sub hFh9 rfl), (by omega), (by omega), (by omega)⟩)
    · skip
      refine g_aload_n dX12_below_13 rfl ?_
      refine g_iload_n dX12_below_14 rfl (fun _ => ?_)
      refine g_cVP (as := [_]) (c_X12_isRoof_98 _ h hM (by omega) (by omega)) dX12_below_15 mi_X12_isRoof in_X12_isRoof se_X12_isRoof ml_X12_198 rfl rfl rfl sh_98 rfl rfl (Nat.le_of_ble_eq_true rfl) (fun v10 q11 => ?_)
      have q12 : h 98 2 = v2 := ev2.symm
      rcases q11 with ⟨rfl, q11⟩ | ⟨rfl, q11⟩
      · skip
        refine g_if_ne 23 dX12_below_18 (by decide) (fun q13 => ?_) (fun _ => by exfalso; omega)
        refine g_aload_n dX12_below_23 rfl ?_
        refine gR_X12_46 rfl dX12_below_24 sh_98 (b := 109) (m_98_17 hM) ?_
        refine g_iload_n dX12_below_27 rfl (fun _ => ?_)
        refine g_iload_n dX12_below_28 rfl (fun _ => ?_)
        refine g_iconst dX12_below_29 (inR_c rfl) ?_
        refine g_icmp_ne 38 dX12_below_30 (by decide) (fun q14 => ?_) (fun _ => by exfalso; omega)
        refine g_iload_n dX12_below_38 rfl (fun _ => ?_)
        refine g_iastB dX12_below_39 sh_109 (by omega) (by omega) (fun h15 eh15 => ?_)
        have hFh15 := Fr.ar eh15
        have hMh15 := u_109 hM eh15 (by omega) (by omega)
        refine g_iconst dX12_below_40 (inR_c rfl) ?_
        exact g_ireturn dX12_below_41 (retZ (by omega)) (hPo _ _ ⟨hMh15, (Fr.sub hFh15 rfl), (by omega), (by omega), (by omega)⟩)
      · skip
        refine g_if_ne 23 dX12_below_18 (by decide) (fun _ => by exfalso; omega) (fun q16 => ?_)
        refine g_iconst dX12_below_21 (inR_c rfl) ?_
        exact g_ireturn dX12_below_22 (retZ (by omega)) (hPo _ _ ⟨hM, Fr.rf, (by omega), (by omega), (by omega)⟩)
  · skip
    refine g_if_eq 21 dX12_below_5 (by decide) (fun q17 => ?_) (fun _ => by exfalso; omega)
    refine g_iconst dX12_below_21 (inR_c rfl) ?_
    exact g_ireturn dX12_below_22 (retZ (by omega)) (hPo _ _ ⟨hM, Fr.rf, (by omega), (by omega), (by omega)⟩)
set_option maxRecDepth 100000 in
set_option maxHeartbeats 4000000 in
theorem c_X12_gear_98 (x1 x2 x3 : Int) (h : MEM) (hM : MBm h) (bx1 : -2147483648 ≤ x1) (dx1 : x1 ≤ 2147483647) (bx2 : -2147483648 ≤ x2) (dx2 : x2 ≤ 2147483647) (bx3 : 0 ≤ x3) (dx3 : x3 ≤ 1) : CI yX12_gear cX12_gear 4 (some .boolean) 3 [pR 98, pI x1, pI x2, pI x3] h (fun x h' => MBm h' ∧ Fr [(106, 0), (110, 0)] h h' ∧ 0 ≤ x ∧ x ≤ 1) := by
  refine CI.of (L0 := [some (pR 98), some (pI x1), some (pI x2), some (pI x3)]) rfl (Nat.le_of_ble_eq_true rfl) rfl (fun Po hPo hav => ?_)
  refine g_iload_n dX12_gear_0 rfl (fun _ => ?_)
  have c31 : G yX12_gear cX12_gear 4 (some .boolean) none Po (3, 180, 0, 0) 31 [some (pR 98), some (pI x1), some (pI x2), some (pI x3)] [] SH h 0 0 := by
    refine g_iload_n dX12_gear_31 rfl (fun _ => ?_)
    refine g_iconst dX12_gear_32 (inR_c rfl) ?_
    refine g_icmp_ne 54 dX12_gear_33 (by decide) (fun q1 => ?_) (fun q1 => ?_)
    · skip
      refine g_iconst dX12_gear_54 (inR_c rfl) ?_
      exact g_ireturn dX12_gear_55 (retZ (by omega)) (hPo _ _ ⟨hM, Fr.rf, (by omega), (by omega)⟩)
    · skip
      refine g_aload_n dX12_gear_36 rfl ?_
      refine g_iload_n dX12_gear_37 rfl (fun _ => ?_)
      refine g_cVP (as := [_]) (c_X12_isMaster_98 _ h hM (by omega) (by omega)) dX12_gear_38 mi_X12_isMaster in_X12_isMaster se_X12_isMaster ml_X12_201 rfl rfl rfl sh_98 rfl rfl (Nat.le_of_ble_eq_true rfl) (fun v2 q3 => ?_)
      obtain ⟨v4, ev4⟩ : ∃ z, z = h 98 4 := ⟨_, rfl⟩
      have bv4 : 0 ≤ v4 ∧ v4 ≤ 8 := by rw [ev4]; exact (m_98_4 hM)
      rcases q3 with ⟨rfl, q3⟩ | ⟨rfl, q3⟩
      · skip
        refine g_if_eq 54 dX12_gear_41 (by decide) (fun _ => by exfalso; omega) (fun q5 => ?_)
        refine g_aload_n dX12_gear_44 rfl ?_
        refine gR_X12_49 rfl dX12_gear_45 sh_98 (b := 110) (m_98_18 hM) ?_
        refine g_iload_n dX12_gear_48 rfl (fun _ => ?_)
        refine g_zaldB dX12_gear_49 sh_110 (by omega) (by omega) (m_110 hM _) (fun v6 ev6 bv6 cv6 => ?_)
        refine g_iload_n dX12_gear_50 rfl (fun _ => ?_)
        refine g_icmp_ne 56 dX12_gear_51 (by decide) (fun q7 => ?_) (fun q7 => ?_)
        · skip
          refine g_aload_n dX12_gear_56 rfl ?_
          refine gR_X12_49 rfl dX12_gear_57 sh_98 (b := 110) (m_98_18 hM) ?_
          refine g_iload_n dX12_gear_60 rfl (fun _ => ?_)
          refine g_iload_n dX12_gear_61 rfl (fun _ => ?_)
          refine g_zastB dX12_gear_62 sh_110 (by omega) (by omega) (by omega) (fun h8 eh8 => ?_)
          have hFh8 := Fr.ar eh8
          have hMh8 := u_110 hM eh8 (by omega) (by omega)
          refine g_iconst dX12_gear_63 (inR_c rfl) ?_
          exact g_ireturn dX12_gear_64 (retZ (by omega)) (hPo _ _ ⟨hMh8, (Fr.sub hFh8 rfl), (by omega), (by omega)⟩)
        · skip
          refine g_iconst dX12_gear_54 (inR_c rfl) ?_
          exact g_ireturn dX12_gear_55 (retZ (by omega)) (hPo _ _ ⟨hM, Fr.rf, (by omega), (by omega)⟩)
      · skip
        refine g_if_eq 54 dX12_gear_41 (by decide) (fun q9 => ?_) (fun _ => by exfalso; omega)
        refine g_iconst dX12_gear_54 (inR_c rfl) ?_
        exact g_ireturn dX12_gear_55 (retZ (by omega)) (hPo _ _ ⟨hM, Fr.rf, (by omega), (by omega)⟩)
  refine g_if_ne 31 dX12_gear_1 (by decide) (fun q10 => ?_) (fun q10 => ?_)
  · skip
    exact c31 
  · skip
    refine g_aload_n dX12_gear_4 rfl ?_
    refine g_iload_n dX12_gear_5 rfl (fun _ => ?_)
    refine g_cVP (as := [_]) (c_X12_isApprentice_98 _ h hM (by omega) (by omega)) dX12_gear_6 mi_X12_isApprentice in_X12_isApprentice se_X12_isApprentice ml_X12_195 rfl rfl rfl sh_98 rfl rfl (Nat.le_of_ble_eq_true rfl) (fun v11 q12 => ?_)
    obtain ⟨v13, ev13⟩ : ∃ z, z = h 98 3 := ⟨_, rfl⟩
    have bv13 : 0 ≤ v13 ∧ v13 ≤ 8 := by rw [ev13]; exact (m_98_3 hM)
    rcases q12 with ⟨rfl, q12⟩ | ⟨rfl, q12⟩
    · skip
      refine g_if_eq 31 dX12_gear_9 (by decide) (fun _ => by exfalso; omega) (fun q14 => ?_)
      refine g_aload_n dX12_gear_12 rfl ?_
      refine gR_X12_36 rfl dX12_gear_13 sh_98 (b := 106) (m_98_14 hM) ?_
      refine g_iload_n dX12_gear_16 rfl (fun _ => ?_)
      refine g_zaldB dX12_gear_17 sh_106 (by omega) (by omega) (m_106 hM _) (fun v15 ev15 bv15 cv15 => ?_)
      refine g_iload_n dX12_gear_18 rfl (fun _ => ?_)
      refine g_icmp_eq 31 dX12_gear_19 (by decide) (fun q16 => ?_) (fun q16 => ?_)
      · skip
        exact c31 
      · skip
        refine g_aload_n dX12_gear_22 rfl ?_
        refine gR_X12_36 rfl dX12_gear_23 sh_98 (b := 106) (m_98_14 hM) ?_
        refine g_iload_n dX12_gear_26 rfl (fun _ => ?_)
        refine g_iload_n dX12_gear_27 rfl (fun _ => ?_)
        refine g_zastB dX12_gear_28 sh_106 (by omega) (by omega) (by omega) (fun h17 eh17 => ?_)
        have hFh17 := Fr.ar eh17
        have hMh17 := u_106 hM eh17 (by omega) (by omega)
        refine g_iconst dX12_gear_29 (inR_c rfl) ?_
        exact g_ireturn dX12_gear_30 (retZ (by omega)) (hPo _ _ ⟨hMh17, (Fr.sub hFh17 rfl), (by omega), (by omega)⟩)
    · skip
      refine g_if_eq 31 dX12_gear_9 (by decide) (fun q18 => ?_) (fun _ => by exfalso; omega)
      exact c31 
set_option maxRecDepth 100000 in
set_option maxHeartbeats 4000000 in
theorem c_X12_snow_98 (x1 x2 : Int) (h : MEM) (hM : MBm h) (bx1 : -2147483648 ≤ x1) (dx1 : x1 ≤ 2147483647) (bx2 : 0 ≤ x2) (dx2 : x2 ≤ 1) : CI yX12_snow cX12_snow 3 (some .boolean) 2 [pR 98, pI x1, pI x2] h (fun x h' => MBm h' ∧ Fr [(114, 0)] h h' ∧ 0 ≤ x ∧ x ≤ 1 ∧ (SNQ 114 h h' x1 x2 x)) := by
  refine CI.of (L0 := [some (pR 98), some (pI x1), some (pI x2)]) rfl (Nat.le_of_ble_eq_true rfl) rfl (fun Po hPo hav => ?_)
  refine g_iload_n dX12_snow_0 rfl (fun _ => ?_)
  refine g_i2l dX12_snow_1 ?_
  refine g_lconst (v := 0) dX12_snow_2 rfl ?_
  refine g_ldc2 (v := 99) dX12_snow_3 kl_X12_187 (by decide) ?_
  refine g_cSP (av := [_, _, _]) (c_X12_lies _ _ _ h hM (by omega) (by omega) (by omega) (by omega) (by omega) (by omega)) dX12_snow_6 mi_X12_lies st_X12_lies ml_X12_175 rfl rfl rfl rfl (Nat.le_of_ble_eq_true rfl) (fun v1 q2 => ?_)
  rcases q2 with ⟨rfl, q2⟩ | ⟨rfl, q2⟩
  · skip
    refine g_if_eq 22 dX12_snow_9 (by decide) (fun _ => by exfalso; omega) (fun q3 => ?_)
    refine g_aload_n dX12_snow_12 rfl ?_
    refine gR_X12_61 rfl dX12_snow_13 sh_98 (b := 114) (m_98_22 hM) ?_
    refine g_iload_n dX12_snow_16 rfl (fun _ => ?_)
    refine g_zaldB dX12_snow_17 sh_114 (by omega) (by omega) (m_114 hM _) (fun v4 ev4 bv4 cv4 => ?_)
    refine g_iload_n dX12_snow_18 rfl (fun _ => ?_)
    refine g_icmp_ne 24 dX12_snow_19 (by decide) (fun q5 => ?_) (fun q5 => ?_)
    · skip
      refine g_aload_n dX12_snow_24 rfl ?_
      refine gR_X12_61 rfl dX12_snow_25 sh_98 (b := 114) (m_98_22 hM) ?_
      refine g_iload_n dX12_snow_28 rfl (fun _ => ?_)
      refine g_iload_n dX12_snow_29 rfl (fun _ => ?_)
      refine g_zastB dX12_snow_30 sh_114 (by omega) (by omega) (by omega) (fun h6 eh6 => ?_)
      have hFh6 := Fr.ar eh6
      have hMh6 := u_114 hM eh6 (by omega) (by omega)
      refine g_iconst dX12_snow_31 (inR_c rfl) ?_
      exact g_ireturn dX12_snow_32 (retZ (by omega)) (hPo _ _ ⟨hMh6, (Fr.sub hFh6 rfl), (by omega), (by omega), (by first | exact SNQ_y (by assumption) (by assumption) (by omega) (by omega) (by omega) (by omega) | exact SNQ_a (by omega) | exact SNQ_b (by assumption) (by omega))⟩)
    · skip
      refine g_iconst dX12_snow_22 (inR_c rfl) ?_
      exact g_ireturn dX12_snow_23 (retZ (by omega)) (hPo _ _ ⟨hM, Fr.rf, (by omega), (by omega), (by first | exact SNQ_y (by assumption) (by assumption) (by omega) (by omega) (by omega) (by omega) | exact SNQ_a (by omega) | exact SNQ_b (by assumption) (by omega))⟩)
  · skip
    refine g_if_eq 22 dX12_snow_9 (by decide) (fun q7 => ?_) (fun _ => by exfalso; omega)
    refine g_iconst dX12_snow_22 (inR_c rfl) ?_
    exact g_ireturn dX12_snow_23 (retZ (by omega)) (hPo _ _ ⟨hM, Fr.rf, (by omega), (by omega), (by first | exact SNQ_y (by assumption) (by assumption) (by omega) (by omega) (by omega) (by omega) | exact SNQ_a (by omega) | exact SNQ_b (by assumption) (by omega))⟩)
set_option maxRecDepth 100000 in
set_option maxHeartbeats 4000000 in
theorem c_X12_push_98 (x1 : Int) (h : MEM) (hM : MBm h) (bx1 : -2147483648 ≤ x1) (dx1 : x1 ≤ 2147483647) (p0_0 : 0 ≤ h 98 1) (p0_1 : h 98 1 ≤ 216) : CV yX12_push cX12_push 3 (none) 1 [pR 98, pI x1] h (fun h' => MBm h' ∧ Fr [(98, 2), (99, 0)] h h' ∧ h' 98 1 = h 98 1 + 4) := by
  refine CV.of (L0 := [some (pR 98), some (pI x1), none]) rfl (Nat.le_of_ble_eq_true rfl) rfl (fun Po hPo hav => ?_)
  obtain ⟨w98_1, ew98_1⟩ : ∃ z, z = h 98 1 := ⟨_, rfl⟩
  refine g_bipush dX12_push_0 (inR_c rfl) (by decide) ?_
  have c3 : ∀ (n : Nat) (y1 : Int) (h2 : MEM), MBm h2 → Fr [(98, 2), (99, 0)] h h2 → -8 ≤ y1 → y1 ≤ 24 → 8 * h2 98 1 = 8 * h 98 1 + 24 - y1 → y1 - (-8) < (n : Int) → G yX12_push cX12_push 3 (none) none Po (1, 60, 0, 0) 3 [some (pR 98), some (pI x1), some (pI y1)] [] SH h2 0 0 := by
    intro n
    induction n with
    | zero =>
      intro y1 h2 hMh2 hFh2 by1 dy1 e3_0 hn
      exfalso; omega
    | succ n ih3 =>
      intro y1 h2 hMh2 hFh2 by1 dy1 e3_0 hn
      refine g_iload_n dX12_push_3 rfl (fun _ => ?_)
      refine g_if_lt 36 dX12_push_4 (by decide) (fun q3 => ?_) (fun q3 => ?_)
      · skip
        obtain ⟨v4, ev4⟩ : ∃ z, z = h2 98 1 := ⟨_, rfl⟩
        have bv4 : 0 ≤ v4 ∧ v4 ≤ 220 := by rw [ev4]; exact (m_98_1 hMh2)
        exact g_return dX12_push_36 rfl (hPo _ ⟨hMh2, (Fr.sub hFh2 rfl), (by omega)⟩)
      · skip
        refine g_aload_n dX12_push_7 rfl ?_
        refine gR_X12_7 rfl dX12_push_8 sh_98 (b := 99) (m_98_0 hMh2) ?_
        refine g_aload_n dX12_push_11 rfl ?_
        refine gI_X12_204 rfl dX12_push_12 sh_98 (m_98_1 hMh2) (fun v5 ev5 bv5 cv5 => ?_)
        have a12 : 0 ≤ v5 ∧ v5 ≤ 219 := by omega
        refine g_iload_n dX12_push_15 rfl (fun _ => ?_)
        refine g_iload_n dX12_push_16 rfl (fun _ => ?_)
        refine g_ishrF dX12_push_17 (fun v6 ev6 bv6 cv6 => ?_)
        refine g_i2bF dX12_push_18 (fun v7 bv7 cv7 => ?_)
        refine g_bastB dX12_push_19 sh_99 (by omega) (by omega) (by omega) (by omega) (fun h8 eh8 => ?_)
        have hFh8 := Fr.ar eh8
        have hMh8 := u_99 hMh2 eh8 (by omega) (by omega)
        refine g_aload_n dX12_push_20 rfl ?_
        refine g_dup dX12_push_21 rfl ?_
        refine gE_X12_204 rfl dX12_push_22 sh_98 ((hFh8 98 1 rfl).trans ev5.symm) ?_
        refine g_iconst dX12_push_25 (inR_c rfl) ?_
        refine g_iaddB dX12_push_26 (by omega) (by omega) ?_
        refine pI_X12_204 rfl dX12_push_27 sh_98 (fun h9 eh9 => ?_)
        have hFh9 := Fr.st eh9
        have hMh9 := u_98_1 hMh8 eh9 (by omega) (by omega)
        refine g_iincB dX12_push_30 rfl rfl (by omega) (by omega) ?_
        refine g_goto 3 dX12_push_33 (by decide) ?_
        have q10 : h9 98 1 = (v5 + 1) := (st_at eh9)
        exact ih3 _ _ hMh9 (Fr.tr (Fr.tr (Fr.sub hFh2 rfl) hFh8 rfl) hFh9 rfl) (by omega) (by omega) (by omega) (by omega)
  refine g_istore_n dX12_push_2 (by decide) rfl ?_
  have q11 : h 98 1 = w98_1 := ew98_1.symm
  exact c3 33 _ _ hM Fr.rf (by omega) (by omega) (by omega) (by omega)
set_option maxRecDepth 100000 in
set_option maxHeartbeats 4000000 in
theorem c_X12_feed_98 (x1 x2 x3 x4 x5 : Int) (h : MEM) (hM : MBm h) (bx1 : -2147483648 ≤ x1) (dx1 : x1 ≤ 2147483647) (bx2 : -2147483648 ≤ x2) (dx2 : x2 ≤ 2147483647) (bx3 : -2147483648 ≤ x3) (dx3 : x3 ≤ 2147483647) (bx4 : -2147483648 ≤ x4) (dx4 : x4 ≤ 2147483647) (bx5 : -2147483648 ≤ x5) (dx5 : x5 ≤ 2147483647) : CI yX12_feed cX12_feed 6 (some .int) 2 [pR 98, pI x1, pI x2, pI x3, pI x4, pI x5] h (fun x h' => MBm h' ∧ Fr [(98, 2), (99, 0)] h h' ∧ -1 ≤ x ∧ x ≤ 220) := by
  refine CI.of (L0 := [some (pR 98), some (pI x1), some (pI x2), some (pI x3), some (pI x4), some (pI x5)]) rfl (Nat.le_of_ble_eq_true rfl) rfl (fun Po hPo hav => ?_)
  refine g_aload_n dX12_feed_0 rfl ?_
  refine gI_X12_204 rfl dX12_feed_1 sh_98 (m_98_1 hM) (fun v1 ev1 bv1 cv1 => ?_)
  refine g_bipush dX12_feed_4 (inR_c rfl) (by decide) ?_
  refine g_iaddB dX12_feed_6 (by omega) (by omega) ?_
  refine g_sipush dX12_feed_7 (inR_c rfl) (by decide) ?_
  refine g_icmp_le 15 dX12_feed_10 (by decide) (fun q2 => ?_) (fun q2 => ?_)
  · skip
    refine g_aload_n dX12_feed_15 rfl ?_
    refine g_iload_n dX12_feed_16 rfl (fun _ => ?_)
    have q3 : h 98 1 = v1 := ev1.symm
    have q4 : h 98 1 = v1 := ev1.symm
    refine g_cVV (as := [_]) (c_X12_push_98 _ h hM (by omega) (by omega) (by omega) (by omega)) dX12_feed_17 mi_X12_push in_X12_push se_X12_push ml_X12_207 rfl rfl rfl sh_98 rfl rfl (Nat.le_of_ble_eq_true rfl) (fun h5 q6 => ?_)
    obtain ⟨hMh5, hFh5, z7⟩ := q6
    have kz7 : h5 98 1 = (v1 + 4) := by omega
    refine g_aload_n dX12_feed_20 rfl ?_
    refine g_iload_n dX12_feed_21 rfl (fun _ => ?_)
    have q8 : h5 98 1 = (v1 + 4) := kz7
    have q9 : h5 98 1 = (v1 + 4) := kz7
    refine g_cVV (as := [_]) (c_X12_push_98 _ h5 hMh5 (by omega) (by omega) (by omega) (by omega)) dX12_feed_22 mi_X12_push in_X12_push se_X12_push ml_X12_207 rfl rfl rfl sh_98 rfl rfl (Nat.le_of_ble_eq_true rfl) (fun h10 q11 => ?_)
    obtain ⟨hMh10, hFh10, z12⟩ := q11
    have kz12 : h10 98 1 = ((v1 + 4) + 4) := by omega
    refine g_aload_n dX12_feed_25 rfl ?_
    refine g_iload_n dX12_feed_26 rfl (fun _ => ?_)
    have q13 : h10 98 1 = ((v1 + 4) + 4) := kz12
    have q14 : h10 98 1 = ((v1 + 4) + 4) := kz12
    refine g_cVV (as := [_]) (c_X12_push_98 _ h10 hMh10 (by omega) (by omega) (by omega) (by omega)) dX12_feed_27 mi_X12_push in_X12_push se_X12_push ml_X12_207 rfl rfl rfl sh_98 rfl rfl (Nat.le_of_ble_eq_true rfl) (fun h15 q16 => ?_)
    obtain ⟨hMh15, hFh15, z17⟩ := q16
    have kz17 : h15 98 1 = (((v1 + 4) + 4) + 4) := by omega
    refine g_aload_n dX12_feed_30 rfl ?_
    refine g_iload dX12_feed_31 rfl (fun _ => ?_)
    have q18 : h15 98 1 = (((v1 + 4) + 4) + 4) := kz17
    have q19 : h15 98 1 = (((v1 + 4) + 4) + 4) := kz17
    refine g_cVV (as := [_]) (c_X12_push_98 _ h15 hMh15 (by omega) (by omega) (by omega) (by omega)) dX12_feed_33 mi_X12_push in_X12_push se_X12_push ml_X12_207 rfl rfl rfl sh_98 rfl rfl (Nat.le_of_ble_eq_true rfl) (fun h20 q21 => ?_)
    obtain ⟨hMh20, hFh20, z22⟩ := q21
    have kz22 : h20 98 1 = ((((v1 + 4) + 4) + 4) + 4) := by omega
    refine g_aload_n dX12_feed_36 rfl ?_
    refine g_iload dX12_feed_37 rfl (fun _ => ?_)
    have q23 : h20 98 1 = ((((v1 + 4) + 4) + 4) + 4) := kz22
    have q24 : h20 98 1 = ((((v1 + 4) + 4) + 4) + 4) := kz22
    refine g_cVV (as := [_]) (c_X12_push_98 _ h20 hMh20 (by omega) (by omega) (by omega) (by omega)) dX12_feed_39 mi_X12_push in_X12_push se_X12_push ml_X12_207 rfl rfl rfl sh_98 rfl rfl (Nat.le_of_ble_eq_true rfl) (fun h25 q26 => ?_)
    obtain ⟨hMh25, hFh25, z27⟩ := q26
    have kz27 : h25 98 1 = (((((v1 + 4) + 4) + 4) + 4) + 4) := by omega
    refine g_aload_n dX12_feed_42 rfl ?_
    refine gE_X12_204 rfl dX12_feed_43 sh_98 kz27 ?_
    exact g_ireturn dX12_feed_46 retI (hPo _ _ ⟨hMh25, (Fr.tr (Fr.tr (Fr.tr (Fr.tr (Fr.sub hFh5 rfl) hFh10 rfl) hFh15 rfl) hFh20 rfl) hFh25 rfl), (by omega), (by omega)⟩)
  · skip
    refine g_iconst dX12_feed_13 (inR_c rfl) ?_
    exact g_ireturn dX12_feed_14 retI (hPo _ _ ⟨hM, Fr.rf, (by omega), (by omega)⟩)
set_option maxRecDepth 100000 in
set_option maxHeartbeats 4000000 in
theorem c_X12_isGood_98 (h : MEM) (hM : MBm h) : CP yX12_isGood cX12_isGood 1 (some .boolean) 1 [pR 98] h (fun x => (x = 1 ∧ 0 ≤ h 98 38 + (0) ∨ x = 0 ∧ ¬ (0 ≤ h 98 38 + (0)))) := by
  refine CP.of (L0 := [some (pR 98)]) rfl (Nat.le_of_ble_eq_true rfl) rfl (fun Po hPo hav => ?_)
  refine g_aload_n dX12_isGood_0 rfl ?_
  refine gI_X12_217 rfl dX12_isGood_1 sh_98 (m_98_38 hM) (fun v1 ev1 bv1 cv1 => ?_)
  refine g_if_ne 11 dX12_isGood_4 (by decide) (fun q2 => ?_) (fun q2 => ?_)
  · skip
    refine g_iconst dX12_isGood_11 (inR_c rfl) ?_
    exact g_ireturn dX12_isGood_12 (retZ (by omega)) (hPo _ (by omega))
  · skip
    refine g_iconst dX12_isGood_7 (inR_c rfl) ?_
    refine g_goto 12 dX12_isGood_8 (by decide) ?_
    exact g_ireturn dX12_isGood_12 (retZ (by omega)) (hPo _ (by omega))
set_option maxRecDepth 100000 in
set_option maxHeartbeats 4000000 in
theorem c_X12_here_98 (h : MEM) (hM : MBm h) : CP yX12_here cX12_here 1 (some .int) 1 [pR 98] h (fun x => 0 ≤ x ∧ x ≤ 255 ∧ x = HR h ∧ (x = 0 ∨ h 98 36 < h 98 37)) := by
  refine CP.of (L0 := [some (pR 98)]) rfl (Nat.le_of_ble_eq_true rfl) rfl (fun Po hPo hav => ?_)
  refine g_aload_n dX12_here_0 rfl ?_
  refine gI_X12_211 rfl dX12_here_1 sh_98 (m_98_36 hM) (fun v1 ev1 bv1 cv1 => ?_)
  refine g_aload_n dX12_here_4 rfl ?_
  refine gI_X12_214 rfl dX12_here_5 sh_98 (m_98_37 hM) (fun v2 ev2 bv2 cv2 => ?_)
  refine g_icmp_ge 27 dX12_here_8 (by decide) (fun q3 => ?_) (fun q3 => ?_)
  · skip
    refine g_iconst dX12_here_27 (inR_c rfl) ?_
    exact g_ireturn dX12_here_28 retI (hPo _ ⟨(by omega), (by omega), (by first | exact (hr_in (by assumption) (by assumption) (by omega) (by assumption) (by assumption)) | exact (hr_out (by assumption) (by assumption) (by omega)))⟩)
  · skip
    refine g_aload_n dX12_here_11 rfl ?_
    refine gR_X12_7 rfl dX12_here_12 sh_98 (b := 99) (m_98_0 hM) ?_
    refine g_aload_n dX12_here_15 rfl ?_
    refine gE_X12_211 rfl dX12_here_16 sh_98 ev1.symm ?_
    refine g_baldB dX12_here_19 sh_99 (by omega) (by omega) (m_99 hM _) (fun v4 ev4 bv4 cv4 => ?_)
    refine g_sipush dX12_here_20 (inR_c rfl) (by decide) ?_
    refine g_iandX (lo := 0) (hi := 255) dX12_here_23 (iand_r (by omega) (by omega)) (fun v5 ev5 bv5 cv5 => ?_)
    refine g_goto 28 dX12_here_24 (by decide) ?_
    exact g_ireturn dX12_here_28 retI (hPo _ ⟨(by omega), (by omega), (by first | exact (hr_in (by assumption) (by assumption) (by omega) (by assumption) (by assumption)) | exact (hr_out (by assumption) (by assumption) (by omega)))⟩)
set_option maxRecDepth 100000 in
set_option maxHeartbeats 4000000 in
theorem c_X12_top_98 (h : MEM) (hM : MBm h) : CP yX12_top cX12_top 1 (some .int) 1 [pR 98] h (fun x => -2147483648 ≤ x ∧ x ≤ 2147483647 ∧ x = TP h ∧ (x = 0 ∨ 1 ≤ h 98 42)) := by
  refine CP.of (L0 := [some (pR 98)]) rfl (Nat.le_of_ble_eq_true rfl) rfl (fun Po hPo hav => ?_)
  refine g_aload_n dX12_top_0 rfl ?_
  refine gI_X12_227 rfl dX12_top_1 sh_98 (m_98_42 hM) (fun v1 ev1 bv1 cv1 => ?_)
  refine g_if_le 21 dX12_top_4 (by decide) (fun q2 => ?_) (fun q2 => ?_)
  · skip
    refine g_iconst dX12_top_21 (inR_c rfl) ?_
    exact g_ireturn dX12_top_22 retI (hPo _ ⟨(by omega), (by omega), (by first | exact (tp_in (by assumption) (by omega) (by assumption)) | exact (tp_out (by assumption) (by omega)))⟩)
  · skip
    refine g_aload_n dX12_top_7 rfl ?_
    refine gR_X12_100 rfl dX12_top_8 sh_98 (b := 127) (m_98_45 hM) ?_
    refine g_aload_n dX12_top_11 rfl ?_
    refine gE_X12_227 rfl dX12_top_12 sh_98 ev1.symm ?_
    refine g_iconst dX12_top_15 (inR_c rfl) ?_
    refine g_isubB dX12_top_16 (by omega) (by omega) ?_
    refine g_ialdB dX12_top_17 sh_127 (by omega) (by omega) (m_127 hM _) (fun v3 ev3 bv3 cv3 => ?_)
    refine g_goto 22 dX12_top_18 (by decide) ?_
    exact g_ireturn dX12_top_22 retI (hPo _ ⟨(by omega), (by omega), (by first | exact (tp_in (by assumption) (by omega) (by assumption)) | exact (tp_out (by assumption) (by omega)))⟩)
set_option maxRecDepth 100000 in
set_option maxHeartbeats 4000000 in
theorem c_X12_wrongs_98 (x1 x2 : Int) (h : MEM) (hM : MBm h) (bx1 : 1 ≤ x1) (dx1 : x1 ≤ 5) (bx2 : 0 ≤ x2) (dx2 : x2 ≤ 200) : CV yX12_wrongs cX12_wrongs 3 (none) 1 [pR 98, pI x1, pI x2] h (fun h' => MBm h' ∧ Fr [(98, 39)] h h' ∧ -6000 ≤ h' 98 38 ∧ h' 98 38 ≤ -1) := by
  refine CV.of (L0 := [some (pR 98), some (pI x1), some (pI x2)]) rfl (Nat.le_of_ble_eq_true rfl) rfl (fun Po hPo hav => ?_)
  refine g_aload_n dX12_wrongs_0 rfl ?_
  refine g_aload_n dX12_wrongs_1 rfl ?_
  refine gI_X12_217 rfl dX12_wrongs_2 sh_98 (m_98_38 hM) (fun v1 ev1 bv1 cv1 => ?_)
  refine g_if_ge 15 dX12_wrongs_5 (by decide) (fun q2 => ?_) (fun q2 => ?_)
  · skip
    refine g_sipush dX12_wrongs_15 (inR_c rfl) (by decide) ?_
    refine g_iload_n dX12_wrongs_18 rfl (fun _ => ?_)
    refine g_imulB dX12_wrongs_19 (by omega) (by omega) ?_
    refine g_iload_n dX12_wrongs_20 rfl (fun _ => ?_)
    refine g_isubB dX12_wrongs_21 (by omega) (by omega) ?_
    refine pI_X12_217 rfl dX12_wrongs_22 sh_98 (fun h3 eh3 => ?_)
    have hFh3 := Fr.st eh3
    have hMh3 := u_98_38 hM eh3 (by omega) (by omega)
    have q4 : h3 98 38 = (((-1000) * x1) - x2) := (st_at eh3)
    exact g_return dX12_wrongs_25 rfl (hPo _ ⟨hMh3, (Fr.sub hFh3 rfl), (by omega), (by omega)⟩)
  · skip
    refine g_aload_n dX12_wrongs_8 rfl ?_
    refine gE_X12_217 rfl dX12_wrongs_9 sh_98 ev1.symm ?_
    refine g_goto 22 dX12_wrongs_12 (by decide) ?_
    refine pI_X12_217 rfl dX12_wrongs_22 sh_98 (fun h5 eh5 => ?_)
    have hFh5 := Fr.st eh5
    have hMh5 := u_98_38 hM eh5 (by omega) (by omega)
    have q6 : h5 98 38 = v1 := (st_at eh5)
    exact g_return dX12_wrongs_25 rfl (hPo _ ⟨hMh5, (Fr.sub hFh5 rfl), (by omega), (by omega)⟩)
set_option maxRecDepth 100000 in
set_option maxHeartbeats 4000000 in
theorem c_X12_isTimes (x1 : Int) (h : MEM) (hM : MBm h) (bx1 : -2147483648 ≤ x1) (dx1 : x1 ≤ 2147483647) : CP yX12_isTimes cX12_isTimes 1 (some .boolean) 1 [pI x1] h (fun x => 0 ≤ x ∧ x ≤ 1 ∧ (x = 1 ∧ (x1 = 42 ∨ x1 = 47 ∨ x1 = 37) ∨ x = 0 ∧ (x1 ≠ 42 ∧ x1 ≠ 47 ∧ x1 ≠ 37))) := by
  refine CP.of (L0 := [some (pI x1)]) rfl (Nat.le_of_ble_eq_true rfl) rfl (fun Po hPo hav => ?_)
  refine g_iload_n dX12_isTimes_0 rfl (fun _ => ?_)
  refine g_bipush dX12_isTimes_1 (inR_c rfl) (by decide) ?_
  refine g_icmp_eq 18 dX12_isTimes_3 (by decide) (fun q1 => ?_) (fun q1 => ?_)
  · skip
    refine g_iconst dX12_isTimes_18 (inR_c rfl) ?_
    refine g_goto 23 dX12_isTimes_19 (by decide) ?_
    exact g_ireturn dX12_isTimes_23 (retZ (by omega)) (hPo _ ⟨(by omega), (by omega), (by omega)⟩)
  · skip
    refine g_iload_n dX12_isTimes_6 rfl (fun _ => ?_)
    refine g_bipush dX12_isTimes_7 (inR_c rfl) (by decide) ?_
    refine g_icmp_eq 18 dX12_isTimes_9 (by decide) (fun q2 => ?_) (fun q2 => ?_)
    · skip
      refine g_iconst dX12_isTimes_18 (inR_c rfl) ?_
      refine g_goto 23 dX12_isTimes_19 (by decide) ?_
      exact g_ireturn dX12_isTimes_23 (retZ (by omega)) (hPo _ ⟨(by omega), (by omega), (by omega)⟩)
    · skip
      refine g_iload_n dX12_isTimes_12 rfl (fun _ => ?_)
      refine g_bipush dX12_isTimes_13 (inR_c rfl) (by decide) ?_
      refine g_icmp_ne 22 dX12_isTimes_15 (by decide) (fun q3 => ?_) (fun q3 => ?_)
      · skip
        refine g_iconst dX12_isTimes_22 (inR_c rfl) ?_
        exact g_ireturn dX12_isTimes_23 (retZ (by omega)) (hPo _ ⟨(by omega), (by omega), (by omega)⟩)
      · skip
        refine g_iconst dX12_isTimes_18 (inR_c rfl) ?_
        refine g_goto 23 dX12_isTimes_19 (by decide) ?_
        exact g_ireturn dX12_isTimes_23 (retZ (by omega)) (hPo _ ⟨(by omega), (by omega), (by omega)⟩)
set_option maxRecDepth 100000 in
set_option maxHeartbeats 4000000 in
theorem c_X12_isPlus (x1 : Int) (h : MEM) (hM : MBm h) (bx1 : -2147483648 ≤ x1) (dx1 : x1 ≤ 2147483647) : CP yX12_isPlus cX12_isPlus 1 (some .boolean) 1 [pI x1] h (fun x => 0 ≤ x ∧ x ≤ 1 ∧ (x = 1 ∧ (x1 = 43 ∨ x1 = 45) ∨ x = 0 ∧ (x1 ≠ 43 ∧ x1 ≠ 45))) := by
  refine CP.of (L0 := [some (pI x1)]) rfl (Nat.le_of_ble_eq_true rfl) rfl (fun Po hPo hav => ?_)
  refine g_iload_n dX12_isPlus_0 rfl (fun _ => ?_)
  refine g_bipush dX12_isPlus_1 (inR_c rfl) (by decide) ?_
  refine g_icmp_eq 12 dX12_isPlus_3 (by decide) (fun q1 => ?_) (fun q1 => ?_)
  · skip
    refine g_iconst dX12_isPlus_12 (inR_c rfl) ?_
    refine g_goto 17 dX12_isPlus_13 (by decide) ?_
    exact g_ireturn dX12_isPlus_17 (retZ (by omega)) (hPo _ ⟨(by omega), (by omega), (by omega)⟩)
  · skip
    refine g_iload_n dX12_isPlus_6 rfl (fun _ => ?_)
    refine g_bipush dX12_isPlus_7 (inR_c rfl) (by decide) ?_
    refine g_icmp_ne 16 dX12_isPlus_9 (by decide) (fun q2 => ?_) (fun q2 => ?_)
    · skip
      refine g_iconst dX12_isPlus_16 (inR_c rfl) ?_
      exact g_ireturn dX12_isPlus_17 (retZ (by omega)) (hPo _ ⟨(by omega), (by omega), (by omega)⟩)
    · skip
      refine g_iconst dX12_isPlus_12 (inR_c rfl) ?_
      refine g_goto 17 dX12_isPlus_13 (by decide) ?_
      exact g_ireturn dX12_isPlus_17 (retZ (by omega)) (hPo _ ⟨(by omega), (by omega), (by omega)⟩)
set_option maxRecDepth 100000 in
set_option maxHeartbeats 4000000 in
theorem c_X12_emit_98 (x1 x2 : Int) (h : MEM) (hM : MBm h) (bx1 : -2147483648 ≤ x1) (dx1 : x1 ≤ 2147483647) (bx2 : -2147483648 ≤ x2) (dx2 : x2 ≤ 2147483647) (pt0 : h 98 38 < 0 ∨ h 98 40 ≤ 199) : CV yX12_emit cX12_emit 3 (none) 2 [pR 98, pI x1, pI x2] h (fun h' => MBm h' ∧ Fr [(98, 41), (125, 0), (126, 0)] h h' ∧ (EMo h h' x1)) := by
  refine CV.of (L0 := [some (pR 98), some (pI x1), some (pI x2)]) rfl (Nat.le_of_ble_eq_true rfl) rfl (fun Po hPo hav => ?_)
  obtain ⟨v1, ev1⟩ : ∃ z, z = h 98 38 := ⟨_, rfl⟩
  have bv1 : -6000 ≤ v1 ∧ v1 ≤ 0 := by rw [ev1]; exact (m_98_38 hM)
  refine g_aload_n dX12_emit_0 rfl ?_
  refine g_cVP (as := []) (c_X12_isGood_98  h hM) dX12_emit_1 mi_X12_isGood in_X12_isGood se_X12_isGood ml_X12_220 rfl rfl rfl sh_98 rfl rfl (Nat.le_of_ble_eq_true rfl) (fun v2 q3 => ?_)
  have q4 : h 98 38 = v1 := ev1.symm
  rcases q3 with ⟨rfl, q3⟩ | ⟨rfl, q3⟩
  · skip
    refine g_if_ne 8 dX12_emit_4 (by decide) (fun q5 => ?_) (fun _ => by exfalso; omega)
    refine g_aload_n dX12_emit_8 rfl ?_
    refine gR_X12_94 rfl dX12_emit_9 sh_98 (b := 125) (m_98_34 hM) ?_
    refine g_aload_n dX12_emit_12 rfl ?_
    refine gI_X12_224 rfl dX12_emit_13 sh_98 (m_98_40 hM) (fun v6 ev6 bv6 cv6 => ?_)
    have a13 : 0 ≤ v6 ∧ v6 ≤ 199 := (by omega)
    refine g_iload_n dX12_emit_16 rfl (fun _ => ?_)
    refine g_iastB dX12_emit_17 sh_125 (by omega) (by omega) (fun h7 eh7 => ?_)
    have hFh7 := Fr.ar eh7
    have hMh7 := u_125 hM eh7 (by omega) (by omega)
    refine g_aload_n dX12_emit_18 rfl ?_
    refine gR_X12_97 rfl dX12_emit_19 sh_98 (b := 126) (m_98_35 hMh7) ?_
    refine g_aload_n dX12_emit_22 rfl ?_
    refine gE_X12_224 rfl dX12_emit_23 sh_98 ((hFh7 98 40 rfl).trans ev6.symm) ?_
    refine g_iload_n dX12_emit_26 rfl (fun _ => ?_)
    refine g_iastB dX12_emit_27 sh_126 (by omega) (by omega) (fun h8 eh8 => ?_)
    have hFh8 := Fr.ar eh8
    have hMh8 := u_126 hMh7 eh8 (by omega) (by omega)
    refine g_aload_n dX12_emit_28 rfl ?_
    refine g_dup dX12_emit_29 rfl ?_
    refine gE_X12_224 rfl dX12_emit_30 sh_98 ((hFh8 98 40 rfl).trans ((hFh7 98 40 rfl).trans ev6.symm)) ?_
    refine g_iconst dX12_emit_33 (inR_c rfl) ?_
    refine g_iaddB dX12_emit_34 (by omega) (by omega) ?_
    refine pI_X12_224 rfl dX12_emit_35 sh_98 (fun h9 eh9 => ?_)
    have hFh9 := Fr.st eh9
    have hMh9 := u_98_40 hMh8 eh9 (by omega) (by omega)
    have fa : ∀ j, h9 125 j = h7 125 j := fun j => ((hFh9 125 j rfl).trans (hFh8 125 j rfl))
    have q10 : h9 98 40 = (v6 + 1) := (st_at eh9)
    have q11 : h9 98 38 = v1 := ((hFh9 98 38 rfl).trans ((hFh8 98 38 rfl).trans ((hFh7 98 38 rfl).trans ev1.symm)))
    exact g_return dX12_emit_38 rfl (hPo _ ⟨hMh9, (Fr.tr (Fr.tr (Fr.sub hFh7 rfl) hFh8 rfl) hFh9 rfl), (by first | exact EMo_b (by omega) | exact EMo_g (by omega) (by assumption) (by assumption) fa (by omega))⟩)
  · skip
    refine g_if_ne 8 dX12_emit_4 (by decide) (fun _ => by exfalso; omega) (fun q12 => ?_)
    obtain ⟨v13, ev13⟩ : ∃ z, z = h 98 40 := ⟨_, rfl⟩
    have bv13 : 0 ≤ v13 ∧ v13 ≤ 200 := by rw [ev13]; exact (m_98_40 hM)
    have q14 : h 98 38 = v1 := ev1.symm
    exact g_return dX12_emit_7 rfl (hPo _ ⟨hM, Fr.rf, (by first | exact EMo_b (by omega) | exact EMo_g (by omega) (by assumption) (by assumption) fa (by omega))⟩)
set_option maxRecDepth 100000 in
set_option maxHeartbeats 4000000 in
theorem c_X12_sums_98 (x1 : Int) (f : Int) (gn : Nat → Int) (s : Int) (g : Nat → Int) (h : MEM) (hM : MBm h) (bx1 : 0 ≤ x1) (dx1 : x1 ≤ 1) (p0_0 : 0 ≤ h 98 38) (p0_1 : h 98 38 ≤ 0) (f_E1 : EVo f gn s g 1 h) : CV yX12_sums cX12_sums 2 (none) 3 [pR 98, pI x1] h (fun h' => MBm h' ∧ Fr [(98, 41), (98, 43), (125, 0), (126, 0)] h h' ∧ (TP h' ≠ 42 ∧ TP h' ≠ 47 ∧ TP h' ≠ 37 ∧ (x1 = 0 ∨ TP h' ≠ 43 ∧ TP h' ≠ 45)) ∧ EVo f gn s g 1 h') := by
  refine CV.of (L0 := [some (pR 98), some (pI x1)]) rfl (Nat.le_of_ble_eq_true rfl) rfl (fun Po hPo hav => ?_)
  obtain ⟨w98_38, ew98_38⟩ : ∃ z, z = h 98 38 := ⟨_, rfl⟩
  obtain ⟨v1, ev1⟩ : ∃ z, z = h 98 37 := ⟨_, rfl⟩
  have bv1 : 0 ≤ v1 ∧ v1 ≤ 200 := by rw [ev1]; exact (m_98_37 hM)
  obtain ⟨v2, ev2⟩ : ∃ z, z = h 98 36 := ⟨_, rfl⟩
  have bv2 : 0 ≤ v2 ∧ v2 ≤ 200 := by rw [ev2]; exact (m_98_36 hM)
  have q3 : h 98 38 = w98_38 := ew98_38.symm
  have q4 : h 98 36 = v2 := ev2.symm
  have q5 : h 98 37 = v1 := ev1.symm
  have lv0 := EVo.lin f_E1 (by omega)
  have c0 : ∀ (n : Nat) (h6 : MEM), MBm h6 → Fr [(98, 41), (98, 43), (125, 0), (126, 0)] h h6 → EVo f gn s g 1 h6 → 0 ≤ h6 98 42 → h6 98 42 < (n : Int) → G yX12_sums cX12_sums 2 (none) none Po (3, 180, 0, 0) 0 [some (pR 98), some (pI x1)] [] SH h6 0 0 := by
    intro n
    induction n with
    | zero =>
      intro h6 hMh6 hFh6 e0_0 e0_1 hn
      exfalso; omega
    | succ n ih0 =>
      intro h6 hMh6 hFh6 e0_0 e0_1 hn
      have q7 : h6 98 36 = v2 := ((hFh6 98 36 rfl).trans ev2.symm)
      have q8 : h6 98 37 = v1 := ((hFh6 98 37 rfl).trans ev1.symm)
      obtain ⟨v9, ev9⟩ : ∃ z, z = h6 98 42 := ⟨_, rfl⟩
      have bv9 : 0 ≤ v9 ∧ v9 ≤ 200 := by rw [ev9]; exact (m_98_42 hMh6)
      refine g_aload_n dX12_sums_0 rfl ?_
      have q10 : h6 98 42 = v9 := ev9.symm
      refine g_cVP (as := []) (c_X12_top_98  h6 hMh6) dX12_sums_1 mi_X12_top in_X12_top se_X12_top ml_X12_254 rfl rfl rfl sh_98 rfl rfl (Nat.le_of_ble_eq_true rfl) (fun v11 q12 => ?_)
      obtain ⟨bv11, cv11, zv11, yv11⟩ := q12
      refine g_cSP (av := [_]) (c_X12_isTimes _ h6 hMh6 (by omega) (by omega)) dX12_sums_4 mi_X12_isTimes st_X12_isTimes ml_X12_257 rfl rfl rfl rfl (Nat.le_of_ble_eq_true rfl) (fun v13 q14 => ?_)
      obtain ⟨bv13, cv13, zv13⟩ := q14
      refine g_if_ne 24 dX12_sums_7 (by decide) (fun q15 => ?_) (fun q15 => ?_)
      · skip
        refine g_aload_n dX12_sums_24 rfl ?_
        refine g_aload_n dX12_sums_25 rfl ?_
        have q16 : h6 98 42 = v9 := ev9.symm
        refine g_cVP (as := []) (c_X12_top_98  h6 hMh6) dX12_sums_26 mi_X12_top in_X12_top se_X12_top ml_X12_254 rfl rfl rfl sh_98 rfl rfl (Nat.le_of_ble_eq_true rfl) (fun v17 q18 => ?_)
        obtain ⟨bv17, cv17, zv17, yv17⟩ := q18
        have tv17 : v17 = v11 := by rw [zv17, zv11]
        refine g_iconst dX12_sums_29 (inR_c rfl) ?_
        have Ev1 := e0_0
        have q19 : h6 98 38 = w98_38 := ((hFh6 98 38 rfl).trans ew98_38.symm)
        have q20 : h6 98 42 = v9 := ev9.symm
        have q21 : h6 98 37 = v1 := ((hFh6 98 37 rfl).trans ev1.symm)
        have q22 : h6 98 36 = v2 := ((hFh6 98 36 rfl).trans ev2.symm)
        obtain ⟨v23, ev23⟩ : ∃ z, z = h6 98 40 := ⟨_, rfl⟩
        have bv23 : 0 ≤ v23 ∧ v23 ≤ 200 := by rw [ev23]; exact (m_98_40 hMh6)
        have lv := EVo.lin Ev1 (by omega)
        have q24 : h6 98 38 = w98_38 := ((hFh6 98 38 rfl).trans ew98_38.symm)
        have q25 : h6 98 40 = v23 := ev23.symm
        have q26 : h6 98 37 = v1 := ((hFh6 98 37 rfl).trans ev1.symm)
        refine g_cVV (as := [_, _]) (c_X12_emit_98 _ _ h6 hMh6 (by omega) (by omega) (by omega) (by omega) (by omega)) dX12_sums_30 mi_X12_emit in_X12_emit se_X12_emit ml_X12_263 rfl rfl rfl sh_98 rfl rfl (Nat.le_of_ble_eq_true rfl) (fun h27 q28 => ?_)
        obtain ⟨hMh27, hFh27, zh27⟩ := q28
        refine g_aload_n dX12_sums_33 rfl ?_
        have eS : h27 98 42 = h6 98 42 := (hFh27 98 42 rfl)
        refine g_dup dX12_sums_34 rfl ?_
        refine gE_X12_227 rfl dX12_sums_35 sh_98 ((hFh27 98 42 rfl).trans ev9.symm) ?_
        have a35 : 1 ≤ v9 ∧ v9 ≤ 200 := (by omega)
        refine g_iconst dX12_sums_38 (inR_c rfl) ?_
        refine g_isubB dX12_sums_39 (by omega) (by omega) ?_
        refine pI_X12_227 rfl dX12_sums_40 sh_98 (fun h29 eh29 => ?_)
        have hFh29 := Fr.st eh29
        have hMh29 := u_98_42 hMh27 eh29 (by omega) (by omega)
        have eC : h29 98 40 = h27 98 40 := (hFh29 98 40 rfl)
        have fN : ∀ j, h29 125 j = h27 125 j := fun j => (hFh29 125 j rfl)
        have fS : ∀ j, h29 127 j = h6 127 j := fun j => ((hFh29 127 j rfl).trans (hFh27 127 j rfl))
        have eP : h29 98 36 = h6 98 36 := ((hFh29 98 36 rfl).trans (hFh27 98 36 rfl))
        have eE : h29 98 37 = h6 98 37 := ((hFh29 98 37 rfl).trans (hFh27 98 37 rfl))
        have q30 : h29 98 42 = (v9 - 1) := (st_at eh29)
        have Ev2 : EVo f gn s g 1 h29 := EV_op Ev1 (by omega) (by assumption) (by omega) (by unfold isE; omega) (by omega) eC fN (by omega) fS eP eE
        refine g_goto 0 dX12_sums_43 (by decide) ?_
        have q31 : h29 98 42 = (v9 - 1) := (st_at eh29)
        exact ih0 _ hMh29 (Fr.tr (Fr.tr (Fr.sub hFh6 rfl) hFh27 rfl) hFh29 rfl) Ev2 (by omega) (by omega)
      · skip
        refine g_iload_n dX12_sums_10 rfl (fun _ => ?_)
        refine g_if_eq 46 dX12_sums_11 (by decide) (fun q32 => ?_) (fun q32 => ?_)
        · skip
          exact g_return dX12_sums_46 rfl (hPo _ ⟨hMh6, (Fr.sub hFh6 rfl), (by omega), e0_0⟩)
        · skip
          refine g_aload_n dX12_sums_14 rfl ?_
          have q33 : h6 98 42 = v9 := ev9.symm
          refine g_cVP (as := []) (c_X12_top_98  h6 hMh6) dX12_sums_15 mi_X12_top in_X12_top se_X12_top ml_X12_254 rfl rfl rfl sh_98 rfl rfl (Nat.le_of_ble_eq_true rfl) (fun v34 q35 => ?_)
          obtain ⟨bv34, cv34, zv34, yv34⟩ := q35
          have tv34 : v34 = v11 := by rw [zv34, zv11]
          refine g_cSP (av := [_]) (c_X12_isPlus _ h6 hMh6 (by omega) (by omega)) dX12_sums_18 mi_X12_isPlus st_X12_isPlus ml_X12_260 rfl rfl rfl rfl (Nat.le_of_ble_eq_true rfl) (fun v36 q37 => ?_)
          obtain ⟨bv36, cv36, zv36⟩ := q37
          refine g_if_eq 46 dX12_sums_21 (by decide) (fun q38 => ?_) (fun q38 => ?_)
          · skip
            exact g_return dX12_sums_46 rfl (hPo _ ⟨hMh6, (Fr.sub hFh6 rfl), (by omega), e0_0⟩)
          · skip
            refine g_aload_n dX12_sums_24 rfl ?_
            refine g_aload_n dX12_sums_25 rfl ?_
            have q39 : h6 98 42 = v9 := ev9.symm
            refine g_cVP (as := []) (c_X12_top_98  h6 hMh6) dX12_sums_26 mi_X12_top in_X12_top se_X12_top ml_X12_254 rfl rfl rfl sh_98 rfl rfl (Nat.le_of_ble_eq_true rfl) (fun v40 q41 => ?_)
            obtain ⟨bv40, cv40, zv40, yv40⟩ := q41
            have tv40 : v40 = v11 := by rw [zv40, zv11]
            refine g_iconst dX12_sums_29 (inR_c rfl) ?_
            have Ev1 := e0_0
            have q42 : h6 98 38 = w98_38 := ((hFh6 98 38 rfl).trans ew98_38.symm)
            have q43 : h6 98 42 = v9 := ev9.symm
            have q44 : h6 98 37 = v1 := ((hFh6 98 37 rfl).trans ev1.symm)
            have q45 : h6 98 36 = v2 := ((hFh6 98 36 rfl).trans ev2.symm)
            obtain ⟨v46, ev46⟩ : ∃ z, z = h6 98 40 := ⟨_, rfl⟩
            have bv46 : 0 ≤ v46 ∧ v46 ≤ 200 := by rw [ev46]; exact (m_98_40 hMh6)
            have lv := EVo.lin Ev1 (by omega)
            have q47 : h6 98 38 = w98_38 := ((hFh6 98 38 rfl).trans ew98_38.symm)
            have q48 : h6 98 40 = v46 := ev46.symm
            have q49 : h6 98 37 = v1 := ((hFh6 98 37 rfl).trans ev1.symm)
            refine g_cVV (as := [_, _]) (c_X12_emit_98 _ _ h6 hMh6 (by omega) (by omega) (by omega) (by omega) (by omega)) dX12_sums_30 mi_X12_emit in_X12_emit se_X12_emit ml_X12_263 rfl rfl rfl sh_98 rfl rfl (Nat.le_of_ble_eq_true rfl) (fun h50 q51 => ?_)
            obtain ⟨hMh50, hFh50, zh50⟩ := q51
            refine g_aload_n dX12_sums_33 rfl ?_
            have eS : h50 98 42 = h6 98 42 := (hFh50 98 42 rfl)
            refine g_dup dX12_sums_34 rfl ?_
            refine gE_X12_227 rfl dX12_sums_35 sh_98 ((hFh50 98 42 rfl).trans ev9.symm) ?_
            have a35 : 1 ≤ v9 ∧ v9 ≤ 200 := (by omega)
            refine g_iconst dX12_sums_38 (inR_c rfl) ?_
            refine g_isubB dX12_sums_39 (by omega) (by omega) ?_
            refine pI_X12_227 rfl dX12_sums_40 sh_98 (fun h52 eh52 => ?_)
            have hFh52 := Fr.st eh52
            have hMh52 := u_98_42 hMh50 eh52 (by omega) (by omega)
            have eC : h52 98 40 = h50 98 40 := (hFh52 98 40 rfl)
            have fN : ∀ j, h52 125 j = h50 125 j := fun j => (hFh52 125 j rfl)
            have fS : ∀ j, h52 127 j = h6 127 j := fun j => ((hFh52 127 j rfl).trans (hFh50 127 j rfl))
            have eP : h52 98 36 = h6 98 36 := ((hFh52 98 36 rfl).trans (hFh50 98 36 rfl))
            have eE : h52 98 37 = h6 98 37 := ((hFh52 98 37 rfl).trans (hFh50 98 37 rfl))
            have q53 : h52 98 42 = (v9 - 1) := (st_at eh52)
            have Ev2 : EVo f gn s g 1 h52 := EV_op Ev1 (by omega) (by assumption) (by omega) (by unfold isE; omega) (by omega) eC fN (by omega) fS eP eE
            refine g_goto 0 dX12_sums_43 (by decide) ?_
            have q54 : h52 98 42 = (v9 - 1) := (st_at eh52)
            exact ih0 _ hMh52 (Fr.tr (Fr.tr (Fr.sub hFh6 rfl) hFh50 rfl) hFh52 rfl) Ev2 (by omega) (by omega)
  obtain ⟨v55, ev55⟩ : ∃ z, z = h 98 42 := ⟨_, rfl⟩
  have bv55 : 0 ≤ v55 ∧ v55 ≤ 200 := by rw [ev55]; exact (m_98_42 hM)
  exact c0 201 _ hM Fr.rf f_E1 (by omega) (by omega)
set_option maxRecDepth 100000 in
set_option maxHeartbeats 4000000 in
theorem c_X12_puts_98 (x1 : Int) (h : MEM) (hM : MBm h) (bx1 : 0 ≤ x1) (dx1 : x1 ≤ 255) (p0_0 : 0 ≤ h 98 42) (p0_1 : h 98 42 ≤ 199) (p1_0 : 0 ≤ h 98 36) (p1_1 : h 98 36 ≤ 199) : CV yX12_puts cX12_puts 2 (none) 1 [pR 98, pI x1] h (fun h' => MBm h' ∧ Fr [(98, 37), (98, 43), (127, 0)] h h' ∧ (PU h h' x1) ∧ h' 98 42 = h 98 42 + 1 ∧ h' 98 36 = h 98 36 + 1) := by
  refine CV.of (L0 := [some (pR 98), some (pI x1)]) rfl (Nat.le_of_ble_eq_true rfl) rfl (fun Po hPo hav => ?_)
  obtain ⟨w98_42, ew98_42⟩ : ∃ z, z = h 98 42 := ⟨_, rfl⟩
  obtain ⟨w98_36, ew98_36⟩ : ∃ z, z = h 98 36 := ⟨_, rfl⟩
  refine g_aload_n dX12_puts_0 rfl ?_
  refine gR_X12_100 rfl dX12_puts_1 sh_98 (b := 127) (m_98_45 hM) ?_
  refine g_aload_n dX12_puts_4 rfl ?_
  refine gE_X12_227 rfl dX12_puts_5 sh_98 ew98_42.symm ?_
  refine g_iload_n dX12_puts_8 rfl (fun _ => ?_)
  refine g_iastB dX12_puts_9 sh_127 (by omega) (by omega) (fun h1 eh1 => ?_)
  have hFh1 := Fr.ar eh1
  have hMh1 := u_127 hM eh1 (by omega) (by omega)
  refine g_aload_n dX12_puts_10 rfl ?_
  refine g_dup dX12_puts_11 rfl ?_
  refine gE_X12_227 rfl dX12_puts_12 sh_98 ((hFh1 98 42 rfl).trans ew98_42.symm) ?_
  refine g_iconst dX12_puts_15 (inR_c rfl) ?_
  refine g_iaddB dX12_puts_16 (by omega) (by omega) ?_
  refine pI_X12_227 rfl dX12_puts_17 sh_98 (fun h2 eh2 => ?_)
  have hFh2 := Fr.st eh2
  have hMh2 := u_98_42 hMh1 eh2 (by omega) (by omega)
  refine g_aload_n dX12_puts_20 rfl ?_
  refine g_dup dX12_puts_21 rfl ?_
  refine gE_X12_211 rfl dX12_puts_22 sh_98 ((hFh2 98 36 rfl).trans ((hFh1 98 36 rfl).trans ew98_36.symm)) ?_
  refine g_iconst dX12_puts_25 (inR_c rfl) ?_
  refine g_iaddB dX12_puts_26 (by omega) (by omega) ?_
  refine pI_X12_211 rfl dX12_puts_27 sh_98 (fun h3 eh3 => ?_)
  have hFh3 := Fr.st eh3
  have hMh3 := u_98_36 hMh2 eh3 (by omega) (by omega)
  have fa : ∀ j, h3 127 j = h1 127 j := fun j => ((hFh3 127 j rfl).trans (hFh2 127 j rfl))
  have q4 : h3 98 42 = (w98_42 + 1) := ((hFh3 98 42 rfl).trans (st_at eh2))
  have q5 : h3 98 36 = (w98_36 + 1) := (st_at eh3)
  exact g_return dX12_puts_30 rfl (hPo _ ⟨hMh3, (Fr.tr (Fr.tr (Fr.sub hFh1 rfl) hFh2 rfl) hFh3 rfl), (PU_mk (by assumption) (by assumption) fa), (by omega), (by omega)⟩)
set_option maxRecDepth 100000 in
set_option maxHeartbeats 4000000 in
theorem c_X12_stays_98 (f : Int) (gn : Nat → Int) (s : Int) (g : Nat → Int) (h : MEM) (hM : MBm h) (p0_0 : 0 ≤ h 98 38) (p0_1 : h 98 38 ≤ 0) (p1_0 : 0 ≤ h 98 44) (p1_1 : h 98 44 ≤ 0) (f_E1 : EVo f gn s g 1 h) : CI yX12_stays cX12_stays 2 (some .boolean) 4 [pR 98] h (fun x h' => MBm h' ∧ Fr [(98, 37), (98, 39), (98, 41), (98, 42), (98, 43), (98, 45), (125, 0), (126, 0), (127, 0)] h h' ∧ 0 ≤ x ∧ x ≤ 1 ∧ SYo f gn s g x h' ∧ h 98 36 + x ≤ h' 98 36 ∧ h' 98 36 ≤ h' 98 37) := by
  refine CI.of (L0 := [some (pR 98), none]) rfl (Nat.le_of_ble_eq_true rfl) rfl (fun Po hPo hav => ?_)
  obtain ⟨w98_38, ew98_38⟩ : ∃ z, z = h 98 38 := ⟨_, rfl⟩
  obtain ⟨w98_44, ew98_44⟩ : ∃ z, z = h 98 44 := ⟨_, rfl⟩
  obtain ⟨v1, ev1⟩ : ∃ z, z = h 98 36 := ⟨_, rfl⟩
  have bv1 : 0 ≤ v1 ∧ v1 ≤ 200 := by rw [ev1]; exact (m_98_36 hM)
  obtain ⟨v2, ev2⟩ : ∃ z, z = h 98 37 := ⟨_, rfl⟩
  have bv2 : 0 ≤ v2 ∧ v2 ≤ 200 := by rw [ev2]; exact (m_98_37 hM)
  have q3 : h 98 38 = w98_38 := ew98_38.symm
  have q4 : h 98 36 = v1 := ev1.symm
  have q5 : h 98 37 = v2 := ev2.symm
  have lv0 := EVo.lin f_E1 (by omega)
  refine g_aload_n dX12_stays_0 rfl ?_
  have q6 : h 98 36 = v1 := ev1.symm
  have q7 : h 98 37 = v2 := ev2.symm
  refine g_cVP (as := []) (c_X12_here_98  h hM) dX12_stays_1 mi_X12_here in_X12_here se_X12_here ml_X12_237 rfl rfl rfl sh_98 rfl rfl (Nat.le_of_ble_eq_true rfl) (fun v8 q9 => ?_)
  obtain ⟨bv8, cv8, zv8, yv8⟩ := q9
  refine g_istore_n dX12_stays_4 (by decide) rfl ?_
  refine g_iload_n dX12_stays_5 rfl (fun _ => ?_)
  refine g_cSP (av := [_]) (c_X12_isTimes _ h hM (by omega) (by omega)) dX12_stays_6 mi_X12_isTimes st_X12_isTimes ml_X12_257 rfl rfl rfl rfl (Nat.le_of_ble_eq_true rfl) (fun v10 q11 => ?_)
  obtain ⟨bv10, cv10, zv10⟩ := q11
  refine g_if_ne 19 dX12_stays_9 (by decide) (fun q12 => ?_) (fun q12 => ?_)
  · skip
    refine g_aload_n dX12_stays_19 rfl ?_
    refine g_iload_n dX12_stays_20 rfl (fun _ => ?_)
    refine g_cSP (av := [_]) (c_X12_isPlus _ h hM (by omega) (by omega)) dX12_stays_21 mi_X12_isPlus st_X12_isPlus ml_X12_260 rfl rfl rfl rfl (Nat.le_of_ble_eq_true rfl) (fun v13 q14 => ?_)
    obtain ⟨bv13, cv13, zv13⟩ := q14
    have q15 : h 98 38 = w98_38 := ew98_38.symm
    refine g_cVV (as := [_]) (c_X12_sums_98 _ _ _ _ _ h hM (by omega) (by omega) (by omega) (by omega) f_E1) dX12_stays_24 mi_X12_sums in_X12_sums se_X12_sums ml_X12_275 rfl rfl rfl sh_98 rfl rfl (Nat.le_of_ble_eq_true rfl) (fun h16 q17 => ?_)
    obtain ⟨hMh16, hFh16, zh16, z18⟩ := q17
    refine g_aload_n dX12_stays_27 rfl ?_
    refine g_iload_n dX12_stays_28 rfl (fun _ => ?_)
    have Ev1 := z18
    have q19 : h16 98 38 = w98_38 := ((hFh16 98 38 rfl).trans ew98_38.symm)
    obtain ⟨v20, ev20⟩ : ∃ z, z = h16 98 42 := ⟨_, rfl⟩
    have bv20 : 0 ≤ v20 ∧ v20 ≤ 200 := by rw [ev20]; exact (m_98_42 hMh16)
    have q21 : h16 98 37 = v2 := ((hFh16 98 37 rfl).trans ev2.symm)
    have q22 : h16 98 36 = v1 := ((hFh16 98 36 rfl).trans ev1.symm)
    obtain ⟨v23, ev23⟩ : ∃ z, z = h16 98 40 := ⟨_, rfl⟩
    have bv23 : 0 ≤ v23 ∧ v23 ≤ 200 := by rw [ev23]; exact (m_98_40 hMh16)
    have lv := EVo.lin Ev1 (by omega)
    have q24 : h16 98 42 = v20 := ev20.symm
    have q25 : h16 98 36 = v1 := ((hFh16 98 36 rfl).trans ev1.symm)
    have q26 : h16 98 42 = v20 := ev20.symm
    have q27 : h16 98 36 = v1 := ((hFh16 98 36 rfl).trans ev1.symm)
    refine g_cVV (as := [_]) (c_X12_puts_98 _ h16 hMh16 (by omega) (by omega) (by omega) (by omega) (by omega) (by omega)) dX12_stays_29 mi_X12_puts in_X12_puts se_X12_puts ml_X12_241 rfl rfl rfl sh_98 rfl rfl (Nat.le_of_ble_eq_true rfl) (fun h28 q29 => ?_)
    obtain ⟨hMh28, hFh28, zh28, z30, z31⟩ := q29
    have kz30 : h28 98 42 = (v20 + 1) := by omega
    have kz31 : h28 98 36 = (v1 + 1) := by omega
    have q32 : h28 98 44 = w98_44 := ((hFh28 98 44 rfl).trans ((hFh16 98 44 rfl).trans ew98_44.symm))
    have q33 : h28 98 38 = w98_38 := ((hFh28 98 38 rfl).trans ((hFh16 98 38 rfl).trans ew98_38.symm))
    have sy : SYo f gn s g 1 h28 := Or.inr (Or.inl ⟨rfl, by omega, EV_bin Ev1 (by omega) (by assumption) (by unfold isE; omega) (by omega) (by omega) (by omega) (hFh28 98 40 rfl) (hFh28 98 37 rfl) (fun j => hFh28 125 j rfl)⟩)
    refine g_iconst dX12_stays_32 (inR_c rfl) ?_
    have q34 : h28 98 36 = (v1 + 1) := kz31
    have q35 : h28 98 37 = v2 := ((hFh28 98 37 rfl).trans ((hFh16 98 37 rfl).trans ev2.symm))
    have q36 : h28 98 38 = w98_38 := ((hFh28 98 38 rfl).trans ((hFh16 98 38 rfl).trans ew98_38.symm))
    have q37 : h28 98 44 = w98_44 := ((hFh28 98 44 rfl).trans ((hFh16 98 44 rfl).trans ew98_44.symm))
    exact g_ireturn dX12_stays_33 (retZ (by omega)) (hPo _ _ ⟨hMh28, (Fr.tr (Fr.sub hFh16 rfl) hFh28 rfl), (by omega), (by omega), sy, (by omega), (by omega)⟩)
  · skip
    refine g_iload_n dX12_stays_12 rfl (fun _ => ?_)
    refine g_cSP (av := [_]) (c_X12_isPlus _ h hM (by omega) (by omega)) dX12_stays_13 mi_X12_isPlus st_X12_isPlus ml_X12_260 rfl rfl rfl rfl (Nat.le_of_ble_eq_true rfl) (fun v38 q39 => ?_)
    obtain ⟨bv38, cv38, zv38⟩ := q39
    refine g_if_eq 34 dX12_stays_16 (by decide) (fun q40 => ?_) (fun q40 => ?_)
    · skip
      refine g_aload_n dX12_stays_34 rfl ?_
      refine g_iconst dX12_stays_35 (inR_c rfl) ?_
      have q41 : h 98 38 = w98_38 := ew98_38.symm
      refine g_cVV (as := [_]) (c_X12_sums_98 _ _ _ _ _ h hM (by omega) (by omega) (by omega) (by omega) f_E1) dX12_stays_36 mi_X12_sums in_X12_sums se_X12_sums ml_X12_275 rfl rfl rfl sh_98 rfl rfl (Nat.le_of_ble_eq_true rfl) (fun h42 q43 => ?_)
      obtain ⟨hMh42, hFh42, zh42, z44⟩ := q43
      refine g_iload_n dX12_stays_39 rfl (fun _ => ?_)
      refine g_bipush dX12_stays_40 (inR_c rfl) (by decide) ?_
      refine g_icmp_eq 47 dX12_stays_42 (by decide) (fun q45 => ?_) (fun q45 => ?_)
      · skip
        refine g_aload_n dX12_stays_47 rfl ?_
        obtain ⟨v46, ev46⟩ : ∃ z, z = h42 98 42 := ⟨_, rfl⟩
        have bv46 : 0 ≤ v46 ∧ v46 ≤ 200 := by rw [ev46]; exact (m_98_42 hMh42)
        refine g_cVP (as := []) (c_X12_top_98  h42 hMh42) dX12_stays_48 mi_X12_top in_X12_top se_X12_top ml_X12_254 rfl rfl rfl sh_98 rfl rfl (Nat.le_of_ble_eq_true rfl) (fun v47 q48 => ?_)
        obtain ⟨bv47, cv47, zv47, yv47⟩ := q48
        refine g_bipush dX12_stays_51 (inR_c rfl) (by decide) ?_
        refine g_icmp_eq 67 dX12_stays_53 (by decide) (fun q49 => ?_) (fun q49 => ?_)
        · skip
          refine g_aload_n dX12_stays_67 rfl ?_
          have Ev1 := z44
          have q50 : h42 98 38 = w98_38 := ((hFh42 98 38 rfl).trans ew98_38.symm)
          have q51 : h42 98 42 = v46 := ev46.symm
          have q52 : h42 98 37 = v2 := ((hFh42 98 37 rfl).trans ev2.symm)
          have q53 : h42 98 36 = v1 := ((hFh42 98 36 rfl).trans ev1.symm)
          obtain ⟨v54, ev54⟩ : ∃ z, z = h42 98 40 := ⟨_, rfl⟩
          have bv54 : 0 ≤ v54 ∧ v54 ≤ 200 := by rw [ev54]; exact (m_98_40 hMh42)
          have lv := EVo.lin Ev1 (by omega)
          refine g_dup dX12_stays_68 rfl ?_
          refine gE_X12_227 rfl dX12_stays_69 sh_98 ev46.symm ?_
          have a69 : 1 ≤ v46 ∧ v46 ≤ 200 := (by omega)
          refine g_iconst dX12_stays_72 (inR_c rfl) ?_
          refine g_isubB dX12_stays_73 (by omega) (by omega) ?_
          refine pI_X12_227 rfl dX12_stays_74 sh_98 (fun h55 eh55 => ?_)
          have hFh55 := Fr.st eh55
          have hMh55 := u_98_42 hMh42 eh55 (by omega) (by omega)
          refine g_aload_n dX12_stays_77 rfl ?_
          refine g_dup dX12_stays_78 rfl ?_
          refine gI_X12_230 rfl dX12_stays_79 sh_98 (m_98_41 hMh55) (fun v56 ev56 bv56 cv56 => ?_)
          refine g_iconst dX12_stays_82 (inR_c rfl) ?_
          refine g_isubF dX12_stays_83 (fun v57 bv57 cv57 => ?_)
          refine pI_X12_230 rfl dX12_stays_84 sh_98 (fun h58 eh58 => ?_)
          have hFh58 := Fr.st eh58
          have hMh58 := u_98_41 hMh55 eh58 (by omega) (by omega)
          refine g_aload_n dX12_stays_87 rfl ?_
          refine g_dup dX12_stays_88 rfl ?_
          refine gE_X12_211 rfl dX12_stays_89 sh_98 ((hFh58 98 36 rfl).trans ((hFh55 98 36 rfl).trans ((hFh42 98 36 rfl).trans ev1.symm))) ?_
          have a89 : 0 ≤ v1 ∧ v1 ≤ 199 := (by omega)
          refine g_iconst dX12_stays_92 (inR_c rfl) ?_
          refine g_iaddB dX12_stays_93 (by omega) (by omega) ?_
          refine pI_X12_211 rfl dX12_stays_94 sh_98 (fun h59 eh59 => ?_)
          have hFh59 := Fr.st eh59
          have hMh59 := u_98_36 hMh58 eh59 (by omega) (by omega)
          refine g_aload_n dX12_stays_97 rfl ?_
          refine g_iconst dX12_stays_98 (inR_c rfl) ?_
          refine pI_X12_279 rfl dX12_stays_99 sh_98 (by omega) (fun h60 eh60 => ?_)
          have hFh60 := Fr.st eh60
          have hMh60 := u_98_44 hMh59 eh60 (by omega) (by omega)
          have q61 : h60 98 42 = (v46 - 1) := ((hFh60 98 42 rfl).trans ((hFh59 98 42 rfl).trans ((hFh58 98 42 rfl).trans (st_at eh55))))
          have q62 : h60 98 36 = (v1 + 1) := ((hFh60 98 36 rfl).trans (st_at eh59))
          have q63 : h60 98 44 = 1 := (st_at eh60)
          have fS : ∀ j, h60 127 j = h42 127 j := fun j => ((hFh60 127 j rfl).trans ((hFh59 127 j rfl).trans ((hFh58 127 j rfl).trans (hFh55 127 j rfl))))
          have fN : ∀ j, h60 125 j = h42 125 j := fun j => ((hFh60 125 j rfl).trans ((hFh59 125 j rfl).trans ((hFh58 125 j rfl).trans (hFh55 125 j rfl))))
          have eC : h60 98 40 = h42 98 40 := ((hFh60 98 40 rfl).trans ((hFh59 98 40 rfl).trans ((hFh58 98 40 rfl).trans (hFh55 98 40 rfl))))
          have eE : h60 98 37 = h42 98 37 := ((hFh60 98 37 rfl).trans ((hFh59 98 37 rfl).trans ((hFh58 98 37 rfl).trans (hFh55 98 37 rfl))))
          have sy : SYo f gn s g 1 h60 := Or.inr (Or.inr (Or.inl ⟨rfl, by omega, EV_close Ev1 (by omega) (by omega) (by omega) (by omega) (by omega) fS (by omega) eC eE fN⟩))
          refine g_iconst dX12_stays_102 (inR_c rfl) ?_
          have q64 : h60 98 36 = (v1 + 1) := ((hFh60 98 36 rfl).trans (st_at eh59))
          have q65 : h60 98 37 = v2 := ((hFh60 98 37 rfl).trans ((hFh59 98 37 rfl).trans ((hFh58 98 37 rfl).trans ((hFh55 98 37 rfl).trans ((hFh42 98 37 rfl).trans ev2.symm)))))
          have q66 : h60 98 38 = w98_38 := ((hFh60 98 38 rfl).trans ((hFh59 98 38 rfl).trans ((hFh58 98 38 rfl).trans ((hFh55 98 38 rfl).trans ((hFh42 98 38 rfl).trans ew98_38.symm)))))
          have q67 : h60 98 44 = 1 := (st_at eh60)
          exact g_ireturn dX12_stays_103 (retZ (by omega)) (hPo _ _ ⟨hMh60, (Fr.tr (Fr.tr (Fr.tr (Fr.tr (Fr.sub hFh42 rfl) hFh55 rfl) hFh58 rfl) hFh59 rfl) hFh60 rfl), (by omega), (by omega), sy, (by omega), (by omega)⟩)
        · skip
          refine g_aload_n dX12_stays_56 rfl ?_
          refine g_iconst dX12_stays_57 (inR_c rfl) ?_
          refine g_aload_n dX12_stays_58 rfl ?_
          refine gE_X12_211 rfl dX12_stays_59 sh_98 ((hFh42 98 36 rfl).trans ev1.symm) ?_
          refine g_cVV (as := [_, _]) (c_X12_wrongs_98 _ _ h42 hMh42 (by omega) (by omega) (by omega) (by omega)) dX12_stays_62 mi_X12_wrongs in_X12_wrongs se_X12_wrongs ml_X12_233 rfl rfl rfl sh_98 rfl rfl (Nat.le_of_ble_eq_true rfl) (fun h68 q69 => ?_)
          obtain ⟨hMh68, hFh68, az70, bz70⟩ := q69
          obtain ⟨v71, ev71⟩ : ∃ z, z = h68 98 38 := ⟨_, rfl⟩
          have bv71 : -6000 ≤ v71 ∧ v71 ≤ -1 := by rw [ev71]; exact ⟨az70, bz70⟩
          have q72 : h68 98 38 = v71 := ev71.symm
          have sy : SYo f gn s g 0 h68 := Or.inl (by omega)
          refine g_iconst dX12_stays_65 (inR_c rfl) ?_
          have q73 : h68 98 36 = v1 := ((hFh68 98 36 rfl).trans ((hFh42 98 36 rfl).trans ev1.symm))
          have q74 : h68 98 37 = v2 := ((hFh68 98 37 rfl).trans ((hFh42 98 37 rfl).trans ev2.symm))
          have q75 : h68 98 38 = v71 := ev71.symm
          have q76 : h68 98 44 = w98_44 := ((hFh68 98 44 rfl).trans ((hFh42 98 44 rfl).trans ew98_44.symm))
          exact g_ireturn dX12_stays_66 (retZ (by omega)) (hPo _ _ ⟨hMh68, (Fr.tr (Fr.sub hFh42 rfl) hFh68 rfl), (by omega), (by omega), sy, (by omega), (by omega)⟩)
      · skip
        refine g_iconst dX12_stays_45 (inR_c rfl) ?_
        have Ev1 := z44
        have q77 : h42 98 38 = w98_38 := ((hFh42 98 38 rfl).trans ew98_38.symm)
        obtain ⟨v78, ev78⟩ : ∃ z, z = h42 98 42 := ⟨_, rfl⟩
        have bv78 : 0 ≤ v78 ∧ v78 ≤ 200 := by rw [ev78]; exact (m_98_42 hMh42)
        have q79 : h42 98 37 = v2 := ((hFh42 98 37 rfl).trans ev2.symm)
        have q80 : h42 98 36 = v1 := ((hFh42 98 36 rfl).trans ev1.symm)
        obtain ⟨v81, ev81⟩ : ∃ z, z = h42 98 40 := ⟨_, rfl⟩
        have bv81 : 0 ≤ v81 ∧ v81 ≤ 200 := by rw [ev81]; exact (m_98_40 hMh42)
        have sy : SYo f gn s g 0 h42 := Or.inr (Or.inr (Or.inr ⟨rfl, Ev1.good (by omega), by unfold noE; omega⟩))
        have q82 : h42 98 36 = v1 := ((hFh42 98 36 rfl).trans ev1.symm)
        have q83 : h42 98 37 = v2 := ((hFh42 98 37 rfl).trans ev2.symm)
        have q84 : h42 98 38 = w98_38 := ((hFh42 98 38 rfl).trans ew98_38.symm)
        have q85 : h42 98 44 = w98_44 := ((hFh42 98 44 rfl).trans ew98_44.symm)
        exact g_ireturn dX12_stays_46 (retZ (by omega)) (hPo _ _ ⟨hMh42, (Fr.sub hFh42 rfl), (by omega), (by omega), sy, (by omega), (by omega)⟩)
    · skip
      refine g_aload_n dX12_stays_19 rfl ?_
      refine g_iload_n dX12_stays_20 rfl (fun _ => ?_)
      refine g_cSP (av := [_]) (c_X12_isPlus _ h hM (by omega) (by omega)) dX12_stays_21 mi_X12_isPlus st_X12_isPlus ml_X12_260 rfl rfl rfl rfl (Nat.le_of_ble_eq_true rfl) (fun v86 q87 => ?_)
      obtain ⟨bv86, cv86, zv86⟩ := q87
      have q88 : h 98 38 = w98_38 := ew98_38.symm
      refine g_cVV (as := [_]) (c_X12_sums_98 _ _ _ _ _ h hM (by omega) (by omega) (by omega) (by omega) f_E1) dX12_stays_24 mi_X12_sums in_X12_sums se_X12_sums ml_X12_275 rfl rfl rfl sh_98 rfl rfl (Nat.le_of_ble_eq_true rfl) (fun h89 q90 => ?_)
      obtain ⟨hMh89, hFh89, zh89, z91⟩ := q90
      refine g_aload_n dX12_stays_27 rfl ?_
      refine g_iload_n dX12_stays_28 rfl (fun _ => ?_)
      have Ev1 := z91
      have q92 : h89 98 38 = w98_38 := ((hFh89 98 38 rfl).trans ew98_38.symm)
      obtain ⟨v93, ev93⟩ : ∃ z, z = h89 98 42 := ⟨_, rfl⟩
      have bv93 : 0 ≤ v93 ∧ v93 ≤ 200 := by rw [ev93]; exact (m_98_42 hMh89)
      have q94 : h89 98 37 = v2 := ((hFh89 98 37 rfl).trans ev2.symm)
      have q95 : h89 98 36 = v1 := ((hFh89 98 36 rfl).trans ev1.symm)
      obtain ⟨v96, ev96⟩ : ∃ z, z = h89 98 40 := ⟨_, rfl⟩
      have bv96 : 0 ≤ v96 ∧ v96 ≤ 200 := by rw [ev96]; exact (m_98_40 hMh89)
      have lv := EVo.lin Ev1 (by omega)
      have q97 : h89 98 42 = v93 := ev93.symm
      have q98 : h89 98 36 = v1 := ((hFh89 98 36 rfl).trans ev1.symm)
      have q99 : h89 98 42 = v93 := ev93.symm
      have q100 : h89 98 36 = v1 := ((hFh89 98 36 rfl).trans ev1.symm)
      refine g_cVV (as := [_]) (c_X12_puts_98 _ h89 hMh89 (by omega) (by omega) (by omega) (by omega) (by omega) (by omega)) dX12_stays_29 mi_X12_puts in_X12_puts se_X12_puts ml_X12_241 rfl rfl rfl sh_98 rfl rfl (Nat.le_of_ble_eq_true rfl) (fun h101 q102 => ?_)
      obtain ⟨hMh101, hFh101, zh101, z103, z104⟩ := q102
      have kz103 : h101 98 42 = (v93 + 1) := by omega
      have kz104 : h101 98 36 = (v1 + 1) := by omega
      have q105 : h101 98 44 = w98_44 := ((hFh101 98 44 rfl).trans ((hFh89 98 44 rfl).trans ew98_44.symm))
      have q106 : h101 98 38 = w98_38 := ((hFh101 98 38 rfl).trans ((hFh89 98 38 rfl).trans ew98_38.symm))
      have sy : SYo f gn s g 1 h101 := Or.inr (Or.inl ⟨rfl, by omega, EV_bin Ev1 (by omega) (by assumption) (by unfold isE; omega) (by omega) (by omega) (by omega) (hFh101 98 40 rfl) (hFh101 98 37 rfl) (fun j => hFh101 125 j rfl)⟩)
      refine g_iconst dX12_stays_32 (inR_c rfl) ?_
      have q107 : h101 98 36 = (v1 + 1) := kz104
      have q108 : h101 98 37 = v2 := ((hFh101 98 37 rfl).trans ((hFh89 98 37 rfl).trans ev2.symm))
      have q109 : h101 98 38 = w98_38 := ((hFh101 98 38 rfl).trans ((hFh89 98 38 rfl).trans ew98_38.symm))
      have q110 : h101 98 44 = w98_44 := ((hFh101 98 44 rfl).trans ((hFh89 98 44 rfl).trans ew98_44.symm))
      exact g_ireturn dX12_stays_33 (retZ (by omega)) (hPo _ _ ⟨hMh101, (Fr.tr (Fr.sub hFh89 rfl) hFh101 rfl), (by omega), (by omega), sy, (by omega), (by omega)⟩)
set_option maxRecDepth 100000 in
set_option maxHeartbeats 4000000 in
theorem c_X12_seesDigit_98 (h : MEM) (hM : MBm h) : CP yX12_seesDigit cX12_seesDigit 1 (some .boolean) 2 [pR 98] h (fun x => 0 ≤ x ∧ x ≤ 1 ∧ (x = 1 ∧ 48 ≤ HR h ∧ HR h ≤ 57 ∧ h 98 36 < h 98 37 ∨ x = 0 ∧ ¬ (48 ≤ HR h ∧ HR h ≤ 57))) := by
  refine CP.of (L0 := [some (pR 98)]) rfl (Nat.le_of_ble_eq_true rfl) rfl (fun Po hPo hav => ?_)
  refine g_aload_n dX12_seesDigit_0 rfl ?_
  obtain ⟨v1, ev1⟩ : ∃ z, z = h 98 36 := ⟨_, rfl⟩
  have bv1 : 0 ≤ v1 ∧ v1 ≤ 200 := by rw [ev1]; exact (m_98_36 hM)
  obtain ⟨v2, ev2⟩ : ∃ z, z = h 98 37 := ⟨_, rfl⟩
  have bv2 : 0 ≤ v2 ∧ v2 ≤ 200 := by rw [ev2]; exact (m_98_37 hM)
  refine g_cVP (as := []) (c_X12_here_98  h hM) dX12_seesDigit_1 mi_X12_here in_X12_here se_X12_here ml_X12_237 rfl rfl rfl sh_98 rfl rfl (Nat.le_of_ble_eq_true rfl) (fun v3 q4 => ?_)
  obtain ⟨bv3, cv3, zv3, yv3⟩ := q4
  refine g_i2l dX12_seesDigit_4 ?_
  refine g_ldc2 (v := 48) dX12_seesDigit_5 kl_X12_244 (by decide) ?_
  refine g_ldc2 (v := 57) dX12_seesDigit_8 kl_X12_246 (by decide) ?_
  refine g_cSP (av := [_, _, _]) (c_X12_lies _ _ _ h hM (by omega) (by omega) (by omega) (by omega) (by omega) (by omega)) dX12_seesDigit_11 mi_X12_lies st_X12_lies ml_X12_175 rfl rfl rfl rfl (Nat.le_of_ble_eq_true rfl) (fun v5 q6 => ?_)
  rcases q6 with ⟨rfl, q6⟩ | ⟨rfl, q6⟩
  · skip
    exact g_ireturn dX12_seesDigit_14 (retZ (by omega)) (hPo _ ⟨(by omega), (by omega), (by omega)⟩)
  · skip
    exact g_ireturn dX12_seesDigit_14 (retZ (by omega)) (hPo _ ⟨(by omega), (by omega), (by omega)⟩)
set_option maxRecDepth 100000 in
set_option maxHeartbeats 4000000 in
theorem c_X12_isOfMaster (x1 : Int) (h : MEM) (hM : MBm h) (bx1 : -2147483648 ≤ x1) (dx1 : x1 ≤ 2147483647) : CP yX12_isOfMaster cX12_isOfMaster 1 (some .boolean) 1 [pI x1] h (fun x => 0 ≤ x ∧ x ≤ 1 ∧ (x = 0 ∨ x1 ≠ 0)) := by
  refine CP.of (L0 := [some (pI x1)]) rfl (Nat.le_of_ble_eq_true rfl) rfl (fun Po hPo hav => ?_)
  refine g_iload_n dX12_isOfMaster_0 rfl (fun _ => ?_)
  refine g_bipush dX12_isOfMaster_1 (inR_c rfl) (by decide) ?_
  refine g_icmp_eq 18 dX12_isOfMaster_3 (by decide) (fun q1 => ?_) (fun q1 => ?_)
  · skip
    refine g_iconst dX12_isOfMaster_18 (inR_c rfl) ?_
    refine g_goto 23 dX12_isOfMaster_19 (by decide) ?_
    exact g_ireturn dX12_isOfMaster_23 (retZ (by omega)) (hPo _ ⟨(by omega), (by omega), (by omega)⟩)
  · skip
    refine g_iload_n dX12_isOfMaster_6 rfl (fun _ => ?_)
    refine g_bipush dX12_isOfMaster_7 (inR_c rfl) (by decide) ?_
    refine g_icmp_eq 18 dX12_isOfMaster_9 (by decide) (fun q2 => ?_) (fun q2 => ?_)
    · skip
      refine g_iconst dX12_isOfMaster_18 (inR_c rfl) ?_
      refine g_goto 23 dX12_isOfMaster_19 (by decide) ?_
      exact g_ireturn dX12_isOfMaster_23 (retZ (by omega)) (hPo _ ⟨(by omega), (by omega), (by omega)⟩)
    · skip
      refine g_iload_n dX12_isOfMaster_12 rfl (fun _ => ?_)
      refine g_bipush dX12_isOfMaster_13 (inR_c rfl) (by decide) ?_
      refine g_icmp_ne 22 dX12_isOfMaster_15 (by decide) (fun q3 => ?_) (fun q3 => ?_)
      · skip
        refine g_iconst dX12_isOfMaster_22 (inR_c rfl) ?_
        exact g_ireturn dX12_isOfMaster_23 (retZ (by omega)) (hPo _ ⟨(by omega), (by omega), (by omega)⟩)
      · skip
        refine g_iconst dX12_isOfMaster_18 (inR_c rfl) ?_
        refine g_goto 23 dX12_isOfMaster_19 (by decide) ?_
        exact g_ireturn dX12_isOfMaster_23 (retZ (by omega)) (hPo _ ⟨(by omega), (by omega), (by omega)⟩)
set_option maxRecDepth 100000 in
set_option maxHeartbeats 4000000 in
theorem c_X12_isValue (x1 : Int) (h : MEM) (hM : MBm h) (bx1 : 0 ≤ x1) (dx1 : x1 ≤ 255) : CP yX12_isValue cX12_isValue 1 (some .boolean) 2 [pI x1] h (fun x => 0 ≤ x ∧ x ≤ 1 ∧ (x = 0 ∨ x1 ≠ 0)) := by
  refine CP.of (L0 := [some (pI x1)]) rfl (Nat.le_of_ble_eq_true rfl) rfl (fun Po hPo hav => ?_)
  refine g_iload_n dX12_isValue_0 rfl (fun _ => ?_)
  refine g_cSP (av := [_]) (c_X12_isOfMaster _ h hM (by omega) (by omega)) dX12_isValue_1 mi_X12_isOfMaster st_X12_isOfMaster ml_X12_251 rfl rfl rfl rfl (Nat.le_of_ble_eq_true rfl) (fun v1 q2 => ?_)
  obtain ⟨bv1, cv1, zv1⟩ := q2
  refine g_if_ne 61 dX12_isValue_4 (by decide) (fun q3 => ?_) (fun q3 => ?_)
  · skip
    refine g_iconst dX12_isValue_61 (inR_c rfl) ?_
    refine g_goto 66 dX12_isValue_62 (by decide) ?_
    exact g_ireturn dX12_isValue_66 (retZ (by omega)) (hPo _ ⟨(by omega), (by omega), (by omega)⟩)
  · skip
    refine g_iload_n dX12_isValue_7 rfl (fun _ => ?_)
    refine g_bipush dX12_isValue_8 (inR_c rfl) (by decide) ?_
    refine g_icmp_eq 61 dX12_isValue_10 (by decide) (fun q4 => ?_) (fun q4 => ?_)
    · skip
      refine g_iconst dX12_isValue_61 (inR_c rfl) ?_
      refine g_goto 66 dX12_isValue_62 (by decide) ?_
      exact g_ireturn dX12_isValue_66 (retZ (by omega)) (hPo _ ⟨(by omega), (by omega), (by omega)⟩)
    · skip
      refine g_iload_n dX12_isValue_13 rfl (fun _ => ?_)
      refine g_bipush dX12_isValue_14 (inR_c rfl) (by decide) ?_
      refine g_icmp_eq 61 dX12_isValue_16 (by decide) (fun q5 => ?_) (fun q5 => ?_)
      · skip
        refine g_iconst dX12_isValue_61 (inR_c rfl) ?_
        refine g_goto 66 dX12_isValue_62 (by decide) ?_
        exact g_ireturn dX12_isValue_66 (retZ (by omega)) (hPo _ ⟨(by omega), (by omega), (by omega)⟩)
      · skip
        refine g_iload_n dX12_isValue_19 rfl (fun _ => ?_)
        refine g_bipush dX12_isValue_20 (inR_c rfl) (by decide) ?_
        refine g_icmp_eq 61 dX12_isValue_22 (by decide) (fun q6 => ?_) (fun q6 => ?_)
        · skip
          refine g_iconst dX12_isValue_61 (inR_c rfl) ?_
          refine g_goto 66 dX12_isValue_62 (by decide) ?_
          exact g_ireturn dX12_isValue_66 (retZ (by omega)) (hPo _ ⟨(by omega), (by omega), (by omega)⟩)
        · skip
          refine g_iload_n dX12_isValue_25 rfl (fun _ => ?_)
          refine g_bipush dX12_isValue_26 (inR_c rfl) (by decide) ?_
          refine g_icmp_eq 61 dX12_isValue_28 (by decide) (fun q7 => ?_) (fun q7 => ?_)
          · skip
            refine g_iconst dX12_isValue_61 (inR_c rfl) ?_
            refine g_goto 66 dX12_isValue_62 (by decide) ?_
            exact g_ireturn dX12_isValue_66 (retZ (by omega)) (hPo _ ⟨(by omega), (by omega), (by omega)⟩)
          · skip
            refine g_iload_n dX12_isValue_31 rfl (fun _ => ?_)
            refine g_bipush dX12_isValue_32 (inR_c rfl) (by decide) ?_
            refine g_icmp_eq 61 dX12_isValue_34 (by decide) (fun q8 => ?_) (fun q8 => ?_)
            · skip
              refine g_iconst dX12_isValue_61 (inR_c rfl) ?_
              refine g_goto 66 dX12_isValue_62 (by decide) ?_
              exact g_ireturn dX12_isValue_66 (retZ (by omega)) (hPo _ ⟨(by omega), (by omega), (by omega)⟩)
            · skip
              refine g_iload_n dX12_isValue_37 rfl (fun _ => ?_)
              refine g_bipush dX12_isValue_38 (inR_c rfl) (by decide) ?_
              refine g_icmp_eq 61 dX12_isValue_40 (by decide) (fun q9 => ?_) (fun q9 => ?_)
              · skip
                refine g_iconst dX12_isValue_61 (inR_c rfl) ?_
                refine g_goto 66 dX12_isValue_62 (by decide) ?_
                exact g_ireturn dX12_isValue_66 (retZ (by omega)) (hPo _ ⟨(by omega), (by omega), (by omega)⟩)
              · skip
                refine g_iload_n dX12_isValue_43 rfl (fun _ => ?_)
                refine g_bipush dX12_isValue_44 (inR_c rfl) (by decide) ?_
                refine g_icmp_eq 61 dX12_isValue_46 (by decide) (fun q10 => ?_) (fun q10 => ?_)
                · skip
                  refine g_iconst dX12_isValue_61 (inR_c rfl) ?_
                  refine g_goto 66 dX12_isValue_62 (by decide) ?_
                  exact g_ireturn dX12_isValue_66 (retZ (by omega)) (hPo _ ⟨(by omega), (by omega), (by omega)⟩)
                · skip
                  refine g_iload_n dX12_isValue_49 rfl (fun _ => ?_)
                  refine g_bipush dX12_isValue_50 (inR_c rfl) (by decide) ?_
                  refine g_icmp_eq 61 dX12_isValue_52 (by decide) (fun q11 => ?_) (fun q11 => ?_)
                  · skip
                    refine g_iconst dX12_isValue_61 (inR_c rfl) ?_
                    refine g_goto 66 dX12_isValue_62 (by decide) ?_
                    exact g_ireturn dX12_isValue_66 (retZ (by omega)) (hPo _ ⟨(by omega), (by omega), (by omega)⟩)
                  · skip
                    refine g_iload_n dX12_isValue_55 rfl (fun _ => ?_)
                    refine g_bipush dX12_isValue_56 (inR_c rfl) (by decide) ?_
                    refine g_icmp_ne 65 dX12_isValue_58 (by decide) (fun q12 => ?_) (fun q12 => ?_)
                    · skip
                      refine g_iconst dX12_isValue_65 (inR_c rfl) ?_
                      exact g_ireturn dX12_isValue_66 (retZ (by omega)) (hPo _ ⟨(by omega), (by omega), (by omega)⟩)
                    · skip
                      refine g_iconst dX12_isValue_61 (inR_c rfl) ?_
                      refine g_goto 66 dX12_isValue_62 (by decide) ?_
                      exact g_ireturn dX12_isValue_66 (retZ (by omega)) (hPo _ ⟨(by omega), (by omega), (by omega)⟩)
set_option maxRecDepth 100000 in
set_option maxHeartbeats 4000000 in
theorem c_X12_reads_98 (h : MEM) (hM : MBm h) (p0_0 : 0 ≤ h 98 38) (p0_1 : h 98 38 ≤ 0) (pt0 : h 98 36 ≤ h 98 37) : CI yX12_reads cX12_reads 3 (some .int) 3 [pR 98] h (fun x h' => MBm h' ∧ Fr [(98, 37), (98, 39)] h h' ∧ -2147483648 ≤ x ∧ x ≤ 2147483647 ∧ ((h' 98 38 < 0 ∨ h 98 36 + 1 ≤ h' 98 36 ∨ ¬ (48 ≤ HR h ∧ HR h ≤ 57)) ∧ h 98 36 ≤ h' 98 36 ∧ h' 98 36 ≤ h' 98 37)) := by
  refine CI.of (L0 := [some (pR 98), none, none]) rfl (Nat.le_of_ble_eq_true rfl) rfl (fun Po hPo hav => ?_)
  obtain ⟨w98_38, ew98_38⟩ : ∃ z, z = h 98 38 := ⟨_, rfl⟩
  obtain ⟨v1, ev1⟩ : ∃ z, z = h 98 36 := ⟨_, rfl⟩
  have bv1 : 0 ≤ v1 ∧ v1 ≤ 200 := by rw [ev1]; exact (m_98_36 hM)
  obtain ⟨v2, ev2⟩ : ∃ z, z = h 98 37 := ⟨_, rfl⟩
  have bv2 : 0 ≤ v2 ∧ v2 ≤ 200 := by rw [ev2]; exact (m_98_37 hM)
  refine g_aload_n dX12_reads_0 rfl ?_
  refine gE_X12_211 rfl dX12_reads_1 sh_98 ev1.symm ?_
  refine g_istore_n dX12_reads_4 (by decide) rfl ?_
  refine g_iconst dX12_reads_5 (inR_c rfl) ?_
  have c7 : ∀ (n : Nat) (y3 : Int) (h4 : MEM), MBm h4 → Fr [(98, 37), (98, 39)] h h4 → -2147483648 ≤ y3 → y3 ≤ 2147483647 → h 98 36 ≤ h4 98 36 → h4 98 36 ≤ h 98 37 → h4 98 36 = h 98 36 ∨ h 98 36 + 1 ≤ h4 98 36 → h4 98 36 ≤ 200 → 200 - h4 98 36 < (n : Int) → G yX12_reads cX12_reads 3 (some .int) none Po (3, 180, 0, 0) 7 [some (pR 98), some (pI v1), some (pI y3)] [] SH h4 0 0 := by
    intro n
    induction n with
    | zero =>
      intro y3 h4 hMh4 hFh4 by3 dy3 e7_0 e7_1 e7_2 e7_3 hn
      exfalso; omega
    | succ n ih7 =>
      intro y3 h4 hMh4 hFh4 by3 dy3 e7_0 e7_1 e7_2 e7_3 hn
      obtain ⟨v5, ev5⟩ : ∃ z, z = h4 98 36 := ⟨_, rfl⟩
      have bv5 : 0 ≤ v5 ∧ v5 ≤ 200 := by rw [ev5]; exact (m_98_36 hMh4)
      have q6 : h4 98 37 = v2 := ((hFh4 98 37 rfl).trans ev2.symm)
      obtain ⟨v7, ev7⟩ : ∃ z, z = h4 98 38 := ⟨_, rfl⟩
      have bv7 : -6000 ≤ v7 ∧ v7 ≤ 0 := by rw [ev7]; exact (m_98_38 hMh4)
      refine g_aload_n dX12_reads_7 rfl ?_
      refine g_cVP (as := []) (c_X12_isGood_98  h4 hMh4) dX12_reads_8 mi_X12_isGood in_X12_isGood se_X12_isGood ml_X12_220 rfl rfl rfl sh_98 rfl rfl (Nat.le_of_ble_eq_true rfl) (fun v8 q9 => ?_)
      have q10 : h4 98 38 = v7 := ev7.symm
      rcases q9 with ⟨rfl, q9⟩ | ⟨rfl, q9⟩
      · skip
        refine g_if_eq 66 dX12_reads_11 (by decide) (fun _ => by exfalso; omega) (fun q11 => ?_)
        refine g_aload_n dX12_reads_14 rfl ?_
        have q12 : h4 98 36 = v5 := ev5.symm
        have q13 : h4 98 37 = v2 := ((hFh4 98 37 rfl).trans ev2.symm)
        refine g_cVP (as := []) (c_X12_seesDigit_98  h4 hMh4) dX12_reads_15 mi_X12_seesDigit in_X12_seesDigit se_X12_seesDigit ml_X12_248 rfl rfl rfl sh_98 rfl rfl (Nat.le_of_ble_eq_true rfl) (fun v14 q15 => ?_)
        obtain ⟨bv14, cv14, zv14⟩ := q15
        refine g_if_eq 66 dX12_reads_18 (by decide) (fun q16 => ?_) (fun q16 => ?_)
        · skip
          refine g_iload_n dX12_reads_66 rfl (fun _ => ?_)
          have frT : ∀ j, h4 99 j = h 99 j := fun j => (hFh4 99 j rfl)
          have eE : h4 98 37 = h 98 37 := (hFh4 98 37 rfl)
          have q17 : h4 98 36 = v5 := ev5.symm
          have q18 : h4 98 38 = v7 := ev7.symm
          have q19 : h4 98 37 = v2 := ((hFh4 98 37 rfl).trans ev2.symm)
          exact g_ireturn dX12_reads_67 retI (hPo _ _ ⟨hMh4, (Fr.sub hFh4 rfl), (by omega), (by omega), (by have hr := HR_or eE frT; omega)⟩)
        · skip
          refine g_aload_n dX12_reads_21 rfl ?_
          have q20 : h4 98 37 = v2 := ((hFh4 98 37 rfl).trans ev2.symm)
          have q21 : h4 98 36 = v5 := ev5.symm
          refine gE_X12_211 rfl dX12_reads_22 sh_98 ev5.symm ?_
          refine g_iload_n dX12_reads_25 rfl (fun _ => ?_)
          refine g_iconst dX12_reads_26 (inR_c rfl) ?_
          refine g_iaddB dX12_reads_27 (by omega) (by omega) ?_
          refine g_icmp_ne 40 dX12_reads_28 (by decide) (fun q22 => ?_) (fun q22 => ?_)
          · skip
            refine g_bipush dX12_reads_40 (inR_c rfl) (by decide) ?_
            refine g_iload_n dX12_reads_42 rfl (fun _ => ?_)
            refine g_imulF dX12_reads_43 (fun v23 bv23 cv23 => ?_)
            refine g_aload_n dX12_reads_44 rfl ?_
            have q24 : h4 98 36 = v5 := ev5.symm
            have q25 : h4 98 37 = v2 := ((hFh4 98 37 rfl).trans ev2.symm)
            refine g_cVP (as := []) (c_X12_here_98  h4 hMh4) dX12_reads_45 mi_X12_here in_X12_here se_X12_here ml_X12_237 rfl rfl rfl sh_98 rfl rfl (Nat.le_of_ble_eq_true rfl) (fun v26 q27 => ?_)
            obtain ⟨bv26, cv26, zv26, yv26⟩ := q27
            refine g_iaddF dX12_reads_48 (fun v28 bv28 cv28 => ?_)
            refine g_bipush dX12_reads_49 (inR_c rfl) (by decide) ?_
            refine g_isubF dX12_reads_51 (fun v29 bv29 cv29 => ?_)
            refine g_istore_n dX12_reads_52 (by decide) rfl ?_
            refine g_aload_n dX12_reads_53 rfl ?_
            refine g_dup dX12_reads_54 rfl ?_
            refine gE_X12_211 rfl dX12_reads_55 sh_98 ev5.symm ?_
            have a55 : 0 ≤ v5 ∧ v5 ≤ 199 := (by omega)
            refine g_iconst dX12_reads_58 (inR_c rfl) ?_
            refine g_iaddB dX12_reads_59 (by omega) (by omega) ?_
            refine pI_X12_211 rfl dX12_reads_60 sh_98 (fun h30 eh30 => ?_)
            have hFh30 := Fr.st eh30
            have hMh30 := u_98_36 hMh4 eh30 (by omega) (by omega)
            refine g_goto 7 dX12_reads_63 (by decide) ?_
            have q31 : h30 98 36 = (v5 + 1) := (st_at eh30)
            have q32 : h30 98 37 = v2 := ((hFh30 98 37 rfl).trans ((hFh4 98 37 rfl).trans ev2.symm))
            have q33 : h30 98 38 = v7 := ((hFh30 98 38 rfl).trans ev7.symm)
            exact ih7 _ _ hMh30 (Fr.tr (Fr.sub hFh4 rfl) hFh30 rfl) (by omega) (by omega) (by omega) (by omega) (by omega) (by omega) (by omega)
          · skip
            refine g_aload_n dX12_reads_31 rfl ?_
            refine g_iconst dX12_reads_32 (inR_c rfl) ?_
            refine g_aload_n dX12_reads_33 rfl ?_
            refine gE_X12_211 rfl dX12_reads_34 sh_98 ev5.symm ?_
            refine g_cVV (as := [_, _]) (c_X12_wrongs_98 _ _ h4 hMh4 (by omega) (by omega) (by omega) (by omega)) dX12_reads_37 mi_X12_wrongs in_X12_wrongs se_X12_wrongs ml_X12_233 rfl rfl rfl sh_98 rfl rfl (Nat.le_of_ble_eq_true rfl) (fun h34 q35 => ?_)
            obtain ⟨hMh34, hFh34, az36, bz36⟩ := q35
            obtain ⟨v37, ev37⟩ : ∃ z, z = h34 98 38 := ⟨_, rfl⟩
            have bv37 : -6000 ≤ v37 ∧ v37 ≤ -1 := by rw [ev37]; exact ⟨az36, bz36⟩
            refine g_bipush dX12_reads_40 (inR_c rfl) (by decide) ?_
            refine g_iload_n dX12_reads_42 rfl (fun _ => ?_)
            refine g_imulF dX12_reads_43 (fun v38 bv38 cv38 => ?_)
            refine g_aload_n dX12_reads_44 rfl ?_
            have q39 : h34 98 36 = v5 := ((hFh34 98 36 rfl).trans ev5.symm)
            have q40 : h34 98 37 = v2 := ((hFh34 98 37 rfl).trans ((hFh4 98 37 rfl).trans ev2.symm))
            refine g_cVP (as := []) (c_X12_here_98  h34 hMh34) dX12_reads_45 mi_X12_here in_X12_here se_X12_here ml_X12_237 rfl rfl rfl sh_98 rfl rfl (Nat.le_of_ble_eq_true rfl) (fun v41 q42 => ?_)
            obtain ⟨bv41, cv41, zv41, yv41⟩ := q42
            refine g_iaddF dX12_reads_48 (fun v43 bv43 cv43 => ?_)
            refine g_bipush dX12_reads_49 (inR_c rfl) (by decide) ?_
            refine g_isubF dX12_reads_51 (fun v44 bv44 cv44 => ?_)
            refine g_istore_n dX12_reads_52 (by decide) rfl ?_
            refine g_aload_n dX12_reads_53 rfl ?_
            refine g_dup dX12_reads_54 rfl ?_
            refine gE_X12_211 rfl dX12_reads_55 sh_98 ((hFh34 98 36 rfl).trans ev5.symm) ?_
            have a55 : 0 ≤ v5 ∧ v5 ≤ 199 := (by omega)
            refine g_iconst dX12_reads_58 (inR_c rfl) ?_
            refine g_iaddB dX12_reads_59 (by omega) (by omega) ?_
            refine pI_X12_211 rfl dX12_reads_60 sh_98 (fun h45 eh45 => ?_)
            have hFh45 := Fr.st eh45
            have hMh45 := u_98_36 hMh34 eh45 (by omega) (by omega)
            refine g_goto 7 dX12_reads_63 (by decide) ?_
            have q46 : h45 98 36 = (v5 + 1) := (st_at eh45)
            have q47 : h45 98 37 = v2 := ((hFh45 98 37 rfl).trans ((hFh34 98 37 rfl).trans ((hFh4 98 37 rfl).trans ev2.symm)))
            have q48 : h45 98 38 = v37 := ((hFh45 98 38 rfl).trans ev37.symm)
            exact ih7 _ _ hMh45 (Fr.tr (Fr.tr (Fr.sub hFh4 rfl) hFh34 rfl) hFh45 rfl) (by omega) (by omega) (by omega) (by omega) (by omega) (by omega) (by omega)
      · skip
        refine g_if_eq 66 dX12_reads_11 (by decide) (fun q49 => ?_) (fun _ => by exfalso; omega)
        refine g_iload_n dX12_reads_66 rfl (fun _ => ?_)
        have frT : ∀ j, h4 99 j = h 99 j := fun j => (hFh4 99 j rfl)
        have eE : h4 98 37 = h 98 37 := (hFh4 98 37 rfl)
        have q50 : h4 98 36 = v5 := ev5.symm
        have q51 : h4 98 38 = v7 := ev7.symm
        have q52 : h4 98 37 = v2 := ((hFh4 98 37 rfl).trans ev2.symm)
        exact g_ireturn dX12_reads_67 retI (hPo _ _ ⟨hMh4, (Fr.sub hFh4 rfl), (by omega), (by omega), (by have hr := HR_or eE frT; omega)⟩)
  refine g_istore_n dX12_reads_6 (by decide) rfl ?_
  have q53 : h 98 36 = v1 := ev1.symm
  have q54 : h 98 37 = v2 := ev2.symm
  have q55 : h 98 38 = w98_38 := ew98_38.symm
  exact c7 201 _ _ hM Fr.rf (by omega) (by omega) (by omega) (by omega) (by omega) (by omega) (by omega)
