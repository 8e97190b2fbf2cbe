def yJB : MethodName := ⟨"java/lang/Integer", "bitCount", "(I)I"⟩
theorem dJB_0 : decode prog_16_method_49_code 0 = .ok (.iload_n 0, 1) := by decide +kernel
theorem dJB_1 : decode prog_16_method_49_code 1 = .ok (.iload_n 0, 1) := by decide +kernel
theorem dJB_2 : decode prog_16_method_49_code 2 = .ok (.iconst 1, 1) := by decide +kernel
theorem dJB_3 : decode prog_16_method_49_code 3 = .ok (.iushr, 1) := by decide +kernel
theorem dJB_4 : decode prog_16_method_49_code 4 = .ok (.ldc_w 265, 3) := by decide +kernel
theorem dJB_7 : decode prog_16_method_49_code 7 = .ok (.iand, 1) := by decide +kernel
theorem dJB_8 : decode prog_16_method_49_code 8 = .ok (.isub, 1) := by decide +kernel
theorem dJB_9 : decode prog_16_method_49_code 9 = .ok (.istore_n 0, 1) := by decide +kernel
theorem dJB_10 : decode prog_16_method_49_code 10 = .ok (.iload_n 0, 1) := by decide +kernel
theorem dJB_11 : decode prog_16_method_49_code 11 = .ok (.ldc_w 266, 3) := by decide +kernel
theorem dJB_14 : decode prog_16_method_49_code 14 = .ok (.iand, 1) := by decide +kernel
theorem dJB_15 : decode prog_16_method_49_code 15 = .ok (.iload_n 0, 1) := by decide +kernel
theorem dJB_16 : decode prog_16_method_49_code 16 = .ok (.iconst 2, 1) := by decide +kernel
theorem dJB_17 : decode prog_16_method_49_code 17 = .ok (.iushr, 1) := by decide +kernel
theorem dJB_18 : decode prog_16_method_49_code 18 = .ok (.ldc_w 266, 3) := by decide +kernel
theorem dJB_21 : decode prog_16_method_49_code 21 = .ok (.iand, 1) := by decide +kernel
theorem dJB_22 : decode prog_16_method_49_code 22 = .ok (.iadd, 1) := by decide +kernel
theorem dJB_23 : decode prog_16_method_49_code 23 = .ok (.istore_n 0, 1) := by decide +kernel
theorem dJB_24 : decode prog_16_method_49_code 24 = .ok (.iload_n 0, 1) := by decide +kernel
theorem dJB_25 : decode prog_16_method_49_code 25 = .ok (.iload_n 0, 1) := by decide +kernel
theorem dJB_26 : decode prog_16_method_49_code 26 = .ok (.iconst 4, 1) := by decide +kernel
theorem dJB_27 : decode prog_16_method_49_code 27 = .ok (.iushr, 1) := by decide +kernel
theorem dJB_28 : decode prog_16_method_49_code 28 = .ok (.iadd, 1) := by decide +kernel
theorem dJB_29 : decode prog_16_method_49_code 29 = .ok (.ldc_w 267, 3) := by decide +kernel
theorem dJB_32 : decode prog_16_method_49_code 32 = .ok (.iand, 1) := by decide +kernel
theorem dJB_33 : decode prog_16_method_49_code 33 = .ok (.istore_n 0, 1) := by decide +kernel
theorem dJB_34 : decode prog_16_method_49_code 34 = .ok (.iload_n 0, 1) := by decide +kernel
theorem dJB_35 : decode prog_16_method_49_code 35 = .ok (.iload_n 0, 1) := by decide +kernel
theorem dJB_36 : decode prog_16_method_49_code 36 = .ok (.bipush 8, 2) := by decide +kernel
theorem dJB_38 : decode prog_16_method_49_code 38 = .ok (.iushr, 1) := by decide +kernel
theorem dJB_39 : decode prog_16_method_49_code 39 = .ok (.iadd, 1) := by decide +kernel
theorem dJB_40 : decode prog_16_method_49_code 40 = .ok (.istore_n 0, 1) := by decide +kernel
theorem dJB_41 : decode prog_16_method_49_code 41 = .ok (.iload_n 0, 1) := by decide +kernel
theorem dJB_42 : decode prog_16_method_49_code 42 = .ok (.iload_n 0, 1) := by decide +kernel
theorem dJB_43 : decode prog_16_method_49_code 43 = .ok (.bipush 16, 2) := by decide +kernel
theorem dJB_45 : decode prog_16_method_49_code 45 = .ok (.iushr, 1) := by decide +kernel
theorem dJB_46 : decode prog_16_method_49_code 46 = .ok (.iadd, 1) := by decide +kernel
theorem dJB_47 : decode prog_16_method_49_code 47 = .ok (.istore_n 0, 1) := by decide +kernel
theorem dJB_48 : decode prog_16_method_49_code 48 = .ok (.iload_n 0, 1) := by decide +kernel
theorem dJB_49 : decode prog_16_method_49_code 49 = .ok (.bipush 63, 2) := by decide +kernel
theorem dJB_51 : decode prog_16_method_49_code 51 = .ok (.iand, 1) := by decide +kernel
theorem dJB_52 : decode prog_16_method_49_code 52 = .ok (.ireturn, 1) := by decide +kernel
theorem kc_JB_265 : Cond.constant "java/lang/Integer" 265 (Int32.ofInt 1431655765) ∈ TW := inTW (List.mem_append_right _ (List.mem_of_getElem? (i := 789) (by decide +kernel))) rfl
theorem kc_JB_266 : Cond.constant "java/lang/Integer" 266 (Int32.ofInt 858993459) ∈ TW := inTW (List.mem_append_right _ (List.mem_of_getElem? (i := 790) (by decide +kernel))) rfl
theorem kc_JB_267 : Cond.constant "java/lang/Integer" 267 (Int32.ofInt 252645135) ∈ TW := inTW (List.mem_append_right _ (List.mem_of_getElem? (i := 791) (by decide +kernel))) rfl
theorem mi_JB : MQI yJB prog_16_method_49_code 1 (some .int) 1 := ⟨inTW (List.mem_append_right _ (List.mem_of_getElem? (i := 788) (by decide +kernel))) rfl, inTW (List.mem_append_right _ (List.mem_of_getElem? (i := 21) (by decide +kernel))) rfl, by decide, by decide +kernel⟩
theorem st_JB : Cond.static yJB ∈ TW := inTW (List.mem_append_right _ (List.mem_of_getElem? (i := 787) (by decide +kernel))) rfl
def iushr (x z : Int) : Int := ((Int32.ofInt x).toUInt32 >>> ((Int32.ofInt z).toUInt32 &&& Int32.toUInt32 31)).toInt32.toInt
theorem g_iushr {y : MethodName} {cc : ByteArray} {nL : Nat} {ret : Option FieldType} {scr : Option (List Int)} {Po : Option PV → List SE → MEM → Prop} {Bd : Nat × Nat × Nat × Nat} {pc : Nat} {L : List (Option PV)} {S : List PV} {sh : List SE} {h : MEM} {cs sl : Nat} {x z : Int} (hd : decode cc pc = .ok (.iushr, 1)) (k : inR (iushr x z) → G y cc nL ret scr Po Bd (pc + 1) L (pI (iushr x z) :: S) sh h cs sl) : G y cc nL ret scr Po Bd pc L (pI z :: pI x :: S) sh h cs sl := by
  intro p l e R s m args below meth c Q D cA ext n0 ad0 A X ad H locs ls hW hL hS hc hs
  have h1 := List.forall_mem_cons.mp (List.forall_mem_cons.mp hS).2
  refine lv_iushr (v := Int32.ofInt (iushr x z)) X.1 X.2.1 hd (by unfold iushr; rw [i32_of]) ?_
  exact k (inR_toInt _) p l e R s m args below meth c Q D cA ext n0 ad0 A X ad H locs ls hW hL (List.forall_mem_cons.mpr ⟨inR_toInt _, h1.2⟩) hc hs
/-- what the JDK's bitCount reckons -/
def bc1 (x : Int) : Int := w32 (x - iand (iushr x 1) 1431655765)
def bc2 (x : Int) : Int := w32 (iand x 858993459 + iand (iushr x 2) 858993459)
def bc3 (x : Int) : Int := iand (w32 (x + iushr x 4)) 252645135
def bc4 (x : Int) : Int := w32 (x + iushr x 8)
def bc5 (x : Int) : Int := w32 (x + iushr x 16)
def bcE (x : Int) : Int := iand (bc5 (bc4 (bc3 (bc2 (bc1 x))))) 63
theorem bcE_b {x : Int} : inR (bcE x) := inR_toInt _
set_option maxRecDepth 100000 in
set_option maxHeartbeats 4000000 in
theorem c_JB (x1 : Int) (h : MEM) : CP yJB prog_16_method_49_code 1 (some .int) 1 [pI x1] h (fun x => x = bcE x1) := by
  refine CP.of (L0 := [some (pI x1)]) rfl (Nat.le_of_ble_eq_true rfl) rfl (fun Po hPo hav => ?_)
  refine g_iload_n dJB_0 rfl (fun _ => ?_)
  refine g_iload_n dJB_1 rfl (fun _ => ?_)
  refine g_iconst dJB_2 (inR_c rfl) ?_
  refine g_iushr dJB_3 (fun _ => ?_)
  refine g_ldc_w (v := 1431655765) dJB_4 kc_JB_265 (inR_c rfl) ?_
  refine g_iand dJB_7 (fun _ => ?_)
  refine g_isub dJB_8 ?_
  refine g_istore_n dJB_9 (by decide) rfl ?_
  refine g_iload_n dJB_10 rfl (fun _ => ?_)
  refine g_ldc_w (v := 858993459) dJB_11 kc_JB_266 (inR_c rfl) ?_
  refine g_iand dJB_14 (fun _ => ?_)
  refine g_iload_n dJB_15 rfl (fun _ => ?_)
  refine g_iconst dJB_16 (inR_c rfl) ?_
  refine g_iushr dJB_17 (fun _ => ?_)
  refine g_ldc_w (v := 858993459) dJB_18 kc_JB_266 (inR_c rfl) ?_
  refine g_iand dJB_21 (fun _ => ?_)
  refine g_iadd dJB_22 ?_
  refine g_istore_n dJB_23 (by decide) rfl ?_
  refine g_iload_n dJB_24 rfl (fun _ => ?_)
  refine g_iload_n dJB_25 rfl (fun _ => ?_)
  refine g_iconst dJB_26 (inR_c rfl) ?_
  refine g_iushr dJB_27 (fun _ => ?_)
  refine g_iadd dJB_28 ?_
  refine g_ldc_w (v := 252645135) dJB_29 kc_JB_267 (inR_c rfl) ?_
  refine g_iand dJB_32 (fun _ => ?_)
  refine g_istore_n dJB_33 (by decide) rfl ?_
  refine g_iload_n dJB_34 rfl (fun _ => ?_)
  refine g_iload_n dJB_35 rfl (fun _ => ?_)
  refine g_bipush dJB_36 (inR_c rfl) (by decide) ?_
  refine g_iushr dJB_38 (fun _ => ?_)
  refine g_iadd dJB_39 ?_
  refine g_istore_n dJB_40 (by decide) rfl ?_
  refine g_iload_n dJB_41 rfl (fun _ => ?_)
  refine g_iload_n dJB_42 rfl (fun _ => ?_)
  refine g_bipush dJB_43 (inR_c rfl) (by decide) ?_
  refine g_iushr dJB_45 (fun _ => ?_)
  refine g_iadd dJB_46 ?_
  refine g_istore_n dJB_47 (by decide) rfl ?_
  refine g_iload_n dJB_48 rfl (fun _ => ?_)
  refine g_bipush dJB_49 (inR_c rfl) (by decide) ?_
  refine g_iand dJB_51 (fun _ => ?_)
  exact g_ireturn dJB_52 retI (hPo _ rfl)
theorem g_bitc {y : MethodName} {cc : ByteArray} {nL : Nat} {ret : Option FieldType} {scr : Option (List Int)} {Po : Option PV → List SE → MEM → Prop} {Bd : Nat × Nat × Nat × Nat} {pc : Nat} {L : List (Option PV)} {S : List PV} {h : MEM} {cs sl : Nat} {x : Int} {idx : Nat} (hd : decode cc pc = .ok (.invokestatic idx, 3)) (hl : Cond.methodLink y.cls idx ⟨"java/lang/Integer", "bitCount", "(I)I"⟩ ∈ TW) (hR : roomLe Bd (1, 60, 0, 0) 1 cs sl = true) (hcat : catS S ≤ 8) (k : ∀ v : Int, v = bcE x → -2147483648 ≤ v → v ≤ 2147483647 → G y cc nL ret scr Po Bd (pc + 3) L (pI v :: S) SH h cs sl) : G y cc nL ret scr Po Bd pc L (pI x :: S) SH h cs sl :=
  g_cSP (av := [pI x]) (c_JB x h) hd mi_JB st_JB hl hR rfl rfl rfl hcat (fun v hv => k v hv (hv ▸ bcE_b.1) (hv ▸ bcE_b.2))
theorem bcE_all : ∀ n : Nat, n < 256 → bcE (n : Int) = ((List.range 8).countP (fun i => n.testBit i) : Nat) := by decide +kernel
/-! ===== sets by their number of bits (free) ===== -/
def pcN (n : Nat) : Nat := (List.range 8).countP (fun i => n.testBit i)
def pcZ (x : Int) : Int := (pcN x.toNat : Int)
def pw (i : Int) : Int := 2 ^ i.toNat
def least (k b best : Int) : Prop := (best = -1 ∧ ∀ m : Int, 0 ≤ m → m < b → pcZ m ≠ k) ∨ (0 ≤ best ∧ best < b ∧ pcZ best = k ∧ ∀ m : Int, 0 ≤ m → m < best → pcZ m ≠ k)
def first1 (k x : Int) : Prop := 0 ≤ x ∧ x < 256 ∧ pcZ x = k ∧ ∀ m : Int, 0 ≤ m → m < x → pcZ m ≠ k
theorem first1_eq {k x z : Int} (hx : first1 k x) (hz : first1 k z) : x = z := by
  rcases Int.lt_trichotomy x z with h | h | h
  · exact absurd hx.2.2.1 (hz.2.2.2 x hx.1 h)
  · exact h
  · exact absurd hz.2.2.1 (hx.2.2.2 z hz.1 h)
def QF (x1 x2 x3 x : Int) : Prop := (¬ (1 ≤ x1 ∧ x1 ≤ 8 ∧ 0 ≤ x2 ∧ x2 ≤ 8 ∧ 0 ≤ x3 ∧ x3 ≤ 2) ∧ x = -1) ∨ ((1 ≤ x1 ∧ x1 ≤ 8 ∧ 0 ≤ x2 ∧ x2 ≤ 8 ∧ 0 ≤ x3 ∧ x3 ≤ 2) ∧ x1 < x2 ∧ x = -2) ∨ ((1 ≤ x1 ∧ x1 ≤ 8 ∧ 0 ≤ x2 ∧ x2 ≤ 8 ∧ 0 ≤ x3 ∧ x3 ≤ 2) ∧ x2 ≤ x1 ∧ x3 = 0 ∧ first1 x2 x) ∨ ((1 ≤ x1 ∧ x1 ≤ 8 ∧ 0 ≤ x2 ∧ x2 ≤ 8 ∧ 0 ≤ x3 ∧ x3 ≤ 2) ∧ x2 ≤ x1 ∧ x3 ≠ 0 ∧ x = 0)
theorem QF_eq {x1 x2 x3 x z : Int} (hx : QF x1 x2 x3 x) (hz : QF x1 x2 x3 z) : x = z := by
  rcases hx with h | h | h | h <;> rcases hz with g | g | g | g <;> first | omega | exact first1_eq h.2.2.2 g.2.2.2
theorem lst_0 {k : Int} : least k 0 (-1) := Or.inl ⟨rfl, fun m h0 h1 => absurd h1 (by omega)⟩
theorem lst_skip {k b best : Int} (h : least k b best) (hp : pcZ b ≠ k) : least k (b + 1) best := by
  rcases h with ⟨h1, h2⟩ | ⟨h1, h2, h3, h4⟩
  · refine Or.inl ⟨h1, fun m g0 g1 => ?_⟩
    by_cases e : m = b
    · rw [e]; exact hp
    · exact h2 m g0 (by omega)
  · exact Or.inr ⟨h1, by omega, h3, h4⟩
theorem lst_keep {k b best : Int} (h : least k b best) (hb : best ≠ -1) : least k (b + 1) best := by
  rcases h with ⟨h1, h2⟩ | ⟨h1, h2, h3, h4⟩
  · exact absurd h1 hb
  · exact Or.inr ⟨h1, by omega, h3, h4⟩
theorem lst_new {k b best : Int} (h : least k b best) (hb : best = -1) (hp : pcZ b = k) (h0 : 0 ≤ b) : least k (b + 1) b := by
  rcases h with ⟨h1, h2⟩ | ⟨h1, h2, h3, h4⟩
  · exact Or.inr ⟨h0, by omega, hp, h2⟩
  · omega
theorem bcE_nat : ∀ n : Nat, n < 256 → bcE (n : Int) = (pcN n : Int) := by decide +kernel
theorem bcE_pc {x : Int} (h0 : 0 ≤ x) (h1 : x ≤ 255) : bcE x = pcZ x := by
  obtain ⟨n, rfl⟩ : ∃ n : Nat, x = n := ⟨x.toNat, by omega⟩
  exact bcE_nat n (by omega)
theorem pcZ_pwN : ∀ n : Nat, n < 9 → pcZ (pw (n : Int) - 1) = n := by decide +kernel
theorem pcZ_pw {n : Int} (h0 : 0 ≤ n) (h1 : n ≤ 8) : pcZ (pw n - 1) = n := by
  obtain ⟨k, rfl⟩ : ∃ k : Nat, n = k := ⟨n.toNat, by omega⟩
  exact pcZ_pwN k (by omega)
theorem pw_bN : ∀ n : Nat, n < 9 → 1 ≤ pw (n : Int) ∧ pw (n : Int) ≤ 256 := by decide +kernel
theorem pw_b {n : Int} (h0 : 0 ≤ n) (h1 : n ≤ 8) : 1 ≤ pw n ∧ pw n ≤ 256 := by
  obtain ⟨k, rfl⟩ : ∃ k : Nat, n = k := ⟨n.toNat, by omega⟩
  exact pw_bN k (by omega)
theorem pw_monoN : ∀ n : Nat, n < 9 → ∀ m : Nat, m < 9 → m ≤ n → pw (m : Int) ≤ pw (n : Int) := by decide +kernel
theorem pw_mono {m n : Int} (h0 : 0 ≤ m) (h1 : m ≤ n) (h2 : n ≤ 8) : pw m ≤ pw n := by
  obtain ⟨k, rfl⟩ : ∃ k : Nat, n = k := ⟨n.toNat, by omega⟩
  obtain ⟨j, rfl⟩ : ∃ j : Nat, m = j := ⟨m.toNat, by omega⟩
  exact pw_monoN k (by omega) j (by omega) (by omega)
theorem ishl_pwN : ∀ n : Nat, n < 9 → ishl 1 (n : Int) = pw (n : Int) := by decide +kernel
theorem ishl_pw {n : Int} (h0 : 0 ≤ n) (h1 : n ≤ 8) : ishl 1 n = pw n := by
  obtain ⟨k, rfl⟩ : ∃ k : Nat, n = k := ⟨n.toNat, by omega⟩
  exact ishl_pwN k (by omega)
theorem or_stN : ∀ n : Nat, n < 8 → ior (pw (n : Int) - 1) (ishl 1 (n : Int)) = pw ((n : Int) + 1) - 1 := by decide +kernel
theorem or_st {i b v w : Int} (h : b = pw i - 1) (h0 : 0 ≤ i) (h1 : i < 8) (e1 : v = ishl 1 i) (e2 : w = ior b v) : w = pw (i + 1) - 1 := by
  obtain ⟨n, rfl⟩ : ∃ n : Nat, i = n := ⟨i.toNat, by omega⟩
  rw [e2, e1, h]
  exact or_stN n (by omega)
theorem pw_0 : (0 : Int) = pw 0 - 1 := by decide
theorem andn_N : ∀ n : Nat, n < 9 → ∀ b : Nat, b < 256 → (b : Int) < pw (n : Int) → iand (b : Int) (ixor (pw (n : Int) - 1) (-1)) = 0 := by decide +kernel
theorem andn_0 {n b o v w : Int} (h : o = pw n - 1) (h0 : 0 ≤ n) (h1 : n ≤ 8) (hb : 0 ≤ b) (hb1 : b ≤ o) (e1 : v = ixor o (-1)) (e2 : w = iand b v) : w = 0 := by
  have hp := pw_b h0 h1
  obtain ⟨k, rfl⟩ : ∃ k : Nat, n = k := ⟨n.toNat, by omega⟩
  obtain ⟨j, rfl⟩ : ∃ j : Nat, b = j := ⟨b.toNat, by omega⟩
  rw [e2, e1, h]
  exact andn_N k (by omega) j (by omega) (by omega)
theorem lst_done {n k b best : Int} (h : least k b best) (hb : pw n ≤ b) (h0 : 0 ≤ k) (h1 : k ≤ n) (h2 : n ≤ 8) (hb2 : b ≤ 256) : first1 k best := by
  rcases h with ⟨g1, g2⟩ | ⟨g1, g2, g3, g4⟩
  · have hp := pw_b h0 (show k ≤ 8 by omega)
    have hm := pw_mono h0 h1 h2
    exact absurd (pcZ_pw h0 (show k ≤ 8 by omega)) (g2 (pw k - 1) (by omega) (by omega))
  · exact ⟨g1, by omega, g3, g4⟩
theorem pc_dropN : ∀ n : Nat, n < 256 → 0 < n → iand (n : Int) ((n : Int) - 1) < n ∧ pcZ (iand (n : Int) ((n : Int) - 1)) = pcZ (n : Int) - 1 := by decide +kernel
theorem pc_drop {x v : Int} (h0 : 0 < x) (h1 : x ≤ 255) (e : v = iand x (x - 1)) : v < x ∧ pcZ v = pcZ x - 1 := by
  obtain ⟨n, rfl⟩ : ∃ n : Nat, x = n := ⟨x.toNat, by omega⟩
  rw [e]
  exact pc_dropN n (by omega) (by omega)
theorem pcZ_0 : pcZ 0 = 0 := by decide
theorem pcZ_b {x : Int} : 0 ≤ pcZ x ∧ pcZ x ≤ 8 := by
  have : pcN x.toNat ≤ 8 := by
    unfold pcN
    exact Nat.le_trans List.countP_le_length (by simp)
  unfold pcZ
  omega
theorem pw_c {a b : Int} (h : a = b) : pw a = pw b := by rw [h]
theorem lsw_d {ps : List (Int × Int)} {d x : Int} (h : ps.all (fun p => p.1 != x) = true) : Op.lookupswitch.offset ps d x = d := by
  induction ps with
  | nil => rfl
  | cons p r ih =>
    obtain ⟨a, o⟩ := p
    simp only [List.all_cons, Bool.and_eq_true, bne_iff_ne, ne_eq] at h
    simp only [Op.lookupswitch.offset]
    rw [if_neg h.1]
    exact ih h.2
