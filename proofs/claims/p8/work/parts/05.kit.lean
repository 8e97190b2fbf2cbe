/-! ===== rows for printed walks: bounds, forgetting, frames ===== -/
theorem inR_c {x : Int} (h : (decide (-2147483648 ≤ x) && decide (x ≤ 2147483647)) = true) : inR x := by
  simp only [Bool.and_eq_true, decide_eq_true_eq] at h; exact h
theorem i32_nat {n : Nat} : Int32.ofInt (n : Int) = nI n := by rw [nI, Int32.ofInt_eq_ofNat]
theorem inR_nat {x : Int} (h0 : 0 ≤ x) (hx : inR x) : ∃ n : Nat, x = (n : Int) ∧ n < 2 ^ 31 := ⟨x.toNat, by omega, by have := hx.2; omega⟩
theorem bv_nat {n : Nat} (h : n < 2 ^ 31) : (nI n).toBitVec.toNat = n := pk_tn (by omega)
theorem toInt_small {z : Int32} (h : z.toBitVec.toNat < 2 ^ 31) : z.toInt = (z.toBitVec.toNat : Int) := by
  show z.toBitVec.toInt = _
  rw [BitVec.toInt_eq_toNat_of_lt (by omega)]
theorem iand_nat {a b : Int32} : (a &&& b).toBitVec.toNat = a.toBitVec.toNat &&& b.toBitVec.toNat := by rw [Int32.toBitVec_and, BitVec.toNat_and]
theorem ior_nat {a b : Int32} : (a ||| b).toBitVec.toNat = a.toBitVec.toNat ||| b.toBitVec.toNat := by rw [Int32.toBitVec_or, BitVec.toNat_or]
theorem ixor_nat {a b : Int32} : (a ^^^ b).toBitVec.toNat = a.toBitVec.toNat ^^^ b.toBitVec.toNat := by rw [Int32.toBitVec_xor, BitVec.toNat_xor]
theorem iand_r {x z hi : Int} (h0 : 0 ≤ z) (h1 : z ≤ hi) : inR x → inR z → 0 ≤ iand x z ∧ iand x z ≤ hi := by
  intro hx hz
  obtain ⟨n, rfl, hn⟩ := inR_nat h0 hz
  unfold iand
  rw [i32_nat]
  have e := iand_nat (a := Int32.ofInt x) (b := nI n)
  rw [bv_nat hn] at e
  have hl : (Int32.ofInt x).toBitVec.toNat &&& n ≤ n := Nat.and_le_right
  rw [toInt_small (by omega), e]
  omega
theorem iand_l {x z hi : Int} (h0 : 0 ≤ x) (h1 : x ≤ hi) : inR x → inR z → 0 ≤ iand x z ∧ iand x z ≤ hi := by
  intro hx hz
  obtain ⟨n, rfl, hn⟩ := inR_nat h0 hx
  unfold iand
  rw [i32_nat]
  have e := iand_nat (a := nI n) (b := Int32.ofInt z)
  rw [bv_nat hn] at e
  have hl : n &&& (Int32.ofInt z).toBitVec.toNat ≤ n := Nat.and_le_left
  rw [toInt_small (by omega), e]
  omega
theorem ior_b {x z : Int} (k : Nat) (hk : k ≤ 30) (h0 : 0 ≤ x) (h1 : x < 2 ^ k) (g0 : 0 ≤ z) (g1 : z < 2 ^ k) : inR x → inR z → 0 ≤ ior x z ∧ ior x z ≤ 2 ^ k - 1 := by
  intro hx hz
  obtain ⟨n, rfl, hn⟩ := inR_nat h0 hx
  obtain ⟨m, rfl, hm⟩ := inR_nat g0 hz
  unfold ior
  rw [i32_nat, i32_nat]
  have e := ior_nat (a := nI n) (b := nI m)
  rw [bv_nat hn, bv_nat hm] at e
  have hl : n ||| m < 2 ^ k := Nat.or_lt_two_pow (by exact_mod_cast h1) (by exact_mod_cast g1)
  have hp : 2 ^ k ≤ 2 ^ 30 := Nat.pow_le_pow_right (by omega) hk
  rw [toInt_small (by omega), e]
  have : ((n ||| m : Nat) : Int) < 2 ^ k := by exact_mod_cast hl
  omega
theorem ixor_b {x z : Int} (k : Nat) (hk : k ≤ 30) (h0 : 0 ≤ x) (h1 : x < 2 ^ k) (g0 : 0 ≤ z) (g1 : z < 2 ^ k) : inR x → inR z → 0 ≤ ixor x z ∧ ixor x z ≤ 2 ^ k - 1 := by
  intro hx hz
  obtain ⟨n, rfl, hn⟩ := inR_nat h0 hx
  obtain ⟨m, rfl, hm⟩ := inR_nat g0 hz
  unfold ixor
  rw [i32_nat, i32_nat]
  have e := ixor_nat (a := nI n) (b := nI m)
  rw [bv_nat hn, bv_nat hm] at e
  have hl : n ^^^ m < 2 ^ k := Nat.xor_lt_two_pow (by exact_mod_cast h1) (by exact_mod_cast g1)
  have hp : 2 ^ k ≤ 2 ^ 30 := Nat.pow_le_pow_right (by omega) hk
  rw [toInt_small (by omega), e]
  have : ((n ^^^ m : Nat) : Int) < 2 ^ k := by exact_mod_cast hl
  omega
theorem ishl1_all : ∀ n : Nat, n < 31 → ishl 1 (n : Int) = 2 ^ n := by decide +kernel
theorem ishl1_b {z : Int} (k : Nat) (hk : k ≤ 30) (h0 : 0 ≤ z) (h1 : z ≤ k) : inR 1 → inR z → 1 ≤ ishl 1 z ∧ ishl 1 z ≤ 2 ^ k := by
  intro _ hz
  obtain ⟨n, rfl, hn⟩ := inR_nat h0 hz
  rw [ishl1_all n (by omega)]
  have h2 : (2 : Nat) ^ n ≤ 2 ^ k := Nat.pow_le_pow_right (by omega) (by omega)
  have h3 : 1 ≤ (2 : Nat) ^ n := Nat.one_le_two_pow
  exact ⟨by exact_mod_cast h3, by exact_mod_cast h2⟩
theorem idiv_eq {x z : Int} (h0 : 0 ≤ x) (h1 : 1 ≤ z) (hx : inR x) (hz : inR z) : idiv x z = x / z := by
  obtain ⟨n, rfl, hn⟩ := inR_nat h0 hx
  obtain ⟨m, rfl, hm⟩ := inR_nat (by omega) hz
  unfold idiv
  rw [i32_nat, i32_nat, pk_div hn (by omega) hm, nI_toInt (Nat.lt_of_le_of_lt (Nat.div_le_self _ _) hn)]
  rfl
theorem irem_eq {x z : Int} (h0 : 0 ≤ x) (h1 : 1 ≤ z) (hx : inR x) (hz : inR z) : irem x z = x % z := by
  obtain ⟨n, rfl, hn⟩ := inR_nat h0 hx
  obtain ⟨m, rfl, hm⟩ := inR_nat (by omega) hz
  unfold irem
  rw [i32_nat, i32_nat, pk_rem hn (by omega) hm, nI_toInt (Nat.lt_of_le_of_lt (Nat.mod_le _ _) hn)]
  rfl
theorem idiv_b {x z hi : Int} (h0 : 0 ≤ x) (h1 : 1 ≤ z) (h2 : x ≤ hi) : inR x → inR z → 0 ≤ idiv x z ∧ idiv x z ≤ hi := by
  intro hx hz
  rw [idiv_eq h0 h1 hx hz]
  exact ⟨Int.ediv_nonneg h0 (by omega), Int.le_trans (Int.ediv_le_self _ h0) h2⟩
theorem irem_b {x z hi : Int} (h0 : 0 ≤ x) (h1 : 1 ≤ z) (h2 : z ≤ hi + 1) : inR x → inR z → 0 ≤ irem x z ∧ irem x z ≤ hi := by
  intro hx hz
  rw [irem_eq h0 h1 hx hz]
  have a := Int.emod_nonneg x (show z ≠ 0 by omega)
  have b := Int.emod_lt_of_pos x (show 0 < z by omega)
  omega
theorem mul_bnd {x z A B C E : Int} (h1 : A ≤ x) (h2 : x ≤ B) (h3 : C ≤ z) (h4 : z ≤ E) (hA : 0 ≤ A) (hC : 0 ≤ C) : A * C ≤ x * z ∧ x * z ≤ B * E :=
  ⟨Int.mul_le_mul h1 h3 hC (by omega), Int.mul_le_mul h2 h4 (by omega) (by omega)⟩
/-! frames and bounds of the pure heap -/
def tin (T : List (Nat × Nat)) (a j : Nat) : Bool := T.any (fun p => p.1 == a && (p.2 == 0 || p.2 == j + 1))
def Fr (T : List (Nat × Nat)) (h h' : MEM) : Prop := ∀ a j, tin T a j = false → h' a j = h a j
def subT (T1 T2 : List (Nat × Nat)) : Bool := T1.all (fun p => T2.any (fun q => q.1 == p.1 && (q.2 == 0 || q.2 == p.2)))
def cp2 (h : MEM) (a0 a sp dp n : Nat) : MEM := fun i j => if i = a ∧ dp ≤ j ∧ j < dp + n then h a0 (sp + (j - dp)) else h i j
theorem Fr.rf {T : List (Nat × Nat)} {h : MEM} : Fr T h h := fun _ _ _ => rfl
theorem Fr.st {h h' : MEM} {a k : Nat} {x : Int} (e : h' = up2 h a k x) : Fr [(a, k + 1)] h h' := by
  intro i j hn
  rw [e]
  refine up2_ne (fun q => ?_)
  obtain ⟨rfl, rfl⟩ := q
  simp [tin] at hn
theorem Fr.ar {h h' : MEM} {a k : Nat} {x : Int} (e : h' = up2 h a k x) : Fr [(a, 0)] h h' := by
  intro i j hn
  rw [e]
  refine up2_ne (fun q => ?_)
  obtain ⟨rfl, rfl⟩ := q
  simp [tin] at hn
theorem Fr.cp {h h' : MEM} {a0 a sp dp n : Nat} (e : h' = cp2 h a0 a sp dp n) : Fr [(a, 0)] h h' := by
  intro i j hn
  rw [e]
  unfold cp2
  rw [if_neg (fun q => ?_)]
  obtain ⟨rfl, -⟩ := q
  simp [tin] at hn
theorem tin_sub {T1 T2 : List (Nat × Nat)} (hs : subT T1 T2 = true) {a j : Nat} (h : tin T2 a j = false) : tin T1 a j = false := by
  cases h1 : tin T1 a j with
  | false => rfl
  | true =>
    obtain ⟨p, hp, hp2⟩ := List.any_eq_true.mp h1
    obtain ⟨q, hq, hq2⟩ := List.any_eq_true.mp (List.all_eq_true.mp hs p hp)
    have : tin T2 a j = true := List.any_eq_true.mpr ⟨q, hq, by
      simp only [Bool.and_eq_true, Bool.or_eq_true, beq_iff_eq] at hp2 hq2 ⊢
      omega⟩
    rw [this] at h
    cases h
theorem Fr.sub {T1 T2 : List (Nat × Nat)} {h h' : MEM} (hF : Fr T1 h h') (hs : subT T1 T2 = true) : Fr T2 h h' := fun a j hn => hF a j (tin_sub hs hn)
theorem Fr.tr {T T1 : List (Nat × Nat)} {h h1 h2 : MEM} (hF : Fr T h h1) (hF2 : Fr T1 h1 h2) (hs : subT T1 T = true) : Fr T h h2 := fun a j hn => (hF2 a j (tin_sub hs hn)).trans (hF a j hn)
theorem st_at {h h' : MEM} {a k : Nat} {x : Int} (e : h' = up2 h a k x) : h' a k = x := by rw [e]; exact up2_at
section KIT5
variable {y : MethodName} {cc : ByteArray} {nL : Nat} {ret : Option FieldType} {scr : Option (List Int)} {Po : Option PV → List SE → MEM → Prop} {Bd : Nat × Nat × Nat × Nat} {pc : Nat} {L : List (Option PV)} {S : List PV} {sh : List SE} {h : MEM} {cs sl : Nat}
theorem g_drop (i : Nat) (k : G y cc nL ret scr Po Bd pc (L.set i none) S sh h cs sl) : G y cc nL ret scr Po Bd pc L S sh h cs sl := by
  intro p l e R s m args below meth c Q D cA ext n0 ad0 A X ad H locs ls hW hL hS hc hs
  refine k p l e R s m args below meth c Q D cA ext n0 ad0 A X ad H locs ls hW ⟨hL.1, hL.2.1, by rw [List.length_set]; exact hL.2.2.1, fun j v hj => ?_⟩ hS hc hs
  by_cases hji : j = i
  · subst hji
    by_cases hl : j < L.length
    · rw [List.getElem?_set_self hl] at hj; cases hj
    · rw [List.getElem?_eq_none (by rw [List.length_set]; omega)] at hj; cases hj
  · rw [List.getElem?_set_ne (Ne.symm hji)] at hj
    exact hL.2.2.2 j v hj
theorem g_iincB {i : Nat} {x n : Int} (hd : decode cc pc = .ok (.iinc i n, 3)) (hl : L[i]? = some (some (pI x))) (hn : L.all notL = true) (h1 : -2147483648 ≤ x + n) (h2 : x + n ≤ 2147483647) (k : G y cc nL ret scr Po Bd (pc + 3) (L.set i (some (pI (x + n)))) S sh h cs sl) : G y cc nL ret scr Po Bd pc L S sh h cs sl := by
  refine g_iinc hd hl hn (fun _ => ?_)
  rw [w32_id ⟨h1, h2⟩]
  exact k
theorem g_iincF {i : Nat} {x n : Int} (hd : decode cc pc = .ok (.iinc i n, 3)) (hl : L[i]? = some (some (pI x))) (hn : L.all notL = true) (k : ∀ v : Int, -2147483648 ≤ v → v ≤ 2147483647 → G y cc nL ret scr Po Bd (pc + 3) (L.set i (some (pI v))) S sh h cs sl) : G y cc nL ret scr Po Bd pc L S sh h cs sl :=
  g_iinc hd hl hn (fun _ => k _ (w32_inR _).1 (w32_inR _).2)
theorem g_iaddB {x z : Int} (hd : decode cc pc = .ok (.iadd, 1)) (h1 : -2147483648 ≤ x + z) (h2 : x + z ≤ 2147483647) (k : G y cc nL ret scr Po Bd (pc + 1) L (pI (x + z) :: S) sh h cs sl) : G y cc nL ret scr Po Bd pc L (pI z :: pI x :: S) sh h cs sl := by
  refine g_iadd hd ?_
  rw [w32_id ⟨h1, h2⟩]
  exact k
theorem g_iaddF {x z : Int} (hd : decode cc pc = .ok (.iadd, 1)) (k : ∀ v : Int, -2147483648 ≤ v → v ≤ 2147483647 → G y cc nL ret scr Po Bd (pc + 1) L (pI v :: S) sh h cs sl) : G y cc nL ret scr Po Bd pc L (pI z :: pI x :: S) sh h cs sl := g_iadd hd (k _ (w32_inR _).1 (w32_inR _).2)
theorem g_isubB {x z : Int} (hd : decode cc pc = .ok (.isub, 1)) (h1 : -2147483648 ≤ x - z) (h2 : x - z ≤ 2147483647) (k : G y cc nL ret scr Po Bd (pc + 1) L (pI (x - z) :: S) sh h cs sl) : G y cc nL ret scr Po Bd pc L (pI z :: pI x :: S) sh h cs sl := by
  refine g_isub hd ?_
  rw [w32_id ⟨h1, h2⟩]
  exact k
theorem g_isubF {x z : Int} (hd : decode cc pc = .ok (.isub, 1)) (k : ∀ v : Int, -2147483648 ≤ v → v ≤ 2147483647 → G y cc nL ret scr Po Bd (pc + 1) L (pI v :: S) sh h cs sl) : G y cc nL ret scr Po Bd pc L (pI z :: pI x :: S) sh h cs sl := g_isub hd (k _ (w32_inR _).1 (w32_inR _).2)
theorem g_imulB {x z : Int} (hd : decode cc pc = .ok (.imul, 1)) (h1 : -2147483648 ≤ x * z) (h2 : x * z ≤ 2147483647) (k : G y cc nL ret scr Po Bd (pc + 1) L (pI (x * z) :: S) sh h cs sl) : G y cc nL ret scr Po Bd pc L (pI z :: pI x :: S) sh h cs sl := by
  refine g_imul hd ?_
  rw [w32_id ⟨h1, h2⟩]
  exact k
theorem g_imulF {x z : Int} (hd : decode cc pc = .ok (.imul, 1)) (k : ∀ v : Int, -2147483648 ≤ v → v ≤ 2147483647 → G y cc nL ret scr Po Bd (pc + 1) L (pI v :: S) sh h cs sl) : G y cc nL ret scr Po Bd pc L (pI z :: pI x :: S) sh h cs sl := g_imul hd (k _ (w32_inR _).1 (w32_inR _).2)
theorem g_imulP {x z A B A2 B2 : Int} (hd : decode cc pc = .ok (.imul, 1)) (h1 : A ≤ x) (h2 : x ≤ B) (h3 : A2 ≤ z) (h4 : z ≤ B2) (hA : 0 ≤ A) (hC : 0 ≤ A2) (hm : B * B2 ≤ 2147483647) (k : ∀ v : Int, A * A2 ≤ v → v ≤ B * B2 → G y cc nL ret scr Po Bd (pc + 1) L (pI v :: S) sh h cs sl) : G y cc nL ret scr Po Bd pc L (pI z :: pI x :: S) sh h cs sl := by
  have hb := mul_bnd h1 h2 h3 h4 hA hC
  have h0 : 0 ≤ A * A2 := Int.mul_nonneg hA hC
  exact g_imulB hd (by omega) (by omega) (k _ hb.1 hb.2)
theorem g_inegB {x : Int} (hd : decode cc pc = .ok (.ineg, 1)) (h1 : -2147483648 ≤ -x) (h2 : -x ≤ 2147483647) (k : G y cc nL ret scr Po Bd (pc + 1) L (pI (-x) :: S) sh h cs sl) : G y cc nL ret scr Po Bd pc L (pI x :: S) sh h cs sl := by
  refine g_ineg hd ?_
  rw [w32_id ⟨h1, h2⟩]
  exact k
theorem g_inegF {x : Int} (hd : decode cc pc = .ok (.ineg, 1)) (k : ∀ v : Int, -2147483648 ≤ v → v ≤ 2147483647 → G y cc nL ret scr Po Bd (pc + 1) L (pI v :: S) sh h cs sl) : G y cc nL ret scr Po Bd pc L (pI x :: S) sh h cs sl := g_ineg hd (k _ (w32_inR _).1 (w32_inR _).2)
theorem g_iandF {x z : Int} (hd : decode cc pc = .ok (.iand, 1)) (k : ∀ v : Int, v = iand x z → -2147483648 ≤ v → v ≤ 2147483647 → G y cc nL ret scr Po Bd (pc + 1) L (pI v :: S) sh h cs sl) : G y cc nL ret scr Po Bd pc L (pI z :: pI x :: S) sh h cs sl := g_iand hd (fun q => k _ rfl q.1 q.2)
theorem g_iandX {x z lo hi : Int} (hd : decode cc pc = .ok (.iand, 1)) (hb : inR x → inR z → lo ≤ iand x z ∧ iand x z ≤ hi) (k : ∀ v : Int, v = iand x z → lo ≤ v → v ≤ hi → G y cc nL ret scr Po Bd (pc + 1) L (pI v :: S) sh h cs sl) : G y cc nL ret scr Po Bd pc L (pI z :: pI x :: S) sh h cs sl := by
  intro p l e R s m args below meth c Q D cA ext n0 ad0 A X ad H locs ls hW hL hS hc hs
  have q0 := List.forall_mem_cons.mp hS
  have q1 := List.forall_mem_cons.mp q0.2
  have hb := hb q1.1 q0.1
  exact g_iand hd (fun _ => k _ rfl hb.1 hb.2) p l e R s m args below meth c Q D cA ext n0 ad0 A X ad H locs ls hW hL hS hc hs
theorem g_iorF {x z : Int} (hd : decode cc pc = .ok (.ior, 1)) (k : ∀ v : Int, v = ior x z → -2147483648 ≤ v → v ≤ 2147483647 → G y cc nL ret scr Po Bd (pc + 1) L (pI v :: S) sh h cs sl) : G y cc nL ret scr Po Bd pc L (pI z :: pI x :: S) sh h cs sl := g_ior hd (fun q => k _ rfl q.1 q.2)
theorem g_iorX {x z lo hi : Int} (hd : decode cc pc = .ok (.ior, 1)) (hb : inR x → inR z → lo ≤ ior x z ∧ ior x z ≤ hi) (k : ∀ v : Int, v = ior x z → lo ≤ v → v ≤ hi → G y cc nL ret scr Po Bd (pc + 1) L (pI v :: S) sh h cs sl) : G y cc nL ret scr Po Bd pc L (pI z :: pI x :: S) sh h cs sl := by
  intro p l e R s m args below meth c Q D cA ext n0 ad0 A X ad H locs ls hW hL hS hc hs
  have q0 := List.forall_mem_cons.mp hS
  have q1 := List.forall_mem_cons.mp q0.2
  have hb := hb q1.1 q0.1
  exact g_ior hd (fun _ => k _ rfl hb.1 hb.2) p l e R s m args below meth c Q D cA ext n0 ad0 A X ad H locs ls hW hL hS hc hs
theorem g_ixorF {x z : Int} (hd : decode cc pc = .ok (.ixor, 1)) (k : ∀ v : Int, v = ixor x z → -2147483648 ≤ v → v ≤ 2147483647 → G y cc nL ret scr Po Bd (pc + 1) L (pI v :: S) sh h cs sl) : G y cc nL ret scr Po Bd pc L (pI z :: pI x :: S) sh h cs sl := g_ixor hd (fun q => k _ rfl q.1 q.2)
theorem g_ixorX {x z lo hi : Int} (hd : decode cc pc = .ok (.ixor, 1)) (hb : inR x → inR z → lo ≤ ixor x z ∧ ixor x z ≤ hi) (k : ∀ v : Int, v = ixor x z → lo ≤ v → v ≤ hi → G y cc nL ret scr Po Bd (pc + 1) L (pI v :: S) sh h cs sl) : G y cc nL ret scr Po Bd pc L (pI z :: pI x :: S) sh h cs sl := by
  intro p l e R s m args below meth c Q D cA ext n0 ad0 A X ad H locs ls hW hL hS hc hs
  have q0 := List.forall_mem_cons.mp hS
  have q1 := List.forall_mem_cons.mp q0.2
  have hb := hb q1.1 q0.1
  exact g_ixor hd (fun _ => k _ rfl hb.1 hb.2) p l e R s m args below meth c Q D cA ext n0 ad0 A X ad H locs ls hW hL hS hc hs
theorem g_ishlF {x z : Int} (hd : decode cc pc = .ok (.ishl, 1)) (k : ∀ v : Int, v = ishl x z → -2147483648 ≤ v → v ≤ 2147483647 → G y cc nL ret scr Po Bd (pc + 1) L (pI v :: S) sh h cs sl) : G y cc nL ret scr Po Bd pc L (pI z :: pI x :: S) sh h cs sl := g_ishl hd (fun q => k _ rfl q.1 q.2)
theorem g_ishlX {x z lo hi : Int} (hd : decode cc pc = .ok (.ishl, 1)) (hb : inR x → inR z → lo ≤ ishl x z ∧ ishl x z ≤ hi) (k : ∀ v : Int, v = ishl x z → lo ≤ v → v ≤ hi → G y cc nL ret scr Po Bd (pc + 1) L (pI v :: S) sh h cs sl) : G y cc nL ret scr Po Bd pc L (pI z :: pI x :: S) sh h cs sl := by
  intro p l e R s m args below meth c Q D cA ext n0 ad0 A X ad H locs ls hW hL hS hc hs
  have q0 := List.forall_mem_cons.mp hS
  have q1 := List.forall_mem_cons.mp q0.2
  have hb := hb q1.1 q0.1
  exact g_ishl hd (fun _ => k _ rfl hb.1 hb.2) p l e R s m args below meth c Q D cA ext n0 ad0 A X ad H locs ls hW hL hS hc hs
theorem g_ishrF {x z : Int} (hd : decode cc pc = .ok (.ishr, 1)) (k : ∀ v : Int, v = ishr x z → -2147483648 ≤ v → v ≤ 2147483647 → G y cc nL ret scr Po Bd (pc + 1) L (pI v :: S) sh h cs sl) : G y cc nL ret scr Po Bd pc L (pI z :: pI x :: S) sh h cs sl := g_ishr hd (fun q => k _ rfl q.1 q.2)
theorem g_ishrX {x z lo hi : Int} (hd : decode cc pc = .ok (.ishr, 1)) (hb : inR x → inR z → lo ≤ ishr x z ∧ ishr x z ≤ hi) (k : ∀ v : Int, v = ishr x z → lo ≤ v → v ≤ hi → G y cc nL ret scr Po Bd (pc + 1) L (pI v :: S) sh h cs sl) : G y cc nL ret scr Po Bd pc L (pI z :: pI x :: S) sh h cs sl := by
  intro p l e R s m args below meth c Q D cA ext n0 ad0 A X ad H locs ls hW hL hS hc hs
  have q0 := List.forall_mem_cons.mp hS
  have q1 := List.forall_mem_cons.mp q0.2
  have hb := hb q1.1 q0.1
  exact g_ishr hd (fun _ => k _ rfl hb.1 hb.2) p l e R s m args below meth c Q D cA ext n0 ad0 A X ad H locs ls hW hL hS hc hs
theorem g_idivF {x z : Int} (hd : decode cc pc = .ok (.idiv, 1)) (hne : z ≠ 0) (k : ∀ v : Int, v = idiv x z → -2147483648 ≤ v → v ≤ 2147483647 → G y cc nL ret scr Po Bd (pc + 1) L (pI v :: S) sh h cs sl) : G y cc nL ret scr Po Bd pc L (pI z :: pI x :: S) sh h cs sl := g_idiv hd hne (fun q => k _ rfl q.1 q.2)
theorem g_idivX {x z lo hi : Int} (hd : decode cc pc = .ok (.idiv, 1)) (hne : z ≠ 0) (hb : inR x → inR z → lo ≤ idiv x z ∧ idiv x z ≤ hi) (k : ∀ v : Int, v = idiv x z → lo ≤ v → v ≤ hi → G y cc nL ret scr Po Bd (pc + 1) L (pI v :: S) sh h cs sl) : G y cc nL ret scr Po Bd pc L (pI z :: pI x :: S) sh h cs sl := by
  intro p l e R s m args below meth c Q D cA ext n0 ad0 A X ad H locs ls hW hL hS hc hs
  have q0 := List.forall_mem_cons.mp hS
  have q1 := List.forall_mem_cons.mp q0.2
  have hb := hb q1.1 q0.1
  exact g_idiv hd hne (fun _ => k _ rfl hb.1 hb.2) p l e R s m args below meth c Q D cA ext n0 ad0 A X ad H locs ls hW hL hS hc hs
theorem g_iremF {x z : Int} (hd : decode cc pc = .ok (.irem, 1)) (hne : z ≠ 0) (k : ∀ v : Int, v = irem x z → -2147483648 ≤ v → v ≤ 2147483647 → G y cc nL ret scr Po Bd (pc + 1) L (pI v :: S) sh h cs sl) : G y cc nL ret scr Po Bd pc L (pI z :: pI x :: S) sh h cs sl := g_irem hd hne (fun q => k _ rfl q.1 q.2)
theorem g_iremX {x z lo hi : Int} (hd : decode cc pc = .ok (.irem, 1)) (hne : z ≠ 0) (hb : inR x → inR z → lo ≤ irem x z ∧ irem x z ≤ hi) (k : ∀ v : Int, v = irem x z → lo ≤ v → v ≤ hi → G y cc nL ret scr Po Bd (pc + 1) L (pI v :: S) sh h cs sl) : G y cc nL ret scr Po Bd pc L (pI z :: pI x :: S) sh h cs sl := by
  intro p l e R s m args below meth c Q D cA ext n0 ad0 A X ad H locs ls hW hL hS hc hs
  have q0 := List.forall_mem_cons.mp hS
  have q1 := List.forall_mem_cons.mp q0.2
  have hb := hb q1.1 q0.1
  exact g_irem hd hne (fun _ => k _ rfl hb.1 hb.2) p l e R s m args below meth c Q D cA ext n0 ad0 A X ad H locs ls hW hL hS hc hs
theorem g_ialdB {a n : Nat} {i lo hi : Int} (hd : decode cc pc = .ok (.iaload, 1)) (he : sh[a]? = some (.inl (0, n))) (h0 : 0 ≤ i) (h1 : i < n) (hb : lo ≤ h a i.toNat ∧ h a i.toNat ≤ hi) (k : ∀ v : Int, v = h a i.toNat → lo ≤ v → v ≤ hi → G y cc nL ret scr Po Bd (pc + 1) L (pI v :: S) sh h cs sl) : G y cc nL ret scr Po Bd pc L (pI i :: pR a :: S) sh h cs sl := g_iaload hd he h0 h1 (fun _ => k _ rfl hb.1 hb.2)
theorem g_ialdE {a n : Nat} {i v : Int} (hd : decode cc pc = .ok (.iaload, 1)) (he : sh[a]? = some (.inl (0, n))) (h0 : 0 ≤ i) (h1 : i < n) (hv : h a i.toNat = v) (k : G y cc nL ret scr Po Bd (pc + 1) L (pI v :: S) sh h cs sl) : G y cc nL ret scr Po Bd pc L (pI i :: pR a :: S) sh h cs sl := g_iaload hd he h0 h1 (fun _ => by rw [hv]; exact k)
theorem g_baldB {a n : Nat} {i lo hi : Int} (hd : decode cc pc = .ok (.baload, 1)) (he : sh[a]? = some (.inl (1, n))) (h0 : 0 ≤ i) (h1 : i < n) (hb : lo ≤ h a i.toNat ∧ h a i.toNat ≤ hi) (k : ∀ v : Int, v = h a i.toNat → lo ≤ v → v ≤ hi → G y cc nL ret scr Po Bd (pc + 1) L (pI v :: S) sh h cs sl) : G y cc nL ret scr Po Bd pc L (pI i :: pR a :: S) sh h cs sl := g_baload hd he h0 h1 (fun _ => k _ rfl hb.1 hb.2)
theorem g_baldE {a n : Nat} {i v : Int} (hd : decode cc pc = .ok (.baload, 1)) (he : sh[a]? = some (.inl (1, n))) (h0 : 0 ≤ i) (h1 : i < n) (hv : h a i.toNat = v) (k : G y cc nL ret scr Po Bd (pc + 1) L (pI v :: S) sh h cs sl) : G y cc nL ret scr Po Bd pc L (pI i :: pR a :: S) sh h cs sl := g_baload hd he h0 h1 (fun _ => by rw [hv]; exact k)
theorem g_zaldB {a n : Nat} {i lo hi : Int} (hd : decode cc pc = .ok (.baload, 1)) (he : sh[a]? = some (.inl (2, n))) (h0 : 0 ≤ i) (h1 : i < n) (hb : lo ≤ h a i.toNat ∧ h a i.toNat ≤ hi) (k : ∀ v : Int, v = h a i.toNat → lo ≤ v → v ≤ hi → G y cc nL ret scr Po Bd (pc + 1) L (pI v :: S) sh h cs sl) : G y cc nL ret scr Po Bd pc L (pI i :: pR a :: S) sh h cs sl := g_zaload hd he h0 h1 (fun _ => k _ rfl hb.1 hb.2)
theorem g_zaldE {a n : Nat} {i v : Int} (hd : decode cc pc = .ok (.baload, 1)) (he : sh[a]? = some (.inl (2, n))) (h0 : 0 ≤ i) (h1 : i < n) (hv : h a i.toNat = v) (k : G y cc nL ret scr Po Bd (pc + 1) L (pI v :: S) sh h cs sl) : G y cc nL ret scr Po Bd pc L (pI i :: pR a :: S) sh h cs sl := g_zaload hd he h0 h1 (fun _ => by rw [hv]; exact k)
theorem g_iastB {a n : Nat} {i x : Int} (hd : decode cc pc = .ok (.iastore, 1)) (he : sh[a]? = some (.inl (0, n))) (h0 : 0 ≤ i) (h1 : i < n) (k : ∀ h' : MEM, h' = up2 h a i.toNat x → G y cc nL ret scr Po Bd (pc + 1) L S sh h' cs sl) : G y cc nL ret scr Po Bd pc L (pI x :: pI i :: pR a :: S) sh h cs sl := g_iastore hd he h0 h1 (fun _ => k _ rfl)
theorem g_bastB {a n : Nat} {i x : Int} (hd : decode cc pc = .ok (.bastore, 1)) (he : sh[a]? = some (.inl (1, n))) (h0 : 0 ≤ i) (h1 : i < n) (hx0 : -128 ≤ x) (hx1 : x ≤ 127) (k : ∀ h' : MEM, h' = up2 h a i.toNat x → G y cc nL ret scr Po Bd (pc + 1) L S sh h' cs sl) : G y cc nL ret scr Po Bd pc L (pI x :: pI i :: pR a :: S) sh h cs sl := g_bastore hd he h0 h1 hx0 hx1 (fun _ => k _ rfl)
theorem g_zastB {a n : Nat} {i x : Int} (hd : decode cc pc = .ok (.bastore, 1)) (he : sh[a]? = some (.inl (2, n))) (h0 : 0 ≤ i) (h1 : i < n) (hx : x = 0 ∨ x = 1) (k : ∀ h' : MEM, h' = up2 h a i.toNat x → G y cc nL ret scr Po Bd (pc + 1) L S sh h' cs sl) : G y cc nL ret scr Po Bd pc L (pI x :: pI i :: pR a :: S) sh h cs sl := g_zastore hd he h0 h1 hx (fun _ => k _ rfl)
theorem g_i2bF {x : Int} (hd : decode cc pc = .ok (.i2b, 1)) (k : ∀ v : Int, -128 ≤ v → v ≤ 127 → G y cc nL ret scr Po Bd (pc + 1) L (pI v :: S) sh h cs sl) : G y cc nL ret scr Po Bd pc L (pI x :: S) sh h cs sl := by
  intro p l e R s m args below meth c Q D cA ext n0 ad0 A X ad H locs ls hW hL hS hc hs
  have q0 := List.forall_mem_cons.mp hS
  have h1 := Int8.le_toInt (Int32.ofInt x).toInt8
  have h2 := Int8.toInt_lt (Int32.ofInt x).toInt8
  refine lv_i2b X.1 X.2.1 hd (i32_of _).symm ?_
  rw [Int8.toInt_toInt32]
  exact k _ (by omega) (by omega) p l e R s m args below meth c Q D cA ext n0 ad0 A X ad H locs ls hW hL (List.forall_mem_cons.mpr ⟨⟨by omega, by omega⟩, q0.2⟩) hc hs
theorem g_i2l {x : Int} (hd : decode cc pc = .ok (.i2l, 1)) (k : G y cc nL ret scr Po Bd (pc + 1) L (pL x :: S) sh h cs sl) : G y cc nL ret scr Po Bd pc L (pI x :: S) sh h cs sl := by
  intro p l e R s m args below meth c Q D cA ext n0 ad0 A X ad H locs ls hW hL hS hc hs
  have q0 := List.forall_mem_cons.mp hS
  have hx : inR x := q0.1
  refine lv_i2l (v := Int64.ofInt x) X.1 X.2.1 hd ?_ (k p l e R s m args below meth c Q D cA ext n0 ad0 A X ad H locs ls hW hL (List.forall_mem_cons.mpr ⟨⟨by have := hx.1; omega, by have := hx.2; omega⟩, q0.2⟩) hc hs)
  rw [← Int64.toInt_inj, Int32.toInt_toInt64, i32_toInt hx, Int64.toInt_ofInt, show Int64.size = 2 ^ 64 from rfl, Int.bmod_def]
  have h1 := hx.1
  have h2 := hx.2
  omega
theorem g_lconst {v : Int} {n : Fin 2} (hd : decode cc pc = .ok (.lconst n, 1)) (hv : v = (n.val : Int)) (k : G y cc nL ret scr Po Bd (pc + 1) L (pL v :: S) sh h cs sl) : G y cc nL ret scr Po Bd pc L S sh h cs sl := by
  intro p l e R s m args below meth c Q D cA ext n0 ad0 A X ad H locs ls hW hL hS hc hs
  have hn := n.isLt
  subst hv
  exact lv_lconst X.1 X.2.1 hd (by rw [← Int64.ofInt_eq_ofNat]) (k p l e R s m args below meth c Q D cA ext n0 ad0 A X ad H locs ls hW hL (List.forall_mem_cons.mpr ⟨⟨by omega, by omega⟩, hS⟩) hc hs)
theorem g_ldc2 {v : Int} {idx : Nat} (hd : decode cc pc = .ok (.ldc2_w idx, 3)) (hw : Cond.constantLong y.cls idx (Int64.ofInt v) ∈ TW) (hv : (decide (-9223372036854775808 ≤ v) && decide (v ≤ 9223372036854775807)) = true) (k : G y cc nL ret scr Po Bd (pc + 3) L (pL v :: S) sh h cs sl) : G y cc nL ret scr Po Bd pc L S sh h cs sl := by
  intro p l e R s m args below meth c Q D cA ext n0 ad0 A X ad H locs ls hW hL hS hc hs
  simp only [Bool.and_eq_true, decide_eq_true_eq] at hv
  exact lv_ldc2 X.1 X.2.1 X.2.2.2.1 (X.2.2.2.2.1 _ hw) hd (k p l e R s m args below meth c Q D cA ext n0 ad0 A X ad H locs ls hW hL (List.forall_mem_cons.mpr ⟨hv, hS⟩) hc hs)
theorem lg_cmp_i {x z : Int} (hx : inRL x) (hz : inRL z) : lg_cmp (Int64.ofInt x) (Int64.ofInt z) = Int32.ofInt (if z < x then 1 else if x = z then 0 else -1) := by
  have ex : ∀ w : Int, inRL w → (Int64.ofInt w).toInt = w := fun w hw => by
    rw [Int64.toInt_ofInt, show Int64.size = 2 ^ 64 from rfl, Int.bmod_def]
    have h1 := hw.1
    have h2 := hw.2
    omega
  unfold lg_cmp
  have e1 : (Int64.ofInt x > Int64.ofInt z) ↔ z < x := by rw [gt_iff_lt, Int64.lt_iff_toInt_lt, ex x hx, ex z hz]
  have e2 : (Int64.ofInt x = Int64.ofInt z) ↔ x = z := by rw [← Int64.toInt_inj, ex x hx, ex z hz]
  by_cases c1 : z < x
  · rw [if_pos (e1.mpr c1), if_pos c1]; rfl
  · rw [if_neg (fun q => c1 (e1.mp q)), if_neg c1]
    by_cases c2 : x = z
    · rw [if_pos (e2.mpr c2), if_pos c2]; rfl
    · rw [if_neg (fun q => c2 (e2.mp q)), if_neg c2]; rfl
theorem g_lcmp {x z : Int} (hd : decode cc pc = .ok (.lcmp, 1)) (k : G y cc nL ret scr Po Bd (pc + 1) L (pI (if z < x then 1 else if x = z then 0 else -1) :: S) sh h cs sl) : G y cc nL ret scr Po Bd pc L (pL z :: pL x :: S) sh h cs sl := by
  intro p l e R s m args below meth c Q D cA ext n0 ad0 A X ad H locs ls hW hL hS hc hs
  have q0 := List.forall_mem_cons.mp hS
  have q1 := List.forall_mem_cons.mp q0.2
  refine W.lcmp X.1 X.2.1 hd ?_
  rw [lg_cmp_i q1.1 q0.1]
  exact k p l e R s m args below meth c Q D cA ext n0 ad0 A X ad H locs ls hW hL (List.forall_mem_cons.mpr ⟨(by show inR _; unfold inR; split <;> (try split) <;> omega), q1.2⟩) hc hs
theorem g_slenB {xs : List Int} (hd : decode cc pc = .ok (.arraylength, 1)) (kk : ∀ v : Int, v = (xs.length : Int) → 0 ≤ v → v ≤ 3072 → G y cc nL ret (some xs) Po Bd (pc + 1) L (pI v :: S) sh h cs sl) : G y cc nL ret (some xs) Po Bd pc L (pX :: S) sh h cs sl := g_slen hd (fun q _ => kk _ rfl (by omega) (by omega))
theorem g_sldB {xs : List Int} {i : Int} (hd : decode cc pc = .ok (.iaload, 1)) (h0 : 0 ≤ i) (h1 : i < xs.length) (kk : ∀ v : Int, v = xs.getD i.toNat 0 → -2147483648 ≤ v → v ≤ 2147483647 → G y cc nL ret (some xs) Po Bd (pc + 1) L (pI v :: S) sh h cs sl) : G y cc nL ret (some xs) Po Bd pc L (pI i :: pX :: S) sh h cs sl := g_sld hd h0 h1 (fun q => kk _ rfl q.1 q.2)
theorem retC {x : Int} (h0 : 0 ≤ x) (h1 : x ≤ 65535) : retOK (some .char) (some (pI x)) := by
  obtain ⟨n, rfl⟩ : ∃ n : Nat, x = n := ⟨x.toNat, by omega⟩
  exact ⟨_, rfl, by rw [i32_nat]; exact (pk_charN (by omega)).1⟩
/-! Math, arraycopy -/
theorem g_mmax {x z : Int} {idx : Nat} (hd : decode cc pc = .ok (.invokestatic idx, 3)) (hl : Cond.methodLink y.cls idx Lib.Math.max.name ∈ TW ∧ Cond.static Lib.Math.max.name ∈ TW ∧ Cond.initialized "java/lang/Math" ∈ TW ∧ Cond.code Lib.Math.max.name Lib.Math.max.code 2 (some .int) ∈ TW) (hf : 1 ≤ Bd.1) (hlo : catS S + 13 ≤ Bd.2.1) (hz : True) (k : ∀ v : Int, v = (if x < z then z else x) → G y cc nL ret scr Po Bd (pc + 3) L (pI v :: S) sh h cs sl) : G y cc nL ret scr Po Bd pc L (pI z :: pI x :: S) sh h cs sl := by
  intro p l e R s m args below meth c Q D cA ext n0 ad0 A X ad H locs ls hW hL hS hc hs
  have q0 := List.forall_mem_cons.mp hS
  have q1 := List.forall_mem_cons.mp q0.2
  refine va_mmax X.1 X.2.1 (X.2.2.1.trans hL.1.symm) X.2.2.2.1 (X.2.2.2.2.1 _ hl.1) (X.2.2.2.2.1 _ hl.2.1) (X.2.2.2.2.1 _ hl.2.2.1) (X.2.2.2.2.1 _ hl.2.2.2) (by rw [X.2.2.2.2.2.2.2.1.1]; exact hf) (by rw [catS_eq (ext_cat X.2.2.2.2.2.2.2.2.2.1.1), X.2.2.2.2.2.2.2.1.2.1]; exact hlo) hc hs hd ?_
  have ev : (if Int32.ofInt x < Int32.ofInt z then Int32.ofInt z else Int32.ofInt x) = Int32.ofInt (if x < z then z else x) := by
    have := i32_lt q1.1 q0.1
    by_cases c1 : x < z
    · rw [if_pos (this.mpr c1), if_pos c1]
    · rw [if_neg (fun q => c1 (this.mp q)), if_neg c1]
  rw [ev]
  exact k _ rfl p l e R s m args below meth c Q D cA ext n0 ad0 A X ad H locs ls hW hL (List.forall_mem_cons.mpr ⟨by show inR _; split; exact q0.1; exact q1.1, q1.2⟩) hc hs
theorem g_mmin {x z : Int} {idx : Nat} (hd : decode cc pc = .ok (.invokestatic idx, 3)) (hl : Cond.methodLink y.cls idx Lib.Math.min.name ∈ TW ∧ Cond.static Lib.Math.min.name ∈ TW ∧ Cond.initialized "java/lang/Math" ∈ TW ∧ Cond.code Lib.Math.min.name Lib.Math.min.code 2 (some .int) ∈ TW) (hf : 1 ≤ Bd.1) (hlo : catS S + 13 ≤ Bd.2.1) (hz : True) (k : ∀ v : Int, v = (if z < x then z else x) → G y cc nL ret scr Po Bd (pc + 3) L (pI v :: S) sh h cs sl) : G y cc nL ret scr Po Bd pc L (pI z :: pI x :: S) sh h cs sl := by
  intro p l e R s m args below meth c Q D cA ext n0 ad0 A X ad H locs ls hW hL hS hc hs
  have q0 := List.forall_mem_cons.mp hS
  have q1 := List.forall_mem_cons.mp q0.2
  refine va_mmin X.1 X.2.1 (X.2.2.1.trans hL.1.symm) X.2.2.2.1 (X.2.2.2.2.1 _ hl.1) (X.2.2.2.2.1 _ hl.2.1) (X.2.2.2.2.1 _ hl.2.2.1) (X.2.2.2.2.1 _ hl.2.2.2) (by rw [X.2.2.2.2.2.2.2.1.1]; exact hf) (by rw [catS_eq (ext_cat X.2.2.2.2.2.2.2.2.2.1.1), X.2.2.2.2.2.2.2.1.2.1]; exact hlo) hc hs hd ?_
  have ev : (if Int32.ofInt z < Int32.ofInt x then Int32.ofInt z else Int32.ofInt x) = Int32.ofInt (if z < x then z else x) := by
    have := i32_lt q0.1 q1.1
    by_cases c1 : z < x
    · rw [if_pos (this.mpr c1), if_pos c1]
    · rw [if_neg (fun q => c1 (this.mp q)), if_neg c1]
  rw [ev]
  exact k _ rfl p l e R s m args below meth c Q D cA ext n0 ad0 A X ad H locs ls hW hL (List.forall_mem_cons.mpr ⟨by show inR _; split; exact q0.1; exact q1.1, q1.2⟩) hc hs
/-- System.arraycopy between two int arrays of the world -/
theorem g_acopy {a0 a n0' n1' idx : Nat} {sp dp n : Int} (hd : decode cc pc = .ok (.invokestatic idx, 3)) (hl : Cond.methodLink y.cls idx arraycopyName ∈ TW ∧ Cond.native arraycopyName ∈ TW ∧ Cond.static arraycopyName ∈ TW ∧ Cond.initialized "java/lang/System" ∈ TW) (he0 : sh[a0]? = some (.inl (0, n0'))) (he : sh[a]? = some (.inl (0, n1'))) (h1 : 0 ≤ sp) (h2 : 0 ≤ dp) (h3 : 0 ≤ n) (h4 : sp + n ≤ n0') (h5 : dp + n ≤ n1') (hf : 1 ≤ Bd.1) (hlo : catS S + (nativeFrameWords "java/lang/System" "arraycopy" 5 + 11) ≤ Bd.2.1)
    (k : ∀ h' : MEM, h' = cp2 h a0 a sp.toNat dp.toNat n.toNat → G y cc nL ret scr Po Bd (pc + 3) L S sh h' cs sl) : G y cc nL ret scr Po Bd pc L (pI n :: pI dp :: pR a :: pI sp :: pR a0 :: S) sh h cs sl := by
  intro p l e R s m args below meth c Q D cA ext n0 ad0 A X ad H locs ls hW hL hS hc hs
  have q0 := List.forall_mem_cons.mp hS
  have q1 := List.forall_mem_cons.mp q0.2
  have q2 := List.forall_mem_cons.mp q1.2
  have q3 := List.forall_mem_cons.mp q2.2
  have q4 := List.forall_mem_cons.mp q3.2
  refine va_copyi (ty := .int) X.1 X.2.1 (X.2.2.1.trans hL.1.symm) X.2.2.2.1 (X.2.2.2.2.1 _ hl.1) (X.2.2.2.2.1 _ hl.2.1) (X.2.2.2.2.1 _ hl.2.2.1) (X.2.2.2.2.1 _ hl.2.2.2) X.2.2.2.2.2.2.1.1 hW.1 hW.2.1 hW.2.2.1 a0 a 0 0 (rep_get he0) (rep_get he) aTys_0 aTys_0 rfl (fun z => by have := (i32_ltz q3.1).mp z; omega) (fun z => by have := (i32_ltz q1.1).mp z; omega) (fun z => by have := (i32_ltz q0.1).mp z; omega) (by rw [i32_clamp q3.1, i32_clamp q0.1]; omega) (by rw [i32_clamp q1.1, i32_clamp q0.1]; omega) (fun i hi => rfl) (by rw [X.2.2.2.2.2.2.2.1.1]; exact hf) (by rw [catS_eq (ext_cat X.2.2.2.2.2.2.2.2.2.1.1), X.2.2.2.2.2.2.2.1.2.1]; exact hlo) hd (fun H1 locs1 hP hD hSS => ?_)
  rw [i32_clamp q3.1, i32_clamp q1.1, i32_clamp q0.1] at hP hD
  have er : (rep ad cA sh h).set a (ad a, .inl (cA 0, n1', .inl (va_cpy (fun j => Int32.ofInt (h a0 j)) (fun j => Int32.ofInt (h a j)) sp.toNat dp.toNat n.toNat))) = rep ad cA sh (cp2 h a0 a sp.toNat dp.toNat n.toNat) := by
    apply List.ext_getElem?
    intro i
    by_cases hi : i = a
    · subst hi
      rw [List.getElem?_set_self (by rw [rep_length]; exact (List.getElem?_eq_some_iff.mp he).1), rep_get he]
      congr 3
      refine congrArg (fun z : Nat → Int32 => ((cA 0, n1', Sum.inl z) : ClassId × vp_A)) ?_
      funext j
      unfold va_cpy cp2
      by_cases hj : dp.toNat ≤ j ∧ j < dp.toNat + n.toNat
      · rw [if_pos hj, if_pos ⟨rfl, hj⟩]
      · rw [if_neg hj, if_neg (fun q => hj q.2)]
    · rw [List.getElem?_set_ne (Ne.symm hi)]
      simp only [rep, List.getElem?_mapIdx]
      congr 1
      funext e'
      rw [show cp2 h a0 a sp.toNat dp.toNat n.toNat i = h i from by funext j; simp [cp2, hi]]
  refine k _ rfl p l e R s m args below meth c Q D cA ext n0 ad0 A X ad H1 locs1 ls ⟨?_, ?_, hSS, ⟨fun i j => ?_, fun i ci rs j z1 z2 => ?_⟩, hW.2.2.2.2⟩ hL q4.2 hc hs
  · rw [← er]; exact hP
  · rw [← er]; exact hD
  · unfold cp2; split
    · exact hW.2.2.2.1.1 _ _
    · exact hW.2.2.2.1.1 _ _
  · unfold cp2; split
    · next z => obtain ⟨rfl, -⟩ := z; rw [he] at z1; cases z1
    · exact hW.2.2.2.1.2 i ci rs j z1 z2
theorem g_ldc {v : Int} {idx : Nat} (hd : decode cc pc = .ok (.ldc idx, 2)) (hw : Cond.constant y.cls idx (Int32.ofInt v) ∈ TW) (hv : inR v) (k : G y cc nL ret scr Po Bd (pc + 2) L (pI v :: S) sh h cs sl) : G y cc nL ret scr Po Bd pc L S sh h cs sl := by
  intro p l e R s m args below meth c Q D cA ext n0 ad0 A X ad H locs ls hW hL hS hc hs
  exact lv_ldc X.1 X.2.1 X.2.2.2.1 (X.2.2.2.2.1 _ hw) hd (k p l e R s m args below meth c Q D cA ext n0 ad0 A X ad H locs ls hW hL (List.forall_mem_cons.mpr ⟨hv, hS⟩) hc hs)
theorem g_ldc_w {v : Int} {idx : Nat} (hd : decode cc pc = .ok (.ldc_w idx, 3)) (hw : Cond.constant y.cls idx (Int32.ofInt v) ∈ TW) (hv : inR v) (k : G y cc nL ret scr Po Bd (pc + 3) L (pI v :: S) sh h cs sl) : G y cc nL ret scr Po Bd pc L S sh h cs sl := by
  intro p l e R s m args below meth c Q D cA ext n0 ad0 A X ad H locs ls hW hL hS hc hs
  exact lv_ldcw X.1 X.2.1 X.2.2.2.1 (X.2.2.2.2.1 _ hw) hd (k p l e R s m args below meth c Q D cA ext n0 ad0 A X ad H locs ls hW hL (List.forall_mem_cons.mpr ⟨hv, hS⟩) hc hs)
end KIT5
