/-! ===== SNOW, row by row ===== -/
section STK
variable {y : MethodName} {cc : ByteArray} {nL : Nat} {ret : Option FieldType} {scr : Option (List Int)} {Po : Option PV → List SE → MEM → Prop} {Bd : Nat × Nat × Nat × Nat} {pc : Nat} {L : List (Option PV)} {S : List PV} {sh : List SE} {h : MEM} {cs sl : Nat}
theorem g_stk {S' : List PV} (e : S' = S) (k : G y cc nL ret scr Po Bd pc L S' sh h cs sl) : G y cc nL ret scr Po Bd pc L S sh h cs sl := e ▸ k
end STK
theorem PW_u {v k : Int} (p : PW v k) (hk : 0 ≤ k) : PW (v * 10) (k + 1) := by
  unfold PW at p ⊢
  rw [show (k + 1).toNat = k.toNat + 1 by omega, Int.pow_succ]
  omega
theorem PW_3 {v k : Int} (p : PW v k) (hk : 0 ≤ k) (h3 : k ≤ 3) : v ≤ 1000 := by
  unfold PW at p
  have : ∀ n : Nat, n ≤ 3 → (10 : Int) ^ n ≤ 1000 := by decide
  have := this k.toNat (by omega)
  omega
theorem PW_t {v k r w : Int} (p : PW v k) (hk : 0 ≤ k) (h1 : 0 ≤ v) (h2 : 0 ≤ r) (h3 : r ≤ 10) (e : w = v * r) : PW w (k + 1) := by
  unfold PW at p ⊢
  rw [show (k + 1).toNat = k.toNat + 1 by omega, Int.pow_succ, e]
  have a1 : v * r ≤ v * 10 := Int.mul_le_mul_of_nonneg_left h3 (by omega)
  omega
theorem lsw_d {ps : List (Int × Int)} {d x : Int} (h : ps.all (fun p => p.1 != x) = true) : Op.lookupswitch.offset ps d x = d := by
  induction ps with
  | nil => rfl
  | cons p r ih =>
    obtain ⟨a, o⟩ := p
    simp only [List.all_cons, Bool.and_eq_true, bne_iff_ne, ne_eq] at h
    simp only [Op.lookupswitch.offset]
    rw [if_neg h.1]
    exact ih h.2
def ASn (a : Nat) (g : Nat → Int) (h : MEM) : Prop := ∀ j : Nat, j < 100 → h a j = g j
def ISn (g : Nat → Int) (h : MEM) : Prop := ∀ j : Nat, j < 100 → h 114 j = g j
def S0n (g : Nat → Int) (h : MEM) : Prop := ∀ j : Nat, j < 100 → h 144 j = g j
def S1n (g : Nat → Int) (h : MEM) : Prop := ∀ j : Nat, j < 100 → h 144 (100 + j) = g j
theorem no_arr {T : List (Nat × Nat)} {h h' : MEM} (hF : Fr T h h') {a : Nat} (hT : T.all (fun p => !(p.1 == a)) = true) (j : Nat) : h' a j = h a j := hF a j (tin_no (fun p hp => by have := List.all_eq_true.mp hT p hp; simpa using this))
theorem ASn.fr {a : Nat} {g : Nat → Int} {T : List (Nat × Nat)} {h h' : MEM} (f : ASn a g h) (hF : Fr T h h') (hT : T.all (fun p => !(p.1 == a)) = true) : ASn a g h' := fun j hj => by rw [no_arr hF hT]; exact f j hj
theorem ISn.fr {g : Nat → Int} {T : List (Nat × Nat)} {h h' : MEM} (f : ISn g h) (hF : Fr T h h') (hT : T.all (fun p => !(p.1 == 114)) = true) : ISn g h' := fun j hj => by rw [no_arr hF hT]; exact f j hj
theorem S0n.fr {g : Nat → Int} {T : List (Nat × Nat)} {h h' : MEM} (f : S0n g h) (hF : Fr T h h') (hT : T.all (fun p => !(p.1 == 144)) = true) : S0n g h' := fun j hj => by rw [no_arr hF hT]; exact f j hj
theorem S1n.fr {g : Nat → Int} {T : List (Nat × Nat)} {h h' : MEM} (f : S1n g h) (hF : Fr T h h') (hT : T.all (fun p => !(p.1 == 144)) = true) : S1n g h' := fun j hj => by rw [no_arr hF hT]; exact f j hj
theorem AS_cp {a0 a : Nat} {g : Nat → Int} {h h2 : MEM} (e : h2 = cp2 h a0 a 0 0 100) (f : ASn a0 g h) : ASn a g h2 := by
  subst e
  intro j hj
  unfold cp2
  rw [if_pos ⟨rfl, Nat.zero_le _, by omega⟩, show 0 + (j - 0) = j by omega]
  exact f j hj
def SA0 (g : Nat → Int) (n : Int) (h : MEM) : Prop := ∀ j : Nat, (j : Int) < n → h 144 j = g j
theorem SA0_0 {g : Nat → Int} {h : MEM} : SA0 g 0 h := fun j hj => by omega
theorem SA0_s {g : Nat → Int} {n v : Int} {h h2 : MEM} (s : SA0 g n h) (f : ISn g h) (e : h2 = up2 h 144 (100 * 0 + n).toNat v) (ev : v = h 114 n.toNat) (h0 : 0 ≤ n) (h1 : n < 100) : SA0 g (n + 1) h2 := by
  subst e ev
  intro j hj
  unfold up2
  split
  · next q => rw [f n.toNat (by omega), show n.toNat = j by omega]
  · next q => exact s j (by omega)
theorem SA0_e {g : Nat → Int} {n : Int} {h : MEM} (s : SA0 g n h) (hn : 100 ≤ n) : S0n g h := fun j hj => s j (by omega)
theorem S1_s0 {g : Nat → Int} {n v : Int} {h h2 : MEM} (s : S1n g h) (e : h2 = up2 h 144 (100 * 0 + n).toNat v) (h0 : 0 ≤ n) (h1 : n < 100) : S1n g h2 := by
  subst e
  intro j hj
  unfold up2
  rw [if_neg (by omega)]
  exact s j hj
def SA1 (g : Nat → Int) (n : Int) (h : MEM) : Prop := ∀ j : Nat, (j : Int) < n → h 144 (100 + j) = g j
theorem SA1_0 {g : Nat → Int} {h : MEM} : SA1 g 0 h := fun j hj => by omega
theorem SA1_s {g : Nat → Int} {n v : Int} {h h2 : MEM} (s : SA1 g n h) (f : ISn g h) (e : h2 = up2 h 144 (100 * 1 + n).toNat v) (ev : v = h 114 n.toNat) (h0 : 0 ≤ n) (h1 : n < 100) : SA1 g (n + 1) h2 := by
  subst e ev
  intro j hj
  unfold up2
  split
  · next q => rw [f n.toNat (by omega), show n.toNat = j by omega]
  · next q => exact s j (by omega)
theorem SA1_e {g : Nat → Int} {n : Int} {h : MEM} (s : SA1 g n h) (hn : 100 ≤ n) : S1n g h := fun j hj => s j (by omega)
def PB (g : Nat → Int) (n : Int) (h : MEM) : Prop := ∀ j : Nat, (j : Int) < n → h 114 j = g j
theorem PB_0 {g : Nat → Int} {h : MEM} : PB g 0 h := fun j hj => by omega
theorem PB_s0 {g : Nat → Int} {n v : Int} {h h2 : MEM} (s : PB g n h) (f : S0n g h) (e : h2 = up2 h 114 n.toNat v) (ev : v = h 144 (100 * 0 + n).toNat) (h0 : 0 ≤ n) (h1 : n < 100) : PB g (n + 1) h2 := by
  subst e ev
  intro j hj
  unfold up2
  split
  · next q => rw [show (100 * 0 + n).toNat = j by omega, f j (by omega)]
  · next q => exact s j (by omega)
theorem PB_s1 {g : Nat → Int} {n v : Int} {h h2 : MEM} (s : PB g n h) (f : S1n g h) (e : h2 = up2 h 114 n.toNat v) (ev : v = h 144 (100 * 1 + n).toNat) (h0 : 0 ≤ n) (h1 : n < 100) : PB g (n + 1) h2 := by
  subst e ev
  intro j hj
  unfold up2
  split
  · next q => rw [show (100 * 1 + n).toNat = 100 + j by omega, f j (by omega)]
  · next q => exact s j (by omega)
theorem PB_e {g : Nat → Int} {n : Int} {h : MEM} (s : PB g n h) (hn : 100 ≤ n) : ISn g h := fun j hj => s j (by omega)
/-- what snow answers and does -/
def SNQ (a : Nat) (h h' : MEM) (x1 x2 x : Int) : Prop := (0 ≤ x1 ∧ x1 ≤ 99 ∧ h a x1.toNat ≠ x2 ∧ x = 1 ∧ ∀ j : Nat, h' a j = if j = x1.toNat then x2 else h a j) ∨ (¬ (0 ≤ x1 ∧ x1 ≤ 99 ∧ h a x1.toNat ≠ x2) ∧ x = 0 ∧ ∀ j : Nat, h' a j = h a j)
theorem SNQ_y {a : Nat} {h h' : MEM} {x1 x2 v w : Int} (e : h' = up2 h a x1.toNat w) (ev : v = h a x1.toNat) (ew : w = x2) (h0 : 0 ≤ x1) (h1 : x1 ≤ 99) (hn : v ≠ x2) : SNQ a h h' x1 x2 1 := by
  subst e ev ew
  refine Or.inl ⟨h0, h1, hn, rfl, fun j => ?_⟩
  unfold up2
  by_cases q : j = x1.toNat
  · rw [if_pos ⟨rfl, q⟩, if_pos q]
  · rw [if_neg (fun z => q z.2), if_neg q]
theorem SNQ_a {a : Nat} {h : MEM} {x1 x2 : Int} (hn : ¬ (0 ≤ x1 ∧ x1 ≤ 99)) : SNQ a h h x1 x2 0 := Or.inr ⟨fun q => hn ⟨q.1, q.2.1⟩, rfl, fun _ => rfl⟩
theorem SNQ_b {a : Nat} {h : MEM} {x1 x2 v : Int} (ev : v = h a x1.toNat) (hn : v = x2) : SNQ a h h x1 x2 0 := Or.inr ⟨fun q => q.2.2 (ev ▸ hn), rfl, fun _ => rfl⟩
theorem SNQ_eq {a b : Nat} {g : Nat → Int} {h1 h1' h2 h2' : MEM} {x1 x2 x z : Int} (s1 : SNQ a h1 h1' x1 x2 x) (s2 : SNQ b h2 h2' x1 x2 z) (f1 : ASn a g h1) (f2 : ASn b g h2) : x = z ∧ ∃ g' : Nat → Int, ASn a g' h1' ∧ ASn b g' h2' := by
  rcases s1 with ⟨a1, a2, a3, a4, a5⟩ | ⟨a1, a2, a3⟩ <;> rcases s2 with ⟨b1, b2, b3, b4, b5⟩ | ⟨b1, b2, b3⟩
  · refine ⟨by omega, fun j => if j = x1.toNat then x2 else g j, fun j hj => ?_, fun j hj => ?_⟩
    · rw [a5, f1 j hj]
    · rw [b5, f2 j hj]
  · exact absurd ⟨a1, a2, by rw [f2 _ (by omega), ← f1 _ (by omega)]; exact a3⟩ b1
  · exact absurd ⟨b1, b2, by rw [f1 _ (by omega), ← f2 _ (by omega)]; exact b3⟩ a1
  · exact ⟨by omega, g, fun j hj => by rw [a3]; exact f1 j hj, fun j hj => by rw [b3]; exact f2 j hj⟩
theorem IS_AS {g : Nat → Int} {h : MEM} (f : ISn g h) : ASn 114 g h := f
theorem AS_IS {g : Nat → Int} {h : MEM} (f : ASn 114 g h) : ISn g h := f
