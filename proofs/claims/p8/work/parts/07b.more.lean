/-! ===== more rules ===== -/
section MORE
variable {y : MethodName} {cc : ByteArray} {nL : Nat} {ret : Option FieldType} {scr : Option (List Int)} {Po : Option PV → List SE → MEM → Prop} {Bd : Nat × Nat × Nat × Nat} {pc : Nat} {L : List (Option PV)} {S : List PV} {sh : List SE} {h : MEM} {cs sl : Nat}
theorem g_iaddV {x z v : Int} (hd : decode cc pc = .ok (.iadd, 1)) (hv : w32 (x + z) = v) (k : G y cc nL ret scr Po Bd (pc + 1) L (pI v :: S) sh h cs sl) : G y cc nL ret scr Po Bd pc L (pI z :: pI x :: S) sh h cs sl := g_iadd hd (by rw [hv]; exact k)
theorem g_isubV {x z v : Int} (hd : decode cc pc = .ok (.isub, 1)) (hv : w32 (x - z) = v) (k : G y cc nL ret scr Po Bd (pc + 1) L (pI v :: S) sh h cs sl) : G y cc nL ret scr Po Bd pc L (pI z :: pI x :: S) sh h cs sl := g_isub hd (by rw [hv]; exact k)
theorem g_imulQ {x z A B A2 B2 : Int} (hd : decode cc pc = .ok (.imul, 1)) (h1 : A ≤ x) (h2 : x ≤ B) (h3 : A2 ≤ z) (h4 : z ≤ B2) (hA : 0 ≤ A) (hC : 0 ≤ A2) (hm : B * B2 ≤ 2147483647) (k : ∀ v : Int, v = x * z → A * A2 ≤ v → v ≤ B * B2 → G y cc nL ret scr Po Bd (pc + 1) L (pI v :: S) sh h cs sl) : G y cc nL ret scr Po Bd pc L (pI z :: pI x :: S) sh h cs sl := by
  obtain ⟨b1, b2⟩ := mul_bnd h1 h2 h3 h4 hA hC
  have b0 : 0 ≤ A * A2 := Int.mul_nonneg hA hC
  exact g_imulB hd (by omega) (by omega) (k _ rfl b1 b2)
theorem i2b_all : ∀ n : Nat, n < 256 → (Int32.ofInt ((n : Int) - 128)).toInt8.toInt32 = Int32.ofInt ((n : Int) - 128) := by decide +kernel
theorem i2c_all : ∀ n : Nat, n < 256 → ((Int32.ofInt (n : Int)).toUInt32 % 65536).toInt32 = Int32.ofInt (n : Int) := by decide +kernel
theorem g_i2bB {x : Int} (hd : decode cc pc = .ok (.i2b, 1)) (h0 : -128 ≤ x) (h1 : x ≤ 127) (k : G y cc nL ret scr Po Bd (pc + 1) L (pI x :: S) sh h cs sl) : G y cc nL ret scr Po Bd pc L (pI x :: S) sh h cs sl := by
  intro p l e R s m args below meth c Q D cA ext n0 ad0 A X ad H locs ls hW hL hS hc hs
  refine lv_i2b (v := Int32.ofInt x) X.1 X.2.1 hd ?_ (k p l e R s m args below meth c Q D cA ext n0 ad0 A X ad H locs ls hW hL hS hc hs)
  have q := i2b_all (x + 128).toNat (by omega)
  rw [show (((x + 128).toNat : Int) - 128) = x by omega] at q
  exact q
theorem g_i2cB {x : Int} (hd : decode cc pc = .ok (.i2c, 1)) (h0 : 0 ≤ x) (h1 : x ≤ 255) (k : G y cc nL ret scr Po Bd (pc + 1) L (pI x :: S) sh h cs sl) : G y cc nL ret scr Po Bd pc L (pI x :: S) sh h cs sl := by
  intro p l e R s m args below meth c Q D cA ext n0 ad0 A X ad H locs ls hW hL hS hc hs
  refine lv_i2c (v := Int32.ofInt x) X.1 X.2.1 hd ?_ (k p l e R s m args below meth c Q D cA ext n0 ad0 A X ad H locs ls hW hL hS hc hs)
  have q := i2c_all x.toNat (by omega)
  rw [show ((x.toNat : Nat) : Int) = x by omega] at q
  exact q
end MORE
/-! ===== the two laws of the class: which is in use ===== -/
def LD (h : MEM) : Prop := (h 0 10 = ((82 : Nat) : Int) ∧ h 0 11 = ((90 : Nat) : Int)) ∨ (h 0 10 = ((90 : Nat) : Int) ∧ h 0 11 = ((82 : Nat) : Int))
theorem LD.fr {T : List (Nat × Nat)} {h h' : MEM} (f : LD h) (hF : Fr T h h') (hT : (tin T 0 10 || tin T 0 11) = false) : LD h' := by
  rw [Bool.or_eq_false_iff] at hT
  unfold LD
  rw [hF _ _ hT.1, hF _ _ hT.2]
  exact f
/-! ===== the sign that is read ===== -/
def SGN (h : MEM) : Int := if 0 ≤ h 65 2 ∧ h 65 2 < h 65 1 then h 66 (h 65 2).toNat else 0
theorem sgn_in {h : MEM} {a l v : Int} (ea : a = h 65 2) (el : l = h 65 1) (h0 : 0 ≤ a) (h1 : a < l) (ev : v = h 66 a.toNat) : v = SGN h := by
  subst ea el ev
  unfold SGN
  rw [if_pos ⟨h0, h1⟩]
theorem sgn_out {h : MEM} {a l : Int} (ea : a = h 65 2) (el : l = h 65 1) (h0 : a < 0 ∨ l ≤ a) : 0 = SGN h := by
  subst ea el
  unfold SGN
  rw [if_neg (by omega)]
theorem sgn_ou {h : MEM} {a : Int} (ea : a = h 65 2) (h0 : a < 0) : 0 = SGN h := by
  subst ea
  unfold SGN
  rw [if_neg (by omega)]
/-! ===== rows of steps: how many values lie on the stack ===== -/
def rpD (f : Nat → Int) (a : Nat) : Nat → Int
  | 0 => 0
  | k + 1 => rpD f a k + (if 2 < f (a + k) then -1 else if f (a + k) = 2 then 0 else 1)
def rpV (f : Nat → Int) (a k : Nat) : Prop := ∀ j, j < k → (2 < f (a + j) → 2 ≤ rpD f a j) ∧ (f (a + j) = 2 → 1 ≤ rpD f a j)
theorem rpV_b {f : Nat → Int} {a k : Nat} (h : rpV f a k) : ∀ j, j ≤ k → 0 ≤ rpD f a j ∧ rpD f a j ≤ j
  | 0, _ => ⟨Int.le_refl 0, Int.le_refl 0⟩
  | j + 1, hj => by
    have ih := rpV_b h j (by omega)
    have hv := h j (by omega)
    show 0 ≤ rpD f a j + _ ∧ rpD f a j + _ ≤ _
    by_cases h1 : 2 < f (a + j)
    · rw [if_pos h1]; have := hv.1 h1; omega
    · rw [if_neg h1]
      by_cases h2 : f (a + j) = 2
      · rw [if_pos h2]; have := hv.2 h2; omega
      · rw [if_neg h2]; omega
theorem rpD_eq {f g : Nat → Int} {a : Nat} : ∀ k : Nat, (∀ j, j < k → f (a + j) = g (a + j)) → rpD f a k = rpD g a k
  | 0, _ => rfl
  | k + 1, h => by
    show rpD f a k + _ = rpD g a k + _
    rw [rpD_eq k (fun j hj => h j (by omega)), h k (by omega)]
theorem rpV_eq {f g : Nat → Int} {a k : Nat} (h : ∀ j, j < k → f (a + j) = g (a + j)) (hv : rpV f a k) : rpV g a k := by
  intro j hj
  rw [← h j hj, ← rpD_eq (f := f) j (fun i hi => h i (by omega))]
  exact hv j hj
def RPV (x1 x2 : Int) (h : MEM) : Prop := rpV (h 119) x1.toNat (x2 - x1).toNat
theorem RPV.fr {x1 x2 : Int} {T : List (Nat × Nat)} {h h' : MEM} (f : RPV x1 x2 h) (hF : Fr T h h') (hT : T.all (fun p => !(p.1 == 119)) = true) : RPV x1 x2 h' := by
  unfold RPV
  refine rpV_eq (fun j _ => ?_) f
  exact (hF _ _ (tin_no (fun p hp => by have := List.all_eq_true.mp hT p hp; simpa using this))).symm
theorem rpw_0 {f : Nat → Int} {a : Nat} {x : Int} : 0 = rpD f a (x - x).toNat := by rw [Int.sub_self]; rfl
theorem rpw_get {h h' : MEM} {x1 x2 n i v : Int} (f : RPV x1 x2 h) (e : n = rpD (h 119) x1.toNat (i - x1).toNat) (h0 : 0 ≤ x1) (h1 : x1 ≤ i) (h2 : i < x2) (hc : h' 119 i.toNat = h 119 i.toNat) (hv : v = h' 119 i.toNat) :
    0 ≤ n ∧ n ≤ i - x1 ∧ (2 < v → 2 ≤ n) ∧ (v = 2 → 1 ≤ n) ∧ rpD (h 119) x1.toNat (i + 1 - x1).toNat = n + (if 2 < v then -1 else if v = 2 then 0 else 1) := by
  have hb := rpV_b f (i - x1).toNat (by omega)
  have hg := f (i - x1).toNat (by omega)
  have ei : x1.toNat + (i - x1).toNat = i.toNat := by omega
  rw [ei, ← hc, ← hv, ← e] at hg
  rw [← e] at hb
  refine ⟨hb.1, by omega, hg.1, hg.2, ?_⟩
  rw [show (i + 1 - x1).toNat = (i - x1).toNat + 1 by omega]
  show rpD _ _ _ + _ = _
  rw [ei, ← hc, ← hv, ← e]
/-! ===== the law of the reference: each of its rows is such a row ===== -/
def WFL (h : MEM) : Prop := ∀ k : Int, 0 ≤ k → k < h 98 23 → RPV (h 117 k.toNat) (h 118 k.toNat) h ∧ RPV (h 116 k.toNat) (h 117 k.toNat) h
theorem WFL.fr {T : List (Nat × Nat)} {h h' : MEM} (f : WFL h) (hF : Fr T h h') (hT : T.all (fun p => !(p.1 == 119) && !(p.1 == 116) && !(p.1 == 117) && !(p.1 == 118) && !(p.1 == 98 && (p.2 == 0 || p.2 == 23 + 1))) = true) : WFL h' := by
  have hq := List.all_eq_true.mp hT
  have n0 : ∀ a, a = 119 ∨ a = 116 ∨ a = 117 ∨ a = 118 → ∀ j, h' a j = h a j := fun a ha j => hF a j (tin_no (fun p hp e => by
    have q := hq p hp
    simp only [Bool.and_eq_true, Bool.not_eq_true', beq_eq_false_iff_ne, ne_eq] at q
    rcases ha with rfl | rfl | rfl | rfl
    · exact q.1.1.1.1 e
    · exact q.1.1.1.2 e
    · exact q.1.1.2 e
    · exact q.1.2 e))
  have n1 : h' 98 23 = h 98 23 := hF _ _ (by
    unfold tin
    rw [List.any_eq_false]
    intro p hp
    have q := hq p hp
    simp only [Bool.and_eq_true] at q
    have q2 := q.2
    simp only [Bool.not_eq_true', Bool.and_eq_false_iff, Bool.or_eq_false_iff, beq_eq_false_iff_ne, ne_eq] at q2
    intro z
    simp only [Bool.and_eq_true, Bool.or_eq_true, beq_iff_eq] at z
    omega)
  intro k h0 h1
  rw [n1] at h1
  rw [n0 117 (by decide), n0 118 (by decide), n0 116 (by decide)]
  obtain ⟨f1, f2⟩ := f k h0 h1
  exact ⟨rpV_eq (fun j _ => (n0 119 (by decide) _).symm) f1, rpV_eq (fun j _ => (n0 119 (by decide) _).symm) f2⟩
theorem WFL_1 {h : MEM} {k a b : Int} (f : WFL h) (h0 : 0 ≤ k) (h1 : k < h 98 23) (ha : h 117 k.toNat = a) (hb : h 118 k.toNat = b) : RPV a b h := by
  subst ha hb
  exact (f k h0 h1).1
theorem WFL_2 {h : MEM} {k a b : Int} (f : WFL h) (h0 : 0 ≤ k) (h1 : k < h 98 23) (ha : h 116 k.toNat = a) (hb : h 117 k.toNat = b) : RPV a b h := by
  subst ha hb
  exact (f k h0 h1).2
/-- the APPRENTICE that is asked about is on a ROOF -/
def AT9 (h : MEM) : Prop := h 103 (h 98 46).toNat ≤ 9
theorem AT9.fr {T : List (Nat × Nat)} {h h' : MEM} (f : AT9 h) (hF : Fr T h h') (hT : T.all (fun p => !(p.1 == 103) && !(p.1 == 98 && (p.2 == 0 || p.2 == 46 + 1))) = true) : AT9 h' := by
  have hq := List.all_eq_true.mp hT
  have n0 : ∀ j, h' 103 j = h 103 j := fun j => hF _ j (tin_no (fun p hp e => by
    have q := hq p hp
    simp only [Bool.and_eq_true, Bool.not_eq_true', beq_eq_false_iff_ne, ne_eq] at q
    exact q.1 e))
  have n1 : h' 98 46 = h 98 46 := hF _ _ (by
    unfold tin
    rw [List.any_eq_false]
    intro p hp
    have q := hq p hp
    simp only [Bool.and_eq_true] at q
    have q2 := q.2
    simp only [Bool.not_eq_true', Bool.and_eq_false_iff, Bool.or_eq_false_iff, beq_eq_false_iff_ne, ne_eq] at q2
    intro z
    simp only [Bool.and_eq_true, Bool.or_eq_true, beq_iff_eq] at z
    omega)
  unfold AT9
  rw [n0, n1]
  exact f
theorem AT9_mk {h : MEM} {a w : Int} (h1 : h 98 46 = a) (h2 : h 103 a.toNat = w) (h3 : w ≤ 9) : AT9 h := by
  unfold AT9
  rw [h1, h2]
  exact h3
theorem AT9_at {h : MEM} {a w : Int} (f : AT9 h) (h1 : a = h 98 46) (h2 : w = h 103 a.toNat) (h3 : 0 ≤ w) : 0 ≤ w ∧ w ≤ 9 := by
  subst h1
  subst h2
  exact ⟨h3, f⟩
def PW (v k : Int) : Prop := v ≤ 10 ^ k.toNat
theorem PW_0 : PW 1 0 := by unfold PW; decide
theorem PW_s {v k r w : Int} (p : PW v k) (hk : 0 ≤ k) (h1 : 1 ≤ v) (h2 : 0 ≤ r) (h3 : r ≤ 10) (e : w = v * r) : PW w (k + 1) := by
  unfold PW at p ⊢
  rw [show (k + 1).toNat = k.toNat + 1 by omega, Int.pow_succ, e]
  have a1 : v * r ≤ v * 10 := Int.mul_le_mul_of_nonneg_left h3 (by omega)
  omega
theorem PW_b {v k : Int} (p : PW v k) (hk : 0 ≤ k) (h7 : k ≤ 7) : v ≤ 10000000 := by
  unfold PW at p
  have : ∀ n : Nat, n ≤ 7 → (10 : Int) ^ n ≤ 10000000 := by decide
  have := this k.toNat (by omega)
  omega
