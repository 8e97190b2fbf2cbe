/-! ===== the pure layer: values are Int, a cell's address is its place in one list of cells ===== -/
abbrev PV : Type := Int ⊕ (Int ⊕ Option Nat)
abbrev pI (x : Int) : PV := Sum.inl x
abbrev pL (x : Int) : PV := Sum.inr (Sum.inl x)
abbrev pR (a : Nat) : PV := Sum.inr (Sum.inr (some a))
abbrev pX : PV := Sum.inr (Sum.inr none)
/-- a cell's shape: an array (kind 0 int, 1 byte, 2 boolean; its length), or an object (its class's place in vwCl; which fields are references) -/
abbrev SE : Type := (Nat × Nat) ⊕ (Nat × List Bool)
abbrev MEM : Type := Nat → Nat → Int
def up2 (h : MEM) (a k : Nat) (x : Int) : MEM := fun i j => if i = a ∧ j = k then x else h i j
def inR (x : Int) : Prop := -2147483648 ≤ x ∧ x ≤ 2147483647
def inRL (x : Int) : Prop := -9223372036854775808 ≤ x ∧ x ≤ 9223372036854775807
def w32 (x : Int) : Int := (x + 2147483648) % 4294967296 - 2147483648
def pvv (ad : Nat → Nat) (ext : Value) (v : PV) : Value := match v with
  | .inl x => .int (Int32.ofInt x)
  | .inr (.inl x) => .long (Int64.ofInt x)
  | .inr (.inr (some a)) => .ref (ad a)
  | .inr (.inr none) => ext
def okV (n : Nat) (v : PV) : Prop := match v with
  | .inl x => inR x
  | .inr (.inl x) => inRL x
  | .inr (.inr (some a)) => a < n
  | .inr (.inr none) => True
def rfv (ad : Nat → Nat) (x : Int) : Value := if x < 0 then .null else .ref (ad x.toNat)
def ecell (ad : Nat → Nat) (cA : Nat → ClassId) (e : SE) (f : Nat → Int) : va_E := match e with
  | .inl (t, n) => .inl (cA t, n, .inl (fun j => Int32.ofInt (f j)))
  | .inr (ci, rs) => .inr (ci, rs.mapIdx (fun k b => if b then rfv ad (f k) else .int (Int32.ofInt (f k))))
def rep (ad : Nat → Nat) (cA : Nat → ClassId) (sh : List SE) (h : MEM) : va_W := sh.mapIdx (fun i e => (ad i, ecell ad cA e (h i)))
def okH (sh : List SE) (h : MEM) : Prop := (∀ a k, inR (h a k)) ∧ ∀ (a ci : Nat) (rs : List Bool) (k : Nat), sh[a]? = some (.inr (ci, rs)) → rs[k]? = some true → h a k < sh.length
theorem i32_toInt {x : Int} (h : inR x) : (Int32.ofInt x).toInt = x := by
  rw [Int32.toInt_ofInt, show Int32.size = 2 ^ 32 from rfl, Int.bmod_def]
  have h1 := h.1
  have h2 := h.2
  omega
theorem i32_lt {x y : Int} (hx : inR x) (hy : inR y) : Int32.ofInt x < Int32.ofInt y ↔ x < y := by
  rw [Int32.lt_iff_toInt_lt, i32_toInt hx, i32_toInt hy]
theorem i32_le {x y : Int} (hx : inR x) (hy : inR y) : Int32.ofInt x ≤ Int32.ofInt y ↔ x ≤ y := by
  rw [Int32.le_iff_toInt_le, i32_toInt hx, i32_toInt hy]
theorem i32_eq {x y : Int} (hx : inR x) (hy : inR y) : Int32.ofInt x = Int32.ofInt y ↔ x = y := by
  rw [← Int32.toInt_inj, i32_toInt hx, i32_toInt hy]
theorem i32_of (z : Int32) : Int32.ofInt z.toInt = z := Int32.ofInt_toInt z
theorem inR_toInt (z : Int32) : inR z.toInt := ⟨Int32.le_toInt z, by have := Int32.toInt_lt z; omega⟩
theorem w32_inR (x : Int) : inR (w32 x) := by unfold inR w32; omega
theorem w32_id {x : Int} (h : inR x) : w32 x = x := by unfold inR at h; unfold w32; omega
theorem i32_w32 (x : Int) : Int32.ofInt (w32 x) = Int32.ofInt x := by
  rw [← Int32.toInt_inj, i32_toInt (w32_inR x), Int32.toInt_ofInt]
  unfold w32
  rw [show Int32.size = 2 ^ 32 from rfl, Int.bmod_def]
  omega
theorem inR_0 : inR 0 := by unfold inR; omega
theorem i32_zero : Int32.ofInt 0 = 0 := rfl
theorem i32_ltz {x : Int} (hx : inR x) : Int32.ofInt x < 0 ↔ x < 0 := by rw [← i32_zero]; exact i32_lt hx inR_0
theorem i32_lez {x : Int} (hx : inR x) : Int32.ofInt x ≤ 0 ↔ x ≤ 0 := by rw [← i32_zero]; exact i32_le hx inR_0
theorem i32_gez {x : Int} (hx : inR x) : 0 ≤ Int32.ofInt x ↔ 0 ≤ x := by rw [← i32_zero]; exact i32_le inR_0 hx
theorem i32_gtz {x : Int} (hx : inR x) : 0 < Int32.ofInt x ↔ 0 < x := by rw [← i32_zero]; exact i32_lt inR_0 hx
theorem i32_eqz {x : Int} (hx : inR x) : Int32.ofInt x = 0 ↔ x = 0 := by rw [← i32_zero]; exact i32_eq hx inR_0
theorem i32_clamp {x : Int} (h : inR x) : (Int32.ofInt x).toNatClampNeg = x.toNat := by
  show (Int32.ofInt x).toInt.toNat = _
  rw [i32_toInt h]
theorem i32_in {x : Int} {n : Nat} (hx : inR x) (h0 : 0 ≤ x) (h1 : x < n) : vp_in (Int32.ofInt x) n := by
  intro h
  rcases h with h | h
  · have := (i32_ltz hx).mp h; omega
  · rw [i32_clamp hx] at h; omega
/-! arithmetic that is kept as the machine's own -/
def iand (x y : Int) : Int := (Int32.ofInt x &&& Int32.ofInt y).toInt
def ior (x y : Int) : Int := (Int32.ofInt x ||| Int32.ofInt y).toInt
def ixor (x y : Int) : Int := (Int32.ofInt x ^^^ Int32.ofInt y).toInt
def ishl (x y : Int) : Int := (Int32.ofInt x <<< (Int32.ofInt y &&& 31)).toInt
def ishr (x y : Int) : Int := (Int32.ofInt x >>> (Int32.ofInt y &&& 31)).toInt
def idiv (x y : Int) : Int := (Int32.ofInt x / Int32.ofInt y).toInt
def irem (x y : Int) : Int := (Int32.ofInt x - Int32.ofInt x / Int32.ofInt y * Int32.ofInt y).toInt
theorem rep_length {ad : Nat → Nat} {cA : Nat → ClassId} {sh : List SE} {h : MEM} : (rep ad cA sh h).length = sh.length := by simp [rep]
theorem rep_get {ad : Nat → Nat} {cA : Nat → ClassId} {sh : List SE} {h : MEM} {a : Nat} {e : SE} (he : sh[a]? = some e) : (rep ad cA sh h)[a]? = some (ad a, ecell ad cA e (h a)) := by
  simp [rep, he]
theorem rep_of {ad : Nat → Nat} {cA : Nat → ClassId} {sh : List SE} {h : MEM} {k : Nat} {q : Nat × va_E} (hk : (rep ad cA sh h)[k]? = some q) : ∃ e, sh[k]? = some e ∧ q = (ad k, ecell ad cA e (h k)) := by
  simp only [rep, List.getElem?_mapIdx, Option.map_eq_some_iff] at hk
  obtain ⟨e, h1, h2⟩ := hk
  exact ⟨e, h1, h2.symm⟩
theorem rep_set {ad : Nat → Nat} {cA : Nat → ClassId} {sh : List SE} {h : MEM} {a k : Nat} {x : Int} {e : SE} (he : sh[a]? = some e) :
    (rep ad cA sh h).set a (ad a, ecell ad cA e (up2 h a k x a)) = rep ad cA sh (up2 h a k x) := by
  apply List.ext_getElem?
  intro i
  by_cases hi : i = a
  · subst hi
    rw [rep_get he, List.getElem?_set_self]
    rw [rep_length]
    exact (List.getElem?_eq_some_iff.mp he).1
  · rw [List.getElem?_set_ne (Ne.symm hi)]
    simp only [rep, List.getElem?_mapIdx]
    congr 1
    funext e'
    rw [show up2 h a k x i = h i from by funext j; simp [up2, hi]]
theorem fs_set {ad : Nat → Nat} {rs : List Bool} {f : Nat → Int} {k : Nat} {x : Int} {b : Bool} (hb : rs[k]? = some b) :
    (rs.mapIdx (fun k b => if b then rfv ad (f k) else Value.int (Int32.ofInt (f k)))).set k (if b then rfv ad x else Value.int (Int32.ofInt x)) = rs.mapIdx (fun j b => if b then rfv ad (if j = k then x else f j) else Value.int (Int32.ofInt (if j = k then x else f j))) := by
  apply List.ext_getElem?
  intro i
  have hl := (List.getElem?_eq_some_iff.mp hb).1
  by_cases hi : i = k
  · subst hi
    rw [List.getElem?_set_self (by simpa using hl)]
    simp [hb]
  · rw [List.getElem?_set_ne (Ne.symm hi)]
    simp [hi]
theorem up2_same {h : MEM} {a k : Nat} {x : Int} : up2 h a k x a = fun j => if j = k then x else h a j := by
  funext j; simp [up2]
theorem up2_at {h : MEM} {a k : Nat} {x : Int} : up2 h a k x a k = x := by simp [up2]
theorem up2_ne {h : MEM} {a k i j : Nat} {x : Int} (hn : ¬ (i = a ∧ j = k)) : up2 h a k x i j = h i j := by simp [up2, hn]
theorem okH_up {sh : List SE} {h : MEM} {a k : Nat} {x : Int} (hk : okH sh h) (hx : inR x) (hr : ∀ (ci : Nat) (rs : List Bool), sh[a]? = some (.inr (ci, rs)) → rs[k]? = some true → x < sh.length) : okH sh (up2 h a k x) := by
  refine ⟨fun i j => ?_, fun i ci rs j h1 h2 => ?_⟩
  · unfold up2; split
    · exact hx
    · exact hk.1 i j
  · unfold up2; split
    · next q => obtain ⟨rfl, rfl⟩ := q; exact hr ci rs h1 h2
    · exact hk.2 i ci rs j h1 h2
