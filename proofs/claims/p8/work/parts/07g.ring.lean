/-! ===== sets as bits; rings ===== -/
def HAS (s k : Int) : Prop := iand (ishr s k) 1 = 1
theorem HAS1 {s k a b : Int} (e1 : a = ishr s k) (e2 : b = iand a 1) (h : b = 1) : HAS s k := by subst e1 e2; exact h
theorem HAS0 {s k a b : Int} (e1 : a = ishr s k) (e2 : b = iand a 1) (h : b ≠ 1) : ¬ HAS s k := by subst e1 e2; exact h
theorem has_t {x : Int} {p : Prop} (z : (x = 1 ∧ p) ∨ (x = 0 ∧ ¬ p)) (hx : x ≠ 0) : p := by
  rcases z with z | z
  · exact z.2
  · exact absurd z.1 hx
theorem has_f {x : Int} {p : Prop} (z : (x = 1 ∧ p) ∨ (x = 0 ∧ ¬ p)) (hx : x = 0) : ¬ p := by
  rcases z with z | z
  · omega
  · exact z.2
theorem ne_of {v w f : Int} (e : v = w) (h : v ≠ f) : w ≠ f := e ▸ h
theorem HAS_all : ∀ s : Nat, s < 256 → ∀ k : Nat, k < 8 → decide (iand (ishr (s : Int) (k : Int)) 1 = 1) = s.testBit k := by decide +kernel
theorem HAS_bit {s k : Int} (h0 : 0 ≤ s) (h1 : s < 256) (k0 : 0 ≤ k) (k1 : k < 8) : HAS s k ↔ s.toNat.testBit k.toNat = true := by
  have q := HAS_all s.toNat (by omega) k.toNat (by omega)
  rw [show ((s.toNat : Nat) : Int) = s by omega, show ((k.toNat : Nat) : Int) = k by omega] at q
  rw [← q]
  unfold HAS
  simp
theorem ior_n {x z : Int} (h0 : 0 ≤ x) (h1 : x < 256) (g0 : 0 ≤ z) (g1 : z < 256) : 0 ≤ ior x z ∧ ior x z < 256 ∧ (ior x z).toNat = x.toNat ||| z.toNat := by
  obtain ⟨n, rfl, hn⟩ := inR_nat h0 (show inR x by unfold inR; omega)
  obtain ⟨m, rfl, hm⟩ := inR_nat g0 (show inR z by unfold inR; omega)
  have hl : n ||| m < 2 ^ 8 := Nat.or_lt_two_pow (by omega) (by omega)
  unfold ior
  rw [i32_nat, i32_nat]
  have e := ior_nat (a := nI n) (b := nI m)
  rw [bv_nat hn, bv_nat hm] at e
  rw [toInt_small (by omega), e]
  refine ⟨by omega, by omega, by simp⟩
theorem iand_n {x z : Int} (h0 : 0 ≤ x) (h1 : x < 256) (g0 : 0 ≤ z) (g1 : z < 256) : iand x z = ((x.toNat &&& z.toNat : Nat) : Int) := by
  obtain ⟨n, rfl, hn⟩ := inR_nat h0 (show inR x by unfold inR; omega)
  obtain ⟨m, rfl, hm⟩ := inR_nat g0 (show inR z by unfold inR; omega)
  have hl : n &&& m ≤ n := Nat.and_le_left
  unfold iand
  rw [i32_nat, i32_nat]
  have e := iand_nat (a := nI n) (b := nI m)
  rw [bv_nat hn, bv_nat hm] at e
  rw [toInt_small (by omega), e]
  simp
theorem nz_bit : ∀ s : Nat, s < 256 → s ≠ 0 → ∃ k : Nat, k < 8 ∧ s.testBit k = true := by
  have q : ∀ s : Nat, s < 256 → (decide (s = 0) || (List.range 8).any (fun k => s.testBit k)) = true := by decide +kernel
  intro s h1 h2
  have := q s h1
  rw [Bool.or_eq_true] at this
  rcases this with h | h
  · exact absurd (of_decide_eq_true h) h2
  · obtain ⟨k, hk, hb⟩ := List.any_eq_true.mp h
    exact ⟨k, List.mem_range.mp hk, hb⟩
theorem and_nz {x z k : Int} (h0 : 0 ≤ x) (h1 : x < 256) (g0 : 0 ≤ z) (g1 : z < 256) (k0 : 0 ≤ k) (k1 : k < 8) (hx : HAS x k) (hz : HAS z k) : iand x z ≠ 0 := by
  rw [iand_n h0 h1 g0 g1]
  intro q
  have q2 : x.toNat &&& z.toNat = 0 := by exact_mod_cast q
  have b : (x.toNat &&& z.toNat).testBit k.toNat = true := by
    rw [Nat.testBit_and, (HAS_bit h0 h1 k0 k1).mp hx, (HAS_bit g0 g1 k0 k1).mp hz]
    rfl
  rw [q2, Nat.zero_testBit] at b
  cases b
theorem sh1 {b : Nat} (hb : b < 8) : 0 ≤ ishl 1 (b : Int) ∧ ishl 1 (b : Int) < 256 ∧ (ishl 1 (b : Int)).toNat = 2 ^ b := by
  have q : ∀ b : Nat, b < 8 → 0 ≤ ishl 1 (b : Int) ∧ ishl 1 (b : Int) < 256 ∧ (ishl 1 (b : Int)).toNat = 2 ^ b := by decide +kernel
  exact q b hb
theorem HAS_sh {b : Int} (h0 : 0 ≤ b) (h1 : b < 8) : HAS (ishl 1 b) b := by
  obtain ⟨n, rfl⟩ : ∃ n : Nat, b = (n : Int) := ⟨b.toNat, by omega⟩
  obtain ⟨q1, q2, q3⟩ := sh1 (b := n) (by omega)
  rw [HAS_bit q1 q2 h0 h1, q3, Int.toNat_natCast, Nat.testBit_two_pow_self]
/-- the masters that an apprentice struck -/
def SB (h : MEM) (a : Int) : Nat → Int
  | 0 => 0
  | b + 1 => ior (SB h a b) (if 0 < h 113 (8 * a + (b : Int)).toNat then ishl 1 (b : Int) else 0)
theorem SB_c {h h2 : MEM} {a : Int} (e : ∀ j, h2 113 j = h 113 j) : ∀ n, SB h2 a n = SB h a n
  | 0 => rfl
  | n + 1 => by
    show ior _ _ = ior _ _
    rw [SB_c e n, e]
theorem SB_b {h : MEM} {a : Int} : ∀ n : Nat, n ≤ 8 → 0 ≤ SB h a n ∧ SB h a n < 256
  | 0, _ => ⟨Int.le_refl 0, by show (0 : Int) < 256; decide⟩
  | n + 1, hn => by
    obtain ⟨i1, i2⟩ := SB_b (h := h) (a := a) n (by omega)
    obtain ⟨q1, q2, q3⟩ := sh1 (b := n) (by omega)
    show 0 ≤ ior _ _ ∧ ior _ _ < 256
    split
    · exact ⟨(ior_n i1 i2 q1 q2).1, (ior_n i1 i2 q1 q2).2.1⟩
    · exact ⟨(ior_n i1 i2 (Int.le_refl 0) (by decide)).1, (ior_n i1 i2 (Int.le_refl 0) (by decide)).2.1⟩
theorem SB_0 {h : MEM} {a : Int} : 0 = SB h a (0 : Int).toNat := rfl
theorem SB_s1 {h : MEM} {a b s v w z : Int} (e : s = SB h a b.toNat) (hb : 0 ≤ b) (ev : v = h 113 (8 * a + b).toNat) (hv : 0 < v) (e1 : w = ishl 1 b) (e2 : z = ior s w) : z = SB h a (b + 1).toNat := by
  rw [show (b + 1).toNat = b.toNat + 1 by omega]
  show z = ior _ _
  rw [show ((b.toNat : Nat) : Int) = b by omega, ← ev, if_pos hv, ← e, ← e1]
  exact e2
theorem SB_s0 {h : MEM} {a b s v z : Int} (e : s = SB h a b.toNat) (hb : 0 ≤ b) (ev : v = h 113 (8 * a + b).toNat) (hv : v ≤ 0) (e2 : z = ior s 0) : z = SB h a (b + 1).toNat := by
  rw [show (b + 1).toNat = b.toNat + 1 by omega]
  show z = ior _ _
  rw [show ((b.toNat : Nat) : Int) = b by omega, ← ev, if_neg (by omega), ← e]
  exact e2
theorem SB_e {h : MEM} {a b m s : Int} (e : s = SB h a b.toNat) (hb : b = m) : s = SB h a m.toNat := hb ▸ e
theorem sb_fr {h h2 : MEM} {a s : Int} (e : s = SB h2 a (h2 98 4).toNat) (eM : h2 98 4 = h 98 4) (f : ∀ j, h2 113 j = h 113 j) : s = SB h a (h 98 4).toNat := by
  rw [e, eM, SB_c f]
/-- those of a set that are so far -/
def TA (h : MEM) (set far : Int) : Nat → Int
  | 0 => 0
  | b + 1 => ior (TA h set far b) (if iand (ishr set (b : Int)) 1 = 1 ∧ h 150 b = far then ishl 1 (b : Int) else 0)
theorem TA_0 {h : MEM} {a f : Int} : 0 = TA h a f (0 : Int).toNat := rfl
theorem TA_s1 {h : MEM} {t f b s v w z : Int} (e : s = TA h t f b.toNat) (hb : 0 ≤ b) (hh : HAS t b) (ev : v = h 150 b.toNat) (hv : v = f) (e1 : w = ishl 1 b) (e2 : z = ior s w) : z = TA h t f (b + 1).toNat := by
  rw [show (b + 1).toNat = b.toNat + 1 by omega]
  show z = ior _ _
  rw [show ((b.toNat : Nat) : Int) = b by omega, if_pos ⟨hh, by rw [← ev]; exact hv⟩, ← e, ← e1]
  exact e2
theorem TA_s0 {h : MEM} {t f b s z : Int} (e : s = TA h t f b.toNat) (hb : 0 ≤ b) (hv : ¬ HAS t b ∨ h 150 b.toNat ≠ f) (e2 : z = ior s 0) : z = TA h t f (b + 1).toNat := by
  rw [show (b + 1).toNat = b.toNat + 1 by omega]
  show z = ior _ _
  rw [show ((b.toNat : Nat) : Int) = b by omega, if_neg (fun q => by rcases hv with hv | hv; exact hv q.1; exact hv q.2), ← e]
  exact e2
theorem TA_e {h : MEM} {t f b m s : Int} (e : s = TA h t f b.toNat) (hb : b = m) : s = TA h t f m.toNat := hb ▸ e
theorem TA_sem {h : MEM} {t f : Int} : ∀ n : Nat, n ≤ 8 → 0 ≤ TA h t f n ∧ TA h t f n < 256 ∧ ∀ k : Nat, k < 8 → ((TA h t f n).toNat.testBit k = true ↔ k < n ∧ HAS t (k : Int) ∧ h 150 k = f)
  | 0, _ => ⟨Int.le_refl 0, by show (0 : Int) < 256; decide, fun k _ => by
      show (0 : Nat).testBit k = true ↔ _
      rw [Nat.zero_testBit]
      exact ⟨fun q => (by cases q), fun q => absurd q.1 (by omega)⟩⟩
  | n + 1, hn => by
    obtain ⟨i1, i2, i3⟩ := TA_sem (h := h) (t := t) (f := f) n (by omega)
    obtain ⟨q1, q2, q3⟩ := sh1 (b := n) (by omega)
    show 0 ≤ ior _ _ ∧ ior _ _ < 256 ∧ ∀ k : Nat, k < 8 → ((ior _ _).toNat.testBit k = true ↔ _)
    by_cases hc : iand (ishr t (n : Int)) 1 = 1 ∧ h 150 n = f
    · rw [if_pos hc]
      obtain ⟨w1, w2, w3⟩ := ior_n i1 i2 q1 q2
      refine ⟨w1, w2, fun k hk => ?_⟩
      rw [w3, Nat.testBit_or, Bool.or_eq_true, i3 k hk, q3, Nat.testBit_two_pow]
      constructor
      · rintro (q | q)
        · exact ⟨by omega, q.2⟩
        · have : n = k := of_decide_eq_true q
          subst this
          exact ⟨by omega, hc⟩
      · intro q
        by_cases hkn : k = n
        · subst hkn
          exact Or.inr (decide_eq_true rfl)
        · exact Or.inl ⟨by omega, q.2⟩
    · rw [if_neg hc]
      obtain ⟨w1, w2, w3⟩ := ior_n i1 i2 (Int.le_refl 0) (by decide : (0 : Int) < 256)
      refine ⟨w1, w2, fun k hk => ?_⟩
      rw [w3, Nat.testBit_or, Bool.or_eq_true, i3 k hk]
      constructor
      · rintro (q | q)
        · exact ⟨by omega, q.2⟩
        · rw [show (0 : Int).toNat = 0 from rfl, Nat.zero_testBit] at q
          cases q
      · intro q
        by_cases hkn : k = n
        · subst hkn
          exact absurd q.2 hc
        · exact Or.inl ⟨by omega, q.2⟩
def FAR : Int := 1000000000
/-- how far each master is, t rings done: who is so far has one a ring nearer that one apprentice struck too (by the heap h0) -/
def FI (t : Int) (h0 h : MEM) : Prop := ∀ b : Int, 0 ≤ b → b < 8 → h 150 b.toNat = 1000000000 ∨ (0 ≤ h 150 b.toNat ∧ h 150 b.toNat ≤ t ∧ (0 < h 150 b.toNat → ∃ a d : Int, 0 ≤ a ∧ a < h0 98 3 ∧ 0 ≤ d ∧ d < h0 98 4 ∧ d < 8 ∧ HAS (SB h0 a (h0 98 4).toNat) b ∧ HAS (SB h0 a (h0 98 4).toNat) d ∧ h 150 d.toNat = h 150 b.toNat - 1))
def FZ (n : Int) (h : MEM) : Prop := ∀ j : Nat, (j : Int) < n → h 150 j = 1000000000 ∨ h 150 j = 0
theorem FZ_0 {h : MEM} : FZ 0 h := fun j hj => by omega
theorem FZ_s {n v : Int} {h h2 : MEM} (f : FZ n h) (hn : 0 ≤ n) (e : h2 = up2 h 150 n.toNat v) (hv : v = 1000000000 ∨ v = 0) : FZ (n + 1) h2 := by
  subst e
  intro j hj
  by_cases q : j = n.toNat
  · subst q
    simp [up2, hv]
  · have := f j (by omega)
    simp [up2, q, this]
theorem FI_0 {n : Int} {h0 h : MEM} (f : FZ n h) (hn : 8 ≤ n) : FI 0 h0 h := by
  intro b b0 b1
  rcases f b.toNat (by omega) with q | q
  · exact Or.inl q
  · exact Or.inr ⟨by omega, by omega, fun z => by omega⟩
theorem FI_m {t : Int} {h0 h : MEM} (f : FI t h0 h) : FI (t + 1) h0 h := by
  intro b b0 b1
  rcases f b b0 b1 with q | ⟨q1, q2, q3⟩
  · exact Or.inl q
  · exact Or.inr ⟨q1, by omega, q3⟩
theorem FI_s {t a b d s vd vb : Int} {h0 h h2 : MEM} (e : h2 = up2 h 150 b.toNat (t + 1)) (ed : vd = h 150 d.toNat) (eb : vb = h 150 b.toNat) (f : FI (t + 1) h0 h) (sb : s = SB h0 a (h0 98 4).toNat) (t0 : 0 ≤ t) (a0 : 0 ≤ a) (a1 : a < h0 98 3) (b0 : 0 ≤ b) (b1 : b < 8) (d0 : 0 ≤ d) (d1 : d < h0 98 4) (d2 : d < 8) (hb : HAS s b) (hd : HAS s d) (hvd : vd = t) (hvb : t + 1 < vb) : FI (t + 1) h0 h2 := by
  subst sb e
  have hbF : h 150 b.toNat = 1000000000 := by
    rcases f b b0 b1 with q | q
    · exact q
    · omega
  have same : ∀ k : Int, 0 ≤ k → k ≠ b → up2 h 150 b.toNat (t + 1) 150 k.toNat = h 150 k.toNat := fun k k0 kn => by
    unfold up2
    rw [if_neg (fun q => kn (by omega))]
  have here : up2 h 150 b.toNat (t + 1) 150 b.toNat = t + 1 := up2_at
  have dn : d ≠ b := by
    intro q
    subst q
    omega
  intro k k0 k1
  by_cases q : k = b
  · subst q
    rw [here]
    exact Or.inr ⟨by omega, by omega, fun _ => ⟨a, d, a0, a1, d0, d1, d2, hb, hd, by rw [same d d0 dn, ← ed]; omega⟩⟩
  · rw [same k k0 q]
    rcases f k k0 k1 with w | ⟨w1, w2, w3⟩
    · exact Or.inl w
    · refine Or.inr ⟨w1, w2, fun z => ?_⟩
      obtain ⟨a', d', c1, c2, c3, c4, c5, c6, c7, c8⟩ := w3 z
      refine ⟨a', d', c1, c2, c3, c4, c5, c6, c7, ?_⟩
      have dn' : d' ≠ b := by
        intro y
        subst y
        omega
      rw [same d' c3 dn']
      exact c8
theorem FI_e {t : Int} {h0 h : MEM} (f : FI t h0 h) (ht : t = 8) : FI 8 h0 h := ht ▸ f
theorem FI_c {t : Int} {h0 h : MEM} (f : FI t h0 h) (e : ∀ j, h 113 j = h0 113 j) (eA : h 98 3 = h0 98 3) (eM : h 98 4 = h0 98 4) : FI t h h := by
  intro b b0 b1
  rcases f b b0 b1 with q | ⟨q1, q2, q3⟩
  · exact Or.inl q
  · refine Or.inr ⟨q1, q2, fun z => ?_⟩
    obtain ⟨a, d, c⟩ := q3 z
    refine ⟨a, d, ?_⟩
    rw [eA, eM, SB_c e]
    exact c
theorem FI_v {t b v : Int} {h0 h : MEM} (f : FI t h0 h) (b0 : 0 ≤ b) (b1 : b < 8) (e : v = h 150 b.toNat) (ht : t ≤ 8) : v = 1000000000 ∨ (0 ≤ v ∧ v ≤ 8) := by
  rcases f b b0 b1 with q | ⟨q1, q2, q3⟩
  · exact Or.inl (by omega)
  · exact Or.inr (by omega)
/-- one of the set is so far -/
def AT (h : MEM) (at1 far : Int) : Prop := 0 ≤ at1 ∧ at1 < 256 ∧ ∃ b : Int, 0 ≤ b ∧ b < h 98 4 ∧ b < 8 ∧ HAS at1 b ∧ h 150 b.toNat = far
theorem AT_0 {h : MEM} {b v w : Int} (b0 : 0 ≤ b) (b1 : b < h 98 4) (b2 : b < 8) (e : v = h 150 b.toNat) (ew : w = ishl 1 b) : AT h w (v - 0) := by
  obtain ⟨n, rfl⟩ : ∃ n : Nat, b = (n : Int) := ⟨b.toNat, by omega⟩
  subst ew
  obtain ⟨q1, q2, q3⟩ := sh1 (b := n) (by omega)
  exact ⟨q1, q2, (n : Int), b0, b1, b2, HAS_sh b0 b2, by omega⟩
def WI (h : MEM) (at1 far a : Int) : Prop := ∃ x : Int, a ≤ x ∧ 0 ≤ x ∧ x < h 98 3 ∧ iand (SB h x (h 98 4).toNat) at1 ≠ 0 ∧ TA h (SB h x (h 98 4).toNat) far (h 98 4).toNat ≠ 0
theorem WI_0 {h : MEM} {at1 far f2 : Int} (A1 : AT h at1 far) (f : FI 8 h h) (hm : h 98 4 ≤ 8) (h0 : 0 ≤ h 98 4) (h1 : 1 ≤ far) (h8 : far ≤ 8) (e2 : f2 = far - 1) : WI h at1 f2 0 := by
  obtain ⟨a0, a1, b, b0, b1, b2, hb, hf⟩ := A1
  rcases f b b0 b2 with q | ⟨q1, q2, q3⟩
  · omega
  · obtain ⟨x, d, c1, c2, c3, c4, c5, c6, c7, c8⟩ := q3 (by omega)
    obtain ⟨s0, s1⟩ := SB_b (h := h) (a := x) (h 98 4).toNat (by omega)
    refine ⟨x, c1, c1, c2, and_nz s0 s1 a0 a1 b0 b2 c6 hb, fun z => ?_⟩
    have sem := (TA_sem (h := h) (t := SB h x (h 98 4).toNat) (f := f2) (h 98 4).toNat (by omega)).2.2 d.toNat (by omega)
    rw [z] at sem
    have : (0 : Nat).testBit d.toNat = true := sem.mpr ⟨by omega, by rw [show ((d.toNat : Nat) : Int) = d by omega]; exact c7, by omega⟩
    rw [Nat.zero_testBit] at this
    cases this
theorem WI_b {h : MEM} {at1 far a : Int} (w : WI h at1 far a) (hm : h 98 3 ≤ 8) : a ≤ 7 := by
  obtain ⟨x, c1, c2, c3, c4⟩ := w
  omega
theorem WI_s1 {h : MEM} {at1 far a s v : Int} (w : WI h at1 far a) (e : v = iand s at1) (z : s = SB h a (h 98 4).toNat) (hv : v = 0) : WI h at1 far (a + 1) := by
  obtain ⟨x, c1, c2, c3, c4, c5⟩ := w
  refine ⟨x, ?_, c2, c3, c4, c5⟩
  by_cases q : a = x
  · subst q z
    omega
  · omega
theorem WI_s2 {h : MEM} {at1 far a s v : Int} (w : WI h at1 far a) (e : v = TA h s far (h 98 4).toNat) (z : s = SB h a (h 98 4).toNat) (hv : v = 0) : WI h at1 far (a + 1) := by
  obtain ⟨x, c1, c2, c3, c4, c5⟩ := w
  refine ⟨x, ?_, c2, c3, c4, c5⟩
  by_cases q : a = x
  · subst q z
    omega
  · omega
theorem AT_s {h : MEM} {far far2 a s s2 v v2 : Int} (hm : h 98 4 ≤ 8) (h0 : 0 ≤ h 98 4) (e : v = TA h s far (h 98 4).toNat) (hv : v ≠ 0) (z : s = SB h a (h 98 4).toNat) (e2 : v2 = TA h s2 far (h 98 4).toNat) (z2 : s2 = SB h a (h 98 4).toNat) (ef : far2 = far) : AT h v2 far2 := by
  subst z z2 ef e2
  obtain ⟨q1, q2, q3⟩ := TA_sem (h := h) (t := SB h a (h 98 4).toNat) (f := far2) (h 98 4).toNat (by omega)
  obtain ⟨k, hk, hb⟩ := nz_bit (TA h (SB h a (h 98 4).toNat) far2 (h 98 4).toNat).toNat (by omega) (by omega)
  obtain ⟨w1, w2, w3⟩ := (q3 k hk).mp hb
  exact ⟨q1, q2, (k : Int), by omega, by omega, by omega, (HAS_bit q1 q2 (by omega) (by omega)).mpr (by simpa using hb), by simpa using w3⟩
