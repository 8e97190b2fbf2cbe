def NWF (h : MEM) : Prop := 0 ≤ h 98 39 ∧ 0 ≤ h 98 40 ∧ h 98 40 ≤ h 98 36 ∧ h 98 36 ≤ h 98 37 ∧ ∀ k : Nat, (k : Int) < h 98 39 → 0 ≤ h 122 k ∧ h 122 k ≤ h 123 k ∧ h 123 k ≤ h 124 k ∧ h 124 k ≤ h 98 40 ∧
  rpV (h 125) (h 122 k).toNat (h 123 k - h 122 k).toNat ∧ rpV (h 125) (h 123 k).toNat (h 124 k - h 123 k).toNat
theorem NWF.lin {h : MEM} (n : NWF h) : 0 ≤ h 98 39 ∧ 0 ≤ h 98 40 ∧ h 98 40 ≤ h 98 36 ∧ h 98 36 ≤ h 98 37 := ⟨n.1, n.2.1, n.2.2.1, n.2.2.2.1⟩
def NWo (h : MEM) : Prop := h 98 38 < 0 ∨ NWF h
theorem NW_eq {h h' : MEM} (n : NWF h) (a1 : ∀ j, h' 125 j = h 125 j) (a2 : ∀ j, h' 122 j = h 122 j) (a3 : ∀ j, h' 123 j = h 123 j) (a4 : ∀ j, h' 124 j = h 124 j) (c1 : h' 98 39 = h 98 39) (c2 : h' 98 40 = h 98 40) (c3 : h' 98 40 ≤ h' 98 36) (c4 : h' 98 36 ≤ h' 98 37) : NWF h' := by
  obtain ⟨n1, n2, n3, n4, n5⟩ := n
  refine ⟨by omega, by omega, c3, c4, fun k hk => ?_⟩
  rw [show h' 125 = h 125 from funext a1, a2, a3, a4, c2]
  exact n5 k (by omega)
def chkN (T : List (Nat × Nat)) : Bool := T.all (fun p => !(p.1 == 125 || p.1 == 122 || p.1 == 123 || p.1 == 124) && !(p.1 == 98 && (p.2 == 0 || p.2 == 38 || p.2 == 39 || p.2 == 41 || p.2 == 40)))
theorem chkN_eq {T : List (Nat × Nat)} {h h' : MEM} (hF : Fr T h h') (hT : chkN T = true) : (∀ j, h' 125 j = h 125 j) ∧ (∀ j, h' 122 j = h 122 j) ∧ (∀ j, h' 123 j = h 123 j) ∧ (∀ j, h' 124 j = h 124 j) ∧ h' 98 37 = h 98 37 ∧ h' 98 38 = h 98 38 ∧ h' 98 40 = h 98 40 ∧ h' 98 39 = h 98 39 := by
  have hq := List.all_eq_true.mp hT
  have ar : ∀ a, a = 125 ∨ a = 122 ∨ a = 123 ∨ a = 124 → ∀ j, h' a j = h a j := fun a ha j => hF a j (tin_no (fun p hp e => by
    have q := hq p hp
    simp only [Bool.and_eq_true] at q
    have q1 := q.1
    simp only [Bool.not_eq_true', Bool.or_eq_false_iff, beq_eq_false_iff_ne, ne_eq] at q1
    omega))
  have ce : ∀ k, k = 37 ∨ k = 38 ∨ k = 40 ∨ k = 39 → h' 98 k = h 98 k := fun k hk => hF _ _ (by
    unfold tin
    rw [List.any_eq_false]
    intro p hp
    have q := hq p hp
    simp only [Bool.and_eq_true] at q
    have q2 := q.2
    simp only [Bool.not_eq_true', Bool.and_eq_false_iff, Bool.or_eq_false_iff, beq_eq_false_iff_ne, ne_eq] at q2
    intro z
    simp only [Bool.and_eq_true, Bool.or_eq_true, beq_iff_eq] at z
    omega)
  exact ⟨ar _ (by omega), ar _ (by omega), ar _ (by omega), ar _ (by omega), ce _ (by omega), ce _ (by omega), ce _ (by omega), ce _ (by omega)⟩
theorem NWo.fr {T : List (Nat × Nat)} {h h' : MEM} (n : NWo h) (hF : Fr T h h') (hT : (chkN T && !(tin T 98 36)) = true) : NWo h' := by
  rw [Bool.and_eq_true] at hT
  obtain ⟨a1, a2, a3, a4, c1, c2, c3, c4⟩ := chkN_eq hF hT.1
  have c5 : h' 98 36 = h 98 36 := hF _ _ (by have := hT.2; simpa using this)
  rcases n with n | n
  · exact Or.inl (by omega)
  · have l := n.lin
    exact Or.inr (NW_eq n a1 a2 a3 a4 c4 c3 (by omega) (by omega))
theorem NW_pl {h h' : MEM} (n : NWo h) (hF : Fr [(98, 37)] h h') (ep : h' 98 36 = h 98 36 + 1) (lt : h 98 36 < h 98 37) : NWo h' := by
  obtain ⟨a1, a2, a3, a4, c1, c2, c3, c4⟩ := chkN_eq hF rfl
  rcases n with n | n
  · exact Or.inl (by omega)
  · have l := n.lin
    exact Or.inr (NW_eq n a1 a2 a3 a4 c4 c3 (by omega) (by omega))
theorem NW_0 {h : MEM} (h1 : h 98 39 = 0) (h2 : h 98 40 = 0) (h3 : h 98 36 = 0) (h4 : 0 ≤ h 98 37) : NWF h := ⟨by omega, by omega, by omega, by omega, fun k hk => by omega⟩
theorem rpV_nil {g : Nat → Int} {a : Nat} {x : Int} : rpV g a (x - x).toNat := by
  intro j hj
  omega
theorem E_start {h : MEM} (h0 : 0 ≤ h 98 40) (hs : h 98 42 = 0) (hp : h 98 40 ≤ h 98 36) (he : h 98 36 ≤ h 98 37) : EVo (h 98 40) (h 125) 0 (h 127) 0 h := by
  refine Or.inr ⟨⟨h0, Int.le_refl _, by omega, he, by omega, fun _ _ => rfl, rpV_nil, ?_⟩, by omega, by omega, fun _ _ => rfl, fun i h1 h2 => absurd h2 (by omega), fun q => absurd q (by omega)⟩
  rw [hs, Int.sub_self]
  rfl
theorem DZ_mid {f : Int} {gn g : Nat → Int} {h : MEM} (V : VPo f gn 0 g h) : DZo (h 98 40) (h 125) h := by
  rcases V with V | ⟨⟨d, e⟩, es⟩
  · exact Or.inl V
  · have l := d.lin
    refine Or.inr ⟨⟨by omega, Int.le_refl _, l.2.2.1, l.2.2.2.1, by omega, fun _ _ => rfl, rpV_nil, ?_⟩, es⟩
    rw [es, Int.sub_self]
    rfl
theorem up_at {a : Nat} {w v : Int} {h hY hX h' : MEM} (e : hX = up2 hY a w.toNat v) (b : ∀ j, hY a j = h a j) (c : ∀ j, h' a j = hX a j) : ∀ j : Nat, h' a j = if j = w.toNat then v else h a j := by
  intro j
  rw [c, e]
  unfold up2
  by_cases hj : j = w.toNat
  · rw [if_pos ⟨rfl, hj⟩, if_pos hj]
  · rw [if_neg (fun q => hj q.2), if_neg hj, b]
theorem NW_end {h hA hB hD h' : MEM} {g : Nat → Int} {w v1 v2 v3 : Int} (N : NWF h) (eC0 : hA 98 40 = h 98 40) (fN0 : ∀ j, hA 125 j = h 125 j) (V : VPo (hA 98 40) (hA 125) 0 g hB) (hb : 0 ≤ hB 98 38) (Dd : DFo (hB 98 40) (hB 125) hD) (bD : h' 98 38 = hD 98 38) (cD : h' 98 40 = hD 98 40) (nD : ∀ j, h' 125 j = hD 125 j)
    (pD : h' 98 36 = hD 98 36) (eD : h' 98 37 = hD 98 37) (cl : h' 98 39 = h 98 39 + 1) (hs : ∀ j : Nat, h' 122 j = if j = w.toNat then v1 else h 122 j) (ew : w = h 98 39) (e1 : v1 = h 98 40) (hf : ∀ j : Nat, h' 123 j = if j = w.toNat then v2 else h 123 j) (e2 : v2 = hB 98 40) (ht : ∀ j : Nat, h' 124 j = if j = w.toNat then v3 else h 124 j) (e3 : v3 = hD 98 40) : NWo h' := by
  rcases Dd with Dd | Dd
  · exact Or.inl (by omega)
  obtain ⟨⟨⟨d1, d2, d3, d4, d5, d6, d7, d8⟩, -⟩, es⟩ := V.resolve_left (by omega)
  obtain ⟨f1, f2, f3, f4, f5, f6, f7, f8⟩ := Dd
  obtain ⟨n1, n2, n3, n4, n5⟩ := N
  subst ew e1 e2 e3
  have en : h' 125 = hD 125 := funext nD
  have old : ∀ j : Nat, (j : Int) < h 98 40 → hD 125 j = h 125 j := fun j hj => by rw [f6 j (by omega), d6 j (by omega), fN0]
  refine Or.inr ⟨by omega, by omega, by omega, by omega, fun k hk => ?_⟩
  rw [hs k, hf k, ht k, en, cD]
  by_cases hq : k = (h 98 39).toNat
  · rw [if_pos hq, if_pos hq, if_pos hq]
    refine ⟨by omega, by omega, by omega, by omega, ?_, f7⟩
    refine rpV_eq (f := hB 125) (fun j hj => ?_) (by rw [← eC0]; exact d7)
    exact (f6 _ (by omega)).symm
  · rw [if_neg hq, if_neg hq, if_neg hq]
    obtain ⟨q1, q2, q3, q4, q5, q6⟩ := n5 k (by omega)
    exact ⟨q1, q2, q3, by omega, rpV_eq (fun j hj => (old _ (by omega)).symm) q5, rpV_eq (fun j hj => (old _ (by omega)).symm) q6⟩
def CP1 (n : Int) (h : MEM) : Prop := ∀ j : Nat, (j : Int) < n → h 116 j = h 122 j ∧ h 117 j = h 123 j ∧ h 118 j = h 124 j
theorem CP1_0 {h : MEM} : CP1 0 h := fun j hj => by omega
theorem CP1_s {n u v1 v2 v3 : Int} {h0 h1 h2 h3 h4 : MEM} (c : CP1 n h0) (hn : 0 ≤ n) (e4 : h4 = up2 h3 118 n.toNat v3) (r3 : v3 = h3 124 n.toNat) (e3 : h3 = up2 h2 117 n.toNat v2) (r2 : v2 = h2 123 n.toNat) (e2 : h2 = up2 h1 116 n.toNat v1) (r1 : v1 = h1 122 n.toNat) (e1 : h1 = up2 h0 115 n.toNat u) : CP1 (n + 1) h4 := by
  subst e4 r3 e3 r2 e2 r1 e1
  intro j hj
  by_cases q : j = n.toNat
  · subst q
    simp [up2]
  · have := c j (by omega)
    simp [up2, q, this]
def CPA (h : MEM) : Prop := CP1 (h 98 39) h
theorem CPA_mk {n : Int} {h : MEM} (c : CP1 n h) (hn : h 98 39 ≤ n) : CPA h := fun j hj => c j (by omega)
theorem arr_no {T : List (Nat × Nat)} {h h' : MEM} (hF : Fr T h h') {a : Nat} (hT : T.all (fun p => !(p.1 == a)) = true) (j : Nat) : h' a j = h a j := hF a j (tin_no (fun p hp => by have := List.all_eq_true.mp hT p hp; simpa using this))
theorem CPA.fr {T : List (Nat × Nat)} {h h' : MEM} (c : CPA h) (hF : Fr T h h') (hT : (T.all (fun p => !(p.1 == 116)) && T.all (fun p => !(p.1 == 117)) && T.all (fun p => !(p.1 == 118)) && T.all (fun p => !(p.1 == 122)) && T.all (fun p => !(p.1 == 123)) && T.all (fun p => !(p.1 == 124)) && !(tin T 98 39)) = true) : CPA h' := by
  simp only [Bool.and_eq_true] at hT
  obtain ⟨⟨⟨⟨⟨⟨t1, t2⟩, t3⟩, t4⟩, t5⟩, t6⟩, t7⟩ := hT
  have c5 : h' 98 39 = h 98 39 := hF _ _ (by simpa using t7)
  intro j hj
  rw [arr_no hF t1, arr_no hF t2, arr_no hF t3, arr_no hF t4, arr_no hF t5, arr_no hF t6]
  exact c j (by omega)
def CP2 (n : Int) (h : MEM) : Prop := ∀ j : Nat, (j : Int) < n → h 119 j = h 125 j
theorem CP2_0 {h : MEM} : CP2 0 h := fun j hj => by omega
theorem CP2_s {n u v1 : Int} {h0 h1 h2 : MEM} (c : CP2 n h0) (hn : 0 ≤ n) (e2 : h2 = up2 h1 120 n.toNat u) (e1 : h1 = up2 h0 119 n.toNat v1) (r1 : v1 = h0 125 n.toNat) : CP2 (n + 1) h2 := by
  subst e2 e1 r1
  intro j hj
  by_cases q : j = n.toNat
  · subst q
    simp [up2]
  · have := c j (by omega)
    simp [up2, q, this]
def CPB (h : MEM) : Prop := CP2 (h 98 40) h
theorem CPB_mk {n : Int} {h : MEM} (c : CP2 n h) (hn : h 98 40 ≤ n) : CPB h := fun j hj => c j (by omega)
theorem CPB.fr {T : List (Nat × Nat)} {h h' : MEM} (c : CPB h) (hF : Fr T h h') (hT : (T.all (fun p => !(p.1 == 119)) && T.all (fun p => !(p.1 == 125)) && !(tin T 98 40)) = true) : CPB h' := by
  simp only [Bool.and_eq_true] at hT
  obtain ⟨⟨t1, t2⟩, t7⟩ := hT
  have c5 : h' 98 40 = h 98 40 := hF _ _ (by simpa using t7)
  intro j hj
  rw [arr_no hF t1, arr_no hF t2]
  exact c j (by omega)
theorem WFL_new {h : MEM} (N : NWF h) (c1 : CPA h) (c2 : CPB h) (em : h 98 23 = h 98 39) : WFL h := by
  intro k h0 h1
  obtain ⟨a1, a2, a3⟩ := c1 k.toNat (by omega)
  obtain ⟨q1, q2, q3, q4, q5, q6⟩ := N.2.2.2.2 k.toNat (by omega)
  rw [a1, a2, a3]
  exact ⟨rpV_eq (fun j hj => (c2 _ (by omega)).symm) q6, rpV_eq (fun j hj => (c2 _ (by omega)).symm) q5⟩
