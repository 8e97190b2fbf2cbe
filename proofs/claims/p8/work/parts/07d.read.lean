/-! ===== the reference's reader: signs on the stack, steps written ===== -/
def HR (h : MEM) : Int := if h 98 36 < h 98 37 then iand (h 99 (h 98 36).toNat) 255 else 0
theorem hr_in {h : MEM} {a l b v : Int} (ea : a = h 98 36) (el : l = h 98 37) (h1 : a < l) (eb : b = h 99 a.toNat) (ev : v = iand b 255) : v = HR h ∧ (v = 0 ∨ h 98 36 < h 98 37) := by
  subst ea el eb ev
  unfold HR
  rw [if_pos h1]
  exact ⟨rfl, Or.inr h1⟩
theorem hr_out {h : MEM} {a l : Int} (ea : a = h 98 36) (el : l = h 98 37) (h1 : l ≤ a) : 0 = HR h ∧ ((0 : Int) = 0 ∨ h 98 36 < h 98 37) := by
  subst ea el
  unfold HR
  rw [if_neg (by omega)]
  exact ⟨rfl, Or.inl rfl⟩
theorem HR_c {h h2 : MEM} (e1 : h2 98 36 = h 98 36) (e2 : h2 98 37 = h 98 37) (e3 : ∀ j, h2 99 j = h 99 j) : HR h2 = HR h := by
  unfold HR
  rw [e1, e2, e3]
theorem HR_or {h h2 : MEM} (e2 : h2 98 37 = h 98 37) (e3 : ∀ j, h2 99 j = h 99 j) : h2 98 36 ≠ h 98 36 ∨ HR h2 = HR h := by
  by_cases e1 : h2 98 36 = h 98 36
  · exact Or.inr (HR_c e1 e2 e3)
  · exact Or.inl e1
def TP (h : MEM) : Int := if 0 < h 98 42 then h 127 (h 98 42 - 1).toNat else 0
theorem tp_in {h : MEM} {a v : Int} (ea : a = h 98 42) (h1 : 0 < a) (ev : v = h 127 (a - 1).toNat) : v = TP h ∧ (v = 0 ∨ 1 ≤ h 98 42) := by
  subst ea ev
  unfold TP
  rw [if_pos h1]
  exact ⟨rfl, Or.inr h1⟩
theorem tp_out {h : MEM} {a : Int} (ea : a = h 98 42) (h1 : a ≤ 0) : 0 = TP h ∧ ((0 : Int) = 0 ∨ 1 ≤ h 98 42) := by
  subst ea
  unfold TP
  rw [if_neg (by omega)]
  exact ⟨rfl, Or.inl rfl⟩
theorem TP_at {h : MEM} (h1 : 1 ≤ h 98 42) : TP h = h 127 (h 98 42 - 1).toNat := by unfold TP; rw [if_pos (by omega)]
def opn (c : Int) : Prop := c = 91 ∨ c = 40 ∨ c = 33
def nb (g : Nat → Int) : Nat → Int
  | 0 => 0
  | k + 1 => nb g k + (if g k = 91 ∨ g k = 40 ∨ g k = 33 then 0 else 1)
theorem nb_0 (g : Nat → Int) : ∀ k, 0 ≤ nb g k
  | 0 => Int.le_refl 0
  | k + 1 => by
    have := nb_0 g k
    show 0 ≤ nb g k + _
    split <;> omega
theorem nb_eq {g g' : Nat → Int} : ∀ k : Nat, (∀ j, j < k → g' j = g j) → nb g' k = nb g k
  | 0, _ => rfl
  | k + 1, h => by
    show nb g' k + _ = nb g k + _
    rw [nb_eq k (fun j hj => h j (by omega)), h k (by omega)]
def EMo (h h' : MEM) (c : Int) : Prop := (h 98 38 < 0 ∧ h' 98 40 = h 98 40 ∧ ∀ j, h' 125 j = h 125 j) ∨ (h 98 38 = 0 ∧ h' 98 40 = h 98 40 + 1 ∧ ∀ j : Nat, h' 125 j = if j = (h 98 40).toNat then c else h 125 j)
theorem EMo_b {h : MEM} {c : Int} (hb : h 98 38 < 0) : EMo h h c := Or.inl ⟨hb, rfl, fun _ => rfl⟩
theorem EMo_g {h h1 h' : MEM} {w c : Int} (hb : h 98 38 = 0) (e : h1 = up2 h 125 w.toNat c) (ew : w = h 98 40) (fa : ∀ j, h' 125 j = h1 125 j) (hc : h' 98 40 = w + 1) : EMo h h' c := by
  subst ew
  refine Or.inr ⟨hb, hc, fun j => ?_⟩
  rw [fa j, e]
  unfold up2
  by_cases hj : j = (h 98 40).toNat
  · rw [if_pos ⟨rfl, hj⟩, if_pos hj]
  · rw [if_neg (fun q => hj q.2), if_neg hj]
def PU (h h' : MEM) (c : Int) : Prop := ∀ j : Nat, h' 127 j = if j = (h 98 42).toNat then c else h 127 j
theorem PU_mk {h h1 h' : MEM} {w c : Int} (e : h1 = up2 h 127 w.toNat c) (ew : w = h 98 42) (fa : ∀ j, h' 127 j = h1 127 j) : PU h h' c := by
  subst ew
  intro j
  rw [fa j, e]
  unfold up2
  by_cases hj : j = (h 98 42).toNat
  · rw [if_pos ⟨rfl, hj⟩, if_pos hj]
  · rw [if_neg (fun q => hj q.2), if_neg hj]
theorem PU_fr {h h3 h4 : MEM} {v : Int} (p : PU h3 h4 v) (fs : ∀ j, h3 127 j = h 127 j) (es : h3 98 42 = h 98 42) (ev : v = HR h3) (er : HR h3 = HR h) : PU h h4 (HR h) := by
  intro j
  rw [p j, es, fs j, ev, er]
/-- steps from f on, signs on the stack, b: whether a value is just behind; ahead of f the row gn -/
def Dp (f : Int) (gn : Nat → Int) (b : Int) (h : MEM) : Prop :=
  0 ≤ f ∧ f ≤ h 98 40 ∧ h 98 40 + h 98 42 ≤ h 98 36 ∧ h 98 36 ≤ h 98 37 ∧ 0 ≤ h 98 42 ∧ (∀ j : Nat, (j : Int) < f → h 125 j = gn j) ∧
  rpV (h 125) f.toNat (h 98 40 - f).toNat ∧ rpD (h 125) f.toNat (h 98 40 - f).toNat = nb (h 127) (h 98 42).toNat + b
theorem Dp.lin {f b : Int} {gn : Nat → Int} {h : MEM} (d : Dp f gn b h) : 0 ≤ f ∧ f ≤ h 98 40 ∧ h 98 40 + h 98 42 ≤ h 98 36 ∧ h 98 36 ≤ h 98 37 ∧ 0 ≤ h 98 42 := ⟨d.1, d.2.1, d.2.2.1, d.2.2.2.1, d.2.2.2.2.1⟩
/-- nothing written, the stack as high as before or changed: the balance told anew -/
theorem Dp.keep {f b b' : Int} {gn : Nat → Int} {h h' : MEM} (d : Dp f gn b h) (hc : h' 98 40 = h 98 40) (hn : ∀ j, h' 125 j = h 125 j) (hs : 0 ≤ h' 98 42) (hp : h' 98 40 + h' 98 42 ≤ h' 98 36) (he : h' 98 36 ≤ h' 98 37)
    (hb : nb (h' 127) (h' 98 42).toNat + b' = nb (h 127) (h 98 42).toNat + b) : Dp f gn b' h' := by
  obtain ⟨d1, d2, d3, d4, d5, d6, d7, d8⟩ := d
  have en : h' 125 = h 125 := funext hn
  refine ⟨d1, by omega, hp, he, hs, fun j hj => by rw [hn]; exact d6 j hj, by rw [en, hc]; exact d7, ?_⟩
  rw [en, hc, hb]
  exact d8
/-- a step is written -/
theorem Dp.step {f b b' c : Int} {gn : Nat → Int} {h h' : MEM} (d : Dp f gn b h) (hc : h' 98 40 = h 98 40 + 1) (hn : ∀ j : Nat, h' 125 j = if j = (h 98 40).toNat then c else h 125 j) (hs : 0 ≤ h' 98 42) (hp : h' 98 40 + h' 98 42 ≤ h' 98 36) (he : h' 98 36 ≤ h' 98 37)
    (h2 : 2 < c → 2 ≤ nb (h 127) (h 98 42).toNat + b) (h1 : c = 2 → 1 ≤ nb (h 127) (h 98 42).toNat + b) (hb : nb (h' 127) (h' 98 42).toNat + b' = nb (h 127) (h 98 42).toNat + b + (if 2 < c then -1 else if c = 2 then 0 else 1)) : Dp f gn b' h' := by
  obtain ⟨d1, d2, d3, d4, d5, d6, d7, d8⟩ := d
  have old : ∀ j : Nat, j < (h 98 40).toNat → h' 125 j = h 125 j := fun j hj => by rw [hn j, if_neg (by omega)]
  have new : h' 125 (h 98 40).toNat = c := by rw [hn, if_pos rfl]
  have ek : (h' 98 40 - f).toNat = (h 98 40 - f).toNat + 1 := by omega
  have ei : f.toNat + (h 98 40 - f).toNat = (h 98 40).toNat := by omega
  have eD : rpD (h' 125) f.toNat (h 98 40 - f).toNat = rpD (h 125) f.toNat (h 98 40 - f).toNat := rpD_eq _ (fun j hj => old _ (by omega))
  have eV : rpV (h' 125) f.toNat (h 98 40 - f).toNat := rpV_eq (fun j hj => (old _ (by omega)).symm) d7
  refine ⟨d1, by omega, hp, he, hs, fun j hj => by rw [old j (by omega)]; exact d6 j hj, ?_, ?_⟩
  · rw [ek]
    intro j hj
    by_cases hl : j < (h 98 40 - f).toNat
    · exact eV j hl
    · have ej : j = (h 98 40 - f).toNat := by omega
      subst ej
      rw [ei, new, eD, d8]
      exact ⟨h2, h1⟩
  · rw [ek]
    show rpD _ _ _ + _ = _
    rw [ei, new, eD, d8, hb]
def ech (c : Int) : Prop := c = 91 ∨ c = 42 ∨ c = 47 ∨ c = 37 ∨ c = 43 ∨ c = 45
def ES (s : Int) (g : Nat → Int) (h : MEM) : Prop := 0 ≤ s ∧ s ≤ h 98 42 ∧ (∀ i : Nat, (i : Int) < s → h 127 i = g i) ∧ (∀ i : Nat, s ≤ i → (i : Int) < h 98 42 → ech (h 127 i)) ∧ (0 < s → ¬ ech (g (s - 1).toNat))
def EV (f : Int) (gn : Nat → Int) (s : Int) (g : Nat → Int) (b : Int) (h : MEM) : Prop := Dp f gn b h ∧ ES s g h
def EVo (f : Int) (gn : Nat → Int) (s : Int) (g : Nat → Int) (b : Int) (h : MEM) : Prop := h 98 38 < 0 ∨ EV f gn s g b h
def cch (c : Int) : Prop := c = 40 ∨ c = 33 ∨ c = 38 ∨ c = 124
def CS (h : MEM) : Prop := 1 ≤ h 98 42 ∧ h 127 0 = 40 ∧ ∀ i : Nat, (i : Int) < h 98 42 → cch (h 127 i)
def CQ (f : Int) (gn : Nat → Int) (b : Int) (h : MEM) : Prop := Dp f gn b h ∧ CS h
def CVo (f : Int) (gn : Nat → Int) (b : Int) (h : MEM) : Prop := h 98 38 < 0 ∨ CQ f gn b h
def chkD (T : List (Nat × Nat)) : Bool := T.all (fun p => !(p.1 == 125) && !(p.1 == 127) && !(p.1 == 98 && (p.2 == 0 || p.2 == 37 || p.2 == 38 || p.2 == 39 || p.2 == 41 || p.2 == 43)))
theorem chk_eq {T : List (Nat × Nat)} {h h' : MEM} (hF : Fr T h h') (hT : chkD T = true) : (∀ j, h' 125 j = h 125 j) ∧ (∀ j, h' 127 j = h 127 j) ∧ h' 98 36 = h 98 36 ∧ h' 98 37 = h 98 37 ∧ h' 98 38 = h 98 38 ∧ h' 98 40 = h 98 40 ∧ h' 98 42 = h 98 42 := by
  have hq := List.all_eq_true.mp hT
  have ar : ∀ a, a = 125 ∨ a = 127 → ∀ j, h' a j = h a j := fun a ha j => hF a j (tin_no (fun p hp e => by
    have q := hq p hp
    simp only [Bool.and_eq_true, Bool.not_eq_true', beq_eq_false_iff_ne, ne_eq] at q
    rcases ha with rfl | rfl
    · exact q.1.1 e
    · exact q.1.2 e))
  have ce : ∀ k, k = 36 ∨ k = 37 ∨ k = 38 ∨ k = 40 ∨ k = 42 → h' 98 k = h 98 k := fun k hk => hF _ _ (by
    unfold tin
    rw [List.any_eq_false]
    intro p hp
    have q := hq p hp
    simp only [Bool.and_eq_true] at q
    have q2 := q.2
    simp only [Bool.not_eq_true', Bool.and_eq_false_iff, Bool.or_eq_false_iff, beq_eq_false_iff_ne, ne_eq] at q2
    intro z
    simp only [Bool.and_eq_true, Bool.or_eq_true, beq_iff_eq] at z
    omega)
  exact ⟨ar _ (Or.inl rfl), ar _ (Or.inr rfl), ce _ (by omega), ce _ (by omega), ce _ (by omega), ce _ (by omega), ce _ (by omega)⟩
theorem Dp.fr0 {f b : Int} {gn : Nat → Int} {h h' : MEM} {T : List (Nat × Nat)} (d : Dp f gn b h) (hF : Fr T h h') (hT : chkD T = true) : Dp f gn b h' := by
  obtain ⟨n1, n2, n3, n4, n5, n6, n7⟩ := chk_eq hF hT
  have l := d.lin
  exact d.keep n6 n1 (by omega) (by omega) (by omega) (by rw [n7, nb_eq _ (fun j _ => n2 j)])
theorem ES.eq {s : Int} {g : Nat → Int} {h h' : MEM} (e : ES s g h) (n2 : ∀ j, h' 127 j = h 127 j) (n7 : h' 98 42 = h 98 42) : ES s g h' :=
  ⟨e.1, by rw [n7]; exact e.2.1, fun i hi => by rw [n2]; exact e.2.2.1 i hi, fun i h1 h2 => by rw [n2]; exact e.2.2.2.1 i h1 (by omega), e.2.2.2.2⟩
theorem CS.eq {h h' : MEM} (e : CS h) (n2 : ∀ j, h' 127 j = h 127 j) (n7 : h' 98 42 = h 98 42) : CS h' :=
  ⟨by rw [n7]; exact e.1, by rw [n2]; exact e.2.1, fun i hi => by rw [n2]; exact e.2.2 i (by omega)⟩
theorem EVo.fr {f s b : Int} {gn g : Nat → Int} {h h' : MEM} {T : List (Nat × Nat)} (d : EVo f gn s g b h) (hF : Fr T h h') (hT : chkD T = true) : EVo f gn s g b h' := by
  obtain ⟨n1, n2, n3, n4, n5, n6, n7⟩ := chk_eq hF hT
  rcases d with d | d
  · exact Or.inl (by rw [n5]; exact d)
  · exact Or.inr ⟨d.1.fr0 hF hT, d.2.eq n2 n7⟩
theorem CVo.fr {f b : Int} {gn : Nat → Int} {h h' : MEM} {T : List (Nat × Nat)} (d : CVo f gn b h) (hF : Fr T h h') (hT : chkD T = true) : CVo f gn b h' := by
  obtain ⟨n1, n2, n3, n4, n5, n6, n7⟩ := chk_eq hF hT
  rcases d with d | d
  · exact Or.inl (by rw [n5]; exact d)
  · exact Or.inr ⟨d.1.fr0 hF hT, d.2.eq n2 n7⟩
theorem EVo.good {f s b : Int} {gn g : Nat → Int} {h : MEM} (d : EVo f gn s g b h) (hb : 0 ≤ h 98 38) : EV f gn s g b h := d.resolve_left (by omega)
theorem CVo.good {f b : Int} {gn : Nat → Int} {h : MEM} (d : CVo f gn b h) (hb : 0 ≤ h 98 38) : CQ f gn b h := d.resolve_left (by omega)
theorem EVo.lin {f s b : Int} {gn g : Nat → Int} {h : MEM} (d : EVo f gn s g b h) (hb : 0 ≤ h 98 38) : 0 ≤ f ∧ f ≤ h 98 40 ∧ h 98 40 + h 98 42 ≤ h 98 36 ∧ h 98 36 ≤ h 98 37 ∧ 0 ≤ s ∧ s ≤ h 98 42 := by
  have e := d.good hb
  have l := e.1.lin
  exact ⟨l.1, l.2.1, l.2.2.1, l.2.2.2.1, e.2.1, e.2.2.1⟩
theorem CVo.lin {f b : Int} {gn : Nat → Int} {h : MEM} (d : CVo f gn b h) (hb : 0 ≤ h 98 38) : 0 ≤ f ∧ f ≤ h 98 40 ∧ h 98 40 + h 98 42 ≤ h 98 36 ∧ h 98 36 ≤ h 98 37 ∧ 1 ≤ h 98 42 := by
  have e := d.good hb
  have l := e.1.lin
  exact ⟨l.1, l.2.1, l.2.2.1, l.2.2.2.1, e.2.1⟩
/-- a sign is put on the stack -/
theorem nb_push {h h' : MEM} {c : Int} (p : PU h h' c) (hs : 0 ≤ h 98 42) (es : h' 98 42 = h 98 42 + 1) : nb (h' 127) (h' 98 42).toNat = nb (h 127) (h 98 42).toNat + (if c = 91 ∨ c = 40 ∨ c = 33 then 0 else 1) := by
  rw [show (h' 98 42).toNat = (h 98 42).toNat + 1 by omega]
  show nb _ _ + _ = _
  rw [p (h 98 42).toNat, if_pos rfl, nb_eq (g := h 127) _ (fun j hj => by rw [p j, if_neg (by omega)])]
/-- the uppermost sign is taken away -/
theorem nb_pop {h h' : MEM} (hs : 1 ≤ h 98 42) (es : h' 98 42 = h 98 42 - 1) (hk : ∀ j, h' 127 j = h 127 j) : nb (h 127) (h 98 42).toNat = nb (h' 127) (h' 98 42).toNat + (if TP h = 91 ∨ TP h = 40 ∨ TP h = 33 then 0 else 1) := by
  rw [show (h 98 42).toNat = (h' 98 42).toNat + 1 by omega]
  show nb _ _ + _ = _
  rw [TP_at hs, show (h 98 42 - 1).toNat = (h' 98 42).toNat by omega, nb_eq (g := h 127) (g' := h' 127) _ (fun j _ => hk j)]
theorem ES.push {s c : Int} {g : Nat → Int} {h h' : MEM} (e : ES s g h) (p : PU h h' c) (es : h' 98 42 = h 98 42 + 1) (hc : ech c) : ES s g h' := by
  obtain ⟨e1, e2, e3, e4, e5⟩ := e
  refine ⟨e1, by omega, fun i hi => ?_, fun i h1 h2 => ?_, e5⟩
  · rw [p i, if_neg (by omega)]; exact e3 i hi
  · rw [p i]
    split
    · exact hc
    · exact e4 i h1 (by omega)
theorem ES.pop {s : Int} {g : Nat → Int} {h h' : MEM} (e : ES s g h) (hk : ∀ j, h' 127 j = h 127 j) (es : h' 98 42 = h 98 42 - 1) (hs : 1 ≤ h 98 42) (ht : ech (TP h)) : ES s g h' := by
  obtain ⟨e1, e2, e3, e4, e5⟩ := e
  have hne : s ≠ h 98 42 := by
    intro q
    refine e5 (by omega) ?_
    rw [← e3 (s - 1).toNat (by omega), q, ← TP_at hs]
    exact ht
  exact ⟨e1, by omega, fun i hi => by rw [hk]; exact e3 i hi, fun i h1 h2 => by rw [hk]; exact e4 i h1 (by omega), e5⟩
theorem CS.push {c : Int} {h h' : MEM} (e : CS h) (p : PU h h' c) (es : h' 98 42 = h 98 42 + 1) (hc : cch c) : CS h' := by
  obtain ⟨e1, e2, e3⟩ := e
  refine ⟨by omega, by rw [p 0, if_neg (by omega)]; exact e2, fun i hi => ?_⟩
  rw [p i]
  split
  · exact hc
  · exact e3 i (by omega)
theorem CS.two {h : MEM} (e : CS h) (ht : TP h ≠ 40) : 2 ≤ h 98 42 := by
  obtain ⟨e1, e2, e3⟩ := e
  by_cases q : h 98 42 = 1
  · exfalso
    apply ht
    rw [TP_at e1, q]
    exact e2
  · omega
theorem CS.pop {h h' : MEM} (e : CS h) (hk : ∀ j, h' 127 j = h 127 j) (es : h' 98 42 = h 98 42 - 1) (h2 : 2 ≤ h 98 42) : CS h' :=
  ⟨by omega, by rw [hk]; exact e.2.1, fun i hi => by rw [hk]; exact e.2.2 i (by omega)⟩
