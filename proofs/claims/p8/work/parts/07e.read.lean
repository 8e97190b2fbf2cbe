def isE (c : Int) : Prop := c = 42 ∨ c = 47 ∨ c = 37 ∨ c = 43 ∨ c = 45
theorem isE_nb {c : Int} (h : isE c) : (if c = 91 ∨ c = 40 ∨ c = 33 then (0 : Int) else 1) = 1 := by unfold isE at h; rw [if_neg (by omega)]
theorem isE_e {c : Int} (h : isE c) : ech c := by unfold isE at h; unfold ech; omega
def OPo (h h' : MEM) : Prop := (h' 98 38 = h 98 38 ∨ h' 98 38 < 0) ∧ PU h h' (HR h)
theorem EV_open {f s : Int} {gn g : Nat → Int} {h h' : MEM} (E : EVo f gn s g 0 h) (hb : 0 ≤ h 98 38) (hr : HR h = 91) (lt : h 98 36 < h 98 37) (o : OPo h h') (es : h' 98 42 = h 98 42 + 1) (ep : h' 98 36 = h 98 36 + 1) (hc : h' 98 40 = h 98 40) (he : h' 98 37 = h 98 37) (hn : ∀ j, h' 125 j = h 125 j) : EVo f gn s g 0 h' := by
  obtain ⟨d, e⟩ := E.good hb
  obtain ⟨o1, o2⟩ := o
  rw [hr] at o2
  have l := d.lin
  refine Or.inr ⟨d.keep hc hn (by omega) (by omega) (by omega) ?_, e.push o2 es (Or.inl rfl)⟩
  rw [nb_push o2 (by omega) es, if_pos (Or.inl rfl)]
  omega
theorem EV_rd {f s : Int} {gn g : Nat → Int} {h h' : MEM} (E : EVo f gn s g 0 h) (hb : 0 ≤ h 98 38) (p1 : h 98 36 ≤ h' 98 36) (p2 : h' 98 36 ≤ h' 98 37) (es : h' 98 42 = h 98 42) (hc : h' 98 40 = h 98 40) (hn : ∀ j, h' 125 j = h 125 j) (hk : ∀ j, h' 127 j = h 127 j) : EV f gn s g 0 h' := by
  obtain ⟨d, e⟩ := E.good hb
  have l := d.lin
  exact ⟨d.keep hc hn (by omega) (by omega) p2 (by rw [es, nb_eq _ (fun j _ => hk j)]), e.eq hk es⟩
theorem EV_put1 {f s c : Int} {gn g : Nat → Int} {h h' : MEM} (E : EV f gn s g 0 h) (hc : h' 98 40 = h 98 40 + 1) (hn : ∀ j : Nat, h' 125 j = if j = (h 98 40).toNat then c else h 125 j) (c1 : c ≤ 1) (es : h' 98 42 = h 98 42) (hk : ∀ j, h' 127 j = h 127 j) (hp : h 98 40 + 1 + h 98 42 ≤ h' 98 36) (he : h' 98 36 ≤ h' 98 37) : EV f gn s g 1 h' := by
  obtain ⟨d, e⟩ := E
  have l := d.lin
  refine ⟨d.step hc hn (by omega) (by omega) he (fun q => absurd q (by omega)) (fun q => absurd q (by omega)) ?_, e.eq hk es⟩
  rw [es, nb_eq (g := h 127) _ (fun j _ => hk j), if_neg (by omega), if_neg (by omega)]
  omega
theorem EV_num {f s : Int} {gn g : Nat → Int} {h h' : MEM} (E : h 98 38 < 0 ∨ EV f gn s g 0 h) (hb : h' 98 38 = h 98 38) (m : EMo h h' 0) (hp : h 98 38 < 0 ∨ h 98 40 + 1 + h 98 42 ≤ h 98 36) (ep : h' 98 36 = h 98 36) (he : h' 98 37 = h 98 37) (es : h' 98 42 = h 98 42) (hk : ∀ j, h' 127 j = h 127 j) : EVo f gn s g 1 h' := by
  rcases m with ⟨m1, -⟩ | ⟨m1, m2, m3⟩
  · exact Or.inl (by omega)
  · have E1 := E.resolve_left (by omega)
    have l := E1.1.lin
    exact Or.inr (EV_put1 E1 m2 m3 (by omega) es hk (by omega) (by omega))
theorem EV_let {f s : Int} {gn g : Nat → Int} {h h1 h' : MEM} (E : EVo f gn s g 0 h) (hb : 0 ≤ h 98 38) (m : EMo h h1 1) (hc : h' 98 40 = h1 98 40) (hn : ∀ j, h' 125 j = h1 125 j) (ep : h' 98 36 = h 98 36 + 1) (lt : h 98 36 < h 98 37) (he : h' 98 37 = h 98 37) (es : h' 98 42 = h 98 42) (hk : ∀ j, h' 127 j = h 127 j) : EVo f gn s g 1 h' := by
  have E1 := E.good hb
  have l := E1.1.lin
  rcases m with ⟨m1, -⟩ | ⟨m1, m2, m3⟩
  · omega
  · exact Or.inr (EV_put1 E1 (by omega) (fun j => by rw [hn, m3]) (by omega) es hk (by omega) (by omega))
/-- a sign is taken from the stack and written as a step -/
theorem Dp_op {f c : Int} {gn : Nat → Int} {h h1 h' : MEM} (d : Dp f gn 1 h) (hb : 0 ≤ h 98 38) (m : EMo h h1 c) (ec : c = TP h) (ek : 2 < c ∧ c ≠ 91 ∧ c ≠ 40 ∧ c ≠ 33) (h1s : 1 ≤ h 98 42) (hc : h' 98 40 = h1 98 40) (hn : ∀ j, h' 125 j = h1 125 j) (es : h' 98 42 = h 98 42 - 1) (hk : ∀ j, h' 127 j = h 127 j) (ep : h' 98 36 = h 98 36) (he : h' 98 37 = h 98 37) : Dp f gn 1 h' := by
  have l := d.lin
  have np := nb_pop h1s es hk
  have n0 := nb_0 (h' 127) (h' 98 42).toNat
  rw [← ec, if_neg (by omega)] at np
  rcases m with ⟨m1, -⟩ | ⟨m1, m2, m3⟩
  · omega
  · refine d.step (c := c) (by omega) (fun j => by rw [hn, m3]) (by omega) (by omega) (by omega) (fun _ => by omega) (fun q => absurd q (by omega)) ?_
    rw [if_pos ek.1]
    omega
theorem EV_op {f s c : Int} {gn g : Nat → Int} {h h1 h' : MEM} (E : EVo f gn s g 1 h) (hb : 0 ≤ h 98 38) (m : EMo h h1 c) (ec : c = TP h) (ek : isE c) (h1s : 1 ≤ h 98 42) (hc : h' 98 40 = h1 98 40) (hn : ∀ j, h' 125 j = h1 125 j) (es : h' 98 42 = h 98 42 - 1) (hk : ∀ j, h' 127 j = h 127 j) (ep : h' 98 36 = h 98 36) (he : h' 98 37 = h 98 37) : EVo f gn s g 1 h' := by
  obtain ⟨d, e⟩ := E.good hb
  exact Or.inr ⟨Dp_op d hb m ec (by unfold isE at ek; omega) h1s hc hn es hk ep he, e.pop hk es h1s (by rw [← ec]; exact isE_e ek)⟩
theorem EV_bin {f s c : Int} {gn g : Nat → Int} {h h' : MEM} (E : EVo f gn s g 1 h) (hb : 0 ≤ h 98 38) (p : PU h h' c) (ek : isE c) (lt : h 98 36 < h 98 37) (es : h' 98 42 = h 98 42 + 1) (ep : h' 98 36 = h 98 36 + 1) (hc : h' 98 40 = h 98 40) (he : h' 98 37 = h 98 37) (hn : ∀ j, h' 125 j = h 125 j) : EV f gn s g 0 h' := by
  obtain ⟨d, e⟩ := E.good hb
  have l := d.lin
  refine ⟨d.keep hc hn (by omega) (by omega) (by omega) ?_, e.push p es (isE_e ek)⟩
  rw [nb_push p (by omega) es, isE_nb ek]
  omega
theorem EV_close {f s : Int} {gn g : Nat → Int} {h h' : MEM} (E : EVo f gn s g 1 h) (hb : 0 ≤ h 98 38) (ht : TP h = 91) (h1s : 1 ≤ h 98 42) (lt : h 98 36 < h 98 37) (es : h' 98 42 = h 98 42 - 1) (hk : ∀ j, h' 127 j = h 127 j) (ep : h' 98 36 = h 98 36 + 1) (hc : h' 98 40 = h 98 40) (he : h' 98 37 = h 98 37) (hn : ∀ j, h' 125 j = h 125 j) : EV f gn s g 1 h' := by
  obtain ⟨d, e⟩ := E.good hb
  have l := d.lin
  have np := nb_pop h1s es hk
  rw [ht, if_pos (Or.inl rfl)] at np
  exact ⟨d.keep hc hn (by omega) (by omega) (by omega) (by omega), e.pop hk es h1s (Or.inl ht)⟩
/-- what holds behind an E -/
def noE (h : MEM) : Prop := TP h ≠ 42 ∧ TP h ≠ 47 ∧ TP h ≠ 37 ∧ TP h ≠ 43 ∧ TP h ≠ 45
def SYo (f : Int) (gn : Nat → Int) (s : Int) (g : Nat → Int) (x : Int) (h : MEM) : Prop := h 98 38 < 0 ∨ (x = 1 ∧ h 98 44 = 0 ∧ EV f gn s g 0 h) ∨ (x = 1 ∧ h 98 44 = 1 ∧ EV f gn s g 1 h) ∨ (x = 0 ∧ EV f gn s g 1 h ∧ noE h)
def VPo (f : Int) (gn : Nat → Int) (s : Int) (g : Nat → Int) (h : MEM) : Prop := h 98 38 < 0 ∨ (EV f gn s g 1 h ∧ h 98 42 = s)
theorem VP_end {f s : Int} {gn g : Nat → Int} {h : MEM} (E : EV f gn s g 1 h) (n : noE h) (n2 : TP h ≠ 91) : VPo f gn s g h := by
  refine Or.inr ⟨E, ?_⟩
  obtain ⟨d, e1, e2, e3, e4, e5⟩ := E
  by_cases q : h 98 42 = s
  · exact q
  · exfalso
    have := e4 (h 98 42 - 1).toNat (by omega) (by omega)
    rw [← TP_at (h := h) (by omega)] at this
    unfold noE at n
    unfold ech at this
    omega
theorem SY_c {f s x z : Int} {gn g : Nat → Int} {h : MEM} (d : SYo f gn s g x h) (e : x = z) : SYo f gn s g z h := e ▸ d
theorem SY_a {f s x : Int} {gn g : Nat → Int} {h : MEM} (d : SYo f gn s g x h) (hb : 0 ≤ h 98 38) (hx : x ≠ 0) (h0 : h 98 44 = 0) : EVo f gn s g 0 h := by
  rcases d with d | ⟨_, _, d⟩ | ⟨_, d, _⟩ | ⟨d, _⟩
  · omega
  · exact Or.inr d
  · omega
  · omega
theorem SY_b {f s x : Int} {gn g : Nat → Int} {h : MEM} (d : SYo f gn s g x h) (hb : 0 ≤ h 98 38) (hx : x ≠ 0) (h0 : h 98 44 ≠ 0) : EVo f gn s g 1 h := by
  rcases d with d | ⟨_, d, _⟩ | ⟨_, _, d⟩ | ⟨d, _⟩
  · omega
  · omega
  · exact Or.inr d
  · omega
theorem SY_e {f s x : Int} {gn g : Nat → Int} {h : MEM} (d : SYo f gn s g x h) (hb : 0 ≤ h 98 38) (hx : x = 0) : EV f gn s g 1 h ∧ noE h := by
  rcases d with d | ⟨d, _⟩ | ⟨d, _⟩ | ⟨_, d⟩
  · omega
  · omega
  · omega
  · exact d
/-! the C -/
theorem cch_e {c : Int} (h : cch c) : ¬ ech c := by unfold cch at h; unfold ech; omega
theorem EV_ofC {f : Int} {gn : Nat → Int} {h : MEM} (C : CVo f gn 0 h) (hb : 0 ≤ h 98 38) : EVo f gn (h 98 42) (h 127) 0 h := by
  obtain ⟨d, c1, c2, c3⟩ := C.good hb
  exact Or.inr ⟨d, by omega, Int.le_refl _, fun _ _ => rfl, fun i h1 h2 => absurd h2 (by omega), fun _ => cch_e (c3 _ (by omega))⟩
theorem C_ofV {f : Int} {gn : Nat → Int} {h1 h2 : MEM} (C : CVo f gn 0 h1) (hb : 0 ≤ h1 98 38) (V : VPo f gn (h1 98 42) (h1 127) h2) (hb2 : 0 ≤ h2 98 38) : CQ f gn 1 h2 := by
  obtain ⟨-, c1, c2, c3⟩ := C.good hb
  obtain ⟨⟨d, e1, e2, e3, e4, e5⟩, es⟩ := V.resolve_left (by omega)
  exact ⟨d, by omega, by rw [e3 0 (by omega)]; exact c2, fun i hi => by rw [e3 i (by omega)]; exact c3 i (by omega)⟩
theorem C_open {f : Int} {gn : Nat → Int} {h h' : MEM} (C : CVo f gn 0 h) (hb : 0 ≤ h 98 38) (hr : HR h = 33 ∨ HR h = 40) (lt : h 98 36 < h 98 37) (o : OPo h h') (es : h' 98 42 = h 98 42 + 1) (ep : h' 98 36 = h 98 36 + 1) (hc : h' 98 40 = h 98 40) (he : h' 98 37 = h 98 37) (hn : ∀ j, h' 125 j = h 125 j) : CVo f gn 0 h' := by
  obtain ⟨d, c⟩ := C.good hb
  obtain ⟨o1, o2⟩ := o
  have l := d.lin
  refine Or.inr ⟨d.keep hc hn (by omega) (by omega) (by omega) ?_, c.push o2 es (by unfold cch; omega)⟩
  rw [nb_push o2 (by omega) es, if_pos (by omega)]
  omega
def SS (h : MEM) : Prop := 2 ≤ h 98 42 ∧ h 127 0 = 40 ∧ (∀ i : Nat, (i : Int) < h 98 42 - 1 → cch (h 127 i)) ∧ (TP h = 60 ∨ TP h = 61 ∨ TP h = 62)
theorem TP_push {c : Int} {h h' : MEM} (p : PU h h' c) (hs : 0 ≤ h 98 42) (es : h' 98 42 = h 98 42 + 1) : TP h' = c := by
  rw [TP_at (by omega), p, if_pos (by omega)]
theorem S_put {f c : Int} {gn : Nat → Int} {h h' : MEM} (C : CQ f gn 1 h) (p : PU h h' c) (hs : c = 60 ∨ c = 61 ∨ c = 62) (lt : h 98 36 < h 98 37) (es : h' 98 42 = h 98 42 + 1) (ep : h' 98 36 = h 98 36 + 1) (hc : h' 98 40 = h 98 40) (he : h' 98 37 = h 98 37) (hn : ∀ j, h' 125 j = h 125 j) : EVo f gn (h' 98 42) (h' 127) 0 h' ∧ SS h' := by
  obtain ⟨d, c1, c2, c3⟩ := C
  have l := d.lin
  have tp := TP_push p (by omega) es
  refine ⟨Or.inr ⟨d.keep hc hn (by omega) (by omega) (by omega) ?_, by omega, Int.le_refl _, fun _ _ => rfl, fun i h1 h2 => absurd h2 (by omega), fun _ => ?_⟩, by omega, by rw [p 0, if_neg (by omega)]; exact c2, fun i hi => by rw [p i, if_neg (by omega)]; exact c3 i (by omega), by omega⟩
  · rw [nb_push p (by omega) es, if_neg (by omega)]
    omega
  · rw [← TP_at (h := h') (by omega), tp]
    unfold ech
    omega
theorem S_ofV {f : Int} {gn : Nat → Int} {h1 h2 : MEM} (S : SS h1) (V : VPo f gn (h1 98 42) (h1 127) h2) (hb2 : 0 ≤ h2 98 38) : Dp f gn 1 h2 ∧ SS h2 := by
  obtain ⟨c1, c2, c3, c4⟩ := S
  obtain ⟨⟨d, e1, e2, e3, e4, e5⟩, es⟩ := V.resolve_left (by omega)
  refine ⟨d, by omega, by rw [e3 0 (by omega)]; exact c2, fun i hi => by rw [e3 i (by omega)]; exact c3 i (by omega), ?_⟩
  rw [TP_at (h := h2) (by omega), es, e3 _ (by omega), ← TP_at (h := h1) (by omega)]
  exact c4
theorem C_cmp {f c : Int} {gn : Nat → Int} {h h1 h' : MEM} (D : Dp f gn 1 h ∧ SS h) (hb : 0 ≤ h 98 38) (m : EMo h h1 c) (ec : c = TP h) (hc : h' 98 40 = h1 98 40) (hn : ∀ j, h' 125 j = h1 125 j) (es : h' 98 42 = h 98 42 - 1) (hk : ∀ j, h' 127 j = h 127 j) (ep : h' 98 36 = h 98 36) (he : h' 98 37 = h 98 37) : CVo f gn 1 h' := by
  obtain ⟨d, c1, c2, c3, c4⟩ := D
  exact Or.inr ⟨Dp_op d hb m ec (by omega) (by omega) hc hn es hk ep he, by omega, by rw [hk]; exact c2, fun i hi => by rw [hk]; exact c3 i (by omega)⟩
theorem C_op {f c : Int} {gn : Nat → Int} {h h1 h' : MEM} (C : CVo f gn 1 h) (hb : 0 ≤ h 98 38) (m : EMo h h1 c) (ec : c = TP h) (ek : c = 38 ∨ c = 124) (hc : h' 98 40 = h1 98 40) (hn : ∀ j, h' 125 j = h1 125 j) (es : h' 98 42 = h 98 42 - 1) (hk : ∀ j, h' 127 j = h 127 j) (ep : h' 98 36 = h 98 36) (he : h' 98 37 = h 98 37) : CVo f gn 1 h' := by
  obtain ⟨d, c0⟩ := C.good hb
  have h2 := c0.two (by omega)
  exact Or.inr ⟨Dp_op d hb m ec (by omega) (by omega) hc hn es hk ep he, c0.pop hk es h2⟩
theorem C_not {f : Int} {gn : Nat → Int} {h h1 h' : MEM} (C : CVo f gn 1 h) (hb : 0 ≤ h 98 38) (m : EMo h h1 2) (ec : 33 = TP h) (hc : h' 98 40 = h1 98 40) (hn : ∀ j, h' 125 j = h1 125 j) (es : h' 98 42 = h 98 42 - 1) (hk : ∀ j, h' 127 j = h 127 j) (ep : h' 98 36 = h 98 36) (he : h' 98 37 = h 98 37) : CVo f gn 1 h' := by
  obtain ⟨d, c0⟩ := C.good hb
  have h2 := c0.two (by omega)
  have l := d.lin
  have np := nb_pop (by omega) es hk
  have n0 := nb_0 (h' 127) (h' 98 42).toNat
  rw [← ec, if_pos (by omega)] at np
  rcases m with ⟨m1, -⟩ | ⟨m1, m2, m3⟩
  · omega
  · refine Or.inr ⟨d.step (c := 2) (by omega) (fun j => by rw [hn, m3]) (by omega) (by omega) (by omega) (fun q => absurd q (by omega)) (fun _ => by omega) ?_, c0.pop hk es h2⟩
    rw [if_neg (by omega), if_pos rfl]
    omega
theorem C_bin {f c : Int} {gn : Nat → Int} {h h' : MEM} (C : CVo f gn 1 h) (hb : 0 ≤ h 98 38) (p : PU h h' c) (ek : c = 38 ∨ c = 124) (lt : h 98 36 < h 98 37) (es : h' 98 42 = h 98 42 + 1) (ep : h' 98 36 = h 98 36 + 1) (hc : h' 98 40 = h 98 40) (he : h' 98 37 = h 98 37) (hn : ∀ j, h' 125 j = h 125 j) : CQ f gn 0 h' := by
  obtain ⟨d, c0⟩ := C.good hb
  have l := d.lin
  refine ⟨d.keep hc hn (by omega) (by omega) (by omega) ?_, c0.push p es (by unfold cch; omega)⟩
  rw [nb_push p (by omega) es, if_neg (by omega)]
  omega
theorem C_close {f : Int} {gn : Nat → Int} {h h' : MEM} (C : CVo f gn 1 h) (hb : 0 ≤ h 98 38) (ht : TP h ≠ 38 ∧ TP h ≠ 124) (lt : h 98 36 < h 98 37) (es : h' 98 42 = h 98 42 - 1) (hk : ∀ j, h' 127 j = h 127 j) (ep : h' 98 36 = h 98 36 + 1) (hc : h' 98 40 = h 98 40) (he : h' 98 37 = h 98 37) (hn : ∀ j, h' 125 j = h 125 j) : Dp f gn 1 h' ∧ (h' 98 42 = 0 ∨ CS h') := by
  obtain ⟨d, c0⟩ := C.good hb
  obtain ⟨c1, c2, c3⟩ := id c0
  have l := d.lin
  have ct := c3 (h 98 42 - 1).toNat (by omega)
  rw [← TP_at c1] at ct
  unfold cch at ct
  have np := nb_pop c1 es hk
  rw [if_pos (by omega)] at np
  refine ⟨d.keep hc hn (by omega) (by omega) (by omega) (by omega), ?_⟩
  by_cases q : h' 98 42 = 0
  · exact Or.inl q
  · exact Or.inr (c0.pop hk es (by omega))
def GBo (f : Int) (gn : Nat → Int) (x : Int) (h : MEM) : Prop := h 98 38 < 0 ∨ (x = 1 ∧ h 98 43 = 0 ∧ CQ f gn 0 h) ∨ (x = 0 ∧ h 98 43 = 0 ∧ CQ f gn 1 h) ∨ (h 98 43 = 1 ∧ Dp f gn 1 h)
def DZo (f : Int) (gn : Nat → Int) (h : MEM) : Prop := h 98 38 < 0 ∨ (Dp f gn 0 h ∧ h 98 42 = 0)
theorem DZo.fr {f : Int} {gn : Nat → Int} {h h' : MEM} {T : List (Nat × Nat)} (d : DZo f gn h) (hF : Fr T h h') (hT : chkD T = true) : DZo f gn h' := by
  obtain ⟨n1, n2, n3, n4, n5, n6, n7⟩ := chk_eq hF hT
  rcases d with d | d
  · exact Or.inl (by rw [n5]; exact d)
  · exact Or.inr ⟨d.1.fr0 hF hT, by rw [n7]; exact d.2⟩
theorem C_first {f : Int} {gn : Nat → Int} {h h' : MEM} (D : DZo f gn h) (hb : 0 ≤ h 98 38) (hr : HR h = 40) (lt : h 98 36 < h 98 37) (o : OPo h h') (es : h' 98 42 = h 98 42 + 1) (ep : h' 98 36 = h 98 36 + 1) (hc : h' 98 40 = h 98 40) (he : h' 98 37 = h 98 37) (hn : ∀ j, h' 125 j = h 125 j) : CQ f gn 0 h' := by
  obtain ⟨d, s0⟩ := D.resolve_left (by omega)
  obtain ⟨o1, o2⟩ := o
  rw [hr] at o2
  have l := d.lin
  refine ⟨d.keep hc hn (by omega) (by omega) (by omega) ?_, by omega, by rw [o2 0, if_pos (by omega)], fun i hi => ?_⟩
  · rw [nb_push o2 (by omega) es, if_pos (by omega)]
    omega
  · rw [o2 i, if_pos (by omega)]
    exact Or.inl rfl
def CIo (f : Int) (gn : Nat → Int) (x : Int) (h : MEM) : Prop := h 98 38 < 0 ∨ (x = 1 ∧ h 98 43 = 0 ∧ CQ f gn 0 h) ∨ (x = 0 ∧ h 98 43 = 0 ∧ CQ f gn 1 h) ∨ (h 98 43 = 1 ∧ Dp f gn 1 h)
theorem CI_g {f x z : Int} {gn : Nat → Int} {h : MEM} (d : GBo f gn x h) (e : x = z) : CIo f gn z h := e ▸ d
theorem C_fst {f : Int} {gn : Nat → Int} {h h' : MEM} (D : DZo f gn h) (hb : 0 ≤ h 98 38) (hr : HR h = 40) (lt : h 98 36 < h 98 37) (o : OPo h h') (es : h' 98 42 = h 98 42 + 1) (ep : h' 98 36 = h 98 36 + 1) (hc : h' 98 40 = h 98 40) (he : h' 98 37 = h 98 37) (hn : ∀ j, h' 125 j = h 125 j) (ho : h' 98 43 = 0) : CIo f gn 1 h' :=
  Or.inr (Or.inl ⟨rfl, ho, C_first D hb hr lt o es ep hc he hn⟩)
theorem CI_a {f x : Int} {gn : Nat → Int} {h : MEM} (d : CIo f gn x h) (hb : 0 ≤ h 98 38) (hx : x ≠ 0) (h0 : h 98 43 = 0) : CVo f gn 0 h := by
  rcases d with d | ⟨_, _, d⟩ | ⟨d, _⟩ | ⟨d, _⟩
  · omega
  · exact Or.inr d
  · omega
  · omega
theorem CI_b {f x : Int} {gn : Nat → Int} {h : MEM} (d : CIo f gn x h) (hb : 0 ≤ h 98 38) (hx : x = 0) (h0 : h 98 43 = 0) : CVo f gn 1 h := by
  rcases d with d | ⟨d, _⟩ | ⟨_, _, d⟩ | ⟨d, _⟩
  · omega
  · omega
  · exact Or.inr d
  · omega
def DFo (f : Int) (gn : Nat → Int) (h : MEM) : Prop := h 98 38 < 0 ∨ Dp f gn 1 h
theorem CI_e {f x : Int} {gn : Nat → Int} {h : MEM} (d : CIo f gn x h) (hb : 0 ≤ h 98 38) (h0 : h 98 43 ≠ 0) : DFo f gn h := by
  rcases d with d | ⟨_, d, _⟩ | ⟨_, d, _⟩ | ⟨_, d⟩
  · exact Or.inl d
  · omega
  · omega
  · exact Or.inr d
