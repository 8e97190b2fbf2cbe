abbrev NX : Nat := 98
def rsX0 : List Bool := [false, true, true, true, true, true]
def rsX1 : List Bool := [false, true, true, true]
def rsX2 : List Bool := [false, false, true, true, true, true, true, true, true]
def rsX3 : List Bool := [false, true, true, true]
def rsX4 : List Bool := [false, true, true, true, true]
def rsX5 : List Bool := [true, false, false, false, false]
def rsX6 : List Bool := [false, true, true, true]
def rsX7 : List Bool := [false, false, true, false, true, true]
def rsX8 : List Bool := [false, true, true]
def rsX9 : List Bool := [true, true, true, true, true, true, false, false, false, true]
def rsX10 : List Bool := [false, true]
def rsX11 : List Bool := [true, true, true, true, true, true, true, true, true, true, true, true, false]
def rsX12 : List Bool := [true, false, false, false, false, false, false, false, true, true, true, true, true, true, true, true, true, true, true, true, true, true, true, false, true, true, true, true, true, true, true, true, true, true, true, true, false, false, false, false, false, false, false, false, false, true, false, false, false, true, true, false, false, false, false, true, true, true, true, true, true, true, true, true, true, true, true, true, true, true, true, true, false, false, false, true, true, true, true, false]
def SH : List SE := [.inr (11, rsX11), .inr (9, rsX9), .inr (6, rsX6), .inl (0, 10), .inl (0, 10), .inl (0, 10), .inr (0, rsX0), .inl (0, 8), .inl (0, 8), .inl (0, 8), .inl (0, 8), .inl (0, 40), .inr (4, rsX4), .inl (0, 8), .inl (0, 8), .inl (0, 8), .inl (0, 8), .inl (0, 64), .inl (0, 64), .inl (0, 100), .inl (0, 12), .inr (9, rsX9), .inr (6, rsX6), .inl (0, 10), .inl (0, 10), .inl (0, 10), .inr (0, rsX0), .inl (0, 8), .inl (0, 8), .inl (0, 8), .inl (0, 8), .inl (0, 40), .inr (4, rsX4), .inl (0, 8), .inl (0, 8), .inl (0, 8), .inl (0, 8), .inl (0, 64), .inl (0, 64), .inl (0, 100), .inl (0, 12), .inr (9, rsX9), .inr (6, rsX6), .inl (0, 10), .inl (0, 10), .inl (0, 10), .inr (0, rsX0), .inl (0, 8), .inl (0, 8), .inl (0, 8), .inl (0, 8), .inl (0, 40), .inr (4, rsX4), .inl (0, 8), .inl (0, 8), .inl (0, 8), .inl (0, 8), .inl (0, 64), .inl (0, 64), .inl (0, 100), .inl (0, 12), .inr (10, rsX10), .inl (0, 220), .inr (10, rsX10), .inl (0, 220), .inr (5, rsX5), .inl (0, 200), .inr (7, rsX7), .inl (0, 3), .inl (0, 3), .inl (0, 3), .inr (3, rsX3), .inl (0, 8), .inl (0, 8), .inl (0, 2304), .inr (8, rsX8), .inl (0, 7), .inl (0, 128), .inr (1, rsX1), .inl (0, 8), .inl (0, 8), .inl (0, 8), .inr (2, rsX2), .inl (0, 14), .inl (0, 14), .inl (0, 14), .inl (0, 14), .inl (0, 200), .inl (0, 200), .inl (0, 40), .inr (2, rsX2), .inl (0, 14), .inl (0, 14), .inl (0, 14), .inl (0, 14), .inl (0, 200), .inl (0, 200), .inl (0, 40), .inr (12, rsX12), .inl (1, 220), .inl (0, 10), .inl (0, 10), .inl (0, 10), .inl (0, 8), .inl (0, 8), .inl (0, 40), .inl (2, 8), .inl (0, 8), .inl (0, 8), .inl (0, 8), .inl (2, 8), .inl (0, 8), .inl (0, 64), .inl (0, 64), .inl (2, 100), .inl (0, 14), .inl (0, 14), .inl (0, 14), .inl (0, 14), .inl (0, 200), .inl (0, 200), .inl (0, 14), .inl (0, 14), .inl (0, 14), .inl (0, 14), .inl (0, 200), .inl (0, 200), .inl (0, 240), .inl (0, 240), .inl (2, 240), .inl (0, 20), .inl (0, 20), .inl (0, 20), .inl (0, 16), .inl (0, 16), .inl (0, 80), .inl (2, 16), .inl (0, 16), .inl (0, 16), .inl (0, 16), .inl (2, 16), .inl (0, 16), .inl (0, 128), .inl (0, 128), .inl (2, 200), .inl (0, 12), .inl (0, 8), .inl (0, 2304), .inl (0, 16), .inl (0, 128), .inl (0, 8)]
def INI : List (Int ⊕ List Int) := [.inr [1, 21, 41, 61, 63, 65, 67, 71, 75, 78, 82, 90, 0], .inr [2, 6, 12, 17, 18, 19, 0, 1, 0, 20], .inr [0, 3, 4, 5], .inl 0, .inl 0, .inl 0, .inr [0, 7, 8, 9, 10, 11], .inl 0, .inl 0, .inl 0, .inl 0, .inl 0, .inr [0, 13, 14, 15, 16], .inl 0, .inl 0, .inl 0, .inl 0, .inl 0, .inl 0, .inl 0, .inl 0, .inr [22, 26, 32, 37, 38, 39, 0, 1, 0, 40], .inr [0, 23, 24, 25], .inl 0, .inl 0, .inl 0, .inr [0, 27, 28, 29, 30, 31], .inl 0, .inl 0, .inl 0, .inl 0, .inl 0, .inr [0, 33, 34, 35, 36], .inl 0, .inl 0, .inl 0, .inl 0, .inl 0, .inl 0, .inl 0, .inl 0, .inr [42, 46, 52, 57, 58, 59, 0, 1, 0, 60], .inr [0, 43, 44, 45], .inl 0, .inl 0, .inl 0, .inr [0, 47, 48, 49, 50, 51], .inl 0, .inl 0, .inl 0, .inl 0, .inl 0, .inr [0, 53, 54, 55, 56], .inl 0, .inl 0, .inl 0, .inl 0, .inl 0, .inl 0, .inl 0, .inl 0, .inr [0, 62], .inl 0, .inr [0, 64], .inl 0, .inr [66, 0, 0, 0, 0], .inl 0, .inr [(-1), 0, 68, 0, 69, 70], .inl 0, .inl 0, .inl 0, .inr [0, 72, 73, 74], .inl 0, .inl 0, .inl 0, .inr [0, 76, 77], .inl 0, .inl 0, .inr [0, 79, 80, 81], .inl 0, .inl 0, .inl 0, .inr [0, 0, 83, 84, 85, 86, 87, 88, 89], .inl 0, .inl 0, .inl 0, .inl 0, .inl 0, .inl 0, .inl 0, .inr [0, 0, 91, 92, 93, 94, 95, 96, 97], .inl 0, .inl 0, .inl 0, .inl 0, .inl 0, .inl 0, .inl 0, .inr [99, 0, 0, 0, 0, 0, 1, 0, 100, 101, 102, 103, 104, 105, 106, 107, 108, 109, 110, 111, 112, 113, 114, 0, 115, 116, 117, 118, 119, 120, 121, 122, 123, 124, 125, 126, 0, 0, 0, 0, 0, 0, 0, 0, 0, 127, 0, 0, 0, 128, 129, 0, 0, 0, 0, 130, 131, 132, 133, 134, 135, 136, 137, 138, 139, 140, 141, 142, 143, 144, 145, 146, 0, 0, 0, 147, 148, 149, 150, 0], .inl 0, .inl 0, .inl 0, .inl 0, .inl 0, .inl 0, .inl 0, .inl 0, .inl 0, .inl 0, .inl 0, .inl 0, .inl 0, .inl 0, .inl 0, .inl 0, .inl 0, .inl 0, .inl 0, .inl 0, .inl 0, .inl 0, .inl 0, .inl 0, .inl 0, .inl 0, .inl 0, .inl 0, .inl 0, .inl 0, .inl 0, .inl 0, .inl 0, .inl 0, .inl 0, .inl 0, .inl 0, .inl 0, .inl 0, .inl 0, .inl 0, .inl 0, .inl 0, .inl 0, .inl 0, .inl 0, .inl 0, .inl 0, .inl 0, .inl 0, .inl 0, .inl 0]
def BT : List ((Int × Int) ⊕ List (Int × Int)) := [.inr [(1, 1), (21, 21), (41, 41), (61, 61), (63, 63), (65, 65), (67, 67), (71, 71), (75, 75), (78, 78), (82, 90), (82, 90), (0, 1)], .inr [(2, 2), (6, 6), (12, 12), (17, 17), (18, 18), (19, 19), ((-2147483648), 2147483647), (0, 65535), ((-2147483648), 2147483647), (20, 20)], .inr [(0, 10), (3, 3), (4, 4), (5, 5)], .inl ((-2147483648), 2147483647), .inl ((-2147483648), 2147483647), .inl ((-2147483648), 2147483647), .inr [(0, 8), (7, 7), (8, 8), (9, 9), (10, 10), (11, 11)], .inl ((-2147483648), 2147483647), .inl ((-2147483648), 2147483647), .inl ((-2147483648), 2147483647), .inl ((-2147483648), 2147483647), .inl ((-2147483648), 2147483647), .inr [(0, 8), (13, 13), (14, 14), (15, 15), (16, 16)], .inl ((-2147483648), 2147483647), .inl (0, 4), .inl ((-2147483648), 2147483647), .inl ((-2147483648), 2147483647), .inl ((-2147483648), 2147483647), .inl ((-2147483648), 2147483647), .inl (0, 1), .inl ((-2147483648), 2147483647), .inr [(22, 22), (26, 26), (32, 32), (37, 37), (38, 38), (39, 39), ((-2147483648), 2147483647), (0, 65535), ((-2147483648), 2147483647), (40, 40)], .inr [(0, 10), (23, 23), (24, 24), (25, 25)], .inl ((-2147483648), 2147483647), .inl ((-2147483648), 2147483647), .inl ((-2147483648), 2147483647), .inr [(0, 8), (27, 27), (28, 28), (29, 29), (30, 30), (31, 31)], .inl ((-2147483648), 2147483647), .inl ((-2147483648), 2147483647), .inl ((-2147483648), 2147483647), .inl ((-2147483648), 2147483647), .inl ((-2147483648), 2147483647), .inr [(0, 8), (33, 33), (34, 34), (35, 35), (36, 36)], .inl ((-2147483648), 2147483647), .inl (0, 4), .inl ((-2147483648), 2147483647), .inl ((-2147483648), 2147483647), .inl ((-2147483648), 2147483647), .inl ((-2147483648), 2147483647), .inl (0, 1), .inl ((-2147483648), 2147483647), .inr [(42, 42), (46, 46), (52, 52), (57, 57), (58, 58), (59, 59), ((-2147483648), 2147483647), (0, 65535), ((-2147483648), 2147483647), (60, 60)], .inr [(0, 10), (43, 43), (44, 44), (45, 45)], .inl ((-2147483648), 2147483647), .inl ((-2147483648), 2147483647), .inl ((-2147483648), 2147483647), .inr [(0, 8), (47, 47), (48, 48), (49, 49), (50, 50), (51, 51)], .inl ((-2147483648), 2147483647), .inl ((-2147483648), 2147483647), .inl ((-2147483648), 2147483647), .inl ((-2147483648), 2147483647), .inl ((-2147483648), 2147483647), .inr [(0, 8), (53, 53), (54, 54), (55, 55), (56, 56)], .inl ((-2147483648), 2147483647), .inl (0, 4), .inl ((-2147483648), 2147483647), .inl ((-2147483648), 2147483647), .inl ((-2147483648), 2147483647), .inl ((-2147483648), 2147483647), .inl (0, 1), .inl ((-2147483648), 2147483647), .inr [(0, 220), (62, 62)], .inl (0, 255), .inr [(0, 220), (64, 64)], .inl (0, 255), .inr [(66, 66), (0, 200), ((-2147483648), 2147483647), (0, 5), ((-2147483648), 2147483647)], .inl (0, 255), .inr [((-2147483648), 2147483647), ((-2147483648), 2147483647), (68, 68), (0, 3), (69, 69), (70, 70)], .inl ((-2147483648), 2147483647), .inl ((-2147483648), 2147483647), .inl ((-2147483648), 2147483647), .inr [((-2147483648), 2147483647), (72, 72), (73, 73), (74, 74)], .inl (0, 8), .inl ((-2147483648), 2147483647), .inl ((-2147483648), 2147483647), .inr [(0, 7), (76, 76), (77, 77)], .inl ((-2147483648), 2147483647), .inl ((-2147483648), 2147483647), .inr [((-1), 8), (79, 79), (80, 80), (81, 81)], .inl ((-1), 7), .inl ((-2147483648), 2147483647), .inl ((-2147483648), 2147483647), .inr [(0, 14), (0, 200), (83, 83), (84, 84), (85, 85), (86, 86), (87, 87), (88, 88), (89, 89)], .inl ((-2147483648), 2147483647), .inl ((-2147483648), 2147483647), .inl ((-2147483648), 2147483647), .inl ((-2147483648), 2147483647), .inl ((-2147483648), 2147483647), .inl ((-2147483648), 2147483647), .inl ((-2147483648), 2147483647), .inr [(0, 14), (0, 200), (91, 91), (92, 92), (93, 93), (94, 94), (95, 95), (96, 96), (97, 97)], .inl ((-2147483648), 2147483647), .inl ((-2147483648), 2147483647), .inl ((-2147483648), 2147483647), .inl ((-2147483648), 2147483647), .inl ((-2147483648), 2147483647), .inl ((-2147483648), 2147483647), .inl ((-2147483648), 2147483647), .inr [(99, 99), (0, 220), (0, 10), (0, 8), (0, 8), (0, 2000000000), (0, 65535), ((-2147483648), 2147483647), (100, 100), (101, 101), (102, 102), (103, 103), (104, 104), (105, 105), (106, 106), (107, 107), (108, 108), (109, 109), (110, 110), (111, 111), (112, 112), (113, 113), (114, 114), (0, 14), (115, 115), (116, 116), (117, 117), (118, 118), (119, 119), (120, 120), (121, 121), (122, 122), (123, 123), (124, 124), (125, 125), (126, 126), (0, 200), (0, 200), ((-6000), 0), (0, 14), (0, 200), ((-2147483648), 2147483647), (0, 200), (0, 1), (0, 1), (127, 127), (0, 7), ((-1), 7), ((-2147483648), 2147483647), (128, 128), (129, 129), ((-2147483648), 2147483647), ((-2147483648), 2147483647), ((-2147483648), 2147483647), ((-2147483648), 2147483647), (130, 130), (131, 131), (132, 132), (133, 133), (134, 134), (135, 135), (136, 136), (137, 137), (138, 138), (139, 139), (140, 140), (141, 141), (142, 142), (143, 143), (144, 144), (145, 145), (146, 146), ((-1), 2147483647), ((-2147483648), 2147483647), ((-2147483648), 2147483647), (147, 147), (148, 148), (149, 149), (150, 150), (0, 1)], .inl ((-128), 127), .inl ((-2147483648), 2147483647), .inl ((-2147483648), 2147483647), .inl ((-2147483648), 2147483647), .inl (0, 10), .inl ((-2147483648), 2147483647), .inl ((-2147483648), 2147483647), .inl (0, 1), .inl ((-2147483648), 2147483647), .inl (0, 4), .inl ((-2147483648), 2147483647), .inl (0, 1), .inl ((-2147483648), 2147483647), .inl ((-2147483648), 2147483647), .inl ((-2147483648), 2147483647), .inl (0, 1), .inl ((-2147483648), 2147483647), .inl (0, 200), .inl (0, 200), .inl (0, 200), .inl ((-2147483648), 2147483647), .inl ((-2147483648), 2147483647), .inl ((-2147483648), 2147483647), .inl (0, 200), .inl (0, 200), .inl (0, 200), .inl ((-2147483648), 2147483647), .inl ((-2147483648), 2147483647), .inl ((-2147483648), 2147483647), .inl ((-2147483648), 2147483647), .inl (0, 1), .inl ((-2147483648), 2147483647), .inl ((-2147483648), 2147483647), .inl ((-2147483648), 2147483647), .inl (0, 10), .inl ((-2147483648), 2147483647), .inl ((-2147483648), 2147483647), .inl (0, 1), .inl ((-2147483648), 2147483647), .inl (0, 4), .inl ((-2147483648), 2147483647), .inl (0, 1), .inl ((-2147483648), 2147483647), .inl ((-2147483648), 2147483647), .inl ((-2147483648), 2147483647), .inl (0, 1), .inr [(0, 10), (0, 8), (0, 8), (0, 2000000000), (0, 65535), ((-2147483648), 2147483647), (0, 10), (0, 8), (0, 8), (0, 2000000000), (0, 65535), ((-2147483648), 2147483647)], .inl (0, 7), .inl ((-2147483648), 2147483647), .inl ((-2147483648), 2147483647), .inl ((-2147483648), 2147483647), .inl ((-2147483648), 2147483647)]
def bnd (a j : Nat) : Int × Int := match BT[a]? with
  | some (.inl p) => p
  | some (.inr l) => l.getD j (0, 0)
  | none => (0, 0)
/-- every slot of the class's cells, of the reference's, is within its bounds -/
def MBx (h : MEM) : Prop := ∀ a j, a < NX → (bnd a j).1 ≤ h a j ∧ h a j ≤ (bnd a j).2
def MBm (h : MEM) : Prop := ∀ a j, NX ≤ a → (bnd a j).1 ≤ h a j ∧ h a j ≤ (bnd a j).2
theorem MBx.up {h : MEM} (hM : MBx h) {a k : Nat} {x : Int} (hb : (bnd a k).1 ≤ x ∧ x ≤ (bnd a k).2) : MBx (up2 h a k x) := by
  intro i j hi
  unfold up2
  split
  · next q => obtain ⟨rfl, rfl⟩ := q; exact hb
  · exact hM i j hi
theorem MBm.up {h : MEM} (hM : MBm h) {a k : Nat} {x : Int} (hb : (bnd a k).1 ≤ x ∧ x ≤ (bnd a k).2) : MBm (up2 h a k x) := by
  intro i j hi
  unfold up2
  split
  · next q => obtain ⟨rfl, rfl⟩ := q; exact hb
  · exact hM i j hi
theorem tin_no {T : List (Nat × Nat)} {a j : Nat} (h : ∀ p ∈ T, p.1 ≠ a) : tin T a j = false := by
  unfold tin
  rw [List.any_eq_false]
  intro p hp
  have := h p hp
  simp [this]
theorem MBm.fr {h h' : MEM} {T : List (Nat × Nat)} (hM : MBm h) (hF : Fr T h h') (hT : T.all (fun p => decide (p.1 < NX)) = true) : MBm h' := by
  intro a j ha
  rw [hF a j (tin_no (fun p hp => by have := List.all_eq_true.mp hT p hp; simp only [decide_eq_true_eq] at this; omega))]
  exact hM a j ha
theorem MBx.fr {h h' : MEM} {T : List (Nat × Nat)} (hM : MBx h) (hF : Fr T h h') (hT : T.all (fun p => decide (NX ≤ p.1)) = true) : MBx h' := by
  intro a j ha
  rw [hF a j (tin_no (fun p hp => by have := List.all_eq_true.mp hT p hp; simp only [decide_eq_true_eq] at this; omega))]
  exact hM a j ha
theorem MBx.cp {h h' : MEM} (hM : MBx h) {a0 a sp dp n : Nat} (e : h' = cp2 h a0 a sp dp n) {p0 p : Int × Int} (hl : a0 < NX) (hp0 : BT[a0]? = some (.inl p0)) (hp : BT[a]? = some (.inl p)) (h1 : p.1 ≤ p0.1) (h2 : p0.2 ≤ p.2) : MBx h' := by
  subst e
  intro i j hi
  unfold cp2
  split
  · next q =>
    obtain ⟨rfl, -⟩ := q
    have hb := hM a0 (sp + (j - dp)) hl
    have e0 : bnd a0 (sp + (j - dp)) = p0 := by unfold bnd; rw [hp0]
    have e1 : bnd i j = p := by unfold bnd; rw [hp]
    rw [e0] at hb
    rw [e1]
    omega
  · exact hM i j hi
theorem bd_eq {u v lo hi : Int} (e : u = v) (b : lo ≤ v ∧ v ≤ hi) : lo ≤ u ∧ u ≤ hi := by rw [e]; exact b
def hOf (l : List (Int ⊕ List Int)) : MEM := fun a j => match l[a]? with
  | some (.inl v) => v
  | some (.inr f) => f.getD j 0
  | none => 0
def chkE (v : Int ⊕ List Int) (b : (Int × Int) ⊕ List (Int × Int)) : Bool := match v, b with
  | .inl x, .inl p => decide (p.1 ≤ x) && decide (x ≤ p.2)
  | .inl x, .inr l => decide (x = 0) && l.all (fun p => decide (p.1 ≤ 0) && decide (0 ≤ p.2))
  | .inr f, .inr l => decide (f.length = l.length) && (f.zip l).all (fun q => decide (q.2.1 ≤ q.1) && decide (q.1 ≤ q.2.2))
  | _, _ => false
theorem MB_ini (hl : INI.length = BT.length) (hc : (INI.zip BT).all (fun q => chkE q.1 q.2) = true) : ∀ a j, (bnd a j).1 ≤ hOf INI a j ∧ hOf INI a j ≤ (bnd a j).2 := by
  intro a j
  unfold bnd hOf
  cases hi : INI[a]? with
  | none =>
    have : BT[a]? = none := by rw [List.getElem?_eq_none_iff] at hi ⊢; omega
    rw [this]
    exact ⟨Int.le_refl 0, Int.le_refl 0⟩
  | some v =>
    have hlt : a < BT.length := by have := (List.getElem?_eq_some_iff.mp hi).1; omega
    obtain ⟨b, hb⟩ : ∃ b, BT[a]? = some b := ⟨_, List.getElem?_eq_getElem hlt⟩
    have hz : (INI.zip BT)[a]? = some (v, b) := by rw [List.getElem?_zip_eq_some]; exact ⟨hi, hb⟩
    have hq := List.all_eq_true.mp hc _ (List.mem_of_getElem? hz)
    rw [hb]
    cases v with
    | inl x =>
      cases b with
      | inl p => simp only [chkE, Bool.and_eq_true, decide_eq_true_eq] at hq; exact hq
      | inr l =>
        simp only [chkE, Bool.and_eq_true, decide_eq_true_eq] at hq
        show (l.getD j (0, 0)).1 ≤ x ∧ x ≤ (l.getD j (0, 0)).2
        rw [hq.1, List.getD_eq_getElem?_getD]
        cases hj : l[j]? with
        | none => exact ⟨Int.le_refl 0, Int.le_refl 0⟩
        | some p =>
          have := List.all_eq_true.mp hq.2 p (List.mem_of_getElem? hj)
          simp only [Bool.and_eq_true, decide_eq_true_eq] at this
          exact this
    | inr f =>
      cases b with
      | inl p => simp [chkE] at hq
      | inr l =>
        simp only [chkE, Bool.and_eq_true, decide_eq_true_eq] at hq
        show (l.getD j (0, 0)).1 ≤ f.getD j 0 ∧ f.getD j 0 ≤ (l.getD j (0, 0)).2
        rw [List.getD_eq_getElem?_getD, List.getD_eq_getElem?_getD]
        cases hj : l[j]? with
        | none =>
          have hn : f[j]? = none := by rw [List.getElem?_eq_none_iff] at hj ⊢; omega
          rw [hn]
          exact ⟨Int.le_refl 0, Int.le_refl 0⟩
        | some p =>
          have hlf : j < f.length := by have := (List.getElem?_eq_some_iff.mp hj).1; omega
          have hz2 : (f.zip l)[j]? = some (f[j], p) := by rw [List.getElem?_zip_eq_some]; exact ⟨List.getElem?_eq_getElem hlf, hj⟩
          have := List.all_eq_true.mp hq.2 _ (List.mem_of_getElem? hz2)
          simp only [Bool.and_eq_true, decide_eq_true_eq] at this
          rw [List.getElem?_eq_getElem hlf]
          exact this
theorem MB_0 : ∀ a j, (bnd a j).1 ≤ hOf INI a j ∧ hOf INI a j ≤ (bnd a j).2 := MB_ini rfl (by decide +kernel)
theorem sh_0 : SH[0]? = some (.inr (11, rsX11)) := rfl
theorem m_0_0 {h : MEM} (hM : MBx h) : h 0 0 = ((1 : Nat) : Int) := by have q : (1 : Int) ≤ h 0 0 ∧ h 0 0 ≤ 1 := hM 0 0 (by decide); omega
theorem m_0_1 {h : MEM} (hM : MBx h) : h 0 1 = ((21 : Nat) : Int) := by have q : (21 : Int) ≤ h 0 1 ∧ h 0 1 ≤ 21 := hM 0 1 (by decide); omega
theorem m_0_2 {h : MEM} (hM : MBx h) : h 0 2 = ((41 : Nat) : Int) := by have q : (41 : Int) ≤ h 0 2 ∧ h 0 2 ≤ 41 := hM 0 2 (by decide); omega
theorem m_0_3 {h : MEM} (hM : MBx h) : h 0 3 = ((61 : Nat) : Int) := by have q : (61 : Int) ≤ h 0 3 ∧ h 0 3 ≤ 61 := hM 0 3 (by decide); omega
theorem m_0_4 {h : MEM} (hM : MBx h) : h 0 4 = ((63 : Nat) : Int) := by have q : (63 : Int) ≤ h 0 4 ∧ h 0 4 ≤ 63 := hM 0 4 (by decide); omega
theorem m_0_5 {h : MEM} (hM : MBx h) : h 0 5 = ((65 : Nat) : Int) := by have q : (65 : Int) ≤ h 0 5 ∧ h 0 5 ≤ 65 := hM 0 5 (by decide); omega
theorem m_0_6 {h : MEM} (hM : MBx h) : h 0 6 = ((67 : Nat) : Int) := by have q : (67 : Int) ≤ h 0 6 ∧ h 0 6 ≤ 67 := hM 0 6 (by decide); omega
theorem m_0_7 {h : MEM} (hM : MBx h) : h 0 7 = ((71 : Nat) : Int) := by have q : (71 : Int) ≤ h 0 7 ∧ h 0 7 ≤ 71 := hM 0 7 (by decide); omega
theorem m_0_8 {h : MEM} (hM : MBx h) : h 0 8 = ((75 : Nat) : Int) := by have q : (75 : Int) ≤ h 0 8 ∧ h 0 8 ≤ 75 := hM 0 8 (by decide); omega
theorem m_0_9 {h : MEM} (hM : MBx h) : h 0 9 = ((78 : Nat) : Int) := by have q : (78 : Int) ≤ h 0 9 ∧ h 0 9 ≤ 78 := hM 0 9 (by decide); omega
theorem m_0_10 {h : MEM} (hM : MBx h) : 82 ≤ h 0 10 ∧ h 0 10 ≤ 90 := hM 0 10 (by decide)
theorem u_0_10 {h h' : MEM} (hM : MBx h) {x : Int} (e : h' = up2 h 0 10 x) (h0 : 82 ≤ x) (h1 : x ≤ 90) : MBx h' := by subst e; exact hM.up ⟨h0, h1⟩
theorem m_0_11 {h : MEM} (hM : MBx h) : 82 ≤ h 0 11 ∧ h 0 11 ≤ 90 := hM 0 11 (by decide)
theorem u_0_11 {h h' : MEM} (hM : MBx h) {x : Int} (e : h' = up2 h 0 11 x) (h0 : 82 ≤ x) (h1 : x ≤ 90) : MBx h' := by subst e; exact hM.up ⟨h0, h1⟩
theorem m_0_12 {h : MEM} (hM : MBx h) : 0 ≤ h 0 12 ∧ h 0 12 ≤ 1 := hM 0 12 (by decide)
theorem u_0_12 {h h' : MEM} (hM : MBx h) {x : Int} (e : h' = up2 h 0 12 x) (h0 : 0 ≤ x) (h1 : x ≤ 1) : MBx h' := by subst e; exact hM.up ⟨h0, h1⟩
theorem sh_1 : SH[1]? = some (.inr (9, rsX9)) := rfl
theorem m_1_0 {h : MEM} (hM : MBx h) : h 1 0 = ((2 : Nat) : Int) := by have q : (2 : Int) ≤ h 1 0 ∧ h 1 0 ≤ 2 := hM 1 0 (by decide); omega
theorem m_1_1 {h : MEM} (hM : MBx h) : h 1 1 = ((6 : Nat) : Int) := by have q : (6 : Int) ≤ h 1 1 ∧ h 1 1 ≤ 6 := hM 1 1 (by decide); omega
theorem m_1_2 {h : MEM} (hM : MBx h) : h 1 2 = ((12 : Nat) : Int) := by have q : (12 : Int) ≤ h 1 2 ∧ h 1 2 ≤ 12 := hM 1 2 (by decide); omega
theorem m_1_3 {h : MEM} (hM : MBx h) : h 1 3 = ((17 : Nat) : Int) := by have q : (17 : Int) ≤ h 1 3 ∧ h 1 3 ≤ 17 := hM 1 3 (by decide); omega
theorem m_1_4 {h : MEM} (hM : MBx h) : h 1 4 = ((18 : Nat) : Int) := by have q : (18 : Int) ≤ h 1 4 ∧ h 1 4 ≤ 18 := hM 1 4 (by decide); omega
theorem m_1_5 {h : MEM} (hM : MBx h) : h 1 5 = ((19 : Nat) : Int) := by have q : (19 : Int) ≤ h 1 5 ∧ h 1 5 ≤ 19 := hM 1 5 (by decide); omega
theorem m_1_6 {h : MEM} (hM : MBx h) : (-2147483648) ≤ h 1 6 ∧ h 1 6 ≤ 2147483647 := hM 1 6 (by decide)
theorem u_1_6 {h h' : MEM} (hM : MBx h) {x : Int} (e : h' = up2 h 1 6 x) (h0 : (-2147483648) ≤ x) (h1 : x ≤ 2147483647) : MBx h' := by subst e; exact hM.up ⟨h0, h1⟩
theorem m_1_7 {h : MEM} (hM : MBx h) : 0 ≤ h 1 7 ∧ h 1 7 ≤ 65535 := hM 1 7 (by decide)
theorem u_1_7 {h h' : MEM} (hM : MBx h) {x : Int} (e : h' = up2 h 1 7 x) (h0 : 0 ≤ x) (h1 : x ≤ 65535) : MBx h' := by subst e; exact hM.up ⟨h0, h1⟩
theorem m_1_8 {h : MEM} (hM : MBx h) : (-2147483648) ≤ h 1 8 ∧ h 1 8 ≤ 2147483647 := hM 1 8 (by decide)
theorem u_1_8 {h h' : MEM} (hM : MBx h) {x : Int} (e : h' = up2 h 1 8 x) (h0 : (-2147483648) ≤ x) (h1 : x ≤ 2147483647) : MBx h' := by subst e; exact hM.up ⟨h0, h1⟩
theorem m_1_9 {h : MEM} (hM : MBx h) : h 1 9 = ((20 : Nat) : Int) := by have q : (20 : Int) ≤ h 1 9 ∧ h 1 9 ≤ 20 := hM 1 9 (by decide); omega
theorem sh_2 : SH[2]? = some (.inr (6, rsX6)) := rfl
theorem m_2_0 {h : MEM} (hM : MBx h) : 0 ≤ h 2 0 ∧ h 2 0 ≤ 10 := hM 2 0 (by decide)
theorem u_2_0 {h h' : MEM} (hM : MBx h) {x : Int} (e : h' = up2 h 2 0 x) (h0 : 0 ≤ x) (h1 : x ≤ 10) : MBx h' := by subst e; exact hM.up ⟨h0, h1⟩
theorem m_2_1 {h : MEM} (hM : MBx h) : h 2 1 = ((3 : Nat) : Int) := by have q : (3 : Int) ≤ h 2 1 ∧ h 2 1 ≤ 3 := hM 2 1 (by decide); omega
theorem m_2_2 {h : MEM} (hM : MBx h) : h 2 2 = ((4 : Nat) : Int) := by have q : (4 : Int) ≤ h 2 2 ∧ h 2 2 ≤ 4 := hM 2 2 (by decide); omega
theorem m_2_3 {h : MEM} (hM : MBx h) : h 2 3 = ((5 : Nat) : Int) := by have q : (5 : Int) ≤ h 2 3 ∧ h 2 3 ≤ 5 := hM 2 3 (by decide); omega
theorem sh_3 : SH[3]? = some (.inl (0, 10)) := rfl
theorem m_3 {h : MEM} (hM : MBx h) (j : Nat) : (-2147483648) ≤ h 3 j ∧ h 3 j ≤ 2147483647 := hM 3 j (by decide)
theorem u_3 {h h' : MEM} (hM : MBx h) {j : Nat} {x : Int} (e : h' = up2 h 3 j x) (h0 : (-2147483648) ≤ x) (h1 : x ≤ 2147483647) : MBx h' := by subst e; exact hM.up ⟨h0, h1⟩
theorem sh_4 : SH[4]? = some (.inl (0, 10)) := rfl
theorem m_4 {h : MEM} (hM : MBx h) (j : Nat) : (-2147483648) ≤ h 4 j ∧ h 4 j ≤ 2147483647 := hM 4 j (by decide)
theorem u_4 {h h' : MEM} (hM : MBx h) {j : Nat} {x : Int} (e : h' = up2 h 4 j x) (h0 : (-2147483648) ≤ x) (h1 : x ≤ 2147483647) : MBx h' := by subst e; exact hM.up ⟨h0, h1⟩
theorem sh_5 : SH[5]? = some (.inl (0, 10)) := rfl
theorem m_5 {h : MEM} (hM : MBx h) (j : Nat) : (-2147483648) ≤ h 5 j ∧ h 5 j ≤ 2147483647 := hM 5 j (by decide)
theorem u_5 {h h' : MEM} (hM : MBx h) {j : Nat} {x : Int} (e : h' = up2 h 5 j x) (h0 : (-2147483648) ≤ x) (h1 : x ≤ 2147483647) : MBx h' := by subst e; exact hM.up ⟨h0, h1⟩
theorem sh_6 : SH[6]? = some (.inr (0, rsX0)) := rfl
theorem m_6_0 {h : MEM} (hM : MBx h) : 0 ≤ h 6 0 ∧ h 6 0 ≤ 8 := hM 6 0 (by decide)
theorem u_6_0 {h h' : MEM} (hM : MBx h) {x : Int} (e : h' = up2 h 6 0 x) (h0 : 0 ≤ x) (h1 : x ≤ 8) : MBx h' := by subst e; exact hM.up ⟨h0, h1⟩
theorem m_6_1 {h : MEM} (hM : MBx h) : h 6 1 = ((7 : Nat) : Int) := by have q : (7 : Int) ≤ h 6 1 ∧ h 6 1 ≤ 7 := hM 6 1 (by decide); omega
theorem m_6_2 {h : MEM} (hM : MBx h) : h 6 2 = ((8 : Nat) : Int) := by have q : (8 : Int) ≤ h 6 2 ∧ h 6 2 ≤ 8 := hM 6 2 (by decide); omega
theorem m_6_3 {h : MEM} (hM : MBx h) : h 6 3 = ((9 : Nat) : Int) := by have q : (9 : Int) ≤ h 6 3 ∧ h 6 3 ≤ 9 := hM 6 3 (by decide); omega
theorem m_6_4 {h : MEM} (hM : MBx h) : h 6 4 = ((10 : Nat) : Int) := by have q : (10 : Int) ≤ h 6 4 ∧ h 6 4 ≤ 10 := hM 6 4 (by decide); omega
theorem m_6_5 {h : MEM} (hM : MBx h) : h 6 5 = ((11 : Nat) : Int) := by have q : (11 : Int) ≤ h 6 5 ∧ h 6 5 ≤ 11 := hM 6 5 (by decide); omega
theorem sh_7 : SH[7]? = some (.inl (0, 8)) := rfl
theorem m_7 {h : MEM} (hM : MBx h) (j : Nat) : (-2147483648) ≤ h 7 j ∧ h 7 j ≤ 2147483647 := hM 7 j (by decide)
theorem u_7 {h h' : MEM} (hM : MBx h) {j : Nat} {x : Int} (e : h' = up2 h 7 j x) (h0 : (-2147483648) ≤ x) (h1 : x ≤ 2147483647) : MBx h' := by subst e; exact hM.up ⟨h0, h1⟩
theorem sh_8 : SH[8]? = some (.inl (0, 8)) := rfl
theorem m_8 {h : MEM} (hM : MBx h) (j : Nat) : (-2147483648) ≤ h 8 j ∧ h 8 j ≤ 2147483647 := hM 8 j (by decide)
theorem u_8 {h h' : MEM} (hM : MBx h) {j : Nat} {x : Int} (e : h' = up2 h 8 j x) (h0 : (-2147483648) ≤ x) (h1 : x ≤ 2147483647) : MBx h' := by subst e; exact hM.up ⟨h0, h1⟩
theorem sh_9 : SH[9]? = some (.inl (0, 8)) := rfl
theorem m_9 {h : MEM} (hM : MBx h) (j : Nat) : (-2147483648) ≤ h 9 j ∧ h 9 j ≤ 2147483647 := hM 9 j (by decide)
theorem u_9 {h h' : MEM} (hM : MBx h) {j : Nat} {x : Int} (e : h' = up2 h 9 j x) (h0 : (-2147483648) ≤ x) (h1 : x ≤ 2147483647) : MBx h' := by subst e; exact hM.up ⟨h0, h1⟩
theorem sh_10 : SH[10]? = some (.inl (0, 8)) := rfl
theorem m_10 {h : MEM} (hM : MBx h) (j : Nat) : (-2147483648) ≤ h 10 j ∧ h 10 j ≤ 2147483647 := hM 10 j (by decide)
theorem u_10 {h h' : MEM} (hM : MBx h) {j : Nat} {x : Int} (e : h' = up2 h 10 j x) (h0 : (-2147483648) ≤ x) (h1 : x ≤ 2147483647) : MBx h' := by subst e; exact hM.up ⟨h0, h1⟩
theorem sh_11 : SH[11]? = some (.inl (0, 40)) := rfl
theorem m_11 {h : MEM} (hM : MBx h) (j : Nat) : (-2147483648) ≤ h 11 j ∧ h 11 j ≤ 2147483647 := hM 11 j (by decide)
theorem u_11 {h h' : MEM} (hM : MBx h) {j : Nat} {x : Int} (e : h' = up2 h 11 j x) (h0 : (-2147483648) ≤ x) (h1 : x ≤ 2147483647) : MBx h' := by subst e; exact hM.up ⟨h0, h1⟩
theorem sh_12 : SH[12]? = some (.inr (4, rsX4)) := rfl
theorem m_12_0 {h : MEM} (hM : MBx h) : 0 ≤ h 12 0 ∧ h 12 0 ≤ 8 := hM 12 0 (by decide)
theorem u_12_0 {h h' : MEM} (hM : MBx h) {x : Int} (e : h' = up2 h 12 0 x) (h0 : 0 ≤ x) (h1 : x ≤ 8) : MBx h' := by subst e; exact hM.up ⟨h0, h1⟩
theorem m_12_1 {h : MEM} (hM : MBx h) : h 12 1 = ((13 : Nat) : Int) := by have q : (13 : Int) ≤ h 12 1 ∧ h 12 1 ≤ 13 := hM 12 1 (by decide); omega
theorem m_12_2 {h : MEM} (hM : MBx h) : h 12 2 = ((14 : Nat) : Int) := by have q : (14 : Int) ≤ h 12 2 ∧ h 12 2 ≤ 14 := hM 12 2 (by decide); omega
theorem m_12_3 {h : MEM} (hM : MBx h) : h 12 3 = ((15 : Nat) : Int) := by have q : (15 : Int) ≤ h 12 3 ∧ h 12 3 ≤ 15 := hM 12 3 (by decide); omega
theorem m_12_4 {h : MEM} (hM : MBx h) : h 12 4 = ((16 : Nat) : Int) := by have q : (16 : Int) ≤ h 12 4 ∧ h 12 4 ≤ 16 := hM 12 4 (by decide); omega
theorem sh_13 : SH[13]? = some (.inl (0, 8)) := rfl
theorem m_13 {h : MEM} (hM : MBx h) (j : Nat) : (-2147483648) ≤ h 13 j ∧ h 13 j ≤ 2147483647 := hM 13 j (by decide)
theorem u_13 {h h' : MEM} (hM : MBx h) {j : Nat} {x : Int} (e : h' = up2 h 13 j x) (h0 : (-2147483648) ≤ x) (h1 : x ≤ 2147483647) : MBx h' := by subst e; exact hM.up ⟨h0, h1⟩
theorem sh_14 : SH[14]? = some (.inl (0, 8)) := rfl
theorem m_14 {h : MEM} (hM : MBx h) (j : Nat) : 0 ≤ h 14 j ∧ h 14 j ≤ 4 := hM 14 j (by decide)
theorem u_14 {h h' : MEM} (hM : MBx h) {j : Nat} {x : Int} (e : h' = up2 h 14 j x) (h0 : 0 ≤ x) (h1 : x ≤ 4) : MBx h' := by subst e; exact hM.up ⟨h0, h1⟩
theorem sh_15 : SH[15]? = some (.inl (0, 8)) := rfl
theorem m_15 {h : MEM} (hM : MBx h) (j : Nat) : (-2147483648) ≤ h 15 j ∧ h 15 j ≤ 2147483647 := hM 15 j (by decide)
theorem u_15 {h h' : MEM} (hM : MBx h) {j : Nat} {x : Int} (e : h' = up2 h 15 j x) (h0 : (-2147483648) ≤ x) (h1 : x ≤ 2147483647) : MBx h' := by subst e; exact hM.up ⟨h0, h1⟩
theorem sh_16 : SH[16]? = some (.inl (0, 8)) := rfl
theorem m_16 {h : MEM} (hM : MBx h) (j : Nat) : (-2147483648) ≤ h 16 j ∧ h 16 j ≤ 2147483647 := hM 16 j (by decide)
theorem u_16 {h h' : MEM} (hM : MBx h) {j : Nat} {x : Int} (e : h' = up2 h 16 j x) (h0 : (-2147483648) ≤ x) (h1 : x ≤ 2147483647) : MBx h' := by subst e; exact hM.up ⟨h0, h1⟩
theorem sh_17 : SH[17]? = some (.inl (0, 64)) := rfl
theorem m_17 {h : MEM} (hM : MBx h) (j : Nat) : (-2147483648) ≤ h 17 j ∧ h 17 j ≤ 2147483647 := hM 17 j (by decide)
theorem u_17 {h h' : MEM} (hM : MBx h) {j : Nat} {x : Int} (e : h' = up2 h 17 j x) (h0 : (-2147483648) ≤ x) (h1 : x ≤ 2147483647) : MBx h' := by subst e; exact hM.up ⟨h0, h1⟩
theorem sh_18 : SH[18]? = some (.inl (0, 64)) := rfl
theorem m_18 {h : MEM} (hM : MBx h) (j : Nat) : (-2147483648) ≤ h 18 j ∧ h 18 j ≤ 2147483647 := hM 18 j (by decide)
theorem u_18 {h h' : MEM} (hM : MBx h) {j : Nat} {x : Int} (e : h' = up2 h 18 j x) (h0 : (-2147483648) ≤ x) (h1 : x ≤ 2147483647) : MBx h' := by subst e; exact hM.up ⟨h0, h1⟩
theorem sh_19 : SH[19]? = some (.inl (0, 100)) := rfl
theorem m_19 {h : MEM} (hM : MBx h) (j : Nat) : 0 ≤ h 19 j ∧ h 19 j ≤ 1 := hM 19 j (by decide)
theorem u_19 {h h' : MEM} (hM : MBx h) {j : Nat} {x : Int} (e : h' = up2 h 19 j x) (h0 : 0 ≤ x) (h1 : x ≤ 1) : MBx h' := by subst e; exact hM.up ⟨h0, h1⟩
theorem sh_20 : SH[20]? = some (.inl (0, 12)) := rfl
theorem m_20 {h : MEM} (hM : MBx h) (j : Nat) : (-2147483648) ≤ h 20 j ∧ h 20 j ≤ 2147483647 := hM 20 j (by decide)
theorem u_20 {h h' : MEM} (hM : MBx h) {j : Nat} {x : Int} (e : h' = up2 h 20 j x) (h0 : (-2147483648) ≤ x) (h1 : x ≤ 2147483647) : MBx h' := by subst e; exact hM.up ⟨h0, h1⟩
theorem sh_21 : SH[21]? = some (.inr (9, rsX9)) := rfl
theorem m_21_0 {h : MEM} (hM : MBx h) : h 21 0 = ((22 : Nat) : Int) := by have q : (22 : Int) ≤ h 21 0 ∧ h 21 0 ≤ 22 := hM 21 0 (by decide); omega
theorem m_21_1 {h : MEM} (hM : MBx h) : h 21 1 = ((26 : Nat) : Int) := by have q : (26 : Int) ≤ h 21 1 ∧ h 21 1 ≤ 26 := hM 21 1 (by decide); omega
theorem m_21_2 {h : MEM} (hM : MBx h) : h 21 2 = ((32 : Nat) : Int) := by have q : (32 : Int) ≤ h 21 2 ∧ h 21 2 ≤ 32 := hM 21 2 (by decide); omega
theorem m_21_3 {h : MEM} (hM : MBx h) : h 21 3 = ((37 : Nat) : Int) := by have q : (37 : Int) ≤ h 21 3 ∧ h 21 3 ≤ 37 := hM 21 3 (by decide); omega
theorem m_21_4 {h : MEM} (hM : MBx h) : h 21 4 = ((38 : Nat) : Int) := by have q : (38 : Int) ≤ h 21 4 ∧ h 21 4 ≤ 38 := hM 21 4 (by decide); omega
theorem m_21_5 {h : MEM} (hM : MBx h) : h 21 5 = ((39 : Nat) : Int) := by have q : (39 : Int) ≤ h 21 5 ∧ h 21 5 ≤ 39 := hM 21 5 (by decide); omega
theorem m_21_6 {h : MEM} (hM : MBx h) : (-2147483648) ≤ h 21 6 ∧ h 21 6 ≤ 2147483647 := hM 21 6 (by decide)
theorem u_21_6 {h h' : MEM} (hM : MBx h) {x : Int} (e : h' = up2 h 21 6 x) (h0 : (-2147483648) ≤ x) (h1 : x ≤ 2147483647) : MBx h' := by subst e; exact hM.up ⟨h0, h1⟩
theorem m_21_7 {h : MEM} (hM : MBx h) : 0 ≤ h 21 7 ∧ h 21 7 ≤ 65535 := hM 21 7 (by decide)
theorem u_21_7 {h h' : MEM} (hM : MBx h) {x : Int} (e : h' = up2 h 21 7 x) (h0 : 0 ≤ x) (h1 : x ≤ 65535) : MBx h' := by subst e; exact hM.up ⟨h0, h1⟩
theorem m_21_8 {h : MEM} (hM : MBx h) : (-2147483648) ≤ h 21 8 ∧ h 21 8 ≤ 2147483647 := hM 21 8 (by decide)
theorem u_21_8 {h h' : MEM} (hM : MBx h) {x : Int} (e : h' = up2 h 21 8 x) (h0 : (-2147483648) ≤ x) (h1 : x ≤ 2147483647) : MBx h' := by subst e; exact hM.up ⟨h0, h1⟩
theorem m_21_9 {h : MEM} (hM : MBx h) : h 21 9 = ((40 : Nat) : Int) := by have q : (40 : Int) ≤ h 21 9 ∧ h 21 9 ≤ 40 := hM 21 9 (by decide); omega
theorem sh_22 : SH[22]? = some (.inr (6, rsX6)) := rfl
theorem m_22_0 {h : MEM} (hM : MBx h) : 0 ≤ h 22 0 ∧ h 22 0 ≤ 10 := hM 22 0 (by decide)
theorem u_22_0 {h h' : MEM} (hM : MBx h) {x : Int} (e : h' = up2 h 22 0 x) (h0 : 0 ≤ x) (h1 : x ≤ 10) : MBx h' := by subst e; exact hM.up ⟨h0, h1⟩
theorem m_22_1 {h : MEM} (hM : MBx h) : h 22 1 = ((23 : Nat) : Int) := by have q : (23 : Int) ≤ h 22 1 ∧ h 22 1 ≤ 23 := hM 22 1 (by decide); omega
theorem m_22_2 {h : MEM} (hM : MBx h) : h 22 2 = ((24 : Nat) : Int) := by have q : (24 : Int) ≤ h 22 2 ∧ h 22 2 ≤ 24 := hM 22 2 (by decide); omega
theorem m_22_3 {h : MEM} (hM : MBx h) : h 22 3 = ((25 : Nat) : Int) := by have q : (25 : Int) ≤ h 22 3 ∧ h 22 3 ≤ 25 := hM 22 3 (by decide); omega
theorem sh_23 : SH[23]? = some (.inl (0, 10)) := rfl
theorem m_23 {h : MEM} (hM : MBx h) (j : Nat) : (-2147483648) ≤ h 23 j ∧ h 23 j ≤ 2147483647 := hM 23 j (by decide)
theorem u_23 {h h' : MEM} (hM : MBx h) {j : Nat} {x : Int} (e : h' = up2 h 23 j x) (h0 : (-2147483648) ≤ x) (h1 : x ≤ 2147483647) : MBx h' := by subst e; exact hM.up ⟨h0, h1⟩
theorem sh_24 : SH[24]? = some (.inl (0, 10)) := rfl
theorem m_24 {h : MEM} (hM : MBx h) (j : Nat) : (-2147483648) ≤ h 24 j ∧ h 24 j ≤ 2147483647 := hM 24 j (by decide)
theorem u_24 {h h' : MEM} (hM : MBx h) {j : Nat} {x : Int} (e : h' = up2 h 24 j x) (h0 : (-2147483648) ≤ x) (h1 : x ≤ 2147483647) : MBx h' := by subst e; exact hM.up ⟨h0, h1⟩
theorem sh_25 : SH[25]? = some (.inl (0, 10)) := rfl
theorem m_25 {h : MEM} (hM : MBx h) (j : Nat) : (-2147483648) ≤ h 25 j ∧ h 25 j ≤ 2147483647 := hM 25 j (by decide)
theorem u_25 {h h' : MEM} (hM : MBx h) {j : Nat} {x : Int} (e : h' = up2 h 25 j x) (h0 : (-2147483648) ≤ x) (h1 : x ≤ 2147483647) : MBx h' := by subst e; exact hM.up ⟨h0, h1⟩
theorem sh_26 : SH[26]? = some (.inr (0, rsX0)) := rfl
theorem m_26_0 {h : MEM} (hM : MBx h) : 0 ≤ h 26 0 ∧ h 26 0 ≤ 8 := hM 26 0 (by decide)
theorem u_26_0 {h h' : MEM} (hM : MBx h) {x : Int} (e : h' = up2 h 26 0 x) (h0 : 0 ≤ x) (h1 : x ≤ 8) : MBx h' := by subst e; exact hM.up ⟨h0, h1⟩
theorem m_26_1 {h : MEM} (hM : MBx h) : h 26 1 = ((27 : Nat) : Int) := by have q : (27 : Int) ≤ h 26 1 ∧ h 26 1 ≤ 27 := hM 26 1 (by decide); omega
theorem m_26_2 {h : MEM} (hM : MBx h) : h 26 2 = ((28 : Nat) : Int) := by have q : (28 : Int) ≤ h 26 2 ∧ h 26 2 ≤ 28 := hM 26 2 (by decide); omega
theorem m_26_3 {h : MEM} (hM : MBx h) : h 26 3 = ((29 : Nat) : Int) := by have q : (29 : Int) ≤ h 26 3 ∧ h 26 3 ≤ 29 := hM 26 3 (by decide); omega
theorem m_26_4 {h : MEM} (hM : MBx h) : h 26 4 = ((30 : Nat) : Int) := by have q : (30 : Int) ≤ h 26 4 ∧ h 26 4 ≤ 30 := hM 26 4 (by decide); omega
theorem m_26_5 {h : MEM} (hM : MBx h) : h 26 5 = ((31 : Nat) : Int) := by have q : (31 : Int) ≤ h 26 5 ∧ h 26 5 ≤ 31 := hM 26 5 (by decide); omega
theorem sh_27 : SH[27]? = some (.inl (0, 8)) := rfl
theorem m_27 {h : MEM} (hM : MBx h) (j : Nat) : (-2147483648) ≤ h 27 j ∧ h 27 j ≤ 2147483647 := hM 27 j (by decide)
theorem u_27 {h h' : MEM} (hM : MBx h) {j : Nat} {x : Int} (e : h' = up2 h 27 j x) (h0 : (-2147483648) ≤ x) (h1 : x ≤ 2147483647) : MBx h' := by subst e; exact hM.up ⟨h0, h1⟩
theorem sh_28 : SH[28]? = some (.inl (0, 8)) := rfl
theorem m_28 {h : MEM} (hM : MBx h) (j : Nat) : (-2147483648) ≤ h 28 j ∧ h 28 j ≤ 2147483647 := hM 28 j (by decide)
theorem u_28 {h h' : MEM} (hM : MBx h) {j : Nat} {x : Int} (e : h' = up2 h 28 j x) (h0 : (-2147483648) ≤ x) (h1 : x ≤ 2147483647) : MBx h' := by subst e; exact hM.up ⟨h0, h1⟩
theorem sh_29 : SH[29]? = some (.inl (0, 8)) := rfl
theorem m_29 {h : MEM} (hM : MBx h) (j : Nat) : (-2147483648) ≤ h 29 j ∧ h 29 j ≤ 2147483647 := hM 29 j (by decide)
theorem u_29 {h h' : MEM} (hM : MBx h) {j : Nat} {x : Int} (e : h' = up2 h 29 j x) (h0 : (-2147483648) ≤ x) (h1 : x ≤ 2147483647) : MBx h' := by subst e; exact hM.up ⟨h0, h1⟩
theorem sh_30 : SH[30]? = some (.inl (0, 8)) := rfl
theorem m_30 {h : MEM} (hM : MBx h) (j : Nat) : (-2147483648) ≤ h 30 j ∧ h 30 j ≤ 2147483647 := hM 30 j (by decide)
theorem u_30 {h h' : MEM} (hM : MBx h) {j : Nat} {x : Int} (e : h' = up2 h 30 j x) (h0 : (-2147483648) ≤ x) (h1 : x ≤ 2147483647) : MBx h' := by subst e; exact hM.up ⟨h0, h1⟩
theorem sh_31 : SH[31]? = some (.inl (0, 40)) := rfl
theorem m_31 {h : MEM} (hM : MBx h) (j : Nat) : (-2147483648) ≤ h 31 j ∧ h 31 j ≤ 2147483647 := hM 31 j (by decide)
theorem u_31 {h h' : MEM} (hM : MBx h) {j : Nat} {x : Int} (e : h' = up2 h 31 j x) (h0 : (-2147483648) ≤ x) (h1 : x ≤ 2147483647) : MBx h' := by subst e; exact hM.up ⟨h0, h1⟩
theorem sh_32 : SH[32]? = some (.inr (4, rsX4)) := rfl
theorem m_32_0 {h : MEM} (hM : MBx h) : 0 ≤ h 32 0 ∧ h 32 0 ≤ 8 := hM 32 0 (by decide)
theorem u_32_0 {h h' : MEM} (hM : MBx h) {x : Int} (e : h' = up2 h 32 0 x) (h0 : 0 ≤ x) (h1 : x ≤ 8) : MBx h' := by subst e; exact hM.up ⟨h0, h1⟩
theorem m_32_1 {h : MEM} (hM : MBx h) : h 32 1 = ((33 : Nat) : Int) := by have q : (33 : Int) ≤ h 32 1 ∧ h 32 1 ≤ 33 := hM 32 1 (by decide); omega
theorem m_32_2 {h : MEM} (hM : MBx h) : h 32 2 = ((34 : Nat) : Int) := by have q : (34 : Int) ≤ h 32 2 ∧ h 32 2 ≤ 34 := hM 32 2 (by decide); omega
theorem m_32_3 {h : MEM} (hM : MBx h) : h 32 3 = ((35 : Nat) : Int) := by have q : (35 : Int) ≤ h 32 3 ∧ h 32 3 ≤ 35 := hM 32 3 (by decide); omega
theorem m_32_4 {h : MEM} (hM : MBx h) : h 32 4 = ((36 : Nat) : Int) := by have q : (36 : Int) ≤ h 32 4 ∧ h 32 4 ≤ 36 := hM 32 4 (by decide); omega
theorem sh_33 : SH[33]? = some (.inl (0, 8)) := rfl
theorem m_33 {h : MEM} (hM : MBx h) (j : Nat) : (-2147483648) ≤ h 33 j ∧ h 33 j ≤ 2147483647 := hM 33 j (by decide)
theorem u_33 {h h' : MEM} (hM : MBx h) {j : Nat} {x : Int} (e : h' = up2 h 33 j x) (h0 : (-2147483648) ≤ x) (h1 : x ≤ 2147483647) : MBx h' := by subst e; exact hM.up ⟨h0, h1⟩
theorem sh_34 : SH[34]? = some (.inl (0, 8)) := rfl
theorem m_34 {h : MEM} (hM : MBx h) (j : Nat) : 0 ≤ h 34 j ∧ h 34 j ≤ 4 := hM 34 j (by decide)
theorem u_34 {h h' : MEM} (hM : MBx h) {j : Nat} {x : Int} (e : h' = up2 h 34 j x) (h0 : 0 ≤ x) (h1 : x ≤ 4) : MBx h' := by subst e; exact hM.up ⟨h0, h1⟩
theorem sh_35 : SH[35]? = some (.inl (0, 8)) := rfl
theorem m_35 {h : MEM} (hM : MBx h) (j : Nat) : (-2147483648) ≤ h 35 j ∧ h 35 j ≤ 2147483647 := hM 35 j (by decide)
theorem u_35 {h h' : MEM} (hM : MBx h) {j : Nat} {x : Int} (e : h' = up2 h 35 j x) (h0 : (-2147483648) ≤ x) (h1 : x ≤ 2147483647) : MBx h' := by subst e; exact hM.up ⟨h0, h1⟩
theorem sh_36 : SH[36]? = some (.inl (0, 8)) := rfl
theorem m_36 {h : MEM} (hM : MBx h) (j : Nat) : (-2147483648) ≤ h 36 j ∧ h 36 j ≤ 2147483647 := hM 36 j (by decide)
theorem u_36 {h h' : MEM} (hM : MBx h) {j : Nat} {x : Int} (e : h' = up2 h 36 j x) (h0 : (-2147483648) ≤ x) (h1 : x ≤ 2147483647) : MBx h' := by subst e; exact hM.up ⟨h0, h1⟩
theorem sh_37 : SH[37]? = some (.inl (0, 64)) := rfl
theorem m_37 {h : MEM} (hM : MBx h) (j : Nat) : (-2147483648) ≤ h 37 j ∧ h 37 j ≤ 2147483647 := hM 37 j (by decide)
theorem u_37 {h h' : MEM} (hM : MBx h) {j : Nat} {x : Int} (e : h' = up2 h 37 j x) (h0 : (-2147483648) ≤ x) (h1 : x ≤ 2147483647) : MBx h' := by subst e; exact hM.up ⟨h0, h1⟩
theorem sh_38 : SH[38]? = some (.inl (0, 64)) := rfl
theorem m_38 {h : MEM} (hM : MBx h) (j : Nat) : (-2147483648) ≤ h 38 j ∧ h 38 j ≤ 2147483647 := hM 38 j (by decide)
theorem u_38 {h h' : MEM} (hM : MBx h) {j : Nat} {x : Int} (e : h' = up2 h 38 j x) (h0 : (-2147483648) ≤ x) (h1 : x ≤ 2147483647) : MBx h' := by subst e; exact hM.up ⟨h0, h1⟩
theorem sh_39 : SH[39]? = some (.inl (0, 100)) := rfl
theorem m_39 {h : MEM} (hM : MBx h) (j : Nat) : 0 ≤ h 39 j ∧ h 39 j ≤ 1 := hM 39 j (by decide)
theorem u_39 {h h' : MEM} (hM : MBx h) {j : Nat} {x : Int} (e : h' = up2 h 39 j x) (h0 : 0 ≤ x) (h1 : x ≤ 1) : MBx h' := by subst e; exact hM.up ⟨h0, h1⟩
theorem sh_40 : SH[40]? = some (.inl (0, 12)) := rfl
theorem m_40 {h : MEM} (hM : MBx h) (j : Nat) : (-2147483648) ≤ h 40 j ∧ h 40 j ≤ 2147483647 := hM 40 j (by decide)
theorem u_40 {h h' : MEM} (hM : MBx h) {j : Nat} {x : Int} (e : h' = up2 h 40 j x) (h0 : (-2147483648) ≤ x) (h1 : x ≤ 2147483647) : MBx h' := by subst e; exact hM.up ⟨h0, h1⟩
theorem sh_41 : SH[41]? = some (.inr (9, rsX9)) := rfl
theorem m_41_0 {h : MEM} (hM : MBx h) : h 41 0 = ((42 : Nat) : Int) := by have q : (42 : Int) ≤ h 41 0 ∧ h 41 0 ≤ 42 := hM 41 0 (by decide); omega
theorem m_41_1 {h : MEM} (hM : MBx h) : h 41 1 = ((46 : Nat) : Int) := by have q : (46 : Int) ≤ h 41 1 ∧ h 41 1 ≤ 46 := hM 41 1 (by decide); omega
theorem m_41_2 {h : MEM} (hM : MBx h) : h 41 2 = ((52 : Nat) : Int) := by have q : (52 : Int) ≤ h 41 2 ∧ h 41 2 ≤ 52 := hM 41 2 (by decide); omega
theorem m_41_3 {h : MEM} (hM : MBx h) : h 41 3 = ((57 : Nat) : Int) := by have q : (57 : Int) ≤ h 41 3 ∧ h 41 3 ≤ 57 := hM 41 3 (by decide); omega
theorem m_41_4 {h : MEM} (hM : MBx h) : h 41 4 = ((58 : Nat) : Int) := by have q : (58 : Int) ≤ h 41 4 ∧ h 41 4 ≤ 58 := hM 41 4 (by decide); omega
theorem m_41_5 {h : MEM} (hM : MBx h) : h 41 5 = ((59 : Nat) : Int) := by have q : (59 : Int) ≤ h 41 5 ∧ h 41 5 ≤ 59 := hM 41 5 (by decide); omega
theorem m_41_6 {h : MEM} (hM : MBx h) : (-2147483648) ≤ h 41 6 ∧ h 41 6 ≤ 2147483647 := hM 41 6 (by decide)
theorem u_41_6 {h h' : MEM} (hM : MBx h) {x : Int} (e : h' = up2 h 41 6 x) (h0 : (-2147483648) ≤ x) (h1 : x ≤ 2147483647) : MBx h' := by subst e; exact hM.up ⟨h0, h1⟩
theorem m_41_7 {h : MEM} (hM : MBx h) : 0 ≤ h 41 7 ∧ h 41 7 ≤ 65535 := hM 41 7 (by decide)
theorem u_41_7 {h h' : MEM} (hM : MBx h) {x : Int} (e : h' = up2 h 41 7 x) (h0 : 0 ≤ x) (h1 : x ≤ 65535) : MBx h' := by subst e; exact hM.up ⟨h0, h1⟩
theorem m_41_8 {h : MEM} (hM : MBx h) : (-2147483648) ≤ h 41 8 ∧ h 41 8 ≤ 2147483647 := hM 41 8 (by decide)
theorem u_41_8 {h h' : MEM} (hM : MBx h) {x : Int} (e : h' = up2 h 41 8 x) (h0 : (-2147483648) ≤ x) (h1 : x ≤ 2147483647) : MBx h' := by subst e; exact hM.up ⟨h0, h1⟩
theorem m_41_9 {h : MEM} (hM : MBx h) : h 41 9 = ((60 : Nat) : Int) := by have q : (60 : Int) ≤ h 41 9 ∧ h 41 9 ≤ 60 := hM 41 9 (by decide); omega
theorem sh_42 : SH[42]? = some (.inr (6, rsX6)) := rfl
theorem m_42_0 {h : MEM} (hM : MBx h) : 0 ≤ h 42 0 ∧ h 42 0 ≤ 10 := hM 42 0 (by decide)
theorem u_42_0 {h h' : MEM} (hM : MBx h) {x : Int} (e : h' = up2 h 42 0 x) (h0 : 0 ≤ x) (h1 : x ≤ 10) : MBx h' := by subst e; exact hM.up ⟨h0, h1⟩
theorem m_42_1 {h : MEM} (hM : MBx h) : h 42 1 = ((43 : Nat) : Int) := by have q : (43 : Int) ≤ h 42 1 ∧ h 42 1 ≤ 43 := hM 42 1 (by decide); omega
theorem m_42_2 {h : MEM} (hM : MBx h) : h 42 2 = ((44 : Nat) : Int) := by have q : (44 : Int) ≤ h 42 2 ∧ h 42 2 ≤ 44 := hM 42 2 (by decide); omega
theorem m_42_3 {h : MEM} (hM : MBx h) : h 42 3 = ((45 : Nat) : Int) := by have q : (45 : Int) ≤ h 42 3 ∧ h 42 3 ≤ 45 := hM 42 3 (by decide); omega
theorem sh_43 : SH[43]? = some (.inl (0, 10)) := rfl
theorem m_43 {h : MEM} (hM : MBx h) (j : Nat) : (-2147483648) ≤ h 43 j ∧ h 43 j ≤ 2147483647 := hM 43 j (by decide)
theorem u_43 {h h' : MEM} (hM : MBx h) {j : Nat} {x : Int} (e : h' = up2 h 43 j x) (h0 : (-2147483648) ≤ x) (h1 : x ≤ 2147483647) : MBx h' := by subst e; exact hM.up ⟨h0, h1⟩
theorem sh_44 : SH[44]? = some (.inl (0, 10)) := rfl
theorem m_44 {h : MEM} (hM : MBx h) (j : Nat) : (-2147483648) ≤ h 44 j ∧ h 44 j ≤ 2147483647 := hM 44 j (by decide)
theorem u_44 {h h' : MEM} (hM : MBx h) {j : Nat} {x : Int} (e : h' = up2 h 44 j x) (h0 : (-2147483648) ≤ x) (h1 : x ≤ 2147483647) : MBx h' := by subst e; exact hM.up ⟨h0, h1⟩
theorem sh_45 : SH[45]? = some (.inl (0, 10)) := rfl
theorem m_45 {h : MEM} (hM : MBx h) (j : Nat) : (-2147483648) ≤ h 45 j ∧ h 45 j ≤ 2147483647 := hM 45 j (by decide)
theorem u_45 {h h' : MEM} (hM : MBx h) {j : Nat} {x : Int} (e : h' = up2 h 45 j x) (h0 : (-2147483648) ≤ x) (h1 : x ≤ 2147483647) : MBx h' := by subst e; exact hM.up ⟨h0, h1⟩
theorem sh_46 : SH[46]? = some (.inr (0, rsX0)) := rfl
theorem m_46_0 {h : MEM} (hM : MBx h) : 0 ≤ h 46 0 ∧ h 46 0 ≤ 8 := hM 46 0 (by decide)
theorem u_46_0 {h h' : MEM} (hM : MBx h) {x : Int} (e : h' = up2 h 46 0 x) (h0 : 0 ≤ x) (h1 : x ≤ 8) : MBx h' := by subst e; exact hM.up ⟨h0, h1⟩
theorem m_46_1 {h : MEM} (hM : MBx h) : h 46 1 = ((47 : Nat) : Int) := by have q : (47 : Int) ≤ h 46 1 ∧ h 46 1 ≤ 47 := hM 46 1 (by decide); omega
theorem m_46_2 {h : MEM} (hM : MBx h) : h 46 2 = ((48 : Nat) : Int) := by have q : (48 : Int) ≤ h 46 2 ∧ h 46 2 ≤ 48 := hM 46 2 (by decide); omega
theorem m_46_3 {h : MEM} (hM : MBx h) : h 46 3 = ((49 : Nat) : Int) := by have q : (49 : Int) ≤ h 46 3 ∧ h 46 3 ≤ 49 := hM 46 3 (by decide); omega
theorem m_46_4 {h : MEM} (hM : MBx h) : h 46 4 = ((50 : Nat) : Int) := by have q : (50 : Int) ≤ h 46 4 ∧ h 46 4 ≤ 50 := hM 46 4 (by decide); omega
theorem m_46_5 {h : MEM} (hM : MBx h) : h 46 5 = ((51 : Nat) : Int) := by have q : (51 : Int) ≤ h 46 5 ∧ h 46 5 ≤ 51 := hM 46 5 (by decide); omega
theorem sh_47 : SH[47]? = some (.inl (0, 8)) := rfl
theorem m_47 {h : MEM} (hM : MBx h) (j : Nat) : (-2147483648) ≤ h 47 j ∧ h 47 j ≤ 2147483647 := hM 47 j (by decide)
theorem u_47 {h h' : MEM} (hM : MBx h) {j : Nat} {x : Int} (e : h' = up2 h 47 j x) (h0 : (-2147483648) ≤ x) (h1 : x ≤ 2147483647) : MBx h' := by subst e; exact hM.up ⟨h0, h1⟩
theorem sh_48 : SH[48]? = some (.inl (0, 8)) := rfl
theorem m_48 {h : MEM} (hM : MBx h) (j : Nat) : (-2147483648) ≤ h 48 j ∧ h 48 j ≤ 2147483647 := hM 48 j (by decide)
theorem u_48 {h h' : MEM} (hM : MBx h) {j : Nat} {x : Int} (e : h' = up2 h 48 j x) (h0 : (-2147483648) ≤ x) (h1 : x ≤ 2147483647) : MBx h' := by subst e; exact hM.up ⟨h0, h1⟩
theorem sh_49 : SH[49]? = some (.inl (0, 8)) := rfl
theorem m_49 {h : MEM} (hM : MBx h) (j : Nat) : (-2147483648) ≤ h 49 j ∧ h 49 j ≤ 2147483647 := hM 49 j (by decide)
theorem u_49 {h h' : MEM} (hM : MBx h) {j : Nat} {x : Int} (e : h' = up2 h 49 j x) (h0 : (-2147483648) ≤ x) (h1 : x ≤ 2147483647) : MBx h' := by subst e; exact hM.up ⟨h0, h1⟩
theorem sh_50 : SH[50]? = some (.inl (0, 8)) := rfl
theorem m_50 {h : MEM} (hM : MBx h) (j : Nat) : (-2147483648) ≤ h 50 j ∧ h 50 j ≤ 2147483647 := hM 50 j (by decide)
theorem u_50 {h h' : MEM} (hM : MBx h) {j : Nat} {x : Int} (e : h' = up2 h 50 j x) (h0 : (-2147483648) ≤ x) (h1 : x ≤ 2147483647) : MBx h' := by subst e; exact hM.up ⟨h0, h1⟩
theorem sh_51 : SH[51]? = some (.inl (0, 40)) := rfl
theorem m_51 {h : MEM} (hM : MBx h) (j : Nat) : (-2147483648) ≤ h 51 j ∧ h 51 j ≤ 2147483647 := hM 51 j (by decide)
theorem u_51 {h h' : MEM} (hM : MBx h) {j : Nat} {x : Int} (e : h' = up2 h 51 j x) (h0 : (-2147483648) ≤ x) (h1 : x ≤ 2147483647) : MBx h' := by subst e; exact hM.up ⟨h0, h1⟩
theorem sh_52 : SH[52]? = some (.inr (4, rsX4)) := rfl
theorem m_52_0 {h : MEM} (hM : MBx h) : 0 ≤ h 52 0 ∧ h 52 0 ≤ 8 := hM 52 0 (by decide)
theorem u_52_0 {h h' : MEM} (hM : MBx h) {x : Int} (e : h' = up2 h 52 0 x) (h0 : 0 ≤ x) (h1 : x ≤ 8) : MBx h' := by subst e; exact hM.up ⟨h0, h1⟩
theorem m_52_1 {h : MEM} (hM : MBx h) : h 52 1 = ((53 : Nat) : Int) := by have q : (53 : Int) ≤ h 52 1 ∧ h 52 1 ≤ 53 := hM 52 1 (by decide); omega
theorem m_52_2 {h : MEM} (hM : MBx h) : h 52 2 = ((54 : Nat) : Int) := by have q : (54 : Int) ≤ h 52 2 ∧ h 52 2 ≤ 54 := hM 52 2 (by decide); omega
theorem m_52_3 {h : MEM} (hM : MBx h) : h 52 3 = ((55 : Nat) : Int) := by have q : (55 : Int) ≤ h 52 3 ∧ h 52 3 ≤ 55 := hM 52 3 (by decide); omega
theorem m_52_4 {h : MEM} (hM : MBx h) : h 52 4 = ((56 : Nat) : Int) := by have q : (56 : Int) ≤ h 52 4 ∧ h 52 4 ≤ 56 := hM 52 4 (by decide); omega
theorem sh_53 : SH[53]? = some (.inl (0, 8)) := rfl
theorem m_53 {h : MEM} (hM : MBx h) (j : Nat) : (-2147483648) ≤ h 53 j ∧ h 53 j ≤ 2147483647 := hM 53 j (by decide)
theorem u_53 {h h' : MEM} (hM : MBx h) {j : Nat} {x : Int} (e : h' = up2 h 53 j x) (h0 : (-2147483648) ≤ x) (h1 : x ≤ 2147483647) : MBx h' := by subst e; exact hM.up ⟨h0, h1⟩
theorem sh_54 : SH[54]? = some (.inl (0, 8)) := rfl
theorem m_54 {h : MEM} (hM : MBx h) (j : Nat) : 0 ≤ h 54 j ∧ h 54 j ≤ 4 := hM 54 j (by decide)
theorem u_54 {h h' : MEM} (hM : MBx h) {j : Nat} {x : Int} (e : h' = up2 h 54 j x) (h0 : 0 ≤ x) (h1 : x ≤ 4) : MBx h' := by subst e; exact hM.up ⟨h0, h1⟩
theorem sh_55 : SH[55]? = some (.inl (0, 8)) := rfl
theorem m_55 {h : MEM} (hM : MBx h) (j : Nat) : (-2147483648) ≤ h 55 j ∧ h 55 j ≤ 2147483647 := hM 55 j (by decide)
theorem u_55 {h h' : MEM} (hM : MBx h) {j : Nat} {x : Int} (e : h' = up2 h 55 j x) (h0 : (-2147483648) ≤ x) (h1 : x ≤ 2147483647) : MBx h' := by subst e; exact hM.up ⟨h0, h1⟩
theorem sh_56 : SH[56]? = some (.inl (0, 8)) := rfl
theorem m_56 {h : MEM} (hM : MBx h) (j : Nat) : (-2147483648) ≤ h 56 j ∧ h 56 j ≤ 2147483647 := hM 56 j (by decide)
theorem u_56 {h h' : MEM} (hM : MBx h) {j : Nat} {x : Int} (e : h' = up2 h 56 j x) (h0 : (-2147483648) ≤ x) (h1 : x ≤ 2147483647) : MBx h' := by subst e; exact hM.up ⟨h0, h1⟩
theorem sh_57 : SH[57]? = some (.inl (0, 64)) := rfl
theorem m_57 {h : MEM} (hM : MBx h) (j : Nat) : (-2147483648) ≤ h 57 j ∧ h 57 j ≤ 2147483647 := hM 57 j (by decide)
theorem u_57 {h h' : MEM} (hM : MBx h) {j : Nat} {x : Int} (e : h' = up2 h 57 j x) (h0 : (-2147483648) ≤ x) (h1 : x ≤ 2147483647) : MBx h' := by subst e; exact hM.up ⟨h0, h1⟩
theorem sh_58 : SH[58]? = some (.inl (0, 64)) := rfl
theorem m_58 {h : MEM} (hM : MBx h) (j : Nat) : (-2147483648) ≤ h 58 j ∧ h 58 j ≤ 2147483647 := hM 58 j (by decide)
theorem u_58 {h h' : MEM} (hM : MBx h) {j : Nat} {x : Int} (e : h' = up2 h 58 j x) (h0 : (-2147483648) ≤ x) (h1 : x ≤ 2147483647) : MBx h' := by subst e; exact hM.up ⟨h0, h1⟩
theorem sh_59 : SH[59]? = some (.inl (0, 100)) := rfl
theorem m_59 {h : MEM} (hM : MBx h) (j : Nat) : 0 ≤ h 59 j ∧ h 59 j ≤ 1 := hM 59 j (by decide)
theorem u_59 {h h' : MEM} (hM : MBx h) {j : Nat} {x : Int} (e : h' = up2 h 59 j x) (h0 : 0 ≤ x) (h1 : x ≤ 1) : MBx h' := by subst e; exact hM.up ⟨h0, h1⟩
theorem sh_60 : SH[60]? = some (.inl (0, 12)) := rfl
theorem m_60 {h : MEM} (hM : MBx h) (j : Nat) : (-2147483648) ≤ h 60 j ∧ h 60 j ≤ 2147483647 := hM 60 j (by decide)
theorem u_60 {h h' : MEM} (hM : MBx h) {j : Nat} {x : Int} (e : h' = up2 h 60 j x) (h0 : (-2147483648) ≤ x) (h1 : x ≤ 2147483647) : MBx h' := by subst e; exact hM.up ⟨h0, h1⟩
theorem sh_61 : SH[61]? = some (.inr (10, rsX10)) := rfl
theorem m_61_0 {h : MEM} (hM : MBx h) : 0 ≤ h 61 0 ∧ h 61 0 ≤ 220 := hM 61 0 (by decide)
theorem u_61_0 {h h' : MEM} (hM : MBx h) {x : Int} (e : h' = up2 h 61 0 x) (h0 : 0 ≤ x) (h1 : x ≤ 220) : MBx h' := by subst e; exact hM.up ⟨h0, h1⟩
theorem m_61_1 {h : MEM} (hM : MBx h) : h 61 1 = ((62 : Nat) : Int) := by have q : (62 : Int) ≤ h 61 1 ∧ h 61 1 ≤ 62 := hM 61 1 (by decide); omega
theorem sh_62 : SH[62]? = some (.inl (0, 220)) := rfl
theorem m_62 {h : MEM} (hM : MBx h) (j : Nat) : 0 ≤ h 62 j ∧ h 62 j ≤ 255 := hM 62 j (by decide)
theorem u_62 {h h' : MEM} (hM : MBx h) {j : Nat} {x : Int} (e : h' = up2 h 62 j x) (h0 : 0 ≤ x) (h1 : x ≤ 255) : MBx h' := by subst e; exact hM.up ⟨h0, h1⟩
theorem sh_63 : SH[63]? = some (.inr (10, rsX10)) := rfl
theorem m_63_0 {h : MEM} (hM : MBx h) : 0 ≤ h 63 0 ∧ h 63 0 ≤ 220 := hM 63 0 (by decide)
theorem u_63_0 {h h' : MEM} (hM : MBx h) {x : Int} (e : h' = up2 h 63 0 x) (h0 : 0 ≤ x) (h1 : x ≤ 220) : MBx h' := by subst e; exact hM.up ⟨h0, h1⟩
theorem m_63_1 {h : MEM} (hM : MBx h) : h 63 1 = ((64 : Nat) : Int) := by have q : (64 : Int) ≤ h 63 1 ∧ h 63 1 ≤ 64 := hM 63 1 (by decide); omega
theorem sh_64 : SH[64]? = some (.inl (0, 220)) := rfl
theorem m_64 {h : MEM} (hM : MBx h) (j : Nat) : 0 ≤ h 64 j ∧ h 64 j ≤ 255 := hM 64 j (by decide)
theorem u_64 {h h' : MEM} (hM : MBx h) {j : Nat} {x : Int} (e : h' = up2 h 64 j x) (h0 : 0 ≤ x) (h1 : x ≤ 255) : MBx h' := by subst e; exact hM.up ⟨h0, h1⟩
theorem sh_65 : SH[65]? = some (.inr (5, rsX5)) := rfl
theorem m_65_0 {h : MEM} (hM : MBx h) : h 65 0 = ((66 : Nat) : Int) := by have q : (66 : Int) ≤ h 65 0 ∧ h 65 0 ≤ 66 := hM 65 0 (by decide); omega
theorem m_65_1 {h : MEM} (hM : MBx h) : 0 ≤ h 65 1 ∧ h 65 1 ≤ 200 := hM 65 1 (by decide)
theorem u_65_1 {h h' : MEM} (hM : MBx h) {x : Int} (e : h' = up2 h 65 1 x) (h0 : 0 ≤ x) (h1 : x ≤ 200) : MBx h' := by subst e; exact hM.up ⟨h0, h1⟩
theorem m_65_2 {h : MEM} (hM : MBx h) : (-2147483648) ≤ h 65 2 ∧ h 65 2 ≤ 2147483647 := hM 65 2 (by decide)
theorem u_65_2 {h h' : MEM} (hM : MBx h) {x : Int} (e : h' = up2 h 65 2 x) (h0 : (-2147483648) ≤ x) (h1 : x ≤ 2147483647) : MBx h' := by subst e; exact hM.up ⟨h0, h1⟩
theorem m_65_3 {h : MEM} (hM : MBx h) : 0 ≤ h 65 3 ∧ h 65 3 ≤ 5 := hM 65 3 (by decide)
theorem u_65_3 {h h' : MEM} (hM : MBx h) {x : Int} (e : h' = up2 h 65 3 x) (h0 : 0 ≤ x) (h1 : x ≤ 5) : MBx h' := by subst e; exact hM.up ⟨h0, h1⟩
theorem m_65_4 {h : MEM} (hM : MBx h) : (-2147483648) ≤ h 65 4 ∧ h 65 4 ≤ 2147483647 := hM 65 4 (by decide)
theorem u_65_4 {h h' : MEM} (hM : MBx h) {x : Int} (e : h' = up2 h 65 4 x) (h0 : (-2147483648) ≤ x) (h1 : x ≤ 2147483647) : MBx h' := by subst e; exact hM.up ⟨h0, h1⟩
theorem sh_66 : SH[66]? = some (.inl (0, 200)) := rfl
theorem m_66 {h : MEM} (hM : MBx h) (j : Nat) : 0 ≤ h 66 j ∧ h 66 j ≤ 255 := hM 66 j (by decide)
theorem u_66 {h h' : MEM} (hM : MBx h) {j : Nat} {x : Int} (e : h' = up2 h 66 j x) (h0 : 0 ≤ x) (h1 : x ≤ 255) : MBx h' := by subst e; exact hM.up ⟨h0, h1⟩
theorem sh_67 : SH[67]? = some (.inr (7, rsX7)) := rfl
theorem m_67_0 {h : MEM} (hM : MBx h) : (-2147483648) ≤ h 67 0 ∧ h 67 0 ≤ 2147483647 := hM 67 0 (by decide)
theorem u_67_0 {h h' : MEM} (hM : MBx h) {x : Int} (e : h' = up2 h 67 0 x) (h0 : (-2147483648) ≤ x) (h1 : x ≤ 2147483647) : MBx h' := by subst e; exact hM.up ⟨h0, h1⟩
theorem m_67_1 {h : MEM} (hM : MBx h) : (-2147483648) ≤ h 67 1 ∧ h 67 1 ≤ 2147483647 := hM 67 1 (by decide)
theorem u_67_1 {h h' : MEM} (hM : MBx h) {x : Int} (e : h' = up2 h 67 1 x) (h0 : (-2147483648) ≤ x) (h1 : x ≤ 2147483647) : MBx h' := by subst e; exact hM.up ⟨h0, h1⟩
theorem m_67_2 {h : MEM} (hM : MBx h) : h 67 2 = ((68 : Nat) : Int) := by have q : (68 : Int) ≤ h 67 2 ∧ h 67 2 ≤ 68 := hM 67 2 (by decide); omega
theorem m_67_3 {h : MEM} (hM : MBx h) : 0 ≤ h 67 3 ∧ h 67 3 ≤ 3 := hM 67 3 (by decide)
theorem u_67_3 {h h' : MEM} (hM : MBx h) {x : Int} (e : h' = up2 h 67 3 x) (h0 : 0 ≤ x) (h1 : x ≤ 3) : MBx h' := by subst e; exact hM.up ⟨h0, h1⟩
theorem m_67_4 {h : MEM} (hM : MBx h) : h 67 4 = ((69 : Nat) : Int) := by have q : (69 : Int) ≤ h 67 4 ∧ h 67 4 ≤ 69 := hM 67 4 (by decide); omega
theorem m_67_5 {h : MEM} (hM : MBx h) : h 67 5 = ((70 : Nat) : Int) := by have q : (70 : Int) ≤ h 67 5 ∧ h 67 5 ≤ 70 := hM 67 5 (by decide); omega
theorem sh_68 : SH[68]? = some (.inl (0, 3)) := rfl
theorem m_68 {h : MEM} (hM : MBx h) (j : Nat) : (-2147483648) ≤ h 68 j ∧ h 68 j ≤ 2147483647 := hM 68 j (by decide)
theorem u_68 {h h' : MEM} (hM : MBx h) {j : Nat} {x : Int} (e : h' = up2 h 68 j x) (h0 : (-2147483648) ≤ x) (h1 : x ≤ 2147483647) : MBx h' := by subst e; exact hM.up ⟨h0, h1⟩
theorem sh_69 : SH[69]? = some (.inl (0, 3)) := rfl
theorem m_69 {h : MEM} (hM : MBx h) (j : Nat) : (-2147483648) ≤ h 69 j ∧ h 69 j ≤ 2147483647 := hM 69 j (by decide)
theorem u_69 {h h' : MEM} (hM : MBx h) {j : Nat} {x : Int} (e : h' = up2 h 69 j x) (h0 : (-2147483648) ≤ x) (h1 : x ≤ 2147483647) : MBx h' := by subst e; exact hM.up ⟨h0, h1⟩
theorem sh_70 : SH[70]? = some (.inl (0, 3)) := rfl
theorem m_70 {h : MEM} (hM : MBx h) (j : Nat) : (-2147483648) ≤ h 70 j ∧ h 70 j ≤ 2147483647 := hM 70 j (by decide)
theorem u_70 {h h' : MEM} (hM : MBx h) {j : Nat} {x : Int} (e : h' = up2 h 70 j x) (h0 : (-2147483648) ≤ x) (h1 : x ≤ 2147483647) : MBx h' := by subst e; exact hM.up ⟨h0, h1⟩
theorem sh_71 : SH[71]? = some (.inr (3, rsX3)) := rfl
theorem m_71_0 {h : MEM} (hM : MBx h) : (-2147483648) ≤ h 71 0 ∧ h 71 0 ≤ 2147483647 := hM 71 0 (by decide)
theorem u_71_0 {h h' : MEM} (hM : MBx h) {x : Int} (e : h' = up2 h 71 0 x) (h0 : (-2147483648) ≤ x) (h1 : x ≤ 2147483647) : MBx h' := by subst e; exact hM.up ⟨h0, h1⟩
theorem m_71_1 {h : MEM} (hM : MBx h) : h 71 1 = ((72 : Nat) : Int) := by have q : (72 : Int) ≤ h 71 1 ∧ h 71 1 ≤ 72 := hM 71 1 (by decide); omega
theorem m_71_2 {h : MEM} (hM : MBx h) : h 71 2 = ((73 : Nat) : Int) := by have q : (73 : Int) ≤ h 71 2 ∧ h 71 2 ≤ 73 := hM 71 2 (by decide); omega
theorem m_71_3 {h : MEM} (hM : MBx h) : h 71 3 = ((74 : Nat) : Int) := by have q : (74 : Int) ≤ h 71 3 ∧ h 71 3 ≤ 74 := hM 71 3 (by decide); omega
theorem sh_72 : SH[72]? = some (.inl (0, 8)) := rfl
theorem m_72 {h : MEM} (hM : MBx h) (j : Nat) : 0 ≤ h 72 j ∧ h 72 j ≤ 8 := hM 72 j (by decide)
theorem u_72 {h h' : MEM} (hM : MBx h) {j : Nat} {x : Int} (e : h' = up2 h 72 j x) (h0 : 0 ≤ x) (h1 : x ≤ 8) : MBx h' := by subst e; exact hM.up ⟨h0, h1⟩
theorem sh_73 : SH[73]? = some (.inl (0, 8)) := rfl
theorem m_73 {h : MEM} (hM : MBx h) (j : Nat) : (-2147483648) ≤ h 73 j ∧ h 73 j ≤ 2147483647 := hM 73 j (by decide)
theorem u_73 {h h' : MEM} (hM : MBx h) {j : Nat} {x : Int} (e : h' = up2 h 73 j x) (h0 : (-2147483648) ≤ x) (h1 : x ≤ 2147483647) : MBx h' := by subst e; exact hM.up ⟨h0, h1⟩
theorem sh_74 : SH[74]? = some (.inl (0, 2304)) := rfl
theorem m_74 {h : MEM} (hM : MBx h) (j : Nat) : (-2147483648) ≤ h 74 j ∧ h 74 j ≤ 2147483647 := hM 74 j (by decide)
theorem u_74 {h h' : MEM} (hM : MBx h) {j : Nat} {x : Int} (e : h' = up2 h 74 j x) (h0 : (-2147483648) ≤ x) (h1 : x ≤ 2147483647) : MBx h' := by subst e; exact hM.up ⟨h0, h1⟩
theorem sh_75 : SH[75]? = some (.inr (8, rsX8)) := rfl
theorem m_75_0 {h : MEM} (hM : MBx h) : 0 ≤ h 75 0 ∧ h 75 0 ≤ 7 := hM 75 0 (by decide)
theorem u_75_0 {h h' : MEM} (hM : MBx h) {x : Int} (e : h' = up2 h 75 0 x) (h0 : 0 ≤ x) (h1 : x ≤ 7) : MBx h' := by subst e; exact hM.up ⟨h0, h1⟩
theorem m_75_1 {h : MEM} (hM : MBx h) : h 75 1 = ((76 : Nat) : Int) := by have q : (76 : Int) ≤ h 75 1 ∧ h 75 1 ≤ 76 := hM 75 1 (by decide); omega
theorem m_75_2 {h : MEM} (hM : MBx h) : h 75 2 = ((77 : Nat) : Int) := by have q : (77 : Int) ≤ h 75 2 ∧ h 75 2 ≤ 77 := hM 75 2 (by decide); omega
theorem sh_76 : SH[76]? = some (.inl (0, 7)) := rfl
theorem m_76 {h : MEM} (hM : MBx h) (j : Nat) : (-2147483648) ≤ h 76 j ∧ h 76 j ≤ 2147483647 := hM 76 j (by decide)
theorem u_76 {h h' : MEM} (hM : MBx h) {j : Nat} {x : Int} (e : h' = up2 h 76 j x) (h0 : (-2147483648) ≤ x) (h1 : x ≤ 2147483647) : MBx h' := by subst e; exact hM.up ⟨h0, h1⟩
theorem sh_77 : SH[77]? = some (.inl (0, 128)) := rfl
theorem m_77 {h : MEM} (hM : MBx h) (j : Nat) : (-2147483648) ≤ h 77 j ∧ h 77 j ≤ 2147483647 := hM 77 j (by decide)
theorem u_77 {h h' : MEM} (hM : MBx h) {j : Nat} {x : Int} (e : h' = up2 h 77 j x) (h0 : (-2147483648) ≤ x) (h1 : x ≤ 2147483647) : MBx h' := by subst e; exact hM.up ⟨h0, h1⟩
theorem sh_78 : SH[78]? = some (.inr (1, rsX1)) := rfl
theorem m_78_0 {h : MEM} (hM : MBx h) : (-1) ≤ h 78 0 ∧ h 78 0 ≤ 8 := hM 78 0 (by decide)
theorem u_78_0 {h h' : MEM} (hM : MBx h) {x : Int} (e : h' = up2 h 78 0 x) (h0 : (-1) ≤ x) (h1 : x ≤ 8) : MBx h' := by subst e; exact hM.up ⟨h0, h1⟩
theorem m_78_1 {h : MEM} (hM : MBx h) : h 78 1 = ((79 : Nat) : Int) := by have q : (79 : Int) ≤ h 78 1 ∧ h 78 1 ≤ 79 := hM 78 1 (by decide); omega
theorem m_78_2 {h : MEM} (hM : MBx h) : h 78 2 = ((80 : Nat) : Int) := by have q : (80 : Int) ≤ h 78 2 ∧ h 78 2 ≤ 80 := hM 78 2 (by decide); omega
theorem m_78_3 {h : MEM} (hM : MBx h) : h 78 3 = ((81 : Nat) : Int) := by have q : (81 : Int) ≤ h 78 3 ∧ h 78 3 ≤ 81 := hM 78 3 (by decide); omega
theorem sh_79 : SH[79]? = some (.inl (0, 8)) := rfl
theorem m_79 {h : MEM} (hM : MBx h) (j : Nat) : (-1) ≤ h 79 j ∧ h 79 j ≤ 7 := hM 79 j (by decide)
theorem u_79 {h h' : MEM} (hM : MBx h) {j : Nat} {x : Int} (e : h' = up2 h 79 j x) (h0 : (-1) ≤ x) (h1 : x ≤ 7) : MBx h' := by subst e; exact hM.up ⟨h0, h1⟩
theorem sh_80 : SH[80]? = some (.inl (0, 8)) := rfl
theorem m_80 {h : MEM} (hM : MBx h) (j : Nat) : (-2147483648) ≤ h 80 j ∧ h 80 j ≤ 2147483647 := hM 80 j (by decide)
theorem u_80 {h h' : MEM} (hM : MBx h) {j : Nat} {x : Int} (e : h' = up2 h 80 j x) (h0 : (-2147483648) ≤ x) (h1 : x ≤ 2147483647) : MBx h' := by subst e; exact hM.up ⟨h0, h1⟩
theorem sh_81 : SH[81]? = some (.inl (0, 8)) := rfl
theorem m_81 {h : MEM} (hM : MBx h) (j : Nat) : (-2147483648) ≤ h 81 j ∧ h 81 j ≤ 2147483647 := hM 81 j (by decide)
theorem u_81 {h h' : MEM} (hM : MBx h) {j : Nat} {x : Int} (e : h' = up2 h 81 j x) (h0 : (-2147483648) ≤ x) (h1 : x ≤ 2147483647) : MBx h' := by subst e; exact hM.up ⟨h0, h1⟩
theorem sh_82 : SH[82]? = some (.inr (2, rsX2)) := rfl
theorem m_82_0 {h : MEM} (hM : MBx h) : 0 ≤ h 82 0 ∧ h 82 0 ≤ 14 := hM 82 0 (by decide)
theorem u_82_0 {h h' : MEM} (hM : MBx h) {x : Int} (e : h' = up2 h 82 0 x) (h0 : 0 ≤ x) (h1 : x ≤ 14) : MBx h' := by subst e; exact hM.up ⟨h0, h1⟩
theorem m_82_1 {h : MEM} (hM : MBx h) : 0 ≤ h 82 1 ∧ h 82 1 ≤ 200 := hM 82 1 (by decide)
theorem u_82_1 {h h' : MEM} (hM : MBx h) {x : Int} (e : h' = up2 h 82 1 x) (h0 : 0 ≤ x) (h1 : x ≤ 200) : MBx h' := by subst e; exact hM.up ⟨h0, h1⟩
theorem m_82_2 {h : MEM} (hM : MBx h) : h 82 2 = ((83 : Nat) : Int) := by have q : (83 : Int) ≤ h 82 2 ∧ h 82 2 ≤ 83 := hM 82 2 (by decide); omega
theorem m_82_3 {h : MEM} (hM : MBx h) : h 82 3 = ((84 : Nat) : Int) := by have q : (84 : Int) ≤ h 82 3 ∧ h 82 3 ≤ 84 := hM 82 3 (by decide); omega
theorem m_82_4 {h : MEM} (hM : MBx h) : h 82 4 = ((85 : Nat) : Int) := by have q : (85 : Int) ≤ h 82 4 ∧ h 82 4 ≤ 85 := hM 82 4 (by decide); omega
theorem m_82_5 {h : MEM} (hM : MBx h) : h 82 5 = ((86 : Nat) : Int) := by have q : (86 : Int) ≤ h 82 5 ∧ h 82 5 ≤ 86 := hM 82 5 (by decide); omega
theorem m_82_6 {h : MEM} (hM : MBx h) : h 82 6 = ((87 : Nat) : Int) := by have q : (87 : Int) ≤ h 82 6 ∧ h 82 6 ≤ 87 := hM 82 6 (by decide); omega
theorem m_82_7 {h : MEM} (hM : MBx h) : h 82 7 = ((88 : Nat) : Int) := by have q : (88 : Int) ≤ h 82 7 ∧ h 82 7 ≤ 88 := hM 82 7 (by decide); omega
theorem m_82_8 {h : MEM} (hM : MBx h) : h 82 8 = ((89 : Nat) : Int) := by have q : (89 : Int) ≤ h 82 8 ∧ h 82 8 ≤ 89 := hM 82 8 (by decide); omega
theorem sh_83 : SH[83]? = some (.inl (0, 14)) := rfl
theorem m_83 {h : MEM} (hM : MBx h) (j : Nat) : (-2147483648) ≤ h 83 j ∧ h 83 j ≤ 2147483647 := hM 83 j (by decide)
theorem u_83 {h h' : MEM} (hM : MBx h) {j : Nat} {x : Int} (e : h' = up2 h 83 j x) (h0 : (-2147483648) ≤ x) (h1 : x ≤ 2147483647) : MBx h' := by subst e; exact hM.up ⟨h0, h1⟩
theorem sh_84 : SH[84]? = some (.inl (0, 14)) := rfl
theorem m_84 {h : MEM} (hM : MBx h) (j : Nat) : (-2147483648) ≤ h 84 j ∧ h 84 j ≤ 2147483647 := hM 84 j (by decide)
theorem u_84 {h h' : MEM} (hM : MBx h) {j : Nat} {x : Int} (e : h' = up2 h 84 j x) (h0 : (-2147483648) ≤ x) (h1 : x ≤ 2147483647) : MBx h' := by subst e; exact hM.up ⟨h0, h1⟩
theorem sh_85 : SH[85]? = some (.inl (0, 14)) := rfl
theorem m_85 {h : MEM} (hM : MBx h) (j : Nat) : (-2147483648) ≤ h 85 j ∧ h 85 j ≤ 2147483647 := hM 85 j (by decide)
theorem u_85 {h h' : MEM} (hM : MBx h) {j : Nat} {x : Int} (e : h' = up2 h 85 j x) (h0 : (-2147483648) ≤ x) (h1 : x ≤ 2147483647) : MBx h' := by subst e; exact hM.up ⟨h0, h1⟩
theorem sh_86 : SH[86]? = some (.inl (0, 14)) := rfl
theorem m_86 {h : MEM} (hM : MBx h) (j : Nat) : (-2147483648) ≤ h 86 j ∧ h 86 j ≤ 2147483647 := hM 86 j (by decide)
theorem u_86 {h h' : MEM} (hM : MBx h) {j : Nat} {x : Int} (e : h' = up2 h 86 j x) (h0 : (-2147483648) ≤ x) (h1 : x ≤ 2147483647) : MBx h' := by subst e; exact hM.up ⟨h0, h1⟩
theorem sh_87 : SH[87]? = some (.inl (0, 200)) := rfl
theorem m_87 {h : MEM} (hM : MBx h) (j : Nat) : (-2147483648) ≤ h 87 j ∧ h 87 j ≤ 2147483647 := hM 87 j (by decide)
theorem u_87 {h h' : MEM} (hM : MBx h) {j : Nat} {x : Int} (e : h' = up2 h 87 j x) (h0 : (-2147483648) ≤ x) (h1 : x ≤ 2147483647) : MBx h' := by subst e; exact hM.up ⟨h0, h1⟩
theorem sh_88 : SH[88]? = some (.inl (0, 200)) := rfl
theorem m_88 {h : MEM} (hM : MBx h) (j : Nat) : (-2147483648) ≤ h 88 j ∧ h 88 j ≤ 2147483647 := hM 88 j (by decide)
theorem u_88 {h h' : MEM} (hM : MBx h) {j : Nat} {x : Int} (e : h' = up2 h 88 j x) (h0 : (-2147483648) ≤ x) (h1 : x ≤ 2147483647) : MBx h' := by subst e; exact hM.up ⟨h0, h1⟩
theorem sh_89 : SH[89]? = some (.inl (0, 40)) := rfl
theorem m_89 {h : MEM} (hM : MBx h) (j : Nat) : (-2147483648) ≤ h 89 j ∧ h 89 j ≤ 2147483647 := hM 89 j (by decide)
theorem u_89 {h h' : MEM} (hM : MBx h) {j : Nat} {x : Int} (e : h' = up2 h 89 j x) (h0 : (-2147483648) ≤ x) (h1 : x ≤ 2147483647) : MBx h' := by subst e; exact hM.up ⟨h0, h1⟩
theorem sh_90 : SH[90]? = some (.inr (2, rsX2)) := rfl
theorem m_90_0 {h : MEM} (hM : MBx h) : 0 ≤ h 90 0 ∧ h 90 0 ≤ 14 := hM 90 0 (by decide)
theorem u_90_0 {h h' : MEM} (hM : MBx h) {x : Int} (e : h' = up2 h 90 0 x) (h0 : 0 ≤ x) (h1 : x ≤ 14) : MBx h' := by subst e; exact hM.up ⟨h0, h1⟩
theorem m_90_1 {h : MEM} (hM : MBx h) : 0 ≤ h 90 1 ∧ h 90 1 ≤ 200 := hM 90 1 (by decide)
theorem u_90_1 {h h' : MEM} (hM : MBx h) {x : Int} (e : h' = up2 h 90 1 x) (h0 : 0 ≤ x) (h1 : x ≤ 200) : MBx h' := by subst e; exact hM.up ⟨h0, h1⟩
theorem m_90_2 {h : MEM} (hM : MBx h) : h 90 2 = ((91 : Nat) : Int) := by have q : (91 : Int) ≤ h 90 2 ∧ h 90 2 ≤ 91 := hM 90 2 (by decide); omega
theorem m_90_3 {h : MEM} (hM : MBx h) : h 90 3 = ((92 : Nat) : Int) := by have q : (92 : Int) ≤ h 90 3 ∧ h 90 3 ≤ 92 := hM 90 3 (by decide); omega
theorem m_90_4 {h : MEM} (hM : MBx h) : h 90 4 = ((93 : Nat) : Int) := by have q : (93 : Int) ≤ h 90 4 ∧ h 90 4 ≤ 93 := hM 90 4 (by decide); omega
theorem m_90_5 {h : MEM} (hM : MBx h) : h 90 5 = ((94 : Nat) : Int) := by have q : (94 : Int) ≤ h 90 5 ∧ h 90 5 ≤ 94 := hM 90 5 (by decide); omega
theorem m_90_6 {h : MEM} (hM : MBx h) : h 90 6 = ((95 : Nat) : Int) := by have q : (95 : Int) ≤ h 90 6 ∧ h 90 6 ≤ 95 := hM 90 6 (by decide); omega
theorem m_90_7 {h : MEM} (hM : MBx h) : h 90 7 = ((96 : Nat) : Int) := by have q : (96 : Int) ≤ h 90 7 ∧ h 90 7 ≤ 96 := hM 90 7 (by decide); omega
theorem m_90_8 {h : MEM} (hM : MBx h) : h 90 8 = ((97 : Nat) : Int) := by have q : (97 : Int) ≤ h 90 8 ∧ h 90 8 ≤ 97 := hM 90 8 (by decide); omega
theorem sh_91 : SH[91]? = some (.inl (0, 14)) := rfl
theorem m_91 {h : MEM} (hM : MBx h) (j : Nat) : (-2147483648) ≤ h 91 j ∧ h 91 j ≤ 2147483647 := hM 91 j (by decide)
theorem u_91 {h h' : MEM} (hM : MBx h) {j : Nat} {x : Int} (e : h' = up2 h 91 j x) (h0 : (-2147483648) ≤ x) (h1 : x ≤ 2147483647) : MBx h' := by subst e; exact hM.up ⟨h0, h1⟩
theorem sh_92 : SH[92]? = some (.inl (0, 14)) := rfl
theorem m_92 {h : MEM} (hM : MBx h) (j : Nat) : (-2147483648) ≤ h 92 j ∧ h 92 j ≤ 2147483647 := hM 92 j (by decide)
theorem u_92 {h h' : MEM} (hM : MBx h) {j : Nat} {x : Int} (e : h' = up2 h 92 j x) (h0 : (-2147483648) ≤ x) (h1 : x ≤ 2147483647) : MBx h' := by subst e; exact hM.up ⟨h0, h1⟩
theorem sh_93 : SH[93]? = some (.inl (0, 14)) := rfl
theorem m_93 {h : MEM} (hM : MBx h) (j : Nat) : (-2147483648) ≤ h 93 j ∧ h 93 j ≤ 2147483647 := hM 93 j (by decide)
theorem u_93 {h h' : MEM} (hM : MBx h) {j : Nat} {x : Int} (e : h' = up2 h 93 j x) (h0 : (-2147483648) ≤ x) (h1 : x ≤ 2147483647) : MBx h' := by subst e; exact hM.up ⟨h0, h1⟩
theorem sh_94 : SH[94]? = some (.inl (0, 14)) := rfl
theorem m_94 {h : MEM} (hM : MBx h) (j : Nat) : (-2147483648) ≤ h 94 j ∧ h 94 j ≤ 2147483647 := hM 94 j (by decide)
theorem u_94 {h h' : MEM} (hM : MBx h) {j : Nat} {x : Int} (e : h' = up2 h 94 j x) (h0 : (-2147483648) ≤ x) (h1 : x ≤ 2147483647) : MBx h' := by subst e; exact hM.up ⟨h0, h1⟩
theorem sh_95 : SH[95]? = some (.inl (0, 200)) := rfl
theorem m_95 {h : MEM} (hM : MBx h) (j : Nat) : (-2147483648) ≤ h 95 j ∧ h 95 j ≤ 2147483647 := hM 95 j (by decide)
theorem u_95 {h h' : MEM} (hM : MBx h) {j : Nat} {x : Int} (e : h' = up2 h 95 j x) (h0 : (-2147483648) ≤ x) (h1 : x ≤ 2147483647) : MBx h' := by subst e; exact hM.up ⟨h0, h1⟩
theorem sh_96 : SH[96]? = some (.inl (0, 200)) := rfl
theorem m_96 {h : MEM} (hM : MBx h) (j : Nat) : (-2147483648) ≤ h 96 j ∧ h 96 j ≤ 2147483647 := hM 96 j (by decide)
theorem u_96 {h h' : MEM} (hM : MBx h) {j : Nat} {x : Int} (e : h' = up2 h 96 j x) (h0 : (-2147483648) ≤ x) (h1 : x ≤ 2147483647) : MBx h' := by subst e; exact hM.up ⟨h0, h1⟩
theorem sh_97 : SH[97]? = some (.inl (0, 40)) := rfl
theorem m_97 {h : MEM} (hM : MBx h) (j : Nat) : (-2147483648) ≤ h 97 j ∧ h 97 j ≤ 2147483647 := hM 97 j (by decide)
theorem u_97 {h h' : MEM} (hM : MBx h) {j : Nat} {x : Int} (e : h' = up2 h 97 j x) (h0 : (-2147483648) ≤ x) (h1 : x ≤ 2147483647) : MBx h' := by subst e; exact hM.up ⟨h0, h1⟩
theorem sh_98 : SH[98]? = some (.inr (12, rsX12)) := rfl
theorem m_98_0 {h : MEM} (hM : MBm h) : h 98 0 = ((99 : Nat) : Int) := by have q : (99 : Int) ≤ h 98 0 ∧ h 98 0 ≤ 99 := hM 98 0 (by decide); omega
theorem m_98_1 {h : MEM} (hM : MBm h) : 0 ≤ h 98 1 ∧ h 98 1 ≤ 220 := hM 98 1 (by decide)
theorem u_98_1 {h h' : MEM} (hM : MBm h) {x : Int} (e : h' = up2 h 98 1 x) (h0 : 0 ≤ x) (h1 : x ≤ 220) : MBm h' := by subst e; exact hM.up ⟨h0, h1⟩
theorem m_98_2 {h : MEM} (hM : MBm h) : 0 ≤ h 98 2 ∧ h 98 2 ≤ 10 := hM 98 2 (by decide)
theorem u_98_2 {h h' : MEM} (hM : MBm h) {x : Int} (e : h' = up2 h 98 2 x) (h0 : 0 ≤ x) (h1 : x ≤ 10) : MBm h' := by subst e; exact hM.up ⟨h0, h1⟩
theorem m_98_3 {h : MEM} (hM : MBm h) : 0 ≤ h 98 3 ∧ h 98 3 ≤ 8 := hM 98 3 (by decide)
theorem u_98_3 {h h' : MEM} (hM : MBm h) {x : Int} (e : h' = up2 h 98 3 x) (h0 : 0 ≤ x) (h1 : x ≤ 8) : MBm h' := by subst e; exact hM.up ⟨h0, h1⟩
theorem m_98_4 {h : MEM} (hM : MBm h) : 0 ≤ h 98 4 ∧ h 98 4 ≤ 8 := hM 98 4 (by decide)
theorem u_98_4 {h h' : MEM} (hM : MBm h) {x : Int} (e : h' = up2 h 98 4 x) (h0 : 0 ≤ x) (h1 : x ≤ 8) : MBm h' := by subst e; exact hM.up ⟨h0, h1⟩
theorem m_98_5 {h : MEM} (hM : MBm h) : 0 ≤ h 98 5 ∧ h 98 5 ≤ 2000000000 := hM 98 5 (by decide)
theorem u_98_5 {h h' : MEM} (hM : MBm h) {x : Int} (e : h' = up2 h 98 5 x) (h0 : 0 ≤ x) (h1 : x ≤ 2000000000) : MBm h' := by subst e; exact hM.up ⟨h0, h1⟩
theorem m_98_6 {h : MEM} (hM : MBm h) : 0 ≤ h 98 6 ∧ h 98 6 ≤ 65535 := hM 98 6 (by decide)
theorem u_98_6 {h h' : MEM} (hM : MBm h) {x : Int} (e : h' = up2 h 98 6 x) (h0 : 0 ≤ x) (h1 : x ≤ 65535) : MBm h' := by subst e; exact hM.up ⟨h0, h1⟩
theorem m_98_7 {h : MEM} (hM : MBm h) : (-2147483648) ≤ h 98 7 ∧ h 98 7 ≤ 2147483647 := hM 98 7 (by decide)
theorem u_98_7 {h h' : MEM} (hM : MBm h) {x : Int} (e : h' = up2 h 98 7 x) (h0 : (-2147483648) ≤ x) (h1 : x ≤ 2147483647) : MBm h' := by subst e; exact hM.up ⟨h0, h1⟩
theorem m_98_8 {h : MEM} (hM : MBm h) : h 98 8 = ((100 : Nat) : Int) := by have q : (100 : Int) ≤ h 98 8 ∧ h 98 8 ≤ 100 := hM 98 8 (by decide); omega
theorem m_98_9 {h : MEM} (hM : MBm h) : h 98 9 = ((101 : Nat) : Int) := by have q : (101 : Int) ≤ h 98 9 ∧ h 98 9 ≤ 101 := hM 98 9 (by decide); omega
theorem m_98_10 {h : MEM} (hM : MBm h) : h 98 10 = ((102 : Nat) : Int) := by have q : (102 : Int) ≤ h 98 10 ∧ h 98 10 ≤ 102 := hM 98 10 (by decide); omega
theorem m_98_11 {h : MEM} (hM : MBm h) : h 98 11 = ((103 : Nat) : Int) := by have q : (103 : Int) ≤ h 98 11 ∧ h 98 11 ≤ 103 := hM 98 11 (by decide); omega
theorem m_98_12 {h : MEM} (hM : MBm h) : h 98 12 = ((104 : Nat) : Int) := by have q : (104 : Int) ≤ h 98 12 ∧ h 98 12 ≤ 104 := hM 98 12 (by decide); omega
theorem m_98_13 {h : MEM} (hM : MBm h) : h 98 13 = ((105 : Nat) : Int) := by have q : (105 : Int) ≤ h 98 13 ∧ h 98 13 ≤ 105 := hM 98 13 (by decide); omega
theorem m_98_14 {h : MEM} (hM : MBm h) : h 98 14 = ((106 : Nat) : Int) := by have q : (106 : Int) ≤ h 98 14 ∧ h 98 14 ≤ 106 := hM 98 14 (by decide); omega
theorem m_98_15 {h : MEM} (hM : MBm h) : h 98 15 = ((107 : Nat) : Int) := by have q : (107 : Int) ≤ h 98 15 ∧ h 98 15 ≤ 107 := hM 98 15 (by decide); omega
theorem m_98_16 {h : MEM} (hM : MBm h) : h 98 16 = ((108 : Nat) : Int) := by have q : (108 : Int) ≤ h 98 16 ∧ h 98 16 ≤ 108 := hM 98 16 (by decide); omega
theorem m_98_17 {h : MEM} (hM : MBm h) : h 98 17 = ((109 : Nat) : Int) := by have q : (109 : Int) ≤ h 98 17 ∧ h 98 17 ≤ 109 := hM 98 17 (by decide); omega
theorem m_98_18 {h : MEM} (hM : MBm h) : h 98 18 = ((110 : Nat) : Int) := by have q : (110 : Int) ≤ h 98 18 ∧ h 98 18 ≤ 110 := hM 98 18 (by decide); omega
theorem m_98_19 {h : MEM} (hM : MBm h) : h 98 19 = ((111 : Nat) : Int) := by have q : (111 : Int) ≤ h 98 19 ∧ h 98 19 ≤ 111 := hM 98 19 (by decide); omega
theorem m_98_20 {h : MEM} (hM : MBm h) : h 98 20 = ((112 : Nat) : Int) := by have q : (112 : Int) ≤ h 98 20 ∧ h 98 20 ≤ 112 := hM 98 20 (by decide); omega
theorem m_98_21 {h : MEM} (hM : MBm h) : h 98 21 = ((113 : Nat) : Int) := by have q : (113 : Int) ≤ h 98 21 ∧ h 98 21 ≤ 113 := hM 98 21 (by decide); omega
theorem m_98_22 {h : MEM} (hM : MBm h) : h 98 22 = ((114 : Nat) : Int) := by have q : (114 : Int) ≤ h 98 22 ∧ h 98 22 ≤ 114 := hM 98 22 (by decide); omega
theorem m_98_23 {h : MEM} (hM : MBm h) : 0 ≤ h 98 23 ∧ h 98 23 ≤ 14 := hM 98 23 (by decide)
theorem u_98_23 {h h' : MEM} (hM : MBm h) {x : Int} (e : h' = up2 h 98 23 x) (h0 : 0 ≤ x) (h1 : x ≤ 14) : MBm h' := by subst e; exact hM.up ⟨h0, h1⟩
theorem m_98_24 {h : MEM} (hM : MBm h) : h 98 24 = ((115 : Nat) : Int) := by have q : (115 : Int) ≤ h 98 24 ∧ h 98 24 ≤ 115 := hM 98 24 (by decide); omega
theorem m_98_25 {h : MEM} (hM : MBm h) : h 98 25 = ((116 : Nat) : Int) := by have q : (116 : Int) ≤ h 98 25 ∧ h 98 25 ≤ 116 := hM 98 25 (by decide); omega
theorem m_98_26 {h : MEM} (hM : MBm h) : h 98 26 = ((117 : Nat) : Int) := by have q : (117 : Int) ≤ h 98 26 ∧ h 98 26 ≤ 117 := hM 98 26 (by decide); omega
theorem m_98_27 {h : MEM} (hM : MBm h) : h 98 27 = ((118 : Nat) : Int) := by have q : (118 : Int) ≤ h 98 27 ∧ h 98 27 ≤ 118 := hM 98 27 (by decide); omega
theorem m_98_28 {h : MEM} (hM : MBm h) : h 98 28 = ((119 : Nat) : Int) := by have q : (119 : Int) ≤ h 98 28 ∧ h 98 28 ≤ 119 := hM 98 28 (by decide); omega
theorem m_98_29 {h : MEM} (hM : MBm h) : h 98 29 = ((120 : Nat) : Int) := by have q : (120 : Int) ≤ h 98 29 ∧ h 98 29 ≤ 120 := hM 98 29 (by decide); omega
theorem m_98_30 {h : MEM} (hM : MBm h) : h 98 30 = ((121 : Nat) : Int) := by have q : (121 : Int) ≤ h 98 30 ∧ h 98 30 ≤ 121 := hM 98 30 (by decide); omega
theorem m_98_31 {h : MEM} (hM : MBm h) : h 98 31 = ((122 : Nat) : Int) := by have q : (122 : Int) ≤ h 98 31 ∧ h 98 31 ≤ 122 := hM 98 31 (by decide); omega
theorem m_98_32 {h : MEM} (hM : MBm h) : h 98 32 = ((123 : Nat) : Int) := by have q : (123 : Int) ≤ h 98 32 ∧ h 98 32 ≤ 123 := hM 98 32 (by decide); omega
theorem m_98_33 {h : MEM} (hM : MBm h) : h 98 33 = ((124 : Nat) : Int) := by have q : (124 : Int) ≤ h 98 33 ∧ h 98 33 ≤ 124 := hM 98 33 (by decide); omega
theorem m_98_34 {h : MEM} (hM : MBm h) : h 98 34 = ((125 : Nat) : Int) := by have q : (125 : Int) ≤ h 98 34 ∧ h 98 34 ≤ 125 := hM 98 34 (by decide); omega
theorem m_98_35 {h : MEM} (hM : MBm h) : h 98 35 = ((126 : Nat) : Int) := by have q : (126 : Int) ≤ h 98 35 ∧ h 98 35 ≤ 126 := hM 98 35 (by decide); omega
theorem m_98_36 {h : MEM} (hM : MBm h) : 0 ≤ h 98 36 ∧ h 98 36 ≤ 200 := hM 98 36 (by decide)
theorem u_98_36 {h h' : MEM} (hM : MBm h) {x : Int} (e : h' = up2 h 98 36 x) (h0 : 0 ≤ x) (h1 : x ≤ 200) : MBm h' := by subst e; exact hM.up ⟨h0, h1⟩
theorem m_98_37 {h : MEM} (hM : MBm h) : 0 ≤ h 98 37 ∧ h 98 37 ≤ 200 := hM 98 37 (by decide)
theorem u_98_37 {h h' : MEM} (hM : MBm h) {x : Int} (e : h' = up2 h 98 37 x) (h0 : 0 ≤ x) (h1 : x ≤ 200) : MBm h' := by subst e; exact hM.up ⟨h0, h1⟩
theorem m_98_38 {h : MEM} (hM : MBm h) : (-6000) ≤ h 98 38 ∧ h 98 38 ≤ 0 := hM 98 38 (by decide)
theorem u_98_38 {h h' : MEM} (hM : MBm h) {x : Int} (e : h' = up2 h 98 38 x) (h0 : (-6000) ≤ x) (h1 : x ≤ 0) : MBm h' := by subst e; exact hM.up ⟨h0, h1⟩
theorem m_98_39 {h : MEM} (hM : MBm h) : 0 ≤ h 98 39 ∧ h 98 39 ≤ 14 := hM 98 39 (by decide)
theorem u_98_39 {h h' : MEM} (hM : MBm h) {x : Int} (e : h' = up2 h 98 39 x) (h0 : 0 ≤ x) (h1 : x ≤ 14) : MBm h' := by subst e; exact hM.up ⟨h0, h1⟩
theorem m_98_40 {h : MEM} (hM : MBm h) : 0 ≤ h 98 40 ∧ h 98 40 ≤ 200 := hM 98 40 (by decide)
theorem u_98_40 {h h' : MEM} (hM : MBm h) {x : Int} (e : h' = up2 h 98 40 x) (h0 : 0 ≤ x) (h1 : x ≤ 200) : MBm h' := by subst e; exact hM.up ⟨h0, h1⟩
theorem m_98_41 {h : MEM} (hM : MBm h) : (-2147483648) ≤ h 98 41 ∧ h 98 41 ≤ 2147483647 := hM 98 41 (by decide)
theorem u_98_41 {h h' : MEM} (hM : MBm h) {x : Int} (e : h' = up2 h 98 41 x) (h0 : (-2147483648) ≤ x) (h1 : x ≤ 2147483647) : MBm h' := by subst e; exact hM.up ⟨h0, h1⟩
theorem m_98_42 {h : MEM} (hM : MBm h) : 0 ≤ h 98 42 ∧ h 98 42 ≤ 200 := hM 98 42 (by decide)
theorem u_98_42 {h h' : MEM} (hM : MBm h) {x : Int} (e : h' = up2 h 98 42 x) (h0 : 0 ≤ x) (h1 : x ≤ 200) : MBm h' := by subst e; exact hM.up ⟨h0, h1⟩
theorem m_98_43 {h : MEM} (hM : MBm h) : 0 ≤ h 98 43 ∧ h 98 43 ≤ 1 := hM 98 43 (by decide)
theorem u_98_43 {h h' : MEM} (hM : MBm h) {x : Int} (e : h' = up2 h 98 43 x) (h0 : 0 ≤ x) (h1 : x ≤ 1) : MBm h' := by subst e; exact hM.up ⟨h0, h1⟩
theorem m_98_44 {h : MEM} (hM : MBm h) : 0 ≤ h 98 44 ∧ h 98 44 ≤ 1 := hM 98 44 (by decide)
theorem u_98_44 {h h' : MEM} (hM : MBm h) {x : Int} (e : h' = up2 h 98 44 x) (h0 : 0 ≤ x) (h1 : x ≤ 1) : MBm h' := by subst e; exact hM.up ⟨h0, h1⟩
theorem m_98_45 {h : MEM} (hM : MBm h) : h 98 45 = ((127 : Nat) : Int) := by have q : (127 : Int) ≤ h 98 45 ∧ h 98 45 ≤ 127 := hM 98 45 (by decide); omega
theorem m_98_46 {h : MEM} (hM : MBm h) : 0 ≤ h 98 46 ∧ h 98 46 ≤ 7 := hM 98 46 (by decide)
theorem u_98_46 {h h' : MEM} (hM : MBm h) {x : Int} (e : h' = up2 h 98 46 x) (h0 : 0 ≤ x) (h1 : x ≤ 7) : MBm h' := by subst e; exact hM.up ⟨h0, h1⟩
theorem m_98_47 {h : MEM} (hM : MBm h) : (-1) ≤ h 98 47 ∧ h 98 47 ≤ 7 := hM 98 47 (by decide)
theorem u_98_47 {h h' : MEM} (hM : MBm h) {x : Int} (e : h' = up2 h 98 47 x) (h0 : (-1) ≤ x) (h1 : x ≤ 7) : MBm h' := by subst e; exact hM.up ⟨h0, h1⟩
theorem m_98_48 {h : MEM} (hM : MBm h) : (-2147483648) ≤ h 98 48 ∧ h 98 48 ≤ 2147483647 := hM 98 48 (by decide)
theorem u_98_48 {h h' : MEM} (hM : MBm h) {x : Int} (e : h' = up2 h 98 48 x) (h0 : (-2147483648) ≤ x) (h1 : x ≤ 2147483647) : MBm h' := by subst e; exact hM.up ⟨h0, h1⟩
theorem m_98_49 {h : MEM} (hM : MBm h) : h 98 49 = ((128 : Nat) : Int) := by have q : (128 : Int) ≤ h 98 49 ∧ h 98 49 ≤ 128 := hM 98 49 (by decide); omega
theorem m_98_50 {h : MEM} (hM : MBm h) : h 98 50 = ((129 : Nat) : Int) := by have q : (129 : Int) ≤ h 98 50 ∧ h 98 50 ≤ 129 := hM 98 50 (by decide); omega
theorem m_98_51 {h : MEM} (hM : MBm h) : (-2147483648) ≤ h 98 51 ∧ h 98 51 ≤ 2147483647 := hM 98 51 (by decide)
theorem u_98_51 {h h' : MEM} (hM : MBm h) {x : Int} (e : h' = up2 h 98 51 x) (h0 : (-2147483648) ≤ x) (h1 : x ≤ 2147483647) : MBm h' := by subst e; exact hM.up ⟨h0, h1⟩
theorem m_98_52 {h : MEM} (hM : MBm h) : (-2147483648) ≤ h 98 52 ∧ h 98 52 ≤ 2147483647 := hM 98 52 (by decide)
theorem u_98_52 {h h' : MEM} (hM : MBm h) {x : Int} (e : h' = up2 h 98 52 x) (h0 : (-2147483648) ≤ x) (h1 : x ≤ 2147483647) : MBm h' := by subst e; exact hM.up ⟨h0, h1⟩
theorem m_98_53 {h : MEM} (hM : MBm h) : (-2147483648) ≤ h 98 53 ∧ h 98 53 ≤ 2147483647 := hM 98 53 (by decide)
theorem u_98_53 {h h' : MEM} (hM : MBm h) {x : Int} (e : h' = up2 h 98 53 x) (h0 : (-2147483648) ≤ x) (h1 : x ≤ 2147483647) : MBm h' := by subst e; exact hM.up ⟨h0, h1⟩
theorem m_98_54 {h : MEM} (hM : MBm h) : (-2147483648) ≤ h 98 54 ∧ h 98 54 ≤ 2147483647 := hM 98 54 (by decide)
theorem u_98_54 {h h' : MEM} (hM : MBm h) {x : Int} (e : h' = up2 h 98 54 x) (h0 : (-2147483648) ≤ x) (h1 : x ≤ 2147483647) : MBm h' := by subst e; exact hM.up ⟨h0, h1⟩
theorem m_98_55 {h : MEM} (hM : MBm h) : h 98 55 = ((130 : Nat) : Int) := by have q : (130 : Int) ≤ h 98 55 ∧ h 98 55 ≤ 130 := hM 98 55 (by decide); omega
theorem m_98_56 {h : MEM} (hM : MBm h) : h 98 56 = ((131 : Nat) : Int) := by have q : (131 : Int) ≤ h 98 56 ∧ h 98 56 ≤ 131 := hM 98 56 (by decide); omega
theorem m_98_57 {h : MEM} (hM : MBm h) : h 98 57 = ((132 : Nat) : Int) := by have q : (132 : Int) ≤ h 98 57 ∧ h 98 57 ≤ 132 := hM 98 57 (by decide); omega
theorem m_98_58 {h : MEM} (hM : MBm h) : h 98 58 = ((133 : Nat) : Int) := by have q : (133 : Int) ≤ h 98 58 ∧ h 98 58 ≤ 133 := hM 98 58 (by decide); omega
theorem m_98_59 {h : MEM} (hM : MBm h) : h 98 59 = ((134 : Nat) : Int) := by have q : (134 : Int) ≤ h 98 59 ∧ h 98 59 ≤ 134 := hM 98 59 (by decide); omega
theorem m_98_60 {h : MEM} (hM : MBm h) : h 98 60 = ((135 : Nat) : Int) := by have q : (135 : Int) ≤ h 98 60 ∧ h 98 60 ≤ 135 := hM 98 60 (by decide); omega
theorem m_98_61 {h : MEM} (hM : MBm h) : h 98 61 = ((136 : Nat) : Int) := by have q : (136 : Int) ≤ h 98 61 ∧ h 98 61 ≤ 136 := hM 98 61 (by decide); omega
theorem m_98_62 {h : MEM} (hM : MBm h) : h 98 62 = ((137 : Nat) : Int) := by have q : (137 : Int) ≤ h 98 62 ∧ h 98 62 ≤ 137 := hM 98 62 (by decide); omega
theorem m_98_63 {h : MEM} (hM : MBm h) : h 98 63 = ((138 : Nat) : Int) := by have q : (138 : Int) ≤ h 98 63 ∧ h 98 63 ≤ 138 := hM 98 63 (by decide); omega
theorem m_98_64 {h : MEM} (hM : MBm h) : h 98 64 = ((139 : Nat) : Int) := by have q : (139 : Int) ≤ h 98 64 ∧ h 98 64 ≤ 139 := hM 98 64 (by decide); omega
theorem m_98_65 {h : MEM} (hM : MBm h) : h 98 65 = ((140 : Nat) : Int) := by have q : (140 : Int) ≤ h 98 65 ∧ h 98 65 ≤ 140 := hM 98 65 (by decide); omega
theorem m_98_66 {h : MEM} (hM : MBm h) : h 98 66 = ((141 : Nat) : Int) := by have q : (141 : Int) ≤ h 98 66 ∧ h 98 66 ≤ 141 := hM 98 66 (by decide); omega
theorem m_98_67 {h : MEM} (hM : MBm h) : h 98 67 = ((142 : Nat) : Int) := by have q : (142 : Int) ≤ h 98 67 ∧ h 98 67 ≤ 142 := hM 98 67 (by decide); omega
theorem m_98_68 {h : MEM} (hM : MBm h) : h 98 68 = ((143 : Nat) : Int) := by have q : (143 : Int) ≤ h 98 68 ∧ h 98 68 ≤ 143 := hM 98 68 (by decide); omega
theorem m_98_69 {h : MEM} (hM : MBm h) : h 98 69 = ((144 : Nat) : Int) := by have q : (144 : Int) ≤ h 98 69 ∧ h 98 69 ≤ 144 := hM 98 69 (by decide); omega
theorem m_98_70 {h : MEM} (hM : MBm h) : h 98 70 = ((145 : Nat) : Int) := by have q : (145 : Int) ≤ h 98 70 ∧ h 98 70 ≤ 145 := hM 98 70 (by decide); omega
theorem m_98_71 {h : MEM} (hM : MBm h) : h 98 71 = ((146 : Nat) : Int) := by have q : (146 : Int) ≤ h 98 71 ∧ h 98 71 ≤ 146 := hM 98 71 (by decide); omega
theorem m_98_72 {h : MEM} (hM : MBm h) : (-1) ≤ h 98 72 ∧ h 98 72 ≤ 2147483647 := hM 98 72 (by decide)
theorem u_98_72 {h h' : MEM} (hM : MBm h) {x : Int} (e : h' = up2 h 98 72 x) (h0 : (-1) ≤ x) (h1 : x ≤ 2147483647) : MBm h' := by subst e; exact hM.up ⟨h0, h1⟩
theorem m_98_73 {h : MEM} (hM : MBm h) : (-2147483648) ≤ h 98 73 ∧ h 98 73 ≤ 2147483647 := hM 98 73 (by decide)
theorem u_98_73 {h h' : MEM} (hM : MBm h) {x : Int} (e : h' = up2 h 98 73 x) (h0 : (-2147483648) ≤ x) (h1 : x ≤ 2147483647) : MBm h' := by subst e; exact hM.up ⟨h0, h1⟩
theorem m_98_74 {h : MEM} (hM : MBm h) : (-2147483648) ≤ h 98 74 ∧ h 98 74 ≤ 2147483647 := hM 98 74 (by decide)
theorem u_98_74 {h h' : MEM} (hM : MBm h) {x : Int} (e : h' = up2 h 98 74 x) (h0 : (-2147483648) ≤ x) (h1 : x ≤ 2147483647) : MBm h' := by subst e; exact hM.up ⟨h0, h1⟩
theorem m_98_75 {h : MEM} (hM : MBm h) : h 98 75 = ((147 : Nat) : Int) := by have q : (147 : Int) ≤ h 98 75 ∧ h 98 75 ≤ 147 := hM 98 75 (by decide); omega
theorem m_98_76 {h : MEM} (hM : MBm h) : h 98 76 = ((148 : Nat) : Int) := by have q : (148 : Int) ≤ h 98 76 ∧ h 98 76 ≤ 148 := hM 98 76 (by decide); omega
theorem m_98_77 {h : MEM} (hM : MBm h) : h 98 77 = ((149 : Nat) : Int) := by have q : (149 : Int) ≤ h 98 77 ∧ h 98 77 ≤ 149 := hM 98 77 (by decide); omega
theorem m_98_78 {h : MEM} (hM : MBm h) : h 98 78 = ((150 : Nat) : Int) := by have q : (150 : Int) ≤ h 98 78 ∧ h 98 78 ≤ 150 := hM 98 78 (by decide); omega
theorem m_98_79 {h : MEM} (hM : MBm h) : 0 ≤ h 98 79 ∧ h 98 79 ≤ 1 := hM 98 79 (by decide)
theorem u_98_79 {h h' : MEM} (hM : MBm h) {x : Int} (e : h' = up2 h 98 79 x) (h0 : 0 ≤ x) (h1 : x ≤ 1) : MBm h' := by subst e; exact hM.up ⟨h0, h1⟩
theorem sh_99 : SH[99]? = some (.inl (1, 220)) := rfl
theorem m_99 {h : MEM} (hM : MBm h) (j : Nat) : (-128) ≤ h 99 j ∧ h 99 j ≤ 127 := hM 99 j (by decide)
theorem u_99 {h h' : MEM} (hM : MBm h) {j : Nat} {x : Int} (e : h' = up2 h 99 j x) (h0 : (-128) ≤ x) (h1 : x ≤ 127) : MBm h' := by subst e; exact hM.up ⟨h0, h1⟩
theorem sh_100 : SH[100]? = some (.inl (0, 10)) := rfl
theorem m_100 {h : MEM} (hM : MBm h) (j : Nat) : (-2147483648) ≤ h 100 j ∧ h 100 j ≤ 2147483647 := hM 100 j (by decide)
theorem u_100 {h h' : MEM} (hM : MBm h) {j : Nat} {x : Int} (e : h' = up2 h 100 j x) (h0 : (-2147483648) ≤ x) (h1 : x ≤ 2147483647) : MBm h' := by subst e; exact hM.up ⟨h0, h1⟩
theorem sh_101 : SH[101]? = some (.inl (0, 10)) := rfl
theorem m_101 {h : MEM} (hM : MBm h) (j : Nat) : (-2147483648) ≤ h 101 j ∧ h 101 j ≤ 2147483647 := hM 101 j (by decide)
theorem u_101 {h h' : MEM} (hM : MBm h) {j : Nat} {x : Int} (e : h' = up2 h 101 j x) (h0 : (-2147483648) ≤ x) (h1 : x ≤ 2147483647) : MBm h' := by subst e; exact hM.up ⟨h0, h1⟩
theorem sh_102 : SH[102]? = some (.inl (0, 10)) := rfl
theorem m_102 {h : MEM} (hM : MBm h) (j : Nat) : (-2147483648) ≤ h 102 j ∧ h 102 j ≤ 2147483647 := hM 102 j (by decide)
theorem u_102 {h h' : MEM} (hM : MBm h) {j : Nat} {x : Int} (e : h' = up2 h 102 j x) (h0 : (-2147483648) ≤ x) (h1 : x ≤ 2147483647) : MBm h' := by subst e; exact hM.up ⟨h0, h1⟩
theorem sh_103 : SH[103]? = some (.inl (0, 8)) := rfl
theorem m_103 {h : MEM} (hM : MBm h) (j : Nat) : 0 ≤ h 103 j ∧ h 103 j ≤ 10 := hM 103 j (by decide)
theorem u_103 {h h' : MEM} (hM : MBm h) {j : Nat} {x : Int} (e : h' = up2 h 103 j x) (h0 : 0 ≤ x) (h1 : x ≤ 10) : MBm h' := by subst e; exact hM.up ⟨h0, h1⟩
theorem sh_104 : SH[104]? = some (.inl (0, 8)) := rfl
theorem m_104 {h : MEM} (hM : MBm h) (j : Nat) : (-2147483648) ≤ h 104 j ∧ h 104 j ≤ 2147483647 := hM 104 j (by decide)
theorem u_104 {h h' : MEM} (hM : MBm h) {j : Nat} {x : Int} (e : h' = up2 h 104 j x) (h0 : (-2147483648) ≤ x) (h1 : x ≤ 2147483647) : MBm h' := by subst e; exact hM.up ⟨h0, h1⟩
theorem sh_105 : SH[105]? = some (.inl (0, 40)) := rfl
theorem m_105 {h : MEM} (hM : MBm h) (j : Nat) : (-2147483648) ≤ h 105 j ∧ h 105 j ≤ 2147483647 := hM 105 j (by decide)
theorem u_105 {h h' : MEM} (hM : MBm h) {j : Nat} {x : Int} (e : h' = up2 h 105 j x) (h0 : (-2147483648) ≤ x) (h1 : x ≤ 2147483647) : MBm h' := by subst e; exact hM.up ⟨h0, h1⟩
theorem sh_106 : SH[106]? = some (.inl (2, 8)) := rfl
theorem m_106 {h : MEM} (hM : MBm h) (j : Nat) : 0 ≤ h 106 j ∧ h 106 j ≤ 1 := hM 106 j (by decide)
theorem u_106 {h h' : MEM} (hM : MBm h) {j : Nat} {x : Int} (e : h' = up2 h 106 j x) (h0 : 0 ≤ x) (h1 : x ≤ 1) : MBm h' := by subst e; exact hM.up ⟨h0, h1⟩
theorem sh_107 : SH[107]? = some (.inl (0, 8)) := rfl
theorem m_107 {h : MEM} (hM : MBm h) (j : Nat) : (-2147483648) ≤ h 107 j ∧ h 107 j ≤ 2147483647 := hM 107 j (by decide)
theorem u_107 {h h' : MEM} (hM : MBm h) {j : Nat} {x : Int} (e : h' = up2 h 107 j x) (h0 : (-2147483648) ≤ x) (h1 : x ≤ 2147483647) : MBm h' := by subst e; exact hM.up ⟨h0, h1⟩
theorem sh_108 : SH[108]? = some (.inl (0, 8)) := rfl
theorem m_108 {h : MEM} (hM : MBm h) (j : Nat) : 0 ≤ h 108 j ∧ h 108 j ≤ 4 := hM 108 j (by decide)
theorem u_108 {h h' : MEM} (hM : MBm h) {j : Nat} {x : Int} (e : h' = up2 h 108 j x) (h0 : 0 ≤ x) (h1 : x ≤ 4) : MBm h' := by subst e; exact hM.up ⟨h0, h1⟩
theorem sh_109 : SH[109]? = some (.inl (0, 8)) := rfl
theorem m_109 {h : MEM} (hM : MBm h) (j : Nat) : (-2147483648) ≤ h 109 j ∧ h 109 j ≤ 2147483647 := hM 109 j (by decide)
theorem u_109 {h h' : MEM} (hM : MBm h) {j : Nat} {x : Int} (e : h' = up2 h 109 j x) (h0 : (-2147483648) ≤ x) (h1 : x ≤ 2147483647) : MBm h' := by subst e; exact hM.up ⟨h0, h1⟩
theorem sh_110 : SH[110]? = some (.inl (2, 8)) := rfl
theorem m_110 {h : MEM} (hM : MBm h) (j : Nat) : 0 ≤ h 110 j ∧ h 110 j ≤ 1 := hM 110 j (by decide)
theorem u_110 {h h' : MEM} (hM : MBm h) {j : Nat} {x : Int} (e : h' = up2 h 110 j x) (h0 : 0 ≤ x) (h1 : x ≤ 1) : MBm h' := by subst e; exact hM.up ⟨h0, h1⟩
theorem sh_111 : SH[111]? = some (.inl (0, 8)) := rfl
theorem m_111 {h : MEM} (hM : MBm h) (j : Nat) : (-2147483648) ≤ h 111 j ∧ h 111 j ≤ 2147483647 := hM 111 j (by decide)
theorem u_111 {h h' : MEM} (hM : MBm h) {j : Nat} {x : Int} (e : h' = up2 h 111 j x) (h0 : (-2147483648) ≤ x) (h1 : x ≤ 2147483647) : MBm h' := by subst e; exact hM.up ⟨h0, h1⟩
theorem sh_112 : SH[112]? = some (.inl (0, 64)) := rfl
theorem m_112 {h : MEM} (hM : MBm h) (j : Nat) : (-2147483648) ≤ h 112 j ∧ h 112 j ≤ 2147483647 := hM 112 j (by decide)
theorem u_112 {h h' : MEM} (hM : MBm h) {j : Nat} {x : Int} (e : h' = up2 h 112 j x) (h0 : (-2147483648) ≤ x) (h1 : x ≤ 2147483647) : MBm h' := by subst e; exact hM.up ⟨h0, h1⟩
theorem sh_113 : SH[113]? = some (.inl (0, 64)) := rfl
theorem m_113 {h : MEM} (hM : MBm h) (j : Nat) : (-2147483648) ≤ h 113 j ∧ h 113 j ≤ 2147483647 := hM 113 j (by decide)
theorem u_113 {h h' : MEM} (hM : MBm h) {j : Nat} {x : Int} (e : h' = up2 h 113 j x) (h0 : (-2147483648) ≤ x) (h1 : x ≤ 2147483647) : MBm h' := by subst e; exact hM.up ⟨h0, h1⟩
theorem sh_114 : SH[114]? = some (.inl (2, 100)) := rfl
theorem m_114 {h : MEM} (hM : MBm h) (j : Nat) : 0 ≤ h 114 j ∧ h 114 j ≤ 1 := hM 114 j (by decide)
theorem u_114 {h h' : MEM} (hM : MBm h) {j : Nat} {x : Int} (e : h' = up2 h 114 j x) (h0 : 0 ≤ x) (h1 : x ≤ 1) : MBm h' := by subst e; exact hM.up ⟨h0, h1⟩
theorem sh_115 : SH[115]? = some (.inl (0, 14)) := rfl
theorem m_115 {h : MEM} (hM : MBm h) (j : Nat) : (-2147483648) ≤ h 115 j ∧ h 115 j ≤ 2147483647 := hM 115 j (by decide)
theorem u_115 {h h' : MEM} (hM : MBm h) {j : Nat} {x : Int} (e : h' = up2 h 115 j x) (h0 : (-2147483648) ≤ x) (h1 : x ≤ 2147483647) : MBm h' := by subst e; exact hM.up ⟨h0, h1⟩
theorem sh_116 : SH[116]? = some (.inl (0, 14)) := rfl
theorem m_116 {h : MEM} (hM : MBm h) (j : Nat) : 0 ≤ h 116 j ∧ h 116 j ≤ 200 := hM 116 j (by decide)
theorem u_116 {h h' : MEM} (hM : MBm h) {j : Nat} {x : Int} (e : h' = up2 h 116 j x) (h0 : 0 ≤ x) (h1 : x ≤ 200) : MBm h' := by subst e; exact hM.up ⟨h0, h1⟩
theorem sh_117 : SH[117]? = some (.inl (0, 14)) := rfl
theorem m_117 {h : MEM} (hM : MBm h) (j : Nat) : 0 ≤ h 117 j ∧ h 117 j ≤ 200 := hM 117 j (by decide)
theorem u_117 {h h' : MEM} (hM : MBm h) {j : Nat} {x : Int} (e : h' = up2 h 117 j x) (h0 : 0 ≤ x) (h1 : x ≤ 200) : MBm h' := by subst e; exact hM.up ⟨h0, h1⟩
theorem sh_118 : SH[118]? = some (.inl (0, 14)) := rfl
theorem m_118 {h : MEM} (hM : MBm h) (j : Nat) : 0 ≤ h 118 j ∧ h 118 j ≤ 200 := hM 118 j (by decide)
theorem u_118 {h h' : MEM} (hM : MBm h) {j : Nat} {x : Int} (e : h' = up2 h 118 j x) (h0 : 0 ≤ x) (h1 : x ≤ 200) : MBm h' := by subst e; exact hM.up ⟨h0, h1⟩
theorem sh_119 : SH[119]? = some (.inl (0, 200)) := rfl
theorem m_119 {h : MEM} (hM : MBm h) (j : Nat) : (-2147483648) ≤ h 119 j ∧ h 119 j ≤ 2147483647 := hM 119 j (by decide)
theorem u_119 {h h' : MEM} (hM : MBm h) {j : Nat} {x : Int} (e : h' = up2 h 119 j x) (h0 : (-2147483648) ≤ x) (h1 : x ≤ 2147483647) : MBm h' := by subst e; exact hM.up ⟨h0, h1⟩
theorem sh_120 : SH[120]? = some (.inl (0, 200)) := rfl
theorem m_120 {h : MEM} (hM : MBm h) (j : Nat) : (-2147483648) ≤ h 120 j ∧ h 120 j ≤ 2147483647 := hM 120 j (by decide)
theorem u_120 {h h' : MEM} (hM : MBm h) {j : Nat} {x : Int} (e : h' = up2 h 120 j x) (h0 : (-2147483648) ≤ x) (h1 : x ≤ 2147483647) : MBm h' := by subst e; exact hM.up ⟨h0, h1⟩
theorem sh_121 : SH[121]? = some (.inl (0, 14)) := rfl
theorem m_121 {h : MEM} (hM : MBm h) (j : Nat) : (-2147483648) ≤ h 121 j ∧ h 121 j ≤ 2147483647 := hM 121 j (by decide)
theorem u_121 {h h' : MEM} (hM : MBm h) {j : Nat} {x : Int} (e : h' = up2 h 121 j x) (h0 : (-2147483648) ≤ x) (h1 : x ≤ 2147483647) : MBm h' := by subst e; exact hM.up ⟨h0, h1⟩
theorem sh_122 : SH[122]? = some (.inl (0, 14)) := rfl
theorem m_122 {h : MEM} (hM : MBm h) (j : Nat) : 0 ≤ h 122 j ∧ h 122 j ≤ 200 := hM 122 j (by decide)
theorem u_122 {h h' : MEM} (hM : MBm h) {j : Nat} {x : Int} (e : h' = up2 h 122 j x) (h0 : 0 ≤ x) (h1 : x ≤ 200) : MBm h' := by subst e; exact hM.up ⟨h0, h1⟩
theorem sh_123 : SH[123]? = some (.inl (0, 14)) := rfl
theorem m_123 {h : MEM} (hM : MBm h) (j : Nat) : 0 ≤ h 123 j ∧ h 123 j ≤ 200 := hM 123 j (by decide)
theorem u_123 {h h' : MEM} (hM : MBm h) {j : Nat} {x : Int} (e : h' = up2 h 123 j x) (h0 : 0 ≤ x) (h1 : x ≤ 200) : MBm h' := by subst e; exact hM.up ⟨h0, h1⟩
theorem sh_124 : SH[124]? = some (.inl (0, 14)) := rfl
theorem m_124 {h : MEM} (hM : MBm h) (j : Nat) : 0 ≤ h 124 j ∧ h 124 j ≤ 200 := hM 124 j (by decide)
theorem u_124 {h h' : MEM} (hM : MBm h) {j : Nat} {x : Int} (e : h' = up2 h 124 j x) (h0 : 0 ≤ x) (h1 : x ≤ 200) : MBm h' := by subst e; exact hM.up ⟨h0, h1⟩
theorem sh_125 : SH[125]? = some (.inl (0, 200)) := rfl
theorem m_125 {h : MEM} (hM : MBm h) (j : Nat) : (-2147483648) ≤ h 125 j ∧ h 125 j ≤ 2147483647 := hM 125 j (by decide)
theorem u_125 {h h' : MEM} (hM : MBm h) {j : Nat} {x : Int} (e : h' = up2 h 125 j x) (h0 : (-2147483648) ≤ x) (h1 : x ≤ 2147483647) : MBm h' := by subst e; exact hM.up ⟨h0, h1⟩
theorem sh_126 : SH[126]? = some (.inl (0, 200)) := rfl
theorem m_126 {h : MEM} (hM : MBm h) (j : Nat) : (-2147483648) ≤ h 126 j ∧ h 126 j ≤ 2147483647 := hM 126 j (by decide)
theorem u_126 {h h' : MEM} (hM : MBm h) {j : Nat} {x : Int} (e : h' = up2 h 126 j x) (h0 : (-2147483648) ≤ x) (h1 : x ≤ 2147483647) : MBm h' := by subst e; exact hM.up ⟨h0, h1⟩
theorem sh_127 : SH[127]? = some (.inl (0, 240)) := rfl
theorem m_127 {h : MEM} (hM : MBm h) (j : Nat) : (-2147483648) ≤ h 127 j ∧ h 127 j ≤ 2147483647 := hM 127 j (by decide)
theorem u_127 {h h' : MEM} (hM : MBm h) {j : Nat} {x : Int} (e : h' = up2 h 127 j x) (h0 : (-2147483648) ≤ x) (h1 : x ≤ 2147483647) : MBm h' := by subst e; exact hM.up ⟨h0, h1⟩
theorem sh_128 : SH[128]? = some (.inl (0, 240)) := rfl
theorem m_128 {h : MEM} (hM : MBm h) (j : Nat) : (-2147483648) ≤ h 128 j ∧ h 128 j ≤ 2147483647 := hM 128 j (by decide)
theorem u_128 {h h' : MEM} (hM : MBm h) {j : Nat} {x : Int} (e : h' = up2 h 128 j x) (h0 : (-2147483648) ≤ x) (h1 : x ≤ 2147483647) : MBm h' := by subst e; exact hM.up ⟨h0, h1⟩
theorem sh_129 : SH[129]? = some (.inl (2, 240)) := rfl
theorem m_129 {h : MEM} (hM : MBm h) (j : Nat) : 0 ≤ h 129 j ∧ h 129 j ≤ 1 := hM 129 j (by decide)
theorem u_129 {h h' : MEM} (hM : MBm h) {j : Nat} {x : Int} (e : h' = up2 h 129 j x) (h0 : 0 ≤ x) (h1 : x ≤ 1) : MBm h' := by subst e; exact hM.up ⟨h0, h1⟩
theorem sh_130 : SH[130]? = some (.inl (0, 20)) := rfl
theorem m_130 {h : MEM} (hM : MBm h) (j : Nat) : (-2147483648) ≤ h 130 j ∧ h 130 j ≤ 2147483647 := hM 130 j (by decide)
theorem u_130 {h h' : MEM} (hM : MBm h) {j : Nat} {x : Int} (e : h' = up2 h 130 j x) (h0 : (-2147483648) ≤ x) (h1 : x ≤ 2147483647) : MBm h' := by subst e; exact hM.up ⟨h0, h1⟩
theorem sh_131 : SH[131]? = some (.inl (0, 20)) := rfl
theorem m_131 {h : MEM} (hM : MBm h) (j : Nat) : (-2147483648) ≤ h 131 j ∧ h 131 j ≤ 2147483647 := hM 131 j (by decide)
theorem u_131 {h h' : MEM} (hM : MBm h) {j : Nat} {x : Int} (e : h' = up2 h 131 j x) (h0 : (-2147483648) ≤ x) (h1 : x ≤ 2147483647) : MBm h' := by subst e; exact hM.up ⟨h0, h1⟩
theorem sh_132 : SH[132]? = some (.inl (0, 20)) := rfl
theorem m_132 {h : MEM} (hM : MBm h) (j : Nat) : (-2147483648) ≤ h 132 j ∧ h 132 j ≤ 2147483647 := hM 132 j (by decide)
theorem u_132 {h h' : MEM} (hM : MBm h) {j : Nat} {x : Int} (e : h' = up2 h 132 j x) (h0 : (-2147483648) ≤ x) (h1 : x ≤ 2147483647) : MBm h' := by subst e; exact hM.up ⟨h0, h1⟩
theorem sh_133 : SH[133]? = some (.inl (0, 16)) := rfl
theorem m_133 {h : MEM} (hM : MBm h) (j : Nat) : 0 ≤ h 133 j ∧ h 133 j ≤ 10 := hM 133 j (by decide)
theorem u_133 {h h' : MEM} (hM : MBm h) {j : Nat} {x : Int} (e : h' = up2 h 133 j x) (h0 : 0 ≤ x) (h1 : x ≤ 10) : MBm h' := by subst e; exact hM.up ⟨h0, h1⟩
theorem sh_134 : SH[134]? = some (.inl (0, 16)) := rfl
theorem m_134 {h : MEM} (hM : MBm h) (j : Nat) : (-2147483648) ≤ h 134 j ∧ h 134 j ≤ 2147483647 := hM 134 j (by decide)
theorem u_134 {h h' : MEM} (hM : MBm h) {j : Nat} {x : Int} (e : h' = up2 h 134 j x) (h0 : (-2147483648) ≤ x) (h1 : x ≤ 2147483647) : MBm h' := by subst e; exact hM.up ⟨h0, h1⟩
theorem sh_135 : SH[135]? = some (.inl (0, 80)) := rfl
theorem m_135 {h : MEM} (hM : MBm h) (j : Nat) : (-2147483648) ≤ h 135 j ∧ h 135 j ≤ 2147483647 := hM 135 j (by decide)
theorem u_135 {h h' : MEM} (hM : MBm h) {j : Nat} {x : Int} (e : h' = up2 h 135 j x) (h0 : (-2147483648) ≤ x) (h1 : x ≤ 2147483647) : MBm h' := by subst e; exact hM.up ⟨h0, h1⟩
theorem sh_136 : SH[136]? = some (.inl (2, 16)) := rfl
theorem m_136 {h : MEM} (hM : MBm h) (j : Nat) : 0 ≤ h 136 j ∧ h 136 j ≤ 1 := hM 136 j (by decide)
theorem u_136 {h h' : MEM} (hM : MBm h) {j : Nat} {x : Int} (e : h' = up2 h 136 j x) (h0 : 0 ≤ x) (h1 : x ≤ 1) : MBm h' := by subst e; exact hM.up ⟨h0, h1⟩
theorem sh_137 : SH[137]? = some (.inl (0, 16)) := rfl
theorem m_137 {h : MEM} (hM : MBm h) (j : Nat) : (-2147483648) ≤ h 137 j ∧ h 137 j ≤ 2147483647 := hM 137 j (by decide)
theorem u_137 {h h' : MEM} (hM : MBm h) {j : Nat} {x : Int} (e : h' = up2 h 137 j x) (h0 : (-2147483648) ≤ x) (h1 : x ≤ 2147483647) : MBm h' := by subst e; exact hM.up ⟨h0, h1⟩
theorem sh_138 : SH[138]? = some (.inl (0, 16)) := rfl
theorem m_138 {h : MEM} (hM : MBm h) (j : Nat) : 0 ≤ h 138 j ∧ h 138 j ≤ 4 := hM 138 j (by decide)
theorem u_138 {h h' : MEM} (hM : MBm h) {j : Nat} {x : Int} (e : h' = up2 h 138 j x) (h0 : 0 ≤ x) (h1 : x ≤ 4) : MBm h' := by subst e; exact hM.up ⟨h0, h1⟩
theorem sh_139 : SH[139]? = some (.inl (0, 16)) := rfl
theorem m_139 {h : MEM} (hM : MBm h) (j : Nat) : (-2147483648) ≤ h 139 j ∧ h 139 j ≤ 2147483647 := hM 139 j (by decide)
theorem u_139 {h h' : MEM} (hM : MBm h) {j : Nat} {x : Int} (e : h' = up2 h 139 j x) (h0 : (-2147483648) ≤ x) (h1 : x ≤ 2147483647) : MBm h' := by subst e; exact hM.up ⟨h0, h1⟩
theorem sh_140 : SH[140]? = some (.inl (2, 16)) := rfl
theorem m_140 {h : MEM} (hM : MBm h) (j : Nat) : 0 ≤ h 140 j ∧ h 140 j ≤ 1 := hM 140 j (by decide)
theorem u_140 {h h' : MEM} (hM : MBm h) {j : Nat} {x : Int} (e : h' = up2 h 140 j x) (h0 : 0 ≤ x) (h1 : x ≤ 1) : MBm h' := by subst e; exact hM.up ⟨h0, h1⟩
theorem sh_141 : SH[141]? = some (.inl (0, 16)) := rfl
theorem m_141 {h : MEM} (hM : MBm h) (j : Nat) : (-2147483648) ≤ h 141 j ∧ h 141 j ≤ 2147483647 := hM 141 j (by decide)
theorem u_141 {h h' : MEM} (hM : MBm h) {j : Nat} {x : Int} (e : h' = up2 h 141 j x) (h0 : (-2147483648) ≤ x) (h1 : x ≤ 2147483647) : MBm h' := by subst e; exact hM.up ⟨h0, h1⟩
theorem sh_142 : SH[142]? = some (.inl (0, 128)) := rfl
theorem m_142 {h : MEM} (hM : MBm h) (j : Nat) : (-2147483648) ≤ h 142 j ∧ h 142 j ≤ 2147483647 := hM 142 j (by decide)
theorem u_142 {h h' : MEM} (hM : MBm h) {j : Nat} {x : Int} (e : h' = up2 h 142 j x) (h0 : (-2147483648) ≤ x) (h1 : x ≤ 2147483647) : MBm h' := by subst e; exact hM.up ⟨h0, h1⟩
theorem sh_143 : SH[143]? = some (.inl (0, 128)) := rfl
theorem m_143 {h : MEM} (hM : MBm h) (j : Nat) : (-2147483648) ≤ h 143 j ∧ h 143 j ≤ 2147483647 := hM 143 j (by decide)
theorem u_143 {h h' : MEM} (hM : MBm h) {j : Nat} {x : Int} (e : h' = up2 h 143 j x) (h0 : (-2147483648) ≤ x) (h1 : x ≤ 2147483647) : MBm h' := by subst e; exact hM.up ⟨h0, h1⟩
theorem sh_144 : SH[144]? = some (.inl (2, 200)) := rfl
theorem m_144 {h : MEM} (hM : MBm h) (j : Nat) : 0 ≤ h 144 j ∧ h 144 j ≤ 1 := hM 144 j (by decide)
theorem u_144 {h h' : MEM} (hM : MBm h) {j : Nat} {x : Int} (e : h' = up2 h 144 j x) (h0 : 0 ≤ x) (h1 : x ≤ 1) : MBm h' := by subst e; exact hM.up ⟨h0, h1⟩
theorem sh_145 : SH[145]? = some (.inl (0, 12)) := rfl
theorem m_145_0 {h : MEM} (hM : MBm h) : 0 ≤ h 145 0 ∧ h 145 0 ≤ 10 := hM 145 0 (by decide)
theorem u_145_0 {h h' : MEM} (hM : MBm h) {x : Int} (e : h' = up2 h 145 0 x) (h0 : 0 ≤ x) (h1 : x ≤ 10) : MBm h' := by subst e; exact hM.up ⟨h0, h1⟩
theorem m_145_1 {h : MEM} (hM : MBm h) : 0 ≤ h 145 1 ∧ h 145 1 ≤ 8 := hM 145 1 (by decide)
theorem u_145_1 {h h' : MEM} (hM : MBm h) {x : Int} (e : h' = up2 h 145 1 x) (h0 : 0 ≤ x) (h1 : x ≤ 8) : MBm h' := by subst e; exact hM.up ⟨h0, h1⟩
theorem m_145_2 {h : MEM} (hM : MBm h) : 0 ≤ h 145 2 ∧ h 145 2 ≤ 8 := hM 145 2 (by decide)
theorem u_145_2 {h h' : MEM} (hM : MBm h) {x : Int} (e : h' = up2 h 145 2 x) (h0 : 0 ≤ x) (h1 : x ≤ 8) : MBm h' := by subst e; exact hM.up ⟨h0, h1⟩
theorem m_145_3 {h : MEM} (hM : MBm h) : 0 ≤ h 145 3 ∧ h 145 3 ≤ 2000000000 := hM 145 3 (by decide)
theorem u_145_3 {h h' : MEM} (hM : MBm h) {x : Int} (e : h' = up2 h 145 3 x) (h0 : 0 ≤ x) (h1 : x ≤ 2000000000) : MBm h' := by subst e; exact hM.up ⟨h0, h1⟩
theorem m_145_4 {h : MEM} (hM : MBm h) : 0 ≤ h 145 4 ∧ h 145 4 ≤ 65535 := hM 145 4 (by decide)
theorem u_145_4 {h h' : MEM} (hM : MBm h) {x : Int} (e : h' = up2 h 145 4 x) (h0 : 0 ≤ x) (h1 : x ≤ 65535) : MBm h' := by subst e; exact hM.up ⟨h0, h1⟩
theorem m_145_5 {h : MEM} (hM : MBm h) : (-2147483648) ≤ h 145 5 ∧ h 145 5 ≤ 2147483647 := hM 145 5 (by decide)
theorem u_145_5 {h h' : MEM} (hM : MBm h) {x : Int} (e : h' = up2 h 145 5 x) (h0 : (-2147483648) ≤ x) (h1 : x ≤ 2147483647) : MBm h' := by subst e; exact hM.up ⟨h0, h1⟩
theorem m_145_6 {h : MEM} (hM : MBm h) : 0 ≤ h 145 6 ∧ h 145 6 ≤ 10 := hM 145 6 (by decide)
theorem u_145_6 {h h' : MEM} (hM : MBm h) {x : Int} (e : h' = up2 h 145 6 x) (h0 : 0 ≤ x) (h1 : x ≤ 10) : MBm h' := by subst e; exact hM.up ⟨h0, h1⟩
theorem m_145_7 {h : MEM} (hM : MBm h) : 0 ≤ h 145 7 ∧ h 145 7 ≤ 8 := hM 145 7 (by decide)
theorem u_145_7 {h h' : MEM} (hM : MBm h) {x : Int} (e : h' = up2 h 145 7 x) (h0 : 0 ≤ x) (h1 : x ≤ 8) : MBm h' := by subst e; exact hM.up ⟨h0, h1⟩
theorem m_145_8 {h : MEM} (hM : MBm h) : 0 ≤ h 145 8 ∧ h 145 8 ≤ 8 := hM 145 8 (by decide)
theorem u_145_8 {h h' : MEM} (hM : MBm h) {x : Int} (e : h' = up2 h 145 8 x) (h0 : 0 ≤ x) (h1 : x ≤ 8) : MBm h' := by subst e; exact hM.up ⟨h0, h1⟩
theorem m_145_9 {h : MEM} (hM : MBm h) : 0 ≤ h 145 9 ∧ h 145 9 ≤ 2000000000 := hM 145 9 (by decide)
theorem u_145_9 {h h' : MEM} (hM : MBm h) {x : Int} (e : h' = up2 h 145 9 x) (h0 : 0 ≤ x) (h1 : x ≤ 2000000000) : MBm h' := by subst e; exact hM.up ⟨h0, h1⟩
theorem m_145_10 {h : MEM} (hM : MBm h) : 0 ≤ h 145 10 ∧ h 145 10 ≤ 65535 := hM 145 10 (by decide)
theorem u_145_10 {h h' : MEM} (hM : MBm h) {x : Int} (e : h' = up2 h 145 10 x) (h0 : 0 ≤ x) (h1 : x ≤ 65535) : MBm h' := by subst e; exact hM.up ⟨h0, h1⟩
theorem m_145_11 {h : MEM} (hM : MBm h) : (-2147483648) ≤ h 145 11 ∧ h 145 11 ≤ 2147483647 := hM 145 11 (by decide)
theorem u_145_11 {h h' : MEM} (hM : MBm h) {x : Int} (e : h' = up2 h 145 11 x) (h0 : (-2147483648) ≤ x) (h1 : x ≤ 2147483647) : MBm h' := by subst e; exact hM.up ⟨h0, h1⟩
theorem sh_146 : SH[146]? = some (.inl (0, 8)) := rfl
theorem m_146 {h : MEM} (hM : MBm h) (j : Nat) : 0 ≤ h 146 j ∧ h 146 j ≤ 7 := hM 146 j (by decide)
theorem u_146 {h h' : MEM} (hM : MBm h) {j : Nat} {x : Int} (e : h' = up2 h 146 j x) (h0 : 0 ≤ x) (h1 : x ≤ 7) : MBm h' := by subst e; exact hM.up ⟨h0, h1⟩
theorem sh_147 : SH[147]? = some (.inl (0, 2304)) := rfl
theorem m_147 {h : MEM} (hM : MBm h) (j : Nat) : (-2147483648) ≤ h 147 j ∧ h 147 j ≤ 2147483647 := hM 147 j (by decide)
theorem u_147 {h h' : MEM} (hM : MBm h) {j : Nat} {x : Int} (e : h' = up2 h 147 j x) (h0 : (-2147483648) ≤ x) (h1 : x ≤ 2147483647) : MBm h' := by subst e; exact hM.up ⟨h0, h1⟩
theorem sh_148 : SH[148]? = some (.inl (0, 16)) := rfl
theorem m_148 {h : MEM} (hM : MBm h) (j : Nat) : (-2147483648) ≤ h 148 j ∧ h 148 j ≤ 2147483647 := hM 148 j (by decide)
theorem u_148 {h h' : MEM} (hM : MBm h) {j : Nat} {x : Int} (e : h' = up2 h 148 j x) (h0 : (-2147483648) ≤ x) (h1 : x ≤ 2147483647) : MBm h' := by subst e; exact hM.up ⟨h0, h1⟩
theorem sh_149 : SH[149]? = some (.inl (0, 128)) := rfl
theorem m_149 {h : MEM} (hM : MBm h) (j : Nat) : (-2147483648) ≤ h 149 j ∧ h 149 j ≤ 2147483647 := hM 149 j (by decide)
theorem u_149 {h h' : MEM} (hM : MBm h) {j : Nat} {x : Int} (e : h' = up2 h 149 j x) (h0 : (-2147483648) ≤ x) (h1 : x ≤ 2147483647) : MBm h' := by subst e; exact hM.up ⟨h0, h1⟩
theorem sh_150 : SH[150]? = some (.inl (0, 8)) := rfl
theorem m_150 {h : MEM} (hM : MBm h) (j : Nat) : (-2147483648) ≤ h 150 j ∧ h 150 j ≤ 2147483647 := hM 150 j (by decide)
theorem u_150 {h h' : MEM} (hM : MBm h) {j : Nat} {x : Int} (e : h' = up2 h 150 j x) (h0 : (-2147483648) ≤ x) (h1 : x ≤ 2147483647) : MBm h' := by subst e; exact hM.up ⟨h0, h1⟩
section CONTR
def CI (y : MethodName) (cc : ByteArray) (nL : Nat) (ret : Option FieldType) (d : Nat) (av : List PV) (h : MEM) (Q : Int → MEM → Prop) : Prop :=
  Ctr y cc nL ret (d, 60 * d, 0, 0) (fun av' sh' h' => av' = av ∧ sh' = SH ∧ h' = h) (fun _ _ _ r sh' h' => ∃ x, r = some (pI x) ∧ sh' = SH ∧ Q x h')
def CP (y : MethodName) (cc : ByteArray) (nL : Nat) (ret : Option FieldType) (d : Nat) (av : List PV) (h : MEM) (Q : Int → Prop) : Prop := CI y cc nL ret d av h (fun x h' => h' = h ∧ Q x)
def CV (y : MethodName) (cc : ByteArray) (nL : Nat) (ret : Option FieldType) (d : Nat) (av : List PV) (h : MEM) (Q : MEM → Prop) : Prop :=
  Ctr y cc nL ret (d, 60 * d, 0, 0) (fun av' sh' h' => av' = av ∧ sh' = SH ∧ h' = h) (fun _ _ _ r sh' h' => r = none ∧ sh' = SH ∧ Q h')
theorem CI.of {y : MethodName} {cc : ByteArray} {nL : Nat} {ret : Option FieldType} {d : Nat} {av : List PV} {h : MEM} {Q : Int → MEM → Prop} {L0 : List (Option PV)} (hy : plainName y.cls = true) (hlen : (argL av).length ≤ nL) (hL : argN nL av = L0)
    (hb : ∀ Po : Option PV → List SE → MEM → Prop, (∀ x h', Q x h' → Po (some (pI x)) SH h') → (∀ v ∈ av, okV SH.length v) → G y cc nL ret none Po (d, 60 * d, 0, 0) 0 L0 [] SH h 0 0) : CI y cc nL ret d av h Q := by
  refine Ctr.of hy (fun av' sh' h' hp hH hav => ?_)
  obtain ⟨rfl, rfl, rfl⟩ := hp
  refine ⟨hlen, ?_⟩
  rw [hL]
  exact hb _ (fun x h' hq => ⟨x, rfl, rfl, hq⟩) hav
theorem CP.of {y : MethodName} {cc : ByteArray} {nL : Nat} {ret : Option FieldType} {d : Nat} {av : List PV} {h : MEM} {Q : Int → Prop} {L0 : List (Option PV)} (hy : plainName y.cls = true) (hlen : (argL av).length ≤ nL) (hL : argN nL av = L0)
    (hb : ∀ Po : Option PV → List SE → MEM → Prop, (∀ x, Q x → Po (some (pI x)) SH h) → (∀ v ∈ av, okV SH.length v) → G y cc nL ret none Po (d, 60 * d, 0, 0) 0 L0 [] SH h 0 0) : CP y cc nL ret d av h Q :=
  CI.of hy hlen hL (fun Po hPo hav => hb Po (fun x hq => hPo x h ⟨rfl, hq⟩) hav)
theorem CV.of {y : MethodName} {cc : ByteArray} {nL : Nat} {ret : Option FieldType} {d : Nat} {av : List PV} {h : MEM} {Q : MEM → Prop} {L0 : List (Option PV)} (hy : plainName y.cls = true) (hlen : (argL av).length ≤ nL) (hL : argN nL av = L0)
    (hb : ∀ Po : Option PV → List SE → MEM → Prop, (∀ h', Q h' → Po none SH h') → (∀ v ∈ av, okV SH.length v) → G y cc nL ret none Po (d, 60 * d, 0, 0) 0 L0 [] SH h 0 0) : CV y cc nL ret d av h Q := by
  refine Ctr.of hy (fun av' sh' h' hp hH hav => ?_)
  obtain ⟨rfl, rfl, rfl⟩ := hp
  refine ⟨hlen, ?_⟩
  rw [hL]
  exact hb _ (fun h' hq => ⟨rfl, rfl, hq⟩) hav
variable {y : MethodName} {cc : ByteArray} {nL : Nat} {ret : Option FieldType} {scr : Option (List Int)} {Po : Option PV → List SE → MEM → Prop} {Bd : Nat × Nat × Nat × Nat} {pc : Nat} {L : List (Option PV)} {S : List PV} {h : MEM} {cs sl : Nat}
variable {y' : MethodName} {cc' : ByteArray} {nL' : Nat} {ret' : Option FieldType} {d' idx n : Nat} {av S0 : List PV}
theorem g_cV {ci b : Nat} {rs : List Bool} {T : u_T} {N : Nat} {as : List PV} {Q : Int → MEM → Prop} (C : CI y' cc' nL' ret' d' (pR b :: as) h Q) (hd : decode cc pc = .ok (.invokevirtual idx, 3)) (hM : MQI y' cc' nL' ret' n) (hin : Cond.instanceMethod y' ∈ TW) (hse : Cond.selects y'.cls y' y' ∈ TW) (hl : Cond.methodLink y.cls idx y' ∈ TW) (hR : roomLe Bd (d', 60 * d', 0, 0) nL' cs sl = true) (hn : as.length = n) (hx : as.all notX = true) (he : SH[b]? = some (.inr (ci, rs))) (hc0 : vwCl[ci]? = some (y'.cls, T, N)) (hS0 : S0 = as.reverse ++ pR b :: S) (hcat : catS S ≤ 8)
    (k : ∀ (x : Int) (h' : MEM), Q x h' → G y cc nL ret scr Po Bd (pc + 3) L (pI x :: S) SH h' cs sl) : G y cc nL ret scr Po Bd pc L S0 SH h cs sl :=
  g_callV C hd hM hin hse hl hR hn hx he hc0 hS0 hcat (fun _ _ => ⟨rfl, rfl, rfl⟩) (fun r sh' h' hp _ => by obtain ⟨x, rfl, rfl, hq⟩ := hp; exact k x h' hq)
theorem g_cVP {ci b : Nat} {rs : List Bool} {T : u_T} {N : Nat} {as : List PV} {Q : Int → Prop} (C : CP y' cc' nL' ret' d' (pR b :: as) h Q) (hd : decode cc pc = .ok (.invokevirtual idx, 3)) (hM : MQI y' cc' nL' ret' n) (hin : Cond.instanceMethod y' ∈ TW) (hse : Cond.selects y'.cls y' y' ∈ TW) (hl : Cond.methodLink y.cls idx y' ∈ TW) (hR : roomLe Bd (d', 60 * d', 0, 0) nL' cs sl = true) (hn : as.length = n) (hx : as.all notX = true) (he : SH[b]? = some (.inr (ci, rs))) (hc0 : vwCl[ci]? = some (y'.cls, T, N)) (hS0 : S0 = as.reverse ++ pR b :: S) (hcat : catS S ≤ 8)
    (k : ∀ (x : Int), Q x → G y cc nL ret scr Po Bd (pc + 3) L (pI x :: S) SH h cs sl) : G y cc nL ret scr Po Bd pc L S0 SH h cs sl :=
  g_cV C hd hM hin hse hl hR hn hx he hc0 hS0 hcat (fun x h' hq => by obtain ⟨rfl, hq⟩ := hq; exact k x hq)
theorem g_cVV {ci b : Nat} {rs : List Bool} {T : u_T} {N : Nat} {as : List PV} {Q : MEM → Prop} (C : CV y' cc' nL' ret' d' (pR b :: as) h Q) (hd : decode cc pc = .ok (.invokevirtual idx, 3)) (hM : MQI y' cc' nL' ret' n) (hin : Cond.instanceMethod y' ∈ TW) (hse : Cond.selects y'.cls y' y' ∈ TW) (hl : Cond.methodLink y.cls idx y' ∈ TW) (hR : roomLe Bd (d', 60 * d', 0, 0) nL' cs sl = true) (hn : as.length = n) (hx : as.all notX = true) (he : SH[b]? = some (.inr (ci, rs))) (hc0 : vwCl[ci]? = some (y'.cls, T, N)) (hS0 : S0 = as.reverse ++ pR b :: S) (hcat : catS S ≤ 8)
    (k : ∀ (h' : MEM), Q h' → G y cc nL ret scr Po Bd (pc + 3) L S SH h' cs sl) : G y cc nL ret scr Po Bd pc L S0 SH h cs sl :=
  g_callV C hd hM hin hse hl hR hn hx he hc0 hS0 hcat (fun _ _ => ⟨rfl, rfl, rfl⟩) (fun r sh' h' hp _ => by obtain ⟨rfl, rfl, hq⟩ := hp; exact k h' hq)
theorem g_cS {Q : Int → MEM → Prop} (C : CI y' cc' nL' ret' d' av h Q) (hd : decode cc pc = .ok (.invokestatic idx, 3)) (hM : MQI y' cc' nL' ret' n) (hst : Cond.static y' ∈ TW) (hl : Cond.methodLink y.cls idx y' ∈ TW) (hR : roomLe Bd (d', 60 * d', 0, 0) nL' cs sl = true) (hn : av.length = n) (hx : av.all notX = true) (hS0 : S0 = av.reverse ++ S) (hcat : catS S ≤ 8)
    (k : ∀ (x : Int) (h' : MEM), Q x h' → G y cc nL ret scr Po Bd (pc + 3) L (pI x :: S) SH h' cs sl) : G y cc nL ret scr Po Bd pc L S0 SH h cs sl :=
  g_callS C hd hM hst hl hR hn hx hS0 hcat (fun _ _ => ⟨rfl, rfl, rfl⟩) (fun r sh' h' hp _ => by obtain ⟨x, rfl, rfl, hq⟩ := hp; exact k x h' hq)
theorem g_cSP {Q : Int → Prop} (C : CP y' cc' nL' ret' d' av h Q) (hd : decode cc pc = .ok (.invokestatic idx, 3)) (hM : MQI y' cc' nL' ret' n) (hst : Cond.static y' ∈ TW) (hl : Cond.methodLink y.cls idx y' ∈ TW) (hR : roomLe Bd (d', 60 * d', 0, 0) nL' cs sl = true) (hn : av.length = n) (hx : av.all notX = true) (hS0 : S0 = av.reverse ++ S) (hcat : catS S ≤ 8)
    (k : ∀ (x : Int), Q x → G y cc nL ret scr Po Bd (pc + 3) L (pI x :: S) SH h cs sl) : G y cc nL ret scr Po Bd pc L S0 SH h cs sl :=
  g_cS C hd hM hst hl hR hn hx hS0 hcat (fun x h' hq => by obtain ⟨rfl, hq⟩ := hq; exact k x hq)
theorem g_cVVP {ci b : Nat} {rs : List Bool} {T : u_T} {N : Nat} {as : List PV} (C : CV y' cc' nL' ret' d' (pR b :: as) h (fun h' => h' = h)) (hd : decode cc pc = .ok (.invokevirtual idx, 3)) (hM : MQI y' cc' nL' ret' n) (hin : Cond.instanceMethod y' ∈ TW) (hse : Cond.selects y'.cls y' y' ∈ TW) (hl : Cond.methodLink y.cls idx y' ∈ TW) (hR : roomLe Bd (d', 60 * d', 0, 0) nL' cs sl = true) (hn : as.length = n) (hx : as.all notX = true) (he : SH[b]? = some (.inr (ci, rs))) (hc0 : vwCl[ci]? = some (y'.cls, T, N)) (hS0 : S0 = as.reverse ++ pR b :: S) (hcat : catS S ≤ 8)
    (k : True → G y cc nL ret scr Po Bd (pc + 3) L S SH h cs sl) : G y cc nL ret scr Po Bd pc L S0 SH h cs sl :=
  g_cVV C hd hM hin hse hl hR hn hx he hc0 hS0 hcat (fun h' hq => by subst hq; exact k trivial)
theorem g_cSV {Q : MEM → Prop} (C : CV y' cc' nL' ret' d' av h Q) (hd : decode cc pc = .ok (.invokestatic idx, 3)) (hM : MQI y' cc' nL' ret' n) (hst : Cond.static y' ∈ TW) (hl : Cond.methodLink y.cls idx y' ∈ TW) (hR : roomLe Bd (d', 60 * d', 0, 0) nL' cs sl = true) (hn : av.length = n) (hx : av.all notX = true) (hS0 : S0 = av.reverse ++ S) (hcat : catS S ≤ 8)
    (k : ∀ (h' : MEM), Q h' → G y cc nL ret scr Po Bd (pc + 3) L S SH h' cs sl) : G y cc nL ret scr Po Bd pc L S0 SH h cs sl :=
  g_callS C hd hM hst hl hR hn hx hS0 hcat (fun _ _ => ⟨rfl, rfl, rfl⟩) (fun r sh' h' hp _ => by obtain ⟨rfl, rfl, hq⟩ := hp; exact k h' hq)
end CONTR
theorem lsw_k {ps : List (Int × Int)} {d x k off : Int} (q : x = k) (h : Op.lookupswitch.offset ps d k = off) : Op.lookupswitch.offset ps d x = off := by rw [q]; exact h
