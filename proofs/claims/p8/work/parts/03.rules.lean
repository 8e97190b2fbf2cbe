/-! ===== G: from a pure state the machine comes to the method's end with Po ===== -/
def TW : List Cond := lw_tbl.filter goodWord
theorem inTW {w : Cond} (h : w ∈ lw_tbl) (hg : goodWord w = true) : w ∈ TW := List.mem_filter.mpr ⟨h, hg⟩
theorem good_TW : GoodIn TW TW := fun w h => ⟨h, good_of_word (List.mem_filter.mp h).2⟩
/-- the nest's links: own class, place, method -/
def nestL : List (String × Nat × MethodName) := [(RX11, 9, yX9_init), (RX9, 11, yX6_init), (RX9, 20, yX0_init), (RX9, 27, yX4_init), (RX11, 24, yX10_init), (RX11, 34, yX5_init), (RX11, 41, yX7_init), (RX11, 48, yX3_init), (RX11, 55, yX8_init), (RX11, 62, yX1_init), (RX11, 69, yX2_init)]
def aTys (cA : Nat → ClassId) : List (ClassId × FieldType) := [(cA 0, .int), (cA 1, .byte), (cA 2, .boolean)]
/-- what a method knows of the machine's tables beside the words -/
def KK (D : va_G) (cA : Nat → ClassId) (U : State) : Prop := va_K D vwCl (aTys cA) U ∧ ∀ w ∈ nestL, va_Nw (.methodLinkNest w.1 w.2.1 w.2.2 "SlateSchool") U
theorem KK.warm {D : va_G} {cA : Nat → ClassId} {s U : State} (hW : s.WarmedH U.vm) (h : KK D cA s) : KK D cA U := ⟨va_K.moved hW.alike h.1, fun w hw => va_Nw.warmM hW (h.2 w hw)⟩
theorem KK.same {D : va_G} {cA : Nat → ClassId} {s U : State} (hv : s.vm = U.vm) (h : KK D cA s) : KK D cA U :=
  ⟨va_K.moved (by rw [hv]; exact Vm.Alike.refl U.vm) h.1, fun w hw => va_Nw.same rfl hv (h.2 w hw)⟩
/-- the world: the cells of the shape, apart, what else there was is as it was -/
def Wd (D : va_G) (cA : Nat → ClassId) (n0 : Nat) (ad0 : Nat → Nat) (A : Nat → Prop) (s : State) (sh : List SE) (h : MEM) (ad : Nat → Nat) (H : Heap) (locs : List Loc) : Prop :=
  va_P D vwCl (rep ad cA sh h) H ∧ va_D A (rep ad cA sh h) ∧ va_S A s.heap H locs ∧ okH sh h ∧ n0 ≤ sh.length ∧ ∀ a, a < n0 → ad a = ad0 a
def okL (n : Nat) (ad : Nat → Nat) (ext : Value) (nL : Nat) (L : List (Option PV)) (ls : Array Slot) : Prop :=
  ls.size = nL ∧ lv_wf ls ∧ L.length = nL ∧ ∀ (i : Nat) (v : PV), L[i]? = some (some v) → okV n v ∧ ls[i]? = some (.val (pvv ad ext v))
def isRet (cc : ByteArray) (pc : Nat) (r : Option PV) : Prop := match r with
  | none => decode cc pc = .ok (.return_, 1)
  | some (.inl _) => decode cc pc = .ok (.ireturn, 1)
  | _ => False
def retOK (ret : Option FieldType) (r : Option PV) : Prop := match r with
  | none => ret = none
  | some (.inl x) => ∃ ty, ret = some ty ∧ narrow ty (.int (Int32.ofInt x)) = .int (Int32.ofInt x)
  | _ => False
/-! the String constants that the class reads, and the JDK's COMPACT_STRINGS: old cells, outside the world -/
def lenS : List Nat := [4, 12, 3]
def bytS : List (List Int32) := [[109, 102, 108, 100], [97, 103, 115, 111, 113, 110, 101, 116, 119, 98, 107, 104], [60, 62, 61]]
def STR (A : Nat → Prop) (U : State) (H : Heap) : Prop := ∃ adK adV : Nat → Nat, vk_S 3 lenS bytS adK adV A U H ∧ vk_R RX5 64 "mfld" (adK 0) U ∧ vk_R RX5 115 "agsoqnetwbkh" (adK 1) U ∧ vk_R RX5 103 "<>=" (adK 2) U ∧ va_Z "java/lang/String" "COMPACT_STRINGS" "Z" (.int 1) A U H
theorem STR.kept {A : Nat → Prop} {U : State} {H H1 : Heap} (h : STR A U H) (hq : ∀ a : Nat, a < H.size → ¬ A a → H1[a]? = H[a]?) : STR A U H1 := by
  obtain ⟨k, v, h1, h2, h3, h4, h5⟩ := h
  exact ⟨k, v, h1.kept hq, h2, h3, h4, h5.kept hq⟩
theorem STR.narrow {A B : Nat → Prop} {U : State} {H : Heap} (h : STR A U H) (hAB : ∀ q, B q → A q) : STR B U H := by
  obtain ⟨k, v, h1, h2, h3, h4, h5⟩ := h
  exact ⟨k, v, h1.narrow hAB, h2, h3, h4, h5.narrow hAB⟩
theorem STR.same {A : Nat → Prop} {u U : State} {H : Heap} (hv : u.vm = U.vm) (h : STR A u H) : STR A U H := by
  obtain ⟨k, v, h1, h2, h3, h4, h5⟩ := h
  have ha : u.vm.Alike U.vm := by rw [hv]; exact Vm.Alike.refl U.vm
  exact ⟨k, v, h1.moved ha, vk_R.same hv.symm h2, vk_R.same hv.symm h3, vk_R.same hv.symm h4, h5.moved ha⟩
theorem STR.warm {A : Nat → Prop} {s U : State} {H : Heap} (hW : s.WarmedH U.vm) (h : STR A s H) : STR A U H := by
  obtain ⟨k, v, h1, h2, h3, h4, h5⟩ := h
  exact ⟨k, v, h1.moved hW.alike, vk_R.warm hW h2, vk_R.warm hW h3, vk_R.warm hW h4, h5.moved hW.alike⟩
/-- the script, outside the world -/
def ScrOK (scr : Option (List Int)) (ext : Value) (s : State) (A : Nat → Prop) : Prop := match scr with
  | none => ext = .null
  | some xs => ∃ b, ext = .ref b ∧ va_X b xs.length (fun j => Int32.ofInt (xs.getD j 0)) s s.heap ∧ b < s.heap.size ∧ ¬ A b ∧ (∀ x ∈ xs, inR x) ∧ xs.length ≤ 3072
def Cx (y : MethodName) (cc : ByteArray) (nL : Nat) (ret : Option FieldType) (scr : Option (List Int)) (Po : Option PV → List SE → MEM → Prop) (Bd : Nat × Nat × Nat × Nat)
    (p : Program) (l : Launch) (e : Jvm.Env) (R : Room) (s : State) (m : MethodId) (args : Array Value) (below : List Frame) (meth : Method) (c : Code) (Q : State → Prop) (D : va_G) (cA : Nat → ClassId) (ext : Value) (n0 : Nat) (ad0 : Nat → Nat) (A : Nat → Prop) : Prop :=
  p.tables.exec = Jvm.exec ∧ c.code = cc ∧ c.maxLocals = nL ∧ s.vm.findClass y.cls = some m.cls ∧ (∀ w ∈ TW, w.before args s = true) ∧ (y.name = "<init>" → meth.name = "<init>") ∧ KK D cA s ∧
  (R.frames = Bd.1 ∧ R.locals = Bd.2.1 ∧ R.cells = Bd.2.2.1 ∧ R.slots = Bd.2.2.2) ∧ (∀ q, s.heap.size ≤ q → A q) ∧ (ScrOK scr ext s A ∧ STR A s s.heap) ∧
  ∀ (r : Option PV) (pc : Nat) (ls : Array Slot) (H : Heap) (locs : List Loc) (cs sl : Nat) (ad : Nat → Nat) (sh : List SE) (h : MEM), isRet cc pc r → retOK ret r → Po r sh h → (∀ v ∈ r, okV sh.length v) → Wd D cA n0 ad0 A s sh h ad H locs → cs ≤ R.cells → sl ≤ R.slots →
    W p l e R s m args below meth c H locs cs sl Q (F0 m pc ls (r.toList.map (pvv ad ext)))
def G (y : MethodName) (cc : ByteArray) (nL : Nat) (ret : Option FieldType) (scr : Option (List Int)) (Po : Option PV → List SE → MEM → Prop) (Bd : Nat × Nat × Nat × Nat) (pc : Nat) (L : List (Option PV)) (S : List PV) (sh : List SE) (h : MEM) (cs sl : Nat) : Prop :=
  ∀ (p : Program) (l : Launch) (e : Jvm.Env) (R : Room) (s : State) (m : MethodId) (args : Array Value) (below : List Frame) (meth : Method) (c : Code) (Q : State → Prop) (D : va_G) (cA : Nat → ClassId) (ext : Value) (n0 : Nat) (ad0 : Nat → Nat) (A : Nat → Prop), Cx y cc nL ret scr Po Bd p l e R s m args below meth c Q D cA ext n0 ad0 A →
    ∀ (ad : Nat → Nat) (H : Heap) (locs : List Loc) (ls : Array Slot), Wd D cA n0 ad0 A s sh h ad H locs → okL sh.length ad ext nL L ls → (∀ v ∈ S, okV sh.length v) → cs ≤ R.cells → sl ≤ R.slots →
      W p l e R s m args below meth c H locs cs sl Q (F0 m pc ls (S.map (pvv ad ext)))
theorem ext_cat {scr : Option (List Int)} {ext : Value} {s : State} {A : Nat → Prop} (h : ScrOK scr ext s A) : ext.category = 1 := by
  cases scr with
  | none => rw [show ext = .null from h]; rfl
  | some xs => obtain ⟨b, rfl, -⟩ := h; rfl
def notL (o : Option PV) : Bool := match o with
  | some (.inr (.inl _)) => false
  | _ => true
theorem pvv_cat {ad : Nat → Nat} {ext : Value} {v : PV} (he : ext.category = 1) (hv : notL (some v) = true) : (pvv ad ext v).category = 1 := by
  rcases v with x | x | _ | a
  · rfl
  · exact absurd hv (by simp [notL])
  · exact he
  · rfl
/-! locals as the kit lists them -/
def lvs (ad : Nat → Nat) (ext : Value) (L : List (Option PV)) : List (Nat × Value) := (List.range L.length).filterMap fun i => match L[i]? with
  | some (some v) => some (i, pvv ad ext v)
  | _ => none
theorem mem_lvs {ad : Nat → Nat} {ext : Value} {L : List (Option PV)} {q : Nat × Value} (h : q ∈ lvs ad ext L) : ∃ v, L[q.1]? = some (some v) ∧ q.2 = pvv ad ext v := by
  obtain ⟨i, -, h2⟩ := List.mem_filterMap.mp h
  split at h2
  · next v hv => cases h2; exact ⟨v, hv, rfl⟩
  · cases h2
theorem in_lvs {ad : Nat → Nat} {ext : Value} {L : List (Option PV)} {i : Nat} {v : PV} (h : L[i]? = some (some v)) : (i, pvv ad ext v) ∈ lvs ad ext L :=
  List.mem_filterMap.mpr ⟨i, List.mem_range.mpr (List.getElem?_eq_some_iff.mp h).1, by rw [h]⟩
theorem okL_has {n : Nat} {ad : Nat → Nat} {ext : Value} {nL : Nat} {L : List (Option PV)} {ls : Array Slot} (h : okL n ad ext nL L ls) : lv_has ls nL (lvs ad ext L) :=
  ⟨h.1, h.2.1, fun q hq => by obtain ⟨v, h1, h2⟩ := mem_lvs hq; rw [h2]; exact (h.2.2.2 _ v h1).2⟩
theorem okL_put {n : Nat} {ad : Nat → Nat} {ext : Value} {nL : Nat} {L : List (Option PV)} {ls ls' : Array Slot} {i : Nat} {v : PV} {w : Value} (h : okL n ad ext nL L ls) (he : ext.category = 1) (hn : L.all notL = true) (hi : i < nL) (hv : okV n v) (hw : w = pvv ad ext v)
    (h' : lv_has ls' nL ((i, w) :: (lvs ad ext L).filter (fun q => !(q.1 == i) && !(q.1 + 1 == i && q.2.category == 2)))) : okL n ad ext nL (L.set i (some v)) ls' := by
  subst hw
  refine ⟨h'.1, h'.2.1, by rw [List.length_set]; exact h.2.2.1, fun j u hj => ?_⟩
  by_cases hji : j = i
  · subst hji
    rw [List.getElem?_set_self (by rw [h.2.2.1]; exact hi)] at hj
    cases hj
    exact ⟨hv, h'.2.2 _ List.mem_cons_self⟩
  · rw [List.getElem?_set_ne (Ne.symm hji)] at hj
    refine ⟨(h.2.2.2 j u hj).1, h'.2.2 (j, pvv ad ext u) (List.mem_cons_of_mem _ (List.mem_filter.mpr ⟨in_lvs hj, ?_⟩))⟩
    have hu : notL (some u) = true := List.all_eq_true.mp hn _ (List.mem_of_getElem? hj)
    simp [hji, pvv_cat he hu]
section RULES
variable {y : MethodName} {cc : ByteArray} {nL : Nat} {ret : Option FieldType} {scr : Option (List Int)} {Po : Option PV → List SE → MEM → Prop} {Bd : Nat × Nat × Nat × Nat} {pc : Nat} {L : List (Option PV)} {S : List PV} {sh : List SE} {h : MEM} {cs sl : Nat}
theorem g_iconst {v : Int} (hd : decode cc pc = .ok (.iconst v, 1)) (hv : inR v) (k : G y cc nL ret scr Po Bd (pc + 1) L (pI v :: S) sh h cs sl) : G y cc nL ret scr Po Bd pc L S sh h cs sl := by
  intro p l e R s m args below meth c Q D cA ext n0 ad0 A X ad H locs ls hW hL hS hc hs
  exact lv_iconst X.1 X.2.1 hd rfl (k p l e R s m args below meth c Q D cA ext n0 ad0 A X ad H locs ls hW hL (List.forall_mem_cons.mpr ⟨hv, hS⟩) hc hs)
theorem g_bipush {v : Int} (hd : decode cc pc = .ok (.bipush v, 2)) (hv : inR v) (he : (Int8.ofInt v).toInt32 = Int32.ofInt v) (k : G y cc nL ret scr Po Bd (pc + 2) L (pI v :: S) sh h cs sl) : G y cc nL ret scr Po Bd pc L S sh h cs sl := by
  intro p l e R s m args below meth c Q D cA ext n0 ad0 A X ad H locs ls hW hL hS hc hs
  exact lv_bipush X.1 X.2.1 hd he (k p l e R s m args below meth c Q D cA ext n0 ad0 A X ad H locs ls hW hL (List.forall_mem_cons.mpr ⟨hv, hS⟩) hc hs)
theorem g_sipush {v : Int} (hd : decode cc pc = .ok (.sipush v, 3)) (hv : inR v) (he : (Int16.ofInt v).toInt32 = Int32.ofInt v) (k : G y cc nL ret scr Po Bd (pc + 3) L (pI v :: S) sh h cs sl) : G y cc nL ret scr Po Bd pc L S sh h cs sl := by
  intro p l e R s m args below meth c Q D cA ext n0 ad0 A X ad H locs ls hW hL hS hc hs
  exact lv_sipush X.1 X.2.1 hd he (k p l e R s m args below meth c Q D cA ext n0 ad0 A X ad H locs ls hW hL (List.forall_mem_cons.mpr ⟨hv, hS⟩) hc hs)
theorem g_iload {i : Nat} {x : Int} (hd : decode cc pc = .ok (.iload i, 2)) (hl : L[i]? = some (some (pI x))) (k : inR x → G y cc nL ret scr Po Bd (pc + 2) L (pI x :: S) sh h cs sl) : G y cc nL ret scr Po Bd pc L S sh h cs sl := by
  intro p l e R s m args below meth c Q D cA ext n0 ad0 A X ad H locs ls hW hL hS hc hs
  have h1 := hL.2.2.2 _ _ hl
  exact lv_iload X.1 X.2.1 hd h1.2 (k h1.1 p l e R s m args below meth c Q D cA ext n0 ad0 A X ad H locs ls hW hL (List.forall_mem_cons.mpr ⟨h1.1, hS⟩) hc hs)
theorem g_iload_n {i : Fin 4} {x : Int} (hd : decode cc pc = .ok (.iload_n i, 1)) (hl : L[i.val]? = some (some (pI x))) (k : inR x → G y cc nL ret scr Po Bd (pc + 1) L (pI x :: S) sh h cs sl) : G y cc nL ret scr Po Bd pc L S sh h cs sl := by
  intro p l e R s m args below meth c Q D cA ext n0 ad0 A X ad H locs ls hW hL hS hc hs
  have h1 := hL.2.2.2 _ _ hl
  exact lv_iload_n X.1 X.2.1 hd rfl h1.2 (k h1.1 p l e R s m args below meth c Q D cA ext n0 ad0 A X ad H locs ls hW hL (List.forall_mem_cons.mpr ⟨h1.1, hS⟩) hc hs)
theorem g_aload {i : Nat} {a : Nat} (hd : decode cc pc = .ok (.aload i, 2)) (hl : L[i]? = some (some (pR a))) (k : G y cc nL ret scr Po Bd (pc + 2) L (pR a :: S) sh h cs sl) : G y cc nL ret scr Po Bd pc L S sh h cs sl := by
  intro p l e R s m args below meth c Q D cA ext n0 ad0 A X ad H locs ls hW hL hS hc hs
  have h1 := hL.2.2.2 _ _ hl
  exact lv_aload X.1 X.2.1 hd h1.2 (k p l e R s m args below meth c Q D cA ext n0 ad0 A X ad H locs ls hW hL (List.forall_mem_cons.mpr ⟨h1.1, hS⟩) hc hs)
theorem g_aload_n {i : Fin 4} {a : Nat} (hd : decode cc pc = .ok (.aload_n i, 1)) (hl : L[i.val]? = some (some (pR a))) (k : G y cc nL ret scr Po Bd (pc + 1) L (pR a :: S) sh h cs sl) : G y cc nL ret scr Po Bd pc L S sh h cs sl := by
  intro p l e R s m args below meth c Q D cA ext n0 ad0 A X ad H locs ls hW hL hS hc hs
  have h1 := hL.2.2.2 _ _ hl
  exact lv_aload_n X.1 X.2.1 hd rfl h1.2 (k p l e R s m args below meth c Q D cA ext n0 ad0 A X ad H locs ls hW hL (List.forall_mem_cons.mpr ⟨h1.1, hS⟩) hc hs)
theorem g_aloadX_n {xs : List Int} {i : Fin 4} (hd : decode cc pc = .ok (.aload_n i, 1)) (hl : L[i.val]? = some (some pX)) (k : G y cc nL ret (some xs) Po Bd (pc + 1) L (pX :: S) sh h cs sl) : G y cc nL ret (some xs) Po Bd pc L S sh h cs sl := by
  intro p l e R s m args below meth c Q D cA ext n0 ad0 A X ad H locs ls hW hL hS hc hs
  have h1 := hL.2.2.2 _ _ hl
  obtain ⟨b, hb, -⟩ := X.2.2.2.2.2.2.2.2.2.1.1
  subst hb
  exact lv_aload_n X.1 X.2.1 hd rfl h1.2 (k p l e R s m args below meth c Q D cA _ n0 ad0 A X ad H locs ls hW hL (List.forall_mem_cons.mpr ⟨h1.1, hS⟩) hc hs)
theorem g_lload {i : Nat} {x : Int} (hd : decode cc pc = .ok (.lload i, 2)) (hl : L[i]? = some (some (pL x))) (k : inRL x → G y cc nL ret scr Po Bd (pc + 2) L (pL x :: S) sh h cs sl) : G y cc nL ret scr Po Bd pc L S sh h cs sl := by
  intro p l e R s m args below meth c Q D cA ext n0 ad0 A X ad H locs ls hW hL hS hc hs
  have h1 := hL.2.2.2 _ _ hl
  exact lv_lload X.1 X.2.1 hd h1.2 (k h1.1 p l e R s m args below meth c Q D cA ext n0 ad0 A X ad H locs ls hW hL (List.forall_mem_cons.mpr ⟨h1.1, hS⟩) hc hs)
theorem g_lload_n {i : Fin 4} {x : Int} (hd : decode cc pc = .ok (.lload_n i, 1)) (hl : L[i.val]? = some (some (pL x))) (k : inRL x → G y cc nL ret scr Po Bd (pc + 1) L (pL x :: S) sh h cs sl) : G y cc nL ret scr Po Bd pc L S sh h cs sl := by
  intro p l e R s m args below meth c Q D cA ext n0 ad0 A X ad H locs ls hW hL hS hc hs
  have h1 := hL.2.2.2 _ _ hl
  exact lv_lload_n X.1 X.2.1 hd rfl h1.2 (k h1.1 p l e R s m args below meth c Q D cA ext n0 ad0 A X ad H locs ls hW hL (List.forall_mem_cons.mpr ⟨h1.1, hS⟩) hc hs)
theorem g_istore {i : Nat} {x : Int} (hd : decode cc pc = .ok (.istore i, 2)) (hi : i < nL) (hn : L.all notL = true) (k : G y cc nL ret scr Po Bd (pc + 2) (L.set i (some (pI x))) S sh h cs sl) : G y cc nL ret scr Po Bd pc L (pI x :: S) sh h cs sl := by
  intro p l e R s m args below meth c Q D cA ext n0 ad0 A X ad H locs ls hW hL hS hc hs
  have h1 := List.forall_mem_cons.mp hS
  exact lv_istore X.1 X.2.1 hd (okL_has hL) hi rfl (fun ls' h' => k p l e R s m args below meth c Q D cA ext n0 ad0 A X ad H locs ls' hW (okL_put hL (ext_cat X.2.2.2.2.2.2.2.2.2.1.1) hn hi h1.1 rfl h') h1.2 hc hs)
theorem g_istore_n {i : Fin 4} {x : Int} (hd : decode cc pc = .ok (.istore_n i, 1)) (hi : i.val < nL) (hn : L.all notL = true) (k : G y cc nL ret scr Po Bd (pc + 1) (L.set i.val (some (pI x))) S sh h cs sl) : G y cc nL ret scr Po Bd pc L (pI x :: S) sh h cs sl := by
  intro p l e R s m args below meth c Q D cA ext n0 ad0 A X ad H locs ls hW hL hS hc hs
  have h1 := List.forall_mem_cons.mp hS
  exact lv_istore_n X.1 X.2.1 hd rfl (okL_has hL) hi rfl (fun ls' h' => k p l e R s m args below meth c Q D cA ext n0 ad0 A X ad H locs ls' hW (okL_put hL (ext_cat X.2.2.2.2.2.2.2.2.2.1.1) hn hi h1.1 rfl h') h1.2 hc hs)
theorem g_astore {i : Nat} {a : Nat} (hd : decode cc pc = .ok (.astore i, 2)) (hi : i < nL) (hn : L.all notL = true) (k : G y cc nL ret scr Po Bd (pc + 2) (L.set i (some (pR a))) S sh h cs sl) : G y cc nL ret scr Po Bd pc L (pR a :: S) sh h cs sl := by
  intro p l e R s m args below meth c Q D cA ext n0 ad0 A X ad H locs ls hW hL hS hc hs
  have h1 := List.forall_mem_cons.mp hS
  exact lv_astore X.1 X.2.1 hd (okL_has hL) hi rfl (fun ls' h' => k p l e R s m args below meth c Q D cA ext n0 ad0 A X ad H locs ls' hW (okL_put (v := pR a) hL (ext_cat X.2.2.2.2.2.2.2.2.2.1.1) hn hi h1.1 rfl h') h1.2 hc hs)
theorem g_astore_n {i : Fin 4} {a : Nat} (hd : decode cc pc = .ok (.astore_n i, 1)) (hi : i.val < nL) (hn : L.all notL = true) (k : G y cc nL ret scr Po Bd (pc + 1) (L.set i.val (some (pR a))) S sh h cs sl) : G y cc nL ret scr Po Bd pc L (pR a :: S) sh h cs sl := by
  intro p l e R s m args below meth c Q D cA ext n0 ad0 A X ad H locs ls hW hL hS hc hs
  have h1 := List.forall_mem_cons.mp hS
  exact lv_astore_n X.1 X.2.1 hd rfl (okL_has hL) hi rfl (fun ls' h' => k p l e R s m args below meth c Q D cA ext n0 ad0 A X ad H locs ls' hW (okL_put (v := pR a) hL (ext_cat X.2.2.2.2.2.2.2.2.2.1.1) hn hi h1.1 rfl h') h1.2 hc hs)
theorem g_iinc {i : Nat} {x n : Int} (hd : decode cc pc = .ok (.iinc i n, 3)) (hl : L[i]? = some (some (pI x))) (hn : L.all notL = true) (k : inR x → G y cc nL ret scr Po Bd (pc + 3) (L.set i (some (pI (w32 (x + n))))) S sh h cs sl) : G y cc nL ret scr Po Bd pc L S sh h cs sl := by
  intro p l e R s m args below meth c Q D cA ext n0 ad0 A X ad H locs ls hW hL hS hc hs
  have h1 := hL.2.2.2 _ _ hl
  have hi : i < nL := by rw [← hL.2.2.1]; exact (List.getElem?_eq_some_iff.mp hl).1
  obtain ⟨j, hj⟩ := List.getElem?_of_mem (in_lvs (ad := ad) (ext := ext) hl)
  exact lv_iinc X.1 X.2.1 hd (okL_has hL) hj rfl hi rfl (fun ls' h' => k h1.1 p l e R s m args below meth c Q D cA ext n0 ad0 A X ad H locs ls' hW (okL_put (v := pI (w32 (x + n))) hL (ext_cat X.2.2.2.2.2.2.2.2.2.1.1) hn hi (w32_inR _) (by show Value.int _ = Value.int _; rw [i32_w32, Int32.ofInt_add]) h') hS hc hs)
theorem i32_add (x y : Int) : Int32.ofInt x + Int32.ofInt y = Int32.ofInt (w32 (x + y)) := by rw [i32_w32, Int32.ofInt_add]
theorem i32_sub (x y : Int) : Int32.ofInt x - Int32.ofInt y = Int32.ofInt (w32 (x - y)) := by rw [i32_w32, Int32.ofInt_sub]
theorem i32_mul (x y : Int) : Int32.ofInt x * Int32.ofInt y = Int32.ofInt (w32 (x * y)) := by rw [i32_w32, Int32.ofInt_mul]
theorem i32_neg (x : Int) : -Int32.ofInt x = Int32.ofInt (w32 (-x)) := by rw [i32_w32, Int32.ofInt_neg]
theorem g_iadd {x z : Int} (hd : decode cc pc = .ok (.iadd, 1)) (k : G y cc nL ret scr Po Bd (pc + 1) L (pI (w32 (x + z)) :: S) sh h cs sl) : G y cc nL ret scr Po Bd pc L (pI z :: pI x :: S) sh h cs sl := by
  intro p l e R s m args below meth c Q D cA ext n0 ad0 A X ad H locs ls hW hL hS hc hs
  have h1 := List.forall_mem_cons.mp (List.forall_mem_cons.mp hS).2
  refine lv_iadd X.1 X.2.1 hd ?_
  rw [i32_add]
  exact k p l e R s m args below meth c Q D cA ext n0 ad0 A X ad H locs ls hW hL (List.forall_mem_cons.mpr ⟨w32_inR _, h1.2⟩) hc hs
theorem g_isub {x z : Int} (hd : decode cc pc = .ok (.isub, 1)) (k : G y cc nL ret scr Po Bd (pc + 1) L (pI (w32 (x - z)) :: S) sh h cs sl) : G y cc nL ret scr Po Bd pc L (pI z :: pI x :: S) sh h cs sl := by
  intro p l e R s m args below meth c Q D cA ext n0 ad0 A X ad H locs ls hW hL hS hc hs
  have h1 := List.forall_mem_cons.mp (List.forall_mem_cons.mp hS).2
  refine lv_isub X.1 X.2.1 hd ?_
  rw [i32_sub]
  exact k p l e R s m args below meth c Q D cA ext n0 ad0 A X ad H locs ls hW hL (List.forall_mem_cons.mpr ⟨w32_inR _, h1.2⟩) hc hs
theorem g_imul {x z : Int} (hd : decode cc pc = .ok (.imul, 1)) (k : G y cc nL ret scr Po Bd (pc + 1) L (pI (w32 (x * z)) :: S) sh h cs sl) : G y cc nL ret scr Po Bd pc L (pI z :: pI x :: S) sh h cs sl := by
  intro p l e R s m args below meth c Q D cA ext n0 ad0 A X ad H locs ls hW hL hS hc hs
  have h1 := List.forall_mem_cons.mp (List.forall_mem_cons.mp hS).2
  refine lv_imul X.1 X.2.1 hd ?_
  rw [i32_mul]
  exact k p l e R s m args below meth c Q D cA ext n0 ad0 A X ad H locs ls hW hL (List.forall_mem_cons.mpr ⟨w32_inR _, h1.2⟩) hc hs
theorem g_ineg {x : Int} (hd : decode cc pc = .ok (.ineg, 1)) (k : G y cc nL ret scr Po Bd (pc + 1) L (pI (w32 (-x)) :: S) sh h cs sl) : G y cc nL ret scr Po Bd pc L (pI x :: S) sh h cs sl := by
  intro p l e R s m args below meth c Q D cA ext n0 ad0 A X ad H locs ls hW hL hS hc hs
  have h1 := List.forall_mem_cons.mp hS
  refine lv_ineg X.1 X.2.1 hd ?_
  first | rw [i32_neg] | rw [show (0 : Int32) - Int32.ofInt x = Int32.ofInt (w32 (-x)) from by rw [← i32_neg, Int32.zero_sub]]
  exact k p l e R s m args below meth c Q D cA ext n0 ad0 A X ad H locs ls hW hL (List.forall_mem_cons.mpr ⟨w32_inR _, h1.2⟩) hc hs
theorem g_iand {x z : Int} (hd : decode cc pc = .ok (.iand, 1)) (k : inR (iand x z) → G y cc nL ret scr Po Bd (pc + 1) L (pI (iand x z) :: S) sh h cs sl) : G y cc nL ret scr Po Bd pc L (pI z :: pI x :: S) sh h cs sl := by
  intro p l e R s m args below meth c Q D cA ext n0 ad0 A X ad H locs ls hW hL hS hc hs
  have h1 := List.forall_mem_cons.mp (List.forall_mem_cons.mp hS).2
  refine lv_iand X.1 X.2.1 hd ?_
  rw [← i32_of (Int32.ofInt x &&& Int32.ofInt z)]
  exact k (inR_toInt _) p l e R s m args below meth c Q D cA ext n0 ad0 A X ad H locs ls hW hL (List.forall_mem_cons.mpr ⟨inR_toInt _, h1.2⟩) hc hs
theorem g_ior {x z : Int} (hd : decode cc pc = .ok (.ior, 1)) (k : inR (ior x z) → G y cc nL ret scr Po Bd (pc + 1) L (pI (ior x z) :: S) sh h cs sl) : G y cc nL ret scr Po Bd pc L (pI z :: pI x :: S) sh h cs sl := by
  intro p l e R s m args below meth c Q D cA ext n0 ad0 A X ad H locs ls hW hL hS hc hs
  have h1 := List.forall_mem_cons.mp (List.forall_mem_cons.mp hS).2
  refine lv_ior X.1 X.2.1 hd ?_
  rw [← i32_of (Int32.ofInt x ||| Int32.ofInt z)]
  exact k (inR_toInt _) p l e R s m args below meth c Q D cA ext n0 ad0 A X ad H locs ls hW hL (List.forall_mem_cons.mpr ⟨inR_toInt _, h1.2⟩) hc hs
theorem g_ixor {x z : Int} (hd : decode cc pc = .ok (.ixor, 1)) (k : inR (ixor x z) → G y cc nL ret scr Po Bd (pc + 1) L (pI (ixor x z) :: S) sh h cs sl) : G y cc nL ret scr Po Bd pc L (pI z :: pI x :: S) sh h cs sl := by
  intro p l e R s m args below meth c Q D cA ext n0 ad0 A X ad H locs ls hW hL hS hc hs
  have h1 := List.forall_mem_cons.mp (List.forall_mem_cons.mp hS).2
  refine lv_ixor X.1 X.2.1 hd ?_
  rw [← i32_of (Int32.ofInt x ^^^ Int32.ofInt z)]
  exact k (inR_toInt _) p l e R s m args below meth c Q D cA ext n0 ad0 A X ad H locs ls hW hL (List.forall_mem_cons.mpr ⟨inR_toInt _, h1.2⟩) hc hs
theorem g_ishl {x z : Int} (hd : decode cc pc = .ok (.ishl, 1)) (k : inR (ishl x z) → G y cc nL ret scr Po Bd (pc + 1) L (pI (ishl x z) :: S) sh h cs sl) : G y cc nL ret scr Po Bd pc L (pI z :: pI x :: S) sh h cs sl := by
  intro p l e R s m args below meth c Q D cA ext n0 ad0 A X ad H locs ls hW hL hS hc hs
  have h1 := List.forall_mem_cons.mp (List.forall_mem_cons.mp hS).2
  refine lv_ishl X.1 X.2.1 hd ?_
  rw [← i32_of (Int32.ofInt x <<< (Int32.ofInt z &&& 31))]
  exact k (inR_toInt _) p l e R s m args below meth c Q D cA ext n0 ad0 A X ad H locs ls hW hL (List.forall_mem_cons.mpr ⟨inR_toInt _, h1.2⟩) hc hs
theorem g_ishr {x z : Int} (hd : decode cc pc = .ok (.ishr, 1)) (k : inR (ishr x z) → G y cc nL ret scr Po Bd (pc + 1) L (pI (ishr x z) :: S) sh h cs sl) : G y cc nL ret scr Po Bd pc L (pI z :: pI x :: S) sh h cs sl := by
  intro p l e R s m args below meth c Q D cA ext n0 ad0 A X ad H locs ls hW hL hS hc hs
  have h1 := List.forall_mem_cons.mp (List.forall_mem_cons.mp hS).2
  refine lv_ishr X.1 X.2.1 hd ?_
  rw [← i32_of (Int32.ofInt x >>> (Int32.ofInt z &&& 31))]
  exact k (inR_toInt _) p l e R s m args below meth c Q D cA ext n0 ad0 A X ad H locs ls hW hL (List.forall_mem_cons.mpr ⟨inR_toInt _, h1.2⟩) hc hs
theorem g_idiv {x z : Int} (hd : decode cc pc = .ok (.idiv, 1)) (hne : z ≠ 0) (k : inR (idiv x z) → G y cc nL ret scr Po Bd (pc + 1) L (pI (idiv x z) :: S) sh h cs sl) : G y cc nL ret scr Po Bd pc L (pI z :: pI x :: S) sh h cs sl := by
  intro p l e R s m args below meth c Q D cA ext n0 ad0 A X ad H locs ls hW hL hS hc hs
  have h0 := List.forall_mem_cons.mp hS
  have h1 := List.forall_mem_cons.mp h0.2
  refine lv_idiv X.1 X.2.1 hd (fun q => hne ((i32_eqz h0.1).mp q)) ?_
  rw [← i32_of (Int32.ofInt x / Int32.ofInt z)]
  exact k (inR_toInt _) p l e R s m args below meth c Q D cA ext n0 ad0 A X ad H locs ls hW hL (List.forall_mem_cons.mpr ⟨inR_toInt _, h1.2⟩) hc hs
theorem g_irem {x z : Int} (hd : decode cc pc = .ok (.irem, 1)) (hne : z ≠ 0) (k : inR (irem x z) → G y cc nL ret scr Po Bd (pc + 1) L (pI (irem x z) :: S) sh h cs sl) : G y cc nL ret scr Po Bd pc L (pI z :: pI x :: S) sh h cs sl := by
  intro p l e R s m args below meth c Q D cA ext n0 ad0 A X ad H locs ls hW hL hS hc hs
  have h0 := List.forall_mem_cons.mp hS
  have h1 := List.forall_mem_cons.mp h0.2
  refine lv_irem X.1 X.2.1 hd (fun q => hne ((i32_eqz h0.1).mp q)) ?_
  rw [← i32_of (Int32.ofInt x - Int32.ofInt x / Int32.ofInt z * Int32.ofInt z)]
  exact k (inR_toInt _) p l e R s m args below meth c Q D cA ext n0 ad0 A X ad H locs ls hW hL (List.forall_mem_cons.mpr ⟨inR_toInt _, h1.2⟩) hc hs
theorem g_pop {v : PV} (hd : decode cc pc = .ok (.pop, 1)) (hv : notL (some v) = true) (k : G y cc nL ret scr Po Bd (pc + 1) L S sh h cs sl) : G y cc nL ret scr Po Bd pc L (v :: S) sh h cs sl := by
  intro p l e R s m args below meth c Q D cA ext n0 ad0 A X ad H locs ls hW hL hS hc hs
  exact lv_pop X.1 X.2.1 hd (pvv_cat (ext_cat X.2.2.2.2.2.2.2.2.2.1.1) hv) (k p l e R s m args below meth c Q D cA ext n0 ad0 A X ad H locs ls hW hL (List.forall_mem_cons.mp hS).2 hc hs)
theorem g_dup {v : PV} (hd : decode cc pc = .ok (.dup, 1)) (hv : notL (some v) = true) (k : G y cc nL ret scr Po Bd (pc + 1) L (v :: v :: S) sh h cs sl) : G y cc nL ret scr Po Bd pc L (v :: S) sh h cs sl := by
  intro p l e R s m args below meth c Q D cA ext n0 ad0 A X ad H locs ls hW hL hS hc hs
  exact lv_dup X.1 X.2.1 hd (pvv_cat (ext_cat X.2.2.2.2.2.2.2.2.2.1.1) hv) (k p l e R s m args below meth c Q D cA ext n0 ad0 A X ad H locs ls hW hL (List.forall_mem_cons.mpr ⟨(List.forall_mem_cons.mp hS).1, hS⟩) hc hs)
theorem g_dup2 {v w : PV} (hd : decode cc pc = .ok (.dup2, 1)) (hv : notL (some v) = true) (hw : notL (some w) = true) (k : G y cc nL ret scr Po Bd (pc + 1) L (v :: w :: v :: w :: S) sh h cs sl) : G y cc nL ret scr Po Bd pc L (v :: w :: S) sh h cs sl := by
  intro p l e R s m args below meth c Q D cA ext n0 ad0 A X ad H locs ls hW hL hS hc hs
  have h0 := List.forall_mem_cons.mp hS
  have h1 := List.forall_mem_cons.mp h0.2
  exact lv_dup2_11 X.1 X.2.1 hd (pvv_cat (ext_cat X.2.2.2.2.2.2.2.2.2.1.1) hv) (pvv_cat (ext_cat X.2.2.2.2.2.2.2.2.2.1.1) hw) (k p l e R s m args below meth c Q D cA ext n0 ad0 A X ad H locs ls hW hL (List.forall_mem_cons.mpr ⟨h0.1, List.forall_mem_cons.mpr ⟨h1.1, hS⟩⟩) hc hs)
theorem g_goto {off : Int} (tgt : Nat) (hd : decode cc pc = .ok (.goto off, 3)) (ht : (pc : Int) + off = (tgt : Int)) (k : G y cc nL ret scr Po Bd tgt L S sh h cs sl) : G y cc nL ret scr Po Bd pc L S sh h cs sl := by
  intro p l e R s m args below meth c Q D cA ext n0 ad0 A X ad H locs ls hW hL hS hc hs
  exact lv_goto X.1 X.2.1 hd ht (k p l e R s m args below meth c Q D cA ext n0 ad0 A X ad H locs ls hW hL hS hc hs)
theorem g_icmp_eq {x z off : Int} (tgt : Nat) (hd : decode cc pc = .ok (.if_icmp .eq off, 3)) (ht : (pc : Int) + off = (tgt : Int)) (kt : x = z → G y cc nL ret scr Po Bd tgt L S sh h cs sl) (kf : ¬ (x = z) → G y cc nL ret scr Po Bd (pc + 3) L S sh h cs sl) : G y cc nL ret scr Po Bd pc L (pI z :: pI x :: S) sh h cs sl := by
  intro p l e R s m args below meth c Q D cA ext n0 ad0 A X ad H locs ls hW hL hS hc hs
  have h0 := List.forall_mem_cons.mp hS
  have h1 := List.forall_mem_cons.mp h0.2
  have hi : _ ↔ _ := i32_eq h1.1 h0.1
  exact lv_icmp_eq X.1 X.2.1 hd ht (fun q => kt (hi.mp q) p l e R s m args below meth c Q D cA ext n0 ad0 A X ad H locs ls hW hL h1.2 hc hs) (fun q => kf (fun q2 => q (hi.mpr q2)) p l e R s m args below meth c Q D cA ext n0 ad0 A X ad H locs ls hW hL h1.2 hc hs)
theorem g_icmp_ne {x z off : Int} (tgt : Nat) (hd : decode cc pc = .ok (.if_icmp .ne off, 3)) (ht : (pc : Int) + off = (tgt : Int)) (kt : ¬ (x = z) → G y cc nL ret scr Po Bd tgt L S sh h cs sl) (kf : x = z → G y cc nL ret scr Po Bd (pc + 3) L S sh h cs sl) : G y cc nL ret scr Po Bd pc L (pI z :: pI x :: S) sh h cs sl := by
  intro p l e R s m args below meth c Q D cA ext n0 ad0 A X ad H locs ls hW hL hS hc hs
  have h0 := List.forall_mem_cons.mp hS
  have h1 := List.forall_mem_cons.mp h0.2
  have hi : _ ↔ _ := i32_eq h1.1 h0.1
  exact lv_icmp_ne X.1 X.2.1 hd ht (fun q => kt (fun q2 => q (hi.mpr q2)) p l e R s m args below meth c Q D cA ext n0 ad0 A X ad H locs ls hW hL h1.2 hc hs) (fun q => kf (hi.mp q) p l e R s m args below meth c Q D cA ext n0 ad0 A X ad H locs ls hW hL h1.2 hc hs)
theorem g_icmp_lt {x z off : Int} (tgt : Nat) (hd : decode cc pc = .ok (.if_icmp .lt off, 3)) (ht : (pc : Int) + off = (tgt : Int)) (kt : x < z → G y cc nL ret scr Po Bd tgt L S sh h cs sl) (kf : ¬ (x < z) → G y cc nL ret scr Po Bd (pc + 3) L S sh h cs sl) : G y cc nL ret scr Po Bd pc L (pI z :: pI x :: S) sh h cs sl := by
  intro p l e R s m args below meth c Q D cA ext n0 ad0 A X ad H locs ls hW hL hS hc hs
  have h0 := List.forall_mem_cons.mp hS
  have h1 := List.forall_mem_cons.mp h0.2
  have hi : _ ↔ _ := i32_lt h1.1 h0.1
  exact lv_icmp_lt X.1 X.2.1 hd ht (fun q => kt (hi.mp q) p l e R s m args below meth c Q D cA ext n0 ad0 A X ad H locs ls hW hL h1.2 hc hs) (fun q => kf (fun q2 => q (hi.mpr q2)) p l e R s m args below meth c Q D cA ext n0 ad0 A X ad H locs ls hW hL h1.2 hc hs)
theorem g_icmp_ge {x z off : Int} (tgt : Nat) (hd : decode cc pc = .ok (.if_icmp .ge off, 3)) (ht : (pc : Int) + off = (tgt : Int)) (kt : z ≤ x → G y cc nL ret scr Po Bd tgt L S sh h cs sl) (kf : ¬ (z ≤ x) → G y cc nL ret scr Po Bd (pc + 3) L S sh h cs sl) : G y cc nL ret scr Po Bd pc L (pI z :: pI x :: S) sh h cs sl := by
  intro p l e R s m args below meth c Q D cA ext n0 ad0 A X ad H locs ls hW hL hS hc hs
  have h0 := List.forall_mem_cons.mp hS
  have h1 := List.forall_mem_cons.mp h0.2
  have hi : _ ↔ _ := i32_le h0.1 h1.1
  exact lv_icmp_ge X.1 X.2.1 hd ht (fun q => kt (hi.mp q) p l e R s m args below meth c Q D cA ext n0 ad0 A X ad H locs ls hW hL h1.2 hc hs) (fun q => kf (fun q2 => q (hi.mpr q2)) p l e R s m args below meth c Q D cA ext n0 ad0 A X ad H locs ls hW hL h1.2 hc hs)
theorem g_icmp_gt {x z off : Int} (tgt : Nat) (hd : decode cc pc = .ok (.if_icmp .gt off, 3)) (ht : (pc : Int) + off = (tgt : Int)) (kt : z < x → G y cc nL ret scr Po Bd tgt L S sh h cs sl) (kf : ¬ (z < x) → G y cc nL ret scr Po Bd (pc + 3) L S sh h cs sl) : G y cc nL ret scr Po Bd pc L (pI z :: pI x :: S) sh h cs sl := by
  intro p l e R s m args below meth c Q D cA ext n0 ad0 A X ad H locs ls hW hL hS hc hs
  have h0 := List.forall_mem_cons.mp hS
  have h1 := List.forall_mem_cons.mp h0.2
  have hi : _ ↔ _ := i32_lt h0.1 h1.1
  exact lv_icmp_gt X.1 X.2.1 hd ht (fun q => kt (hi.mp q) p l e R s m args below meth c Q D cA ext n0 ad0 A X ad H locs ls hW hL h1.2 hc hs) (fun q => kf (fun q2 => q (hi.mpr q2)) p l e R s m args below meth c Q D cA ext n0 ad0 A X ad H locs ls hW hL h1.2 hc hs)
theorem g_icmp_le {x z off : Int} (tgt : Nat) (hd : decode cc pc = .ok (.if_icmp .le off, 3)) (ht : (pc : Int) + off = (tgt : Int)) (kt : x ≤ z → G y cc nL ret scr Po Bd tgt L S sh h cs sl) (kf : ¬ (x ≤ z) → G y cc nL ret scr Po Bd (pc + 3) L S sh h cs sl) : G y cc nL ret scr Po Bd pc L (pI z :: pI x :: S) sh h cs sl := by
  intro p l e R s m args below meth c Q D cA ext n0 ad0 A X ad H locs ls hW hL hS hc hs
  have h0 := List.forall_mem_cons.mp hS
  have h1 := List.forall_mem_cons.mp h0.2
  have hi : _ ↔ _ := i32_le h1.1 h0.1
  exact lv_icmp_le X.1 X.2.1 hd ht (fun q => kt (hi.mp q) p l e R s m args below meth c Q D cA ext n0 ad0 A X ad H locs ls hW hL h1.2 hc hs) (fun q => kf (fun q2 => q (hi.mpr q2)) p l e R s m args below meth c Q D cA ext n0 ad0 A X ad H locs ls hW hL h1.2 hc hs)
theorem g_if_eq {x off : Int} (tgt : Nat) (hd : decode cc pc = .ok (.ifCond .eq off, 3)) (ht : (pc : Int) + off = (tgt : Int)) (kt : x = 0 → G y cc nL ret scr Po Bd tgt L S sh h cs sl) (kf : ¬ (x = 0) → G y cc nL ret scr Po Bd (pc + 3) L S sh h cs sl) : G y cc nL ret scr Po Bd pc L (pI x :: S) sh h cs sl := by
  intro p l e R s m args below meth c Q D cA ext n0 ad0 A X ad H locs ls hW hL hS hc hs
  have h0 := List.forall_mem_cons.mp hS
  have hi : _ ↔ _ := i32_eqz h0.1
  exact lv_if_eq X.1 X.2.1 hd ht (fun q => kt (hi.mp q) p l e R s m args below meth c Q D cA ext n0 ad0 A X ad H locs ls hW hL h0.2 hc hs) (fun q => kf (fun q2 => q (hi.mpr q2)) p l e R s m args below meth c Q D cA ext n0 ad0 A X ad H locs ls hW hL h0.2 hc hs)
theorem g_if_ne {x off : Int} (tgt : Nat) (hd : decode cc pc = .ok (.ifCond .ne off, 3)) (ht : (pc : Int) + off = (tgt : Int)) (kt : ¬ (x = 0) → G y cc nL ret scr Po Bd tgt L S sh h cs sl) (kf : x = 0 → G y cc nL ret scr Po Bd (pc + 3) L S sh h cs sl) : G y cc nL ret scr Po Bd pc L (pI x :: S) sh h cs sl := by
  intro p l e R s m args below meth c Q D cA ext n0 ad0 A X ad H locs ls hW hL hS hc hs
  have h0 := List.forall_mem_cons.mp hS
  have hi : _ ↔ _ := i32_eqz h0.1
  exact lv_if_ne X.1 X.2.1 hd ht (fun q => kt (fun q2 => q (hi.mpr q2)) p l e R s m args below meth c Q D cA ext n0 ad0 A X ad H locs ls hW hL h0.2 hc hs) (fun q => kf (hi.mp q) p l e R s m args below meth c Q D cA ext n0 ad0 A X ad H locs ls hW hL h0.2 hc hs)
theorem g_if_lt {x off : Int} (tgt : Nat) (hd : decode cc pc = .ok (.ifCond .lt off, 3)) (ht : (pc : Int) + off = (tgt : Int)) (kt : x < 0 → G y cc nL ret scr Po Bd tgt L S sh h cs sl) (kf : ¬ (x < 0) → G y cc nL ret scr Po Bd (pc + 3) L S sh h cs sl) : G y cc nL ret scr Po Bd pc L (pI x :: S) sh h cs sl := by
  intro p l e R s m args below meth c Q D cA ext n0 ad0 A X ad H locs ls hW hL hS hc hs
  have h0 := List.forall_mem_cons.mp hS
  have hi : _ ↔ _ := i32_ltz h0.1
  exact lv_if_lt X.1 X.2.1 hd ht (fun q => kt (hi.mp q) p l e R s m args below meth c Q D cA ext n0 ad0 A X ad H locs ls hW hL h0.2 hc hs) (fun q => kf (fun q2 => q (hi.mpr q2)) p l e R s m args below meth c Q D cA ext n0 ad0 A X ad H locs ls hW hL h0.2 hc hs)
theorem g_if_ge {x off : Int} (tgt : Nat) (hd : decode cc pc = .ok (.ifCond .ge off, 3)) (ht : (pc : Int) + off = (tgt : Int)) (kt : 0 ≤ x → G y cc nL ret scr Po Bd tgt L S sh h cs sl) (kf : ¬ (0 ≤ x) → G y cc nL ret scr Po Bd (pc + 3) L S sh h cs sl) : G y cc nL ret scr Po Bd pc L (pI x :: S) sh h cs sl := by
  intro p l e R s m args below meth c Q D cA ext n0 ad0 A X ad H locs ls hW hL hS hc hs
  have h0 := List.forall_mem_cons.mp hS
  have hi : _ ↔ _ := i32_gez h0.1
  exact lv_if_ge X.1 X.2.1 hd ht (fun q => kt (hi.mp q) p l e R s m args below meth c Q D cA ext n0 ad0 A X ad H locs ls hW hL h0.2 hc hs) (fun q => kf (fun q2 => q (hi.mpr q2)) p l e R s m args below meth c Q D cA ext n0 ad0 A X ad H locs ls hW hL h0.2 hc hs)
theorem g_if_gt {x off : Int} (tgt : Nat) (hd : decode cc pc = .ok (.ifCond .gt off, 3)) (ht : (pc : Int) + off = (tgt : Int)) (kt : 0 < x → G y cc nL ret scr Po Bd tgt L S sh h cs sl) (kf : ¬ (0 < x) → G y cc nL ret scr Po Bd (pc + 3) L S sh h cs sl) : G y cc nL ret scr Po Bd pc L (pI x :: S) sh h cs sl := by
  intro p l e R s m args below meth c Q D cA ext n0 ad0 A X ad H locs ls hW hL hS hc hs
  have h0 := List.forall_mem_cons.mp hS
  have hi : _ ↔ _ := i32_gtz h0.1
  exact lv_if_gt X.1 X.2.1 hd ht (fun q => kt (hi.mp q) p l e R s m args below meth c Q D cA ext n0 ad0 A X ad H locs ls hW hL h0.2 hc hs) (fun q => kf (fun q2 => q (hi.mpr q2)) p l e R s m args below meth c Q D cA ext n0 ad0 A X ad H locs ls hW hL h0.2 hc hs)
theorem g_if_le {x off : Int} (tgt : Nat) (hd : decode cc pc = .ok (.ifCond .le off, 3)) (ht : (pc : Int) + off = (tgt : Int)) (kt : x ≤ 0 → G y cc nL ret scr Po Bd tgt L S sh h cs sl) (kf : ¬ (x ≤ 0) → G y cc nL ret scr Po Bd (pc + 3) L S sh h cs sl) : G y cc nL ret scr Po Bd pc L (pI x :: S) sh h cs sl := by
  intro p l e R s m args below meth c Q D cA ext n0 ad0 A X ad H locs ls hW hL hS hc hs
  have h0 := List.forall_mem_cons.mp hS
  have hi : _ ↔ _ := i32_lez h0.1
  exact lv_if_le X.1 X.2.1 hd ht (fun q => kt (hi.mp q) p l e R s m args below meth c Q D cA ext n0 ad0 A X ad H locs ls hW hL h0.2 hc hs) (fun q => kf (fun q2 => q (hi.mpr q2)) p l e R s m args below meth c Q D cA ext n0 ad0 A X ad H locs ls hW hL h0.2 hc hs)
/-! fields: C, T, N of the class at ci in vwCl; the words that the row needs are in TW -/
theorem g_getI {a ci k : Nat} {rs : List Bool} {C : String} {T : u_T} {N idx : Nat} (hd : decode cc pc = .ok (.getfield idx, 3)) (he : sh[a]? = some (.inr (ci, rs))) (hc0 : vwCl[ci]? = some (C, T, N)) (hin : ∀ w ∈ u_ws C T N, w ∈ TW) (hk : k < N) (hr : rs[k]? = some false) (hl : Cond.fieldLink y.cls idx (T k).1 (T k).2.1 (T k).2.2.1 ∈ TW)
    (kk : inR (h a k) → G y cc nL ret scr Po Bd (pc + 3) L (pI (h a k) :: S) sh h cs sl) : G y cc nL ret scr Po Bd pc L (pR a :: S) sh h cs sl := by
  intro p l e R s m args below meth c Q D cA ext n0 ad0 A X ad H locs ls hW hL hS hc hs
  have h0 := List.forall_mem_cons.mp hS
  refine va_get (Ts := TW) (v := .int (Int32.ofInt (h a k))) X.1 X.2.1 X.2.2.2.2.1 hin X.2.2.2.1 X.2.2.2.2.2.2.1.1 hW.1 a (rep_get he) hc0 k hk (X.2.2.2.2.1 _ hl) (fun _ h9 => h9) ?_ hd ?_
  · simp [List.getElem?_mapIdx, hr]
  · exact kk (hW.2.2.2.1.1 a k) p l e R s m args below meth c Q D cA ext n0 ad0 A X ad H locs ls hW hL (List.forall_mem_cons.mpr ⟨hW.2.2.2.1.1 a k, h0.2⟩) hc hs
theorem g_getR {a ci k b : Nat} {rs : List Bool} {C : String} {T : u_T} {N idx : Nat} (hd : decode cc pc = .ok (.getfield idx, 3)) (he : sh[a]? = some (.inr (ci, rs))) (hc0 : vwCl[ci]? = some (C, T, N)) (hin : ∀ w ∈ u_ws C T N, w ∈ TW) (hk : k < N) (hr : rs[k]? = some true) (hl : Cond.fieldLink y.cls idx (T k).1 (T k).2.1 (T k).2.2.1 ∈ TW) (hv : h a k = (b : Int))
    (kk : G y cc nL ret scr Po Bd (pc + 3) L (pR b :: S) sh h cs sl) : G y cc nL ret scr Po Bd pc L (pR a :: S) sh h cs sl := by
  intro p l e R s m args below meth c Q D cA ext n0 ad0 A X ad H locs ls hW hL hS hc hs
  have h0 := List.forall_mem_cons.mp hS
  have hb : b < sh.length := by
    have := hW.2.2.2.1.2 a ci rs k he hr
    rw [hv] at this
    omega
  refine va_get (Ts := TW) (v := .ref (ad b)) X.1 X.2.1 X.2.2.2.2.1 hin X.2.2.2.1 X.2.2.2.2.2.2.1.1 hW.1 a (rep_get he) hc0 k hk (X.2.2.2.2.1 _ hl) (fun _ h9 => h9) ?_ hd ?_
  · simp only [List.getElem?_mapIdx, hr, Option.map_some, if_true, rfv, hv]
    rw [if_neg (by omega)]
    simp
  · exact kk p l e R s m args below meth c Q D cA ext n0 ad0 A X ad H locs ls hW hL (List.forall_mem_cons.mpr ⟨hb, h0.2⟩) hc hs
theorem wd_put {D : va_G} {cA : Nat → ClassId} {n0 : Nat} {ad0 : Nat → Nat} {A : Nat → Prop} {s : State} {ad : Nat → Nat} {H H1 : Heap} {locs locs1 : List Loc} {a k : Nat} {x : Int} {e : SE} (hW : Wd D cA n0 ad0 A s sh h ad H locs) (he : sh[a]? = some e) (hx : inR x) (hr : ∀ (ci : Nat) (rs : List Bool), sh[a]? = some (.inr (ci, rs)) → rs[k]? = some true → x < sh.length)
    (hP : va_P D vwCl ((rep ad cA sh h).set a (ad a, ecell ad cA e (up2 h a k x a))) H1) (hD : va_D A ((rep ad cA sh h).set a (ad a, ecell ad cA e (up2 h a k x a)))) (hS : va_S A s.heap H1 locs1) : Wd D cA n0 ad0 A s sh (up2 h a k x) ad H1 locs1 := by
  rw [rep_set he] at hP hD
  exact ⟨hP, hD, hS, okH_up hW.2.2.2.1 hx hr, hW.2.2.2.2⟩
theorem nar_fit {ty : FieldType} {x : Int} (hty : ty = .int ∨ (ty = .boolean ∧ (x = 0 ∨ x = 1))) : narrow ty (.int (Int32.ofInt x)) = .int (Int32.ofInt x) ∧ fits ty (.int (Int32.ofInt x)) = true := by
  rcases hty with rfl | ⟨rfl, rfl | rfl⟩
  · exact ⟨rfl, rfl⟩
  · exact ⟨rfl, rfl⟩
  · exact ⟨rfl, rfl⟩
theorem g_putI {a ci k : Nat} {x : Int} {rs : List Bool} {C : String} {T : u_T} {N idx : Nat} {ty : FieldType} (hd : decode cc pc = .ok (.putfield idx, 3)) (he : sh[a]? = some (.inr (ci, rs))) (hc0 : vwCl[ci]? = some (C, T, N)) (hin : ∀ w ∈ u_ws C T N, w ∈ TW) (ty0 : Nat → FieldType) (hty : ∀ k, k < N → parseFieldDescriptor (T k).2.2.1 = some (ty0 k)) (hnm : ∀ a, a < N → ∀ b, b < N → a ≠ b → (T a).2.1 ≠ (T b).2.1) (hk : k < N) (hr : rs[k]? = some false) (hl : Cond.fieldLink y.cls idx (T k).1 (T k).2.1 (T k).2.2.1 ∈ TW) (hf : (T k).2.2.2 = false) (hp : parseFieldDescriptor (T k).2.2.1 = some ty) (hx : ty = .int ∨ (ty = .boolean ∧ (x = 0 ∨ x = 1)))
    (kk : inR x → G y cc nL ret scr Po Bd (pc + 3) L S sh (up2 h a k x) cs sl) : G y cc nL ret scr Po Bd pc L (pI x :: pR a :: S) sh h cs sl := by
  intro p l e R s m args below meth c Q D cA ext n0 ad0 A X ad H locs ls hW hL hS hc hs
  have h0 := List.forall_mem_cons.mp hS
  have h1 := List.forall_mem_cons.mp h0.2
  obtain ⟨hn, hfit⟩ := nar_fit hx
  refine va_put (Ts := TW) (v := .int (Int32.ofInt x)) X.1 X.2.1 X.2.2.2.2.1 hin ty0 hty hnm X.2.2.2.1 X.2.2.2.2.2.2.1.1 hW.1 hW.2.1 hW.2.2.1 a (rep_get he) hc0 k hk (X.2.2.2.2.1 _ hl) (fun _ h9 => h9) hf hp hn hfit (by simpa using (List.getElem?_eq_some_iff.mp hr).1) hd (fun H1 locs1 hP hD hSS => ?_)
  have e1 := fs_set (ad := ad) (f := h a) (x := x) hr
  simp only [Bool.false_eq_true, if_false] at e1
  refine kk h0.1 p l e R s m args below meth c Q D cA ext n0 ad0 A X ad H1 locs1 ls (wd_put (k := k) (x := x) hW he h0.1 (fun ci' rs' q1 q2 => ?_) ?_ ?_ hSS) hL h1.2 hc hs
  · rw [he] at q1; cases q1; rw [hr] at q2; cases q2
  · rw [e1] at hP; rw [up2_same]; exact hP
  · rw [e1] at hD; rw [up2_same]; exact hD
theorem g_putR {a b ci k : Nat} {rs : List Bool} {C : String} {T : u_T} {N idx : Nat} {ty : FieldType} (hd : decode cc pc = .ok (.putfield idx, 3)) (he : sh[a]? = some (.inr (ci, rs))) (hc0 : vwCl[ci]? = some (C, T, N)) (hin : ∀ w ∈ u_ws C T N, w ∈ TW) (ty0 : Nat → FieldType) (hty : ∀ k, k < N → parseFieldDescriptor (T k).2.2.1 = some (ty0 k)) (hnm : ∀ a, a < N → ∀ b, b < N → a ≠ b → (T a).2.1 ≠ (T b).2.1) (hk : k < N) (hr : rs[k]? = some true) (hl : Cond.fieldLink y.cls idx (T k).1 (T k).2.1 (T k).2.2.1 ∈ TW) (hf : (T k).2.2.2 = false) (hp : parseFieldDescriptor (T k).2.2.1 = some ty) (hx : (∃ n, ty = .object n) ∨ ∃ t, ty = .array t) (hb : (b : Int) < 2147483648)
    (kk : G y cc nL ret scr Po Bd (pc + 3) L S sh (up2 h a k (b : Int)) cs sl) : G y cc nL ret scr Po Bd pc L (pR b :: pR a :: S) sh h cs sl := by
  intro p l e R s m args below meth c Q D cA ext n0 ad0 A X ad H locs ls hW hL hS hc hs
  have h0 := List.forall_mem_cons.mp hS
  have h1 := List.forall_mem_cons.mp h0.2
  have hbl : b < sh.length := h0.1
  have hn : narrow ty (.ref (ad b)) = .ref (ad b) := by rcases hx with ⟨n, rfl⟩ | ⟨t, rfl⟩ <;> rfl
  have hfit : fits ty (.ref (ad b)) = true := by rcases hx with ⟨n, rfl⟩ | ⟨t, rfl⟩ <;> rfl
  refine va_put (Ts := TW) (v := .ref (ad b)) X.1 X.2.1 X.2.2.2.2.1 hin ty0 hty hnm X.2.2.2.1 X.2.2.2.2.2.2.1.1 hW.1 hW.2.1 hW.2.2.1 a (rep_get he) hc0 k hk (X.2.2.2.2.1 _ hl) (fun _ h9 => h9) hf hp hn hfit (by simpa using (List.getElem?_eq_some_iff.mp hr).1) hd (fun H1 locs1 hP hD hSS => ?_)
  have e1 := fs_set (ad := ad) (f := h a) (x := (b : Int)) hr
  have e2 : rfv ad (b : Int) = .ref (ad b) := by unfold rfv; rw [if_neg (by omega)]; simp
  simp only [if_true, e2] at e1
  refine kk p l e R s m args below meth c Q D cA ext n0 ad0 A X ad H1 locs1 ls (wd_put (k := k) (x := (b : Int)) hW he ⟨by omega, by omega⟩ (fun ci' rs' q1 q2 => by omega) ?_ ?_ hSS) hL h1.2 hc hs
  · rw [e1] at hP; rw [up2_same]; exact hP
  · rw [e1] at hD; rw [up2_same]; exact hD
/-- a final field, in its class's constructor -/
theorem g_putF {a b ci k : Nat} {rs : List Bool} {C : String} {T : u_T} {N idx : Nat} {ty : FieldType} (hd : decode cc pc = .ok (.putfield idx, 3)) (he : sh[a]? = some (.inr (ci, rs))) (hc0 : vwCl[ci]? = some (C, T, N)) (hin : ∀ w ∈ u_ws C T N, w ∈ TW) (ty0 : Nat → FieldType) (hty : ∀ k, k < N → parseFieldDescriptor (T k).2.2.1 = some (ty0 k)) (hnm : ∀ a, a < N → ∀ b, b < N → a ≠ b → (T a).2.1 ≠ (T b).2.1) (hk : k < N) (hr : rs[k]? = some true) (hl : Cond.fieldLink y.cls idx (T k).1 (T k).2.1 (T k).2.2.1 ∈ TW) (hf : (T k).2.2.2 = true) (hi : y.name = "<init>") (hdc : (T k).1 = y.cls) (hp : parseFieldDescriptor (T k).2.2.1 = some ty) (hx : (∃ n, ty = .object n) ∨ ∃ t, ty = .array t) (hb : (b : Int) < 2147483648)
    (kk : G y cc nL ret scr Po Bd (pc + 3) L S sh (up2 h a k (b : Int)) cs sl) : G y cc nL ret scr Po Bd pc L (pR b :: pR a :: S) sh h cs sl := by
  intro p l e R s m args below meth c Q D cA ext n0 ad0 A X ad H locs ls hW hL hS hc hs
  have h0 := List.forall_mem_cons.mp hS
  have h1 := List.forall_mem_cons.mp h0.2
  have hbl : b < sh.length := h0.1
  have hn : narrow ty (.ref (ad b)) = .ref (ad b) := by rcases hx with ⟨n, rfl⟩ | ⟨t, rfl⟩ <;> rfl
  have hfit : fits ty (.ref (ad b)) = true := by rcases hx with ⟨n, rfl⟩ | ⟨t, rfl⟩ <;> rfl
  refine va_putF (Ts := TW) (v := .ref (ad b)) X.1 X.2.1 X.2.2.2.2.1 hin ty0 hty hnm X.2.2.2.1 X.2.2.2.2.2.2.1.1 hW.1 hW.2.1 hW.2.2.1 a (rep_get he) hc0 k hk (X.2.2.2.2.1 _ hl) (fun _ h9 => h9) hf (X.2.2.2.2.2.1 hi) hdc hp hn hfit (by simpa using (List.getElem?_eq_some_iff.mp hr).1) hd (fun H1 locs1 hP hD hSS => ?_)
  have e1 := fs_set (ad := ad) (f := h a) (x := (b : Int)) hr
  have e2 : rfv ad (b : Int) = .ref (ad b) := by unfold rfv; rw [if_neg (by omega)]; simp
  simp only [if_true, e2] at e1
  refine kk p l e R s m args below meth c Q D cA ext n0 ad0 A X ad H1 locs1 ls (wd_put (k := k) (x := (b : Int)) hW he ⟨by omega, by omega⟩ (fun ci' rs' q1 q2 => by omega) ?_ ?_ hSS) hL h1.2 hc hs
  · rw [e1] at hP; rw [up2_same]; exact hP
  · rw [e1] at hD; rw [up2_same]; exact hD
/-! arrays -/
theorem aTys_0 {cA : Nat → ClassId} : (aTys cA)[0]? = some (cA 0, .int) := rfl
theorem aTys_1 {cA : Nat → ClassId} : (aTys cA)[1]? = some (cA 1, .byte) := rfl
theorem aTys_2 {cA : Nat → ClassId} : (aTys cA)[2]? = some (cA 2, .boolean) := rfl
theorem g_iaload {a n : Nat} {i : Int} (hd : decode cc pc = .ok (.iaload, 1)) (he : sh[a]? = some (.inl (0, n))) (h0 : 0 ≤ i) (h1 : i < n) (kk : inR (h a i.toNat) → G y cc nL ret scr Po Bd (pc + 1) L (pI (h a i.toNat) :: S) sh h cs sl) : G y cc nL ret scr Po Bd pc L (pI i :: pR a :: S) sh h cs sl := by
  intro p l e R s m args below meth c Q D cA ext n0 ad0 A X ad H locs ls hW hL hS hc hs
  have q0 := List.forall_mem_cons.mp hS
  have q1 := List.forall_mem_cons.mp q0.2
  refine va_iald X.1 X.2.1 X.2.2.2.2.2.2.1.1 hW.1 a 0 (rep_get he) aTys_0 (i32_in q0.1 h0 h1) hd ?_
  rw [i32_clamp q0.1]
  exact kk (hW.2.2.2.1.1 _ _) p l e R s m args below meth c Q D cA ext n0 ad0 A X ad H locs ls hW hL (List.forall_mem_cons.mpr ⟨hW.2.2.2.1.1 _ _, q1.2⟩) hc hs
theorem g_baload {a n : Nat} {i : Int} (hd : decode cc pc = .ok (.baload, 1)) (he : sh[a]? = some (.inl (1, n))) (h0 : 0 ≤ i) (h1 : i < n) (kk : inR (h a i.toNat) → G y cc nL ret scr Po Bd (pc + 1) L (pI (h a i.toNat) :: S) sh h cs sl) : G y cc nL ret scr Po Bd pc L (pI i :: pR a :: S) sh h cs sl := by
  intro p l e R s m args below meth c Q D cA ext n0 ad0 A X ad H locs ls hW hL hS hc hs
  have q0 := List.forall_mem_cons.mp hS
  have q1 := List.forall_mem_cons.mp q0.2
  refine va_bald X.1 X.2.1 X.2.2.2.2.2.2.1.1 hW.1 a 1 (rep_get he) aTys_1 (i32_in q0.1 h0 h1) hd ?_
  rw [i32_clamp q0.1]
  exact kk (hW.2.2.2.1.1 _ _) p l e R s m args below meth c Q D cA ext n0 ad0 A X ad H locs ls hW hL (List.forall_mem_cons.mpr ⟨hW.2.2.2.1.1 _ _, q1.2⟩) hc hs
theorem g_zaload {a n : Nat} {i : Int} (hd : decode cc pc = .ok (.baload, 1)) (he : sh[a]? = some (.inl (2, n))) (h0 : 0 ≤ i) (h1 : i < n) (kk : inR (h a i.toNat) → G y cc nL ret scr Po Bd (pc + 1) L (pI (h a i.toNat) :: S) sh h cs sl) : G y cc nL ret scr Po Bd pc L (pI i :: pR a :: S) sh h cs sl := by
  intro p l e R s m args below meth c Q D cA ext n0 ad0 A X ad H locs ls hW hL hS hc hs
  have q0 := List.forall_mem_cons.mp hS
  have q1 := List.forall_mem_cons.mp q0.2
  refine va_zald X.1 X.2.1 X.2.2.2.2.2.2.1.1 hW.1 a 2 (rep_get he) aTys_2 (i32_in q0.1 h0 h1) hd ?_
  rw [i32_clamp q0.1]
  exact kk (hW.2.2.2.1.1 _ _) p l e R s m args below meth c Q D cA ext n0 ad0 A X ad H locs ls hW hL (List.forall_mem_cons.mpr ⟨hW.2.2.2.1.1 _ _, q1.2⟩) hc hs
theorem arr_fn {f : Nat → Int} {i x : Int} : (fun j => Int32.ofInt (if j = i.toNat then x else f j)) = upd (fun j => Int32.ofInt (f j)) i.toNat (Int32.ofInt x) := by
  funext j
  unfold upd
  split <;> rfl
theorem g_iastore {a n : Nat} {i x : Int} (hd : decode cc pc = .ok (.iastore, 1)) (he : sh[a]? = some (.inl (0, n))) (h0 : 0 ≤ i) (h1 : i < n) (kk : inR x → G y cc nL ret scr Po Bd (pc + 1) L S sh (up2 h a i.toNat x) cs sl) : G y cc nL ret scr Po Bd pc L (pI x :: pI i :: pR a :: S) sh h cs sl := by
  intro p l e R s m args below meth c Q D cA ext n0 ad0 A X ad H locs ls hW hL hS hc hs
  have q0 := List.forall_mem_cons.mp hS
  have q1 := List.forall_mem_cons.mp q0.2
  have q2 := List.forall_mem_cons.mp q1.2
  refine va_iast X.1 X.2.1 X.2.2.2.2.2.2.1.1 hW.1 hW.2.1 hW.2.2.1 a 0 (rep_get he) aTys_0 (i32_in q1.1 h0 h1) hd (fun H1 locs1 hP hD hSS => ?_)
  rw [i32_clamp q1.1] at hP hD
  refine kk q0.1 p l e R s m args below meth c Q D cA ext n0 ad0 A X ad H1 locs1 ls (wd_put hW he q0.1 (fun ci rs z1 _ => by rw [he] at z1; cases z1) ?_ ?_ hSS) hL q2.2 hc hs
  · rw [up2_same]; show va_P D vwCl ((rep ad cA sh h).set a (ad a, .inl (cA 0, n, .inl _))) H1; rw [arr_fn]; exact hP
  · rw [up2_same]; show va_D A ((rep ad cA sh h).set a (ad a, .inl (cA 0, n, .inl _))); rw [arr_fn]; exact hD
theorem nar_b : ∀ x : Int, -128 ≤ x → x ≤ 127 → vp_nar .byte (Int32.ofInt x) = Int32.ofInt x := by
  intro x h1 h2
  obtain ⟨k, rfl⟩ : ∃ k : Nat, x = (k : Int) - 128 := ⟨(x + 128).toNat, by omega⟩
  have hk : k < 256 := by omega
  revert hk
  revert k
  have : ∀ k : Nat, k < 256 → vp_nar .byte (Int32.ofInt ((k : Int) - 128)) = Int32.ofInt ((k : Int) - 128) := by decide +kernel
  intro k _ _ hk
  exact this k hk
theorem g_bastore {a n : Nat} {i x : Int} (hd : decode cc pc = .ok (.bastore, 1)) (he : sh[a]? = some (.inl (1, n))) (h0 : 0 ≤ i) (h1 : i < n) (hx0 : -128 ≤ x) (hx1 : x ≤ 127) (kk : inR x → G y cc nL ret scr Po Bd (pc + 1) L S sh (up2 h a i.toNat x) cs sl) : G y cc nL ret scr Po Bd pc L (pI x :: pI i :: pR a :: S) sh h cs sl := by
  intro p l e R s m args below meth c Q D cA ext n0 ad0 A X ad H locs ls hW hL hS hc hs
  have q0 := List.forall_mem_cons.mp hS
  have q1 := List.forall_mem_cons.mp q0.2
  have q2 := List.forall_mem_cons.mp q1.2
  refine va_bast X.1 X.2.1 X.2.2.2.2.2.2.1.1 hW.1 hW.2.1 hW.2.2.1 a 1 (rep_get he) aTys_1 (i32_in q1.1 h0 h1) hd (fun H1 locs1 hP hD hSS => ?_)
  rw [i32_clamp q1.1, nar_b x hx0 hx1] at hP hD
  refine kk q0.1 p l e R s m args below meth c Q D cA ext n0 ad0 A X ad H1 locs1 ls (wd_put hW he q0.1 (fun ci rs z1 _ => by rw [he] at z1; cases z1) ?_ ?_ hSS) hL q2.2 hc hs
  · rw [up2_same]; show va_P D vwCl ((rep ad cA sh h).set a (ad a, .inl (cA 1, n, .inl _))) H1; rw [arr_fn]; exact hP
  · rw [up2_same]; show va_D A ((rep ad cA sh h).set a (ad a, .inl (cA 1, n, .inl _))); rw [arr_fn]; exact hD
theorem nar_z {x : Int} (hx : x = 0 ∨ x = 1) : vp_nar .boolean (Int32.ofInt x) = Int32.ofInt x := by
  rcases hx with rfl | rfl <;> rfl
theorem g_zastore {a n : Nat} {i x : Int} (hd : decode cc pc = .ok (.bastore, 1)) (he : sh[a]? = some (.inl (2, n))) (h0 : 0 ≤ i) (h1 : i < n) (hx : x = 0 ∨ x = 1) (kk : inR x → G y cc nL ret scr Po Bd (pc + 1) L S sh (up2 h a i.toNat x) cs sl) : G y cc nL ret scr Po Bd pc L (pI x :: pI i :: pR a :: S) sh h cs sl := by
  intro p l e R s m args below meth c Q D cA ext n0 ad0 A X ad H locs ls hW hL hS hc hs
  have q0 := List.forall_mem_cons.mp hS
  have q1 := List.forall_mem_cons.mp q0.2
  have q2 := List.forall_mem_cons.mp q1.2
  refine va_zast X.1 X.2.1 X.2.2.2.2.2.2.1.1 hW.1 hW.2.1 hW.2.2.1 a 2 (rep_get he) aTys_2 (i32_in q1.1 h0 h1) hd (fun H1 locs1 hP hD hSS => ?_)
  rw [i32_clamp q1.1, nar_z hx] at hP hD
  refine kk q0.1 p l e R s m args below meth c Q D cA ext n0 ad0 A X ad H1 locs1 ls (wd_put hW he q0.1 (fun ci rs z1 _ => by rw [he] at z1; cases z1) ?_ ?_ hSS) hL q2.2 hc hs
  · rw [up2_same]; show va_P D vwCl ((rep ad cA sh h).set a (ad a, .inl (cA 2, n, .inl _))) H1; rw [arr_fn]; exact hP
  · rw [up2_same]; show va_D A ((rep ad cA sh h).set a (ad a, .inl (cA 2, n, .inl _))); rw [arr_fn]; exact hD
theorem g_alen {a t n : Nat} (hd : decode cc pc = .ok (.arraylength, 1)) (he : sh[a]? = some (.inl (t, n))) (ht : t < 3) (hn : (n : Int) < 2147483648) (kk : G y cc nL ret scr Po Bd (pc + 1) L (pI (n : Int) :: S) sh h cs sl) : G y cc nL ret scr Po Bd pc L (pR a :: S) sh h cs sl := by
  intro p l e R s m args below meth c Q D cA ext n0 ad0 A X ad H locs ls hW hL hS hc hs
  have q0 := List.forall_mem_cons.mp hS
  obtain ⟨ty, hty⟩ : ∃ ty, (aTys cA)[t]? = some (cA t, ty) := by
    rcases (by omega : t = 0 ∨ t = 1 ∨ t = 2) with rfl | rfl | rfl
    · exact ⟨_, aTys_0⟩
    · exact ⟨_, aTys_1⟩
    · exact ⟨_, aTys_2⟩
  refine va_alen (v := Int32.ofInt (n : Int)) X.1 X.2.1 X.2.2.2.2.2.2.1.1 hW.1 a t (rep_get he) hty (by show Int32.ofNat n = _; rw [Int32.ofInt_eq_ofNat]) hd ?_
  exact kk p l e R s m args below meth c Q D cA ext n0 ad0 A X ad H locs ls hW hL (List.forall_mem_cons.mpr ⟨⟨by omega, by omega⟩, q0.2⟩) hc hs
/-! the script -/
theorem g_slen {xs : List Int} (hd : decode cc pc = .ok (.arraylength, 1)) (kk : xs.length ≤ 3072 → (∀ x ∈ xs, inR x) → G y cc nL ret (some xs) Po Bd (pc + 1) L (pI (xs.length : Int) :: S) sh h cs sl) : G y cc nL ret (some xs) Po Bd pc L (pX :: S) sh h cs sl := by
  intro p l e R s m args below meth c Q D cA ext n0 ad0 A X ad H locs ls hW hL hS hc hs
  have q0 := List.forall_mem_cons.mp hS
  obtain ⟨b, hb, hX, hbl, hbA, hxs, hlen⟩ := X.2.2.2.2.2.2.2.2.2.1.1
  subst hb
  refine va_slen X.1 X.2.1 hX hbl hbA hW.2.2.1 hd ?_
  rw [← Int32.ofInt_eq_ofNat]
  exact kk hlen hxs p l e R s m args below meth c Q D cA _ n0 ad0 A X ad H locs ls hW hL (List.forall_mem_cons.mpr ⟨⟨by omega, by omega⟩, q0.2⟩) hc hs
theorem g_sld {xs : List Int} {i : Int} (hd : decode cc pc = .ok (.iaload, 1)) (h0 : 0 ≤ i) (h1 : i < xs.length) (kk : inR (xs.getD i.toNat 0) → G y cc nL ret (some xs) Po Bd (pc + 1) L (pI (xs.getD i.toNat 0) :: S) sh h cs sl) : G y cc nL ret (some xs) Po Bd pc L (pI i :: pX :: S) sh h cs sl := by
  intro p l e R s m args below meth c Q D cA ext n0 ad0 A X ad H locs ls hW hL hS hc hs
  have q0 := List.forall_mem_cons.mp hS
  have q1 := List.forall_mem_cons.mp q0.2
  obtain ⟨b, hb, hX, hbl, hbA, hxs, hlen⟩ := X.2.2.2.2.2.2.2.2.2.1.1
  subst hb
  have hr : inR (xs.getD i.toNat 0) := by
    have hlt : i.toNat < xs.length := by omega
    rw [List.getD_eq_getElem?_getD, List.getElem?_eq_getElem hlt]
    exact hxs _ (List.getElem_mem hlt)
  refine va_sld X.1 X.2.1 hX hbl hbA hW.2.2.1 (i32_in q0.1 h0 h1) hd ?_
  rw [i32_clamp q0.1]
  exact kk hr p l e R s m args below meth c Q D cA _ n0 ad0 A X ad H locs ls hW hL (List.forall_mem_cons.mpr ⟨hr, q1.2⟩) hc hs
/-! new cells -/
def newC (h : MEM) (n : Nat) (f : Nat → Int) : MEM := fun i j => if i = n then f j else h i j
def dfl (rs : List Bool) : Nat → Int := fun k => if rs.getD k false then -1 else 0
theorem okV_mono {n n' : Nat} {v : PV} (hn : n ≤ n') (h : okV n v) : okV n' v := by
  rcases v with x | x | _ | a
  · exact h
  · exact h
  · exact h
  · exact Nat.lt_of_lt_of_le h hn
theorem pvv_ext {n : Nat} {ad ad' : Nat → Nat} {ext : Value} {v : PV} (hx : ∀ a, a < n → ad' a = ad a) (h : okV n v) : pvv ad' ext v = pvv ad ext v := by
  rcases v with x | x | _ | a
  · rfl
  · rfl
  · rfl
  · show Value.ref _ = Value.ref _; rw [hx a h]
theorem okL_mono {n n' : Nat} {ad ad' : Nat → Nat} {ext : Value} {nL : Nat} {L : List (Option PV)} {ls : Array Slot} (hn : n ≤ n') (hx : ∀ a, a < n → ad' a = ad a) (h : okL n ad ext nL L ls) : okL n' ad' ext nL L ls :=
  ⟨h.1, h.2.1, h.2.2.1, fun i v hv => ⟨okV_mono hn (h.2.2.2 i v hv).1, by rw [pvv_ext hx (h.2.2.2 i v hv).1]; exact (h.2.2.2 i v hv).2⟩⟩
theorem map_ext {n : Nat} {ad ad' : Nat → Nat} {ext : Value} {S : List PV} (hx : ∀ a, a < n → ad' a = ad a) (h : ∀ v ∈ S, okV n v) : S.map (pvv ad ext) = S.map (pvv ad' ext) :=
  List.map_congr_left fun v hv => (pvv_ext hx (h v hv)).symm
theorem rep_push {ad : Nat → Nat} {cA : Nat → ClassId} {q : Nat} {e : SE} {f : Nat → Int} (hk : okH sh h) :
    rep (fun i => if i = sh.length then q else ad i) cA (sh ++ [e]) (newC h sh.length f) = rep ad cA sh h ++ [(q, ecell (fun i => if i = sh.length then q else ad i) cA e f)] := by
  apply List.ext_getElem?
  intro i
  by_cases hi : i < sh.length
  · rw [List.getElem?_append_left (by rw [rep_length]; exact hi), rep_get (e := sh[i]) (List.getElem?_eq_getElem hi), rep_get (e := sh[i]) (by rw [List.getElem?_append_left hi]; exact List.getElem?_eq_getElem hi)]
    have hne : ¬ i = sh.length := by omega
    rw [show newC h sh.length f i = h i from by funext j; simp [newC, hne]]
    simp only [hne, if_false]
    congr 2
    cases he : sh[i] with
    | inl t => rfl
    | inr o =>
      obtain ⟨ci, rs⟩ := o
      have he' : sh[i]? = some (.inr (ci, rs)) := by rw [List.getElem?_eq_getElem hi, he]
      show (Sum.inr (ci, _) : va_E) = Sum.inr (ci, _)
      congr 2
      apply List.ext_getElem?
      intro k
      simp only [List.getElem?_mapIdx]
      cases hb : rs[k]? with
      | none => rfl
      | some b =>
        cases b with
        | false => rfl
        | true =>
          simp only [Option.map_some, if_true]
          have h2 := hk.2 i ci rs k he' hb
          unfold rfv
          split
          · rfl
          · show some (Value.ref (if (h i k).toNat = sh.length then q else ad (h i k).toNat)) = _
            rw [if_neg (by omega)]
  · by_cases hi2 : i = sh.length
    · subst hi2
      rw [rep_get (e := e) (by simp), List.getElem?_append_right (by rw [rep_length]; exact Nat.le_refl _), rep_length, Nat.sub_self]
      simp only [if_true, List.getElem?_cons_zero]
      rw [show newC h sh.length f sh.length = f from by funext j; simp [newC]]
    · rw [List.getElem?_eq_none (by rw [rep_length]; simp; omega), List.getElem?_eq_none (by simp [rep_length]; omega)]
theorem okH_push {e : SE} {f : Nat → Int} (hk : okH sh h) (hf : ∀ k, inR (f k)) (hr : ∀ (ci : Nat) (rs : List Bool) (k : Nat), e = .inr (ci, rs) → rs[k]? = some true → f k < sh.length + 1) : okH (sh ++ [e]) (newC h sh.length f) := by
  refine ⟨fun a k => ?_, fun a ci rs k h1 h2 => ?_⟩
  · unfold newC; split
    · exact hf k
    · exact hk.1 a k
  · rw [List.length_append, List.length_singleton]
    unfold newC
    by_cases ha : a = sh.length
    · subst ha
      rw [if_pos rfl]
      simp at h1
      exact_mod_cast hr ci rs k h1 h2
    · rw [if_neg ha]
      have hl : a < sh.length := by
        have := (List.getElem?_eq_some_iff.mp h1).1
        simp at this
        omega
      rw [List.getElem?_append_left hl] at h1
      have := hk.2 a ci rs k h1 h2
      omega
theorem g_new {ci : Nat} {rs : List Bool} {C : String} {T : u_T} {N idx : Nat} (hd : decode cc pc = .ok (.new idx, 3)) (hc0 : vwCl[ci]? = some (C, T, N)) (hin : ∀ w ∈ u_ws C T N, w ∈ TW) (ty0 : Nat → FieldType) (hty : ∀ k, k < N → parseFieldDescriptor (T k).2.2.1 = some (ty0 k)) (hcl : Cond.classLink y.cls idx C ∈ TW) (hins : Cond.instantiable C N ∈ TW) (hini : Cond.initialized C ∈ TW) (hN : rs.length = N) (hdf : ∀ k, k < N → defaultValue (ty0 k) = if rs.getD k false then .null else .int 0) (h1 : cs + 1 ≤ Bd.2.2.1) (h2 : sl + N ≤ Bd.2.2.2)
    (kk : G y cc nL ret scr Po Bd (pc + 3) L (pR sh.length :: S) (sh ++ [.inr (ci, rs)]) (newC h sh.length (dfl rs)) (cs + 1) (sl + N)) : G y cc nL ret scr Po Bd pc L S sh h cs sl := by
  intro p l e R s m args below meth c Q D cA ext n0 ad0 A X ad H locs ls hW hL hS hc hs
  have hRc : R.cells = Bd.2.2.1 := X.2.2.2.2.2.2.2.1.2.2.1
  have hRs : R.slots = Bd.2.2.2 := X.2.2.2.2.2.2.2.1.2.2.2
  have hfs : ∀ ad' : Nat → Nat, rs.mapIdx (fun k b => if b then rfv ad' (dfl rs k) else Value.int (Int32.ofInt (dfl rs k))) = rs.map (fun b => if b then Value.null else Value.int 0) := by
    intro ad'
    apply List.ext_getElem?
    intro k
    simp only [List.getElem?_mapIdx, List.getElem?_map]
    cases hb : rs[k]? with
    | none => rfl
    | some b => cases b <;> simp [dfl, List.getD_eq_getElem?_getD, hb, rfv]
  refine va_new (Ts := TW) (fs := rs.map (fun b => if b then Value.null else Value.int 0)) X.1 X.2.1 X.2.2.2.2.1 hin ty0 hty X.2.2.2.1 (X.2.2.2.2.1 _ hcl) (X.2.2.2.2.1 _ hins) (X.2.2.2.2.1 _ hini) X.2.2.2.2.2.2.1.1 hW.1 hW.2.1 hW.2.2.1 X.2.2.2.2.2.2.2.2.1 hc0 (fun j hj => ?_) (by omega) (by omega) hd (fun q H1 hP hD hSS => ?_)
  · rw [hdf j hj]
    unfold vp_V
    have hlt : j < rs.length := by omega
    simp [List.getD_eq_getElem?_getD, List.getElem?_eq_getElem hlt]
  · have hx : ∀ a, a < sh.length → (fun i => if i = sh.length then q else ad i) a = ad a := fun a ha => by
      show (if a = sh.length then q else ad a) = ad a
      rw [if_neg (by omega)]
    have hr := rep_push (ad := ad) (cA := cA) (q := q) (e := .inr (ci, rs)) (f := dfl rs) hW.2.2.2.1
    simp only [ecell, hfs] at hr
    have hk := kk p l e R s m args below meth c Q D cA ext n0 ad0 A X (fun i => if i = sh.length then q else ad i) H1 locs ls
      ⟨by rw [hr]; exact hP, by rw [hr]; exact hD, hSS, okH_push hW.2.2.2.1 (fun k => by unfold dfl inR; split <;> omega) (fun ci' rs' k e1 e2 => by
        have e3 : rs = rs' := by injection e1 with e4; exact (Prod.mk.inj e4).2
        subst e3
        unfold dfl; split <;> omega), by rw [List.length_append]; have := hW.2.2.2.2.1; omega, fun a ha => by rw [hx a (Nat.lt_of_lt_of_le ha hW.2.2.2.2.1)]; exact hW.2.2.2.2.2 a ha⟩
      (okL_mono (by rw [List.length_append]; omega) hx hL) (List.forall_mem_cons.mpr ⟨by show sh.length < _; rw [List.length_append]; exact Nat.lt_succ_self _, fun v hv => okV_mono (by rw [List.length_append]; omega) (hS v hv)⟩) (by omega) (by omega)
    rw [List.map_cons, ← map_ext hx hS] at hk
    simpa [pvv] using hk
theorem g_newa {t n : Nat} {at0 : ArrayType} {ty : FieldType} (hd : decode cc pc = .ok (.newarray at0, 2)) (hty : newarray.typeOf at0 = ty) (ht : t < 3 ∧ ∀ cA, (aTys cA)[t]? = some (cA t, ty)) (hw : Cond.arrayClass ty ∈ TW) (hdf : defaultValue ty = .int 0) (hn : n ≤ 65536) (hb : n * componentBytes ty ≤ 536870912) (h1 : cs + 1 ≤ Bd.2.2.1) (h2 : sl + n ≤ Bd.2.2.2)
    (kk : G y cc nL ret scr Po Bd (pc + 2) L (pR sh.length :: S) (sh ++ [.inl (t, n)]) (newC h sh.length (fun _ => 0)) (cs + 1) (sl + n)) : G y cc nL ret scr Po Bd pc L (pI (n : Int) :: S) sh h cs sl := by
  intro p l e R s m args below meth c Q D cA ext n0 ad0 A X ad H locs ls hW hL hS hc hs
  have q0 := List.forall_mem_cons.mp hS
  have hRc : R.cells = Bd.2.2.1 := X.2.2.2.2.2.2.2.1.2.2.1
  have hRs : R.slots = Bd.2.2.2 := X.2.2.2.2.2.2.2.1.2.2.2
  have hnR : inR (n : Int) := ⟨by omega, by omega⟩
  refine va_newa (a0 := (n, .inl (fun _ => (0 : Int32)))) (N' := n) X.1 X.2.1 (by rw [hty]; exact X.2.2.2.2.1 _ hw) hty X.2.2.2.2.2.2.1.1 hW.1 hW.2.1 hW.2.2.1 X.2.2.2.2.2.2.2.2.1 (fun cA0 => by rw [vp_cell_i, hdf]) (fun z => by have := (i32_ltz hnR).mp z; omega) (by rw [i32_clamp hnR]; rfl) hb (by omega) (by omega) hd (fun q cA' H1 hK1 hP hD hSS => ?_)
  have hcA : cA' = cA t := by
    have e1 := hK1.2 (aTys cA).length (cA', ty) (by simp)
    have e2 := X.2.2.2.2.2.2.1.1.2 t _ (ht.2 cA)
    have r1 := e1.2
    have r2 := e2.2
    have hdf' := hdf
    unfold va_RA at r1 r2
    cases ty <;> first | exact Option.some.inj (r1.symm.trans r2) | (simp [defaultValue] at hdf')
  subst hcA
  have hx : ∀ a, a < sh.length → (fun i => if i = sh.length then q else ad i) a = ad a := fun a ha => by
    show (if a = sh.length then q else ad a) = ad a
    rw [if_neg (by omega)]
  have hr := rep_push (ad := ad) (cA := cA) (q := q) (e := .inl (t, n)) (f := fun _ => 0) hW.2.2.2.1
  have hk := kk p l e R s m args below meth c Q D cA ext n0 ad0 A X (fun i => if i = sh.length then q else ad i) H1 locs ls
    ⟨by rw [hr]; exact hP, by rw [hr]; exact hD, hSS, okH_push hW.2.2.2.1 (fun k => inR_0) (fun ci' rs' k e1 e2 => by cases e1), by rw [List.length_append]; have := hW.2.2.2.2.1; omega, fun a ha => by rw [hx a (Nat.lt_of_lt_of_le ha hW.2.2.2.2.1)]; exact hW.2.2.2.2.2 a ha⟩
    (okL_mono (by rw [List.length_append]; omega) hx hL) (List.forall_mem_cons.mpr ⟨by show sh.length < _; rw [List.length_append]; exact Nat.lt_succ_self _, fun v hv => okV_mono (by rw [List.length_append]; omega) (q0.2 v hv)⟩) (by omega) (by omega)
  rw [List.map_cons, ← map_ext hx q0.2] at hk
  simpa [pvv] using hk
/-! the ends -/
theorem g_return (hd : decode cc pc = .ok (.return_, 1)) (hr : ret = none) (hq : Po none sh h) : G y cc nL ret scr Po Bd pc L [] sh h cs sl := by
  intro p l e R s m args below meth c Q D cA ext n0 ad0 A X ad H locs ls hW hL hS hc hs
  exact X.2.2.2.2.2.2.2.2.2.2 none pc ls H locs cs sl ad sh h hd hr hq (fun v hv => by cases hv) hW hc hs
theorem g_ireturn {x : Int} (hd : decode cc pc = .ok (.ireturn, 1)) (hr : retOK ret (some (pI x))) (hq : Po (some (pI x)) sh h) : G y cc nL ret scr Po Bd pc L [pI x] sh h cs sl := by
  intro p l e R s m args below meth c Q D cA ext n0 ad0 A X ad H locs ls hW hL hS hc hs
  exact X.2.2.2.2.2.2.2.2.2.2 (some (pI x)) pc ls H locs cs sl ad sh h hd hr hq (fun v hv => by cases hv; exact hS _ List.mem_cons_self) hW hc hs
theorem retI {x : Int} : retOK (some .int) (some (pI x)) := ⟨_, rfl, rfl⟩
theorem retZ {x : Int} (h : x = 0 ∨ x = 1) : retOK (some .boolean) (some (pI x)) := ⟨_, rfl, by rcases h with rfl | rfl <;> rfl⟩
/-! switches -/
theorem g_tableOut {x dflt lo hi : Int} {offs : Array Int} {len : Nat} (tgt : Nat) (hd : decode cc pc = .ok (.tableswitch dflt lo hi offs, len)) (hx : x < lo ∨ hi < x) (ht : (pc : Int) + dflt = (tgt : Int)) (k : G y cc nL ret scr Po Bd tgt L S sh h cs sl) : G y cc nL ret scr Po Bd pc L (pI x :: S) sh h cs sl := by
  intro p l e R s m args below meth c Q D cA ext n0 ad0 A X ad H locs ls hW hL hS hc hs
  have q0 := List.forall_mem_cons.mp hS
  exact lv_tableOut X.1 X.2.1 hd (by rw [i32_toInt q0.1]; exact hx) ht (k p l e R s m args below meth c Q D cA ext n0 ad0 A X ad H locs ls hW hL q0.2 hc hs)
theorem g_tableIn {x dflt lo hi off : Int} {offs : Array Int} {len : Nat} (tgt i : Nat) (hd : decode cc pc = .ok (.tableswitch dflt lo hi offs, len)) (hx : x = lo + i) (hi2 : x ≤ hi) (ho : offs[i]? = some off) (ht : (pc : Int) + off = (tgt : Int)) (k : G y cc nL ret scr Po Bd tgt L S sh h cs sl) : G y cc nL ret scr Po Bd pc L (pI x :: S) sh h cs sl := by
  intro p l e R s m args below meth c Q D cA ext n0 ad0 A X ad H locs ls hW hL hS hc hs
  have q0 := List.forall_mem_cons.mp hS
  exact lv_tableIn (off := off) X.1 X.2.1 hd (by rw [i32_toInt q0.1]; omega) (by rw [i32_toInt q0.1]; omega) (by rw [i32_toInt q0.1, show (x - lo).toNat = i by omega]; exact ho) ht (k p l e R s m args below meth c Q D cA ext n0 ad0 A X ad H locs ls hW hL q0.2 hc hs)
theorem g_lookup {x dflt off : Int} {ps : Array (Int × Int)} {len : Nat} (tgt : Nat) (hd : decode cc pc = .ok (.lookupswitch dflt ps, len)) (hp : (ps.toList.zip (ps.toList.drop 1)).all (fun (a, next) => a.1 < next.1) = true) (ho : Op.lookupswitch.offset ps.toList dflt x = off) (ht : (pc : Int) + off = (tgt : Int)) (k : G y cc nL ret scr Po Bd tgt L S sh h cs sl) : G y cc nL ret scr Po Bd pc L (pI x :: S) sh h cs sl := by
  intro p l e R s m args below meth c Q D cA ext n0 ad0 A X ad H locs ls hW hL hS hc hs
  have q0 := List.forall_mem_cons.mp hS
  exact lv_lookup (off := off) X.1 X.2.1 hd hp (by rw [i32_toInt q0.1]; exact ho) ht (k p l e R s m args below meth c Q D cA ext n0 ad0 A X ad H locs ls hW hL q0.2 hc hs)
end RULES
