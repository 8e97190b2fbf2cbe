/-! ===== contracts in pure words, and calls ===== -/
def rmB (Bd : Nat × Nat × Nat × Nat) : Room := { frames := Bd.1, cells := Bd.2.2.1, slots := Bd.2.2.2, locals := Bd.2.1 }
def CPre (D : va_G) (cA : Nat → ClassId) (ad : Nat → Nat) (av : List PV) (sh : List SE) (h : MEM) (sz : Nat) : State → Prop := fun U =>
  U.heap.size = sz ∧ va_P D vwCl (rep ad cA sh h) U.heap ∧ KK D cA U ∧ va_D (fun _ => True) (rep ad cA sh h) ∧ okH sh h ∧ (∀ v ∈ av, okV sh.length v) ∧ STR (va_A (rep ad cA sh h) sz) U U.heap
def CPost (D : va_G) (cA : Nat → ClassId) (ad : Nat → Nat) (sh : List SE) (h : MEM) (sz : Nat) (Po : Option PV → List SE → MEM → Prop) : Array Value → State → Outcome → State → Prop := fun _ st o t =>
  (∃ (r : Option PV) (sh' : List SE) (h' : MEM) (ad' : Nat → Nat), o = .returned (r.map (pvv ad' .null)) ∧ Po r sh' h' ∧ (∀ v ∈ r, okV sh'.length v ∧ v ≠ pX) ∧ va_P D vwCl (rep ad' cA sh' h') t.heap ∧ va_D (va_A (rep ad cA sh h) sz) (rep ad' cA sh' h') ∧ okH sh' h' ∧ sh.length ≤ sh'.length ∧ ∀ a, a < sh.length → ad' a = ad a) ∧ va_F (va_A (rep ad cA sh h) sz) st t
def Ctr (y : MethodName) (cc : ByteArray) (nL : Nat) (ret : Option FieldType) (Bd : Nat × Nat × Nat × Nat) (Pre : List PV → List SE → MEM → Prop) (Post : List PV → List SE → MEM → Option PV → List SE → MEM → Prop) : Prop :=
  ∀ (l : Launch) (D : va_G) (cA : Nat → ClassId) (ad : Nat → Nat) (av : List PV) (sh : List SE) (h : MEM) (sz : Nat), Pre av sh h →
    Met l y (Cond.code y cc nL ret :: TW) (rmB Bd) (va_Pc (av.map (pvv ad .null)) (CPre D cA ad av sh h sz)) (CPost D cA ad sh h sz (Post av sh h)) Bd.2.2.1 Bd.2.2.2 (va_A (rep ad cA sh h) sz)
/-- the locals with which a method begins -/
def argL : List PV → List (Option PV)
  | [] => []
  | .inr (.inl x) :: vs => some (.inr (.inl x)) :: none :: argL vs
  | v :: vs => some v :: argL vs
def argN (nL : Nat) (av : List PV) : List (Option PV) := argL av ++ List.replicate (nL - (argL av).length) none
theorem lg_sl_len (v : Value) (vs : List Value) : (lg_sl (v :: vs)).length = (if v.category = 2 then 2 else 1) + (lg_sl vs).length := by
  unfold lg_sl
  rw [List.flatMap_cons, List.length_append]
  split <;> rfl
theorem argL_len {ad : Nat → Nat} : ∀ av : List PV, (lg_sl (av.map (pvv ad .null))).length = (argL av).length
  | [] => rfl
  | .inl x :: vs => by rw [List.map_cons, lg_sl_len, argL_len vs]; simp [argL, pvv, Value.category]; omega
  | .inr (.inl x) :: vs => by rw [List.map_cons, lg_sl_len, argL_len vs]; simp [argL, pvv, Value.category]; omega
  | .inr (.inr none) :: vs => by rw [List.map_cons, lg_sl_len, argL_len vs]; simp [argL, pvv, Value.category]; omega
  | .inr (.inr (some a)) :: vs => by rw [List.map_cons, lg_sl_len, argL_len vs]; simp [argL, pvv, Value.category]; omega
theorem argL_in {ad : Nat → Nat} : ∀ (av : List PV) (i o : Nat) (v : PV), (argL av)[i]? = some (some v) → v ∈ av ∧ (o + i, pvv ad .null v) ∈ lv_args o (av.map (pvv ad .null))
  | [], i, o, v, h => by simp [argL] at h
  | .inl x :: vs, i, o, v, h => by
    cases i with
    | zero => simp [argL] at h; subst h; exact ⟨List.mem_cons_self, by simp [lv_args]⟩
    | succ i =>
      simp [argL] at h
      obtain ⟨h1, h2⟩ := argL_in (ad := ad) vs i (o + 1) v h
      exact ⟨List.mem_cons_of_mem _ h1, by rw [show o + (i + 1) = o + 1 + i by omega]; simp only [List.map_cons, lv_args]; exact List.mem_cons_of_mem _ (by simpa [pvv, Value.category] using h2)⟩
  | .inr (.inr none) :: vs, i, o, v, h => by
    cases i with
    | zero => simp [argL] at h; subst h; exact ⟨List.mem_cons_self, by simp [lv_args]⟩
    | succ i =>
      simp [argL] at h
      obtain ⟨h1, h2⟩ := argL_in (ad := ad) vs i (o + 1) v h
      exact ⟨List.mem_cons_of_mem _ h1, by rw [show o + (i + 1) = o + 1 + i by omega]; simp only [List.map_cons, lv_args]; exact List.mem_cons_of_mem _ (by simpa [pvv, Value.category] using h2)⟩
  | .inr (.inr (some a)) :: vs, i, o, v, h => by
    cases i with
    | zero => simp [argL] at h; subst h; exact ⟨List.mem_cons_self, by simp [lv_args]⟩
    | succ i =>
      simp [argL] at h
      obtain ⟨h1, h2⟩ := argL_in (ad := ad) vs i (o + 1) v h
      exact ⟨List.mem_cons_of_mem _ h1, by rw [show o + (i + 1) = o + 1 + i by omega]; simp only [List.map_cons, lv_args]; exact List.mem_cons_of_mem _ (by simpa [pvv, Value.category] using h2)⟩
  | .inr (.inl x) :: vs, i, o, v, h => by
    cases i with
    | zero => simp [argL] at h; subst h; exact ⟨List.mem_cons_self, by simp [lv_args]⟩
    | succ i =>
      cases i with
      | zero => simp [argL] at h
      | succ i =>
        simp [argL] at h
        obtain ⟨h1, h2⟩ := argL_in (ad := ad) vs i (o + 2) v h
        exact ⟨List.mem_cons_of_mem _ h1, by rw [show o + (i + 1 + 1) = o + 2 + i by omega]; simp only [List.map_cons, lv_args]; exact List.mem_cons_of_mem _ (by simpa [pvv, Value.category] using h2)⟩
/-- a contract out of the walk of the body -/
theorem Ctr.of {y : MethodName} {cc : ByteArray} {nL : Nat} {ret : Option FieldType} {Bd : Nat × Nat × Nat × Nat} {Pre : List PV → List SE → MEM → Prop} {Post : List PV → List SE → MEM → Option PV → List SE → MEM → Prop} (hy : plainName y.cls = true)
    (hb : ∀ (av : List PV) (sh : List SE) (h : MEM), Pre av sh h → okH sh h → (∀ v ∈ av, okV sh.length v) → (argL av).length ≤ nL ∧ G y cc nL ret none (Post av sh h) Bd 0 (argN nL av) [] sh h 0 0) : Ctr y cc nL ret Bd Pre Post := by
  intro l D cA ad av sh h sz hPre
  refine Met.ofW (cc := cc) (maxL := nL) (ret := ret) hy rfl ?_
  intro p e s m args below meth c s₁ B hml hv
  obtain ⟨rfl, hsz, hP, hK, hD0, hH, hav, hstr⟩ := hv
  have hts := atoms_spec (ws := Cond.code y cc nL ret :: TW) B.pre
  have hown : s.vm.findClass y.cls = some m.cls := findClass_of_methodNamed B.named
  have hlocks := B.notSynchronized
  subst hsz
  obtain ⟨hlen, hG⟩ := hb av sh h hPre hH hav
  have hnm : meth.name = y.name := (name_of_methodNamed B.named B.method).1
  have hD : va_D (va_A (rep ad cA sh h) s.heap.size) (rep ad cA sh h) := hD0.self
  have hle := lv_entry (av.map (pvv ad .null)) (n := nL) (by rw [argL_len]; exact hlen)
  rw [lg_entry_eq]
  refine hG p l e _ s m _ below meth c _ D cA .null sh.length ad (va_A (rep ad cA sh h) s.heap.size) ⟨B.exec, B.bytes, hml, hown, fun w hw => hts w (List.mem_cons_of_mem _ hw), fun hi => hnm.trans hi, hK, ⟨rfl, rfl, rfl, rfl⟩, fun q hq => Or.inr hq, ⟨rfl, hstr⟩, ?_⟩ ad s.heap [] _ ⟨hP, hD, va_S.rf, hH, Nat.le_refl _, fun _ _ => rfl⟩ ⟨hle.1, hle.2.1, ?_, fun i v hv => ?_⟩ (fun v hv => by cases hv) (Nat.zero_le _) (Nat.zero_le _)
  · intro r pc ls H locs cs sl ad' sh' h' hret hrok hPo hrv hW hc hs
    refine W.widen (k := Bd.2.2.1) (n := Bd.2.2.2) hc hs ?_
    rcases r with _ | (x | x | _ | a)
    · have hr : meth.sig.returnType = none := B.returns.trans hrok
      exact W.vret B.exec B.bytes hr (fun t ht hw => ⟨⟨none, sh', h', ad', rfl, hPo, (fun v hv => by cases hv), by rw [ht]; exact hW.1, hW.2.1, hW.2.2.2.1, hW.2.2.2.2.1, hW.2.2.2.2.2⟩, hW.2.2.1.F ht⟩) hW.2.2.1.2.2 hret
    · obtain ⟨ty, hty, hn⟩ := hrok
      have hr : meth.sig.returnType = some ty := B.returns.trans hty
      exact W.zret (v := Int32.ofInt x) B.exec B.bytes hr hn (fun t ht hw => ⟨⟨some (pI x), sh', h', ad', rfl, hPo, (fun v hv => ⟨hrv v hv, fun q => by subst q; cases hv⟩), by rw [ht]; exact hW.1, hW.2.1, hW.2.2.2.1, hW.2.2.2.2.1, hW.2.2.2.2.2⟩, hW.2.2.1.F ht⟩) hW.2.2.1.2.2 hret
    · exact absurd hret (fun q => q)
    · exact absurd hret (fun q => q)
    · exact absurd hret (fun q => q)
  · rw [argN, List.length_append, List.length_replicate]; omega
  · unfold argN at hv
    by_cases hi : i < (argL av).length
    · rw [List.getElem?_append_left hi] at hv
      obtain ⟨h1, h2⟩ := argL_in (ad := ad) av i 0 v hv
      exact ⟨hav v h1, by have := hle.2.2 _ h2; simpa using this⟩
    · rw [List.getElem?_append_right (by omega)] at hv
      have := List.eq_of_mem_replicate (List.mem_of_getElem? hv)
      cases this
/-- what a call asks of the callee's words -/
def MQI (y : MethodName) (cc : ByteArray) (nL : Nat) (ret : Option FieldType) (n : Nat) : Prop :=
  Cond.code y cc nL ret ∈ TW ∧ Cond.initialized y.cls ∈ TW ∧ (y.cls ≠ "java/lang/invoke/MethodHandle" ∧ y.cls ≠ "java/lang/invoke/VarHandle") ∧ (parseMethodDescriptor y.desc).map (fun d => d.parameters.length) = some n
def roomLe (Bd Bc : Nat × Nat × Nat × Nat) (nL cs sl : Nat) : Bool := Nat.ble (Bc.1 + 1) Bd.1 && Nat.ble (8 + (nL + 11) + Bc.2.1) Bd.2.1 && Nat.ble (cs + Bc.2.2.1) Bd.2.2.1 && Nat.ble (sl + Bc.2.2.2) Bd.2.2.2
theorem roomLe_of {Bd Bc : Nat × Nat × Nat × Nat} {nL cs sl : Nat} (h : roomLe Bd Bc nL cs sl = true) : Bc.1 + 1 ≤ Bd.1 ∧ 8 + (nL + 11) + Bc.2.1 ≤ Bd.2.1 ∧ cs + Bc.2.2.1 ≤ Bd.2.2.1 ∧ sl + Bc.2.2.2 ≤ Bd.2.2.2 := by
  simp only [roomLe, Bool.and_eq_true, Nat.ble_eq] at h
  exact ⟨h.1.1.1, h.1.1.2, h.1.2, h.2⟩
def catS (S : List PV) : Nat := (S.map (fun v => if notL (some v) then 1 else 2)).sum
theorem catS_eq {ad : Nat → Nat} {ext : Value} (he : ext.category = 1) : ∀ S : List PV, ((S.map (pvv ad ext)).map fun v => v.category).sum = catS S
  | [] => rfl
  | v :: S => by
    have ih := catS_eq (ad := ad) he S
    simp only [List.map_cons, List.sum_cons, catS] at ih ⊢
    rw [ih]
    congr 1
    rcases v with x | x | _ | a
    · rfl
    · rfl
    · exact he
    · rfl
def notX (v : PV) : Bool := match v with
  | .inr (.inr none) => false
  | _ => true
theorem map_notX {ad : Nat → Nat} {ext : Value} {av : List PV} (h : av.all notX = true) : av.map (pvv ad ext) = av.map (pvv ad .null) :=
  List.map_congr_left fun v hv => by
    have := List.all_eq_true.mp h v hv
    rcases v with x | x | _ | a
    · rfl
    · rfl
    · exact absurd this (by simp [notX])
    · rfl
theorem W.ofRun {p : Program} {l : Launch} {e : Jvm.Env} {R : Room} {s : State} {m : MethodId} {args : Array Value} {below : List Frame} {meth : Method} {c : Code} {H : Heap} {locs : List Loc} {cells slots mc ms pc : Nat} {ls : Array Slot} {st0 rest : List Value} {Qa : State → Outcome → State → Prop} {free : Addr → Prop} {Q : State → Prop}
    (hr : va_Run p l e R s m args below meth c H locs cells slots mc ms (F0 m pc ls st0) rest Qa free)
    (kk : ∀ (v : Option Value) (st₀ t T' : State) (X : List Loc), st₀.heap = H → T'.heap = t.heap → (∀ q ∈ X, free q.base) → Qa st₀ (.returned v) t → W p l e R s m args below meth c T'.heap (locs ++ X) (cells + mc) (slots + ms) Q (F0 m (pc + 3) ls (v.toList ++ rest))) : W p l e R s m args below meth c H locs cells slots Q (F0 m pc ls st0) := by
  intro T hT X
  obtain ⟨v, st₀, t, T', L, h0, X', hL, e1, e2, hq, st⟩ := hr T hT X
  obtain ⟨t2, a1, b1⟩ := kk v st₀ t T' L h0 e1 hL hq T' rfl X'
  exact ⟨t2, st t2 a1, b1⟩
section CALLS
variable {y : MethodName} {cc : ByteArray} {nL : Nat} {ret : Option FieldType} {scr : Option (List Int)} {Po : Option PV → List SE → MEM → Prop} {Bd : Nat × Nat × Nat × Nat} {pc : Nat} {L : List (Option PV)} {S : List PV} {sh : List SE} {h : MEM} {cs sl : Nat}
variable {y' : MethodName} {cc' : ByteArray} {nL' : Nat} {ret' : Option FieldType} {Bc : Nat × Nat × Nat × Nat} {Pre : List PV → List SE → MEM → Prop} {Post : List PV → List SE → MEM → Option PV → List SE → MEM → Prop} {idx n : Nat} {av S0 : List PV}
/-- behind a call: the world that came back -/
theorem call_back {p : Program} {l : Launch} {e : Jvm.Env} {R : Room} {s : State} {m : MethodId} {args : Array Value} {below : List Frame} {meth : Method} {c : Code} {Q : State → Prop} {D : va_G} {cA : Nat → ClassId} {ext : Value} {n0 : Nat} {ad0 : Nat → Nat} {A : Nat → Prop} {ad : Nat → Nat} {H : Heap} {locs : List Loc} {ls : Array Slot} {st0 : List Value} {a : Array Value}
    (X : Cx y cc nL ret scr Po Bd p l e R s m args below meth c Q D cA ext n0 ad0 A) (hW : Wd D cA n0 ad0 A s sh h ad H locs) (hL : okL sh.length ad ext nL L ls) (hS : ∀ v ∈ S, okV sh.length v) (hRc : cs + Bc.2.2.1 ≤ R.cells) (hRs : sl + Bc.2.2.2 ≤ R.slots)
    (hr : va_Run p l e R s m args below meth c H locs cs sl Bc.2.2.1 Bc.2.2.2 (F0 m pc ls st0) (S.map (pvv ad ext)) (CPost D cA ad sh h H.size (Post av sh h) a) (va_A (rep ad cA sh h) H.size))
    (kk : ∀ (r : Option PV) (sh' : List SE) (h' : MEM), Post av sh h r sh' h' → sh.length ≤ sh'.length → G y cc nL ret scr Po Bd (pc + 3) L (r.toList ++ S) sh' h' (cs + Bc.2.2.1) (sl + Bc.2.2.2)) : W p l e R s m args below meth c H locs cs sl Q (F0 m pc ls st0) := by
  have hfA : ∀ q, va_A (rep ad cA sh h) H.size q → A q := by
    intro q hq
    rcases hq with ⟨k, ee, hq⟩ | hq
    · exact hW.2.1.2 k (q, ee) hq
    · exact X.2.2.2.2.2.2.2.2.1 q (Nat.le_trans hW.2.2.1.1 hq)
  refine W.ofRun hr (fun v st₀ t T' Lx h0 e1 hLx hq => ?_)
  obtain ⟨⟨r, sh', h', ad', ho, hPost, hrv, hP1, hD1, hH1, hlen, hext⟩, hF⟩ := hq
  have ho' : v = r.map (pvv ad' .null) := by injection ho
  subst ho'
  have hk := kk r sh' h' hPost hlen p l e R s m args below meth c Q D cA ext n0 ad0 A X ad' T'.heap (locs ++ Lx) ls
    ⟨by rw [e1]; exact hP1, ⟨hD1.1, fun k q hq => hfA _ (hD1.2 k q hq)⟩, ⟨?_, fun q g1 g2 => ?_, fun q hq => ?_⟩, hH1, Nat.le_trans hW.2.2.2.2.1 hlen, fun a ha => by rw [hext a (Nat.lt_of_lt_of_le ha hW.2.2.2.2.1)]; exact hW.2.2.2.2.2 a ha⟩
    (okL_mono hlen hext hL) (fun v hv => by
      rcases List.mem_append.mp hv with h1 | h1
      · exact (hrv v (by simpa using h1)).1
      · exact okV_mono hlen (hS v h1)) hRc hRs
  · rw [List.map_append, ← map_ext (ad := ad) hext hS] at hk
    have e3 : r.toList.map (pvv ad' ext) = (r.map (pvv ad' .null)).toList := by
      cases r with
      | none => rfl
      | some v =>
        have hv := (hrv v rfl).2
        rcases v with x | x | _ | a
        · rfl
        · rfl
        · exact absurd rfl hv
        · rfl
    rw [e3] at hk
    exact hk
  · rw [e1, ]
    have := hF.1
    rw [h0] at this
    exact Nat.le_trans hW.2.2.1.1 this
  · rw [e1, hF.2 q (by rw [h0]; exact Nat.lt_of_lt_of_le g1 hW.2.2.1.1) (fun z => g2 (hfA q z)), h0]
    exact hW.2.2.1.2.1 q g1 g2
  · rcases List.mem_append.mp hq with h1 | h1
    · exact hW.2.2.1.2.2 q h1
    · exact hfA _ (hLx q h1)
theorem call_pre {p : Program} {l : Launch} {e : Jvm.Env} {R : Room} {s : State} {m : MethodId} {args : Array Value} {below : List Frame} {meth : Method} {c : Code} {Q : State → Prop} {D : va_G} {cA : Nat → ClassId} {ext : Value} {n0 : Nat} {ad0 : Nat → Nat} {A : Nat → Prop} {ad : Nat → Nat} {H : Heap} {locs : List Loc}
    (X : Cx y cc nL ret scr Po Bd p l e R s m args below meth c Q D cA ext n0 ad0 A) (hW : Wd D cA n0 ad0 A s sh h ad H locs) (hav : ∀ v ∈ av, okV sh.length v) : PreS s H (va_Pc (av.map (pvv ad .null)) (CPre D cA ad av sh h H.size)) (av.map (pvv ad .null)) :=
  ⟨fun a U g mk q => by
    obtain ⟨q0, q1, q2, q3, q4, q5, q6, q7⟩ := q
    exact ⟨q0, q1, q2, KK.same (s := U) (U := U.calling g mk a) rfl q3, q4, q5, q6, STR.same (u := U) (U := U.calling g mk a) rfl q7⟩, fun U hU hw => ⟨rfl, by rw [hU], by rw [hU]; exact hW.1, KK.warm hw X.2.2.2.2.2.2.1, ⟨hW.2.1.1, fun _ _ _ => trivial⟩, hW.2.2.2.1, hav, by
      rw [hU]
      refine STR.warm hw ((X.2.2.2.2.2.2.2.2.2.1.2.kept hW.2.2.1.2.1).narrow (fun q hq => ?_))
      rcases hq with ⟨k, ee, hq⟩ | hq
      · exact hW.2.1.2 k (q, ee) hq
      · exact X.2.2.2.2.2.2.2.2.1 q (Nat.le_trans hW.2.2.1.1 hq)⟩⟩
theorem call_B {p : Program} {l : Launch} {e : Jvm.Env} {R : Room} {s : State} {m : MethodId} {args : Array Value} {below : List Frame} {meth : Method} {c : Code} {Q : State → Prop} {D : va_G} {cA : Nat → ClassId} {ext : Value} {n0 : Nat} {ad0 : Nat → Nat} {A : Nat → Prop}
    (X : Cx y cc nL ret scr Po Bd p l e R s m args below meth c Q D cA ext n0 ad0 A) (hM : MQI y' cc' nL' ret' n) (hR : roomLe Bd Bc nL' cs sl = true) (hl : Cond.methodLink y.cls idx y' ∈ TW) : CallB R s args y.cls idx y' cc' nL' ret' (Cond.code y' cc' nL' ret' :: TW) (rmB Bc) Bc.2.2.1 Bc.2.2.2 n := by
  obtain ⟨r1, r2, r3, r4⟩ := roomLe_of hR
  have hf := X.2.2.2.2.2.2.2.1.1
  have hlo := X.2.2.2.2.2.2.2.1.2.1
  refine ⟨rfl, rfl, by rw [hf]; exact r1, by rw [hlo]; exact r2, ?_, List.mem_cons_self, X.2.2.2.2.1 _ hM.1, X.2.2.2.2.1 _ hM.2.1, hM.2.2.1, fun sig hsig => ?_, X.2.2.2.2.1 _ hl⟩
  · refine pay_in X.2.2.2.2.1 (fun w hw => ?_)
    rcases List.mem_cons.mp hw with rfl | hw
    · exact good_TW _ hM.1
    · exact good_TW _ hw
  · have h2 := hM.2.2.2
    rw [hsig] at h2
    exact (Option.some.inj h2).symm
theorem g_callS (C : Ctr y' cc' nL' ret' Bc Pre Post) (hd : decode cc pc = .ok (.invokestatic idx, 3)) (hM : MQI y' cc' nL' ret' n) (hst : Cond.static y' ∈ TW) (hl : Cond.methodLink y.cls idx y' ∈ TW) (hR : roomLe Bd Bc nL' cs sl = true) (hn : av.length = n) (hx : av.all notX = true) (hS0 : S0 = av.reverse ++ S) (hcat : catS S ≤ 8) (hpre : (∀ v ∈ av, okV sh.length v) → okH sh h → Pre av sh h)
    (kk : ∀ (r : Option PV) (sh' : List SE) (h' : MEM), Post av sh h r sh' h' → sh.length ≤ sh'.length → G y cc nL ret scr Po Bd (pc + 3) L (r.toList ++ S) sh' h' (cs + Bc.2.2.1) (sl + Bc.2.2.2)) : G y cc nL ret scr Po Bd pc L S0 sh h cs sl := by
  intro p l e R s m args below meth c Q D cA ext n0 ad0 A X ad H locs ls hW hL hS hc hs
  subst hS0
  obtain ⟨r1, r2, r3, r4⟩ := roomLe_of hR
  have hRc : R.cells = Bd.2.2.1 := X.2.2.2.2.2.2.2.1.2.2.1
  have hRs : R.slots = Bd.2.2.2 := X.2.2.2.2.2.2.2.1.2.2.2
  have hav : ∀ v ∈ av, okV sh.length v := fun v hv => hS v (List.mem_append_left _ (List.mem_reverse.mpr hv))
  have hSr : ∀ v ∈ S, okV sh.length v := fun v hv => hS v (List.mem_append_right _ hv)
  refine call_back (Post := Post) (av := av) X hW hL hSr (by omega) (by omega) (va_runS (As := av.map (pvv ad .null)) (rest := S.map (pvv ad ext)) (Ts := TW) ⟨X.1, X.2.1, X.2.2.1, X.2.2.2.1, X.2.2.2.2.1⟩ (C l D cA ad av sh h H.size (hpre hav hW.2.2.2.1)) ⟨call_B (Bc := Bc) X hM hR hl, X.2.2.2.2.1 _ hst⟩ (call_pre X hW hav) rfl (by rw [List.length_map]; exact hn) hL.1 ?_ (lv_room (by rw [catS_eq (ext_cat X.2.2.2.2.2.2.2.2.2.1.1)]; exact hcat)) hd ⟨by omega, by omega⟩) kk
  show (av.reverse ++ S).map (pvv ad ext) = _
  rw [List.map_append, List.map_reverse, map_notX hx]
theorem g_callV {ci b : Nat} {rs : List Bool} {T : u_T} {N : Nat} {as : List PV} (C : Ctr y' cc' nL' ret' Bc Pre Post) (hd : decode cc pc = .ok (.invokevirtual idx, 3)) (hM : MQI y' cc' nL' ret' n) (hin : Cond.instanceMethod y' ∈ TW) (hse : Cond.selects y'.cls y' y' ∈ TW) (hl : Cond.methodLink y.cls idx y' ∈ TW) (hR : roomLe Bd Bc nL' cs sl = true) (hn : as.length = n) (hx : as.all notX = true) (he : sh[b]? = some (.inr (ci, rs))) (hc0 : vwCl[ci]? = some (y'.cls, T, N)) (hS0 : S0 = as.reverse ++ pR b :: S) (hcat : catS S ≤ 8) (hpre : (∀ v ∈ as, okV sh.length v) → okH sh h → Pre (pR b :: as) sh h)
    (kk : ∀ (r : Option PV) (sh' : List SE) (h' : MEM), Post (pR b :: as) sh h r sh' h' → sh.length ≤ sh'.length → G y cc nL ret scr Po Bd (pc + 3) L (r.toList ++ S) sh' h' (cs + Bc.2.2.1) (sl + Bc.2.2.2)) : G y cc nL ret scr Po Bd pc L S0 sh h cs sl := by
  intro p l e R s m args below meth c Q D cA ext n0 ad0 A X ad H locs ls hW hL hS hc hs
  subst hS0
  obtain ⟨r1, r2, r3, r4⟩ := roomLe_of hR
  have hRc : R.cells = Bd.2.2.1 := X.2.2.2.2.2.2.2.1.2.2.1
  have hRs : R.slots = Bd.2.2.2 := X.2.2.2.2.2.2.2.1.2.2.2
  have hb : okV sh.length (pR b) := hS _ (List.mem_append_right _ List.mem_cons_self)
  have has : ∀ v ∈ as, okV sh.length v := fun v hv => hS v (List.mem_append_left _ (List.mem_reverse.mpr hv))
  have hav : ∀ v ∈ (pR b :: as), okV sh.length v := List.forall_mem_cons.mpr ⟨hb, has⟩
  have hSr : ∀ v ∈ S, okV sh.length v := fun v hv => hS v (List.mem_append_right _ (List.mem_cons_of_mem _ hv))
  have hp := call_pre (av := pR b :: as) X hW hav
  refine call_back (Post := Post) (av := pR b :: as) X hW hL hSr (by omega) (by omega) (va_runV (b := ad b) (As := as.map (pvv ad .null)) (rest := S.map (pvv ad ext)) (Ts := TW) (C := y'.cls) ⟨X.1, X.2.1, X.2.2.1, X.2.2.2.1, X.2.2.2.2.1⟩ (C l D cA ad (pR b :: as) sh h H.size (hpre has hW.2.2.2.1)) ⟨call_B (Bc := Bc) X hM hR hl, X.2.2.2.2.1 _ hin, X.2.2.2.2.1 _ hse⟩ ⟨hp.1, va_recv X.2.2.2.2.2.2.1.1 hW.1 hc0 (rep_get he), hp.2⟩ rfl (by rw [List.length_map]; exact hn) hL.1 ?_ (lv_room (by rw [catS_eq (ext_cat X.2.2.2.2.2.2.2.2.2.1.1)]; exact hcat)) hd ⟨by omega, by omega⟩) kk
  show (as.reverse ++ pR b :: S).map (pvv ad ext) = _
  rw [List.map_append, List.map_reverse, map_notX hx]
  rfl
theorem g_callI {b : Nat} {as : List PV} (C : Ctr y' cc' nL' none Bc Pre Post) (hd : decode cc pc = .ok (.invokespecial idx, 3)) (hM : MQI y' cc' nL' none n) (hin : Cond.instanceMethod y' ∈ TW) (hy1 : y'.name = "<init>") (hl : Cond.methodLink y.cls idx y' ∈ TW) (hR : roomLe Bd Bc nL' cs sl = true) (hn : as.length = n) (hx : as.all notX = true) (hS0 : S0 = as.reverse ++ pR b :: S) (hcat : catS S ≤ 8) (hpre : (∀ v ∈ as, okV sh.length v) → okH sh h → Pre (pR b :: as) sh h)
    (kk : ∀ (r : Option PV) (sh' : List SE) (h' : MEM), Post (pR b :: as) sh h r sh' h' → sh.length ≤ sh'.length → G y cc nL ret scr Po Bd (pc + 3) L (r.toList ++ S) sh' h' (cs + Bc.2.2.1) (sl + Bc.2.2.2)) : G y cc nL ret scr Po Bd pc L S0 sh h cs sl := by
  intro p l e R s m args below meth c Q D cA ext n0 ad0 A X ad H locs ls hW hL hS hc hs
  subst hS0
  obtain ⟨r1, r2, r3, r4⟩ := roomLe_of hR
  have hRc : R.cells = Bd.2.2.1 := X.2.2.2.2.2.2.2.1.2.2.1
  have hRs : R.slots = Bd.2.2.2 := X.2.2.2.2.2.2.2.1.2.2.2
  have hb : okV sh.length (pR b) := hS _ (List.mem_append_right _ List.mem_cons_self)
  have has : ∀ v ∈ as, okV sh.length v := fun v hv => hS v (List.mem_append_left _ (List.mem_reverse.mpr hv))
  have hav : ∀ v ∈ (pR b :: as), okV sh.length v := List.forall_mem_cons.mpr ⟨hb, has⟩
  have hSr : ∀ v ∈ S, okV sh.length v := fun v hv => hS v (List.mem_append_right _ (List.mem_cons_of_mem _ hv))
  refine call_back (Post := Post) (av := pR b :: as) X hW hL hSr (by omega) (by omega) (va_runI (b := ad b) (As := as.map (pvv ad .null)) (rest := S.map (pvv ad ext)) (Ts := TW) ⟨X.1, X.2.1, X.2.2.1, X.2.2.2.1, X.2.2.2.2.1⟩ (C l D cA ad (pR b :: as) sh h H.size (hpre has hW.2.2.2.1)) ⟨call_B (Bc := Bc) X hM hR hl, hy1, X.2.2.2.2.1 _ hin⟩ (call_pre (av := pR b :: as) X hW hav) rfl (by rw [List.length_map]; exact hn) hL.1 ?_ (lv_room (by rw [catS_eq (ext_cat X.2.2.2.2.2.2.2.2.2.1.1)]; exact hcat)) hd ⟨by omega, by omega⟩) kk
  show (as.reverse ++ pR b :: S).map (pvv ad ext) = _
  rw [List.map_append, List.map_reverse, map_notX hx]
  rfl
/-- a nest mate's constructor -/
theorem g_callIN {b : Nat} {as : List PV} (C : Ctr y' cc' nL' none Bc Pre Post) (hd : decode cc pc = .ok (.invokespecial idx, 3)) (hM : MQI y' cc' nL' none n) (hin : Cond.instanceMethod y' ∈ TW) (hy1 : y'.name = "<init>") (hl : (y.cls, idx, y') ∈ nestL) (hR : roomLe Bd Bc nL' cs sl = true) (hn : as.length = n) (hx : as.all notX = true) (hS0 : S0 = as.reverse ++ pR b :: S) (hcat : catS S ≤ 8) (hpre : (∀ v ∈ as, okV sh.length v) → okH sh h → Pre (pR b :: as) sh h)
    (kk : ∀ (r : Option PV) (sh' : List SE) (h' : MEM), Post (pR b :: as) sh h r sh' h' → sh.length ≤ sh'.length → G y cc nL ret scr Po Bd (pc + 3) L (r.toList ++ S) sh' h' (cs + Bc.2.2.1) (sl + Bc.2.2.2)) : G y cc nL ret scr Po Bd pc L S0 sh h cs sl := by
  intro p l e R s m args below meth c Q D cA ext n0 ad0 A X ad H locs ls hW hL hS hc hs
  subst hS0
  obtain ⟨r1, r2, r3, r4⟩ := roomLe_of hR
  have hRc : R.cells = Bd.2.2.1 := X.2.2.2.2.2.2.2.1.2.2.1
  have hRs : R.slots = Bd.2.2.2 := X.2.2.2.2.2.2.2.1.2.2.2
  have hf := X.2.2.2.2.2.2.2.1.1
  have hlo := X.2.2.2.2.2.2.2.1.2.1
  have hb : okV sh.length (pR b) := hS _ (List.mem_append_right _ List.mem_cons_self)
  have has : ∀ v ∈ as, okV sh.length v := fun v hv => hS v (List.mem_append_left _ (List.mem_reverse.mpr hv))
  have hav : ∀ v ∈ (pR b :: as), okV sh.length v := List.forall_mem_cons.mpr ⟨hb, has⟩
  have hSr : ∀ v ∈ S, okV sh.length v := fun v hv => hS v (List.mem_append_right _ (List.mem_cons_of_mem _ hv))
  have hnest := X.2.2.2.2.2.2.1.2 _ hl
  have hcn : va_CN R s args y.cls idx y' "SlateSchool" cc' nL' none (Cond.code y' cc' nL' none :: TW) (rmB Bc) Bc.2.2.1 Bc.2.2.2 n := by
    refine ⟨⟨rfl, rfl, by rw [hf]; exact r1, by rw [hlo]; exact r2, ?_, List.mem_cons_self⟩, X.2.2.2.2.1 _ hM.1, X.2.2.2.2.1 _ hM.2.1, hM.2.2.1, fun sig hsig => ?_, va_Nw.use rfl hnest⟩
    · refine pay_in X.2.2.2.2.1 (fun w hw => ?_)
      rcases List.mem_cons.mp hw with rfl | hw
      · exact good_TW _ hM.1
      · exact good_TW _ hw
    · have h2 := hM.2.2.2
      rw [hsig] at h2
      exact (Option.some.inj h2).symm
  refine call_back (Post := Post) (av := pR b :: as) X hW hL hSr (by omega) (by omega) (va_runIN (b := ad b) (As := as.map (pvv ad .null)) (rest := S.map (pvv ad ext)) (Ts := TW) ⟨X.1, X.2.1, X.2.2.1, X.2.2.2.1, X.2.2.2.2.1⟩ (C l D cA ad (pR b :: as) sh h H.size (hpre has hW.2.2.2.1)) ⟨hcn, hy1, X.2.2.2.2.1 _ hin⟩ (call_pre (av := pR b :: as) X hW hav) rfl (by rw [List.length_map]; exact hn) hL.1 ?_ (lv_room (by rw [catS_eq (ext_cat X.2.2.2.2.2.2.2.2.2.1.1)]; exact hcat)) hd ⟨by omega, by omega⟩) kk
  show (as.reverse ++ pR b :: S).map (pvv ad ext) = _
  rw [List.map_append, List.map_reverse, map_notX hx]
  rfl
theorem g_objInit {b : Nat} (hd : decode cc pc = .ok (.invokespecial idx, 3)) (hl : Cond.methodLink y.cls idx objectInit ∈ TW) (hin : Cond.instanceMethod objectInit ∈ TW) (hco : Cond.code objectInit ⟨#[0xb1]⟩ 1 none ∈ TW) (hf : 1 ≤ Bd.1) (hlo : catS S + 12 ≤ Bd.2.1) (kk : G y cc nL ret scr Po Bd (pc + 3) L S sh h cs sl) : G y cc nL ret scr Po Bd pc L (pR b :: S) sh h cs sl := by
  intro p l e R s m args below meth c Q D cA ext n0 ad0 A X ad H locs ls hW hL hS hc hs
  have q0 := List.forall_mem_cons.mp hS
  refine W.objInit X.1 X.2.1 X.2.2.2.1 (X.2.2.2.2.1 _ hl) (X.2.2.2.2.1 _ hin) (X.2.2.2.2.1 _ hco) rfl (hL.1.trans X.2.2.1.symm) rfl hd (by rw [X.2.2.2.2.2.2.2.1.1]; exact hf) ?_ (kk p l e R s m args below meth c Q D cA ext n0 ad0 A X ad H locs ls hW hL q0.2 hc hs)
  show 2 * 0 + ((S.map (pvv ad ext)).map fun v => v.category).sum + 12 ≤ R.locals
  rw [catS_eq (ext_cat X.2.2.2.2.2.2.2.2.2.1.1), X.2.2.2.2.2.2.2.1.2.1]
  omega
end CALLS
