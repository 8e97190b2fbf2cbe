/-! ===== the constructors ===== -/
def putJ (l : List (Int ⊕ List Int)) (a k : Nat) (x : Int) : List (Int ⊕ List Int) := l.set a (match l[a]? with
  | some (.inr f) => .inr (f.set k x)
  | _ => .inl 0)
def chkJ (l : List (Int ⊕ List Int)) (a k : Nat) : Bool := match l[a]? with
  | some (.inr f) => decide (k < f.length)
  | _ => false
theorem put_J {l : List (Int ⊕ List Int)} {a k : Nat} {x : Int} (h : chkJ l a k = true) : up2 (hOf l) a k x = hOf (putJ l a k x) := by
  unfold chkJ at h
  split at h
  · next f hf =>
    have hk : k < f.length := by simpa using h
    have hl : a < l.length := (List.getElem?_eq_some_iff.mp hf).1
    funext i j
    unfold up2 hOf putJ
    rw [hf]
    by_cases hi : i = a
    · subst hi
      rw [List.getElem?_set_self hl, hf]
      by_cases hj : j = k
      · subst hj
        rw [if_pos ⟨rfl, rfl⟩]
        simp [List.getD_eq_getElem?_getD, hk]
      · rw [if_neg (fun q => hj q.2)]
        simp [List.getD_eq_getElem?_getD, List.getElem?_set_ne (Ne.symm hj)]
    · rw [if_neg (fun q => hi q.1), List.getElem?_set_ne (Ne.symm hi)]
  · cases h
theorem new_o {l : List (Int ⊕ List Int)} {n : Nat} {rs : List Bool} (hl : l.length = n) : newC (hOf l) n (dfl rs) = hOf (l ++ [.inr (rs.map fun b => if b then -1 else 0)]) := by
  subst hl
  funext i j
  unfold newC hOf
  by_cases hi : i = l.length
  · subst hi
    rw [if_pos rfl, List.getElem?_append_right (Nat.le_refl _), Nat.sub_self]
    simp only [List.getElem?_cons_zero, dfl, List.getD_eq_getElem?_getD, List.getElem?_map]
    cases hb : rs[j]? with
    | none => rfl
    | some b => cases b <;> rfl
  · rw [if_neg hi]
    by_cases h2 : i < l.length
    · rw [List.getElem?_append_left h2]
    · rw [List.getElem?_eq_none (by omega), List.getElem?_eq_none (by simp; omega)]
theorem new_a {l : List (Int ⊕ List Int)} {n : Nat} (hl : l.length = n) : newC (hOf l) n (fun _ => 0) = hOf (l ++ [.inl 0]) := by
  subst hl
  funext i j
  unfold newC hOf
  by_cases hi : i = l.length
  · subst hi
    rw [if_pos rfl, List.getElem?_append_right (Nat.le_refl _), Nat.sub_self]
    rfl
  · rw [if_neg hi]
    by_cases h2 : i < l.length
    · rw [List.getElem?_append_left h2]
    · rw [List.getElem?_eq_none (by omega), List.getElem?_eq_none (by simp; omega)]
def CK (y : MethodName) (cc : ByteArray) (Bd : Nat × Nat × Nat × Nat) (a n n' : Nat) (l l' : List (Int ⊕ List Int)) : Prop :=
  Ctr y cc 1 none Bd (fun av sh h => av = [pR a] ∧ sh = SH.take n ∧ h = hOf l) (fun _ _ _ r sh h => r = none ∧ sh = SH.take n' ∧ h = hOf l')
theorem CK.of {y : MethodName} {cc : ByteArray} {Bd : Nat × Nat × Nat × Nat} {a n n' : Nat} {l l' : List (Int ⊕ List Int)} (hy : plainName y.cls = true)
    (hb : ∀ Po : Option PV → List SE → MEM → Prop, Po none (SH.take n') (hOf l') → G y cc 1 none none Po Bd 0 [some (pR a)] [] (SH.take n) (hOf l) 0 0) : CK y cc Bd a n n' l l' := by
  refine Ctr.of hy (fun av sh h hp hH hav => ?_)
  obtain ⟨rfl, rfl, rfl⟩ := hp
  exact ⟨Nat.le_refl _, hb _ ⟨rfl, rfl, rfl⟩⟩
section KRULES
variable {y : MethodName} {cc : ByteArray} {nL : Nat} {ret : Option FieldType} {scr : Option (List Int)} {Po : Option PV → List SE → MEM → Prop} {Bd : Nat × Nat × Nat × Nat} {pc : Nat} {L : List (Option PV)} {S : List PV} {sh : List SE} {h : MEM} {cs sl : Nat}
theorem g_newJ {n n' ci : Nat} {rs : List Bool} {C : String} {T : u_T} {N idx : Nat} {l l' : List (Int ⊕ List Int)} (hd : decode cc pc = .ok (.new idx, 3)) (hc0 : vwCl[ci]? = some (C, T, N)) (hin : ∀ w ∈ u_ws C T N, w ∈ TW) (ty0 : Nat → FieldType) (hty : ∀ k, k < N → parseFieldDescriptor (T k).2.2.1 = some (ty0 k)) (hcl : Cond.classLink y.cls idx C ∈ TW) (hins : Cond.instantiable C N ∈ TW) (hini : Cond.initialized C ∈ TW) (hN : rs.length = N) (hdf : ∀ k, k < N → defaultValue (ty0 k) = if rs.getD k false then .null else .int 0) (h1 : cs + 1 ≤ Bd.2.2.1) (h2 : sl + N ≤ Bd.2.2.2)
    (hn : (SH.take n).length = n) (hs : SH.take n ++ [.inr (ci, rs)] = SH.take n') (hl : l.length = n) (hl' : l ++ [.inr (rs.map fun b => if b then -1 else 0)] = l')
    (kk : G y cc nL ret scr Po Bd (pc + 3) L (pR n :: S) (SH.take n') (hOf l') (cs + 1) (sl + N)) : G y cc nL ret scr Po Bd pc L S (SH.take n) (hOf l) cs sl := by
  refine g_new hd hc0 hin ty0 hty hcl hins hini hN hdf h1 h2 ?_
  rw [hn, hs, new_o hl, hl']
  exact kk
theorem g_newaJ {t n n' m : Nat} {at0 : ArrayType} {ty : FieldType} {l l' : List (Int ⊕ List Int)} (hd : decode cc pc = .ok (.newarray at0, 2)) (hty : newarray.typeOf at0 = ty) (ht : t < 3 ∧ ∀ cA, (aTys cA)[t]? = some (cA t, ty)) (hw : Cond.arrayClass ty ∈ TW) (hdf : defaultValue ty = .int 0) (hm : m ≤ 65536) (hb : m * componentBytes ty ≤ 536870912) (h1 : cs + 1 ≤ Bd.2.2.1) (h2 : sl + m ≤ Bd.2.2.2)
    (hn : (SH.take n).length = n) (hs : SH.take n ++ [.inl (t, m)] = SH.take n') (hl : l.length = n) (hl' : l ++ [.inl 0] = l')
    (kk : G y cc nL ret scr Po Bd (pc + 2) L (pR n :: S) (SH.take n') (hOf l') (cs + 1) (sl + m)) : G y cc nL ret scr Po Bd pc L (pI (m : Int) :: S) (SH.take n) (hOf l) cs sl := by
  refine g_newa hd hty ht hw hdf hm hb h1 h2 ?_
  rw [hn, hs, new_a hl, hl']
  exact kk
theorem g_ck {y' : MethodName} {cc' : ByteArray} {Bc : Nat × Nat × Nat × Nat} {a n n' idx : Nat} {l l' : List (Int ⊕ List Int)} (C : CK y' cc' Bc a n n' l l') (hd : decode cc pc = .ok (.invokespecial idx, 3)) (hM : MQI y' cc' 1 none 0) (hin : Cond.instanceMethod y' ∈ TW) (hy1 : y'.name = "<init>") (hl : Cond.methodLink y.cls idx y' ∈ TW) (hR : roomLe Bd Bc 1 cs sl = true) (hcat : catS S ≤ 8)
    (k : G y cc nL ret scr Po Bd (pc + 3) L S (SH.take n') (hOf l') (cs + Bc.2.2.1) (sl + Bc.2.2.2)) : G y cc nL ret scr Po Bd pc L (pR a :: S) (SH.take n) (hOf l) cs sl :=
  g_callI (as := []) C hd hM hin hy1 hl hR rfl rfl rfl hcat (fun _ _ => ⟨rfl, rfl, rfl⟩) (fun r sh' h' hp _ => by obtain ⟨rfl, rfl, rfl⟩ := hp; exact k)
theorem g_ckN {y' : MethodName} {cc' : ByteArray} {Bc : Nat × Nat × Nat × Nat} {a n n' idx : Nat} {l l' : List (Int ⊕ List Int)} (C : CK y' cc' Bc a n n' l l') (hd : decode cc pc = .ok (.invokespecial idx, 3)) (hM : MQI y' cc' 1 none 0) (hin : Cond.instanceMethod y' ∈ TW) (hy1 : y'.name = "<init>") (hl : (y.cls, idx, y') ∈ nestL) (hR : roomLe Bd Bc 1 cs sl = true) (hcat : catS S ≤ 8)
    (k : G y cc nL ret scr Po Bd (pc + 3) L S (SH.take n') (hOf l') (cs + Bc.2.2.1) (sl + Bc.2.2.2)) : G y cc nL ret scr Po Bd pc L (pR a :: S) (SH.take n) (hOf l) cs sl :=
  g_callIN (as := []) C hd hM hin hy1 hl hR rfl rfl rfl hcat (fun _ _ => ⟨rfl, rfl, rfl⟩) (fun r sh' h' hp _ => by obtain ⟨rfl, rfl, rfl⟩ := hp; exact k)
end KRULES
theorem aT_0 : (0 : Nat) < 3 ∧ ∀ cA, (aTys cA)[0]? = some (cA 0, FieldType.int) := ⟨by decide, fun _ => rfl⟩
theorem aT_1 : (1 : Nat) < 3 ∧ ∀ cA, (aTys cA)[1]? = some (cA 1, FieldType.byte) := ⟨by decide, fun _ => rfl⟩
theorem aT_2 : (2 : Nat) < 3 ∧ ∀ cA, (aTys cA)[2]? = some (cA 2, FieldType.boolean) := ⟨by decide, fun _ => rfl⟩
theorem J_c0 : defaultValue FieldType.int = .int 0 := rfl
theorem J_c1 : defaultValue FieldType.byte = .int 0 := rfl
theorem J_c2 : defaultValue FieldType.boolean = .int 0 := rfl
theorem kac_0 : Cond.arrayClass FieldType.int ∈ TW := inTW (List.mem_append_right _ (TS1 (List.mem_of_getElem? (i := 65) (by decide +kernel)))) rfl
theorem kac_1 : Cond.arrayClass FieldType.byte ∈ TW := inTW (List.mem_append_right _ (TS3 (List.mem_of_getElem? (i := 169) (by decide +kernel)))) rfl
theorem kac_2 : Cond.arrayClass FieldType.boolean ∈ TW := inTW (List.mem_append_right _ (TS6 (List.mem_of_getElem? (i := 19) (by decide +kernel)))) rfl
theorem kcl_L_7 : Cond.classLink RL 7 RX11 ∈ TW := inTW (List.mem_append_right _ (TS1 (List.mem_of_getElem? (i := 22) (by decide +kernel)))) rfl
theorem kins_11 : Cond.instantiable RX11 13 ∈ TW := inTW (List.mem_append_right _ (TS1 (List.mem_of_getElem? (i := 23) (by decide +kernel)))) rfl
theorem kini_11 : Cond.initialized RX11 ∈ TW := inTW (List.mem_append_right _ (TS1 (List.mem_of_getElem? (i := 1) (by decide +kernel)))) rfl
theorem kdf_11 : ∀ k, k < 13 → defaultValue (tyX11 k) = if rsX11.getD k false then .null else .int 0 := by decide +kernel
theorem kml_X11_1 : Cond.methodLink RX11 1 objectInit ∈ TW := inTW (List.mem_append_right _ (TS1 (List.mem_of_getElem? (i := 27) (by decide +kernel)))) rfl
theorem kcl_X11_7 : Cond.classLink RX11 7 RX9 ∈ TW := inTW (List.mem_append_right _ (TS1 (List.mem_of_getElem? (i := 30) (by decide +kernel)))) rfl
theorem kins_9 : Cond.instantiable RX9 10 ∈ TW := inTW (List.mem_append_right _ (TS1 (List.mem_of_getElem? (i := 31) (by decide +kernel)))) rfl
theorem kini_9 : Cond.initialized RX9 ∈ TW := inTW (List.mem_append_right _ (TS1 (List.mem_of_getElem? (i := 2) (by decide +kernel)))) rfl
theorem kdf_9 : ∀ k, k < 10 → defaultValue (tyX9 k) = if rsX9.getD k false then .null else .int 0 := by decide +kernel
theorem kml_X9_3 : Cond.methodLink RX9 3 objectInit ∈ TW := inTW (List.mem_append_right _ (TS1 (List.mem_of_getElem? (i := 35) (by decide +kernel)))) rfl
theorem kcl_X9_9 : Cond.classLink RX9 9 RX6 ∈ TW := inTW (List.mem_append_right _ (TS1 (List.mem_of_getElem? (i := 36) (by decide +kernel)))) rfl
theorem kins_6 : Cond.instantiable RX6 4 ∈ TW := inTW (List.mem_append_right _ (TS1 (List.mem_of_getElem? (i := 37) (by decide +kernel)))) rfl
theorem kini_6 : Cond.initialized RX6 ∈ TW := inTW (List.mem_append_right _ (TS1 (List.mem_of_getElem? (i := 3) (by decide +kernel)))) rfl
theorem kdf_6 : ∀ k, k < 4 → defaultValue (tyX6 k) = if rsX6.getD k false then .null else .int 0 := by decide +kernel
theorem kml_X6_3 : Cond.methodLink RX6 3 objectInit ∈ TW := inTW (List.mem_append_right _ (TS1 (List.mem_of_getElem? (i := 41) (by decide +kernel)))) rfl
theorem kfl_X6_9 : Cond.fieldLink RX6 9 "SlateSchool$Roofs" "count" "I" ∈ TW := inTW (List.mem_append_right _ (TS1 (List.mem_of_getElem? (i := 42) (by decide +kernel)))) rfl
theorem kfl_X6_15 : Cond.fieldLink RX6 15 "SlateSchool$Roofs" "room" "[I" ∈ TW := inTW (List.mem_append_right _ (TS1 (List.mem_of_getElem? (i := 45) (by decide +kernel)))) rfl
theorem kfl_X6_19 : Cond.fieldLink RX6 19 "SlateSchool$Roofs" "slates" "[I" ∈ TW := inTW (List.mem_append_right _ (TS1 (List.mem_of_getElem? (i := 49) (by decide +kernel)))) rfl
theorem kfl_X6_22 : Cond.fieldLink RX6 22 "SlateSchool$Roofs" "steep" "[I" ∈ TW := inTW (List.mem_append_right _ (TS1 (List.mem_of_getElem? (i := 53) (by decide +kernel)))) rfl
theorem kmi_X6_init : MQI yX6_init cX6_init 1 none 0 := ⟨inTW (List.mem_append_right _ (TS1 (List.mem_of_getElem? (i := 40) (by decide +kernel)))) rfl, inTW (List.mem_append_right _ (TS1 (List.mem_of_getElem? (i := 3) (by decide +kernel)))) rfl, by decide, by decide +kernel⟩
theorem kin_X6_init : Cond.instanceMethod yX6_init ∈ TW := inTW (List.mem_append_right _ (TS1 (List.mem_of_getElem? (i := 39) (by decide +kernel)))) rfl
theorem kfl_X9_12 : Cond.fieldLink RX9 12 "SlateSchool$Site" "roofs" "LSlateSchool$Roofs;" ∈ TW := inTW (List.mem_append_right _ (TS1 (List.mem_of_getElem? (i := 143) (by decide +kernel)))) rfl
theorem kcl_X9_18 : Cond.classLink RX9 18 RX0 ∈ TW := inTW (List.mem_append_right _ (TS1 (List.mem_of_getElem? (i := 66) (by decide +kernel)))) rfl
theorem kins_0 : Cond.instantiable RX0 6 ∈ TW := inTW (List.mem_append_right _ (TS1 (List.mem_of_getElem? (i := 67) (by decide +kernel)))) rfl
theorem kini_0 : Cond.initialized RX0 ∈ TW := inTW (List.mem_append_right _ (TS1 (List.mem_of_getElem? (i := 4) (by decide +kernel)))) rfl
theorem kdf_0 : ∀ k, k < 6 → defaultValue (tyX0 k) = if rsX0.getD k false then .null else .int 0 := by decide +kernel
theorem kml_X0_3 : Cond.methodLink RX0 3 objectInit ∈ TW := inTW (List.mem_append_right _ (TS1 (List.mem_of_getElem? (i := 71) (by decide +kernel)))) rfl
theorem kfl_X0_9 : Cond.fieldLink RX0 9 "SlateSchool$Apprentices" "count" "I" ∈ TW := inTW (List.mem_append_right _ (TS1 (List.mem_of_getElem? (i := 72) (by decide +kernel)))) rfl
theorem kfl_X0_15 : Cond.fieldLink RX0 15 "SlateSchool$Apprentices" "place" "[I" ∈ TW := inTW (List.mem_append_right _ (TS1 (List.mem_of_getElem? (i := 79) (by decide +kernel)))) rfl
theorem kfl_X0_19 : Cond.fieldLink RX0 19 "SlateSchool$Apprentices" "grip" "[I" ∈ TW := inTW (List.mem_append_right _ (TS1 (List.mem_of_getElem? (i := 83) (by decide +kernel)))) rfl
theorem kfl_X0_22 : Cond.fieldLink RX0 22 "SlateSchool$Apprentices" "rope" "[I" ∈ TW := inTW (List.mem_append_right _ (TS1 (List.mem_of_getElem? (i := 86) (by decide +kernel)))) rfl
theorem kfl_X0_25 : Cond.fieldLink RX0 25 "SlateSchool$Apprentices" "fell" "[I" ∈ TW := inTW (List.mem_append_right _ (TS1 (List.mem_of_getElem? (i := 90) (by decide +kernel)))) rfl
theorem kfl_X0_28 : Cond.fieldLink RX0 28 "SlateSchool$Apprentices" "skill" "[I" ∈ TW := inTW (List.mem_append_right _ (TS1 (List.mem_of_getElem? (i := 93) (by decide +kernel)))) rfl
theorem kmi_X0_init : MQI yX0_init cX0_init 1 none 0 := ⟨inTW (List.mem_append_right _ (TS1 (List.mem_of_getElem? (i := 70) (by decide +kernel)))) rfl, inTW (List.mem_append_right _ (TS1 (List.mem_of_getElem? (i := 4) (by decide +kernel)))) rfl, by decide, by decide +kernel⟩
theorem kin_X0_init : Cond.instanceMethod yX0_init ∈ TW := inTW (List.mem_append_right _ (TS1 (List.mem_of_getElem? (i := 69) (by decide +kernel)))) rfl
theorem kfl_X9_21 : Cond.fieldLink RX9 21 "SlateSchool$Site" "apprentices" "LSlateSchool$Apprentices;" ∈ TW := inTW (List.mem_append_right _ (TS1 (List.mem_of_getElem? (i := 146) (by decide +kernel)))) rfl
theorem kcl_X9_25 : Cond.classLink RX9 25 RX4 ∈ TW := inTW (List.mem_append_right _ (TS1 (List.mem_of_getElem? (i := 109) (by decide +kernel)))) rfl
theorem kins_4 : Cond.instantiable RX4 5 ∈ TW := inTW (List.mem_append_right _ (TS1 (List.mem_of_getElem? (i := 110) (by decide +kernel)))) rfl
theorem kini_4 : Cond.initialized RX4 ∈ TW := inTW (List.mem_append_right _ (TS1 (List.mem_of_getElem? (i := 5) (by decide +kernel)))) rfl
theorem kdf_4 : ∀ k, k < 5 → defaultValue (tyX4 k) = if rsX4.getD k false then .null else .int 0 := by decide +kernel
theorem kml_X4_3 : Cond.methodLink RX4 3 objectInit ∈ TW := inTW (List.mem_append_right _ (TS1 (List.mem_of_getElem? (i := 114) (by decide +kernel)))) rfl
theorem kfl_X4_9 : Cond.fieldLink RX4 9 "SlateSchool$Masters" "count" "I" ∈ TW := inTW (List.mem_append_right _ (TS1 (List.mem_of_getElem? (i := 115) (by decide +kernel)))) rfl
theorem kfl_X4_15 : Cond.fieldLink RX4 15 "SlateSchool$Masters" "place" "[I" ∈ TW := inTW (List.mem_append_right _ (TS1 (List.mem_of_getElem? (i := 120) (by decide +kernel)))) rfl
theorem kfl_X4_19 : Cond.fieldLink RX4 19 "SlateSchool$Masters" "trade" "[I" ∈ TW := inTW (List.mem_append_right _ (TS1 (List.mem_of_getElem? (i := 122) (by decide +kernel)))) rfl
theorem kfl_X4_22 : Cond.fieldLink RX4 22 "SlateSchool$Masters" "umbrella" "[I" ∈ TW := inTW (List.mem_append_right _ (TS1 (List.mem_of_getElem? (i := 125) (by decide +kernel)))) rfl
theorem kfl_X4_25 : Cond.fieldLink RX4 25 "SlateSchool$Masters" "bruises" "[I" ∈ TW := inTW (List.mem_append_right _ (TS1 (List.mem_of_getElem? (i := 128) (by decide +kernel)))) rfl
theorem kmi_X4_init : MQI yX4_init cX4_init 1 none 0 := ⟨inTW (List.mem_append_right _ (TS1 (List.mem_of_getElem? (i := 113) (by decide +kernel)))) rfl, inTW (List.mem_append_right _ (TS1 (List.mem_of_getElem? (i := 5) (by decide +kernel)))) rfl, by decide, by decide +kernel⟩
theorem kin_X4_init : Cond.instanceMethod yX4_init ∈ TW := inTW (List.mem_append_right _ (TS1 (List.mem_of_getElem? (i := 112) (by decide +kernel)))) rfl
theorem kfl_X9_28 : Cond.fieldLink RX9 28 "SlateSchool$Site" "masters" "LSlateSchool$Masters;" ∈ TW := inTW (List.mem_append_right _ (TS1 (List.mem_of_getElem? (i := 152) (by decide +kernel)))) rfl
theorem kfl_X9_32 : Cond.fieldLink RX9 32 "SlateSchool$Site" "owed" "[I" ∈ TW := inTW (List.mem_append_right _ (TS1 (List.mem_of_getElem? (i := 157) (by decide +kernel)))) rfl
theorem kfl_X9_36 : Cond.fieldLink RX9 36 "SlateSchool$Site" "struck" "[I" ∈ TW := inTW (List.mem_append_right _ (TS1 (List.mem_of_getElem? (i := 159) (by decide +kernel)))) rfl
theorem kfl_X9_39 : Cond.fieldLink RX9 39 "SlateSchool$Site" "snows" "[I" ∈ TW := inTW (List.mem_append_right _ (TS1 (List.mem_of_getElem? (i := 162) (by decide +kernel)))) rfl
theorem kfl_X9_42 : Cond.fieldLink RX9 42 "SlateSchool$Site" "hour" "I" ∈ TW := inTW (List.mem_append_right _ (TS1 (List.mem_of_getElem? (i := 164) (by decide +kernel)))) rfl
theorem kfl_X9_46 : Cond.fieldLink RX9 46 "SlateSchool$Site" "x" "I" ∈ TW := inTW (List.mem_append_right _ (TS1 (List.mem_of_getElem? (i := 166) (by decide +kernel)))) rfl
theorem kfl_X9_49 : Cond.fieldLink RX9 49 "SlateSchool$Site" "broken" "I" ∈ TW := inTW (List.mem_append_right _ (TS1 (List.mem_of_getElem? (i := 168) (by decide +kernel)))) rfl
theorem kfl_X9_52 : Cond.fieldLink RX9 52 "SlateSchool$Site" "told" "[I" ∈ TW := inTW (List.mem_append_right _ (TS1 (List.mem_of_getElem? (i := 170) (by decide +kernel)))) rfl
theorem kmi_X9_init : MQI yX9_init cX9_init 1 none 0 := ⟨inTW (List.mem_append_right _ (TS1 (List.mem_of_getElem? (i := 34) (by decide +kernel)))) rfl, inTW (List.mem_append_right _ (TS1 (List.mem_of_getElem? (i := 2) (by decide +kernel)))) rfl, by decide, by decide +kernel⟩
theorem kin_X9_init : Cond.instanceMethod yX9_init ∈ TW := inTW (List.mem_append_right _ (TS1 (List.mem_of_getElem? (i := 33) (by decide +kernel)))) rfl
theorem kfl_X11_10 : Cond.fieldLink RX11 10 "SlateSchool" "site" "LSlateSchool$Site;" ∈ TW := inTW (List.mem_append_right _ (TS2 (List.mem_of_getElem? (i := 112) (by decide +kernel)))) rfl
theorem kfl_X11_16 : Cond.fieldLink RX11 16 "SlateSchool" "trial" "LSlateSchool$Site;" ∈ TW := inTW (List.mem_append_right _ (TS2 (List.mem_of_getElem? (i := 113) (by decide +kernel)))) rfl
theorem kfl_X11_19 : Cond.fieldLink RX11 19 "SlateSchool" "kept" "LSlateSchool$Site;" ∈ TW := inTW (List.mem_append_right _ (TS2 (List.mem_of_getElem? (i := 114) (by decide +kernel)))) rfl
theorem kcl_X11_22 : Cond.classLink RX11 22 RX10 ∈ TW := inTW (List.mem_append_right _ (TS1 (List.mem_of_getElem? (i := 192) (by decide +kernel)))) rfl
theorem kins_10 : Cond.instantiable RX10 2 ∈ TW := inTW (List.mem_append_right _ (TS1 (List.mem_of_getElem? (i := 193) (by decide +kernel)))) rfl
theorem kini_10 : Cond.initialized RX10 ∈ TW := inTW (List.mem_append_right _ (TS1 (List.mem_of_getElem? (i := 6) (by decide +kernel)))) rfl
theorem kdf_10 : ∀ k, k < 2 → defaultValue (tyX10 k) = if rsX10.getD k false then .null else .int 0 := by decide +kernel
theorem kml_X10_3 : Cond.methodLink RX10 3 objectInit ∈ TW := inTW (List.mem_append_right _ (TS1 (List.mem_of_getElem? (i := 197) (by decide +kernel)))) rfl
theorem kfl_X10_9 : Cond.fieldLink RX10 9 "SlateSchool$Tape" "length" "I" ∈ TW := inTW (List.mem_append_right _ (TS1 (List.mem_of_getElem? (i := 198) (by decide +kernel)))) rfl
theorem kfl_X10_15 : Cond.fieldLink RX10 15 "SlateSchool$Tape" "bytes" "[I" ∈ TW := inTW (List.mem_append_right _ (TS1 (List.mem_of_getElem? (i := 200) (by decide +kernel)))) rfl
theorem kmi_X10_init : MQI yX10_init cX10_init 1 none 0 := ⟨inTW (List.mem_append_right _ (TS1 (List.mem_of_getElem? (i := 196) (by decide +kernel)))) rfl, inTW (List.mem_append_right _ (TS1 (List.mem_of_getElem? (i := 6) (by decide +kernel)))) rfl, by decide, by decide +kernel⟩
theorem kin_X10_init : Cond.instanceMethod yX10_init ∈ TW := inTW (List.mem_append_right _ (TS1 (List.mem_of_getElem? (i := 195) (by decide +kernel)))) rfl
theorem kfl_X11_25 : Cond.fieldLink RX11 25 "SlateSchool" "tape" "LSlateSchool$Tape;" ∈ TW := inTW (List.mem_append_right _ (TS2 (List.mem_of_getElem? (i := 115) (by decide +kernel)))) rfl
theorem kfl_X11_29 : Cond.fieldLink RX11 29 "SlateSchool" "keptTape" "LSlateSchool$Tape;" ∈ TW := inTW (List.mem_append_right _ (TS2 (List.mem_of_getElem? (i := 116) (by decide +kernel)))) rfl
theorem kcl_X11_32 : Cond.classLink RX11 32 RX5 ∈ TW := inTW (List.mem_append_right _ (TS1 (List.mem_of_getElem? (i := 206) (by decide +kernel)))) rfl
theorem kins_5 : Cond.instantiable RX5 5 ∈ TW := inTW (List.mem_append_right _ (TS1 (List.mem_of_getElem? (i := 207) (by decide +kernel)))) rfl
theorem kini_5 : Cond.initialized RX5 ∈ TW := inTW (List.mem_append_right _ (TS1 (List.mem_of_getElem? (i := 7) (by decide +kernel)))) rfl
theorem kdf_5 : ∀ k, k < 5 → defaultValue (tyX5 k) = if rsX5.getD k false then .null else .int 0 := by decide +kernel
theorem kml_X5_3 : Cond.methodLink RX5 3 objectInit ∈ TW := inTW (List.mem_append_right _ (TS1 (List.mem_of_getElem? (i := 211) (by decide +kernel)))) rfl
theorem kfl_X5_9 : Cond.fieldLink RX5 9 "SlateSchool$Reader" "text" "[I" ∈ TW := inTW (List.mem_append_right _ (TS1 (List.mem_of_getElem? (i := 212) (by decide +kernel)))) rfl
theorem kfl_X5_15 : Cond.fieldLink RX5 15 "SlateSchool$Reader" "length" "I" ∈ TW := inTW (List.mem_append_right _ (TS1 (List.mem_of_getElem? (i := 213) (by decide +kernel)))) rfl
theorem kfl_X5_19 : Cond.fieldLink RX5 19 "SlateSchool$Reader" "at" "I" ∈ TW := inTW (List.mem_append_right _ (TS1 (List.mem_of_getElem? (i := 214) (by decide +kernel)))) rfl
theorem kfl_X5_22 : Cond.fieldLink RX5 22 "SlateSchool$Reader" "fault" "I" ∈ TW := inTW (List.mem_append_right _ (TS1 (List.mem_of_getElem? (i := 215) (by decide +kernel)))) rfl
theorem kfl_X5_25 : Cond.fieldLink RX5 25 "SlateSchool$Reader" "faultPlace" "I" ∈ TW := inTW (List.mem_append_right _ (TS1 (List.mem_of_getElem? (i := 216) (by decide +kernel)))) rfl
theorem kmi_X5_init : MQI yX5_init cX5_init 1 none 0 := ⟨inTW (List.mem_append_right _ (TS1 (List.mem_of_getElem? (i := 210) (by decide +kernel)))) rfl, inTW (List.mem_append_right _ (TS1 (List.mem_of_getElem? (i := 7) (by decide +kernel)))) rfl, by decide, by decide +kernel⟩
theorem kin_X5_init : Cond.instanceMethod yX5_init ∈ TW := inTW (List.mem_append_right _ (TS1 (List.mem_of_getElem? (i := 209) (by decide +kernel)))) rfl
theorem kfl_X11_35 : Cond.fieldLink RX11 35 "SlateSchool" "reader" "LSlateSchool$Reader;" ∈ TW := inTW (List.mem_append_right _ (TS2 (List.mem_of_getElem? (i := 117) (by decide +kernel)))) rfl
theorem kcl_X11_39 : Cond.classLink RX11 39 RX7 ∈ TW := inTW (List.mem_append_right _ (TS1 (List.mem_of_getElem? (i := 228) (by decide +kernel)))) rfl
theorem kins_7 : Cond.instantiable RX7 6 ∈ TW := inTW (List.mem_append_right _ (TS1 (List.mem_of_getElem? (i := 229) (by decide +kernel)))) rfl
theorem kini_7 : Cond.initialized RX7 ∈ TW := inTW (List.mem_append_right _ (TS1 (List.mem_of_getElem? (i := 8) (by decide +kernel)))) rfl
theorem kdf_7 : ∀ k, k < 6 → defaultValue (tyX7 k) = if rsX7.getD k false then .null else .int 0 := by decide +kernel
theorem kml_X7_3 : Cond.methodLink RX7 3 objectInit ∈ TW := inTW (List.mem_append_right _ (TS1 (List.mem_of_getElem? (i := 233) (by decide +kernel)))) rfl
theorem kfl_X7_9 : Cond.fieldLink RX7 9 "SlateSchool$Setting" "hours" "I" ∈ TW := inTW (List.mem_append_right _ (TS1 (List.mem_of_getElem? (i := 234) (by decide +kernel)))) rfl
theorem kfl_X7_15 : Cond.fieldLink RX7 15 "SlateSchool$Setting" "bruises" "I" ∈ TW := inTW (List.mem_append_right _ (TS1 (List.mem_of_getElem? (i := 236) (by decide +kernel)))) rfl
theorem kfl_X7_18 : Cond.fieldLink RX7 18 "SlateSchool$Setting" "bestRow" "[I" ∈ TW := inTW (List.mem_append_right _ (TS1 (List.mem_of_getElem? (i := 238) (by decide +kernel)))) rfl
theorem kfl_X7_22 : Cond.fieldLink RX7 22 "SlateSchool$Setting" "count" "I" ∈ TW := inTW (List.mem_append_right _ (TS2 (List.mem_of_getElem? (i := 0) (by decide +kernel)))) rfl
theorem kfl_X7_25 : Cond.fieldLink RX7 25 "SlateSchool$Setting" "who" "[I" ∈ TW := inTW (List.mem_append_right _ (TS2 (List.mem_of_getElem? (i := 1) (by decide +kernel)))) rfl
theorem kfl_X7_28 : Cond.fieldLink RX7 28 "SlateSchool$Setting" "row" "[I" ∈ TW := inTW (List.mem_append_right _ (TS2 (List.mem_of_getElem? (i := 2) (by decide +kernel)))) rfl
theorem kmi_X7_init : MQI yX7_init cX7_init 1 none 0 := ⟨inTW (List.mem_append_right _ (TS1 (List.mem_of_getElem? (i := 232) (by decide +kernel)))) rfl, inTW (List.mem_append_right _ (TS1 (List.mem_of_getElem? (i := 8) (by decide +kernel)))) rfl, by decide, by decide +kernel⟩
theorem kin_X7_init : Cond.instanceMethod yX7_init ∈ TW := inTW (List.mem_append_right _ (TS1 (List.mem_of_getElem? (i := 231) (by decide +kernel)))) rfl
theorem kfl_X11_42 : Cond.fieldLink RX11 42 "SlateSchool" "setting" "LSlateSchool$Setting;" ∈ TW := inTW (List.mem_append_right _ (TS2 (List.mem_of_getElem? (i := 118) (by decide +kernel)))) rfl
theorem kcl_X11_46 : Cond.classLink RX11 46 RX3 ∈ TW := inTW (List.mem_append_right _ (TS2 (List.mem_of_getElem? (i := 16) (by decide +kernel)))) rfl
theorem kins_3 : Cond.instantiable RX3 4 ∈ TW := inTW (List.mem_append_right _ (TS2 (List.mem_of_getElem? (i := 17) (by decide +kernel)))) rfl
theorem kini_3 : Cond.initialized RX3 ∈ TW := inTW (List.mem_append_right _ (TS1 (List.mem_of_getElem? (i := 9) (by decide +kernel)))) rfl
theorem kdf_3 : ∀ k, k < 4 → defaultValue (tyX3 k) = if rsX3.getD k false then .null else .int 0 := by decide +kernel
theorem kml_X3_3 : Cond.methodLink RX3 3 objectInit ∈ TW := inTW (List.mem_append_right _ (TS2 (List.mem_of_getElem? (i := 21) (by decide +kernel)))) rfl
theorem kfl_X3_9 : Cond.fieldLink RX3 9 "SlateSchool$Lending" "ropes" "I" ∈ TW := inTW (List.mem_append_right _ (TS2 (List.mem_of_getElem? (i := 22) (by decide +kernel)))) rfl
theorem kfl_X3_15 : Cond.fieldLink RX3 15 "SlateSchool$Lending" "borrower" "[I" ∈ TW := inTW (List.mem_append_right _ (TS2 (List.mem_of_getElem? (i := 24) (by decide +kernel)))) rfl
theorem kfl_X3_19 : Cond.fieldLink RX3 19 "SlateSchool$Lending" "may" "[I" ∈ TW := inTW (List.mem_append_right _ (TS2 (List.mem_of_getElem? (i := 26) (by decide +kernel)))) rfl
theorem kfl_X3_22 : Cond.fieldLink RX3 22 "SlateSchool$Lending" "most" "[I" ∈ TW := inTW (List.mem_append_right _ (TS2 (List.mem_of_getElem? (i := 27) (by decide +kernel)))) rfl
theorem kmi_X3_init : MQI yX3_init cX3_init 1 none 0 := ⟨inTW (List.mem_append_right _ (TS2 (List.mem_of_getElem? (i := 20) (by decide +kernel)))) rfl, inTW (List.mem_append_right _ (TS1 (List.mem_of_getElem? (i := 9) (by decide +kernel)))) rfl, by decide, by decide +kernel⟩
theorem kin_X3_init : Cond.instanceMethod yX3_init ∈ TW := inTW (List.mem_append_right _ (TS2 (List.mem_of_getElem? (i := 19) (by decide +kernel)))) rfl
theorem kfl_X11_49 : Cond.fieldLink RX11 49 "SlateSchool" "lending" "LSlateSchool$Lending;" ∈ TW := inTW (List.mem_append_right _ (TS2 (List.mem_of_getElem? (i := 119) (by decide +kernel)))) rfl
theorem kcl_X11_53 : Cond.classLink RX11 53 RX8 ∈ TW := inTW (List.mem_append_right _ (TS2 (List.mem_of_getElem? (i := 37) (by decide +kernel)))) rfl
theorem kins_8 : Cond.instantiable RX8 3 ∈ TW := inTW (List.mem_append_right _ (TS2 (List.mem_of_getElem? (i := 38) (by decide +kernel)))) rfl
theorem kini_8 : Cond.initialized RX8 ∈ TW := inTW (List.mem_append_right _ (TS1 (List.mem_of_getElem? (i := 10) (by decide +kernel)))) rfl
theorem kdf_8 : ∀ k, k < 3 → defaultValue (tyX8 k) = if rsX8.getD k false then .null else .int 0 := by decide +kernel
theorem kml_X8_3 : Cond.methodLink RX8 3 objectInit ∈ TW := inTW (List.mem_append_right _ (TS2 (List.mem_of_getElem? (i := 42) (by decide +kernel)))) rfl
theorem kfl_X8_9 : Cond.fieldLink RX8 9 "SlateSchool$Settling" "count" "I" ∈ TW := inTW (List.mem_append_right _ (TS2 (List.mem_of_getElem? (i := 43) (by decide +kernel)))) rfl
theorem kfl_X8_15 : Cond.fieldLink RX8 15 "SlateSchool$Settling" "position" "[I" ∈ TW := inTW (List.mem_append_right _ (TS2 (List.mem_of_getElem? (i := 45) (by decide +kernel)))) rfl
theorem kfl_X8_19 : Cond.fieldLink RX8 19 "SlateSchool$Settling" "sets" "[I" ∈ TW := inTW (List.mem_append_right _ (TS2 (List.mem_of_getElem? (i := 46) (by decide +kernel)))) rfl
theorem kmi_X8_init : MQI yX8_init cX8_init 1 none 0 := ⟨inTW (List.mem_append_right _ (TS2 (List.mem_of_getElem? (i := 41) (by decide +kernel)))) rfl, inTW (List.mem_append_right _ (TS1 (List.mem_of_getElem? (i := 10) (by decide +kernel)))) rfl, by decide, by decide +kernel⟩
theorem kin_X8_init : Cond.instanceMethod yX8_init ∈ TW := inTW (List.mem_append_right _ (TS2 (List.mem_of_getElem? (i := 40) (by decide +kernel)))) rfl
theorem kfl_X11_56 : Cond.fieldLink RX11 56 "SlateSchool" "settling" "LSlateSchool$Settling;" ∈ TW := inTW (List.mem_append_right _ (TS2 (List.mem_of_getElem? (i := 120) (by decide +kernel)))) rfl
theorem kcl_X11_60 : Cond.classLink RX11 60 RX1 ∈ TW := inTW (List.mem_append_right _ (TS2 (List.mem_of_getElem? (i := 54) (by decide +kernel)))) rfl
theorem kins_1 : Cond.instantiable RX1 4 ∈ TW := inTW (List.mem_append_right _ (TS2 (List.mem_of_getElem? (i := 55) (by decide +kernel)))) rfl
theorem kini_1 : Cond.initialized RX1 ∈ TW := inTW (List.mem_append_right _ (TS1 (List.mem_of_getElem? (i := 11) (by decide +kernel)))) rfl
theorem kdf_1 : ∀ k, k < 4 → defaultValue (tyX1 k) = if rsX1.getD k false then .null else .int 0 := by decide +kernel
theorem kml_X1_3 : Cond.methodLink RX1 3 objectInit ∈ TW := inTW (List.mem_append_right _ (TS2 (List.mem_of_getElem? (i := 59) (by decide +kernel)))) rfl
theorem kfl_X1_9 : Cond.fieldLink RX1 9 "SlateSchool$Chaining" "length" "I" ∈ TW := inTW (List.mem_append_right _ (TS2 (List.mem_of_getElem? (i := 60) (by decide +kernel)))) rfl
theorem kfl_X1_15 : Cond.fieldLink RX1 15 "SlateSchool$Chaining" "row" "[I" ∈ TW := inTW (List.mem_append_right _ (TS2 (List.mem_of_getElem? (i := 62) (by decide +kernel)))) rfl
theorem kfl_X1_19 : Cond.fieldLink RX1 19 "SlateSchool$Chaining" "ring" "[I" ∈ TW := inTW (List.mem_append_right _ (TS2 (List.mem_of_getElem? (i := 64) (by decide +kernel)))) rfl
theorem kfl_X1_22 : Cond.fieldLink RX1 22 "SlateSchool$Chaining" "struck" "[I" ∈ TW := inTW (List.mem_append_right _ (TS2 (List.mem_of_getElem? (i := 65) (by decide +kernel)))) rfl
theorem kmi_X1_init : MQI yX1_init cX1_init 1 none 0 := ⟨inTW (List.mem_append_right _ (TS2 (List.mem_of_getElem? (i := 58) (by decide +kernel)))) rfl, inTW (List.mem_append_right _ (TS1 (List.mem_of_getElem? (i := 11) (by decide +kernel)))) rfl, by decide, by decide +kernel⟩
theorem kin_X1_init : Cond.instanceMethod yX1_init ∈ TW := inTW (List.mem_append_right _ (TS2 (List.mem_of_getElem? (i := 57) (by decide +kernel)))) rfl
theorem kfl_X11_63 : Cond.fieldLink RX11 63 "SlateSchool" "chaining" "LSlateSchool$Chaining;" ∈ TW := inTW (List.mem_append_right _ (TS2 (List.mem_of_getElem? (i := 121) (by decide +kernel)))) rfl
theorem kcl_X11_67 : Cond.classLink RX11 67 RX2 ∈ TW := inTW (List.mem_append_right _ (TS2 (List.mem_of_getElem? (i := 75) (by decide +kernel)))) rfl
theorem kins_2 : Cond.instantiable RX2 9 ∈ TW := inTW (List.mem_append_right _ (TS2 (List.mem_of_getElem? (i := 76) (by decide +kernel)))) rfl
theorem kini_2 : Cond.initialized RX2 ∈ TW := inTW (List.mem_append_right _ (TS1 (List.mem_of_getElem? (i := 12) (by decide +kernel)))) rfl
theorem kdf_2 : ∀ k, k < 9 → defaultValue (tyX2 k) = if rsX2.getD k false then .null else .int 0 := by decide +kernel
theorem kml_X2_3 : Cond.methodLink RX2 3 objectInit ∈ TW := inTW (List.mem_append_right _ (TS2 (List.mem_of_getElem? (i := 80) (by decide +kernel)))) rfl
theorem kfl_X2_9 : Cond.fieldLink RX2 9 "SlateSchool$Law" "clauses" "I" ∈ TW := inTW (List.mem_append_right _ (TS2 (List.mem_of_getElem? (i := 81) (by decide +kernel)))) rfl
theorem kfl_X2_15 : Cond.fieldLink RX2 15 "SlateSchool$Law" "size" "I" ∈ TW := inTW (List.mem_append_right _ (TS2 (List.mem_of_getElem? (i := 84) (by decide +kernel)))) rfl
theorem kfl_X2_18 : Cond.fieldLink RX2 18 "SlateSchool$Law" "kinds" "[I" ∈ TW := inTW (List.mem_append_right _ (TS2 (List.mem_of_getElem? (i := 86) (by decide +kernel)))) rfl
theorem kfl_X2_22 : Cond.fieldLink RX2 22 "SlateSchool$Law" "amountAt" "[I" ∈ TW := inTW (List.mem_append_right _ (TS2 (List.mem_of_getElem? (i := 87) (by decide +kernel)))) rfl
theorem kfl_X2_25 : Cond.fieldLink RX2 25 "SlateSchool$Law" "conditionAt" "[I" ∈ TW := inTW (List.mem_append_right _ (TS2 (List.mem_of_getElem? (i := 88) (by decide +kernel)))) rfl
theorem kfl_X2_28 : Cond.fieldLink RX2 28 "SlateSchool$Law" "endAt" "[I" ∈ TW := inTW (List.mem_append_right _ (TS2 (List.mem_of_getElem? (i := 89) (by decide +kernel)))) rfl
theorem kfl_X2_31 : Cond.fieldLink RX2 31 "SlateSchool$Law" "steps" "[I" ∈ TW := inTW (List.mem_append_right _ (TS2 (List.mem_of_getElem? (i := 90) (by decide +kernel)))) rfl
theorem kfl_X2_34 : Cond.fieldLink RX2 34 "SlateSchool$Law" "numbers" "[I" ∈ TW := inTW (List.mem_append_right _ (TS2 (List.mem_of_getElem? (i := 91) (by decide +kernel)))) rfl
theorem kfl_X2_37 : Cond.fieldLink RX2 37 "SlateSchool$Law" "stack" "[I" ∈ TW := inTW (List.mem_append_right _ (TS2 (List.mem_of_getElem? (i := 92) (by decide +kernel)))) rfl
theorem kmi_X2_init : MQI yX2_init cX2_init 1 none 0 := ⟨inTW (List.mem_append_right _ (TS2 (List.mem_of_getElem? (i := 79) (by decide +kernel)))) rfl, inTW (List.mem_append_right _ (TS1 (List.mem_of_getElem? (i := 12) (by decide +kernel)))) rfl, by decide, by decide +kernel⟩
theorem kin_X2_init : Cond.instanceMethod yX2_init ∈ TW := inTW (List.mem_append_right _ (TS2 (List.mem_of_getElem? (i := 78) (by decide +kernel)))) rfl
theorem kfl_X11_70 : Cond.fieldLink RX11 70 "SlateSchool" "law" "LSlateSchool$Law;" ∈ TW := inTW (List.mem_append_right _ (TS2 (List.mem_of_getElem? (i := 122) (by decide +kernel)))) rfl
theorem kfl_X11_74 : Cond.fieldLink RX11 74 "SlateSchool" "draft" "LSlateSchool$Law;" ∈ TW := inTW (List.mem_append_right _ (TS2 (List.mem_of_getElem? (i := 123) (by decide +kernel)))) rfl
theorem kfl_X11_77 : Cond.fieldLink RX11 77 "SlateSchool" "isKept" "Z" ∈ TW := inTW (List.mem_append_right _ (TS2 (List.mem_of_getElem? (i := 124) (by decide +kernel)))) rfl
theorem kml_L_9 : Cond.methodLink RL 9 yX11_init ∈ TW := inTW (List.mem_append_right _ (TS1 (List.mem_of_getElem? (i := 24) (by decide +kernel)))) rfl
theorem kmi_X11_init : MQI yX11_init cX11_init 1 none 0 := ⟨inTW (List.mem_append_right _ (TS1 (List.mem_of_getElem? (i := 26) (by decide +kernel)))) rfl, inTW (List.mem_append_right _ (TS1 (List.mem_of_getElem? (i := 1) (by decide +kernel)))) rfl, by decide, by decide +kernel⟩
theorem kin_X11_init : Cond.instanceMethod yX11_init ∈ TW := inTW (List.mem_append_right _ (TS1 (List.mem_of_getElem? (i := 25) (by decide +kernel)))) rfl
theorem kcl_L_10 : Cond.classLink RL 10 RX12 ∈ TW := inTW (List.mem_append_right _ (TS5 (List.mem_of_getElem? (i := 12) (by decide +kernel)))) rfl
theorem kins_12 : Cond.instantiable RX12 80 ∈ TW := inTW (List.mem_append_right _ (TS5 (List.mem_of_getElem? (i := 13) (by decide +kernel)))) rfl
theorem kini_12 : Cond.initialized RX12 ∈ TW := inTW (List.mem_append_right _ (TS1 (List.mem_of_getElem? (i := 13) (by decide +kernel)))) rfl
theorem kdf_12 : ∀ k, k < 80 → defaultValue (tyX12 k) = if rsX12.getD k false then .null else .int 0 := by decide +kernel
theorem kml_X12_1 : Cond.methodLink RX12 1 objectInit ∈ TW := inTW (List.mem_append_right _ (TS5 (List.mem_of_getElem? (i := 17) (by decide +kernel)))) rfl
theorem kfl_X12_7 : Cond.fieldLink RX12 7 "SlateSchoolModel" "tape" "[B" ∈ TW := inTW (List.mem_append_right _ (TS5 (List.mem_of_getElem? (i := 18) (by decide +kernel)))) rfl
theorem kfl_X12_13 : Cond.fieldLink RX12 13 "SlateSchoolModel" "luck" "I" ∈ TW := inTW (List.mem_append_right _ (TS5 (List.mem_of_getElem? (i := 24) (by decide +kernel)))) rfl
theorem kfl_X12_17 : Cond.fieldLink RX12 17 "SlateSchoolModel" "room" "[I" ∈ TW := inTW (List.mem_append_right _ (TS5 (List.mem_of_getElem? (i := 26) (by decide +kernel)))) rfl
theorem kfl_X12_21 : Cond.fieldLink RX12 21 "SlateSchoolModel" "lying" "[I" ∈ TW := inTW (List.mem_append_right _ (TS5 (List.mem_of_getElem? (i := 27) (by decide +kernel)))) rfl
theorem kfl_X12_24 : Cond.fieldLink RX12 24 "SlateSchoolModel" "steep" "[I" ∈ TW := inTW (List.mem_append_right _ (TS5 (List.mem_of_getElem? (i := 28) (by decide +kernel)))) rfl
theorem kfl_X12_27 : Cond.fieldLink RX12 27 "SlateSchoolModel" "roofOf" "[I" ∈ TW := inTW (List.mem_append_right _ (TS5 (List.mem_of_getElem? (i := 29) (by decide +kernel)))) rfl
theorem kfl_X12_30 : Cond.fieldLink RX12 30 "SlateSchoolModel" "grip" "[I" ∈ TW := inTW (List.mem_append_right _ (TS5 (List.mem_of_getElem? (i := 30) (by decide +kernel)))) rfl
theorem kfl_X12_33 : Cond.fieldLink RX12 33 "SlateSchoolModel" "skills" "[I" ∈ TW := inTW (List.mem_append_right _ (TS5 (List.mem_of_getElem? (i := 31) (by decide +kernel)))) rfl
theorem kfl_X12_36 : Cond.fieldLink RX12 36 "SlateSchoolModel" "hasRope" "[Z" ∈ TW := inTW (List.mem_append_right _ (TS5 (List.mem_of_getElem? (i := 32) (by decide +kernel)))) rfl
theorem kfl_X12_40 : Cond.fieldLink RX12 40 "SlateSchoolModel" "fallen" "[I" ∈ TW := inTW (List.mem_append_right _ (TS5 (List.mem_of_getElem? (i := 33) (by decide +kernel)))) rfl
theorem kfl_X12_43 : Cond.fieldLink RX12 43 "SlateSchoolModel" "trade" "[I" ∈ TW := inTW (List.mem_append_right _ (TS5 (List.mem_of_getElem? (i := 34) (by decide +kernel)))) rfl
theorem kfl_X12_46 : Cond.fieldLink RX12 46 "SlateSchoolModel" "below" "[I" ∈ TW := inTW (List.mem_append_right _ (TS5 (List.mem_of_getElem? (i := 35) (by decide +kernel)))) rfl
theorem kfl_X12_49 : Cond.fieldLink RX12 49 "SlateSchoolModel" "hasUmbrella" "[Z" ∈ TW := inTW (List.mem_append_right _ (TS5 (List.mem_of_getElem? (i := 36) (by decide +kernel)))) rfl
theorem kfl_X12_52 : Cond.fieldLink RX12 52 "SlateSchoolModel" "bruises" "[I" ∈ TW := inTW (List.mem_append_right _ (TS5 (List.mem_of_getElem? (i := 37) (by decide +kernel)))) rfl
theorem kfl_X12_55 : Cond.fieldLink RX12 55 "SlateSchoolModel" "debts" "[I" ∈ TW := inTW (List.mem_append_right _ (TS5 (List.mem_of_getElem? (i := 38) (by decide +kernel)))) rfl
theorem kfl_X12_58 : Cond.fieldLink RX12 58 "SlateSchoolModel" "struck" "[I" ∈ TW := inTW (List.mem_append_right _ (TS5 (List.mem_of_getElem? (i := 39) (by decide +kernel)))) rfl
theorem kfl_X12_61 : Cond.fieldLink RX12 61 "SlateSchoolModel" "isSnow" "[Z" ∈ TW := inTW (List.mem_append_right _ (TS5 (List.mem_of_getElem? (i := 40) (by decide +kernel)))) rfl
theorem kfl_X12_64 : Cond.fieldLink RX12 64 "SlateSchoolModel" "clauseLetter" "[I" ∈ TW := inTW (List.mem_append_right _ (TS5 (List.mem_of_getElem? (i := 42) (by decide +kernel)))) rfl
theorem kfl_X12_67 : Cond.fieldLink RX12 67 "SlateSchoolModel" "sumFrom" "[I" ∈ TW := inTW (List.mem_append_right _ (TS5 (List.mem_of_getElem? (i := 43) (by decide +kernel)))) rfl
theorem kfl_X12_70 : Cond.fieldLink RX12 70 "SlateSchoolModel" "codeFrom" "[I" ∈ TW := inTW (List.mem_append_right _ (TS5 (List.mem_of_getElem? (i := 44) (by decide +kernel)))) rfl
theorem kfl_X12_73 : Cond.fieldLink RX12 73 "SlateSchoolModel" "codeTo" "[I" ∈ TW := inTW (List.mem_append_right _ (TS5 (List.mem_of_getElem? (i := 45) (by decide +kernel)))) rfl
theorem kfl_X12_76 : Cond.fieldLink RX12 76 "SlateSchoolModel" "code" "[I" ∈ TW := inTW (List.mem_append_right _ (TS5 (List.mem_of_getElem? (i := 46) (by decide +kernel)))) rfl
theorem kfl_X12_79 : Cond.fieldLink RX12 79 "SlateSchoolModel" "codeArg" "[I" ∈ TW := inTW (List.mem_append_right _ (TS5 (List.mem_of_getElem? (i := 47) (by decide +kernel)))) rfl
theorem kfl_X12_82 : Cond.fieldLink RX12 82 "SlateSchoolModel" "newLetter" "[I" ∈ TW := inTW (List.mem_append_right _ (TS5 (List.mem_of_getElem? (i := 48) (by decide +kernel)))) rfl
theorem kfl_X12_85 : Cond.fieldLink RX12 85 "SlateSchoolModel" "newSum" "[I" ∈ TW := inTW (List.mem_append_right _ (TS5 (List.mem_of_getElem? (i := 49) (by decide +kernel)))) rfl
theorem kfl_X12_88 : Cond.fieldLink RX12 88 "SlateSchoolModel" "newFrom" "[I" ∈ TW := inTW (List.mem_append_right _ (TS5 (List.mem_of_getElem? (i := 50) (by decide +kernel)))) rfl
theorem kfl_X12_91 : Cond.fieldLink RX12 91 "SlateSchoolModel" "newTo" "[I" ∈ TW := inTW (List.mem_append_right _ (TS5 (List.mem_of_getElem? (i := 51) (by decide +kernel)))) rfl
theorem kfl_X12_94 : Cond.fieldLink RX12 94 "SlateSchoolModel" "newCode" "[I" ∈ TW := inTW (List.mem_append_right _ (TS5 (List.mem_of_getElem? (i := 52) (by decide +kernel)))) rfl
theorem kfl_X12_97 : Cond.fieldLink RX12 97 "SlateSchoolModel" "newArg" "[I" ∈ TW := inTW (List.mem_append_right _ (TS5 (List.mem_of_getElem? (i := 53) (by decide +kernel)))) rfl
theorem kfl_X12_100 : Cond.fieldLink RX12 100 "SlateSchoolModel" "stack" "[I" ∈ TW := inTW (List.mem_append_right _ (TS5 (List.mem_of_getElem? (i := 63) (by decide +kernel)))) rfl
theorem kfl_X12_103 : Cond.fieldLink RX12 103 "SlateSchoolModel" "worths" "[I" ∈ TW := inTW (List.mem_append_right _ (TS5 (List.mem_of_getElem? (i := 67) (by decide +kernel)))) rfl
theorem kfl_X12_106 : Cond.fieldLink RX12 106 "SlateSchoolModel" "isRefused" "[Z" ∈ TW := inTW (List.mem_append_right _ (TS5 (List.mem_of_getElem? (i := 68) (by decide +kernel)))) rfl
theorem kfl_X12_109 : Cond.fieldLink RX12 109 "SlateSchoolModel" "sideRoom" "[I" ∈ TW := inTW (List.mem_append_right _ (TS5 (List.mem_of_getElem? (i := 73) (by decide +kernel)))) rfl
theorem kfl_X12_112 : Cond.fieldLink RX12 112 "SlateSchoolModel" "sideLying" "[I" ∈ TW := inTW (List.mem_append_right _ (TS5 (List.mem_of_getElem? (i := 74) (by decide +kernel)))) rfl
theorem kfl_X12_115 : Cond.fieldLink RX12 115 "SlateSchoolModel" "sideSteep" "[I" ∈ TW := inTW (List.mem_append_right _ (TS5 (List.mem_of_getElem? (i := 75) (by decide +kernel)))) rfl
theorem kfl_X12_118 : Cond.fieldLink RX12 118 "SlateSchoolModel" "sideRoofOf" "[I" ∈ TW := inTW (List.mem_append_right _ (TS5 (List.mem_of_getElem? (i := 76) (by decide +kernel)))) rfl
theorem kfl_X12_121 : Cond.fieldLink RX12 121 "SlateSchoolModel" "sideGrip" "[I" ∈ TW := inTW (List.mem_append_right _ (TS5 (List.mem_of_getElem? (i := 77) (by decide +kernel)))) rfl
theorem kfl_X12_124 : Cond.fieldLink RX12 124 "SlateSchoolModel" "sideSkill" "[I" ∈ TW := inTW (List.mem_append_right _ (TS5 (List.mem_of_getElem? (i := 78) (by decide +kernel)))) rfl
theorem kfl_X12_127 : Cond.fieldLink RX12 127 "SlateSchoolModel" "sideRope" "[Z" ∈ TW := inTW (List.mem_append_right _ (TS5 (List.mem_of_getElem? (i := 79) (by decide +kernel)))) rfl
theorem kfl_X12_130 : Cond.fieldLink RX12 130 "SlateSchoolModel" "sideFallen" "[I" ∈ TW := inTW (List.mem_append_right _ (TS5 (List.mem_of_getElem? (i := 80) (by decide +kernel)))) rfl
theorem kfl_X12_133 : Cond.fieldLink RX12 133 "SlateSchoolModel" "sideTrade" "[I" ∈ TW := inTW (List.mem_append_right _ (TS5 (List.mem_of_getElem? (i := 81) (by decide +kernel)))) rfl
theorem kfl_X12_136 : Cond.fieldLink RX12 136 "SlateSchoolModel" "sideBelow" "[I" ∈ TW := inTW (List.mem_append_right _ (TS5 (List.mem_of_getElem? (i := 82) (by decide +kernel)))) rfl
theorem kfl_X12_139 : Cond.fieldLink RX12 139 "SlateSchoolModel" "sideUmbrella" "[Z" ∈ TW := inTW (List.mem_append_right _ (TS5 (List.mem_of_getElem? (i := 83) (by decide +kernel)))) rfl
theorem kfl_X12_142 : Cond.fieldLink RX12 142 "SlateSchoolModel" "sideBruises" "[I" ∈ TW := inTW (List.mem_append_right _ (TS5 (List.mem_of_getElem? (i := 84) (by decide +kernel)))) rfl
theorem kfl_X12_145 : Cond.fieldLink RX12 145 "SlateSchoolModel" "sideDebts" "[I" ∈ TW := inTW (List.mem_append_right _ (TS5 (List.mem_of_getElem? (i := 85) (by decide +kernel)))) rfl
theorem kfl_X12_148 : Cond.fieldLink RX12 148 "SlateSchoolModel" "sideStruck" "[I" ∈ TW := inTW (List.mem_append_right _ (TS5 (List.mem_of_getElem? (i := 86) (by decide +kernel)))) rfl
theorem kfl_X12_151 : Cond.fieldLink RX12 151 "SlateSchoolModel" "sideSnow" "[Z" ∈ TW := inTW (List.mem_append_right _ (TS5 (List.mem_of_getElem? (i := 87) (by decide +kernel)))) rfl
theorem kfl_X12_154 : Cond.fieldLink RX12 154 "SlateSchoolModel" "sideNumbers" "[I" ∈ TW := inTW (List.mem_append_right _ (TS5 (List.mem_of_getElem? (i := 88) (by decide +kernel)))) rfl
theorem kfl_X12_157 : Cond.fieldLink RX12 157 "SlateSchoolModel" "some" "[I" ∈ TW := inTW (List.mem_append_right _ (TS5 (List.mem_of_getElem? (i := 89) (by decide +kernel)))) rfl
theorem kfl_X12_160 : Cond.fieldLink RX12 160 "SlateSchoolModel" "lentBy" "[I" ∈ TW := inTW (List.mem_append_right _ (TS5 (List.mem_of_getElem? (i := 93) (by decide +kernel)))) rfl
theorem kfl_X12_163 : Cond.fieldLink RX12 163 "SlateSchoolModel" "positions" "[I" ∈ TW := inTW (List.mem_append_right _ (TS5 (List.mem_of_getElem? (i := 94) (by decide +kernel)))) rfl
theorem kfl_X12_166 : Cond.fieldLink RX12 166 "SlateSchoolModel" "evenSets" "[I" ∈ TW := inTW (List.mem_append_right _ (TS5 (List.mem_of_getElem? (i := 95) (by decide +kernel)))) rfl
theorem kfl_X12_169 : Cond.fieldLink RX12 169 "SlateSchoolModel" "farOf" "[I" ∈ TW := inTW (List.mem_append_right _ (TS5 (List.mem_of_getElem? (i := 96) (by decide +kernel)))) rfl
theorem kml_L_12 : Cond.methodLink RL 12 yX12_init ∈ TW := inTW (List.mem_append_right _ (TS5 (List.mem_of_getElem? (i := 14) (by decide +kernel)))) rfl
theorem kmi_X12_init : MQI yX12_init cX12_init 1 none 0 := ⟨inTW (List.mem_append_right _ (TS5 (List.mem_of_getElem? (i := 16) (by decide +kernel)))) rfl, inTW (List.mem_append_right _ (TS1 (List.mem_of_getElem? (i := 13) (by decide +kernel)))) rfl, by decide, by decide +kernel⟩
theorem kin_X12_init : Cond.instanceMethod yX12_init ∈ TW := inTW (List.mem_append_right _ (TS5 (List.mem_of_getElem? (i := 15) (by decide +kernel)))) rfl
def J0 : List (Int ⊕ List Int) := []
theorem jl_0 : J0.length = 0 := rfl
def J1 : List (Int ⊕ List Int) := J0 ++ [.inr (rsX11.map fun b => if b then -1 else 0)]
theorem jl_1 : J1.length = 1 := by unfold J1; rw [List.length_append, jl_0]; rfl
def J2 : List (Int ⊕ List Int) := J1 ++ [.inr (rsX9.map fun b => if b then -1 else 0)]
theorem jl_2 : J2.length = 2 := by unfold J2; rw [List.length_append, jl_1]; rfl
def J3 : List (Int ⊕ List Int) := J2 ++ [.inr (rsX6.map fun b => if b then -1 else 0)]
theorem jl_3 : J3.length = 3 := by unfold J3; rw [List.length_append, jl_2]; rfl
def J4 : List (Int ⊕ List Int) := putJ J3 2 0 (0)
theorem jl_4 : J4.length = 3 := by unfold J4 putJ; rw [List.length_set, jl_3]
theorem je_4 : up2 (hOf J3) 2 0 (0) = hOf J4 := put_J (by decide +kernel)
def J5 : List (Int ⊕ List Int) := J4 ++ [.inl 0]
theorem jl_5 : J5.length = 4 := by unfold J5; rw [List.length_append, jl_4]; rfl
def J6 : List (Int ⊕ List Int) := putJ J5 2 1 ((3 : Nat) : Int)
theorem jl_6 : J6.length = 4 := by unfold J6 putJ; rw [List.length_set, jl_5]
theorem je_6 : up2 (hOf J5) 2 1 ((3 : Nat) : Int) = hOf J6 := put_J (by decide +kernel)
def J7 : List (Int ⊕ List Int) := J6 ++ [.inl 0]
theorem jl_7 : J7.length = 5 := by unfold J7; rw [List.length_append, jl_6]; rfl
def J8 : List (Int ⊕ List Int) := putJ J7 2 2 ((4 : Nat) : Int)
theorem jl_8 : J8.length = 5 := by unfold J8 putJ; rw [List.length_set, jl_7]
theorem je_8 : up2 (hOf J7) 2 2 ((4 : Nat) : Int) = hOf J8 := put_J (by decide +kernel)
def J9 : List (Int ⊕ List Int) := J8 ++ [.inl 0]
theorem jl_9 : J9.length = 6 := by unfold J9; rw [List.length_append, jl_8]; rfl
def J10 : List (Int ⊕ List Int) := putJ J9 2 3 ((5 : Nat) : Int)
theorem jl_10 : J10.length = 6 := by unfold J10 putJ; rw [List.length_set, jl_9]
theorem je_10 : up2 (hOf J9) 2 3 ((5 : Nat) : Int) = hOf J10 := put_J (by decide +kernel)
def J11 : List (Int ⊕ List Int) := putJ J10 1 0 ((2 : Nat) : Int)
theorem jl_11 : J11.length = 6 := by unfold J11 putJ; rw [List.length_set, jl_10]
theorem je_11 : up2 (hOf J10) 1 0 ((2 : Nat) : Int) = hOf J11 := put_J (by decide +kernel)
def J12 : List (Int ⊕ List Int) := J11 ++ [.inr (rsX0.map fun b => if b then -1 else 0)]
theorem jl_12 : J12.length = 7 := by unfold J12; rw [List.length_append, jl_11]; rfl
def J13 : List (Int ⊕ List Int) := [.inr [(-1), (-1), (-1), (-1), (-1), (-1), (-1), (-1), (-1), (-1), (-1), (-1), 0], .inr [2, (-1), (-1), (-1), (-1), (-1), 0, 0, 0, (-1)], .inr [0, 3, 4, 5], .inl 0, .inl 0, .inl 0, .inr [0, (-1), (-1), (-1), (-1), (-1)]]
theorem jl_13 : J13.length = 7 := by decide +kernel
theorem je_13 : up2 (hOf J12) 6 0 (0) = hOf J13 := Eq.trans (put_J (l := J12) (a := 6) (k := 0) (x := (0)) (by decide +kernel)) (congrArg hOf (show putJ J12 6 0 (0) = J13 by decide +kernel))
def J14 : List (Int ⊕ List Int) := J13 ++ [.inl 0]
theorem jl_14 : J14.length = 8 := by unfold J14; rw [List.length_append, jl_13]; rfl
def J15 : List (Int ⊕ List Int) := putJ J14 6 1 ((7 : Nat) : Int)
theorem jl_15 : J15.length = 8 := by unfold J15 putJ; rw [List.length_set, jl_14]
theorem je_15 : up2 (hOf J14) 6 1 ((7 : Nat) : Int) = hOf J15 := put_J (by decide +kernel)
def J16 : List (Int ⊕ List Int) := J15 ++ [.inl 0]
theorem jl_16 : J16.length = 9 := by unfold J16; rw [List.length_append, jl_15]; rfl
def J17 : List (Int ⊕ List Int) := putJ J16 6 2 ((8 : Nat) : Int)
theorem jl_17 : J17.length = 9 := by unfold J17 putJ; rw [List.length_set, jl_16]
theorem je_17 : up2 (hOf J16) 6 2 ((8 : Nat) : Int) = hOf J17 := put_J (by decide +kernel)
def J18 : List (Int ⊕ List Int) := J17 ++ [.inl 0]
theorem jl_18 : J18.length = 10 := by unfold J18; rw [List.length_append, jl_17]; rfl
def J19 : List (Int ⊕ List Int) := putJ J18 6 3 ((9 : Nat) : Int)
theorem jl_19 : J19.length = 10 := by unfold J19 putJ; rw [List.length_set, jl_18]
theorem je_19 : up2 (hOf J18) 6 3 ((9 : Nat) : Int) = hOf J19 := put_J (by decide +kernel)
def J20 : List (Int ⊕ List Int) := J19 ++ [.inl 0]
theorem jl_20 : J20.length = 11 := by unfold J20; rw [List.length_append, jl_19]; rfl
def J21 : List (Int ⊕ List Int) := putJ J20 6 4 ((10 : Nat) : Int)
theorem jl_21 : J21.length = 11 := by unfold J21 putJ; rw [List.length_set, jl_20]
theorem je_21 : up2 (hOf J20) 6 4 ((10 : Nat) : Int) = hOf J21 := put_J (by decide +kernel)
def J22 : List (Int ⊕ List Int) := J21 ++ [.inl 0]
theorem jl_22 : J22.length = 12 := by unfold J22; rw [List.length_append, jl_21]; rfl
def J23 : List (Int ⊕ List Int) := putJ J22 6 5 ((11 : Nat) : Int)
theorem jl_23 : J23.length = 12 := by unfold J23 putJ; rw [List.length_set, jl_22]
theorem je_23 : up2 (hOf J22) 6 5 ((11 : Nat) : Int) = hOf J23 := put_J (by decide +kernel)
def J24 : List (Int ⊕ List Int) := putJ J23 1 1 ((6 : Nat) : Int)
theorem jl_24 : J24.length = 12 := by unfold J24 putJ; rw [List.length_set, jl_23]
theorem je_24 : up2 (hOf J23) 1 1 ((6 : Nat) : Int) = hOf J24 := put_J (by decide +kernel)
def J25 : List (Int ⊕ List Int) := J24 ++ [.inr (rsX4.map fun b => if b then -1 else 0)]
theorem jl_25 : J25.length = 13 := by unfold J25; rw [List.length_append, jl_24]; rfl
def J26 : List (Int ⊕ List Int) := [.inr [(-1), (-1), (-1), (-1), (-1), (-1), (-1), (-1), (-1), (-1), (-1), (-1), 0], .inr [2, 6, (-1), (-1), (-1), (-1), 0, 0, 0, (-1)], .inr [0, 3, 4, 5], .inl 0, .inl 0, .inl 0, .inr [0, 7, 8, 9, 10, 11], .inl 0, .inl 0, .inl 0, .inl 0, .inl 0, .inr [0, (-1), (-1), (-1), (-1)]]
theorem jl_26 : J26.length = 13 := by decide +kernel
theorem je_26 : up2 (hOf J25) 12 0 (0) = hOf J26 := Eq.trans (put_J (l := J25) (a := 12) (k := 0) (x := (0)) (by decide +kernel)) (congrArg hOf (show putJ J25 12 0 (0) = J26 by decide +kernel))
def J27 : List (Int ⊕ List Int) := J26 ++ [.inl 0]
theorem jl_27 : J27.length = 14 := by unfold J27; rw [List.length_append, jl_26]; rfl
def J28 : List (Int ⊕ List Int) := putJ J27 12 1 ((13 : Nat) : Int)
theorem jl_28 : J28.length = 14 := by unfold J28 putJ; rw [List.length_set, jl_27]
theorem je_28 : up2 (hOf J27) 12 1 ((13 : Nat) : Int) = hOf J28 := put_J (by decide +kernel)
def J29 : List (Int ⊕ List Int) := J28 ++ [.inl 0]
theorem jl_29 : J29.length = 15 := by unfold J29; rw [List.length_append, jl_28]; rfl
def J30 : List (Int ⊕ List Int) := putJ J29 12 2 ((14 : Nat) : Int)
theorem jl_30 : J30.length = 15 := by unfold J30 putJ; rw [List.length_set, jl_29]
theorem je_30 : up2 (hOf J29) 12 2 ((14 : Nat) : Int) = hOf J30 := put_J (by decide +kernel)
def J31 : List (Int ⊕ List Int) := J30 ++ [.inl 0]
theorem jl_31 : J31.length = 16 := by unfold J31; rw [List.length_append, jl_30]; rfl
def J32 : List (Int ⊕ List Int) := putJ J31 12 3 ((15 : Nat) : Int)
theorem jl_32 : J32.length = 16 := by unfold J32 putJ; rw [List.length_set, jl_31]
theorem je_32 : up2 (hOf J31) 12 3 ((15 : Nat) : Int) = hOf J32 := put_J (by decide +kernel)
def J33 : List (Int ⊕ List Int) := J32 ++ [.inl 0]
theorem jl_33 : J33.length = 17 := by unfold J33; rw [List.length_append, jl_32]; rfl
def J34 : List (Int ⊕ List Int) := putJ J33 12 4 ((16 : Nat) : Int)
theorem jl_34 : J34.length = 17 := by unfold J34 putJ; rw [List.length_set, jl_33]
theorem je_34 : up2 (hOf J33) 12 4 ((16 : Nat) : Int) = hOf J34 := put_J (by decide +kernel)
def J35 : List (Int ⊕ List Int) := putJ J34 1 2 ((12 : Nat) : Int)
theorem jl_35 : J35.length = 17 := by unfold J35 putJ; rw [List.length_set, jl_34]
theorem je_35 : up2 (hOf J34) 1 2 ((12 : Nat) : Int) = hOf J35 := put_J (by decide +kernel)
def J36 : List (Int ⊕ List Int) := J35 ++ [.inl 0]
theorem jl_36 : J36.length = 18 := by unfold J36; rw [List.length_append, jl_35]; rfl
def J37 : List (Int ⊕ List Int) := putJ J36 1 3 ((17 : Nat) : Int)
theorem jl_37 : J37.length = 18 := by unfold J37 putJ; rw [List.length_set, jl_36]
theorem je_37 : up2 (hOf J36) 1 3 ((17 : Nat) : Int) = hOf J37 := put_J (by decide +kernel)
def J38 : List (Int ⊕ List Int) := J37 ++ [.inl 0]
theorem jl_38 : J38.length = 19 := by unfold J38; rw [List.length_append, jl_37]; rfl
def J39 : List (Int ⊕ List Int) := [.inr [(-1), (-1), (-1), (-1), (-1), (-1), (-1), (-1), (-1), (-1), (-1), (-1), 0], .inr [2, 6, 12, 17, 18, (-1), 0, 0, 0, (-1)], .inr [0, 3, 4, 5], .inl 0, .inl 0, .inl 0, .inr [0, 7, 8, 9, 10, 11], .inl 0, .inl 0, .inl 0, .inl 0, .inl 0, .inr [0, 13, 14, 15, 16], .inl 0, .inl 0, .inl 0, .inl 0, .inl 0, .inl 0]
theorem jl_39 : J39.length = 19 := by decide +kernel
theorem je_39 : up2 (hOf J38) 1 4 ((18 : Nat) : Int) = hOf J39 := Eq.trans (put_J (l := J38) (a := 1) (k := 4) (x := ((18 : Nat) : Int)) (by decide +kernel)) (congrArg hOf (show putJ J38 1 4 ((18 : Nat) : Int) = J39 by decide +kernel))
def J40 : List (Int ⊕ List Int) := J39 ++ [.inl 0]
theorem jl_40 : J40.length = 20 := by unfold J40; rw [List.length_append, jl_39]; rfl
def J41 : List (Int ⊕ List Int) := putJ J40 1 5 ((19 : Nat) : Int)
theorem jl_41 : J41.length = 20 := by unfold J41 putJ; rw [List.length_set, jl_40]
theorem je_41 : up2 (hOf J40) 1 5 ((19 : Nat) : Int) = hOf J41 := put_J (by decide +kernel)
def J42 : List (Int ⊕ List Int) := putJ J41 1 6 (0)
theorem jl_42 : J42.length = 20 := by unfold J42 putJ; rw [List.length_set, jl_41]
theorem je_42 : up2 (hOf J41) 1 6 (0) = hOf J42 := put_J (by decide +kernel)
def J43 : List (Int ⊕ List Int) := putJ J42 1 7 (1)
theorem jl_43 : J43.length = 20 := by unfold J43 putJ; rw [List.length_set, jl_42]
theorem je_43 : up2 (hOf J42) 1 7 (1) = hOf J43 := put_J (by decide +kernel)
def J44 : List (Int ⊕ List Int) := putJ J43 1 8 (0)
theorem jl_44 : J44.length = 20 := by unfold J44 putJ; rw [List.length_set, jl_43]
theorem je_44 : up2 (hOf J43) 1 8 (0) = hOf J44 := put_J (by decide +kernel)
def J45 : List (Int ⊕ List Int) := J44 ++ [.inl 0]
theorem jl_45 : J45.length = 21 := by unfold J45; rw [List.length_append, jl_44]; rfl
def J46 : List (Int ⊕ List Int) := putJ J45 1 9 ((20 : Nat) : Int)
theorem jl_46 : J46.length = 21 := by unfold J46 putJ; rw [List.length_set, jl_45]
theorem je_46 : up2 (hOf J45) 1 9 ((20 : Nat) : Int) = hOf J46 := put_J (by decide +kernel)
def J47 : List (Int ⊕ List Int) := putJ J46 0 0 ((1 : Nat) : Int)
theorem jl_47 : J47.length = 21 := by unfold J47 putJ; rw [List.length_set, jl_46]
theorem je_47 : up2 (hOf J46) 0 0 ((1 : Nat) : Int) = hOf J47 := put_J (by decide +kernel)
def J48 : List (Int ⊕ List Int) := J47 ++ [.inr (rsX9.map fun b => if b then -1 else 0)]
theorem jl_48 : J48.length = 22 := by unfold J48; rw [List.length_append, jl_47]; rfl
def J49 : List (Int ⊕ List Int) := J48 ++ [.inr (rsX6.map fun b => if b then -1 else 0)]
theorem jl_49 : J49.length = 23 := by unfold J49; rw [List.length_append, jl_48]; rfl
def J50 : List (Int ⊕ List Int) := putJ J49 22 0 (0)
theorem jl_50 : J50.length = 23 := by unfold J50 putJ; rw [List.length_set, jl_49]
theorem je_50 : up2 (hOf J49) 22 0 (0) = hOf J50 := put_J (by decide +kernel)
def J51 : List (Int ⊕ List Int) := J50 ++ [.inl 0]
theorem jl_51 : J51.length = 24 := by unfold J51; rw [List.length_append, jl_50]; rfl
def J52 : List (Int ⊕ List Int) := [.inr [1, (-1), (-1), (-1), (-1), (-1), (-1), (-1), (-1), (-1), (-1), (-1), 0], .inr [2, 6, 12, 17, 18, 19, 0, 1, 0, 20], .inr [0, 3, 4, 5], .inl 0, .inl 0, .inl 0, .inr [0, 7, 8, 9, 10, 11], .inl 0, .inl 0, .inl 0, .inl 0, .inl 0, .inr [0, 13, 14, 15, 16], .inl 0, .inl 0, .inl 0, .inl 0, .inl 0, .inl 0, .inl 0, .inl 0, .inr [(-1), (-1), (-1), (-1), (-1), (-1), 0, 0, 0, (-1)], .inr [0, 23, (-1), (-1)], .inl 0]
theorem jl_52 : J52.length = 24 := by decide +kernel
theorem je_52 : up2 (hOf J51) 22 1 ((23 : Nat) : Int) = hOf J52 := Eq.trans (put_J (l := J51) (a := 22) (k := 1) (x := ((23 : Nat) : Int)) (by decide +kernel)) (congrArg hOf (show putJ J51 22 1 ((23 : Nat) : Int) = J52 by decide +kernel))
def J53 : List (Int ⊕ List Int) := J52 ++ [.inl 0]
theorem jl_53 : J53.length = 25 := by unfold J53; rw [List.length_append, jl_52]; rfl
def J54 : List (Int ⊕ List Int) := putJ J53 22 2 ((24 : Nat) : Int)
theorem jl_54 : J54.length = 25 := by unfold J54 putJ; rw [List.length_set, jl_53]
theorem je_54 : up2 (hOf J53) 22 2 ((24 : Nat) : Int) = hOf J54 := put_J (by decide +kernel)
def J55 : List (Int ⊕ List Int) := J54 ++ [.inl 0]
theorem jl_55 : J55.length = 26 := by unfold J55; rw [List.length_append, jl_54]; rfl
def J56 : List (Int ⊕ List Int) := putJ J55 22 3 ((25 : Nat) : Int)
theorem jl_56 : J56.length = 26 := by unfold J56 putJ; rw [List.length_set, jl_55]
theorem je_56 : up2 (hOf J55) 22 3 ((25 : Nat) : Int) = hOf J56 := put_J (by decide +kernel)
def J57 : List (Int ⊕ List Int) := putJ J56 21 0 ((22 : Nat) : Int)
theorem jl_57 : J57.length = 26 := by unfold J57 putJ; rw [List.length_set, jl_56]
theorem je_57 : up2 (hOf J56) 21 0 ((22 : Nat) : Int) = hOf J57 := put_J (by decide +kernel)
def J58 : List (Int ⊕ List Int) := J57 ++ [.inr (rsX0.map fun b => if b then -1 else 0)]
theorem jl_58 : J58.length = 27 := by unfold J58; rw [List.length_append, jl_57]; rfl
def J59 : List (Int ⊕ List Int) := putJ J58 26 0 (0)
theorem jl_59 : J59.length = 27 := by unfold J59 putJ; rw [List.length_set, jl_58]
theorem je_59 : up2 (hOf J58) 26 0 (0) = hOf J59 := put_J (by decide +kernel)
def J60 : List (Int ⊕ List Int) := J59 ++ [.inl 0]
theorem jl_60 : J60.length = 28 := by unfold J60; rw [List.length_append, jl_59]; rfl
def J61 : List (Int ⊕ List Int) := putJ J60 26 1 ((27 : Nat) : Int)
theorem jl_61 : J61.length = 28 := by unfold J61 putJ; rw [List.length_set, jl_60]
theorem je_61 : up2 (hOf J60) 26 1 ((27 : Nat) : Int) = hOf J61 := put_J (by decide +kernel)
def J62 : List (Int ⊕ List Int) := J61 ++ [.inl 0]
theorem jl_62 : J62.length = 29 := by unfold J62; rw [List.length_append, jl_61]; rfl
def J63 : List (Int ⊕ List Int) := putJ J62 26 2 ((28 : Nat) : Int)
theorem jl_63 : J63.length = 29 := by unfold J63 putJ; rw [List.length_set, jl_62]
theorem je_63 : up2 (hOf J62) 26 2 ((28 : Nat) : Int) = hOf J63 := put_J (by decide +kernel)
def J64 : List (Int ⊕ List Int) := J63 ++ [.inl 0]
theorem jl_64 : J64.length = 30 := by unfold J64; rw [List.length_append, jl_63]; rfl
def J65 : List (Int ⊕ List Int) := [.inr [1, (-1), (-1), (-1), (-1), (-1), (-1), (-1), (-1), (-1), (-1), (-1), 0], .inr [2, 6, 12, 17, 18, 19, 0, 1, 0, 20], .inr [0, 3, 4, 5], .inl 0, .inl 0, .inl 0, .inr [0, 7, 8, 9, 10, 11], .inl 0, .inl 0, .inl 0, .inl 0, .inl 0, .inr [0, 13, 14, 15, 16], .inl 0, .inl 0, .inl 0, .inl 0, .inl 0, .inl 0, .inl 0, .inl 0, .inr [22, (-1), (-1), (-1), (-1), (-1), 0, 0, 0, (-1)], .inr [0, 23, 24, 25], .inl 0, .inl 0, .inl 0, .inr [0, 27, 28, 29, (-1), (-1)], .inl 0, .inl 0, .inl 0]
theorem jl_65 : J65.length = 30 := by decide +kernel
theorem je_65 : up2 (hOf J64) 26 3 ((29 : Nat) : Int) = hOf J65 := Eq.trans (put_J (l := J64) (a := 26) (k := 3) (x := ((29 : Nat) : Int)) (by decide +kernel)) (congrArg hOf (show putJ J64 26 3 ((29 : Nat) : Int) = J65 by decide +kernel))
def J66 : List (Int ⊕ List Int) := J65 ++ [.inl 0]
theorem jl_66 : J66.length = 31 := by unfold J66; rw [List.length_append, jl_65]; rfl
def J67 : List (Int ⊕ List Int) := putJ J66 26 4 ((30 : Nat) : Int)
theorem jl_67 : J67.length = 31 := by unfold J67 putJ; rw [List.length_set, jl_66]
theorem je_67 : up2 (hOf J66) 26 4 ((30 : Nat) : Int) = hOf J67 := put_J (by decide +kernel)
def J68 : List (Int ⊕ List Int) := J67 ++ [.inl 0]
theorem jl_68 : J68.length = 32 := by unfold J68; rw [List.length_append, jl_67]; rfl
def J69 : List (Int ⊕ List Int) := putJ J68 26 5 ((31 : Nat) : Int)
theorem jl_69 : J69.length = 32 := by unfold J69 putJ; rw [List.length_set, jl_68]
theorem je_69 : up2 (hOf J68) 26 5 ((31 : Nat) : Int) = hOf J69 := put_J (by decide +kernel)
def J70 : List (Int ⊕ List Int) := putJ J69 21 1 ((26 : Nat) : Int)
theorem jl_70 : J70.length = 32 := by unfold J70 putJ; rw [List.length_set, jl_69]
theorem je_70 : up2 (hOf J69) 21 1 ((26 : Nat) : Int) = hOf J70 := put_J (by decide +kernel)
def J71 : List (Int ⊕ List Int) := J70 ++ [.inr (rsX4.map fun b => if b then -1 else 0)]
theorem jl_71 : J71.length = 33 := by unfold J71; rw [List.length_append, jl_70]; rfl
def J72 : List (Int ⊕ List Int) := putJ J71 32 0 (0)
theorem jl_72 : J72.length = 33 := by unfold J72 putJ; rw [List.length_set, jl_71]
theorem je_72 : up2 (hOf J71) 32 0 (0) = hOf J72 := put_J (by decide +kernel)
def J73 : List (Int ⊕ List Int) := J72 ++ [.inl 0]
theorem jl_73 : J73.length = 34 := by unfold J73; rw [List.length_append, jl_72]; rfl
def J74 : List (Int ⊕ List Int) := putJ J73 32 1 ((33 : Nat) : Int)
theorem jl_74 : J74.length = 34 := by unfold J74 putJ; rw [List.length_set, jl_73]
theorem je_74 : up2 (hOf J73) 32 1 ((33 : Nat) : Int) = hOf J74 := put_J (by decide +kernel)
def J75 : List (Int ⊕ List Int) := J74 ++ [.inl 0]
theorem jl_75 : J75.length = 35 := by unfold J75; rw [List.length_append, jl_74]; rfl
def J76 : List (Int ⊕ List Int) := putJ J75 32 2 ((34 : Nat) : Int)
theorem jl_76 : J76.length = 35 := by unfold J76 putJ; rw [List.length_set, jl_75]
theorem je_76 : up2 (hOf J75) 32 2 ((34 : Nat) : Int) = hOf J76 := put_J (by decide +kernel)
def J77 : List (Int ⊕ List Int) := J76 ++ [.inl 0]
theorem jl_77 : J77.length = 36 := by unfold J77; rw [List.length_append, jl_76]; rfl
def J78 : List (Int ⊕ List Int) := [.inr [1, (-1), (-1), (-1), (-1), (-1), (-1), (-1), (-1), (-1), (-1), (-1), 0], .inr [2, 6, 12, 17, 18, 19, 0, 1, 0, 20], .inr [0, 3, 4, 5], .inl 0, .inl 0, .inl 0, .inr [0, 7, 8, 9, 10, 11], .inl 0, .inl 0, .inl 0, .inl 0, .inl 0, .inr [0, 13, 14, 15, 16], .inl 0, .inl 0, .inl 0, .inl 0, .inl 0, .inl 0, .inl 0, .inl 0, .inr [22, 26, (-1), (-1), (-1), (-1), 0, 0, 0, (-1)], .inr [0, 23, 24, 25], .inl 0, .inl 0, .inl 0, .inr [0, 27, 28, 29, 30, 31], .inl 0, .inl 0, .inl 0, .inl 0, .inl 0, .inr [0, 33, 34, 35, (-1)], .inl 0, .inl 0, .inl 0]
theorem jl_78 : J78.length = 36 := by decide +kernel
theorem je_78 : up2 (hOf J77) 32 3 ((35 : Nat) : Int) = hOf J78 := Eq.trans (put_J (l := J77) (a := 32) (k := 3) (x := ((35 : Nat) : Int)) (by decide +kernel)) (congrArg hOf (show putJ J77 32 3 ((35 : Nat) : Int) = J78 by decide +kernel))
def J79 : List (Int ⊕ List Int) := J78 ++ [.inl 0]
theorem jl_79 : J79.length = 37 := by unfold J79; rw [List.length_append, jl_78]; rfl
def J80 : List (Int ⊕ List Int) := putJ J79 32 4 ((36 : Nat) : Int)
theorem jl_80 : J80.length = 37 := by unfold J80 putJ; rw [List.length_set, jl_79]
theorem je_80 : up2 (hOf J79) 32 4 ((36 : Nat) : Int) = hOf J80 := put_J (by decide +kernel)
def J81 : List (Int ⊕ List Int) := putJ J80 21 2 ((32 : Nat) : Int)
theorem jl_81 : J81.length = 37 := by unfold J81 putJ; rw [List.length_set, jl_80]
theorem je_81 : up2 (hOf J80) 21 2 ((32 : Nat) : Int) = hOf J81 := put_J (by decide +kernel)
def J82 : List (Int ⊕ List Int) := J81 ++ [.inl 0]
theorem jl_82 : J82.length = 38 := by unfold J82; rw [List.length_append, jl_81]; rfl
def J83 : List (Int ⊕ List Int) := putJ J82 21 3 ((37 : Nat) : Int)
theorem jl_83 : J83.length = 38 := by unfold J83 putJ; rw [List.length_set, jl_82]
theorem je_83 : up2 (hOf J82) 21 3 ((37 : Nat) : Int) = hOf J83 := put_J (by decide +kernel)
def J84 : List (Int ⊕ List Int) := J83 ++ [.inl 0]
theorem jl_84 : J84.length = 39 := by unfold J84; rw [List.length_append, jl_83]; rfl
def J85 : List (Int ⊕ List Int) := putJ J84 21 4 ((38 : Nat) : Int)
theorem jl_85 : J85.length = 39 := by unfold J85 putJ; rw [List.length_set, jl_84]
theorem je_85 : up2 (hOf J84) 21 4 ((38 : Nat) : Int) = hOf J85 := put_J (by decide +kernel)
def J86 : List (Int ⊕ List Int) := J85 ++ [.inl 0]
theorem jl_86 : J86.length = 40 := by unfold J86; rw [List.length_append, jl_85]; rfl
def J87 : List (Int ⊕ List Int) := putJ J86 21 5 ((39 : Nat) : Int)
theorem jl_87 : J87.length = 40 := by unfold J87 putJ; rw [List.length_set, jl_86]
theorem je_87 : up2 (hOf J86) 21 5 ((39 : Nat) : Int) = hOf J87 := put_J (by decide +kernel)
def J88 : List (Int ⊕ List Int) := putJ J87 21 6 (0)
theorem jl_88 : J88.length = 40 := by unfold J88 putJ; rw [List.length_set, jl_87]
theorem je_88 : up2 (hOf J87) 21 6 (0) = hOf J88 := put_J (by decide +kernel)
def J89 : List (Int ⊕ List Int) := putJ J88 21 7 (1)
theorem jl_89 : J89.length = 40 := by unfold J89 putJ; rw [List.length_set, jl_88]
theorem je_89 : up2 (hOf J88) 21 7 (1) = hOf J89 := put_J (by decide +kernel)
def J90 : List (Int ⊕ List Int) := putJ J89 21 8 (0)
theorem jl_90 : J90.length = 40 := by unfold J90 putJ; rw [List.length_set, jl_89]
theorem je_90 : up2 (hOf J89) 21 8 (0) = hOf J90 := put_J (by decide +kernel)
def J91 : List (Int ⊕ List Int) := J90 ++ [.inl 0]
theorem jl_91 : J91.length = 41 := by unfold J91; rw [List.length_append, jl_90]; rfl
def J92 : List (Int ⊕ List Int) := [.inr [1, (-1), (-1), (-1), (-1), (-1), (-1), (-1), (-1), (-1), (-1), (-1), 0], .inr [2, 6, 12, 17, 18, 19, 0, 1, 0, 20], .inr [0, 3, 4, 5], .inl 0, .inl 0, .inl 0, .inr [0, 7, 8, 9, 10, 11], .inl 0, .inl 0, .inl 0, .inl 0, .inl 0, .inr [0, 13, 14, 15, 16], .inl 0, .inl 0, .inl 0, .inl 0, .inl 0, .inl 0, .inl 0, .inl 0, .inr [22, 26, 32, 37, 38, 39, 0, 1, 0, 40], .inr [0, 23, 24, 25], .inl 0, .inl 0, .inl 0, .inr [0, 27, 28, 29, 30, 31], .inl 0, .inl 0, .inl 0, .inl 0, .inl 0, .inr [0, 33, 34, 35, 36], .inl 0, .inl 0, .inl 0, .inl 0, .inl 0, .inl 0, .inl 0, .inl 0]
theorem jl_92 : J92.length = 41 := by decide +kernel
theorem je_92 : up2 (hOf J91) 21 9 ((40 : Nat) : Int) = hOf J92 := Eq.trans (put_J (l := J91) (a := 21) (k := 9) (x := ((40 : Nat) : Int)) (by decide +kernel)) (congrArg hOf (show putJ J91 21 9 ((40 : Nat) : Int) = J92 by decide +kernel))
def J93 : List (Int ⊕ List Int) := putJ J92 0 1 ((21 : Nat) : Int)
theorem jl_93 : J93.length = 41 := by unfold J93 putJ; rw [List.length_set, jl_92]
theorem je_93 : up2 (hOf J92) 0 1 ((21 : Nat) : Int) = hOf J93 := put_J (by decide +kernel)
def J94 : List (Int ⊕ List Int) := J93 ++ [.inr (rsX9.map fun b => if b then -1 else 0)]
theorem jl_94 : J94.length = 42 := by unfold J94; rw [List.length_append, jl_93]; rfl
def J95 : List (Int ⊕ List Int) := J94 ++ [.inr (rsX6.map fun b => if b then -1 else 0)]
theorem jl_95 : J95.length = 43 := by unfold J95; rw [List.length_append, jl_94]; rfl
def J96 : List (Int ⊕ List Int) := putJ J95 42 0 (0)
theorem jl_96 : J96.length = 43 := by unfold J96 putJ; rw [List.length_set, jl_95]
theorem je_96 : up2 (hOf J95) 42 0 (0) = hOf J96 := put_J (by decide +kernel)
def J97 : List (Int ⊕ List Int) := J96 ++ [.inl 0]
theorem jl_97 : J97.length = 44 := by unfold J97; rw [List.length_append, jl_96]; rfl
def J98 : List (Int ⊕ List Int) := putJ J97 42 1 ((43 : Nat) : Int)
theorem jl_98 : J98.length = 44 := by unfold J98 putJ; rw [List.length_set, jl_97]
theorem je_98 : up2 (hOf J97) 42 1 ((43 : Nat) : Int) = hOf J98 := put_J (by decide +kernel)
def J99 : List (Int ⊕ List Int) := J98 ++ [.inl 0]
theorem jl_99 : J99.length = 45 := by unfold J99; rw [List.length_append, jl_98]; rfl
def J100 : List (Int ⊕ List Int) := putJ J99 42 2 ((44 : Nat) : Int)
theorem jl_100 : J100.length = 45 := by unfold J100 putJ; rw [List.length_set, jl_99]
theorem je_100 : up2 (hOf J99) 42 2 ((44 : Nat) : Int) = hOf J100 := put_J (by decide +kernel)
def J101 : List (Int ⊕ List Int) := J100 ++ [.inl 0]
theorem jl_101 : J101.length = 46 := by unfold J101; rw [List.length_append, jl_100]; rfl
def J102 : List (Int ⊕ List Int) := putJ J101 42 3 ((45 : Nat) : Int)
theorem jl_102 : J102.length = 46 := by unfold J102 putJ; rw [List.length_set, jl_101]
theorem je_102 : up2 (hOf J101) 42 3 ((45 : Nat) : Int) = hOf J102 := put_J (by decide +kernel)
def J103 : List (Int ⊕ List Int) := putJ J102 41 0 ((42 : Nat) : Int)
theorem jl_103 : J103.length = 46 := by unfold J103 putJ; rw [List.length_set, jl_102]
theorem je_103 : up2 (hOf J102) 41 0 ((42 : Nat) : Int) = hOf J103 := put_J (by decide +kernel)
def J104 : List (Int ⊕ List Int) := J103 ++ [.inr (rsX0.map fun b => if b then -1 else 0)]
theorem jl_104 : J104.length = 47 := by unfold J104; rw [List.length_append, jl_103]; rfl
def J105 : List (Int ⊕ List Int) := [.inr [1, 21, (-1), (-1), (-1), (-1), (-1), (-1), (-1), (-1), (-1), (-1), 0], .inr [2, 6, 12, 17, 18, 19, 0, 1, 0, 20], .inr [0, 3, 4, 5], .inl 0, .inl 0, .inl 0, .inr [0, 7, 8, 9, 10, 11], .inl 0, .inl 0, .inl 0, .inl 0, .inl 0, .inr [0, 13, 14, 15, 16], .inl 0, .inl 0, .inl 0, .inl 0, .inl 0, .inl 0, .inl 0, .inl 0, .inr [22, 26, 32, 37, 38, 39, 0, 1, 0, 40], .inr [0, 23, 24, 25], .inl 0, .inl 0, .inl 0, .inr [0, 27, 28, 29, 30, 31], .inl 0, .inl 0, .inl 0, .inl 0, .inl 0, .inr [0, 33, 34, 35, 36], .inl 0, .inl 0, .inl 0, .inl 0, .inl 0, .inl 0, .inl 0, .inl 0, .inr [42, (-1), (-1), (-1), (-1), (-1), 0, 0, 0, (-1)], .inr [0, 43, 44, 45], .inl 0, .inl 0, .inl 0, .inr [0, (-1), (-1), (-1), (-1), (-1)]]
theorem jl_105 : J105.length = 47 := by decide +kernel
theorem je_105 : up2 (hOf J104) 46 0 (0) = hOf J105 := Eq.trans (put_J (l := J104) (a := 46) (k := 0) (x := (0)) (by decide +kernel)) (congrArg hOf (show putJ J104 46 0 (0) = J105 by decide +kernel))
def J106 : List (Int ⊕ List Int) := J105 ++ [.inl 0]
theorem jl_106 : J106.length = 48 := by unfold J106; rw [List.length_append, jl_105]; rfl
def J107 : List (Int ⊕ List Int) := putJ J106 46 1 ((47 : Nat) : Int)
theorem jl_107 : J107.length = 48 := by unfold J107 putJ; rw [List.length_set, jl_106]
theorem je_107 : up2 (hOf J106) 46 1 ((47 : Nat) : Int) = hOf J107 := put_J (by decide +kernel)
def J108 : List (Int ⊕ List Int) := J107 ++ [.inl 0]
theorem jl_108 : J108.length = 49 := by unfold J108; rw [List.length_append, jl_107]; rfl
def J109 : List (Int ⊕ List Int) := putJ J108 46 2 ((48 : Nat) : Int)
theorem jl_109 : J109.length = 49 := by unfold J109 putJ; rw [List.length_set, jl_108]
theorem je_109 : up2 (hOf J108) 46 2 ((48 : Nat) : Int) = hOf J109 := put_J (by decide +kernel)
def J110 : List (Int ⊕ List Int) := J109 ++ [.inl 0]
theorem jl_110 : J110.length = 50 := by unfold J110; rw [List.length_append, jl_109]; rfl
def J111 : List (Int ⊕ List Int) := putJ J110 46 3 ((49 : Nat) : Int)
theorem jl_111 : J111.length = 50 := by unfold J111 putJ; rw [List.length_set, jl_110]
theorem je_111 : up2 (hOf J110) 46 3 ((49 : Nat) : Int) = hOf J111 := put_J (by decide +kernel)
def J112 : List (Int ⊕ List Int) := J111 ++ [.inl 0]
theorem jl_112 : J112.length = 51 := by unfold J112; rw [List.length_append, jl_111]; rfl
def J113 : List (Int ⊕ List Int) := putJ J112 46 4 ((50 : Nat) : Int)
theorem jl_113 : J113.length = 51 := by unfold J113 putJ; rw [List.length_set, jl_112]
theorem je_113 : up2 (hOf J112) 46 4 ((50 : Nat) : Int) = hOf J113 := put_J (by decide +kernel)
def J114 : List (Int ⊕ List Int) := J113 ++ [.inl 0]
theorem jl_114 : J114.length = 52 := by unfold J114; rw [List.length_append, jl_113]; rfl
def J115 : List (Int ⊕ List Int) := putJ J114 46 5 ((51 : Nat) : Int)
theorem jl_115 : J115.length = 52 := by unfold J115 putJ; rw [List.length_set, jl_114]
theorem je_115 : up2 (hOf J114) 46 5 ((51 : Nat) : Int) = hOf J115 := put_J (by decide +kernel)
def J116 : List (Int ⊕ List Int) := putJ J115 41 1 ((46 : Nat) : Int)
theorem jl_116 : J116.length = 52 := by unfold J116 putJ; rw [List.length_set, jl_115]
theorem je_116 : up2 (hOf J115) 41 1 ((46 : Nat) : Int) = hOf J116 := put_J (by decide +kernel)
def J117 : List (Int ⊕ List Int) := J116 ++ [.inr (rsX4.map fun b => if b then -1 else 0)]
theorem jl_117 : J117.length = 53 := by unfold J117; rw [List.length_append, jl_116]; rfl
def J118 : List (Int ⊕ List Int) := [.inr [1, 21, (-1), (-1), (-1), (-1), (-1), (-1), (-1), (-1), (-1), (-1), 0], .inr [2, 6, 12, 17, 18, 19, 0, 1, 0, 20], .inr [0, 3, 4, 5], .inl 0, .inl 0, .inl 0, .inr [0, 7, 8, 9, 10, 11], .inl 0, .inl 0, .inl 0, .inl 0, .inl 0, .inr [0, 13, 14, 15, 16], .inl 0, .inl 0, .inl 0, .inl 0, .inl 0, .inl 0, .inl 0, .inl 0, .inr [22, 26, 32, 37, 38, 39, 0, 1, 0, 40], .inr [0, 23, 24, 25], .inl 0, .inl 0, .inl 0, .inr [0, 27, 28, 29, 30, 31], .inl 0, .inl 0, .inl 0, .inl 0, .inl 0, .inr [0, 33, 34, 35, 36], .inl 0, .inl 0, .inl 0, .inl 0, .inl 0, .inl 0, .inl 0, .inl 0, .inr [42, 46, (-1), (-1), (-1), (-1), 0, 0, 0, (-1)], .inr [0, 43, 44, 45], .inl 0, .inl 0, .inl 0, .inr [0, 47, 48, 49, 50, 51], .inl 0, .inl 0, .inl 0, .inl 0, .inl 0, .inr [0, (-1), (-1), (-1), (-1)]]
theorem jl_118 : J118.length = 53 := by decide +kernel
theorem je_118 : up2 (hOf J117) 52 0 (0) = hOf J118 := Eq.trans (put_J (l := J117) (a := 52) (k := 0) (x := (0)) (by decide +kernel)) (congrArg hOf (show putJ J117 52 0 (0) = J118 by decide +kernel))
def J119 : List (Int ⊕ List Int) := J118 ++ [.inl 0]
theorem jl_119 : J119.length = 54 := by unfold J119; rw [List.length_append, jl_118]; rfl
def J120 : List (Int ⊕ List Int) := putJ J119 52 1 ((53 : Nat) : Int)
theorem jl_120 : J120.length = 54 := by unfold J120 putJ; rw [List.length_set, jl_119]
theorem je_120 : up2 (hOf J119) 52 1 ((53 : Nat) : Int) = hOf J120 := put_J (by decide +kernel)
def J121 : List (Int ⊕ List Int) := J120 ++ [.inl 0]
theorem jl_121 : J121.length = 55 := by unfold J121; rw [List.length_append, jl_120]; rfl
def J122 : List (Int ⊕ List Int) := putJ J121 52 2 ((54 : Nat) : Int)
theorem jl_122 : J122.length = 55 := by unfold J122 putJ; rw [List.length_set, jl_121]
theorem je_122 : up2 (hOf J121) 52 2 ((54 : Nat) : Int) = hOf J122 := put_J (by decide +kernel)
def J123 : List (Int ⊕ List Int) := J122 ++ [.inl 0]
theorem jl_123 : J123.length = 56 := by unfold J123; rw [List.length_append, jl_122]; rfl
def J124 : List (Int ⊕ List Int) := putJ J123 52 3 ((55 : Nat) : Int)
theorem jl_124 : J124.length = 56 := by unfold J124 putJ; rw [List.length_set, jl_123]
theorem je_124 : up2 (hOf J123) 52 3 ((55 : Nat) : Int) = hOf J124 := put_J (by decide +kernel)
def J125 : List (Int ⊕ List Int) := J124 ++ [.inl 0]
theorem jl_125 : J125.length = 57 := by unfold J125; rw [List.length_append, jl_124]; rfl
def J126 : List (Int ⊕ List Int) := putJ J125 52 4 ((56 : Nat) : Int)
theorem jl_126 : J126.length = 57 := by unfold J126 putJ; rw [List.length_set, jl_125]
theorem je_126 : up2 (hOf J125) 52 4 ((56 : Nat) : Int) = hOf J126 := put_J (by decide +kernel)
def J127 : List (Int ⊕ List Int) := putJ J126 41 2 ((52 : Nat) : Int)
theorem jl_127 : J127.length = 57 := by unfold J127 putJ; rw [List.length_set, jl_126]
theorem je_127 : up2 (hOf J126) 41 2 ((52 : Nat) : Int) = hOf J127 := put_J (by decide +kernel)
def J128 : List (Int ⊕ List Int) := J127 ++ [.inl 0]
theorem jl_128 : J128.length = 58 := by unfold J128; rw [List.length_append, jl_127]; rfl
def J129 : List (Int ⊕ List Int) := putJ J128 41 3 ((57 : Nat) : Int)
theorem jl_129 : J129.length = 58 := by unfold J129 putJ; rw [List.length_set, jl_128]
theorem je_129 : up2 (hOf J128) 41 3 ((57 : Nat) : Int) = hOf J129 := put_J (by decide +kernel)
def J130 : List (Int ⊕ List Int) := J129 ++ [.inl 0]
theorem jl_130 : J130.length = 59 := by unfold J130; rw [List.length_append, jl_129]; rfl
def J131 : List (Int ⊕ List Int) := [.inr [1, 21, (-1), (-1), (-1), (-1), (-1), (-1), (-1), (-1), (-1), (-1), 0], .inr [2, 6, 12, 17, 18, 19, 0, 1, 0, 20], .inr [0, 3, 4, 5], .inl 0, .inl 0, .inl 0, .inr [0, 7, 8, 9, 10, 11], .inl 0, .inl 0, .inl 0, .inl 0, .inl 0, .inr [0, 13, 14, 15, 16], .inl 0, .inl 0, .inl 0, .inl 0, .inl 0, .inl 0, .inl 0, .inl 0, .inr [22, 26, 32, 37, 38, 39, 0, 1, 0, 40], .inr [0, 23, 24, 25], .inl 0, .inl 0, .inl 0, .inr [0, 27, 28, 29, 30, 31], .inl 0, .inl 0, .inl 0, .inl 0, .inl 0, .inr [0, 33, 34, 35, 36], .inl 0, .inl 0, .inl 0, .inl 0, .inl 0, .inl 0, .inl 0, .inl 0, .inr [42, 46, 52, 57, 58, (-1), 0, 0, 0, (-1)], .inr [0, 43, 44, 45], .inl 0, .inl 0, .inl 0, .inr [0, 47, 48, 49, 50, 51], .inl 0, .inl 0, .inl 0, .inl 0, .inl 0, .inr [0, 53, 54, 55, 56], .inl 0, .inl 0, .inl 0, .inl 0, .inl 0, .inl 0]
theorem jl_131 : J131.length = 59 := by decide +kernel
theorem je_131 : up2 (hOf J130) 41 4 ((58 : Nat) : Int) = hOf J131 := Eq.trans (put_J (l := J130) (a := 41) (k := 4) (x := ((58 : Nat) : Int)) (by decide +kernel)) (congrArg hOf (show putJ J130 41 4 ((58 : Nat) : Int) = J131 by decide +kernel))
def J132 : List (Int ⊕ List Int) := J131 ++ [.inl 0]
theorem jl_132 : J132.length = 60 := by unfold J132; rw [List.length_append, jl_131]; rfl
def J133 : List (Int ⊕ List Int) := putJ J132 41 5 ((59 : Nat) : Int)
theorem jl_133 : J133.length = 60 := by unfold J133 putJ; rw [List.length_set, jl_132]
theorem je_133 : up2 (hOf J132) 41 5 ((59 : Nat) : Int) = hOf J133 := put_J (by decide +kernel)
def J134 : List (Int ⊕ List Int) := putJ J133 41 6 (0)
theorem jl_134 : J134.length = 60 := by unfold J134 putJ; rw [List.length_set, jl_133]
theorem je_134 : up2 (hOf J133) 41 6 (0) = hOf J134 := put_J (by decide +kernel)
def J135 : List (Int ⊕ List Int) := putJ J134 41 7 (1)
theorem jl_135 : J135.length = 60 := by unfold J135 putJ; rw [List.length_set, jl_134]
theorem je_135 : up2 (hOf J134) 41 7 (1) = hOf J135 := put_J (by decide +kernel)
def J136 : List (Int ⊕ List Int) := putJ J135 41 8 (0)
theorem jl_136 : J136.length = 60 := by unfold J136 putJ; rw [List.length_set, jl_135]
theorem je_136 : up2 (hOf J135) 41 8 (0) = hOf J136 := put_J (by decide +kernel)
def J137 : List (Int ⊕ List Int) := J136 ++ [.inl 0]
theorem jl_137 : J137.length = 61 := by unfold J137; rw [List.length_append, jl_136]; rfl
def J138 : List (Int ⊕ List Int) := putJ J137 41 9 ((60 : Nat) : Int)
theorem jl_138 : J138.length = 61 := by unfold J138 putJ; rw [List.length_set, jl_137]
theorem je_138 : up2 (hOf J137) 41 9 ((60 : Nat) : Int) = hOf J138 := put_J (by decide +kernel)
def J139 : List (Int ⊕ List Int) := putJ J138 0 2 ((41 : Nat) : Int)
theorem jl_139 : J139.length = 61 := by unfold J139 putJ; rw [List.length_set, jl_138]
theorem je_139 : up2 (hOf J138) 0 2 ((41 : Nat) : Int) = hOf J139 := put_J (by decide +kernel)
def J140 : List (Int ⊕ List Int) := J139 ++ [.inr (rsX10.map fun b => if b then -1 else 0)]
theorem jl_140 : J140.length = 62 := by unfold J140; rw [List.length_append, jl_139]; rfl
def J141 : List (Int ⊕ List Int) := putJ J140 61 0 (0)
theorem jl_141 : J141.length = 62 := by unfold J141 putJ; rw [List.length_set, jl_140]
theorem je_141 : up2 (hOf J140) 61 0 (0) = hOf J141 := put_J (by decide +kernel)
def J142 : List (Int ⊕ List Int) := J141 ++ [.inl 0]
theorem jl_142 : J142.length = 63 := by unfold J142; rw [List.length_append, jl_141]; rfl
def J143 : List (Int ⊕ List Int) := putJ J142 61 1 ((62 : Nat) : Int)
theorem jl_143 : J143.length = 63 := by unfold J143 putJ; rw [List.length_set, jl_142]
theorem je_143 : up2 (hOf J142) 61 1 ((62 : Nat) : Int) = hOf J143 := put_J (by decide +kernel)
def J144 : List (Int ⊕ List Int) := [.inr [1, 21, 41, 61, (-1), (-1), (-1), (-1), (-1), (-1), (-1), (-1), 0], .inr [2, 6, 12, 17, 18, 19, 0, 1, 0, 20], .inr [0, 3, 4, 5], .inl 0, .inl 0, .inl 0, .inr [0, 7, 8, 9, 10, 11], .inl 0, .inl 0, .inl 0, .inl 0, .inl 0, .inr [0, 13, 14, 15, 16], .inl 0, .inl 0, .inl 0, .inl 0, .inl 0, .inl 0, .inl 0, .inl 0, .inr [22, 26, 32, 37, 38, 39, 0, 1, 0, 40], .inr [0, 23, 24, 25], .inl 0, .inl 0, .inl 0, .inr [0, 27, 28, 29, 30, 31], .inl 0, .inl 0, .inl 0, .inl 0, .inl 0, .inr [0, 33, 34, 35, 36], .inl 0, .inl 0, .inl 0, .inl 0, .inl 0, .inl 0, .inl 0, .inl 0, .inr [42, 46, 52, 57, 58, 59, 0, 1, 0, 60], .inr [0, 43, 44, 45], .inl 0, .inl 0, .inl 0, .inr [0, 47, 48, 49, 50, 51], .inl 0, .inl 0, .inl 0, .inl 0, .inl 0, .inr [0, 53, 54, 55, 56], .inl 0, .inl 0, .inl 0, .inl 0, .inl 0, .inl 0, .inl 0, .inl 0, .inr [0, 62], .inl 0]
theorem jl_144 : J144.length = 63 := by decide +kernel
theorem je_144 : up2 (hOf J143) 0 3 ((61 : Nat) : Int) = hOf J144 := Eq.trans (put_J (l := J143) (a := 0) (k := 3) (x := ((61 : Nat) : Int)) (by decide +kernel)) (congrArg hOf (show putJ J143 0 3 ((61 : Nat) : Int) = J144 by decide +kernel))
def J145 : List (Int ⊕ List Int) := J144 ++ [.inr (rsX10.map fun b => if b then -1 else 0)]
theorem jl_145 : J145.length = 64 := by unfold J145; rw [List.length_append, jl_144]; rfl
def J146 : List (Int ⊕ List Int) := putJ J145 63 0 (0)
theorem jl_146 : J146.length = 64 := by unfold J146 putJ; rw [List.length_set, jl_145]
theorem je_146 : up2 (hOf J145) 63 0 (0) = hOf J146 := put_J (by decide +kernel)
def J147 : List (Int ⊕ List Int) := J146 ++ [.inl 0]
theorem jl_147 : J147.length = 65 := by unfold J147; rw [List.length_append, jl_146]; rfl
def J148 : List (Int ⊕ List Int) := putJ J147 63 1 ((64 : Nat) : Int)
theorem jl_148 : J148.length = 65 := by unfold J148 putJ; rw [List.length_set, jl_147]
theorem je_148 : up2 (hOf J147) 63 1 ((64 : Nat) : Int) = hOf J148 := put_J (by decide +kernel)
def J149 : List (Int ⊕ List Int) := putJ J148 0 4 ((63 : Nat) : Int)
theorem jl_149 : J149.length = 65 := by unfold J149 putJ; rw [List.length_set, jl_148]
theorem je_149 : up2 (hOf J148) 0 4 ((63 : Nat) : Int) = hOf J149 := put_J (by decide +kernel)
def J150 : List (Int ⊕ List Int) := J149 ++ [.inr (rsX5.map fun b => if b then -1 else 0)]
theorem jl_150 : J150.length = 66 := by unfold J150; rw [List.length_append, jl_149]; rfl
def J151 : List (Int ⊕ List Int) := J150 ++ [.inl 0]
theorem jl_151 : J151.length = 67 := by unfold J151; rw [List.length_append, jl_150]; rfl
def J152 : List (Int ⊕ List Int) := putJ J151 65 0 ((66 : Nat) : Int)
theorem jl_152 : J152.length = 67 := by unfold J152 putJ; rw [List.length_set, jl_151]
theorem je_152 : up2 (hOf J151) 65 0 ((66 : Nat) : Int) = hOf J152 := put_J (by decide +kernel)
def J153 : List (Int ⊕ List Int) := putJ J152 65 1 (0)
theorem jl_153 : J153.length = 67 := by unfold J153 putJ; rw [List.length_set, jl_152]
theorem je_153 : up2 (hOf J152) 65 1 (0) = hOf J153 := put_J (by decide +kernel)
def J154 : List (Int ⊕ List Int) := putJ J153 65 2 (0)
theorem jl_154 : J154.length = 67 := by unfold J154 putJ; rw [List.length_set, jl_153]
theorem je_154 : up2 (hOf J153) 65 2 (0) = hOf J154 := put_J (by decide +kernel)
def J155 : List (Int ⊕ List Int) := putJ J154 65 3 (0)
theorem jl_155 : J155.length = 67 := by unfold J155 putJ; rw [List.length_set, jl_154]
theorem je_155 : up2 (hOf J154) 65 3 (0) = hOf J155 := put_J (by decide +kernel)
def J156 : List (Int ⊕ List Int) := putJ J155 65 4 (0)
theorem jl_156 : J156.length = 67 := by unfold J156 putJ; rw [List.length_set, jl_155]
theorem je_156 : up2 (hOf J155) 65 4 (0) = hOf J156 := put_J (by decide +kernel)
def J157 : List (Int ⊕ List Int) := [.inr [1, 21, 41, 61, 63, 65, (-1), (-1), (-1), (-1), (-1), (-1), 0], .inr [2, 6, 12, 17, 18, 19, 0, 1, 0, 20], .inr [0, 3, 4, 5], .inl 0, .inl 0, .inl 0, .inr [0, 7, 8, 9, 10, 11], .inl 0, .inl 0, .inl 0, .inl 0, .inl 0, .inr [0, 13, 14, 15, 16], .inl 0, .inl 0, .inl 0, .inl 0, .inl 0, .inl 0, .inl 0, .inl 0, .inr [22, 26, 32, 37, 38, 39, 0, 1, 0, 40], .inr [0, 23, 24, 25], .inl 0, .inl 0, .inl 0, .inr [0, 27, 28, 29, 30, 31], .inl 0, .inl 0, .inl 0, .inl 0, .inl 0, .inr [0, 33, 34, 35, 36], .inl 0, .inl 0, .inl 0, .inl 0, .inl 0, .inl 0, .inl 0, .inl 0, .inr [42, 46, 52, 57, 58, 59, 0, 1, 0, 60], .inr [0, 43, 44, 45], .inl 0, .inl 0, .inl 0, .inr [0, 47, 48, 49, 50, 51], .inl 0, .inl 0, .inl 0, .inl 0, .inl 0, .inr [0, 53, 54, 55, 56], .inl 0, .inl 0, .inl 0, .inl 0, .inl 0, .inl 0, .inl 0, .inl 0, .inr [0, 62], .inl 0, .inr [0, 64], .inl 0, .inr [66, 0, 0, 0, 0], .inl 0]
theorem jl_157 : J157.length = 67 := by decide +kernel
theorem je_157 : up2 (hOf J156) 0 5 ((65 : Nat) : Int) = hOf J157 := Eq.trans (put_J (l := J156) (a := 0) (k := 5) (x := ((65 : Nat) : Int)) (by decide +kernel)) (congrArg hOf (show putJ J156 0 5 ((65 : Nat) : Int) = J157 by decide +kernel))
def J158 : List (Int ⊕ List Int) := J157 ++ [.inr (rsX7.map fun b => if b then -1 else 0)]
theorem jl_158 : J158.length = 68 := by unfold J158; rw [List.length_append, jl_157]; rfl
def J159 : List (Int ⊕ List Int) := putJ J158 67 0 (-1)
theorem jl_159 : J159.length = 68 := by unfold J159 putJ; rw [List.length_set, jl_158]
theorem je_159 : up2 (hOf J158) 67 0 (-1) = hOf J159 := put_J (by decide +kernel)
def J160 : List (Int ⊕ List Int) := putJ J159 67 1 (0)
theorem jl_160 : J160.length = 68 := by unfold J160 putJ; rw [List.length_set, jl_159]
theorem je_160 : up2 (hOf J159) 67 1 (0) = hOf J160 := put_J (by decide +kernel)
def J161 : List (Int ⊕ List Int) := J160 ++ [.inl 0]
theorem jl_161 : J161.length = 69 := by unfold J161; rw [List.length_append, jl_160]; rfl
def J162 : List (Int ⊕ List Int) := putJ J161 67 2 ((68 : Nat) : Int)
theorem jl_162 : J162.length = 69 := by unfold J162 putJ; rw [List.length_set, jl_161]
theorem je_162 : up2 (hOf J161) 67 2 ((68 : Nat) : Int) = hOf J162 := put_J (by decide +kernel)
def J163 : List (Int ⊕ List Int) := putJ J162 67 3 (0)
theorem jl_163 : J163.length = 69 := by unfold J163 putJ; rw [List.length_set, jl_162]
theorem je_163 : up2 (hOf J162) 67 3 (0) = hOf J163 := put_J (by decide +kernel)
def J164 : List (Int ⊕ List Int) := J163 ++ [.inl 0]
theorem jl_164 : J164.length = 70 := by unfold J164; rw [List.length_append, jl_163]; rfl
def J165 : List (Int ⊕ List Int) := putJ J164 67 4 ((69 : Nat) : Int)
theorem jl_165 : J165.length = 70 := by unfold J165 putJ; rw [List.length_set, jl_164]
theorem je_165 : up2 (hOf J164) 67 4 ((69 : Nat) : Int) = hOf J165 := put_J (by decide +kernel)
def J166 : List (Int ⊕ List Int) := J165 ++ [.inl 0]
theorem jl_166 : J166.length = 71 := by unfold J166; rw [List.length_append, jl_165]; rfl
def J167 : List (Int ⊕ List Int) := putJ J166 67 5 ((70 : Nat) : Int)
theorem jl_167 : J167.length = 71 := by unfold J167 putJ; rw [List.length_set, jl_166]
theorem je_167 : up2 (hOf J166) 67 5 ((70 : Nat) : Int) = hOf J167 := put_J (by decide +kernel)
def J168 : List (Int ⊕ List Int) := putJ J167 0 6 ((67 : Nat) : Int)
theorem jl_168 : J168.length = 71 := by unfold J168 putJ; rw [List.length_set, jl_167]
theorem je_168 : up2 (hOf J167) 0 6 ((67 : Nat) : Int) = hOf J168 := put_J (by decide +kernel)
def J169 : List (Int ⊕ List Int) := J168 ++ [.inr (rsX3.map fun b => if b then -1 else 0)]
theorem jl_169 : J169.length = 72 := by unfold J169; rw [List.length_append, jl_168]; rfl
def J170 : List (Int ⊕ List Int) := [.inr [1, 21, 41, 61, 63, 65, 67, (-1), (-1), (-1), (-1), (-1), 0], .inr [2, 6, 12, 17, 18, 19, 0, 1, 0, 20], .inr [0, 3, 4, 5], .inl 0, .inl 0, .inl 0, .inr [0, 7, 8, 9, 10, 11], .inl 0, .inl 0, .inl 0, .inl 0, .inl 0, .inr [0, 13, 14, 15, 16], .inl 0, .inl 0, .inl 0, .inl 0, .inl 0, .inl 0, .inl 0, .inl 0, .inr [22, 26, 32, 37, 38, 39, 0, 1, 0, 40], .inr [0, 23, 24, 25], .inl 0, .inl 0, .inl 0, .inr [0, 27, 28, 29, 30, 31], .inl 0, .inl 0, .inl 0, .inl 0, .inl 0, .inr [0, 33, 34, 35, 36], .inl 0, .inl 0, .inl 0, .inl 0, .inl 0, .inl 0, .inl 0, .inl 0, .inr [42, 46, 52, 57, 58, 59, 0, 1, 0, 60], .inr [0, 43, 44, 45], .inl 0, .inl 0, .inl 0, .inr [0, 47, 48, 49, 50, 51], .inl 0, .inl 0, .inl 0, .inl 0, .inl 0, .inr [0, 53, 54, 55, 56], .inl 0, .inl 0, .inl 0, .inl 0, .inl 0, .inl 0, .inl 0, .inl 0, .inr [0, 62], .inl 0, .inr [0, 64], .inl 0, .inr [66, 0, 0, 0, 0], .inl 0, .inr [(-1), 0, 68, 0, 69, 70], .inl 0, .inl 0, .inl 0, .inr [0, (-1), (-1), (-1)]]
theorem jl_170 : J170.length = 72 := by decide +kernel
theorem je_170 : up2 (hOf J169) 71 0 (0) = hOf J170 := Eq.trans (put_J (l := J169) (a := 71) (k := 0) (x := (0)) (by decide +kernel)) (congrArg hOf (show putJ J169 71 0 (0) = J170 by decide +kernel))
def J171 : List (Int ⊕ List Int) := J170 ++ [.inl 0]
theorem jl_171 : J171.length = 73 := by unfold J171; rw [List.length_append, jl_170]; rfl
def J172 : List (Int ⊕ List Int) := putJ J171 71 1 ((72 : Nat) : Int)
theorem jl_172 : J172.length = 73 := by unfold J172 putJ; rw [List.length_set, jl_171]
theorem je_172 : up2 (hOf J171) 71 1 ((72 : Nat) : Int) = hOf J172 := put_J (by decide +kernel)
def J173 : List (Int ⊕ List Int) := J172 ++ [.inl 0]
theorem jl_173 : J173.length = 74 := by unfold J173; rw [List.length_append, jl_172]; rfl
def J174 : List (Int ⊕ List Int) := putJ J173 71 2 ((73 : Nat) : Int)
theorem jl_174 : J174.length = 74 := by unfold J174 putJ; rw [List.length_set, jl_173]
theorem je_174 : up2 (hOf J173) 71 2 ((73 : Nat) : Int) = hOf J174 := put_J (by decide +kernel)
def J175 : List (Int ⊕ List Int) := J174 ++ [.inl 0]
theorem jl_175 : J175.length = 75 := by unfold J175; rw [List.length_append, jl_174]; rfl
def J176 : List (Int ⊕ List Int) := putJ J175 71 3 ((74 : Nat) : Int)
theorem jl_176 : J176.length = 75 := by unfold J176 putJ; rw [List.length_set, jl_175]
theorem je_176 : up2 (hOf J175) 71 3 ((74 : Nat) : Int) = hOf J176 := put_J (by decide +kernel)
def J177 : List (Int ⊕ List Int) := putJ J176 0 7 ((71 : Nat) : Int)
theorem jl_177 : J177.length = 75 := by unfold J177 putJ; rw [List.length_set, jl_176]
theorem je_177 : up2 (hOf J176) 0 7 ((71 : Nat) : Int) = hOf J177 := put_J (by decide +kernel)
def J178 : List (Int ⊕ List Int) := J177 ++ [.inr (rsX8.map fun b => if b then -1 else 0)]
theorem jl_178 : J178.length = 76 := by unfold J178; rw [List.length_append, jl_177]; rfl
def J179 : List (Int ⊕ List Int) := putJ J178 75 0 (0)
theorem jl_179 : J179.length = 76 := by unfold J179 putJ; rw [List.length_set, jl_178]
theorem je_179 : up2 (hOf J178) 75 0 (0) = hOf J179 := put_J (by decide +kernel)
def J180 : List (Int ⊕ List Int) := J179 ++ [.inl 0]
theorem jl_180 : J180.length = 77 := by unfold J180; rw [List.length_append, jl_179]; rfl
def J181 : List (Int ⊕ List Int) := putJ J180 75 1 ((76 : Nat) : Int)
theorem jl_181 : J181.length = 77 := by unfold J181 putJ; rw [List.length_set, jl_180]
theorem je_181 : up2 (hOf J180) 75 1 ((76 : Nat) : Int) = hOf J181 := put_J (by decide +kernel)
def J182 : List (Int ⊕ List Int) := J181 ++ [.inl 0]
theorem jl_182 : J182.length = 78 := by unfold J182; rw [List.length_append, jl_181]; rfl
def J183 : List (Int ⊕ List Int) := [.inr [1, 21, 41, 61, 63, 65, 67, 71, (-1), (-1), (-1), (-1), 0], .inr [2, 6, 12, 17, 18, 19, 0, 1, 0, 20], .inr [0, 3, 4, 5], .inl 0, .inl 0, .inl 0, .inr [0, 7, 8, 9, 10, 11], .inl 0, .inl 0, .inl 0, .inl 0, .inl 0, .inr [0, 13, 14, 15, 16], .inl 0, .inl 0, .inl 0, .inl 0, .inl 0, .inl 0, .inl 0, .inl 0, .inr [22, 26, 32, 37, 38, 39, 0, 1, 0, 40], .inr [0, 23, 24, 25], .inl 0, .inl 0, .inl 0, .inr [0, 27, 28, 29, 30, 31], .inl 0, .inl 0, .inl 0, .inl 0, .inl 0, .inr [0, 33, 34, 35, 36], .inl 0, .inl 0, .inl 0, .inl 0, .inl 0, .inl 0, .inl 0, .inl 0, .inr [42, 46, 52, 57, 58, 59, 0, 1, 0, 60], .inr [0, 43, 44, 45], .inl 0, .inl 0, .inl 0, .inr [0, 47, 48, 49, 50, 51], .inl 0, .inl 0, .inl 0, .inl 0, .inl 0, .inr [0, 53, 54, 55, 56], .inl 0, .inl 0, .inl 0, .inl 0, .inl 0, .inl 0, .inl 0, .inl 0, .inr [0, 62], .inl 0, .inr [0, 64], .inl 0, .inr [66, 0, 0, 0, 0], .inl 0, .inr [(-1), 0, 68, 0, 69, 70], .inl 0, .inl 0, .inl 0, .inr [0, 72, 73, 74], .inl 0, .inl 0, .inl 0, .inr [0, 76, 77], .inl 0, .inl 0]
theorem jl_183 : J183.length = 78 := by decide +kernel
theorem je_183 : up2 (hOf J182) 75 2 ((77 : Nat) : Int) = hOf J183 := Eq.trans (put_J (l := J182) (a := 75) (k := 2) (x := ((77 : Nat) : Int)) (by decide +kernel)) (congrArg hOf (show putJ J182 75 2 ((77 : Nat) : Int) = J183 by decide +kernel))
def J184 : List (Int ⊕ List Int) := putJ J183 0 8 ((75 : Nat) : Int)
theorem jl_184 : J184.length = 78 := by unfold J184 putJ; rw [List.length_set, jl_183]
theorem je_184 : up2 (hOf J183) 0 8 ((75 : Nat) : Int) = hOf J184 := put_J (by decide +kernel)
def J185 : List (Int ⊕ List Int) := J184 ++ [.inr (rsX1.map fun b => if b then -1 else 0)]
theorem jl_185 : J185.length = 79 := by unfold J185; rw [List.length_append, jl_184]; rfl
def J186 : List (Int ⊕ List Int) := putJ J185 78 0 (0)
theorem jl_186 : J186.length = 79 := by unfold J186 putJ; rw [List.length_set, jl_185]
theorem je_186 : up2 (hOf J185) 78 0 (0) = hOf J186 := put_J (by decide +kernel)
def J187 : List (Int ⊕ List Int) := J186 ++ [.inl 0]
theorem jl_187 : J187.length = 80 := by unfold J187; rw [List.length_append, jl_186]; rfl
def J188 : List (Int ⊕ List Int) := putJ J187 78 1 ((79 : Nat) : Int)
theorem jl_188 : J188.length = 80 := by unfold J188 putJ; rw [List.length_set, jl_187]
theorem je_188 : up2 (hOf J187) 78 1 ((79 : Nat) : Int) = hOf J188 := put_J (by decide +kernel)
def J189 : List (Int ⊕ List Int) := J188 ++ [.inl 0]
theorem jl_189 : J189.length = 81 := by unfold J189; rw [List.length_append, jl_188]; rfl
def J190 : List (Int ⊕ List Int) := putJ J189 78 2 ((80 : Nat) : Int)
theorem jl_190 : J190.length = 81 := by unfold J190 putJ; rw [List.length_set, jl_189]
theorem je_190 : up2 (hOf J189) 78 2 ((80 : Nat) : Int) = hOf J190 := put_J (by decide +kernel)
def J191 : List (Int ⊕ List Int) := J190 ++ [.inl 0]
theorem jl_191 : J191.length = 82 := by unfold J191; rw [List.length_append, jl_190]; rfl
def J192 : List (Int ⊕ List Int) := putJ J191 78 3 ((81 : Nat) : Int)
theorem jl_192 : J192.length = 82 := by unfold J192 putJ; rw [List.length_set, jl_191]
theorem je_192 : up2 (hOf J191) 78 3 ((81 : Nat) : Int) = hOf J192 := put_J (by decide +kernel)
def J193 : List (Int ⊕ List Int) := putJ J192 0 9 ((78 : Nat) : Int)
theorem jl_193 : J193.length = 82 := by unfold J193 putJ; rw [List.length_set, jl_192]
theorem je_193 : up2 (hOf J192) 0 9 ((78 : Nat) : Int) = hOf J193 := put_J (by decide +kernel)
def J194 : List (Int ⊕ List Int) := J193 ++ [.inr (rsX2.map fun b => if b then -1 else 0)]
theorem jl_194 : J194.length = 83 := by unfold J194; rw [List.length_append, jl_193]; rfl
def J195 : List (Int ⊕ List Int) := putJ J194 82 0 (0)
theorem jl_195 : J195.length = 83 := by unfold J195 putJ; rw [List.length_set, jl_194]
theorem je_195 : up2 (hOf J194) 82 0 (0) = hOf J195 := put_J (by decide +kernel)
def J196 : List (Int ⊕ List Int) := [.inr [1, 21, 41, 61, 63, 65, 67, 71, 75, 78, (-1), (-1), 0], .inr [2, 6, 12, 17, 18, 19, 0, 1, 0, 20], .inr [0, 3, 4, 5], .inl 0, .inl 0, .inl 0, .inr [0, 7, 8, 9, 10, 11], .inl 0, .inl 0, .inl 0, .inl 0, .inl 0, .inr [0, 13, 14, 15, 16], .inl 0, .inl 0, .inl 0, .inl 0, .inl 0, .inl 0, .inl 0, .inl 0, .inr [22, 26, 32, 37, 38, 39, 0, 1, 0, 40], .inr [0, 23, 24, 25], .inl 0, .inl 0, .inl 0, .inr [0, 27, 28, 29, 30, 31], .inl 0, .inl 0, .inl 0, .inl 0, .inl 0, .inr [0, 33, 34, 35, 36], .inl 0, .inl 0, .inl 0, .inl 0, .inl 0, .inl 0, .inl 0, .inl 0, .inr [42, 46, 52, 57, 58, 59, 0, 1, 0, 60], .inr [0, 43, 44, 45], .inl 0, .inl 0, .inl 0, .inr [0, 47, 48, 49, 50, 51], .inl 0, .inl 0, .inl 0, .inl 0, .inl 0, .inr [0, 53, 54, 55, 56], .inl 0, .inl 0, .inl 0, .inl 0, .inl 0, .inl 0, .inl 0, .inl 0, .inr [0, 62], .inl 0, .inr [0, 64], .inl 0, .inr [66, 0, 0, 0, 0], .inl 0, .inr [(-1), 0, 68, 0, 69, 70], .inl 0, .inl 0, .inl 0, .inr [0, 72, 73, 74], .inl 0, .inl 0, .inl 0, .inr [0, 76, 77], .inl 0, .inl 0, .inr [0, 79, 80, 81], .inl 0, .inl 0, .inl 0, .inr [0, 0, (-1), (-1), (-1), (-1), (-1), (-1), (-1)]]
theorem jl_196 : J196.length = 83 := by decide +kernel
theorem je_196 : up2 (hOf J195) 82 1 (0) = hOf J196 := Eq.trans (put_J (l := J195) (a := 82) (k := 1) (x := (0)) (by decide +kernel)) (congrArg hOf (show putJ J195 82 1 (0) = J196 by decide +kernel))
def J197 : List (Int ⊕ List Int) := J196 ++ [.inl 0]
theorem jl_197 : J197.length = 84 := by unfold J197; rw [List.length_append, jl_196]; rfl
def J198 : List (Int ⊕ List Int) := putJ J197 82 2 ((83 : Nat) : Int)
theorem jl_198 : J198.length = 84 := by unfold J198 putJ; rw [List.length_set, jl_197]
theorem je_198 : up2 (hOf J197) 82 2 ((83 : Nat) : Int) = hOf J198 := put_J (by decide +kernel)
def J199 : List (Int ⊕ List Int) := J198 ++ [.inl 0]
theorem jl_199 : J199.length = 85 := by unfold J199; rw [List.length_append, jl_198]; rfl
def J200 : List (Int ⊕ List Int) := putJ J199 82 3 ((84 : Nat) : Int)
theorem jl_200 : J200.length = 85 := by unfold J200 putJ; rw [List.length_set, jl_199]
theorem je_200 : up2 (hOf J199) 82 3 ((84 : Nat) : Int) = hOf J200 := put_J (by decide +kernel)
def J201 : List (Int ⊕ List Int) := J200 ++ [.inl 0]
theorem jl_201 : J201.length = 86 := by unfold J201; rw [List.length_append, jl_200]; rfl
def J202 : List (Int ⊕ List Int) := putJ J201 82 4 ((85 : Nat) : Int)
theorem jl_202 : J202.length = 86 := by unfold J202 putJ; rw [List.length_set, jl_201]
theorem je_202 : up2 (hOf J201) 82 4 ((85 : Nat) : Int) = hOf J202 := put_J (by decide +kernel)
def J203 : List (Int ⊕ List Int) := J202 ++ [.inl 0]
theorem jl_203 : J203.length = 87 := by unfold J203; rw [List.length_append, jl_202]; rfl
def J204 : List (Int ⊕ List Int) := putJ J203 82 5 ((86 : Nat) : Int)
theorem jl_204 : J204.length = 87 := by unfold J204 putJ; rw [List.length_set, jl_203]
theorem je_204 : up2 (hOf J203) 82 5 ((86 : Nat) : Int) = hOf J204 := put_J (by decide +kernel)
def J205 : List (Int ⊕ List Int) := J204 ++ [.inl 0]
theorem jl_205 : J205.length = 88 := by unfold J205; rw [List.length_append, jl_204]; rfl
def J206 : List (Int ⊕ List Int) := putJ J205 82 6 ((87 : Nat) : Int)
theorem jl_206 : J206.length = 88 := by unfold J206 putJ; rw [List.length_set, jl_205]
theorem je_206 : up2 (hOf J205) 82 6 ((87 : Nat) : Int) = hOf J206 := put_J (by decide +kernel)
def J207 : List (Int ⊕ List Int) := J206 ++ [.inl 0]
theorem jl_207 : J207.length = 89 := by unfold J207; rw [List.length_append, jl_206]; rfl
def J208 : List (Int ⊕ List Int) := putJ J207 82 7 ((88 : Nat) : Int)
theorem jl_208 : J208.length = 89 := by unfold J208 putJ; rw [List.length_set, jl_207]
theorem je_208 : up2 (hOf J207) 82 7 ((88 : Nat) : Int) = hOf J208 := put_J (by decide +kernel)
def J209 : List (Int ⊕ List Int) := J208 ++ [.inl 0]
theorem jl_209 : J209.length = 90 := by unfold J209; rw [List.length_append, jl_208]; rfl
def J210 : List (Int ⊕ List Int) := [.inr [1, 21, 41, 61, 63, 65, 67, 71, 75, 78, (-1), (-1), 0], .inr [2, 6, 12, 17, 18, 19, 0, 1, 0, 20], .inr [0, 3, 4, 5], .inl 0, .inl 0, .inl 0, .inr [0, 7, 8, 9, 10, 11], .inl 0, .inl 0, .inl 0, .inl 0, .inl 0, .inr [0, 13, 14, 15, 16], .inl 0, .inl 0, .inl 0, .inl 0, .inl 0, .inl 0, .inl 0, .inl 0, .inr [22, 26, 32, 37, 38, 39, 0, 1, 0, 40], .inr [0, 23, 24, 25], .inl 0, .inl 0, .inl 0, .inr [0, 27, 28, 29, 30, 31], .inl 0, .inl 0, .inl 0, .inl 0, .inl 0, .inr [0, 33, 34, 35, 36], .inl 0, .inl 0, .inl 0, .inl 0, .inl 0, .inl 0, .inl 0, .inl 0, .inr [42, 46, 52, 57, 58, 59, 0, 1, 0, 60], .inr [0, 43, 44, 45], .inl 0, .inl 0, .inl 0, .inr [0, 47, 48, 49, 50, 51], .inl 0, .inl 0, .inl 0, .inl 0, .inl 0, .inr [0, 53, 54, 55, 56], .inl 0, .inl 0, .inl 0, .inl 0, .inl 0, .inl 0, .inl 0, .inl 0, .inr [0, 62], .inl 0, .inr [0, 64], .inl 0, .inr [66, 0, 0, 0, 0], .inl 0, .inr [(-1), 0, 68, 0, 69, 70], .inl 0, .inl 0, .inl 0, .inr [0, 72, 73, 74], .inl 0, .inl 0, .inl 0, .inr [0, 76, 77], .inl 0, .inl 0, .inr [0, 79, 80, 81], .inl 0, .inl 0, .inl 0, .inr [0, 0, 83, 84, 85, 86, 87, 88, 89], .inl 0, .inl 0, .inl 0, .inl 0, .inl 0, .inl 0, .inl 0]
theorem jl_210 : J210.length = 90 := by decide +kernel
theorem je_210 : up2 (hOf J209) 82 8 ((89 : Nat) : Int) = hOf J210 := Eq.trans (put_J (l := J209) (a := 82) (k := 8) (x := ((89 : Nat) : Int)) (by decide +kernel)) (congrArg hOf (show putJ J209 82 8 ((89 : Nat) : Int) = J210 by decide +kernel))
def J211 : List (Int ⊕ List Int) := putJ J210 0 10 ((82 : Nat) : Int)
theorem jl_211 : J211.length = 90 := by unfold J211 putJ; rw [List.length_set, jl_210]
theorem je_211 : up2 (hOf J210) 0 10 ((82 : Nat) : Int) = hOf J211 := put_J (by decide +kernel)
def J212 : List (Int ⊕ List Int) := J211 ++ [.inr (rsX2.map fun b => if b then -1 else 0)]
theorem jl_212 : J212.length = 91 := by unfold J212; rw [List.length_append, jl_211]; rfl
def J213 : List (Int ⊕ List Int) := putJ J212 90 0 (0)
theorem jl_213 : J213.length = 91 := by unfold J213 putJ; rw [List.length_set, jl_212]
theorem je_213 : up2 (hOf J212) 90 0 (0) = hOf J213 := put_J (by decide +kernel)
def J214 : List (Int ⊕ List Int) := putJ J213 90 1 (0)
theorem jl_214 : J214.length = 91 := by unfold J214 putJ; rw [List.length_set, jl_213]
theorem je_214 : up2 (hOf J213) 90 1 (0) = hOf J214 := put_J (by decide +kernel)
def J215 : List (Int ⊕ List Int) := J214 ++ [.inl 0]
theorem jl_215 : J215.length = 92 := by unfold J215; rw [List.length_append, jl_214]; rfl
def J216 : List (Int ⊕ List Int) := putJ J215 90 2 ((91 : Nat) : Int)
theorem jl_216 : J216.length = 92 := by unfold J216 putJ; rw [List.length_set, jl_215]
theorem je_216 : up2 (hOf J215) 90 2 ((91 : Nat) : Int) = hOf J216 := put_J (by decide +kernel)
def J217 : List (Int ⊕ List Int) := J216 ++ [.inl 0]
theorem jl_217 : J217.length = 93 := by unfold J217; rw [List.length_append, jl_216]; rfl
def J218 : List (Int ⊕ List Int) := putJ J217 90 3 ((92 : Nat) : Int)
theorem jl_218 : J218.length = 93 := by unfold J218 putJ; rw [List.length_set, jl_217]
theorem je_218 : up2 (hOf J217) 90 3 ((92 : Nat) : Int) = hOf J218 := put_J (by decide +kernel)
def J219 : List (Int ⊕ List Int) := J218 ++ [.inl 0]
theorem jl_219 : J219.length = 94 := by unfold J219; rw [List.length_append, jl_218]; rfl
def J220 : List (Int ⊕ List Int) := putJ J219 90 4 ((93 : Nat) : Int)
theorem jl_220 : J220.length = 94 := by unfold J220 putJ; rw [List.length_set, jl_219]
theorem je_220 : up2 (hOf J219) 90 4 ((93 : Nat) : Int) = hOf J220 := put_J (by decide +kernel)
def J221 : List (Int ⊕ List Int) := J220 ++ [.inl 0]
theorem jl_221 : J221.length = 95 := by unfold J221; rw [List.length_append, jl_220]; rfl
def J222 : List (Int ⊕ List Int) := putJ J221 90 5 ((94 : Nat) : Int)
theorem jl_222 : J222.length = 95 := by unfold J222 putJ; rw [List.length_set, jl_221]
theorem je_222 : up2 (hOf J221) 90 5 ((94 : Nat) : Int) = hOf J222 := put_J (by decide +kernel)
def J223 : List (Int ⊕ List Int) := J222 ++ [.inl 0]
theorem jl_223 : J223.length = 96 := by unfold J223; rw [List.length_append, jl_222]; rfl
def J224 : List (Int ⊕ List Int) := [.inr [1, 21, 41, 61, 63, 65, 67, 71, 75, 78, 82, (-1), 0], .inr [2, 6, 12, 17, 18, 19, 0, 1, 0, 20], .inr [0, 3, 4, 5], .inl 0, .inl 0, .inl 0, .inr [0, 7, 8, 9, 10, 11], .inl 0, .inl 0, .inl 0, .inl 0, .inl 0, .inr [0, 13, 14, 15, 16], .inl 0, .inl 0, .inl 0, .inl 0, .inl 0, .inl 0, .inl 0, .inl 0, .inr [22, 26, 32, 37, 38, 39, 0, 1, 0, 40], .inr [0, 23, 24, 25], .inl 0, .inl 0, .inl 0, .inr [0, 27, 28, 29, 30, 31], .inl 0, .inl 0, .inl 0, .inl 0, .inl 0, .inr [0, 33, 34, 35, 36], .inl 0, .inl 0, .inl 0, .inl 0, .inl 0, .inl 0, .inl 0, .inl 0, .inr [42, 46, 52, 57, 58, 59, 0, 1, 0, 60], .inr [0, 43, 44, 45], .inl 0, .inl 0, .inl 0, .inr [0, 47, 48, 49, 50, 51], .inl 0, .inl 0, .inl 0, .inl 0, .inl 0, .inr [0, 53, 54, 55, 56], .inl 0, .inl 0, .inl 0, .inl 0, .inl 0, .inl 0, .inl 0, .inl 0, .inr [0, 62], .inl 0, .inr [0, 64], .inl 0, .inr [66, 0, 0, 0, 0], .inl 0, .inr [(-1), 0, 68, 0, 69, 70], .inl 0, .inl 0, .inl 0, .inr [0, 72, 73, 74], .inl 0, .inl 0, .inl 0, .inr [0, 76, 77], .inl 0, .inl 0, .inr [0, 79, 80, 81], .inl 0, .inl 0, .inl 0, .inr [0, 0, 83, 84, 85, 86, 87, 88, 89], .inl 0, .inl 0, .inl 0, .inl 0, .inl 0, .inl 0, .inl 0, .inr [0, 0, 91, 92, 93, 94, 95, (-1), (-1)], .inl 0, .inl 0, .inl 0, .inl 0, .inl 0]
theorem jl_224 : J224.length = 96 := by decide +kernel
theorem je_224 : up2 (hOf J223) 90 6 ((95 : Nat) : Int) = hOf J224 := Eq.trans (put_J (l := J223) (a := 90) (k := 6) (x := ((95 : Nat) : Int)) (by decide +kernel)) (congrArg hOf (show putJ J223 90 6 ((95 : Nat) : Int) = J224 by decide +kernel))
def J225 : List (Int ⊕ List Int) := J224 ++ [.inl 0]
theorem jl_225 : J225.length = 97 := by unfold J225; rw [List.length_append, jl_224]; rfl
def J226 : List (Int ⊕ List Int) := putJ J225 90 7 ((96 : Nat) : Int)
theorem jl_226 : J226.length = 97 := by unfold J226 putJ; rw [List.length_set, jl_225]
theorem je_226 : up2 (hOf J225) 90 7 ((96 : Nat) : Int) = hOf J226 := put_J (by decide +kernel)
def J227 : List (Int ⊕ List Int) := J226 ++ [.inl 0]
theorem jl_227 : J227.length = 98 := by unfold J227; rw [List.length_append, jl_226]; rfl
def J228 : List (Int ⊕ List Int) := putJ J227 90 8 ((97 : Nat) : Int)
theorem jl_228 : J228.length = 98 := by unfold J228 putJ; rw [List.length_set, jl_227]
theorem je_228 : up2 (hOf J227) 90 8 ((97 : Nat) : Int) = hOf J228 := put_J (by decide +kernel)
def J229 : List (Int ⊕ List Int) := putJ J228 0 11 ((90 : Nat) : Int)
theorem jl_229 : J229.length = 98 := by unfold J229 putJ; rw [List.length_set, jl_228]
theorem je_229 : up2 (hOf J228) 0 11 ((90 : Nat) : Int) = hOf J229 := put_J (by decide +kernel)
def J230 : List (Int ⊕ List Int) := putJ J229 0 12 (0)
theorem jl_230 : J230.length = 98 := by unfold J230 putJ; rw [List.length_set, jl_229]
theorem je_230 : up2 (hOf J229) 0 12 (0) = hOf J230 := put_J (by decide +kernel)
def J231 : List (Int ⊕ List Int) := J230 ++ [.inr (rsX12.map fun b => if b then -1 else 0)]
theorem jl_231 : J231.length = 99 := by unfold J231; rw [List.length_append, jl_230]; rfl
def J232 : List (Int ⊕ List Int) := J231 ++ [.inl 0]
theorem jl_232 : J232.length = 100 := by unfold J232; rw [List.length_append, jl_231]; rfl
def J233 : List (Int ⊕ List Int) := putJ J232 98 0 ((99 : Nat) : Int)
theorem jl_233 : J233.length = 100 := by unfold J233 putJ; rw [List.length_set, jl_232]
theorem je_233 : up2 (hOf J232) 98 0 ((99 : Nat) : Int) = hOf J233 := put_J (by decide +kernel)
def J234 : List (Int ⊕ List Int) := putJ J233 98 6 (1)
theorem jl_234 : J234.length = 100 := by unfold J234 putJ; rw [List.length_set, jl_233]
theorem je_234 : up2 (hOf J233) 98 6 (1) = hOf J234 := put_J (by decide +kernel)
def J235 : List (Int ⊕ List Int) := J234 ++ [.inl 0]
theorem jl_235 : J235.length = 101 := by unfold J235; rw [List.length_append, jl_234]; rfl
def J236 : List (Int ⊕ List Int) := putJ J235 98 8 ((100 : Nat) : Int)
theorem jl_236 : J236.length = 101 := by unfold J236 putJ; rw [List.length_set, jl_235]
theorem je_236 : up2 (hOf J235) 98 8 ((100 : Nat) : Int) = hOf J236 := put_J (by decide +kernel)
def J237 : List (Int ⊕ List Int) := J236 ++ [.inl 0]
theorem jl_237 : J237.length = 102 := by unfold J237; rw [List.length_append, jl_236]; rfl
def J238 : List (Int ⊕ List Int) := [.inr [1, 21, 41, 61, 63, 65, 67, 71, 75, 78, 82, 90, 0], .inr [2, 6, 12, 17, 18, 19, 0, 1, 0, 20], .inr [0, 3, 4, 5], .inl 0, .inl 0, .inl 0, .inr [0, 7, 8, 9, 10, 11], .inl 0, .inl 0, .inl 0, .inl 0, .inl 0, .inr [0, 13, 14, 15, 16], .inl 0, .inl 0, .inl 0, .inl 0, .inl 0, .inl 0, .inl 0, .inl 0, .inr [22, 26, 32, 37, 38, 39, 0, 1, 0, 40], .inr [0, 23, 24, 25], .inl 0, .inl 0, .inl 0, .inr [0, 27, 28, 29, 30, 31], .inl 0, .inl 0, .inl 0, .inl 0, .inl 0, .inr [0, 33, 34, 35, 36], .inl 0, .inl 0, .inl 0, .inl 0, .inl 0, .inl 0, .inl 0, .inl 0, .inr [42, 46, 52, 57, 58, 59, 0, 1, 0, 60], .inr [0, 43, 44, 45], .inl 0, .inl 0, .inl 0, .inr [0, 47, 48, 49, 50, 51], .inl 0, .inl 0, .inl 0, .inl 0, .inl 0, .inr [0, 53, 54, 55, 56], .inl 0, .inl 0, .inl 0, .inl 0, .inl 0, .inl 0, .inl 0, .inl 0, .inr [0, 62], .inl 0, .inr [0, 64], .inl 0, .inr [66, 0, 0, 0, 0], .inl 0, .inr [(-1), 0, 68, 0, 69, 70], .inl 0, .inl 0, .inl 0, .inr [0, 72, 73, 74], .inl 0, .inl 0, .inl 0, .inr [0, 76, 77], .inl 0, .inl 0, .inr [0, 79, 80, 81], .inl 0, .inl 0, .inl 0, .inr [0, 0, 83, 84, 85, 86, 87, 88, 89], .inl 0, .inl 0, .inl 0, .inl 0, .inl 0, .inl 0, .inl 0, .inr [0, 0, 91, 92, 93, 94, 95, 96, 97], .inl 0, .inl 0, .inl 0, .inl 0, .inl 0, .inl 0, .inl 0, .inr [99, 0, 0, 0, 0, 0, 1, 0, 100, 101, (-1), (-1), (-1), (-1), (-1), (-1), (-1), (-1), (-1), (-1), (-1), (-1), (-1), 0, (-1), (-1), (-1), (-1), (-1), (-1), (-1), (-1), (-1), (-1), (-1), (-1), 0, 0, 0, 0, 0, 0, 0, 0, 0, (-1), 0, 0, 0, (-1), (-1), 0, 0, 0, 0, (-1), (-1), (-1), (-1), (-1), (-1), (-1), (-1), (-1), (-1), (-1), (-1), (-1), (-1), (-1), (-1), (-1), 0, 0, 0, (-1), (-1), (-1), (-1), 0], .inl 0, .inl 0, .inl 0]
theorem jl_238 : J238.length = 102 := by decide +kernel
theorem je_238 : up2 (hOf J237) 98 9 ((101 : Nat) : Int) = hOf J238 := Eq.trans (put_J (l := J237) (a := 98) (k := 9) (x := ((101 : Nat) : Int)) (by decide +kernel)) (congrArg hOf (show putJ J237 98 9 ((101 : Nat) : Int) = J238 by decide +kernel))
def J239 : List (Int ⊕ List Int) := J238 ++ [.inl 0]
theorem jl_239 : J239.length = 103 := by unfold J239; rw [List.length_append, jl_238]; rfl
def J240 : List (Int ⊕ List Int) := putJ J239 98 10 ((102 : Nat) : Int)
theorem jl_240 : J240.length = 103 := by unfold J240 putJ; rw [List.length_set, jl_239]
theorem je_240 : up2 (hOf J239) 98 10 ((102 : Nat) : Int) = hOf J240 := put_J (by decide +kernel)
def J241 : List (Int ⊕ List Int) := J240 ++ [.inl 0]
theorem jl_241 : J241.length = 104 := by unfold J241; rw [List.length_append, jl_240]; rfl
def J242 : List (Int ⊕ List Int) := putJ J241 98 11 ((103 : Nat) : Int)
theorem jl_242 : J242.length = 104 := by unfold J242 putJ; rw [List.length_set, jl_241]
theorem je_242 : up2 (hOf J241) 98 11 ((103 : Nat) : Int) = hOf J242 := put_J (by decide +kernel)
def J243 : List (Int ⊕ List Int) := J242 ++ [.inl 0]
theorem jl_243 : J243.length = 105 := by unfold J243; rw [List.length_append, jl_242]; rfl
def J244 : List (Int ⊕ List Int) := putJ J243 98 12 ((104 : Nat) : Int)
theorem jl_244 : J244.length = 105 := by unfold J244 putJ; rw [List.length_set, jl_243]
theorem je_244 : up2 (hOf J243) 98 12 ((104 : Nat) : Int) = hOf J244 := put_J (by decide +kernel)
def J245 : List (Int ⊕ List Int) := J244 ++ [.inl 0]
theorem jl_245 : J245.length = 106 := by unfold J245; rw [List.length_append, jl_244]; rfl
def J246 : List (Int ⊕ List Int) := putJ J245 98 13 ((105 : Nat) : Int)
theorem jl_246 : J246.length = 106 := by unfold J246 putJ; rw [List.length_set, jl_245]
theorem je_246 : up2 (hOf J245) 98 13 ((105 : Nat) : Int) = hOf J246 := put_J (by decide +kernel)
def J247 : List (Int ⊕ List Int) := J246 ++ [.inl 0]
theorem jl_247 : J247.length = 107 := by unfold J247; rw [List.length_append, jl_246]; rfl
def J248 : List (Int ⊕ List Int) := putJ J247 98 14 ((106 : Nat) : Int)
theorem jl_248 : J248.length = 107 := by unfold J248 putJ; rw [List.length_set, jl_247]
theorem je_248 : up2 (hOf J247) 98 14 ((106 : Nat) : Int) = hOf J248 := put_J (by decide +kernel)
def J249 : List (Int ⊕ List Int) := J248 ++ [.inl 0]
theorem jl_249 : J249.length = 108 := by unfold J249; rw [List.length_append, jl_248]; rfl
def J250 : List (Int ⊕ List Int) := putJ J249 98 15 ((107 : Nat) : Int)
theorem jl_250 : J250.length = 108 := by unfold J250 putJ; rw [List.length_set, jl_249]
theorem je_250 : up2 (hOf J249) 98 15 ((107 : Nat) : Int) = hOf J250 := put_J (by decide +kernel)
def J251 : List (Int ⊕ List Int) := J250 ++ [.inl 0]
theorem jl_251 : J251.length = 109 := by unfold J251; rw [List.length_append, jl_250]; rfl
def J252 : List (Int ⊕ List Int) := [.inr [1, 21, 41, 61, 63, 65, 67, 71, 75, 78, 82, 90, 0], .inr [2, 6, 12, 17, 18, 19, 0, 1, 0, 20], .inr [0, 3, 4, 5], .inl 0, .inl 0, .inl 0, .inr [0, 7, 8, 9, 10, 11], .inl 0, .inl 0, .inl 0, .inl 0, .inl 0, .inr [0, 13, 14, 15, 16], .inl 0, .inl 0, .inl 0, .inl 0, .inl 0, .inl 0, .inl 0, .inl 0, .inr [22, 26, 32, 37, 38, 39, 0, 1, 0, 40], .inr [0, 23, 24, 25], .inl 0, .inl 0, .inl 0, .inr [0, 27, 28, 29, 30, 31], .inl 0, .inl 0, .inl 0, .inl 0, .inl 0, .inr [0, 33, 34, 35, 36], .inl 0, .inl 0, .inl 0, .inl 0, .inl 0, .inl 0, .inl 0, .inl 0, .inr [42, 46, 52, 57, 58, 59, 0, 1, 0, 60], .inr [0, 43, 44, 45], .inl 0, .inl 0, .inl 0, .inr [0, 47, 48, 49, 50, 51], .inl 0, .inl 0, .inl 0, .inl 0, .inl 0, .inr [0, 53, 54, 55, 56], .inl 0, .inl 0, .inl 0, .inl 0, .inl 0, .inl 0, .inl 0, .inl 0, .inr [0, 62], .inl 0, .inr [0, 64], .inl 0, .inr [66, 0, 0, 0, 0], .inl 0, .inr [(-1), 0, 68, 0, 69, 70], .inl 0, .inl 0, .inl 0, .inr [0, 72, 73, 74], .inl 0, .inl 0, .inl 0, .inr [0, 76, 77], .inl 0, .inl 0, .inr [0, 79, 80, 81], .inl 0, .inl 0, .inl 0, .inr [0, 0, 83, 84, 85, 86, 87, 88, 89], .inl 0, .inl 0, .inl 0, .inl 0, .inl 0, .inl 0, .inl 0, .inr [0, 0, 91, 92, 93, 94, 95, 96, 97], .inl 0, .inl 0, .inl 0, .inl 0, .inl 0, .inl 0, .inl 0, .inr [99, 0, 0, 0, 0, 0, 1, 0, 100, 101, 102, 103, 104, 105, 106, 107, 108, (-1), (-1), (-1), (-1), (-1), (-1), 0, (-1), (-1), (-1), (-1), (-1), (-1), (-1), (-1), (-1), (-1), (-1), (-1), 0, 0, 0, 0, 0, 0, 0, 0, 0, (-1), 0, 0, 0, (-1), (-1), 0, 0, 0, 0, (-1), (-1), (-1), (-1), (-1), (-1), (-1), (-1), (-1), (-1), (-1), (-1), (-1), (-1), (-1), (-1), (-1), 0, 0, 0, (-1), (-1), (-1), (-1), 0], .inl 0, .inl 0, .inl 0, .inl 0, .inl 0, .inl 0, .inl 0, .inl 0, .inl 0, .inl 0]
theorem jl_252 : J252.length = 109 := by decide +kernel
theorem je_252 : up2 (hOf J251) 98 16 ((108 : Nat) : Int) = hOf J252 := Eq.trans (put_J (l := J251) (a := 98) (k := 16) (x := ((108 : Nat) : Int)) (by decide +kernel)) (congrArg hOf (show putJ J251 98 16 ((108 : Nat) : Int) = J252 by decide +kernel))
def J253 : List (Int ⊕ List Int) := J252 ++ [.inl 0]
theorem jl_253 : J253.length = 110 := by unfold J253; rw [List.length_append, jl_252]; rfl
def J254 : List (Int ⊕ List Int) := putJ J253 98 17 ((109 : Nat) : Int)
theorem jl_254 : J254.length = 110 := by unfold J254 putJ; rw [List.length_set, jl_253]
theorem je_254 : up2 (hOf J253) 98 17 ((109 : Nat) : Int) = hOf J254 := put_J (by decide +kernel)
def J255 : List (Int ⊕ List Int) := J254 ++ [.inl 0]
theorem jl_255 : J255.length = 111 := by unfold J255; rw [List.length_append, jl_254]; rfl
def J256 : List (Int ⊕ List Int) := putJ J255 98 18 ((110 : Nat) : Int)
theorem jl_256 : J256.length = 111 := by unfold J256 putJ; rw [List.length_set, jl_255]
theorem je_256 : up2 (hOf J255) 98 18 ((110 : Nat) : Int) = hOf J256 := put_J (by decide +kernel)
def J257 : List (Int ⊕ List Int) := J256 ++ [.inl 0]
theorem jl_257 : J257.length = 112 := by unfold J257; rw [List.length_append, jl_256]; rfl
def J258 : List (Int ⊕ List Int) := putJ J257 98 19 ((111 : Nat) : Int)
theorem jl_258 : J258.length = 112 := by unfold J258 putJ; rw [List.length_set, jl_257]
theorem je_258 : up2 (hOf J257) 98 19 ((111 : Nat) : Int) = hOf J258 := put_J (by decide +kernel)
def J259 : List (Int ⊕ List Int) := J258 ++ [.inl 0]
theorem jl_259 : J259.length = 113 := by unfold J259; rw [List.length_append, jl_258]; rfl
def J260 : List (Int ⊕ List Int) := putJ J259 98 20 ((112 : Nat) : Int)
theorem jl_260 : J260.length = 113 := by unfold J260 putJ; rw [List.length_set, jl_259]
theorem je_260 : up2 (hOf J259) 98 20 ((112 : Nat) : Int) = hOf J260 := put_J (by decide +kernel)
def J261 : List (Int ⊕ List Int) := J260 ++ [.inl 0]
theorem jl_261 : J261.length = 114 := by unfold J261; rw [List.length_append, jl_260]; rfl
def J262 : List (Int ⊕ List Int) := putJ J261 98 21 ((113 : Nat) : Int)
theorem jl_262 : J262.length = 114 := by unfold J262 putJ; rw [List.length_set, jl_261]
theorem je_262 : up2 (hOf J261) 98 21 ((113 : Nat) : Int) = hOf J262 := put_J (by decide +kernel)
def J263 : List (Int ⊕ List Int) := J262 ++ [.inl 0]
theorem jl_263 : J263.length = 115 := by unfold J263; rw [List.length_append, jl_262]; rfl
def J264 : List (Int ⊕ List Int) := putJ J263 98 22 ((114 : Nat) : Int)
theorem jl_264 : J264.length = 115 := by unfold J264 putJ; rw [List.length_set, jl_263]
theorem je_264 : up2 (hOf J263) 98 22 ((114 : Nat) : Int) = hOf J264 := put_J (by decide +kernel)
def J265 : List (Int ⊕ List Int) := J264 ++ [.inl 0]
theorem jl_265 : J265.length = 116 := by unfold J265; rw [List.length_append, jl_264]; rfl
def J266 : List (Int ⊕ List Int) := [.inr [1, 21, 41, 61, 63, 65, 67, 71, 75, 78, 82, 90, 0], .inr [2, 6, 12, 17, 18, 19, 0, 1, 0, 20], .inr [0, 3, 4, 5], .inl 0, .inl 0, .inl 0, .inr [0, 7, 8, 9, 10, 11], .inl 0, .inl 0, .inl 0, .inl 0, .inl 0, .inr [0, 13, 14, 15, 16], .inl 0, .inl 0, .inl 0, .inl 0, .inl 0, .inl 0, .inl 0, .inl 0, .inr [22, 26, 32, 37, 38, 39, 0, 1, 0, 40], .inr [0, 23, 24, 25], .inl 0, .inl 0, .inl 0, .inr [0, 27, 28, 29, 30, 31], .inl 0, .inl 0, .inl 0, .inl 0, .inl 0, .inr [0, 33, 34, 35, 36], .inl 0, .inl 0, .inl 0, .inl 0, .inl 0, .inl 0, .inl 0, .inl 0, .inr [42, 46, 52, 57, 58, 59, 0, 1, 0, 60], .inr [0, 43, 44, 45], .inl 0, .inl 0, .inl 0, .inr [0, 47, 48, 49, 50, 51], .inl 0, .inl 0, .inl 0, .inl 0, .inl 0, .inr [0, 53, 54, 55, 56], .inl 0, .inl 0, .inl 0, .inl 0, .inl 0, .inl 0, .inl 0, .inl 0, .inr [0, 62], .inl 0, .inr [0, 64], .inl 0, .inr [66, 0, 0, 0, 0], .inl 0, .inr [(-1), 0, 68, 0, 69, 70], .inl 0, .inl 0, .inl 0, .inr [0, 72, 73, 74], .inl 0, .inl 0, .inl 0, .inr [0, 76, 77], .inl 0, .inl 0, .inr [0, 79, 80, 81], .inl 0, .inl 0, .inl 0, .inr [0, 0, 83, 84, 85, 86, 87, 88, 89], .inl 0, .inl 0, .inl 0, .inl 0, .inl 0, .inl 0, .inl 0, .inr [0, 0, 91, 92, 93, 94, 95, 96, 97], .inl 0, .inl 0, .inl 0, .inl 0, .inl 0, .inl 0, .inl 0, .inr [99, 0, 0, 0, 0, 0, 1, 0, 100, 101, 102, 103, 104, 105, 106, 107, 108, 109, 110, 111, 112, 113, 114, 0, 115, (-1), (-1), (-1), (-1), (-1), (-1), (-1), (-1), (-1), (-1), (-1), 0, 0, 0, 0, 0, 0, 0, 0, 0, (-1), 0, 0, 0, (-1), (-1), 0, 0, 0, 0, (-1), (-1), (-1), (-1), (-1), (-1), (-1), (-1), (-1), (-1), (-1), (-1), (-1), (-1), (-1), (-1), (-1), 0, 0, 0, (-1), (-1), (-1), (-1), 0], .inl 0, .inl 0, .inl 0, .inl 0, .inl 0, .inl 0, .inl 0, .inl 0, .inl 0, .inl 0, .inl 0, .inl 0, .inl 0, .inl 0, .inl 0, .inl 0, .inl 0]
theorem jl_266 : J266.length = 116 := by decide +kernel
theorem je_266 : up2 (hOf J265) 98 24 ((115 : Nat) : Int) = hOf J266 := Eq.trans (put_J (l := J265) (a := 98) (k := 24) (x := ((115 : Nat) : Int)) (by decide +kernel)) (congrArg hOf (show putJ J265 98 24 ((115 : Nat) : Int) = J266 by decide +kernel))
def J267 : List (Int ⊕ List Int) := J266 ++ [.inl 0]
theorem jl_267 : J267.length = 117 := by unfold J267; rw [List.length_append, jl_266]; rfl
def J268 : List (Int ⊕ List Int) := putJ J267 98 25 ((116 : Nat) : Int)
theorem jl_268 : J268.length = 117 := by unfold J268 putJ; rw [List.length_set, jl_267]
theorem je_268 : up2 (hOf J267) 98 25 ((116 : Nat) : Int) = hOf J268 := put_J (by decide +kernel)
def J269 : List (Int ⊕ List Int) := J268 ++ [.inl 0]
theorem jl_269 : J269.length = 118 := by unfold J269; rw [List.length_append, jl_268]; rfl
def J270 : List (Int ⊕ List Int) := putJ J269 98 26 ((117 : Nat) : Int)
theorem jl_270 : J270.length = 118 := by unfold J270 putJ; rw [List.length_set, jl_269]
theorem je_270 : up2 (hOf J269) 98 26 ((117 : Nat) : Int) = hOf J270 := put_J (by decide +kernel)
def J271 : List (Int ⊕ List Int) := J270 ++ [.inl 0]
theorem jl_271 : J271.length = 119 := by unfold J271; rw [List.length_append, jl_270]; rfl
def J272 : List (Int ⊕ List Int) := putJ J271 98 27 ((118 : Nat) : Int)
theorem jl_272 : J272.length = 119 := by unfold J272 putJ; rw [List.length_set, jl_271]
theorem je_272 : up2 (hOf J271) 98 27 ((118 : Nat) : Int) = hOf J272 := put_J (by decide +kernel)
def J273 : List (Int ⊕ List Int) := J272 ++ [.inl 0]
theorem jl_273 : J273.length = 120 := by unfold J273; rw [List.length_append, jl_272]; rfl
def J274 : List (Int ⊕ List Int) := putJ J273 98 28 ((119 : Nat) : Int)
theorem jl_274 : J274.length = 120 := by unfold J274 putJ; rw [List.length_set, jl_273]
theorem je_274 : up2 (hOf J273) 98 28 ((119 : Nat) : Int) = hOf J274 := put_J (by decide +kernel)
def J275 : List (Int ⊕ List Int) := J274 ++ [.inl 0]
theorem jl_275 : J275.length = 121 := by unfold J275; rw [List.length_append, jl_274]; rfl
def J276 : List (Int ⊕ List Int) := putJ J275 98 29 ((120 : Nat) : Int)
theorem jl_276 : J276.length = 121 := by unfold J276 putJ; rw [List.length_set, jl_275]
theorem je_276 : up2 (hOf J275) 98 29 ((120 : Nat) : Int) = hOf J276 := put_J (by decide +kernel)
def J277 : List (Int ⊕ List Int) := J276 ++ [.inl 0]
theorem jl_277 : J277.length = 122 := by unfold J277; rw [List.length_append, jl_276]; rfl
def J278 : List (Int ⊕ List Int) := putJ J277 98 30 ((121 : Nat) : Int)
theorem jl_278 : J278.length = 122 := by unfold J278 putJ; rw [List.length_set, jl_277]
theorem je_278 : up2 (hOf J277) 98 30 ((121 : Nat) : Int) = hOf J278 := put_J (by decide +kernel)
def J279 : List (Int ⊕ List Int) := J278 ++ [.inl 0]
theorem jl_279 : J279.length = 123 := by unfold J279; rw [List.length_append, jl_278]; rfl
def J280 : List (Int ⊕ List Int) := [.inr [1, 21, 41, 61, 63, 65, 67, 71, 75, 78, 82, 90, 0], .inr [2, 6, 12, 17, 18, 19, 0, 1, 0, 20], .inr [0, 3, 4, 5], .inl 0, .inl 0, .inl 0, .inr [0, 7, 8, 9, 10, 11], .inl 0, .inl 0, .inl 0, .inl 0, .inl 0, .inr [0, 13, 14, 15, 16], .inl 0, .inl 0, .inl 0, .inl 0, .inl 0, .inl 0, .inl 0, .inl 0, .inr [22, 26, 32, 37, 38, 39, 0, 1, 0, 40], .inr [0, 23, 24, 25], .inl 0, .inl 0, .inl 0, .inr [0, 27, 28, 29, 30, 31], .inl 0, .inl 0, .inl 0, .inl 0, .inl 0, .inr [0, 33, 34, 35, 36], .inl 0, .inl 0, .inl 0, .inl 0, .inl 0, .inl 0, .inl 0, .inl 0, .inr [42, 46, 52, 57, 58, 59, 0, 1, 0, 60], .inr [0, 43, 44, 45], .inl 0, .inl 0, .inl 0, .inr [0, 47, 48, 49, 50, 51], .inl 0, .inl 0, .inl 0, .inl 0, .inl 0, .inr [0, 53, 54, 55, 56], .inl 0, .inl 0, .inl 0, .inl 0, .inl 0, .inl 0, .inl 0, .inl 0, .inr [0, 62], .inl 0, .inr [0, 64], .inl 0, .inr [66, 0, 0, 0, 0], .inl 0, .inr [(-1), 0, 68, 0, 69, 70], .inl 0, .inl 0, .inl 0, .inr [0, 72, 73, 74], .inl 0, .inl 0, .inl 0, .inr [0, 76, 77], .inl 0, .inl 0, .inr [0, 79, 80, 81], .inl 0, .inl 0, .inl 0, .inr [0, 0, 83, 84, 85, 86, 87, 88, 89], .inl 0, .inl 0, .inl 0, .inl 0, .inl 0, .inl 0, .inl 0, .inr [0, 0, 91, 92, 93, 94, 95, 96, 97], .inl 0, .inl 0, .inl 0, .inl 0, .inl 0, .inl 0, .inl 0, .inr [99, 0, 0, 0, 0, 0, 1, 0, 100, 101, 102, 103, 104, 105, 106, 107, 108, 109, 110, 111, 112, 113, 114, 0, 115, 116, 117, 118, 119, 120, 121, 122, (-1), (-1), (-1), (-1), 0, 0, 0, 0, 0, 0, 0, 0, 0, (-1), 0, 0, 0, (-1), (-1), 0, 0, 0, 0, (-1), (-1), (-1), (-1), (-1), (-1), (-1), (-1), (-1), (-1), (-1), (-1), (-1), (-1), (-1), (-1), (-1), 0, 0, 0, (-1), (-1), (-1), (-1), 0], .inl 0, .inl 0, .inl 0, .inl 0, .inl 0, .inl 0, .inl 0, .inl 0, .inl 0, .inl 0, .inl 0, .inl 0, .inl 0, .inl 0, .inl 0, .inl 0, .inl 0, .inl 0, .inl 0, .inl 0, .inl 0, .inl 0, .inl 0, .inl 0]
theorem jl_280 : J280.length = 123 := by decide +kernel
theorem je_280 : up2 (hOf J279) 98 31 ((122 : Nat) : Int) = hOf J280 := Eq.trans (put_J (l := J279) (a := 98) (k := 31) (x := ((122 : Nat) : Int)) (by decide +kernel)) (congrArg hOf (show putJ J279 98 31 ((122 : Nat) : Int) = J280 by decide +kernel))
def J281 : List (Int ⊕ List Int) := J280 ++ [.inl 0]
theorem jl_281 : J281.length = 124 := by unfold J281; rw [List.length_append, jl_280]; rfl
def J282 : List (Int ⊕ List Int) := putJ J281 98 32 ((123 : Nat) : Int)
theorem jl_282 : J282.length = 124 := by unfold J282 putJ; rw [List.length_set, jl_281]
theorem je_282 : up2 (hOf J281) 98 32 ((123 : Nat) : Int) = hOf J282 := put_J (by decide +kernel)
def J283 : List (Int ⊕ List Int) := J282 ++ [.inl 0]
theorem jl_283 : J283.length = 125 := by unfold J283; rw [List.length_append, jl_282]; rfl
def J284 : List (Int ⊕ List Int) := putJ J283 98 33 ((124 : Nat) : Int)
theorem jl_284 : J284.length = 125 := by unfold J284 putJ; rw [List.length_set, jl_283]
theorem je_284 : up2 (hOf J283) 98 33 ((124 : Nat) : Int) = hOf J284 := put_J (by decide +kernel)
def J285 : List (Int ⊕ List Int) := J284 ++ [.inl 0]
theorem jl_285 : J285.length = 126 := by unfold J285; rw [List.length_append, jl_284]; rfl
def J286 : List (Int ⊕ List Int) := putJ J285 98 34 ((125 : Nat) : Int)
theorem jl_286 : J286.length = 126 := by unfold J286 putJ; rw [List.length_set, jl_285]
theorem je_286 : up2 (hOf J285) 98 34 ((125 : Nat) : Int) = hOf J286 := put_J (by decide +kernel)
def J287 : List (Int ⊕ List Int) := J286 ++ [.inl 0]
theorem jl_287 : J287.length = 127 := by unfold J287; rw [List.length_append, jl_286]; rfl
def J288 : List (Int ⊕ List Int) := putJ J287 98 35 ((126 : Nat) : Int)
theorem jl_288 : J288.length = 127 := by unfold J288 putJ; rw [List.length_set, jl_287]
theorem je_288 : up2 (hOf J287) 98 35 ((126 : Nat) : Int) = hOf J288 := put_J (by decide +kernel)
def J289 : List (Int ⊕ List Int) := J288 ++ [.inl 0]
theorem jl_289 : J289.length = 128 := by unfold J289; rw [List.length_append, jl_288]; rfl
def J290 : List (Int ⊕ List Int) := putJ J289 98 45 ((127 : Nat) : Int)
theorem jl_290 : J290.length = 128 := by unfold J290 putJ; rw [List.length_set, jl_289]
theorem je_290 : up2 (hOf J289) 98 45 ((127 : Nat) : Int) = hOf J290 := put_J (by decide +kernel)
def J291 : List (Int ⊕ List Int) := J290 ++ [.inl 0]
theorem jl_291 : J291.length = 129 := by unfold J291; rw [List.length_append, jl_290]; rfl
def J292 : List (Int ⊕ List Int) := putJ J291 98 49 ((128 : Nat) : Int)
theorem jl_292 : J292.length = 129 := by unfold J292 putJ; rw [List.length_set, jl_291]
theorem je_292 : up2 (hOf J291) 98 49 ((128 : Nat) : Int) = hOf J292 := put_J (by decide +kernel)
def J293 : List (Int ⊕ List Int) := J292 ++ [.inl 0]
theorem jl_293 : J293.length = 130 := by unfold J293; rw [List.length_append, jl_292]; rfl
def J294 : List (Int ⊕ List Int) := [.inr [1, 21, 41, 61, 63, 65, 67, 71, 75, 78, 82, 90, 0], .inr [2, 6, 12, 17, 18, 19, 0, 1, 0, 20], .inr [0, 3, 4, 5], .inl 0, .inl 0, .inl 0, .inr [0, 7, 8, 9, 10, 11], .inl 0, .inl 0, .inl 0, .inl 0, .inl 0, .inr [0, 13, 14, 15, 16], .inl 0, .inl 0, .inl 0, .inl 0, .inl 0, .inl 0, .inl 0, .inl 0, .inr [22, 26, 32, 37, 38, 39, 0, 1, 0, 40], .inr [0, 23, 24, 25], .inl 0, .inl 0, .inl 0, .inr [0, 27, 28, 29, 30, 31], .inl 0, .inl 0, .inl 0, .inl 0, .inl 0, .inr [0, 33, 34, 35, 36], .inl 0, .inl 0, .inl 0, .inl 0, .inl 0, .inl 0, .inl 0, .inl 0, .inr [42, 46, 52, 57, 58, 59, 0, 1, 0, 60], .inr [0, 43, 44, 45], .inl 0, .inl 0, .inl 0, .inr [0, 47, 48, 49, 50, 51], .inl 0, .inl 0, .inl 0, .inl 0, .inl 0, .inr [0, 53, 54, 55, 56], .inl 0, .inl 0, .inl 0, .inl 0, .inl 0, .inl 0, .inl 0, .inl 0, .inr [0, 62], .inl 0, .inr [0, 64], .inl 0, .inr [66, 0, 0, 0, 0], .inl 0, .inr [(-1), 0, 68, 0, 69, 70], .inl 0, .inl 0, .inl 0, .inr [0, 72, 73, 74], .inl 0, .inl 0, .inl 0, .inr [0, 76, 77], .inl 0, .inl 0, .inr [0, 79, 80, 81], .inl 0, .inl 0, .inl 0, .inr [0, 0, 83, 84, 85, 86, 87, 88, 89], .inl 0, .inl 0, .inl 0, .inl 0, .inl 0, .inl 0, .inl 0, .inr [0, 0, 91, 92, 93, 94, 95, 96, 97], .inl 0, .inl 0, .inl 0, .inl 0, .inl 0, .inl 0, .inl 0, .inr [99, 0, 0, 0, 0, 0, 1, 0, 100, 101, 102, 103, 104, 105, 106, 107, 108, 109, 110, 111, 112, 113, 114, 0, 115, 116, 117, 118, 119, 120, 121, 122, 123, 124, 125, 126, 0, 0, 0, 0, 0, 0, 0, 0, 0, 127, 0, 0, 0, 128, 129, 0, 0, 0, 0, (-1), (-1), (-1), (-1), (-1), (-1), (-1), (-1), (-1), (-1), (-1), (-1), (-1), (-1), (-1), (-1), (-1), 0, 0, 0, (-1), (-1), (-1), (-1), 0], .inl 0, .inl 0, .inl 0, .inl 0, .inl 0, .inl 0, .inl 0, .inl 0, .inl 0, .inl 0, .inl 0, .inl 0, .inl 0, .inl 0, .inl 0, .inl 0, .inl 0, .inl 0, .inl 0, .inl 0, .inl 0, .inl 0, .inl 0, .inl 0, .inl 0, .inl 0, .inl 0, .inl 0, .inl 0, .inl 0, .inl 0]
theorem jl_294 : J294.length = 130 := by decide +kernel
theorem je_294 : up2 (hOf J293) 98 50 ((129 : Nat) : Int) = hOf J294 := Eq.trans (put_J (l := J293) (a := 98) (k := 50) (x := ((129 : Nat) : Int)) (by decide +kernel)) (congrArg hOf (show putJ J293 98 50 ((129 : Nat) : Int) = J294 by decide +kernel))
def J295 : List (Int ⊕ List Int) := J294 ++ [.inl 0]
theorem jl_295 : J295.length = 131 := by unfold J295; rw [List.length_append, jl_294]; rfl
def J296 : List (Int ⊕ List Int) := putJ J295 98 55 ((130 : Nat) : Int)
theorem jl_296 : J296.length = 131 := by unfold J296 putJ; rw [List.length_set, jl_295]
theorem je_296 : up2 (hOf J295) 98 55 ((130 : Nat) : Int) = hOf J296 := put_J (by decide +kernel)
def J297 : List (Int ⊕ List Int) := J296 ++ [.inl 0]
theorem jl_297 : J297.length = 132 := by unfold J297; rw [List.length_append, jl_296]; rfl
def J298 : List (Int ⊕ List Int) := putJ J297 98 56 ((131 : Nat) : Int)
theorem jl_298 : J298.length = 132 := by unfold J298 putJ; rw [List.length_set, jl_297]
theorem je_298 : up2 (hOf J297) 98 56 ((131 : Nat) : Int) = hOf J298 := put_J (by decide +kernel)
def J299 : List (Int ⊕ List Int) := J298 ++ [.inl 0]
theorem jl_299 : J299.length = 133 := by unfold J299; rw [List.length_append, jl_298]; rfl
def J300 : List (Int ⊕ List Int) := putJ J299 98 57 ((132 : Nat) : Int)
theorem jl_300 : J300.length = 133 := by unfold J300 putJ; rw [List.length_set, jl_299]
theorem je_300 : up2 (hOf J299) 98 57 ((132 : Nat) : Int) = hOf J300 := put_J (by decide +kernel)
def J301 : List (Int ⊕ List Int) := J300 ++ [.inl 0]
theorem jl_301 : J301.length = 134 := by unfold J301; rw [List.length_append, jl_300]; rfl
def J302 : List (Int ⊕ List Int) := putJ J301 98 58 ((133 : Nat) : Int)
theorem jl_302 : J302.length = 134 := by unfold J302 putJ; rw [List.length_set, jl_301]
theorem je_302 : up2 (hOf J301) 98 58 ((133 : Nat) : Int) = hOf J302 := put_J (by decide +kernel)
def J303 : List (Int ⊕ List Int) := J302 ++ [.inl 0]
theorem jl_303 : J303.length = 135 := by unfold J303; rw [List.length_append, jl_302]; rfl
def J304 : List (Int ⊕ List Int) := putJ J303 98 59 ((134 : Nat) : Int)
theorem jl_304 : J304.length = 135 := by unfold J304 putJ; rw [List.length_set, jl_303]
theorem je_304 : up2 (hOf J303) 98 59 ((134 : Nat) : Int) = hOf J304 := put_J (by decide +kernel)
def J305 : List (Int ⊕ List Int) := J304 ++ [.inl 0]
theorem jl_305 : J305.length = 136 := by unfold J305; rw [List.length_append, jl_304]; rfl
def J306 : List (Int ⊕ List Int) := putJ J305 98 60 ((135 : Nat) : Int)
theorem jl_306 : J306.length = 136 := by unfold J306 putJ; rw [List.length_set, jl_305]
theorem je_306 : up2 (hOf J305) 98 60 ((135 : Nat) : Int) = hOf J306 := put_J (by decide +kernel)
def J307 : List (Int ⊕ List Int) := J306 ++ [.inl 0]
theorem jl_307 : J307.length = 137 := by unfold J307; rw [List.length_append, jl_306]; rfl
def J308 : List (Int ⊕ List Int) := [.inr [1, 21, 41, 61, 63, 65, 67, 71, 75, 78, 82, 90, 0], .inr [2, 6, 12, 17, 18, 19, 0, 1, 0, 20], .inr [0, 3, 4, 5], .inl 0, .inl 0, .inl 0, .inr [0, 7, 8, 9, 10, 11], .inl 0, .inl 0, .inl 0, .inl 0, .inl 0, .inr [0, 13, 14, 15, 16], .inl 0, .inl 0, .inl 0, .inl 0, .inl 0, .inl 0, .inl 0, .inl 0, .inr [22, 26, 32, 37, 38, 39, 0, 1, 0, 40], .inr [0, 23, 24, 25], .inl 0, .inl 0, .inl 0, .inr [0, 27, 28, 29, 30, 31], .inl 0, .inl 0, .inl 0, .inl 0, .inl 0, .inr [0, 33, 34, 35, 36], .inl 0, .inl 0, .inl 0, .inl 0, .inl 0, .inl 0, .inl 0, .inl 0, .inr [42, 46, 52, 57, 58, 59, 0, 1, 0, 60], .inr [0, 43, 44, 45], .inl 0, .inl 0, .inl 0, .inr [0, 47, 48, 49, 50, 51], .inl 0, .inl 0, .inl 0, .inl 0, .inl 0, .inr [0, 53, 54, 55, 56], .inl 0, .inl 0, .inl 0, .inl 0, .inl 0, .inl 0, .inl 0, .inl 0, .inr [0, 62], .inl 0, .inr [0, 64], .inl 0, .inr [66, 0, 0, 0, 0], .inl 0, .inr [(-1), 0, 68, 0, 69, 70], .inl 0, .inl 0, .inl 0, .inr [0, 72, 73, 74], .inl 0, .inl 0, .inl 0, .inr [0, 76, 77], .inl 0, .inl 0, .inr [0, 79, 80, 81], .inl 0, .inl 0, .inl 0, .inr [0, 0, 83, 84, 85, 86, 87, 88, 89], .inl 0, .inl 0, .inl 0, .inl 0, .inl 0, .inl 0, .inl 0, .inr [0, 0, 91, 92, 93, 94, 95, 96, 97], .inl 0, .inl 0, .inl 0, .inl 0, .inl 0, .inl 0, .inl 0, .inr [99, 0, 0, 0, 0, 0, 1, 0, 100, 101, 102, 103, 104, 105, 106, 107, 108, 109, 110, 111, 112, 113, 114, 0, 115, 116, 117, 118, 119, 120, 121, 122, 123, 124, 125, 126, 0, 0, 0, 0, 0, 0, 0, 0, 0, 127, 0, 0, 0, 128, 129, 0, 0, 0, 0, 130, 131, 132, 133, 134, 135, 136, (-1), (-1), (-1), (-1), (-1), (-1), (-1), (-1), (-1), (-1), 0, 0, 0, (-1), (-1), (-1), (-1), 0], .inl 0, .inl 0, .inl 0, .inl 0, .inl 0, .inl 0, .inl 0, .inl 0, .inl 0, .inl 0, .inl 0, .inl 0, .inl 0, .inl 0, .inl 0, .inl 0, .inl 0, .inl 0, .inl 0, .inl 0, .inl 0, .inl 0, .inl 0, .inl 0, .inl 0, .inl 0, .inl 0, .inl 0, .inl 0, .inl 0, .inl 0, .inl 0, .inl 0, .inl 0, .inl 0, .inl 0, .inl 0, .inl 0]
theorem jl_308 : J308.length = 137 := by decide +kernel
theorem je_308 : up2 (hOf J307) 98 61 ((136 : Nat) : Int) = hOf J308 := Eq.trans (put_J (l := J307) (a := 98) (k := 61) (x := ((136 : Nat) : Int)) (by decide +kernel)) (congrArg hOf (show putJ J307 98 61 ((136 : Nat) : Int) = J308 by decide +kernel))
def J309 : List (Int ⊕ List Int) := J308 ++ [.inl 0]
theorem jl_309 : J309.length = 138 := by unfold J309; rw [List.length_append, jl_308]; rfl
def J310 : List (Int ⊕ List Int) := putJ J309 98 62 ((137 : Nat) : Int)
theorem jl_310 : J310.length = 138 := by unfold J310 putJ; rw [List.length_set, jl_309]
theorem je_310 : up2 (hOf J309) 98 62 ((137 : Nat) : Int) = hOf J310 := put_J (by decide +kernel)
def J311 : List (Int ⊕ List Int) := J310 ++ [.inl 0]
theorem jl_311 : J311.length = 139 := by unfold J311; rw [List.length_append, jl_310]; rfl
def J312 : List (Int ⊕ List Int) := putJ J311 98 63 ((138 : Nat) : Int)
theorem jl_312 : J312.length = 139 := by unfold J312 putJ; rw [List.length_set, jl_311]
theorem je_312 : up2 (hOf J311) 98 63 ((138 : Nat) : Int) = hOf J312 := put_J (by decide +kernel)
def J313 : List (Int ⊕ List Int) := J312 ++ [.inl 0]
theorem jl_313 : J313.length = 140 := by unfold J313; rw [List.length_append, jl_312]; rfl
def J314 : List (Int ⊕ List Int) := putJ J313 98 64 ((139 : Nat) : Int)
theorem jl_314 : J314.length = 140 := by unfold J314 putJ; rw [List.length_set, jl_313]
theorem je_314 : up2 (hOf J313) 98 64 ((139 : Nat) : Int) = hOf J314 := put_J (by decide +kernel)
def J315 : List (Int ⊕ List Int) := J314 ++ [.inl 0]
theorem jl_315 : J315.length = 141 := by unfold J315; rw [List.length_append, jl_314]; rfl
def J316 : List (Int ⊕ List Int) := putJ J315 98 65 ((140 : Nat) : Int)
theorem jl_316 : J316.length = 141 := by unfold J316 putJ; rw [List.length_set, jl_315]
theorem je_316 : up2 (hOf J315) 98 65 ((140 : Nat) : Int) = hOf J316 := put_J (by decide +kernel)
def J317 : List (Int ⊕ List Int) := J316 ++ [.inl 0]
theorem jl_317 : J317.length = 142 := by unfold J317; rw [List.length_append, jl_316]; rfl
def J318 : List (Int ⊕ List Int) := putJ J317 98 66 ((141 : Nat) : Int)
theorem jl_318 : J318.length = 142 := by unfold J318 putJ; rw [List.length_set, jl_317]
theorem je_318 : up2 (hOf J317) 98 66 ((141 : Nat) : Int) = hOf J318 := put_J (by decide +kernel)
def J319 : List (Int ⊕ List Int) := J318 ++ [.inl 0]
theorem jl_319 : J319.length = 143 := by unfold J319; rw [List.length_append, jl_318]; rfl
def J320 : List (Int ⊕ List Int) := putJ J319 98 67 ((142 : Nat) : Int)
theorem jl_320 : J320.length = 143 := by unfold J320 putJ; rw [List.length_set, jl_319]
theorem je_320 : up2 (hOf J319) 98 67 ((142 : Nat) : Int) = hOf J320 := put_J (by decide +kernel)
def J321 : List (Int ⊕ List Int) := J320 ++ [.inl 0]
theorem jl_321 : J321.length = 144 := by unfold J321; rw [List.length_append, jl_320]; rfl
def J322 : List (Int ⊕ List Int) := [.inr [1, 21, 41, 61, 63, 65, 67, 71, 75, 78, 82, 90, 0], .inr [2, 6, 12, 17, 18, 19, 0, 1, 0, 20], .inr [0, 3, 4, 5], .inl 0, .inl 0, .inl 0, .inr [0, 7, 8, 9, 10, 11], .inl 0, .inl 0, .inl 0, .inl 0, .inl 0, .inr [0, 13, 14, 15, 16], .inl 0, .inl 0, .inl 0, .inl 0, .inl 0, .inl 0, .inl 0, .inl 0, .inr [22, 26, 32, 37, 38, 39, 0, 1, 0, 40], .inr [0, 23, 24, 25], .inl 0, .inl 0, .inl 0, .inr [0, 27, 28, 29, 30, 31], .inl 0, .inl 0, .inl 0, .inl 0, .inl 0, .inr [0, 33, 34, 35, 36], .inl 0, .inl 0, .inl 0, .inl 0, .inl 0, .inl 0, .inl 0, .inl 0, .inr [42, 46, 52, 57, 58, 59, 0, 1, 0, 60], .inr [0, 43, 44, 45], .inl 0, .inl 0, .inl 0, .inr [0, 47, 48, 49, 50, 51], .inl 0, .inl 0, .inl 0, .inl 0, .inl 0, .inr [0, 53, 54, 55, 56], .inl 0, .inl 0, .inl 0, .inl 0, .inl 0, .inl 0, .inl 0, .inl 0, .inr [0, 62], .inl 0, .inr [0, 64], .inl 0, .inr [66, 0, 0, 0, 0], .inl 0, .inr [(-1), 0, 68, 0, 69, 70], .inl 0, .inl 0, .inl 0, .inr [0, 72, 73, 74], .inl 0, .inl 0, .inl 0, .inr [0, 76, 77], .inl 0, .inl 0, .inr [0, 79, 80, 81], .inl 0, .inl 0, .inl 0, .inr [0, 0, 83, 84, 85, 86, 87, 88, 89], .inl 0, .inl 0, .inl 0, .inl 0, .inl 0, .inl 0, .inl 0, .inr [0, 0, 91, 92, 93, 94, 95, 96, 97], .inl 0, .inl 0, .inl 0, .inl 0, .inl 0, .inl 0, .inl 0, .inr [99, 0, 0, 0, 0, 0, 1, 0, 100, 101, 102, 103, 104, 105, 106, 107, 108, 109, 110, 111, 112, 113, 114, 0, 115, 116, 117, 118, 119, 120, 121, 122, 123, 124, 125, 126, 0, 0, 0, 0, 0, 0, 0, 0, 0, 127, 0, 0, 0, 128, 129, 0, 0, 0, 0, 130, 131, 132, 133, 134, 135, 136, 137, 138, 139, 140, 141, 142, 143, (-1), (-1), (-1), 0, 0, 0, (-1), (-1), (-1), (-1), 0], .inl 0, .inl 0, .inl 0, .inl 0, .inl 0, .inl 0, .inl 0, .inl 0, .inl 0, .inl 0, .inl 0, .inl 0, .inl 0, .inl 0, .inl 0, .inl 0, .inl 0, .inl 0, .inl 0, .inl 0, .inl 0, .inl 0, .inl 0, .inl 0, .inl 0, .inl 0, .inl 0, .inl 0, .inl 0, .inl 0, .inl 0, .inl 0, .inl 0, .inl 0, .inl 0, .inl 0, .inl 0, .inl 0, .inl 0, .inl 0, .inl 0, .inl 0, .inl 0, .inl 0, .inl 0]
theorem jl_322 : J322.length = 144 := by decide +kernel
theorem je_322 : up2 (hOf J321) 98 68 ((143 : Nat) : Int) = hOf J322 := Eq.trans (put_J (l := J321) (a := 98) (k := 68) (x := ((143 : Nat) : Int)) (by decide +kernel)) (congrArg hOf (show putJ J321 98 68 ((143 : Nat) : Int) = J322 by decide +kernel))
def J323 : List (Int ⊕ List Int) := J322 ++ [.inl 0]
theorem jl_323 : J323.length = 145 := by unfold J323; rw [List.length_append, jl_322]; rfl
def J324 : List (Int ⊕ List Int) := putJ J323 98 69 ((144 : Nat) : Int)
theorem jl_324 : J324.length = 145 := by unfold J324 putJ; rw [List.length_set, jl_323]
theorem je_324 : up2 (hOf J323) 98 69 ((144 : Nat) : Int) = hOf J324 := put_J (by decide +kernel)
def J325 : List (Int ⊕ List Int) := J324 ++ [.inl 0]
theorem jl_325 : J325.length = 146 := by unfold J325; rw [List.length_append, jl_324]; rfl
def J326 : List (Int ⊕ List Int) := putJ J325 98 70 ((145 : Nat) : Int)
theorem jl_326 : J326.length = 146 := by unfold J326 putJ; rw [List.length_set, jl_325]
theorem je_326 : up2 (hOf J325) 98 70 ((145 : Nat) : Int) = hOf J326 := put_J (by decide +kernel)
def J327 : List (Int ⊕ List Int) := J326 ++ [.inl 0]
theorem jl_327 : J327.length = 147 := by unfold J327; rw [List.length_append, jl_326]; rfl
def J328 : List (Int ⊕ List Int) := putJ J327 98 71 ((146 : Nat) : Int)
theorem jl_328 : J328.length = 147 := by unfold J328 putJ; rw [List.length_set, jl_327]
theorem je_328 : up2 (hOf J327) 98 71 ((146 : Nat) : Int) = hOf J328 := put_J (by decide +kernel)
def J329 : List (Int ⊕ List Int) := J328 ++ [.inl 0]
theorem jl_329 : J329.length = 148 := by unfold J329; rw [List.length_append, jl_328]; rfl
def J330 : List (Int ⊕ List Int) := putJ J329 98 75 ((147 : Nat) : Int)
theorem jl_330 : J330.length = 148 := by unfold J330 putJ; rw [List.length_set, jl_329]
theorem je_330 : up2 (hOf J329) 98 75 ((147 : Nat) : Int) = hOf J330 := put_J (by decide +kernel)
def J331 : List (Int ⊕ List Int) := J330 ++ [.inl 0]
theorem jl_331 : J331.length = 149 := by unfold J331; rw [List.length_append, jl_330]; rfl
def J332 : List (Int ⊕ List Int) := putJ J331 98 76 ((148 : Nat) : Int)
theorem jl_332 : J332.length = 149 := by unfold J332 putJ; rw [List.length_set, jl_331]
theorem je_332 : up2 (hOf J331) 98 76 ((148 : Nat) : Int) = hOf J332 := put_J (by decide +kernel)
def J333 : List (Int ⊕ List Int) := J332 ++ [.inl 0]
theorem jl_333 : J333.length = 150 := by unfold J333; rw [List.length_append, jl_332]; rfl
def J334 : List (Int ⊕ List Int) := putJ J333 98 77 ((149 : Nat) : Int)
theorem jl_334 : J334.length = 150 := by unfold J334 putJ; rw [List.length_set, jl_333]
theorem je_334 : up2 (hOf J333) 98 77 ((149 : Nat) : Int) = hOf J334 := put_J (by decide +kernel)
def J335 : List (Int ⊕ List Int) := J334 ++ [.inl 0]
theorem jl_335 : J335.length = 151 := by unfold J335; rw [List.length_append, jl_334]; rfl
def J336 : List (Int ⊕ List Int) := [.inr [1, 21, 41, 61, 63, 65, 67, 71, 75, 78, 82, 90, 0], .inr [2, 6, 12, 17, 18, 19, 0, 1, 0, 20], .inr [0, 3, 4, 5], .inl 0, .inl 0, .inl 0, .inr [0, 7, 8, 9, 10, 11], .inl 0, .inl 0, .inl 0, .inl 0, .inl 0, .inr [0, 13, 14, 15, 16], .inl 0, .inl 0, .inl 0, .inl 0, .inl 0, .inl 0, .inl 0, .inl 0, .inr [22, 26, 32, 37, 38, 39, 0, 1, 0, 40], .inr [0, 23, 24, 25], .inl 0, .inl 0, .inl 0, .inr [0, 27, 28, 29, 30, 31], .inl 0, .inl 0, .inl 0, .inl 0, .inl 0, .inr [0, 33, 34, 35, 36], .inl 0, .inl 0, .inl 0, .inl 0, .inl 0, .inl 0, .inl 0, .inl 0, .inr [42, 46, 52, 57, 58, 59, 0, 1, 0, 60], .inr [0, 43, 44, 45], .inl 0, .inl 0, .inl 0, .inr [0, 47, 48, 49, 50, 51], .inl 0, .inl 0, .inl 0, .inl 0, .inl 0, .inr [0, 53, 54, 55, 56], .inl 0, .inl 0, .inl 0, .inl 0, .inl 0, .inl 0, .inl 0, .inl 0, .inr [0, 62], .inl 0, .inr [0, 64], .inl 0, .inr [66, 0, 0, 0, 0], .inl 0, .inr [(-1), 0, 68, 0, 69, 70], .inl 0, .inl 0, .inl 0, .inr [0, 72, 73, 74], .inl 0, .inl 0, .inl 0, .inr [0, 76, 77], .inl 0, .inl 0, .inr [0, 79, 80, 81], .inl 0, .inl 0, .inl 0, .inr [0, 0, 83, 84, 85, 86, 87, 88, 89], .inl 0, .inl 0, .inl 0, .inl 0, .inl 0, .inl 0, .inl 0, .inr [0, 0, 91, 92, 93, 94, 95, 96, 97], .inl 0, .inl 0, .inl 0, .inl 0, .inl 0, .inl 0, .inl 0, .inr [99, 0, 0, 0, 0, 0, 1, 0, 100, 101, 102, 103, 104, 105, 106, 107, 108, 109, 110, 111, 112, 113, 114, 0, 115, 116, 117, 118, 119, 120, 121, 122, 123, 124, 125, 126, 0, 0, 0, 0, 0, 0, 0, 0, 0, 127, 0, 0, 0, 128, 129, 0, 0, 0, 0, 130, 131, 132, 133, 134, 135, 136, 137, 138, 139, 140, 141, 142, 143, 144, 145, 146, 0, 0, 0, 147, 148, 149, 150, 0], .inl 0, .inl 0, .inl 0, .inl 0, .inl 0, .inl 0, .inl 0, .inl 0, .inl 0, .inl 0, .inl 0, .inl 0, .inl 0, .inl 0, .inl 0, .inl 0, .inl 0, .inl 0, .inl 0, .inl 0, .inl 0, .inl 0, .inl 0, .inl 0, .inl 0, .inl 0, .inl 0, .inl 0, .inl 0, .inl 0, .inl 0, .inl 0, .inl 0, .inl 0, .inl 0, .inl 0, .inl 0, .inl 0, .inl 0, .inl 0, .inl 0, .inl 0, .inl 0, .inl 0, .inl 0, .inl 0, .inl 0, .inl 0, .inl 0, .inl 0, .inl 0, .inl 0]
theorem jl_336 : J336.length = 151 := by decide +kernel
theorem je_336 : up2 (hOf J335) 98 78 ((150 : Nat) : Int) = hOf J336 := Eq.trans (put_J (l := J335) (a := 98) (k := 78) (x := ((150 : Nat) : Int)) (by decide +kernel)) (congrArg hOf (show putJ J335 98 78 ((150 : Nat) : Int) = J336 by decide +kernel))
set_option maxRecDepth 100000 in
set_option maxHeartbeats 4000000 in
theorem k_X6_init_2 : CK yX6_init cX6_init (1, 60, 3, 30) 2 3 6 J3 J10 := by
  refine CK.of rfl (fun Po hPo => ?_)
  refine g_aload_n dX6_init_0 rfl ?_
  refine g_objInit dX6_init_1 kml_X6_3 in_obj co_obj (by decide) (by decide) ?_
  refine g_aload_n dX6_init_4 rfl ?_
  refine g_iconst dX6_init_5 (inR_c rfl) ?_
  refine g_putI (k := 0) (a := 2) (ci := 6) (rs := rsX6) dX6_init_6 (by decide +kernel) rfl wsT6 tyX6 tyX6_ok nmX6 (by decide) rfl kfl_X6_9 rfl (tyX6_ok 0 (by decide)) (Or.inl rfl) (fun _ => ?_)
  rw [je_4]
  refine g_aload_n dX6_init_9 rfl ?_
  refine g_bipush dX6_init_10 (inR_c rfl) (by decide) ?_
  refine g_newaJ (n := 3) (n' := 4) (m := 10) (l' := J5) dX6_init_12 rfl aT_0 kac_0 J_c0 (by decide) (by decide) (Nat.le_of_ble_eq_true rfl) (Nat.le_of_ble_eq_true rfl) (by decide +kernel) (by decide +kernel) jl_4 rfl ?_
  refine g_putF (k := 1) (a := 2) (b := 3) (ci := 6) (rs := rsX6) dX6_init_14 (by decide +kernel) rfl wsT6 tyX6 tyX6_ok nmX6 (by decide) rfl kfl_X6_15 rfl rfl rfl (tyX6_ok 1 (by decide)) (Or.inr ⟨_, rfl⟩) (by decide) ?_
  rw [je_6]
  refine g_aload_n dX6_init_17 rfl ?_
  refine g_bipush dX6_init_18 (inR_c rfl) (by decide) ?_
  refine g_newaJ (n := 4) (n' := 5) (m := 10) (l' := J7) dX6_init_20 rfl aT_0 kac_0 J_c0 (by decide) (by decide) (Nat.le_of_ble_eq_true rfl) (Nat.le_of_ble_eq_true rfl) (by decide +kernel) (by decide +kernel) jl_6 rfl ?_
  refine g_putF (k := 2) (a := 2) (b := 4) (ci := 6) (rs := rsX6) dX6_init_22 (by decide +kernel) rfl wsT6 tyX6 tyX6_ok nmX6 (by decide) rfl kfl_X6_19 rfl rfl rfl (tyX6_ok 2 (by decide)) (Or.inr ⟨_, rfl⟩) (by decide) ?_
  rw [je_8]
  refine g_aload_n dX6_init_25 rfl ?_
  refine g_bipush dX6_init_26 (inR_c rfl) (by decide) ?_
  refine g_newaJ (n := 5) (n' := 6) (m := 10) (l' := J9) dX6_init_28 rfl aT_0 kac_0 J_c0 (by decide) (by decide) (Nat.le_of_ble_eq_true rfl) (Nat.le_of_ble_eq_true rfl) (by decide +kernel) (by decide +kernel) jl_8 rfl ?_
  refine g_putF (k := 3) (a := 2) (b := 5) (ci := 6) (rs := rsX6) dX6_init_30 (by decide +kernel) rfl wsT6 tyX6 tyX6_ok nmX6 (by decide) rfl kfl_X6_22 rfl rfl rfl (tyX6_ok 3 (by decide)) (Or.inr ⟨_, rfl⟩) (by decide) ?_
  rw [je_10]
  exact g_return dX6_init_33 rfl hPo
set_option maxRecDepth 100000 in
set_option maxHeartbeats 4000000 in
theorem k_X0_init_6 : CK yX0_init cX0_init (1, 60, 5, 72) 6 7 12 J12 J23 := by
  refine CK.of rfl (fun Po hPo => ?_)
  refine g_aload_n dX0_init_0 rfl ?_
  refine g_objInit dX0_init_1 kml_X0_3 in_obj co_obj (by decide) (by decide) ?_
  refine g_aload_n dX0_init_4 rfl ?_
  refine g_iconst dX0_init_5 (inR_c rfl) ?_
  refine g_putI (k := 0) (a := 6) (ci := 0) (rs := rsX0) dX0_init_6 (by decide +kernel) rfl wsT0 tyX0 tyX0_ok nmX0 (by decide) rfl kfl_X0_9 rfl (tyX0_ok 0 (by decide)) (Or.inl rfl) (fun _ => ?_)
  rw [je_13]
  refine g_aload_n dX0_init_9 rfl ?_
  refine g_bipush dX0_init_10 (inR_c rfl) (by decide) ?_
  refine g_newaJ (n := 7) (n' := 8) (m := 8) (l' := J14) dX0_init_12 rfl aT_0 kac_0 J_c0 (by decide) (by decide) (Nat.le_of_ble_eq_true rfl) (Nat.le_of_ble_eq_true rfl) (by decide +kernel) (by decide +kernel) jl_13 rfl ?_
  refine g_putF (k := 1) (a := 6) (b := 7) (ci := 0) (rs := rsX0) dX0_init_14 (by decide +kernel) rfl wsT0 tyX0 tyX0_ok nmX0 (by decide) rfl kfl_X0_15 rfl rfl rfl (tyX0_ok 1 (by decide)) (Or.inr ⟨_, rfl⟩) (by decide) ?_
  rw [je_15]
  refine g_aload_n dX0_init_17 rfl ?_
  refine g_bipush dX0_init_18 (inR_c rfl) (by decide) ?_
  refine g_newaJ (n := 8) (n' := 9) (m := 8) (l' := J16) dX0_init_20 rfl aT_0 kac_0 J_c0 (by decide) (by decide) (Nat.le_of_ble_eq_true rfl) (Nat.le_of_ble_eq_true rfl) (by decide +kernel) (by decide +kernel) jl_15 rfl ?_
  refine g_putF (k := 2) (a := 6) (b := 8) (ci := 0) (rs := rsX0) dX0_init_22 (by decide +kernel) rfl wsT0 tyX0 tyX0_ok nmX0 (by decide) rfl kfl_X0_19 rfl rfl rfl (tyX0_ok 2 (by decide)) (Or.inr ⟨_, rfl⟩) (by decide) ?_
  rw [je_17]
  refine g_aload_n dX0_init_25 rfl ?_
  refine g_bipush dX0_init_26 (inR_c rfl) (by decide) ?_
  refine g_newaJ (n := 9) (n' := 10) (m := 8) (l' := J18) dX0_init_28 rfl aT_0 kac_0 J_c0 (by decide) (by decide) (Nat.le_of_ble_eq_true rfl) (Nat.le_of_ble_eq_true rfl) (by decide +kernel) (by decide +kernel) jl_17 rfl ?_
  refine g_putF (k := 3) (a := 6) (b := 9) (ci := 0) (rs := rsX0) dX0_init_30 (by decide +kernel) rfl wsT0 tyX0 tyX0_ok nmX0 (by decide) rfl kfl_X0_22 rfl rfl rfl (tyX0_ok 3 (by decide)) (Or.inr ⟨_, rfl⟩) (by decide) ?_
  rw [je_19]
  refine g_aload_n dX0_init_33 rfl ?_
  refine g_bipush dX0_init_34 (inR_c rfl) (by decide) ?_
  refine g_newaJ (n := 10) (n' := 11) (m := 8) (l' := J20) dX0_init_36 rfl aT_0 kac_0 J_c0 (by decide) (by decide) (Nat.le_of_ble_eq_true rfl) (Nat.le_of_ble_eq_true rfl) (by decide +kernel) (by decide +kernel) jl_19 rfl ?_
  refine g_putF (k := 4) (a := 6) (b := 10) (ci := 0) (rs := rsX0) dX0_init_38 (by decide +kernel) rfl wsT0 tyX0 tyX0_ok nmX0 (by decide) rfl kfl_X0_25 rfl rfl rfl (tyX0_ok 4 (by decide)) (Or.inr ⟨_, rfl⟩) (by decide) ?_
  rw [je_21]
  refine g_aload_n dX0_init_41 rfl ?_
  refine g_bipush dX0_init_42 (inR_c rfl) (by decide) ?_
  refine g_newaJ (n := 11) (n' := 12) (m := 40) (l' := J22) dX0_init_44 rfl aT_0 kac_0 J_c0 (by decide) (by decide) (Nat.le_of_ble_eq_true rfl) (Nat.le_of_ble_eq_true rfl) (by decide +kernel) (by decide +kernel) jl_21 rfl ?_
  refine g_putF (k := 5) (a := 6) (b := 11) (ci := 0) (rs := rsX0) dX0_init_46 (by decide +kernel) rfl wsT0 tyX0 tyX0_ok nmX0 (by decide) rfl kfl_X0_28 rfl rfl rfl (tyX0_ok 5 (by decide)) (Or.inr ⟨_, rfl⟩) (by decide) ?_
  rw [je_23]
  exact g_return dX0_init_49 rfl hPo
set_option maxRecDepth 100000 in
set_option maxHeartbeats 4000000 in
theorem k_X4_init_12 : CK yX4_init cX4_init (1, 60, 4, 32) 12 13 17 J25 J34 := by
  refine CK.of rfl (fun Po hPo => ?_)
  refine g_aload_n dX4_init_0 rfl ?_
  refine g_objInit dX4_init_1 kml_X4_3 in_obj co_obj (by decide) (by decide) ?_
  refine g_aload_n dX4_init_4 rfl ?_
  refine g_iconst dX4_init_5 (inR_c rfl) ?_
  refine g_putI (k := 0) (a := 12) (ci := 4) (rs := rsX4) dX4_init_6 (by decide +kernel) rfl wsT4 tyX4 tyX4_ok nmX4 (by decide) rfl kfl_X4_9 rfl (tyX4_ok 0 (by decide)) (Or.inl rfl) (fun _ => ?_)
  rw [je_26]
  refine g_aload_n dX4_init_9 rfl ?_
  refine g_bipush dX4_init_10 (inR_c rfl) (by decide) ?_
  refine g_newaJ (n := 13) (n' := 14) (m := 8) (l' := J27) dX4_init_12 rfl aT_0 kac_0 J_c0 (by decide) (by decide) (Nat.le_of_ble_eq_true rfl) (Nat.le_of_ble_eq_true rfl) (by decide +kernel) (by decide +kernel) jl_26 rfl ?_
  refine g_putF (k := 1) (a := 12) (b := 13) (ci := 4) (rs := rsX4) dX4_init_14 (by decide +kernel) rfl wsT4 tyX4 tyX4_ok nmX4 (by decide) rfl kfl_X4_15 rfl rfl rfl (tyX4_ok 1 (by decide)) (Or.inr ⟨_, rfl⟩) (by decide) ?_
  rw [je_28]
  refine g_aload_n dX4_init_17 rfl ?_
  refine g_bipush dX4_init_18 (inR_c rfl) (by decide) ?_
  refine g_newaJ (n := 14) (n' := 15) (m := 8) (l' := J29) dX4_init_20 rfl aT_0 kac_0 J_c0 (by decide) (by decide) (Nat.le_of_ble_eq_true rfl) (Nat.le_of_ble_eq_true rfl) (by decide +kernel) (by decide +kernel) jl_28 rfl ?_
  refine g_putF (k := 2) (a := 12) (b := 14) (ci := 4) (rs := rsX4) dX4_init_22 (by decide +kernel) rfl wsT4 tyX4 tyX4_ok nmX4 (by decide) rfl kfl_X4_19 rfl rfl rfl (tyX4_ok 2 (by decide)) (Or.inr ⟨_, rfl⟩) (by decide) ?_
  rw [je_30]
  refine g_aload_n dX4_init_25 rfl ?_
  refine g_bipush dX4_init_26 (inR_c rfl) (by decide) ?_
  refine g_newaJ (n := 15) (n' := 16) (m := 8) (l' := J31) dX4_init_28 rfl aT_0 kac_0 J_c0 (by decide) (by decide) (Nat.le_of_ble_eq_true rfl) (Nat.le_of_ble_eq_true rfl) (by decide +kernel) (by decide +kernel) jl_30 rfl ?_
  refine g_putF (k := 3) (a := 12) (b := 15) (ci := 4) (rs := rsX4) dX4_init_30 (by decide +kernel) rfl wsT4 tyX4 tyX4_ok nmX4 (by decide) rfl kfl_X4_22 rfl rfl rfl (tyX4_ok 3 (by decide)) (Or.inr ⟨_, rfl⟩) (by decide) ?_
  rw [je_32]
  refine g_aload_n dX4_init_33 rfl ?_
  refine g_bipush dX4_init_34 (inR_c rfl) (by decide) ?_
  refine g_newaJ (n := 16) (n' := 17) (m := 8) (l' := J33) dX4_init_36 rfl aT_0 kac_0 J_c0 (by decide) (by decide) (Nat.le_of_ble_eq_true rfl) (Nat.le_of_ble_eq_true rfl) (by decide +kernel) (by decide +kernel) jl_32 rfl ?_
  refine g_putF (k := 4) (a := 12) (b := 16) (ci := 4) (rs := rsX4) dX4_init_38 (by decide +kernel) rfl wsT4 tyX4 tyX4_ok nmX4 (by decide) rfl kfl_X4_25 rfl rfl rfl (tyX4_ok 4 (by decide)) (Or.inr ⟨_, rfl⟩) (by decide) ?_
  rw [je_34]
  exact g_return dX4_init_41 rfl hPo
set_option maxRecDepth 100000 in
set_option maxHeartbeats 4000000 in
theorem k_X9_init_1 : CK yX9_init cX9_init (2, 120, 19, 389) 1 2 21 J2 J46 := by
  refine CK.of rfl (fun Po hPo => ?_)
  refine g_aload_n dX9_init_0 rfl ?_
  refine g_objInit dX9_init_1 kml_X9_3 in_obj co_obj (by decide) (by decide) ?_
  refine g_aload_n dX9_init_4 rfl ?_
  refine g_newJ (n := 2) (n' := 3) (rs := rsX6) (l' := J3) dX9_init_5 (ci := 6) rfl wsT6 tyX6 tyX6_ok kcl_X9_9 kins_6 kini_6 rfl kdf_6 (Nat.le_of_ble_eq_true rfl) (Nat.le_of_ble_eq_true rfl) (by decide +kernel) (by decide +kernel) jl_2 rfl ?_
  refine g_dup dX9_init_8 rfl ?_
  refine g_ckN k_X6_init_2 dX9_init_9 kmi_X6_init kin_X6_init rfl (by decide +kernel) rfl (by decide) ?_
  refine g_putF (k := 0) (a := 1) (b := 2) (ci := 9) (rs := rsX9) dX9_init_12 (by decide +kernel) rfl wsT9 tyX9 tyX9_ok nmX9 (by decide) rfl kfl_X9_12 rfl rfl rfl (tyX9_ok 0 (by decide)) (Or.inl ⟨_, rfl⟩) (by decide) ?_
  rw [je_11]
  refine g_aload_n dX9_init_15 rfl ?_
  refine g_newJ (n := 6) (n' := 7) (rs := rsX0) (l' := J12) dX9_init_16 (ci := 0) rfl wsT0 tyX0 tyX0_ok kcl_X9_18 kins_0 kini_0 rfl kdf_0 (Nat.le_of_ble_eq_true rfl) (Nat.le_of_ble_eq_true rfl) (by decide +kernel) (by decide +kernel) jl_11 rfl ?_
  refine g_dup dX9_init_19 rfl ?_
  refine g_ckN k_X0_init_6 dX9_init_20 kmi_X0_init kin_X0_init rfl (by decide +kernel) rfl (by decide) ?_
  refine g_putF (k := 1) (a := 1) (b := 6) (ci := 9) (rs := rsX9) dX9_init_23 (by decide +kernel) rfl wsT9 tyX9 tyX9_ok nmX9 (by decide) rfl kfl_X9_21 rfl rfl rfl (tyX9_ok 1 (by decide)) (Or.inl ⟨_, rfl⟩) (by decide) ?_
  rw [je_24]
  refine g_aload_n dX9_init_26 rfl ?_
  refine g_newJ (n := 12) (n' := 13) (rs := rsX4) (l' := J25) dX9_init_27 (ci := 4) rfl wsT4 tyX4 tyX4_ok kcl_X9_25 kins_4 kini_4 rfl kdf_4 (Nat.le_of_ble_eq_true rfl) (Nat.le_of_ble_eq_true rfl) (by decide +kernel) (by decide +kernel) jl_24 rfl ?_
  refine g_dup dX9_init_30 rfl ?_
  refine g_ckN k_X4_init_12 dX9_init_31 kmi_X4_init kin_X4_init rfl (by decide +kernel) rfl (by decide) ?_
  refine g_putF (k := 2) (a := 1) (b := 12) (ci := 9) (rs := rsX9) dX9_init_34 (by decide +kernel) rfl wsT9 tyX9 tyX9_ok nmX9 (by decide) rfl kfl_X9_28 rfl rfl rfl (tyX9_ok 2 (by decide)) (Or.inl ⟨_, rfl⟩) (by decide) ?_
  rw [je_35]
  refine g_aload_n dX9_init_37 rfl ?_
  refine g_bipush dX9_init_38 (inR_c rfl) (by decide) ?_
  refine g_newaJ (n := 17) (n' := 18) (m := 64) (l' := J36) dX9_init_40 rfl aT_0 kac_0 J_c0 (by decide) (by decide) (Nat.le_of_ble_eq_true rfl) (Nat.le_of_ble_eq_true rfl) (by decide +kernel) (by decide +kernel) jl_35 rfl ?_
  refine g_putF (k := 3) (a := 1) (b := 17) (ci := 9) (rs := rsX9) dX9_init_42 (by decide +kernel) rfl wsT9 tyX9 tyX9_ok nmX9 (by decide) rfl kfl_X9_32 rfl rfl rfl (tyX9_ok 3 (by decide)) (Or.inr ⟨_, rfl⟩) (by decide) ?_
  rw [je_37]
  refine g_aload_n dX9_init_45 rfl ?_
  refine g_bipush dX9_init_46 (inR_c rfl) (by decide) ?_
  refine g_newaJ (n := 18) (n' := 19) (m := 64) (l' := J38) dX9_init_48 rfl aT_0 kac_0 J_c0 (by decide) (by decide) (Nat.le_of_ble_eq_true rfl) (Nat.le_of_ble_eq_true rfl) (by decide +kernel) (by decide +kernel) jl_37 rfl ?_
  refine g_putF (k := 4) (a := 1) (b := 18) (ci := 9) (rs := rsX9) dX9_init_50 (by decide +kernel) rfl wsT9 tyX9 tyX9_ok nmX9 (by decide) rfl kfl_X9_36 rfl rfl rfl (tyX9_ok 4 (by decide)) (Or.inr ⟨_, rfl⟩) (by decide) ?_
  rw [je_39]
  refine g_aload_n dX9_init_53 rfl ?_
  refine g_bipush dX9_init_54 (inR_c rfl) (by decide) ?_
  refine g_newaJ (n := 19) (n' := 20) (m := 100) (l' := J40) dX9_init_56 rfl aT_0 kac_0 J_c0 (by decide) (by decide) (Nat.le_of_ble_eq_true rfl) (Nat.le_of_ble_eq_true rfl) (by decide +kernel) (by decide +kernel) jl_39 rfl ?_
  refine g_putF (k := 5) (a := 1) (b := 19) (ci := 9) (rs := rsX9) dX9_init_58 (by decide +kernel) rfl wsT9 tyX9 tyX9_ok nmX9 (by decide) rfl kfl_X9_39 rfl rfl rfl (tyX9_ok 5 (by decide)) (Or.inr ⟨_, rfl⟩) (by decide) ?_
  rw [je_41]
  refine g_aload_n dX9_init_61 rfl ?_
  refine g_iconst dX9_init_62 (inR_c rfl) ?_
  refine g_putI (k := 6) (a := 1) (ci := 9) (rs := rsX9) dX9_init_63 (by decide +kernel) rfl wsT9 tyX9 tyX9_ok nmX9 (by decide) rfl kfl_X9_42 rfl (tyX9_ok 6 (by decide)) (Or.inl rfl) (fun _ => ?_)
  rw [je_42]
  refine g_aload_n dX9_init_66 rfl ?_
  refine g_iconst dX9_init_67 (inR_c rfl) ?_
  refine g_putI (k := 7) (a := 1) (ci := 9) (rs := rsX9) dX9_init_68 (by decide +kernel) rfl wsT9 tyX9 tyX9_ok nmX9 (by decide) rfl kfl_X9_46 rfl (tyX9_ok 7 (by decide)) (Or.inl rfl) (fun _ => ?_)
  rw [je_43]
  refine g_aload_n dX9_init_71 rfl ?_
  refine g_iconst dX9_init_72 (inR_c rfl) ?_
  refine g_putI (k := 8) (a := 1) (ci := 9) (rs := rsX9) dX9_init_73 (by decide +kernel) rfl wsT9 tyX9 tyX9_ok nmX9 (by decide) rfl kfl_X9_49 rfl (tyX9_ok 8 (by decide)) (Or.inl rfl) (fun _ => ?_)
  rw [je_44]
  refine g_aload_n dX9_init_76 rfl ?_
  refine g_bipush dX9_init_77 (inR_c rfl) (by decide) ?_
  refine g_newaJ (n := 20) (n' := 21) (m := 12) (l' := J45) dX9_init_79 rfl aT_0 kac_0 J_c0 (by decide) (by decide) (Nat.le_of_ble_eq_true rfl) (Nat.le_of_ble_eq_true rfl) (by decide +kernel) (by decide +kernel) jl_44 rfl ?_
  refine g_putF (k := 9) (a := 1) (b := 20) (ci := 9) (rs := rsX9) dX9_init_81 (by decide +kernel) rfl wsT9 tyX9 tyX9_ok nmX9 (by decide) rfl kfl_X9_52 rfl rfl rfl (tyX9_ok 9 (by decide)) (Or.inr ⟨_, rfl⟩) (by decide) ?_
  rw [je_46]
  exact g_return dX9_init_84 rfl hPo
set_option maxRecDepth 100000 in
set_option maxHeartbeats 4000000 in
theorem k_X6_init_22 : CK yX6_init cX6_init (1, 60, 3, 30) 22 23 26 J49 J56 := by
  refine CK.of rfl (fun Po hPo => ?_)
  refine g_aload_n dX6_init_0 rfl ?_
  refine g_objInit dX6_init_1 kml_X6_3 in_obj co_obj (by decide) (by decide) ?_
  refine g_aload_n dX6_init_4 rfl ?_
  refine g_iconst dX6_init_5 (inR_c rfl) ?_
  refine g_putI (k := 0) (a := 22) (ci := 6) (rs := rsX6) dX6_init_6 (by decide +kernel) rfl wsT6 tyX6 tyX6_ok nmX6 (by decide) rfl kfl_X6_9 rfl (tyX6_ok 0 (by decide)) (Or.inl rfl) (fun _ => ?_)
  rw [je_50]
  refine g_aload_n dX6_init_9 rfl ?_
  refine g_bipush dX6_init_10 (inR_c rfl) (by decide) ?_
  refine g_newaJ (n := 23) (n' := 24) (m := 10) (l' := J51) dX6_init_12 rfl aT_0 kac_0 J_c0 (by decide) (by decide) (Nat.le_of_ble_eq_true rfl) (Nat.le_of_ble_eq_true rfl) (by decide +kernel) (by decide +kernel) jl_50 rfl ?_
  refine g_putF (k := 1) (a := 22) (b := 23) (ci := 6) (rs := rsX6) dX6_init_14 (by decide +kernel) rfl wsT6 tyX6 tyX6_ok nmX6 (by decide) rfl kfl_X6_15 rfl rfl rfl (tyX6_ok 1 (by decide)) (Or.inr ⟨_, rfl⟩) (by decide) ?_
  rw [je_52]
  refine g_aload_n dX6_init_17 rfl ?_
  refine g_bipush dX6_init_18 (inR_c rfl) (by decide) ?_
  refine g_newaJ (n := 24) (n' := 25) (m := 10) (l' := J53) dX6_init_20 rfl aT_0 kac_0 J_c0 (by decide) (by decide) (Nat.le_of_ble_eq_true rfl) (Nat.le_of_ble_eq_true rfl) (by decide +kernel) (by decide +kernel) jl_52 rfl ?_
  refine g_putF (k := 2) (a := 22) (b := 24) (ci := 6) (rs := rsX6) dX6_init_22 (by decide +kernel) rfl wsT6 tyX6 tyX6_ok nmX6 (by decide) rfl kfl_X6_19 rfl rfl rfl (tyX6_ok 2 (by decide)) (Or.inr ⟨_, rfl⟩) (by decide) ?_
  rw [je_54]
  refine g_aload_n dX6_init_25 rfl ?_
  refine g_bipush dX6_init_26 (inR_c rfl) (by decide) ?_
  refine g_newaJ (n := 25) (n' := 26) (m := 10) (l' := J55) dX6_init_28 rfl aT_0 kac_0 J_c0 (by decide) (by decide) (Nat.le_of_ble_eq_true rfl) (Nat.le_of_ble_eq_true rfl) (by decide +kernel) (by decide +kernel) jl_54 rfl ?_
  refine g_putF (k := 3) (a := 22) (b := 25) (ci := 6) (rs := rsX6) dX6_init_30 (by decide +kernel) rfl wsT6 tyX6 tyX6_ok nmX6 (by decide) rfl kfl_X6_22 rfl rfl rfl (tyX6_ok 3 (by decide)) (Or.inr ⟨_, rfl⟩) (by decide) ?_
  rw [je_56]
  exact g_return dX6_init_33 rfl hPo
set_option maxRecDepth 100000 in
set_option maxHeartbeats 4000000 in
theorem k_X0_init_26 : CK yX0_init cX0_init (1, 60, 5, 72) 26 27 32 J58 J69 := by
  refine CK.of rfl (fun Po hPo => ?_)
  refine g_aload_n dX0_init_0 rfl ?_
  refine g_objInit dX0_init_1 kml_X0_3 in_obj co_obj (by decide) (by decide) ?_
  refine g_aload_n dX0_init_4 rfl ?_
  refine g_iconst dX0_init_5 (inR_c rfl) ?_
  refine g_putI (k := 0) (a := 26) (ci := 0) (rs := rsX0) dX0_init_6 (by decide +kernel) rfl wsT0 tyX0 tyX0_ok nmX0 (by decide) rfl kfl_X0_9 rfl (tyX0_ok 0 (by decide)) (Or.inl rfl) (fun _ => ?_)
  rw [je_59]
  refine g_aload_n dX0_init_9 rfl ?_
  refine g_bipush dX0_init_10 (inR_c rfl) (by decide) ?_
  refine g_newaJ (n := 27) (n' := 28) (m := 8) (l' := J60) dX0_init_12 rfl aT_0 kac_0 J_c0 (by decide) (by decide) (Nat.le_of_ble_eq_true rfl) (Nat.le_of_ble_eq_true rfl) (by decide +kernel) (by decide +kernel) jl_59 rfl ?_
  refine g_putF (k := 1) (a := 26) (b := 27) (ci := 0) (rs := rsX0) dX0_init_14 (by decide +kernel) rfl wsT0 tyX0 tyX0_ok nmX0 (by decide) rfl kfl_X0_15 rfl rfl rfl (tyX0_ok 1 (by decide)) (Or.inr ⟨_, rfl⟩) (by decide) ?_
  rw [je_61]
  refine g_aload_n dX0_init_17 rfl ?_
  refine g_bipush dX0_init_18 (inR_c rfl) (by decide) ?_
  refine g_newaJ (n := 28) (n' := 29) (m := 8) (l' := J62) dX0_init_20 rfl aT_0 kac_0 J_c0 (by decide) (by decide) (Nat.le_of_ble_eq_true rfl) (Nat.le_of_ble_eq_true rfl) (by decide +kernel) (by decide +kernel) jl_61 rfl ?_
  refine g_putF (k := 2) (a := 26) (b := 28) (ci := 0) (rs := rsX0) dX0_init_22 (by decide +kernel) rfl wsT0 tyX0 tyX0_ok nmX0 (by decide) rfl kfl_X0_19 rfl rfl rfl (tyX0_ok 2 (by decide)) (Or.inr ⟨_, rfl⟩) (by decide) ?_
  rw [je_63]
  refine g_aload_n dX0_init_25 rfl ?_
  refine g_bipush dX0_init_26 (inR_c rfl) (by decide) ?_
  refine g_newaJ (n := 29) (n' := 30) (m := 8) (l' := J64) dX0_init_28 rfl aT_0 kac_0 J_c0 (by decide) (by decide) (Nat.le_of_ble_eq_true rfl) (Nat.le_of_ble_eq_true rfl) (by decide +kernel) (by decide +kernel) jl_63 rfl ?_
  refine g_putF (k := 3) (a := 26) (b := 29) (ci := 0) (rs := rsX0) dX0_init_30 (by decide +kernel) rfl wsT0 tyX0 tyX0_ok nmX0 (by decide) rfl kfl_X0_22 rfl rfl rfl (tyX0_ok 3 (by decide)) (Or.inr ⟨_, rfl⟩) (by decide) ?_
  rw [je_65]
  refine g_aload_n dX0_init_33 rfl ?_
  refine g_bipush dX0_init_34 (inR_c rfl) (by decide) ?_
  refine g_newaJ (n := 30) (n' := 31) (m := 8) (l' := J66) dX0_init_36 rfl aT_0 kac_0 J_c0 (by decide) (by decide) (Nat.le_of_ble_eq_true rfl) (Nat.le_of_ble_eq_true rfl) (by decide +kernel) (by decide +kernel) jl_65 rfl ?_
  refine g_putF (k := 4) (a := 26) (b := 30) (ci := 0) (rs := rsX0) dX0_init_38 (by decide +kernel) rfl wsT0 tyX0 tyX0_ok nmX0 (by decide) rfl kfl_X0_25 rfl rfl rfl (tyX0_ok 4 (by decide)) (Or.inr ⟨_, rfl⟩) (by decide) ?_
  rw [je_67]
  refine g_aload_n dX0_init_41 rfl ?_
  refine g_bipush dX0_init_42 (inR_c rfl) (by decide) ?_
  refine g_newaJ (n := 31) (n' := 32) (m := 40) (l' := J68) dX0_init_44 rfl aT_0 kac_0 J_c0 (by decide) (by decide) (Nat.le_of_ble_eq_true rfl) (Nat.le_of_ble_eq_true rfl) (by decide +kernel) (by decide +kernel) jl_67 rfl ?_
  refine g_putF (k := 5) (a := 26) (b := 31) (ci := 0) (rs := rsX0) dX0_init_46 (by decide +kernel) rfl wsT0 tyX0 tyX0_ok nmX0 (by decide) rfl kfl_X0_28 rfl rfl rfl (tyX0_ok 5 (by decide)) (Or.inr ⟨_, rfl⟩) (by decide) ?_
  rw [je_69]
  exact g_return dX0_init_49 rfl hPo
set_option maxRecDepth 100000 in
set_option maxHeartbeats 4000000 in
theorem k_X4_init_32 : CK yX4_init cX4_init (1, 60, 4, 32) 32 33 37 J71 J80 := by
  refine CK.of rfl (fun Po hPo => ?_)
  refine g_aload_n dX4_init_0 rfl ?_
  refine g_objInit dX4_init_1 kml_X4_3 in_obj co_obj (by decide) (by decide) ?_
  refine g_aload_n dX4_init_4 rfl ?_
  refine g_iconst dX4_init_5 (inR_c rfl) ?_
  refine g_putI (k := 0) (a := 32) (ci := 4) (rs := rsX4) dX4_init_6 (by decide +kernel) rfl wsT4 tyX4 tyX4_ok nmX4 (by decide) rfl kfl_X4_9 rfl (tyX4_ok 0 (by decide)) (Or.inl rfl) (fun _ => ?_)
  rw [je_72]
  refine g_aload_n dX4_init_9 rfl ?_
  refine g_bipush dX4_init_10 (inR_c rfl) (by decide) ?_
  refine g_newaJ (n := 33) (n' := 34) (m := 8) (l' := J73) dX4_init_12 rfl aT_0 kac_0 J_c0 (by decide) (by decide) (Nat.le_of_ble_eq_true rfl) (Nat.le_of_ble_eq_true rfl) (by decide +kernel) (by decide +kernel) jl_72 rfl ?_
  refine g_putF (k := 1) (a := 32) (b := 33) (ci := 4) (rs := rsX4) dX4_init_14 (by decide +kernel) rfl wsT4 tyX4 tyX4_ok nmX4 (by decide) rfl kfl_X4_15 rfl rfl rfl (tyX4_ok 1 (by decide)) (Or.inr ⟨_, rfl⟩) (by decide) ?_
  rw [je_74]
  refine g_aload_n dX4_init_17 rfl ?_
  refine g_bipush dX4_init_18 (inR_c rfl) (by decide) ?_
  refine g_newaJ (n := 34) (n' := 35) (m := 8) (l' := J75) dX4_init_20 rfl aT_0 kac_0 J_c0 (by decide) (by decide) (Nat.le_of_ble_eq_true rfl) (Nat.le_of_ble_eq_true rfl) (by decide +kernel) (by decide +kernel) jl_74 rfl ?_
  refine g_putF (k := 2) (a := 32) (b := 34) (ci := 4) (rs := rsX4) dX4_init_22 (by decide +kernel) rfl wsT4 tyX4 tyX4_ok nmX4 (by decide) rfl kfl_X4_19 rfl rfl rfl (tyX4_ok 2 (by decide)) (Or.inr ⟨_, rfl⟩) (by decide) ?_
  rw [je_76]
  refine g_aload_n dX4_init_25 rfl ?_
  refine g_bipush dX4_init_26 (inR_c rfl) (by decide) ?_
  refine g_newaJ (n := 35) (n' := 36) (m := 8) (l' := J77) dX4_init_28 rfl aT_0 kac_0 J_c0 (by decide) (by decide) (Nat.le_of_ble_eq_true rfl) (Nat.le_of_ble_eq_true rfl) (by decide +kernel) (by decide +kernel) jl_76 rfl ?_
  refine g_putF (k := 3) (a := 32) (b := 35) (ci := 4) (rs := rsX4) dX4_init_30 (by decide +kernel) rfl wsT4 tyX4 tyX4_ok nmX4 (by decide) rfl kfl_X4_22 rfl rfl rfl (tyX4_ok 3 (by decide)) (Or.inr ⟨_, rfl⟩) (by decide) ?_
  rw [je_78]
  refine g_aload_n dX4_init_33 rfl ?_
  refine g_bipush dX4_init_34 (inR_c rfl) (by decide) ?_
  refine g_newaJ (n := 36) (n' := 37) (m := 8) (l' := J79) dX4_init_36 rfl aT_0 kac_0 J_c0 (by decide) (by decide) (Nat.le_of_ble_eq_true rfl) (Nat.le_of_ble_eq_true rfl) (by decide +kernel) (by decide +kernel) jl_78 rfl ?_
  refine g_putF (k := 4) (a := 32) (b := 36) (ci := 4) (rs := rsX4) dX4_init_38 (by decide +kernel) rfl wsT4 tyX4 tyX4_ok nmX4 (by decide) rfl kfl_X4_25 rfl rfl rfl (tyX4_ok 4 (by decide)) (Or.inr ⟨_, rfl⟩) (by decide) ?_
  rw [je_80]
  exact g_return dX4_init_41 rfl hPo
set_option maxRecDepth 100000 in
set_option maxHeartbeats 4000000 in
theorem k_X9_init_21 : CK yX9_init cX9_init (2, 120, 19, 389) 21 22 41 J48 J92 := by
  refine CK.of rfl (fun Po hPo => ?_)
  refine g_aload_n dX9_init_0 rfl ?_
  refine g_objInit dX9_init_1 kml_X9_3 in_obj co_obj (by decide) (by decide) ?_
  refine g_aload_n dX9_init_4 rfl ?_
  refine g_newJ (n := 22) (n' := 23) (rs := rsX6) (l' := J49) dX9_init_5 (ci := 6) rfl wsT6 tyX6 tyX6_ok kcl_X9_9 kins_6 kini_6 rfl kdf_6 (Nat.le_of_ble_eq_true rfl) (Nat.le_of_ble_eq_true rfl) (by decide +kernel) (by decide +kernel) jl_48 rfl ?_
  refine g_dup dX9_init_8 rfl ?_
  refine g_ckN k_X6_init_22 dX9_init_9 kmi_X6_init kin_X6_init rfl (by decide +kernel) rfl (by decide) ?_
  refine g_putF (k := 0) (a := 21) (b := 22) (ci := 9) (rs := rsX9) dX9_init_12 (by decide +kernel) rfl wsT9 tyX9 tyX9_ok nmX9 (by decide) rfl kfl_X9_12 rfl rfl rfl (tyX9_ok 0 (by decide)) (Or.inl ⟨_, rfl⟩) (by decide) ?_
  rw [je_57]
  refine g_aload_n dX9_init_15 rfl ?_
  refine g_newJ (n := 26) (n' := 27) (rs := rsX0) (l' := J58) dX9_init_16 (ci := 0) rfl wsT0 tyX0 tyX0_ok kcl_X9_18 kins_0 kini_0 rfl kdf_0 (Nat.le_of_ble_eq_true rfl) (Nat.le_of_ble_eq_true rfl) (by decide +kernel) (by decide +kernel) jl_57 rfl ?_
  refine g_dup dX9_init_19 rfl ?_
  refine g_ckN k_X0_init_26 dX9_init_20 kmi_X0_init kin_X0_init rfl (by decide +kernel) rfl (by decide) ?_
  refine g_putF (k := 1) (a := 21) (b := 26) (ci := 9) (rs := rsX9) dX9_init_23 (by decide +kernel) rfl wsT9 tyX9 tyX9_ok nmX9 (by decide) rfl kfl_X9_21 rfl rfl rfl (tyX9_ok 1 (by decide)) (Or.inl ⟨_, rfl⟩) (by decide) ?_
  rw [je_70]
  refine g_aload_n dX9_init_26 rfl ?_
  refine g_newJ (n := 32) (n' := 33) (rs := rsX4) (l' := J71) dX9_init_27 (ci := 4) rfl wsT4 tyX4 tyX4_ok kcl_X9_25 kins_4 kini_4 rfl kdf_4 (Nat.le_of_ble_eq_true rfl) (Nat.le_of_ble_eq_true rfl) (by decide +kernel) (by decide +kernel) jl_70 rfl ?_
  refine g_dup dX9_init_30 rfl ?_
  refine g_ckN k_X4_init_32 dX9_init_31 kmi_X4_init kin_X4_init rfl (by decide +kernel) rfl (by decide) ?_
  refine g_putF (k := 2) (a := 21) (b := 32) (ci := 9) (rs := rsX9) dX9_init_34 (by decide +kernel) rfl wsT9 tyX9 tyX9_ok nmX9 (by decide) rfl kfl_X9_28 rfl rfl rfl (tyX9_ok 2 (by decide)) (Or.inl ⟨_, rfl⟩) (by decide) ?_
  rw [je_81]
  refine g_aload_n dX9_init_37 rfl ?_
  refine g_bipush dX9_init_38 (inR_c rfl) (by decide) ?_
  refine g_newaJ (n := 37) (n' := 38) (m := 64) (l' := J82) dX9_init_40 rfl aT_0 kac_0 J_c0 (by decide) (by decide) (Nat.le_of_ble_eq_true rfl) (Nat.le_of_ble_eq_true rfl) (by decide +kernel) (by decide +kernel) jl_81 rfl ?_
  refine g_putF (k := 3) (a := 21) (b := 37) (ci := 9) (rs := rsX9) dX9_init_42 (by decide +kernel) rfl wsT9 tyX9 tyX9_ok nmX9 (by decide) rfl kfl_X9_32 rfl rfl rfl (tyX9_ok 3 (by decide)) (Or.inr ⟨_, rfl⟩) (by decide) ?_
  rw [je_83]
  refine g_aload_n dX9_init_45 rfl ?_
  refine g_bipush dX9_init_46 (inR_c rfl) (by decide) ?_
  refine g_newaJ (n := 38) (n' := 39) (m := 64) (l' := J84) dX9_init_48 rfl aT_0 kac_0 J_c0 (by decide) (by decide) (Nat.le_of_ble_eq_true rfl) (Nat.le_of_ble_eq_true rfl) (by decide +kernel) (by decide +kernel) jl_83 rfl ?_
  refine g_putF (k := 4) (a := 21) (b := 38) (ci := 9) (rs := rsX9) dX9_init_50 (by decide +kernel) rfl wsT9 tyX9 tyX9_ok nmX9 (by decide) rfl kfl_X9_36 rfl rfl rfl (tyX9_ok 4 (by decide)) (Or.inr ⟨_, rfl⟩) (by decide) ?_
  rw [je_85]
  refine g_aload_n dX9_init_53 rfl ?_
  refine g_bipush dX9_init_54 (inR_c rfl) (by decide) ?_
  refine g_newaJ (n := 39) (n' := 40) (m := 100) (l' := J86) dX9_init_56 rfl aT_0 kac_0 J_c0 (by decide) (by decide) (Nat.le_of_ble_eq_true rfl) (Nat.le_of_ble_eq_true rfl) (by decide +kernel) (by decide +kernel) jl_85 rfl ?_
  refine g_putF (k := 5) (a := 21) (b := 39) (ci := 9) (rs := rsX9) dX9_init_58 (by decide +kernel) rfl wsT9 tyX9 tyX9_ok nmX9 (by decide) rfl kfl_X9_39 rfl rfl rfl (tyX9_ok 5 (by decide)) (Or.inr ⟨_, rfl⟩) (by decide) ?_
  rw [je_87]
  refine g_aload_n dX9_init_61 rfl ?_
  refine g_iconst dX9_init_62 (inR_c rfl) ?_
  refine g_putI (k := 6) (a := 21) (ci := 9) (rs := rsX9) dX9_init_63 (by decide +kernel) rfl wsT9 tyX9 tyX9_ok nmX9 (by decide) rfl kfl_X9_42 rfl (tyX9_ok 6 (by decide)) (Or.inl rfl) (fun _ => ?_)
  rw [je_88]
  refine g_aload_n dX9_init_66 rfl ?_
  refine g_iconst dX9_init_67 (inR_c rfl) ?_
  refine g_putI (k := 7) (a := 21) (ci := 9) (rs := rsX9) dX9_init_68 (by decide +kernel) rfl wsT9 tyX9 tyX9_ok nmX9 (by decide) rfl kfl_X9_46 rfl (tyX9_ok 7 (by decide)) (Or.inl rfl) (fun _ => ?_)
  rw [je_89]
  refine g_aload_n dX9_init_71 rfl ?_
  refine g_iconst dX9_init_72 (inR_c rfl) ?_
  refine g_putI (k := 8) (a := 21) (ci := 9) (rs := rsX9) dX9_init_73 (by decide +kernel) rfl wsT9 tyX9 tyX9_ok nmX9 (by decide) rfl kfl_X9_49 rfl (tyX9_ok 8 (by decide)) (Or.inl rfl) (fun _ => ?_)
  rw [je_90]
  refine g_aload_n dX9_init_76 rfl ?_
  refine g_bipush dX9_init_77 (inR_c rfl) (by decide) ?_
  refine g_newaJ (n := 40) (n' := 41) (m := 12) (l' := J91) dX9_init_79 rfl aT_0 kac_0 J_c0 (by decide) (by decide) (Nat.le_of_ble_eq_true rfl) (Nat.le_of_ble_eq_true rfl) (by decide +kernel) (by decide +kernel) jl_90 rfl ?_
  refine g_putF (k := 9) (a := 21) (b := 40) (ci := 9) (rs := rsX9) dX9_init_81 (by decide +kernel) rfl wsT9 tyX9 tyX9_ok nmX9 (by decide) rfl kfl_X9_52 rfl rfl rfl (tyX9_ok 9 (by decide)) (Or.inr ⟨_, rfl⟩) (by decide) ?_
  rw [je_92]
  exact g_return dX9_init_84 rfl hPo
set_option maxRecDepth 100000 in
set_option maxHeartbeats 4000000 in
theorem k_X6_init_42 : CK yX6_init cX6_init (1, 60, 3, 30) 42 43 46 J95 J102 := by
  refine CK.of rfl (fun Po hPo => ?_)
  refine g_aload_n dX6_init_0 rfl ?_
  refine g_objInit dX6_init_1 kml_X6_3 in_obj co_obj (by decide) (by decide) ?_
  refine g_aload_n dX6_init_4 rfl ?_
  refine g_iconst dX6_init_5 (inR_c rfl) ?_
  refine g_putI (k := 0) (a := 42) (ci := 6) (rs := rsX6) dX6_init_6 (by decide +kernel) rfl wsT6 tyX6 tyX6_ok nmX6 (by decide) rfl kfl_X6_9 rfl (tyX6_ok 0 (by decide)) (Or.inl rfl) (fun _ => ?_)
  rw [je_96]
  refine g_aload_n dX6_init_9 rfl ?_
  refine g_bipush dX6_init_10 (inR_c rfl) (by decide) ?_
  refine g_newaJ (n := 43) (n' := 44) (m := 10) (l' := J97) dX6_init_12 rfl aT_0 kac_0 J_c0 (by decide) (by decide) (Nat.le_of_ble_eq_true rfl) (Nat.le_of_ble_eq_true rfl) (by decide +kernel) (by decide +kernel) jl_96 rfl ?_
  refine g_putF (k := 1) (a := 42) (b := 43) (ci := 6) (rs := rsX6) dX6_init_14 (by decide +kernel) rfl wsT6 tyX6 tyX6_ok nmX6 (by decide) rfl kfl_X6_15 rfl rfl rfl (tyX6_ok 1 (by decide)) (Or.inr ⟨_, rfl⟩) (by decide) ?_
  rw [je_98]
  refine g_aload_n dX6_init_17 rfl ?_
  refine g_bipush dX6_init_18 (inR_c rfl) (by decide) ?_
  refine g_newaJ (n := 44) (n' := 45) (m := 10) (l' := J99) dX6_init_20 rfl aT_0 kac_0 J_c0 (by decide) (by decide) (Nat.le_of_ble_eq_true rfl) (Nat.le_of_ble_eq_true rfl) (by decide +kernel) (by decide +kernel) jl_98 rfl ?_
  refine g_putF (k := 2) (a := 42) (b := 44) (ci := 6) (rs := rsX6) dX6_init_22 (by decide +kernel) rfl wsT6 tyX6 tyX6_ok nmX6 (by decide) rfl kfl_X6_19 rfl rfl rfl (tyX6_ok 2 (by decide)) (Or.inr ⟨_, rfl⟩) (by decide) ?_
  rw [je_100]
  refine g_aload_n dX6_init_25 rfl ?_
  refine g_bipush dX6_init_26 (inR_c rfl) (by decide) ?_
  refine g_newaJ (n := 45) (n' := 46) (m := 10) (l' := J101) dX6_init_28 rfl aT_0 kac_0 J_c0 (by decide) (by decide) (Nat.le_of_ble_eq_true rfl) (Nat.le_of_ble_eq_true rfl) (by decide +kernel) (by decide +kernel) jl_100 rfl ?_
  refine g_putF (k := 3) (a := 42) (b := 45) (ci := 6) (rs := rsX6) dX6_init_30 (by decide +kernel) rfl wsT6 tyX6 tyX6_ok nmX6 (by decide) rfl kfl_X6_22 rfl rfl rfl (tyX6_ok 3 (by decide)) (Or.inr ⟨_, rfl⟩) (by decide) ?_
  rw [je_102]
  exact g_return dX6_init_33 rfl hPo
set_option maxRecDepth 100000 in
set_option maxHeartbeats 4000000 in
theorem k_X0_init_46 : CK yX0_init cX0_init (1, 60, 5, 72) 46 47 52 J104 J115 := by
  refine CK.of rfl (fun Po hPo => ?_)
  refine g_aload_n dX0_init_0 rfl ?_
  refine g_objInit dX0_init_1 kml_X0_3 in_obj co_obj (by decide) (by decide) ?_
  refine g_aload_n dX0_init_4 rfl ?_
  refine g_iconst dX0_init_5 (inR_c rfl) ?_
  refine g_putI (k := 0) (a := 46) (ci := 0) (rs := rsX0) dX0_init_6 (by decide +kernel) rfl wsT0 tyX0 tyX0_ok nmX0 (by decide) rfl kfl_X0_9 rfl (tyX0_ok 0 (by decide)) (Or.inl rfl) (fun _ => ?_)
  rw [je_105]
  refine g_aload_n dX0_init_9 rfl ?_
  refine g_bipush dX0_init_10 (inR_c rfl) (by decide) ?_
  refine g_newaJ (n := 47) (n' := 48) (m := 8) (l' := J106) dX0_init_12 rfl aT_0 kac_0 J_c0 (by decide) (by decide) (Nat.le_of_ble_eq_true rfl) (Nat.le_of_ble_eq_true rfl) (by decide +kernel) (by decide +kernel) jl_105 rfl ?_
  refine g_putF (k := 1) (a := 46) (b := 47) (ci := 0) (rs := rsX0) dX0_init_14 (by decide +kernel) rfl wsT0 tyX0 tyX0_ok nmX0 (by decide) rfl kfl_X0_15 rfl rfl rfl (tyX0_ok 1 (by decide)) (Or.inr ⟨_, rfl⟩) (by decide) ?_
  rw [je_107]
  refine g_aload_n dX0_init_17 rfl ?_
  refine g_bipush dX0_init_18 (inR_c rfl) (by decide) ?_
  refine g_newaJ (n := 48) (n' := 49) (m := 8) (l' := J108) dX0_init_20 rfl aT_0 kac_0 J_c0 (by decide) (by decide) (Nat.le_of_ble_eq_true rfl) (Nat.le_of_ble_eq_true rfl) (by decide +kernel) (by decide +kernel) jl_107 rfl ?_
  refine g_putF (k := 2) (a := 46) (b := 48) (ci := 0) (rs := rsX0) dX0_init_22 (by decide +kernel) rfl wsT0 tyX0 tyX0_ok nmX0 (by decide) rfl kfl_X0_19 rfl rfl rfl (tyX0_ok 2 (by decide)) (Or.inr ⟨_, rfl⟩) (by decide) ?_
  rw [je_109]
  refine g_aload_n dX0_init_25 rfl ?_
  refine g_bipush dX0_init_26 (inR_c rfl) (by decide) ?_
  refine g_newaJ (n := 49) (n' := 50) (m := 8) (l' := J110) dX0_init_28 rfl aT_0 kac_0 J_c0 (by decide) (by decide) (Nat.le_of_ble_eq_true rfl) (Nat.le_of_ble_eq_true rfl) (by decide +kernel) (by decide +kernel) jl_109 rfl ?_
  refine g_putF (k := 3) (a := 46) (b := 49) (ci := 0) (rs := rsX0) dX0_init_30 (by decide +kernel) rfl wsT0 tyX0 tyX0_ok nmX0 (by decide) rfl kfl_X0_22 rfl rfl rfl (tyX0_ok 3 (by decide)) (Or.inr ⟨_, rfl⟩) (by decide) ?_
  rw [je_111]
  refine g_aload_n dX0_init_33 rfl ?_
  refine g_bipush dX0_init_34 (inR_c rfl) (by decide) ?_
  refine g_newaJ (n := 50) (n' := 51) (m := 8) (l' := J112) dX0_init_36 rfl aT_0 kac_0 J_c0 (by decide) (by decide) (Nat.le_of_ble_eq_true rfl) (Nat.le_of_ble_eq_true rfl) (by decide +kernel) (by decide +kernel) jl_111 rfl ?_
  refine g_putF (k := 4) (a := 46) (b := 50) (ci := 0) (rs := rsX0) dX0_init_38 (by decide +kernel) rfl wsT0 tyX0 tyX0_ok nmX0 (by decide) rfl kfl_X0_25 rfl rfl rfl (tyX0_ok 4 (by decide)) (Or.inr ⟨_, rfl⟩) (by decide) ?_
  rw [je_113]
  refine g_aload_n dX0_init_41 rfl ?_
  refine g_bipush dX0_init_42 (inR_c rfl) (by decide) ?_
  refine g_newaJ (n := 51) (n' := 52) (m := 40) (l' := J114) dX0_init_44 rfl aT_0 kac_0 J_c0 (by decide) (by decide) (Nat.le_of_ble_eq_true rfl) (Nat.le_of_ble_eq_true rfl) (by decide +kernel) (by decide +kernel) jl_113 rfl ?_
  refine g_putF (k := 5) (a := 46) (b := 51) (ci := 0) (rs := rsX0) dX0_init_46 (by decide +kernel) rfl wsT0 tyX0 tyX0_ok nmX0 (by decide) rfl kfl_X0_28 rfl rfl rfl (tyX0_ok 5 (by decide)) (Or.inr ⟨_, rfl⟩) (by decide) ?_
  rw [je_115]
  exact g_return dX0_init_49 rfl hPo
set_option maxRecDepth 100000 in
set_option maxHeartbeats 4000000 in
theorem k_X4_init_52 : CK yX4_init cX4_init (1, 60, 4, 32) 52 53 57 J117 J126 := by
  refine CK.of rfl (fun Po hPo => ?_)
  refine g_aload_n dX4_init_0 rfl ?_
  refine g_objInit dX4_init_1 kml_X4_3 in_obj co_obj (by decide) (by decide) ?_
  refine g_aload_n dX4_init_4 rfl ?_
  refine g_iconst dX4_init_5 (inR_c rfl) ?_
  refine g_putI (k := 0) (a := 52) (ci := 4) (rs := rsX4) dX4_init_6 (by decide +kernel) rfl wsT4 tyX4 tyX4_ok nmX4 (by decide) rfl kfl_X4_9 rfl (tyX4_ok 0 (by decide)) (Or.inl rfl) (fun _ => ?_)
  rw [je_118]
  refine g_aload_n dX4_init_9 rfl ?_
  refine g_bipush dX4_init_10 (inR_c rfl) (by decide) ?_
  refine g_newaJ (n := 53) (n' := 54) (m := 8) (l' := J119) dX4_init_12 rfl aT_0 kac_0 J_c0 (by decide) (by decide) (Nat.le_of_ble_eq_true rfl) (Nat.le_of_ble_eq_true rfl) (by decide +kernel) (by decide +kernel) jl_118 rfl ?_
  refine g_putF (k := 1) (a := 52) (b := 53) (ci := 4) (rs := rsX4) dX4_init_14 (by decide +kernel) rfl wsT4 tyX4 tyX4_ok nmX4 (by decide) rfl kfl_X4_15 rfl rfl rfl (tyX4_ok 1 (by decide)) (Or.inr ⟨_, rfl⟩) (by decide) ?_
  rw [je_120]
  refine g_aload_n dX4_init_17 rfl ?_
  refine g_bipush dX4_init_18 (inR_c rfl) (by decide) ?_
  refine g_newaJ (n := 54) (n' := 55) (m := 8) (l' := J121) dX4_init_20 rfl aT_0 kac_0 J_c0 (by decide) (by decide) (Nat.le_of_ble_eq_true rfl) (Nat.le_of_ble_eq_true rfl) (by decide +kernel) (by decide +kernel) jl_120 rfl ?_
  refine g_putF (k := 2) (a := 52) (b := 54) (ci := 4) (rs := rsX4) dX4_init_22 (by decide +kernel) rfl wsT4 tyX4 tyX4_ok nmX4 (by decide) rfl kfl_X4_19 rfl rfl rfl (tyX4_ok 2 (by decide)) (Or.inr ⟨_, rfl⟩) (by decide) ?_
  rw [je_122]
  refine g_aload_n dX4_init_25 rfl ?_
  refine g_bipush dX4_init_26 (inR_c rfl) (by decide) ?_
  refine g_newaJ (n := 55) (n' := 56) (m := 8) (l' := J123) dX4_init_28 rfl aT_0 kac_0 J_c0 (by decide) (by decide) (Nat.le_of_ble_eq_true rfl) (Nat.le_of_ble_eq_true rfl) (by decide +kernel) (by decide +kernel) jl_122 rfl ?_
  refine g_putF (k := 3) (a := 52) (b := 55) (ci := 4) (rs := rsX4) dX4_init_30 (by decide +kernel) rfl wsT4 tyX4 tyX4_ok nmX4 (by decide) rfl kfl_X4_22 rfl rfl rfl (tyX4_ok 3 (by decide)) (Or.inr ⟨_, rfl⟩) (by decide) ?_
  rw [je_124]
  refine g_aload_n dX4_init_33 rfl ?_
  refine g_bipush dX4_init_34 (inR_c rfl) (by decide) ?_
  refine g_newaJ (n := 56) (n' := 57) (m := 8) (l' := J125) dX4_init_36 rfl aT_0 kac_0 J_c0 (by decide) (by decide) (Nat.le_of_ble_eq_true rfl) (Nat.le_of_ble_eq_true rfl) (by decide +kernel) (by decide +kernel) jl_124 rfl ?_
  refine g_putF (k := 4) (a := 52) (b := 56) (ci := 4) (rs := rsX4) dX4_init_38 (by decide +kernel) rfl wsT4 tyX4 tyX4_ok nmX4 (by decide) rfl kfl_X4_25 rfl rfl rfl (tyX4_ok 4 (by decide)) (Or.inr ⟨_, rfl⟩) (by decide) ?_
  rw [je_126]
  exact g_return dX4_init_41 rfl hPo
set_option maxRecDepth 100000 in
set_option maxHeartbeats 4000000 in
theorem k_X9_init_41 : CK yX9_init cX9_init (2, 120, 19, 389) 41 42 61 J94 J138 := by
  refine CK.of rfl (fun Po hPo => ?_)
  refine g_aload_n dX9_init_0 rfl ?_
  refine g_objInit dX9_init_1 kml_X9_3 in_obj co_obj (by decide) (by decide) ?_
  refine g_aload_n dX9_init_4 rfl ?_
  refine g_newJ (n := 42) (n' := 43) (rs := rsX6) (l' := J95) dX9_init_5 (ci := 6) rfl wsT6 tyX6 tyX6_ok kcl_X9_9 kins_6 kini_6 rfl kdf_6 (Nat.le_of_ble_eq_true rfl) (Nat.le_of_ble_eq_true rfl) (by decide +kernel) (by decide +kernel) jl_94 rfl ?_
  refine g_dup dX9_init_8 rfl ?_
  refine g_ckN k_X6_init_42 dX9_init_9 kmi_X6_init kin_X6_init rfl (by decide +kernel) rfl (by decide) ?_
  refine g_putF (k := 0) (a := 41) (b := 42) (ci := 9) (rs := rsX9) dX9_init_12 (by decide +kernel) rfl wsT9 tyX9 tyX9_ok nmX9 (by decide) rfl kfl_X9_12 rfl rfl rfl (tyX9_ok 0 (by decide)) (Or.inl ⟨_, rfl⟩) (by decide) ?_
  rw [je_103]
  refine g_aload_n dX9_init_15 rfl ?_
  refine g_newJ (n := 46) (n' := 47) (rs := rsX0) (l' := J104) dX9_init_16 (ci := 0) rfl wsT0 tyX0 tyX0_ok kcl_X9_18 kins_0 kini_0 rfl kdf_0 (Nat.le_of_ble_eq_true rfl) (Nat.le_of_ble_eq_true rfl) (by decide +kernel) (by decide +kernel) jl_103 rfl ?_
  refine g_dup dX9_init_19 rfl ?_
  refine g_ckN k_X0_init_46 dX9_init_20 kmi_X0_init kin_X0_init rfl (by decide +kernel) rfl (by decide) ?_
  refine g_putF (k := 1) (a := 41) (b := 46) (ci := 9) (rs := rsX9) dX9_init_23 (by decide +kernel) rfl wsT9 tyX9 tyX9_ok nmX9 (by decide) rfl kfl_X9_21 rfl rfl rfl (tyX9_ok 1 (by decide)) (Or.inl ⟨_, rfl⟩) (by decide) ?_
  rw [je_116]
  refine g_aload_n dX9_init_26 rfl ?_
  refine g_newJ (n := 52) (n' := 53) (rs := rsX4) (l' := J117) dX9_init_27 (ci := 4) rfl wsT4 tyX4 tyX4_ok kcl_X9_25 kins_4 kini_4 rfl kdf_4 (Nat.le_of_ble_eq_true rfl) (Nat.le_of_ble_eq_true rfl) (by decide +kernel) (by decide +kernel) jl_116 rfl ?_
  refine g_dup dX9_init_30 rfl ?_
  refine g_ckN k_X4_init_52 dX9_init_31 kmi_X4_init kin_X4_init rfl (by decide +kernel) rfl (by decide) ?_
  refine g_putF (k := 2) (a := 41) (b := 52) (ci := 9) (rs := rsX9) dX9_init_34 (by decide +kernel) rfl wsT9 tyX9 tyX9_ok nmX9 (by decide) rfl kfl_X9_28 rfl rfl rfl (tyX9_ok 2 (by decide)) (Or.inl ⟨_, rfl⟩) (by decide) ?_
  rw [je_127]
  refine g_aload_n dX9_init_37 rfl ?_
  refine g_bipush dX9_init_38 (inR_c rfl) (by decide) ?_
  refine g_newaJ (n := 57) (n' := 58) (m := 64) (l' := J128) dX9_init_40 rfl aT_0 kac_0 J_c0 (by decide) (by decide) (Nat.le_of_ble_eq_true rfl) (Nat.le_of_ble_eq_true rfl) (by decide +kernel) (by decide +kernel) jl_127 rfl ?_
  refine g_putF (k := 3) (a := 41) (b := 57) (ci := 9) (rs := rsX9) dX9_init_42 (by decide +kernel) rfl wsT9 tyX9 tyX9_ok nmX9 (by decide) rfl kfl_X9_32 rfl rfl rfl (tyX9_ok 3 (by decide)) (Or.inr ⟨_, rfl⟩) (by decide) ?_
  rw [je_129]
  refine g_aload_n dX9_init_45 rfl ?_
  refine g_bipush dX9_init_46 (inR_c rfl) (by decide) ?_
  refine g_newaJ (n := 58) (n' := 59) (m := 64) (l' := J130) dX9_init_48 rfl aT_0 kac_0 J_c0 (by decide) (by decide) (Nat.le_of_ble_eq_true rfl) (Nat.le_of_ble_eq_true rfl) (by decide +kernel) (by decide +kernel) jl_129 rfl ?_
  refine g_putF (k := 4) (a := 41) (b := 58) (ci := 9) (rs := rsX9) dX9_init_50 (by decide +kernel) rfl wsT9 tyX9 tyX9_ok nmX9 (by decide) rfl kfl_X9_36 rfl rfl rfl (tyX9_ok 4 (by decide)) (Or.inr ⟨_, rfl⟩) (by decide) ?_
  rw [je_131]
  refine g_aload_n dX9_init_53 rfl ?_
  refine g_bipush dX9_init_54 (inR_c rfl) (by decide) ?_
  refine g_newaJ (n := 59) (n' := 60) (m := 100) (l' := J132) dX9_init_56 rfl aT_0 kac_0 J_c0 (by decide) (by decide) (Nat.le_of_ble_eq_true rfl) (Nat.le_of_ble_eq_true rfl) (by decide +kernel) (by decide +kernel) jl_131 rfl ?_
  refine g_putF (k := 5) (a := 41) (b := 59) (ci := 9) (rs := rsX9) dX9_init_58 (by decide +kernel) rfl wsT9 tyX9 tyX9_ok nmX9 (by decide) rfl kfl_X9_39 rfl rfl rfl (tyX9_ok 5 (by decide)) (Or.inr ⟨_, rfl⟩) (by decide) ?_
  rw [je_133]
  refine g_aload_n dX9_init_61 rfl ?_
  refine g_iconst dX9_init_62 (inR_c rfl) ?_
  refine g_putI (k := 6) (a := 41) (ci := 9) (rs := rsX9) dX9_init_63 (by decide +kernel) rfl wsT9 tyX9 tyX9_ok nmX9 (by decide) rfl kfl_X9_42 rfl (tyX9_ok 6 (by decide)) (Or.inl rfl) (fun _ => ?_)
  rw [je_134]
  refine g_aload_n dX9_init_66 rfl ?_
  refine g_iconst dX9_init_67 (inR_c rfl) ?_
  refine g_putI (k := 7) (a := 41) (ci := 9) (rs := rsX9) dX9_init_68 (by decide +kernel) rfl wsT9 tyX9 tyX9_ok nmX9 (by decide) rfl kfl_X9_46 rfl (tyX9_ok 7 (by decide)) (Or.inl rfl) (fun _ => ?_)
  rw [je_135]
  refine g_aload_n dX9_init_71 rfl ?_
  refine g_iconst dX9_init_72 (inR_c rfl) ?_
  refine g_putI (k := 8) (a := 41) (ci := 9) (rs := rsX9) dX9_init_73 (by decide +kernel) rfl wsT9 tyX9 tyX9_ok nmX9 (by decide) rfl kfl_X9_49 rfl (tyX9_ok 8 (by decide)) (Or.inl rfl) (fun _ => ?_)
  rw [je_136]
  refine g_aload_n dX9_init_76 rfl ?_
  refine g_bipush dX9_init_77 (inR_c rfl) (by decide) ?_
  refine g_newaJ (n := 60) (n' := 61) (m := 12) (l' := J137) dX9_init_79 rfl aT_0 kac_0 J_c0 (by decide) (by decide) (Nat.le_of_ble_eq_true rfl) (Nat.le_of_ble_eq_true rfl) (by decide +kernel) (by decide +kernel) jl_136 rfl ?_
  refine g_putF (k := 9) (a := 41) (b := 60) (ci := 9) (rs := rsX9) dX9_init_81 (by decide +kernel) rfl wsT9 tyX9 tyX9_ok nmX9 (by decide) rfl kfl_X9_52 rfl rfl rfl (tyX9_ok 9 (by decide)) (Or.inr ⟨_, rfl⟩) (by decide) ?_
  rw [je_138]
  exact g_return dX9_init_84 rfl hPo
set_option maxRecDepth 100000 in
set_option maxHeartbeats 4000000 in
theorem k_X10_init_61 : CK yX10_init cX10_init (1, 60, 1, 220) 61 62 63 J140 J143 := by
  refine CK.of rfl (fun Po hPo => ?_)
  refine g_aload_n dX10_init_0 rfl ?_
  refine g_objInit dX10_init_1 kml_X10_3 in_obj co_obj (by decide) (by decide) ?_
  refine g_aload_n dX10_init_4 rfl ?_
  refine g_iconst dX10_init_5 (inR_c rfl) ?_
  refine g_putI (k := 0) (a := 61) (ci := 10) (rs := rsX10) dX10_init_6 (by decide +kernel) rfl wsT10 tyX10 tyX10_ok nmX10 (by decide) rfl kfl_X10_9 rfl (tyX10_ok 0 (by decide)) (Or.inl rfl) (fun _ => ?_)
  rw [je_141]
  refine g_aload_n dX10_init_9 rfl ?_
  refine g_sipush dX10_init_10 (inR_c rfl) (by decide) ?_
  refine g_newaJ (n := 62) (n' := 63) (m := 220) (l' := J142) dX10_init_13 rfl aT_0 kac_0 J_c0 (by decide) (by decide) (Nat.le_of_ble_eq_true rfl) (Nat.le_of_ble_eq_true rfl) (by decide +kernel) (by decide +kernel) jl_141 rfl ?_
  refine g_putF (k := 1) (a := 61) (b := 62) (ci := 10) (rs := rsX10) dX10_init_15 (by decide +kernel) rfl wsT10 tyX10 tyX10_ok nmX10 (by decide) rfl kfl_X10_15 rfl rfl rfl (tyX10_ok 1 (by decide)) (Or.inr ⟨_, rfl⟩) (by decide) ?_
  rw [je_143]
  exact g_return dX10_init_18 rfl hPo
set_option maxRecDepth 100000 in
set_option maxHeartbeats 4000000 in
theorem k_X10_init_63 : CK yX10_init cX10_init (1, 60, 1, 220) 63 64 65 J145 J148 := by
  refine CK.of rfl (fun Po hPo => ?_)
  refine g_aload_n dX10_init_0 rfl ?_
  refine g_objInit dX10_init_1 kml_X10_3 in_obj co_obj (by decide) (by decide) ?_
  refine g_aload_n dX10_init_4 rfl ?_
  refine g_iconst dX10_init_5 (inR_c rfl) ?_
  refine g_putI (k := 0) (a := 63) (ci := 10) (rs := rsX10) dX10_init_6 (by decide +kernel) rfl wsT10 tyX10 tyX10_ok nmX10 (by decide) rfl kfl_X10_9 rfl (tyX10_ok 0 (by decide)) (Or.inl rfl) (fun _ => ?_)
  rw [je_146]
  refine g_aload_n dX10_init_9 rfl ?_
  refine g_sipush dX10_init_10 (inR_c rfl) (by decide) ?_
  refine g_newaJ (n := 64) (n' := 65) (m := 220) (l' := J147) dX10_init_13 rfl aT_0 kac_0 J_c0 (by decide) (by decide) (Nat.le_of_ble_eq_true rfl) (Nat.le_of_ble_eq_true rfl) (by decide +kernel) (by decide +kernel) jl_146 rfl ?_
  refine g_putF (k := 1) (a := 63) (b := 64) (ci := 10) (rs := rsX10) dX10_init_15 (by decide +kernel) rfl wsT10 tyX10 tyX10_ok nmX10 (by decide) rfl kfl_X10_15 rfl rfl rfl (tyX10_ok 1 (by decide)) (Or.inr ⟨_, rfl⟩) (by decide) ?_
  rw [je_148]
  exact g_return dX10_init_18 rfl hPo
set_option maxRecDepth 100000 in
set_option maxHeartbeats 4000000 in
theorem k_X5_init_65 : CK yX5_init cX5_init (1, 60, 1, 200) 65 66 67 J150 J156 := by
  refine CK.of rfl (fun Po hPo => ?_)
  refine g_aload_n dX5_init_0 rfl ?_
  refine g_objInit dX5_init_1 kml_X5_3 in_obj co_obj (by decide) (by decide) ?_
  refine g_aload_n dX5_init_4 rfl ?_
  refine g_sipush dX5_init_5 (inR_c rfl) (by decide) ?_
  refine g_newaJ (n := 66) (n' := 67) (m := 200) (l' := J151) dX5_init_8 rfl aT_0 kac_0 J_c0 (by decide) (by decide) (Nat.le_of_ble_eq_true rfl) (Nat.le_of_ble_eq_true rfl) (by decide +kernel) (by decide +kernel) jl_150 rfl ?_
  refine g_putF (k := 0) (a := 65) (b := 66) (ci := 5) (rs := rsX5) dX5_init_10 (by decide +kernel) rfl wsT5 tyX5 tyX5_ok nmX5 (by decide) rfl kfl_X5_9 rfl rfl rfl (tyX5_ok 0 (by decide)) (Or.inr ⟨_, rfl⟩) (by decide) ?_
  rw [je_152]
  refine g_aload_n dX5_init_13 rfl ?_
  refine g_iconst dX5_init_14 (inR_c rfl) ?_
  refine g_putI (k := 1) (a := 65) (ci := 5) (rs := rsX5) dX5_init_15 (by decide +kernel) rfl wsT5 tyX5 tyX5_ok nmX5 (by decide) rfl kfl_X5_15 rfl (tyX5_ok 1 (by decide)) (Or.inl rfl) (fun _ => ?_)
  rw [je_153]
  refine g_aload_n dX5_init_18 rfl ?_
  refine g_iconst dX5_init_19 (inR_c rfl) ?_
  refine g_putI (k := 2) (a := 65) (ci := 5) (rs := rsX5) dX5_init_20 (by decide +kernel) rfl wsT5 tyX5 tyX5_ok nmX5 (by decide) rfl kfl_X5_19 rfl (tyX5_ok 2 (by decide)) (Or.inl rfl) (fun _ => ?_)
  rw [je_154]
  refine g_aload_n dX5_init_23 rfl ?_
  refine g_iconst dX5_init_24 (inR_c rfl) ?_
  refine g_putI (k := 3) (a := 65) (ci := 5) (rs := rsX5) dX5_init_25 (by decide +kernel) rfl wsT5 tyX5 tyX5_ok nmX5 (by decide) rfl kfl_X5_22 rfl (tyX5_ok 3 (by decide)) (Or.inl rfl) (fun _ => ?_)
  rw [je_155]
  refine g_aload_n dX5_init_28 rfl ?_
  refine g_iconst dX5_init_29 (inR_c rfl) ?_
  refine g_putI (k := 4) (a := 65) (ci := 5) (rs := rsX5) dX5_init_30 (by decide +kernel) rfl wsT5 tyX5 tyX5_ok nmX5 (by decide) rfl kfl_X5_25 rfl (tyX5_ok 4 (by decide)) (Or.inl rfl) (fun _ => ?_)
  rw [je_156]
  exact g_return dX5_init_33 rfl hPo
set_option maxRecDepth 100000 in
set_option maxHeartbeats 4000000 in
theorem k_X7_init_67 : CK yX7_init cX7_init (1, 60, 3, 9) 67 68 71 J158 J167 := by
  refine CK.of rfl (fun Po hPo => ?_)
  refine g_aload_n dX7_init_0 rfl ?_
  refine g_objInit dX7_init_1 kml_X7_3 in_obj co_obj (by decide) (by decide) ?_
  refine g_aload_n dX7_init_4 rfl ?_
  refine g_iconst dX7_init_5 (inR_c rfl) ?_
  refine g_putI (k := 0) (a := 67) (ci := 7) (rs := rsX7) dX7_init_6 (by decide +kernel) rfl wsT7 tyX7 tyX7_ok nmX7 (by decide) rfl kfl_X7_9 rfl (tyX7_ok 0 (by decide)) (Or.inl rfl) (fun _ => ?_)
  rw [je_159]
  refine g_aload_n dX7_init_9 rfl ?_
  refine g_iconst dX7_init_10 (inR_c rfl) ?_
  refine g_putI (k := 1) (a := 67) (ci := 7) (rs := rsX7) dX7_init_11 (by decide +kernel) rfl wsT7 tyX7 tyX7_ok nmX7 (by decide) rfl kfl_X7_15 rfl (tyX7_ok 1 (by decide)) (Or.inl rfl) (fun _ => ?_)
  rw [je_160]
  refine g_aload_n dX7_init_14 rfl ?_
  refine g_iconst dX7_init_15 (inR_c rfl) ?_
  refine g_newaJ (n := 68) (n' := 69) (m := 3) (l' := J161) dX7_init_16 rfl aT_0 kac_0 J_c0 (by decide) (by decide) (Nat.le_of_ble_eq_true rfl) (Nat.le_of_ble_eq_true rfl) (by decide +kernel) (by decide +kernel) jl_160 rfl ?_
  refine g_putF (k := 2) (a := 67) (b := 68) (ci := 7) (rs := rsX7) dX7_init_18 (by decide +kernel) rfl wsT7 tyX7 tyX7_ok nmX7 (by decide) rfl kfl_X7_18 rfl rfl rfl (tyX7_ok 2 (by decide)) (Or.inr ⟨_, rfl⟩) (by decide) ?_
  rw [je_162]
  refine g_aload_n dX7_init_21 rfl ?_
  refine g_iconst dX7_init_22 (inR_c rfl) ?_
  refine g_putI (k := 3) (a := 67) (ci := 7) (rs := rsX7) dX7_init_23 (by decide +kernel) rfl wsT7 tyX7 tyX7_ok nmX7 (by decide) rfl kfl_X7_22 rfl (tyX7_ok 3 (by decide)) (Or.inl rfl) (fun _ => ?_)
  rw [je_163]
  refine g_aload_n dX7_init_26 rfl ?_
  refine g_iconst dX7_init_27 (inR_c rfl) ?_
  refine g_newaJ (n := 69) (n' := 70) (m := 3) (l' := J164) dX7_init_28 rfl aT_0 kac_0 J_c0 (by decide) (by decide) (Nat.le_of_ble_eq_true rfl) (Nat.le_of_ble_eq_true rfl) (by decide +kernel) (by decide +kernel) jl_163 rfl ?_
  refine g_putF (k := 4) (a := 67) (b := 69) (ci := 7) (rs := rsX7) dX7_init_30 (by decide +kernel) rfl wsT7 tyX7 tyX7_ok nmX7 (by decide) rfl kfl_X7_25 rfl rfl rfl (tyX7_ok 4 (by decide)) (Or.inr ⟨_, rfl⟩) (by decide) ?_
  rw [je_165]
  refine g_aload_n dX7_init_33 rfl ?_
  refine g_iconst dX7_init_34 (inR_c rfl) ?_
  refine g_newaJ (n := 70) (n' := 71) (m := 3) (l' := J166) dX7_init_35 rfl aT_0 kac_0 J_c0 (by decide) (by decide) (Nat.le_of_ble_eq_true rfl) (Nat.le_of_ble_eq_true rfl) (by decide +kernel) (by decide +kernel) jl_165 rfl ?_
  refine g_putF (k := 5) (a := 67) (b := 70) (ci := 7) (rs := rsX7) dX7_init_37 (by decide +kernel) rfl wsT7 tyX7 tyX7_ok nmX7 (by decide) rfl kfl_X7_28 rfl rfl rfl (tyX7_ok 5 (by decide)) (Or.inr ⟨_, rfl⟩) (by decide) ?_
  rw [je_167]
  exact g_return dX7_init_40 rfl hPo
set_option maxRecDepth 100000 in
set_option maxHeartbeats 4000000 in
theorem k_X3_init_71 : CK yX3_init cX3_init (1, 60, 3, 2320) 71 72 75 J169 J176 := by
  refine CK.of rfl (fun Po hPo => ?_)
  refine g_aload_n dX3_init_0 rfl ?_
  refine g_objInit dX3_init_1 kml_X3_3 in_obj co_obj (by decide) (by decide) ?_
  refine g_aload_n dX3_init_4 rfl ?_
  refine g_iconst dX3_init_5 (inR_c rfl) ?_
  refine g_putI (k := 0) (a := 71) (ci := 3) (rs := rsX3) dX3_init_6 (by decide +kernel) rfl wsT3 tyX3 tyX3_ok nmX3 (by decide) rfl kfl_X3_9 rfl (tyX3_ok 0 (by decide)) (Or.inl rfl) (fun _ => ?_)
  rw [je_170]
  refine g_aload_n dX3_init_9 rfl ?_
  refine g_bipush dX3_init_10 (inR_c rfl) (by decide) ?_
  refine g_newaJ (n := 72) (n' := 73) (m := 8) (l' := J171) dX3_init_12 rfl aT_0 kac_0 J_c0 (by decide) (by decide) (Nat.le_of_ble_eq_true rfl) (Nat.le_of_ble_eq_true rfl) (by decide +kernel) (by decide +kernel) jl_170 rfl ?_
  refine g_putF (k := 1) (a := 71) (b := 72) (ci := 3) (rs := rsX3) dX3_init_14 (by decide +kernel) rfl wsT3 tyX3 tyX3_ok nmX3 (by decide) rfl kfl_X3_15 rfl rfl rfl (tyX3_ok 1 (by decide)) (Or.inr ⟨_, rfl⟩) (by decide) ?_
  rw [je_172]
  refine g_aload_n dX3_init_17 rfl ?_
  refine g_bipush dX3_init_18 (inR_c rfl) (by decide) ?_
  refine g_newaJ (n := 73) (n' := 74) (m := 8) (l' := J173) dX3_init_20 rfl aT_0 kac_0 J_c0 (by decide) (by decide) (Nat.le_of_ble_eq_true rfl) (Nat.le_of_ble_eq_true rfl) (by decide +kernel) (by decide +kernel) jl_172 rfl ?_
  refine g_putF (k := 2) (a := 71) (b := 73) (ci := 3) (rs := rsX3) dX3_init_22 (by decide +kernel) rfl wsT3 tyX3 tyX3_ok nmX3 (by decide) rfl kfl_X3_19 rfl rfl rfl (tyX3_ok 2 (by decide)) (Or.inr ⟨_, rfl⟩) (by decide) ?_
  rw [je_174]
  refine g_aload_n dX3_init_25 rfl ?_
  refine g_sipush dX3_init_26 (inR_c rfl) (by decide) ?_
  refine g_newaJ (n := 74) (n' := 75) (m := 2304) (l' := J175) dX3_init_29 rfl aT_0 kac_0 J_c0 (by decide) (by decide) (Nat.le_of_ble_eq_true rfl) (Nat.le_of_ble_eq_true rfl) (by decide +kernel) (by decide +kernel) jl_174 rfl ?_
  refine g_putF (k := 3) (a := 71) (b := 74) (ci := 3) (rs := rsX3) dX3_init_31 (by decide +kernel) rfl wsT3 tyX3 tyX3_ok nmX3 (by decide) rfl kfl_X3_22 rfl rfl rfl (tyX3_ok 3 (by decide)) (Or.inr ⟨_, rfl⟩) (by decide) ?_
  rw [je_176]
  exact g_return dX3_init_34 rfl hPo
set_option maxRecDepth 100000 in
set_option maxHeartbeats 4000000 in
theorem k_X8_init_75 : CK yX8_init cX8_init (1, 60, 2, 135) 75 76 78 J178 J183 := by
  refine CK.of rfl (fun Po hPo => ?_)
  refine g_aload_n dX8_init_0 rfl ?_
  refine g_objInit dX8_init_1 kml_X8_3 in_obj co_obj (by decide) (by decide) ?_
  refine g_aload_n dX8_init_4 rfl ?_
  refine g_iconst dX8_init_5 (inR_c rfl) ?_
  refine g_putI (k := 0) (a := 75) (ci := 8) (rs := rsX8) dX8_init_6 (by decide +kernel) rfl wsT8 tyX8 tyX8_ok nmX8 (by decide) rfl kfl_X8_9 rfl (tyX8_ok 0 (by decide)) (Or.inl rfl) (fun _ => ?_)
  rw [je_179]
  refine g_aload_n dX8_init_9 rfl ?_
  refine g_bipush dX8_init_10 (inR_c rfl) (by decide) ?_
  refine g_newaJ (n := 76) (n' := 77) (m := 7) (l' := J180) dX8_init_12 rfl aT_0 kac_0 J_c0 (by decide) (by decide) (Nat.le_of_ble_eq_true rfl) (Nat.le_of_ble_eq_true rfl) (by decide +kernel) (by decide +kernel) jl_179 rfl ?_
  refine g_putF (k := 1) (a := 75) (b := 76) (ci := 8) (rs := rsX8) dX8_init_14 (by decide +kernel) rfl wsT8 tyX8 tyX8_ok nmX8 (by decide) rfl kfl_X8_15 rfl rfl rfl (tyX8_ok 1 (by decide)) (Or.inr ⟨_, rfl⟩) (by decide) ?_
  rw [je_181]
  refine g_aload_n dX8_init_17 rfl ?_
  refine g_sipush dX8_init_18 (inR_c rfl) (by decide) ?_
  refine g_newaJ (n := 77) (n' := 78) (m := 128) (l' := J182) dX8_init_21 rfl aT_0 kac_0 J_c0 (by decide) (by decide) (Nat.le_of_ble_eq_true rfl) (Nat.le_of_ble_eq_true rfl) (by decide +kernel) (by decide +kernel) jl_181 rfl ?_
  refine g_putF (k := 2) (a := 75) (b := 77) (ci := 8) (rs := rsX8) dX8_init_23 (by decide +kernel) rfl wsT8 tyX8 tyX8_ok nmX8 (by decide) rfl kfl_X8_19 rfl rfl rfl (tyX8_ok 2 (by decide)) (Or.inr ⟨_, rfl⟩) (by decide) ?_
  rw [je_183]
  exact g_return dX8_init_26 rfl hPo
set_option maxRecDepth 100000 in
set_option maxHeartbeats 4000000 in
theorem k_X1_init_78 : CK yX1_init cX1_init (1, 60, 3, 24) 78 79 82 J185 J192 := by
  refine CK.of rfl (fun Po hPo => ?_)
  refine g_aload_n dX1_init_0 rfl ?_
  refine g_objInit dX1_init_1 kml_X1_3 in_obj co_obj (by decide) (by decide) ?_
  refine g_aload_n dX1_init_4 rfl ?_
  refine g_iconst dX1_init_5 (inR_c rfl) ?_
  refine g_putI (k := 0) (a := 78) (ci := 1) (rs := rsX1) dX1_init_6 (by decide +kernel) rfl wsT1 tyX1 tyX1_ok nmX1 (by decide) rfl kfl_X1_9 rfl (tyX1_ok 0 (by decide)) (Or.inl rfl) (fun _ => ?_)
  rw [je_186]
  refine g_aload_n dX1_init_9 rfl ?_
  refine g_bipush dX1_init_10 (inR_c rfl) (by decide) ?_
  refine g_newaJ (n := 79) (n' := 80) (m := 8) (l' := J187) dX1_init_12 rfl aT_0 kac_0 J_c0 (by decide) (by decide) (Nat.le_of_ble_eq_true rfl) (Nat.le_of_ble_eq_true rfl) (by decide +kernel) (by decide +kernel) jl_186 rfl ?_
  refine g_putF (k := 1) (a := 78) (b := 79) (ci := 1) (rs := rsX1) dX1_init_14 (by decide +kernel) rfl wsT1 tyX1 tyX1_ok nmX1 (by decide) rfl kfl_X1_15 rfl rfl rfl (tyX1_ok 1 (by decide)) (Or.inr ⟨_, rfl⟩) (by decide) ?_
  rw [je_188]
  refine g_aload_n dX1_init_17 rfl ?_
  refine g_bipush dX1_init_18 (inR_c rfl) (by decide) ?_
  refine g_newaJ (n := 80) (n' := 81) (m := 8) (l' := J189) dX1_init_20 rfl aT_0 kac_0 J_c0 (by decide) (by decide) (Nat.le_of_ble_eq_true rfl) (Nat.le_of_ble_eq_true rfl) (by decide +kernel) (by decide +kernel) jl_188 rfl ?_
  refine g_putF (k := 2) (a := 78) (b := 80) (ci := 1) (rs := rsX1) dX1_init_22 (by decide +kernel) rfl wsT1 tyX1 tyX1_ok nmX1 (by decide) rfl kfl_X1_19 rfl rfl rfl (tyX1_ok 2 (by decide)) (Or.inr ⟨_, rfl⟩) (by decide) ?_
  rw [je_190]
  refine g_aload_n dX1_init_25 rfl ?_
  refine g_bipush dX1_init_26 (inR_c rfl) (by decide) ?_
  refine g_newaJ (n := 81) (n' := 82) (m := 8) (l' := J191) dX1_init_28 rfl aT_0 kac_0 J_c0 (by decide) (by decide) (Nat.le_of_ble_eq_true rfl) (Nat.le_of_ble_eq_true rfl) (by decide +kernel) (by decide +kernel) jl_190 rfl ?_
  refine g_putF (k := 3) (a := 78) (b := 81) (ci := 1) (rs := rsX1) dX1_init_30 (by decide +kernel) rfl wsT1 tyX1 tyX1_ok nmX1 (by decide) rfl kfl_X1_22 rfl rfl rfl (tyX1_ok 3 (by decide)) (Or.inr ⟨_, rfl⟩) (by decide) ?_
  rw [je_192]
  exact g_return dX1_init_33 rfl hPo
set_option maxRecDepth 100000 in
set_option maxHeartbeats 4000000 in
theorem k_X2_init_82 : CK yX2_init cX2_init (1, 60, 7, 496) 82 83 90 J194 J210 := by
  refine CK.of rfl (fun Po hPo => ?_)
  refine g_aload_n dX2_init_0 rfl ?_
  refine g_objInit dX2_init_1 kml_X2_3 in_obj co_obj (by decide) (by decide) ?_
  refine g_aload_n dX2_init_4 rfl ?_
  refine g_iconst dX2_init_5 (inR_c rfl) ?_
  refine g_putI (k := 0) (a := 82) (ci := 2) (rs := rsX2) dX2_init_6 (by decide +kernel) rfl wsT2 tyX2 tyX2_ok nmX2 (by decide) rfl kfl_X2_9 rfl (tyX2_ok 0 (by decide)) (Or.inl rfl) (fun _ => ?_)
  rw [je_195]
  refine g_aload_n dX2_init_9 rfl ?_
  refine g_iconst dX2_init_10 (inR_c rfl) ?_
  refine g_putI (k := 1) (a := 82) (ci := 2) (rs := rsX2) dX2_init_11 (by decide +kernel) rfl wsT2 tyX2 tyX2_ok nmX2 (by decide) rfl kfl_X2_15 rfl (tyX2_ok 1 (by decide)) (Or.inl rfl) (fun _ => ?_)
  rw [je_196]
  refine g_aload_n dX2_init_14 rfl ?_
  refine g_bipush dX2_init_15 (inR_c rfl) (by decide) ?_
  refine g_newaJ (n := 83) (n' := 84) (m := 14) (l' := J197) dX2_init_17 rfl aT_0 kac_0 J_c0 (by decide) (by decide) (Nat.le_of_ble_eq_true rfl) (Nat.le_of_ble_eq_true rfl) (by decide +kernel) (by decide +kernel) jl_196 rfl ?_
  refine g_putF (k := 2) (a := 82) (b := 83) (ci := 2) (rs := rsX2) dX2_init_19 (by decide +kernel) rfl wsT2 tyX2 tyX2_ok nmX2 (by decide) rfl kfl_X2_18 rfl rfl rfl (tyX2_ok 2 (by decide)) (Or.inr ⟨_, rfl⟩) (by decide) ?_
  rw [je_198]
  refine g_aload_n dX2_init_22 rfl ?_
  refine g_bipush dX2_init_23 (inR_c rfl) (by decide) ?_
  refine g_newaJ (n := 84) (n' := 85) (m := 14) (l' := J199) dX2_init_25 rfl aT_0 kac_0 J_c0 (by decide) (by decide) (Nat.le_of_ble_eq_true rfl) (Nat.le_of_ble_eq_true rfl) (by decide +kernel) (by decide +kernel) jl_198 rfl ?_
  refine g_putF (k := 3) (a := 82) (b := 84) (ci := 2) (rs := rsX2) dX2_init_27 (by decide +kernel) rfl wsT2 tyX2 tyX2_ok nmX2 (by decide) rfl kfl_X2_22 rfl rfl rfl (tyX2_ok 3 (by decide)) (Or.inr ⟨_, rfl⟩) (by decide) ?_
  rw [je_200]
  refine g_aload_n dX2_init_30 rfl ?_
  refine g_bipush dX2_init_31 (inR_c rfl) (by decide) ?_
  refine g_newaJ (n := 85) (n' := 86) (m := 14) (l' := J201) dX2_init_33 rfl aT_0 kac_0 J_c0 (by decide) (by decide) (Nat.le_of_ble_eq_true rfl) (Nat.le_of_ble_eq_true rfl) (by decide +kernel) (by decide +kernel) jl_200 rfl ?_
  refine g_putF (k := 4) (a := 82) (b := 85) (ci := 2) (rs := rsX2) dX2_init_35 (by decide +kernel) rfl wsT2 tyX2 tyX2_ok nmX2 (by decide) rfl kfl_X2_25 rfl rfl rfl (tyX2_ok 4 (by decide)) (Or.inr ⟨_, rfl⟩) (by decide) ?_
  rw [je_202]
  refine g_aload_n dX2_init_38 rfl ?_
  refine g_bipush dX2_init_39 (inR_c rfl) (by decide) ?_
  refine g_newaJ (n := 86) (n' := 87) (m := 14) (l' := J203) dX2_init_41 rfl aT_0 kac_0 J_c0 (by decide) (by decide) (Nat.le_of_ble_eq_true rfl) (Nat.le_of_ble_eq_true rfl) (by decide +kernel) (by decide +kernel) jl_202 rfl ?_
  refine g_putF (k := 5) (a := 82) (b := 86) (ci := 2) (rs := rsX2) dX2_init_43 (by decide +kernel) rfl wsT2 tyX2 tyX2_ok nmX2 (by decide) rfl kfl_X2_28 rfl rfl rfl (tyX2_ok 5 (by decide)) (Or.inr ⟨_, rfl⟩) (by decide) ?_
  rw [je_204]
  refine g_aload_n dX2_init_46 rfl ?_
  refine g_sipush dX2_init_47 (inR_c rfl) (by decide) ?_
  refine g_newaJ (n := 87) (n' := 88) (m := 200) (l' := J205) dX2_init_50 rfl aT_0 kac_0 J_c0 (by decide) (by decide) (Nat.le_of_ble_eq_true rfl) (Nat.le_of_ble_eq_true rfl) (by decide +kernel) (by decide +kernel) jl_204 rfl ?_
  refine g_putF (k := 6) (a := 82) (b := 87) (ci := 2) (rs := rsX2) dX2_init_52 (by decide +kernel) rfl wsT2 tyX2 tyX2_ok nmX2 (by decide) rfl kfl_X2_31 rfl rfl rfl (tyX2_ok 6 (by decide)) (Or.inr ⟨_, rfl⟩) (by decide) ?_
  rw [je_206]
  refine g_aload_n dX2_init_55 rfl ?_
  refine g_sipush dX2_init_56 (inR_c rfl) (by decide) ?_
  refine g_newaJ (n := 88) (n' := 89) (m := 200) (l' := J207) dX2_init_59 rfl aT_0 kac_0 J_c0 (by decide) (by decide) (Nat.le_of_ble_eq_true rfl) (Nat.le_of_ble_eq_true rfl) (by decide +kernel) (by decide +kernel) jl_206 rfl ?_
  refine g_putF (k := 7) (a := 82) (b := 88) (ci := 2) (rs := rsX2) dX2_init_61 (by decide +kernel) rfl wsT2 tyX2 tyX2_ok nmX2 (by decide) rfl kfl_X2_34 rfl rfl rfl (tyX2_ok 7 (by decide)) (Or.inr ⟨_, rfl⟩) (by decide) ?_
  rw [je_208]
  refine g_aload_n dX2_init_64 rfl ?_
  refine g_bipush dX2_init_65 (inR_c rfl) (by decide) ?_
  refine g_newaJ (n := 89) (n' := 90) (m := 40) (l' := J209) dX2_init_67 rfl aT_0 kac_0 J_c0 (by decide) (by decide) (Nat.le_of_ble_eq_true rfl) (Nat.le_of_ble_eq_true rfl) (by decide +kernel) (by decide +kernel) jl_208 rfl ?_
  refine g_putF (k := 8) (a := 82) (b := 89) (ci := 2) (rs := rsX2) dX2_init_69 (by decide +kernel) rfl wsT2 tyX2 tyX2_ok nmX2 (by decide) rfl kfl_X2_37 rfl rfl rfl (tyX2_ok 8 (by decide)) (Or.inr ⟨_, rfl⟩) (by decide) ?_
  rw [je_210]
  exact g_return dX2_init_72 rfl hPo
set_option maxRecDepth 100000 in
set_option maxHeartbeats 4000000 in
theorem k_X2_init_90 : CK yX2_init cX2_init (1, 60, 7, 496) 90 91 98 J212 J228 := by
  refine CK.of rfl (fun Po hPo => ?_)
  refine g_aload_n dX2_init_0 rfl ?_
  refine g_objInit dX2_init_1 kml_X2_3 in_obj co_obj (by decide) (by decide) ?_
  refine g_aload_n dX2_init_4 rfl ?_
  refine g_iconst dX2_init_5 (inR_c rfl) ?_
  refine g_putI (k := 0) (a := 90) (ci := 2) (rs := rsX2) dX2_init_6 (by decide +kernel) rfl wsT2 tyX2 tyX2_ok nmX2 (by decide) rfl kfl_X2_9 rfl (tyX2_ok 0 (by decide)) (Or.inl rfl) (fun _ => ?_)
  rw [je_213]
  refine g_aload_n dX2_init_9 rfl ?_
  refine g_iconst dX2_init_10 (inR_c rfl) ?_
  refine g_putI (k := 1) (a := 90) (ci := 2) (rs := rsX2) dX2_init_11 (by decide +kernel) rfl wsT2 tyX2 tyX2_ok nmX2 (by decide) rfl kfl_X2_15 rfl (tyX2_ok 1 (by decide)) (Or.inl rfl) (fun _ => ?_)
  rw [je_214]
  refine g_aload_n dX2_init_14 rfl ?_
  refine g_bipush dX2_init_15 (inR_c rfl) (by decide) ?_
  refine g_newaJ (n := 91) (n' := 92) (m := 14) (l' := J215) dX2_init_17 rfl aT_0 kac_0 J_c0 (by decide) (by decide) (Nat.le_of_ble_eq_true rfl) (Nat.le_of_ble_eq_true rfl) (by decide +kernel) (by decide +kernel) jl_214 rfl ?_
  refine g_putF (k := 2) (a := 90) (b := 91) (ci := 2) (rs := rsX2) dX2_init_19 (by decide +kernel) rfl wsT2 tyX2 tyX2_ok nmX2 (by decide) rfl kfl_X2_18 rfl rfl rfl (tyX2_ok 2 (by decide)) (Or.inr ⟨_, rfl⟩) (by decide) ?_
  rw [je_216]
  refine g_aload_n dX2_init_22 rfl ?_
  refine g_bipush dX2_init_23 (inR_c rfl) (by decide) ?_
  refine g_newaJ (n := 92) (n' := 93) (m := 14) (l' := J217) dX2_init_25 rfl aT_0 kac_0 J_c0 (by decide) (by decide) (Nat.le_of_ble_eq_true rfl) (Nat.le_of_ble_eq_true rfl) (by decide +kernel) (by decide +kernel) jl_216 rfl ?_
  refine g_putF (k := 3) (a := 90) (b := 92) (ci := 2) (rs := rsX2) dX2_init_27 (by decide +kernel) rfl wsT2 tyX2 tyX2_ok nmX2 (by decide) rfl kfl_X2_22 rfl rfl rfl (tyX2_ok 3 (by decide)) (Or.inr ⟨_, rfl⟩) (by decide) ?_
  rw [je_218]
  refine g_aload_n dX2_init_30 rfl ?_
  refine g_bipush dX2_init_31 (inR_c rfl) (by decide) ?_
  refine g_newaJ (n := 93) (n' := 94) (m := 14) (l' := J219) dX2_init_33 rfl aT_0 kac_0 J_c0 (by decide) (by decide) (Nat.le_of_ble_eq_true rfl) (Nat.le_of_ble_eq_true rfl) (by decide +kernel) (by decide +kernel) jl_218 rfl ?_
  refine g_putF (k := 4) (a := 90) (b := 93) (ci := 2) (rs := rsX2) dX2_init_35 (by decide +kernel) rfl wsT2 tyX2 tyX2_ok nmX2 (by decide) rfl kfl_X2_25 rfl rfl rfl (tyX2_ok 4 (by decide)) (Or.inr ⟨_, rfl⟩) (by decide) ?_
  rw [je_220]
  refine g_aload_n dX2_init_38 rfl ?_
  refine g_bipush dX2_init_39 (inR_c rfl) (by decide) ?_
  refine g_newaJ (n := 94) (n' := 95) (m := 14) (l' := J221) dX2_init_41 rfl aT_0 kac_0 J_c0 (by decide) (by decide) (Nat.le_of_ble_eq_true rfl) (Nat.le_of_ble_eq_true rfl) (by decide +kernel) (by decide +kernel) jl_220 rfl ?_
  refine g_putF (k := 5) (a := 90) (b := 94) (ci := 2) (rs := rsX2) dX2_init_43 (by decide +kernel) rfl wsT2 tyX2 tyX2_ok nmX2 (by decide) rfl kfl_X2_28 rfl rfl rfl (tyX2_ok 5 (by decide)) (Or.inr ⟨_, rfl⟩) (by decide) ?_
  rw [je_222]
  refine g_aload_n dX2_init_46 rfl ?_
  refine g_sipush dX2_init_47 (inR_c rfl) (by decide) ?_
  refine g_newaJ (n := 95) (n' := 96) (m := 200) (l' := J223) dX2_init_50 rfl aT_0 kac_0 J_c0 (by decide) (by decide) (Nat.le_of_ble_eq_true rfl) (Nat.le_of_ble_eq_true rfl) (by decide +kernel) (by decide +kernel) jl_222 rfl ?_
  refine g_putF (k := 6) (a := 90) (b := 95) (ci := 2) (rs := rsX2) dX2_init_52 (by decide +kernel) rfl wsT2 tyX2 tyX2_ok nmX2 (by decide) rfl kfl_X2_31 rfl rfl rfl (tyX2_ok 6 (by decide)) (Or.inr ⟨_, rfl⟩) (by decide) ?_
  rw [je_224]
  refine g_aload_n dX2_init_55 rfl ?_
  refine g_sipush dX2_init_56 (inR_c rfl) (by decide) ?_
  refine g_newaJ (n := 96) (n' := 97) (m := 200) (l' := J225) dX2_init_59 rfl aT_0 kac_0 J_c0 (by decide) (by decide) (Nat.le_of_ble_eq_true rfl) (Nat.le_of_ble_eq_true rfl) (by decide +kernel) (by decide +kernel) jl_224 rfl ?_
  refine g_putF (k := 7) (a := 90) (b := 96) (ci := 2) (rs := rsX2) dX2_init_61 (by decide +kernel) rfl wsT2 tyX2 tyX2_ok nmX2 (by decide) rfl kfl_X2_34 rfl rfl rfl (tyX2_ok 7 (by decide)) (Or.inr ⟨_, rfl⟩) (by decide) ?_
  rw [je_226]
  refine g_aload_n dX2_init_64 rfl ?_
  refine g_bipush dX2_init_65 (inR_c rfl) (by decide) ?_
  refine g_newaJ (n := 97) (n' := 98) (m := 40) (l' := J227) dX2_init_67 rfl aT_0 kac_0 J_c0 (by decide) (by decide) (Nat.le_of_ble_eq_true rfl) (Nat.le_of_ble_eq_true rfl) (by decide +kernel) (by decide +kernel) jl_226 rfl ?_
  refine g_putF (k := 8) (a := 90) (b := 97) (ci := 2) (rs := rsX2) dX2_init_69 (by decide +kernel) rfl wsT2 tyX2 tyX2_ok nmX2 (by decide) rfl kfl_X2_37 rfl rfl rfl (tyX2_ok 8 (by decide)) (Or.inr ⟨_, rfl⟩) (by decide) ?_
  rw [je_228]
  exact g_return dX2_init_72 rfl hPo
set_option maxRecDepth 100000 in
set_option maxHeartbeats 4000000 in
theorem k_X11_init_0 : CK yX11_init cX11_init (3, 180, 97, 5361) 0 1 98 J1 J230 := by
  refine CK.of rfl (fun Po hPo => ?_)
  refine g_aload_n dX11_init_0 rfl ?_
  refine g_objInit dX11_init_1 kml_X11_1 in_obj co_obj (by decide) (by decide) ?_
  refine g_aload_n dX11_init_4 rfl ?_
  refine g_newJ (n := 1) (n' := 2) (rs := rsX9) (l' := J2) dX11_init_5 (ci := 9) rfl wsT9 tyX9 tyX9_ok kcl_X11_7 kins_9 kini_9 rfl kdf_9 (Nat.le_of_ble_eq_true rfl) (Nat.le_of_ble_eq_true rfl) (by decide +kernel) (by decide +kernel) jl_1 rfl ?_
  refine g_dup dX11_init_8 rfl ?_
  refine g_ckN k_X9_init_1 dX11_init_9 kmi_X9_init kin_X9_init rfl (by decide +kernel) rfl (by decide) ?_
  refine g_putF (k := 0) (a := 0) (b := 1) (ci := 11) (rs := rsX11) dX11_init_12 (by decide +kernel) rfl wsT11 tyX11 tyX11_ok nmX11 (by decide) rfl kfl_X11_10 rfl rfl rfl (tyX11_ok 0 (by decide)) (Or.inl ⟨_, rfl⟩) (by decide) ?_
  rw [je_47]
  refine g_aload_n dX11_init_15 rfl ?_
  refine g_newJ (n := 21) (n' := 22) (rs := rsX9) (l' := J48) dX11_init_16 (ci := 9) rfl wsT9 tyX9 tyX9_ok kcl_X11_7 kins_9 kini_9 rfl kdf_9 (Nat.le_of_ble_eq_true rfl) (Nat.le_of_ble_eq_true rfl) (by decide +kernel) (by decide +kernel) jl_47 rfl ?_
  refine g_dup dX11_init_19 rfl ?_
  refine g_ckN k_X9_init_21 dX11_init_20 kmi_X9_init kin_X9_init rfl (by decide +kernel) rfl (by decide) ?_
  refine g_putF (k := 1) (a := 0) (b := 21) (ci := 11) (rs := rsX11) dX11_init_23 (by decide +kernel) rfl wsT11 tyX11 tyX11_ok nmX11 (by decide) rfl kfl_X11_16 rfl rfl rfl (tyX11_ok 1 (by decide)) (Or.inl ⟨_, rfl⟩) (by decide) ?_
  rw [je_93]
  refine g_aload_n dX11_init_26 rfl ?_
  refine g_newJ (n := 41) (n' := 42) (rs := rsX9) (l' := J94) dX11_init_27 (ci := 9) rfl wsT9 tyX9 tyX9_ok kcl_X11_7 kins_9 kini_9 rfl kdf_9 (Nat.le_of_ble_eq_true rfl) (Nat.le_of_ble_eq_true rfl) (by decide +kernel) (by decide +kernel) jl_93 rfl ?_
  refine g_dup dX11_init_30 rfl ?_
  refine g_ckN k_X9_init_41 dX11_init_31 kmi_X9_init kin_X9_init rfl (by decide +kernel) rfl (by decide) ?_
  refine g_putF (k := 2) (a := 0) (b := 41) (ci := 11) (rs := rsX11) dX11_init_34 (by decide +kernel) rfl wsT11 tyX11 tyX11_ok nmX11 (by decide) rfl kfl_X11_19 rfl rfl rfl (tyX11_ok 2 (by decide)) (Or.inl ⟨_, rfl⟩) (by decide) ?_
  rw [je_139]
  refine g_aload_n dX11_init_37 rfl ?_
  refine g_newJ (n := 61) (n' := 62) (rs := rsX10) (l' := J140) dX11_init_38 (ci := 10) rfl wsT10 tyX10 tyX10_ok kcl_X11_22 kins_10 kini_10 rfl kdf_10 (Nat.le_of_ble_eq_true rfl) (Nat.le_of_ble_eq_true rfl) (by decide +kernel) (by decide +kernel) jl_139 rfl ?_
  refine g_dup dX11_init_41 rfl ?_
  refine g_ckN k_X10_init_61 dX11_init_42 kmi_X10_init kin_X10_init rfl (by decide +kernel) rfl (by decide) ?_
  refine g_putF (k := 3) (a := 0) (b := 61) (ci := 11) (rs := rsX11) dX11_init_45 (by decide +kernel) rfl wsT11 tyX11 tyX11_ok nmX11 (by decide) rfl kfl_X11_25 rfl rfl rfl (tyX11_ok 3 (by decide)) (Or.inl ⟨_, rfl⟩) (by decide) ?_
  rw [je_144]
  refine g_aload_n dX11_init_48 rfl ?_
  refine g_newJ (n := 63) (n' := 64) (rs := rsX10) (l' := J145) dX11_init_49 (ci := 10) rfl wsT10 tyX10 tyX10_ok kcl_X11_22 kins_10 kini_10 rfl kdf_10 (Nat.le_of_ble_eq_true rfl) (Nat.le_of_ble_eq_true rfl) (by decide +kernel) (by decide +kernel) jl_144 rfl ?_
  refine g_dup dX11_init_52 rfl ?_
  refine g_ckN k_X10_init_63 dX11_init_53 kmi_X10_init kin_X10_init rfl (by decide +kernel) rfl (by decide) ?_
  refine g_putF (k := 4) (a := 0) (b := 63) (ci := 11) (rs := rsX11) dX11_init_56 (by decide +kernel) rfl wsT11 tyX11 tyX11_ok nmX11 (by decide) rfl kfl_X11_29 rfl rfl rfl (tyX11_ok 4 (by decide)) (Or.inl ⟨_, rfl⟩) (by decide) ?_
  rw [je_149]
  refine g_aload_n dX11_init_59 rfl ?_
  refine g_newJ (n := 65) (n' := 66) (rs := rsX5) (l' := J150) dX11_init_60 (ci := 5) rfl wsT5 tyX5 tyX5_ok kcl_X11_32 kins_5 kini_5 rfl kdf_5 (Nat.le_of_ble_eq_true rfl) (Nat.le_of_ble_eq_true rfl) (by decide +kernel) (by decide +kernel) jl_149 rfl ?_
  refine g_dup dX11_init_63 rfl ?_
  refine g_ckN k_X5_init_65 dX11_init_64 kmi_X5_init kin_X5_init rfl (by decide +kernel) rfl (by decide) ?_
  refine g_putF (k := 5) (a := 0) (b := 65) (ci := 11) (rs := rsX11) dX11_init_67 (by decide +kernel) rfl wsT11 tyX11 tyX11_ok nmX11 (by decide) rfl kfl_X11_35 rfl rfl rfl (tyX11_ok 5 (by decide)) (Or.inl ⟨_, rfl⟩) (by decide) ?_
  rw [je_157]
  refine g_aload_n dX11_init_70 rfl ?_
  refine g_newJ (n := 67) (n' := 68) (rs := rsX7) (l' := J158) dX11_init_71 (ci := 7) rfl wsT7 tyX7 tyX7_ok kcl_X11_39 kins_7 kini_7 rfl kdf_7 (Nat.le_of_ble_eq_true rfl) (Nat.le_of_ble_eq_true rfl) (by decide +kernel) (by decide +kernel) jl_157 rfl ?_
  refine g_dup dX11_init_74 rfl ?_
  refine g_ckN k_X7_init_67 dX11_init_75 kmi_X7_init kin_X7_init rfl (by decide +kernel) rfl (by decide) ?_
  refine g_putF (k := 6) (a := 0) (b := 67) (ci := 11) (rs := rsX11) dX11_init_78 (by decide +kernel) rfl wsT11 tyX11 tyX11_ok nmX11 (by decide) rfl kfl_X11_42 rfl rfl rfl (tyX11_ok 6 (by decide)) (Or.inl ⟨_, rfl⟩) (by decide) ?_
  rw [je_168]
  refine g_aload_n dX11_init_81 rfl ?_
  refine g_newJ (n := 71) (n' := 72) (rs := rsX3) (l' := J169) dX11_init_82 (ci := 3) rfl wsT3 tyX3 tyX3_ok kcl_X11_46 kins_3 kini_3 rfl kdf_3 (Nat.le_of_ble_eq_true rfl) (Nat.le_of_ble_eq_true rfl) (by decide +kernel) (by decide +kernel) jl_168 rfl ?_
  refine g_dup dX11_init_85 rfl ?_
  refine g_ckN k_X3_init_71 dX11_init_86 kmi_X3_init kin_X3_init rfl (by decide +kernel) rfl (by decide) ?_
  refine g_putF (k := 7) (a := 0) (b := 71) (ci := 11) (rs := rsX11) dX11_init_89 (by decide +kernel) rfl wsT11 tyX11 tyX11_ok nmX11 (by decide) rfl kfl_X11_49 rfl rfl rfl (tyX11_ok 7 (by decide)) (Or.inl ⟨_, rfl⟩) (by decide) ?_
  rw [je_177]
  refine g_aload_n dX11_init_92 rfl ?_
  refine g_newJ (n := 75) (n' := 76) (rs := rsX8) (l' := J178) dX11_init_93 (ci := 8) rfl wsT8 tyX8 tyX8_ok kcl_X11_53 kins_8 kini_8 rfl kdf_8 (Nat.le_of_ble_eq_true rfl) (Nat.le_of_ble_eq_true rfl) (by decide +kernel) (by decide +kernel) jl_177 rfl ?_
  refine g_dup dX11_init_96 rfl ?_
  refine g_ckN k_X8_init_75 dX11_init_97 kmi_X8_init kin_X8_init rfl (by decide +kernel) rfl (by decide) ?_
  refine g_putF (k := 8) (a := 0) (b := 75) (ci := 11) (rs := rsX11) dX11_init_100 (by decide +kernel) rfl wsT11 tyX11 tyX11_ok nmX11 (by decide) rfl kfl_X11_56 rfl rfl rfl (tyX11_ok 8 (by decide)) (Or.inl ⟨_, rfl⟩) (by decide) ?_
  rw [je_184]
  refine g_aload_n dX11_init_103 rfl ?_
  refine g_newJ (n := 78) (n' := 79) (rs := rsX1) (l' := J185) dX11_init_104 (ci := 1) rfl wsT1 tyX1 tyX1_ok kcl_X11_60 kins_1 kini_1 rfl kdf_1 (Nat.le_of_ble_eq_true rfl) (Nat.le_of_ble_eq_true rfl) (by decide +kernel) (by decide +kernel) jl_184 rfl ?_
  refine g_dup dX11_init_107 rfl ?_
  refine g_ckN k_X1_init_78 dX11_init_108 kmi_X1_init kin_X1_init rfl (by decide +kernel) rfl (by decide) ?_
  refine g_putF (k := 9) (a := 0) (b := 78) (ci := 11) (rs := rsX11) dX11_init_111 (by decide +kernel) rfl wsT11 tyX11 tyX11_ok nmX11 (by decide) rfl kfl_X11_63 rfl rfl rfl (tyX11_ok 9 (by decide)) (Or.inl ⟨_, rfl⟩) (by decide) ?_
  rw [je_193]
  refine g_aload_n dX11_init_114 rfl ?_
  refine g_newJ (n := 82) (n' := 83) (rs := rsX2) (l' := J194) dX11_init_115 (ci := 2) rfl wsT2 tyX2 tyX2_ok kcl_X11_67 kins_2 kini_2 rfl kdf_2 (Nat.le_of_ble_eq_true rfl) (Nat.le_of_ble_eq_true rfl) (by decide +kernel) (by decide +kernel) jl_193 rfl ?_
  refine g_dup dX11_init_118 rfl ?_
  refine g_ckN k_X2_init_82 dX11_init_119 kmi_X2_init kin_X2_init rfl (by decide +kernel) rfl (by decide) ?_
  refine g_putR (k := 10) (a := 0) (b := 82) (ci := 11) (rs := rsX11) dX11_init_122 (by decide +kernel) rfl wsT11 tyX11 tyX11_ok nmX11 (by decide) rfl kfl_X11_70 rfl (tyX11_ok 10 (by decide)) (Or.inl ⟨_, rfl⟩) (by decide) ?_
  rw [je_211]
  refine g_aload_n dX11_init_125 rfl ?_
  refine g_newJ (n := 90) (n' := 91) (rs := rsX2) (l' := J212) dX11_init_126 (ci := 2) rfl wsT2 tyX2 tyX2_ok kcl_X11_67 kins_2 kini_2 rfl kdf_2 (Nat.le_of_ble_eq_true rfl) (Nat.le_of_ble_eq_true rfl) (by decide +kernel) (by decide +kernel) jl_211 rfl ?_
  refine g_dup dX11_init_129 rfl ?_
  refine g_ckN k_X2_init_90 dX11_init_130 kmi_X2_init kin_X2_init rfl (by decide +kernel) rfl (by decide) ?_
  refine g_putR (k := 11) (a := 0) (b := 90) (ci := 11) (rs := rsX11) dX11_init_133 (by decide +kernel) rfl wsT11 tyX11 tyX11_ok nmX11 (by decide) rfl kfl_X11_74 rfl (tyX11_ok 11 (by decide)) (Or.inl ⟨_, rfl⟩) (by decide) ?_
  rw [je_229]
  refine g_aload_n dX11_init_136 rfl ?_
  refine g_iconst dX11_init_137 (inR_c rfl) ?_
  refine g_putI (k := 12) (a := 0) (ci := 11) (rs := rsX11) dX11_init_138 (by decide +kernel) rfl wsT11 tyX11 tyX11_ok nmX11 (by decide) rfl kfl_X11_77 rfl (tyX11_ok 12 (by decide)) (Or.inr ⟨rfl, by decide⟩) (fun _ => ?_)
  rw [je_230]
  exact g_return dX11_init_141 rfl hPo
set_option maxRecDepth 100000 in
set_option maxHeartbeats 4000000 in
theorem k_X12_init_98 : CK yX12_init cX12_init (1, 60, 52, 5414) 98 99 151 J231 J336 := by
  refine CK.of rfl (fun Po hPo => ?_)
  refine g_aload_n dX12_init_0 rfl ?_
  refine g_objInit dX12_init_1 kml_X12_1 in_obj co_obj (by decide) (by decide) ?_
  refine g_aload_n dX12_init_4 rfl ?_
  refine g_sipush dX12_init_5 (inR_c rfl) (by decide) ?_
  refine g_newaJ (n := 99) (n' := 100) (m := 220) (l' := J232) dX12_init_8 rfl aT_1 kac_1 J_c1 (by decide) (by decide) (Nat.le_of_ble_eq_true rfl) (Nat.le_of_ble_eq_true rfl) (by decide +kernel) (by decide +kernel) jl_231 rfl ?_
  refine g_putF (k := 0) (a := 98) (b := 99) (ci := 12) (rs := rsX12) dX12_init_10 (by decide +kernel) rfl wsT12 tyX12 tyX12_ok nmX12 (by decide) rfl kfl_X12_7 rfl rfl rfl (tyX12_ok 0 (by decide)) (Or.inr ⟨_, rfl⟩) (by decide) ?_
  rw [je_233]
  refine g_aload_n dX12_init_13 rfl ?_
  refine g_iconst dX12_init_14 (inR_c rfl) ?_
  refine g_putI (k := 6) (a := 98) (ci := 12) (rs := rsX12) dX12_init_15 (by decide +kernel) rfl wsT12 tyX12 tyX12_ok nmX12 (by decide) rfl kfl_X12_13 rfl (tyX12_ok 6 (by decide)) (Or.inl rfl) (fun _ => ?_)
  rw [je_234]
  refine g_aload_n dX12_init_18 rfl ?_
  refine g_bipush dX12_init_19 (inR_c rfl) (by decide) ?_
  refine g_newaJ (n := 100) (n' := 101) (m := 10) (l' := J235) dX12_init_21 rfl aT_0 kac_0 J_c0 (by decide) (by decide) (Nat.le_of_ble_eq_true rfl) (Nat.le_of_ble_eq_true rfl) (by decide +kernel) (by decide +kernel) jl_234 rfl ?_
  refine g_putF (k := 8) (a := 98) (b := 100) (ci := 12) (rs := rsX12) dX12_init_23 (by decide +kernel) rfl wsT12 tyX12 tyX12_ok nmX12 (by decide) rfl kfl_X12_17 rfl rfl rfl (tyX12_ok 8 (by decide)) (Or.inr ⟨_, rfl⟩) (by decide) ?_
  rw [je_236]
  refine g_aload_n dX12_init_26 rfl ?_
  refine g_bipush dX12_init_27 (inR_c rfl) (by decide) ?_
  refine g_newaJ (n := 101) (n' := 102) (m := 10) (l' := J237) dX12_init_29 rfl aT_0 kac_0 J_c0 (by decide) (by decide) (Nat.le_of_ble_eq_true rfl) (Nat.le_of_ble_eq_true rfl) (by decide +kernel) (by decide +kernel) jl_236 rfl ?_
  refine g_putF (k := 9) (a := 98) (b := 101) (ci := 12) (rs := rsX12) dX12_init_31 (by decide +kernel) rfl wsT12 tyX12 tyX12_ok nmX12 (by decide) rfl kfl_X12_21 rfl rfl rfl (tyX12_ok 9 (by decide)) (Or.inr ⟨_, rfl⟩) (by decide) ?_
  rw [je_238]
  refine g_aload_n dX12_init_34 rfl ?_
  refine g_bipush dX12_init_35 (inR_c rfl) (by decide) ?_
  refine g_newaJ (n := 102) (n' := 103) (m := 10) (l' := J239) dX12_init_37 rfl aT_0 kac_0 J_c0 (by decide) (by decide) (Nat.le_of_ble_eq_true rfl) (Nat.le_of_ble_eq_true rfl) (by decide +kernel) (by decide +kernel) jl_238 rfl ?_
  refine g_putF (k := 10) (a := 98) (b := 102) (ci := 12) (rs := rsX12) dX12_init_39 (by decide +kernel) rfl wsT12 tyX12 tyX12_ok nmX12 (by decide) rfl kfl_X12_24 rfl rfl rfl (tyX12_ok 10 (by decide)) (Or.inr ⟨_, rfl⟩) (by decide) ?_
  rw [je_240]
  refine g_aload_n dX12_init_42 rfl ?_
  refine g_bipush dX12_init_43 (inR_c rfl) (by decide) ?_
  refine g_newaJ (n := 103) (n' := 104) (m := 8) (l' := J241) dX12_init_45 rfl aT_0 kac_0 J_c0 (by decide) (by decide) (Nat.le_of_ble_eq_true rfl) (Nat.le_of_ble_eq_true rfl) (by decide +kernel) (by decide +kernel) jl_240 rfl ?_
  refine g_putF (k := 11) (a := 98) (b := 103) (ci := 12) (rs := rsX12) dX12_init_47 (by decide +kernel) rfl wsT12 tyX12 tyX12_ok nmX12 (by decide) rfl kfl_X12_27 rfl rfl rfl (tyX12_ok 11 (by decide)) (Or.inr ⟨_, rfl⟩) (by decide) ?_
  rw [je_242]
  refine g_aload_n dX12_init_50 rfl ?_
  refine g_bipush dX12_init_51 (inR_c rfl) (by decide) ?_
  refine g_newaJ (n := 104) (n' := 105) (m := 8) (l' := J243) dX12_init_53 rfl aT_0 kac_0 J_c0 (by decide) (by decide) (Nat.le_of_ble_eq_true rfl) (Nat.le_of_ble_eq_true rfl) (by decide +kernel) (by decide +kernel) jl_242 rfl ?_
  refine g_putF (k := 12) (a := 98) (b := 104) (ci := 12) (rs := rsX12) dX12_init_55 (by decide +kernel) rfl wsT12 tyX12 tyX12_ok nmX12 (by decide) rfl kfl_X12_30 rfl rfl rfl (tyX12_ok 12 (by decide)) (Or.inr ⟨_, rfl⟩) (by decide) ?_
  rw [je_244]
  refine g_aload_n dX12_init_58 rfl ?_
  refine g_bipush dX12_init_59 (inR_c rfl) (by decide) ?_
  refine g_newaJ (n := 105) (n' := 106) (m := 40) (l' := J245) dX12_init_61 rfl aT_0 kac_0 J_c0 (by decide) (by decide) (Nat.le_of_ble_eq_true rfl) (Nat.le_of_ble_eq_true rfl) (by decide +kernel) (by decide +kernel) jl_244 rfl ?_
  refine g_putF (k := 13) (a := 98) (b := 105) (ci := 12) (rs := rsX12) dX12_init_63 (by decide +kernel) rfl wsT12 tyX12 tyX12_ok nmX12 (by decide) rfl kfl_X12_33 rfl rfl rfl (tyX12_ok 13 (by decide)) (Or.inr ⟨_, rfl⟩) (by decide) ?_
  rw [je_246]
  refine g_aload_n dX12_init_66 rfl ?_
  refine g_bipush dX12_init_67 (inR_c rfl) (by decide) ?_
  refine g_newaJ (n := 106) (n' := 107) (m := 8) (l' := J247) dX12_init_69 rfl aT_2 kac_2 J_c2 (by decide) (by decide) (Nat.le_of_ble_eq_true rfl) (Nat.le_of_ble_eq_true rfl) (by decide +kernel) (by decide +kernel) jl_246 rfl ?_
  refine g_putF (k := 14) (a := 98) (b := 106) (ci := 12) (rs := rsX12) dX12_init_71 (by decide +kernel) rfl wsT12 tyX12 tyX12_ok nmX12 (by decide) rfl kfl_X12_36 rfl rfl rfl (tyX12_ok 14 (by decide)) (Or.inr ⟨_, rfl⟩) (by decide) ?_
  rw [je_248]
  refine g_aload_n dX12_init_74 rfl ?_
  refine g_bipush dX12_init_75 (inR_c rfl) (by decide) ?_
  refine g_newaJ (n := 107) (n' := 108) (m := 8) (l' := J249) dX12_init_77 rfl aT_0 kac_0 J_c0 (by decide) (by decide) (Nat.le_of_ble_eq_true rfl) (Nat.le_of_ble_eq_true rfl) (by decide +kernel) (by decide +kernel) jl_248 rfl ?_
  refine g_putF (k := 15) (a := 98) (b := 107) (ci := 12) (rs := rsX12) dX12_init_79 (by decide +kernel) rfl wsT12 tyX12 tyX12_ok nmX12 (by decide) rfl kfl_X12_40 rfl rfl rfl (tyX12_ok 15 (by decide)) (Or.inr ⟨_, rfl⟩) (by decide) ?_
  rw [je_250]
  refine g_aload_n dX12_init_82 rfl ?_
  refine g_bipush dX12_init_83 (inR_c rfl) (by decide) ?_
  refine g_newaJ (n := 108) (n' := 109) (m := 8) (l' := J251) dX12_init_85 rfl aT_0 kac_0 J_c0 (by decide) (by decide) (Nat.le_of_ble_eq_true rfl) (Nat.le_of_ble_eq_true rfl) (by decide +kernel) (by decide +kernel) jl_250 rfl ?_
  refine g_putF (k := 16) (a := 98) (b := 108) (ci := 12) (rs := rsX12) dX12_init_87 (by decide +kernel) rfl wsT12 tyX12 tyX12_ok nmX12 (by decide) rfl kfl_X12_43 rfl rfl rfl (tyX12_ok 16 (by decide)) (Or.inr ⟨_, rfl⟩) (by decide) ?_
  rw [je_252]
  refine g_aload_n dX12_init_90 rfl ?_
  refine g_bipush dX12_init_91 (inR_c rfl) (by decide) ?_
  refine g_newaJ (n := 109) (n' := 110) (m := 8) (l' := J253) dX12_init_93 rfl aT_0 kac_0 J_c0 (by decide) (by decide) (Nat.le_of_ble_eq_true rfl) (Nat.le_of_ble_eq_true rfl) (by decide +kernel) (by decide +kernel) jl_252 rfl ?_
  refine g_putF (k := 17) (a := 98) (b := 109) (ci := 12) (rs := rsX12) dX12_init_95 (by decide +kernel) rfl wsT12 tyX12 tyX12_ok nmX12 (by decide) rfl kfl_X12_46 rfl rfl rfl (tyX12_ok 17 (by decide)) (Or.inr ⟨_, rfl⟩) (by decide) ?_
  rw [je_254]
  refine g_aload_n dX12_init_98 rfl ?_
  refine g_bipush dX12_init_99 (inR_c rfl) (by decide) ?_
  refine g_newaJ (n := 110) (n' := 111) (m := 8) (l' := J255) dX12_init_101 rfl aT_2 kac_2 J_c2 (by decide) (by decide) (Nat.le_of_ble_eq_true rfl) (Nat.le_of_ble_eq_true rfl) (by decide +kernel) (by decide +kernel) jl_254 rfl ?_
  refine g_putF (k := 18) (a := 98) (b := 110) (ci := 12) (rs := rsX12) dX12_init_103 (by decide +kernel) rfl wsT12 tyX12 tyX12_ok nmX12 (by decide) rfl kfl_X12_49 rfl rfl rfl (tyX12_ok 18 (by decide)) (Or.inr ⟨_, rfl⟩) (by decide) ?_
  rw [je_256]
  refine g_aload_n dX12_init_106 rfl ?_
  refine g_bipush dX12_init_107 (inR_c rfl) (by decide) ?_
  refine g_newaJ (n := 111) (n' := 112) (m := 8) (l' := J257) dX12_init_109 rfl aT_0 kac_0 J_c0 (by decide) (by decide) (Nat.le_of_ble_eq_true rfl) (Nat.le_of_ble_eq_true rfl) (by decide +kernel) (by decide +kernel) jl_256 rfl ?_
  refine g_putF (k := 19) (a := 98) (b := 111) (ci := 12) (rs := rsX12) dX12_init_111 (by decide +kernel) rfl wsT12 tyX12 tyX12_ok nmX12 (by decide) rfl kfl_X12_52 rfl rfl rfl (tyX12_ok 19 (by decide)) (Or.inr ⟨_, rfl⟩) (by decide) ?_
  rw [je_258]
  refine g_aload_n dX12_init_114 rfl ?_
  refine g_bipush dX12_init_115 (inR_c rfl) (by decide) ?_
  refine g_newaJ (n := 112) (n' := 113) (m := 64) (l' := J259) dX12_init_117 rfl aT_0 kac_0 J_c0 (by decide) (by decide) (Nat.le_of_ble_eq_true rfl) (Nat.le_of_ble_eq_true rfl) (by decide +kernel) (by decide +kernel) jl_258 rfl ?_
  refine g_putF (k := 20) (a := 98) (b := 112) (ci := 12) (rs := rsX12) dX12_init_119 (by decide +kernel) rfl wsT12 tyX12 tyX12_ok nmX12 (by decide) rfl kfl_X12_55 rfl rfl rfl (tyX12_ok 20 (by decide)) (Or.inr ⟨_, rfl⟩) (by decide) ?_
  rw [je_260]
  refine g_aload_n dX12_init_122 rfl ?_
  refine g_bipush dX12_init_123 (inR_c rfl) (by decide) ?_
  refine g_newaJ (n := 113) (n' := 114) (m := 64) (l' := J261) dX12_init_125 rfl aT_0 kac_0 J_c0 (by decide) (by decide) (Nat.le_of_ble_eq_true rfl) (Nat.le_of_ble_eq_true rfl) (by decide +kernel) (by decide +kernel) jl_260 rfl ?_
  refine g_putF (k := 21) (a := 98) (b := 113) (ci := 12) (rs := rsX12) dX12_init_127 (by decide +kernel) rfl wsT12 tyX12 tyX12_ok nmX12 (by decide) rfl kfl_X12_58 rfl rfl rfl (tyX12_ok 21 (by decide)) (Or.inr ⟨_, rfl⟩) (by decide) ?_
  rw [je_262]
  refine g_aload_n dX12_init_130 rfl ?_
  refine g_bipush dX12_init_131 (inR_c rfl) (by decide) ?_
  refine g_newaJ (n := 114) (n' := 115) (m := 100) (l' := J263) dX12_init_133 rfl aT_2 kac_2 J_c2 (by decide) (by decide) (Nat.le_of_ble_eq_true rfl) (Nat.le_of_ble_eq_true rfl) (by decide +kernel) (by decide +kernel) jl_262 rfl ?_
  refine g_putF (k := 22) (a := 98) (b := 114) (ci := 12) (rs := rsX12) dX12_init_135 (by decide +kernel) rfl wsT12 tyX12 tyX12_ok nmX12 (by decide) rfl kfl_X12_61 rfl rfl rfl (tyX12_ok 22 (by decide)) (Or.inr ⟨_, rfl⟩) (by decide) ?_
  rw [je_264]
  refine g_aload_n dX12_init_138 rfl ?_
  refine g_bipush dX12_init_139 (inR_c rfl) (by decide) ?_
  refine g_newaJ (n := 115) (n' := 116) (m := 14) (l' := J265) dX12_init_141 rfl aT_0 kac_0 J_c0 (by decide) (by decide) (Nat.le_of_ble_eq_true rfl) (Nat.le_of_ble_eq_true rfl) (by decide +kernel) (by decide +kernel) jl_264 rfl ?_
  refine g_putF (k := 24) (a := 98) (b := 115) (ci := 12) (rs := rsX12) dX12_init_143 (by decide +kernel) rfl wsT12 tyX12 tyX12_ok nmX12 (by decide) rfl kfl_X12_64 rfl rfl rfl (tyX12_ok 24 (by decide)) (Or.inr ⟨_, rfl⟩) (by decide) ?_
  rw [je_266]
  refine g_aload_n dX12_init_146 rfl ?_
  refine g_bipush dX12_init_147 (inR_c rfl) (by decide) ?_
  refine g_newaJ (n := 116) (n' := 117) (m := 14) (l' := J267) dX12_init_149 rfl aT_0 kac_0 J_c0 (by decide) (by decide) (Nat.le_of_ble_eq_true rfl) (Nat.le_of_ble_eq_true rfl) (by decide +kernel) (by decide +kernel) jl_266 rfl ?_
  refine g_putF (k := 25) (a := 98) (b := 116) (ci := 12) (rs := rsX12) dX12_init_151 (by decide +kernel) rfl wsT12 tyX12 tyX12_ok nmX12 (by decide) rfl kfl_X12_67 rfl rfl rfl (tyX12_ok 25 (by decide)) (Or.inr ⟨_, rfl⟩) (by decide) ?_
  rw [je_268]
  refine g_aload_n dX12_init_154 rfl ?_
  refine g_bipush dX12_init_155 (inR_c rfl) (by decide) ?_
  refine g_newaJ (n := 117) (n' := 118) (m := 14) (l' := J269) dX12_init_157 rfl aT_0 kac_0 J_c0 (by decide) (by decide) (Nat.le_of_ble_eq_true rfl) (Nat.le_of_ble_eq_true rfl) (by decide +kernel) (by decide +kernel) jl_268 rfl ?_
  refine g_putF (k := 26) (a := 98) (b := 117) (ci := 12) (rs := rsX12) dX12_init_159 (by decide +kernel) rfl wsT12 tyX12 tyX12_ok nmX12 (by decide) rfl kfl_X12_70 rfl rfl rfl (tyX12_ok 26 (by decide)) (Or.inr ⟨_, rfl⟩) (by decide) ?_
  rw [je_270]
  refine g_aload_n dX12_init_162 rfl ?_
  refine g_bipush dX12_init_163 (inR_c rfl) (by decide) ?_
  refine g_newaJ (n := 118) (n' := 119) (m := 14) (l' := J271) dX12_init_165 rfl aT_0 kac_0 J_c0 (by decide) (by decide) (Nat.le_of_ble_eq_true rfl) (Nat.le_of_ble_eq_true rfl) (by decide +kernel) (by decide +kernel) jl_270 rfl ?_
  refine g_putF (k := 27) (a := 98) (b := 118) (ci := 12) (rs := rsX12) dX12_init_167 (by decide +kernel) rfl wsT12 tyX12 tyX12_ok nmX12 (by decide) rfl kfl_X12_73 rfl rfl rfl (tyX12_ok 27 (by decide)) (Or.inr ⟨_, rfl⟩) (by decide) ?_
  rw [je_272]
  refine g_aload_n dX12_init_170 rfl ?_
  refine g_sipush dX12_init_171 (inR_c rfl) (by decide) ?_
  refine g_newaJ (n := 119) (n' := 120) (m := 200) (l' := J273) dX12_init_174 rfl aT_0 kac_0 J_c0 (by decide) (by decide) (Nat.le_of_ble_eq_true rfl) (Nat.le_of_ble_eq_true rfl) (by decide +kernel) (by decide +kernel) jl_272 rfl ?_
  refine g_putF (k := 28) (a := 98) (b := 119) (ci := 12) (rs := rsX12) dX12_init_176 (by decide +kernel) rfl wsT12 tyX12 tyX12_ok nmX12 (by decide) rfl kfl_X12_76 rfl rfl rfl (tyX12_ok 28 (by decide)) (Or.inr ⟨_, rfl⟩) (by decide) ?_
  rw [je_274]
  refine g_aload_n dX12_init_179 rfl ?_
  refine g_sipush dX12_init_180 (inR_c rfl) (by decide) ?_
  refine g_newaJ (n := 120) (n' := 121) (m := 200) (l' := J275) dX12_init_183 rfl aT_0 kac_0 J_c0 (by decide) (by decide) (Nat.le_of_ble_eq_true rfl) (Nat.le_of_ble_eq_true rfl) (by decide +kernel) (by decide +kernel) jl_274 rfl ?_
  refine g_putF (k := 29) (a := 98) (b := 120) (ci := 12) (rs := rsX12) dX12_init_185 (by decide +kernel) rfl wsT12 tyX12 tyX12_ok nmX12 (by decide) rfl kfl_X12_79 rfl rfl rfl (tyX12_ok 29 (by decide)) (Or.inr ⟨_, rfl⟩) (by decide) ?_
  rw [je_276]
  refine g_aload_n dX12_init_188 rfl ?_
  refine g_bipush dX12_init_189 (inR_c rfl) (by decide) ?_
  refine g_newaJ (n := 121) (n' := 122) (m := 14) (l' := J277) dX12_init_191 rfl aT_0 kac_0 J_c0 (by decide) (by decide) (Nat.le_of_ble_eq_true rfl) (Nat.le_of_ble_eq_true rfl) (by decide +kernel) (by decide +kernel) jl_276 rfl ?_
  refine g_putF (k := 30) (a := 98) (b := 121) (ci := 12) (rs := rsX12) dX12_init_193 (by decide +kernel) rfl wsT12 tyX12 tyX12_ok nmX12 (by decide) rfl kfl_X12_82 rfl rfl rfl (tyX12_ok 30 (by decide)) (Or.inr ⟨_, rfl⟩) (by decide) ?_
  rw [je_278]
  refine g_aload_n dX12_init_196 rfl ?_
  refine g_bipush dX12_init_197 (inR_c rfl) (by decide) ?_
  refine g_newaJ (n := 122) (n' := 123) (m := 14) (l' := J279) dX12_init_199 rfl aT_0 kac_0 J_c0 (by decide) (by decide) (Nat.le_of_ble_eq_true rfl) (Nat.le_of_ble_eq_true rfl) (by decide +kernel) (by decide +kernel) jl_278 rfl ?_
  refine g_putF (k := 31) (a := 98) (b := 122) (ci := 12) (rs := rsX12) dX12_init_201 (by decide +kernel) rfl wsT12 tyX12 tyX12_ok nmX12 (by decide) rfl kfl_X12_85 rfl rfl rfl (tyX12_ok 31 (by decide)) (Or.inr ⟨_, rfl⟩) (by decide) ?_
  rw [je_280]
  refine g_aload_n dX12_init_204 rfl ?_
  refine g_bipush dX12_init_205 (inR_c rfl) (by decide) ?_
  refine g_newaJ (n := 123) (n' := 124) (m := 14) (l' := J281) dX12_init_207 rfl aT_0 kac_0 J_c0 (by decide) (by decide) (Nat.le_of_ble_eq_true rfl) (Nat.le_of_ble_eq_true rfl) (by decide +kernel) (by decide +kernel) jl_280 rfl ?_
  refine g_putF (k := 32) (a := 98) (b := 123) (ci := 12) (rs := rsX12) dX12_init_209 (by decide +kernel) rfl wsT12 tyX12 tyX12_ok nmX12 (by decide) rfl kfl_X12_88 rfl rfl rfl (tyX12_ok 32 (by decide)) (Or.inr ⟨_, rfl⟩) (by decide) ?_
  rw [je_282]
  refine g_aload_n dX12_init_212 rfl ?_
  refine g_bipush dX12_init_213 (inR_c rfl) (by decide) ?_
  refine g_newaJ (n := 124) (n' := 125) (m := 14) (l' := J283) dX12_init_215 rfl aT_0 kac_0 J_c0 (by decide) (by decide) (Nat.le_of_ble_eq_true rfl) (Nat.le_of_ble_eq_true rfl) (by decide +kernel) (by decide +kernel) jl_282 rfl ?_
  refine g_putF (k := 33) (a := 98) (b := 124) (ci := 12) (rs := rsX12) dX12_init_217 (by decide +kernel) rfl wsT12 tyX12 tyX12_ok nmX12 (by decide) rfl kfl_X12_91 rfl rfl rfl (tyX12_ok 33 (by decide)) (Or.inr ⟨_, rfl⟩) (by decide) ?_
  rw [je_284]
  refine g_aload_n dX12_init_220 rfl ?_
  refine g_sipush dX12_init_221 (inR_c rfl) (by decide) ?_
  refine g_newaJ (n := 125) (n' := 126) (m := 200) (l' := J285) dX12_init_224 rfl aT_0 kac_0 J_c0 (by decide) (by decide) (Nat.le_of_ble_eq_true rfl) (Nat.le_of_ble_eq_true rfl) (by decide +kernel) (by decide +kernel) jl_284 rfl ?_
  refine g_putF (k := 34) (a := 98) (b := 125) (ci := 12) (rs := rsX12) dX12_init_226 (by decide +kernel) rfl wsT12 tyX12 tyX12_ok nmX12 (by decide) rfl kfl_X12_94 rfl rfl rfl (tyX12_ok 34 (by decide)) (Or.inr ⟨_, rfl⟩) (by decide) ?_
  rw [je_286]
  refine g_aload_n dX12_init_229 rfl ?_
  refine g_sipush dX12_init_230 (inR_c rfl) (by decide) ?_
  refine g_newaJ (n := 126) (n' := 127) (m := 200) (l' := J287) dX12_init_233 rfl aT_0 kac_0 J_c0 (by decide) (by decide) (Nat.le_of_ble_eq_true rfl) (Nat.le_of_ble_eq_true rfl) (by decide +kernel) (by decide +kernel) jl_286 rfl ?_
  refine g_putF (k := 35) (a := 98) (b := 126) (ci := 12) (rs := rsX12) dX12_init_235 (by decide +kernel) rfl wsT12 tyX12 tyX12_ok nmX12 (by decide) rfl kfl_X12_97 rfl rfl rfl (tyX12_ok 35 (by decide)) (Or.inr ⟨_, rfl⟩) (by decide) ?_
  rw [je_288]
  refine g_aload_n dX12_init_238 rfl ?_
  refine g_sipush dX12_init_239 (inR_c rfl) (by decide) ?_
  refine g_newaJ (n := 127) (n' := 128) (m := 240) (l' := J289) dX12_init_242 rfl aT_0 kac_0 J_c0 (by decide) (by decide) (Nat.le_of_ble_eq_true rfl) (Nat.le_of_ble_eq_true rfl) (by decide +kernel) (by decide +kernel) jl_288 rfl ?_
  refine g_putF (k := 45) (a := 98) (b := 127) (ci := 12) (rs := rsX12) dX12_init_244 (by decide +kernel) rfl wsT12 tyX12 tyX12_ok nmX12 (by decide) rfl kfl_X12_100 rfl rfl rfl (tyX12_ok 45 (by decide)) (Or.inr ⟨_, rfl⟩) (by decide) ?_
  rw [je_290]
  refine g_aload_n dX12_init_247 rfl ?_
  refine g_sipush dX12_init_248 (inR_c rfl) (by decide) ?_
  refine g_newaJ (n := 128) (n' := 129) (m := 240) (l' := J291) dX12_init_251 rfl aT_0 kac_0 J_c0 (by decide) (by decide) (Nat.le_of_ble_eq_true rfl) (Nat.le_of_ble_eq_true rfl) (by decide +kernel) (by decide +kernel) jl_290 rfl ?_
  refine g_putF (k := 49) (a := 98) (b := 128) (ci := 12) (rs := rsX12) dX12_init_253 (by decide +kernel) rfl wsT12 tyX12 tyX12_ok nmX12 (by decide) rfl kfl_X12_103 rfl rfl rfl (tyX12_ok 49 (by decide)) (Or.inr ⟨_, rfl⟩) (by decide) ?_
  rw [je_292]
  refine g_aload_n dX12_init_256 rfl ?_
  refine g_sipush dX12_init_257 (inR_c rfl) (by decide) ?_
  refine g_newaJ (n := 129) (n' := 130) (m := 240) (l' := J293) dX12_init_260 rfl aT_2 kac_2 J_c2 (by decide) (by decide) (Nat.le_of_ble_eq_true rfl) (Nat.le_of_ble_eq_true rfl) (by decide +kernel) (by decide +kernel) jl_292 rfl ?_
  refine g_putF (k := 50) (a := 98) (b := 129) (ci := 12) (rs := rsX12) dX12_init_262 (by decide +kernel) rfl wsT12 tyX12 tyX12_ok nmX12 (by decide) rfl kfl_X12_106 rfl rfl rfl (tyX12_ok 50 (by decide)) (Or.inr ⟨_, rfl⟩) (by decide) ?_
  rw [je_294]
  refine g_aload_n dX12_init_265 rfl ?_
  refine g_bipush dX12_init_266 (inR_c rfl) (by decide) ?_
  refine g_newaJ (n := 130) (n' := 131) (m := 20) (l' := J295) dX12_init_268 rfl aT_0 kac_0 J_c0 (by decide) (by decide) (Nat.le_of_ble_eq_true rfl) (Nat.le_of_ble_eq_true rfl) (by decide +kernel) (by decide +kernel) jl_294 rfl ?_
  refine g_putF (k := 55) (a := 98) (b := 130) (ci := 12) (rs := rsX12) dX12_init_270 (by decide +kernel) rfl wsT12 tyX12 tyX12_ok nmX12 (by decide) rfl kfl_X12_109 rfl rfl rfl (tyX12_ok 55 (by decide)) (Or.inr ⟨_, rfl⟩) (by decide) ?_
  rw [je_296]
  refine g_aload_n dX12_init_273 rfl ?_
  refine g_bipush dX12_init_274 (inR_c rfl) (by decide) ?_
  refine g_newaJ (n := 131) (n' := 132) (m := 20) (l' := J297) dX12_init_276 rfl aT_0 kac_0 J_c0 (by decide) (by decide) (Nat.le_of_ble_eq_true rfl) (Nat.le_of_ble_eq_true rfl) (by decide +kernel) (by decide +kernel) jl_296 rfl ?_
  refine g_putF (k := 56) (a := 98) (b := 131) (ci := 12) (rs := rsX12) dX12_init_278 (by decide +kernel) rfl wsT12 tyX12 tyX12_ok nmX12 (by decide) rfl kfl_X12_112 rfl rfl rfl (tyX12_ok 56 (by decide)) (Or.inr ⟨_, rfl⟩) (by decide) ?_
  rw [je_298]
  refine g_aload_n dX12_init_281 rfl ?_
  refine g_bipush dX12_init_282 (inR_c rfl) (by decide) ?_
  refine g_newaJ (n := 132) (n' := 133) (m := 20) (l' := J299) dX12_init_284 rfl aT_0 kac_0 J_c0 (by decide) (by decide) (Nat.le_of_ble_eq_true rfl) (Nat.le_of_ble_eq_true rfl) (by decide +kernel) (by decide +kernel) jl_298 rfl ?_
  refine g_putF (k := 57) (a := 98) (b := 132) (ci := 12) (rs := rsX12) dX12_init_286 (by decide +kernel) rfl wsT12 tyX12 tyX12_ok nmX12 (by decide) rfl kfl_X12_115 rfl rfl rfl (tyX12_ok 57 (by decide)) (Or.inr ⟨_, rfl⟩) (by decide) ?_
  rw [je_300]
  refine g_aload_n dX12_init_289 rfl ?_
  refine g_bipush dX12_init_290 (inR_c rfl) (by decide) ?_
  refine g_newaJ (n := 133) (n' := 134) (m := 16) (l' := J301) dX12_init_292 rfl aT_0 kac_0 J_c0 (by decide) (by decide) (Nat.le_of_ble_eq_true rfl) (Nat.le_of_ble_eq_true rfl) (by decide +kernel) (by decide +kernel) jl_300 rfl ?_
  refine g_putF (k := 58) (a := 98) (b := 133) (ci := 12) (rs := rsX12) dX12_init_294 (by decide +kernel) rfl wsT12 tyX12 tyX12_ok nmX12 (by decide) rfl kfl_X12_118 rfl rfl rfl (tyX12_ok 58 (by decide)) (Or.inr ⟨_, rfl⟩) (by decide) ?_
  rw [je_302]
  refine g_aload_n dX12_init_297 rfl ?_
  refine g_bipush dX12_init_298 (inR_c rfl) (by decide) ?_
  refine g_newaJ (n := 134) (n' := 135) (m := 16) (l' := J303) dX12_init_300 rfl aT_0 kac_0 J_c0 (by decide) (by decide) (Nat.le_of_ble_eq_true rfl) (Nat.le_of_ble_eq_true rfl) (by decide +kernel) (by decide +kernel) jl_302 rfl ?_
  refine g_putF (k := 59) (a := 98) (b := 134) (ci := 12) (rs := rsX12) dX12_init_302 (by decide +kernel) rfl wsT12 tyX12 tyX12_ok nmX12 (by decide) rfl kfl_X12_121 rfl rfl rfl (tyX12_ok 59 (by decide)) (Or.inr ⟨_, rfl⟩) (by decide) ?_
  rw [je_304]
  refine g_aload_n dX12_init_305 rfl ?_
  refine g_bipush dX12_init_306 (inR_c rfl) (by decide) ?_
  refine g_newaJ (n := 135) (n' := 136) (m := 80) (l' := J305) dX12_init_308 rfl aT_0 kac_0 J_c0 (by decide) (by decide) (Nat.le_of_ble_eq_true rfl) (Nat.le_of_ble_eq_true rfl) (by decide +kernel) (by decide +kernel) jl_304 rfl ?_
  refine g_putF (k := 60) (a := 98) (b := 135) (ci := 12) (rs := rsX12) dX12_init_310 (by decide +kernel) rfl wsT12 tyX12 tyX12_ok nmX12 (by decide) rfl kfl_X12_124 rfl rfl rfl (tyX12_ok 60 (by decide)) (Or.inr ⟨_, rfl⟩) (by decide) ?_
  rw [je_306]
  refine g_aload_n dX12_init_313 rfl ?_
  refine g_bipush dX12_init_314 (inR_c rfl) (by decide) ?_
  refine g_newaJ (n := 136) (n' := 137) (m := 16) (l' := J307) dX12_init_316 rfl aT_2 kac_2 J_c2 (by decide) (by decide) (Nat.le_of_ble_eq_true rfl) (Nat.le_of_ble_eq_true rfl) (by decide +kernel) (by decide +kernel) jl_306 rfl ?_
  refine g_putF (k := 61) (a := 98) (b := 136) (ci := 12) (rs := rsX12) dX12_init_318 (by decide +kernel) rfl wsT12 tyX12 tyX12_ok nmX12 (by decide) rfl kfl_X12_127 rfl rfl rfl (tyX12_ok 61 (by decide)) (Or.inr ⟨_, rfl⟩) (by decide) ?_
  rw [je_308]
  refine g_aload_n dX12_init_321 rfl ?_
  refine g_bipush dX12_init_322 (inR_c rfl) (by decide) ?_
  refine g_newaJ (n := 137) (n' := 138) (m := 16) (l' := J309) dX12_init_324 rfl aT_0 kac_0 J_c0 (by decide) (by decide) (Nat.le_of_ble_eq_true rfl) (Nat.le_of_ble_eq_true rfl) (by decide +kernel) (by decide +kernel) jl_308 rfl ?_
  refine g_putF (k := 62) (a := 98) (b := 137) (ci := 12) (rs := rsX12) dX12_init_326 (by decide +kernel) rfl wsT12 tyX12 tyX12_ok nmX12 (by decide) rfl kfl_X12_130 rfl rfl rfl (tyX12_ok 62 (by decide)) (Or.inr ⟨_, rfl⟩) (by decide) ?_
  rw [je_310]
  refine g_aload_n dX12_init_329 rfl ?_
  refine g_bipush dX12_init_330 (inR_c rfl) (by decide) ?_
  refine g_newaJ (n := 138) (n' := 139) (m := 16) (l' := J311) dX12_init_332 rfl aT_0 kac_0 J_c0 (by decide) (by decide) (Nat.le_of_ble_eq_true rfl) (Nat.le_of_ble_eq_true rfl) (by decide +kernel) (by decide +kernel) jl_310 rfl ?_
  refine g_putF (k := 63) (a := 98) (b := 138) (ci := 12) (rs := rsX12) dX12_init_334 (by decide +kernel) rfl wsT12 tyX12 tyX12_ok nmX12 (by decide) rfl kfl_X12_133 rfl rfl rfl (tyX12_ok 63 (by decide)) (Or.inr ⟨_, rfl⟩) (by decide) ?_
  rw [je_312]
  refine g_aload_n dX12_init_337 rfl ?_
  refine g_bipush dX12_init_338 (inR_c rfl) (by decide) ?_
  refine g_newaJ (n := 139) (n' := 140) (m := 16) (l' := J313) dX12_init_340 rfl aT_0 kac_0 J_c0 (by decide) (by decide) (Nat.le_of_ble_eq_true rfl) (Nat.le_of_ble_eq_true rfl) (by decide +kernel) (by decide +kernel) jl_312 rfl ?_
  refine g_putF (k := 64) (a := 98) (b := 139) (ci := 12) (rs := rsX12) dX12_init_342 (by decide +kernel) rfl wsT12 tyX12 tyX12_ok nmX12 (by decide) rfl kfl_X12_136 rfl rfl rfl (tyX12_ok 64 (by decide)) (Or.inr ⟨_, rfl⟩) (by decide) ?_
  rw [je_314]
  refine g_aload_n dX12_init_345 rfl ?_
  refine g_bipush dX12_init_346 (inR_c rfl) (by decide) ?_
  refine g_newaJ (n := 140) (n' := 141) (m := 16) (l' := J315) dX12_init_348 rfl aT_2 kac_2 J_c2 (by decide) (by decide) (Nat.le_of_ble_eq_true rfl) (Nat.le_of_ble_eq_true rfl) (by decide +kernel) (by decide +kernel) jl_314 rfl ?_
  refine g_putF (k := 65) (a := 98) (b := 140) (ci := 12) (rs := rsX12) dX12_init_350 (by decide +kernel) rfl wsT12 tyX12 tyX12_ok nmX12 (by decide) rfl kfl_X12_139 rfl rfl rfl (tyX12_ok 65 (by decide)) (Or.inr ⟨_, rfl⟩) (by decide) ?_
  rw [je_316]
  refine g_aload_n dX12_init_353 rfl ?_
  refine g_bipush dX12_init_354 (inR_c rfl) (by decide) ?_
  refine g_newaJ (n := 141) (n' := 142) (m := 16) (l' := J317) dX12_init_356 rfl aT_0 kac_0 J_c0 (by decide) (by decide) (Nat.le_of_ble_eq_true rfl) (Nat.le_of_ble_eq_true rfl) (by decide +kernel) (by decide +kernel) jl_316 rfl ?_
  refine g_putF (k := 66) (a := 98) (b := 141) (ci := 12) (rs := rsX12) dX12_init_358 (by decide +kernel) rfl wsT12 tyX12 tyX12_ok nmX12 (by decide) rfl kfl_X12_142 rfl rfl rfl (tyX12_ok 66 (by decide)) (Or.inr ⟨_, rfl⟩) (by decide) ?_
  rw [je_318]
  refine g_aload_n dX12_init_361 rfl ?_
  refine g_sipush dX12_init_362 (inR_c rfl) (by decide) ?_
  refine g_newaJ (n := 142) (n' := 143) (m := 128) (l' := J319) dX12_init_365 rfl aT_0 kac_0 J_c0 (by decide) (by decide) (Nat.le_of_ble_eq_true rfl) (Nat.le_of_ble_eq_true rfl) (by decide +kernel) (by decide +kernel) jl_318 rfl ?_
  refine g_putF (k := 67) (a := 98) (b := 142) (ci := 12) (rs := rsX12) dX12_init_367 (by decide +kernel) rfl wsT12 tyX12 tyX12_ok nmX12 (by decide) rfl kfl_X12_145 rfl rfl rfl (tyX12_ok 67 (by decide)) (Or.inr ⟨_, rfl⟩) (by decide) ?_
  rw [je_320]
  refine g_aload_n dX12_init_370 rfl ?_
  refine g_sipush dX12_init_371 (inR_c rfl) (by decide) ?_
  refine g_newaJ (n := 143) (n' := 144) (m := 128) (l' := J321) dX12_init_374 rfl aT_0 kac_0 J_c0 (by decide) (by decide) (Nat.le_of_ble_eq_true rfl) (Nat.le_of_ble_eq_true rfl) (by decide +kernel) (by decide +kernel) jl_320 rfl ?_
  refine g_putF (k := 68) (a := 98) (b := 143) (ci := 12) (rs := rsX12) dX12_init_376 (by decide +kernel) rfl wsT12 tyX12 tyX12_ok nmX12 (by decide) rfl kfl_X12_148 rfl rfl rfl (tyX12_ok 68 (by decide)) (Or.inr ⟨_, rfl⟩) (by decide) ?_
  rw [je_322]
  refine g_aload_n dX12_init_379 rfl ?_
  refine g_sipush dX12_init_380 (inR_c rfl) (by decide) ?_
  refine g_newaJ (n := 144) (n' := 145) (m := 200) (l' := J323) dX12_init_383 rfl aT_2 kac_2 J_c2 (by decide) (by decide) (Nat.le_of_ble_eq_true rfl) (Nat.le_of_ble_eq_true rfl) (by decide +kernel) (by decide +kernel) jl_322 rfl ?_
  refine g_putF (k := 69) (a := 98) (b := 144) (ci := 12) (rs := rsX12) dX12_init_385 (by decide +kernel) rfl wsT12 tyX12 tyX12_ok nmX12 (by decide) rfl kfl_X12_151 rfl rfl rfl (tyX12_ok 69 (by decide)) (Or.inr ⟨_, rfl⟩) (by decide) ?_
  rw [je_324]
  refine g_aload_n dX12_init_388 rfl ?_
  refine g_bipush dX12_init_389 (inR_c rfl) (by decide) ?_
  refine g_newaJ (n := 145) (n' := 146) (m := 12) (l' := J325) dX12_init_391 rfl aT_0 kac_0 J_c0 (by decide) (by decide) (Nat.le_of_ble_eq_true rfl) (Nat.le_of_ble_eq_true rfl) (by decide +kernel) (by decide +kernel) jl_324 rfl ?_
  refine g_putF (k := 70) (a := 98) (b := 145) (ci := 12) (rs := rsX12) dX12_init_393 (by decide +kernel) rfl wsT12 tyX12 tyX12_ok nmX12 (by decide) rfl kfl_X12_154 rfl rfl rfl (tyX12_ok 70 (by decide)) (Or.inr ⟨_, rfl⟩) (by decide) ?_
  rw [je_326]
  refine g_aload_n dX12_init_396 rfl ?_
  refine g_bipush dX12_init_397 (inR_c rfl) (by decide) ?_
  refine g_newaJ (n := 146) (n' := 147) (m := 8) (l' := J327) dX12_init_399 rfl aT_0 kac_0 J_c0 (by decide) (by decide) (Nat.le_of_ble_eq_true rfl) (Nat.le_of_ble_eq_true rfl) (by decide +kernel) (by decide +kernel) jl_326 rfl ?_
  refine g_putF (k := 71) (a := 98) (b := 146) (ci := 12) (rs := rsX12) dX12_init_401 (by decide +kernel) rfl wsT12 tyX12 tyX12_ok nmX12 (by decide) rfl kfl_X12_157 rfl rfl rfl (tyX12_ok 71 (by decide)) (Or.inr ⟨_, rfl⟩) (by decide) ?_
  rw [je_328]
  refine g_aload_n dX12_init_404 rfl ?_
  refine g_sipush dX12_init_405 (inR_c rfl) (by decide) ?_
  refine g_newaJ (n := 147) (n' := 148) (m := 2304) (l' := J329) dX12_init_408 rfl aT_0 kac_0 J_c0 (by decide) (by decide) (Nat.le_of_ble_eq_true rfl) (Nat.le_of_ble_eq_true rfl) (by decide +kernel) (by decide +kernel) jl_328 rfl ?_
  refine g_putF (k := 75) (a := 98) (b := 147) (ci := 12) (rs := rsX12) dX12_init_410 (by decide +kernel) rfl wsT12 tyX12 tyX12_ok nmX12 (by decide) rfl kfl_X12_160 rfl rfl rfl (tyX12_ok 75 (by decide)) (Or.inr ⟨_, rfl⟩) (by decide) ?_
  rw [je_330]
  refine g_aload_n dX12_init_413 rfl ?_
  refine g_bipush dX12_init_414 (inR_c rfl) (by decide) ?_
  refine g_newaJ (n := 148) (n' := 149) (m := 16) (l' := J331) dX12_init_416 rfl aT_0 kac_0 J_c0 (by decide) (by decide) (Nat.le_of_ble_eq_true rfl) (Nat.le_of_ble_eq_true rfl) (by decide +kernel) (by decide +kernel) jl_330 rfl ?_
  refine g_putF (k := 76) (a := 98) (b := 148) (ci := 12) (rs := rsX12) dX12_init_418 (by decide +kernel) rfl wsT12 tyX12 tyX12_ok nmX12 (by decide) rfl kfl_X12_163 rfl rfl rfl (tyX12_ok 76 (by decide)) (Or.inr ⟨_, rfl⟩) (by decide) ?_
  rw [je_332]
  refine g_aload_n dX12_init_421 rfl ?_
  refine g_sipush dX12_init_422 (inR_c rfl) (by decide) ?_
  refine g_newaJ (n := 149) (n' := 150) (m := 128) (l' := J333) dX12_init_425 rfl aT_0 kac_0 J_c0 (by decide) (by decide) (Nat.le_of_ble_eq_true rfl) (Nat.le_of_ble_eq_true rfl) (by decide +kernel) (by decide +kernel) jl_332 rfl ?_
  refine g_putF (k := 77) (a := 98) (b := 149) (ci := 12) (rs := rsX12) dX12_init_427 (by decide +kernel) rfl wsT12 tyX12 tyX12_ok nmX12 (by decide) rfl kfl_X12_166 rfl rfl rfl (tyX12_ok 77 (by decide)) (Or.inr ⟨_, rfl⟩) (by decide) ?_
  rw [je_334]
  refine g_aload_n dX12_init_430 rfl ?_
  refine g_bipush dX12_init_431 (inR_c rfl) (by decide) ?_
  refine g_newaJ (n := 150) (n' := 151) (m := 8) (l' := J335) dX12_init_433 rfl aT_0 kac_0 J_c0 (by decide) (by decide) (Nat.le_of_ble_eq_true rfl) (Nat.le_of_ble_eq_true rfl) (by decide +kernel) (by decide +kernel) jl_334 rfl ?_
  refine g_putF (k := 78) (a := 98) (b := 150) (ci := 12) (rs := rsX12) dX12_init_435 (by decide +kernel) rfl wsT12 tyX12 tyX12_ok nmX12 (by decide) rfl kfl_X12_169 rfl rfl rfl (tyX12_ok 78 (by decide)) (Or.inr ⟨_, rfl⟩) (by decide) ?_
  rw [je_336]
  exact g_return dX12_init_438 rfl hPo
theorem J_end : J336 = INI := by decide +kernel
theorem SH_end : SH.take 151 = SH := by decide +kernel
theorem SH_0 : SH.take 0 = [] := rfl
