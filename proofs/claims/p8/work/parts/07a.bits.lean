def yJB : MethodName := ⟨"java/lang/Integer", "bitCount", "(I)I"⟩
theorem dJB_0 : decode prog_16_method_49_code 0 = .ok (.iload_n 0, 1) := by decide +kernel
theorem dJB_1 : decode prog_16_method_49_code 1 = .ok (.iload_n 0, 1) := by decide +kernel
theorem dJB_2 : decode prog_16_method_49_code 2 = .ok (.iconst 1, 1) := by decide +kernel
theorem dJB_3 : decode prog_16_method_49_code 3 = .ok (.iushr, 1) := by decide +kernel
theorem dJB_4 : decode prog_16_method_49_code 4 = .ok (.ldc_w 265, 3) := by decide +kernel
theorem dJB_7 : decode prog_16_method_49_code 7 = .ok (.iand, 1) := by decide +kernel
theorem dJB_8 : decode prog_16_method_49_code 8 = .ok (.isub, 1) := by decide +kernel
theorem dJB_9 : decode prog_16_method_49_code 9 = .ok (.istore_n 0, 1) := by decide +kernel
theorem dJB_10 : decode prog_16_method_49_code 10 = .ok (.iload_n 0, 1) := by decide +kernel
theorem dJB_11 : decode prog_16_method_49_code 11 = .ok (.ldc_w 266, 3) := by decide +kernel
theorem dJB_14 : decode prog_16_method_49_code 14 = .ok (.iand, 1) := by decide +kernel
theorem dJB_15 : decode prog_16_method_49_code 15 = .ok (.iload_n 0, 1) := by decide +kernel
theorem dJB_16 : decode prog_16_method_49_code 16 = .ok (.iconst 2, 1) := by decide +kernel
theorem dJB_17 : decode prog_16_method_49_code 17 = .ok (.iushr, 1) := by decide +kernel
theorem dJB_18 : decode prog_16_method_49_code 18 = .ok (.ldc_w 266, 3) := by decide +kernel
theorem dJB_21 : decode prog_16_method_49_code 21 = .ok (.iand, 1) := by decide +kernel
theorem dJB_22 : decode prog_16_method_49_code 22 = .ok (.iadd, 1) := by decide +kernel
theorem dJB_23 : decode prog_16_method_49_code 23 = .ok (.istore_n 0, 1) := by decide +kernel
theorem dJB_24 : decode prog_16_method_49_code 24 = .ok (.iload_n 0, 1) := by decide +kernel
theorem dJB_25 : decode prog_16_method_49_code 25 = .ok (.iload_n 0, 1) := by decide +kernel
theorem dJB_26 : decode prog_16_method_49_code 26 = .ok (.iconst 4, 1) := by decide +kernel
theorem dJB_27 : decode prog_16_method_49_code 27 = .ok (.iushr, 1) := by decide +kernel
theorem dJB_28 : decode prog_16_method_49_code 28 = .ok (.iadd, 1) := by decide +kernel
theorem dJB_29 : decode prog_16_method_49_code 29 = .ok (.ldc_w 267, 3) := by decide +kernel
theorem dJB_32 : decode prog_16_method_49_code 32 = .ok (.iand, 1) := by decide +kernel
theorem dJB_33 : decode prog_16_method_49_code 33 = .ok (.istore_n 0, 1) := by decide +kernel
theorem dJB_34 : decode prog_16_method_49_code 34 = .ok (.iload_n 0, 1) := by decide +kernel
theorem dJB_35 : decode prog_16_method_49_code 35 = .ok (.iload_n 0, 1) := by decide +kernel
theorem dJB_36 : decode prog_16_method_49_code 36 = .ok (.bipush 8, 2) := by decide +kernel
theorem dJB_38 : decode prog_16_method_49_code 38 = .ok (.iushr, 1) := by decide +kernel
theorem dJB_39 : decode prog_16_method_49_code 39 = .ok (.iadd, 1) := by decide +kernel
theorem dJB_40 : decode prog_16_method_49_code 40 = .ok (.istore_n 0, 1) := by decide +kernel
theorem dJB_41 : decode prog_16_method_49_code 41 = .ok (.iload_n 0, 1) := by decide +kernel
theorem dJB_42 : decode prog_16_method_49_code 42 = .ok (.iload_n 0, 1) := by decide +kernel
theorem dJB_43 : decode prog_16_method_49_code 43 = .ok (.bipush 16, 2) := by decide +kernel
theorem dJB_45 : decode prog_16_method_49_code 45 = .ok (.iushr, 1) := by decide +kernel
theorem dJB_46 : decode prog_16_method_49_code 46 = .ok (.iadd, 1) := by decide +kernel
theorem dJB_47 : decode prog_16_method_49_code 47 = .ok (.istore_n 0, 1) := by decide +kernel
theorem dJB_48 : decode prog_16_method_49_code 48 = .ok (.iload_n 0, 1) := by decide +kernel
theorem dJB_49 : decode prog_16_method_49_code 49 = .ok (.bipush 63, 2) := by decide +kernel
theorem dJB_51 : decode prog_16_method_49_code 51 = .ok (.iand, 1) := by decide +kernel
theorem dJB_52 : decode prog_16_method_49_code 52 = .ok (.ireturn, 1) := by decide +kernel
theorem kc_JB_265 : Cond.constant "java/lang/Integer" 265 (Int32.ofInt 1431655765) ∈ TW := inTW (List.mem_append_right _ (TS4 (List.mem_of_getElem? (i := 69) (by decide +kernel)))) rfl
theorem kc_JB_266 : Cond.constant "java/lang/Integer" 266 (Int32.ofInt 858993459) ∈ TW := inTW (List.mem_append_right _ (TS4 (List.mem_of_getElem? (i := 70) (by decide +kernel)))) rfl
theorem kc_JB_267 : Cond.constant "java/lang/Integer" 267 (Int32.ofInt 252645135) ∈ TW := inTW (List.mem_append_right _ (TS4 (List.mem_of_getElem? (i := 71) (by decide +kernel)))) rfl
theorem mi_JB : MQI yJB prog_16_method_49_code 1 (some .int) 1 := ⟨inTW (List.mem_append_right _ (TS4 (List.mem_of_getElem? (i := 68) (by decide +kernel)))) rfl, inTW (List.mem_append_right _ (TS1 (List.mem_of_getElem? (i := 21) (by decide +kernel)))) rfl, by decide, by decide +kernel⟩
theorem st_JB : Cond.static yJB ∈ TW := inTW (List.mem_append_right _ (TS4 (List.mem_of_getElem? (i := 67) (by decide +kernel)))) rfl
def iushr (x z : Int) : Int := ((Int32.ofInt x).toUInt32 >>> ((Int32.ofInt z).toUInt32 &&& Int32.toUInt32 31)).toInt32.toInt
theorem g_iushr {y : MethodName} {cc : ByteArray} {nL : Nat} {ret : Option FieldType} {scr : Option (List Int)} {Po : Option PV → List SE → MEM → Prop} {Bd : Nat × Nat × Nat × Nat} {pc : Nat} {L : List (Option PV)} {S : List PV} {sh : List SE} {h : MEM} {cs sl : Nat} {x z : Int} (hd : decode cc pc = .ok (.iushr, 1)) (k : inR (iushr x z) → G y cc nL ret scr Po Bd (pc + 1) L (pI (iushr x z) :: S) sh h cs sl) : G y cc nL ret scr Po Bd pc L (pI z :: pI x :: S) sh h cs sl := by
  intro p l e R s m args below meth c Q D cA ext n0 ad0 A X ad H locs ls hW hL hS hc hs
  have h1 := List.forall_mem_cons.mp (List.forall_mem_cons.mp hS).2
  refine lv_iushr (v := Int32.ofInt (iushr x z)) X.1 X.2.1 hd (by unfold iushr; rw [i32_of]) ?_
  exact k (inR_toInt _) p l e R s m args below meth c Q D cA ext n0 ad0 A X ad H locs ls hW hL (List.forall_mem_cons.mpr ⟨inR_toInt _, h1.2⟩) hc hs
/-- what the JDK's bitCount reckons -/
def bc1 (x : Int) : Int := w32 (x - iand (iushr x 1) 1431655765)
def bc2 (x : Int) : Int := w32 (iand x 858993459 + iand (iushr x 2) 858993459)
def bc3 (x : Int) : Int := iand (w32 (x + iushr x 4)) 252645135
def bc4 (x : Int) : Int := w32 (x + iushr x 8)
def bc5 (x : Int) : Int := w32 (x + iushr x 16)
def bcE (x : Int) : Int := iand (bc5 (bc4 (bc3 (bc2 (bc1 x))))) 63
theorem bcE_b {x : Int} : inR (bcE x) := inR_toInt _
set_option maxRecDepth 100000 in
set_option maxHeartbeats 4000000 in
theorem c_JB (x1 : Int) (h : MEM) : CP yJB prog_16_method_49_code 1 (some .int) 1 [pI x1] h (fun x => x = bcE x1) := by
  refine CP.of (L0 := [some (pI x1)]) rfl (Nat.le_of_ble_eq_true rfl) rfl (fun Po hPo hav => ?_)
  refine g_iload_n dJB_0 rfl (fun _ => ?_)
  refine g_iload_n dJB_1 rfl (fun _ => ?_)
  refine g_iconst dJB_2 (inR_c rfl) ?_
  refine g_iushr dJB_3 (fun _ => ?_)
  refine g_ldc_w (v := 1431655765) dJB_4 kc_JB_265 (inR_c rfl) ?_
  refine g_iand dJB_7 (fun _ => ?_)
  refine g_isub dJB_8 ?_
  refine g_istore_n dJB_9 (by decide) rfl ?_
  refine g_iload_n dJB_10 rfl (fun _ => ?_)
  refine g_ldc_w (v := 858993459) dJB_11 kc_JB_266 (inR_c rfl) ?_
  refine g_iand dJB_14 (fun _ => ?_)
  refine g_iload_n dJB_15 rfl (fun _ => ?_)
  refine g_iconst dJB_16 (inR_c rfl) ?_
  refine g_iushr dJB_17 (fun _ => ?_)
  refine g_ldc_w (v := 858993459) dJB_18 kc_JB_266 (inR_c rfl) ?_
  refine g_iand dJB_21 (fun _ => ?_)
  refine g_iadd dJB_22 ?_
  refine g_istore_n dJB_23 (by decide) rfl ?_
  refine g_iload_n dJB_24 rfl (fun _ => ?_)
  refine g_iload_n dJB_25 rfl (fun _ => ?_)
  refine g_iconst dJB_26 (inR_c rfl) ?_
  refine g_iushr dJB_27 (fun _ => ?_)
  refine g_iadd dJB_28 ?_
  refine g_ldc_w (v := 252645135) dJB_29 kc_JB_267 (inR_c rfl) ?_
  refine g_iand dJB_32 (fun _ => ?_)
  refine g_istore_n dJB_33 (by decide) rfl ?_
  refine g_iload_n dJB_34 rfl (fun _ => ?_)
  refine g_iload_n dJB_35 rfl (fun _ => ?_)
  refine g_bipush dJB_36 (inR_c rfl) (by decide) ?_
  refine g_iushr dJB_38 (fun _ => ?_)
  refine g_iadd dJB_39 ?_
  refine g_istore_n dJB_40 (by decide) rfl ?_
  refine g_iload_n dJB_41 rfl (fun _ => ?_)
  refine g_iload_n dJB_42 rfl (fun _ => ?_)
  refine g_bipush dJB_43 (inR_c rfl) (by decide) ?_
  refine g_iushr dJB_45 (fun _ => ?_)
  refine g_iadd dJB_46 ?_
  refine g_istore_n dJB_47 (by decide) rfl ?_
  refine g_iload_n dJB_48 rfl (fun _ => ?_)
  refine g_bipush dJB_49 (inR_c rfl) (by decide) ?_
  refine g_iand dJB_51 (fun _ => ?_)
  exact g_ireturn dJB_52 retI (hPo _ rfl)
theorem g_bitc {y : MethodName} {cc : ByteArray} {nL : Nat} {ret : Option FieldType} {scr : Option (List Int)} {Po : Option PV → List SE → MEM → Prop} {Bd : Nat × Nat × Nat × Nat} {pc : Nat} {L : List (Option PV)} {S : List PV} {h : MEM} {cs sl : Nat} {x : Int} {idx : Nat} (hd : decode cc pc = .ok (.invokestatic idx, 3)) (hl : Cond.methodLink y.cls idx ⟨"java/lang/Integer", "bitCount", "(I)I"⟩ ∈ TW) (hR : roomLe Bd (1, 60, 0, 0) 1 cs sl = true) (hcat : catS S ≤ 8) (k : ∀ v : Int, v = bcE x → -2147483648 ≤ v → v ≤ 2147483647 → G y cc nL ret scr Po Bd (pc + 3) L (pI v :: S) SH h cs sl) : G y cc nL ret scr Po Bd pc L (pI x :: S) SH h cs sl :=
  g_cSP (av := [pI x]) (c_JB x h) hd mi_JB st_JB hl hR rfl rfl rfl hcat (fun v hv => k v hv (hv ▸ bcE_b.1) (hv ▸ bcE_b.2))
