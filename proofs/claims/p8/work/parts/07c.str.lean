/-! ===== the JDK own indexOf over the three literals of the class ===== -/
def yJcoder : MethodName := ⟨"java/lang/String", "coder", "()B"⟩
theorem mi_Jcoder : MQI yJcoder prog_18_method_152_code 1 (some .byte) 0 := ⟨inTW (List.mem_append_right _ (TS3 (List.mem_of_getElem? (i := 38) (by decide +kernel)))) rfl, inTW (List.mem_append_right _ (TS1 (List.mem_of_getElem? (i := 15) (by decide +kernel)))) rfl, by decide, by decide +kernel⟩
theorem in_Jcoder : Cond.instanceMethod yJcoder ∈ TW := inTW (List.mem_append_right _ (TS3 (List.mem_of_getElem? (i := 36) (by decide +kernel)))) rfl
theorem se_Jcoder : Cond.selects "java/lang/String" yJcoder yJcoder ∈ TW := inTW (List.mem_append_right _ (TS3 (List.mem_of_getElem? (i := 37) (by decide +kernel)))) rfl
theorem dJcoder_0 : decode prog_18_method_152_code 0 = .ok (.getstatic 38, 3) := by decide +kernel
theorem dJcoder_3 : decode prog_18_method_152_code 3 = .ok (.ifCond .eq 10, 3) := by decide +kernel
theorem dJcoder_6 : decode prog_18_method_152_code 6 = .ok (.aload_n 0, 1) := by decide +kernel
theorem dJcoder_7 : decode prog_18_method_152_code 7 = .ok (.getfield 15, 3) := by decide +kernel
theorem dJcoder_10 : decode prog_18_method_152_code 10 = .ok (.goto 4, 3) := by decide +kernel
theorem dJcoder_14 : decode prog_18_method_152_code 14 = .ok (.ireturn, 1) := by decide +kernel
def yJisL : MethodName := ⟨"java/lang/String", "isLatin1", "()Z"⟩
theorem mi_JisL : MQI yJisL prog_18_method_154_code 1 (some .boolean) 0 := ⟨inTW (List.mem_append_right _ (TS3 (List.mem_of_getElem? (i := 28) (by decide +kernel)))) rfl, inTW (List.mem_append_right _ (TS1 (List.mem_of_getElem? (i := 15) (by decide +kernel)))) rfl, by decide, by decide +kernel⟩
theorem in_JisL : Cond.instanceMethod yJisL ∈ TW := inTW (List.mem_append_right _ (TS3 (List.mem_of_getElem? (i := 26) (by decide +kernel)))) rfl
theorem se_JisL : Cond.selects "java/lang/String" yJisL yJisL ∈ TW := inTW (List.mem_append_right _ (TS3 (List.mem_of_getElem? (i := 27) (by decide +kernel)))) rfl
theorem dJisL_0 : decode prog_18_method_154_code 0 = .ok (.getstatic 38, 3) := by decide +kernel
theorem dJisL_3 : decode prog_18_method_154_code 3 = .ok (.ifCond .eq 14, 3) := by decide +kernel
theorem dJisL_6 : decode prog_18_method_154_code 6 = .ok (.aload_n 0, 1) := by decide +kernel
theorem dJisL_7 : decode prog_18_method_154_code 7 = .ok (.getfield 15, 3) := by decide +kernel
theorem dJisL_10 : decode prog_18_method_154_code 10 = .ok (.ifCond .ne 7, 3) := by decide +kernel
theorem dJisL_13 : decode prog_18_method_154_code 13 = .ok (.iconst 1, 1) := by decide +kernel
theorem dJisL_14 : decode prog_18_method_154_code 14 = .ok (.goto 4, 3) := by decide +kernel
theorem dJisL_18 : decode prog_18_method_154_code 18 = .ok (.ireturn, 1) := by decide +kernel
def yJlen : MethodName := ⟨"java/lang/String", "length", "()I"⟩
theorem mi_Jlen : MQI yJlen prog_18_method_54_code 1 (some .int) 0 := ⟨inTW (List.mem_append_right _ (TS3 (List.mem_of_getElem? (i := 34) (by decide +kernel)))) rfl, inTW (List.mem_append_right _ (TS1 (List.mem_of_getElem? (i := 15) (by decide +kernel)))) rfl, by decide, by decide +kernel⟩
theorem in_Jlen : Cond.instanceMethod yJlen ∈ TW := inTW (List.mem_append_right _ (TS3 (List.mem_of_getElem? (i := 32) (by decide +kernel)))) rfl
theorem se_Jlen : Cond.selects "java/lang/String" yJlen yJlen ∈ TW := inTW (List.mem_append_right _ (TS3 (List.mem_of_getElem? (i := 33) (by decide +kernel)))) rfl
theorem dJlen_0 : decode prog_18_method_54_code 0 = .ok (.aload_n 0, 1) := by decide +kernel
theorem dJlen_1 : decode prog_18_method_54_code 1 = .ok (.getfield 9, 3) := by decide +kernel
theorem dJlen_4 : decode prog_18_method_54_code 4 = .ok (.arraylength, 1) := by decide +kernel
theorem dJlen_5 : decode prog_18_method_54_code 5 = .ok (.aload_n 0, 1) := by decide +kernel
theorem dJlen_6 : decode prog_18_method_54_code 6 = .ok (.invokevirtual 335, 3) := by decide +kernel
theorem dJlen_9 : decode prog_18_method_54_code 9 = .ok (.ishr, 1) := by decide +kernel
theorem dJlen_10 : decode prog_18_method_54_code 10 = .ok (.ireturn, 1) := by decide +kernel
def yJcan : MethodName := ⟨"java/lang/StringLatin1", "canEncode", "(I)Z"⟩
theorem mi_Jcan : MQI yJcan prog_19_method_4_code 1 (some .boolean) 1 := ⟨inTW (List.mem_append_right _ (TS3 (List.mem_of_getElem? (i := 44) (by decide +kernel)))) rfl, inTW (List.mem_append_right _ (TS1 (List.mem_of_getElem? (i := 16) (by decide +kernel)))) rfl, by decide, by decide +kernel⟩
theorem st_Jcan : Cond.static yJcan ∈ TW := inTW (List.mem_append_right _ (TS3 (List.mem_of_getElem? (i := 43) (by decide +kernel)))) rfl
theorem dJcan_0 : decode prog_19_method_4_code 0 = .ok (.iload_n 0, 1) := by decide +kernel
theorem dJcan_1 : decode prog_19_method_4_code 1 = .ok (.ifCond .lt 14, 3) := by decide +kernel
theorem dJcan_4 : decode prog_19_method_4_code 4 = .ok (.iload_n 0, 1) := by decide +kernel
theorem dJcan_5 : decode prog_19_method_4_code 5 = .ok (.sipush 255, 3) := by decide +kernel
theorem dJcan_8 : decode prog_19_method_4_code 8 = .ok (.if_icmp .gt 7, 3) := by decide +kernel
theorem dJcan_11 : decode prog_19_method_4_code 11 = .ok (.iconst 1, 1) := by decide +kernel
theorem dJcan_12 : decode prog_19_method_4_code 12 = .ok (.goto 4, 3) := by decide +kernel
theorem dJcan_15 : decode prog_19_method_4_code 15 = .ok (.iconst 0, 1) := by decide +kernel
theorem dJcan_16 : decode prog_19_method_4_code 16 = .ok (.ireturn, 1) := by decide +kernel
def yJixc : MethodName := ⟨"java/lang/StringLatin1", "indexOfChar", "([BIII)I"⟩
theorem mi_Jixc : MQI yJixc prog_19_method_23_code 6 (some .int) 4 := ⟨inTW (List.mem_append_right _ (TS3 (List.mem_of_getElem? (i := 51) (by decide +kernel)))) rfl, inTW (List.mem_append_right _ (TS1 (List.mem_of_getElem? (i := 16) (by decide +kernel)))) rfl, by decide, by decide +kernel⟩
theorem st_Jixc : Cond.static yJixc ∈ TW := inTW (List.mem_append_right _ (TS3 (List.mem_of_getElem? (i := 50) (by decide +kernel)))) rfl
theorem dJixc_0 : decode prog_19_method_23_code 0 = .ok (.iload_n 1, 1) := by decide +kernel
theorem dJixc_1 : decode prog_19_method_23_code 1 = .ok (.i2b, 1) := by decide +kernel
theorem dJixc_2 : decode prog_19_method_23_code 2 = .ok (.istore 4, 2) := by decide +kernel
theorem dJixc_4 : decode prog_19_method_23_code 4 = .ok (.iload_n 2, 1) := by decide +kernel
theorem dJixc_5 : decode prog_19_method_23_code 5 = .ok (.istore 5, 2) := by decide +kernel
theorem dJixc_7 : decode prog_19_method_23_code 7 = .ok (.iload 5, 2) := by decide +kernel
theorem dJixc_9 : decode prog_19_method_23_code 9 = .ok (.iload_n 3, 1) := by decide +kernel
theorem dJixc_10 : decode prog_19_method_23_code 10 = .ok (.if_icmp .ge 21, 3) := by decide +kernel
theorem dJixc_13 : decode prog_19_method_23_code 13 = .ok (.aload_n 0, 1) := by decide +kernel
theorem dJixc_14 : decode prog_19_method_23_code 14 = .ok (.iload 5, 2) := by decide +kernel
theorem dJixc_16 : decode prog_19_method_23_code 16 = .ok (.baload, 1) := by decide +kernel
theorem dJixc_17 : decode prog_19_method_23_code 17 = .ok (.iload 4, 2) := by decide +kernel
theorem dJixc_19 : decode prog_19_method_23_code 19 = .ok (.if_icmp .ne 6, 3) := by decide +kernel
theorem dJixc_22 : decode prog_19_method_23_code 22 = .ok (.iload 5, 2) := by decide +kernel
theorem dJixc_24 : decode prog_19_method_23_code 24 = .ok (.ireturn, 1) := by decide +kernel
theorem dJixc_25 : decode prog_19_method_23_code 25 = .ok (.iinc 5 1, 3) := by decide +kernel
theorem dJixc_28 : decode prog_19_method_23_code 28 = .ok (.goto (-21), 3) := by decide +kernel
theorem dJixc_31 : decode prog_19_method_23_code 31 = .ok (.iconst (-1), 1) := by decide +kernel
theorem dJixc_32 : decode prog_19_method_23_code 32 = .ok (.ireturn, 1) := by decide +kernel
def yJixl : MethodName := ⟨"java/lang/StringLatin1", "indexOf", "([BIII)I"⟩
theorem mi_Jixl : MQI yJixl prog_19_method_22_code 4 (some .int) 4 := ⟨inTW (List.mem_append_right _ (TS3 (List.mem_of_getElem? (i := 41) (by decide +kernel)))) rfl, inTW (List.mem_append_right _ (TS1 (List.mem_of_getElem? (i := 16) (by decide +kernel)))) rfl, by decide, by decide +kernel⟩
theorem st_Jixl : Cond.static yJixl ∈ TW := inTW (List.mem_append_right _ (TS3 (List.mem_of_getElem? (i := 40) (by decide +kernel)))) rfl
theorem dJixl_0 : decode prog_19_method_22_code 0 = .ok (.iload_n 1, 1) := by decide +kernel
theorem dJixl_1 : decode prog_19_method_22_code 1 = .ok (.invokestatic 88, 3) := by decide +kernel
theorem dJixl_4 : decode prog_19_method_22_code 4 = .ok (.ifCond .ne 5, 3) := by decide +kernel
theorem dJixl_7 : decode prog_19_method_22_code 7 = .ok (.iconst (-1), 1) := by decide +kernel
theorem dJixl_8 : decode prog_19_method_22_code 8 = .ok (.ireturn, 1) := by decide +kernel
theorem dJixl_9 : decode prog_19_method_22_code 9 = .ok (.iload_n 2, 1) := by decide +kernel
theorem dJixl_10 : decode prog_19_method_22_code 10 = .ok (.iconst 0, 1) := by decide +kernel
theorem dJixl_11 : decode prog_19_method_22_code 11 = .ok (.invokestatic 92, 3) := by decide +kernel
theorem dJixl_14 : decode prog_19_method_22_code 14 = .ok (.istore_n 2, 1) := by decide +kernel
theorem dJixl_15 : decode prog_19_method_22_code 15 = .ok (.iload_n 3, 1) := by decide +kernel
theorem dJixl_16 : decode prog_19_method_22_code 16 = .ok (.aload_n 0, 1) := by decide +kernel
theorem dJixl_17 : decode prog_19_method_22_code 17 = .ok (.arraylength, 1) := by decide +kernel
theorem dJixl_18 : decode prog_19_method_22_code 18 = .ok (.invokestatic 38, 3) := by decide +kernel
theorem dJixl_21 : decode prog_19_method_22_code 21 = .ok (.istore_n 3, 1) := by decide +kernel
theorem dJixl_22 : decode prog_19_method_22_code 22 = .ok (.iload_n 2, 1) := by decide +kernel
theorem dJixl_23 : decode prog_19_method_22_code 23 = .ok (.iload_n 3, 1) := by decide +kernel
theorem dJixl_24 : decode prog_19_method_22_code 24 = .ok (.if_icmp .lt 5, 3) := by decide +kernel
theorem dJixl_27 : decode prog_19_method_22_code 27 = .ok (.iconst (-1), 1) := by decide +kernel
theorem dJixl_28 : decode prog_19_method_22_code 28 = .ok (.ireturn, 1) := by decide +kernel
theorem dJixl_29 : decode prog_19_method_22_code 29 = .ok (.aload_n 0, 1) := by decide +kernel
theorem dJixl_30 : decode prog_19_method_22_code 30 = .ok (.iload_n 1, 1) := by decide +kernel
theorem dJixl_31 : decode prog_19_method_22_code 31 = .ok (.iload_n 2, 1) := by decide +kernel
theorem dJixl_32 : decode prog_19_method_22_code 32 = .ok (.iload_n 3, 1) := by decide +kernel
theorem dJixl_33 : decode prog_19_method_22_code 33 = .ok (.invokestatic 95, 3) := by decide +kernel
theorem dJixl_36 : decode prog_19_method_22_code 36 = .ok (.ireturn, 1) := by decide +kernel
def yJix2 : MethodName := ⟨"java/lang/String", "indexOf", "(II)I"⟩
theorem mi_Jix2 : MQI yJix2 prog_18_method_80_code 3 (some .int) 2 := ⟨inTW (List.mem_append_right _ (TS3 (List.mem_of_getElem? (i := 24) (by decide +kernel)))) rfl, inTW (List.mem_append_right _ (TS1 (List.mem_of_getElem? (i := 15) (by decide +kernel)))) rfl, by decide, by decide +kernel⟩
theorem in_Jix2 : Cond.instanceMethod yJix2 ∈ TW := inTW (List.mem_append_right _ (TS3 (List.mem_of_getElem? (i := 22) (by decide +kernel)))) rfl
theorem se_Jix2 : Cond.selects "java/lang/String" yJix2 yJix2 ∈ TW := inTW (List.mem_append_right _ (TS3 (List.mem_of_getElem? (i := 23) (by decide +kernel)))) rfl
theorem dJix2_0 : decode prog_18_method_80_code 0 = .ok (.aload_n 0, 1) := by decide +kernel
theorem dJix2_1 : decode prog_18_method_80_code 1 = .ok (.invokevirtual 492, 3) := by decide +kernel
theorem dJix2_4 : decode prog_18_method_80_code 4 = .ok (.ifCond .eq 19, 3) := by decide +kernel
theorem dJix2_7 : decode prog_18_method_80_code 7 = .ok (.aload_n 0, 1) := by decide +kernel
theorem dJix2_8 : decode prog_18_method_80_code 8 = .ok (.getfield 9, 3) := by decide +kernel
theorem dJix2_11 : decode prog_18_method_80_code 11 = .ok (.iload_n 1, 1) := by decide +kernel
theorem dJix2_12 : decode prog_18_method_80_code 12 = .ok (.iload_n 2, 1) := by decide +kernel
theorem dJix2_13 : decode prog_18_method_80_code 13 = .ok (.aload_n 0, 1) := by decide +kernel
theorem dJix2_14 : decode prog_18_method_80_code 14 = .ok (.invokevirtual 505, 3) := by decide +kernel
theorem dJix2_17 : decode prog_18_method_80_code 17 = .ok (.invokestatic 637, 3) := by decide +kernel
theorem dJix2_20 : decode prog_18_method_80_code 20 = .ok (.goto 16, 3) := by decide +kernel
theorem dJix2_36 : decode prog_18_method_80_code 36 = .ok (.ireturn, 1) := by decide +kernel
def yJix1 : MethodName := ⟨"java/lang/String", "indexOf", "(I)I"⟩
theorem mi_Jix1 : MQI yJix1 prog_18_method_79_code 2 (some .int) 1 := ⟨inTW (List.mem_append_right _ (TS3 (List.mem_of_getElem? (i := 20) (by decide +kernel)))) rfl, inTW (List.mem_append_right _ (TS1 (List.mem_of_getElem? (i := 15) (by decide +kernel)))) rfl, by decide, by decide +kernel⟩
theorem in_Jix1 : Cond.instanceMethod yJix1 ∈ TW := inTW (List.mem_append_right _ (TS3 (List.mem_of_getElem? (i := 18) (by decide +kernel)))) rfl
theorem se_Jix1 : Cond.selects "java/lang/String" yJix1 yJix1 ∈ TW := inTW (List.mem_append_right _ (TS3 (List.mem_of_getElem? (i := 19) (by decide +kernel)))) rfl
theorem dJix1_0 : decode prog_18_method_79_code 0 = .ok (.aload_n 0, 1) := by decide +kernel
theorem dJix1_1 : decode prog_18_method_79_code 1 = .ok (.iload_n 1, 1) := by decide +kernel
theorem dJix1_2 : decode prog_18_method_79_code 2 = .ok (.iconst 0, 1) := by decide +kernel
theorem dJix1_3 : decode prog_18_method_79_code 3 = .ok (.invokevirtual 633, 3) := by decide +kernel
theorem dJix1_6 : decode prog_18_method_79_code 6 = .ok (.ireturn, 1) := by decide +kernel
theorem ml_J_633 : Cond.methodLink "java/lang/String" 633 yJix2 ∈ TW := inTW (List.mem_append_right _ (TS3 (List.mem_of_getElem? (i := 21) (by decide +kernel)))) rfl
theorem ml_J_492 : Cond.methodLink "java/lang/String" 492 yJisL ∈ TW := inTW (List.mem_append_right _ (TS3 (List.mem_of_getElem? (i := 25) (by decide +kernel)))) rfl
theorem ml_J_505 : Cond.methodLink "java/lang/String" 505 yJlen ∈ TW := inTW (List.mem_append_right _ (TS3 (List.mem_of_getElem? (i := 31) (by decide +kernel)))) rfl
theorem ml_J_335 : Cond.methodLink "java/lang/String" 335 yJcoder ∈ TW := inTW (List.mem_append_right _ (TS3 (List.mem_of_getElem? (i := 35) (by decide +kernel)))) rfl
theorem ml_J_637 : Cond.methodLink "java/lang/String" 637 yJixl ∈ TW := inTW (List.mem_append_right _ (TS3 (List.mem_of_getElem? (i := 39) (by decide +kernel)))) rfl
theorem ml_L_88J : Cond.methodLink "java/lang/StringLatin1" 88 yJcan ∈ TW := inTW (List.mem_append_right _ (TS3 (List.mem_of_getElem? (i := 42) (by decide +kernel)))) rfl
theorem ml_L_95J : Cond.methodLink "java/lang/StringLatin1" 95 yJixc ∈ TW := inTW (List.mem_append_right _ (TS3 (List.mem_of_getElem? (i := 49) (by decide +kernel)))) rfl
theorem ml_L_92J : Cond.methodLink "java/lang/StringLatin1" 92 Lib.Math.max.name ∈ TW ∧ Cond.static Lib.Math.max.name ∈ TW ∧ Cond.initialized "java/lang/Math" ∈ TW ∧ Cond.code Lib.Math.max.name Lib.Math.max.code 2 (some .int) ∈ TW := ⟨inTW (List.mem_append_right _ (TS3 (List.mem_of_getElem? (i := 45) (by decide +kernel)))) rfl, inTW (List.mem_append_right _ (TS3 (List.mem_of_getElem? (i := 46) (by decide +kernel)))) rfl, inTW (List.mem_append_right _ (TS1 (List.mem_of_getElem? (i := 14) (by decide +kernel)))) rfl, inTW (List.mem_append_right _ (TS3 (List.mem_of_getElem? (i := 47) (by decide +kernel)))) rfl⟩
theorem ml_L_38J : Cond.methodLink "java/lang/StringLatin1" 38 Lib.Math.min.name ∈ TW ∧ Cond.static Lib.Math.min.name ∈ TW ∧ Cond.initialized "java/lang/Math" ∈ TW ∧ Cond.code Lib.Math.min.name Lib.Math.min.code 2 (some .int) ∈ TW := ⟨inTW (List.mem_append_right _ (TS3 (List.mem_of_getElem? (i := 48) (by decide +kernel)))) rfl, inTW (List.mem_append_right _ (TS3 (List.mem_of_getElem? (i := 2) (by decide +kernel)))) rfl, inTW (List.mem_append_right _ (TS1 (List.mem_of_getElem? (i := 14) (by decide +kernel)))) rfl, inTW (List.mem_append_right _ (TS3 (List.mem_of_getElem? (i := 3) (by decide +kernel)))) rfl⟩
theorem fl_J_38 : Cond.fieldLink "java/lang/String" 38 "java/lang/String" "COMPACT_STRINGS" "Z" ∈ TW := inTW (List.mem_append_right _ (TS3 (List.mem_of_getElem? (i := 29) (by decide +kernel)))) rfl
theorem fl_J_15 : Cond.fieldLink "java/lang/String" 15 "java/lang/String" "coder" "B" ∈ TW := inTW (List.mem_append_right _ (TS7 (List.mem_of_getElem? (i := 180) (by decide +kernel)))) rfl
theorem fl_J_9 : Cond.fieldLink "java/lang/String" 9 "java/lang/String" "value" "[B" ∈ TW := inTW (List.mem_append_right _ (TS7 (List.mem_of_getElem? (i := 181) (by decide +kernel)))) rfl
def SX (k v : Nat → Nat) (sz : Nat) : State → Prop := fun U => U.heap.size = sz ∧ vk_S 3 lenS bytS k v (fun q => sz ≤ q) U U.heap ∧ va_Z "java/lang/String" "COMPACT_STRINGS" "Z" (.int 1) (fun q => sz ≤ q) U U.heap
/-- what a walk of such a method knows -/
def JX (y : MethodName) (cc : ByteArray) (nL : Nat) (fr lo : Nat) (k v : Nat → Nat) (p : Program) (R : Room) (s : State) (m : MethodId) (args : Array Value) (c : Code) : Prop :=
  p.tables.exec = Jvm.exec ∧ c.code = cc ∧ c.maxLocals = nL ∧ s.vm.findClass y.cls = some m.cls ∧ (∀ w ∈ TW, w.before args s = true) ∧ (R.frames = fr ∧ R.locals = lo) ∧ vk_S 3 lenS bytS k v (fun q => s.heap.size ≤ q) s s.heap ∧ va_Z "java/lang/String" "COMPACT_STRINGS" "Z" (.int 1) (fun q => s.heap.size ≤ q) s s.heap
theorem J_of {y : MethodName} {cc : ByteArray} {nL fr lo : Nat} {ty : FieldType} {k v : Nat → Nat} {av : List Value} {post : Int32 → Prop} (hy : plainName y.cls = true) (hlen : (lg_sl av).length ≤ nL)
    (hb : ∀ (p : Program) (l : Launch) (e : Jvm.Env) (R : Room) (s : State) (m : MethodId) (args : Array Value) (below : List Frame) (meth : Method) (c : Code) (Q : State → Prop) (ls : Array Slot), JX y cc nL fr lo k v p R s m args c → lv_has ls nL (lv_args 0 av) →
      (∀ (r : Int32) (pc : Nat) (ls' : Array Slot), decode cc pc = .ok (.ireturn, 1) → post r → narrow ty (.int r) = .int r → W p l e R s m args below meth c s.heap [] 0 0 Q (F0 m pc ls' [.int r])) →
      W p l e R s m args below meth c s.heap [] 0 0 Q (F0 m 0 ls [])) (l : Launch) (sz : Nat) :
    Met l y (Cond.code y cc nL (some ty) :: TW) { frames := fr, cells := 0, slots := 0, locals := lo } (va_Pc av (SX k v sz)) (vp_Si post) 0 0 (fun _ => False) := by
  refine Met.ofW (cc := cc) (maxL := nL) (ret := some ty) hy rfl ?_
  intro p e s m args below meth c s₁ B hml hv
  obtain ⟨rfl, hsz, hS, hZ⟩ := hv
  have hts := atoms_spec (ws := Cond.code y cc nL (some ty) :: TW) B.pre
  have hown : s.vm.findClass y.cls = some m.cls := findClass_of_methodNamed B.named
  have hlocks := B.notSynchronized
  subst hsz
  have hle := lv_entry av (n := nL) hlen
  rw [lg_entry_eq]
  refine hb p l e _ s m _ below meth c _ _ ⟨B.exec, B.bytes, hml, hown, fun w hw => hts w (List.mem_cons_of_mem _ hw), ⟨rfl, rfl⟩, hS, hZ⟩ hle ?_
  intro r pc ls' hret hr hn
  exact W.zret (v := r) B.exec B.bytes B.returns hn (fun t ht hw => ⟨r, rfl, hr, ht⟩) (fun q hq => by cases hq) hret
theorem j_ret {p : Program} {l : Launch} {e : Jvm.Env} {R : Room} {s : State} {m : MethodId} {args : Array Value} {below : List Frame} {meth : Method} {c : Code} {H : Heap} {locs : List Loc} {cells slots : Nat} {Q : State → Prop} {pc : Nat} {ls : Array Slot} {rest st0 : List Value} {a : Array Value} {post : Int32 → Prop}
    (hr : va_Run p l e R s m args below meth c H locs cells slots 0 0 (F0 m pc ls st0) rest (vp_Si post a) (fun _ => False))
    (kk : ∀ r : Int32, post r → W p l e R s m args below meth c H locs cells slots Q (F0 m (pc + 3) ls (.int r :: rest))) : W p l e R s m args below meth c H locs cells slots Q (F0 m pc ls st0) := by
  intro T hT X
  obtain ⟨v, st₀, t, T', L, h0, X', hL, e1, e2, ⟨r, hv, hp, hh⟩, st⟩ := hr T hT X
  cases hv
  obtain ⟨t2, a1, b1⟩ := kk r hp T' (by rw [e1, hh, h0]) (Stand.forget X' (fun q h => (hL q h).elim))
  exact ⟨t2, st t2 a1, b1⟩
theorem SX_pre {k v : Nat → Nat} {s : State} {H : Heap} {A : Nat → Prop} {locs : List Loc} (hS : vk_S 3 lenS bytS k v A s s.heap) (hZ : va_Z "java/lang/String" "COMPACT_STRINGS" "Z" (.int 1) A s s.heap) (hF : va_S A s.heap H locs) (hA : ∀ q, s.heap.size ≤ q → A q) (As : List Value) : PreS s H (va_Pc As (SX k v H.size)) As := by
  refine ⟨fun a U g mk q => ?_, fun U hU hw => ⟨rfl, by rw [hU], ?_, ?_⟩⟩
  · obtain ⟨q0, q1, q2, q3⟩ := q
    exact ⟨q0, q1, q2.moved (Vm.Alike.refl U.vm), q3.moved (Vm.Alike.refl U.vm)⟩
  · rw [hU]
    exact ((hS.kept hF.2.1).narrow (fun q hq => hA q (Nat.le_trans hF.1 hq))).moved hw.alike
  · rw [hU]
    exact ((hZ.kept hF.2.1).narrow (fun q hq => hA q (Nat.le_trans hF.1 hq))).moved hw.alike
theorem j_B {R : Room} {s : State} {args : Array Value} {own : String} {idx : Nat} {y' : MethodName} {cc' : ByteArray} {nL' n fr lo : Nat} {ret' : Option FieldType} (hTW : ∀ w ∈ TW, w.before args s = true) (hM : MQI y' cc' nL' ret' n) (hf : fr + 1 ≤ R.frames) (hlo : 8 + (nL' + 11) + lo ≤ R.locals) (hl : Cond.methodLink own idx y' ∈ TW) : CallB R s args own idx y' cc' nL' ret' (Cond.code y' cc' nL' ret' :: TW) { frames := fr, cells := 0, slots := 0, locals := lo } 0 0 n := by
  refine ⟨rfl, rfl, hf, hlo, ?_, List.mem_cons_self, hTW _ hM.1, hTW _ hM.2.1, hM.2.2.1, fun sig hsig => ?_, hTW _ hl⟩
  · refine pay_in hTW (fun w hw => ?_)
    rcases List.mem_cons.mp hw with rfl | hw
    · exact good_TW _ hM.1
    · exact good_TW _ hw
  · have h2 := hM.2.2.2
    rw [hsig] at h2
    exact (Option.some.inj h2).symm
theorem t_coder {k v : Nat → Nat} {i : Nat} (hi : i < 3) (l : Launch) (sz : Nat) : Met l yJcoder (Cond.code yJcoder prog_18_method_152_code 1 (some .byte) :: TW) { frames := 0, cells := 0, slots := 0, locals := 40 } (va_Pc [.ref (k i)] (SX k v sz)) (vp_Si (fun r => r = 0)) 0 0 (fun _ => False) := by
  refine J_of rfl (Nat.le_of_ble_eq_true rfl) (fun p l e R s m args below meth c Q ls X hL kr => ?_) l sz
  obtain ⟨hx, hb, hml, hown, hts, hR, hS, hZ⟩ := X
  refine va_gets hx hb hZ va_S.rf hown (hts _ fl_J_38) (fun x hx => hx) dJcoder_0 ?_
  refine lv_if_eq hx hb (tgt := 13) dJcoder_3 (by decide) (fun h => absurd h (by decide)) (fun _ => ?_)
  refine lv_aload_n hx hb dJcoder_6 rfl (lv_at hL 0 rfl) ?_
  refine vk_getf hx hb (hS.1 i hi).2.1 va_S.rf hown (hts _ fl_J_15) (fun x hx => hx) dJcoder_7 ?_
  refine lv_goto hx hb (tgt := 14) dJcoder_10 (by decide) ?_
  exact kr _ _ _ dJcoder_14 rfl (by decide)
theorem t_isL {k v : Nat → Nat} {i : Nat} (hi : i < 3) (l : Launch) (sz : Nat) : Met l yJisL (Cond.code yJisL prog_18_method_154_code 1 (some .boolean) :: TW) { frames := 0, cells := 0, slots := 0, locals := 40 } (va_Pc [.ref (k i)] (SX k v sz)) (vp_Si (fun r => r = 1)) 0 0 (fun _ => False) := by
  refine J_of rfl (Nat.le_of_ble_eq_true rfl) (fun p l e R s m args below meth c Q ls X hL kr => ?_) l sz
  obtain ⟨hx, hb, hml, hown, hts, hR, hS, hZ⟩ := X
  refine va_gets hx hb hZ va_S.rf hown (hts _ fl_J_38) (fun x hx => hx) dJisL_0 ?_
  refine lv_if_eq hx hb (tgt := 17) dJisL_3 (by decide) (fun h => absurd h (by decide)) (fun _ => ?_)
  refine lv_aload_n hx hb dJisL_6 rfl (lv_at hL 0 rfl) ?_
  refine vk_getf hx hb (hS.1 i hi).2.1 va_S.rf hown (hts _ fl_J_15) (fun x hx => hx) dJisL_7 ?_
  refine lv_if_ne hx hb (tgt := 17) dJisL_10 (by decide) (fun h => absurd rfl h) (fun _ => ?_)
  refine lv_iconst hx hb dJisL_13 rfl ?_
  refine lv_goto hx hb (tgt := 18) dJisL_14 (by decide) ?_
  exact kr _ _ _ dJisL_18 rfl (by decide)
theorem t_len {k v : Nat → Nat} {i : Nat} (hi : i < 3) (l : Launch) (sz : Nat) : Met l yJlen (Cond.code yJlen prog_18_method_54_code 1 (some .int) :: TW) { frames := 1, cells := 0, slots := 0, locals := 80 } (va_Pc [.ref (k i)] (SX k v sz)) (vp_Si (fun _ => True)) 0 0 (fun _ => False) := by
  refine J_of rfl (Nat.le_of_ble_eq_true rfl) (fun p l e R s m args below meth c Q ls X hL kr => ?_) l sz
  obtain ⟨hx, hb, hml, hown, hts, hR, hS, hZ⟩ := X
  refine lv_aload_n hx hb dJlen_0 rfl (lv_at hL 0 rfl) ?_
  refine vk_getf hx hb (hS.1 i hi).2.2.1 va_S.rf hown (hts _ fl_J_9) (fun x hx => hx) dJlen_1 ?_
  refine va_tlen hx hb (hS.1 i hi).2.2.2 va_S.rf rfl dJlen_4 ?_
  refine lv_aload_n hx hb dJlen_5 rfl (lv_at hL 0 rfl) ?_
  refine j_ret (va_runV (b := k i) (As := []) (rest := [.int (Int32.ofNat (lenS.getD i 0))]) (Ts := TW) (C := "java/lang/String") ⟨hx, hb, hml, hown, hts⟩ (t_coder hi l s.heap.size) ⟨j_B hts mi_Jcoder (by omega) (by omega) ml_J_335, hts _ in_Jcoder, hts _ se_Jcoder⟩ ⟨(SX_pre hS hZ va_S.rf (fun _ h => h) _).1, vk_recv hS hi va_S.rf, (SX_pre hS hZ va_S.rf (fun _ h => h) _).2⟩ rfl rfl hL.1 rfl (lv_room (by simp [Value.category])) dJlen_6 ⟨Nat.zero_le _, Nat.zero_le _⟩) (fun r hr => ?_)
  subst hr
  refine lv_ishr hx hb dJlen_9 ?_
  exact kr _ _ _ dJlen_10 trivial rfl
theorem t_can {k v : Nat → Nat} {x : Int32} (l : Launch) (sz : Nat) : Met l yJcan (Cond.code yJcan prog_19_method_4_code 1 (some .boolean) :: TW) { frames := 0, cells := 0, slots := 0, locals := 40 } (va_Pc [.int x] (SX k v sz)) (vp_Si (fun _ => True)) 0 0 (fun _ => False) := by
  refine J_of rfl (Nat.le_of_ble_eq_true rfl) (fun p l e R s m args below meth c Q ls X hL kr => ?_) l sz
  obtain ⟨hx, hb, hml, hown, hts, hR, hS, hZ⟩ := X
  refine lv_iload_n hx hb dJcan_0 rfl (lv_at hL 0 rfl) ?_
  refine lv_if_lt hx hb (tgt := 15) dJcan_1 (by decide) (fun _ => ?_) (fun _ => ?_)
  · refine lv_iconst hx hb dJcan_15 rfl ?_
    exact kr _ _ _ dJcan_16 trivial (by decide)
  refine lv_iload_n hx hb dJcan_4 rfl (lv_at hL 0 rfl) ?_
  refine lv_sipush hx hb dJcan_5 rfl ?_
  refine lv_icmp_gt hx hb (tgt := 15) dJcan_8 (by decide) (fun _ => ?_) (fun _ => ?_)
  · refine lv_iconst hx hb dJcan_15 rfl ?_
    exact kr _ _ _ dJcan_16 trivial (by decide)
  refine lv_iconst hx hb dJcan_11 rfl ?_
  refine lv_goto hx hb (tgt := 16) dJcan_12 (by decide) ?_
  exact kr _ _ _ dJcan_16 trivial (by decide)
theorem t_ixc {k v : Nat → Nat} {i : Nat} (hi : i < 3) {x from1 to1 : Int32} (h0 : ¬ from1 < 0) (h1 : ¬ Int32.ofNat (lenS.getD i 0) < to1) (l : Launch) (sz : Nat) : Met l yJixc (Cond.code yJixc prog_19_method_23_code 6 (some .int) :: TW) { frames := 0, cells := 0, slots := 0, locals := 40 } (va_Pc [.ref (v i), .int x, .int from1, .int to1] (SX k v sz)) (vp_Si (fun _ => True)) 0 0 (fun _ => False) := by
  refine J_of rfl (Nat.le_of_ble_eq_true rfl) (fun p l e R s m args below meth c Q ls X hL kr => ?_) l sz
  obtain ⟨hx, hb, hml, hown, hts, hR, hS, hZ⟩ := X
  have hlen : lenS.getD i 0 ≤ 12 := by
    have : ∀ i < 3, lenS.getD i 0 ≤ 12 := by decide
    exact this i hi
  refine lv_iload_n hx hb dJixc_0 rfl (lv_at hL 1 rfl) ?_
  refine lv_i2b hx hb dJixc_1 rfl ?_
  refine lv_istore hx hb dJixc_2 hL (by decide) rfl (fun ls hL => ?_)
  refine lv_iload_n hx hb dJixc_4 rfl (lv_at hL 3 rfl) ?_
  refine lv_istore hx hb dJixc_5 hL (by decide) rfl (fun ls hL => ?_)
  have key : ∀ (n : Nat) (j : Int32) (ls : Array Slot) (b0 : Int32), ¬ j < 0 → (to1.toInt - j.toInt).toNat < n → lv_has ls 6 [(0, .ref (v i)), (1, .int x), (2, .int from1), (3, .int to1), (4, .int b0), (5, .int j)] → W p l e R s m args below meth c s.heap [] 0 0 Q (F0 m 7 ls []) := by
    intro n
    induction n with
    | zero => intro j ls b0 _ h; omega
    | succ n ih =>
      intro j ls b0 hj hn hL
      refine lv_iload hx hb dJixc_7 (lv_at hL 5 rfl) ?_
      refine lv_iload_n hx hb dJixc_9 rfl (lv_at hL 3 rfl) ?_
      refine lv_icmp_ge hx hb (tgt := 31) dJixc_10 (by decide) (fun _ => ?_) (fun hlt => ?_)
      · refine lv_iconst hx hb dJixc_31 rfl ?_
        exact kr _ _ _ dJixc_32 trivial rfl
      have hj0 : 0 ≤ j.toInt := by
        have := Int32.not_lt.mp hj
        simpa using Int32.le_iff_toInt_le.mp this
      have hjt : j.toInt < to1.toInt := Int32.lt_iff_toInt_lt.mp (Int32.not_le.mp hlt)
      have htl : to1.toInt ≤ lenS.getD i 0 := by
        have h2 := Int32.le_iff_toInt_le.mp (Int32.not_lt.mp h1)
        rw [show Int32.ofNat (lenS.getD i 0) = Int32.ofInt ((lenS.getD i 0 : Nat) : Int) from (Int32.ofInt_eq_ofNat).symm, i32_toInt (by unfold inR; omega)] at h2
        exact h2
      refine lv_aload_n hx hb dJixc_13 rfl (lv_at hL 0 rfl) ?_
      refine lv_iload hx hb dJixc_14 (lv_at hL 5 rfl) ?_
      refine va_tb hx hb (hS.1 i hi).2.2.2 va_S.rf (fun q => ?_) rfl dJixc_16 ?_
      · rcases q with q | q
        · exact hj q
        · have : j.toNatClampNeg = j.toInt.toNat := rfl
          omega
      refine lv_iload hx hb dJixc_17 (lv_at hL 4 rfl) ?_
      refine lv_icmp_ne hx hb (tgt := 25) dJixc_19 (by decide) (fun _ => ?_) (fun _ => ?_)
      · refine lv_iinc (k := 5) hx hb dJixc_25 hL rfl rfl (by decide) rfl (fun ls hL => ?_)
        refine lv_goto hx hb (tgt := 7) dJixc_28 (by decide) ?_
        have e1 : (j + Int32.ofInt 1).toInt = j.toInt + 1 := by
          rw [Int32.toInt_add, Int.bmod_def]
          have : (Int32.ofInt 1).toInt = 1 := rfl
          omega
        refine ih (j + Int32.ofInt 1) ls b0 (fun q => ?_) ?_ (lv_sub hL [1, 2, 3, 4, 5, 0] rfl)
        · have := Int32.lt_iff_toInt_lt.mp q
          rw [e1] at this
          have z : (0 : Int32).toInt = 0 := rfl
          omega
        · rw [e1]; omega
      · refine lv_iload hx hb dJixc_22 (lv_at hL 5 rfl) ?_
        exact kr _ _ _ dJixc_24 trivial rfl
  exact key _ _ ls _ h0 (Nat.lt_succ_self _) (lv_sub hL [2, 3, 4, 5, 1, 0] rfl)
theorem t_ixl {k v : Nat → Nat} {i : Nat} (hi : i < 3) {x to1 : Int32} (l : Launch) (sz : Nat) : Met l yJixl (Cond.code yJixl prog_19_method_22_code 4 (some .int) :: TW) { frames := 1, cells := 0, slots := 0, locals := 90 } (va_Pc [.ref (v i), .int x, .int 0, .int to1] (SX k v sz)) (vp_Si (fun _ => True)) 0 0 (fun _ => False) := by
  refine J_of rfl (Nat.le_of_ble_eq_true rfl) (fun p l e R s m args below meth c Q ls X hL kr => ?_) l sz
  obtain ⟨hx, hb, hml, hown, hts, hR, hS, hZ⟩ := X
  refine lv_iload_n hx hb dJixl_0 rfl (lv_at hL 1 rfl) ?_
  refine j_ret (va_runS (As := [.int x]) (rest := []) (Ts := TW) ⟨hx, hb, hml, hown, hts⟩ (t_can l s.heap.size) ⟨j_B hts mi_Jcan (by omega) (by omega) ml_L_88J, hts _ st_Jcan⟩ (SX_pre hS hZ va_S.rf (fun _ h => h) _) rfl rfl hL.1 rfl (lv_room (by decide)) dJixl_1 ⟨Nat.zero_le _, Nat.zero_le _⟩) (fun r _ => ?_)
  refine lv_if_ne hx hb (tgt := 9) dJixl_4 (by decide) (fun _ => ?_) (fun _ => ?_)
  · refine lv_iload_n hx hb dJixl_9 rfl (lv_at hL 2 rfl) ?_
    refine lv_iconst hx hb dJixl_10 rfl ?_
    refine va_mmax hx hb (hml.trans hL.1.symm) hown (hts _ ml_L_92J.1) (hts _ ml_L_92J.2.1) (hts _ ml_L_92J.2.2.1) (hts _ ml_L_92J.2.2.2) (by omega) (by simp [Value.category]; omega) (Nat.zero_le _) (Nat.zero_le _) dJixl_11 ?_
    refine lv_istore_n hx hb dJixl_14 rfl hL (by decide) rfl (fun ls hL => ?_)
    refine lv_iload_n hx hb dJixl_15 rfl (lv_at hL 3 rfl) ?_
    refine lv_aload_n hx hb dJixl_16 rfl (lv_at hL 1 rfl) ?_
    refine va_tlen hx hb (hS.1 i hi).2.2.2 va_S.rf rfl dJixl_17 ?_
    refine va_mmin hx hb (hml.trans hL.1.symm) hown (hts _ ml_L_38J.1) (hts _ ml_L_38J.2.1) (hts _ ml_L_38J.2.2.1) (hts _ ml_L_38J.2.2.2) (by omega) (by simp [Value.category]; omega) (Nat.zero_le _) (Nat.zero_le _) dJixl_18 ?_
    refine lv_istore_n hx hb dJixl_21 rfl hL (by decide) rfl (fun ls hL => ?_)
    refine lv_iload_n hx hb dJixl_22 rfl (lv_at hL 1 rfl) ?_
    refine lv_iload_n hx hb dJixl_23 rfl (lv_at hL 0 rfl) ?_
    refine lv_icmp_lt hx hb (tgt := 29) dJixl_24 (by decide) (fun _ => ?_) (fun _ => ?_)
    · refine lv_aload_n hx hb dJixl_29 rfl (lv_at hL 2 rfl) ?_
      refine lv_iload_n hx hb dJixl_30 rfl (lv_at hL 3 rfl) ?_
      refine lv_iload_n hx hb dJixl_31 rfl (lv_at hL 1 rfl) ?_
      refine lv_iload_n hx hb dJixl_32 rfl (lv_at hL 0 rfl) ?_
      refine j_ret (va_runS (As := [.ref (v i), .int x, .int _, .int _]) (rest := []) (Ts := TW) ⟨hx, hb, hml, hown, hts⟩ (t_ixc hi (by decide) ?_ l s.heap.size) ⟨j_B hts mi_Jixc (by omega) (by omega) ml_L_95J, hts _ st_Jixc⟩ (SX_pre hS hZ va_S.rf (fun _ h => h) _) rfl rfl hL.1 rfl (lv_room (by decide)) dJixl_33 ⟨Nat.zero_le _, Nat.zero_le _⟩) (fun r _ => ?_)
      · intro q
        split at q
        · exact Int32.lt_irrefl q
        · next h => exact h q
      · exact kr _ _ _ dJixl_36 trivial rfl
    · refine lv_iconst hx hb dJixl_27 rfl ?_
      exact kr _ _ _ dJixl_28 trivial rfl
  · refine lv_iconst hx hb dJixl_7 rfl ?_
    exact kr _ _ _ dJixl_8 trivial rfl
theorem t_ix2 {k v : Nat → Nat} {i : Nat} (hi : i < 3) {x : Int32} (l : Launch) (sz : Nat) : Met l yJix2 (Cond.code yJix2 prog_18_method_80_code 3 (some .int) :: TW) { frames := 2, cells := 0, slots := 0, locals := 130 } (va_Pc [.ref (k i), .int x, .int 0] (SX k v sz)) (vp_Si (fun _ => True)) 0 0 (fun _ => False) := by
  refine J_of rfl (Nat.le_of_ble_eq_true rfl) (fun p l e R s m args below meth c Q ls X hL kr => ?_) l sz
  obtain ⟨hx, hb, hml, hown, hts, hR, hS, hZ⟩ := X
  refine lv_aload_n hx hb dJix2_0 rfl (lv_at hL 0 rfl) ?_
  refine j_ret (va_runV (b := k i) (As := []) (rest := []) (Ts := TW) (C := "java/lang/String") ⟨hx, hb, hml, hown, hts⟩ (t_isL hi l s.heap.size) ⟨j_B hts mi_JisL (by omega) (by omega) ml_J_492, hts _ in_JisL, hts _ se_JisL⟩ ⟨(SX_pre hS hZ va_S.rf (fun _ h => h) _).1, vk_recv hS hi va_S.rf, (SX_pre hS hZ va_S.rf (fun _ h => h) _).2⟩ rfl rfl hL.1 rfl (lv_room (by decide)) dJix2_1 ⟨Nat.zero_le _, Nat.zero_le _⟩) (fun r hr => ?_)
  subst hr
  refine lv_if_eq hx hb (tgt := 23) dJix2_4 (by decide) (fun h => absurd h (by decide)) (fun _ => ?_)
  refine lv_aload_n hx hb dJix2_7 rfl (lv_at hL 0 rfl) ?_
  refine vk_getf hx hb (hS.1 i hi).2.2.1 va_S.rf hown (hts _ fl_J_9) (fun x hx => hx) dJix2_8 ?_
  refine lv_iload_n hx hb dJix2_11 rfl (lv_at hL 1 rfl) ?_
  refine lv_iload_n hx hb dJix2_12 rfl (lv_at hL 2 rfl) ?_
  refine lv_aload_n hx hb dJix2_13 rfl (lv_at hL 0 rfl) ?_
  refine j_ret (va_runV (b := k i) (As := []) (rest := [.int 0, .int x, .ref (v i)]) (Ts := TW) (C := "java/lang/String") ⟨hx, hb, hml, hown, hts⟩ (t_len hi l s.heap.size) ⟨j_B hts mi_Jlen (by omega) (by omega) ml_J_505, hts _ in_Jlen, hts _ se_Jlen⟩ ⟨(SX_pre hS hZ va_S.rf (fun _ h => h) _).1, vk_recv hS hi va_S.rf, (SX_pre hS hZ va_S.rf (fun _ h => h) _).2⟩ rfl rfl hL.1 rfl (lv_room (by simp [Value.category])) dJix2_14 ⟨Nat.zero_le _, Nat.zero_le _⟩) (fun r _ => ?_)
  refine j_ret (va_runS (As := [.ref (v i), .int x, .int 0, .int r]) (rest := []) (Ts := TW) ⟨hx, hb, hml, hown, hts⟩ (t_ixl hi l s.heap.size) ⟨j_B hts mi_Jixl (by omega) (by omega) ml_J_637, hts _ st_Jixl⟩ (SX_pre hS hZ va_S.rf (fun _ h => h) _) rfl rfl hL.1 rfl (lv_room (by decide)) dJix2_17 ⟨Nat.zero_le _, Nat.zero_le _⟩) (fun r _ => ?_)
  refine lv_goto hx hb (tgt := 36) dJix2_20 (by decide) ?_
  exact kr _ _ _ dJix2_36 trivial rfl
theorem t_ix1 {k v : Nat → Nat} {i : Nat} (hi : i < 3) {x : Int32} (l : Launch) (sz : Nat) : Met l yJix1 (Cond.code yJix1 prog_18_method_79_code 2 (some .int) :: TW) { frames := 3, cells := 0, slots := 0, locals := 170 } (va_Pc [.ref (k i), .int x] (SX k v sz)) (vp_Si (fun _ => True)) 0 0 (fun _ => False) := by
  refine J_of rfl (Nat.le_of_ble_eq_true rfl) (fun p l e R s m args below meth c Q ls X hL kr => ?_) l sz
  obtain ⟨hx, hb, hml, hown, hts, hR, hS, hZ⟩ := X
  refine lv_aload_n hx hb dJix1_0 rfl (lv_at hL 0 rfl) ?_
  refine lv_iload_n hx hb dJix1_1 rfl (lv_at hL 1 rfl) ?_
  refine lv_iconst hx hb dJix1_2 rfl ?_
  refine j_ret (va_runV (b := k i) (As := [.int x, .int 0]) (rest := []) (Ts := TW) (C := "java/lang/String") ⟨hx, hb, hml, hown, hts⟩ (t_ix2 hi l s.heap.size) ⟨j_B hts mi_Jix2 (by omega) (by omega) ml_J_633, hts _ in_Jix2, hts _ se_Jix2⟩ ⟨(SX_pre hS hZ va_S.rf (fun _ h => h) _).1, vk_recv hS hi va_S.rf, (SX_pre hS hZ va_S.rf (fun _ h => h) _).2⟩ rfl rfl hL.1 rfl (lv_room (by decide)) dJix1_3 ⟨Nat.zero_le _, Nat.zero_le _⟩) (fun r _ => ?_)
  exact kr _ _ _ dJix1_6 trivial rfl
theorem sr_X5_64 : Cond.stringRef RX5 64 "mfld" ∈ lw_tbl := List.mem_append_right _ (List.mem_of_getElem? (i := 496) (by decide +kernel))
theorem g_sidx_n0 {y : MethodName} {cc : ByteArray} {nL : Nat} {ret : Option FieldType} {scr : Option (List Int)} {Po : Option PV → List SE → MEM → Prop} {Bd : Nat × Nat × Nat × Nat} {pc : Nat} {L : List (Option PV)} {S : List PV} {sh : List SE} {h : MEM} {cs sl : Nat} {j : Fin 4} {idx2 : Nat} {x : Int} (hy : y.cls = RX5) (hl : L[j.val]? = some (some (pI x))) (hd1 : decode cc pc = .ok (.ldc 64, 2)) (hd2 : decode cc (pc + 2) = .ok (.iload_n j, 1)) (hd3 : decode cc (pc + 2 + 1) = .ok (.invokevirtual idx2, 3)) (hm : Cond.methodLink RX5 idx2 ⟨"java/lang/String", "indexOf", "(I)I"⟩ ∈ TW) (hR : roomLe Bd (3, 170, 0, 0) 2 cs sl = true) (hcat : catS S ≤ 8)
    (k : ∀ v : Int, -2147483648 ≤ v → v ≤ 2147483647 → G y cc nL ret scr Po Bd (pc + 2 + 1 + 3) L (pI v :: S) sh h cs sl) : G y cc nL ret scr Po Bd pc L S sh h cs sl := by
  intro p l e R s m args below meth c Q D cA ext n0 ad0 A X ad H locs ls hW hL hS hc hs
  obtain ⟨ak, av, hk1, hk2, hk3, hk4, hk5⟩ := X.2.2.2.2.2.2.2.2.2.1.2
  obtain ⟨r1, r2, r3, r4⟩ := roomLe_of hR
  have r1 : 3 + 1 ≤ Bd.1 := r1
  have r2 : 8 + (2 + 11) + 170 ≤ Bd.2.1 := r2
  have r3 : cs + 0 ≤ Bd.2.2.1 := r3
  have r4 : sl + 0 ≤ Bd.2.2.2 := r4
  have h1 := hL.2.2.2 _ _ hl
  have hown : s.vm.findClass RX5 = some m.cls := by rw [← hy]; exact X.2.2.2.1
  have hf := X.2.2.2.2.2.2.2.1.1
  have hlo := X.2.2.2.2.2.2.2.1.2.1
  refine va_ldcS X.1 X.2.1 hown hk2 hd1 ?_
  refine lv_iload_n X.1 X.2.1 hd2 rfl h1.2 ?_
  refine j_ret (va_runV (b := ak 0) (As := [.int (Int32.ofInt x)]) (rest := S.map (pvv ad ext)) (Ts := TW) (C := "java/lang/String") ⟨X.1, X.2.1, X.2.2.1, hown, X.2.2.2.2.1⟩ (t_ix1 (v := av) (i := 0) (by decide) l H.size) ⟨j_B X.2.2.2.2.1 mi_Jix1 (by omega) (by omega) hm, X.2.2.2.2.1 _ in_Jix1, X.2.2.2.2.1 _ se_Jix1⟩ ⟨(SX_pre hk1 hk5 hW.2.2.1 X.2.2.2.2.2.2.2.2.1 _).1, vk_recv hk1 (by decide) hW.2.2.1, (SX_pre hk1 hk5 hW.2.2.1 X.2.2.2.2.2.2.2.2.1 _).2⟩ rfl rfl hL.1 rfl (lv_room (by rw [catS_eq (ext_cat X.2.2.2.2.2.2.2.2.2.1.1)]; exact hcat)) hd3 ⟨by omega, by omega⟩) (fun r _ => ?_)
  have hk := k r.toInt (inR_toInt r).1 (inR_toInt r).2 p l e R s m args below meth c Q D cA ext n0 ad0 A X ad H locs ls hW hL (List.forall_mem_cons.mpr ⟨inR_toInt r, hS⟩) hc hs
  rw [List.map_cons, show pvv ad ext (pI r.toInt) = .int r from by simp [pvv]] at hk
  exact hk
theorem sr_X5_115 : Cond.stringRef RX5 115 "agsoqnetwbkh" ∈ lw_tbl := List.mem_append_right _ (List.mem_of_getElem? (i := 601) (by decide +kernel))
theorem g_sidx_n1 {y : MethodName} {cc : ByteArray} {nL : Nat} {ret : Option FieldType} {scr : Option (List Int)} {Po : Option PV → List SE → MEM → Prop} {Bd : Nat × Nat × Nat × Nat} {pc : Nat} {L : List (Option PV)} {S : List PV} {sh : List SE} {h : MEM} {cs sl : Nat} {j : Fin 4} {idx2 : Nat} {x : Int} (hy : y.cls = RX5) (hl : L[j.val]? = some (some (pI x))) (hd1 : decode cc pc = .ok (.ldc 115, 2)) (hd2 : decode cc (pc + 2) = .ok (.iload_n j, 1)) (hd3 : decode cc (pc + 2 + 1) = .ok (.invokevirtual idx2, 3)) (hm : Cond.methodLink RX5 idx2 ⟨"java/lang/String", "indexOf", "(I)I"⟩ ∈ TW) (hR : roomLe Bd (3, 170, 0, 0) 2 cs sl = true) (hcat : catS S ≤ 8)
    (k : ∀ v : Int, -2147483648 ≤ v → v ≤ 2147483647 → G y cc nL ret scr Po Bd (pc + 2 + 1 + 3) L (pI v :: S) sh h cs sl) : G y cc nL ret scr Po Bd pc L S sh h cs sl := by
  intro p l e R s m args below meth c Q D cA ext n0 ad0 A X ad H locs ls hW hL hS hc hs
  obtain ⟨ak, av, hk1, hk2, hk3, hk4, hk5⟩ := X.2.2.2.2.2.2.2.2.2.1.2
  obtain ⟨r1, r2, r3, r4⟩ := roomLe_of hR
  have r1 : 3 + 1 ≤ Bd.1 := r1
  have r2 : 8 + (2 + 11) + 170 ≤ Bd.2.1 := r2
  have r3 : cs + 0 ≤ Bd.2.2.1 := r3
  have r4 : sl + 0 ≤ Bd.2.2.2 := r4
  have h1 := hL.2.2.2 _ _ hl
  have hown : s.vm.findClass RX5 = some m.cls := by rw [← hy]; exact X.2.2.2.1
  have hf := X.2.2.2.2.2.2.2.1.1
  have hlo := X.2.2.2.2.2.2.2.1.2.1
  refine va_ldcS X.1 X.2.1 hown hk3 hd1 ?_
  refine lv_iload_n X.1 X.2.1 hd2 rfl h1.2 ?_
  refine j_ret (va_runV (b := ak 1) (As := [.int (Int32.ofInt x)]) (rest := S.map (pvv ad ext)) (Ts := TW) (C := "java/lang/String") ⟨X.1, X.2.1, X.2.2.1, hown, X.2.2.2.2.1⟩ (t_ix1 (v := av) (i := 1) (by decide) l H.size) ⟨j_B X.2.2.2.2.1 mi_Jix1 (by omega) (by omega) hm, X.2.2.2.2.1 _ in_Jix1, X.2.2.2.2.1 _ se_Jix1⟩ ⟨(SX_pre hk1 hk5 hW.2.2.1 X.2.2.2.2.2.2.2.2.1 _).1, vk_recv hk1 (by decide) hW.2.2.1, (SX_pre hk1 hk5 hW.2.2.1 X.2.2.2.2.2.2.2.2.1 _).2⟩ rfl rfl hL.1 rfl (lv_room (by rw [catS_eq (ext_cat X.2.2.2.2.2.2.2.2.2.1.1)]; exact hcat)) hd3 ⟨by omega, by omega⟩) (fun r _ => ?_)
  have hk := k r.toInt (inR_toInt r).1 (inR_toInt r).2 p l e R s m args below meth c Q D cA ext n0 ad0 A X ad H locs ls hW hL (List.forall_mem_cons.mpr ⟨inR_toInt r, hS⟩) hc hs
  rw [List.map_cons, show pvv ad ext (pI r.toInt) = .int r from by simp [pvv]] at hk
  exact hk
theorem sr_X5_103 : Cond.stringRef RX5 103 "<>=" ∈ lw_tbl := List.mem_append_right _ (List.mem_of_getElem? (i := 640) (by decide +kernel))
theorem g_sidx_n2 {y : MethodName} {cc : ByteArray} {nL : Nat} {ret : Option FieldType} {scr : Option (List Int)} {Po : Option PV → List SE → MEM → Prop} {Bd : Nat × Nat × Nat × Nat} {pc : Nat} {L : List (Option PV)} {S : List PV} {sh : List SE} {h : MEM} {cs sl : Nat} {j : Fin 4} {idx2 : Nat} {x : Int} (hy : y.cls = RX5) (hl : L[j.val]? = some (some (pI x))) (hd1 : decode cc pc = .ok (.ldc 103, 2)) (hd2 : decode cc (pc + 2) = .ok (.iload_n j, 1)) (hd3 : decode cc (pc + 2 + 1) = .ok (.invokevirtual idx2, 3)) (hm : Cond.methodLink RX5 idx2 ⟨"java/lang/String", "indexOf", "(I)I"⟩ ∈ TW) (hR : roomLe Bd (3, 170, 0, 0) 2 cs sl = true) (hcat : catS S ≤ 8)
    (k : ∀ v : Int, -2147483648 ≤ v → v ≤ 2147483647 → G y cc nL ret scr Po Bd (pc + 2 + 1 + 3) L (pI v :: S) sh h cs sl) : G y cc nL ret scr Po Bd pc L S sh h cs sl := by
  intro p l e R s m args below meth c Q D cA ext n0 ad0 A X ad H locs ls hW hL hS hc hs
  obtain ⟨ak, av, hk1, hk2, hk3, hk4, hk5⟩ := X.2.2.2.2.2.2.2.2.2.1.2
  obtain ⟨r1, r2, r3, r4⟩ := roomLe_of hR
  have r1 : 3 + 1 ≤ Bd.1 := r1
  have r2 : 8 + (2 + 11) + 170 ≤ Bd.2.1 := r2
  have r3 : cs + 0 ≤ Bd.2.2.1 := r3
  have r4 : sl + 0 ≤ Bd.2.2.2 := r4
  have h1 := hL.2.2.2 _ _ hl
  have hown : s.vm.findClass RX5 = some m.cls := by rw [← hy]; exact X.2.2.2.1
  have hf := X.2.2.2.2.2.2.2.1.1
  have hlo := X.2.2.2.2.2.2.2.1.2.1
  refine va_ldcS X.1 X.2.1 hown hk4 hd1 ?_
  refine lv_iload_n X.1 X.2.1 hd2 rfl h1.2 ?_
  refine j_ret (va_runV (b := ak 2) (As := [.int (Int32.ofInt x)]) (rest := S.map (pvv ad ext)) (Ts := TW) (C := "java/lang/String") ⟨X.1, X.2.1, X.2.2.1, hown, X.2.2.2.2.1⟩ (t_ix1 (v := av) (i := 2) (by decide) l H.size) ⟨j_B X.2.2.2.2.1 mi_Jix1 (by omega) (by omega) hm, X.2.2.2.2.1 _ in_Jix1, X.2.2.2.2.1 _ se_Jix1⟩ ⟨(SX_pre hk1 hk5 hW.2.2.1 X.2.2.2.2.2.2.2.2.1 _).1, vk_recv hk1 (by decide) hW.2.2.1, (SX_pre hk1 hk5 hW.2.2.1 X.2.2.2.2.2.2.2.2.1 _).2⟩ rfl rfl hL.1 rfl (lv_room (by rw [catS_eq (ext_cat X.2.2.2.2.2.2.2.2.2.1.1)]; exact hcat)) hd3 ⟨by omega, by omega⟩) (fun r _ => ?_)
  have hk := k r.toInt (inR_toInt r).1 (inR_toInt r).2 p l e R s m args below meth c Q D cA ext n0 ad0 A X ad H locs ls hW hL (List.forall_mem_cons.mpr ⟨inR_toInt r, hS⟩) hc hs
  rw [List.map_cons, show pvv ad ext (pI r.toInt) = .int r from by simp [pvv]] at hk
  exact hk
theorem g_sidx0 {y : MethodName} {cc : ByteArray} {nL : Nat} {ret : Option FieldType} {scr : Option (List Int)} {Po : Option PV → List SE → MEM → Prop} {Bd : Nat × Nat × Nat × Nat} {pc : Nat} {L : List (Option PV)} {S : List PV} {sh : List SE} {h : MEM} {cs sl : Nat} {j : Nat} {idx2 : Nat} {x : Int} (hy : y.cls = RX5) (hl : L[j]? = some (some (pI x))) (hd1 : decode cc pc = .ok (.ldc 64, 2)) (hd2 : decode cc (pc + 2) = .ok (.iload j, 2)) (hd3 : decode cc (pc + 2 + 2) = .ok (.invokevirtual idx2, 3)) (hm : Cond.methodLink RX5 idx2 ⟨"java/lang/String", "indexOf", "(I)I"⟩ ∈ TW) (hR : roomLe Bd (3, 170, 0, 0) 2 cs sl = true) (hcat : catS S ≤ 8)
    (k : ∀ v : Int, -2147483648 ≤ v → v ≤ 2147483647 → G y cc nL ret scr Po Bd (pc + 2 + 2 + 3) L (pI v :: S) sh h cs sl) : G y cc nL ret scr Po Bd pc L S sh h cs sl := by
  intro p l e R s m args below meth c Q D cA ext n0 ad0 A X ad H locs ls hW hL hS hc hs
  obtain ⟨ak, av, hk1, hk2, hk3, hk4, hk5⟩ := X.2.2.2.2.2.2.2.2.2.1.2
  obtain ⟨r1, r2, r3, r4⟩ := roomLe_of hR
  have r1 : 3 + 1 ≤ Bd.1 := r1
  have r2 : 8 + (2 + 11) + 170 ≤ Bd.2.1 := r2
  have r3 : cs + 0 ≤ Bd.2.2.1 := r3
  have r4 : sl + 0 ≤ Bd.2.2.2 := r4
  have h1 := hL.2.2.2 _ _ hl
  have hown : s.vm.findClass RX5 = some m.cls := by rw [← hy]; exact X.2.2.2.1
  have hf := X.2.2.2.2.2.2.2.1.1
  have hlo := X.2.2.2.2.2.2.2.1.2.1
  refine va_ldcS X.1 X.2.1 hown hk2 hd1 ?_
  refine lv_iload X.1 X.2.1 hd2 h1.2 ?_
  refine j_ret (va_runV (b := ak 0) (As := [.int (Int32.ofInt x)]) (rest := S.map (pvv ad ext)) (Ts := TW) (C := "java/lang/String") ⟨X.1, X.2.1, X.2.2.1, hown, X.2.2.2.2.1⟩ (t_ix1 (v := av) (i := 0) (by decide) l H.size) ⟨j_B X.2.2.2.2.1 mi_Jix1 (by omega) (by omega) hm, X.2.2.2.2.1 _ in_Jix1, X.2.2.2.2.1 _ se_Jix1⟩ ⟨(SX_pre hk1 hk5 hW.2.2.1 X.2.2.2.2.2.2.2.2.1 _).1, vk_recv hk1 (by decide) hW.2.2.1, (SX_pre hk1 hk5 hW.2.2.1 X.2.2.2.2.2.2.2.2.1 _).2⟩ rfl rfl hL.1 rfl (lv_room (by rw [catS_eq (ext_cat X.2.2.2.2.2.2.2.2.2.1.1)]; exact hcat)) hd3 ⟨by omega, by omega⟩) (fun r _ => ?_)
  have hk := k r.toInt (inR_toInt r).1 (inR_toInt r).2 p l e R s m args below meth c Q D cA ext n0 ad0 A X ad H locs ls hW hL (List.forall_mem_cons.mpr ⟨inR_toInt r, hS⟩) hc hs
  rw [List.map_cons, show pvv ad ext (pI r.toInt) = .int r from by simp [pvv]] at hk
  exact hk
theorem g_sidx1 {y : MethodName} {cc : ByteArray} {nL : Nat} {ret : Option FieldType} {scr : Option (List Int)} {Po : Option PV → List SE → MEM → Prop} {Bd : Nat × Nat × Nat × Nat} {pc : Nat} {L : List (Option PV)} {S : List PV} {sh : List SE} {h : MEM} {cs sl : Nat} {j : Nat} {idx2 : Nat} {x : Int} (hy : y.cls = RX5) (hl : L[j]? = some (some (pI x))) (hd1 : decode cc pc = .ok (.ldc 115, 2)) (hd2 : decode cc (pc + 2) = .ok (.iload j, 2)) (hd3 : decode cc (pc + 2 + 2) = .ok (.invokevirtual idx2, 3)) (hm : Cond.methodLink RX5 idx2 ⟨"java/lang/String", "indexOf", "(I)I"⟩ ∈ TW) (hR : roomLe Bd (3, 170, 0, 0) 2 cs sl = true) (hcat : catS S ≤ 8)
    (k : ∀ v : Int, -2147483648 ≤ v → v ≤ 2147483647 → G y cc nL ret scr Po Bd (pc + 2 + 2 + 3) L (pI v :: S) sh h cs sl) : G y cc nL ret scr Po Bd pc L S sh h cs sl := by
  intro p l e R s m args below meth c Q D cA ext n0 ad0 A X ad H locs ls hW hL hS hc hs
  obtain ⟨ak, av, hk1, hk2, hk3, hk4, hk5⟩ := X.2.2.2.2.2.2.2.2.2.1.2
  obtain ⟨r1, r2, r3, r4⟩ := roomLe_of hR
  have r1 : 3 + 1 ≤ Bd.1 := r1
  have r2 : 8 + (2 + 11) + 170 ≤ Bd.2.1 := r2
  have r3 : cs + 0 ≤ Bd.2.2.1 := r3
  have r4 : sl + 0 ≤ Bd.2.2.2 := r4
  have h1 := hL.2.2.2 _ _ hl
  have hown : s.vm.findClass RX5 = some m.cls := by rw [← hy]; exact X.2.2.2.1
  have hf := X.2.2.2.2.2.2.2.1.1
  have hlo := X.2.2.2.2.2.2.2.1.2.1
  refine va_ldcS X.1 X.2.1 hown hk3 hd1 ?_
  refine lv_iload X.1 X.2.1 hd2 h1.2 ?_
  refine j_ret (va_runV (b := ak 1) (As := [.int (Int32.ofInt x)]) (rest := S.map (pvv ad ext)) (Ts := TW) (C := "java/lang/String") ⟨X.1, X.2.1, X.2.2.1, hown, X.2.2.2.2.1⟩ (t_ix1 (v := av) (i := 1) (by decide) l H.size) ⟨j_B X.2.2.2.2.1 mi_Jix1 (by omega) (by omega) hm, X.2.2.2.2.1 _ in_Jix1, X.2.2.2.2.1 _ se_Jix1⟩ ⟨(SX_pre hk1 hk5 hW.2.2.1 X.2.2.2.2.2.2.2.2.1 _).1, vk_recv hk1 (by decide) hW.2.2.1, (SX_pre hk1 hk5 hW.2.2.1 X.2.2.2.2.2.2.2.2.1 _).2⟩ rfl rfl hL.1 rfl (lv_room (by rw [catS_eq (ext_cat X.2.2.2.2.2.2.2.2.2.1.1)]; exact hcat)) hd3 ⟨by omega, by omega⟩) (fun r _ => ?_)
  have hk := k r.toInt (inR_toInt r).1 (inR_toInt r).2 p l e R s m args below meth c Q D cA ext n0 ad0 A X ad H locs ls hW hL (List.forall_mem_cons.mpr ⟨inR_toInt r, hS⟩) hc hs
  rw [List.map_cons, show pvv ad ext (pI r.toInt) = .int r from by simp [pvv]] at hk
  exact hk
theorem g_sidx2 {y : MethodName} {cc : ByteArray} {nL : Nat} {ret : Option FieldType} {scr : Option (List Int)} {Po : Option PV → List SE → MEM → Prop} {Bd : Nat × Nat × Nat × Nat} {pc : Nat} {L : List (Option PV)} {S : List PV} {sh : List SE} {h : MEM} {cs sl : Nat} {j : Nat} {idx2 : Nat} {x : Int} (hy : y.cls = RX5) (hl : L[j]? = some (some (pI x))) (hd1 : decode cc pc = .ok (.ldc 103, 2)) (hd2 : decode cc (pc + 2) = .ok (.iload j, 2)) (hd3 : decode cc (pc + 2 + 2) = .ok (.invokevirtual idx2, 3)) (hm : Cond.methodLink RX5 idx2 ⟨"java/lang/String", "indexOf", "(I)I"⟩ ∈ TW) (hR : roomLe Bd (3, 170, 0, 0) 2 cs sl = true) (hcat : catS S ≤ 8)
    (k : ∀ v : Int, -2147483648 ≤ v → v ≤ 2147483647 → G y cc nL ret scr Po Bd (pc + 2 + 2 + 3) L (pI v :: S) sh h cs sl) : G y cc nL ret scr Po Bd pc L S sh h cs sl := by
  intro p l e R s m args below meth c Q D cA ext n0 ad0 A X ad H locs ls hW hL hS hc hs
  obtain ⟨ak, av, hk1, hk2, hk3, hk4, hk5⟩ := X.2.2.2.2.2.2.2.2.2.1.2
  obtain ⟨r1, r2, r3, r4⟩ := roomLe_of hR
  have r1 : 3 + 1 ≤ Bd.1 := r1
  have r2 : 8 + (2 + 11) + 170 ≤ Bd.2.1 := r2
  have r3 : cs + 0 ≤ Bd.2.2.1 := r3
  have r4 : sl + 0 ≤ Bd.2.2.2 := r4
  have h1 := hL.2.2.2 _ _ hl
  have hown : s.vm.findClass RX5 = some m.cls := by rw [← hy]; exact X.2.2.2.1
  have hf := X.2.2.2.2.2.2.2.1.1
  have hlo := X.2.2.2.2.2.2.2.1.2.1
  refine va_ldcS X.1 X.2.1 hown hk4 hd1 ?_
  refine lv_iload X.1 X.2.1 hd2 h1.2 ?_
  refine j_ret (va_runV (b := ak 2) (As := [.int (Int32.ofInt x)]) (rest := S.map (pvv ad ext)) (Ts := TW) (C := "java/lang/String") ⟨X.1, X.2.1, X.2.2.1, hown, X.2.2.2.2.1⟩ (t_ix1 (v := av) (i := 2) (by decide) l H.size) ⟨j_B X.2.2.2.2.1 mi_Jix1 (by omega) (by omega) hm, X.2.2.2.2.1 _ in_Jix1, X.2.2.2.2.1 _ se_Jix1⟩ ⟨(SX_pre hk1 hk5 hW.2.2.1 X.2.2.2.2.2.2.2.2.1 _).1, vk_recv hk1 (by decide) hW.2.2.1, (SX_pre hk1 hk5 hW.2.2.1 X.2.2.2.2.2.2.2.2.1 _).2⟩ rfl rfl hL.1 rfl (lv_room (by rw [catS_eq (ext_cat X.2.2.2.2.2.2.2.2.2.1.1)]; exact hcat)) hd3 ⟨by omega, by omega⟩) (fun r _ => ?_)
  have hk := k r.toInt (inR_toInt r).1 (inR_toInt r).2 p l e R s m args below meth c Q D cA ext n0 ad0 A X ad H locs ls hW hL (List.forall_mem_cons.mpr ⟨inR_toInt r, hS⟩) hc hs
  rw [List.map_cons, show pvv ad ext (pI r.toInt) = .int r from by simp [pvv]] at hk
  exact hk
