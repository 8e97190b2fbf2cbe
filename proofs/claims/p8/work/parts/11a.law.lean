/-! ===== the law ===== -/
theorem g_sldE {y : MethodName} {cc : ByteArray} {nL : Nat} {ret : Option FieldType} {Po : Option PV → List SE → MEM → Prop} {Bd : Nat × Nat × Nat × Nat} {pc : Nat} {L : List (Option PV)} {S : List PV} {sh : List SE} {h : MEM} {cs sl : Nat} {xs : List Int} {i v : Int} (hd : decode cc pc = .ok (.iaload, 1)) (h0 : 0 ≤ i) (h1 : i < xs.length) (hv : v = xs.getD i.toNat 0) (kk : G y cc nL ret (some xs) Po Bd (pc + 1) L (pI v :: S) sh h cs sl) : G y cc nL ret (some xs) Po Bd pc L (pI i :: pX :: S) sh h cs sl := g_sld hd h0 h1 (fun _ => by rw [← hv]; exact kk)
def INV (i : Int) (h : MEM) : Prop := (MBx h ∧ MBm h ∧ LD h ∧ WFL h) ∧ (0 ≤ i ∧ i ≤ 3072 ∧ 3 * h 98 5 ≤ 20 * i ∧ 3 * h 145 9 ≤ 20 * i ∧ h 0 12 = h 98 79 ∧ h 2 0 = h 98 2 ∧ h 6 0 = h 98 3 ∧ h 12 0 = h 98 4 ∧ h 42 0 = h 145 6 ∧ h 46 0 = h 145 7 ∧ h 52 0 = h 145 8) ∧ ∃ gi gs : Nat → Int, ASn 19 gi h ∧ ISn gi h ∧ ASn 59 gs h ∧ S1n gs h
theorem ml_L_101 : Cond.methodLink RL 101 yX12_letGo ∈ TW := inTW (List.mem_append_right _ (TS7 (List.mem_of_getElem? (i := 101) (by decide +kernel)))) rfl
set_option maxRecDepth 100000 in
theorem mi_X12_letGo : MQI yX12_letGo cX12_letGo 9 (some .int) 3 := ⟨inTW (List.mem_append_right _ (TS7 (List.mem_of_getElem? (i := 104) rfl))) rfl, inTW (List.mem_append_right _ (TS1 (List.mem_of_getElem? (i := 13) (by decide +kernel)))) rfl, by decide, by decide +kernel⟩
theorem in_X12_letGo : Cond.instanceMethod yX12_letGo ∈ TW := inTW (List.mem_append_right _ (TS7 (List.mem_of_getElem? (i := 102) (by decide +kernel)))) rfl
theorem se_X12_letGo : Cond.selects yX12_letGo.cls yX12_letGo yX12_letGo ∈ TW := inTW (List.mem_append_right _ (TS7 (List.mem_of_getElem? (i := 103) (by decide +kernel)))) rfl
theorem ml_L_102 : Cond.methodLink RL 102 yX11_settled ∈ TW := inTW (List.mem_append_right _ (TS4 (List.mem_of_getElem? (i := 162) (by decide +kernel)))) rfl
set_option maxRecDepth 100000 in
theorem mi_X11_settled : MQI yX11_settled cX11_settled 3 (some .int) 1 := ⟨inTW (List.mem_append_right _ (TS4 (List.mem_of_getElem? (i := 165) rfl))) rfl, inTW (List.mem_append_right _ (TS1 (List.mem_of_getElem? (i := 1) (by decide +kernel)))) rfl, by decide, by decide +kernel⟩
theorem in_X11_settled : Cond.instanceMethod yX11_settled ∈ TW := inTW (List.mem_append_right _ (TS4 (List.mem_of_getElem? (i := 163) (by decide +kernel)))) rfl
theorem se_X11_settled : Cond.selects yX11_settled.cls yX11_settled yX11_settled ∈ TW := inTW (List.mem_append_right _ (TS4 (List.mem_of_getElem? (i := 164) (by decide +kernel)))) rfl
theorem ml_L_105 : Cond.methodLink RL 105 yX12_settled ∈ TW := inTW (List.mem_append_right _ (TS7 (List.mem_of_getElem? (i := 115) (by decide +kernel)))) rfl
set_option maxRecDepth 100000 in
theorem mi_X12_settled : MQI yX12_settled cX12_settled 7 (some .int) 1 := ⟨inTW (List.mem_append_right _ (TS7 (List.mem_of_getElem? (i := 118) rfl))) rfl, inTW (List.mem_append_right _ (TS1 (List.mem_of_getElem? (i := 13) (by decide +kernel)))) rfl, by decide, by decide +kernel⟩
theorem in_X12_settled : Cond.instanceMethod yX12_settled ∈ TW := inTW (List.mem_append_right _ (TS7 (List.mem_of_getElem? (i := 116) (by decide +kernel)))) rfl
theorem se_X12_settled : Cond.selects yX12_settled.cls yX12_settled yX12_settled ∈ TW := inTW (List.mem_append_right _ (TS7 (List.mem_of_getElem? (i := 117) (by decide +kernel)))) rfl
theorem ml_L_106 : Cond.methodLink RL 106 yX11_owes ∈ TW := inTW (List.mem_append_right _ (TS4 (List.mem_of_getElem? (i := 181) (by decide +kernel)))) rfl
set_option maxRecDepth 100000 in
theorem mi_X11_owes : MQI yX11_owes cX11_owes 5 (some .int) 3 := ⟨inTW (List.mem_append_right _ (TS4 (List.mem_of_getElem? (i := 184) rfl))) rfl, inTW (List.mem_append_right _ (TS1 (List.mem_of_getElem? (i := 1) (by decide +kernel)))) rfl, by decide, by decide +kernel⟩
theorem in_X11_owes : Cond.instanceMethod yX11_owes ∈ TW := inTW (List.mem_append_right _ (TS4 (List.mem_of_getElem? (i := 182) (by decide +kernel)))) rfl
theorem se_X11_owes : Cond.selects yX11_owes.cls yX11_owes yX11_owes ∈ TW := inTW (List.mem_append_right _ (TS4 (List.mem_of_getElem? (i := 183) (by decide +kernel)))) rfl
theorem ml_L_109 : Cond.methodLink RL 109 yX12_owes ∈ TW := inTW (List.mem_append_right _ (TS7 (List.mem_of_getElem? (i := 120) (by decide +kernel)))) rfl
set_option maxRecDepth 100000 in
theorem mi_X12_owes : MQI yX12_owes cX12_owes 4 (some .int) 3 := ⟨inTW (List.mem_append_right _ (TS7 (List.mem_of_getElem? (i := 123) rfl))) rfl, inTW (List.mem_append_right _ (TS1 (List.mem_of_getElem? (i := 13) (by decide +kernel)))) rfl, by decide, by decide +kernel⟩
theorem in_X12_owes : Cond.instanceMethod yX12_owes ∈ TW := inTW (List.mem_append_right _ (TS7 (List.mem_of_getElem? (i := 121) (by decide +kernel)))) rfl
theorem se_X12_owes : Cond.selects yX12_owes.cls yX12_owes yX12_owes ∈ TW := inTW (List.mem_append_right _ (TS7 (List.mem_of_getElem? (i := 122) (by decide +kernel)))) rfl
theorem ml_L_110 : Cond.methodLink RL 110 yX11_teachers ∈ TW := inTW (List.mem_append_right _ (TS4 (List.mem_of_getElem? (i := 185) (by decide +kernel)))) rfl
set_option maxRecDepth 100000 in
theorem mi_X11_teachers : MQI yX11_teachers cX11_teachers 2 (some .int) 1 := ⟨inTW (List.mem_append_right _ (TS4 (List.mem_of_getElem? (i := 188) rfl))) rfl, inTW (List.mem_append_right _ (TS1 (List.mem_of_getElem? (i := 1) (by decide +kernel)))) rfl, by decide, by decide +kernel⟩
theorem in_X11_teachers : Cond.instanceMethod yX11_teachers ∈ TW := inTW (List.mem_append_right _ (TS4 (List.mem_of_getElem? (i := 186) (by decide +kernel)))) rfl
theorem se_X11_teachers : Cond.selects yX11_teachers.cls yX11_teachers yX11_teachers ∈ TW := inTW (List.mem_append_right _ (TS4 (List.mem_of_getElem? (i := 187) (by decide +kernel)))) rfl
theorem ml_L_113 : Cond.methodLink RL 113 yX12_teachers ∈ TW := inTW (List.mem_append_right _ (TS7 (List.mem_of_getElem? (i := 124) (by decide +kernel)))) rfl
set_option maxRecDepth 100000 in
theorem mi_X12_teachers : MQI yX12_teachers cX12_teachers 2 (some .int) 1 := ⟨inTW (List.mem_append_right _ (TS7 (List.mem_of_getElem? (i := 127) rfl))) rfl, inTW (List.mem_append_right _ (TS1 (List.mem_of_getElem? (i := 13) (by decide +kernel)))) rfl, by decide, by decide +kernel⟩
theorem in_X12_teachers : Cond.instanceMethod yX12_teachers ∈ TW := inTW (List.mem_append_right _ (TS7 (List.mem_of_getElem? (i := 125) (by decide +kernel)))) rfl
theorem se_X12_teachers : Cond.selects yX12_teachers.cls yX12_teachers yX12_teachers ∈ TW := inTW (List.mem_append_right _ (TS7 (List.mem_of_getElem? (i := 126) (by decide +kernel)))) rfl
theorem ml_L_114 : Cond.methodLink RL 114 yX11_chain ∈ TW := inTW (List.mem_append_right _ (TS4 (List.mem_of_getElem? (i := 193) (by decide +kernel)))) rfl
set_option maxRecDepth 100000 in
theorem mi_X11_chain : MQI yX11_chain cX11_chain 4 (some .int) 3 := ⟨inTW (List.mem_append_right _ (TS4 (List.mem_of_getElem? (i := 196) rfl))) rfl, inTW (List.mem_append_right _ (TS1 (List.mem_of_getElem? (i := 1) (by decide +kernel)))) rfl, by decide, by decide +kernel⟩
theorem in_X11_chain : Cond.instanceMethod yX11_chain ∈ TW := inTW (List.mem_append_right _ (TS4 (List.mem_of_getElem? (i := 194) (by decide +kernel)))) rfl
theorem se_X11_chain : Cond.selects yX11_chain.cls yX11_chain yX11_chain ∈ TW := inTW (List.mem_append_right _ (TS4 (List.mem_of_getElem? (i := 195) (by decide +kernel)))) rfl
theorem ml_L_117 : Cond.methodLink RL 117 yX12_chain ∈ TW := inTW (List.mem_append_right _ (TS7 (List.mem_of_getElem? (i := 132) (by decide +kernel)))) rfl
set_option maxRecDepth 100000 in
theorem mi_X12_chain : MQI yX12_chain cX12_chain 8 (some .int) 3 := ⟨inTW (List.mem_append_right _ (TS7 (List.mem_of_getElem? (i := 135) rfl))) rfl, inTW (List.mem_append_right _ (TS1 (List.mem_of_getElem? (i := 13) (by decide +kernel)))) rfl, by decide, by decide +kernel⟩
theorem in_X12_chain : Cond.instanceMethod yX12_chain ∈ TW := inTW (List.mem_append_right _ (TS7 (List.mem_of_getElem? (i := 133) (by decide +kernel)))) rfl
theorem se_X12_chain : Cond.selects yX12_chain.cls yX12_chain yX12_chain ∈ TW := inTW (List.mem_append_right _ (TS7 (List.mem_of_getElem? (i := 134) (by decide +kernel)))) rfl
theorem ml_L_118 : Cond.methodLink RL 118 yX11_odds ∈ TW := inTW (List.mem_append_right _ (TS4 (List.mem_of_getElem? (i := 210) (by decide +kernel)))) rfl
set_option maxRecDepth 100000 in
theorem mi_X11_odds : MQI yX11_odds cX11_odds 8 (some .int) 4 := ⟨inTW (List.mem_append_right _ (TS4 (List.mem_of_getElem? (i := 213) rfl))) rfl, inTW (List.mem_append_right _ (TS1 (List.mem_of_getElem? (i := 1) (by decide +kernel)))) rfl, by decide, by decide +kernel⟩
theorem in_X11_odds : Cond.instanceMethod yX11_odds ∈ TW := inTW (List.mem_append_right _ (TS4 (List.mem_of_getElem? (i := 211) (by decide +kernel)))) rfl
theorem se_X11_odds : Cond.selects yX11_odds.cls yX11_odds yX11_odds ∈ TW := inTW (List.mem_append_right _ (TS4 (List.mem_of_getElem? (i := 212) (by decide +kernel)))) rfl
theorem ml_L_121 : Cond.methodLink RL 121 yX12_odds ∈ TW := inTW (List.mem_append_right _ (TS7 (List.mem_of_getElem? (i := 145) (by decide +kernel)))) rfl
set_option maxRecDepth 100000 in
theorem mi_X12_odds : MQI yX12_odds cX12_odds 10 (some .int) 4 := ⟨inTW (List.mem_append_right _ (TS7 (List.mem_of_getElem? (i := 148) rfl))) rfl, inTW (List.mem_append_right _ (TS1 (List.mem_of_getElem? (i := 13) (by decide +kernel)))) rfl, by decide, by decide +kernel⟩
theorem in_X12_odds : Cond.instanceMethod yX12_odds ∈ TW := inTW (List.mem_append_right _ (TS7 (List.mem_of_getElem? (i := 146) (by decide +kernel)))) rfl
theorem se_X12_odds : Cond.selects yX12_odds.cls yX12_odds yX12_odds ∈ TW := inTW (List.mem_append_right _ (TS7 (List.mem_of_getElem? (i := 147) (by decide +kernel)))) rfl
theorem ml_L_122 : Cond.methodLink RL 122 yX11_seed ∈ TW := inTW (List.mem_append_right _ (TS4 (List.mem_of_getElem? (i := 221) (by decide +kernel)))) rfl
set_option maxRecDepth 100000 in
theorem mi_X11_seed : MQI yX11_seed cX11_seed 2 (some .boolean) 1 := ⟨inTW (List.mem_append_right _ (TS4 (List.mem_of_getElem? (i := 224) rfl))) rfl, inTW (List.mem_append_right _ (TS1 (List.mem_of_getElem? (i := 1) (by decide +kernel)))) rfl, by decide, by decide +kernel⟩
theorem in_X11_seed : Cond.instanceMethod yX11_seed ∈ TW := inTW (List.mem_append_right _ (TS4 (List.mem_of_getElem? (i := 222) (by decide +kernel)))) rfl
theorem se_X11_seed : Cond.selects yX11_seed.cls yX11_seed yX11_seed ∈ TW := inTW (List.mem_append_right _ (TS4 (List.mem_of_getElem? (i := 223) (by decide +kernel)))) rfl
theorem ml_L_126 : Cond.methodLink RL 126 yX12_seed ∈ TW := inTW (List.mem_append_right _ (TS7 (List.mem_of_getElem? (i := 153) (by decide +kernel)))) rfl
set_option maxRecDepth 100000 in
theorem mi_X12_seed : MQI yX12_seed cX12_seed 2 (some .boolean) 1 := ⟨inTW (List.mem_append_right _ (TS7 (List.mem_of_getElem? (i := 156) rfl))) rfl, inTW (List.mem_append_right _ (TS1 (List.mem_of_getElem? (i := 13) (by decide +kernel)))) rfl, by decide, by decide +kernel⟩
theorem in_X12_seed : Cond.instanceMethod yX12_seed ∈ TW := inTW (List.mem_append_right _ (TS7 (List.mem_of_getElem? (i := 154) (by decide +kernel)))) rfl
theorem se_X12_seed : Cond.selects yX12_seed.cls yX12_seed yX12_seed ∈ TW := inTW (List.mem_append_right _ (TS7 (List.mem_of_getElem? (i := 155) (by decide +kernel)))) rfl
theorem ml_L_127 : Cond.methodLink RL 127 yX11_keep ∈ TW := inTW (List.mem_append_right _ (TS4 (List.mem_of_getElem? (i := 226) (by decide +kernel)))) rfl
set_option maxRecDepth 100000 in
theorem mi_X11_keep : MQI yX11_keep cX11_keep 1 (some .int) 0 := ⟨inTW (List.mem_append_right _ (TS4 (List.mem_of_getElem? (i := 229) rfl))) rfl, inTW (List.mem_append_right _ (TS1 (List.mem_of_getElem? (i := 1) (by decide +kernel)))) rfl, by decide, by decide +kernel⟩
theorem in_X11_keep : Cond.instanceMethod yX11_keep ∈ TW := inTW (List.mem_append_right _ (TS4 (List.mem_of_getElem? (i := 227) (by decide +kernel)))) rfl
theorem se_X11_keep : Cond.selects yX11_keep.cls yX11_keep yX11_keep ∈ TW := inTW (List.mem_append_right _ (TS4 (List.mem_of_getElem? (i := 228) (by decide +kernel)))) rfl
theorem ml_L_13 : Cond.methodLink RL 13 yX11_roof ∈ TW := inTW (List.mem_append_right _ (TS2 (List.mem_of_getElem? (i := 152) (by decide +kernel)))) rfl
set_option maxRecDepth 100000 in
theorem mi_X11_roof : MQI yX11_roof cX11_roof 4 (some .int) 3 := ⟨inTW (List.mem_append_right _ (TS2 (List.mem_of_getElem? (i := 155) rfl))) rfl, inTW (List.mem_append_right _ (TS1 (List.mem_of_getElem? (i := 1) (by decide +kernel)))) rfl, by decide, by decide +kernel⟩
theorem in_X11_roof : Cond.instanceMethod yX11_roof ∈ TW := inTW (List.mem_append_right _ (TS2 (List.mem_of_getElem? (i := 153) (by decide +kernel)))) rfl
theorem se_X11_roof : Cond.selects yX11_roof.cls yX11_roof yX11_roof ∈ TW := inTW (List.mem_append_right _ (TS2 (List.mem_of_getElem? (i := 154) (by decide +kernel)))) rfl
theorem ml_L_131 : Cond.methodLink RL 131 yX12_keep ∈ TW := inTW (List.mem_append_right _ (TS7 (List.mem_of_getElem? (i := 158) (by decide +kernel)))) rfl
set_option maxRecDepth 100000 in
theorem mi_X12_keep : MQI yX12_keep cX12_keep 1 (some .int) 0 := ⟨inTW (List.mem_append_right _ (TS7 (List.mem_of_getElem? (i := 161) rfl))) rfl, inTW (List.mem_append_right _ (TS1 (List.mem_of_getElem? (i := 13) (by decide +kernel)))) rfl, by decide, by decide +kernel⟩
theorem in_X12_keep : Cond.instanceMethod yX12_keep ∈ TW := inTW (List.mem_append_right _ (TS7 (List.mem_of_getElem? (i := 159) (by decide +kernel)))) rfl
theorem se_X12_keep : Cond.selects yX12_keep.cls yX12_keep yX12_keep ∈ TW := inTW (List.mem_append_right _ (TS7 (List.mem_of_getElem? (i := 160) (by decide +kernel)))) rfl
theorem ml_L_132 : Cond.methodLink RL 132 yX11_undo ∈ TW := inTW (List.mem_append_right _ (TS4 (List.mem_of_getElem? (i := 235) (by decide +kernel)))) rfl
set_option maxRecDepth 100000 in
theorem mi_X11_undo : MQI yX11_undo cX11_undo 1 (some .boolean) 0 := ⟨inTW (List.mem_append_right _ (TS4 (List.mem_of_getElem? (i := 238) rfl))) rfl, inTW (List.mem_append_right _ (TS1 (List.mem_of_getElem? (i := 1) (by decide +kernel)))) rfl, by decide, by decide +kernel⟩
theorem in_X11_undo : Cond.instanceMethod yX11_undo ∈ TW := inTW (List.mem_append_right _ (TS4 (List.mem_of_getElem? (i := 236) (by decide +kernel)))) rfl
theorem se_X11_undo : Cond.selects yX11_undo.cls yX11_undo yX11_undo ∈ TW := inTW (List.mem_append_right _ (TS4 (List.mem_of_getElem? (i := 237) (by decide +kernel)))) rfl
theorem ml_L_136 : Cond.methodLink RL 136 yX12_undo ∈ TW := inTW (List.mem_append_right _ (TS7 (List.mem_of_getElem? (i := 162) (by decide +kernel)))) rfl
set_option maxRecDepth 100000 in
theorem mi_X12_undo : MQI yX12_undo cX12_undo 1 (some .boolean) 0 := ⟨inTW (List.mem_append_right _ (TS7 (List.mem_of_getElem? (i := 165) rfl))) rfl, inTW (List.mem_append_right _ (TS1 (List.mem_of_getElem? (i := 13) (by decide +kernel)))) rfl, by decide, by decide +kernel⟩
theorem in_X12_undo : Cond.instanceMethod yX12_undo ∈ TW := inTW (List.mem_append_right _ (TS7 (List.mem_of_getElem? (i := 163) (by decide +kernel)))) rfl
theorem se_X12_undo : Cond.selects yX12_undo.cls yX12_undo yX12_undo ∈ TW := inTW (List.mem_append_right _ (TS7 (List.mem_of_getElem? (i := 164) (by decide +kernel)))) rfl
theorem ml_L_137 : Cond.methodLink RL 137 yX11_check ∈ TW := inTW (List.mem_append_right _ (TS4 (List.mem_of_getElem? (i := 239) (by decide +kernel)))) rfl
set_option maxRecDepth 100000 in
theorem mi_X11_check : MQI yX11_check cX11_check 3 (some .int) 1 := ⟨inTW (List.mem_append_right _ (TS5 (List.mem_of_getElem? (i := 2) rfl))) rfl, inTW (List.mem_append_right _ (TS1 (List.mem_of_getElem? (i := 1) (by decide +kernel)))) rfl, by decide, by decide +kernel⟩
theorem in_X11_check : Cond.instanceMethod yX11_check ∈ TW := inTW (List.mem_append_right _ (TS5 (List.mem_of_getElem? (i := 0) (by decide +kernel)))) rfl
theorem se_X11_check : Cond.selects yX11_check.cls yX11_check yX11_check ∈ TW := inTW (List.mem_append_right _ (TS5 (List.mem_of_getElem? (i := 1) (by decide +kernel)))) rfl
theorem ml_L_140 : Cond.methodLink RL 140 yX12_check ∈ TW := inTW (List.mem_append_right _ (TS7 (List.mem_of_getElem? (i := 166) (by decide +kernel)))) rfl
set_option maxRecDepth 100000 in
theorem mi_X12_check : MQI yX12_check cX12_check 3 (some .int) 1 := ⟨inTW (List.mem_append_right _ (TS7 (List.mem_of_getElem? (i := 169) rfl))) rfl, inTW (List.mem_append_right _ (TS1 (List.mem_of_getElem? (i := 13) (by decide +kernel)))) rfl, by decide, by decide +kernel⟩
theorem in_X12_check : Cond.instanceMethod yX12_check ∈ TW := inTW (List.mem_append_right _ (TS7 (List.mem_of_getElem? (i := 167) (by decide +kernel)))) rfl
theorem se_X12_check : Cond.selects yX12_check.cls yX12_check yX12_check ∈ TW := inTW (List.mem_append_right _ (TS7 (List.mem_of_getElem? (i := 168) (by decide +kernel)))) rfl
theorem ml_L_141 : Cond.methodLink RL 141 yX11_count ∈ TW := inTW (List.mem_append_right _ (TS5 (List.mem_of_getElem? (i := 8) (by decide +kernel)))) rfl
set_option maxRecDepth 100000 in
theorem mi_X11_count : MQI yX11_count cX11_count 2 (some .int) 1 := ⟨inTW (List.mem_append_right _ (TS5 (List.mem_of_getElem? (i := 11) rfl))) rfl, inTW (List.mem_append_right _ (TS1 (List.mem_of_getElem? (i := 1) (by decide +kernel)))) rfl, by decide, by decide +kernel⟩
theorem in_X11_count : Cond.instanceMethod yX11_count ∈ TW := inTW (List.mem_append_right _ (TS5 (List.mem_of_getElem? (i := 9) (by decide +kernel)))) rfl
theorem se_X11_count : Cond.selects yX11_count.cls yX11_count yX11_count ∈ TW := inTW (List.mem_append_right _ (TS5 (List.mem_of_getElem? (i := 10) (by decide +kernel)))) rfl
theorem ml_L_144 : Cond.methodLink RL 144 yX12_count ∈ TW := inTW (List.mem_append_right _ (TS7 (List.mem_of_getElem? (i := 174) (by decide +kernel)))) rfl
set_option maxRecDepth 100000 in
theorem mi_X12_count : MQI yX12_count cX12_count 2 (some .int) 1 := ⟨inTW (List.mem_append_right _ (TS7 (List.mem_of_getElem? (i := 177) rfl))) rfl, inTW (List.mem_append_right _ (TS1 (List.mem_of_getElem? (i := 13) (by decide +kernel)))) rfl, by decide, by decide +kernel⟩
theorem in_X12_count : Cond.instanceMethod yX12_count ∈ TW := inTW (List.mem_append_right _ (TS7 (List.mem_of_getElem? (i := 175) (by decide +kernel)))) rfl
theorem se_X12_count : Cond.selects yX12_count.cls yX12_count yX12_count ∈ TW := inTW (List.mem_append_right _ (TS7 (List.mem_of_getElem? (i := 176) (by decide +kernel)))) rfl
theorem ml_L_17 : Cond.methodLink RL 17 yX12_roof ∈ TW := inTW (List.mem_append_right _ (TS6 (List.mem_of_getElem? (i := 20) (by decide +kernel)))) rfl
set_option maxRecDepth 100000 in
theorem mi_X12_roof : MQI yX12_roof cX12_roof 4 (some .int) 3 := ⟨inTW (List.mem_append_right _ (TS6 (List.mem_of_getElem? (i := 23) rfl))) rfl, inTW (List.mem_append_right _ (TS1 (List.mem_of_getElem? (i := 13) (by decide +kernel)))) rfl, by decide, by decide +kernel⟩
theorem in_X12_roof : Cond.instanceMethod yX12_roof ∈ TW := inTW (List.mem_append_right _ (TS6 (List.mem_of_getElem? (i := 21) (by decide +kernel)))) rfl
theorem se_X12_roof : Cond.selects yX12_roof.cls yX12_roof yX12_roof ∈ TW := inTW (List.mem_append_right _ (TS6 (List.mem_of_getElem? (i := 22) (by decide +kernel)))) rfl
theorem ml_L_18 : Cond.methodLink RL 18 yX11_apprentice ∈ TW := inTW (List.mem_append_right _ (TS2 (List.mem_of_getElem? (i := 163) (by decide +kernel)))) rfl
set_option maxRecDepth 100000 in
theorem mi_X11_apprentice : MQI yX11_apprentice cX11_apprentice 2 (some .int) 1 := ⟨inTW (List.mem_append_right _ (TS2 (List.mem_of_getElem? (i := 166) rfl))) rfl, inTW (List.mem_append_right _ (TS1 (List.mem_of_getElem? (i := 1) (by decide +kernel)))) rfl, by decide, by decide +kernel⟩
theorem in_X11_apprentice : Cond.instanceMethod yX11_apprentice ∈ TW := inTW (List.mem_append_right _ (TS2 (List.mem_of_getElem? (i := 164) (by decide +kernel)))) rfl
theorem se_X11_apprentice : Cond.selects yX11_apprentice.cls yX11_apprentice yX11_apprentice ∈ TW := inTW (List.mem_append_right _ (TS2 (List.mem_of_getElem? (i := 165) (by decide +kernel)))) rfl
theorem ml_L_22 : Cond.methodLink RL 22 yX12_apprentice ∈ TW := inTW (List.mem_append_right _ (TS6 (List.mem_of_getElem? (i := 32) (by decide +kernel)))) rfl
set_option maxRecDepth 100000 in
theorem mi_X12_apprentice : MQI yX12_apprentice cX12_apprentice 3 (some .int) 1 := ⟨inTW (List.mem_append_right _ (TS6 (List.mem_of_getElem? (i := 35) rfl))) rfl, inTW (List.mem_append_right _ (TS1 (List.mem_of_getElem? (i := 13) (by decide +kernel)))) rfl, by decide, by decide +kernel⟩
theorem in_X12_apprentice : Cond.instanceMethod yX12_apprentice ∈ TW := inTW (List.mem_append_right _ (TS6 (List.mem_of_getElem? (i := 33) (by decide +kernel)))) rfl
theorem se_X12_apprentice : Cond.selects yX12_apprentice.cls yX12_apprentice yX12_apprentice ∈ TW := inTW (List.mem_append_right _ (TS6 (List.mem_of_getElem? (i := 34) (by decide +kernel)))) rfl
theorem ml_L_23 : Cond.methodLink RL 23 yX11_master ∈ TW := inTW (List.mem_append_right _ (TS2 (List.mem_of_getElem? (i := 171) (by decide +kernel)))) rfl
set_option maxRecDepth 100000 in
theorem mi_X11_master : MQI yX11_master cX11_master 3 (some .int) 2 := ⟨inTW (List.mem_append_right _ (TS2 (List.mem_of_getElem? (i := 174) rfl))) rfl, inTW (List.mem_append_right _ (TS1 (List.mem_of_getElem? (i := 1) (by decide +kernel)))) rfl, by decide, by decide +kernel⟩
theorem in_X11_master : Cond.instanceMethod yX11_master ∈ TW := inTW (List.mem_append_right _ (TS2 (List.mem_of_getElem? (i := 172) (by decide +kernel)))) rfl
theorem se_X11_master : Cond.selects yX11_master.cls yX11_master yX11_master ∈ TW := inTW (List.mem_append_right _ (TS2 (List.mem_of_getElem? (i := 173) (by decide +kernel)))) rfl
theorem ml_L_27 : Cond.methodLink RL 27 yX12_master ∈ TW := inTW (List.mem_append_right _ (TS6 (List.mem_of_getElem? (i := 36) (by decide +kernel)))) rfl
set_option maxRecDepth 100000 in
theorem mi_X12_master : MQI yX12_master cX12_master 4 (some .int) 2 := ⟨inTW (List.mem_append_right _ (TS6 (List.mem_of_getElem? (i := 39) rfl))) rfl, inTW (List.mem_append_right _ (TS1 (List.mem_of_getElem? (i := 13) (by decide +kernel)))) rfl, by decide, by decide +kernel⟩
theorem in_X12_master : Cond.instanceMethod yX12_master ∈ TW := inTW (List.mem_append_right _ (TS6 (List.mem_of_getElem? (i := 37) (by decide +kernel)))) rfl
theorem se_X12_master : Cond.selects yX12_master.cls yX12_master yX12_master ∈ TW := inTW (List.mem_append_right _ (TS6 (List.mem_of_getElem? (i := 38) (by decide +kernel)))) rfl
theorem ml_L_28 : Cond.methodLink RL 28 yX11_on ∈ TW := inTW (List.mem_append_right _ (TS2 (List.mem_of_getElem? (i := 179) (by decide +kernel)))) rfl
set_option maxRecDepth 100000 in
theorem mi_X11_on : MQI yX11_on cX11_on 3 (some .boolean) 2 := ⟨inTW (List.mem_append_right _ (TS2 (List.mem_of_getElem? (i := 182) rfl))) rfl, inTW (List.mem_append_right _ (TS1 (List.mem_of_getElem? (i := 1) (by decide +kernel)))) rfl, by decide, by decide +kernel⟩
theorem in_X11_on : Cond.instanceMethod yX11_on ∈ TW := inTW (List.mem_append_right _ (TS2 (List.mem_of_getElem? (i := 180) (by decide +kernel)))) rfl
theorem se_X11_on : Cond.selects yX11_on.cls yX11_on yX11_on ∈ TW := inTW (List.mem_append_right _ (TS2 (List.mem_of_getElem? (i := 181) (by decide +kernel)))) rfl
theorem ml_L_32 : Cond.methodLink RL 32 yX12_on ∈ TW := inTW (List.mem_append_right _ (TS6 (List.mem_of_getElem? (i := 41) (by decide +kernel)))) rfl
set_option maxRecDepth 100000 in
theorem mi_X12_on : MQI yX12_on cX12_on 3 (some .boolean) 2 := ⟨inTW (List.mem_append_right _ (TS6 (List.mem_of_getElem? (i := 44) rfl))) rfl, inTW (List.mem_append_right _ (TS1 (List.mem_of_getElem? (i := 13) (by decide +kernel)))) rfl, by decide, by decide +kernel⟩
theorem in_X12_on : Cond.instanceMethod yX12_on ∈ TW := inTW (List.mem_append_right _ (TS6 (List.mem_of_getElem? (i := 42) (by decide +kernel)))) rfl
theorem se_X12_on : Cond.selects yX12_on.cls yX12_on yX12_on ∈ TW := inTW (List.mem_append_right _ (TS6 (List.mem_of_getElem? (i := 43) (by decide +kernel)))) rfl
theorem ml_L_33 : Cond.methodLink RL 33 yX11_below ∈ TW := inTW (List.mem_append_right _ (TS2 (List.mem_of_getElem? (i := 195) (by decide +kernel)))) rfl
set_option maxRecDepth 100000 in
theorem mi_X11_below : MQI yX11_below cX11_below 3 (some .boolean) 2 := ⟨inTW (List.mem_append_right _ (TS2 (List.mem_of_getElem? (i := 198) rfl))) rfl, inTW (List.mem_append_right _ (TS1 (List.mem_of_getElem? (i := 1) (by decide +kernel)))) rfl, by decide, by decide +kernel⟩
theorem in_X11_below : Cond.instanceMethod yX11_below ∈ TW := inTW (List.mem_append_right _ (TS2 (List.mem_of_getElem? (i := 196) (by decide +kernel)))) rfl
theorem se_X11_below : Cond.selects yX11_below.cls yX11_below yX11_below ∈ TW := inTW (List.mem_append_right _ (TS2 (List.mem_of_getElem? (i := 197) (by decide +kernel)))) rfl
theorem ml_L_36 : Cond.methodLink RL 36 yX12_below ∈ TW := inTW (List.mem_append_right _ (TS6 (List.mem_of_getElem? (i := 53) (by decide +kernel)))) rfl
set_option maxRecDepth 100000 in
theorem mi_X12_below : MQI yX12_below cX12_below 3 (some .boolean) 2 := ⟨inTW (List.mem_append_right _ (TS6 (List.mem_of_getElem? (i := 56) rfl))) rfl, inTW (List.mem_append_right _ (TS1 (List.mem_of_getElem? (i := 13) (by decide +kernel)))) rfl, by decide, by decide +kernel⟩
theorem in_X12_below : Cond.instanceMethod yX12_below ∈ TW := inTW (List.mem_append_right _ (TS6 (List.mem_of_getElem? (i := 54) (by decide +kernel)))) rfl
theorem se_X12_below : Cond.selects yX12_below.cls yX12_below yX12_below ∈ TW := inTW (List.mem_append_right _ (TS6 (List.mem_of_getElem? (i := 55) (by decide +kernel)))) rfl
theorem ml_L_37 : Cond.methodLink RL 37 yX11_gear ∈ TW := inTW (List.mem_append_right _ (TS2 (List.mem_of_getElem? (i := 203) (by decide +kernel)))) rfl
set_option maxRecDepth 100000 in
theorem mi_X11_gear : MQI yX11_gear cX11_gear 5 (some .boolean) 3 := ⟨inTW (List.mem_append_right _ (TS2 (List.mem_of_getElem? (i := 206) rfl))) rfl, inTW (List.mem_append_right _ (TS1 (List.mem_of_getElem? (i := 1) (by decide +kernel)))) rfl, by decide, by decide +kernel⟩
theorem in_X11_gear : Cond.instanceMethod yX11_gear ∈ TW := inTW (List.mem_append_right _ (TS2 (List.mem_of_getElem? (i := 204) (by decide +kernel)))) rfl
theorem se_X11_gear : Cond.selects yX11_gear.cls yX11_gear yX11_gear ∈ TW := inTW (List.mem_append_right _ (TS2 (List.mem_of_getElem? (i := 205) (by decide +kernel)))) rfl
theorem ml_L_41 : Cond.methodLink RL 41 yX12_gear ∈ TW := inTW (List.mem_append_right _ (TS6 (List.mem_of_getElem? (i := 61) (by decide +kernel)))) rfl
set_option maxRecDepth 100000 in
theorem mi_X12_gear : MQI yX12_gear cX12_gear 4 (some .boolean) 3 := ⟨inTW (List.mem_append_right _ (TS6 (List.mem_of_getElem? (i := 64) rfl))) rfl, inTW (List.mem_append_right _ (TS1 (List.mem_of_getElem? (i := 13) (by decide +kernel)))) rfl, by decide, by decide +kernel⟩
theorem in_X12_gear : Cond.instanceMethod yX12_gear ∈ TW := inTW (List.mem_append_right _ (TS6 (List.mem_of_getElem? (i := 62) (by decide +kernel)))) rfl
theorem se_X12_gear : Cond.selects yX12_gear.cls yX12_gear yX12_gear ∈ TW := inTW (List.mem_append_right _ (TS6 (List.mem_of_getElem? (i := 63) (by decide +kernel)))) rfl
theorem ml_L_42 : Cond.methodLink RL 42 yX11_snow ∈ TW := inTW (List.mem_append_right _ (TS2 (List.mem_of_getElem? (i := 221) (by decide +kernel)))) rfl
set_option maxRecDepth 100000 in
theorem mi_X11_snow : MQI yX11_snow cX11_snow 4 (some .boolean) 2 := ⟨inTW (List.mem_append_right _ (TS2 (List.mem_of_getElem? (i := 224) rfl))) rfl, inTW (List.mem_append_right _ (TS1 (List.mem_of_getElem? (i := 1) (by decide +kernel)))) rfl, by decide, by decide +kernel⟩
theorem in_X11_snow : Cond.instanceMethod yX11_snow ∈ TW := inTW (List.mem_append_right _ (TS2 (List.mem_of_getElem? (i := 222) (by decide +kernel)))) rfl
theorem se_X11_snow : Cond.selects yX11_snow.cls yX11_snow yX11_snow ∈ TW := inTW (List.mem_append_right _ (TS2 (List.mem_of_getElem? (i := 223) (by decide +kernel)))) rfl
theorem ml_L_46 : Cond.methodLink RL 46 yX12_snow ∈ TW := inTW (List.mem_append_right _ (TS6 (List.mem_of_getElem? (i := 65) (by decide +kernel)))) rfl
set_option maxRecDepth 100000 in
theorem mi_X12_snow : MQI yX12_snow cX12_snow 3 (some .boolean) 2 := ⟨inTW (List.mem_append_right _ (TS6 (List.mem_of_getElem? (i := 68) rfl))) rfl, inTW (List.mem_append_right _ (TS1 (List.mem_of_getElem? (i := 13) (by decide +kernel)))) rfl, by decide, by decide +kernel⟩
theorem in_X12_snow : Cond.instanceMethod yX12_snow ∈ TW := inTW (List.mem_append_right _ (TS6 (List.mem_of_getElem? (i := 66) (by decide +kernel)))) rfl
theorem se_X12_snow : Cond.selects yX12_snow.cls yX12_snow yX12_snow ∈ TW := inTW (List.mem_append_right _ (TS6 (List.mem_of_getElem? (i := 67) (by decide +kernel)))) rfl
theorem ml_L_47 : Cond.methodLink RL 47 yX11_feed ∈ TW := inTW (List.mem_append_right _ (TS2 (List.mem_of_getElem? (i := 225) (by decide +kernel)))) rfl
set_option maxRecDepth 100000 in
theorem mi_X11_feed : MQI yX11_feed cX11_feed 6 (some .int) 5 := ⟨inTW (List.mem_append_right _ (TS2 (List.mem_of_getElem? (i := 228) rfl))) rfl, inTW (List.mem_append_right _ (TS1 (List.mem_of_getElem? (i := 1) (by decide +kernel)))) rfl, by decide, by decide +kernel⟩
theorem in_X11_feed : Cond.instanceMethod yX11_feed ∈ TW := inTW (List.mem_append_right _ (TS2 (List.mem_of_getElem? (i := 226) (by decide +kernel)))) rfl
theorem se_X11_feed : Cond.selects yX11_feed.cls yX11_feed yX11_feed ∈ TW := inTW (List.mem_append_right _ (TS2 (List.mem_of_getElem? (i := 227) (by decide +kernel)))) rfl
theorem ml_L_51 : Cond.methodLink RL 51 yX12_feed ∈ TW := inTW (List.mem_append_right _ (TS6 (List.mem_of_getElem? (i := 69) (by decide +kernel)))) rfl
set_option maxRecDepth 100000 in
theorem mi_X12_feed : MQI yX12_feed cX12_feed 6 (some .int) 5 := ⟨inTW (List.mem_append_right _ (TS6 (List.mem_of_getElem? (i := 72) rfl))) rfl, inTW (List.mem_append_right _ (TS1 (List.mem_of_getElem? (i := 13) (by decide +kernel)))) rfl, by decide, by decide +kernel⟩
theorem in_X12_feed : Cond.instanceMethod yX12_feed ∈ TW := inTW (List.mem_append_right _ (TS6 (List.mem_of_getElem? (i := 70) (by decide +kernel)))) rfl
theorem se_X12_feed : Cond.selects yX12_feed.cls yX12_feed yX12_feed ∈ TW := inTW (List.mem_append_right _ (TS6 (List.mem_of_getElem? (i := 71) (by decide +kernel)))) rfl
theorem ml_L_52 : Cond.methodLink RL 52 yX11_law ∈ TW := inTW (List.mem_append_right _ (TS2 (List.mem_of_getElem? (i := 233) (by decide +kernel)))) rfl
set_option maxRecDepth 100000 in
theorem mi_X11_law : MQI yX11_law cX11_law 4 (some .int) 1 := ⟨inTW (List.mem_append_right _ (TS2 (List.mem_of_getElem? (i := 236) rfl))) rfl, inTW (List.mem_append_right _ (TS1 (List.mem_of_getElem? (i := 1) (by decide +kernel)))) rfl, by decide, by decide +kernel⟩
theorem in_X11_law : Cond.instanceMethod yX11_law ∈ TW := inTW (List.mem_append_right _ (TS2 (List.mem_of_getElem? (i := 234) (by decide +kernel)))) rfl
theorem se_X11_law : Cond.selects yX11_law.cls yX11_law yX11_law ∈ TW := inTW (List.mem_append_right _ (TS2 (List.mem_of_getElem? (i := 235) (by decide +kernel)))) rfl
theorem ml_L_55 : Cond.methodLink RL 55 yX12_law ∈ TW := inTW (List.mem_append_right _ (TS6 (List.mem_of_getElem? (i := 77) (by decide +kernel)))) rfl
set_option maxRecDepth 100000 in
theorem mi_X12_law : MQI yX12_law cX12_law 4 (some .int) 1 := ⟨inTW (List.mem_append_right _ (TS6 (List.mem_of_getElem? (i := 80) rfl))) rfl, inTW (List.mem_append_right _ (TS1 (List.mem_of_getElem? (i := 13) (by decide +kernel)))) rfl, by decide, by decide +kernel⟩
theorem in_X12_law : Cond.instanceMethod yX12_law ∈ TW := inTW (List.mem_append_right _ (TS6 (List.mem_of_getElem? (i := 78) (by decide +kernel)))) rfl
theorem se_X12_law : Cond.selects yX12_law.cls yX12_law yX12_law ∈ TW := inTW (List.mem_append_right _ (TS6 (List.mem_of_getElem? (i := 79) (by decide +kernel)))) rfl
theorem ml_L_56 : Cond.methodLink RL 56 yX11_hours ∈ TW := inTW (List.mem_append_right _ (TS3 (List.mem_of_getElem? (i := 170) (by decide +kernel)))) rfl
set_option maxRecDepth 100000 in
theorem mi_X11_hours : MQI yX11_hours cX11_hours 2 (some .int) 1 := ⟨inTW (List.mem_append_right _ (TS3 (List.mem_of_getElem? (i := 173) rfl))) rfl, inTW (List.mem_append_right _ (TS1 (List.mem_of_getElem? (i := 1) (by decide +kernel)))) rfl, by decide, by decide +kernel⟩
theorem in_X11_hours : Cond.instanceMethod yX11_hours ∈ TW := inTW (List.mem_append_right _ (TS3 (List.mem_of_getElem? (i := 171) (by decide +kernel)))) rfl
theorem se_X11_hours : Cond.selects yX11_hours.cls yX11_hours yX11_hours ∈ TW := inTW (List.mem_append_right _ (TS3 (List.mem_of_getElem? (i := 172) (by decide +kernel)))) rfl
theorem ml_L_59 : Cond.methodLink RL 59 yX12_hours ∈ TW := inTW (List.mem_append_right _ (TS6 (List.mem_of_getElem? (i := 175) (by decide +kernel)))) rfl
set_option maxRecDepth 100000 in
theorem mi_X12_hours : MQI yX12_hours cX12_hours 2 (some .int) 1 := ⟨inTW (List.mem_append_right _ (TS6 (List.mem_of_getElem? (i := 178) rfl))) rfl, inTW (List.mem_append_right _ (TS1 (List.mem_of_getElem? (i := 13) (by decide +kernel)))) rfl, by decide, by decide +kernel⟩
theorem in_X12_hours : Cond.instanceMethod yX12_hours ∈ TW := inTW (List.mem_append_right _ (TS6 (List.mem_of_getElem? (i := 176) (by decide +kernel)))) rfl
theorem se_X12_hours : Cond.selects yX12_hours.cls yX12_hours yX12_hours ∈ TW := inTW (List.mem_append_right _ (TS6 (List.mem_of_getElem? (i := 177) (by decide +kernel)))) rfl
theorem ml_L_60 : Cond.methodLink RL 60 yX11_hour ∈ TW := inTW (List.mem_append_right _ (TS3 (List.mem_of_getElem? (i := 231) (by decide +kernel)))) rfl
set_option maxRecDepth 100000 in
theorem mi_X11_hour : MQI yX11_hour cX11_hour 2 (some .int) 1 := ⟨inTW (List.mem_append_right _ (TS3 (List.mem_of_getElem? (i := 234) rfl))) rfl, inTW (List.mem_append_right _ (TS1 (List.mem_of_getElem? (i := 1) (by decide +kernel)))) rfl, by decide, by decide +kernel⟩
theorem in_X11_hour : Cond.instanceMethod yX11_hour ∈ TW := inTW (List.mem_append_right _ (TS3 (List.mem_of_getElem? (i := 232) (by decide +kernel)))) rfl
theorem se_X11_hour : Cond.selects yX11_hour.cls yX11_hour yX11_hour ∈ TW := inTW (List.mem_append_right _ (TS3 (List.mem_of_getElem? (i := 233) (by decide +kernel)))) rfl
theorem ml_L_63 : Cond.methodLink RL 63 yX12_hour ∈ TW := inTW (List.mem_append_right _ (TS6 (List.mem_of_getElem? (i := 237) (by decide +kernel)))) rfl
set_option maxRecDepth 100000 in
theorem mi_X12_hour : MQI yX12_hour cX12_hour 2 (some .int) 1 := ⟨inTW (List.mem_append_right _ (TS7 (List.mem_of_getElem? (i := 0) rfl))) rfl, inTW (List.mem_append_right _ (TS1 (List.mem_of_getElem? (i := 13) (by decide +kernel)))) rfl, by decide, by decide +kernel⟩
theorem in_X12_hour : Cond.instanceMethod yX12_hour ∈ TW := inTW (List.mem_append_right _ (TS6 (List.mem_of_getElem? (i := 238) (by decide +kernel)))) rfl
theorem se_X12_hour : Cond.selects yX12_hour.cls yX12_hour yX12_hour ∈ TW := inTW (List.mem_append_right _ (TS6 (List.mem_of_getElem? (i := 239) (by decide +kernel)))) rfl
theorem ml_L_64 : Cond.methodLink RL 64 yX11_roofIs ∈ TW := inTW (List.mem_append_right _ (TS3 (List.mem_of_getElem? (i := 236) (by decide +kernel)))) rfl
set_option maxRecDepth 100000 in
theorem mi_X11_roofIs : MQI yX11_roofIs cX11_roofIs 3 (some .int) 2 := ⟨inTW (List.mem_append_right _ (TS3 (List.mem_of_getElem? (i := 239) rfl))) rfl, inTW (List.mem_append_right _ (TS1 (List.mem_of_getElem? (i := 1) (by decide +kernel)))) rfl, by decide, by decide +kernel⟩
theorem in_X11_roofIs : Cond.instanceMethod yX11_roofIs ∈ TW := inTW (List.mem_append_right _ (TS3 (List.mem_of_getElem? (i := 237) (by decide +kernel)))) rfl
theorem se_X11_roofIs : Cond.selects yX11_roofIs.cls yX11_roofIs yX11_roofIs ∈ TW := inTW (List.mem_append_right _ (TS3 (List.mem_of_getElem? (i := 238) (by decide +kernel)))) rfl
theorem ml_L_68 : Cond.methodLink RL 68 yX12_roofIs ∈ TW := inTW (List.mem_append_right _ (TS7 (List.mem_of_getElem? (i := 1) (by decide +kernel)))) rfl
set_option maxRecDepth 100000 in
theorem mi_X12_roofIs : MQI yX12_roofIs cX12_roofIs 3 (some .int) 2 := ⟨inTW (List.mem_append_right _ (TS7 (List.mem_of_getElem? (i := 4) rfl))) rfl, inTW (List.mem_append_right _ (TS1 (List.mem_of_getElem? (i := 13) (by decide +kernel)))) rfl, by decide, by decide +kernel⟩
theorem in_X12_roofIs : Cond.instanceMethod yX12_roofIs ∈ TW := inTW (List.mem_append_right _ (TS7 (List.mem_of_getElem? (i := 2) (by decide +kernel)))) rfl
theorem se_X12_roofIs : Cond.selects yX12_roofIs.cls yX12_roofIs yX12_roofIs ∈ TW := inTW (List.mem_append_right _ (TS7 (List.mem_of_getElem? (i := 3) (by decide +kernel)))) rfl
theorem ml_L_69 : Cond.methodLink RL 69 yX11_apprenticeIs ∈ TW := inTW (List.mem_append_right _ (TS4 (List.mem_of_getElem? (i := 8) (by decide +kernel)))) rfl
set_option maxRecDepth 100000 in
theorem mi_X11_apprenticeIs : MQI yX11_apprenticeIs cX11_apprenticeIs 3 (some .int) 2 := ⟨inTW (List.mem_append_right _ (TS4 (List.mem_of_getElem? (i := 11) rfl))) rfl, inTW (List.mem_append_right _ (TS1 (List.mem_of_getElem? (i := 1) (by decide +kernel)))) rfl, by decide, by decide +kernel⟩
theorem in_X11_apprenticeIs : Cond.instanceMethod yX11_apprenticeIs ∈ TW := inTW (List.mem_append_right _ (TS4 (List.mem_of_getElem? (i := 9) (by decide +kernel)))) rfl
theorem se_X11_apprenticeIs : Cond.selects yX11_apprenticeIs.cls yX11_apprenticeIs yX11_apprenticeIs ∈ TW := inTW (List.mem_append_right _ (TS4 (List.mem_of_getElem? (i := 10) (by decide +kernel)))) rfl
theorem ml_L_72 : Cond.methodLink RL 72 yX12_apprenticeIs ∈ TW := inTW (List.mem_append_right _ (TS7 (List.mem_of_getElem? (i := 13) (by decide +kernel)))) rfl
set_option maxRecDepth 100000 in
theorem mi_X12_apprenticeIs : MQI yX12_apprenticeIs cX12_apprenticeIs 3 (some .int) 2 := ⟨inTW (List.mem_append_right _ (TS7 (List.mem_of_getElem? (i := 16) rfl))) rfl, inTW (List.mem_append_right _ (TS1 (List.mem_of_getElem? (i := 13) (by decide +kernel)))) rfl, by decide, by decide +kernel⟩
theorem in_X12_apprenticeIs : Cond.instanceMethod yX12_apprenticeIs ∈ TW := inTW (List.mem_append_right _ (TS7 (List.mem_of_getElem? (i := 14) (by decide +kernel)))) rfl
theorem se_X12_apprenticeIs : Cond.selects yX12_apprenticeIs.cls yX12_apprenticeIs yX12_apprenticeIs ∈ TW := inTW (List.mem_append_right _ (TS7 (List.mem_of_getElem? (i := 15) (by decide +kernel)))) rfl
theorem ml_L_73 : Cond.methodLink RL 73 yX11_masterIs ∈ TW := inTW (List.mem_append_right _ (TS4 (List.mem_of_getElem? (i := 16) (by decide +kernel)))) rfl
set_option maxRecDepth 100000 in
theorem mi_X11_masterIs : MQI yX11_masterIs cX11_masterIs 3 (some .int) 2 := ⟨inTW (List.mem_append_right _ (TS4 (List.mem_of_getElem? (i := 19) rfl))) rfl, inTW (List.mem_append_right _ (TS1 (List.mem_of_getElem? (i := 1) (by decide +kernel)))) rfl, by decide, by decide +kernel⟩
theorem in_X11_masterIs : Cond.instanceMethod yX11_masterIs ∈ TW := inTW (List.mem_append_right _ (TS4 (List.mem_of_getElem? (i := 17) (by decide +kernel)))) rfl
theorem se_X11_masterIs : Cond.selects yX11_masterIs.cls yX11_masterIs yX11_masterIs ∈ TW := inTW (List.mem_append_right _ (TS4 (List.mem_of_getElem? (i := 18) (by decide +kernel)))) rfl
theorem ml_L_76 : Cond.methodLink RL 76 yX12_masterIs ∈ TW := inTW (List.mem_append_right _ (TS7 (List.mem_of_getElem? (i := 23) (by decide +kernel)))) rfl
set_option maxRecDepth 100000 in
theorem mi_X12_masterIs : MQI yX12_masterIs cX12_masterIs 3 (some .int) 2 := ⟨inTW (List.mem_append_right _ (TS7 (List.mem_of_getElem? (i := 26) rfl))) rfl, inTW (List.mem_append_right _ (TS1 (List.mem_of_getElem? (i := 13) (by decide +kernel)))) rfl, by decide, by decide +kernel⟩
theorem in_X12_masterIs : Cond.instanceMethod yX12_masterIs ∈ TW := inTW (List.mem_append_right _ (TS7 (List.mem_of_getElem? (i := 24) (by decide +kernel)))) rfl
theorem se_X12_masterIs : Cond.selects yX12_masterIs.cls yX12_masterIs yX12_masterIs ∈ TW := inTW (List.mem_append_right _ (TS7 (List.mem_of_getElem? (i := 25) (by decide +kernel)))) rfl
theorem ml_L_77 : Cond.methodLink RL 77 yX11_tried ∈ TW := inTW (List.mem_append_right _ (TS4 (List.mem_of_getElem? (i := 24) (by decide +kernel)))) rfl
set_option maxRecDepth 100000 in
theorem mi_X11_tried : MQI yX11_tried cX11_tried 6 (some .int) 2 := ⟨inTW (List.mem_append_right _ (TS4 (List.mem_of_getElem? (i := 27) rfl))) rfl, inTW (List.mem_append_right _ (TS1 (List.mem_of_getElem? (i := 1) (by decide +kernel)))) rfl, by decide, by decide +kernel⟩
theorem in_X11_tried : Cond.instanceMethod yX11_tried ∈ TW := inTW (List.mem_append_right _ (TS4 (List.mem_of_getElem? (i := 25) (by decide +kernel)))) rfl
theorem se_X11_tried : Cond.selects yX11_tried.cls yX11_tried yX11_tried ∈ TW := inTW (List.mem_append_right _ (TS4 (List.mem_of_getElem? (i := 26) (by decide +kernel)))) rfl
theorem ml_L_80 : Cond.methodLink RL 80 yX12_tried ∈ TW := inTW (List.mem_append_right _ (TS7 (List.mem_of_getElem? (i := 27) (by decide +kernel)))) rfl
set_option maxRecDepth 100000 in
theorem mi_X12_tried : MQI yX12_tried cX12_tried 4 (some .int) 2 := ⟨inTW (List.mem_append_right _ (TS7 (List.mem_of_getElem? (i := 30) rfl))) rfl, inTW (List.mem_append_right _ (TS1 (List.mem_of_getElem? (i := 13) (by decide +kernel)))) rfl, by decide, by decide +kernel⟩
theorem in_X12_tried : Cond.instanceMethod yX12_tried ∈ TW := inTW (List.mem_append_right _ (TS7 (List.mem_of_getElem? (i := 28) (by decide +kernel)))) rfl
theorem se_X12_tried : Cond.selects yX12_tried.cls yX12_tried yX12_tried ∈ TW := inTW (List.mem_append_right _ (TS7 (List.mem_of_getElem? (i := 29) (by decide +kernel)))) rfl
theorem ml_L_81 : Cond.methodLink RL 81 yX11_set ∈ TW := inTW (List.mem_append_right _ (TS4 (List.mem_of_getElem? (i := 58) (by decide +kernel)))) rfl
set_option maxRecDepth 100000 in
theorem mi_X11_set : MQI yX11_set cX11_set 6 (some .int) 4 := ⟨inTW (List.mem_append_right _ (TS4 (List.mem_of_getElem? (i := 61) rfl))) rfl, inTW (List.mem_append_right _ (TS1 (List.mem_of_getElem? (i := 1) (by decide +kernel)))) rfl, by decide, by decide +kernel⟩
theorem in_X11_set : Cond.instanceMethod yX11_set ∈ TW := inTW (List.mem_append_right _ (TS4 (List.mem_of_getElem? (i := 59) (by decide +kernel)))) rfl
theorem se_X11_set : Cond.selects yX11_set.cls yX11_set yX11_set ∈ TW := inTW (List.mem_append_right _ (TS4 (List.mem_of_getElem? (i := 60) (by decide +kernel)))) rfl
theorem ml_L_85 : Cond.methodLink RL 85 yX12_set ∈ TW := inTW (List.mem_append_right _ (TS7 (List.mem_of_getElem? (i := 48) (by decide +kernel)))) rfl
set_option maxRecDepth 100000 in
theorem mi_X12_set : MQI yX12_set cX12_set 8 (some .int) 4 := ⟨inTW (List.mem_append_right _ (TS7 (List.mem_of_getElem? (i := 51) rfl))) rfl, inTW (List.mem_append_right _ (TS1 (List.mem_of_getElem? (i := 13) (by decide +kernel)))) rfl, by decide, by decide +kernel⟩
theorem in_X12_set : Cond.instanceMethod yX12_set ∈ TW := inTW (List.mem_append_right _ (TS7 (List.mem_of_getElem? (i := 49) (by decide +kernel)))) rfl
theorem se_X12_set : Cond.selects yX12_set.cls yX12_set yX12_set ∈ TW := inTW (List.mem_append_right _ (TS7 (List.mem_of_getElem? (i := 50) (by decide +kernel)))) rfl
theorem ml_L_86 : Cond.methodLink RL 86 yX11_free ∈ TW := inTW (List.mem_append_right _ (TS4 (List.mem_of_getElem? (i := 108) (by decide +kernel)))) rfl
set_option maxRecDepth 100000 in
theorem mi_X11_free : MQI yX11_free cX11_free 11 (some .int) 3 := ⟨inTW (List.mem_append_right _ (TS4 (List.mem_of_getElem? (i := 111) rfl))) rfl, inTW (List.mem_append_right _ (TS1 (List.mem_of_getElem? (i := 1) (by decide +kernel)))) rfl, by decide, by decide +kernel⟩
theorem in_X11_free : Cond.instanceMethod yX11_free ∈ TW := inTW (List.mem_append_right _ (TS4 (List.mem_of_getElem? (i := 109) (by decide +kernel)))) rfl
theorem se_X11_free : Cond.selects yX11_free.cls yX11_free yX11_free ∈ TW := inTW (List.mem_append_right _ (TS4 (List.mem_of_getElem? (i := 110) (by decide +kernel)))) rfl
theorem ml_L_89 : Cond.methodLink RL 89 yX12_free ∈ TW := inTW (List.mem_append_right _ (TS7 (List.mem_of_getElem? (i := 74) (by decide +kernel)))) rfl
set_option maxRecDepth 100000 in
theorem mi_X12_free : MQI yX12_free cX12_free 11 (some .int) 3 := ⟨inTW (List.mem_append_right _ (TS7 (List.mem_of_getElem? (i := 77) rfl))) rfl, inTW (List.mem_append_right _ (TS1 (List.mem_of_getElem? (i := 13) (by decide +kernel)))) rfl, by decide, by decide +kernel⟩
theorem in_X12_free : Cond.instanceMethod yX12_free ∈ TW := inTW (List.mem_append_right _ (TS7 (List.mem_of_getElem? (i := 75) (by decide +kernel)))) rfl
theorem se_X12_free : Cond.selects yX12_free.cls yX12_free yX12_free ∈ TW := inTW (List.mem_append_right _ (TS7 (List.mem_of_getElem? (i := 76) (by decide +kernel)))) rfl
theorem ml_L_90 : Cond.methodLink RL 90 yX11_worth ∈ TW := inTW (List.mem_append_right _ (TS4 (List.mem_of_getElem? (i := 120) (by decide +kernel)))) rfl
set_option maxRecDepth 100000 in
theorem mi_X11_worth : MQI yX11_worth cX11_worth 5 (some .int) 3 := ⟨inTW (List.mem_append_right _ (TS4 (List.mem_of_getElem? (i := 123) rfl))) rfl, inTW (List.mem_append_right _ (TS1 (List.mem_of_getElem? (i := 1) (by decide +kernel)))) rfl, by decide, by decide +kernel⟩
theorem in_X11_worth : Cond.instanceMethod yX11_worth ∈ TW := inTW (List.mem_append_right _ (TS4 (List.mem_of_getElem? (i := 121) (by decide +kernel)))) rfl
theorem se_X11_worth : Cond.selects yX11_worth.cls yX11_worth yX11_worth ∈ TW := inTW (List.mem_append_right _ (TS4 (List.mem_of_getElem? (i := 122) (by decide +kernel)))) rfl
theorem ml_L_93 : Cond.methodLink RL 93 yX12_worth ∈ TW := inTW (List.mem_append_right _ (TS7 (List.mem_of_getElem? (i := 80) (by decide +kernel)))) rfl
set_option maxRecDepth 100000 in
theorem mi_X12_worth : MQI yX12_worth cX12_worth 5 (some .int) 3 := ⟨inTW (List.mem_append_right _ (TS7 (List.mem_of_getElem? (i := 83) rfl))) rfl, inTW (List.mem_append_right _ (TS1 (List.mem_of_getElem? (i := 13) (by decide +kernel)))) rfl, by decide, by decide +kernel⟩
theorem in_X12_worth : Cond.instanceMethod yX12_worth ∈ TW := inTW (List.mem_append_right _ (TS7 (List.mem_of_getElem? (i := 81) (by decide +kernel)))) rfl
theorem se_X12_worth : Cond.selects yX12_worth.cls yX12_worth yX12_worth ∈ TW := inTW (List.mem_append_right _ (TS7 (List.mem_of_getElem? (i := 82) (by decide +kernel)))) rfl
theorem ml_L_94 : Cond.methodLink RL 94 yX11_lent ∈ TW := inTW (List.mem_append_right _ (TS4 (List.mem_of_getElem? (i := 124) (by decide +kernel)))) rfl
set_option maxRecDepth 100000 in
theorem mi_X11_lent : MQI yX11_lent cX11_lent 4 (some .int) 2 := ⟨inTW (List.mem_append_right _ (TS4 (List.mem_of_getElem? (i := 127) rfl))) rfl, inTW (List.mem_append_right _ (TS1 (List.mem_of_getElem? (i := 1) (by decide +kernel)))) rfl, by decide, by decide +kernel⟩
theorem in_X11_lent : Cond.instanceMethod yX11_lent ∈ TW := inTW (List.mem_append_right _ (TS4 (List.mem_of_getElem? (i := 125) (by decide +kernel)))) rfl
theorem se_X11_lent : Cond.selects yX11_lent.cls yX11_lent yX11_lent ∈ TW := inTW (List.mem_append_right _ (TS4 (List.mem_of_getElem? (i := 126) (by decide +kernel)))) rfl
theorem ml_L_97 : Cond.methodLink RL 97 yX12_lent ∈ TW := inTW (List.mem_append_right _ (TS7 (List.mem_of_getElem? (i := 88) (by decide +kernel)))) rfl
set_option maxRecDepth 100000 in
theorem mi_X12_lent : MQI yX12_lent cX12_lent 8 (some .int) 2 := ⟨inTW (List.mem_append_right _ (TS7 (List.mem_of_getElem? (i := 91) rfl))) rfl, inTW (List.mem_append_right _ (TS1 (List.mem_of_getElem? (i := 13) (by decide +kernel)))) rfl, by decide, by decide +kernel⟩
theorem in_X12_lent : Cond.instanceMethod yX12_lent ∈ TW := inTW (List.mem_append_right _ (TS7 (List.mem_of_getElem? (i := 89) (by decide +kernel)))) rfl
theorem se_X12_lent : Cond.selects yX12_lent.cls yX12_lent yX12_lent ∈ TW := inTW (List.mem_append_right _ (TS7 (List.mem_of_getElem? (i := 90) (by decide +kernel)))) rfl
theorem ml_L_98 : Cond.methodLink RL 98 yX11_letGo ∈ TW := inTW (List.mem_append_right _ (TS4 (List.mem_of_getElem? (i := 153) (by decide +kernel)))) rfl
set_option maxRecDepth 100000 in
theorem mi_X11_letGo : MQI yX11_letGo cX11_letGo 9 (some .int) 3 := ⟨inTW (List.mem_append_right _ (TS4 (List.mem_of_getElem? (i := 156) rfl))) rfl, inTW (List.mem_append_right _ (TS1 (List.mem_of_getElem? (i := 1) (by decide +kernel)))) rfl, by decide, by decide +kernel⟩
theorem in_X11_letGo : Cond.instanceMethod yX11_letGo ∈ TW := inTW (List.mem_append_right _ (TS4 (List.mem_of_getElem? (i := 154) (by decide +kernel)))) rfl
theorem se_X11_letGo : Cond.selects yX11_letGo.cls yX11_letGo yX11_letGo ∈ TW := inTW (List.mem_append_right _ (TS4 (List.mem_of_getElem? (i := 155) (by decide +kernel)))) rfl
set_option maxRecDepth 100000 in
set_option maxHeartbeats 8000000 in
theorem law_case_0 (xs : List Int) (Po : Option PV → List SE → MEM → Prop) (i : Int) (h : MEM) (I : INV i h) (hi : i + 6 ≤ xs.length) (hN : xs.length ≤ 3072) (kk : ∀ h' : MEM, INV (i + 6) h' → G x cL_law 4 (some .boolean) (some xs) Po (2048, 84000, 600000, 7302250) 1216 [some pX, some (pR 0), some (pR 98), some (pI i)] [] SH h' 151 10868) : G x cL_law 4 (some .boolean) (some xs) Po (2048, 84000, 600000, 7302250) 168 [some pX, some (pR 0), some (pR 98), some (pI i)] [] SH h 151 10868 := by
  obtain ⟨⟨hX, hMm, hLD, hWF⟩, hI, gi, gs, hXW, hIS, hXK, hS1⟩ := I
  obtain ⟨v1, ev1⟩ : ∃ z, z = h 2 0 := ⟨_, rfl⟩
  have bv1 : 0 ≤ v1 ∧ v1 ≤ 10 := by rw [ev1]; exact (m_2_0 hX)
  obtain ⟨v2, ev2⟩ : ∃ z, z = h 6 0 := ⟨_, rfl⟩
  have bv2 : 0 ≤ v2 ∧ v2 ≤ 8 := by rw [ev2]; exact (m_6_0 hX)
  obtain ⟨v3, ev3⟩ : ∃ z, z = h 12 0 := ⟨_, rfl⟩
  have bv3 : 0 ≤ v3 ∧ v3 ≤ 8 := by rw [ev3]; exact (m_12_0 hX)
  obtain ⟨v4, ev4⟩ : ∃ z, z = h 42 0 := ⟨_, rfl⟩
  have bv4 : 0 ≤ v4 ∧ v4 ≤ 10 := by rw [ev4]; exact (m_42_0 hX)
  obtain ⟨v5, ev5⟩ : ∃ z, z = h 46 0 := ⟨_, rfl⟩
  have bv5 : 0 ≤ v5 ∧ v5 ≤ 8 := by rw [ev5]; exact (m_46_0 hX)
  obtain ⟨v6, ev6⟩ : ∃ z, z = h 52 0 := ⟨_, rfl⟩
  have bv6 : 0 ≤ v6 ∧ v6 ≤ 8 := by rw [ev6]; exact (m_52_0 hX)
  obtain ⟨v7, ev7⟩ : ∃ z, z = h 0 12 := ⟨_, rfl⟩
  have bv7 : 0 ≤ v7 ∧ v7 ≤ 1 := by rw [ev7]; exact (m_0_12 hX)
  obtain ⟨v8, ev8⟩ : ∃ z, z = h 98 2 := ⟨_, rfl⟩
  have bv8 : 0 ≤ v8 ∧ v8 ≤ 10 := by rw [ev8]; exact (m_98_2 hMm)
  obtain ⟨v9, ev9⟩ : ∃ z, z = h 98 3 := ⟨_, rfl⟩
  have bv9 : 0 ≤ v9 ∧ v9 ≤ 8 := by rw [ev9]; exact (m_98_3 hMm)
  obtain ⟨v10, ev10⟩ : ∃ z, z = h 98 4 := ⟨_, rfl⟩
  have bv10 : 0 ≤ v10 ∧ v10 ≤ 8 := by rw [ev10]; exact (m_98_4 hMm)
  obtain ⟨v11, ev11⟩ : ∃ z, z = h 98 5 := ⟨_, rfl⟩
  have bv11 : 0 ≤ v11 ∧ v11 ≤ 2000000000 := by rw [ev11]; exact (m_98_5 hMm)
  obtain ⟨v12, ev12⟩ : ∃ z, z = h 145 6 := ⟨_, rfl⟩
  have bv12 : 0 ≤ v12 ∧ v12 ≤ 10 := by rw [ev12]; exact (m_145_6 hMm)
  obtain ⟨v13, ev13⟩ : ∃ z, z = h 145 7 := ⟨_, rfl⟩
  have bv13 : 0 ≤ v13 ∧ v13 ≤ 8 := by rw [ev13]; exact (m_145_7 hMm)
  obtain ⟨v14, ev14⟩ : ∃ z, z = h 145 8 := ⟨_, rfl⟩
  have bv14 : 0 ≤ v14 ∧ v14 ≤ 8 := by rw [ev14]; exact (m_145_8 hMm)
  obtain ⟨v15, ev15⟩ : ∃ z, z = h 145 9 := ⟨_, rfl⟩
  have bv15 : 0 ≤ v15 ∧ v15 ≤ 2000000000 := by rw [ev15]; exact (m_145_9 hMm)
  obtain ⟨v16, ev16⟩ : ∃ z, z = h 98 79 := ⟨_, rfl⟩
  have bv16 : 0 ≤ v16 ∧ v16 ≤ 1 := by rw [ev16]; exact (m_98_79 hMm)
  refine g_aload_n dL_law_168 rfl ?_
  refine g_aloadX_n dL_law_169 rfl ?_
  refine g_iload_n dL_law_170 rfl (fun _ => ?_)
  refine g_iconst dL_law_171 (inR_c rfl) ?_
  refine g_iaddB dL_law_172 (by omega) (by omega) ?_
  refine g_sldB dL_law_173 (by omega) (by omega) (fun v17 ev17 bv17 cv17 => ?_)
  refine g_aloadX_n dL_law_174 rfl ?_
  refine g_iload_n dL_law_175 rfl (fun _ => ?_)
  refine g_iconst dL_law_176 (inR_c rfl) ?_
  refine g_iaddB dL_law_177 (by omega) (by omega) ?_
  refine g_sldB dL_law_178 (by omega) (by omega) (fun v18 ev18 bv18 cv18 => ?_)
  refine g_aloadX_n dL_law_179 rfl ?_
  refine g_iload_n dL_law_180 rfl (fun _ => ?_)
  refine g_iconst dL_law_181 (inR_c rfl) ?_
  refine g_iaddB dL_law_182 (by omega) (by omega) ?_
  refine g_sldB dL_law_183 (by omega) (by omega) (fun v19 ev19 bv19 cv19 => ?_)
  have q20 : h 2 0 = v1 := ev1.symm
  have q21 : h 6 0 = v2 := ev2.symm
  have q22 : h 12 0 = v3 := ev3.symm
  have q23 : h 42 0 = v4 := ev4.symm
  have q24 : h 46 0 = v5 := ev5.symm
  have q25 : h 52 0 = v6 := ev6.symm
  have q26 : h 0 12 = v7 := ev7.symm
  have q27 : h 98 2 = v8 := ev8.symm
  have q28 : h 98 3 = v9 := ev9.symm
  have q29 : h 98 4 = v10 := ev10.symm
  have q30 : h 98 5 = v11 := ev11.symm
  have q31 : h 145 6 = v12 := ev12.symm
  have q32 : h 145 7 = v13 := ev13.symm
  have q33 : h 145 8 = v14 := ev14.symm
  have q34 : h 145 9 = v15 := ev15.symm
  have q35 : h 98 79 = v16 := ev16.symm
  refine g_cV (as := [_, _, _]) (c_X11_roof_0 _ _ _ h hX (by omega) (by omega) (by omega) (by omega) (by omega) (by omega)) dL_law_184 mi_X11_roof in_X11_roof se_X11_roof ml_L_13 rfl rfl rfl sh_0 rfl rfl (Nat.le_of_ble_eq_true rfl) (fun v36 h37 q38 => ?_)
  obtain ⟨hMh37, hFh37, bv36, cv36, zv36⟩ := q38
  refine g_pop dL_law_187 rfl ?_
  refine g_aload_n dL_law_188 rfl ?_
  refine g_aloadX_n dL_law_189 rfl ?_
  refine g_iload_n dL_law_190 rfl (fun _ => ?_)
  refine g_iconst dL_law_191 (inR_c rfl) ?_
  refine g_iaddB dL_law_192 (by omega) (by omega) ?_
  refine g_sldE dL_law_193 (by omega) (by omega) ev17 ?_
  refine g_aloadX_n dL_law_194 rfl ?_
  refine g_iload_n dL_law_195 rfl (fun _ => ?_)
  refine g_iconst dL_law_196 (inR_c rfl) ?_
  refine g_iaddB dL_law_197 (by omega) (by omega) ?_
  refine g_sldE dL_law_198 (by omega) (by omega) ev18 ?_
  refine g_aloadX_n dL_law_199 rfl ?_
  refine g_iload_n dL_law_200 rfl (fun _ => ?_)
  refine g_iconst dL_law_201 (inR_c rfl) ?_
  refine g_iaddB dL_law_202 (by omega) (by omega) ?_
  refine g_sldE dL_law_203 (by omega) (by omega) ev19 ?_
  obtain ⟨v39, ev39⟩ : ∃ z, z = h37 2 0 := ⟨_, rfl⟩
  have bv39 : 0 ≤ v39 ∧ v39 ≤ 10 := by rw [ev39]; exact (m_2_0 hMh37)
  have q40 : h37 6 0 = v2 := ((hFh37 6 0 rfl).trans ev2.symm)
  have q41 : h37 12 0 = v3 := ((hFh37 12 0 rfl).trans ev3.symm)
  have q42 : h37 42 0 = v4 := ((hFh37 42 0 rfl).trans ev4.symm)
  have q43 : h37 46 0 = v5 := ((hFh37 46 0 rfl).trans ev5.symm)
  have q44 : h37 52 0 = v6 := ((hFh37 52 0 rfl).trans ev6.symm)
  have q45 : h37 0 12 = v7 := ((hFh37 0 12 rfl).trans ev7.symm)
  have q46 : h37 98 2 = v8 := ((hFh37 98 2 rfl).trans ev8.symm)
  have q47 : h37 98 3 = v9 := ((hFh37 98 3 rfl).trans ev9.symm)
  have q48 : h37 98 4 = v10 := ((hFh37 98 4 rfl).trans ev10.symm)
  have q49 : h37 98 5 = v11 := ((hFh37 98 5 rfl).trans ev11.symm)
  have q50 : h37 145 6 = v12 := ((hFh37 145 _ rfl).trans ev12.symm)
  have q51 : h37 145 7 = v13 := ((hFh37 145 _ rfl).trans ev13.symm)
  have q52 : h37 145 8 = v14 := ((hFh37 145 _ rfl).trans ev14.symm)
  have q53 : h37 145 9 = v15 := ((hFh37 145 _ rfl).trans ev15.symm)
  have q54 : h37 98 79 = v16 := ((hFh37 98 79 rfl).trans ev16.symm)
  refine g_cV (as := [_, _, _]) (c_X12_roof_98 _ _ _ h37 (MBm.fr (T := [(2, 1), (3, 0), (4, 0), (5, 0)]) hMm (Fr.sub hFh37 rfl) rfl) (by omega) (by omega) (by omega) (by omega) (by omega) (by omega)) dL_law_204 mi_X12_roof in_X12_roof se_X12_roof ml_L_17 rfl rfl rfl sh_98 rfl rfl (Nat.le_of_ble_eq_true rfl) (fun v55 h56 q57 => ?_)
  obtain ⟨hMh56, hFh56, bv55, cv55, zv55⟩ := q57
  refine g_pop dL_law_207 rfl ?_
  refine g_goto 1216 dL_law_208 (by decide) ?_
  have q58 : h56 2 0 = v39 := ((hFh56 2 0 rfl).trans ev39.symm)
  have q59 : h56 6 0 = v2 := ((hFh56 6 0 rfl).trans ((hFh37 6 0 rfl).trans ev2.symm))
  have q60 : h56 12 0 = v3 := ((hFh56 12 0 rfl).trans ((hFh37 12 0 rfl).trans ev3.symm))
  have q61 : h56 42 0 = v4 := ((hFh56 42 0 rfl).trans ((hFh37 42 0 rfl).trans ev4.symm))
  have q62 : h56 46 0 = v5 := ((hFh56 46 0 rfl).trans ((hFh37 46 0 rfl).trans ev5.symm))
  have q63 : h56 52 0 = v6 := ((hFh56 52 0 rfl).trans ((hFh37 52 0 rfl).trans ev6.symm))
  have q64 : h56 0 12 = v7 := ((hFh56 0 12 rfl).trans ((hFh37 0 12 rfl).trans ev7.symm))
  obtain ⟨v65, ev65⟩ : ∃ z, z = h56 98 2 := ⟨_, rfl⟩
  have bv65 : 0 ≤ v65 ∧ v65 ≤ 10 := by rw [ev65]; exact (m_98_2 hMh56)
  have q66 : h56 98 3 = v9 := ((hFh56 98 3 rfl).trans ((hFh37 98 3 rfl).trans ev9.symm))
  have q67 : h56 98 4 = v10 := ((hFh56 98 4 rfl).trans ((hFh37 98 4 rfl).trans ev10.symm))
  have q68 : h56 98 5 = v11 := ((hFh56 98 5 rfl).trans ((hFh37 98 5 rfl).trans ev11.symm))
  have q69 : h56 145 6 = v12 := ((hFh56 145 _ rfl).trans ((hFh37 145 _ rfl).trans ev12.symm))
  have q70 : h56 145 7 = v13 := ((hFh56 145 _ rfl).trans ((hFh37 145 _ rfl).trans ev13.symm))
  have q71 : h56 145 8 = v14 := ((hFh56 145 _ rfl).trans ((hFh37 145 _ rfl).trans ev14.symm))
  have q72 : h56 145 9 = v15 := ((hFh56 145 _ rfl).trans ((hFh37 145 _ rfl).trans ev15.symm))
  have q73 : h56 98 79 = v16 := ((hFh56 98 79 rfl).trans ((hFh37 98 79 rfl).trans ev16.symm))
  exact kk _ ⟨⟨(MBx.fr (T := [(98, 3), (100, 0), (101, 0), (102, 0)]) hMh37 (Fr.sub hFh56 rfl) rfl), hMh56, (LD.fr (T := [(2, 1), (3, 0), (4, 0), (5, 0), (98, 3), (100, 0), (101, 0), (102, 0)]) hLD (Fr.tr (Fr.sub hFh37 rfl) hFh56 rfl) rfl), (WFL.fr (T := [(2, 1), (3, 0), (4, 0), (5, 0), (98, 3), (100, 0), (101, 0), (102, 0)]) hWF (Fr.tr (Fr.sub hFh37 rfl) hFh56 rfl) rfl)⟩, by omega, gi, gs, (ASn.fr (T := [(2, 1), (3, 0), (4, 0), (5, 0), (98, 3), (100, 0), (101, 0), (102, 0)]) hXW (Fr.tr (Fr.sub hFh37 rfl) hFh56 rfl) rfl), (ISn.fr (T := [(2, 1), (3, 0), (4, 0), (5, 0), (98, 3), (100, 0), (101, 0), (102, 0)]) hIS (Fr.tr (Fr.sub hFh37 rfl) hFh56 rfl) rfl), (ASn.fr (T := [(2, 1), (3, 0), (4, 0), (5, 0), (98, 3), (100, 0), (101, 0), (102, 0)]) hXK (Fr.tr (Fr.sub hFh37 rfl) hFh56 rfl) rfl), (S1n.fr (T := [(2, 1), (3, 0), (4, 0), (5, 0), (98, 3), (100, 0), (101, 0), (102, 0)]) hS1 (Fr.tr (Fr.sub hFh37 rfl) hFh56 rfl) rfl)⟩
set_option maxRecDepth 100000 in
set_option maxHeartbeats 8000000 in
theorem law_case_1 (xs : List Int) (Po : Option PV → List SE → MEM → Prop) (i : Int) (h : MEM) (I : INV i h) (hi : i + 6 ≤ xs.length) (hN : xs.length ≤ 3072) (kk : ∀ h' : MEM, INV (i + 6) h' → G x cL_law 4 (some .boolean) (some xs) Po (2048, 84000, 600000, 7302250) 1216 [some pX, some (pR 0), some (pR 98), some (pI i)] [] SH h' 151 10868) : G x cL_law 4 (some .boolean) (some xs) Po (2048, 84000, 600000, 7302250) 211 [some pX, some (pR 0), some (pR 98), some (pI i)] [] SH h 151 10868 := by
  obtain ⟨⟨hX, hMm, hLD, hWF⟩, hI, gi, gs, hXW, hIS, hXK, hS1⟩ := I
  obtain ⟨v1, ev1⟩ : ∃ z, z = h 2 0 := ⟨_, rfl⟩
  have bv1 : 0 ≤ v1 ∧ v1 ≤ 10 := by rw [ev1]; exact (m_2_0 hX)
  obtain ⟨v2, ev2⟩ : ∃ z, z = h 6 0 := ⟨_, rfl⟩
  have bv2 : 0 ≤ v2 ∧ v2 ≤ 8 := by rw [ev2]; exact (m_6_0 hX)
  obtain ⟨v3, ev3⟩ : ∃ z, z = h 12 0 := ⟨_, rfl⟩
  have bv3 : 0 ≤ v3 ∧ v3 ≤ 8 := by rw [ev3]; exact (m_12_0 hX)
  obtain ⟨v4, ev4⟩ : ∃ z, z = h 42 0 := ⟨_, rfl⟩
  have bv4 : 0 ≤ v4 ∧ v4 ≤ 10 := by rw [ev4]; exact (m_42_0 hX)
  obtain ⟨v5, ev5⟩ : ∃ z, z = h 46 0 := ⟨_, rfl⟩
  have bv5 : 0 ≤ v5 ∧ v5 ≤ 8 := by rw [ev5]; exact (m_46_0 hX)
  obtain ⟨v6, ev6⟩ : ∃ z, z = h 52 0 := ⟨_, rfl⟩
  have bv6 : 0 ≤ v6 ∧ v6 ≤ 8 := by rw [ev6]; exact (m_52_0 hX)
  obtain ⟨v7, ev7⟩ : ∃ z, z = h 0 12 := ⟨_, rfl⟩
  have bv7 : 0 ≤ v7 ∧ v7 ≤ 1 := by rw [ev7]; exact (m_0_12 hX)
  obtain ⟨v8, ev8⟩ : ∃ z, z = h 98 2 := ⟨_, rfl⟩
  have bv8 : 0 ≤ v8 ∧ v8 ≤ 10 := by rw [ev8]; exact (m_98_2 hMm)
  obtain ⟨v9, ev9⟩ : ∃ z, z = h 98 3 := ⟨_, rfl⟩
  have bv9 : 0 ≤ v9 ∧ v9 ≤ 8 := by rw [ev9]; exact (m_98_3 hMm)
  obtain ⟨v10, ev10⟩ : ∃ z, z = h 98 4 := ⟨_, rfl⟩
  have bv10 : 0 ≤ v10 ∧ v10 ≤ 8 := by rw [ev10]; exact (m_98_4 hMm)
  obtain ⟨v11, ev11⟩ : ∃ z, z = h 98 5 := ⟨_, rfl⟩
  have bv11 : 0 ≤ v11 ∧ v11 ≤ 2000000000 := by rw [ev11]; exact (m_98_5 hMm)
  obtain ⟨v12, ev12⟩ : ∃ z, z = h 145 6 := ⟨_, rfl⟩
  have bv12 : 0 ≤ v12 ∧ v12 ≤ 10 := by rw [ev12]; exact (m_145_6 hMm)
  obtain ⟨v13, ev13⟩ : ∃ z, z = h 145 7 := ⟨_, rfl⟩
  have bv13 : 0 ≤ v13 ∧ v13 ≤ 8 := by rw [ev13]; exact (m_145_7 hMm)
  obtain ⟨v14, ev14⟩ : ∃ z, z = h 145 8 := ⟨_, rfl⟩
  have bv14 : 0 ≤ v14 ∧ v14 ≤ 8 := by rw [ev14]; exact (m_145_8 hMm)
  obtain ⟨v15, ev15⟩ : ∃ z, z = h 145 9 := ⟨_, rfl⟩
  have bv15 : 0 ≤ v15 ∧ v15 ≤ 2000000000 := by rw [ev15]; exact (m_145_9 hMm)
  obtain ⟨v16, ev16⟩ : ∃ z, z = h 98 79 := ⟨_, rfl⟩
  have bv16 : 0 ≤ v16 ∧ v16 ≤ 1 := by rw [ev16]; exact (m_98_79 hMm)
  refine g_aload_n dL_law_211 rfl ?_
  refine g_aloadX_n dL_law_212 rfl ?_
  refine g_iload_n dL_law_213 rfl (fun _ => ?_)
  refine g_iconst dL_law_214 (inR_c rfl) ?_
  refine g_iaddB dL_law_215 (by omega) (by omega) ?_
  refine g_sldB dL_law_216 (by omega) (by omega) (fun v17 ev17 bv17 cv17 => ?_)
  have q18 : h 2 0 = v1 := ev1.symm
  have q19 : h 6 0 = v2 := ev2.symm
  have q20 : h 12 0 = v3 := ev3.symm
  have q21 : h 42 0 = v4 := ev4.symm
  have q22 : h 46 0 = v5 := ev5.symm
  have q23 : h 52 0 = v6 := ev6.symm
  have q24 : h 0 12 = v7 := ev7.symm
  have q25 : h 98 2 = v8 := ev8.symm
  have q26 : h 98 3 = v9 := ev9.symm
  have q27 : h 98 4 = v10 := ev10.symm
  have q28 : h 98 5 = v11 := ev11.symm
  have q29 : h 145 6 = v12 := ev12.symm
  have q30 : h 145 7 = v13 := ev13.symm
  have q31 : h 145 8 = v14 := ev14.symm
  have q32 : h 145 9 = v15 := ev15.symm
  have q33 : h 98 79 = v16 := ev16.symm
  refine g_cV (as := [_]) (c_X11_apprentice_0 _ h hX (by omega) (by omega)) dL_law_217 mi_X11_apprentice in_X11_apprentice se_X11_apprentice ml_L_18 rfl rfl rfl sh_0 rfl rfl (Nat.le_of_ble_eq_true rfl) (fun v34 h35 q36 => ?_)
  obtain ⟨hMh35, hFh35, bv34, cv34, zv34⟩ := q36
  refine g_pop dL_law_220 rfl ?_
  refine g_aload_n dL_law_221 rfl ?_
  refine g_aloadX_n dL_law_222 rfl ?_
  refine g_iload_n dL_law_223 rfl (fun _ => ?_)
  refine g_iconst dL_law_224 (inR_c rfl) ?_
  refine g_iaddB dL_law_225 (by omega) (by omega) ?_
  refine g_sldE dL_law_226 (by omega) (by omega) ev17 ?_
  have q37 : h35 2 0 = v1 := ((hFh35 2 0 rfl).trans ev1.symm)
  obtain ⟨v38, ev38⟩ : ∃ z, z = h35 6 0 := ⟨_, rfl⟩
  have bv38 : 0 ≤ v38 ∧ v38 ≤ 8 := by rw [ev38]; exact (m_6_0 hMh35)
  have q39 : h35 12 0 = v3 := ((hFh35 12 0 rfl).trans ev3.symm)
  have q40 : h35 42 0 = v4 := ((hFh35 42 0 rfl).trans ev4.symm)
  have q41 : h35 46 0 = v5 := ((hFh35 46 0 rfl).trans ev5.symm)
  have q42 : h35 52 0 = v6 := ((hFh35 52 0 rfl).trans ev6.symm)
  have q43 : h35 0 12 = v7 := ((hFh35 0 12 rfl).trans ev7.symm)
  have q44 : h35 98 2 = v8 := ((hFh35 98 2 rfl).trans ev8.symm)
  have q45 : h35 98 3 = v9 := ((hFh35 98 3 rfl).trans ev9.symm)
  have q46 : h35 98 4 = v10 := ((hFh35 98 4 rfl).trans ev10.symm)
  have q47 : h35 98 5 = v11 := ((hFh35 98 5 rfl).trans ev11.symm)
  have q48 : h35 145 6 = v12 := ((hFh35 145 _ rfl).trans ev12.symm)
  have q49 : h35 145 7 = v13 := ((hFh35 145 _ rfl).trans ev13.symm)
  have q50 : h35 145 8 = v14 := ((hFh35 145 _ rfl).trans ev14.symm)
  have q51 : h35 145 9 = v15 := ((hFh35 145 _ rfl).trans ev15.symm)
  have q52 : h35 98 79 = v16 := ((hFh35 98 79 rfl).trans ev16.symm)
  refine g_cV (as := [_]) (c_X12_apprentice_98 _ h35 (MBm.fr (T := [(6, 1), (7, 0), (8, 0)]) hMm (Fr.sub hFh35 rfl) rfl) (by omega) (by omega)) dL_law_227 mi_X12_apprentice in_X12_apprentice se_X12_apprentice ml_L_22 rfl rfl rfl sh_98 rfl rfl (Nat.le_of_ble_eq_true rfl) (fun v53 h54 q55 => ?_)
  obtain ⟨hMh54, hFh54, bv53, cv53, zv53⟩ := q55
  refine g_pop dL_law_230 rfl ?_
  refine g_goto 1216 dL_law_231 (by decide) ?_
  have q56 : h54 2 0 = v1 := ((hFh54 2 0 rfl).trans ((hFh35 2 0 rfl).trans ev1.symm))
  have q57 : h54 6 0 = v38 := ((hFh54 6 0 rfl).trans ev38.symm)
  have q58 : h54 12 0 = v3 := ((hFh54 12 0 rfl).trans ((hFh35 12 0 rfl).trans ev3.symm))
  have q59 : h54 42 0 = v4 := ((hFh54 42 0 rfl).trans ((hFh35 42 0 rfl).trans ev4.symm))
  have q60 : h54 46 0 = v5 := ((hFh54 46 0 rfl).trans ((hFh35 46 0 rfl).trans ev5.symm))
  have q61 : h54 52 0 = v6 := ((hFh54 52 0 rfl).trans ((hFh35 52 0 rfl).trans ev6.symm))
  have q62 : h54 0 12 = v7 := ((hFh54 0 12 rfl).trans ((hFh35 0 12 rfl).trans ev7.symm))
  have q63 : h54 98 2 = v8 := ((hFh54 98 2 rfl).trans ((hFh35 98 2 rfl).trans ev8.symm))
  obtain ⟨v64, ev64⟩ : ∃ z, z = h54 98 3 := ⟨_, rfl⟩
  have bv64 : 0 ≤ v64 ∧ v64 ≤ 8 := by rw [ev64]; exact (m_98_3 hMh54)
  have q65 : h54 98 4 = v10 := ((hFh54 98 4 rfl).trans ((hFh35 98 4 rfl).trans ev10.symm))
  have q66 : h54 98 5 = v11 := ((hFh54 98 5 rfl).trans ((hFh35 98 5 rfl).trans ev11.symm))
  have q67 : h54 145 6 = v12 := ((hFh54 145 _ rfl).trans ((hFh35 145 _ rfl).trans ev12.symm))
  have q68 : h54 145 7 = v13 := ((hFh54 145 _ rfl).trans ((hFh35 145 _ rfl).trans ev13.symm))
  have q69 : h54 145 8 = v14 := ((hFh54 145 _ rfl).trans ((hFh35 145 _ rfl).trans ev14.symm))
  have q70 : h54 145 9 = v15 := ((hFh54 145 _ rfl).trans ((hFh35 145 _ rfl).trans ev15.symm))
  have q71 : h54 98 79 = v16 := ((hFh54 98 79 rfl).trans ((hFh35 98 79 rfl).trans ev16.symm))
  exact kk _ ⟨⟨(MBx.fr (T := [(98, 4), (103, 0), (104, 0), (105, 0), (106, 0), (107, 0), (112, 0), (113, 0)]) hMh35 (Fr.sub hFh54 rfl) rfl), hMh54, (LD.fr (T := [(6, 1), (7, 0), (8, 0), (98, 4), (103, 0), (104, 0), (105, 0), (106, 0), (107, 0), (112, 0), (113, 0)]) hLD (Fr.tr (Fr.sub hFh35 rfl) hFh54 rfl) rfl), (WFL.fr (T := [(6, 1), (7, 0), (8, 0), (98, 4), (103, 0), (104, 0), (105, 0), (106, 0), (107, 0), (112, 0), (113, 0)]) hWF (Fr.tr (Fr.sub hFh35 rfl) hFh54 rfl) rfl)⟩, by omega, gi, gs, (ASn.fr (T := [(6, 1), (7, 0), (8, 0), (98, 4), (103, 0), (104, 0), (105, 0), (106, 0), (107, 0), (112, 0), (113, 0)]) hXW (Fr.tr (Fr.sub hFh35 rfl) hFh54 rfl) rfl), (ISn.fr (T := [(6, 1), (7, 0), (8, 0), (98, 4), (103, 0), (104, 0), (105, 0), (106, 0), (107, 0), (112, 0), (113, 0)]) hIS (Fr.tr (Fr.sub hFh35 rfl) hFh54 rfl) rfl), (ASn.fr (T := [(6, 1), (7, 0), (8, 0), (98, 4), (103, 0), (104, 0), (105, 0), (106, 0), (107, 0), (112, 0), (113, 0)]) hXK (Fr.tr (Fr.sub hFh35 rfl) hFh54 rfl) rfl), (S1n.fr (T := [(6, 1), (7, 0), (8, 0), (98, 4), (103, 0), (104, 0), (105, 0), (106, 0), (107, 0), (112, 0), (113, 0)]) hS1 (Fr.tr (Fr.sub hFh35 rfl) hFh54 rfl) rfl)⟩
set_option maxRecDepth 100000 in
set_option maxHeartbeats 8000000 in
theorem law_case_2 (xs : List Int) (Po : Option PV → List SE → MEM → Prop) (i : Int) (h : MEM) (I : INV i h) (hi : i + 6 ≤ xs.length) (hN : xs.length ≤ 3072) (kk : ∀ h' : MEM, INV (i + 6) h' → G x cL_law 4 (some .boolean) (some xs) Po (2048, 84000, 600000, 7302250) 1216 [some pX, some (pR 0), some (pR 98), some (pI i)] [] SH h' 151 10868) : G x cL_law 4 (some .boolean) (some xs) Po (2048, 84000, 600000, 7302250) 234 [some pX, some (pR 0), some (pR 98), some (pI i)] [] SH h 151 10868 := by
  obtain ⟨⟨hX, hMm, hLD, hWF⟩, hI, gi, gs, hXW, hIS, hXK, hS1⟩ := I
  obtain ⟨v1, ev1⟩ : ∃ z, z = h 2 0 := ⟨_, rfl⟩
  have bv1 : 0 ≤ v1 ∧ v1 ≤ 10 := by rw [ev1]; exact (m_2_0 hX)
  obtain ⟨v2, ev2⟩ : ∃ z, z = h 6 0 := ⟨_, rfl⟩
  have bv2 : 0 ≤ v2 ∧ v2 ≤ 8 := by rw [ev2]; exact (m_6_0 hX)
  obtain ⟨v3, ev3⟩ : ∃ z, z = h 12 0 := ⟨_, rfl⟩
  have bv3 : 0 ≤ v3 ∧ v3 ≤ 8 := by rw [ev3]; exact (m_12_0 hX)
  obtain ⟨v4, ev4⟩ : ∃ z, z = h 42 0 := ⟨_, rfl⟩
  have bv4 : 0 ≤ v4 ∧ v4 ≤ 10 := by rw [ev4]; exact (m_42_0 hX)
  obtain ⟨v5, ev5⟩ : ∃ z, z = h 46 0 := ⟨_, rfl⟩
  have bv5 : 0 ≤ v5 ∧ v5 ≤ 8 := by rw [ev5]; exact (m_46_0 hX)
  obtain ⟨v6, ev6⟩ : ∃ z, z = h 52 0 := ⟨_, rfl⟩
  have bv6 : 0 ≤ v6 ∧ v6 ≤ 8 := by rw [ev6]; exact (m_52_0 hX)
  obtain ⟨v7, ev7⟩ : ∃ z, z = h 0 12 := ⟨_, rfl⟩
  have bv7 : 0 ≤ v7 ∧ v7 ≤ 1 := by rw [ev7]; exact (m_0_12 hX)
  obtain ⟨v8, ev8⟩ : ∃ z, z = h 98 2 := ⟨_, rfl⟩
  have bv8 : 0 ≤ v8 ∧ v8 ≤ 10 := by rw [ev8]; exact (m_98_2 hMm)
  obtain ⟨v9, ev9⟩ : ∃ z, z = h 98 3 := ⟨_, rfl⟩
  have bv9 : 0 ≤ v9 ∧ v9 ≤ 8 := by rw [ev9]; exact (m_98_3 hMm)
  obtain ⟨v10, ev10⟩ : ∃ z, z = h 98 4 := ⟨_, rfl⟩
  have bv10 : 0 ≤ v10 ∧ v10 ≤ 8 := by rw [ev10]; exact (m_98_4 hMm)
  obtain ⟨v11, ev11⟩ : ∃ z, z = h 98 5 := ⟨_, rfl⟩
  have bv11 : 0 ≤ v11 ∧ v11 ≤ 2000000000 := by rw [ev11]; exact (m_98_5 hMm)
  obtain ⟨v12, ev12⟩ : ∃ z, z = h 145 6 := ⟨_, rfl⟩
  have bv12 : 0 ≤ v12 ∧ v12 ≤ 10 := by rw [ev12]; exact (m_145_6 hMm)
  obtain ⟨v13, ev13⟩ : ∃ z, z = h 145 7 := ⟨_, rfl⟩
  have bv13 : 0 ≤ v13 ∧ v13 ≤ 8 := by rw [ev13]; exact (m_145_7 hMm)
  obtain ⟨v14, ev14⟩ : ∃ z, z = h 145 8 := ⟨_, rfl⟩
  have bv14 : 0 ≤ v14 ∧ v14 ≤ 8 := by rw [ev14]; exact (m_145_8 hMm)
  obtain ⟨v15, ev15⟩ : ∃ z, z = h 145 9 := ⟨_, rfl⟩
  have bv15 : 0 ≤ v15 ∧ v15 ≤ 2000000000 := by rw [ev15]; exact (m_145_9 hMm)
  obtain ⟨v16, ev16⟩ : ∃ z, z = h 98 79 := ⟨_, rfl⟩
  have bv16 : 0 ≤ v16 ∧ v16 ≤ 1 := by rw [ev16]; exact (m_98_79 hMm)
  refine g_aload_n dL_law_234 rfl ?_
  refine g_aloadX_n dL_law_235 rfl ?_
  refine g_iload_n dL_law_236 rfl (fun _ => ?_)
  refine g_iconst dL_law_237 (inR_c rfl) ?_
  refine g_iaddB dL_law_238 (by omega) (by omega) ?_
  refine g_sldB dL_law_239 (by omega) (by omega) (fun v17 ev17 bv17 cv17 => ?_)
  refine g_aloadX_n dL_law_240 rfl ?_
  refine g_iload_n dL_law_241 rfl (fun _ => ?_)
  refine g_iconst dL_law_242 (inR_c rfl) ?_
  refine g_iaddB dL_law_243 (by omega) (by omega) ?_
  refine g_sldB dL_law_244 (by omega) (by omega) (fun v18 ev18 bv18 cv18 => ?_)
  refine g_if_eq 252 dL_law_245 (by decide) (fun q19 => ?_) (fun q19 => ?_)
  · skip
    refine g_iconst dL_law_252 (inR_c rfl) ?_
    have q20 : h 2 0 = v1 := ev1.symm
    have q21 : h 6 0 = v2 := ev2.symm
    have q22 : h 12 0 = v3 := ev3.symm
    have q23 : h 42 0 = v4 := ev4.symm
    have q24 : h 46 0 = v5 := ev5.symm
    have q25 : h 52 0 = v6 := ev6.symm
    have q26 : h 0 12 = v7 := ev7.symm
    have q27 : h 98 2 = v8 := ev8.symm
    have q28 : h 98 3 = v9 := ev9.symm
    have q29 : h 98 4 = v10 := ev10.symm
    have q30 : h 98 5 = v11 := ev11.symm
    have q31 : h 145 6 = v12 := ev12.symm
    have q32 : h 145 7 = v13 := ev13.symm
    have q33 : h 145 8 = v14 := ev14.symm
    have q34 : h 145 9 = v15 := ev15.symm
    have q35 : h 98 79 = v16 := ev16.symm
    refine g_cV (as := [_, _]) (c_X11_master_0 _ _ h hX (by omega) (by omega) (by omega) (by omega)) dL_law_253 mi_X11_master in_X11_master se_X11_master ml_L_23 rfl rfl rfl sh_0 rfl rfl (Nat.le_of_ble_eq_true rfl) (fun v36 h37 q38 => ?_)
    obtain ⟨hMh37, hFh37, bv36, cv36, zv36⟩ := q38
    refine g_pop dL_law_256 rfl ?_
    refine g_aload_n dL_law_257 rfl ?_
    refine g_aloadX_n dL_law_258 rfl ?_
    refine g_iload_n dL_law_259 rfl (fun _ => ?_)
    refine g_iconst dL_law_260 (inR_c rfl) ?_
    refine g_iaddB dL_law_261 (by omega) (by omega) ?_
    refine g_sldE dL_law_262 (by omega) (by omega) ev17 ?_
    refine g_aloadX_n dL_law_263 rfl ?_
    refine g_iload_n dL_law_264 rfl (fun _ => ?_)
    refine g_iconst dL_law_265 (inR_c rfl) ?_
    refine g_iaddB dL_law_266 (by omega) (by omega) ?_
    refine g_sldE dL_law_267 (by omega) (by omega) ev18 ?_
    refine g_if_eq 275 dL_law_268 (by decide) (fun q39 => ?_) (fun _ => by exfalso; omega)
    refine g_iconst dL_law_275 (inR_c rfl) ?_
    have q40 : h37 2 0 = v1 := ((hFh37 2 0 rfl).trans ev1.symm)
    have q41 : h37 6 0 = v2 := ((hFh37 6 0 rfl).trans ev2.symm)
    obtain ⟨v42, ev42⟩ : ∃ z, z = h37 12 0 := ⟨_, rfl⟩
    have bv42 : 0 ≤ v42 ∧ v42 ≤ 8 := by rw [ev42]; exact (m_12_0 hMh37)
    have q43 : h37 42 0 = v4 := ((hFh37 42 0 rfl).trans ev4.symm)
    have q44 : h37 46 0 = v5 := ((hFh37 46 0 rfl).trans ev5.symm)
    have q45 : h37 52 0 = v6 := ((hFh37 52 0 rfl).trans ev6.symm)
    have q46 : h37 0 12 = v7 := ((hFh37 0 12 rfl).trans ev7.symm)
    have q47 : h37 98 2 = v8 := ((hFh37 98 2 rfl).trans ev8.symm)
    have q48 : h37 98 3 = v9 := ((hFh37 98 3 rfl).trans ev9.symm)
    have q49 : h37 98 4 = v10 := ((hFh37 98 4 rfl).trans ev10.symm)
    have q50 : h37 98 5 = v11 := ((hFh37 98 5 rfl).trans ev11.symm)
    have q51 : h37 145 6 = v12 := ((hFh37 145 _ rfl).trans ev12.symm)
    have q52 : h37 145 7 = v13 := ((hFh37 145 _ rfl).trans ev13.symm)
    have q53 : h37 145 8 = v14 := ((hFh37 145 _ rfl).trans ev14.symm)
    have q54 : h37 145 9 = v15 := ((hFh37 145 _ rfl).trans ev15.symm)
    have q55 : h37 98 79 = v16 := ((hFh37 98 79 rfl).trans ev16.symm)
    refine g_cV (as := [_, _]) (c_X12_master_98 _ _ h37 (MBm.fr (T := [(12, 1), (13, 0), (14, 0), (15, 0)]) hMm (Fr.sub hFh37 rfl) rfl) (by omega) (by omega) (by omega) (by omega)) dL_law_276 mi_X12_master in_X12_master se_X12_master ml_L_27 rfl rfl rfl sh_98 rfl rfl (Nat.le_of_ble_eq_true rfl) (fun v56 h57 q58 => ?_)
    obtain ⟨hMh57, hFh57, bv56, cv56, zv56⟩ := q58
    refine g_pop dL_law_279 rfl ?_
    refine g_goto 1216 dL_law_280 (by decide) ?_
    have q59 : h57 2 0 = v1 := ((hFh57 2 0 rfl).trans ((hFh37 2 0 rfl).trans ev1.symm))
    have q60 : h57 6 0 = v2 := ((hFh57 6 0 rfl).trans ((hFh37 6 0 rfl).trans ev2.symm))
    have q61 : h57 12 0 = v42 := ((hFh57 12 0 rfl).trans ev42.symm)
    have q62 : h57 42 0 = v4 := ((hFh57 42 0 rfl).trans ((hFh37 42 0 rfl).trans ev4.symm))
    have q63 : h57 46 0 = v5 := ((hFh57 46 0 rfl).trans ((hFh37 46 0 rfl).trans ev5.symm))
    have q64 : h57 52 0 = v6 := ((hFh57 52 0 rfl).trans ((hFh37 52 0 rfl).trans ev6.symm))
    have q65 : h57 0 12 = v7 := ((hFh57 0 12 rfl).trans ((hFh37 0 12 rfl).trans ev7.symm))
    have q66 : h57 98 2 = v8 := ((hFh57 98 2 rfl).trans ((hFh37 98 2 rfl).trans ev8.symm))
    have q67 : h57 98 3 = v9 := ((hFh57 98 3 rfl).trans ((hFh37 98 3 rfl).trans ev9.symm))
    obtain ⟨v68, ev68⟩ : ∃ z, z = h57 98 4 := ⟨_, rfl⟩
    have bv68 : 0 ≤ v68 ∧ v68 ≤ 8 := by rw [ev68]; exact (m_98_4 hMh57)
    have q69 : h57 98 5 = v11 := ((hFh57 98 5 rfl).trans ((hFh37 98 5 rfl).trans ev11.symm))
    have q70 : h57 145 6 = v12 := ((hFh57 145 _ rfl).trans ((hFh37 145 _ rfl).trans ev12.symm))
    have q71 : h57 145 7 = v13 := ((hFh57 145 _ rfl).trans ((hFh37 145 _ rfl).trans ev13.symm))
    have q72 : h57 145 8 = v14 := ((hFh57 145 _ rfl).trans ((hFh37 145 _ rfl).trans ev14.symm))
    have q73 : h57 145 9 = v15 := ((hFh57 145 _ rfl).trans ((hFh37 145 _ rfl).trans ev15.symm))
    have q74 : h57 98 79 = v16 := ((hFh57 98 79 rfl).trans ((hFh37 98 79 rfl).trans ev16.symm))
    exact kk _ ⟨⟨(MBx.fr (T := [(98, 5), (108, 0), (109, 0), (110, 0), (111, 0), (112, 0), (113, 0)]) hMh37 (Fr.sub hFh57 rfl) rfl), hMh57, (LD.fr (T := [(12, 1), (13, 0), (14, 0), (15, 0), (98, 5), (108, 0), (109, 0), (110, 0), (111, 0), (112, 0), (113, 0)]) hLD (Fr.tr (Fr.sub hFh37 rfl) hFh57 rfl) rfl), (WFL.fr (T := [(12, 1), (13, 0), (14, 0), (15, 0), (98, 5), (108, 0), (109, 0), (110, 0), (111, 0), (112, 0), (113, 0)]) hWF (Fr.tr (Fr.sub hFh37 rfl) hFh57 rfl) rfl)⟩, by omega, gi, gs, (ASn.fr (T := [(12, 1), (13, 0), (14, 0), (15, 0), (98, 5), (108, 0), (109, 0), (110, 0), (111, 0), (112, 0), (113, 0)]) hXW (Fr.tr (Fr.sub hFh37 rfl) hFh57 rfl) rfl), (ISn.fr (T := [(12, 1), (13, 0), (14, 0), (15, 0), (98, 5), (108, 0), (109, 0), (110, 0), (111, 0), (112, 0), (113, 0)]) hIS (Fr.tr (Fr.sub hFh37 rfl) hFh57 rfl) rfl), (ASn.fr (T := [(12, 1), (13, 0), (14, 0), (15, 0), (98, 5), (108, 0), (109, 0), (110, 0), (111, 0), (112, 0), (113, 0)]) hXK (Fr.tr (Fr.sub hFh37 rfl) hFh57 rfl) rfl), (S1n.fr (T := [(12, 1), (13, 0), (14, 0), (15, 0), (98, 5), (108, 0), (109, 0), (110, 0), (111, 0), (112, 0), (113, 0)]) hS1 (Fr.tr (Fr.sub hFh37 rfl) hFh57 rfl) rfl)⟩
  · skip
    refine g_iconst dL_law_248 (inR_c rfl) ?_
    refine g_goto 253 dL_law_249 (by decide) ?_
    have q75 : h 2 0 = v1 := ev1.symm
    have q76 : h 6 0 = v2 := ev2.symm
    have q77 : h 12 0 = v3 := ev3.symm
    have q78 : h 42 0 = v4 := ev4.symm
    have q79 : h 46 0 = v5 := ev5.symm
    have q80 : h 52 0 = v6 := ev6.symm
    have q81 : h 0 12 = v7 := ev7.symm
    have q82 : h 98 2 = v8 := ev8.symm
    have q83 : h 98 3 = v9 := ev9.symm
    have q84 : h 98 4 = v10 := ev10.symm
    have q85 : h 98 5 = v11 := ev11.symm
    have q86 : h 145 6 = v12 := ev12.symm
    have q87 : h 145 7 = v13 := ev13.symm
    have q88 : h 145 8 = v14 := ev14.symm
    have q89 : h 145 9 = v15 := ev15.symm
    have q90 : h 98 79 = v16 := ev16.symm
    refine g_cV (as := [_, _]) (c_X11_master_0 _ _ h hX (by omega) (by omega) (by omega) (by omega)) dL_law_253 mi_X11_master in_X11_master se_X11_master ml_L_23 rfl rfl rfl sh_0 rfl rfl (Nat.le_of_ble_eq_true rfl) (fun v91 h92 q93 => ?_)
    obtain ⟨hMh92, hFh92, bv91, cv91, zv91⟩ := q93
    refine g_pop dL_law_256 rfl ?_
    refine g_aload_n dL_law_257 rfl ?_
    refine g_aloadX_n dL_law_258 rfl ?_
    refine g_iload_n dL_law_259 rfl (fun _ => ?_)
    refine g_iconst dL_law_260 (inR_c rfl) ?_
    refine g_iaddB dL_law_261 (by omega) (by omega) ?_
    refine g_sldE dL_law_262 (by omega) (by omega) ev17 ?_
    refine g_aloadX_n dL_law_263 rfl ?_
    refine g_iload_n dL_law_264 rfl (fun _ => ?_)
    refine g_iconst dL_law_265 (inR_c rfl) ?_
    refine g_iaddB dL_law_266 (by omega) (by omega) ?_
    refine g_sldE dL_law_267 (by omega) (by omega) ev18 ?_
    refine g_if_eq 275 dL_law_268 (by decide) (fun _ => by exfalso; omega) (fun q94 => ?_)
    refine g_iconst dL_law_271 (inR_c rfl) ?_
    refine g_goto 276 dL_law_272 (by decide) ?_
    have q95 : h92 2 0 = v1 := ((hFh92 2 0 rfl).trans ev1.symm)
    have q96 : h92 6 0 = v2 := ((hFh92 6 0 rfl).trans ev2.symm)
    obtain ⟨v97, ev97⟩ : ∃ z, z = h92 12 0 := ⟨_, rfl⟩
    have bv97 : 0 ≤ v97 ∧ v97 ≤ 8 := by rw [ev97]; exact (m_12_0 hMh92)
    have q98 : h92 42 0 = v4 := ((hFh92 42 0 rfl).trans ev4.symm)
    have q99 : h92 46 0 = v5 := ((hFh92 46 0 rfl).trans ev5.symm)
    have q100 : h92 52 0 = v6 := ((hFh92 52 0 rfl).trans ev6.symm)
    have q101 : h92 0 12 = v7 := ((hFh92 0 12 rfl).trans ev7.symm)
    have q102 : h92 98 2 = v8 := ((hFh92 98 2 rfl).trans ev8.symm)
    have q103 : h92 98 3 = v9 := ((hFh92 98 3 rfl).trans ev9.symm)
    have q104 : h92 98 4 = v10 := ((hFh92 98 4 rfl).trans ev10.symm)
    have q105 : h92 98 5 = v11 := ((hFh92 98 5 rfl).trans ev11.symm)
    have q106 : h92 145 6 = v12 := ((hFh92 145 _ rfl).trans ev12.symm)
    have q107 : h92 145 7 = v13 := ((hFh92 145 _ rfl).trans ev13.symm)
    have q108 : h92 145 8 = v14 := ((hFh92 145 _ rfl).trans ev14.symm)
    have q109 : h92 145 9 = v15 := ((hFh92 145 _ rfl).trans ev15.symm)
    have q110 : h92 98 79 = v16 := ((hFh92 98 79 rfl).trans ev16.symm)
    refine g_cV (as := [_, _]) (c_X12_master_98 _ _ h92 (MBm.fr (T := [(12, 1), (13, 0), (14, 0), (15, 0)]) hMm (Fr.sub hFh92 rfl) rfl) (by omega) (by omega) (by omega) (by omega)) dL_law_276 mi_X12_master in_X12_master se_X12_master ml_L_27 rfl rfl rfl sh_98 rfl rfl (Nat.le_of_ble_eq_true rfl) (fun v111 h112 q113 => ?_)
    obtain ⟨hMh112, hFh112, bv111, cv111, zv111⟩ := q113
    refine g_pop dL_law_279 rfl ?_
    refine g_goto 1216 dL_law_280 (by decide) ?_
    have q114 : h112 2 0 = v1 := ((hFh112 2 0 rfl).trans ((hFh92 2 0 rfl).trans ev1.symm))
    have q115 : h112 6 0 = v2 := ((hFh112 6 0 rfl).trans ((hFh92 6 0 rfl).trans ev2.symm))
    have q116 : h112 12 0 = v97 := ((hFh112 12 0 rfl).trans ev97.symm)
    have q117 : h112 42 0 = v4 := ((hFh112 42 0 rfl).trans ((hFh92 42 0 rfl).trans ev4.symm))
    have q118 : h112 46 0 = v5 := ((hFh112 46 0 rfl).trans ((hFh92 46 0 rfl).trans ev5.symm))
    have q119 : h112 52 0 = v6 := ((hFh112 52 0 rfl).trans ((hFh92 52 0 rfl).trans ev6.symm))
    have q120 : h112 0 12 = v7 := ((hFh112 0 12 rfl).trans ((hFh92 0 12 rfl).trans ev7.symm))
    have q121 : h112 98 2 = v8 := ((hFh112 98 2 rfl).trans ((hFh92 98 2 rfl).trans ev8.symm))
    have q122 : h112 98 3 = v9 := ((hFh112 98 3 rfl).trans ((hFh92 98 3 rfl).trans ev9.symm))
    obtain ⟨v123, ev123⟩ : ∃ z, z = h112 98 4 := ⟨_, rfl⟩
    have bv123 : 0 ≤ v123 ∧ v123 ≤ 8 := by rw [ev123]; exact (m_98_4 hMh112)
    have q124 : h112 98 5 = v11 := ((hFh112 98 5 rfl).trans ((hFh92 98 5 rfl).trans ev11.symm))
    have q125 : h112 145 6 = v12 := ((hFh112 145 _ rfl).trans ((hFh92 145 _ rfl).trans ev12.symm))
    have q126 : h112 145 7 = v13 := ((hFh112 145 _ rfl).trans ((hFh92 145 _ rfl).trans ev13.symm))
    have q127 : h112 145 8 = v14 := ((hFh112 145 _ rfl).trans ((hFh92 145 _ rfl).trans ev14.symm))
    have q128 : h112 145 9 = v15 := ((hFh112 145 _ rfl).trans ((hFh92 145 _ rfl).trans ev15.symm))
    have q129 : h112 98 79 = v16 := ((hFh112 98 79 rfl).trans ((hFh92 98 79 rfl).trans ev16.symm))
    exact kk _ ⟨⟨(MBx.fr (T := [(98, 5), (108, 0), (109, 0), (110, 0), (111, 0), (112, 0), (113, 0)]) hMh92 (Fr.sub hFh112 rfl) rfl), hMh112, (LD.fr (T := [(12, 1), (13, 0), (14, 0), (15, 0), (98, 5), (108, 0), (109, 0), (110, 0), (111, 0), (112, 0), (113, 0)]) hLD (Fr.tr (Fr.sub hFh92 rfl) hFh112 rfl) rfl), (WFL.fr (T := [(12, 1), (13, 0), (14, 0), (15, 0), (98, 5), (108, 0), (109, 0), (110, 0), (111, 0), (112, 0), (113, 0)]) hWF (Fr.tr (Fr.sub hFh92 rfl) hFh112 rfl) rfl)⟩, by omega, gi, gs, (ASn.fr (T := [(12, 1), (13, 0), (14, 0), (15, 0), (98, 5), (108, 0), (109, 0), (110, 0), (111, 0), (112, 0), (113, 0)]) hXW (Fr.tr (Fr.sub hFh92 rfl) hFh112 rfl) rfl), (ISn.fr (T := [(12, 1), (13, 0), (14, 0), (15, 0), (98, 5), (108, 0), (109, 0), (110, 0), (111, 0), (112, 0), (113, 0)]) hIS (Fr.tr (Fr.sub hFh92 rfl) hFh112 rfl) rfl), (ASn.fr (T := [(12, 1), (13, 0), (14, 0), (15, 0), (98, 5), (108, 0), (109, 0), (110, 0), (111, 0), (112, 0), (113, 0)]) hXK (Fr.tr (Fr.sub hFh92 rfl) hFh112 rfl) rfl), (S1n.fr (T := [(12, 1), (13, 0), (14, 0), (15, 0), (98, 5), (108, 0), (109, 0), (110, 0), (111, 0), (112, 0), (113, 0)]) hS1 (Fr.tr (Fr.sub hFh92 rfl) hFh112 rfl) rfl)⟩
set_option maxRecDepth 100000 in
set_option maxHeartbeats 8000000 in
theorem law_case_3 (xs : List Int) (Po : Option PV → List SE → MEM → Prop) (i : Int) (h : MEM) (I : INV i h) (hi : i + 6 ≤ xs.length) (hN : xs.length ≤ 3072) (kk : ∀ h' : MEM, INV (i + 6) h' → G x cL_law 4 (some .boolean) (some xs) Po (2048, 84000, 600000, 7302250) 1216 [some pX, some (pR 0), some (pR 98), some (pI i)] [] SH h' 151 10868) : G x cL_law 4 (some .boolean) (some xs) Po (2048, 84000, 600000, 7302250) 283 [some pX, some (pR 0), some (pR 98), some (pI i)] [] SH h 151 10868 := by
  obtain ⟨⟨hX, hMm, hLD, hWF⟩, hI, gi, gs, hXW, hIS, hXK, hS1⟩ := I
  obtain ⟨v1, ev1⟩ : ∃ z, z = h 2 0 := ⟨_, rfl⟩
  have bv1 : 0 ≤ v1 ∧ v1 ≤ 10 := by rw [ev1]; exact (m_2_0 hX)
  obtain ⟨v2, ev2⟩ : ∃ z, z = h 6 0 := ⟨_, rfl⟩
  have bv2 : 0 ≤ v2 ∧ v2 ≤ 8 := by rw [ev2]; exact (m_6_0 hX)
  obtain ⟨v3, ev3⟩ : ∃ z, z = h 12 0 := ⟨_, rfl⟩
  have bv3 : 0 ≤ v3 ∧ v3 ≤ 8 := by rw [ev3]; exact (m_12_0 hX)
  obtain ⟨v4, ev4⟩ : ∃ z, z = h 42 0 := ⟨_, rfl⟩
  have bv4 : 0 ≤ v4 ∧ v4 ≤ 10 := by rw [ev4]; exact (m_42_0 hX)
  obtain ⟨v5, ev5⟩ : ∃ z, z = h 46 0 := ⟨_, rfl⟩
  have bv5 : 0 ≤ v5 ∧ v5 ≤ 8 := by rw [ev5]; exact (m_46_0 hX)
  obtain ⟨v6, ev6⟩ : ∃ z, z = h 52 0 := ⟨_, rfl⟩
  have bv6 : 0 ≤ v6 ∧ v6 ≤ 8 := by rw [ev6]; exact (m_52_0 hX)
  obtain ⟨v7, ev7⟩ : ∃ z, z = h 0 12 := ⟨_, rfl⟩
  have bv7 : 0 ≤ v7 ∧ v7 ≤ 1 := by rw [ev7]; exact (m_0_12 hX)
  obtain ⟨v8, ev8⟩ : ∃ z, z = h 98 2 := ⟨_, rfl⟩
  have bv8 : 0 ≤ v8 ∧ v8 ≤ 10 := by rw [ev8]; exact (m_98_2 hMm)
  obtain ⟨v9, ev9⟩ : ∃ z, z = h 98 3 := ⟨_, rfl⟩
  have bv9 : 0 ≤ v9 ∧ v9 ≤ 8 := by rw [ev9]; exact (m_98_3 hMm)
  obtain ⟨v10, ev10⟩ : ∃ z, z = h 98 4 := ⟨_, rfl⟩
  have bv10 : 0 ≤ v10 ∧ v10 ≤ 8 := by rw [ev10]; exact (m_98_4 hMm)
  obtain ⟨v11, ev11⟩ : ∃ z, z = h 98 5 := ⟨_, rfl⟩
  have bv11 : 0 ≤ v11 ∧ v11 ≤ 2000000000 := by rw [ev11]; exact (m_98_5 hMm)
  obtain ⟨v12, ev12⟩ : ∃ z, z = h 145 6 := ⟨_, rfl⟩
  have bv12 : 0 ≤ v12 ∧ v12 ≤ 10 := by rw [ev12]; exact (m_145_6 hMm)
  obtain ⟨v13, ev13⟩ : ∃ z, z = h 145 7 := ⟨_, rfl⟩
  have bv13 : 0 ≤ v13 ∧ v13 ≤ 8 := by rw [ev13]; exact (m_145_7 hMm)
  obtain ⟨v14, ev14⟩ : ∃ z, z = h 145 8 := ⟨_, rfl⟩
  have bv14 : 0 ≤ v14 ∧ v14 ≤ 8 := by rw [ev14]; exact (m_145_8 hMm)
  obtain ⟨v15, ev15⟩ : ∃ z, z = h 145 9 := ⟨_, rfl⟩
  have bv15 : 0 ≤ v15 ∧ v15 ≤ 2000000000 := by rw [ev15]; exact (m_145_9 hMm)
  obtain ⟨v16, ev16⟩ : ∃ z, z = h 98 79 := ⟨_, rfl⟩
  have bv16 : 0 ≤ v16 ∧ v16 ≤ 1 := by rw [ev16]; exact (m_98_79 hMm)
  refine g_aload_n dL_law_283 rfl ?_
  refine g_aloadX_n dL_law_284 rfl ?_
  refine g_iload_n dL_law_285 rfl (fun _ => ?_)
  refine g_iconst dL_law_286 (inR_c rfl) ?_
  refine g_iaddB dL_law_287 (by omega) (by omega) ?_
  refine g_sldB dL_law_288 (by omega) (by omega) (fun v17 ev17 bv17 cv17 => ?_)
  refine g_aloadX_n dL_law_289 rfl ?_
  refine g_iload_n dL_law_290 rfl (fun _ => ?_)
  refine g_iconst dL_law_291 (inR_c rfl) ?_
  refine g_iaddB dL_law_292 (by omega) (by omega) ?_
  refine g_sldB dL_law_293 (by omega) (by omega) (fun v18 ev18 bv18 cv18 => ?_)
  have q19 : h 2 0 = v1 := ev1.symm
  have q20 : h 6 0 = v2 := ev2.symm
  have q21 : h 12 0 = v3 := ev3.symm
  have q22 : h 42 0 = v4 := ev4.symm
  have q23 : h 46 0 = v5 := ev5.symm
  have q24 : h 52 0 = v6 := ev6.symm
  have q25 : h 0 12 = v7 := ev7.symm
  have q26 : h 98 2 = v8 := ev8.symm
  have q27 : h 98 3 = v9 := ev9.symm
  have q28 : h 98 4 = v10 := ev10.symm
  have q29 : h 98 5 = v11 := ev11.symm
  have q30 : h 145 6 = v12 := ev12.symm
  have q31 : h 145 7 = v13 := ev13.symm
  have q32 : h 145 8 = v14 := ev14.symm
  have q33 : h 145 9 = v15 := ev15.symm
  have q34 : h 98 79 = v16 := ev16.symm
  refine g_cV (as := [_, _]) (c_X11_on_0 _ _ h hX (by omega) (by omega) (by omega) (by omega)) dL_law_294 mi_X11_on in_X11_on se_X11_on ml_L_28 rfl rfl rfl sh_0 rfl rfl (Nat.le_of_ble_eq_true rfl) (fun v35 h36 q37 => ?_)
  obtain ⟨hMh36, hFh36, bv35, cv35, zv35⟩ := q37
  refine g_pop dL_law_297 rfl ?_
  refine g_aload_n dL_law_298 rfl ?_
  refine g_aloadX_n dL_law_299 rfl ?_
  refine g_iload_n dL_law_300 rfl (fun _ => ?_)
  refine g_iconst dL_law_301 (inR_c rfl) ?_
  refine g_iaddB dL_law_302 (by omega) (by omega) ?_
  refine g_sldE dL_law_303 (by omega) (by omega) ev17 ?_
  refine g_aloadX_n dL_law_304 rfl ?_
  refine g_iload_n dL_law_305 rfl (fun _ => ?_)
  refine g_iconst dL_law_306 (inR_c rfl) ?_
  refine g_iaddB dL_law_307 (by omega) (by omega) ?_
  refine g_sldE dL_law_308 (by omega) (by omega) ev18 ?_
  have q38 : h36 2 0 = v1 := ((hFh36 2 0 rfl).trans ev1.symm)
  have q39 : h36 6 0 = v2 := ((hFh36 6 0 rfl).trans ev2.symm)
  have q40 : h36 12 0 = v3 := ((hFh36 12 0 rfl).trans ev3.symm)
  have q41 : h36 42 0 = v4 := ((hFh36 42 0 rfl).trans ev4.symm)
  have q42 : h36 46 0 = v5 := ((hFh36 46 0 rfl).trans ev5.symm)
  have q43 : h36 52 0 = v6 := ((hFh36 52 0 rfl).trans ev6.symm)
  have q44 : h36 0 12 = v7 := ((hFh36 0 12 rfl).trans ev7.symm)
  have q45 : h36 98 2 = v8 := ((hFh36 98 2 rfl).trans ev8.symm)
  have q46 : h36 98 3 = v9 := ((hFh36 98 3 rfl).trans ev9.symm)
  have q47 : h36 98 4 = v10 := ((hFh36 98 4 rfl).trans ev10.symm)
  have q48 : h36 98 5 = v11 := ((hFh36 98 5 rfl).trans ev11.symm)
  have q49 : h36 145 6 = v12 := ((hFh36 145 _ rfl).trans ev12.symm)
  have q50 : h36 145 7 = v13 := ((hFh36 145 _ rfl).trans ev13.symm)
  have q51 : h36 145 8 = v14 := ((hFh36 145 _ rfl).trans ev14.symm)
  have q52 : h36 145 9 = v15 := ((hFh36 145 _ rfl).trans ev15.symm)
  have q53 : h36 98 79 = v16 := ((hFh36 98 79 rfl).trans ev16.symm)
  refine g_cV (as := [_, _]) (c_X12_on_98 _ _ h36 (MBm.fr (T := [(7, 0)]) hMm (Fr.sub hFh36 rfl) rfl) (by omega) (by omega) (by omega) (by omega)) dL_law_309 mi_X12_on in_X12_on se_X12_on ml_L_32 rfl rfl rfl sh_98 rfl rfl (Nat.le_of_ble_eq_true rfl) (fun v54 h55 q56 => ?_)
  obtain ⟨hMh55, hFh55, bv54, cv54, zv54⟩ := q56
  refine g_pop dL_law_312 rfl ?_
  refine g_goto 1216 dL_law_313 (by decide) ?_
  have q57 : h55 2 0 = v1 := ((hFh55 2 0 rfl).trans ((hFh36 2 0 rfl).trans ev1.symm))
  have q58 : h55 6 0 = v2 := ((hFh55 6 0 rfl).trans ((hFh36 6 0 rfl).trans ev2.symm))
  have q59 : h55 12 0 = v3 := ((hFh55 12 0 rfl).trans ((hFh36 12 0 rfl).trans ev3.symm))
  have q60 : h55 42 0 = v4 := ((hFh55 42 0 rfl).trans ((hFh36 42 0 rfl).trans ev4.symm))
  have q61 : h55 46 0 = v5 := ((hFh55 46 0 rfl).trans ((hFh36 46 0 rfl).trans ev5.symm))
  have q62 : h55 52 0 = v6 := ((hFh55 52 0 rfl).trans ((hFh36 52 0 rfl).trans ev6.symm))
  have q63 : h55 0 12 = v7 := ((hFh55 0 12 rfl).trans ((hFh36 0 12 rfl).trans ev7.symm))
  have q64 : h55 98 2 = v8 := ((hFh55 98 2 rfl).trans ((hFh36 98 2 rfl).trans ev8.symm))
  have q65 : h55 98 3 = v9 := ((hFh55 98 3 rfl).trans ((hFh36 98 3 rfl).trans ev9.symm))
  have q66 : h55 98 4 = v10 := ((hFh55 98 4 rfl).trans ((hFh36 98 4 rfl).trans ev10.symm))
  have q67 : h55 98 5 = v11 := ((hFh55 98 5 rfl).trans ((hFh36 98 5 rfl).trans ev11.symm))
  have q68 : h55 145 6 = v12 := ((hFh55 145 _ rfl).trans ((hFh36 145 _ rfl).trans ev12.symm))
  have q69 : h55 145 7 = v13 := ((hFh55 145 _ rfl).trans ((hFh36 145 _ rfl).trans ev13.symm))
  have q70 : h55 145 8 = v14 := ((hFh55 145 _ rfl).trans ((hFh36 145 _ rfl).trans ev14.symm))
  have q71 : h55 145 9 = v15 := ((hFh55 145 _ rfl).trans ((hFh36 145 _ rfl).trans ev15.symm))
  have q72 : h55 98 79 = v16 := ((hFh55 98 79 rfl).trans ((hFh36 98 79 rfl).trans ev16.symm))
  exact kk _ ⟨⟨(MBx.fr (T := [(103, 0)]) hMh36 (Fr.sub hFh55 rfl) rfl), hMh55, (LD.fr (T := [(7, 0), (103, 0)]) hLD (Fr.tr (Fr.sub hFh36 rfl) hFh55 rfl) rfl), (WFL.fr (T := [(7, 0), (103, 0)]) hWF (Fr.tr (Fr.sub hFh36 rfl) hFh55 rfl) rfl)⟩, by omega, gi, gs, (ASn.fr (T := [(7, 0), (103, 0)]) hXW (Fr.tr (Fr.sub hFh36 rfl) hFh55 rfl) rfl), (ISn.fr (T := [(7, 0), (103, 0)]) hIS (Fr.tr (Fr.sub hFh36 rfl) hFh55 rfl) rfl), (ASn.fr (T := [(7, 0), (103, 0)]) hXK (Fr.tr (Fr.sub hFh36 rfl) hFh55 rfl) rfl), (S1n.fr (T := [(7, 0), (103, 0)]) hS1 (Fr.tr (Fr.sub hFh36 rfl) hFh55 rfl) rfl)⟩
set_option maxRecDepth 100000 in
set_option maxHeartbeats 8000000 in
theorem law_case_4 (xs : List Int) (Po : Option PV → List SE → MEM → Prop) (i : Int) (h : MEM) (I : INV i h) (hi : i + 6 ≤ xs.length) (hN : xs.length ≤ 3072) (kk : ∀ h' : MEM, INV (i + 6) h' → G x cL_law 4 (some .boolean) (some xs) Po (2048, 84000, 600000, 7302250) 1216 [some pX, some (pR 0), some (pR 98), some (pI i)] [] SH h' 151 10868) : G x cL_law 4 (some .boolean) (some xs) Po (2048, 84000, 600000, 7302250) 316 [some pX, some (pR 0), some (pR 98), some (pI i)] [] SH h 151 10868 := by
  obtain ⟨⟨hX, hMm, hLD, hWF⟩, hI, gi, gs, hXW, hIS, hXK, hS1⟩ := I
  obtain ⟨v1, ev1⟩ : ∃ z, z = h 2 0 := ⟨_, rfl⟩
  have bv1 : 0 ≤ v1 ∧ v1 ≤ 10 := by rw [ev1]; exact (m_2_0 hX)
  obtain ⟨v2, ev2⟩ : ∃ z, z = h 6 0 := ⟨_, rfl⟩
  have bv2 : 0 ≤ v2 ∧ v2 ≤ 8 := by rw [ev2]; exact (m_6_0 hX)
  obtain ⟨v3, ev3⟩ : ∃ z, z = h 12 0 := ⟨_, rfl⟩
  have bv3 : 0 ≤ v3 ∧ v3 ≤ 8 := by rw [ev3]; exact (m_12_0 hX)
  obtain ⟨v4, ev4⟩ : ∃ z, z = h 42 0 := ⟨_, rfl⟩
  have bv4 : 0 ≤ v4 ∧ v4 ≤ 10 := by rw [ev4]; exact (m_42_0 hX)
  obtain ⟨v5, ev5⟩ : ∃ z, z = h 46 0 := ⟨_, rfl⟩
  have bv5 : 0 ≤ v5 ∧ v5 ≤ 8 := by rw [ev5]; exact (m_46_0 hX)
  obtain ⟨v6, ev6⟩ : ∃ z, z = h 52 0 := ⟨_, rfl⟩
  have bv6 : 0 ≤ v6 ∧ v6 ≤ 8 := by rw [ev6]; exact (m_52_0 hX)
  obtain ⟨v7, ev7⟩ : ∃ z, z = h 0 12 := ⟨_, rfl⟩
  have bv7 : 0 ≤ v7 ∧ v7 ≤ 1 := by rw [ev7]; exact (m_0_12 hX)
  obtain ⟨v8, ev8⟩ : ∃ z, z = h 98 2 := ⟨_, rfl⟩
  have bv8 : 0 ≤ v8 ∧ v8 ≤ 10 := by rw [ev8]; exact (m_98_2 hMm)
  obtain ⟨v9, ev9⟩ : ∃ z, z = h 98 3 := ⟨_, rfl⟩
  have bv9 : 0 ≤ v9 ∧ v9 ≤ 8 := by rw [ev9]; exact (m_98_3 hMm)
  obtain ⟨v10, ev10⟩ : ∃ z, z = h 98 4 := ⟨_, rfl⟩
  have bv10 : 0 ≤ v10 ∧ v10 ≤ 8 := by rw [ev10]; exact (m_98_4 hMm)
  obtain ⟨v11, ev11⟩ : ∃ z, z = h 98 5 := ⟨_, rfl⟩
  have bv11 : 0 ≤ v11 ∧ v11 ≤ 2000000000 := by rw [ev11]; exact (m_98_5 hMm)
  obtain ⟨v12, ev12⟩ : ∃ z, z = h 145 6 := ⟨_, rfl⟩
  have bv12 : 0 ≤ v12 ∧ v12 ≤ 10 := by rw [ev12]; exact (m_145_6 hMm)
  obtain ⟨v13, ev13⟩ : ∃ z, z = h 145 7 := ⟨_, rfl⟩
  have bv13 : 0 ≤ v13 ∧ v13 ≤ 8 := by rw [ev13]; exact (m_145_7 hMm)
  obtain ⟨v14, ev14⟩ : ∃ z, z = h 145 8 := ⟨_, rfl⟩
  have bv14 : 0 ≤ v14 ∧ v14 ≤ 8 := by rw [ev14]; exact (m_145_8 hMm)
  obtain ⟨v15, ev15⟩ : ∃ z, z = h 145 9 := ⟨_, rfl⟩
  have bv15 : 0 ≤ v15 ∧ v15 ≤ 2000000000 := by rw [ev15]; exact (m_145_9 hMm)
  obtain ⟨v16, ev16⟩ : ∃ z, z = h 98 79 := ⟨_, rfl⟩
  have bv16 : 0 ≤ v16 ∧ v16 ≤ 1 := by rw [ev16]; exact (m_98_79 hMm)
  refine g_aload_n dL_law_316 rfl ?_
  refine g_aloadX_n dL_law_317 rfl ?_
  refine g_iload_n dL_law_318 rfl (fun _ => ?_)
  refine g_iconst dL_law_319 (inR_c rfl) ?_
  refine g_iaddB dL_law_320 (by omega) (by omega) ?_
  refine g_sldB dL_law_321 (by omega) (by omega) (fun v17 ev17 bv17 cv17 => ?_)
  refine g_aloadX_n dL_law_322 rfl ?_
  refine g_iload_n dL_law_323 rfl (fun _ => ?_)
  refine g_iconst dL_law_324 (inR_c rfl) ?_
  refine g_iaddB dL_law_325 (by omega) (by omega) ?_
  refine g_sldB dL_law_326 (by omega) (by omega) (fun v18 ev18 bv18 cv18 => ?_)
  have q19 : h 2 0 = v1 := ev1.symm
  have q20 : h 6 0 = v2 := ev2.symm
  have q21 : h 12 0 = v3 := ev3.symm
  have q22 : h 42 0 = v4 := ev4.symm
  have q23 : h 46 0 = v5 := ev5.symm
  have q24 : h 52 0 = v6 := ev6.symm
  have q25 : h 0 12 = v7 := ev7.symm
  have q26 : h 98 2 = v8 := ev8.symm
  have q27 : h 98 3 = v9 := ev9.symm
  have q28 : h 98 4 = v10 := ev10.symm
  have q29 : h 98 5 = v11 := ev11.symm
  have q30 : h 145 6 = v12 := ev12.symm
  have q31 : h 145 7 = v13 := ev13.symm
  have q32 : h 145 8 = v14 := ev14.symm
  have q33 : h 145 9 = v15 := ev15.symm
  have q34 : h 98 79 = v16 := ev16.symm
  refine g_cV (as := [_, _]) (c_X11_below_0 _ _ h hX (by omega) (by omega) (by omega) (by omega)) dL_law_327 mi_X11_below in_X11_below se_X11_below ml_L_33 rfl rfl rfl sh_0 rfl rfl (Nat.le_of_ble_eq_true rfl) (fun v35 h36 q37 => ?_)
  obtain ⟨hMh36, hFh36, bv35, cv35, zv35⟩ := q37
  refine g_pop dL_law_330 rfl ?_
  refine g_aload_n dL_law_331 rfl ?_
  refine g_aloadX_n dL_law_332 rfl ?_
  refine g_iload_n dL_law_333 rfl (fun _ => ?_)
  refine g_iconst dL_law_334 (inR_c rfl) ?_
  refine g_iaddB dL_law_335 (by omega) (by omega) ?_
  refine g_sldE dL_law_336 (by omega) (by omega) ev17 ?_
  refine g_aloadX_n dL_law_337 rfl ?_
  refine g_iload_n dL_law_338 rfl (fun _ => ?_)
  refine g_iconst dL_law_339 (inR_c rfl) ?_
  refine g_iaddB dL_law_340 (by omega) (by omega) ?_
  refine g_sldE dL_law_341 (by omega) (by omega) ev18 ?_
  have q38 : h36 2 0 = v1 := ((hFh36 2 0 rfl).trans ev1.symm)
  have q39 : h36 6 0 = v2 := ((hFh36 6 0 rfl).trans ev2.symm)
  have q40 : h36 12 0 = v3 := ((hFh36 12 0 rfl).trans ev3.symm)
  have q41 : h36 42 0 = v4 := ((hFh36 42 0 rfl).trans ev4.symm)
  have q42 : h36 46 0 = v5 := ((hFh36 46 0 rfl).trans ev5.symm)
  have q43 : h36 52 0 = v6 := ((hFh36 52 0 rfl).trans ev6.symm)
  have q44 : h36 0 12 = v7 := ((hFh36 0 12 rfl).trans ev7.symm)
  have q45 : h36 98 2 = v8 := ((hFh36 98 2 rfl).trans ev8.symm)
  have q46 : h36 98 3 = v9 := ((hFh36 98 3 rfl).trans ev9.symm)
  have q47 : h36 98 4 = v10 := ((hFh36 98 4 rfl).trans ev10.symm)
  have q48 : h36 98 5 = v11 := ((hFh36 98 5 rfl).trans ev11.symm)
  have q49 : h36 145 6 = v12 := ((hFh36 145 _ rfl).trans ev12.symm)
  have q50 : h36 145 7 = v13 := ((hFh36 145 _ rfl).trans ev13.symm)
  have q51 : h36 145 8 = v14 := ((hFh36 145 _ rfl).trans ev14.symm)
  have q52 : h36 145 9 = v15 := ((hFh36 145 _ rfl).trans ev15.symm)
  have q53 : h36 98 79 = v16 := ((hFh36 98 79 rfl).trans ev16.symm)
  refine g_cV (as := [_, _]) (c_X12_below_98 _ _ h36 (MBm.fr (T := [(13, 0)]) hMm (Fr.sub hFh36 rfl) rfl) (by omega) (by omega) (by omega) (by omega)) dL_law_342 mi_X12_below in_X12_below se_X12_below ml_L_36 rfl rfl rfl sh_98 rfl rfl (Nat.le_of_ble_eq_true rfl) (fun v54 h55 q56 => ?_)
  obtain ⟨hMh55, hFh55, bv54, cv54, zv54⟩ := q56
  refine g_pop dL_law_345 rfl ?_
  refine g_goto 1216 dL_law_346 (by decide) ?_
  have q57 : h55 2 0 = v1 := ((hFh55 2 0 rfl).trans ((hFh36 2 0 rfl).trans ev1.symm))
  have q58 : h55 6 0 = v2 := ((hFh55 6 0 rfl).trans ((hFh36 6 0 rfl).trans ev2.symm))
  have q59 : h55 12 0 = v3 := ((hFh55 12 0 rfl).trans ((hFh36 12 0 rfl).trans ev3.symm))
  have q60 : h55 42 0 = v4 := ((hFh55 42 0 rfl).trans ((hFh36 42 0 rfl).trans ev4.symm))
  have q61 : h55 46 0 = v5 := ((hFh55 46 0 rfl).trans ((hFh36 46 0 rfl).trans ev5.symm))
  have q62 : h55 52 0 = v6 := ((hFh55 52 0 rfl).trans ((hFh36 52 0 rfl).trans ev6.symm))
  have q63 : h55 0 12 = v7 := ((hFh55 0 12 rfl).trans ((hFh36 0 12 rfl).trans ev7.symm))
  have q64 : h55 98 2 = v8 := ((hFh55 98 2 rfl).trans ((hFh36 98 2 rfl).trans ev8.symm))
  have q65 : h55 98 3 = v9 := ((hFh55 98 3 rfl).trans ((hFh36 98 3 rfl).trans ev9.symm))
  have q66 : h55 98 4 = v10 := ((hFh55 98 4 rfl).trans ((hFh36 98 4 rfl).trans ev10.symm))
  have q67 : h55 98 5 = v11 := ((hFh55 98 5 rfl).trans ((hFh36 98 5 rfl).trans ev11.symm))
  have q68 : h55 145 6 = v12 := ((hFh55 145 _ rfl).trans ((hFh36 145 _ rfl).trans ev12.symm))
  have q69 : h55 145 7 = v13 := ((hFh55 145 _ rfl).trans ((hFh36 145 _ rfl).trans ev13.symm))
  have q70 : h55 145 8 = v14 := ((hFh55 145 _ rfl).trans ((hFh36 145 _ rfl).trans ev14.symm))
  have q71 : h55 145 9 = v15 := ((hFh55 145 _ rfl).trans ((hFh36 145 _ rfl).trans ev15.symm))
  have q72 : h55 98 79 = v16 := ((hFh55 98 79 rfl).trans ((hFh36 98 79 rfl).trans ev16.symm))
  exact kk _ ⟨⟨(MBx.fr (T := [(109, 0)]) hMh36 (Fr.sub hFh55 rfl) rfl), hMh55, (LD.fr (T := [(13, 0), (109, 0)]) hLD (Fr.tr (Fr.sub hFh36 rfl) hFh55 rfl) rfl), (WFL.fr (T := [(13, 0), (109, 0)]) hWF (Fr.tr (Fr.sub hFh36 rfl) hFh55 rfl) rfl)⟩, by omega, gi, gs, (ASn.fr (T := [(13, 0), (109, 0)]) hXW (Fr.tr (Fr.sub hFh36 rfl) hFh55 rfl) rfl), (ISn.fr (T := [(13, 0), (109, 0)]) hIS (Fr.tr (Fr.sub hFh36 rfl) hFh55 rfl) rfl), (ASn.fr (T := [(13, 0), (109, 0)]) hXK (Fr.tr (Fr.sub hFh36 rfl) hFh55 rfl) rfl), (S1n.fr (T := [(13, 0), (109, 0)]) hS1 (Fr.tr (Fr.sub hFh36 rfl) hFh55 rfl) rfl)⟩
set_option maxRecDepth 100000 in
set_option maxHeartbeats 8000000 in
theorem law_case_5 (xs : List Int) (Po : Option PV → List SE → MEM → Prop) (i : Int) (h : MEM) (I : INV i h) (hi : i + 6 ≤ xs.length) (hN : xs.length ≤ 3072) (kk : ∀ h' : MEM, INV (i + 6) h' → G x cL_law 4 (some .boolean) (some xs) Po (2048, 84000, 600000, 7302250) 1216 [some pX, some (pR 0), some (pR 98), some (pI i)] [] SH h' 151 10868) : G x cL_law 4 (some .boolean) (some xs) Po (2048, 84000, 600000, 7302250) 349 [some pX, some (pR 0), some (pR 98), some (pI i)] [] SH h 151 10868 := by
  obtain ⟨⟨hX, hMm, hLD, hWF⟩, hI, gi, gs, hXW, hIS, hXK, hS1⟩ := I
  obtain ⟨v1, ev1⟩ : ∃ z, z = h 2 0 := ⟨_, rfl⟩
  have bv1 : 0 ≤ v1 ∧ v1 ≤ 10 := by rw [ev1]; exact (m_2_0 hX)
  obtain ⟨v2, ev2⟩ : ∃ z, z = h 6 0 := ⟨_, rfl⟩
  have bv2 : 0 ≤ v2 ∧ v2 ≤ 8 := by rw [ev2]; exact (m_6_0 hX)
  obtain ⟨v3, ev3⟩ : ∃ z, z = h 12 0 := ⟨_, rfl⟩
  have bv3 : 0 ≤ v3 ∧ v3 ≤ 8 := by rw [ev3]; exact (m_12_0 hX)
  obtain ⟨v4, ev4⟩ : ∃ z, z = h 42 0 := ⟨_, rfl⟩
  have bv4 : 0 ≤ v4 ∧ v4 ≤ 10 := by rw [ev4]; exact (m_42_0 hX)
  obtain ⟨v5, ev5⟩ : ∃ z, z = h 46 0 := ⟨_, rfl⟩
  have bv5 : 0 ≤ v5 ∧ v5 ≤ 8 := by rw [ev5]; exact (m_46_0 hX)
  obtain ⟨v6, ev6⟩ : ∃ z, z = h 52 0 := ⟨_, rfl⟩
  have bv6 : 0 ≤ v6 ∧ v6 ≤ 8 := by rw [ev6]; exact (m_52_0 hX)
  obtain ⟨v7, ev7⟩ : ∃ z, z = h 0 12 := ⟨_, rfl⟩
  have bv7 : 0 ≤ v7 ∧ v7 ≤ 1 := by rw [ev7]; exact (m_0_12 hX)
  obtain ⟨v8, ev8⟩ : ∃ z, z = h 98 2 := ⟨_, rfl⟩
  have bv8 : 0 ≤ v8 ∧ v8 ≤ 10 := by rw [ev8]; exact (m_98_2 hMm)
  obtain ⟨v9, ev9⟩ : ∃ z, z = h 98 3 := ⟨_, rfl⟩
  have bv9 : 0 ≤ v9 ∧ v9 ≤ 8 := by rw [ev9]; exact (m_98_3 hMm)
  obtain ⟨v10, ev10⟩ : ∃ z, z = h 98 4 := ⟨_, rfl⟩
  have bv10 : 0 ≤ v10 ∧ v10 ≤ 8 := by rw [ev10]; exact (m_98_4 hMm)
  obtain ⟨v11, ev11⟩ : ∃ z, z = h 98 5 := ⟨_, rfl⟩
  have bv11 : 0 ≤ v11 ∧ v11 ≤ 2000000000 := by rw [ev11]; exact (m_98_5 hMm)
  obtain ⟨v12, ev12⟩ : ∃ z, z = h 145 6 := ⟨_, rfl⟩
  have bv12 : 0 ≤ v12 ∧ v12 ≤ 10 := by rw [ev12]; exact (m_145_6 hMm)
  obtain ⟨v13, ev13⟩ : ∃ z, z = h 145 7 := ⟨_, rfl⟩
  have bv13 : 0 ≤ v13 ∧ v13 ≤ 8 := by rw [ev13]; exact (m_145_7 hMm)
  obtain ⟨v14, ev14⟩ : ∃ z, z = h 145 8 := ⟨_, rfl⟩
  have bv14 : 0 ≤ v14 ∧ v14 ≤ 8 := by rw [ev14]; exact (m_145_8 hMm)
  obtain ⟨v15, ev15⟩ : ∃ z, z = h 145 9 := ⟨_, rfl⟩
  have bv15 : 0 ≤ v15 ∧ v15 ≤ 2000000000 := by rw [ev15]; exact (m_145_9 hMm)
  obtain ⟨v16, ev16⟩ : ∃ z, z = h 98 79 := ⟨_, rfl⟩
  have bv16 : 0 ≤ v16 ∧ v16 ≤ 1 := by rw [ev16]; exact (m_98_79 hMm)
  refine g_aload_n dL_law_349 rfl ?_
  refine g_aloadX_n dL_law_350 rfl ?_
  refine g_iload_n dL_law_351 rfl (fun _ => ?_)
  refine g_iconst dL_law_352 (inR_c rfl) ?_
  refine g_iaddB dL_law_353 (by omega) (by omega) ?_
  refine g_sldB dL_law_354 (by omega) (by omega) (fun v17 ev17 bv17 cv17 => ?_)
  refine g_aloadX_n dL_law_355 rfl ?_
  refine g_iload_n dL_law_356 rfl (fun _ => ?_)
  refine g_iconst dL_law_357 (inR_c rfl) ?_
  refine g_iaddB dL_law_358 (by omega) (by omega) ?_
  refine g_sldB dL_law_359 (by omega) (by omega) (fun v18 ev18 bv18 cv18 => ?_)
  refine g_aloadX_n dL_law_360 rfl ?_
  refine g_iload_n dL_law_361 rfl (fun _ => ?_)
  refine g_iconst dL_law_362 (inR_c rfl) ?_
  refine g_iaddB dL_law_363 (by omega) (by omega) ?_
  refine g_sldB dL_law_364 (by omega) (by omega) (fun v19 ev19 bv19 cv19 => ?_)
  refine g_if_eq 372 dL_law_365 (by decide) (fun q20 => ?_) (fun q20 => ?_)
  · skip
    refine g_iconst dL_law_372 (inR_c rfl) ?_
    have q21 : h 2 0 = v1 := ev1.symm
    have q22 : h 6 0 = v2 := ev2.symm
    have q23 : h 12 0 = v3 := ev3.symm
    have q24 : h 42 0 = v4 := ev4.symm
    have q25 : h 46 0 = v5 := ev5.symm
    have q26 : h 52 0 = v6 := ev6.symm
    have q27 : h 0 12 = v7 := ev7.symm
    have q28 : h 98 2 = v8 := ev8.symm
    have q29 : h 98 3 = v9 := ev9.symm
    have q30 : h 98 4 = v10 := ev10.symm
    have q31 : h 98 5 = v11 := ev11.symm
    have q32 : h 145 6 = v12 := ev12.symm
    have q33 : h 145 7 = v13 := ev13.symm
    have q34 : h 145 8 = v14 := ev14.symm
    have q35 : h 145 9 = v15 := ev15.symm
    have q36 : h 98 79 = v16 := ev16.symm
    refine g_cV (as := [_, _, _]) (c_X11_gear_0 _ _ _ h hX (by omega) (by omega) (by omega) (by omega) (by omega) (by omega)) dL_law_373 mi_X11_gear in_X11_gear se_X11_gear ml_L_37 rfl rfl rfl sh_0 rfl rfl (Nat.le_of_ble_eq_true rfl) (fun v37 h38 q39 => ?_)
    obtain ⟨hMh38, hFh38, bv37, cv37⟩ := q39
    refine g_pop dL_law_376 rfl ?_
    refine g_aload_n dL_law_377 rfl ?_
    refine g_aloadX_n dL_law_378 rfl ?_
    refine g_iload_n dL_law_379 rfl (fun _ => ?_)
    refine g_iconst dL_law_380 (inR_c rfl) ?_
    refine g_iaddB dL_law_381 (by omega) (by omega) ?_
    refine g_sldE dL_law_382 (by omega) (by omega) ev17 ?_
    refine g_aloadX_n dL_law_383 rfl ?_
    refine g_iload_n dL_law_384 rfl (fun _ => ?_)
    refine g_iconst dL_law_385 (inR_c rfl) ?_
    refine g_iaddB dL_law_386 (by omega) (by omega) ?_
    refine g_sldE dL_law_387 (by omega) (by omega) ev18 ?_
    refine g_aloadX_n dL_law_388 rfl ?_
    refine g_iload_n dL_law_389 rfl (fun _ => ?_)
    refine g_iconst dL_law_390 (inR_c rfl) ?_
    refine g_iaddB dL_law_391 (by omega) (by omega) ?_
    refine g_sldE dL_law_392 (by omega) (by omega) ev19 ?_
    refine g_if_eq 400 dL_law_393 (by decide) (fun q40 => ?_) (fun _ => by exfalso; omega)
    refine g_iconst dL_law_400 (inR_c rfl) ?_
    have q41 : h38 2 0 = v1 := ((hFh38 2 0 rfl).trans ev1.symm)
    have q42 : h38 6 0 = v2 := ((hFh38 6 0 rfl).trans ev2.symm)
    have q43 : h38 12 0 = v3 := ((hFh38 12 0 rfl).trans ev3.symm)
    have q44 : h38 42 0 = v4 := ((hFh38 42 0 rfl).trans ev4.symm)
    have q45 : h38 46 0 = v5 := ((hFh38 46 0 rfl).trans ev5.symm)
    have q46 : h38 52 0 = v6 := ((hFh38 52 0 rfl).trans ev6.symm)
    have q47 : h38 0 12 = v7 := ((hFh38 0 12 rfl).trans ev7.symm)
    have q48 : h38 98 2 = v8 := ((hFh38 98 2 rfl).trans ev8.symm)
    have q49 : h38 98 3 = v9 := ((hFh38 98 3 rfl).trans ev9.symm)
    have q50 : h38 98 4 = v10 := ((hFh38 98 4 rfl).trans ev10.symm)
    have q51 : h38 98 5 = v11 := ((hFh38 98 5 rfl).trans ev11.symm)
    have q52 : h38 145 6 = v12 := ((hFh38 145 _ rfl).trans ev12.symm)
    have q53 : h38 145 7 = v13 := ((hFh38 145 _ rfl).trans ev13.symm)
    have q54 : h38 145 8 = v14 := ((hFh38 145 _ rfl).trans ev14.symm)
    have q55 : h38 145 9 = v15 := ((hFh38 145 _ rfl).trans ev15.symm)
    have q56 : h38 98 79 = v16 := ((hFh38 98 79 rfl).trans ev16.symm)
    refine g_cV (as := [_, _, _]) (c_X12_gear_98 _ _ _ h38 (MBm.fr (T := [(9, 0), (15, 0)]) hMm (Fr.sub hFh38 rfl) rfl) (by omega) (by omega) (by omega) (by omega) (by omega) (by omega)) dL_law_401 mi_X12_gear in_X12_gear se_X12_gear ml_L_41 rfl rfl rfl sh_98 rfl rfl (Nat.le_of_ble_eq_true rfl) (fun v57 h58 q59 => ?_)
    obtain ⟨hMh58, hFh58, bv57, cv57⟩ := q59
    refine g_pop dL_law_404 rfl ?_
    refine g_goto 1216 dL_law_405 (by decide) ?_
    have q60 : h58 2 0 = v1 := ((hFh58 2 0 rfl).trans ((hFh38 2 0 rfl).trans ev1.symm))
    have q61 : h58 6 0 = v2 := ((hFh58 6 0 rfl).trans ((hFh38 6 0 rfl).trans ev2.symm))
    have q62 : h58 12 0 = v3 := ((hFh58 12 0 rfl).trans ((hFh38 12 0 rfl).trans ev3.symm))
    have q63 : h58 42 0 = v4 := ((hFh58 42 0 rfl).trans ((hFh38 42 0 rfl).trans ev4.symm))
    have q64 : h58 46 0 = v5 := ((hFh58 46 0 rfl).trans ((hFh38 46 0 rfl).trans ev5.symm))
    have q65 : h58 52 0 = v6 := ((hFh58 52 0 rfl).trans ((hFh38 52 0 rfl).trans ev6.symm))
    have q66 : h58 0 12 = v7 := ((hFh58 0 12 rfl).trans ((hFh38 0 12 rfl).trans ev7.symm))
    have q67 : h58 98 2 = v8 := ((hFh58 98 2 rfl).trans ((hFh38 98 2 rfl).trans ev8.symm))
    have q68 : h58 98 3 = v9 := ((hFh58 98 3 rfl).trans ((hFh38 98 3 rfl).trans ev9.symm))
    have q69 : h58 98 4 = v10 := ((hFh58 98 4 rfl).trans ((hFh38 98 4 rfl).trans ev10.symm))
    have q70 : h58 98 5 = v11 := ((hFh58 98 5 rfl).trans ((hFh38 98 5 rfl).trans ev11.symm))
    have q71 : h58 145 6 = v12 := ((hFh58 145 _ rfl).trans ((hFh38 145 _ rfl).trans ev12.symm))
    have q72 : h58 145 7 = v13 := ((hFh58 145 _ rfl).trans ((hFh38 145 _ rfl).trans ev13.symm))
    have q73 : h58 145 8 = v14 := ((hFh58 145 _ rfl).trans ((hFh38 145 _ rfl).trans ev14.symm))
    have q74 : h58 145 9 = v15 := ((hFh58 145 _ rfl).trans ((hFh38 145 _ rfl).trans ev15.symm))
    have q75 : h58 98 79 = v16 := ((hFh58 98 79 rfl).trans ((hFh38 98 79 rfl).trans ev16.symm))
    exact kk _ ⟨⟨(MBx.fr (T := [(106, 0), (110, 0)]) hMh38 (Fr.sub hFh58 rfl) rfl), hMh58, (LD.fr (T := [(9, 0), (15, 0), (106, 0), (110, 0)]) hLD (Fr.tr (Fr.sub hFh38 rfl) hFh58 rfl) rfl), (WFL.fr (T := [(9, 0), (15, 0), (106, 0), (110, 0)]) hWF (Fr.tr (Fr.sub hFh38 rfl) hFh58 rfl) rfl)⟩, by omega, gi, gs, (ASn.fr (T := [(9, 0), (15, 0), (106, 0), (110, 0)]) hXW (Fr.tr (Fr.sub hFh38 rfl) hFh58 rfl) rfl), (ISn.fr (T := [(9, 0), (15, 0), (106, 0), (110, 0)]) hIS (Fr.tr (Fr.sub hFh38 rfl) hFh58 rfl) rfl), (ASn.fr (T := [(9, 0), (15, 0), (106, 0), (110, 0)]) hXK (Fr.tr (Fr.sub hFh38 rfl) hFh58 rfl) rfl), (S1n.fr (T := [(9, 0), (15, 0), (106, 0), (110, 0)]) hS1 (Fr.tr (Fr.sub hFh38 rfl) hFh58 rfl) rfl)⟩
  · skip
    refine g_iconst dL_law_368 (inR_c rfl) ?_
    refine g_goto 373 dL_law_369 (by decide) ?_
    have q76 : h 2 0 = v1 := ev1.symm
    have q77 : h 6 0 = v2 := ev2.symm
    have q78 : h 12 0 = v3 := ev3.symm
    have q79 : h 42 0 = v4 := ev4.symm
    have q80 : h 46 0 = v5 := ev5.symm
    have q81 : h 52 0 = v6 := ev6.symm
    have q82 : h 0 12 = v7 := ev7.symm
    have q83 : h 98 2 = v8 := ev8.symm
    have q84 : h 98 3 = v9 := ev9.symm
    have q85 : h 98 4 = v10 := ev10.symm
    have q86 : h 98 5 = v11 := ev11.symm
    have q87 : h 145 6 = v12 := ev12.symm
    have q88 : h 145 7 = v13 := ev13.symm
    have q89 : h 145 8 = v14 := ev14.symm
    have q90 : h 145 9 = v15 := ev15.symm
    have q91 : h 98 79 = v16 := ev16.symm
    refine g_cV (as := [_, _, _]) (c_X11_gear_0 _ _ _ h hX (by omega) (by omega) (by omega) (by omega) (by omega) (by omega)) dL_law_373 mi_X11_gear in_X11_gear se_X11_gear ml_L_37 rfl rfl rfl sh_0 rfl rfl (Nat.le_of_ble_eq_true rfl) (fun v92 h93 q94 => ?_)
    obtain ⟨hMh93, hFh93, bv92, cv92⟩ := q94
    refine g_pop dL_law_376 rfl ?_
    refine g_aload_n dL_law_377 rfl ?_
    refine g_aloadX_n dL_law_378 rfl ?_
    refine g_iload_n dL_law_379 rfl (fun _ => ?_)
    refine g_iconst dL_law_380 (inR_c rfl) ?_
    refine g_iaddB dL_law_381 (by omega) (by omega) ?_
    refine g_sldE dL_law_382 (by omega) (by omega) ev17 ?_
    refine g_aloadX_n dL_law_383 rfl ?_
    refine g_iload_n dL_law_384 rfl (fun _ => ?_)
    refine g_iconst dL_law_385 (inR_c rfl) ?_
    refine g_iaddB dL_law_386 (by omega) (by omega) ?_
    refine g_sldE dL_law_387 (by omega) (by omega) ev18 ?_
    refine g_aloadX_n dL_law_388 rfl ?_
    refine g_iload_n dL_law_389 rfl (fun _ => ?_)
    refine g_iconst dL_law_390 (inR_c rfl) ?_
    refine g_iaddB dL_law_391 (by omega) (by omega) ?_
    refine g_sldE dL_law_392 (by omega) (by omega) ev19 ?_
    refine g_if_eq 400 dL_law_393 (by decide) (fun _ => by exfalso; omega) (fun q95 => ?_)
    refine g_iconst dL_law_396 (inR_c rfl) ?_
    refine g_goto 401 dL_law_397 (by decide) ?_
    have q96 : h93 2 0 = v1 := ((hFh93 2 0 rfl).trans ev1.symm)
    have q97 : h93 6 0 = v2 := ((hFh93 6 0 rfl).trans ev2.symm)
    have q98 : h93 12 0 = v3 := ((hFh93 12 0 rfl).trans ev3.symm)
    have q99 : h93 42 0 = v4 := ((hFh93 42 0 rfl).trans ev4.symm)
    have q100 : h93 46 0 = v5 := ((hFh93 46 0 rfl).trans ev5.symm)
    have q101 : h93 52 0 = v6 := ((hFh93 52 0 rfl).trans ev6.symm)
    have q102 : h93 0 12 = v7 := ((hFh93 0 12 rfl).trans ev7.symm)
    have q103 : h93 98 2 = v8 := ((hFh93 98 2 rfl).trans ev8.symm)
    have q104 : h93 98 3 = v9 := ((hFh93 98 3 rfl).trans ev9.symm)
    have q105 : h93 98 4 = v10 := ((hFh93 98 4 rfl).trans ev10.symm)
    have q106 : h93 98 5 = v11 := ((hFh93 98 5 rfl).trans ev11.symm)
    have q107 : h93 145 6 = v12 := ((hFh93 145 _ rfl).trans ev12.symm)
    have q108 : h93 145 7 = v13 := ((hFh93 145 _ rfl).trans ev13.symm)
    have q109 : h93 145 8 = v14 := ((hFh93 145 _ rfl).trans ev14.symm)
    have q110 : h93 145 9 = v15 := ((hFh93 145 _ rfl).trans ev15.symm)
    have q111 : h93 98 79 = v16 := ((hFh93 98 79 rfl).trans ev16.symm)
    refine g_cV (as := [_, _, _]) (c_X12_gear_98 _ _ _ h93 (MBm.fr (T := [(9, 0), (15, 0)]) hMm (Fr.sub hFh93 rfl) rfl) (by omega) (by omega) (by omega) (by omega) (by omega) (by omega)) dL_law_401 mi_X12_gear in_X12_gear se_X12_gear ml_L_41 rfl rfl rfl sh_98 rfl rfl (Nat.le_of_ble_eq_true rfl) (fun v112 h113 q114 => ?_)
    obtain ⟨hMh113, hFh113, bv112, cv112⟩ := q114
    refine g_pop dL_law_404 rfl ?_
    refine g_goto 1216 dL_law_405 (by decide) ?_
    have q115 : h113 2 0 = v1 := ((hFh113 2 0 rfl).trans ((hFh93 2 0 rfl).trans ev1.symm))
    have q116 : h113 6 0 = v2 := ((hFh113 6 0 rfl).trans ((hFh93 6 0 rfl).trans ev2.symm))
    have q117 : h113 12 0 = v3 := ((hFh113 12 0 rfl).trans ((hFh93 12 0 rfl).trans ev3.symm))
    have q118 : h113 42 0 = v4 := ((hFh113 42 0 rfl).trans ((hFh93 42 0 rfl).trans ev4.symm))
    have q119 : h113 46 0 = v5 := ((hFh113 46 0 rfl).trans ((hFh93 46 0 rfl).trans ev5.symm))
    have q120 : h113 52 0 = v6 := ((hFh113 52 0 rfl).trans ((hFh93 52 0 rfl).trans ev6.symm))
    have q121 : h113 0 12 = v7 := ((hFh113 0 12 rfl).trans ((hFh93 0 12 rfl).trans ev7.symm))
    have q122 : h113 98 2 = v8 := ((hFh113 98 2 rfl).trans ((hFh93 98 2 rfl).trans ev8.symm))
    have q123 : h113 98 3 = v9 := ((hFh113 98 3 rfl).trans ((hFh93 98 3 rfl).trans ev9.symm))
    have q124 : h113 98 4 = v10 := ((hFh113 98 4 rfl).trans ((hFh93 98 4 rfl).trans ev10.symm))
    have q125 : h113 98 5 = v11 := ((hFh113 98 5 rfl).trans ((hFh93 98 5 rfl).trans ev11.symm))
    have q126 : h113 145 6 = v12 := ((hFh113 145 _ rfl).trans ((hFh93 145 _ rfl).trans ev12.symm))
    have q127 : h113 145 7 = v13 := ((hFh113 145 _ rfl).trans ((hFh93 145 _ rfl).trans ev13.symm))
    have q128 : h113 145 8 = v14 := ((hFh113 145 _ rfl).trans ((hFh93 145 _ rfl).trans ev14.symm))
    have q129 : h113 145 9 = v15 := ((hFh113 145 _ rfl).trans ((hFh93 145 _ rfl).trans ev15.symm))
    have q130 : h113 98 79 = v16 := ((hFh113 98 79 rfl).trans ((hFh93 98 79 rfl).trans ev16.symm))
    exact kk _ ⟨⟨(MBx.fr (T := [(106, 0), (110, 0)]) hMh93 (Fr.sub hFh113 rfl) rfl), hMh113, (LD.fr (T := [(9, 0), (15, 0), (106, 0), (110, 0)]) hLD (Fr.tr (Fr.sub hFh93 rfl) hFh113 rfl) rfl), (WFL.fr (T := [(9, 0), (15, 0), (106, 0), (110, 0)]) hWF (Fr.tr (Fr.sub hFh93 rfl) hFh113 rfl) rfl)⟩, by omega, gi, gs, (ASn.fr (T := [(9, 0), (15, 0), (106, 0), (110, 0)]) hXW (Fr.tr (Fr.sub hFh93 rfl) hFh113 rfl) rfl), (ISn.fr (T := [(9, 0), (15, 0), (106, 0), (110, 0)]) hIS (Fr.tr (Fr.sub hFh93 rfl) hFh113 rfl) rfl), (ASn.fr (T := [(9, 0), (15, 0), (106, 0), (110, 0)]) hXK (Fr.tr (Fr.sub hFh93 rfl) hFh113 rfl) rfl), (S1n.fr (T := [(9, 0), (15, 0), (106, 0), (110, 0)]) hS1 (Fr.tr (Fr.sub hFh93 rfl) hFh113 rfl) rfl)⟩
set_option maxRecDepth 100000 in
set_option maxHeartbeats 8000000 in
theorem law_case_6 (xs : List Int) (Po : Option PV → List SE → MEM → Prop) (i : Int) (h : MEM) (I : INV i h) (hi : i + 6 ≤ xs.length) (hN : xs.length ≤ 3072) (kk : ∀ h' : MEM, INV (i + 6) h' → G x cL_law 4 (some .boolean) (some xs) Po (2048, 84000, 600000, 7302250) 1216 [some pX, some (pR 0), some (pR 98), some (pI i)] [] SH h' 151 10868) : G x cL_law 4 (some .boolean) (some xs) Po (2048, 84000, 600000, 7302250) 408 [some pX, some (pR 0), some (pR 98), some (pI i)] [] SH h 151 10868 := by
  obtain ⟨⟨hX, hMm, hLD, hWF⟩, hI, gi, gs, hXW, hIS, hXK, hS1⟩ := I
  obtain ⟨v1, ev1⟩ : ∃ z, z = h 2 0 := ⟨_, rfl⟩
  have bv1 : 0 ≤ v1 ∧ v1 ≤ 10 := by rw [ev1]; exact (m_2_0 hX)
  obtain ⟨v2, ev2⟩ : ∃ z, z = h 6 0 := ⟨_, rfl⟩
  have bv2 : 0 ≤ v2 ∧ v2 ≤ 8 := by rw [ev2]; exact (m_6_0 hX)
  obtain ⟨v3, ev3⟩ : ∃ z, z = h 12 0 := ⟨_, rfl⟩
  have bv3 : 0 ≤ v3 ∧ v3 ≤ 8 := by rw [ev3]; exact (m_12_0 hX)
  obtain ⟨v4, ev4⟩ : ∃ z, z = h 42 0 := ⟨_, rfl⟩
  have bv4 : 0 ≤ v4 ∧ v4 ≤ 10 := by rw [ev4]; exact (m_42_0 hX)
  obtain ⟨v5, ev5⟩ : ∃ z, z = h 46 0 := ⟨_, rfl⟩
  have bv5 : 0 ≤ v5 ∧ v5 ≤ 8 := by rw [ev5]; exact (m_46_0 hX)
  obtain ⟨v6, ev6⟩ : ∃ z, z = h 52 0 := ⟨_, rfl⟩
  have bv6 : 0 ≤ v6 ∧ v6 ≤ 8 := by rw [ev6]; exact (m_52_0 hX)
  obtain ⟨v7, ev7⟩ : ∃ z, z = h 0 12 := ⟨_, rfl⟩
  have bv7 : 0 ≤ v7 ∧ v7 ≤ 1 := by rw [ev7]; exact (m_0_12 hX)
  obtain ⟨v8, ev8⟩ : ∃ z, z = h 98 2 := ⟨_, rfl⟩
  have bv8 : 0 ≤ v8 ∧ v8 ≤ 10 := by rw [ev8]; exact (m_98_2 hMm)
  obtain ⟨v9, ev9⟩ : ∃ z, z = h 98 3 := ⟨_, rfl⟩
  have bv9 : 0 ≤ v9 ∧ v9 ≤ 8 := by rw [ev9]; exact (m_98_3 hMm)
  obtain ⟨v10, ev10⟩ : ∃ z, z = h 98 4 := ⟨_, rfl⟩
  have bv10 : 0 ≤ v10 ∧ v10 ≤ 8 := by rw [ev10]; exact (m_98_4 hMm)
  obtain ⟨v11, ev11⟩ : ∃ z, z = h 98 5 := ⟨_, rfl⟩
  have bv11 : 0 ≤ v11 ∧ v11 ≤ 2000000000 := by rw [ev11]; exact (m_98_5 hMm)
  obtain ⟨v12, ev12⟩ : ∃ z, z = h 145 6 := ⟨_, rfl⟩
  have bv12 : 0 ≤ v12 ∧ v12 ≤ 10 := by rw [ev12]; exact (m_145_6 hMm)
  obtain ⟨v13, ev13⟩ : ∃ z, z = h 145 7 := ⟨_, rfl⟩
  have bv13 : 0 ≤ v13 ∧ v13 ≤ 8 := by rw [ev13]; exact (m_145_7 hMm)
  obtain ⟨v14, ev14⟩ : ∃ z, z = h 145 8 := ⟨_, rfl⟩
  have bv14 : 0 ≤ v14 ∧ v14 ≤ 8 := by rw [ev14]; exact (m_145_8 hMm)
  obtain ⟨v15, ev15⟩ : ∃ z, z = h 145 9 := ⟨_, rfl⟩
  have bv15 : 0 ≤ v15 ∧ v15 ≤ 2000000000 := by rw [ev15]; exact (m_145_9 hMm)
  obtain ⟨v16, ev16⟩ : ∃ z, z = h 98 79 := ⟨_, rfl⟩
  have bv16 : 0 ≤ v16 ∧ v16 ≤ 1 := by rw [ev16]; exact (m_98_79 hMm)
  refine g_aload_n dL_law_408 rfl ?_
  refine g_aloadX_n dL_law_409 rfl ?_
  refine g_iload_n dL_law_410 rfl (fun _ => ?_)
  refine g_iconst dL_law_411 (inR_c rfl) ?_
  refine g_iaddB dL_law_412 (by omega) (by omega) ?_
  refine g_sldB dL_law_413 (by omega) (by omega) (fun v17 ev17 bv17 cv17 => ?_)
  refine g_aloadX_n dL_law_414 rfl ?_
  refine g_iload_n dL_law_415 rfl (fun _ => ?_)
  refine g_iconst dL_law_416 (inR_c rfl) ?_
  refine g_iaddB dL_law_417 (by omega) (by omega) ?_
  refine g_sldB dL_law_418 (by omega) (by omega) (fun v18 ev18 bv18 cv18 => ?_)
  refine g_if_eq 426 dL_law_419 (by decide) (fun q19 => ?_) (fun q19 => ?_)
  · skip
    refine g_iconst dL_law_426 (inR_c rfl) ?_
    have q20 : h 2 0 = v1 := ev1.symm
    have q21 : h 6 0 = v2 := ev2.symm
    have q22 : h 12 0 = v3 := ev3.symm
    have q23 : h 42 0 = v4 := ev4.symm
    have q24 : h 46 0 = v5 := ev5.symm
    have q25 : h 52 0 = v6 := ev6.symm
    have q26 : h 0 12 = v7 := ev7.symm
    have q27 : h 98 2 = v8 := ev8.symm
    have q28 : h 98 3 = v9 := ev9.symm
    have q29 : h 98 4 = v10 := ev10.symm
    have q30 : h 98 5 = v11 := ev11.symm
    have q31 : h 145 6 = v12 := ev12.symm
    have q32 : h 145 7 = v13 := ev13.symm
    have q33 : h 145 8 = v14 := ev14.symm
    have q34 : h 145 9 = v15 := ev15.symm
    have q35 : h 98 79 = v16 := ev16.symm
    refine g_cV (as := [_, _]) (c_X11_snow_0 _ _ h hX (by omega) (by omega) (by omega) (by omega)) dL_law_427 mi_X11_snow in_X11_snow se_X11_snow ml_L_42 rfl rfl rfl sh_0 rfl rfl (Nat.le_of_ble_eq_true rfl) (fun v36 h37 q38 => ?_)
    obtain ⟨hMh37, hFh37, bv36, cv36, zv36⟩ := q38
    refine g_aload_n dL_law_430 rfl ?_
    refine g_aloadX_n dL_law_431 rfl ?_
    refine g_iload_n dL_law_432 rfl (fun _ => ?_)
    refine g_iconst dL_law_433 (inR_c rfl) ?_
    refine g_iaddB dL_law_434 (by omega) (by omega) ?_
    refine g_sldE dL_law_435 (by omega) (by omega) ev17 ?_
    refine g_aloadX_n dL_law_436 rfl ?_
    refine g_iload_n dL_law_437 rfl (fun _ => ?_)
    refine g_iconst dL_law_438 (inR_c rfl) ?_
    refine g_iaddB dL_law_439 (by omega) (by omega) ?_
    refine g_sldE dL_law_440 (by omega) (by omega) ev18 ?_
    refine g_if_eq 448 dL_law_441 (by decide) (fun q39 => ?_) (fun _ => by exfalso; omega)
    refine g_iconst dL_law_448 (inR_c rfl) ?_
    have q40 : h37 2 0 = v1 := ((hFh37 2 0 rfl).trans ev1.symm)
    have q41 : h37 6 0 = v2 := ((hFh37 6 0 rfl).trans ev2.symm)
    have q42 : h37 12 0 = v3 := ((hFh37 12 0 rfl).trans ev3.symm)
    have q43 : h37 42 0 = v4 := ((hFh37 42 0 rfl).trans ev4.symm)
    have q44 : h37 46 0 = v5 := ((hFh37 46 0 rfl).trans ev5.symm)
    have q45 : h37 52 0 = v6 := ((hFh37 52 0 rfl).trans ev6.symm)
    have q46 : h37 0 12 = v7 := ((hFh37 0 12 rfl).trans ev7.symm)
    have q47 : h37 98 2 = v8 := ((hFh37 98 2 rfl).trans ev8.symm)
    have q48 : h37 98 3 = v9 := ((hFh37 98 3 rfl).trans ev9.symm)
    have q49 : h37 98 4 = v10 := ((hFh37 98 4 rfl).trans ev10.symm)
    have q50 : h37 98 5 = v11 := ((hFh37 98 5 rfl).trans ev11.symm)
    have q51 : h37 145 6 = v12 := ((hFh37 145 _ rfl).trans ev12.symm)
    have q52 : h37 145 7 = v13 := ((hFh37 145 _ rfl).trans ev13.symm)
    have q53 : h37 145 8 = v14 := ((hFh37 145 _ rfl).trans ev14.symm)
    have q54 : h37 145 9 = v15 := ((hFh37 145 _ rfl).trans ev15.symm)
    have q55 : h37 98 79 = v16 := ((hFh37 98 79 rfl).trans ev16.symm)
    refine g_cV (as := [_, _]) (c_X12_snow_98 _ _ h37 (MBm.fr (T := [(19, 0)]) hMm (Fr.sub hFh37 rfl) rfl) (by omega) (by omega) (by omega) (by omega)) dL_law_449 mi_X12_snow in_X12_snow se_X12_snow ml_L_46 rfl rfl rfl sh_98 rfl rfl (Nat.le_of_ble_eq_true rfl) (fun v56 h57 q58 => ?_)
    obtain ⟨hMh57, hFh57, bv56, cv56, zv56⟩ := q58
    obtain ⟨se, g2, s1, s2⟩ := SNQ_eq zv36 zv56 hXW (IS_AS (hIS.fr (T := [(19, 0)]) hFh37 rfl))
    refine g_icmp_eq 1216 dL_law_452 (by decide) (fun _ => ?_) (fun q => absurd (by omega) q)
    have q59 : h57 2 0 = v1 := ((hFh57 2 0 rfl).trans ((hFh37 2 0 rfl).trans ev1.symm))
    have q60 : h57 6 0 = v2 := ((hFh57 6 0 rfl).trans ((hFh37 6 0 rfl).trans ev2.symm))
    have q61 : h57 12 0 = v3 := ((hFh57 12 0 rfl).trans ((hFh37 12 0 rfl).trans ev3.symm))
    have q62 : h57 42 0 = v4 := ((hFh57 42 0 rfl).trans ((hFh37 42 0 rfl).trans ev4.symm))
    have q63 : h57 46 0 = v5 := ((hFh57 46 0 rfl).trans ((hFh37 46 0 rfl).trans ev5.symm))
    have q64 : h57 52 0 = v6 := ((hFh57 52 0 rfl).trans ((hFh37 52 0 rfl).trans ev6.symm))
    have q65 : h57 0 12 = v7 := ((hFh57 0 12 rfl).trans ((hFh37 0 12 rfl).trans ev7.symm))
    have q66 : h57 98 2 = v8 := ((hFh57 98 2 rfl).trans ((hFh37 98 2 rfl).trans ev8.symm))
    have q67 : h57 98 3 = v9 := ((hFh57 98 3 rfl).trans ((hFh37 98 3 rfl).trans ev9.symm))
    have q68 : h57 98 4 = v10 := ((hFh57 98 4 rfl).trans ((hFh37 98 4 rfl).trans ev10.symm))
    have q69 : h57 98 5 = v11 := ((hFh57 98 5 rfl).trans ((hFh37 98 5 rfl).trans ev11.symm))
    have q70 : h57 145 6 = v12 := ((hFh57 145 _ rfl).trans ((hFh37 145 _ rfl).trans ev12.symm))
    have q71 : h57 145 7 = v13 := ((hFh57 145 _ rfl).trans ((hFh37 145 _ rfl).trans ev13.symm))
    have q72 : h57 145 8 = v14 := ((hFh57 145 _ rfl).trans ((hFh37 145 _ rfl).trans ev14.symm))
    have q73 : h57 145 9 = v15 := ((hFh57 145 _ rfl).trans ((hFh37 145 _ rfl).trans ev15.symm))
    have q74 : h57 98 79 = v16 := ((hFh57 98 79 rfl).trans ((hFh37 98 79 rfl).trans ev16.symm))
    exact kk _ ⟨⟨(MBx.fr (T := [(114, 0)]) hMh37 (Fr.sub hFh57 rfl) rfl), hMh57, (LD.fr (T := [(19, 0), (114, 0)]) hLD (Fr.tr (Fr.sub hFh37 rfl) hFh57 rfl) rfl), (WFL.fr (T := [(19, 0), (114, 0)]) hWF (Fr.tr (Fr.sub hFh37 rfl) hFh57 rfl) rfl)⟩, by omega, g2, gs, (ASn.fr (T := [(114, 0)]) s1 (Fr.sub hFh57 rfl) rfl), (AS_IS s2), (ASn.fr (T := [(19, 0), (114, 0)]) hXK (Fr.tr (Fr.sub hFh37 rfl) hFh57 rfl) rfl), (S1n.fr (T := [(19, 0), (114, 0)]) hS1 (Fr.tr (Fr.sub hFh37 rfl) hFh57 rfl) rfl)⟩
  · skip
    refine g_iconst dL_law_422 (inR_c rfl) ?_
    refine g_goto 427 dL_law_423 (by decide) ?_
    have q75 : h 2 0 = v1 := ev1.symm
    have q76 : h 6 0 = v2 := ev2.symm
    have q77 : h 12 0 = v3 := ev3.symm
    have q78 : h 42 0 = v4 := ev4.symm
    have q79 : h 46 0 = v5 := ev5.symm
    have q80 : h 52 0 = v6 := ev6.symm
    have q81 : h 0 12 = v7 := ev7.symm
    have q82 : h 98 2 = v8 := ev8.symm
    have q83 : h 98 3 = v9 := ev9.symm
    have q84 : h 98 4 = v10 := ev10.symm
    have q85 : h 98 5 = v11 := ev11.symm
    have q86 : h 145 6 = v12 := ev12.symm
    have q87 : h 145 7 = v13 := ev13.symm
    have q88 : h 145 8 = v14 := ev14.symm
    have q89 : h 145 9 = v15 := ev15.symm
    have q90 : h 98 79 = v16 := ev16.symm
    refine g_cV (as := [_, _]) (c_X11_snow_0 _ _ h hX (by omega) (by omega) (by omega) (by omega)) dL_law_427 mi_X11_snow in_X11_snow se_X11_snow ml_L_42 rfl rfl rfl sh_0 rfl rfl (Nat.le_of_ble_eq_true rfl) (fun v91 h92 q93 => ?_)
    obtain ⟨hMh92, hFh92, bv91, cv91, zv91⟩ := q93
    refine g_aload_n dL_law_430 rfl ?_
    refine g_aloadX_n dL_law_431 rfl ?_
    refine g_iload_n dL_law_432 rfl (fun _ => ?_)
    refine g_iconst dL_law_433 (inR_c rfl) ?_
    refine g_iaddB dL_law_434 (by omega) (by omega) ?_
    refine g_sldE dL_law_435 (by omega) (by omega) ev17 ?_
    refine g_aloadX_n dL_law_436 rfl ?_
    refine g_iload_n dL_law_437 rfl (fun _ => ?_)
    refine g_iconst dL_law_438 (inR_c rfl) ?_
    refine g_iaddB dL_law_439 (by omega) (by omega) ?_
    refine g_sldE dL_law_440 (by omega) (by omega) ev18 ?_
    refine g_if_eq 448 dL_law_441 (by decide) (fun _ => by exfalso; omega) (fun q94 => ?_)
    refine g_iconst dL_law_444 (inR_c rfl) ?_
    refine g_goto 449 dL_law_445 (by decide) ?_
    have q95 : h92 2 0 = v1 := ((hFh92 2 0 rfl).trans ev1.symm)
    have q96 : h92 6 0 = v2 := ((hFh92 6 0 rfl).trans ev2.symm)
    have q97 : h92 12 0 = v3 := ((hFh92 12 0 rfl).trans ev3.symm)
    have q98 : h92 42 0 = v4 := ((hFh92 42 0 rfl).trans ev4.symm)
    have q99 : h92 46 0 = v5 := ((hFh92 46 0 rfl).trans ev5.symm)
    have q100 : h92 52 0 = v6 := ((hFh92 52 0 rfl).trans ev6.symm)
    have q101 : h92 0 12 = v7 := ((hFh92 0 12 rfl).trans ev7.symm)
    have q102 : h92 98 2 = v8 := ((hFh92 98 2 rfl).trans ev8.symm)
    have q103 : h92 98 3 = v9 := ((hFh92 98 3 rfl).trans ev9.symm)
    have q104 : h92 98 4 = v10 := ((hFh92 98 4 rfl).trans ev10.symm)
    have q105 : h92 98 5 = v11 := ((hFh92 98 5 rfl).trans ev11.symm)
    have q106 : h92 145 6 = v12 := ((hFh92 145 _ rfl).trans ev12.symm)
    have q107 : h92 145 7 = v13 := ((hFh92 145 _ rfl).trans ev13.symm)
    have q108 : h92 145 8 = v14 := ((hFh92 145 _ rfl).trans ev14.symm)
    have q109 : h92 145 9 = v15 := ((hFh92 145 _ rfl).trans ev15.symm)
    have q110 : h92 98 79 = v16 := ((hFh92 98 79 rfl).trans ev16.symm)
    refine g_cV (as := [_, _]) (c_X12_snow_98 _ _ h92 (MBm.fr (T := [(19, 0)]) hMm (Fr.sub hFh92 rfl) rfl) (by omega) (by omega) (by omega) (by omega)) dL_law_449 mi_X12_snow in_X12_snow se_X12_snow ml_L_46 rfl rfl rfl sh_98 rfl rfl (Nat.le_of_ble_eq_true rfl) (fun v111 h112 q113 => ?_)
    obtain ⟨hMh112, hFh112, bv111, cv111, zv111⟩ := q113
    obtain ⟨se, g2, s1, s2⟩ := SNQ_eq zv91 zv111 hXW (IS_AS (hIS.fr (T := [(19, 0)]) hFh92 rfl))
    refine g_icmp_eq 1216 dL_law_452 (by decide) (fun _ => ?_) (fun q => absurd (by omega) q)
    have q114 : h112 2 0 = v1 := ((hFh112 2 0 rfl).trans ((hFh92 2 0 rfl).trans ev1.symm))
    have q115 : h112 6 0 = v2 := ((hFh112 6 0 rfl).trans ((hFh92 6 0 rfl).trans ev2.symm))
    have q116 : h112 12 0 = v3 := ((hFh112 12 0 rfl).trans ((hFh92 12 0 rfl).trans ev3.symm))
    have q117 : h112 42 0 = v4 := ((hFh112 42 0 rfl).trans ((hFh92 42 0 rfl).trans ev4.symm))
    have q118 : h112 46 0 = v5 := ((hFh112 46 0 rfl).trans ((hFh92 46 0 rfl).trans ev5.symm))
    have q119 : h112 52 0 = v6 := ((hFh112 52 0 rfl).trans ((hFh92 52 0 rfl).trans ev6.symm))
    have q120 : h112 0 12 = v7 := ((hFh112 0 12 rfl).trans ((hFh92 0 12 rfl).trans ev7.symm))
    have q121 : h112 98 2 = v8 := ((hFh112 98 2 rfl).trans ((hFh92 98 2 rfl).trans ev8.symm))
    have q122 : h112 98 3 = v9 := ((hFh112 98 3 rfl).trans ((hFh92 98 3 rfl).trans ev9.symm))
    have q123 : h112 98 4 = v10 := ((hFh112 98 4 rfl).trans ((hFh92 98 4 rfl).trans ev10.symm))
    have q124 : h112 98 5 = v11 := ((hFh112 98 5 rfl).trans ((hFh92 98 5 rfl).trans ev11.symm))
    have q125 : h112 145 6 = v12 := ((hFh112 145 _ rfl).trans ((hFh92 145 _ rfl).trans ev12.symm))
    have q126 : h112 145 7 = v13 := ((hFh112 145 _ rfl).trans ((hFh92 145 _ rfl).trans ev13.symm))
    have q127 : h112 145 8 = v14 := ((hFh112 145 _ rfl).trans ((hFh92 145 _ rfl).trans ev14.symm))
    have q128 : h112 145 9 = v15 := ((hFh112 145 _ rfl).trans ((hFh92 145 _ rfl).trans ev15.symm))
    have q129 : h112 98 79 = v16 := ((hFh112 98 79 rfl).trans ((hFh92 98 79 rfl).trans ev16.symm))
    exact kk _ ⟨⟨(MBx.fr (T := [(114, 0)]) hMh92 (Fr.sub hFh112 rfl) rfl), hMh112, (LD.fr (T := [(19, 0), (114, 0)]) hLD (Fr.tr (Fr.sub hFh92 rfl) hFh112 rfl) rfl), (WFL.fr (T := [(19, 0), (114, 0)]) hWF (Fr.tr (Fr.sub hFh92 rfl) hFh112 rfl) rfl)⟩, by omega, g2, gs, (ASn.fr (T := [(114, 0)]) s1 (Fr.sub hFh112 rfl) rfl), (AS_IS s2), (ASn.fr (T := [(19, 0), (114, 0)]) hXK (Fr.tr (Fr.sub hFh92 rfl) hFh112 rfl) rfl), (S1n.fr (T := [(19, 0), (114, 0)]) hS1 (Fr.tr (Fr.sub hFh92 rfl) hFh112 rfl) rfl)⟩
set_option maxRecDepth 100000 in
set_option maxHeartbeats 8000000 in
theorem law_case_7 (xs : List Int) (Po : Option PV → List SE → MEM → Prop) (i : Int) (h : MEM) (I : INV i h) (hi : i + 6 ≤ xs.length) (hN : xs.length ≤ 3072) (kk : ∀ h' : MEM, INV (i + 6) h' → G x cL_law 4 (some .boolean) (some xs) Po (2048, 84000, 600000, 7302250) 1216 [some pX, some (pR 0), some (pR 98), some (pI i)] [] SH h' 151 10868) : G x cL_law 4 (some .boolean) (some xs) Po (2048, 84000, 600000, 7302250) 457 [some pX, some (pR 0), some (pR 98), some (pI i)] [] SH h 151 10868 := by
  obtain ⟨⟨hX, hMm, hLD, hWF⟩, hI, gi, gs, hXW, hIS, hXK, hS1⟩ := I
  obtain ⟨v1, ev1⟩ : ∃ z, z = h 2 0 := ⟨_, rfl⟩
  have bv1 : 0 ≤ v1 ∧ v1 ≤ 10 := by rw [ev1]; exact (m_2_0 hX)
  obtain ⟨v2, ev2⟩ : ∃ z, z = h 6 0 := ⟨_, rfl⟩
  have bv2 : 0 ≤ v2 ∧ v2 ≤ 8 := by rw [ev2]; exact (m_6_0 hX)
  obtain ⟨v3, ev3⟩ : ∃ z, z = h 12 0 := ⟨_, rfl⟩
  have bv3 : 0 ≤ v3 ∧ v3 ≤ 8 := by rw [ev3]; exact (m_12_0 hX)
  obtain ⟨v4, ev4⟩ : ∃ z, z = h 42 0 := ⟨_, rfl⟩
  have bv4 : 0 ≤ v4 ∧ v4 ≤ 10 := by rw [ev4]; exact (m_42_0 hX)
  obtain ⟨v5, ev5⟩ : ∃ z, z = h 46 0 := ⟨_, rfl⟩
  have bv5 : 0 ≤ v5 ∧ v5 ≤ 8 := by rw [ev5]; exact (m_46_0 hX)
  obtain ⟨v6, ev6⟩ : ∃ z, z = h 52 0 := ⟨_, rfl⟩
  have bv6 : 0 ≤ v6 ∧ v6 ≤ 8 := by rw [ev6]; exact (m_52_0 hX)
  obtain ⟨v7, ev7⟩ : ∃ z, z = h 0 12 := ⟨_, rfl⟩
  have bv7 : 0 ≤ v7 ∧ v7 ≤ 1 := by rw [ev7]; exact (m_0_12 hX)
  obtain ⟨v8, ev8⟩ : ∃ z, z = h 98 2 := ⟨_, rfl⟩
  have bv8 : 0 ≤ v8 ∧ v8 ≤ 10 := by rw [ev8]; exact (m_98_2 hMm)
  obtain ⟨v9, ev9⟩ : ∃ z, z = h 98 3 := ⟨_, rfl⟩
  have bv9 : 0 ≤ v9 ∧ v9 ≤ 8 := by rw [ev9]; exact (m_98_3 hMm)
  obtain ⟨v10, ev10⟩ : ∃ z, z = h 98 4 := ⟨_, rfl⟩
  have bv10 : 0 ≤ v10 ∧ v10 ≤ 8 := by rw [ev10]; exact (m_98_4 hMm)
  obtain ⟨v11, ev11⟩ : ∃ z, z = h 98 5 := ⟨_, rfl⟩
  have bv11 : 0 ≤ v11 ∧ v11 ≤ 2000000000 := by rw [ev11]; exact (m_98_5 hMm)
  obtain ⟨v12, ev12⟩ : ∃ z, z = h 145 6 := ⟨_, rfl⟩
  have bv12 : 0 ≤ v12 ∧ v12 ≤ 10 := by rw [ev12]; exact (m_145_6 hMm)
  obtain ⟨v13, ev13⟩ : ∃ z, z = h 145 7 := ⟨_, rfl⟩
  have bv13 : 0 ≤ v13 ∧ v13 ≤ 8 := by rw [ev13]; exact (m_145_7 hMm)
  obtain ⟨v14, ev14⟩ : ∃ z, z = h 145 8 := ⟨_, rfl⟩
  have bv14 : 0 ≤ v14 ∧ v14 ≤ 8 := by rw [ev14]; exact (m_145_8 hMm)
  obtain ⟨v15, ev15⟩ : ∃ z, z = h 145 9 := ⟨_, rfl⟩
  have bv15 : 0 ≤ v15 ∧ v15 ≤ 2000000000 := by rw [ev15]; exact (m_145_9 hMm)
  obtain ⟨v16, ev16⟩ : ∃ z, z = h 98 79 := ⟨_, rfl⟩
  have bv16 : 0 ≤ v16 ∧ v16 ≤ 1 := by rw [ev16]; exact (m_98_79 hMm)
  refine g_aload_n dL_law_457 rfl ?_
  refine g_aloadX_n dL_law_458 rfl ?_
  refine g_iload_n dL_law_459 rfl (fun _ => ?_)
  refine g_iconst dL_law_460 (inR_c rfl) ?_
  refine g_iaddB dL_law_461 (by omega) (by omega) ?_
  refine g_sldB dL_law_462 (by omega) (by omega) (fun v17 ev17 bv17 cv17 => ?_)
  refine g_aloadX_n dL_law_463 rfl ?_
  refine g_iload_n dL_law_464 rfl (fun _ => ?_)
  refine g_iconst dL_law_465 (inR_c rfl) ?_
  refine g_iaddB dL_law_466 (by omega) (by omega) ?_
  refine g_sldB dL_law_467 (by omega) (by omega) (fun v18 ev18 bv18 cv18 => ?_)
  refine g_aloadX_n dL_law_468 rfl ?_
  refine g_iload_n dL_law_469 rfl (fun _ => ?_)
  refine g_iconst dL_law_470 (inR_c rfl) ?_
  refine g_iaddB dL_law_471 (by omega) (by omega) ?_
  refine g_sldB dL_law_472 (by omega) (by omega) (fun v19 ev19 bv19 cv19 => ?_)
  refine g_aloadX_n dL_law_473 rfl ?_
  refine g_iload_n dL_law_474 rfl (fun _ => ?_)
  refine g_iconst dL_law_475 (inR_c rfl) ?_
  refine g_iaddB dL_law_476 (by omega) (by omega) ?_
  refine g_sldB dL_law_477 (by omega) (by omega) (fun v20 ev20 bv20 cv20 => ?_)
  refine g_aloadX_n dL_law_478 rfl ?_
  refine g_iload_n dL_law_479 rfl (fun _ => ?_)
  refine g_iconst dL_law_480 (inR_c rfl) ?_
  refine g_iaddB dL_law_481 (by omega) (by omega) ?_
  refine g_sldB dL_law_482 (by omega) (by omega) (fun v21 ev21 bv21 cv21 => ?_)
  have q22 : h 2 0 = v1 := ev1.symm
  have q23 : h 6 0 = v2 := ev2.symm
  have q24 : h 12 0 = v3 := ev3.symm
  have q25 : h 42 0 = v4 := ev4.symm
  have q26 : h 46 0 = v5 := ev5.symm
  have q27 : h 52 0 = v6 := ev6.symm
  have q28 : h 0 12 = v7 := ev7.symm
  have q29 : h 98 2 = v8 := ev8.symm
  have q30 : h 98 3 = v9 := ev9.symm
  have q31 : h 98 4 = v10 := ev10.symm
  have q32 : h 98 5 = v11 := ev11.symm
  have q33 : h 145 6 = v12 := ev12.symm
  have q34 : h 145 7 = v13 := ev13.symm
  have q35 : h 145 8 = v14 := ev14.symm
  have q36 : h 145 9 = v15 := ev15.symm
  have q37 : h 98 79 = v16 := ev16.symm
  refine g_cV (as := [_, _, _, _, _]) (c_X11_feed_0 _ _ _ _ _ h hX (by omega) (by omega) (by omega) (by omega) (by omega) (by omega) (by omega) (by omega) (by omega) (by omega)) dL_law_483 mi_X11_feed in_X11_feed se_X11_feed ml_L_47 rfl rfl rfl sh_0 rfl rfl (Nat.le_of_ble_eq_true rfl) (fun v38 h39 q40 => ?_)
  obtain ⟨hMh39, hFh39, bv38, cv38⟩ := q40
  refine g_pop dL_law_486 rfl ?_
  refine g_aload_n dL_law_487 rfl ?_
  refine g_aloadX_n dL_law_488 rfl ?_
  refine g_iload_n dL_law_489 rfl (fun _ => ?_)
  refine g_iconst dL_law_490 (inR_c rfl) ?_
  refine g_iaddB dL_law_491 (by omega) (by omega) ?_
  refine g_sldE dL_law_492 (by omega) (by omega) ev17 ?_
  refine g_aloadX_n dL_law_493 rfl ?_
  refine g_iload_n dL_law_494 rfl (fun _ => ?_)
  refine g_iconst dL_law_495 (inR_c rfl) ?_
  refine g_iaddB dL_law_496 (by omega) (by omega) ?_
  refine g_sldE dL_law_497 (by omega) (by omega) ev18 ?_
  refine g_aloadX_n dL_law_498 rfl ?_
  refine g_iload_n dL_law_499 rfl (fun _ => ?_)
  refine g_iconst dL_law_500 (inR_c rfl) ?_
  refine g_iaddB dL_law_501 (by omega) (by omega) ?_
  refine g_sldE dL_law_502 (by omega) (by omega) ev19 ?_
  refine g_aloadX_n dL_law_503 rfl ?_
  refine g_iload_n dL_law_504 rfl (fun _ => ?_)
  refine g_iconst dL_law_505 (inR_c rfl) ?_
  refine g_iaddB dL_law_506 (by omega) (by omega) ?_
  refine g_sldE dL_law_507 (by omega) (by omega) ev20 ?_
  refine g_aloadX_n dL_law_508 rfl ?_
  refine g_iload_n dL_law_509 rfl (fun _ => ?_)
  refine g_iconst dL_law_510 (inR_c rfl) ?_
  refine g_iaddB dL_law_511 (by omega) (by omega) ?_
  refine g_sldE dL_law_512 (by omega) (by omega) ev21 ?_
  have q41 : h39 2 0 = v1 := ((hFh39 2 0 rfl).trans ev1.symm)
  have q42 : h39 6 0 = v2 := ((hFh39 6 0 rfl).trans ev2.symm)
  have q43 : h39 12 0 = v3 := ((hFh39 12 0 rfl).trans ev3.symm)
  have q44 : h39 42 0 = v4 := ((hFh39 42 0 rfl).trans ev4.symm)
  have q45 : h39 46 0 = v5 := ((hFh39 46 0 rfl).trans ev5.symm)
  have q46 : h39 52 0 = v6 := ((hFh39 52 0 rfl).trans ev6.symm)
  have q47 : h39 0 12 = v7 := ((hFh39 0 12 rfl).trans ev7.symm)
  have q48 : h39 98 2 = v8 := ((hFh39 98 2 rfl).trans ev8.symm)
  have q49 : h39 98 3 = v9 := ((hFh39 98 3 rfl).trans ev9.symm)
  have q50 : h39 98 4 = v10 := ((hFh39 98 4 rfl).trans ev10.symm)
  have q51 : h39 98 5 = v11 := ((hFh39 98 5 rfl).trans ev11.symm)
  have q52 : h39 145 6 = v12 := ((hFh39 145 _ rfl).trans ev12.symm)
  have q53 : h39 145 7 = v13 := ((hFh39 145 _ rfl).trans ev13.symm)
  have q54 : h39 145 8 = v14 := ((hFh39 145 _ rfl).trans ev14.symm)
  have q55 : h39 145 9 = v15 := ((hFh39 145 _ rfl).trans ev15.symm)
  have q56 : h39 98 79 = v16 := ((hFh39 98 79 rfl).trans ev16.symm)
  refine g_cV (as := [_, _, _, _, _]) (c_X12_feed_98 _ _ _ _ _ h39 (MBm.fr (T := [(61, 1), (62, 0)]) hMm (Fr.sub hFh39 rfl) rfl) (by omega) (by omega) (by omega) (by omega) (by omega) (by omega) (by omega) (by omega) (by omega) (by omega)) dL_law_513 mi_X12_feed in_X12_feed se_X12_feed ml_L_51 rfl rfl rfl sh_98 rfl rfl (Nat.le_of_ble_eq_true rfl) (fun v57 h58 q59 => ?_)
  obtain ⟨hMh58, hFh58, bv57, cv57⟩ := q59
  refine g_pop dL_law_516 rfl ?_
  refine g_goto 1216 dL_law_517 (by decide) ?_
  have q60 : h58 2 0 = v1 := ((hFh58 2 0 rfl).trans ((hFh39 2 0 rfl).trans ev1.symm))
  have q61 : h58 6 0 = v2 := ((hFh58 6 0 rfl).trans ((hFh39 6 0 rfl).trans ev2.symm))
  have q62 : h58 12 0 = v3 := ((hFh58 12 0 rfl).trans ((hFh39 12 0 rfl).trans ev3.symm))
  have q63 : h58 42 0 = v4 := ((hFh58 42 0 rfl).trans ((hFh39 42 0 rfl).trans ev4.symm))
  have q64 : h58 46 0 = v5 := ((hFh58 46 0 rfl).trans ((hFh39 46 0 rfl).trans ev5.symm))
  have q65 : h58 52 0 = v6 := ((hFh58 52 0 rfl).trans ((hFh39 52 0 rfl).trans ev6.symm))
  have q66 : h58 0 12 = v7 := ((hFh58 0 12 rfl).trans ((hFh39 0 12 rfl).trans ev7.symm))
  have q67 : h58 98 2 = v8 := ((hFh58 98 2 rfl).trans ((hFh39 98 2 rfl).trans ev8.symm))
  have q68 : h58 98 3 = v9 := ((hFh58 98 3 rfl).trans ((hFh39 98 3 rfl).trans ev9.symm))
  have q69 : h58 98 4 = v10 := ((hFh58 98 4 rfl).trans ((hFh39 98 4 rfl).trans ev10.symm))
  have q70 : h58 98 5 = v11 := ((hFh58 98 5 rfl).trans ((hFh39 98 5 rfl).trans ev11.symm))
  have q71 : h58 145 6 = v12 := ((hFh58 145 _ rfl).trans ((hFh39 145 _ rfl).trans ev12.symm))
  have q72 : h58 145 7 = v13 := ((hFh58 145 _ rfl).trans ((hFh39 145 _ rfl).trans ev13.symm))
  have q73 : h58 145 8 = v14 := ((hFh58 145 _ rfl).trans ((hFh39 145 _ rfl).trans ev14.symm))
  have q74 : h58 145 9 = v15 := ((hFh58 145 _ rfl).trans ((hFh39 145 _ rfl).trans ev15.symm))
  have q75 : h58 98 79 = v16 := ((hFh58 98 79 rfl).trans ((hFh39 98 79 rfl).trans ev16.symm))
  exact kk _ ⟨⟨(MBx.fr (T := [(98, 2), (99, 0)]) hMh39 (Fr.sub hFh58 rfl) rfl), hMh58, (LD.fr (T := [(61, 1), (62, 0), (98, 2), (99, 0)]) hLD (Fr.tr (Fr.sub hFh39 rfl) hFh58 rfl) rfl), (WFL.fr (T := [(61, 1), (62, 0), (98, 2), (99, 0)]) hWF (Fr.tr (Fr.sub hFh39 rfl) hFh58 rfl) rfl)⟩, by omega, gi, gs, (ASn.fr (T := [(61, 1), (62, 0), (98, 2), (99, 0)]) hXW (Fr.tr (Fr.sub hFh39 rfl) hFh58 rfl) rfl), (ISn.fr (T := [(61, 1), (62, 0), (98, 2), (99, 0)]) hIS (Fr.tr (Fr.sub hFh39 rfl) hFh58 rfl) rfl), (ASn.fr (T := [(61, 1), (62, 0), (98, 2), (99, 0)]) hXK (Fr.tr (Fr.sub hFh39 rfl) hFh58 rfl) rfl), (S1n.fr (T := [(61, 1), (62, 0), (98, 2), (99, 0)]) hS1 (Fr.tr (Fr.sub hFh39 rfl) hFh58 rfl) rfl)⟩
set_option maxRecDepth 100000 in
set_option maxHeartbeats 8000000 in
theorem law_case_8 (xs : List Int) (Po : Option PV → List SE → MEM → Prop) (i : Int) (h : MEM) (I : INV i h) (hi : i + 6 ≤ xs.length) (hN : xs.length ≤ 3072) (kk : ∀ h' : MEM, INV (i + 6) h' → G x cL_law 4 (some .boolean) (some xs) Po (2048, 84000, 600000, 7302250) 1216 [some pX, some (pR 0), some (pR 98), some (pI i)] [] SH h' 151 10868) : G x cL_law 4 (some .boolean) (some xs) Po (2048, 84000, 600000, 7302250) 520 [some pX, some (pR 0), some (pR 98), some (pI i)] [] SH h 151 10868 := by
  obtain ⟨⟨hX, hMm, hLD, hWF⟩, hI, gi, gs, hXW, hIS, hXK, hS1⟩ := I
  obtain ⟨v1, ev1⟩ : ∃ z, z = h 2 0 := ⟨_, rfl⟩
  have bv1 : 0 ≤ v1 ∧ v1 ≤ 10 := by rw [ev1]; exact (m_2_0 hX)
  obtain ⟨v2, ev2⟩ : ∃ z, z = h 6 0 := ⟨_, rfl⟩
  have bv2 : 0 ≤ v2 ∧ v2 ≤ 8 := by rw [ev2]; exact (m_6_0 hX)
  obtain ⟨v3, ev3⟩ : ∃ z, z = h 12 0 := ⟨_, rfl⟩
  have bv3 : 0 ≤ v3 ∧ v3 ≤ 8 := by rw [ev3]; exact (m_12_0 hX)
  obtain ⟨v4, ev4⟩ : ∃ z, z = h 42 0 := ⟨_, rfl⟩
  have bv4 : 0 ≤ v4 ∧ v4 ≤ 10 := by rw [ev4]; exact (m_42_0 hX)
  obtain ⟨v5, ev5⟩ : ∃ z, z = h 46 0 := ⟨_, rfl⟩
  have bv5 : 0 ≤ v5 ∧ v5 ≤ 8 := by rw [ev5]; exact (m_46_0 hX)
  obtain ⟨v6, ev6⟩ : ∃ z, z = h 52 0 := ⟨_, rfl⟩
  have bv6 : 0 ≤ v6 ∧ v6 ≤ 8 := by rw [ev6]; exact (m_52_0 hX)
  obtain ⟨v7, ev7⟩ : ∃ z, z = h 0 12 := ⟨_, rfl⟩
  have bv7 : 0 ≤ v7 ∧ v7 ≤ 1 := by rw [ev7]; exact (m_0_12 hX)
  obtain ⟨v8, ev8⟩ : ∃ z, z = h 98 2 := ⟨_, rfl⟩
  have bv8 : 0 ≤ v8 ∧ v8 ≤ 10 := by rw [ev8]; exact (m_98_2 hMm)
  obtain ⟨v9, ev9⟩ : ∃ z, z = h 98 3 := ⟨_, rfl⟩
  have bv9 : 0 ≤ v9 ∧ v9 ≤ 8 := by rw [ev9]; exact (m_98_3 hMm)
  obtain ⟨v10, ev10⟩ : ∃ z, z = h 98 4 := ⟨_, rfl⟩
  have bv10 : 0 ≤ v10 ∧ v10 ≤ 8 := by rw [ev10]; exact (m_98_4 hMm)
  obtain ⟨v11, ev11⟩ : ∃ z, z = h 98 5 := ⟨_, rfl⟩
  have bv11 : 0 ≤ v11 ∧ v11 ≤ 2000000000 := by rw [ev11]; exact (m_98_5 hMm)
  obtain ⟨v12, ev12⟩ : ∃ z, z = h 145 6 := ⟨_, rfl⟩
  have bv12 : 0 ≤ v12 ∧ v12 ≤ 10 := by rw [ev12]; exact (m_145_6 hMm)
  obtain ⟨v13, ev13⟩ : ∃ z, z = h 145 7 := ⟨_, rfl⟩
  have bv13 : 0 ≤ v13 ∧ v13 ≤ 8 := by rw [ev13]; exact (m_145_7 hMm)
  obtain ⟨v14, ev14⟩ : ∃ z, z = h 145 8 := ⟨_, rfl⟩
  have bv14 : 0 ≤ v14 ∧ v14 ≤ 8 := by rw [ev14]; exact (m_145_8 hMm)
  obtain ⟨v15, ev15⟩ : ∃ z, z = h 145 9 := ⟨_, rfl⟩
  have bv15 : 0 ≤ v15 ∧ v15 ≤ 2000000000 := by rw [ev15]; exact (m_145_9 hMm)
  obtain ⟨v16, ev16⟩ : ∃ z, z = h 98 79 := ⟨_, rfl⟩
  have bv16 : 0 ≤ v16 ∧ v16 ≤ 1 := by rw [ev16]; exact (m_98_79 hMm)
  refine g_aload_n dL_law_520 rfl ?_
  refine g_aloadX_n dL_law_521 rfl ?_
  refine g_iload_n dL_law_522 rfl (fun _ => ?_)
  refine g_iconst dL_law_523 (inR_c rfl) ?_
  refine g_iaddB dL_law_524 (by omega) (by omega) ?_
  refine g_sldB dL_law_525 (by omega) (by omega) (fun v17 ev17 bv17 cv17 => ?_)
  have q18 : h 2 0 = v1 := ev1.symm
  have q19 : h 6 0 = v2 := ev2.symm
  have q20 : h 12 0 = v3 := ev3.symm
  have q21 : h 42 0 = v4 := ev4.symm
  have q22 : h 46 0 = v5 := ev5.symm
  have q23 : h 52 0 = v6 := ev6.symm
  have q24 : h 0 12 = v7 := ev7.symm
  have q25 : h 98 2 = v8 := ev8.symm
  have q26 : h 98 3 = v9 := ev9.symm
  have q27 : h 98 4 = v10 := ev10.symm
  have q28 : h 98 5 = v11 := ev11.symm
  have q29 : h 145 6 = v12 := ev12.symm
  have q30 : h 145 7 = v13 := ev13.symm
  have q31 : h 145 8 = v14 := ev14.symm
  have q32 : h 145 9 = v15 := ev15.symm
  have q33 : h 98 79 = v16 := ev16.symm
  refine g_cV (as := [_]) (c_X11_law_0 _ h hX (by omega) (by omega) hLD) dL_law_526 mi_X11_law in_X11_law se_X11_law ml_L_52 rfl rfl rfl sh_0 rfl rfl (Nat.le_of_ble_eq_true rfl) (fun v34 h35 q36 => ?_)
  obtain ⟨hMh35, hFh35, bv34, cv34, z37⟩ := q36
  refine g_pop dL_law_529 rfl ?_
  refine g_aload_n dL_law_530 rfl ?_
  refine g_aloadX_n dL_law_531 rfl ?_
  refine g_iload_n dL_law_532 rfl (fun _ => ?_)
  refine g_iconst dL_law_533 (inR_c rfl) ?_
  refine g_iaddB dL_law_534 (by omega) (by omega) ?_
  refine g_sldE dL_law_535 (by omega) (by omega) ev17 ?_
  have q38 : h35 2 0 = v1 := ((hFh35 2 0 rfl).trans ev1.symm)
  have q39 : h35 6 0 = v2 := ((hFh35 6 0 rfl).trans ev2.symm)
  have q40 : h35 12 0 = v3 := ((hFh35 12 0 rfl).trans ev3.symm)
  have q41 : h35 42 0 = v4 := ((hFh35 42 0 rfl).trans ev4.symm)
  have q42 : h35 46 0 = v5 := ((hFh35 46 0 rfl).trans ev5.symm)
  have q43 : h35 52 0 = v6 := ((hFh35 52 0 rfl).trans ev6.symm)
  have q44 : h35 0 12 = v7 := ((hFh35 0 12 rfl).trans ev7.symm)
  have q45 : h35 98 2 = v8 := ((hFh35 98 2 rfl).trans ev8.symm)
  have q46 : h35 98 3 = v9 := ((hFh35 98 3 rfl).trans ev9.symm)
  have q47 : h35 98 4 = v10 := ((hFh35 98 4 rfl).trans ev10.symm)
  have q48 : h35 98 5 = v11 := ((hFh35 98 5 rfl).trans ev11.symm)
  have q49 : h35 145 6 = v12 := ((hFh35 145 _ rfl).trans ev12.symm)
  have q50 : h35 145 7 = v13 := ((hFh35 145 _ rfl).trans ev13.symm)
  have q51 : h35 145 8 = v14 := ((hFh35 145 _ rfl).trans ev14.symm)
  have q52 : h35 145 9 = v15 := ((hFh35 145 _ rfl).trans ev15.symm)
  have q53 : h35 98 79 = v16 := ((hFh35 98 79 rfl).trans ev16.symm)
  refine g_cV (as := [_]) (c_X12_law_98 _ h35 (MBm.fr (T := [(0, 11), (0, 12), (61, 1), (65, 2), (65, 3), (65, 4), (65, 5), (66, 0), (82, 1), (82, 2), (83, 0), (84, 0), (85, 0), (86, 0), (87, 0), (88, 0), (90, 1), (90, 2), (91, 0), (92, 0), (93, 0), (94, 0), (95, 0), (96, 0)]) hMm (Fr.sub hFh35 rfl) rfl) (by omega) (by omega) (WFL.fr (T := [(0, 11), (0, 12), (61, 1), (65, 2), (65, 3), (65, 4), (65, 5), (66, 0), (82, 1), (82, 2), (83, 0), (84, 0), (85, 0), (86, 0), (87, 0), (88, 0), (90, 1), (90, 2), (91, 0), (92, 0), (93, 0), (94, 0), (95, 0), (96, 0)]) hWF (Fr.sub hFh35 rfl) rfl)) dL_law_536 mi_X12_law in_X12_law se_X12_law ml_L_55 rfl rfl rfl sh_98 rfl rfl (Nat.le_of_ble_eq_true rfl) (fun v54 h55 q56 => ?_)
  obtain ⟨hMh55, hFh55, bv54, cv54, z57⟩ := q56
  refine g_pop dL_law_539 rfl ?_
  refine g_goto 1216 dL_law_540 (by decide) ?_
  have q58 : h55 2 0 = v1 := ((hFh55 2 0 rfl).trans ((hFh35 2 0 rfl).trans ev1.symm))
  have q59 : h55 6 0 = v2 := ((hFh55 6 0 rfl).trans ((hFh35 6 0 rfl).trans ev2.symm))
  have q60 : h55 12 0 = v3 := ((hFh55 12 0 rfl).trans ((hFh35 12 0 rfl).trans ev3.symm))
  have q61 : h55 42 0 = v4 := ((hFh55 42 0 rfl).trans ((hFh35 42 0 rfl).trans ev4.symm))
  have q62 : h55 46 0 = v5 := ((hFh55 46 0 rfl).trans ((hFh35 46 0 rfl).trans ev5.symm))
  have q63 : h55 52 0 = v6 := ((hFh55 52 0 rfl).trans ((hFh35 52 0 rfl).trans ev6.symm))
  have q64 : h55 0 12 = v7 := ((hFh55 0 12 rfl).trans ((hFh35 0 12 rfl).trans ev7.symm))
  have q65 : h55 98 2 = v8 := ((hFh55 98 2 rfl).trans ((hFh35 98 2 rfl).trans ev8.symm))
  have q66 : h55 98 3 = v9 := ((hFh55 98 3 rfl).trans ((hFh35 98 3 rfl).trans ev9.symm))
  have q67 : h55 98 4 = v10 := ((hFh55 98 4 rfl).trans ((hFh35 98 4 rfl).trans ev10.symm))
  have q68 : h55 98 5 = v11 := ((hFh55 98 5 rfl).trans ((hFh35 98 5 rfl).trans ev11.symm))
  have q69 : h55 145 6 = v12 := ((hFh55 145 _ rfl).trans ((hFh35 145 _ rfl).trans ev12.symm))
  have q70 : h55 145 7 = v13 := ((hFh55 145 _ rfl).trans ((hFh35 145 _ rfl).trans ev13.symm))
  have q71 : h55 145 8 = v14 := ((hFh55 145 _ rfl).trans ((hFh35 145 _ rfl).trans ev14.symm))
  have q72 : h55 145 9 = v15 := ((hFh55 145 _ rfl).trans ((hFh35 145 _ rfl).trans ev15.symm))
  have q73 : h55 98 79 = v16 := ((hFh55 98 79 rfl).trans ((hFh35 98 79 rfl).trans ev16.symm))
  exact kk _ ⟨⟨(MBx.fr (T := [(98, 2), (98, 24), (98, 37), (98, 38), (98, 39), (98, 40), (98, 41), (98, 42), (98, 43), (98, 44), (98, 45), (115, 0), (116, 0), (117, 0), (118, 0), (119, 0), (120, 0), (121, 0), (122, 0), (123, 0), (124, 0), (125, 0), (126, 0), (127, 0)]) hMh35 (Fr.sub hFh55 rfl) rfl), hMh55, (LD.fr (T := [(98, 2), (98, 24), (98, 37), (98, 38), (98, 39), (98, 40), (98, 41), (98, 42), (98, 43), (98, 44), (98, 45), (115, 0), (116, 0), (117, 0), (118, 0), (119, 0), (120, 0), (121, 0), (122, 0), (123, 0), (124, 0), (125, 0), (126, 0), (127, 0)]) z37 (Fr.sub hFh55 rfl) rfl), z57⟩, by omega, gi, gs, (ASn.fr (T := [(0, 11), (0, 12), (61, 1), (65, 2), (65, 3), (65, 4), (65, 5), (66, 0), (82, 1), (82, 2), (83, 0), (84, 0), (85, 0), (86, 0), (87, 0), (88, 0), (90, 1), (90, 2), (91, 0), (92, 0), (93, 0), (94, 0), (95, 0), (96, 0), (98, 2), (98, 24), (98, 37), (98, 38), (98, 39), (98, 40), (98, 41), (98, 42), (98, 43), (98, 44), (98, 45), (115, 0), (116, 0), (117, 0), (118, 0), (119, 0), (120, 0), (121, 0), (122, 0), (123, 0), (124, 0), (125, 0), (126, 0), (127, 0)]) hXW (Fr.tr (Fr.sub hFh35 rfl) hFh55 rfl) rfl), (ISn.fr (T := [(0, 11), (0, 12), (61, 1), (65, 2), (65, 3), (65, 4), (65, 5), (66, 0), (82, 1), (82, 2), (83, 0), (84, 0), (85, 0), (86, 0), (87, 0), (88, 0), (90, 1), (90, 2), (91, 0), (92, 0), (93, 0), (94, 0), (95, 0), (96, 0), (98, 2), (98, 24), (98, 37), (98, 38), (98, 39), (98, 40), (98, 41), (98, 42), (98, 43), (98, 44), (98, 45), (115, 0), (116, 0), (117, 0), (118, 0), (119, 0), (120, 0), (121, 0), (122, 0), (123, 0), (124, 0), (125, 0), (126, 0), (127, 0)]) hIS (Fr.tr (Fr.sub hFh35 rfl) hFh55 rfl) rfl), (ASn.fr (T := [(0, 11), (0, 12), (61, 1), (65, 2), (65, 3), (65, 4), (65, 5), (66, 0), (82, 1), (82, 2), (83, 0), (84, 0), (85, 0), (86, 0), (87, 0), (88, 0), (90, 1), (90, 2), (91, 0), (92, 0), (93, 0), (94, 0), (95, 0), (96, 0), (98, 2), (98, 24), (98, 37), (98, 38), (98, 39), (98, 40), (98, 41), (98, 42), (98, 43), (98, 44), (98, 45), (115, 0), (116, 0), (117, 0), (118, 0), (119, 0), (120, 0), (121, 0), (122, 0), (123, 0), (124, 0), (125, 0), (126, 0), (127, 0)]) hXK (Fr.tr (Fr.sub hFh35 rfl) hFh55 rfl) rfl), (S1n.fr (T := [(0, 11), (0, 12), (61, 1), (65, 2), (65, 3), (65, 4), (65, 5), (66, 0), (82, 1), (82, 2), (83, 0), (84, 0), (85, 0), (86, 0), (87, 0), (88, 0), (90, 1), (90, 2), (91, 0), (92, 0), (93, 0), (94, 0), (95, 0), (96, 0), (98, 2), (98, 24), (98, 37), (98, 38), (98, 39), (98, 40), (98, 41), (98, 42), (98, 43), (98, 44), (98, 45), (115, 0), (116, 0), (117, 0), (118, 0), (119, 0), (120, 0), (121, 0), (122, 0), (123, 0), (124, 0), (125, 0), (126, 0), (127, 0)]) hS1 (Fr.tr (Fr.sub hFh35 rfl) hFh55 rfl) rfl)⟩
