/-! ===== the law ===== -/
theorem g_sldE {y : MethodName} {cc : ByteArray} {nL : Nat} {ret : Option FieldType} {Po : Option PV → List SE → MEM → Prop} {Bd : Nat × Nat × Nat × Nat} {pc : Nat} {L : List (Option PV)} {S : List PV} {sh : List SE} {h : MEM} {cs sl : Nat} {xs : List Int} {i v : Int} (hd : decode cc pc = .ok (.iaload, 1)) (h0 : 0 ≤ i) (h1 : i < xs.length) (hv : v = xs.getD i.toNat 0) (kk : G y cc nL ret (some xs) Po Bd (pc + 1) L (pI v :: S) sh h cs sl) : G y cc nL ret (some xs) Po Bd pc L (pI i :: pX :: S) sh h cs sl := g_sld hd h0 h1 (fun _ => by rw [← hv]; exact kk)
theorem ml_L_101 : Cond.methodLink RL 101 yX12_letGo ∈ TW := inTW (List.mem_append_right _ (List.mem_of_getElem? (i := 1541) (by decide +kernel))) rfl
theorem mi_X12_letGo : MQI yX12_letGo cX12_letGo 9 (some .int) 3 := ⟨inTW (List.mem_append_right _ (List.mem_of_getElem? (i := 1544) (by decide +kernel))) rfl, inTW (List.mem_append_right _ (List.mem_of_getElem? (i := 13) (by decide +kernel))) rfl, by decide, by decide +kernel⟩
theorem in_X12_letGo : Cond.instanceMethod yX12_letGo ∈ TW := inTW (List.mem_append_right _ (List.mem_of_getElem? (i := 1542) (by decide +kernel))) rfl
theorem se_X12_letGo : Cond.selects yX12_letGo.cls yX12_letGo yX12_letGo ∈ TW := inTW (List.mem_append_right _ (List.mem_of_getElem? (i := 1543) (by decide +kernel))) rfl
theorem ml_L_102 : Cond.methodLink RL 102 yX11_settled ∈ TW := inTW (List.mem_append_right _ (List.mem_of_getElem? (i := 882) (by decide +kernel))) rfl
theorem mi_X11_settled : MQI yX11_settled cX11_settled 3 (some .int) 1 := ⟨inTW (List.mem_append_right _ (List.mem_of_getElem? (i := 885) (by decide +kernel))) rfl, inTW (List.mem_append_right _ (List.mem_of_getElem? (i := 1) (by decide +kernel))) rfl, by decide, by decide +kernel⟩
theorem in_X11_settled : Cond.instanceMethod yX11_settled ∈ TW := inTW (List.mem_append_right _ (List.mem_of_getElem? (i := 883) (by decide +kernel))) rfl
theorem se_X11_settled : Cond.selects yX11_settled.cls yX11_settled yX11_settled ∈ TW := inTW (List.mem_append_right _ (List.mem_of_getElem? (i := 884) (by decide +kernel))) rfl
theorem ml_L_105 : Cond.methodLink RL 105 yX12_settled ∈ TW := inTW (List.mem_append_right _ (List.mem_of_getElem? (i := 1555) (by decide +kernel))) rfl
theorem mi_X12_settled : MQI yX12_settled cX12_settled 7 (some .int) 1 := ⟨inTW (List.mem_append_right _ (List.mem_of_getElem? (i := 1558) (by decide +kernel))) rfl, inTW (List.mem_append_right _ (List.mem_of_getElem? (i := 13) (by decide +kernel))) rfl, by decide, by decide +kernel⟩
theorem in_X12_settled : Cond.instanceMethod yX12_settled ∈ TW := inTW (List.mem_append_right _ (List.mem_of_getElem? (i := 1556) (by decide +kernel))) rfl
theorem se_X12_settled : Cond.selects yX12_settled.cls yX12_settled yX12_settled ∈ TW := inTW (List.mem_append_right _ (List.mem_of_getElem? (i := 1557) (by decide +kernel))) rfl
theorem ml_L_106 : Cond.methodLink RL 106 yX11_owes ∈ TW := inTW (List.mem_append_right _ (List.mem_of_getElem? (i := 901) (by decide +kernel))) rfl
theorem mi_X11_owes : MQI yX11_owes cX11_owes 5 (some .int) 3 := ⟨inTW (List.mem_append_right _ (List.mem_of_getElem? (i := 904) (by decide +kernel))) rfl, inTW (List.mem_append_right _ (List.mem_of_getElem? (i := 1) (by decide +kernel))) rfl, by decide, by decide +kernel⟩
theorem in_X11_owes : Cond.instanceMethod yX11_owes ∈ TW := inTW (List.mem_append_right _ (List.mem_of_getElem? (i := 902) (by decide +kernel))) rfl
theorem se_X11_owes : Cond.selects yX11_owes.cls yX11_owes yX11_owes ∈ TW := inTW (List.mem_append_right _ (List.mem_of_getElem? (i := 903) (by decide +kernel))) rfl
theorem ml_L_109 : Cond.methodLink RL 109 yX12_owes ∈ TW := inTW (List.mem_append_right _ (List.mem_of_getElem? (i := 1560) (by decide +kernel))) rfl
theorem mi_X12_owes : MQI yX12_owes cX12_owes 4 (some .int) 3 := ⟨inTW (List.mem_append_right _ (List.mem_of_getElem? (i := 1563) (by decide +kernel))) rfl, inTW (List.mem_append_right _ (List.mem_of_getElem? (i := 13) (by decide +kernel))) rfl, by decide, by decide +kernel⟩
theorem in_X12_owes : Cond.instanceMethod yX12_owes ∈ TW := inTW (List.mem_append_right _ (List.mem_of_getElem? (i := 1561) (by decide +kernel))) rfl
theorem se_X12_owes : Cond.selects yX12_owes.cls yX12_owes yX12_owes ∈ TW := inTW (List.mem_append_right _ (List.mem_of_getElem? (i := 1562) (by decide +kernel))) rfl
theorem ml_L_110 : Cond.methodLink RL 110 yX11_teachers ∈ TW := inTW (List.mem_append_right _ (List.mem_of_getElem? (i := 905) (by decide +kernel))) rfl
theorem mi_X11_teachers : MQI yX11_teachers cX11_teachers 2 (some .int) 1 := ⟨inTW (List.mem_append_right _ (List.mem_of_getElem? (i := 908) (by decide +kernel))) rfl, inTW (List.mem_append_right _ (List.mem_of_getElem? (i := 1) (by decide +kernel))) rfl, by decide, by decide +kernel⟩
theorem in_X11_teachers : Cond.instanceMethod yX11_teachers ∈ TW := inTW (List.mem_append_right _ (List.mem_of_getElem? (i := 906) (by decide +kernel))) rfl
theorem se_X11_teachers : Cond.selects yX11_teachers.cls yX11_teachers yX11_teachers ∈ TW := inTW (List.mem_append_right _ (List.mem_of_getElem? (i := 907) (by decide +kernel))) rfl
theorem ml_L_113 : Cond.methodLink RL 113 yX12_teachers ∈ TW := inTW (List.mem_append_right _ (List.mem_of_getElem? (i := 1564) (by decide +kernel))) rfl
theorem mi_X12_teachers : MQI yX12_teachers cX12_teachers 2 (some .int) 1 := ⟨inTW (List.mem_append_right _ (List.mem_of_getElem? (i := 1567) (by decide +kernel))) rfl, inTW (List.mem_append_right _ (List.mem_of_getElem? (i := 13) (by decide +kernel))) rfl, by decide, by decide +kernel⟩
theorem in_X12_teachers : Cond.instanceMethod yX12_teachers ∈ TW := inTW (List.mem_append_right _ (List.mem_of_getElem? (i := 1565) (by decide +kernel))) rfl
theorem se_X12_teachers : Cond.selects yX12_teachers.cls yX12_teachers yX12_teachers ∈ TW := inTW (List.mem_append_right _ (List.mem_of_getElem? (i := 1566) (by decide +kernel))) rfl
theorem ml_L_114 : Cond.methodLink RL 114 yX11_chain ∈ TW := inTW (List.mem_append_right _ (List.mem_of_getElem? (i := 913) (by decide +kernel))) rfl
theorem mi_X11_chain : MQI yX11_chain cX11_chain 4 (some .int) 3 := ⟨inTW (List.mem_append_right _ (List.mem_of_getElem? (i := 916) (by decide +kernel))) rfl, inTW (List.mem_append_right _ (List.mem_of_getElem? (i := 1) (by decide +kernel))) rfl, by decide, by decide +kernel⟩
theorem in_X11_chain : Cond.instanceMethod yX11_chain ∈ TW := inTW (List.mem_append_right _ (List.mem_of_getElem? (i := 914) (by decide +kernel))) rfl
theorem se_X11_chain : Cond.selects yX11_chain.cls yX11_chain yX11_chain ∈ TW := inTW (List.mem_append_right _ (List.mem_of_getElem? (i := 915) (by decide +kernel))) rfl
theorem ml_L_117 : Cond.methodLink RL 117 yX12_chain ∈ TW := inTW (List.mem_append_right _ (List.mem_of_getElem? (i := 1572) (by decide +kernel))) rfl
theorem mi_X12_chain : MQI yX12_chain cX12_chain 8 (some .int) 3 := ⟨inTW (List.mem_append_right _ (List.mem_of_getElem? (i := 1575) (by decide +kernel))) rfl, inTW (List.mem_append_right _ (List.mem_of_getElem? (i := 13) (by decide +kernel))) rfl, by decide, by decide +kernel⟩
theorem in_X12_chain : Cond.instanceMethod yX12_chain ∈ TW := inTW (List.mem_append_right _ (List.mem_of_getElem? (i := 1573) (by decide +kernel))) rfl
theorem se_X12_chain : Cond.selects yX12_chain.cls yX12_chain yX12_chain ∈ TW := inTW (List.mem_append_right _ (List.mem_of_getElem? (i := 1574) (by decide +kernel))) rfl
theorem ml_L_118 : Cond.methodLink RL 118 yX11_odds ∈ TW := inTW (List.mem_append_right _ (List.mem_of_getElem? (i := 930) (by decide +kernel))) rfl
theorem mi_X11_odds : MQI yX11_odds cX11_odds 8 (some .int) 4 := ⟨inTW (List.mem_append_right _ (List.mem_of_getElem? (i := 933) (by decide +kernel))) rfl, inTW (List.mem_append_right _ (List.mem_of_getElem? (i := 1) (by decide +kernel))) rfl, by decide, by decide +kernel⟩
theorem in_X11_odds : Cond.instanceMethod yX11_odds ∈ TW := inTW (List.mem_append_right _ (List.mem_of_getElem? (i := 931) (by decide +kernel))) rfl
theorem se_X11_odds : Cond.selects yX11_odds.cls yX11_odds yX11_odds ∈ TW := inTW (List.mem_append_right _ (List.mem_of_getElem? (i := 932) (by decide +kernel))) rfl
theorem ml_L_121 : Cond.methodLink RL 121 yX12_odds ∈ TW := inTW (List.mem_append_right _ (List.mem_of_getElem? (i := 1585) (by decide +kernel))) rfl
theorem mi_X12_odds : MQI yX12_odds cX12_odds 10 (some .int) 4 := ⟨inTW (List.mem_append_right _ (List.mem_of_getElem? (i := 1588) (by decide +kernel))) rfl, inTW (List.mem_append_right _ (List.mem_of_getElem? (i := 13) (by decide +kernel))) rfl, by decide, by decide +kernel⟩
theorem in_X12_odds : Cond.instanceMethod yX12_odds ∈ TW := inTW (List.mem_append_right _ (List.mem_of_getElem? (i := 1586) (by decide +kernel))) rfl
theorem se_X12_odds : Cond.selects yX12_odds.cls yX12_odds yX12_odds ∈ TW := inTW (List.mem_append_right _ (List.mem_of_getElem? (i := 1587) (by decide +kernel))) rfl
theorem ml_L_122 : Cond.methodLink RL 122 yX11_seed ∈ TW := inTW (List.mem_append_right _ (List.mem_of_getElem? (i := 941) (by decide +kernel))) rfl
theorem mi_X11_seed : MQI yX11_seed cX11_seed 2 (some .boolean) 1 := ⟨inTW (List.mem_append_right _ (List.mem_of_getElem? (i := 944) (by decide +kernel))) rfl, inTW (List.mem_append_right _ (List.mem_of_getElem? (i := 1) (by decide +kernel))) rfl, by decide, by decide +kernel⟩
theorem in_X11_seed : Cond.instanceMethod yX11_seed ∈ TW := inTW (List.mem_append_right _ (List.mem_of_getElem? (i := 942) (by decide +kernel))) rfl
theorem se_X11_seed : Cond.selects yX11_seed.cls yX11_seed yX11_seed ∈ TW := inTW (List.mem_append_right _ (List.mem_of_getElem? (i := 943) (by decide +kernel))) rfl
theorem ml_L_126 : Cond.methodLink RL 126 yX12_seed ∈ TW := inTW (List.mem_append_right _ (List.mem_of_getElem? (i := 1593) (by decide +kernel))) rfl
theorem mi_X12_seed : MQI yX12_seed cX12_seed 2 (some .boolean) 1 := ⟨inTW (List.mem_append_right _ (List.mem_of_getElem? (i := 1596) (by decide +kernel))) rfl, inTW (List.mem_append_right _ (List.mem_of_getElem? (i := 13) (by decide +kernel))) rfl, by decide, by decide +kernel⟩
theorem in_X12_seed : Cond.instanceMethod yX12_seed ∈ TW := inTW (List.mem_append_right _ (List.mem_of_getElem? (i := 1594) (by decide +kernel))) rfl
theorem se_X12_seed : Cond.selects yX12_seed.cls yX12_seed yX12_seed ∈ TW := inTW (List.mem_append_right _ (List.mem_of_getElem? (i := 1595) (by decide +kernel))) rfl
theorem ml_L_127 : Cond.methodLink RL 127 yX11_keep ∈ TW := inTW (List.mem_append_right _ (List.mem_of_getElem? (i := 946) (by decide +kernel))) rfl
theorem mi_X11_keep : MQI yX11_keep cX11_keep 1 (some .int) 0 := ⟨inTW (List.mem_append_right _ (List.mem_of_getElem? (i := 949) (by decide +kernel))) rfl, inTW (List.mem_append_right _ (List.mem_of_getElem? (i := 1) (by decide +kernel))) rfl, by decide, by decide +kernel⟩
theorem in_X11_keep : Cond.instanceMethod yX11_keep ∈ TW := inTW (List.mem_append_right _ (List.mem_of_getElem? (i := 947) (by decide +kernel))) rfl
theorem se_X11_keep : Cond.selects yX11_keep.cls yX11_keep yX11_keep ∈ TW := inTW (List.mem_append_right _ (List.mem_of_getElem? (i := 948) (by decide +kernel))) rfl
theorem ml_L_13 : Cond.methodLink RL 13 yX11_roof ∈ TW := inTW (List.mem_append_right _ (List.mem_of_getElem? (i := 392) (by decide +kernel))) rfl
theorem mi_X11_roof : MQI yX11_roof cX11_roof 4 (some .int) 3 := ⟨inTW (List.mem_append_right _ (List.mem_of_getElem? (i := 395) (by decide +kernel))) rfl, inTW (List.mem_append_right _ (List.mem_of_getElem? (i := 1) (by decide +kernel))) rfl, by decide, by decide +kernel⟩
theorem in_X11_roof : Cond.instanceMethod yX11_roof ∈ TW := inTW (List.mem_append_right _ (List.mem_of_getElem? (i := 393) (by decide +kernel))) rfl
theorem se_X11_roof : Cond.selects yX11_roof.cls yX11_roof yX11_roof ∈ TW := inTW (List.mem_append_right _ (List.mem_of_getElem? (i := 394) (by decide +kernel))) rfl
theorem ml_L_131 : Cond.methodLink RL 131 yX12_keep ∈ TW := inTW (List.mem_append_right _ (List.mem_of_getElem? (i := 1598) (by decide +kernel))) rfl
theorem mi_X12_keep : MQI yX12_keep cX12_keep 1 (some .int) 0 := ⟨inTW (List.mem_append_right _ (List.mem_of_getElem? (i := 1601) (by decide +kernel))) rfl, inTW (List.mem_append_right _ (List.mem_of_getElem? (i := 13) (by decide +kernel))) rfl, by decide, by decide +kernel⟩
theorem in_X12_keep : Cond.instanceMethod yX12_keep ∈ TW := inTW (List.mem_append_right _ (List.mem_of_getElem? (i := 1599) (by decide +kernel))) rfl
theorem se_X12_keep : Cond.selects yX12_keep.cls yX12_keep yX12_keep ∈ TW := inTW (List.mem_append_right _ (List.mem_of_getElem? (i := 1600) (by decide +kernel))) rfl
theorem ml_L_132 : Cond.methodLink RL 132 yX11_undo ∈ TW := inTW (List.mem_append_right _ (List.mem_of_getElem? (i := 955) (by decide +kernel))) rfl
theorem mi_X11_undo : MQI yX11_undo cX11_undo 1 (some .boolean) 0 := ⟨inTW (List.mem_append_right _ (List.mem_of_getElem? (i := 958) (by decide +kernel))) rfl, inTW (List.mem_append_right _ (List.mem_of_getElem? (i := 1) (by decide +kernel))) rfl, by decide, by decide +kernel⟩
theorem in_X11_undo : Cond.instanceMethod yX11_undo ∈ TW := inTW (List.mem_append_right _ (List.mem_of_getElem? (i := 956) (by decide +kernel))) rfl
theorem se_X11_undo : Cond.selects yX11_undo.cls yX11_undo yX11_undo ∈ TW := inTW (List.mem_append_right _ (List.mem_of_getElem? (i := 957) (by decide +kernel))) rfl
theorem ml_L_136 : Cond.methodLink RL 136 yX12_undo ∈ TW := inTW (List.mem_append_right _ (List.mem_of_getElem? (i := 1602) (by decide +kernel))) rfl
theorem mi_X12_undo : MQI yX12_undo cX12_undo 1 (some .boolean) 0 := ⟨inTW (List.mem_append_right _ (List.mem_of_getElem? (i := 1605) (by decide +kernel))) rfl, inTW (List.mem_append_right _ (List.mem_of_getElem? (i := 13) (by decide +kernel))) rfl, by decide, by decide +kernel⟩
theorem in_X12_undo : Cond.instanceMethod yX12_undo ∈ TW := inTW (List.mem_append_right _ (List.mem_of_getElem? (i := 1603) (by decide +kernel))) rfl
theorem se_X12_undo : Cond.selects yX12_undo.cls yX12_undo yX12_undo ∈ TW := inTW (List.mem_append_right _ (List.mem_of_getElem? (i := 1604) (by decide +kernel))) rfl
theorem ml_L_137 : Cond.methodLink RL 137 yX11_check ∈ TW := inTW (List.mem_append_right _ (List.mem_of_getElem? (i := 959) (by decide +kernel))) rfl
theorem mi_X11_check : MQI yX11_check cX11_check 3 (some .int) 1 := ⟨inTW (List.mem_append_right _ (List.mem_of_getElem? (i := 962) (by decide +kernel))) rfl, inTW (List.mem_append_right _ (List.mem_of_getElem? (i := 1) (by decide +kernel))) rfl, by decide, by decide +kernel⟩
theorem in_X11_check : Cond.instanceMethod yX11_check ∈ TW := inTW (List.mem_append_right _ (List.mem_of_getElem? (i := 960) (by decide +kernel))) rfl
theorem se_X11_check : Cond.selects yX11_check.cls yX11_check yX11_check ∈ TW := inTW (List.mem_append_right _ (List.mem_of_getElem? (i := 961) (by decide +kernel))) rfl
theorem ml_L_140 : Cond.methodLink RL 140 yX12_check ∈ TW := inTW (List.mem_append_right _ (List.mem_of_getElem? (i := 1606) (by decide +kernel))) rfl
theorem mi_X12_check : MQI yX12_check cX12_check 3 (some .int) 1 := ⟨inTW (List.mem_append_right _ (List.mem_of_getElem? (i := 1609) (by decide +kernel))) rfl, inTW (List.mem_append_right _ (List.mem_of_getElem? (i := 13) (by decide +kernel))) rfl, by decide, by decide +kernel⟩
theorem in_X12_check : Cond.instanceMethod yX12_check ∈ TW := inTW (List.mem_append_right _ (List.mem_of_getElem? (i := 1607) (by decide +kernel))) rfl
theorem se_X12_check : Cond.selects yX12_check.cls yX12_check yX12_check ∈ TW := inTW (List.mem_append_right _ (List.mem_of_getElem? (i := 1608) (by decide +kernel))) rfl
theorem ml_L_141 : Cond.methodLink RL 141 yX11_count ∈ TW := inTW (List.mem_append_right _ (List.mem_of_getElem? (i := 968) (by decide +kernel))) rfl
theorem mi_X11_count : MQI yX11_count cX11_count 2 (some .int) 1 := ⟨inTW (List.mem_append_right _ (List.mem_of_getElem? (i := 971) (by decide +kernel))) rfl, inTW (List.mem_append_right _ (List.mem_of_getElem? (i := 1) (by decide +kernel))) rfl, by decide, by decide +kernel⟩
theorem in_X11_count : Cond.instanceMethod yX11_count ∈ TW := inTW (List.mem_append_right _ (List.mem_of_getElem? (i := 969) (by decide +kernel))) rfl
theorem se_X11_count : Cond.selects yX11_count.cls yX11_count yX11_count ∈ TW := inTW (List.mem_append_right _ (List.mem_of_getElem? (i := 970) (by decide +kernel))) rfl
theorem ml_L_144 : Cond.methodLink RL 144 yX12_count ∈ TW := inTW (List.mem_append_right _ (List.mem_of_getElem? (i := 1614) (by decide +kernel))) rfl
theorem mi_X12_count : MQI yX12_count cX12_count 2 (some .int) 1 := ⟨inTW (List.mem_append_right _ (List.mem_of_getElem? (i := 1617) (by decide +kernel))) rfl, inTW (List.mem_append_right _ (List.mem_of_getElem? (i := 13) (by decide +kernel))) rfl, by decide, by decide +kernel⟩
theorem in_X12_count : Cond.instanceMethod yX12_count ∈ TW := inTW (List.mem_append_right _ (List.mem_of_getElem? (i := 1615) (by decide +kernel))) rfl
theorem se_X12_count : Cond.selects yX12_count.cls yX12_count yX12_count ∈ TW := inTW (List.mem_append_right _ (List.mem_of_getElem? (i := 1616) (by decide +kernel))) rfl
theorem ml_L_17 : Cond.methodLink RL 17 yX12_roof ∈ TW := inTW (List.mem_append_right _ (List.mem_of_getElem? (i := 1220) (by decide +kernel))) rfl
theorem mi_X12_roof : MQI yX12_roof cX12_roof 4 (some .int) 3 := ⟨inTW (List.mem_append_right _ (List.mem_of_getElem? (i := 1223) (by decide +kernel))) rfl, inTW (List.mem_append_right _ (List.mem_of_getElem? (i := 13) (by decide +kernel))) rfl, by decide, by decide +kernel⟩
theorem in_X12_roof : Cond.instanceMethod yX12_roof ∈ TW := inTW (List.mem_append_right _ (List.mem_of_getElem? (i := 1221) (by decide +kernel))) rfl
theorem se_X12_roof : Cond.selects yX12_roof.cls yX12_roof yX12_roof ∈ TW := inTW (List.mem_append_right _ (List.mem_of_getElem? (i := 1222) (by decide +kernel))) rfl
theorem ml_L_18 : Cond.methodLink RL 18 yX11_apprentice ∈ TW := inTW (List.mem_append_right _ (List.mem_of_getElem? (i := 403) (by decide +kernel))) rfl
theorem mi_X11_apprentice : MQI yX11_apprentice cX11_apprentice 2 (some .int) 1 := ⟨inTW (List.mem_append_right _ (List.mem_of_getElem? (i := 406) (by decide +kernel))) rfl, inTW (List.mem_append_right _ (List.mem_of_getElem? (i := 1) (by decide +kernel))) rfl, by decide, by decide +kernel⟩
theorem in_X11_apprentice : Cond.instanceMethod yX11_apprentice ∈ TW := inTW (List.mem_append_right _ (List.mem_of_getElem? (i := 404) (by decide +kernel))) rfl
theorem se_X11_apprentice : Cond.selects yX11_apprentice.cls yX11_apprentice yX11_apprentice ∈ TW := inTW (List.mem_append_right _ (List.mem_of_getElem? (i := 405) (by decide +kernel))) rfl
theorem ml_L_22 : Cond.methodLink RL 22 yX12_apprentice ∈ TW := inTW (List.mem_append_right _ (List.mem_of_getElem? (i := 1232) (by decide +kernel))) rfl
theorem mi_X12_apprentice : MQI yX12_apprentice cX12_apprentice 3 (some .int) 1 := ⟨inTW (List.mem_append_right _ (List.mem_of_getElem? (i := 1235) (by decide +kernel))) rfl, inTW (List.mem_append_right _ (List.mem_of_getElem? (i := 13) (by decide +kernel))) rfl, by decide, by decide +kernel⟩
theorem in_X12_apprentice : Cond.instanceMethod yX12_apprentice ∈ TW := inTW (List.mem_append_right _ (List.mem_of_getElem? (i := 1233) (by decide +kernel))) rfl
theorem se_X12_apprentice : Cond.selects yX12_apprentice.cls yX12_apprentice yX12_apprentice ∈ TW := inTW (List.mem_append_right _ (List.mem_of_getElem? (i := 1234) (by decide +kernel))) rfl
theorem ml_L_23 : Cond.methodLink RL 23 yX11_master ∈ TW := inTW (List.mem_append_right _ (List.mem_of_getElem? (i := 411) (by decide +kernel))) rfl
theorem mi_X11_master : MQI yX11_master cX11_master 3 (some .int) 2 := ⟨inTW (List.mem_append_right _ (List.mem_of_getElem? (i := 414) (by decide +kernel))) rfl, inTW (List.mem_append_right _ (List.mem_of_getElem? (i := 1) (by decide +kernel))) rfl, by decide, by decide +kernel⟩
theorem in_X11_master : Cond.instanceMethod yX11_master ∈ TW := inTW (List.mem_append_right _ (List.mem_of_getElem? (i := 412) (by decide +kernel))) rfl
theorem se_X11_master : Cond.selects yX11_master.cls yX11_master yX11_master ∈ TW := inTW (List.mem_append_right _ (List.mem_of_getElem? (i := 413) (by decide +kernel))) rfl
theorem ml_L_27 : Cond.methodLink RL 27 yX12_master ∈ TW := inTW (List.mem_append_right _ (List.mem_of_getElem? (i := 1236) (by decide +kernel))) rfl
theorem mi_X12_master : MQI yX12_master cX12_master 4 (some .int) 2 := ⟨inTW (List.mem_append_right _ (List.mem_of_getElem? (i := 1239) (by decide +kernel))) rfl, inTW (List.mem_append_right _ (List.mem_of_getElem? (i := 13) (by decide +kernel))) rfl, by decide, by decide +kernel⟩
theorem in_X12_master : Cond.instanceMethod yX12_master ∈ TW := inTW (List.mem_append_right _ (List.mem_of_getElem? (i := 1237) (by decide +kernel))) rfl
theorem se_X12_master : Cond.selects yX12_master.cls yX12_master yX12_master ∈ TW := inTW (List.mem_append_right _ (List.mem_of_getElem? (i := 1238) (by decide +kernel))) rfl
theorem ml_L_28 : Cond.methodLink RL 28 yX11_on ∈ TW := inTW (List.mem_append_right _ (List.mem_of_getElem? (i := 419) (by decide +kernel))) rfl
theorem mi_X11_on : MQI yX11_on cX11_on 3 (some .boolean) 2 := ⟨inTW (List.mem_append_right _ (List.mem_of_getElem? (i := 422) (by decide +kernel))) rfl, inTW (List.mem_append_right _ (List.mem_of_getElem? (i := 1) (by decide +kernel))) rfl, by decide, by decide +kernel⟩
theorem in_X11_on : Cond.instanceMethod yX11_on ∈ TW := inTW (List.mem_append_right _ (List.mem_of_getElem? (i := 420) (by decide +kernel))) rfl
theorem se_X11_on : Cond.selects yX11_on.cls yX11_on yX11_on ∈ TW := inTW (List.mem_append_right _ (List.mem_of_getElem? (i := 421) (by decide +kernel))) rfl
theorem ml_L_32 : Cond.methodLink RL 32 yX12_on ∈ TW := inTW (List.mem_append_right _ (List.mem_of_getElem? (i := 1241) (by decide +kernel))) rfl
theorem mi_X12_on : MQI yX12_on cX12_on 3 (some .boolean) 2 := ⟨inTW (List.mem_append_right _ (List.mem_of_getElem? (i := 1244) (by decide +kernel))) rfl, inTW (List.mem_append_right _ (List.mem_of_getElem? (i := 13) (by decide +kernel))) rfl, by decide, by decide +kernel⟩
theorem in_X12_on : Cond.instanceMethod yX12_on ∈ TW := inTW (List.mem_append_right _ (List.mem_of_getElem? (i := 1242) (by decide +kernel))) rfl
theorem se_X12_on : Cond.selects yX12_on.cls yX12_on yX12_on ∈ TW := inTW (List.mem_append_right _ (List.mem_of_getElem? (i := 1243) (by decide +kernel))) rfl
theorem ml_L_33 : Cond.methodLink RL 33 yX11_below ∈ TW := inTW (List.mem_append_right _ (List.mem_of_getElem? (i := 435) (by decide +kernel))) rfl
theorem mi_X11_below : MQI yX11_below cX11_below 3 (some .boolean) 2 := ⟨inTW (List.mem_append_right _ (List.mem_of_getElem? (i := 438) (by decide +kernel))) rfl, inTW (List.mem_append_right _ (List.mem_of_getElem? (i := 1) (by decide +kernel))) rfl, by decide, by decide +kernel⟩
theorem in_X11_below : Cond.instanceMethod yX11_below ∈ TW := inTW (List.mem_append_right _ (List.mem_of_getElem? (i := 436) (by decide +kernel))) rfl
theorem se_X11_below : Cond.selects yX11_below.cls yX11_below yX11_below ∈ TW := inTW (List.mem_append_right _ (List.mem_of_getElem? (i := 437) (by decide +kernel))) rfl
theorem ml_L_36 : Cond.methodLink RL 36 yX12_below ∈ TW := inTW (List.mem_append_right _ (List.mem_of_getElem? (i := 1253) (by decide +kernel))) rfl
theorem mi_X12_below : MQI yX12_below cX12_below 3 (some .boolean) 2 := ⟨inTW (List.mem_append_right _ (List.mem_of_getElem? (i := 1256) (by decide +kernel))) rfl, inTW (List.mem_append_right _ (List.mem_of_getElem? (i := 13) (by decide +kernel))) rfl, by decide, by decide +kernel⟩
theorem in_X12_below : Cond.instanceMethod yX12_below ∈ TW := inTW (List.mem_append_right _ (List.mem_of_getElem? (i := 1254) (by decide +kernel))) rfl
theorem se_X12_below : Cond.selects yX12_below.cls yX12_below yX12_below ∈ TW := inTW (List.mem_append_right _ (List.mem_of_getElem? (i := 1255) (by decide +kernel))) rfl
theorem ml_L_37 : Cond.methodLink RL 37 yX11_gear ∈ TW := inTW (List.mem_append_right _ (List.mem_of_getElem? (i := 443) (by decide +kernel))) rfl
theorem mi_X11_gear : MQI yX11_gear cX11_gear 5 (some .boolean) 3 := ⟨inTW (List.mem_append_right _ (List.mem_of_getElem? (i := 446) (by decide +kernel))) rfl, inTW (List.mem_append_right _ (List.mem_of_getElem? (i := 1) (by decide +kernel))) rfl, by decide, by decide +kernel⟩
theorem in_X11_gear : Cond.instanceMethod yX11_gear ∈ TW := inTW (List.mem_append_right _ (List.mem_of_getElem? (i := 444) (by decide +kernel))) rfl
theorem se_X11_gear : Cond.selects yX11_gear.cls yX11_gear yX11_gear ∈ TW := inTW (List.mem_append_right _ (List.mem_of_getElem? (i := 445) (by decide +kernel))) rfl
theorem ml_L_41 : Cond.methodLink RL 41 yX12_gear ∈ TW := inTW (List.mem_append_right _ (List.mem_of_getElem? (i := 1261) (by decide +kernel))) rfl
theorem mi_X12_gear : MQI yX12_gear cX12_gear 4 (some .boolean) 3 := ⟨inTW (List.mem_append_right _ (List.mem_of_getElem? (i := 1264) (by decide +kernel))) rfl, inTW (List.mem_append_right _ (List.mem_of_getElem? (i := 13) (by decide +kernel))) rfl, by decide, by decide +kernel⟩
theorem in_X12_gear : Cond.instanceMethod yX12_gear ∈ TW := inTW (List.mem_append_right _ (List.mem_of_getElem? (i := 1262) (by decide +kernel))) rfl
theorem se_X12_gear : Cond.selects yX12_gear.cls yX12_gear yX12_gear ∈ TW := inTW (List.mem_append_right _ (List.mem_of_getElem? (i := 1263) (by decide +kernel))) rfl
theorem ml_L_42 : Cond.methodLink RL 42 yX11_snow ∈ TW := inTW (List.mem_append_right _ (List.mem_of_getElem? (i := 461) (by decide +kernel))) rfl
theorem mi_X11_snow : MQI yX11_snow cX11_snow 4 (some .boolean) 2 := ⟨inTW (List.mem_append_right _ (List.mem_of_getElem? (i := 464) (by decide +kernel))) rfl, inTW (List.mem_append_right _ (List.mem_of_getElem? (i := 1) (by decide +kernel))) rfl, by decide, by decide +kernel⟩
theorem in_X11_snow : Cond.instanceMethod yX11_snow ∈ TW := inTW (List.mem_append_right _ (List.mem_of_getElem? (i := 462) (by decide +kernel))) rfl
theorem se_X11_snow : Cond.selects yX11_snow.cls yX11_snow yX11_snow ∈ TW := inTW (List.mem_append_right _ (List.mem_of_getElem? (i := 463) (by decide +kernel))) rfl
theorem ml_L_46 : Cond.methodLink RL 46 yX12_snow ∈ TW := inTW (List.mem_append_right _ (List.mem_of_getElem? (i := 1265) (by decide +kernel))) rfl
theorem mi_X12_snow : MQI yX12_snow cX12_snow 3 (some .boolean) 2 := ⟨inTW (List.mem_append_right _ (List.mem_of_getElem? (i := 1268) (by decide +kernel))) rfl, inTW (List.mem_append_right _ (List.mem_of_getElem? (i := 13) (by decide +kernel))) rfl, by decide, by decide +kernel⟩
theorem in_X12_snow : Cond.instanceMethod yX12_snow ∈ TW := inTW (List.mem_append_right _ (List.mem_of_getElem? (i := 1266) (by decide +kernel))) rfl
theorem se_X12_snow : Cond.selects yX12_snow.cls yX12_snow yX12_snow ∈ TW := inTW (List.mem_append_right _ (List.mem_of_getElem? (i := 1267) (by decide +kernel))) rfl
theorem ml_L_47 : Cond.methodLink RL 47 yX11_feed ∈ TW := inTW (List.mem_append_right _ (List.mem_of_getElem? (i := 465) (by decide +kernel))) rfl
theorem mi_X11_feed : MQI yX11_feed cX11_feed 6 (some .int) 5 := ⟨inTW (List.mem_append_right _ (List.mem_of_getElem? (i := 468) (by decide +kernel))) rfl, inTW (List.mem_append_right _ (List.mem_of_getElem? (i := 1) (by decide +kernel))) rfl, by decide, by decide +kernel⟩
theorem in_X11_feed : Cond.instanceMethod yX11_feed ∈ TW := inTW (List.mem_append_right _ (List.mem_of_getElem? (i := 466) (by decide +kernel))) rfl
theorem se_X11_feed : Cond.selects yX11_feed.cls yX11_feed yX11_feed ∈ TW := inTW (List.mem_append_right _ (List.mem_of_getElem? (i := 467) (by decide +kernel))) rfl
theorem ml_L_51 : Cond.methodLink RL 51 yX12_feed ∈ TW := inTW (List.mem_append_right _ (List.mem_of_getElem? (i := 1269) (by decide +kernel))) rfl
theorem mi_X12_feed : MQI yX12_feed cX12_feed 6 (some .int) 5 := ⟨inTW (List.mem_append_right _ (List.mem_of_getElem? (i := 1272) (by decide +kernel))) rfl, inTW (List.mem_append_right _ (List.mem_of_getElem? (i := 13) (by decide +kernel))) rfl, by decide, by decide +kernel⟩
theorem in_X12_feed : Cond.instanceMethod yX12_feed ∈ TW := inTW (List.mem_append_right _ (List.mem_of_getElem? (i := 1270) (by decide +kernel))) rfl
theorem se_X12_feed : Cond.selects yX12_feed.cls yX12_feed yX12_feed ∈ TW := inTW (List.mem_append_right _ (List.mem_of_getElem? (i := 1271) (by decide +kernel))) rfl
theorem ml_L_52 : Cond.methodLink RL 52 yX11_law ∈ TW := inTW (List.mem_append_right _ (List.mem_of_getElem? (i := 473) (by decide +kernel))) rfl
theorem mi_X11_law : MQI yX11_law cX11_law 4 (some .int) 1 := ⟨inTW (List.mem_append_right _ (List.mem_of_getElem? (i := 476) (by decide +kernel))) rfl, inTW (List.mem_append_right _ (List.mem_of_getElem? (i := 1) (by decide +kernel))) rfl, by decide, by decide +kernel⟩
theorem in_X11_law : Cond.instanceMethod yX11_law ∈ TW := inTW (List.mem_append_right _ (List.mem_of_getElem? (i := 474) (by decide +kernel))) rfl
theorem se_X11_law : Cond.selects yX11_law.cls yX11_law yX11_law ∈ TW := inTW (List.mem_append_right _ (List.mem_of_getElem? (i := 475) (by decide +kernel))) rfl
theorem ml_L_55 : Cond.methodLink RL 55 yX12_law ∈ TW := inTW (List.mem_append_right _ (List.mem_of_getElem? (i := 1277) (by decide +kernel))) rfl
theorem mi_X12_law : MQI yX12_law cX12_law 4 (some .int) 1 := ⟨inTW (List.mem_append_right _ (List.mem_of_getElem? (i := 1280) (by decide +kernel))) rfl, inTW (List.mem_append_right _ (List.mem_of_getElem? (i := 13) (by decide +kernel))) rfl, by decide, by decide +kernel⟩
theorem in_X12_law : Cond.instanceMethod yX12_law ∈ TW := inTW (List.mem_append_right _ (List.mem_of_getElem? (i := 1278) (by decide +kernel))) rfl
theorem se_X12_law : Cond.selects yX12_law.cls yX12_law yX12_law ∈ TW := inTW (List.mem_append_right _ (List.mem_of_getElem? (i := 1279) (by decide +kernel))) rfl
theorem ml_L_56 : Cond.methodLink RL 56 yX11_hours ∈ TW := inTW (List.mem_append_right _ (List.mem_of_getElem? (i := 650) (by decide +kernel))) rfl
theorem mi_X11_hours : MQI yX11_hours cX11_hours 2 (some .int) 1 := ⟨inTW (List.mem_append_right _ (List.mem_of_getElem? (i := 653) (by decide +kernel))) rfl, inTW (List.mem_append_right _ (List.mem_of_getElem? (i := 1) (by decide +kernel))) rfl, by decide, by decide +kernel⟩
theorem in_X11_hours : Cond.instanceMethod yX11_hours ∈ TW := inTW (List.mem_append_right _ (List.mem_of_getElem? (i := 651) (by decide +kernel))) rfl
theorem se_X11_hours : Cond.selects yX11_hours.cls yX11_hours yX11_hours ∈ TW := inTW (List.mem_append_right _ (List.mem_of_getElem? (i := 652) (by decide +kernel))) rfl
theorem ml_L_59 : Cond.methodLink RL 59 yX12_hours ∈ TW := inTW (List.mem_append_right _ (List.mem_of_getElem? (i := 1375) (by decide +kernel))) rfl
theorem mi_X12_hours : MQI yX12_hours cX12_hours 2 (some .int) 1 := ⟨inTW (List.mem_append_right _ (List.mem_of_getElem? (i := 1378) (by decide +kernel))) rfl, inTW (List.mem_append_right _ (List.mem_of_getElem? (i := 13) (by decide +kernel))) rfl, by decide, by decide +kernel⟩
theorem in_X12_hours : Cond.instanceMethod yX12_hours ∈ TW := inTW (List.mem_append_right _ (List.mem_of_getElem? (i := 1376) (by decide +kernel))) rfl
theorem se_X12_hours : Cond.selects yX12_hours.cls yX12_hours yX12_hours ∈ TW := inTW (List.mem_append_right _ (List.mem_of_getElem? (i := 1377) (by decide +kernel))) rfl
theorem ml_L_60 : Cond.methodLink RL 60 yX11_hour ∈ TW := inTW (List.mem_append_right _ (List.mem_of_getElem? (i := 711) (by decide +kernel))) rfl
theorem mi_X11_hour : MQI yX11_hour cX11_hour 2 (some .int) 1 := ⟨inTW (List.mem_append_right _ (List.mem_of_getElem? (i := 714) (by decide +kernel))) rfl, inTW (List.mem_append_right _ (List.mem_of_getElem? (i := 1) (by decide +kernel))) rfl, by decide, by decide +kernel⟩
theorem in_X11_hour : Cond.instanceMethod yX11_hour ∈ TW := inTW (List.mem_append_right _ (List.mem_of_getElem? (i := 712) (by decide +kernel))) rfl
theorem se_X11_hour : Cond.selects yX11_hour.cls yX11_hour yX11_hour ∈ TW := inTW (List.mem_append_right _ (List.mem_of_getElem? (i := 713) (by decide +kernel))) rfl
theorem ml_L_63 : Cond.methodLink RL 63 yX12_hour ∈ TW := inTW (List.mem_append_right _ (List.mem_of_getElem? (i := 1437) (by decide +kernel))) rfl
theorem mi_X12_hour : MQI yX12_hour cX12_hour 2 (some .int) 1 := ⟨inTW (List.mem_append_right _ (List.mem_of_getElem? (i := 1440) (by decide +kernel))) rfl, inTW (List.mem_append_right _ (List.mem_of_getElem? (i := 13) (by decide +kernel))) rfl, by decide, by decide +kernel⟩
theorem in_X12_hour : Cond.instanceMethod yX12_hour ∈ TW := inTW (List.mem_append_right _ (List.mem_of_getElem? (i := 1438) (by decide +kernel))) rfl
theorem se_X12_hour : Cond.selects yX12_hour.cls yX12_hour yX12_hour ∈ TW := inTW (List.mem_append_right _ (List.mem_of_getElem? (i := 1439) (by decide +kernel))) rfl
theorem ml_L_64 : Cond.methodLink RL 64 yX11_roofIs ∈ TW := inTW (List.mem_append_right _ (List.mem_of_getElem? (i := 716) (by decide +kernel))) rfl
theorem mi_X11_roofIs : MQI yX11_roofIs cX11_roofIs 3 (some .int) 2 := ⟨inTW (List.mem_append_right _ (List.mem_of_getElem? (i := 719) (by decide +kernel))) rfl, inTW (List.mem_append_right _ (List.mem_of_getElem? (i := 1) (by decide +kernel))) rfl, by decide, by decide +kernel⟩
theorem in_X11_roofIs : Cond.instanceMethod yX11_roofIs ∈ TW := inTW (List.mem_append_right _ (List.mem_of_getElem? (i := 717) (by decide +kernel))) rfl
theorem se_X11_roofIs : Cond.selects yX11_roofIs.cls yX11_roofIs yX11_roofIs ∈ TW := inTW (List.mem_append_right _ (List.mem_of_getElem? (i := 718) (by decide +kernel))) rfl
theorem ml_L_68 : Cond.methodLink RL 68 yX12_roofIs ∈ TW := inTW (List.mem_append_right _ (List.mem_of_getElem? (i := 1441) (by decide +kernel))) rfl
theorem mi_X12_roofIs : MQI yX12_roofIs cX12_roofIs 3 (some .int) 2 := ⟨inTW (List.mem_append_right _ (List.mem_of_getElem? (i := 1444) (by decide +kernel))) rfl, inTW (List.mem_append_right _ (List.mem_of_getElem? (i := 13) (by decide +kernel))) rfl, by decide, by decide +kernel⟩
theorem in_X12_roofIs : Cond.instanceMethod yX12_roofIs ∈ TW := inTW (List.mem_append_right _ (List.mem_of_getElem? (i := 1442) (by decide +kernel))) rfl
theorem se_X12_roofIs : Cond.selects yX12_roofIs.cls yX12_roofIs yX12_roofIs ∈ TW := inTW (List.mem_append_right _ (List.mem_of_getElem? (i := 1443) (by decide +kernel))) rfl
theorem ml_L_69 : Cond.methodLink RL 69 yX11_apprenticeIs ∈ TW := inTW (List.mem_append_right _ (List.mem_of_getElem? (i := 728) (by decide +kernel))) rfl
theorem mi_X11_apprenticeIs : MQI yX11_apprenticeIs cX11_apprenticeIs 3 (some .int) 2 := ⟨inTW (List.mem_append_right _ (List.mem_of_getElem? (i := 731) (by decide +kernel))) rfl, inTW (List.mem_append_right _ (List.mem_of_getElem? (i := 1) (by decide +kernel))) rfl, by decide, by decide +kernel⟩
theorem in_X11_apprenticeIs : Cond.instanceMethod yX11_apprenticeIs ∈ TW := inTW (List.mem_append_right _ (List.mem_of_getElem? (i := 729) (by decide +kernel))) rfl
theorem se_X11_apprenticeIs : Cond.selects yX11_apprenticeIs.cls yX11_apprenticeIs yX11_apprenticeIs ∈ TW := inTW (List.mem_append_right _ (List.mem_of_getElem? (i := 730) (by decide +kernel))) rfl
theorem ml_L_72 : Cond.methodLink RL 72 yX12_apprenticeIs ∈ TW := inTW (List.mem_append_right _ (List.mem_of_getElem? (i := 1453) (by decide +kernel))) rfl
theorem mi_X12_apprenticeIs : MQI yX12_apprenticeIs cX12_apprenticeIs 3 (some .int) 2 := ⟨inTW (List.mem_append_right _ (List.mem_of_getElem? (i := 1456) (by decide +kernel))) rfl, inTW (List.mem_append_right _ (List.mem_of_getElem? (i := 13) (by decide +kernel))) rfl, by decide, by decide +kernel⟩
theorem in_X12_apprenticeIs : Cond.instanceMethod yX12_apprenticeIs ∈ TW := inTW (List.mem_append_right _ (List.mem_of_getElem? (i := 1454) (by decide +kernel))) rfl
theorem se_X12_apprenticeIs : Cond.selects yX12_apprenticeIs.cls yX12_apprenticeIs yX12_apprenticeIs ∈ TW := inTW (List.mem_append_right _ (List.mem_of_getElem? (i := 1455) (by decide +kernel))) rfl
theorem ml_L_73 : Cond.methodLink RL 73 yX11_masterIs ∈ TW := inTW (List.mem_append_right _ (List.mem_of_getElem? (i := 736) (by decide +kernel))) rfl
theorem mi_X11_masterIs : MQI yX11_masterIs cX11_masterIs 3 (some .int) 2 := ⟨inTW (List.mem_append_right _ (List.mem_of_getElem? (i := 739) (by decide +kernel))) rfl, inTW (List.mem_append_right _ (List.mem_of_getElem? (i := 1) (by decide +kernel))) rfl, by decide, by decide +kernel⟩
theorem in_X11_masterIs : Cond.instanceMethod yX11_masterIs ∈ TW := inTW (List.mem_append_right _ (List.mem_of_getElem? (i := 737) (by decide +kernel))) rfl
theorem se_X11_masterIs : Cond.selects yX11_masterIs.cls yX11_masterIs yX11_masterIs ∈ TW := inTW (List.mem_append_right _ (List.mem_of_getElem? (i := 738) (by decide +kernel))) rfl
theorem ml_L_76 : Cond.methodLink RL 76 yX12_masterIs ∈ TW := inTW (List.mem_append_right _ (List.mem_of_getElem? (i := 1463) (by decide +kernel))) rfl
theorem mi_X12_masterIs : MQI yX12_masterIs cX12_masterIs 3 (some .int) 2 := ⟨inTW (List.mem_append_right _ (List.mem_of_getElem? (i := 1466) (by decide +kernel))) rfl, inTW (List.mem_append_right _ (List.mem_of_getElem? (i := 13) (by decide +kernel))) rfl, by decide, by decide +kernel⟩
theorem in_X12_masterIs : Cond.instanceMethod yX12_masterIs ∈ TW := inTW (List.mem_append_right _ (List.mem_of_getElem? (i := 1464) (by decide +kernel))) rfl
theorem se_X12_masterIs : Cond.selects yX12_masterIs.cls yX12_masterIs yX12_masterIs ∈ TW := inTW (List.mem_append_right _ (List.mem_of_getElem? (i := 1465) (by decide +kernel))) rfl
theorem ml_L_77 : Cond.methodLink RL 77 yX11_tried ∈ TW := inTW (List.mem_append_right _ (List.mem_of_getElem? (i := 744) (by decide +kernel))) rfl
theorem mi_X11_tried : MQI yX11_tried cX11_tried 6 (some .int) 2 := ⟨inTW (List.mem_append_right _ (List.mem_of_getElem? (i := 747) (by decide +kernel))) rfl, inTW (List.mem_append_right _ (List.mem_of_getElem? (i := 1) (by decide +kernel))) rfl, by decide, by decide +kernel⟩
theorem in_X11_tried : Cond.instanceMethod yX11_tried ∈ TW := inTW (List.mem_append_right _ (List.mem_of_getElem? (i := 745) (by decide +kernel))) rfl
theorem se_X11_tried : Cond.selects yX11_tried.cls yX11_tried yX11_tried ∈ TW := inTW (List.mem_append_right _ (List.mem_of_getElem? (i := 746) (by decide +kernel))) rfl
theorem ml_L_80 : Cond.methodLink RL 80 yX12_tried ∈ TW := inTW (List.mem_append_right _ (List.mem_of_getElem? (i := 1467) (by decide +kernel))) rfl
theorem mi_X12_tried : MQI yX12_tried cX12_tried 4 (some .int) 2 := ⟨inTW (List.mem_append_right _ (List.mem_of_getElem? (i := 1470) (by decide +kernel))) rfl, inTW (List.mem_append_right _ (List.mem_of_getElem? (i := 13) (by decide +kernel))) rfl, by decide, by decide +kernel⟩
theorem in_X12_tried : Cond.instanceMethod yX12_tried ∈ TW := inTW (List.mem_append_right _ (List.mem_of_getElem? (i := 1468) (by decide +kernel))) rfl
theorem se_X12_tried : Cond.selects yX12_tried.cls yX12_tried yX12_tried ∈ TW := inTW (List.mem_append_right _ (List.mem_of_getElem? (i := 1469) (by decide +kernel))) rfl
theorem ml_L_81 : Cond.methodLink RL 81 yX11_set ∈ TW := inTW (List.mem_append_right _ (List.mem_of_getElem? (i := 778) (by decide +kernel))) rfl
theorem mi_X11_set : MQI yX11_set cX11_set 6 (some .int) 4 := ⟨inTW (List.mem_append_right _ (List.mem_of_getElem? (i := 781) (by decide +kernel))) rfl, inTW (List.mem_append_right _ (List.mem_of_getElem? (i := 1) (by decide +kernel))) rfl, by decide, by decide +kernel⟩
theorem in_X11_set : Cond.instanceMethod yX11_set ∈ TW := inTW (List.mem_append_right _ (List.mem_of_getElem? (i := 779) (by decide +kernel))) rfl
theorem se_X11_set : Cond.selects yX11_set.cls yX11_set yX11_set ∈ TW := inTW (List.mem_append_right _ (List.mem_of_getElem? (i := 780) (by decide +kernel))) rfl
theorem ml_L_85 : Cond.methodLink RL 85 yX12_set ∈ TW := inTW (List.mem_append_right _ (List.mem_of_getElem? (i := 1488) (by decide +kernel))) rfl
theorem mi_X12_set : MQI yX12_set cX12_set 8 (some .int) 4 := ⟨inTW (List.mem_append_right _ (List.mem_of_getElem? (i := 1491) (by decide +kernel))) rfl, inTW (List.mem_append_right _ (List.mem_of_getElem? (i := 13) (by decide +kernel))) rfl, by decide, by decide +kernel⟩
theorem in_X12_set : Cond.instanceMethod yX12_set ∈ TW := inTW (List.mem_append_right _ (List.mem_of_getElem? (i := 1489) (by decide +kernel))) rfl
theorem se_X12_set : Cond.selects yX12_set.cls yX12_set yX12_set ∈ TW := inTW (List.mem_append_right _ (List.mem_of_getElem? (i := 1490) (by decide +kernel))) rfl
theorem ml_L_86 : Cond.methodLink RL 86 yX11_free ∈ TW := inTW (List.mem_append_right _ (List.mem_of_getElem? (i := 828) (by decide +kernel))) rfl
theorem mi_X11_free : MQI yX11_free cX11_free 11 (some .int) 3 := ⟨inTW (List.mem_append_right _ (List.mem_of_getElem? (i := 831) (by decide +kernel))) rfl, inTW (List.mem_append_right _ (List.mem_of_getElem? (i := 1) (by decide +kernel))) rfl, by decide, by decide +kernel⟩
theorem in_X11_free : Cond.instanceMethod yX11_free ∈ TW := inTW (List.mem_append_right _ (List.mem_of_getElem? (i := 829) (by decide +kernel))) rfl
theorem se_X11_free : Cond.selects yX11_free.cls yX11_free yX11_free ∈ TW := inTW (List.mem_append_right _ (List.mem_of_getElem? (i := 830) (by decide +kernel))) rfl
theorem ml_L_89 : Cond.methodLink RL 89 yX12_free ∈ TW := inTW (List.mem_append_right _ (List.mem_of_getElem? (i := 1514) (by decide +kernel))) rfl
theorem mi_X12_free : MQI yX12_free cX12_free 11 (some .int) 3 := ⟨inTW (List.mem_append_right _ (List.mem_of_getElem? (i := 1517) (by decide +kernel))) rfl, inTW (List.mem_append_right _ (List.mem_of_getElem? (i := 13) (by decide +kernel))) rfl, by decide, by decide +kernel⟩
theorem in_X12_free : Cond.instanceMethod yX12_free ∈ TW := inTW (List.mem_append_right _ (List.mem_of_getElem? (i := 1515) (by decide +kernel))) rfl
theorem se_X12_free : Cond.selects yX12_free.cls yX12_free yX12_free ∈ TW := inTW (List.mem_append_right _ (List.mem_of_getElem? (i := 1516) (by decide +kernel))) rfl
theorem ml_L_90 : Cond.methodLink RL 90 yX11_worth ∈ TW := inTW (List.mem_append_right _ (List.mem_of_getElem? (i := 840) (by decide +kernel))) rfl
theorem mi_X11_worth : MQI yX11_worth cX11_worth 5 (some .int) 3 := ⟨inTW (List.mem_append_right _ (List.mem_of_getElem? (i := 843) (by decide +kernel))) rfl, inTW (List.mem_append_right _ (List.mem_of_getElem? (i := 1) (by decide +kernel))) rfl, by decide, by decide +kernel⟩
theorem in_X11_worth : Cond.instanceMethod yX11_worth ∈ TW := inTW (List.mem_append_right _ (List.mem_of_getElem? (i := 841) (by decide +kernel))) rfl
theorem se_X11_worth : Cond.selects yX11_worth.cls yX11_worth yX11_worth ∈ TW := inTW (List.mem_append_right _ (List.mem_of_getElem? (i := 842) (by decide +kernel))) rfl
theorem ml_L_93 : Cond.methodLink RL 93 yX12_worth ∈ TW := inTW (List.mem_append_right _ (List.mem_of_getElem? (i := 1520) (by decide +kernel))) rfl
theorem mi_X12_worth : MQI yX12_worth cX12_worth 5 (some .int) 3 := ⟨inTW (List.mem_append_right _ (List.mem_of_getElem? (i := 1523) (by decide +kernel))) rfl, inTW (List.mem_append_right _ (List.mem_of_getElem? (i := 13) (by decide +kernel))) rfl, by decide, by decide +kernel⟩
theorem in_X12_worth : Cond.instanceMethod yX12_worth ∈ TW := inTW (List.mem_append_right _ (List.mem_of_getElem? (i := 1521) (by decide +kernel))) rfl
theorem se_X12_worth : Cond.selects yX12_worth.cls yX12_worth yX12_worth ∈ TW := inTW (List.mem_append_right _ (List.mem_of_getElem? (i := 1522) (by decide +kernel))) rfl
theorem ml_L_94 : Cond.methodLink RL 94 yX11_lent ∈ TW := inTW (List.mem_append_right _ (List.mem_of_getElem? (i := 844) (by decide +kernel))) rfl
theorem mi_X11_lent : MQI yX11_lent cX11_lent 4 (some .int) 2 := ⟨inTW (List.mem_append_right _ (List.mem_of_getElem? (i := 847) (by decide +kernel))) rfl, inTW (List.mem_append_right _ (List.mem_of_getElem? (i := 1) (by decide +kernel))) rfl, by decide, by decide +kernel⟩
theorem in_X11_lent : Cond.instanceMethod yX11_lent ∈ TW := inTW (List.mem_append_right _ (List.mem_of_getElem? (i := 845) (by decide +kernel))) rfl
theorem se_X11_lent : Cond.selects yX11_lent.cls yX11_lent yX11_lent ∈ TW := inTW (List.mem_append_right _ (List.mem_of_getElem? (i := 846) (by decide +kernel))) rfl
theorem ml_L_97 : Cond.methodLink RL 97 yX12_lent ∈ TW := inTW (List.mem_append_right _ (List.mem_of_getElem? (i := 1528) (by decide +kernel))) rfl
theorem mi_X12_lent : MQI yX12_lent cX12_lent 8 (some .int) 2 := ⟨inTW (List.mem_append_right _ (List.mem_of_getElem? (i := 1531) (by decide +kernel))) rfl, inTW (List.mem_append_right _ (List.mem_of_getElem? (i := 13) (by decide +kernel))) rfl, by decide, by decide +kernel⟩
theorem in_X12_lent : Cond.instanceMethod yX12_lent ∈ TW := inTW (List.mem_append_right _ (List.mem_of_getElem? (i := 1529) (by decide +kernel))) rfl
theorem se_X12_lent : Cond.selects yX12_lent.cls yX12_lent yX12_lent ∈ TW := inTW (List.mem_append_right _ (List.mem_of_getElem? (i := 1530) (by decide +kernel))) rfl
theorem ml_L_98 : Cond.methodLink RL 98 yX11_letGo ∈ TW := inTW (List.mem_append_right _ (List.mem_of_getElem? (i := 873) (by decide +kernel))) rfl
theorem mi_X11_letGo : MQI yX11_letGo cX11_letGo 9 (some .int) 3 := ⟨inTW (List.mem_append_right _ (List.mem_of_getElem? (i := 876) (by decide +kernel))) rfl, inTW (List.mem_append_right _ (List.mem_of_getElem? (i := 1) (by decide +kernel))) rfl, by decide, by decide +kernel⟩
theorem in_X11_letGo : Cond.instanceMethod yX11_letGo ∈ TW := inTW (List.mem_append_right _ (List.mem_of_getElem? (i := 874) (by decide +kernel))) rfl
theorem se_X11_letGo : Cond.selects yX11_letGo.cls yX11_letGo yX11_letGo ∈ TW := inTW (List.mem_append_right _ (List.mem_of_getElem? (i := 875) (by decide +kernel))) rfl
set_option maxRecDepth 100000 in
set_option maxHeartbeats 8000000 in
theorem law_loop (xs : List Int) (hN : xs.length ≤ 6) (Po : Option PV → List SE → MEM → Prop) (hPo : ∀ h', Po (some (pI 1)) SH h') (h : MEM) (eh : h = hOf INI) : G x cL_law 4 (some .boolean) (some xs) Po (2048, 84000, 600000, 7302250) 18 [some pX, some (pR 0), some (pR 98), some (pI 0)] [] SH h 151 10868 := by
  have hX : MBx h := by rw [eh]; exact fun a j _ => MB_0 a j
  have hMm : MBm h := by rw [eh]; exact fun a j _ => MB_0 a j
  have i0_12 : h 0 12 = 0 := by rw [eh]; rfl
  have i1_6 : h 1 6 = 0 := by rw [eh]; rfl
  have i1_7 : h 1 7 = 1 := by rw [eh]; rfl
  have i61_0 : h 61 0 = 0 := by rw [eh]; rfl
  have i98_1 : h 98 1 = 0 := by rw [eh]; rfl
  have i98_5 : h 98 5 = 0 := by rw [eh]; rfl
  have i98_6 : h 98 6 = 1 := by rw [eh]; rfl
  have i98_79 : h 98 79 = 0 := by rw [eh]; rfl
  refine g_iload_n dL_law_18 rfl (fun _ => ?_)
  refine g_aloadX_n dL_law_19 rfl ?_
  refine g_slenB dL_law_20 (fun v1 ev1 bv1 cv1 => ?_)
  refine g_bipush dL_law_21 (inR_c rfl) (by decide) ?_
  refine g_isubB dL_law_23 (by omega) (by omega) ?_
  refine g_icmp_gt 1222 dL_law_24 (by decide) (fun q2 => ?_) (fun q2 => ?_)
  · skip
    refine g_iconst dL_law_1222 (inR_c rfl) ?_
    exact g_ireturn dL_law_1223 (retZ (by omega)) (hPo _)
  · skip
    refine g_aloadX_n dL_law_27 rfl ?_
    refine g_iload_n dL_law_28 rfl (fun _ => ?_)
    refine g_sldB dL_law_29 (by omega) (by omega) (fun v3 ev3 bv3 cv3 => ?_)
    refine g_bipush dL_law_30 (inR_c rfl) (by decide) ?_
    refine g_iandX (lo := 0) (hi := 31) dL_law_32 (iand_r (by omega) (by omega)) (fun v4 ev4 bv4 cv4 => ?_)
    rcases (show v4 = 0 ∨ v4 = 1 ∨ v4 = 2 ∨ v4 = 3 ∨ v4 = 4 ∨ v4 = 5 ∨ v4 = 6 ∨ v4 = 7 ∨ v4 = 8 ∨ v4 = 9 ∨ v4 = 10 ∨ v4 = 11 ∨ v4 = 12 ∨ v4 = 13 ∨ v4 = 14 ∨ v4 = 15 ∨ v4 = 16 ∨ v4 = 17 ∨ v4 = 18 ∨ v4 = 19 ∨ v4 = 20 ∨ v4 = 21 ∨ v4 = 22 ∨ v4 = 23 ∨ v4 = 24 ∨ v4 = 25 ∨ v4 = 26 ∨ v4 = 27 ∨ v4 = 28 ∨ v4 = 29 ∨ (v4 < 0 ∨ 29 < v4) by omega) with q5 | q5 | q5 | q5 | q5 | q5 | q5 | q5 | q5 | q5 | q5 | q5 | q5 | q5 | q5 | q5 | q5 | q5 | q5 | q5 | q5 | q5 | q5 | q5 | q5 | q5 | q5 | q5 | q5 | q5 | q5
    · skip
      refine g_tableIn 168 0 dL_law_33 (by omega) (by omega) rfl (by decide) ?_
      refine g_aload_n dL_law_168 rfl ?_
      refine g_aloadX_n dL_law_169 rfl ?_
      refine g_iload_n dL_law_170 rfl (fun _ => ?_)
      refine g_iconst dL_law_171 (inR_c rfl) ?_
      refine g_iaddB dL_law_172 (by omega) (by omega) ?_
      refine g_sldB dL_law_173 (by omega) (by omega) (fun v6 ev6 bv6 cv6 => ?_)
      refine g_aloadX_n dL_law_174 rfl ?_
      refine g_iload_n dL_law_175 rfl (fun _ => ?_)
      refine g_iconst dL_law_176 (inR_c rfl) ?_
      refine g_iaddB dL_law_177 (by omega) (by omega) ?_
      refine g_sldB dL_law_178 (by omega) (by omega) (fun v7 ev7 bv7 cv7 => ?_)
      refine g_aloadX_n dL_law_179 rfl ?_
      refine g_iload_n dL_law_180 rfl (fun _ => ?_)
      refine g_iconst dL_law_181 (inR_c rfl) ?_
      refine g_iaddB dL_law_182 (by omega) (by omega) ?_
      refine g_sldB dL_law_183 (by omega) (by omega) (fun v8 ev8 bv8 cv8 => ?_)
      refine g_cV (as := [_, _, _]) (c_X11_roof_0 _ _ _ h hX (by omega) (by omega) (by omega) (by omega) (by omega) (by omega)) dL_law_184 mi_X11_roof in_X11_roof se_X11_roof ml_L_13 rfl rfl rfl sh_0 rfl rfl (Nat.le_of_ble_eq_true rfl) (fun v9 h10 q11 => ?_)
      obtain ⟨hFh10, zv9⟩ := q11
      refine g_aload_n dL_law_187 rfl ?_
      refine g_aloadX_n dL_law_188 rfl ?_
      refine g_iload_n dL_law_189 rfl (fun _ => ?_)
      refine g_iconst dL_law_190 (inR_c rfl) ?_
      refine g_iaddB dL_law_191 (by omega) (by omega) ?_
      refine g_sldE dL_law_192 (by omega) (by omega) ev6 ?_
      refine g_aloadX_n dL_law_193 rfl ?_
      refine g_iload_n dL_law_194 rfl (fun _ => ?_)
      refine g_iconst dL_law_195 (inR_c rfl) ?_
      refine g_iaddB dL_law_196 (by omega) (by omega) ?_
      refine g_sldE dL_law_197 (by omega) (by omega) ev7 ?_
      refine g_aloadX_n dL_law_198 rfl ?_
      refine g_iload_n dL_law_199 rfl (fun _ => ?_)
      refine g_iconst dL_law_200 (inR_c rfl) ?_
      refine g_iaddB dL_law_201 (by omega) (by omega) ?_
      refine g_sldE dL_law_202 (by omega) (by omega) ev8 ?_
      refine g_cV (as := [_, _, _]) (c_X12_roof_98 _ _ _ h10 (MBm.fr hMm hFh10 rfl) (by omega) (by omega) (by omega) (by omega) (by omega) (by omega)) dL_law_203 mi_X12_roof in_X12_roof se_X12_roof ml_L_17 rfl rfl rfl sh_98 rfl rfl (Nat.le_of_ble_eq_true rfl) (fun v12 h13 q14 => ?_)
      obtain ⟨hFh13, zv12⟩ := q14
      refine g_icmp_eq 1216 dL_law_206 (by decide) (fun _ => ?_) (fun q => absurd (by omega) q)
      refine g_iincB dL_law_1216 rfl rfl (by omega) (by omega) ?_
      refine g_goto 18 dL_law_1219 (by decide) ?_
      refine g_iload_n dL_law_18 rfl (fun _ => ?_)
      refine g_aloadX_n dL_law_19 rfl ?_
      refine g_slenB dL_law_20 (fun v15 ev15 bv15 cv15 => ?_)
      refine g_bipush dL_law_21 (inR_c rfl) (by decide) ?_
      refine g_isubB dL_law_23 (by omega) (by omega) ?_
      refine g_icmp_gt 1222 dL_law_24 (by decide) (fun q16 => ?_) (fun _ => by exfalso; omega)
      refine g_iconst dL_law_1222 (inR_c rfl) ?_
      exact g_ireturn dL_law_1223 (retZ (by omega)) (hPo _)
    · skip
      refine g_tableIn 211 1 dL_law_33 (by omega) (by omega) rfl (by decide) ?_
      refine g_aload_n dL_law_211 rfl ?_
      refine g_aloadX_n dL_law_212 rfl ?_
      refine g_iload_n dL_law_213 rfl (fun _ => ?_)
      refine g_iconst dL_law_214 (inR_c rfl) ?_
      refine g_iaddB dL_law_215 (by omega) (by omega) ?_
      refine g_sldB dL_law_216 (by omega) (by omega) (fun v17 ev17 bv17 cv17 => ?_)
      refine g_cV (as := [_]) (c_X11_apprentice_0 _ h hX (by omega) (by omega)) dL_law_217 mi_X11_apprentice in_X11_apprentice se_X11_apprentice ml_L_18 rfl rfl rfl sh_0 rfl rfl (Nat.le_of_ble_eq_true rfl) (fun v18 h19 q20 => ?_)
      obtain ⟨hFh19, zv18⟩ := q20
      refine g_aload_n dL_law_220 rfl ?_
      refine g_aloadX_n dL_law_221 rfl ?_
      refine g_iload_n dL_law_222 rfl (fun _ => ?_)
      refine g_iconst dL_law_223 (inR_c rfl) ?_
      refine g_iaddB dL_law_224 (by omega) (by omega) ?_
      refine g_sldE dL_law_225 (by omega) (by omega) ev17 ?_
      refine g_cV (as := [_]) (c_X12_apprentice_98 _ h19 (MBm.fr hMm hFh19 rfl) (by omega) (by omega)) dL_law_226 mi_X12_apprentice in_X12_apprentice se_X12_apprentice ml_L_22 rfl rfl rfl sh_98 rfl rfl (Nat.le_of_ble_eq_true rfl) (fun v21 h22 q23 => ?_)
      obtain ⟨hFh22, zv21⟩ := q23
      refine g_icmp_eq 1216 dL_law_229 (by decide) (fun _ => ?_) (fun q => absurd (by omega) q)
      refine g_iincB dL_law_1216 rfl rfl (by omega) (by omega) ?_
      refine g_goto 18 dL_law_1219 (by decide) ?_
      refine g_iload_n dL_law_18 rfl (fun _ => ?_)
      refine g_aloadX_n dL_law_19 rfl ?_
      refine g_slenB dL_law_20 (fun v24 ev24 bv24 cv24 => ?_)
      refine g_bipush dL_law_21 (inR_c rfl) (by decide) ?_
      refine g_isubB dL_law_23 (by omega) (by omega) ?_
      refine g_icmp_gt 1222 dL_law_24 (by decide) (fun q25 => ?_) (fun _ => by exfalso; omega)
      refine g_iconst dL_law_1222 (inR_c rfl) ?_
      exact g_ireturn dL_law_1223 (retZ (by omega)) (hPo _)
    · skip
      refine g_tableIn 234 2 dL_law_33 (by omega) (by omega) rfl (by decide) ?_
      refine g_aload_n dL_law_234 rfl ?_
      refine g_aloadX_n dL_law_235 rfl ?_
      refine g_iload_n dL_law_236 rfl (fun _ => ?_)
      refine g_iconst dL_law_237 (inR_c rfl) ?_
      refine g_iaddB dL_law_238 (by omega) (by omega) ?_
      refine g_sldB dL_law_239 (by omega) (by omega) (fun v26 ev26 bv26 cv26 => ?_)
      refine g_aloadX_n dL_law_240 rfl ?_
      refine g_iload_n dL_law_241 rfl (fun _ => ?_)
      refine g_iconst dL_law_242 (inR_c rfl) ?_
      refine g_iaddB dL_law_243 (by omega) (by omega) ?_
      refine g_sldB dL_law_244 (by omega) (by omega) (fun v27 ev27 bv27 cv27 => ?_)
      refine g_if_eq 252 dL_law_245 (by decide) (fun q28 => ?_) (fun q28 => ?_)
      · skip
        refine g_iconst dL_law_252 (inR_c rfl) ?_
        refine g_cV (as := [_, _]) (c_X11_master_0 _ _ h hX (by omega) (by omega) (by omega) (by omega)) dL_law_253 mi_X11_master in_X11_master se_X11_master ml_L_23 rfl rfl rfl sh_0 rfl rfl (Nat.le_of_ble_eq_true rfl) (fun v29 h30 q31 => ?_)
        obtain ⟨hFh30, zv29⟩ := q31
        refine g_aload_n dL_law_256 rfl ?_
        refine g_aloadX_n dL_law_257 rfl ?_
        refine g_iload_n dL_law_258 rfl (fun _ => ?_)
        refine g_iconst dL_law_259 (inR_c rfl) ?_
        refine g_iaddB dL_law_260 (by omega) (by omega) ?_
        refine g_sldE dL_law_261 (by omega) (by omega) ev26 ?_
        refine g_aloadX_n dL_law_262 rfl ?_
        refine g_iload_n dL_law_263 rfl (fun _ => ?_)
        refine g_iconst dL_law_264 (inR_c rfl) ?_
        refine g_iaddB dL_law_265 (by omega) (by omega) ?_
        refine g_sldE dL_law_266 (by omega) (by omega) ev27 ?_
        refine g_if_eq 274 dL_law_267 (by decide) (fun q32 => ?_) (fun _ => by exfalso; omega)
        refine g_iconst dL_law_274 (inR_c rfl) ?_
        refine g_cV (as := [_, _]) (c_X12_master_98 _ _ h30 (MBm.fr hMm hFh30 rfl) (by omega) (by omega) (by omega) (by omega)) dL_law_275 mi_X12_master in_X12_master se_X12_master ml_L_27 rfl rfl rfl sh_98 rfl rfl (Nat.le_of_ble_eq_true rfl) (fun v33 h34 q35 => ?_)
        obtain ⟨hFh34, zv33⟩ := q35
        refine g_icmp_eq 1216 dL_law_278 (by decide) (fun _ => ?_) (fun q => absurd (by omega) q)
        refine g_iincB dL_law_1216 rfl rfl (by omega) (by omega) ?_
        refine g_goto 18 dL_law_1219 (by decide) ?_
        refine g_iload_n dL_law_18 rfl (fun _ => ?_)
        refine g_aloadX_n dL_law_19 rfl ?_
        refine g_slenB dL_law_20 (fun v36 ev36 bv36 cv36 => ?_)
        refine g_bipush dL_law_21 (inR_c rfl) (by decide) ?_
        refine g_isubB dL_law_23 (by omega) (by omega) ?_
        refine g_icmp_gt 1222 dL_law_24 (by decide) (fun q37 => ?_) (fun _ => by exfalso; omega)
        refine g_iconst dL_law_1222 (inR_c rfl) ?_
        exact g_ireturn dL_law_1223 (retZ (by omega)) (hPo _)
      · skip
        refine g_iconst dL_law_248 (inR_c rfl) ?_
        refine g_goto 253 dL_law_249 (by decide) ?_
        refine g_cV (as := [_, _]) (c_X11_master_0 _ _ h hX (by omega) (by omega) (by omega) (by omega)) dL_law_253 mi_X11_master in_X11_master se_X11_master ml_L_23 rfl rfl rfl sh_0 rfl rfl (Nat.le_of_ble_eq_true rfl) (fun v38 h39 q40 => ?_)
        obtain ⟨hFh39, zv38⟩ := q40
        refine g_aload_n dL_law_256 rfl ?_
        refine g_aloadX_n dL_law_257 rfl ?_
        refine g_iload_n dL_law_258 rfl (fun _ => ?_)
        refine g_iconst dL_law_259 (inR_c rfl) ?_
        refine g_iaddB dL_law_260 (by omega) (by omega) ?_
        refine g_sldE dL_law_261 (by omega) (by omega) ev26 ?_
        refine g_aloadX_n dL_law_262 rfl ?_
        refine g_iload_n dL_law_263 rfl (fun _ => ?_)
        refine g_iconst dL_law_264 (inR_c rfl) ?_
        refine g_iaddB dL_law_265 (by omega) (by omega) ?_
        refine g_sldE dL_law_266 (by omega) (by omega) ev27 ?_
        refine g_if_eq 274 dL_law_267 (by decide) (fun _ => by exfalso; omega) (fun q41 => ?_)
        refine g_iconst dL_law_270 (inR_c rfl) ?_
        refine g_goto 275 dL_law_271 (by decide) ?_
        refine g_cV (as := [_, _]) (c_X12_master_98 _ _ h39 (MBm.fr hMm hFh39 rfl) (by omega) (by omega) (by omega) (by omega)) dL_law_275 mi_X12_master in_X12_master se_X12_master ml_L_27 rfl rfl rfl sh_98 rfl rfl (Nat.le_of_ble_eq_true rfl) (fun v42 h43 q44 => ?_)
        obtain ⟨hFh43, zv42⟩ := q44
        refine g_icmp_eq 1216 dL_law_278 (by decide) (fun _ => ?_) (fun q => absurd (by omega) q)
        refine g_iincB dL_law_1216 rfl rfl (by omega) (by omega) ?_
        refine g_goto 18 dL_law_1219 (by decide) ?_
        refine g_iload_n dL_law_18 rfl (fun _ => ?_)
        refine g_aloadX_n dL_law_19 rfl ?_
        refine g_slenB dL_law_20 (fun v45 ev45 bv45 cv45 => ?_)
        refine g_bipush dL_law_21 (inR_c rfl) (by decide) ?_
        refine g_isubB dL_law_23 (by omega) (by omega) ?_
        refine g_icmp_gt 1222 dL_law_24 (by decide) (fun q46 => ?_) (fun _ => by exfalso; omega)
        refine g_iconst dL_law_1222 (inR_c rfl) ?_
        exact g_ireturn dL_law_1223 (retZ (by omega)) (hPo _)
    · skip
      refine g_tableIn 283 3 dL_law_33 (by omega) (by omega) rfl (by decide) ?_
      refine g_aload_n dL_law_283 rfl ?_
      refine g_aloadX_n dL_law_284 rfl ?_
      refine g_iload_n dL_law_285 rfl (fun _ => ?_)
      refine g_iconst dL_law_286 (inR_c rfl) ?_
      refine g_iaddB dL_law_287 (by omega) (by omega) ?_
      refine g_sldB dL_law_288 (by omega) (by omega) (fun v47 ev47 bv47 cv47 => ?_)
      refine g_aloadX_n dL_law_289 rfl ?_
      refine g_iload_n dL_law_290 rfl (fun _ => ?_)
      refine g_iconst dL_law_291 (inR_c rfl) ?_
      refine g_iaddB dL_law_292 (by omega) (by omega) ?_
      refine g_sldB dL_law_293 (by omega) (by omega) (fun v48 ev48 bv48 cv48 => ?_)
      refine g_cVP (as := [_, _]) (c_X11_on_0 _ _ h hX (by omega) (by omega) (by omega) (by omega)) dL_law_294 mi_X11_on in_X11_on se_X11_on ml_L_28 rfl rfl rfl sh_0 rfl rfl (Nat.le_of_ble_eq_true rfl) (fun v49 q50 => ?_)
      have zv49 := q50
      refine g_aload_n dL_law_297 rfl ?_
      refine g_aloadX_n dL_law_298 rfl ?_
      refine g_iload_n dL_law_299 rfl (fun _ => ?_)
      refine g_iconst dL_law_300 (inR_c rfl) ?_
      refine g_iaddB dL_law_301 (by omega) (by omega) ?_
      refine g_sldE dL_law_302 (by omega) (by omega) ev47 ?_
      refine g_aloadX_n dL_law_303 rfl ?_
      refine g_iload_n dL_law_304 rfl (fun _ => ?_)
      refine g_iconst dL_law_305 (inR_c rfl) ?_
      refine g_iaddB dL_law_306 (by omega) (by omega) ?_
      refine g_sldE dL_law_307 (by omega) (by omega) ev48 ?_
      refine g_cVP (as := [_, _]) (c_X12_on_98 _ _ h hMm (by omega) (by omega) (by omega) (by omega)) dL_law_308 mi_X12_on in_X12_on se_X12_on ml_L_32 rfl rfl rfl sh_98 rfl rfl (Nat.le_of_ble_eq_true rfl) (fun v51 q52 => ?_)
      have zv51 := q52
      refine g_icmp_eq 1216 dL_law_311 (by decide) (fun _ => ?_) (fun q => absurd (by omega) q)
      refine g_iincB dL_law_1216 rfl rfl (by omega) (by omega) ?_
      refine g_goto 18 dL_law_1219 (by decide) ?_
      refine g_iload_n dL_law_18 rfl (fun _ => ?_)
      refine g_aloadX_n dL_law_19 rfl ?_
      refine g_slenB dL_law_20 (fun v53 ev53 bv53 cv53 => ?_)
      refine g_bipush dL_law_21 (inR_c rfl) (by decide) ?_
      refine g_isubB dL_law_23 (by omega) (by omega) ?_
      refine g_icmp_gt 1222 dL_law_24 (by decide) (fun q54 => ?_) (fun _ => by exfalso; omega)
      refine g_iconst dL_law_1222 (inR_c rfl) ?_
      exact g_ireturn dL_law_1223 (retZ (by omega)) (hPo _)
    · skip
      refine g_tableIn 316 4 dL_law_33 (by omega) (by omega) rfl (by decide) ?_
      refine g_aload_n dL_law_316 rfl ?_
      refine g_aloadX_n dL_law_317 rfl ?_
      refine g_iload_n dL_law_318 rfl (fun _ => ?_)
      refine g_iconst dL_law_319 (inR_c rfl) ?_
      refine g_iaddB dL_law_320 (by omega) (by omega) ?_
      refine g_sldB dL_law_321 (by omega) (by omega) (fun v55 ev55 bv55 cv55 => ?_)
      refine g_aloadX_n dL_law_322 rfl ?_
      refine g_iload_n dL_law_323 rfl (fun _ => ?_)
      refine g_iconst dL_law_324 (inR_c rfl) ?_
      refine g_iaddB dL_law_325 (by omega) (by omega) ?_
      refine g_sldB dL_law_326 (by omega) (by omega) (fun v56 ev56 bv56 cv56 => ?_)
      refine g_cVP (as := [_, _]) (c_X11_below_0 _ _ h hX (by omega) (by omega) (by omega) (by omega)) dL_law_327 mi_X11_below in_X11_below se_X11_below ml_L_33 rfl rfl rfl sh_0 rfl rfl (Nat.le_of_ble_eq_true rfl) (fun v57 q58 => ?_)
      have zv57 := q58
      refine g_aload_n dL_law_330 rfl ?_
      refine g_aloadX_n dL_law_331 rfl ?_
      refine g_iload_n dL_law_332 rfl (fun _ => ?_)
      refine g_iconst dL_law_333 (inR_c rfl) ?_
      refine g_iaddB dL_law_334 (by omega) (by omega) ?_
      refine g_sldE dL_law_335 (by omega) (by omega) ev55 ?_
      refine g_aloadX_n dL_law_336 rfl ?_
      refine g_iload_n dL_law_337 rfl (fun _ => ?_)
      refine g_iconst dL_law_338 (inR_c rfl) ?_
      refine g_iaddB dL_law_339 (by omega) (by omega) ?_
      refine g_sldE dL_law_340 (by omega) (by omega) ev56 ?_
      refine g_cVP (as := [_, _]) (c_X12_below_98 _ _ h hMm (by omega) (by omega) (by omega) (by omega)) dL_law_341 mi_X12_below in_X12_below se_X12_below ml_L_36 rfl rfl rfl sh_98 rfl rfl (Nat.le_of_ble_eq_true rfl) (fun v59 q60 => ?_)
      have zv59 := q60
      refine g_icmp_eq 1216 dL_law_344 (by decide) (fun _ => ?_) (fun q => absurd (by omega) q)
      refine g_iincB dL_law_1216 rfl rfl (by omega) (by omega) ?_
      refine g_goto 18 dL_law_1219 (by decide) ?_
      refine g_iload_n dL_law_18 rfl (fun _ => ?_)
      refine g_aloadX_n dL_law_19 rfl ?_
      refine g_slenB dL_law_20 (fun v61 ev61 bv61 cv61 => ?_)
      refine g_bipush dL_law_21 (inR_c rfl) (by decide) ?_
      refine g_isubB dL_law_23 (by omega) (by omega) ?_
      refine g_icmp_gt 1222 dL_law_24 (by decide) (fun q62 => ?_) (fun _ => by exfalso; omega)
      refine g_iconst dL_law_1222 (inR_c rfl) ?_
      exact g_ireturn dL_law_1223 (retZ (by omega)) (hPo _)
    · skip
      refine g_tableIn 349 5 dL_law_33 (by omega) (by omega) rfl (by decide) ?_
      refine g_aload_n dL_law_349 rfl ?_
      refine g_aloadX_n dL_law_350 rfl ?_
      refine g_iload_n dL_law_351 rfl (fun _ => ?_)
      refine g_iconst dL_law_352 (inR_c rfl) ?_
      refine g_iaddB dL_law_353 (by omega) (by omega) ?_
      refine g_sldB dL_law_354 (by omega) (by omega) (fun v63 ev63 bv63 cv63 => ?_)
      refine g_aloadX_n dL_law_355 rfl ?_
      refine g_iload_n dL_law_356 rfl (fun _ => ?_)
      refine g_iconst dL_law_357 (inR_c rfl) ?_
      refine g_iaddB dL_law_358 (by omega) (by omega) ?_
      refine g_sldB dL_law_359 (by omega) (by omega) (fun v64 ev64 bv64 cv64 => ?_)
      refine g_aloadX_n dL_law_360 rfl ?_
      refine g_iload_n dL_law_361 rfl (fun _ => ?_)
      refine g_iconst dL_law_362 (inR_c rfl) ?_
      refine g_iaddB dL_law_363 (by omega) (by omega) ?_
      refine g_sldB dL_law_364 (by omega) (by omega) (fun v65 ev65 bv65 cv65 => ?_)
      refine g_if_eq 372 dL_law_365 (by decide) (fun q66 => ?_) (fun q66 => ?_)
      · skip
        refine g_iconst dL_law_372 (inR_c rfl) ?_
        refine g_cVP (as := [_, _, _]) (c_X11_gear_0 _ _ _ h hX (by omega) (by omega) (by omega) (by omega) (by omega) (by omega)) dL_law_373 mi_X11_gear in_X11_gear se_X11_gear ml_L_37 rfl rfl rfl sh_0 rfl rfl (Nat.le_of_ble_eq_true rfl) (fun v67 q68 => ?_)
        have zv67 := q68
        refine g_aload_n dL_law_376 rfl ?_
        refine g_aloadX_n dL_law_377 rfl ?_
        refine g_iload_n dL_law_378 rfl (fun _ => ?_)
        refine g_iconst dL_law_379 (inR_c rfl) ?_
        refine g_iaddB dL_law_380 (by omega) (by omega) ?_
        refine g_sldE dL_law_381 (by omega) (by omega) ev63 ?_
        refine g_aloadX_n dL_law_382 rfl ?_
        refine g_iload_n dL_law_383 rfl (fun _ => ?_)
        refine g_iconst dL_law_384 (inR_c rfl) ?_
        refine g_iaddB dL_law_385 (by omega) (by omega) ?_
        refine g_sldE dL_law_386 (by omega) (by omega) ev64 ?_
        refine g_aloadX_n dL_law_387 rfl ?_
        refine g_iload_n dL_law_388 rfl (fun _ => ?_)
        refine g_iconst dL_law_389 (inR_c rfl) ?_
        refine g_iaddB dL_law_390 (by omega) (by omega) ?_
        refine g_sldE dL_law_391 (by omega) (by omega) ev65 ?_
        refine g_if_eq 399 dL_law_392 (by decide) (fun q69 => ?_) (fun _ => by exfalso; omega)
        refine g_iconst dL_law_399 (inR_c rfl) ?_
        refine g_cVP (as := [_, _, _]) (c_X12_gear_98 _ _ _ h hMm (by omega) (by omega) (by omega) (by omega) (by omega) (by omega)) dL_law_400 mi_X12_gear in_X12_gear se_X12_gear ml_L_41 rfl rfl rfl sh_98 rfl rfl (Nat.le_of_ble_eq_true rfl) (fun v70 q71 => ?_)
        have zv70 := q71
        refine g_icmp_eq 1216 dL_law_403 (by decide) (fun _ => ?_) (fun q => absurd (by omega) q)
        refine g_iincB dL_law_1216 rfl rfl (by omega) (by omega) ?_
        refine g_goto 18 dL_law_1219 (by decide) ?_
        refine g_iload_n dL_law_18 rfl (fun _ => ?_)
        refine g_aloadX_n dL_law_19 rfl ?_
        refine g_slenB dL_law_20 (fun v72 ev72 bv72 cv72 => ?_)
        refine g_bipush dL_law_21 (inR_c rfl) (by decide) ?_
        refine g_isubB dL_law_23 (by omega) (by omega) ?_
        refine g_icmp_gt 1222 dL_law_24 (by decide) (fun q73 => ?_) (fun _ => by exfalso; omega)
        refine g_iconst dL_law_1222 (inR_c rfl) ?_
        exact g_ireturn dL_law_1223 (retZ (by omega)) (hPo _)
      · skip
        refine g_iconst dL_law_368 (inR_c rfl) ?_
        refine g_goto 373 dL_law_369 (by decide) ?_
        refine g_cVP (as := [_, _, _]) (c_X11_gear_0 _ _ _ h hX (by omega) (by omega) (by omega) (by omega) (by omega) (by omega)) dL_law_373 mi_X11_gear in_X11_gear se_X11_gear ml_L_37 rfl rfl rfl sh_0 rfl rfl (Nat.le_of_ble_eq_true rfl) (fun v74 q75 => ?_)
        have zv74 := q75
        refine g_aload_n dL_law_376 rfl ?_
        refine g_aloadX_n dL_law_377 rfl ?_
        refine g_iload_n dL_law_378 rfl (fun _ => ?_)
        refine g_iconst dL_law_379 (inR_c rfl) ?_
        refine g_iaddB dL_law_380 (by omega) (by omega) ?_
        refine g_sldE dL_law_381 (by omega) (by omega) ev63 ?_
        refine g_aloadX_n dL_law_382 rfl ?_
        refine g_iload_n dL_law_383 rfl (fun _ => ?_)
        refine g_iconst dL_law_384 (inR_c rfl) ?_
        refine g_iaddB dL_law_385 (by omega) (by omega) ?_
        refine g_sldE dL_law_386 (by omega) (by omega) ev64 ?_
        refine g_aloadX_n dL_law_387 rfl ?_
        refine g_iload_n dL_law_388 rfl (fun _ => ?_)
        refine g_iconst dL_law_389 (inR_c rfl) ?_
        refine g_iaddB dL_law_390 (by omega) (by omega) ?_
        refine g_sldE dL_law_391 (by omega) (by omega) ev65 ?_
        refine g_if_eq 399 dL_law_392 (by decide) (fun _ => by exfalso; omega) (fun q76 => ?_)
        refine g_iconst dL_law_395 (inR_c rfl) ?_
        refine g_goto 400 dL_law_396 (by decide) ?_
        refine g_cVP (as := [_, _, _]) (c_X12_gear_98 _ _ _ h hMm (by omega) (by omega) (by omega) (by omega) (by omega) (by omega)) dL_law_400 mi_X12_gear in_X12_gear se_X12_gear ml_L_41 rfl rfl rfl sh_98 rfl rfl (Nat.le_of_ble_eq_true rfl) (fun v77 q78 => ?_)
        have zv77 := q78
        refine g_icmp_eq 1216 dL_law_403 (by decide) (fun _ => ?_) (fun q => absurd (by omega) q)
        refine g_iincB dL_law_1216 rfl rfl (by omega) (by omega) ?_
        refine g_goto 18 dL_law_1219 (by decide) ?_
        refine g_iload_n dL_law_18 rfl (fun _ => ?_)
        refine g_aloadX_n dL_law_19 rfl ?_
        refine g_slenB dL_law_20 (fun v79 ev79 bv79 cv79 => ?_)
        refine g_bipush dL_law_21 (inR_c rfl) (by decide) ?_
        refine g_isubB dL_law_23 (by omega) (by omega) ?_
        refine g_icmp_gt 1222 dL_law_24 (by decide) (fun q80 => ?_) (fun _ => by exfalso; omega)
        refine g_iconst dL_law_1222 (inR_c rfl) ?_
        exact g_ireturn dL_law_1223 (retZ (by omega)) (hPo _)
    · skip
      refine g_tableIn 408 6 dL_law_33 (by omega) (by omega) rfl (by decide) ?_
      refine g_aload_n dL_law_408 rfl ?_
      refine g_aloadX_n dL_law_409 rfl ?_
      refine g_iload_n dL_law_410 rfl (fun _ => ?_)
      refine g_iconst dL_law_411 (inR_c rfl) ?_
      refine g_iaddB dL_law_412 (by omega) (by omega) ?_
      refine g_sldB dL_law_413 (by omega) (by omega) (fun v81 ev81 bv81 cv81 => ?_)
      refine g_aloadX_n dL_law_414 rfl ?_
      refine g_iload_n dL_law_415 rfl (fun _ => ?_)
      refine g_iconst dL_law_416 (inR_c rfl) ?_
      refine g_iaddB dL_law_417 (by omega) (by omega) ?_
      refine g_sldB dL_law_418 (by omega) (by omega) (fun v82 ev82 bv82 cv82 => ?_)
      refine g_if_eq 426 dL_law_419 (by decide) (fun q83 => ?_) (fun q83 => ?_)
      · skip
        refine g_iconst dL_law_426 (inR_c rfl) ?_
        refine g_cV (as := [_, _]) (c_X11_snow_0 _ _ h hX (by omega) (by omega) (by omega) (by omega)) dL_law_427 mi_X11_snow in_X11_snow se_X11_snow ml_L_42 rfl rfl rfl sh_0 rfl rfl (Nat.le_of_ble_eq_true rfl) (fun v84 h85 q86 => ?_)
        obtain ⟨hFh85, zv84⟩ := q86
        refine g_aload_n dL_law_430 rfl ?_
        refine g_aloadX_n dL_law_431 rfl ?_
        refine g_iload_n dL_law_432 rfl (fun _ => ?_)
        refine g_iconst dL_law_433 (inR_c rfl) ?_
        refine g_iaddB dL_law_434 (by omega) (by omega) ?_
        refine g_sldE dL_law_435 (by omega) (by omega) ev81 ?_
        refine g_aloadX_n dL_law_436 rfl ?_
        refine g_iload_n dL_law_437 rfl (fun _ => ?_)
        refine g_iconst dL_law_438 (inR_c rfl) ?_
        refine g_iaddB dL_law_439 (by omega) (by omega) ?_
        refine g_sldE dL_law_440 (by omega) (by omega) ev82 ?_
        refine g_if_eq 448 dL_law_441 (by decide) (fun q87 => ?_) (fun _ => by exfalso; omega)
        refine g_iconst dL_law_448 (inR_c rfl) ?_
        refine g_cV (as := [_, _]) (c_X12_snow_98 _ _ h85 (MBm.fr hMm hFh85 rfl) (by omega) (by omega) (by omega) (by omega)) dL_law_449 mi_X12_snow in_X12_snow se_X12_snow ml_L_46 rfl rfl rfl sh_98 rfl rfl (Nat.le_of_ble_eq_true rfl) (fun v88 h89 q90 => ?_)
        obtain ⟨hFh89, zv88⟩ := q90
        refine g_icmp_eq 1216 dL_law_452 (by decide) (fun _ => ?_) (fun q => absurd (by omega) q)
        refine g_iincB dL_law_1216 rfl rfl (by omega) (by omega) ?_
        refine g_goto 18 dL_law_1219 (by decide) ?_
        refine g_iload_n dL_law_18 rfl (fun _ => ?_)
        refine g_aloadX_n dL_law_19 rfl ?_
        refine g_slenB dL_law_20 (fun v91 ev91 bv91 cv91 => ?_)
        refine g_bipush dL_law_21 (inR_c rfl) (by decide) ?_
        refine g_isubB dL_law_23 (by omega) (by omega) ?_
        refine g_icmp_gt 1222 dL_law_24 (by decide) (fun q92 => ?_) (fun _ => by exfalso; omega)
        refine g_iconst dL_law_1222 (inR_c rfl) ?_
        exact g_ireturn dL_law_1223 (retZ (by omega)) (hPo _)
      · skip
        refine g_iconst dL_law_422 (inR_c rfl) ?_
        refine g_goto 427 dL_law_423 (by decide) ?_
        refine g_cV (as := [_, _]) (c_X11_snow_0 _ _ h hX (by omega) (by omega) (by omega) (by omega)) dL_law_427 mi_X11_snow in_X11_snow se_X11_snow ml_L_42 rfl rfl rfl sh_0 rfl rfl (Nat.le_of_ble_eq_true rfl) (fun v93 h94 q95 => ?_)
        obtain ⟨hFh94, zv93⟩ := q95
        refine g_aload_n dL_law_430 rfl ?_
        refine g_aloadX_n dL_law_431 rfl ?_
        refine g_iload_n dL_law_432 rfl (fun _ => ?_)
        refine g_iconst dL_law_433 (inR_c rfl) ?_
        refine g_iaddB dL_law_434 (by omega) (by omega) ?_
        refine g_sldE dL_law_435 (by omega) (by omega) ev81 ?_
        refine g_aloadX_n dL_law_436 rfl ?_
        refine g_iload_n dL_law_437 rfl (fun _ => ?_)
        refine g_iconst dL_law_438 (inR_c rfl) ?_
        refine g_iaddB dL_law_439 (by omega) (by omega) ?_
        refine g_sldE dL_law_440 (by omega) (by omega) ev82 ?_
        refine g_if_eq 448 dL_law_441 (by decide) (fun _ => by exfalso; omega) (fun q96 => ?_)
        refine g_iconst dL_law_444 (inR_c rfl) ?_
        refine g_goto 449 dL_law_445 (by decide) ?_
        refine g_cV (as := [_, _]) (c_X12_snow_98 _ _ h94 (MBm.fr hMm hFh94 rfl) (by omega) (by omega) (by omega) (by omega)) dL_law_449 mi_X12_snow in_X12_snow se_X12_snow ml_L_46 rfl rfl rfl sh_98 rfl rfl (Nat.le_of_ble_eq_true rfl) (fun v97 h98 q99 => ?_)
        obtain ⟨hFh98, zv97⟩ := q99
        refine g_icmp_eq 1216 dL_law_452 (by decide) (fun _ => ?_) (fun q => absurd (by omega) q)
        refine g_iincB dL_law_1216 rfl rfl (by omega) (by omega) ?_
        refine g_goto 18 dL_law_1219 (by decide) ?_
        refine g_iload_n dL_law_18 rfl (fun _ => ?_)
        refine g_aloadX_n dL_law_19 rfl ?_
        refine g_slenB dL_law_20 (fun v100 ev100 bv100 cv100 => ?_)
        refine g_bipush dL_law_21 (inR_c rfl) (by decide) ?_
        refine g_isubB dL_law_23 (by omega) (by omega) ?_
        refine g_icmp_gt 1222 dL_law_24 (by decide) (fun q101 => ?_) (fun _ => by exfalso; omega)
        refine g_iconst dL_law_1222 (inR_c rfl) ?_
        exact g_ireturn dL_law_1223 (retZ (by omega)) (hPo _)
    · skip
      refine g_tableIn 457 7 dL_law_33 (by omega) (by omega) rfl (by decide) ?_
      refine g_aload_n dL_law_457 rfl ?_
      refine g_aloadX_n dL_law_458 rfl ?_
      refine g_iload_n dL_law_459 rfl (fun _ => ?_)
      refine g_iconst dL_law_460 (inR_c rfl) ?_
      refine g_iaddB dL_law_461 (by omega) (by omega) ?_
      refine g_sldB dL_law_462 (by omega) (by omega) (fun v102 ev102 bv102 cv102 => ?_)
      refine g_aloadX_n dL_law_463 rfl ?_
      refine g_iload_n dL_law_464 rfl (fun _ => ?_)
      refine g_iconst dL_law_465 (inR_c rfl) ?_
      refine g_iaddB dL_law_466 (by omega) (by omega) ?_
      refine g_sldB dL_law_467 (by omega) (by omega) (fun v103 ev103 bv103 cv103 => ?_)
      refine g_aloadX_n dL_law_468 rfl ?_
      refine g_iload_n dL_law_469 rfl (fun _ => ?_)
      refine g_iconst dL_law_470 (inR_c rfl) ?_
      refine g_iaddB dL_law_471 (by omega) (by omega) ?_
      refine g_sldB dL_law_472 (by omega) (by omega) (fun v104 ev104 bv104 cv104 => ?_)
      refine g_aloadX_n dL_law_473 rfl ?_
      refine g_iload_n dL_law_474 rfl (fun _ => ?_)
      refine g_iconst dL_law_475 (inR_c rfl) ?_
      refine g_iaddB dL_law_476 (by omega) (by omega) ?_
      refine g_sldB dL_law_477 (by omega) (by omega) (fun v105 ev105 bv105 cv105 => ?_)
      refine g_aloadX_n dL_law_478 rfl ?_
      refine g_iload_n dL_law_479 rfl (fun _ => ?_)
      refine g_iconst dL_law_480 (inR_c rfl) ?_
      refine g_iaddB dL_law_481 (by omega) (by omega) ?_
      refine g_sldB dL_law_482 (by omega) (by omega) (fun v106 ev106 bv106 cv106 => ?_)
      have q107 : h 61 0 = 0 := i61_0
      refine g_cV (as := [_, _, _, _, _]) (c_X11_feed_0 _ _ _ _ _ h hX (by omega) (by omega) (by omega) (by omega) (by omega) (by omega) (by omega) (by omega) (by omega) (by omega) (by omega) (by omega)) dL_law_483 mi_X11_feed in_X11_feed se_X11_feed ml_L_47 rfl rfl rfl sh_0 rfl rfl (Nat.le_of_ble_eq_true rfl) (fun v108 h109 q110 => ?_)
      obtain ⟨hFh109, zv108⟩ := q110
      refine g_aload_n dL_law_486 rfl ?_
      refine g_aloadX_n dL_law_487 rfl ?_
      refine g_iload_n dL_law_488 rfl (fun _ => ?_)
      refine g_iconst dL_law_489 (inR_c rfl) ?_
      refine g_iaddB dL_law_490 (by omega) (by omega) ?_
      refine g_sldE dL_law_491 (by omega) (by omega) ev102 ?_
      refine g_aloadX_n dL_law_492 rfl ?_
      refine g_iload_n dL_law_493 rfl (fun _ => ?_)
      refine g_iconst dL_law_494 (inR_c rfl) ?_
      refine g_iaddB dL_law_495 (by omega) (by omega) ?_
      refine g_sldE dL_law_496 (by omega) (by omega) ev103 ?_
      refine g_aloadX_n dL_law_497 rfl ?_
      refine g_iload_n dL_law_498 rfl (fun _ => ?_)
      refine g_iconst dL_law_499 (inR_c rfl) ?_
      refine g_iaddB dL_law_500 (by omega) (by omega) ?_
      refine g_sldE dL_law_501 (by omega) (by omega) ev104 ?_
      refine g_aloadX_n dL_law_502 rfl ?_
      refine g_iload_n dL_law_503 rfl (fun _ => ?_)
      refine g_iconst dL_law_504 (inR_c rfl) ?_
      refine g_iaddB dL_law_505 (by omega) (by omega) ?_
      refine g_sldE dL_law_506 (by omega) (by omega) ev105 ?_
      refine g_aloadX_n dL_law_507 rfl ?_
      refine g_iload_n dL_law_508 rfl (fun _ => ?_)
      refine g_iconst dL_law_509 (inR_c rfl) ?_
      refine g_iaddB dL_law_510 (by omega) (by omega) ?_
      refine g_sldE dL_law_511 (by omega) (by omega) ev106 ?_
      have q111 : h109 98 1 = 0 := ((hFh109 98 1 rfl).trans i98_1)
      refine g_cV (as := [_, _, _, _, _]) (c_X12_feed_98 _ _ _ _ _ h109 (MBm.fr hMm hFh109 rfl) (by omega) (by omega) (by omega) (by omega) (by omega) (by omega) (by omega) (by omega) (by omega) (by omega) (by omega) (by omega)) dL_law_512 mi_X12_feed in_X12_feed se_X12_feed ml_L_51 rfl rfl rfl sh_98 rfl rfl (Nat.le_of_ble_eq_true rfl) (fun v112 h113 q114 => ?_)
      obtain ⟨hFh113, zv112⟩ := q114
      refine g_icmp_eq 1216 dL_law_515 (by decide) (fun _ => ?_) (fun q => absurd (by omega) q)
      refine g_iincB dL_law_1216 rfl rfl (by omega) (by omega) ?_
      refine g_goto 18 dL_law_1219 (by decide) ?_
      refine g_iload_n dL_law_18 rfl (fun _ => ?_)
      refine g_aloadX_n dL_law_19 rfl ?_
      refine g_slenB dL_law_20 (fun v115 ev115 bv115 cv115 => ?_)
      refine g_bipush dL_law_21 (inR_c rfl) (by decide) ?_
      refine g_isubB dL_law_23 (by omega) (by omega) ?_
      refine g_icmp_gt 1222 dL_law_24 (by decide) (fun q116 => ?_) (fun _ => by exfalso; omega)
      refine g_iconst dL_law_1222 (inR_c rfl) ?_
      exact g_ireturn dL_law_1223 (retZ (by omega)) (hPo _)
    · skip
      refine g_tableIn 520 8 dL_law_33 (by omega) (by omega) rfl (by decide) ?_
      refine g_aload_n dL_law_520 rfl ?_
      refine g_aloadX_n dL_law_521 rfl ?_
      refine g_iload_n dL_law_522 rfl (fun _ => ?_)
      refine g_iconst dL_law_523 (inR_c rfl) ?_
      refine g_iaddB dL_law_524 (by omega) (by omega) ?_
      refine g_sldB dL_law_525 (by omega) (by omega) (fun v117 ev117 bv117 cv117 => ?_)
      have q118 : h 61 0 = 0 := i61_0
      refine g_cVP (as := [_]) (c_X11_law_0 _ h hX (by omega) (by omega) (by omega) (by omega)) dL_law_526 mi_X11_law in_X11_law se_X11_law ml_L_52 rfl rfl rfl sh_0 rfl rfl (Nat.le_of_ble_eq_true rfl) (fun v119 q120 => ?_)
      have zv119 := q120
      refine g_aload_n dL_law_529 rfl ?_
      refine g_aloadX_n dL_law_530 rfl ?_
      refine g_iload_n dL_law_531 rfl (fun _ => ?_)
      refine g_iconst dL_law_532 (inR_c rfl) ?_
      refine g_iaddB dL_law_533 (by omega) (by omega) ?_
      refine g_sldE dL_law_534 (by omega) (by omega) ev117 ?_
      have q121 : h 98 1 = 0 := i98_1
      refine g_cVP (as := [_]) (c_X12_law_98 _ h hMm (by omega) (by omega) (by omega) (by omega)) dL_law_535 mi_X12_law in_X12_law se_X12_law ml_L_55 rfl rfl rfl sh_98 rfl rfl (Nat.le_of_ble_eq_true rfl) (fun v122 q123 => ?_)
      have zv122 := q123
      refine g_icmp_eq 1216 dL_law_538 (by decide) (fun _ => ?_) (fun q => absurd (by omega) q)
      refine g_iincB dL_law_1216 rfl rfl (by omega) (by omega) ?_
      refine g_goto 18 dL_law_1219 (by decide) ?_
      refine g_iload_n dL_law_18 rfl (fun _ => ?_)
      refine g_aloadX_n dL_law_19 rfl ?_
      refine g_slenB dL_law_20 (fun v124 ev124 bv124 cv124 => ?_)
      refine g_bipush dL_law_21 (inR_c rfl) (by decide) ?_
      refine g_isubB dL_law_23 (by omega) (by omega) ?_
      refine g_icmp_gt 1222 dL_law_24 (by decide) (fun q125 => ?_) (fun _ => by exfalso; omega)
      refine g_iconst dL_law_1222 (inR_c rfl) ?_
      exact g_ireturn dL_law_1223 (retZ (by omega)) (hPo _)
    · skip
      refine g_tableIn 543 9 dL_law_33 (by omega) (by omega) rfl (by decide) ?_
      refine g_aload_n dL_law_543 rfl ?_
      refine g_aloadX_n dL_law_544 rfl ?_
      refine g_iload_n dL_law_545 rfl (fun _ => ?_)
      refine g_iconst dL_law_546 (inR_c rfl) ?_
      refine g_iaddB dL_law_547 (by omega) (by omega) ?_
      refine g_sldB dL_law_548 (by omega) (by omega) (fun v126 ev126 bv126 cv126 => ?_)
      refine g_cV (as := [_]) (c_X11_hours_0 _ h hX (by omega) (by omega)) dL_law_549 mi_X11_hours in_X11_hours se_X11_hours ml_L_56 rfl rfl rfl sh_0 rfl rfl (Nat.le_of_ble_eq_true rfl) (fun v127 h128 q129 => ?_)
      obtain ⟨hFh128, zv127⟩ := q129
      refine g_aload_n dL_law_552 rfl ?_
      refine g_aloadX_n dL_law_553 rfl ?_
      refine g_iload_n dL_law_554 rfl (fun _ => ?_)
      refine g_iconst dL_law_555 (inR_c rfl) ?_
      refine g_iaddB dL_law_556 (by omega) (by omega) ?_
      refine g_sldE dL_law_557 (by omega) (by omega) ev126 ?_
      have q130 : h128 98 5 = 0 := ((hFh128 98 5 rfl).trans i98_5)
      refine g_cV (as := [_]) (c_X12_hours_98 _ h128 (MBm.fr hMm hFh128 rfl) (by omega) (by omega) (by omega) (by omega)) dL_law_558 mi_X12_hours in_X12_hours se_X12_hours ml_L_59 rfl rfl rfl sh_98 rfl rfl (Nat.le_of_ble_eq_true rfl) (fun v131 h132 q133 => ?_)
      obtain ⟨hFh132, zv131⟩ := q133
      refine g_icmp_eq 1216 dL_law_561 (by decide) (fun _ => ?_) (fun q => absurd (by omega) q)
      refine g_iincB dL_law_1216 rfl rfl (by omega) (by omega) ?_
      refine g_goto 18 dL_law_1219 (by decide) ?_
      refine g_iload_n dL_law_18 rfl (fun _ => ?_)
      refine g_aloadX_n dL_law_19 rfl ?_
      refine g_slenB dL_law_20 (fun v134 ev134 bv134 cv134 => ?_)
      refine g_bipush dL_law_21 (inR_c rfl) (by decide) ?_
      refine g_isubB dL_law_23 (by omega) (by omega) ?_
      refine g_icmp_gt 1222 dL_law_24 (by decide) (fun q135 => ?_) (fun _ => by exfalso; omega)
      refine g_iconst dL_law_1222 (inR_c rfl) ?_
      exact g_ireturn dL_law_1223 (retZ (by omega)) (hPo _)
    · skip
      refine g_tableIn 566 10 dL_law_33 (by omega) (by omega) rfl (by decide) ?_
      refine g_aload_n dL_law_566 rfl ?_
      refine g_aloadX_n dL_law_567 rfl ?_
      refine g_iload_n dL_law_568 rfl (fun _ => ?_)
      refine g_iconst dL_law_569 (inR_c rfl) ?_
      refine g_iaddB dL_law_570 (by omega) (by omega) ?_
      refine g_sldB dL_law_571 (by omega) (by omega) (fun v136 ev136 bv136 cv136 => ?_)
      refine g_cV (as := [_]) (c_X11_hour_0 _ h hX (by omega) (by omega)) dL_law_572 mi_X11_hour in_X11_hour se_X11_hour ml_L_60 rfl rfl rfl sh_0 rfl rfl (Nat.le_of_ble_eq_true rfl) (fun v137 h138 q139 => ?_)
      obtain ⟨hFh138, zv137⟩ := q139
      refine g_aload_n dL_law_575 rfl ?_
      refine g_aloadX_n dL_law_576 rfl ?_
      refine g_iload_n dL_law_577 rfl (fun _ => ?_)
      refine g_iconst dL_law_578 (inR_c rfl) ?_
      refine g_iaddB dL_law_579 (by omega) (by omega) ?_
      refine g_sldE dL_law_580 (by omega) (by omega) ev136 ?_
      have q140 : h138 98 5 = 0 := ((hFh138 98 5 rfl).trans i98_5)
      refine g_cV (as := [_]) (c_X12_hour_98 _ h138 (MBm.fr hMm hFh138 rfl) (by omega) (by omega) (by omega) (by omega)) dL_law_581 mi_X12_hour in_X12_hour se_X12_hour ml_L_63 rfl rfl rfl sh_98 rfl rfl (Nat.le_of_ble_eq_true rfl) (fun v141 h142 q143 => ?_)
      obtain ⟨hFh142, zv141⟩ := q143
      refine g_icmp_eq 1216 dL_law_584 (by decide) (fun _ => ?_) (fun q => absurd (by omega) q)
      refine g_iincB dL_law_1216 rfl rfl (by omega) (by omega) ?_
      refine g_goto 18 dL_law_1219 (by decide) ?_
      refine g_iload_n dL_law_18 rfl (fun _ => ?_)
      refine g_aloadX_n dL_law_19 rfl ?_
      refine g_slenB dL_law_20 (fun v144 ev144 bv144 cv144 => ?_)
      refine g_bipush dL_law_21 (inR_c rfl) (by decide) ?_
      refine g_isubB dL_law_23 (by omega) (by omega) ?_
      refine g_icmp_gt 1222 dL_law_24 (by decide) (fun q145 => ?_) (fun _ => by exfalso; omega)
      refine g_iconst dL_law_1222 (inR_c rfl) ?_
      exact g_ireturn dL_law_1223 (retZ (by omega)) (hPo _)
    · skip
      refine g_tableIn 589 11 dL_law_33 (by omega) (by omega) rfl (by decide) ?_
      refine g_aload_n dL_law_589 rfl ?_
      refine g_aloadX_n dL_law_590 rfl ?_
      refine g_iload_n dL_law_591 rfl (fun _ => ?_)
      refine g_iconst dL_law_592 (inR_c rfl) ?_
      refine g_iaddB dL_law_593 (by omega) (by omega) ?_
      refine g_sldB dL_law_594 (by omega) (by omega) (fun v146 ev146 bv146 cv146 => ?_)
      refine g_aloadX_n dL_law_595 rfl ?_
      refine g_iload_n dL_law_596 rfl (fun _ => ?_)
      refine g_iconst dL_law_597 (inR_c rfl) ?_
      refine g_iaddB dL_law_598 (by omega) (by omega) ?_
      refine g_sldB dL_law_599 (by omega) (by omega) (fun v147 ev147 bv147 cv147 => ?_)
      refine g_cVP (as := [_, _]) (c_X11_roofIs_0 _ _ h hX (by omega) (by omega) (by omega) (by omega)) dL_law_600 mi_X11_roofIs in_X11_roofIs se_X11_roofIs ml_L_64 rfl rfl rfl sh_0 rfl rfl (Nat.le_of_ble_eq_true rfl) (fun v148 q149 => ?_)
      have zv148 := q149
      refine g_aload_n dL_law_603 rfl ?_
      refine g_aloadX_n dL_law_604 rfl ?_
      refine g_iload_n dL_law_605 rfl (fun _ => ?_)
      refine g_iconst dL_law_606 (inR_c rfl) ?_
      refine g_iaddB dL_law_607 (by omega) (by omega) ?_
      refine g_sldE dL_law_608 (by omega) (by omega) ev146 ?_
      refine g_aloadX_n dL_law_609 rfl ?_
      refine g_iload_n dL_law_610 rfl (fun _ => ?_)
      refine g_iconst dL_law_611 (inR_c rfl) ?_
      refine g_iaddB dL_law_612 (by omega) (by omega) ?_
      refine g_sldE dL_law_613 (by omega) (by omega) ev147 ?_
      refine g_cVP (as := [_, _]) (c_X12_roofIs_98 _ _ h hMm (by omega) (by omega) (by omega) (by omega)) dL_law_614 mi_X12_roofIs in_X12_roofIs se_X12_roofIs ml_L_68 rfl rfl rfl sh_98 rfl rfl (Nat.le_of_ble_eq_true rfl) (fun v150 q151 => ?_)
      have zv150 := q151
      refine g_icmp_eq 1216 dL_law_617 (by decide) (fun _ => ?_) (fun q => absurd (by omega) q)
      refine g_iincB dL_law_1216 rfl rfl (by omega) (by omega) ?_
      refine g_goto 18 dL_law_1219 (by decide) ?_
      refine g_iload_n dL_law_18 rfl (fun _ => ?_)
      refine g_aloadX_n dL_law_19 rfl ?_
      refine g_slenB dL_law_20 (fun v152 ev152 bv152 cv152 => ?_)
      refine g_bipush dL_law_21 (inR_c rfl) (by decide) ?_
      refine g_isubB dL_law_23 (by omega) (by omega) ?_
      refine g_icmp_gt 1222 dL_law_24 (by decide) (fun q153 => ?_) (fun _ => by exfalso; omega)
      refine g_iconst dL_law_1222 (inR_c rfl) ?_
      exact g_ireturn dL_law_1223 (retZ (by omega)) (hPo _)
    · skip
      refine g_tableIn 622 12 dL_law_33 (by omega) (by omega) rfl (by decide) ?_
      refine g_aload_n dL_law_622 rfl ?_
      refine g_aloadX_n dL_law_623 rfl ?_
      refine g_iload_n dL_law_624 rfl (fun _ => ?_)
      refine g_iconst dL_law_625 (inR_c rfl) ?_
      refine g_iaddB dL_law_626 (by omega) (by omega) ?_
      refine g_sldB dL_law_627 (by omega) (by omega) (fun v154 ev154 bv154 cv154 => ?_)
      refine g_aloadX_n dL_law_628 rfl ?_
      refine g_iload_n dL_law_629 rfl (fun _ => ?_)
      refine g_iconst dL_law_630 (inR_c rfl) ?_
      refine g_iaddB dL_law_631 (by omega) (by omega) ?_
      refine g_sldB dL_law_632 (by omega) (by omega) (fun v155 ev155 bv155 cv155 => ?_)
      refine g_cVP (as := [_, _]) (c_X11_apprenticeIs_0 _ _ h hX (by omega) (by omega) (by omega) (by omega)) dL_law_633 mi_X11_apprenticeIs in_X11_apprenticeIs se_X11_apprenticeIs ml_L_69 rfl rfl rfl sh_0 rfl rfl (Nat.le_of_ble_eq_true rfl) (fun v156 q157 => ?_)
      have zv156 := q157
      refine g_aload_n dL_law_636 rfl ?_
      refine g_aloadX_n dL_law_637 rfl ?_
      refine g_iload_n dL_law_638 rfl (fun _ => ?_)
      refine g_iconst dL_law_639 (inR_c rfl) ?_
      refine g_iaddB dL_law_640 (by omega) (by omega) ?_
      refine g_sldE dL_law_641 (by omega) (by omega) ev154 ?_
      refine g_aloadX_n dL_law_642 rfl ?_
      refine g_iload_n dL_law_643 rfl (fun _ => ?_)
      refine g_iconst dL_law_644 (inR_c rfl) ?_
      refine g_iaddB dL_law_645 (by omega) (by omega) ?_
      refine g_sldE dL_law_646 (by omega) (by omega) ev155 ?_
      refine g_cVP (as := [_, _]) (c_X12_apprenticeIs_98 _ _ h hMm (by omega) (by omega) (by omega) (by omega)) dL_law_647 mi_X12_apprenticeIs in_X12_apprenticeIs se_X12_apprenticeIs ml_L_72 rfl rfl rfl sh_98 rfl rfl (Nat.le_of_ble_eq_true rfl) (fun v158 q159 => ?_)
      have zv158 := q159
      refine g_icmp_eq 1216 dL_law_650 (by decide) (fun _ => ?_) (fun q => absurd (by omega) q)
      refine g_iincB dL_law_1216 rfl rfl (by omega) (by omega) ?_
      refine g_goto 18 dL_law_1219 (by decide) ?_
      refine g_iload_n dL_law_18 rfl (fun _ => ?_)
      refine g_aloadX_n dL_law_19 rfl ?_
      refine g_slenB dL_law_20 (fun v160 ev160 bv160 cv160 => ?_)
      refine g_bipush dL_law_21 (inR_c rfl) (by decide) ?_
      refine g_isubB dL_law_23 (by omega) (by omega) ?_
      refine g_icmp_gt 1222 dL_law_24 (by decide) (fun q161 => ?_) (fun _ => by exfalso; omega)
      refine g_iconst dL_law_1222 (inR_c rfl) ?_
      exact g_ireturn dL_law_1223 (retZ (by omega)) (hPo _)
    · skip
      refine g_tableIn 655 13 dL_law_33 (by omega) (by omega) rfl (by decide) ?_
      refine g_aload_n dL_law_655 rfl ?_
      refine g_aloadX_n dL_law_656 rfl ?_
      refine g_iload_n dL_law_657 rfl (fun _ => ?_)
      refine g_iconst dL_law_658 (inR_c rfl) ?_
      refine g_iaddB dL_law_659 (by omega) (by omega) ?_
      refine g_sldB dL_law_660 (by omega) (by omega) (fun v162 ev162 bv162 cv162 => ?_)
      refine g_aloadX_n dL_law_661 rfl ?_
      refine g_iload_n dL_law_662 rfl (fun _ => ?_)
      refine g_iconst dL_law_663 (inR_c rfl) ?_
      refine g_iaddB dL_law_664 (by omega) (by omega) ?_
      refine g_sldB dL_law_665 (by omega) (by omega) (fun v163 ev163 bv163 cv163 => ?_)
      refine g_cVP (as := [_, _]) (c_X11_masterIs_0 _ _ h hX (by omega) (by omega) (by omega) (by omega)) dL_law_666 mi_X11_masterIs in_X11_masterIs se_X11_masterIs ml_L_73 rfl rfl rfl sh_0 rfl rfl (Nat.le_of_ble_eq_true rfl) (fun v164 q165 => ?_)
      have zv164 := q165
      refine g_aload_n dL_law_669 rfl ?_
      refine g_aloadX_n dL_law_670 rfl ?_
      refine g_iload_n dL_law_671 rfl (fun _ => ?_)
      refine g_iconst dL_law_672 (inR_c rfl) ?_
      refine g_iaddB dL_law_673 (by omega) (by omega) ?_
      refine g_sldE dL_law_674 (by omega) (by omega) ev162 ?_
      refine g_aloadX_n dL_law_675 rfl ?_
      refine g_iload_n dL_law_676 rfl (fun _ => ?_)
      refine g_iconst dL_law_677 (inR_c rfl) ?_
      refine g_iaddB dL_law_678 (by omega) (by omega) ?_
      refine g_sldE dL_law_679 (by omega) (by omega) ev163 ?_
      refine g_cVP (as := [_, _]) (c_X12_masterIs_98 _ _ h hMm (by omega) (by omega) (by omega) (by omega)) dL_law_680 mi_X12_masterIs in_X12_masterIs se_X12_masterIs ml_L_76 rfl rfl rfl sh_98 rfl rfl (Nat.le_of_ble_eq_true rfl) (fun v166 q167 => ?_)
      have zv166 := q167
      refine g_icmp_eq 1216 dL_law_683 (by decide) (fun _ => ?_) (fun q => absurd (by omega) q)
      refine g_iincB dL_law_1216 rfl rfl (by omega) (by omega) ?_
      refine g_goto 18 dL_law_1219 (by decide) ?_
      refine g_iload_n dL_law_18 rfl (fun _ => ?_)
      refine g_aloadX_n dL_law_19 rfl ?_
      refine g_slenB dL_law_20 (fun v168 ev168 bv168 cv168 => ?_)
      refine g_bipush dL_law_21 (inR_c rfl) (by decide) ?_
      refine g_isubB dL_law_23 (by omega) (by omega) ?_
      refine g_icmp_gt 1222 dL_law_24 (by decide) (fun q169 => ?_) (fun _ => by exfalso; omega)
      refine g_iconst dL_law_1222 (inR_c rfl) ?_
      exact g_ireturn dL_law_1223 (retZ (by omega)) (hPo _)
    · skip
      refine g_tableIn 688 14 dL_law_33 (by omega) (by omega) rfl (by decide) ?_
      refine g_aload_n dL_law_688 rfl ?_
      refine g_aloadX_n dL_law_689 rfl ?_
      refine g_iload_n dL_law_690 rfl (fun _ => ?_)
      refine g_iconst dL_law_691 (inR_c rfl) ?_
      refine g_iaddB dL_law_692 (by omega) (by omega) ?_
      refine g_sldB dL_law_693 (by omega) (by omega) (fun v170 ev170 bv170 cv170 => ?_)
      refine g_aloadX_n dL_law_694 rfl ?_
      refine g_iload_n dL_law_695 rfl (fun _ => ?_)
      refine g_iconst dL_law_696 (inR_c rfl) ?_
      refine g_iaddB dL_law_697 (by omega) (by omega) ?_
      refine g_sldB dL_law_698 (by omega) (by omega) (fun v171 ev171 bv171 cv171 => ?_)
      refine g_cV (as := [_, _]) (c_X11_tried_0 _ _ h hX (by omega) (by omega) (by omega) (by omega)) dL_law_699 mi_X11_tried in_X11_tried se_X11_tried ml_L_77 rfl rfl rfl sh_0 rfl rfl (Nat.le_of_ble_eq_true rfl) (fun v172 h173 q174 => ?_)
      obtain ⟨hFh173, zv172⟩ := q174
      refine g_aload_n dL_law_702 rfl ?_
      refine g_aloadX_n dL_law_703 rfl ?_
      refine g_iload_n dL_law_704 rfl (fun _ => ?_)
      refine g_iconst dL_law_705 (inR_c rfl) ?_
      refine g_iaddB dL_law_706 (by omega) (by omega) ?_
      refine g_sldE dL_law_707 (by omega) (by omega) ev170 ?_
      refine g_aloadX_n dL_law_708 rfl ?_
      refine g_iload_n dL_law_709 rfl (fun _ => ?_)
      refine g_iconst dL_law_710 (inR_c rfl) ?_
      refine g_iaddB dL_law_711 (by omega) (by omega) ?_
      refine g_sldE dL_law_712 (by omega) (by omega) ev171 ?_
      have q175 : h173 98 5 = 0 := ((hFh173 98 5 rfl).trans i98_5)
      refine g_cV (as := [_, _]) (c_X12_tried_98 _ _ h173 (MBm.fr hMm hFh173 rfl) (by omega) (by omega) (by omega) (by omega) (by omega) (by omega)) dL_law_713 mi_X12_tried in_X12_tried se_X12_tried ml_L_80 rfl rfl rfl sh_98 rfl rfl (Nat.le_of_ble_eq_true rfl) (fun v176 h177 q178 => ?_)
      obtain ⟨hFh177, zv176⟩ := q178
      refine g_icmp_eq 1216 dL_law_716 (by decide) (fun _ => ?_) (fun q => absurd (by omega) q)
      refine g_iincB dL_law_1216 rfl rfl (by omega) (by omega) ?_
      refine g_goto 18 dL_law_1219 (by decide) ?_
      refine g_iload_n dL_law_18 rfl (fun _ => ?_)
      refine g_aloadX_n dL_law_19 rfl ?_
      refine g_slenB dL_law_20 (fun v179 ev179 bv179 cv179 => ?_)
      refine g_bipush dL_law_21 (inR_c rfl) (by decide) ?_
      refine g_isubB dL_law_23 (by omega) (by omega) ?_
      refine g_icmp_gt 1222 dL_law_24 (by decide) (fun q180 => ?_) (fun _ => by exfalso; omega)
      refine g_iconst dL_law_1222 (inR_c rfl) ?_
      exact g_ireturn dL_law_1223 (retZ (by omega)) (hPo _)
    · skip
      refine g_tableIn 721 15 dL_law_33 (by omega) (by omega) rfl (by decide) ?_
      refine g_aload_n dL_law_721 rfl ?_
      refine g_aloadX_n dL_law_722 rfl ?_
      refine g_iload_n dL_law_723 rfl (fun _ => ?_)
      refine g_iconst dL_law_724 (inR_c rfl) ?_
      refine g_iaddB dL_law_725 (by omega) (by omega) ?_
      refine g_sldB dL_law_726 (by omega) (by omega) (fun v181 ev181 bv181 cv181 => ?_)
      refine g_aloadX_n dL_law_727 rfl ?_
      refine g_iload_n dL_law_728 rfl (fun _ => ?_)
      refine g_iconst dL_law_729 (inR_c rfl) ?_
      refine g_iaddB dL_law_730 (by omega) (by omega) ?_
      refine g_sldB dL_law_731 (by omega) (by omega) (fun v182 ev182 bv182 cv182 => ?_)
      refine g_aloadX_n dL_law_732 rfl ?_
      refine g_iload_n dL_law_733 rfl (fun _ => ?_)
      refine g_iconst dL_law_734 (inR_c rfl) ?_
      refine g_iaddB dL_law_735 (by omega) (by omega) ?_
      refine g_sldB dL_law_736 (by omega) (by omega) (fun v183 ev183 bv183 cv183 => ?_)
      refine g_aloadX_n dL_law_737 rfl ?_
      refine g_iload_n dL_law_738 rfl (fun _ => ?_)
      refine g_iconst dL_law_739 (inR_c rfl) ?_
      refine g_iaddB dL_law_740 (by omega) (by omega) ?_
      refine g_sldB dL_law_741 (by omega) (by omega) (fun v184 ev184 bv184 cv184 => ?_)
      refine g_cVP (as := [_, _, _, _]) (c_X11_set_0 _ _ _ _ h hX (by omega) (by omega) (by omega) (by omega) (by omega) (by omega) (by omega) (by omega)) dL_law_742 mi_X11_set in_X11_set se_X11_set ml_L_81 rfl rfl rfl sh_0 rfl rfl (Nat.le_of_ble_eq_true rfl) (fun v185 q186 => ?_)
      have zv185 := q186
      refine g_aload_n dL_law_745 rfl ?_
      refine g_aloadX_n dL_law_746 rfl ?_
      refine g_iload_n dL_law_747 rfl (fun _ => ?_)
      refine g_iconst dL_law_748 (inR_c rfl) ?_
      refine g_iaddB dL_law_749 (by omega) (by omega) ?_
      refine g_sldE dL_law_750 (by omega) (by omega) ev181 ?_
      refine g_aloadX_n dL_law_751 rfl ?_
      refine g_iload_n dL_law_752 rfl (fun _ => ?_)
      refine g_iconst dL_law_753 (inR_c rfl) ?_
      refine g_iaddB dL_law_754 (by omega) (by omega) ?_
      refine g_sldE dL_law_755 (by omega) (by omega) ev182 ?_
      refine g_aloadX_n dL_law_756 rfl ?_
      refine g_iload_n dL_law_757 rfl (fun _ => ?_)
      refine g_iconst dL_law_758 (inR_c rfl) ?_
      refine g_iaddB dL_law_759 (by omega) (by omega) ?_
      refine g_sldE dL_law_760 (by omega) (by omega) ev183 ?_
      refine g_aloadX_n dL_law_761 rfl ?_
      refine g_iload_n dL_law_762 rfl (fun _ => ?_)
      refine g_iconst dL_law_763 (inR_c rfl) ?_
      refine g_iaddB dL_law_764 (by omega) (by omega) ?_
      refine g_sldE dL_law_765 (by omega) (by omega) ev184 ?_
      refine g_cVP (as := [_, _, _, _]) (c_X12_set_98 _ _ _ _ h hMm (by omega) (by omega) (by omega) (by omega) (by omega) (by omega) (by omega) (by omega)) dL_law_766 mi_X12_set in_X12_set se_X12_set ml_L_85 rfl rfl rfl sh_98 rfl rfl (Nat.le_of_ble_eq_true rfl) (fun v187 q188 => ?_)
      have zv187 := q188
      refine g_icmp_eq 1216 dL_law_769 (by decide) (fun _ => ?_) (fun q => absurd (by omega) q)
      refine g_iincB dL_law_1216 rfl rfl (by omega) (by omega) ?_
      refine g_goto 18 dL_law_1219 (by decide) ?_
      refine g_iload_n dL_law_18 rfl (fun _ => ?_)
      refine g_aloadX_n dL_law_19 rfl ?_
      refine g_slenB dL_law_20 (fun v189 ev189 bv189 cv189 => ?_)
      refine g_bipush dL_law_21 (inR_c rfl) (by decide) ?_
      refine g_isubB dL_law_23 (by omega) (by omega) ?_
      refine g_icmp_gt 1222 dL_law_24 (by decide) (fun q190 => ?_) (fun _ => by exfalso; omega)
      refine g_iconst dL_law_1222 (inR_c rfl) ?_
      exact g_ireturn dL_law_1223 (retZ (by omega)) (hPo _)
    · skip
      refine g_tableIn 774 16 dL_law_33 (by omega) (by omega) rfl (by decide) ?_
      refine g_aload_n dL_law_774 rfl ?_
      refine g_aloadX_n dL_law_775 rfl ?_
      refine g_iload_n dL_law_776 rfl (fun _ => ?_)
      refine g_iconst dL_law_777 (inR_c rfl) ?_
      refine g_iaddB dL_law_778 (by omega) (by omega) ?_
      refine g_sldB dL_law_779 (by omega) (by omega) (fun v191 ev191 bv191 cv191 => ?_)
      refine g_aloadX_n dL_law_780 rfl ?_
      refine g_iload_n dL_law_781 rfl (fun _ => ?_)
      refine g_iconst dL_law_782 (inR_c rfl) ?_
      refine g_iaddB dL_law_783 (by omega) (by omega) ?_
      refine g_sldB dL_law_784 (by omega) (by omega) (fun v192 ev192 bv192 cv192 => ?_)
      refine g_aloadX_n dL_law_785 rfl ?_
      refine g_iload_n dL_law_786 rfl (fun _ => ?_)
      refine g_iconst dL_law_787 (inR_c rfl) ?_
      refine g_iaddB dL_law_788 (by omega) (by omega) ?_
      refine g_sldB dL_law_789 (by omega) (by omega) (fun v193 ev193 bv193 cv193 => ?_)
      have q194 : h 1 6 = 0 := i1_6
      refine g_cV (as := [_, _, _]) (c_X11_free_0 _ _ _ h hX (by omega) (by omega) (by omega) (by omega) (by omega) (by omega) (by omega) (by omega)) dL_law_790 mi_X11_free in_X11_free se_X11_free ml_L_86 rfl rfl rfl sh_0 rfl rfl (Nat.le_of_ble_eq_true rfl) (fun v195 h196 q197 => ?_)
      obtain ⟨hFh196, zv195⟩ := q197
      refine g_aload_n dL_law_793 rfl ?_
      refine g_aloadX_n dL_law_794 rfl ?_
      refine g_iload_n dL_law_795 rfl (fun _ => ?_)
      refine g_iconst dL_law_796 (inR_c rfl) ?_
      refine g_iaddB dL_law_797 (by omega) (by omega) ?_
      refine g_sldE dL_law_798 (by omega) (by omega) ev191 ?_
      refine g_aloadX_n dL_law_799 rfl ?_
      refine g_iload_n dL_law_800 rfl (fun _ => ?_)
      refine g_iconst dL_law_801 (inR_c rfl) ?_
      refine g_iaddB dL_law_802 (by omega) (by omega) ?_
      refine g_sldE dL_law_803 (by omega) (by omega) ev192 ?_
      refine g_aloadX_n dL_law_804 rfl ?_
      refine g_iload_n dL_law_805 rfl (fun _ => ?_)
      refine g_iconst dL_law_806 (inR_c rfl) ?_
      refine g_iaddB dL_law_807 (by omega) (by omega) ?_
      refine g_sldE dL_law_808 (by omega) (by omega) ev193 ?_
      have q198 : h196 98 5 = 0 := ((hFh196 98 5 rfl).trans i98_5)
      refine g_cV (as := [_, _, _]) (c_X12_free_98 _ _ _ h196 (MBm.fr hMm hFh196 rfl) (by omega) (by omega) (by omega) (by omega) (by omega) (by omega) (by omega) (by omega)) dL_law_809 mi_X12_free in_X12_free se_X12_free ml_L_89 rfl rfl rfl sh_98 rfl rfl (Nat.le_of_ble_eq_true rfl) (fun v199 h200 q201 => ?_)
      obtain ⟨hFh200, zv199⟩ := q201
      refine g_icmp_eq 1216 dL_law_812 (by decide) (fun _ => ?_) (fun q => absurd (QF_eq zv195 zv199) q)
      refine g_iincB dL_law_1216 rfl rfl (by omega) (by omega) ?_
      refine g_goto 18 dL_law_1219 (by decide) ?_
      refine g_iload_n dL_law_18 rfl (fun _ => ?_)
      refine g_aloadX_n dL_law_19 rfl ?_
      refine g_slenB dL_law_20 (fun v202 ev202 bv202 cv202 => ?_)
      refine g_bipush dL_law_21 (inR_c rfl) (by decide) ?_
      refine g_isubB dL_law_23 (by omega) (by omega) ?_
      refine g_icmp_gt 1222 dL_law_24 (by decide) (fun q203 => ?_) (fun _ => by exfalso; omega)
      refine g_iconst dL_law_1222 (inR_c rfl) ?_
      exact g_ireturn dL_law_1223 (retZ (by omega)) (hPo _)
    · skip
      refine g_tableIn 817 17 dL_law_33 (by omega) (by omega) rfl (by decide) ?_
      refine g_aload_n dL_law_817 rfl ?_
      refine g_aloadX_n dL_law_818 rfl ?_
      refine g_iload_n dL_law_819 rfl (fun _ => ?_)
      refine g_iconst dL_law_820 (inR_c rfl) ?_
      refine g_iaddB dL_law_821 (by omega) (by omega) ?_
      refine g_sldB dL_law_822 (by omega) (by omega) (fun v204 ev204 bv204 cv204 => ?_)
      refine g_aloadX_n dL_law_823 rfl ?_
      refine g_iload_n dL_law_824 rfl (fun _ => ?_)
      refine g_iconst dL_law_825 (inR_c rfl) ?_
      refine g_iaddB dL_law_826 (by omega) (by omega) ?_
      refine g_sldB dL_law_827 (by omega) (by omega) (fun v205 ev205 bv205 cv205 => ?_)
      refine g_aloadX_n dL_law_828 rfl ?_
      refine g_iload_n dL_law_829 rfl (fun _ => ?_)
      refine g_iconst dL_law_830 (inR_c rfl) ?_
      refine g_iaddB dL_law_831 (by omega) (by omega) ?_
      refine g_sldB dL_law_832 (by omega) (by omega) (fun v206 ev206 bv206 cv206 => ?_)
      refine g_cVP (as := [_, _, _]) (c_X11_worth_0 _ _ _ h hX (by omega) (by omega) (by omega) (by omega) (by omega) (by omega)) dL_law_833 mi_X11_worth in_X11_worth se_X11_worth ml_L_90 rfl rfl rfl sh_0 rfl rfl (Nat.le_of_ble_eq_true rfl) (fun v207 q208 => ?_)
      have zv207 := q208
      refine g_aload_n dL_law_836 rfl ?_
      refine g_aloadX_n dL_law_837 rfl ?_
      refine g_iload_n dL_law_838 rfl (fun _ => ?_)
      refine g_iconst dL_law_839 (inR_c rfl) ?_
      refine g_iaddB dL_law_840 (by omega) (by omega) ?_
      refine g_sldE dL_law_841 (by omega) (by omega) ev204 ?_
      refine g_aloadX_n dL_law_842 rfl ?_
      refine g_iload_n dL_law_843 rfl (fun _ => ?_)
      refine g_iconst dL_law_844 (inR_c rfl) ?_
      refine g_iaddB dL_law_845 (by omega) (by omega) ?_
      refine g_sldE dL_law_846 (by omega) (by omega) ev205 ?_
      refine g_aloadX_n dL_law_847 rfl ?_
      refine g_iload_n dL_law_848 rfl (fun _ => ?_)
      refine g_iconst dL_law_849 (inR_c rfl) ?_
      refine g_iaddB dL_law_850 (by omega) (by omega) ?_
      refine g_sldE dL_law_851 (by omega) (by omega) ev206 ?_
      have q209 : h 98 5 = 0 := i98_5
      refine g_cVP (as := [_, _, _]) (c_X12_worth_98 _ _ _ h hMm (by omega) (by omega) (by omega) (by omega) (by omega) (by omega) (by omega) (by omega)) dL_law_852 mi_X12_worth in_X12_worth se_X12_worth ml_L_93 rfl rfl rfl sh_98 rfl rfl (Nat.le_of_ble_eq_true rfl) (fun v210 q211 => ?_)
      have zv210 := q211
      refine g_icmp_eq 1216 dL_law_855 (by decide) (fun _ => ?_) (fun q => absurd (by omega) q)
      refine g_iincB dL_law_1216 rfl rfl (by omega) (by omega) ?_
      refine g_goto 18 dL_law_1219 (by decide) ?_
      refine g_iload_n dL_law_18 rfl (fun _ => ?_)
      refine g_aloadX_n dL_law_19 rfl ?_
      refine g_slenB dL_law_20 (fun v212 ev212 bv212 cv212 => ?_)
      refine g_bipush dL_law_21 (inR_c rfl) (by decide) ?_
      refine g_isubB dL_law_23 (by omega) (by omega) ?_
      refine g_icmp_gt 1222 dL_law_24 (by decide) (fun q213 => ?_) (fun _ => by exfalso; omega)
      refine g_iconst dL_law_1222 (inR_c rfl) ?_
      exact g_ireturn dL_law_1223 (retZ (by omega)) (hPo _)
    · skip
      refine g_tableIn 860 18 dL_law_33 (by omega) (by omega) rfl (by decide) ?_
      refine g_aload_n dL_law_860 rfl ?_
      refine g_aloadX_n dL_law_861 rfl ?_
      refine g_iload_n dL_law_862 rfl (fun _ => ?_)
      refine g_iconst dL_law_863 (inR_c rfl) ?_
      refine g_iaddB dL_law_864 (by omega) (by omega) ?_
      refine g_sldB dL_law_865 (by omega) (by omega) (fun v214 ev214 bv214 cv214 => ?_)
      refine g_aloadX_n dL_law_866 rfl ?_
      refine g_iload_n dL_law_867 rfl (fun _ => ?_)
      refine g_iconst dL_law_868 (inR_c rfl) ?_
      refine g_iaddB dL_law_869 (by omega) (by omega) ?_
      refine g_sldB dL_law_870 (by omega) (by omega) (fun v215 ev215 bv215 cv215 => ?_)
      refine g_cV (as := [_, _]) (c_X11_lent_0 _ _ h hX (by omega) (by omega) (by omega) (by omega)) dL_law_871 mi_X11_lent in_X11_lent se_X11_lent ml_L_94 rfl rfl rfl sh_0 rfl rfl (Nat.le_of_ble_eq_true rfl) (fun v216 h217 q218 => ?_)
      obtain ⟨hFh217, zv216⟩ := q218
      refine g_aload_n dL_law_874 rfl ?_
      refine g_aloadX_n dL_law_875 rfl ?_
      refine g_iload_n dL_law_876 rfl (fun _ => ?_)
      refine g_iconst dL_law_877 (inR_c rfl) ?_
      refine g_iaddB dL_law_878 (by omega) (by omega) ?_
      refine g_sldE dL_law_879 (by omega) (by omega) ev214 ?_
      refine g_aloadX_n dL_law_880 rfl ?_
      refine g_iload_n dL_law_881 rfl (fun _ => ?_)
      refine g_iconst dL_law_882 (inR_c rfl) ?_
      refine g_iaddB dL_law_883 (by omega) (by omega) ?_
      refine g_sldE dL_law_884 (by omega) (by omega) ev215 ?_
      refine g_cV (as := [_, _]) (c_X12_lent_98 _ _ h217 (MBm.fr hMm hFh217 rfl) (by omega) (by omega) (by omega) (by omega)) dL_law_885 mi_X12_lent in_X12_lent se_X12_lent ml_L_97 rfl rfl rfl sh_98 rfl rfl (Nat.le_of_ble_eq_true rfl) (fun v219 h220 q221 => ?_)
      obtain ⟨hFh220, zv219⟩ := q221
      refine g_icmp_eq 1216 dL_law_888 (by decide) (fun _ => ?_) (fun q => absurd (by omega) q)
      refine g_iincB dL_law_1216 rfl rfl (by omega) (by omega) ?_
      refine g_goto 18 dL_law_1219 (by decide) ?_
      refine g_iload_n dL_law_18 rfl (fun _ => ?_)
      refine g_aloadX_n dL_law_19 rfl ?_
      refine g_slenB dL_law_20 (fun v222 ev222 bv222 cv222 => ?_)
      refine g_bipush dL_law_21 (inR_c rfl) (by decide) ?_
      refine g_isubB dL_law_23 (by omega) (by omega) ?_
      refine g_icmp_gt 1222 dL_law_24 (by decide) (fun q223 => ?_) (fun _ => by exfalso; omega)
      refine g_iconst dL_law_1222 (inR_c rfl) ?_
      exact g_ireturn dL_law_1223 (retZ (by omega)) (hPo _)
    · skip
      refine g_tableIn 893 19 dL_law_33 (by omega) (by omega) rfl (by decide) ?_
      refine g_aload_n dL_law_893 rfl ?_
      refine g_aloadX_n dL_law_894 rfl ?_
      refine g_iload_n dL_law_895 rfl (fun _ => ?_)
      refine g_iconst dL_law_896 (inR_c rfl) ?_
      refine g_iaddB dL_law_897 (by omega) (by omega) ?_
      refine g_sldB dL_law_898 (by omega) (by omega) (fun v224 ev224 bv224 cv224 => ?_)
      refine g_aloadX_n dL_law_899 rfl ?_
      refine g_iload_n dL_law_900 rfl (fun _ => ?_)
      refine g_iconst dL_law_901 (inR_c rfl) ?_
      refine g_iaddB dL_law_902 (by omega) (by omega) ?_
      refine g_sldB dL_law_903 (by omega) (by omega) (fun v225 ev225 bv225 cv225 => ?_)
      refine g_aloadX_n dL_law_904 rfl ?_
      refine g_iload_n dL_law_905 rfl (fun _ => ?_)
      refine g_iconst dL_law_906 (inR_c rfl) ?_
      refine g_iaddB dL_law_907 (by omega) (by omega) ?_
      refine g_sldB dL_law_908 (by omega) (by omega) (fun v226 ev226 bv226 cv226 => ?_)
      have q227 : h 61 0 = 0 := i61_0
      refine g_cVP (as := [_, _, _]) (c_X11_letGo_0 _ _ _ h hX (by omega) (by omega) (by omega) (by omega) (by omega) (by omega) (by omega) (by omega)) dL_law_909 mi_X11_letGo in_X11_letGo se_X11_letGo ml_L_98 rfl rfl rfl sh_0 rfl rfl (Nat.le_of_ble_eq_true rfl) (fun v228 q229 => ?_)
      have zv228 := q229
      refine g_aload_n dL_law_912 rfl ?_
      refine g_aloadX_n dL_law_913 rfl ?_
      refine g_iload_n dL_law_914 rfl (fun _ => ?_)
      refine g_iconst dL_law_915 (inR_c rfl) ?_
      refine g_iaddB dL_law_916 (by omega) (by omega) ?_
      refine g_sldE dL_law_917 (by omega) (by omega) ev224 ?_
      refine g_aloadX_n dL_law_918 rfl ?_
      refine g_iload_n dL_law_919 rfl (fun _ => ?_)
      refine g_iconst dL_law_920 (inR_c rfl) ?_
      refine g_iaddB dL_law_921 (by omega) (by omega) ?_
      refine g_sldE dL_law_922 (by omega) (by omega) ev225 ?_
      refine g_aloadX_n dL_law_923 rfl ?_
      refine g_iload_n dL_law_924 rfl (fun _ => ?_)
      refine g_iconst dL_law_925 (inR_c rfl) ?_
      refine g_iaddB dL_law_926 (by omega) (by omega) ?_
      refine g_sldE dL_law_927 (by omega) (by omega) ev226 ?_
      have q230 : h 98 1 = 0 := i98_1
      refine g_cVP (as := [_, _, _]) (c_X12_letGo_98 _ _ _ h hMm (by omega) (by omega) (by omega) (by omega) (by omega) (by omega) (by omega) (by omega)) dL_law_928 mi_X12_letGo in_X12_letGo se_X12_letGo ml_L_101 rfl rfl rfl sh_98 rfl rfl (Nat.le_of_ble_eq_true rfl) (fun v231 q232 => ?_)
      have zv231 := q232
      refine g_icmp_eq 1216 dL_law_931 (by decide) (fun _ => ?_) (fun q => absurd (by omega) q)
      refine g_iincB dL_law_1216 rfl rfl (by omega) (by omega) ?_
      refine g_goto 18 dL_law_1219 (by decide) ?_
      refine g_iload_n dL_law_18 rfl (fun _ => ?_)
      refine g_aloadX_n dL_law_19 rfl ?_
      refine g_slenB dL_law_20 (fun v233 ev233 bv233 cv233 => ?_)
      refine g_bipush dL_law_21 (inR_c rfl) (by decide) ?_
      refine g_isubB dL_law_23 (by omega) (by omega) ?_
      refine g_icmp_gt 1222 dL_law_24 (by decide) (fun q234 => ?_) (fun _ => by exfalso; omega)
      refine g_iconst dL_law_1222 (inR_c rfl) ?_
      exact g_ireturn dL_law_1223 (retZ (by omega)) (hPo _)
    · skip
      refine g_tableIn 936 20 dL_law_33 (by omega) (by omega) rfl (by decide) ?_
      refine g_aload_n dL_law_936 rfl ?_
      refine g_aloadX_n dL_law_937 rfl ?_
      refine g_iload_n dL_law_938 rfl (fun _ => ?_)
      refine g_iconst dL_law_939 (inR_c rfl) ?_
      refine g_iaddB dL_law_940 (by omega) (by omega) ?_
      refine g_sldB dL_law_941 (by omega) (by omega) (fun v235 ev235 bv235 cv235 => ?_)
      refine g_cV (as := [_]) (c_X11_settled_0 _ h hX (by omega) (by omega)) dL_law_942 mi_X11_settled in_X11_settled se_X11_settled ml_L_102 rfl rfl rfl sh_0 rfl rfl (Nat.le_of_ble_eq_true rfl) (fun v236 h237 q238 => ?_)
      obtain ⟨hFh237, zv236⟩ := q238
      refine g_aload_n dL_law_945 rfl ?_
      refine g_aloadX_n dL_law_946 rfl ?_
      refine g_iload_n dL_law_947 rfl (fun _ => ?_)
      refine g_iconst dL_law_948 (inR_c rfl) ?_
      refine g_iaddB dL_law_949 (by omega) (by omega) ?_
      refine g_sldE dL_law_950 (by omega) (by omega) ev235 ?_
      refine g_cV (as := [_]) (c_X12_settled_98 _ h237 (MBm.fr hMm hFh237 rfl) (by omega) (by omega)) dL_law_951 mi_X12_settled in_X12_settled se_X12_settled ml_L_105 rfl rfl rfl sh_98 rfl rfl (Nat.le_of_ble_eq_true rfl) (fun v239 h240 q241 => ?_)
      obtain ⟨hFh240, zv239⟩ := q241
      refine g_icmp_eq 1216 dL_law_954 (by decide) (fun _ => ?_) (fun q => absurd (by omega) q)
      refine g_iincB dL_law_1216 rfl rfl (by omega) (by omega) ?_
      refine g_goto 18 dL_law_1219 (by decide) ?_
      refine g_iload_n dL_law_18 rfl (fun _ => ?_)
      refine g_aloadX_n dL_law_19 rfl ?_
      refine g_slenB dL_law_20 (fun v242 ev242 bv242 cv242 => ?_)
      refine g_bipush dL_law_21 (inR_c rfl) (by decide) ?_
      refine g_isubB dL_law_23 (by omega) (by omega) ?_
      refine g_icmp_gt 1222 dL_law_24 (by decide) (fun q243 => ?_) (fun _ => by exfalso; omega)
      refine g_iconst dL_law_1222 (inR_c rfl) ?_
      exact g_ireturn dL_law_1223 (retZ (by omega)) (hPo _)
    · skip
      refine g_tableIn 959 21 dL_law_33 (by omega) (by omega) rfl (by decide) ?_
      refine g_aload_n dL_law_959 rfl ?_
      refine g_aloadX_n dL_law_960 rfl ?_
      refine g_iload_n dL_law_961 rfl (fun _ => ?_)
      refine g_iconst dL_law_962 (inR_c rfl) ?_
      refine g_iaddB dL_law_963 (by omega) (by omega) ?_
      refine g_sldB dL_law_964 (by omega) (by omega) (fun v244 ev244 bv244 cv244 => ?_)
      refine g_aloadX_n dL_law_965 rfl ?_
      refine g_iload_n dL_law_966 rfl (fun _ => ?_)
      refine g_iconst dL_law_967 (inR_c rfl) ?_
      refine g_iaddB dL_law_968 (by omega) (by omega) ?_
      refine g_sldB dL_law_969 (by omega) (by omega) (fun v245 ev245 bv245 cv245 => ?_)
      refine g_aloadX_n dL_law_970 rfl ?_
      refine g_iload_n dL_law_971 rfl (fun _ => ?_)
      refine g_iconst dL_law_972 (inR_c rfl) ?_
      refine g_iaddB dL_law_973 (by omega) (by omega) ?_
      refine g_sldB dL_law_974 (by omega) (by omega) (fun v246 ev246 bv246 cv246 => ?_)
      refine g_cVP (as := [_, _, _]) (c_X11_owes_0 _ _ _ h hX (by omega) (by omega) (by omega) (by omega) (by omega) (by omega)) dL_law_975 mi_X11_owes in_X11_owes se_X11_owes ml_L_106 rfl rfl rfl sh_0 rfl rfl (Nat.le_of_ble_eq_true rfl) (fun v247 q248 => ?_)
      have zv247 := q248
      refine g_aload_n dL_law_978 rfl ?_
      refine g_aloadX_n dL_law_979 rfl ?_
      refine g_iload_n dL_law_980 rfl (fun _ => ?_)
      refine g_iconst dL_law_981 (inR_c rfl) ?_
      refine g_iaddB dL_law_982 (by omega) (by omega) ?_
      refine g_sldE dL_law_983 (by omega) (by omega) ev244 ?_
      refine g_aloadX_n dL_law_984 rfl ?_
      refine g_iload_n dL_law_985 rfl (fun _ => ?_)
      refine g_iconst dL_law_986 (inR_c rfl) ?_
      refine g_iaddB dL_law_987 (by omega) (by omega) ?_
      refine g_sldE dL_law_988 (by omega) (by omega) ev245 ?_
      refine g_aloadX_n dL_law_989 rfl ?_
      refine g_iload_n dL_law_990 rfl (fun _ => ?_)
      refine g_iconst dL_law_991 (inR_c rfl) ?_
      refine g_iaddB dL_law_992 (by omega) (by omega) ?_
      refine g_sldE dL_law_993 (by omega) (by omega) ev246 ?_
      refine g_cVP (as := [_, _, _]) (c_X12_owes_98 _ _ _ h hMm (by omega) (by omega) (by omega) (by omega) (by omega) (by omega)) dL_law_994 mi_X12_owes in_X12_owes se_X12_owes ml_L_109 rfl rfl rfl sh_98 rfl rfl (Nat.le_of_ble_eq_true rfl) (fun v249 q250 => ?_)
      have zv249 := q250
      refine g_icmp_eq 1216 dL_law_997 (by decide) (fun _ => ?_) (fun q => absurd (by omega) q)
      refine g_iincB dL_law_1216 rfl rfl (by omega) (by omega) ?_
      refine g_goto 18 dL_law_1219 (by decide) ?_
      refine g_iload_n dL_law_18 rfl (fun _ => ?_)
      refine g_aloadX_n dL_law_19 rfl ?_
      refine g_slenB dL_law_20 (fun v251 ev251 bv251 cv251 => ?_)
      refine g_bipush dL_law_21 (inR_c rfl) (by decide) ?_
      refine g_isubB dL_law_23 (by omega) (by omega) ?_
      refine g_icmp_gt 1222 dL_law_24 (by decide) (fun q252 => ?_) (fun _ => by exfalso; omega)
      refine g_iconst dL_law_1222 (inR_c rfl) ?_
      exact g_ireturn dL_law_1223 (retZ (by omega)) (hPo _)
    · skip
      refine g_tableIn 1002 22 dL_law_33 (by omega) (by omega) rfl (by decide) ?_
      refine g_aload_n dL_law_1002 rfl ?_
      refine g_aloadX_n dL_law_1003 rfl ?_
      refine g_iload_n dL_law_1004 rfl (fun _ => ?_)
      refine g_iconst dL_law_1005 (inR_c rfl) ?_
      refine g_iaddB dL_law_1006 (by omega) (by omega) ?_
      refine g_sldB dL_law_1007 (by omega) (by omega) (fun v253 ev253 bv253 cv253 => ?_)
      refine g_cVP (as := [_]) (c_X11_teachers_0 _ h hX (by omega) (by omega)) dL_law_1008 mi_X11_teachers in_X11_teachers se_X11_teachers ml_L_110 rfl rfl rfl sh_0 rfl rfl (Nat.le_of_ble_eq_true rfl) (fun v254 q255 => ?_)
      have zv254 := q255
      refine g_aload_n dL_law_1011 rfl ?_
      refine g_aloadX_n dL_law_1012 rfl ?_
      refine g_iload_n dL_law_1013 rfl (fun _ => ?_)
      refine g_iconst dL_law_1014 (inR_c rfl) ?_
      refine g_iaddB dL_law_1015 (by omega) (by omega) ?_
      refine g_sldE dL_law_1016 (by omega) (by omega) ev253 ?_
      refine g_cVP (as := [_]) (c_X12_teachers_98 _ h hMm (by omega) (by omega)) dL_law_1017 mi_X12_teachers in_X12_teachers se_X12_teachers ml_L_113 rfl rfl rfl sh_98 rfl rfl (Nat.le_of_ble_eq_true rfl) (fun v256 q257 => ?_)
      have zv256 := q257
      refine g_icmp_eq 1216 dL_law_1020 (by decide) (fun _ => ?_) (fun q => absurd (by omega) q)
      refine g_iincB dL_law_1216 rfl rfl (by omega) (by omega) ?_
      refine g_goto 18 dL_law_1219 (by decide) ?_
      refine g_iload_n dL_law_18 rfl (fun _ => ?_)
      refine g_aloadX_n dL_law_19 rfl ?_
      refine g_slenB dL_law_20 (fun v258 ev258 bv258 cv258 => ?_)
      refine g_bipush dL_law_21 (inR_c rfl) (by decide) ?_
      refine g_isubB dL_law_23 (by omega) (by omega) ?_
      refine g_icmp_gt 1222 dL_law_24 (by decide) (fun q259 => ?_) (fun _ => by exfalso; omega)
      refine g_iconst dL_law_1222 (inR_c rfl) ?_
      exact g_ireturn dL_law_1223 (retZ (by omega)) (hPo _)
    · skip
      refine g_tableIn 1025 23 dL_law_33 (by omega) (by omega) rfl (by decide) ?_
      refine g_aload_n dL_law_1025 rfl ?_
      refine g_aloadX_n dL_law_1026 rfl ?_
      refine g_iload_n dL_law_1027 rfl (fun _ => ?_)
      refine g_iconst dL_law_1028 (inR_c rfl) ?_
      refine g_iaddB dL_law_1029 (by omega) (by omega) ?_
      refine g_sldB dL_law_1030 (by omega) (by omega) (fun v260 ev260 bv260 cv260 => ?_)
      refine g_aloadX_n dL_law_1031 rfl ?_
      refine g_iload_n dL_law_1032 rfl (fun _ => ?_)
      refine g_iconst dL_law_1033 (inR_c rfl) ?_
      refine g_iaddB dL_law_1034 (by omega) (by omega) ?_
      refine g_sldB dL_law_1035 (by omega) (by omega) (fun v261 ev261 bv261 cv261 => ?_)
      refine g_aloadX_n dL_law_1036 rfl ?_
      refine g_iload_n dL_law_1037 rfl (fun _ => ?_)
      refine g_iconst dL_law_1038 (inR_c rfl) ?_
      refine g_iaddB dL_law_1039 (by omega) (by omega) ?_
      refine g_sldB dL_law_1040 (by omega) (by omega) (fun v262 ev262 bv262 cv262 => ?_)
      refine g_cVP (as := [_, _, _]) (c_X11_chain_0 _ _ _ h hX (by omega) (by omega) (by omega) (by omega) (by omega) (by omega)) dL_law_1041 mi_X11_chain in_X11_chain se_X11_chain ml_L_114 rfl rfl rfl sh_0 rfl rfl (Nat.le_of_ble_eq_true rfl) (fun v263 q264 => ?_)
      have zv263 := q264
      refine g_aload_n dL_law_1044 rfl ?_
      refine g_aloadX_n dL_law_1045 rfl ?_
      refine g_iload_n dL_law_1046 rfl (fun _ => ?_)
      refine g_iconst dL_law_1047 (inR_c rfl) ?_
      refine g_iaddB dL_law_1048 (by omega) (by omega) ?_
      refine g_sldE dL_law_1049 (by omega) (by omega) ev260 ?_
      refine g_aloadX_n dL_law_1050 rfl ?_
      refine g_iload_n dL_law_1051 rfl (fun _ => ?_)
      refine g_iconst dL_law_1052 (inR_c rfl) ?_
      refine g_iaddB dL_law_1053 (by omega) (by omega) ?_
      refine g_sldE dL_law_1054 (by omega) (by omega) ev261 ?_
      refine g_aloadX_n dL_law_1055 rfl ?_
      refine g_iload_n dL_law_1056 rfl (fun _ => ?_)
      refine g_iconst dL_law_1057 (inR_c rfl) ?_
      refine g_iaddB dL_law_1058 (by omega) (by omega) ?_
      refine g_sldE dL_law_1059 (by omega) (by omega) ev262 ?_
      refine g_cVP (as := [_, _, _]) (c_X12_chain_98 _ _ _ h hMm (by omega) (by omega) (by omega) (by omega) (by omega) (by omega)) dL_law_1060 mi_X12_chain in_X12_chain se_X12_chain ml_L_117 rfl rfl rfl sh_98 rfl rfl (Nat.le_of_ble_eq_true rfl) (fun v265 q266 => ?_)
      have zv265 := q266
      refine g_icmp_eq 1216 dL_law_1063 (by decide) (fun _ => ?_) (fun q => absurd (by omega) q)
      refine g_iincB dL_law_1216 rfl rfl (by omega) (by omega) ?_
      refine g_goto 18 dL_law_1219 (by decide) ?_
      refine g_iload_n dL_law_18 rfl (fun _ => ?_)
      refine g_aloadX_n dL_law_19 rfl ?_
      refine g_slenB dL_law_20 (fun v267 ev267 bv267 cv267 => ?_)
      refine g_bipush dL_law_21 (inR_c rfl) (by decide) ?_
      refine g_isubB dL_law_23 (by omega) (by omega) ?_
      refine g_icmp_gt 1222 dL_law_24 (by decide) (fun q268 => ?_) (fun _ => by exfalso; omega)
      refine g_iconst dL_law_1222 (inR_c rfl) ?_
      exact g_ireturn dL_law_1223 (retZ (by omega)) (hPo _)
    · skip
      refine g_tableIn 1068 24 dL_law_33 (by omega) (by omega) rfl (by decide) ?_
      refine g_aload_n dL_law_1068 rfl ?_
      refine g_aloadX_n dL_law_1069 rfl ?_
      refine g_iload_n dL_law_1070 rfl (fun _ => ?_)
      refine g_iconst dL_law_1071 (inR_c rfl) ?_
      refine g_iaddB dL_law_1072 (by omega) (by omega) ?_
      refine g_sldB dL_law_1073 (by omega) (by omega) (fun v269 ev269 bv269 cv269 => ?_)
      refine g_aloadX_n dL_law_1074 rfl ?_
      refine g_iload_n dL_law_1075 rfl (fun _ => ?_)
      refine g_iconst dL_law_1076 (inR_c rfl) ?_
      refine g_iaddB dL_law_1077 (by omega) (by omega) ?_
      refine g_sldB dL_law_1078 (by omega) (by omega) (fun v270 ev270 bv270 cv270 => ?_)
      refine g_aloadX_n dL_law_1079 rfl ?_
      refine g_iload_n dL_law_1080 rfl (fun _ => ?_)
      refine g_iconst dL_law_1081 (inR_c rfl) ?_
      refine g_iaddB dL_law_1082 (by omega) (by omega) ?_
      refine g_sldB dL_law_1083 (by omega) (by omega) (fun v271 ev271 bv271 cv271 => ?_)
      refine g_aloadX_n dL_law_1084 rfl ?_
      refine g_iload_n dL_law_1085 rfl (fun _ => ?_)
      refine g_iconst dL_law_1086 (inR_c rfl) ?_
      refine g_iaddB dL_law_1087 (by omega) (by omega) ?_
      refine g_sldB dL_law_1088 (by omega) (by omega) (fun v272 ev272 bv272 cv272 => ?_)
      refine g_cVP (as := [_, _, _, _]) (c_X11_odds_0 _ _ _ _ h hX (by omega) (by omega) (by omega) (by omega) (by omega) (by omega) (by omega) (by omega)) dL_law_1089 mi_X11_odds in_X11_odds se_X11_odds ml_L_118 rfl rfl rfl sh_0 rfl rfl (Nat.le_of_ble_eq_true rfl) (fun v273 q274 => ?_)
      have zv273 := q274
      refine g_aload_n dL_law_1092 rfl ?_
      refine g_aloadX_n dL_law_1093 rfl ?_
      refine g_iload_n dL_law_1094 rfl (fun _ => ?_)
      refine g_iconst dL_law_1095 (inR_c rfl) ?_
      refine g_iaddB dL_law_1096 (by omega) (by omega) ?_
      refine g_sldE dL_law_1097 (by omega) (by omega) ev269 ?_
      refine g_aloadX_n dL_law_1098 rfl ?_
      refine g_iload_n dL_law_1099 rfl (fun _ => ?_)
      refine g_iconst dL_law_1100 (inR_c rfl) ?_
      refine g_iaddB dL_law_1101 (by omega) (by omega) ?_
      refine g_sldE dL_law_1102 (by omega) (by omega) ev270 ?_
      refine g_aloadX_n dL_law_1103 rfl ?_
      refine g_iload_n dL_law_1104 rfl (fun _ => ?_)
      refine g_iconst dL_law_1105 (inR_c rfl) ?_
      refine g_iaddB dL_law_1106 (by omega) (by omega) ?_
      refine g_sldE dL_law_1107 (by omega) (by omega) ev271 ?_
      refine g_aloadX_n dL_law_1108 rfl ?_
      refine g_iload_n dL_law_1109 rfl (fun _ => ?_)
      refine g_iconst dL_law_1110 (inR_c rfl) ?_
      refine g_iaddB dL_law_1111 (by omega) (by omega) ?_
      refine g_sldE dL_law_1112 (by omega) (by omega) ev272 ?_
      refine g_cVP (as := [_, _, _, _]) (c_X12_odds_98 _ _ _ _ h hMm (by omega) (by omega) (by omega) (by omega) (by omega) (by omega) (by omega) (by omega)) dL_law_1113 mi_X12_odds in_X12_odds se_X12_odds ml_L_121 rfl rfl rfl sh_98 rfl rfl (Nat.le_of_ble_eq_true rfl) (fun v275 q276 => ?_)
      have zv275 := q276
      refine g_icmp_eq 1216 dL_law_1116 (by decide) (fun _ => ?_) (fun q => absurd (by omega) q)
      refine g_iincB dL_law_1216 rfl rfl (by omega) (by omega) ?_
      refine g_goto 18 dL_law_1219 (by decide) ?_
      refine g_iload_n dL_law_18 rfl (fun _ => ?_)
      refine g_aloadX_n dL_law_19 rfl ?_
      refine g_slenB dL_law_20 (fun v277 ev277 bv277 cv277 => ?_)
      refine g_bipush dL_law_21 (inR_c rfl) (by decide) ?_
      refine g_isubB dL_law_23 (by omega) (by omega) ?_
      refine g_icmp_gt 1222 dL_law_24 (by decide) (fun q278 => ?_) (fun _ => by exfalso; omega)
      refine g_iconst dL_law_1222 (inR_c rfl) ?_
      exact g_ireturn dL_law_1223 (retZ (by omega)) (hPo _)
    · skip
      refine g_tableIn 1121 25 dL_law_33 (by omega) (by omega) rfl (by decide) ?_
      refine g_aload_n dL_law_1121 rfl ?_
      refine g_aloadX_n dL_law_1122 rfl ?_
      refine g_iload_n dL_law_1123 rfl (fun _ => ?_)
      refine g_iconst dL_law_1124 (inR_c rfl) ?_
      refine g_iaddB dL_law_1125 (by omega) (by omega) ?_
      refine g_sldB dL_law_1126 (by omega) (by omega) (fun v279 ev279 bv279 cv279 => ?_)
      refine g_cV (as := [_]) (c_X11_seed_0 _ h hX (by omega) (by omega)) dL_law_1127 mi_X11_seed in_X11_seed se_X11_seed ml_L_122 rfl rfl rfl sh_0 rfl rfl (Nat.le_of_ble_eq_true rfl) (fun v280 h281 q282 => ?_)
      obtain ⟨hFh281, zv280⟩ := q282
      refine g_aload_n dL_law_1130 rfl ?_
      refine g_aloadX_n dL_law_1131 rfl ?_
      refine g_iload_n dL_law_1132 rfl (fun _ => ?_)
      refine g_iconst dL_law_1133 (inR_c rfl) ?_
      refine g_iaddB dL_law_1134 (by omega) (by omega) ?_
      refine g_sldE dL_law_1135 (by omega) (by omega) ev279 ?_
      refine g_cV (as := [_]) (c_X12_seed_98 _ h281 (MBm.fr hMm hFh281 rfl) (by omega) (by omega)) dL_law_1136 mi_X12_seed in_X12_seed se_X12_seed ml_L_126 rfl rfl rfl sh_98 rfl rfl (Nat.le_of_ble_eq_true rfl) (fun v283 h284 q285 => ?_)
      obtain ⟨hFh284, zv283⟩ := q285
      refine g_icmp_eq 1216 dL_law_1139 (by decide) (fun _ => ?_) (fun q => absurd (by omega) q)
      refine g_iincB dL_law_1216 rfl rfl (by omega) (by omega) ?_
      refine g_goto 18 dL_law_1219 (by decide) ?_
      refine g_iload_n dL_law_18 rfl (fun _ => ?_)
      refine g_aloadX_n dL_law_19 rfl ?_
      refine g_slenB dL_law_20 (fun v286 ev286 bv286 cv286 => ?_)
      refine g_bipush dL_law_21 (inR_c rfl) (by decide) ?_
      refine g_isubB dL_law_23 (by omega) (by omega) ?_
      refine g_icmp_gt 1222 dL_law_24 (by decide) (fun q287 => ?_) (fun _ => by exfalso; omega)
      refine g_iconst dL_law_1222 (inR_c rfl) ?_
      exact g_ireturn dL_law_1223 (retZ (by omega)) (hPo _)
    · skip
      refine g_tableIn 1144 26 dL_law_33 (by omega) (by omega) rfl (by decide) ?_
      refine g_aload_n dL_law_1144 rfl ?_
      refine g_cV (as := []) (c_X11_keep_0  h hX) dL_law_1145 mi_X11_keep in_X11_keep se_X11_keep ml_L_127 rfl rfl rfl sh_0 rfl rfl (Nat.le_of_ble_eq_true rfl) (fun v288 h289 q290 => ?_)
      obtain ⟨hFh289, zv288⟩ := q290
      refine g_aload_n dL_law_1148 rfl ?_
      refine g_cV (as := []) (c_X12_keep_98  h289 (MBm.fr hMm hFh289 rfl)) dL_law_1149 mi_X12_keep in_X12_keep se_X12_keep ml_L_131 rfl rfl rfl sh_98 rfl rfl (Nat.le_of_ble_eq_true rfl) (fun v291 h292 q293 => ?_)
      obtain ⟨hFh292, zv291⟩ := q293
      refine g_icmp_eq 1216 dL_law_1152 (by decide) (fun _ => ?_) (fun q => absurd (by omega) q)
      refine g_iincB dL_law_1216 rfl rfl (by omega) (by omega) ?_
      refine g_goto 18 dL_law_1219 (by decide) ?_
      refine g_iload_n dL_law_18 rfl (fun _ => ?_)
      refine g_aloadX_n dL_law_19 rfl ?_
      refine g_slenB dL_law_20 (fun v294 ev294 bv294 cv294 => ?_)
      refine g_bipush dL_law_21 (inR_c rfl) (by decide) ?_
      refine g_isubB dL_law_23 (by omega) (by omega) ?_
      refine g_icmp_gt 1222 dL_law_24 (by decide) (fun q295 => ?_) (fun _ => by exfalso; omega)
      refine g_iconst dL_law_1222 (inR_c rfl) ?_
      exact g_ireturn dL_law_1223 (retZ (by omega)) (hPo _)
    · skip
      refine g_tableIn 1157 27 dL_law_33 (by omega) (by omega) rfl (by decide) ?_
      refine g_aload_n dL_law_1157 rfl ?_
      have q296 : h 0 12 = 0 := i0_12
      refine g_cVP (as := []) (c_X11_undo_0  h hX (by omega) (by omega)) dL_law_1158 mi_X11_undo in_X11_undo se_X11_undo ml_L_132 rfl rfl rfl sh_0 rfl rfl (Nat.le_of_ble_eq_true rfl) (fun v297 q298 => ?_)
      have zv297 := q298
      refine g_aload_n dL_law_1161 rfl ?_
      have q299 : h 98 79 = 0 := i98_79
      refine g_cVP (as := []) (c_X12_undo_98  h hMm (by omega) (by omega)) dL_law_1162 mi_X12_undo in_X12_undo se_X12_undo ml_L_136 rfl rfl rfl sh_98 rfl rfl (Nat.le_of_ble_eq_true rfl) (fun v300 q301 => ?_)
      have zv300 := q301
      refine g_icmp_eq 1216 dL_law_1165 (by decide) (fun _ => ?_) (fun q => absurd (by omega) q)
      refine g_iincB dL_law_1216 rfl rfl (by omega) (by omega) ?_
      refine g_goto 18 dL_law_1219 (by decide) ?_
      refine g_iload_n dL_law_18 rfl (fun _ => ?_)
      refine g_aloadX_n dL_law_19 rfl ?_
      refine g_slenB dL_law_20 (fun v302 ev302 bv302 cv302 => ?_)
      refine g_bipush dL_law_21 (inR_c rfl) (by decide) ?_
      refine g_isubB dL_law_23 (by omega) (by omega) ?_
      refine g_icmp_gt 1222 dL_law_24 (by decide) (fun q303 => ?_) (fun _ => by exfalso; omega)
      refine g_iconst dL_law_1222 (inR_c rfl) ?_
      exact g_ireturn dL_law_1223 (retZ (by omega)) (hPo _)
    · skip
      refine g_tableIn 1170 28 dL_law_33 (by omega) (by omega) rfl (by decide) ?_
      refine g_aload_n dL_law_1170 rfl ?_
      refine g_aloadX_n dL_law_1171 rfl ?_
      refine g_iload_n dL_law_1172 rfl (fun _ => ?_)
      refine g_iconst dL_law_1173 (inR_c rfl) ?_
      refine g_iaddB dL_law_1174 (by omega) (by omega) ?_
      refine g_sldB dL_law_1175 (by omega) (by omega) (fun v304 ev304 bv304 cv304 => ?_)
      have q305 : h 61 0 = 0 := i61_0
      refine g_cV (as := [_]) (c_X11_check_0 _ h hX (by omega) (by omega) (by omega) (by omega)) dL_law_1176 mi_X11_check in_X11_check se_X11_check ml_L_137 rfl rfl rfl sh_0 rfl rfl (Nat.le_of_ble_eq_true rfl) (fun v306 h307 q308 => ?_)
      obtain ⟨hFh307, zv306⟩ := q308
      refine g_aload_n dL_law_1179 rfl ?_
      refine g_aloadX_n dL_law_1180 rfl ?_
      refine g_iload_n dL_law_1181 rfl (fun _ => ?_)
      refine g_iconst dL_law_1182 (inR_c rfl) ?_
      refine g_iaddB dL_law_1183 (by omega) (by omega) ?_
      refine g_sldE dL_law_1184 (by omega) (by omega) ev304 ?_
      have q309 : h307 98 1 = 0 := ((hFh307 98 1 rfl).trans i98_1)
      refine g_cV (as := [_]) (c_X12_check_98 _ h307 (MBm.fr hMm hFh307 rfl) (by omega) (by omega) (by omega) (by omega)) dL_law_1185 mi_X12_check in_X12_check se_X12_check ml_L_140 rfl rfl rfl sh_98 rfl rfl (Nat.le_of_ble_eq_true rfl) (fun v310 h311 q312 => ?_)
      obtain ⟨hFh311, zv310⟩ := q312
      refine g_icmp_eq 1216 dL_law_1188 (by decide) (fun _ => ?_) (fun q => absurd (by omega) q)
      refine g_iincB dL_law_1216 rfl rfl (by omega) (by omega) ?_
      refine g_goto 18 dL_law_1219 (by decide) ?_
      refine g_iload_n dL_law_18 rfl (fun _ => ?_)
      refine g_aloadX_n dL_law_19 rfl ?_
      refine g_slenB dL_law_20 (fun v313 ev313 bv313 cv313 => ?_)
      refine g_bipush dL_law_21 (inR_c rfl) (by decide) ?_
      refine g_isubB dL_law_23 (by omega) (by omega) ?_
      refine g_icmp_gt 1222 dL_law_24 (by decide) (fun q314 => ?_) (fun _ => by exfalso; omega)
      refine g_iconst dL_law_1222 (inR_c rfl) ?_
      exact g_ireturn dL_law_1223 (retZ (by omega)) (hPo _)
    · skip
      refine g_tableIn 1193 29 dL_law_33 (by omega) (by omega) rfl (by decide) ?_
      refine g_aload_n dL_law_1193 rfl ?_
      refine g_aloadX_n dL_law_1194 rfl ?_
      refine g_iload_n dL_law_1195 rfl (fun _ => ?_)
      refine g_iconst dL_law_1196 (inR_c rfl) ?_
      refine g_iaddB dL_law_1197 (by omega) (by omega) ?_
      refine g_sldB dL_law_1198 (by omega) (by omega) (fun v315 ev315 bv315 cv315 => ?_)
      have q316 : h 61 0 = 0 := i61_0
      have q317 : h 1 6 = 0 := i1_6
      have q318 : h 1 7 = 1 := i1_7
      refine g_cVP (as := [_]) (c_X11_count_0 _ h hX (by omega) (by omega) (by omega) (by omega) (by omega) (by omega) (by omega) (by omega)) dL_law_1199 mi_X11_count in_X11_count se_X11_count ml_L_141 rfl rfl rfl sh_0 rfl rfl (Nat.le_of_ble_eq_true rfl) (fun v319 q320 => ?_)
      have zv319 := q320
      refine g_aload_n dL_law_1202 rfl ?_
      refine g_aloadX_n dL_law_1203 rfl ?_
      refine g_iload_n dL_law_1204 rfl (fun _ => ?_)
      refine g_iconst dL_law_1205 (inR_c rfl) ?_
      refine g_iaddB dL_law_1206 (by omega) (by omega) ?_
      refine g_sldE dL_law_1207 (by omega) (by omega) ev315 ?_
      have q321 : h 98 1 = 0 := i98_1
      have q322 : h 98 5 = 0 := i98_5
      have q323 : h 98 6 = 1 := i98_6
      refine g_cVP (as := [_]) (c_X12_count_98 _ h hMm (by omega) (by omega) (by omega) (by omega) (by omega) (by omega) (by omega) (by omega)) dL_law_1208 mi_X12_count in_X12_count se_X12_count ml_L_144 rfl rfl rfl sh_98 rfl rfl (Nat.le_of_ble_eq_true rfl) (fun v324 q325 => ?_)
      have zv324 := q325
      refine g_icmp_eq 1216 dL_law_1211 (by decide) (fun _ => ?_) (fun q => absurd (by omega) q)
      refine g_iincB dL_law_1216 rfl rfl (by omega) (by omega) ?_
      refine g_goto 18 dL_law_1219 (by decide) ?_
      refine g_iload_n dL_law_18 rfl (fun _ => ?_)
      refine g_aloadX_n dL_law_19 rfl ?_
      refine g_slenB dL_law_20 (fun v326 ev326 bv326 cv326 => ?_)
      refine g_bipush dL_law_21 (inR_c rfl) (by decide) ?_
      refine g_isubB dL_law_23 (by omega) (by omega) ?_
      refine g_icmp_gt 1222 dL_law_24 (by decide) (fun q327 => ?_) (fun _ => by exfalso; omega)
      refine g_iconst dL_law_1222 (inR_c rfl) ?_
      exact g_ireturn dL_law_1223 (retZ (by omega)) (hPo _)
    · skip
      refine g_tableOut 1216 dL_law_33 (by omega) (by decide) ?_
      refine g_iincB dL_law_1216 rfl rfl (by omega) (by omega) ?_
      refine g_goto 18 dL_law_1219 (by decide) ?_
      refine g_iload_n dL_law_18 rfl (fun _ => ?_)
      refine g_aloadX_n dL_law_19 rfl ?_
      refine g_slenB dL_law_20 (fun v328 ev328 bv328 cv328 => ?_)
      refine g_bipush dL_law_21 (inR_c rfl) (by decide) ?_
      refine g_isubB dL_law_23 (by omega) (by omega) ?_
      refine g_icmp_gt 1222 dL_law_24 (by decide) (fun q329 => ?_) (fun _ => by exfalso; omega)
      refine g_iconst dL_law_1222 (inR_c rfl) ?_
      exact g_ireturn dL_law_1223 (retZ (by omega)) (hPo _)
set_option maxRecDepth 100000 in
set_option maxHeartbeats 4000000 in
theorem law_body (xs : List Int) (hN : xs.length ≤ 6) (Po : Option PV → List SE → MEM → Prop) (hPo : ∀ h', Po (some (pI 1)) SH h') (h : MEM) (eh : h = hOf []) : G x cL_law 4 (some .boolean) (some xs) Po (2048, 84000, 600000, 7302250) 0 [some pX, none, none, none] [] [] h 0 0 := by
  subst eh
  show G x cL_law 4 (some .boolean) (some xs) Po (2048, 84000, 600000, 7302250) 0 [some pX, none, none, none] [] (SH.take 0) (hOf J0) 0 0
  refine g_newJ (n := 0) (n' := 1) (rs := rsX11) (l' := J1) dL_law_0 (ci := 11) rfl wsT11 tyX11 tyX11_ok kcl_L_7 kins_11 kini_11 rfl kdf_11 (Nat.le_of_ble_eq_true rfl) (Nat.le_of_ble_eq_true rfl) (by decide +kernel) (by decide +kernel) jl_0 rfl ?_
  refine g_dup dL_law_3 rfl ?_
  refine g_ck k_X11_init_0 dL_law_4 kmi_X11_init kin_X11_init rfl kml_L_9 rfl (by decide) ?_
  refine g_astore_n dL_law_7 (by decide) rfl ?_
  refine g_newJ (n := 98) (n' := 99) (rs := rsX12) (l' := J231) dL_law_8 (ci := 12) rfl wsT12 tyX12 tyX12_ok kcl_L_10 kins_12 kini_12 rfl kdf_12 (Nat.le_of_ble_eq_true rfl) (Nat.le_of_ble_eq_true rfl) (by decide +kernel) (by decide +kernel) jl_230 rfl ?_
  refine g_dup dL_law_11 rfl ?_
  refine g_ck k_X12_init_98 dL_law_12 kmi_X12_init kin_X12_init rfl kml_L_12 rfl (by decide) ?_
  refine g_astore_n dL_law_15 (by decide) rfl ?_
  rw [J_end, SH_end]
  refine g_iconst dL_law_16 (inR_c rfl) ?_
  refine g_istore_n dL_law_17 (by decide) rfl ?_
  exact law_loop xs hN Po hPo _ rfl
