section
-- ===== PART A: goes FIRST, ahead of the names: the tables' words, and 'selects' of the private methods out of them =====
/-- a private method of a class that the tables say can be made, by its rows of tables_1 -/
def lw_okq (q : MethodName × Nat) : Prop := (q.1.cls ≠ "java/lang/invoke/MethodHandle" ∧ q.1.cls ≠ "java/lang/invoke/VarHandle") ∧ Cond.instantiable q.1.cls q.2 ∈ tables_1 ∧ Cond.privateMethod q.1 ∈ tables_1 ∧ Cond.instanceMethod q.1 ∈ tables_1
theorem lw_p0 : lw_okq (⟨"WheelAreas$TextReader", "advance", "()V"⟩, 6) := ⟨⟨by decide +kernel, by decide +kernel⟩, List.mem_of_getElem? (i := 76) (by decide +kernel), List.mem_of_getElem? (i := 240) (by decide +kernel), List.mem_of_getElem? (i := 241) (by decide +kernel)⟩
theorem lw_p1 : lw_okq (⟨"WheelAreas$Tape", "endOfRun", "(ICC)I"⟩, 5) := ⟨⟨by decide +kernel, by decide +kernel⟩, List.mem_of_getElem? (i := 82) (by decide +kernel), List.mem_of_getElem? (i := 248) (by decide +kernel), List.mem_of_getElem? (i := 249) (by decide +kernel)⟩
theorem lw_p2 : lw_okq (⟨"WheelAreas$TextReader", "refuse", "(I)V"⟩, 6) := ⟨⟨by decide +kernel, by decide +kernel⟩, List.mem_of_getElem? (i := 76) (by decide +kernel), List.mem_of_getElem? (i := 252) (by decide +kernel), List.mem_of_getElem? (i := 253) (by decide +kernel)⟩
theorem lw_p3 : lw_okq (⟨"WheelAreas$TextReader", "readLine", "()V"⟩, 6) := ⟨⟨by decide +kernel, by decide +kernel⟩, List.mem_of_getElem? (i := 76) (by decide +kernel), List.mem_of_getElem? (i := 256) (by decide +kernel), List.mem_of_getElem? (i := 257) (by decide +kernel)⟩
theorem lw_p4 : lw_okq (⟨"WheelAreas$TextReader", "wordOfToken", "()I"⟩, 6) := ⟨⟨by decide +kernel, by decide +kernel⟩, List.mem_of_getElem? (i := 76) (by decide +kernel), List.mem_of_getElem? (i := 260) (by decide +kernel), List.mem_of_getElem? (i := 261) (by decide +kernel)⟩
theorem lw_p5 : lw_okq (⟨"WheelAreas$TextReader", "faultOfWord", "(I)I"⟩, 6) := ⟨⟨by decide +kernel, by decide +kernel⟩, List.mem_of_getElem? (i := 76) (by decide +kernel), List.mem_of_getElem? (i := 325) (by decide +kernel), List.mem_of_getElem? (i := 326) (by decide +kernel)⟩
theorem lw_p6 : lw_okq (⟨"WheelAreas$TextReader", "takeNumber", "(II)I"⟩, 6) := ⟨⟨by decide +kernel, by decide +kernel⟩, List.mem_of_getElem? (i := 76) (by decide +kernel), List.mem_of_getElem? (i := 329) (by decide +kernel), List.mem_of_getElem? (i := 330) (by decide +kernel)⟩
theorem lw_p7 : lw_okq (⟨"WheelAreas$TextReader", "takeSemicolon", "()V"⟩, 6) := ⟨⟨by decide +kernel, by decide +kernel⟩, List.mem_of_getElem? (i := 76) (by decide +kernel), List.mem_of_getElem? (i := 337) (by decide +kernel), List.mem_of_getElem? (i := 338) (by decide +kernel)⟩
theorem lw_p8 : lw_okq (⟨"WheelAreas$TextReader", "tell", "(III)V"⟩, 6) := ⟨⟨by decide +kernel, by decide +kernel⟩, List.mem_of_getElem? (i := 76) (by decide +kernel), List.mem_of_getElem? (i := 341) (by decide +kernel), List.mem_of_getElem? (i := 342) (by decide +kernel)⟩
theorem lw_p9 : lw_okq (⟨"WheelAreas", "hasCorner", "(I)Z"⟩, 11) := ⟨⟨by decide +kernel, by decide +kernel⟩, List.mem_of_getElem? (i := 16) (by decide +kernel), List.mem_of_getElem? (i := 389) (by decide +kernel), List.mem_of_getElem? (i := 390) (by decide +kernel)⟩
theorem lw_p10 : lw_okq (⟨"WheelAreas", "hasWheel", "(I)Z"⟩, 11) := ⟨⟨by decide +kernel, by decide +kernel⟩, List.mem_of_getElem? (i := 16) (by decide +kernel), List.mem_of_getElem? (i := 398) (by decide +kernel), List.mem_of_getElem? (i := 399) (by decide +kernel)⟩
theorem lw_p11 : lw_okq (⟨"WheelAreas", "rolledAhead", "(I)I"⟩, 11) := ⟨⟨by decide +kernel, by decide +kernel⟩, List.mem_of_getElem? (i := 16) (by decide +kernel), List.mem_of_getElem? (i := 496) (by decide +kernel), List.mem_of_getElem? (i := 497) (by decide +kernel)⟩
theorem lw_p12 : lw_okq (⟨"WheelAreas", "idleAhead", "(I)I"⟩, 11) := ⟨⟨by decide +kernel, by decide +kernel⟩, List.mem_of_getElem? (i := 16) (by decide +kernel), List.mem_of_getElem? (i := 501) (by decide +kernel), List.mem_of_getElem? (i := 502) (by decide +kernel)⟩
theorem lw_p13 : lw_okq (⟨"WheelAreas", "greatestSweepAhead", "(I)I"⟩, 11) := ⟨⟨by decide +kernel, by decide +kernel⟩, List.mem_of_getElem? (i := 16) (by decide +kernel), List.mem_of_getElem? (i := 509) (by decide +kernel), List.mem_of_getElem? (i := 510) (by decide +kernel)⟩
theorem lw_p14 : lw_okq (⟨"WheelAreas", "isMissing", "(III)Z"⟩, 11) := ⟨⟨by decide +kernel, by decide +kernel⟩, List.mem_of_getElem? (i := 16) (by decide +kernel), List.mem_of_getElem? (i := 581) (by decide +kernel), List.mem_of_getElem? (i := 582) (by decide +kernel)⟩
theorem lw_p15 : lw_okq (⟨"WheelAreas", "setEdgeRolls", "(II)V"⟩, 11) := ⟨⟨by decide +kernel, by decide +kernel⟩, List.mem_of_getElem? (i := 16) (by decide +kernel), List.mem_of_getElem? (i := 586) (by decide +kernel), List.mem_of_getElem? (i := 587) (by decide +kernel)⟩
def lw_privs_1 : List (MethodName × Nat) := [(⟨"WheelAreas$TextReader", "advance", "()V"⟩, 6), (⟨"WheelAreas$Tape", "endOfRun", "(ICC)I"⟩, 5), (⟨"WheelAreas$TextReader", "refuse", "(I)V"⟩, 6), (⟨"WheelAreas$TextReader", "readLine", "()V"⟩, 6), (⟨"WheelAreas$TextReader", "wordOfToken", "()I"⟩, 6), (⟨"WheelAreas$TextReader", "faultOfWord", "(I)I"⟩, 6), (⟨"WheelAreas$TextReader", "takeNumber", "(II)I"⟩, 6), (⟨"WheelAreas$TextReader", "takeSemicolon", "()V"⟩, 6), (⟨"WheelAreas$TextReader", "tell", "(III)V"⟩, 6), (⟨"WheelAreas", "hasCorner", "(I)Z"⟩, 11), (⟨"WheelAreas", "hasWheel", "(I)Z"⟩, 11), (⟨"WheelAreas", "rolledAhead", "(I)I"⟩, 11), (⟨"WheelAreas", "idleAhead", "(I)I"⟩, 11), (⟨"WheelAreas", "greatestSweepAhead", "(I)I"⟩, 11), (⟨"WheelAreas", "isMissing", "(III)Z"⟩, 11), (⟨"WheelAreas", "setEdgeRolls", "(II)V"⟩, 11)]
theorem lw_r1 : ∀ q ∈ lw_privs_1, lw_okq q := List.forall_mem_cons.mpr ⟨lw_p0, List.forall_mem_cons.mpr ⟨lw_p1, List.forall_mem_cons.mpr ⟨lw_p2, List.forall_mem_cons.mpr ⟨lw_p3, List.forall_mem_cons.mpr ⟨lw_p4, List.forall_mem_cons.mpr ⟨lw_p5, List.forall_mem_cons.mpr ⟨lw_p6, List.forall_mem_cons.mpr ⟨lw_p7, List.forall_mem_cons.mpr ⟨lw_p8, List.forall_mem_cons.mpr ⟨lw_p9, List.forall_mem_cons.mpr ⟨lw_p10, List.forall_mem_cons.mpr ⟨lw_p11, List.forall_mem_cons.mpr ⟨lw_p12, List.forall_mem_cons.mpr ⟨lw_p13, List.forall_mem_cons.mpr ⟨lw_p14, List.forall_mem_cons.mpr ⟨lw_p15, fun _ h => absurd h List.not_mem_nil⟩⟩⟩⟩⟩⟩⟩⟩⟩⟩⟩⟩⟩⟩⟩⟩
theorem lw_p16 : lw_okq (⟨"WheelAreas", "readsByTraced", "(III)I"⟩, 11) := ⟨⟨by decide +kernel, by decide +kernel⟩, List.mem_of_getElem? (i := 16) (by decide +kernel), List.mem_of_getElem? (i := 590) (by decide +kernel), List.mem_of_getElem? (i := 591) (by decide +kernel)⟩
theorem lw_p17 : lw_okq (⟨"WheelAreas", "stepsAsSeen", "(I)I"⟩, 11) := ⟨⟨by decide +kernel, by decide +kernel⟩, List.mem_of_getElem? (i := 16) (by decide +kernel), List.mem_of_getElem? (i := 637) (by decide +kernel), List.mem_of_getElem? (i := 638) (by decide +kernel)⟩
theorem lw_p18 : lw_okq (⟨"WheelAreas", "mostAlike", "(I)I"⟩, 11) := ⟨⟨by decide +kernel, by decide +kernel⟩, List.mem_of_getElem? (i := 16) (by decide +kernel), List.mem_of_getElem? (i := 651) (by decide +kernel), List.mem_of_getElem? (i := 652) (by decide +kernel)⟩
theorem lw_p19 : lw_okq (⟨"WheelAreas", "countAlike", "(II)I"⟩, 11) := ⟨⟨by decide +kernel, by decide +kernel⟩, List.mem_of_getElem? (i := 16) (by decide +kernel), List.mem_of_getElem? (i := 655) (by decide +kernel), List.mem_of_getElem? (i := 656) (by decide +kernel)⟩
theorem lw_p20 : lw_okq (⟨"WheelAreas", "rollEachStep", "(II)V"⟩, 11) := ⟨⟨by decide +kernel, by decide +kernel⟩, List.mem_of_getElem? (i := 16) (by decide +kernel), List.mem_of_getElem? (i := 659) (by decide +kernel), List.mem_of_getElem? (i := 660) (by decide +kernel)⟩
theorem lw_p21 : lw_okq (⟨"WheelAreasModel", "readsOn", "()V"⟩, 26) := ⟨⟨by decide +kernel, by decide +kernel⟩, List.mem_of_getElem? (i := 734) (by decide +kernel), List.mem_of_getElem? (i := 835) (by decide +kernel), List.mem_of_getElem? (i := 836) (by decide +kernel)⟩
theorem lw_p22 : lw_okq (⟨"WheelAreasModel", "byteAt", "(I)I"⟩, 26) := ⟨⟨by decide +kernel, by decide +kernel⟩, List.mem_of_getElem? (i := 734) (by decide +kernel), List.mem_of_getElem? (i := 839) (by decide +kernel), List.mem_of_getElem? (i := 840) (by decide +kernel)⟩
theorem lw_p23 : lw_okq (⟨"WheelAreasModel", "fails", "(I)V"⟩, 26) := ⟨⟨by decide +kernel, by decide +kernel⟩, List.mem_of_getElem? (i := 734) (by decide +kernel), List.mem_of_getElem? (i := 847) (by decide +kernel), List.mem_of_getElem? (i := 848) (by decide +kernel)⟩
theorem lw_p24 : lw_okq (⟨"WheelAreasModel", "readLine", "()V"⟩, 26) := ⟨⟨by decide +kernel, by decide +kernel⟩, List.mem_of_getElem? (i := 734) (by decide +kernel), List.mem_of_getElem? (i := 851) (by decide +kernel), List.mem_of_getElem? (i := 852) (by decide +kernel)⟩
theorem lw_p25 : lw_okq (⟨"WheelAreasModel", "nameHere", "()I"⟩, 26) := ⟨⟨by decide +kernel, by decide +kernel⟩, List.mem_of_getElem? (i := 734) (by decide +kernel), List.mem_of_getElem? (i := 855) (by decide +kernel), List.mem_of_getElem? (i := 856) (by decide +kernel)⟩
theorem lw_p26 : lw_okq (⟨"WheelAreasModel", "readMore", "(I)V"⟩, 26) := ⟨⟨by decide +kernel, by decide +kernel⟩, List.mem_of_getElem? (i := 734) (by decide +kernel), List.mem_of_getElem? (i := 860) (by decide +kernel), List.mem_of_getElem? (i := 861) (by decide +kernel)⟩
theorem lw_p27 : lw_okq (⟨"WheelAreasModel", "number", "(II)I"⟩, 26) := ⟨⟨by decide +kernel, by decide +kernel⟩, List.mem_of_getElem? (i := 734) (by decide +kernel), List.mem_of_getElem? (i := 864) (by decide +kernel), List.mem_of_getElem? (i := 865) (by decide +kernel)⟩
theorem lw_p28 : lw_okq (⟨"WheelAreasModel", "areaOn", "(I)I"⟩, 26) := ⟨⟨by decide +kernel, by decide +kernel⟩, List.mem_of_getElem? (i := 734) (by decide +kernel), List.mem_of_getElem? (i := 877) (by decide +kernel), List.mem_of_getElem? (i := 878) (by decide +kernel)⟩
theorem lw_p29 : lw_okq (⟨"WheelAreasModel", "behindOn", "(II)I"⟩, 26) := ⟨⟨by decide +kernel, by decide +kernel⟩, List.mem_of_getElem? (i := 734) (by decide +kernel), List.mem_of_getElem? (i := 881) (by decide +kernel), List.mem_of_getElem? (i := 882) (by decide +kernel)⟩
theorem lw_p30 : lw_okq (⟨"WheelAreasModel", "sweepOn", "(III)I"⟩, 26) := ⟨⟨by decide +kernel, by decide +kernel⟩, List.mem_of_getElem? (i := 734) (by decide +kernel), List.mem_of_getElem? (i := 885) (by decide +kernel), List.mem_of_getElem? (i := 886) (by decide +kernel)⟩
theorem lw_p31 : lw_okq (⟨"WheelAreasModel", "isCorner", "(I)Z"⟩, 26) := ⟨⟨by decide +kernel, by decide +kernel⟩, List.mem_of_getElem? (i := 734) (by decide +kernel), List.mem_of_getElem? (i := 893) (by decide +kernel), List.mem_of_getElem? (i := 894) (by decide +kernel)⟩
def lw_privs_2 : List (MethodName × Nat) := [(⟨"WheelAreas", "readsByTraced", "(III)I"⟩, 11), (⟨"WheelAreas", "stepsAsSeen", "(I)I"⟩, 11), (⟨"WheelAreas", "mostAlike", "(I)I"⟩, 11), (⟨"WheelAreas", "countAlike", "(II)I"⟩, 11), (⟨"WheelAreas", "rollEachStep", "(II)V"⟩, 11), (⟨"WheelAreasModel", "readsOn", "()V"⟩, 26), (⟨"WheelAreasModel", "byteAt", "(I)I"⟩, 26), (⟨"WheelAreasModel", "fails", "(I)V"⟩, 26), (⟨"WheelAreasModel", "readLine", "()V"⟩, 26), (⟨"WheelAreasModel", "nameHere", "()I"⟩, 26), (⟨"WheelAreasModel", "readMore", "(I)V"⟩, 26), (⟨"WheelAreasModel", "number", "(II)I"⟩, 26), (⟨"WheelAreasModel", "areaOn", "(I)I"⟩, 26), (⟨"WheelAreasModel", "behindOn", "(II)I"⟩, 26), (⟨"WheelAreasModel", "sweepOn", "(III)I"⟩, 26), (⟨"WheelAreasModel", "isCorner", "(I)Z"⟩, 26)]
theorem lw_r2 : ∀ q ∈ lw_privs_2, lw_okq q := List.forall_mem_cons.mpr ⟨lw_p16, List.forall_mem_cons.mpr ⟨lw_p17, List.forall_mem_cons.mpr ⟨lw_p18, List.forall_mem_cons.mpr ⟨lw_p19, List.forall_mem_cons.mpr ⟨lw_p20, List.forall_mem_cons.mpr ⟨lw_p21, List.forall_mem_cons.mpr ⟨lw_p22, List.forall_mem_cons.mpr ⟨lw_p23, List.forall_mem_cons.mpr ⟨lw_p24, List.forall_mem_cons.mpr ⟨lw_p25, List.forall_mem_cons.mpr ⟨lw_p26, List.forall_mem_cons.mpr ⟨lw_p27, List.forall_mem_cons.mpr ⟨lw_p28, List.forall_mem_cons.mpr ⟨lw_p29, List.forall_mem_cons.mpr ⟨lw_p30, List.forall_mem_cons.mpr ⟨lw_p31, fun _ h => absurd h List.not_mem_nil⟩⟩⟩⟩⟩⟩⟩⟩⟩⟩⟩⟩⟩⟩⟩⟩
theorem lw_p32 : lw_okq (⟨"WheelAreasModel", "isWheel", "(I)Z"⟩, 26) := ⟨⟨by decide +kernel, by decide +kernel⟩, List.mem_of_getElem? (i := 734) (by decide +kernel), List.mem_of_getElem? (i := 902) (by decide +kernel), List.mem_of_getElem? (i := 903) (by decide +kernel)⟩
theorem lw_p33 : lw_okq (⟨"WheelAreasModel", "showsOn", "(II)I"⟩, 26) := ⟨⟨by decide +kernel, by decide +kernel⟩, List.mem_of_getElem? (i := 734) (by decide +kernel), List.mem_of_getElem? (i := 907) (by decide +kernel), List.mem_of_getElem? (i := 908) (by decide +kernel)⟩
theorem lw_p34 : lw_okq (⟨"WheelAreasModel", "errorOn", "(II)I"⟩, 26) := ⟨⟨by decide +kernel, by decide +kernel⟩, List.mem_of_getElem? (i := 734) (by decide +kernel), List.mem_of_getElem? (i := 911) (by decide +kernel), List.mem_of_getElem? (i := 912) (by decide +kernel)⟩
theorem lw_p35 : lw_okq (⟨"WheelAreasModel", "rollsOn", "(III)I"⟩, 26) := ⟨⟨by decide +kernel, by decide +kernel⟩, List.mem_of_getElem? (i := 734) (by decide +kernel), List.mem_of_getElem? (i := 915) (by decide +kernel), List.mem_of_getElem? (i := 916) (by decide +kernel)⟩
theorem lw_p36 : lw_okq (⟨"WheelAreasModel", "puts", "(ZII)I"⟩, 26) := ⟨⟨by decide +kernel, by decide +kernel⟩, List.mem_of_getElem? (i := 734) (by decide +kernel), List.mem_of_getElem? (i := 928) (by decide +kernel), List.mem_of_getElem? (i := 929) (by decide +kernel)⟩
theorem lw_p37 : lw_okq (⟨"WheelAreasModel", "movesTo", "(IIII)I"⟩, 26) := ⟨⟨by decide +kernel, by decide +kernel⟩, List.mem_of_getElem? (i := 734) (by decide +kernel), List.mem_of_getElem? (i := 952) (by decide +kernel), List.mem_of_getElem? (i := 953) (by decide +kernel)⟩
theorem lw_p38 : lw_okq (⟨"WheelAreasModel", "adds", "(II)I"⟩, 26) := ⟨⟨by decide +kernel, by decide +kernel⟩, List.mem_of_getElem? (i := 734) (by decide +kernel), List.mem_of_getElem? (i := 960) (by decide +kernel), List.mem_of_getElem? (i := 961) (by decide +kernel)⟩
theorem lw_p39 : lw_okq (⟨"WheelAreasModel", "starts", "()V"⟩, 26) := ⟨⟨by decide +kernel, by decide +kernel⟩, List.mem_of_getElem? (i := 734) (by decide +kernel), List.mem_of_getElem? (i := 977) (by decide +kernel), List.mem_of_getElem? (i := 978) (by decide +kernel)⟩
theorem lw_p40 : lw_okq (⟨"WheelAreasModel", "tracesOn", "(IZ)V"⟩, 26) := ⟨⟨by decide +kernel, by decide +kernel⟩, List.mem_of_getElem? (i := 734) (by decide +kernel), List.mem_of_getElem? (i := 982) (by decide +kernel), List.mem_of_getElem? (i := 983) (by decide +kernel)⟩
theorem lw_p41 : lw_okq (⟨"WheelAreasModel", "edgeOn", "(II)V"⟩, 26) := ⟨⟨by decide +kernel, by decide +kernel⟩, List.mem_of_getElem? (i := 734) (by decide +kernel), List.mem_of_getElem? (i := 986) (by decide +kernel), List.mem_of_getElem? (i := 987) (by decide +kernel)⟩
theorem lw_p42 : lw_okq (⟨"WheelAreasModel", "edgesGo", "(I)V"⟩, 26) := ⟨⟨by decide +kernel, by decide +kernel⟩, List.mem_of_getElem? (i := 734) (by decide +kernel), List.mem_of_getElem? (i := 998) (by decide +kernel), List.mem_of_getElem? (i := 999) (by decide +kernel)⟩
theorem lw_p43 : lw_okq (⟨"WheelAreasModel", "copies", "(II)V"⟩, 26) := ⟨⟨by decide +kernel, by decide +kernel⟩, List.mem_of_getElem? (i := 734) (by decide +kernel), List.mem_of_getElem? (i := 1002) (by decide +kernel), List.mem_of_getElem? (i := 1003) (by decide +kernel)⟩
theorem lw_p44 : lw_okq (⟨"WheelAreasModel", "byMisses", "(IIIII)J"⟩, 26) := ⟨⟨by decide +kernel, by decide +kernel⟩, List.mem_of_getElem? (i := 734) (by decide +kernel), List.mem_of_getElem? (i := 1050) (by decide +kernel), List.mem_of_getElem? (i := 1051) (by decide +kernel)⟩
theorem lw_p45 : lw_okq (⟨"WheelAreasModel", "numbersAt", "(IIII)I"⟩, 26) := ⟨⟨by decide +kernel, by decide +kernel⟩, List.mem_of_getElem? (i := 734) (by decide +kernel), List.mem_of_getElem? (i := 1075) (by decide +kernel), List.mem_of_getElem? (i := 1076) (by decide +kernel)⟩
theorem lw_p46 : lw_okq (⟨"WheelAreasModel", "isAsSeen", "(II)Z"⟩, 26) := ⟨⟨by decide +kernel, by decide +kernel⟩, List.mem_of_getElem? (i := 734) (by decide +kernel), List.mem_of_getElem? (i := 1079) (by decide +kernel), List.mem_of_getElem? (i := 1080) (by decide +kernel)⟩
theorem lw_p47 : lw_okq (⟨"WheelAreasModel", "worstAt", "(II)I"⟩, 26) := ⟨⟨by decide +kernel, by decide +kernel⟩, List.mem_of_getElem? (i := 734) (by decide +kernel), List.mem_of_getElem? (i := 1091) (by decide +kernel), List.mem_of_getElem? (i := 1092) (by decide +kernel)⟩
def lw_privs_3 : List (MethodName × Nat) := [(⟨"WheelAreasModel", "isWheel", "(I)Z"⟩, 26), (⟨"WheelAreasModel", "showsOn", "(II)I"⟩, 26), (⟨"WheelAreasModel", "errorOn", "(II)I"⟩, 26), (⟨"WheelAreasModel", "rollsOn", "(III)I"⟩, 26), (⟨"WheelAreasModel", "puts", "(ZII)I"⟩, 26), (⟨"WheelAreasModel", "movesTo", "(IIII)I"⟩, 26), (⟨"WheelAreasModel", "adds", "(II)I"⟩, 26), (⟨"WheelAreasModel", "starts", "()V"⟩, 26), (⟨"WheelAreasModel", "tracesOn", "(IZ)V"⟩, 26), (⟨"WheelAreasModel", "edgeOn", "(II)V"⟩, 26), (⟨"WheelAreasModel", "edgesGo", "(I)V"⟩, 26), (⟨"WheelAreasModel", "copies", "(II)V"⟩, 26), (⟨"WheelAreasModel", "byMisses", "(IIIII)J"⟩, 26), (⟨"WheelAreasModel", "numbersAt", "(IIII)I"⟩, 26), (⟨"WheelAreasModel", "isAsSeen", "(II)Z"⟩, 26), (⟨"WheelAreasModel", "worstAt", "(II)I"⟩, 26)]
theorem lw_r3 : ∀ q ∈ lw_privs_3, lw_okq q := List.forall_mem_cons.mpr ⟨lw_p32, List.forall_mem_cons.mpr ⟨lw_p33, List.forall_mem_cons.mpr ⟨lw_p34, List.forall_mem_cons.mpr ⟨lw_p35, List.forall_mem_cons.mpr ⟨lw_p36, List.forall_mem_cons.mpr ⟨lw_p37, List.forall_mem_cons.mpr ⟨lw_p38, List.forall_mem_cons.mpr ⟨lw_p39, List.forall_mem_cons.mpr ⟨lw_p40, List.forall_mem_cons.mpr ⟨lw_p41, List.forall_mem_cons.mpr ⟨lw_p42, List.forall_mem_cons.mpr ⟨lw_p43, List.forall_mem_cons.mpr ⟨lw_p44, List.forall_mem_cons.mpr ⟨lw_p45, List.forall_mem_cons.mpr ⟨lw_p46, List.forall_mem_cons.mpr ⟨lw_p47, fun _ h => absurd h List.not_mem_nil⟩⟩⟩⟩⟩⟩⟩⟩⟩⟩⟩⟩⟩⟩⟩⟩
def lw_privs : List (MethodName × Nat) := lw_privs_1 ++ (lw_privs_2 ++ (lw_privs_3))
def lw_tbl : List Cond := k2_sels lw_privs ++ tables_1
theorem lw_privs_ok : ∀ q ∈ lw_privs, lw_okq q := by
  show ∀ q ∈ lw_privs_1 ++ (lw_privs_2 ++ (lw_privs_3)), lw_okq q
  exact List.forall_mem_append.mpr ⟨lw_r1, List.forall_mem_append.mpr ⟨lw_r2, lw_r3⟩⟩
-- ===== end of PART A; then your names; then what follows =====
end
section
/-! ===== BEGIN words of one list among another's, by their places ===== -/
theorem goodIn_r {big : List Cond} (ws : List Cond) (ps : List Nat) (hp : ws = ps.filterMap (fun i => big[i]?)) (h : ws.all goodWord = true) : GoodIn big ws := by
  intro w hw
  have h1 := List.all_eq_true.mp h w hw
  rw [hp] at hw
  obtain ⟨i, -, hi⟩ := List.mem_filterMap.mp hw
  have hm : w ∈ big := by first | exact List.mem_of_getElem? hi | exact List.getElem?_mem hi
  exact ⟨hm, good_of_word h1⟩
theorem goodIn_app {big a b : List Cond} (ha : GoodIn big a) (hb : GoodIn big b) : GoodIn big (a ++ b) := fun w h => (List.mem_append.mp h).elim (ha w) (hb w)
theorem goodIn_ca {big a b : List Cond} {c : Cond} (ha : GoodIn big (c :: a)) (hb : GoodIn big b) : GoodIn big (c :: (a ++ b)) := fun w h => (List.mem_cons.mp h).elim (fun e => ha w (List.mem_cons.mpr (Or.inl e))) (fun h => (List.mem_append.mp h).elim (fun h => ha w (List.mem_cons.mpr (Or.inr h))) (hb w))
theorem goodIn_sub {big ws : List Cond} (hm : ∀ w ∈ ws, w ∈ big) (h : ws.all goodWord = true) : GoodIn big ws := fun w hw => ⟨hm w hw, good_of_word (List.all_eq_true.mp h w hw)⟩
/-! ===== END ===== -/

/-! ===== BEGIN printed: names, fields, word lists, decode rows ===== -/
def RX0 : String := "WheelAreas$Layout"
def TX0 : u_T := fun k => match k with
  | 0 => ("WheelAreas$Layout", "cornerX", "[I", true)
  | 1 => ("WheelAreas$Layout", "cornerY", "[I", true)
  | 2 => ("WheelAreas$Layout", "corners", "I", false)
  | 3 => ("WheelAreas$Layout", "wheelKind", "[I", true)
  | 4 => ("WheelAreas$Layout", "wheelStep", "[I", true)
  | 5 => ("WheelAreas$Layout", "wheelReads", "[I", true)
  | 6 => ("WheelAreas$Layout", "wheels", "I", false)
  | 7 => ("WheelAreas$Layout", "poleX", "I", false)
  | 8 => ("WheelAreas$Layout", "poleY", "I", false)
  | _ => ("WheelAreas$Layout", "traced", "I", false)
def tyX0 : Nat → FieldType := fun k => match k with
  | 0 => .array .int
  | 1 => .array .int
  | 2 => .int
  | 3 => .array .int
  | 4 => .array .int
  | 5 => .array .int
  | 6 => .int
  | 7 => .int
  | 8 => .int
  | _ => .int
abbrev wsX00 : List Cond := u_ws RX0 TX0 10
theorem nmX0 : ∀ a, a < 10 → ∀ b, b < 10 → a ≠ b → (TX0 a).2.1 ≠ (TX0 b).2.1 := by decide +kernel
theorem tyX0_ok : ∀ k, k < 10 → parseFieldDescriptor (TX0 k).2.2.1 = some (tyX0 k) := by decide +kernel
abbrev cX0_init : ByteArray := prog_2_method_1_code
def yX0_init : MethodName := ⟨RX0, "<init>", "()V"⟩
abbrev cX0_clear : ByteArray := prog_2_method_2_code
def yX0_clear : MethodName := ⟨RX0, "clear", "()V"⟩
abbrev cX0_copyFrom : ByteArray := prog_2_method_3_code
def yX0_copyFrom : MethodName := ⟨RX0, "copyFrom", "(LWheelAreas$Layout;)V"⟩
abbrev cX0_appendCorner : ByteArray := prog_2_method_4_code
def yX0_appendCorner : MethodName := ⟨RX0, "appendCorner", "(II)V"⟩
abbrev cX0_moveCorner : ByteArray := prog_2_method_5_code
def yX0_moveCorner : MethodName := ⟨RX0, "moveCorner", "(III)V"⟩
abbrev cX0_exchangeCorners : ByteArray := prog_2_method_6_code
def yX0_exchangeCorners : MethodName := ⟨RX0, "exchangeCorners", "(II)V"⟩
abbrev cX0_removeCorner : ByteArray := prog_2_method_7_code
def yX0_removeCorner : MethodName := ⟨RX0, "removeCorner", "(I)V"⟩
abbrev cX0_appendWheel : ByteArray := prog_2_method_8_code
def yX0_appendWheel : MethodName := ⟨RX0, "appendWheel", "(II)V"⟩
abbrev cX0_movePole : ByteArray := prog_2_method_9_code
def yX0_movePole : MethodName := ⟨RX0, "movePole", "(II)V"⟩
abbrev cX0_sweepOf : ByteArray := prog_2_method_10_code
def yX0_sweepOf : MethodName := ⟨RX0, "sweepOf", "(I)I"⟩
abbrev cX0_area : ByteArray := prog_2_method_11_code
def yX0_area : MethodName := ⟨RX0, "area", "()I"⟩
abbrev cX0_areaUnsigned : ByteArray := prog_2_method_12_code
def yX0_areaUnsigned : MethodName := ⟨RX0, "areaUnsigned", "()I"⟩
abbrev cX0_edgeAhead : ByteArray := prog_2_method_13_code
def yX0_edgeAhead : MethodName := ⟨RX0, "edgeAhead", "(I)I"⟩
abbrev cX0_sweepAhead : ByteArray := prog_2_method_14_code
def yX0_sweepAhead : MethodName := ⟨RX0, "sweepAhead", "(I)I"⟩
abbrev cX0_roll : ByteArray := prog_2_method_15_code
def yX0_roll : MethodName := ⟨RX0, "roll", "(III)I"⟩
abbrev cX0_rollOf : ByteArray := prog_2_method_16_code
def yX0_rollOf : MethodName := ⟨RX0, "rollOf", "(II)I"⟩
abbrev cX0_rolledByAll : ByteArray := prog_2_method_17_code
def yX0_rolledByAll : MethodName := ⟨RX0, "rolledByAll", "(I)I"⟩
abbrev cX0_rollAll : ByteArray := prog_2_method_18_code
def yX0_rollAll : MethodName := ⟨RX0, "rollAll", "(I)I"⟩
abbrev cX0_someWheelRests : ByteArray := prog_2_method_19_code
def yX0_someWheelRests : MethodName := ⟨RX0, "someWheelRests", "(I)Z"⟩
abbrev cX0_readsAhead : ByteArray := prog_2_method_20_code
def yX0_readsAhead : MethodName := ⟨RX0, "readsAhead", "(II)I"⟩
abbrev cX0_shownBy : ByteArray := prog_2_method_21_code
def yX0_shownBy : MethodName := ⟨RX0, "shownBy", "(I)I"⟩
abbrev cX0_errorOf : ByteArray := prog_2_method_22_code
def yX0_errorOf : MethodName := ⟨RX0, "errorOf", "(I)I"⟩
abbrev cX0_sumOfSteps : ByteArray := prog_2_method_23_code
def yX0_sumOfSteps : MethodName := ⟨RX0, "sumOfSteps", "()I"⟩
abbrev cX0_sumOfPlaces : ByteArray := prog_2_method_24_code
def yX0_sumOfPlaces : MethodName := ⟨RX0, "sumOfPlaces", "()I"⟩
def RX1 : String := "WheelAreas$Sheet"
def TX1 : u_T := fun k => match k with
  | 0 => ("WheelAreas$Sheet", "cells", "[I", true)
  | 1 => ("WheelAreas$Sheet", "lane", "I", false)
  | _ => ("WheelAreas$Sheet", "size", "I", false)
def tyX1 : Nat → FieldType := fun k => match k with
  | 0 => .array .int
  | 1 => .int
  | _ => .int
abbrev wsX10 : List Cond := u_ws RX1 TX1 3
theorem nmX1 : ∀ a, a < 3 → ∀ b, b < 3 → a ≠ b → (TX1 a).2.1 ≠ (TX1 b).2.1 := by decide +kernel
theorem tyX1_ok : ∀ k, k < 3 → parseFieldDescriptor (TX1 k).2.2.1 = some (tyX1 k) := by decide +kernel
abbrev cX1_init : ByteArray := prog_3_method_1_code
def yX1_init : MethodName := ⟨RX1, "<init>", "()V"⟩
abbrev cX1_isNothing : ByteArray := prog_3_method_2_code
def yX1_isNothing : MethodName := ⟨RX1, "isNothing", "()Z"⟩
abbrev cX1_renew : ByteArray := prog_3_method_3_code
def yX1_renew : MethodName := ⟨RX1, "renew", "(II)V"⟩
abbrev cX1_layCell : ByteArray := prog_3_method_4_code
def yX1_layCell : MethodName := ⟨RX1, "layCell", "(II)V"⟩
abbrev cX1_faultAt : ByteArray := prog_3_method_5_code
def yX1_faultAt : MethodName := ⟨RX1, "faultAt", "(II)I"⟩
abbrev cX1_faultAtPair : ByteArray := prog_3_method_6_code
def yX1_faultAtPair : MethodName := ⟨RX1, "faultAtPair", "(II)I"⟩
def RX2 : String := "WheelAreas$Sightings"
def TX2 : u_T := fun k => match k with
  | 0 => ("WheelAreas$Sightings", "edges", "[I", true)
  | 1 => ("WheelAreas$Sightings", "wheel", "[I", true)
  | 2 => ("WheelAreas$Sightings", "reads", "[I", true)
  | _ => ("WheelAreas$Sightings", "size", "I", false)
def tyX2 : Nat → FieldType := fun k => match k with
  | 0 => .array .int
  | 1 => .array .int
  | 2 => .array .int
  | _ => .int
abbrev wsX20 : List Cond := u_ws RX2 TX2 4
theorem nmX2 : ∀ a, a < 4 → ∀ b, b < 4 → a ≠ b → (TX2 a).2.1 ≠ (TX2 b).2.1 := by decide +kernel
theorem tyX2_ok : ∀ k, k < 4 → parseFieldDescriptor (TX2 k).2.2.1 = some (tyX2 k) := by decide +kernel
abbrev cX2_init : ByteArray := prog_4_method_1_code
def yX2_init : MethodName := ⟨RX2, "<init>", "()V"⟩
abbrev cX2_append : ByteArray := prog_4_method_2_code
def yX2_append : MethodName := ⟨RX2, "append", "(III)V"⟩
abbrev cX2_agreeWith : ByteArray := prog_4_method_3_code
def yX2_agreeWith : MethodName := ⟨RX2, "agreeWith", "(LWheelAreas$Layout;)Z"⟩
def RX3 : String := "WheelAreas$Tape"
def TX3 : u_T := fun k => match k with
  | 0 => ("WheelAreas$Tape", "bytes", "[B", true)
  | 1 => ("WheelAreas$Tape", "size", "I", false)
  | 2 => ("WheelAreas$Tape", "token", "I", false)
  | 3 => ("WheelAreas$Tape", "tokenFrom", "I", false)
  | _ => ("WheelAreas$Tape", "tokenTo", "I", false)
def tyX3 : Nat → FieldType := fun k => match k with
  | 0 => .array .byte
  | 1 => .int
  | 2 => .int
  | 3 => .int
  | _ => .int
abbrev wsX30 : List Cond := u_ws RX3 TX3 5
theorem nmX3 : ∀ a, a < 5 → ∀ b, b < 5 → a ≠ b → (TX3 a).2.1 ≠ (TX3 b).2.1 := by decide +kernel
theorem tyX3_ok : ∀ k, k < 5 → parseFieldDescriptor (TX3 k).2.2.1 = some (tyX3 k) := by decide +kernel
abbrev cX3_init : ByteArray := prog_5_method_1_code
def yX3_init : MethodName := ⟨RX3, "<init>", "()V"⟩
abbrev cX3_append : ByteArray := prog_5_method_2_code
def yX3_append : MethodName := ⟨RX3, "append", "(I)V"⟩
abbrev cX3_rewind : ByteArray := prog_5_method_3_code
def yX3_rewind : MethodName := ⟨RX3, "rewind", "()V"⟩
abbrev cX3_nextToken : ByteArray := prog_5_method_4_code
def yX3_nextToken : MethodName := ⟨RX3, "nextToken", "()V"⟩
abbrev cX3_endOfRun : ByteArray := prog_5_method_5_code
def yX3_endOfRun : MethodName := ⟨RX3, "endOfRun", "(ICC)I"⟩
abbrev cX3_tokenIs : ByteArray := prog_5_method_6_code
def yX3_tokenIs : MethodName := ⟨RX3, "tokenIs", "(Ljava/lang/String;)Z"⟩
abbrev cX3_numberOfToken : ByteArray := prog_5_method_7_code
def yX3_numberOfToken : MethodName := ⟨RX3, "numberOfToken", "()I"⟩
def RX4 : String := "WheelAreas$TextReader"
def TX4 : u_T := fun k => match k with
  | 0 => ("WheelAreas$TextReader", "tape", "LWheelAreas$Tape;", true)
  | 1 => ("WheelAreas$TextReader", "told", "LWheelAreas$Layout;", true)
  | 2 => ("WheelAreas$TextReader", "poleTold", "Z", false)
  | 3 => ("WheelAreas$TextReader", "lines", "I", false)
  | 4 => ("WheelAreas$TextReader", "found", "I", false)
  | _ => ("WheelAreas$TextReader", "foundAt", "I", false)
def tyX4 : Nat → FieldType := fun k => match k with
  | 0 => .object "WheelAreas$Tape"
  | 1 => .object "WheelAreas$Layout"
  | 2 => .boolean
  | 3 => .int
  | 4 => .int
  | _ => .int
abbrev wsX40 : List Cond := u_ws RX4 TX4 6
theorem nmX4 : ∀ a, a < 6 → ∀ b, b < 6 → a ≠ b → (TX4 a).2.1 ≠ (TX4 b).2.1 := by decide +kernel
theorem tyX4_ok : ∀ k, k < 6 → parseFieldDescriptor (TX4 k).2.2.1 = some (tyX4 k) := by decide +kernel
abbrev cX4_init : ByteArray := prog_6_method_1_code
def yX4_init : MethodName := ⟨RX4, "<init>", "()V"⟩
abbrev cX4_readText : ByteArray := prog_6_method_2_code
def yX4_readText : MethodName := ⟨RX4, "readText", "()V"⟩
abbrev cX4_readLine : ByteArray := prog_6_method_3_code
def yX4_readLine : MethodName := ⟨RX4, "readLine", "()V"⟩
abbrev cX4_wordOfToken : ByteArray := prog_6_method_4_code
def yX4_wordOfToken : MethodName := ⟨RX4, "wordOfToken", "()I"⟩
abbrev cX4_nameOf : ByteArray := prog_6_method_5_code
def yX4_nameOf : MethodName := ⟨RX4, "nameOf", "(I)Ljava/lang/String;"⟩
abbrev cX4_faultOfWord : ByteArray := prog_6_method_6_code
def yX4_faultOfWord : MethodName := ⟨RX4, "faultOfWord", "(I)I"⟩
abbrev cX4_tell : ByteArray := prog_6_method_7_code
def yX4_tell : MethodName := ⟨RX4, "tell", "(III)V"⟩
abbrev cX4_takeNumber : ByteArray := prog_6_method_8_code
def yX4_takeNumber : MethodName := ⟨RX4, "takeNumber", "(II)I"⟩
abbrev cX4_takeSemicolon : ByteArray := prog_6_method_9_code
def yX4_takeSemicolon : MethodName := ⟨RX4, "takeSemicolon", "()V"⟩
abbrev cX4_advance : ByteArray := prog_6_method_10_code
def yX4_advance : MethodName := ⟨RX4, "advance", "()V"⟩
abbrev cX4_refuse : ByteArray := prog_6_method_11_code
def yX4_refuse : MethodName := ⟨RX4, "refuse", "(I)V"⟩
def RX5 : String := "WheelAreas"
def TX5 : u_T := fun k => match k with
  | 0 => ("WheelAreas", "now", "LWheelAreas$Layout;", true)
  | 1 => ("WheelAreas", "trial", "LWheelAreas$Layout;", true)
  | 2 => ("WheelAreas", "images", "[LWheelAreas$Layout;", true)
  | 3 => ("WheelAreas", "kept", "[Z", true)
  | 4 => ("WheelAreas", "reader", "LWheelAreas$TextReader;", true)
  | 5 => ("WheelAreas", "sightings", "LWheelAreas$Sightings;", true)
  | 6 => ("WheelAreas", "sheets", "[LWheelAreas$Sheet;", true)
  | 7 => ("WheelAreas", "edgeRolls", "[I", true)
  | 8 => ("WheelAreas", "readsByStep", "[I", true)
  | 9 => ("WheelAreas", "textFault", "I", false)
  | _ => ("WheelAreas", "readFault", "I", false)
def tyX5 : Nat → FieldType := fun k => match k with
  | 0 => .object "WheelAreas$Layout"
  | 1 => .object "WheelAreas$Layout"
  | 2 => .array (.object "WheelAreas$Layout")
  | 3 => .array .boolean
  | 4 => .object "WheelAreas$TextReader"
  | 5 => .object "WheelAreas$Sightings"
  | 6 => .array (.object "WheelAreas$Sheet")
  | 7 => .array .int
  | 8 => .array .int
  | 9 => .int
  | _ => .int
abbrev wsX50 : List Cond := u_ws RX5 TX5 11
theorem nmX5 : ∀ a, a < 11 → ∀ b, b < 11 → a ≠ b → (TX5 a).2.1 ≠ (TX5 b).2.1 := by decide +kernel
theorem tyX5_ok : ∀ k, k < 11 → parseFieldDescriptor (TX5 k).2.2.1 = some (tyX5 k) := by decide +kernel
abbrev cX5_init : ByteArray := prog_1_method_1_code
def yX5_init : MethodName := ⟨RX5, "<init>", "()V"⟩
abbrev cX5_feed : ByteArray := prog_1_method_2_code
def yX5_feed : MethodName := ⟨RX5, "feed", "(I)I"⟩
abbrev cX5_end : ByteArray := prog_1_method_3_code
def yX5_end : MethodName := ⟨RX5, "end", "(I)I"⟩
abbrev cX5_text : ByteArray := prog_1_method_4_code
def yX5_text : MethodName := ⟨RX5, "text", "()I"⟩
abbrev cX5_fault : ByteArray := prog_1_method_5_code
def yX5_fault : MethodName := ⟨RX5, "fault", "()I"⟩
abbrev cX5_rule : ByteArray := prog_1_method_6_code
def yX5_rule : MethodName := ⟨RX5, "rule", "(I)I"⟩
abbrev cX5_corner : ByteArray := prog_1_method_7_code
def yX5_corner : MethodName := ⟨RX5, "corner", "(II)I"⟩
abbrev cX5_wheel : ByteArray := prog_1_method_8_code
def yX5_wheel : MethodName := ⟨RX5, "wheel", "(II)I"⟩
abbrev cX5_alter : ByteArray := prog_1_method_9_code
def yX5_alter : MethodName := ⟨RX5, "alter", "(III)I"⟩
abbrev cX5_put : ByteArray := prog_1_method_10_code
def yX5_put : MethodName := ⟨RX5, "put", "(II)I"⟩
abbrev cX5_cut : ByteArray := prog_1_method_11_code
def yX5_cut : MethodName := ⟨RX5, "cut", "(I)I"⟩
abbrev cX5_zero : ByteArray := prog_1_method_12_code
def yX5_zero : MethodName := ⟨RX5, "zero", "(I)I"⟩
abbrev cX5_shift : ByteArray := prog_1_method_13_code
def yX5_shift : MethodName := ⟨RX5, "shift", "(III)I"⟩
abbrev cX5_add : ByteArray := prog_1_method_14_code
def yX5_add : MethodName := ⟨RX5, "add", "(II)I"⟩
abbrev cX5_drop : ByteArray := prog_1_method_15_code
def yX5_drop : MethodName := ⟨RX5, "drop", "(I)I"⟩
abbrev cX5_pole : ByteArray := prog_1_method_16_code
def yX5_pole : MethodName := ⟨RX5, "pole", "(II)I"⟩
abbrev cX5_trace : ByteArray := prog_1_method_17_code
def yX5_trace : MethodName := ⟨RX5, "trace", "(I)I"⟩
abbrev cX5_runs : ByteArray := prog_1_method_18_code
def yX5_runs : MethodName := ⟨RX5, "runs", "(II)I"⟩
abbrev cX5_ahead : ByteArray := prog_1_method_19_code
def yX5_ahead : MethodName := ⟨RX5, "ahead", "(II)I"⟩
abbrev cX5_when : ByteArray := prog_1_method_20_code
def yX5_when : MethodName := ⟨RX5, "when", "(II)I"⟩
abbrev cX5_best : ByteArray := prog_1_method_21_code
def yX5_best : MethodName := ⟨RX5, "best", "(II)I"⟩
abbrev cX5_step : ByteArray := prog_1_method_22_code
def yX5_step : MethodName := ⟨RX5, "step", "(II)I"⟩
abbrev cX5_kind : ByteArray := prog_1_method_23_code
def yX5_kind : MethodName := ⟨RX5, "kind", "(II)I"⟩
abbrev cX5_place : ByteArray := prog_1_method_24_code
def yX5_place : MethodName := ⟨RX5, "place", "(II)I"⟩
abbrev cX5_swap : ByteArray := prog_1_method_25_code
def yX5_swap : MethodName := ⟨RX5, "swap", "(I)I"⟩
abbrev cX5_out : ByteArray := prog_1_method_26_code
def yX5_out : MethodName := ⟨RX5, "out", "(I)I"⟩
abbrev cX5_luck : ByteArray := prog_1_method_27_code
def yX5_luck : MethodName := ⟨RX5, "luck", "(IIIII)J"⟩
abbrev cX5_mean : ByteArray := prog_1_method_28_code
def yX5_mean : MethodName := ⟨RX5, "mean", "(IIII)J"⟩
abbrev cX5_see : ByteArray := prog_1_method_29_code
def yX5_see : MethodName := ⟨RX5, "see", "(III)I"⟩
abbrev cX5_forget : ByteArray := prog_1_method_30_code
def yX5_forget : MethodName := ⟨RX5, "forget", "(I)I"⟩
abbrev cX5_kinds : ByteArray := prog_1_method_31_code
def yX5_kinds : MethodName := ⟨RX5, "kinds", "(I)I"⟩
abbrev cX5_steps : ByteArray := prog_1_method_32_code
def yX5_steps : MethodName := ⟨RX5, "steps", "(I)I"⟩
abbrev cX5_ask : ByteArray := prog_1_method_33_code
def yX5_ask : MethodName := ⟨RX5, "ask", "(II)I"⟩
abbrev cX5_drift : ByteArray := prog_1_method_34_code
def yX5_drift : MethodName := ⟨RX5, "drift", "(III)I"⟩
abbrev cX5_keep : ByteArray := prog_1_method_35_code
def yX5_keep : MethodName := ⟨RX5, "keep", "(I)I"⟩
abbrev cX5_back : ByteArray := prog_1_method_36_code
def yX5_back : MethodName := ⟨RX5, "back", "(I)I"⟩
abbrev cX5_sheet : ByteArray := prog_1_method_37_code
def yX5_sheet : MethodName := ⟨RX5, "sheet", "(III)I"⟩
abbrev cX5_lay : ByteArray := prog_1_method_38_code
def yX5_lay : MethodName := ⟨RX5, "lay", "(III)I"⟩
abbrev cX5_read : ByteArray := prog_1_method_39_code
def yX5_read : MethodName := ⟨RX5, "read", "(IIII)I"⟩
abbrev cX5_torn : ByteArray := prog_1_method_40_code
def yX5_torn : MethodName := ⟨RX5, "torn", "()I"⟩
abbrev cX5_count : ByteArray := prog_1_method_41_code
def yX5_count : MethodName := ⟨RX5, "count", "(I)I"⟩
abbrev cX5_within : ByteArray := prog_1_method_42_code
def yX5_within : MethodName := ⟨RX5, "within", "(III)Z"⟩
abbrev cX5_isEither : ByteArray := prog_1_method_43_code
def yX5_isEither : MethodName := ⟨RX5, "isEither", "(I)Z"⟩
abbrev cX5_isPlace : ByteArray := prog_1_method_44_code
def yX5_isPlace : MethodName := ⟨RX5, "isPlace", "(II)Z"⟩
abbrev cX5_isKind : ByteArray := prog_1_method_45_code
def yX5_isKind : MethodName := ⟨RX5, "isKind", "(I)Z"⟩
abbrev cX5_isStep : ByteArray := prog_1_method_46_code
def yX5_isStep : MethodName := ⟨RX5, "isStep", "(I)Z"⟩
abbrev cX5_isTold : ByteArray := prog_1_method_47_code
def yX5_isTold : MethodName := ⟨RX5, "isTold", "(I)Z"⟩
abbrev cX5_isSheet : ByteArray := prog_1_method_48_code
def yX5_isSheet : MethodName := ⟨RX5, "isSheet", "(I)Z"⟩
abbrev cX5_isLane : ByteArray := prog_1_method_49_code
def yX5_isLane : MethodName := ⟨RX5, "isLane", "(I)Z"⟩
abbrev cX5_hasCorner : ByteArray := prog_1_method_50_code
def yX5_hasCorner : MethodName := ⟨RX5, "hasCorner", "(I)Z"⟩
abbrev cX5_hasWheel : ByteArray := prog_1_method_51_code
def yX5_hasWheel : MethodName := ⟨RX5, "hasWheel", "(I)Z"⟩
abbrev cX5_isMissing : ByteArray := prog_1_method_52_code
def yX5_isMissing : MethodName := ⟨RX5, "isMissing", "(III)Z"⟩
abbrev cX5_pair : ByteArray := prog_1_method_53_code
def yX5_pair : MethodName := ⟨RX5, "pair", "(II)I"⟩
abbrev cX5_refusalOfCorner : ByteArray := prog_1_method_54_code
def yX5_refusalOfCorner : MethodName := ⟨RX5, "refusalOfCorner", "(LWheelAreas$Layout;II)I"⟩
abbrev cX5_rolledAhead : ByteArray := prog_1_method_55_code
def yX5_rolledAhead : MethodName := ⟨RX5, "rolledAhead", "(I)I"⟩
abbrev cX5_idleAhead : ByteArray := prog_1_method_56_code
def yX5_idleAhead : MethodName := ⟨RX5, "idleAhead", "(I)I"⟩
abbrev cX5_greatestSweepAhead : ByteArray := prog_1_method_57_code
def yX5_greatestSweepAhead : MethodName := ⟨RX5, "greatestSweepAhead", "(I)I"⟩
abbrev cX5_setEdgeRolls : ByteArray := prog_1_method_58_code
def yX5_setEdgeRolls : MethodName := ⟨RX5, "setEdgeRolls", "(II)V"⟩
abbrev cX5_readsByTraced : ByteArray := prog_1_method_59_code
def yX5_readsByTraced : MethodName := ⟨RX5, "readsByTraced", "(III)I"⟩
abbrev cX5_chancesOf : ByteArray := prog_1_method_60_code
def yX5_chancesOf : MethodName := ⟨RX5, "chancesOf", "(III)J"⟩
abbrev cX5_tenTimes : ByteArray := prog_1_method_61_code
def yX5_tenTimes : MethodName := ⟨RX5, "tenTimes", "(I)J"⟩
abbrev cX5_partOfFraction : ByteArray := prog_1_method_62_code
def yX5_partOfFraction : MethodName := ⟨RX5, "partOfFraction", "(JJI)J"⟩
abbrev cX5_commonDivisor : ByteArray := prog_1_method_63_code
def yX5_commonDivisor : MethodName := ⟨RX5, "commonDivisor", "(JJ)J"⟩
abbrev cX5_stepsAsSeen : ByteArray := prog_1_method_64_code
def yX5_stepsAsSeen : MethodName := ⟨RX5, "stepsAsSeen", "(I)I"⟩
abbrev cX5_mostAlike : ByteArray := prog_1_method_65_code
def yX5_mostAlike : MethodName := ⟨RX5, "mostAlike", "(I)I"⟩
abbrev cX5_countAlike : ByteArray := prog_1_method_66_code
def yX5_countAlike : MethodName := ⟨RX5, "countAlike", "(II)I"⟩
abbrev cX5_rollEachStep : ByteArray := prog_1_method_67_code
def yX5_rollEachStep : MethodName := ⟨RX5, "rollEachStep", "(II)V"⟩
def RX6 : String := "WheelAreasModel"
def TX6 : u_T := fun k => match k with
  | 0 => ("WheelAreasModel", "state", "[I", true)
  | 1 => ("WheelAreasModel", "readPage", "[I", true)
  | 2 => ("WheelAreasModel", "isPoleTold", "Z", false)
  | 3 => ("WheelAreasModel", "tape", "[I", true)
  | 4 => ("WheelAreasModel", "taped", "I", false)
  | 5 => ("WheelAreasModel", "fault", "I", false)
  | 6 => ("WheelAreasModel", "broken", "I", false)
  | 7 => ("WheelAreasModel", "brokenAt", "I", false)
  | 8 => ("WheelAreasModel", "spot", "I", false)
  | 9 => ("WheelAreasModel", "here", "I", false)
  | 10 => ("WheelAreasModel", "token", "I", false)
  | 11 => ("WheelAreasModel", "value", "I", false)
  | 12 => ("WheelAreasModel", "ends", "[I", true)
  | 13 => ("WheelAreasModel", "letters", "[I", true)
  | 14 => ("WheelAreasModel", "lost", "I", false)
  | 15 => ("WheelAreasModel", "rolled", "I", false)
  | 16 => ("WheelAreasModel", "idle", "I", false)
  | 17 => ("WheelAreasModel", "greatest", "I", false)
  | 18 => ("WheelAreasModel", "seen", "[I", true)
  | 19 => ("WheelAreasModel", "seenMany", "I", false)
  | 20 => ("WheelAreasModel", "readBy", "[I", true)
  | 21 => ("WheelAreasModel", "isKept", "[Z", true)
  | 22 => ("WheelAreasModel", "lanes", "[I", true)
  | 23 => ("WheelAreasModel", "lengths", "[I", true)
  | 24 => ("WheelAreasModel", "cells", "[I", true)
  | _ => ("WheelAreasModel", "torn", "I", false)
def tyX6 : Nat → FieldType := fun k => match k with
  | 0 => .array .int
  | 1 => .array .int
  | 2 => .boolean
  | 3 => .array .int
  | 4 => .int
  | 5 => .int
  | 6 => .int
  | 7 => .int
  | 8 => .int
  | 9 => .int
  | 10 => .int
  | 11 => .int
  | 12 => .array .int
  | 13 => .array .int
  | 14 => .int
  | 15 => .int
  | 16 => .int
  | 17 => .int
  | 18 => .array .int
  | 19 => .int
  | 20 => .array .int
  | 21 => .array .boolean
  | 22 => .array .int
  | 23 => .array .int
  | 24 => .array .int
  | _ => .int
abbrev wsX60 : List Cond := u_ws RX6 TX6 26
theorem nmX6 : ∀ a, a < 26 → ∀ b, b < 26 → a ≠ b → (TX6 a).2.1 ≠ (TX6 b).2.1 := by decide +kernel
theorem tyX6_ok : ∀ k, k < 26 → parseFieldDescriptor (TX6 k).2.2.1 = some (tyX6 k) := by decide +kernel
abbrev cX6_init : ByteArray := prog_8_method_1_code
def yX6_init : MethodName := ⟨RX6, "<init>", "()V"⟩
abbrev cX6_in : ByteArray := prog_8_method_3_code
def yX6_in : MethodName := ⟨RX6, "in", "(JJJ)Z"⟩
abbrev cX6_amount : ByteArray := prog_8_method_4_code
def yX6_amount : MethodName := ⟨RX6, "amount", "(I)I"⟩
abbrev cX6_feed : ByteArray := prog_8_method_5_code
def yX6_feed : MethodName := ⟨RX6, "feed", "(I)I"⟩
abbrev cX6_end : ByteArray := prog_8_method_6_code
def yX6_end : MethodName := ⟨RX6, "end", "(I)I"⟩
abbrev cX6_byteAt : ByteArray := prog_8_method_7_code
def yX6_byteAt : MethodName := ⟨RX6, "byteAt", "(I)I"⟩
abbrev cX6_fails : ByteArray := prog_8_method_8_code
def yX6_fails : MethodName := ⟨RX6, "fails", "(I)V"⟩
abbrev cX6_nameHere : ByteArray := prog_8_method_9_code
def yX6_nameHere : MethodName := ⟨RX6, "nameHere", "()I"⟩
abbrev cX6_readsOn : ByteArray := prog_8_method_10_code
def yX6_readsOn : MethodName := ⟨RX6, "readsOn", "()V"⟩
abbrev cX6_number : ByteArray := prog_8_method_11_code
def yX6_number : MethodName := ⟨RX6, "number", "(II)I"⟩
abbrev cX6_readMore : ByteArray := prog_8_method_12_code
def yX6_readMore : MethodName := ⟨RX6, "readMore", "(I)V"⟩
abbrev cX6_readLine : ByteArray := prog_8_method_13_code
def yX6_readLine : MethodName := ⟨RX6, "readLine", "()V"⟩
abbrev cX6_text : ByteArray := prog_8_method_14_code
def yX6_text : MethodName := ⟨RX6, "text", "()I"⟩
abbrev cX6_fault : ByteArray := prog_8_method_15_code
def yX6_fault : MethodName := ⟨RX6, "fault", "()I"⟩
abbrev cX6_isCorner : ByteArray := prog_8_method_16_code
def yX6_isCorner : MethodName := ⟨RX6, "isCorner", "(I)Z"⟩
abbrev cX6_isWheel : ByteArray := prog_8_method_17_code
def yX6_isWheel : MethodName := ⟨RX6, "isWheel", "(I)Z"⟩
abbrev cX6_isPoint : ByteArray := prog_8_method_18_code
def yX6_isPoint : MethodName := ⟨RX6, "isPoint", "(II)Z"⟩
abbrev cX6_isLong : ByteArray := prog_8_method_19_code
def yX6_isLong : MethodName := ⟨RX6, "isLong", "(I)Z"⟩
abbrev cX6_isReading : ByteArray := prog_8_method_20_code
def yX6_isReading : MethodName := ⟨RX6, "isReading", "(I)Z"⟩
abbrev cX6_sweepOn : ByteArray := prog_8_method_21_code
def yX6_sweepOn : MethodName := ⟨RX6, "sweepOn", "(III)I"⟩
abbrev cX6_behindOn : ByteArray := prog_8_method_22_code
def yX6_behindOn : MethodName := ⟨RX6, "behindOn", "(II)I"⟩
abbrev cX6_areaOn : ByteArray := prog_8_method_23_code
def yX6_areaOn : MethodName := ⟨RX6, "areaOn", "(I)I"⟩
abbrev cX6_rollsOn : ByteArray := prog_8_method_24_code
def yX6_rollsOn : MethodName := ⟨RX6, "rollsOn", "(III)I"⟩
abbrev cX6_errorOn : ByteArray := prog_8_method_25_code
def yX6_errorOn : MethodName := ⟨RX6, "errorOn", "(II)I"⟩
abbrev cX6_starts : ByteArray := prog_8_method_26_code
def yX6_starts : MethodName := ⟨RX6, "starts", "()V"⟩
abbrev cX6_edgeOn : ByteArray := prog_8_method_27_code
def yX6_edgeOn : MethodName := ⟨RX6, "edgeOn", "(II)V"⟩
abbrev cX6_tracesOn : ByteArray := prog_8_method_28_code
def yX6_tracesOn : MethodName := ⟨RX6, "tracesOn", "(IZ)V"⟩
abbrev cX6_rule : ByteArray := prog_8_method_29_code
def yX6_rule : MethodName := ⟨RX6, "rule", "(I)I"⟩
abbrev cX6_corner : ByteArray := prog_8_method_30_code
def yX6_corner : MethodName := ⟨RX6, "corner", "(II)I"⟩
abbrev cX6_showsOn : ByteArray := prog_8_method_31_code
def yX6_showsOn : MethodName := ⟨RX6, "showsOn", "(II)I"⟩
abbrev cX6_wheel : ByteArray := prog_8_method_32_code
def yX6_wheel : MethodName := ⟨RX6, "wheel", "(II)I"⟩
abbrev cX6_puts : ByteArray := prog_8_method_33_code
def yX6_puts : MethodName := ⟨RX6, "puts", "(ZII)I"⟩
abbrev cX6_alter : ByteArray := prog_8_method_34_code
def yX6_alter : MethodName := ⟨RX6, "alter", "(III)I"⟩
abbrev cX6_put : ByteArray := prog_8_method_35_code
def yX6_put : MethodName := ⟨RX6, "put", "(II)I"⟩
abbrev cX6_cut : ByteArray := prog_8_method_36_code
def yX6_cut : MethodName := ⟨RX6, "cut", "(I)I"⟩
abbrev cX6_zero : ByteArray := prog_8_method_37_code
def yX6_zero : MethodName := ⟨RX6, "zero", "(I)I"⟩
abbrev cX6_movesTo : ByteArray := prog_8_method_38_code
def yX6_movesTo : MethodName := ⟨RX6, "movesTo", "(IIII)I"⟩
abbrev cX6_shift : ByteArray := prog_8_method_39_code
def yX6_shift : MethodName := ⟨RX6, "shift", "(III)I"⟩
abbrev cX6_adds : ByteArray := prog_8_method_40_code
def yX6_adds : MethodName := ⟨RX6, "adds", "(II)I"⟩
abbrev cX6_add : ByteArray := prog_8_method_41_code
def yX6_add : MethodName := ⟨RX6, "add", "(II)I"⟩
abbrev cX6_drop : ByteArray := prog_8_method_42_code
def yX6_drop : MethodName := ⟨RX6, "drop", "(I)I"⟩
abbrev cX6_pole : ByteArray := prog_8_method_43_code
def yX6_pole : MethodName := ⟨RX6, "pole", "(II)I"⟩
abbrev cX6_trace : ByteArray := prog_8_method_44_code
def yX6_trace : MethodName := ⟨RX6, "trace", "(I)I"⟩
abbrev cX6_copies : ByteArray := prog_8_method_45_code
def yX6_copies : MethodName := ⟨RX6, "copies", "(II)V"⟩
abbrev cX6_edgesGo : ByteArray := prog_8_method_46_code
def yX6_edgesGo : MethodName := ⟨RX6, "edgesGo", "(I)V"⟩
abbrev cX6_runs : ByteArray := prog_8_method_47_code
def yX6_runs : MethodName := ⟨RX6, "runs", "(II)I"⟩
abbrev cX6_ahead : ByteArray := prog_8_method_48_code
def yX6_ahead : MethodName := ⟨RX6, "ahead", "(II)I"⟩
abbrev cX6_when : ByteArray := prog_8_method_49_code
def yX6_when : MethodName := ⟨RX6, "when", "(II)I"⟩
abbrev cX6_best : ByteArray := prog_8_method_50_code
def yX6_best : MethodName := ⟨RX6, "best", "(II)I"⟩
abbrev cX6_step : ByteArray := prog_8_method_51_code
def yX6_step : MethodName := ⟨RX6, "step", "(II)I"⟩
abbrev cX6_kind : ByteArray := prog_8_method_52_code
def yX6_kind : MethodName := ⟨RX6, "kind", "(II)I"⟩
abbrev cX6_place : ByteArray := prog_8_method_53_code
def yX6_place : MethodName := ⟨RX6, "place", "(II)I"⟩
abbrev cX6_swap : ByteArray := prog_8_method_54_code
def yX6_swap : MethodName := ⟨RX6, "swap", "(I)I"⟩
abbrev cX6_out : ByteArray := prog_8_method_55_code
def yX6_out : MethodName := ⟨RX6, "out", "(I)I"⟩
abbrev cX6_lowest : ByteArray := prog_8_method_56_code
def yX6_lowest : MethodName := ⟨RX6, "lowest", "(JJI)J"⟩
abbrev cX6_byMisses : ByteArray := prog_8_method_57_code
def yX6_byMisses : MethodName := ⟨RX6, "byMisses", "(IIIII)J"⟩
abbrev cX6_luck : ByteArray := prog_8_method_58_code
def yX6_luck : MethodName := ⟨RX6, "luck", "(IIIII)J"⟩
abbrev cX6_mean : ByteArray := prog_8_method_59_code
def yX6_mean : MethodName := ⟨RX6, "mean", "(IIII)J"⟩
abbrev cX6_see : ByteArray := prog_8_method_60_code
def yX6_see : MethodName := ⟨RX6, "see", "(III)I"⟩
abbrev cX6_forget : ByteArray := prog_8_method_61_code
def yX6_forget : MethodName := ⟨RX6, "forget", "(I)I"⟩
abbrev cX6_isAsSeen : ByteArray := prog_8_method_62_code
def yX6_isAsSeen : MethodName := ⟨RX6, "isAsSeen", "(II)Z"⟩
abbrev cX6_numbersAt : ByteArray := prog_8_method_63_code
def yX6_numbersAt : MethodName := ⟨RX6, "numbersAt", "(IIII)I"⟩
abbrev cX6_kinds : ByteArray := prog_8_method_64_code
def yX6_kinds : MethodName := ⟨RX6, "kinds", "(I)I"⟩
abbrev cX6_steps : ByteArray := prog_8_method_65_code
def yX6_steps : MethodName := ⟨RX6, "steps", "(I)I"⟩
abbrev cX6_worstAt : ByteArray := prog_8_method_66_code
def yX6_worstAt : MethodName := ⟨RX6, "worstAt", "(II)I"⟩
abbrev cX6_ask : ByteArray := prog_8_method_67_code
def yX6_ask : MethodName := ⟨RX6, "ask", "(II)I"⟩
abbrev cX6_drift : ByteArray := prog_8_method_68_code
def yX6_drift : MethodName := ⟨RX6, "drift", "(III)I"⟩
abbrev cX6_keep : ByteArray := prog_8_method_69_code
def yX6_keep : MethodName := ⟨RX6, "keep", "(I)I"⟩
abbrev cX6_back : ByteArray := prog_8_method_70_code
def yX6_back : MethodName := ⟨RX6, "back", "(I)I"⟩
abbrev cX6_sheet : ByteArray := prog_8_method_71_code
def yX6_sheet : MethodName := ⟨RX6, "sheet", "(III)I"⟩
abbrev cX6_lay : ByteArray := prog_8_method_72_code
def yX6_lay : MethodName := ⟨RX6, "lay", "(III)I"⟩
abbrev cX6_read : ByteArray := prog_8_method_73_code
def yX6_read : MethodName := ⟨RX6, "read", "(IIII)I"⟩
abbrev cX6_torn : ByteArray := prog_8_method_74_code
def yX6_torn : MethodName := ⟨RX6, "torn", "()I"⟩
abbrev cX6_count : ByteArray := prog_8_method_75_code
def yX6_count : MethodName := ⟨RX6, "count", "(I)I"⟩
def RJ6 : String := "java/lang/Integer"
def TJ6 : u_T := fun k => match k with
  | _ => ("", "", "", false)
def tyJ6 : Nat → FieldType := fun k => match k with
  | _ => .int
abbrev wsJ60 : List Cond := u_ws RJ6 TJ6 0
theorem nmJ6 : ∀ a, a < 0 → ∀ b, b < 0 → a ≠ b → (TJ6 a).2.1 ≠ (TJ6 b).2.1 := by decide +kernel
theorem tyJ6_ok : ∀ k, k < 0 → parseFieldDescriptor (TJ6 k).2.2.1 = some (tyJ6 k) := by decide +kernel
abbrev cJ6_bitCount_0f7a4 : ByteArray := prog_9_method_49_code
def yJ6_bitCount_0f7a4 : MethodName := ⟨RJ6, "bitCount", "(I)I"⟩
def RJ9 : String := "java/lang/Math"
def TJ9 : u_T := fun k => match k with
  | _ => ("", "", "", false)
def tyJ9 : Nat → FieldType := fun k => match k with
  | _ => .int
abbrev wsJ90 : List Cond := u_ws RJ9 TJ9 0
theorem nmJ9 : ∀ a, a < 0 → ∀ b, b < 0 → a ≠ b → (TJ9 a).2.1 ≠ (TJ9 b).2.1 := by decide +kernel
theorem tyJ9_ok : ∀ k, k < 0 → parseFieldDescriptor (TJ9 k).2.2.1 = some (tyJ9 k) := by decide +kernel
abbrev cJ9_abs_0f7a4 : ByteArray := prog_10_method_59_code
def yJ9_abs_0f7a4 : MethodName := ⟨RJ9, "abs", "(I)I"⟩
abbrev cJ9_max_7cf53 : ByteArray := prog_10_method_65_code
def yJ9_max_7cf53 : MethodName := ⟨RJ9, "max", "(II)I"⟩
def RJ0 : String := "java/lang/String"
def TJ0 : u_T := fun k => match k with
  | _ => ("", "", "", false)
def tyJ0 : Nat → FieldType := fun k => match k with
  | _ => .int
abbrev wsJ00 : List Cond := u_ws RJ0 TJ0 0
theorem nmJ0 : ∀ a, a < 0 → ∀ b, b < 0 → a ≠ b → (TJ0 a).2.1 ≠ (TJ0 b).2.1 := by decide +kernel
theorem tyJ0_ok : ∀ k, k < 0 → parseFieldDescriptor (TJ0 k).2.2.1 = some (tyJ0 k) := by decide +kernel
abbrev cJ0_length_8abf5 : ByteArray := prog_11_method_54_code
def yJ0_length_8abf5 : MethodName := ⟨RJ0, "length", "()I"⟩
abbrev cJ0_charAt_5068e : ByteArray := prog_11_method_56_code
def yJ0_charAt_5068e : MethodName := ⟨RJ0, "charAt", "(I)C"⟩
abbrev cJ0_coder_7d493 : ByteArray := prog_11_method_152_code
def yJ0_coder_7d493 : MethodName := ⟨RJ0, "coder", "()B"⟩
abbrev cJ0_isLatin1_aae02 : ByteArray := prog_11_method_154_code
def yJ0_isLatin1_aae02 : MethodName := ⟨RJ0, "isLatin1", "()Z"⟩
abbrev cJ0_checkIndex_df160 : ByteArray := prog_11_method_155_code
def yJ0_checkIndex_df160 : MethodName := ⟨RJ0, "checkIndex", "(II)V"⟩
def RJ1 : String := "java/lang/StringLatin1"
def TJ1 : u_T := fun k => match k with
  | _ => ("", "", "", false)
def tyJ1 : Nat → FieldType := fun k => match k with
  | _ => .int
abbrev wsJ10 : List Cond := u_ws RJ1 TJ1 0
theorem nmJ1 : ∀ a, a < 0 → ∀ b, b < 0 → a ≠ b → (TJ1 a).2.1 ≠ (TJ1 b).2.1 := by decide +kernel
theorem tyJ1_ok : ∀ k, k < 0 → parseFieldDescriptor (TJ1 k).2.2.1 = some (tyJ1 k) := by decide +kernel
abbrev cJ1_charAt_3b067 : ByteArray := prog_12_method_2_code
def yJ1_charAt_3b067 : MethodName := ⟨RJ1, "charAt", "([BI)C"⟩
def RJ2 : String := "java/lang/StringUTF16"
def TJ2 : u_T := fun k => match k with
  | _ => ("", "", "", false)
def tyJ2 : Nat → FieldType := fun k => match k with
  | _ => .int
abbrev wsJ20 : List Cond := u_ws RJ2 TJ2 0
theorem nmJ2 : ∀ a, a < 0 → ∀ b, b < 0 → a ≠ b → (TJ2 a).2.1 ≠ (TJ2 b).2.1 := by decide +kernel
theorem tyJ2_ok : ∀ k, k < 0 → parseFieldDescriptor (TJ2 k).2.2.1 = some (tyJ2 k) := by decide +kernel
abbrev cJ2_getChar_3b067 : ByteArray := prog_13_method_5_code
def yJ2_getChar_3b067 : MethodName := ⟨RJ2, "getChar", "([BI)C"⟩
abbrev cJ2_length_9d52b : ByteArray := prog_13_method_6_code
def yJ2_length_9d52b : MethodName := ⟨RJ2, "length", "([B)I"⟩
abbrev cJ2_charAt_3b067 : ByteArray := prog_13_method_83_code
def yJ2_charAt_3b067 : MethodName := ⟨RJ2, "charAt", "([BI)C"⟩
abbrev cJ2_checkIndex_2214a : ByteArray := prog_13_method_91_code
def yJ2_checkIndex_2214a : MethodName := ⟨RJ2, "checkIndex", "(I[B)V"⟩
def RJ10 : String := "java/lang/System"
def TJ10 : u_T := fun k => match k with
  | _ => ("", "", "", false)
def tyJ10 : Nat → FieldType := fun k => match k with
  | _ => .int
abbrev wsJ100 : List Cond := u_ws RJ10 TJ10 0
theorem nmJ10 : ∀ a, a < 0 → ∀ b, b < 0 → a ≠ b → (TJ10 a).2.1 ≠ (TJ10 b).2.1 := by decide +kernel
theorem tyJ10_ok : ∀ k, k < 0 → parseFieldDescriptor (TJ10 k).2.2.1 = some (tyJ10 k) := by decide +kernel
def RJ3 : String := "jdk/internal/util/Preconditions"
def TJ3 : u_T := fun k => match k with
  | _ => ("", "", "", false)
def tyJ3 : Nat → FieldType := fun k => match k with
  | _ => .int
abbrev wsJ30 : List Cond := u_ws RJ3 TJ3 0
theorem nmJ3 : ∀ a, a < 0 → ∀ b, b < 0 → a ≠ b → (TJ3 a).2.1 ≠ (TJ3 b).2.1 := by decide +kernel
theorem tyJ3_ok : ∀ k, k < 0 → parseFieldDescriptor (TJ3 k).2.2.1 = some (tyJ3 k) := by decide +kernel
abbrev cJ3_checkIndex_8e157 : ByteArray := prog_15_method_11_code
def yJ3_checkIndex_8e157 : MethodName := ⟨RJ3, "checkIndex", "(IILjava/util/function/BiFunction;)I"⟩
def RL : String := "WheelAreasLaw"
abbrev cL_law : ByteArray := code
def yL_law : MethodName := ⟨RL, "law", "([I)Z"⟩
def wsX0_init : List Cond := .code yX0_init cX0_init 1 none :: ([.methodLink RX0 3 objectInit, .instanceMethod objectInit, .code objectInit ⟨#[0xb1]⟩ 1 none, .arrayClass .int, .fieldLink RX0 9 "WheelAreas$Layout" "cornerX" "[I", .fieldLink RX0 15 "WheelAreas$Layout" "cornerY" "[I", .fieldLink RX0 18 "WheelAreas$Layout" "corners" "I", .fieldLink RX0 22 "WheelAreas$Layout" "wheelKind" "[I", .fieldLink RX0 25 "WheelAreas$Layout" "wheelStep" "[I", .fieldLink RX0 28 "WheelAreas$Layout" "wheelReads" "[I", .fieldLink RX0 31 "WheelAreas$Layout" "wheels" "I", .fieldLink RX0 34 "WheelAreas$Layout" "poleX" "I", .fieldLink RX0 37 "WheelAreas$Layout" "poleY" "I", .fieldLink RX0 40 "WheelAreas$Layout" "traced" "I"] ++ wsX00)
def wsX0_clear : List Cond := .code yX0_clear cX0_clear 1 none :: ([.fieldLink RX0 18 "WheelAreas$Layout" "corners" "I", .fieldLink RX0 31 "WheelAreas$Layout" "wheels" "I", .fieldLink RX0 34 "WheelAreas$Layout" "poleX" "I", .fieldLink RX0 37 "WheelAreas$Layout" "poleY" "I", .fieldLink RX0 40 "WheelAreas$Layout" "traced" "I"] ++ wsX00)
def wsX0_copyFrom : List Cond := .code yX0_copyFrom cX0_copyFrom 2 none :: ([.fieldLink RX0 9 "WheelAreas$Layout" "cornerX" "[I", .methodLink RX0 43 arraycopyName, .native arraycopyName, .static arraycopyName, .initialized "java/lang/System", .fieldLink RX0 15 "WheelAreas$Layout" "cornerY" "[I", .fieldLink RX0 18 "WheelAreas$Layout" "corners" "I", .fieldLink RX0 22 "WheelAreas$Layout" "wheelKind" "[I", .fieldLink RX0 25 "WheelAreas$Layout" "wheelStep" "[I", .fieldLink RX0 28 "WheelAreas$Layout" "wheelReads" "[I", .fieldLink RX0 31 "WheelAreas$Layout" "wheels" "I", .fieldLink RX0 34 "WheelAreas$Layout" "poleX" "I", .fieldLink RX0 37 "WheelAreas$Layout" "poleY" "I", .fieldLink RX0 40 "WheelAreas$Layout" "traced" "I"] ++ wsX00)
def wsX0_appendCorner : List Cond := .code yX0_appendCorner cX0_appendCorner 3 none :: ([.fieldLink RX0 18 "WheelAreas$Layout" "corners" "I", .fieldLink RX0 9 "WheelAreas$Layout" "cornerX" "[I", .fieldLink RX0 15 "WheelAreas$Layout" "cornerY" "[I"] ++ wsX00)
def wsX0_moveCorner : List Cond := .code yX0_moveCorner cX0_moveCorner 4 none :: ([.fieldLink RX0 9 "WheelAreas$Layout" "cornerX" "[I", .fieldLink RX0 15 "WheelAreas$Layout" "cornerY" "[I"] ++ wsX00)
def wsX0_exchangeCorners : List Cond := .code yX0_exchangeCorners cX0_exchangeCorners 5 none :: ([.fieldLink RX0 9 "WheelAreas$Layout" "cornerX" "[I", .fieldLink RX0 15 "WheelAreas$Layout" "cornerY" "[I", .methodLink RX0 49 yX0_moveCorner, .instanceMethod yX0_moveCorner, .selects RX0 yX0_moveCorner yX0_moveCorner, .initialized RX0, .code yX0_moveCorner cX0_moveCorner 4 none] ++ wsX00)
def wsX0_removeCorner : List Cond := .code yX0_removeCorner cX0_removeCorner 3 none :: ([.fieldLink RX0 18 "WheelAreas$Layout" "corners" "I", .fieldLink RX0 9 "WheelAreas$Layout" "cornerX" "[I", .fieldLink RX0 15 "WheelAreas$Layout" "cornerY" "[I", .methodLink RX0 49 yX0_moveCorner, .instanceMethod yX0_moveCorner, .selects RX0 yX0_moveCorner yX0_moveCorner, .initialized RX0, .code yX0_moveCorner cX0_moveCorner 4 none] ++ wsX00)
def wsX0_appendWheel : List Cond := .code yX0_appendWheel cX0_appendWheel 3 none :: ([.fieldLink RX0 31 "WheelAreas$Layout" "wheels" "I", .fieldLink RX0 22 "WheelAreas$Layout" "wheelKind" "[I", .fieldLink RX0 25 "WheelAreas$Layout" "wheelStep" "[I", .fieldLink RX0 28 "WheelAreas$Layout" "wheelReads" "[I"] ++ wsX00)
def wsX0_movePole : List Cond := .code yX0_movePole cX0_movePole 3 none :: ([.fieldLink RX0 34 "WheelAreas$Layout" "poleX" "I", .fieldLink RX0 37 "WheelAreas$Layout" "poleY" "I"] ++ wsX00)
def wsX0_sweepOf : List Cond := .code yX0_sweepOf cX0_sweepOf 7 (some .int) :: ([.fieldLink RX0 18 "WheelAreas$Layout" "corners" "I", .fieldLink RX0 9 "WheelAreas$Layout" "cornerX" "[I", .fieldLink RX0 34 "WheelAreas$Layout" "poleX" "I", .fieldLink RX0 15 "WheelAreas$Layout" "cornerY" "[I", .fieldLink RX0 37 "WheelAreas$Layout" "poleY" "I"] ++ wsX00)
def wsX0_area : List Cond := .code yX0_area cX0_area 3 (some .int) :: ([.fieldLink RX0 18 "WheelAreas$Layout" "corners" "I", .methodLink RX0 53 yX0_sweepOf, .instanceMethod yX0_sweepOf, .selects RX0 yX0_sweepOf yX0_sweepOf, .initialized RX0, .code yX0_sweepOf cX0_sweepOf 7 (some .int), .fieldLink RX0 9 "WheelAreas$Layout" "cornerX" "[I", .fieldLink RX0 34 "WheelAreas$Layout" "poleX" "I", .fieldLink RX0 15 "WheelAreas$Layout" "cornerY" "[I", .fieldLink RX0 37 "WheelAreas$Layout" "poleY" "I"] ++ wsX00)
def wsX0_areaUnsigned : List Cond := .code yX0_areaUnsigned cX0_areaUnsigned 1 (some .int) :: ([.methodLink RX0 61 Lib.Math.abs.name, .static Lib.Math.abs.name, .initialized "java/lang/Math", .code Lib.Math.abs.name Lib.Math.abs.code 1 (some .int), .methodLink RX0 57 yX0_area, .instanceMethod yX0_area, .selects RX0 yX0_area yX0_area, .initialized RX0, .code yX0_area cX0_area 3 (some .int), .fieldLink RX0 18 "WheelAreas$Layout" "corners" "I", .methodLink RX0 53 yX0_sweepOf, .instanceMethod yX0_sweepOf, .selects RX0 yX0_sweepOf yX0_sweepOf, .code yX0_sweepOf cX0_sweepOf 7 (some .int), .fieldLink RX0 9 "WheelAreas$Layout" "cornerX" "[I", .fieldLink RX0 34 "WheelAreas$Layout" "poleX" "I", .fieldLink RX0 15 "WheelAreas$Layout" "cornerY" "[I", .fieldLink RX0 37 "WheelAreas$Layout" "poleY" "I"] ++ wsX00)
def wsX0_edgeAhead : List Cond := .code yX0_edgeAhead cX0_edgeAhead 2 (some .int) :: ([.fieldLink RX0 18 "WheelAreas$Layout" "corners" "I", .fieldLink RX0 40 "WheelAreas$Layout" "traced" "I"] ++ wsX00)
def wsX0_sweepAhead : List Cond := .code yX0_sweepAhead cX0_sweepAhead 3 (some .int) :: ([.methodLink RX0 66 yX0_edgeAhead, .instanceMethod yX0_edgeAhead, .selects RX0 yX0_edgeAhead yX0_edgeAhead, .initialized RX0, .code yX0_edgeAhead cX0_edgeAhead 2 (some .int), .fieldLink RX0 18 "WheelAreas$Layout" "corners" "I", .fieldLink RX0 40 "WheelAreas$Layout" "traced" "I", .methodLink RX0 53 yX0_sweepOf, .instanceMethod yX0_sweepOf, .selects RX0 yX0_sweepOf yX0_sweepOf, .code yX0_sweepOf cX0_sweepOf 7 (some .int), .fieldLink RX0 9 "WheelAreas$Layout" "cornerX" "[I", .fieldLink RX0 34 "WheelAreas$Layout" "poleX" "I", .fieldLink RX0 15 "WheelAreas$Layout" "cornerY" "[I", .fieldLink RX0 37 "WheelAreas$Layout" "poleY" "I"] ++ wsX00)
def wsX0_roll : List Cond := .code yX0_roll cX0_roll 3 (some .int) :: ([.methodLink RX0 61 Lib.Math.abs.name, .static Lib.Math.abs.name, .initialized "java/lang/Math", .code Lib.Math.abs.name Lib.Math.abs.code 1 (some .int)])
def wsX0_rollOf : List Cond := .code yX0_rollOf cX0_rollOf 3 (some .int) :: ([.fieldLink RX0 22 "WheelAreas$Layout" "wheelKind" "[I", .fieldLink RX0 25 "WheelAreas$Layout" "wheelStep" "[I", .methodLink RX0 69 yX0_roll, .static yX0_roll, .initialized RX0, .code yX0_roll cX0_roll 3 (some .int), .methodLink RX0 61 Lib.Math.abs.name, .static Lib.Math.abs.name, .initialized "java/lang/Math", .code Lib.Math.abs.name Lib.Math.abs.code 1 (some .int)] ++ wsX00)
def wsX0_rolledByAll : List Cond := .code yX0_rolledByAll cX0_rolledByAll 4 (some .int) :: ([.fieldLink RX0 31 "WheelAreas$Layout" "wheels" "I", .methodLink RX0 61 Lib.Math.abs.name, .static Lib.Math.abs.name, .initialized "java/lang/Math", .code Lib.Math.abs.name Lib.Math.abs.code 1 (some .int), .methodLink RX0 73 yX0_rollOf, .instanceMethod yX0_rollOf, .selects RX0 yX0_rollOf yX0_rollOf, .initialized RX0, .code yX0_rollOf cX0_rollOf 3 (some .int), .fieldLink RX0 22 "WheelAreas$Layout" "wheelKind" "[I", .fieldLink RX0 25 "WheelAreas$Layout" "wheelStep" "[I", .methodLink RX0 69 yX0_roll, .static yX0_roll, .code yX0_roll cX0_roll 3 (some .int)] ++ wsX00)
def wsX0_rollAll : List Cond := .code yX0_rollAll cX0_rollAll 3 (some .int) :: ([.fieldLink RX0 31 "WheelAreas$Layout" "wheels" "I", .fieldLink RX0 28 "WheelAreas$Layout" "wheelReads" "[I", .methodLink RX0 73 yX0_rollOf, .instanceMethod yX0_rollOf, .selects RX0 yX0_rollOf yX0_rollOf, .initialized RX0, .code yX0_rollOf cX0_rollOf 3 (some .int), .fieldLink RX0 22 "WheelAreas$Layout" "wheelKind" "[I", .fieldLink RX0 25 "WheelAreas$Layout" "wheelStep" "[I", .methodLink RX0 69 yX0_roll, .static yX0_roll, .code yX0_roll cX0_roll 3 (some .int), .methodLink RX0 61 Lib.Math.abs.name, .static Lib.Math.abs.name, .initialized "java/lang/Math", .code Lib.Math.abs.name Lib.Math.abs.code 1 (some .int), .methodLink RX0 77 yX0_rolledByAll, .instanceMethod yX0_rolledByAll, .selects RX0 yX0_rolledByAll yX0_rolledByAll, .code yX0_rolledByAll cX0_rolledByAll 4 (some .int)] ++ wsX00)
def wsX0_someWheelRests : List Cond := .code yX0_someWheelRests cX0_someWheelRests 3 (some .boolean) :: ([.fieldLink RX0 31 "WheelAreas$Layout" "wheels" "I", .methodLink RX0 73 yX0_rollOf, .instanceMethod yX0_rollOf, .selects RX0 yX0_rollOf yX0_rollOf, .initialized RX0, .code yX0_rollOf cX0_rollOf 3 (some .int), .fieldLink RX0 22 "WheelAreas$Layout" "wheelKind" "[I", .fieldLink RX0 25 "WheelAreas$Layout" "wheelStep" "[I", .methodLink RX0 69 yX0_roll, .static yX0_roll, .code yX0_roll cX0_roll 3 (some .int), .methodLink RX0 61 Lib.Math.abs.name, .static Lib.Math.abs.name, .initialized "java/lang/Math", .code Lib.Math.abs.name Lib.Math.abs.code 1 (some .int)] ++ wsX00)
def wsX0_readsAhead_r1 : List Cond := [Cond.fieldLink RX0 28 "WheelAreas$Layout" "wheelReads" "[I", Cond.methodLink RX0 80 yX0_sweepAhead, Cond.instanceMethod yX0_sweepAhead, Cond.selects RX0 yX0_sweepAhead yX0_sweepAhead, Cond.initialized RX0, Cond.code yX0_sweepAhead cX0_sweepAhead 3 (some .int), Cond.methodLink RX0 66 yX0_edgeAhead, Cond.instanceMethod yX0_edgeAhead, Cond.selects RX0 yX0_edgeAhead yX0_edgeAhead, Cond.code yX0_edgeAhead cX0_edgeAhead 2 (some .int), Cond.fieldLink RX0 18 "WheelAreas$Layout" "corners" "I", Cond.fieldLink RX0 40 "WheelAreas$Layout" "traced" "I", Cond.methodLink RX0 53 yX0_sweepOf, Cond.instanceMethod yX0_sweepOf, Cond.selects RX0 yX0_sweepOf yX0_sweepOf, Cond.code yX0_sweepOf cX0_sweepOf 7 (some .int), Cond.fieldLink RX0 9 "WheelAreas$Layout" "cornerX" "[I", Cond.fieldLink RX0 34 "WheelAreas$Layout" "poleX" "I", Cond.fieldLink RX0 15 "WheelAreas$Layout" "cornerY" "[I", Cond.fieldLink RX0 37 "WheelAreas$Layout" "poleY" "I", Cond.methodLink RX0 73 yX0_rollOf, Cond.instanceMethod yX0_rollOf, Cond.selects RX0 yX0_rollOf yX0_rollOf, Cond.code yX0_rollOf cX0_rollOf 3 (some .int)]
def wsX0_readsAhead_r2 : List Cond := [Cond.fieldLink RX0 22 "WheelAreas$Layout" "wheelKind" "[I", Cond.fieldLink RX0 25 "WheelAreas$Layout" "wheelStep" "[I", Cond.methodLink RX0 69 yX0_roll, Cond.static yX0_roll, Cond.code yX0_roll cX0_roll 3 (some .int), Cond.methodLink RX0 61 Lib.Math.abs.name, Cond.static Lib.Math.abs.name, Cond.initialized "java/lang/Math", Cond.code Lib.Math.abs.name Lib.Math.abs.code 1 (some .int)]
def wsX0_readsAhead : List Cond := .code yX0_readsAhead cX0_readsAhead 5 (some .int) :: ((wsX0_readsAhead_r1 ++ wsX0_readsAhead_r2) ++ wsX00)
def wsX0_shownBy : List Cond := .code yX0_shownBy cX0_shownBy 4 (some .int) :: ([.fieldLink RX0 28 "WheelAreas$Layout" "wheelReads" "[I", .fieldLink RX0 25 "WheelAreas$Layout" "wheelStep" "[I", .fieldLink RX0 22 "WheelAreas$Layout" "wheelKind" "[I"] ++ wsX00)
def wsX0_errorOf : List Cond := .code yX0_errorOf cX0_errorOf 5 (some .int) :: ([.fieldLink RX0 18 "WheelAreas$Layout" "corners" "I", .methodLink RX0 61 Lib.Math.abs.name, .static Lib.Math.abs.name, .initialized "java/lang/Math", .code Lib.Math.abs.name Lib.Math.abs.code 1 (some .int), .methodLink RX0 53 yX0_sweepOf, .instanceMethod yX0_sweepOf, .selects RX0 yX0_sweepOf yX0_sweepOf, .initialized RX0, .code yX0_sweepOf cX0_sweepOf 7 (some .int), .fieldLink RX0 9 "WheelAreas$Layout" "cornerX" "[I", .fieldLink RX0 34 "WheelAreas$Layout" "poleX" "I", .fieldLink RX0 15 "WheelAreas$Layout" "cornerY" "[I", .fieldLink RX0 37 "WheelAreas$Layout" "poleY" "I", .methodLink RX0 73 yX0_rollOf, .instanceMethod yX0_rollOf, .selects RX0 yX0_rollOf yX0_rollOf, .code yX0_rollOf cX0_rollOf 3 (some .int), .fieldLink RX0 22 "WheelAreas$Layout" "wheelKind" "[I", .fieldLink RX0 25 "WheelAreas$Layout" "wheelStep" "[I", .methodLink RX0 69 yX0_roll, .static yX0_roll, .code yX0_roll cX0_roll 3 (some .int)] ++ wsX00)
def wsX0_sumOfSteps : List Cond := .code yX0_sumOfSteps cX0_sumOfSteps 3 (some .int) :: ([.fieldLink RX0 31 "WheelAreas$Layout" "wheels" "I", .fieldLink RX0 25 "WheelAreas$Layout" "wheelStep" "[I"] ++ wsX00)
def wsX0_sumOfPlaces : List Cond := .code yX0_sumOfPlaces cX0_sumOfPlaces 3 (some .int) :: ([.fieldLink RX0 18 "WheelAreas$Layout" "corners" "I", .fieldLink RX0 9 "WheelAreas$Layout" "cornerX" "[I", .fieldLink RX0 15 "WheelAreas$Layout" "cornerY" "[I"] ++ wsX00)
def wsX1_init : List Cond := .code yX1_init cX1_init 1 none :: ([.methodLink RX1 3 objectInit, .instanceMethod objectInit, .code objectInit ⟨#[0xb1]⟩ 1 none, .arrayClass .int, .fieldLink RX1 9 "WheelAreas$Sheet" "cells" "[I", .fieldLink RX1 15 "WheelAreas$Sheet" "lane" "I", .fieldLink RX1 19 "WheelAreas$Sheet" "size" "I"] ++ wsX10)
def wsX1_isNothing : List Cond := .code yX1_isNothing cX1_isNothing 1 (some .boolean) :: ([.fieldLink RX1 19 "WheelAreas$Sheet" "size" "I"] ++ wsX10)
def wsX1_renew : List Cond := .code yX1_renew cX1_renew 4 none :: ([.fieldLink RX1 9 "WheelAreas$Sheet" "cells" "[I", .fieldLink RX1 15 "WheelAreas$Sheet" "lane" "I", .fieldLink RX1 19 "WheelAreas$Sheet" "size" "I"] ++ wsX10)
def wsX1_layCell : List Cond := .code yX1_layCell cX1_layCell 3 none :: ([.fieldLink RX1 15 "WheelAreas$Sheet" "lane" "I", .fieldLink RX1 9 "WheelAreas$Sheet" "cells" "[I"] ++ wsX10)
def wsX5_within : List Cond := .code yX5_within cX5_within 3 (some .boolean) :: ([])
def wsX1_faultAt : List Cond := .code yX1_faultAt cX1_faultAt 3 (some .int) :: ([.fieldLink RX1 15 "WheelAreas$Sheet" "lane" "I", .fieldLink RX1 19 "WheelAreas$Sheet" "size" "I", .methodLink RX1 22 yX1_isNothing, .instanceMethod yX1_isNothing, .selects RX1 yX1_isNothing yX1_isNothing, .initialized RX1, .code yX1_isNothing cX1_isNothing 1 (some .boolean), .static yX5_within, .initialized RX5, .code yX5_within cX5_within 3 (some .boolean)] ++ wsX10)
def wsX1_faultAtPair : List Cond := .code yX1_faultAtPair cX1_faultAtPair 4 (some .int) :: ([.methodLink RX1 30 yX1_faultAt, .instanceMethod yX1_faultAt, .selects RX1 yX1_faultAt yX1_faultAt, .initialized RX1, .code yX1_faultAt cX1_faultAt 3 (some .int), .fieldLink RX1 15 "WheelAreas$Sheet" "lane" "I", .fieldLink RX1 19 "WheelAreas$Sheet" "size" "I", .methodLink RX1 22 yX1_isNothing, .instanceMethod yX1_isNothing, .selects RX1 yX1_isNothing yX1_isNothing, .code yX1_isNothing cX1_isNothing 1 (some .boolean), .static yX5_within, .initialized RX5, .code yX5_within cX5_within 3 (some .boolean)] ++ wsX10)
def wsX2_init : List Cond := .code yX2_init cX2_init 1 none :: ([.methodLink RX2 3 objectInit, .instanceMethod objectInit, .code objectInit ⟨#[0xb1]⟩ 1 none, .arrayClass .int, .fieldLink RX2 9 "WheelAreas$Sightings" "edges" "[I", .fieldLink RX2 15 "WheelAreas$Sightings" "wheel" "[I", .fieldLink RX2 18 "WheelAreas$Sightings" "reads" "[I", .fieldLink RX2 21 "WheelAreas$Sightings" "size" "I"] ++ wsX20)
def wsX2_append : List Cond := .code yX2_append cX2_append 4 none :: ([.fieldLink RX2 21 "WheelAreas$Sightings" "size" "I", .fieldLink RX2 9 "WheelAreas$Sightings" "edges" "[I", .fieldLink RX2 15 "WheelAreas$Sightings" "wheel" "[I", .fieldLink RX2 18 "WheelAreas$Sightings" "reads" "[I"] ++ wsX20)
def wsX2_agreeWith_r1 : List Cond := [Cond.fieldLink RX2 21 "WheelAreas$Sightings" "size" "I", Cond.fieldLink RX2 15 "WheelAreas$Sightings" "wheel" "[I", Cond.fieldLink RX2 25 "WheelAreas$Layout" "wheels" "I", Cond.fieldLink RX2 9 "WheelAreas$Sightings" "edges" "[I", Cond.fieldLink RX2 18 "WheelAreas$Sightings" "reads" "[I", Cond.methodLink RX2 30 yX0_readsAhead, Cond.instanceMethod yX0_readsAhead, Cond.selects RX0 yX0_readsAhead yX0_readsAhead, Cond.initialized RX0, Cond.code yX0_readsAhead cX0_readsAhead 5 (some .int), Cond.fieldLink RX0 28 "WheelAreas$Layout" "wheelReads" "[I", Cond.methodLink RX0 80 yX0_sweepAhead, Cond.instanceMethod yX0_sweepAhead, Cond.selects RX0 yX0_sweepAhead yX0_sweepAhead, Cond.code yX0_sweepAhead cX0_sweepAhead 3 (some .int), Cond.methodLink RX0 66 yX0_edgeAhead, Cond.instanceMethod yX0_edgeAhead, Cond.selects RX0 yX0_edgeAhead yX0_edgeAhead, Cond.code yX0_edgeAhead cX0_edgeAhead 2 (some .int), Cond.fieldLink RX0 18 "WheelAreas$Layout" "corners" "I", Cond.fieldLink RX0 40 "WheelAreas$Layout" "traced" "I", Cond.methodLink RX0 53 yX0_sweepOf, Cond.instanceMethod yX0_sweepOf, Cond.selects RX0 yX0_sweepOf yX0_sweepOf]
def wsX2_agreeWith_r2 : List Cond := [Cond.code yX0_sweepOf cX0_sweepOf 7 (some .int), Cond.fieldLink RX0 9 "WheelAreas$Layout" "cornerX" "[I", Cond.fieldLink RX0 34 "WheelAreas$Layout" "poleX" "I", Cond.fieldLink RX0 15 "WheelAreas$Layout" "cornerY" "[I", Cond.fieldLink RX0 37 "WheelAreas$Layout" "poleY" "I", Cond.methodLink RX0 73 yX0_rollOf, Cond.instanceMethod yX0_rollOf, Cond.selects RX0 yX0_rollOf yX0_rollOf, Cond.code yX0_rollOf cX0_rollOf 3 (some .int), Cond.fieldLink RX0 22 "WheelAreas$Layout" "wheelKind" "[I", Cond.fieldLink RX0 25 "WheelAreas$Layout" "wheelStep" "[I", Cond.methodLink RX0 69 yX0_roll, Cond.static yX0_roll, Cond.code yX0_roll cX0_roll 3 (some .int), Cond.methodLink RX0 61 Lib.Math.abs.name, Cond.static Lib.Math.abs.name, Cond.initialized "java/lang/Math", Cond.code Lib.Math.abs.name Lib.Math.abs.code 1 (some .int)]
def wsX2_agreeWith : List Cond := .code yX2_agreeWith cX2_agreeWith 3 (some .boolean) :: ((wsX2_agreeWith_r1 ++ wsX2_agreeWith_r2) ++ wsX20 ++ wsX00)
def wsX3_init : List Cond := .code yX3_init cX3_init 1 none :: ([.methodLink RX3 3 objectInit, .instanceMethod objectInit, .code objectInit ⟨#[0xb1]⟩ 1 none, .arrayClass .byte, .fieldLink RX3 9 "WheelAreas$Tape" "bytes" "[B", .fieldLink RX3 15 "WheelAreas$Tape" "size" "I", .fieldLink RX3 19 "WheelAreas$Tape" "token" "I", .fieldLink RX3 22 "WheelAreas$Tape" "tokenFrom" "I", .fieldLink RX3 25 "WheelAreas$Tape" "tokenTo" "I"] ++ wsX30)
def wsX3_append : List Cond := .code yX3_append cX3_append 2 none :: ([.fieldLink RX3 15 "WheelAreas$Tape" "size" "I", .fieldLink RX3 9 "WheelAreas$Tape" "bytes" "[B"] ++ wsX30)
def wsX3_rewind : List Cond := .code yX3_rewind cX3_rewind 1 none :: ([.fieldLink RX3 25 "WheelAreas$Tape" "tokenTo" "I"] ++ wsX30)
def wsX3_endOfRun : List Cond := .code yX3_endOfRun cX3_endOfRun 5 (some .int) :: ([.fieldLink RX3 15 "WheelAreas$Tape" "size" "I", .fieldLink RX3 9 "WheelAreas$Tape" "bytes" "[B"] ++ wsX30)
def wsX3_nextToken : List Cond := .code yX3_nextToken cX3_nextToken 2 none :: ([.fieldLink RX3 25 "WheelAreas$Tape" "tokenTo" "I", .fieldLink RX3 22 "WheelAreas$Tape" "tokenFrom" "I", .fieldLink RX3 15 "WheelAreas$Tape" "size" "I", .fieldLink RX3 19 "WheelAreas$Tape" "token" "I", .fieldLink RX3 9 "WheelAreas$Tape" "bytes" "[B", .methodLink RX3 28 yX3_endOfRun, .instanceMethod yX3_endOfRun, .selects RX3 yX3_endOfRun yX3_endOfRun, .initialized RX3, .code yX3_endOfRun cX3_endOfRun 5 (some .int)] ++ wsX30)
def wsJ0_coder_7d493 : List Cond := .code yJ0_coder_7d493 cJ0_coder_7d493 1 (some .byte) :: ([.fieldLink RJ0 38 "java/lang/String" "COMPACT_STRINGS" "Z", .fieldLink RJ0 15 "java/lang/String" "coder" "B"])
def wsJ0_length_8abf5 : List Cond := .code yJ0_length_8abf5 cJ0_length_8abf5 1 (some .int) :: ([.fieldLink RJ0 9 "java/lang/String" "value" "[B", .methodLink RJ0 335 yJ0_coder_7d493, .instanceMethod yJ0_coder_7d493, .selects RJ0 yJ0_coder_7d493 yJ0_coder_7d493, .initialized RJ0, .code yJ0_coder_7d493 cJ0_coder_7d493 1 (some .byte), .fieldLink RJ0 38 "java/lang/String" "COMPACT_STRINGS" "Z", .fieldLink RJ0 15 "java/lang/String" "coder" "B"])
def wsJ0_isLatin1_aae02 : List Cond := .code yJ0_isLatin1_aae02 cJ0_isLatin1_aae02 1 (some .boolean) :: ([.fieldLink RJ0 38 "java/lang/String" "COMPACT_STRINGS" "Z", .fieldLink RJ0 15 "java/lang/String" "coder" "B"])
def wsJ3_checkIndex_8e157 : List Cond := .code yJ3_checkIndex_8e157 cJ3_checkIndex_8e157 3 (some .int) :: ([])
def wsJ0_checkIndex_df160 : List Cond := .code yJ0_checkIndex_df160 cJ0_checkIndex_df160 2 none :: ([.fieldLink RJ0 1053 "jdk/internal/util/Preconditions" "SIOOBE_FORMATTER" "Ljava/util/function/BiFunction;", .methodLink RJ0 1059 yJ3_checkIndex_8e157, .static yJ3_checkIndex_8e157, .initialized RJ3, .code yJ3_checkIndex_8e157 cJ3_checkIndex_8e157 3 (some .int)])
def wsJ1_charAt_3b067 : List Cond := .code yJ1_charAt_3b067 cJ1_charAt_3b067 2 (some .char) :: ([.methodLink RJ1 9 yJ0_checkIndex_df160, .static yJ0_checkIndex_df160, .initialized RJ0, .code yJ0_checkIndex_df160 cJ0_checkIndex_df160 2 none, .fieldLink RJ0 1053 "jdk/internal/util/Preconditions" "SIOOBE_FORMATTER" "Ljava/util/function/BiFunction;", .methodLink RJ0 1059 yJ3_checkIndex_8e157, .static yJ3_checkIndex_8e157, .initialized RJ3, .code yJ3_checkIndex_8e157 cJ3_checkIndex_8e157 3 (some .int)])
def wsJ2_length_9d52b : List Cond := .code yJ2_length_9d52b cJ2_length_9d52b 1 (some .int) :: ([])
def wsJ2_checkIndex_2214a : List Cond := .code yJ2_checkIndex_2214a cJ2_checkIndex_2214a 2 none :: ([.methodLink RJ2 48 yJ2_length_9d52b, .static yJ2_length_9d52b, .initialized RJ2, .code yJ2_length_9d52b cJ2_length_9d52b 1 (some .int), .methodLink RJ2 414 yJ0_checkIndex_df160, .static yJ0_checkIndex_df160, .initialized RJ0, .code yJ0_checkIndex_df160 cJ0_checkIndex_df160 2 none, .fieldLink RJ0 1053 "jdk/internal/util/Preconditions" "SIOOBE_FORMATTER" "Ljava/util/function/BiFunction;", .methodLink RJ0 1059 yJ3_checkIndex_8e157, .static yJ3_checkIndex_8e157, .initialized RJ3, .code yJ3_checkIndex_8e157 cJ3_checkIndex_8e157 3 (some .int)])
def wsJ2_getChar_3b067 : List Cond := .code yJ2_getChar_3b067 cJ2_getChar_3b067 2 (some .char) :: ([.fieldLink RJ2 44 "java/lang/StringUTF16" "$assertionsDisabled" "Z", .fieldLink RJ2 59 "java/lang/StringUTF16" "HI_BYTE_SHIFT" "I", .fieldLink RJ2 63 "java/lang/StringUTF16" "LO_BYTE_SHIFT" "I", .methodLink RJ2 48 yJ2_length_9d52b, .static yJ2_length_9d52b, .initialized RJ2, .code yJ2_length_9d52b cJ2_length_9d52b 1 (some .int)])
def wsJ2_charAt_3b067 : List Cond := .code yJ2_charAt_3b067 cJ2_charAt_3b067 2 (some .char) :: ([.methodLink RJ2 67 yJ2_checkIndex_2214a, .static yJ2_checkIndex_2214a, .initialized RJ2, .code yJ2_checkIndex_2214a cJ2_checkIndex_2214a 2 none, .methodLink RJ2 48 yJ2_length_9d52b, .static yJ2_length_9d52b, .code yJ2_length_9d52b cJ2_length_9d52b 1 (some .int), .methodLink RJ2 414 yJ0_checkIndex_df160, .static yJ0_checkIndex_df160, .initialized RJ0, .code yJ0_checkIndex_df160 cJ0_checkIndex_df160 2 none, .fieldLink RJ0 1053 "jdk/internal/util/Preconditions" "SIOOBE_FORMATTER" "Ljava/util/function/BiFunction;", .methodLink RJ0 1059 yJ3_checkIndex_8e157, .static yJ3_checkIndex_8e157, .initialized RJ3, .code yJ3_checkIndex_8e157 cJ3_checkIndex_8e157 3 (some .int), .methodLink RJ2 71 yJ2_getChar_3b067, .static yJ2_getChar_3b067, .code yJ2_getChar_3b067 cJ2_getChar_3b067 2 (some .char), .fieldLink RJ2 44 "java/lang/StringUTF16" "$assertionsDisabled" "Z", .fieldLink RJ2 59 "java/lang/StringUTF16" "HI_BYTE_SHIFT" "I", .fieldLink RJ2 63 "java/lang/StringUTF16" "LO_BYTE_SHIFT" "I"])
def wsJ0_charAt_5068e_r1 : List Cond := [Cond.fieldLink RJ0 9 "java/lang/String" "value" "[B", Cond.methodLink RJ0 492 yJ0_isLatin1_aae02, Cond.instanceMethod yJ0_isLatin1_aae02, Cond.selects RJ0 yJ0_isLatin1_aae02 yJ0_isLatin1_aae02, Cond.initialized RJ0, Cond.code yJ0_isLatin1_aae02 cJ0_isLatin1_aae02 1 (some .boolean), Cond.fieldLink RJ0 38 "java/lang/String" "COMPACT_STRINGS" "Z", Cond.fieldLink RJ0 15 "java/lang/String" "coder" "B", Cond.methodLink RJ0 495 yJ1_charAt_3b067, Cond.static yJ1_charAt_3b067, Cond.initialized RJ1, Cond.code yJ1_charAt_3b067 cJ1_charAt_3b067 2 (some .char), Cond.methodLink RJ1 9 yJ0_checkIndex_df160, Cond.static yJ0_checkIndex_df160, Cond.code yJ0_checkIndex_df160 cJ0_checkIndex_df160 2 none, Cond.fieldLink RJ0 1053 "jdk/internal/util/Preconditions" "SIOOBE_FORMATTER" "Ljava/util/function/BiFunction;", Cond.methodLink RJ0 1059 yJ3_checkIndex_8e157, Cond.static yJ3_checkIndex_8e157, Cond.initialized RJ3, Cond.code yJ3_checkIndex_8e157 cJ3_checkIndex_8e157 3 (some .int), Cond.methodLink RJ0 498 yJ2_charAt_3b067, Cond.static yJ2_charAt_3b067, Cond.initialized RJ2, Cond.code yJ2_charAt_3b067 cJ2_charAt_3b067 2 (some .char)]
def wsJ0_charAt_5068e_r2 : List Cond := [Cond.methodLink RJ2 67 yJ2_checkIndex_2214a, Cond.static yJ2_checkIndex_2214a, Cond.code yJ2_checkIndex_2214a cJ2_checkIndex_2214a 2 none, Cond.methodLink RJ2 48 yJ2_length_9d52b, Cond.static yJ2_length_9d52b, Cond.code yJ2_length_9d52b cJ2_length_9d52b 1 (some .int), Cond.methodLink RJ2 414 yJ0_checkIndex_df160, Cond.methodLink RJ2 71 yJ2_getChar_3b067, Cond.static yJ2_getChar_3b067, Cond.code yJ2_getChar_3b067 cJ2_getChar_3b067 2 (some .char), Cond.fieldLink RJ2 44 "java/lang/StringUTF16" "$assertionsDisabled" "Z", Cond.fieldLink RJ2 59 "java/lang/StringUTF16" "HI_BYTE_SHIFT" "I", Cond.fieldLink RJ2 63 "java/lang/StringUTF16" "LO_BYTE_SHIFT" "I"]
def wsJ0_charAt_5068e : List Cond := .code yJ0_charAt_5068e cJ0_charAt_5068e 2 (some .char) :: ((wsJ0_charAt_5068e_r1 ++ wsJ0_charAt_5068e_r2))
def wsX3_tokenIs_r1 : List Cond := [Cond.fieldLink RX3 25 "WheelAreas$Tape" "tokenTo" "I", Cond.fieldLink RX3 22 "WheelAreas$Tape" "tokenFrom" "I", Cond.fieldLink RX3 9 "WheelAreas$Tape" "bytes" "[B", Cond.methodLink RX3 32 yJ0_length_8abf5, Cond.instanceMethod yJ0_length_8abf5, Cond.selects RJ0 yJ0_length_8abf5 yJ0_length_8abf5, Cond.initialized RJ0, Cond.code yJ0_length_8abf5 cJ0_length_8abf5 1 (some .int), Cond.fieldLink RJ0 9 "java/lang/String" "value" "[B", Cond.methodLink RJ0 335 yJ0_coder_7d493, Cond.instanceMethod yJ0_coder_7d493, Cond.selects RJ0 yJ0_coder_7d493 yJ0_coder_7d493, Cond.code yJ0_coder_7d493 cJ0_coder_7d493 1 (some .byte), Cond.fieldLink RJ0 38 "java/lang/String" "COMPACT_STRINGS" "Z", Cond.fieldLink RJ0 15 "java/lang/String" "coder" "B", Cond.methodLink RX3 38 yJ0_charAt_5068e, Cond.instanceMethod yJ0_charAt_5068e, Cond.selects RJ0 yJ0_charAt_5068e yJ0_charAt_5068e, Cond.code yJ0_charAt_5068e cJ0_charAt_5068e 2 (some .char), Cond.methodLink RJ0 492 yJ0_isLatin1_aae02, Cond.instanceMethod yJ0_isLatin1_aae02, Cond.selects RJ0 yJ0_isLatin1_aae02 yJ0_isLatin1_aae02, Cond.code yJ0_isLatin1_aae02 cJ0_isLatin1_aae02 1 (some .boolean), Cond.methodLink RJ0 495 yJ1_charAt_3b067]
def wsX3_tokenIs_r2 : List Cond := [Cond.static yJ1_charAt_3b067, Cond.initialized RJ1, Cond.code yJ1_charAt_3b067 cJ1_charAt_3b067 2 (some .char), Cond.methodLink RJ1 9 yJ0_checkIndex_df160, Cond.static yJ0_checkIndex_df160, Cond.code yJ0_checkIndex_df160 cJ0_checkIndex_df160 2 none, Cond.fieldLink RJ0 1053 "jdk/internal/util/Preconditions" "SIOOBE_FORMATTER" "Ljava/util/function/BiFunction;", Cond.methodLink RJ0 1059 yJ3_checkIndex_8e157, Cond.static yJ3_checkIndex_8e157, Cond.initialized RJ3, Cond.code yJ3_checkIndex_8e157 cJ3_checkIndex_8e157 3 (some .int), Cond.methodLink RJ0 498 yJ2_charAt_3b067, Cond.static yJ2_charAt_3b067, Cond.initialized RJ2, Cond.code yJ2_charAt_3b067 cJ2_charAt_3b067 2 (some .char), Cond.methodLink RJ2 67 yJ2_checkIndex_2214a, Cond.static yJ2_checkIndex_2214a, Cond.code yJ2_checkIndex_2214a cJ2_checkIndex_2214a 2 none, Cond.methodLink RJ2 48 yJ2_length_9d52b, Cond.static yJ2_length_9d52b, Cond.code yJ2_length_9d52b cJ2_length_9d52b 1 (some .int), Cond.methodLink RJ2 414 yJ0_checkIndex_df160, Cond.methodLink RJ2 71 yJ2_getChar_3b067, Cond.static yJ2_getChar_3b067]
def wsX3_tokenIs_r3 : List Cond := [Cond.code yJ2_getChar_3b067 cJ2_getChar_3b067 2 (some .char), Cond.fieldLink RJ2 44 "java/lang/StringUTF16" "$assertionsDisabled" "Z", Cond.fieldLink RJ2 59 "java/lang/StringUTF16" "HI_BYTE_SHIFT" "I", Cond.fieldLink RJ2 63 "java/lang/StringUTF16" "LO_BYTE_SHIFT" "I"]
def wsX3_tokenIs : List Cond := .code yX3_tokenIs cX3_tokenIs 4 (some .boolean) :: ((wsX3_tokenIs_r1 ++ (wsX3_tokenIs_r2 ++ wsX3_tokenIs_r3)) ++ wsX30)
def wsX3_numberOfToken : List Cond := .code yX3_numberOfToken cX3_numberOfToken 3 (some .int) :: ([.fieldLink RX3 22 "WheelAreas$Tape" "tokenFrom" "I", .fieldLink RX3 25 "WheelAreas$Tape" "tokenTo" "I", .fieldLink RX3 9 "WheelAreas$Tape" "bytes" "[B"] ++ wsX30)
def wsX4_init_r1 : List Cond := [Cond.methodLink RX4 3 objectInit, Cond.instanceMethod objectInit, Cond.code objectInit ⟨#[0xb1]⟩ 1 none, Cond.classLink RX4 9 RX3, Cond.instantiable RX3 5, Cond.initialized RX3, Cond.fieldLink RX4 12 "WheelAreas$TextReader" "tape" "LWheelAreas$Tape;", Cond.classLink RX4 18 RX0, Cond.instantiable RX0 10, Cond.initialized RX0, Cond.fieldLink RX4 21 "WheelAreas$TextReader" "told" "LWheelAreas$Layout;", Cond.fieldLink RX4 25 "WheelAreas$TextReader" "poleTold" "Z", Cond.fieldLink RX4 29 "WheelAreas$TextReader" "lines" "I", Cond.fieldLink RX4 33 "WheelAreas$TextReader" "found" "I", Cond.fieldLink RX4 36 "WheelAreas$TextReader" "foundAt" "I", Cond.instanceMethod yX3_init, Cond.code yX3_init cX3_init 1 none, Cond.methodLink RX3 3 objectInit, Cond.arrayClass .byte, Cond.fieldLink RX3 9 "WheelAreas$Tape" "bytes" "[B", Cond.fieldLink RX3 15 "WheelAreas$Tape" "size" "I", Cond.fieldLink RX3 19 "WheelAreas$Tape" "token" "I", Cond.fieldLink RX3 22 "WheelAreas$Tape" "tokenFrom" "I", Cond.fieldLink RX3 25 "WheelAreas$Tape" "tokenTo" "I"]
def wsX4_init_r2 : List Cond := [Cond.instanceMethod yX0_init, Cond.code yX0_init cX0_init 1 none, Cond.methodLink RX0 3 objectInit, Cond.arrayClass .int, Cond.fieldLink RX0 9 "WheelAreas$Layout" "cornerX" "[I", Cond.fieldLink RX0 15 "WheelAreas$Layout" "cornerY" "[I", Cond.fieldLink RX0 18 "WheelAreas$Layout" "corners" "I", Cond.fieldLink RX0 22 "WheelAreas$Layout" "wheelKind" "[I", Cond.fieldLink RX0 25 "WheelAreas$Layout" "wheelStep" "[I", Cond.fieldLink RX0 28 "WheelAreas$Layout" "wheelReads" "[I", Cond.fieldLink RX0 31 "WheelAreas$Layout" "wheels" "I", Cond.fieldLink RX0 34 "WheelAreas$Layout" "poleX" "I", Cond.fieldLink RX0 37 "WheelAreas$Layout" "poleY" "I", Cond.fieldLink RX0 40 "WheelAreas$Layout" "traced" "I"]
def wsX4_init : List Cond := .code yX4_init cX4_init 1 none :: ((wsX4_init_r1 ++ wsX4_init_r2) ++ wsX30 ++ wsX40 ++ wsX00)
def wsX4_refuse : List Cond := .code yX4_refuse cX4_refuse 2 none :: ([.fieldLink RX4 33 "WheelAreas$TextReader" "found" "I", .fieldLink RX4 12 "WheelAreas$TextReader" "tape" "LWheelAreas$Tape;", .fieldLink RX4 119 "WheelAreas$Tape" "tokenFrom" "I", .fieldLink RX4 36 "WheelAreas$TextReader" "foundAt" "I"] ++ wsX40 ++ wsX30)
def wsX4_advance : List Cond := .code yX4_advance cX4_advance 1 none :: ([.fieldLink RX4 33 "WheelAreas$TextReader" "found" "I", .fieldLink RX4 12 "WheelAreas$TextReader" "tape" "LWheelAreas$Tape;", .fieldLink RX4 48 "WheelAreas$Tape" "token" "I", .methodLink RX4 116 yX3_nextToken, .instanceMethod yX3_nextToken, .selects RX3 yX3_nextToken yX3_nextToken, .initialized RX3, .code yX3_nextToken cX3_nextToken 2 none, .fieldLink RX3 25 "WheelAreas$Tape" "tokenTo" "I", .fieldLink RX3 22 "WheelAreas$Tape" "tokenFrom" "I", .fieldLink RX3 15 "WheelAreas$Tape" "size" "I", .fieldLink RX3 19 "WheelAreas$Tape" "token" "I", .fieldLink RX3 9 "WheelAreas$Tape" "bytes" "[B", .methodLink RX3 28 yX3_endOfRun, .instanceMethod yX3_endOfRun, .selects RX3 yX3_endOfRun yX3_endOfRun, .code yX3_endOfRun cX3_endOfRun 5 (some .int), .methodLink RX4 62 yX4_refuse, .instanceMethod yX4_refuse, .selects RX4 yX4_refuse yX4_refuse, .initialized RX4, .code yX4_refuse cX4_refuse 2 none, .fieldLink RX4 119 "WheelAreas$Tape" "tokenFrom" "I", .fieldLink RX4 36 "WheelAreas$TextReader" "foundAt" "I"] ++ wsX40 ++ wsX30)
def wsX4_nameOf : List Cond := .code yX4_nameOf cX4_nameOf 1 (some (.object "java/lang/String")) :: ([])
def wsX4_wordOfToken_r1 : List Cond := [Cond.fieldLink RX4 12 "WheelAreas$TextReader" "tape" "LWheelAreas$Tape;", Cond.fieldLink RX4 48 "WheelAreas$Tape" "token" "I", Cond.methodLink RX4 77 yX4_nameOf, Cond.static yX4_nameOf, Cond.initialized RX4, Cond.code yX4_nameOf cX4_nameOf 1 (some (.object "java/lang/String")), Cond.methodLink RX4 81 yX3_tokenIs, Cond.instanceMethod yX3_tokenIs, Cond.selects RX3 yX3_tokenIs yX3_tokenIs, Cond.initialized RX3, Cond.code yX3_tokenIs cX3_tokenIs 4 (some .boolean), Cond.fieldLink RX3 25 "WheelAreas$Tape" "tokenTo" "I", Cond.fieldLink RX3 22 "WheelAreas$Tape" "tokenFrom" "I", Cond.fieldLink RX3 9 "WheelAreas$Tape" "bytes" "[B", Cond.methodLink RX3 32 yJ0_length_8abf5, Cond.instanceMethod yJ0_length_8abf5, Cond.selects RJ0 yJ0_length_8abf5 yJ0_length_8abf5, Cond.initialized RJ0, Cond.code yJ0_length_8abf5 cJ0_length_8abf5 1 (some .int), Cond.fieldLink RJ0 9 "java/lang/String" "value" "[B", Cond.methodLink RJ0 335 yJ0_coder_7d493, Cond.instanceMethod yJ0_coder_7d493, Cond.selects RJ0 yJ0_coder_7d493 yJ0_coder_7d493, Cond.code yJ0_coder_7d493 cJ0_coder_7d493 1 (some .byte)]
def wsX4_wordOfToken_r2 : List Cond := [Cond.fieldLink RJ0 38 "java/lang/String" "COMPACT_STRINGS" "Z", Cond.fieldLink RJ0 15 "java/lang/String" "coder" "B", Cond.methodLink RX3 38 yJ0_charAt_5068e, Cond.instanceMethod yJ0_charAt_5068e, Cond.selects RJ0 yJ0_charAt_5068e yJ0_charAt_5068e, Cond.code yJ0_charAt_5068e cJ0_charAt_5068e 2 (some .char), Cond.methodLink RJ0 492 yJ0_isLatin1_aae02, Cond.instanceMethod yJ0_isLatin1_aae02, Cond.selects RJ0 yJ0_isLatin1_aae02 yJ0_isLatin1_aae02, Cond.code yJ0_isLatin1_aae02 cJ0_isLatin1_aae02 1 (some .boolean), Cond.methodLink RJ0 495 yJ1_charAt_3b067, Cond.static yJ1_charAt_3b067, Cond.initialized RJ1, Cond.code yJ1_charAt_3b067 cJ1_charAt_3b067 2 (some .char), Cond.methodLink RJ1 9 yJ0_checkIndex_df160, Cond.static yJ0_checkIndex_df160, Cond.code yJ0_checkIndex_df160 cJ0_checkIndex_df160 2 none, Cond.fieldLink RJ0 1053 "jdk/internal/util/Preconditions" "SIOOBE_FORMATTER" "Ljava/util/function/BiFunction;", Cond.methodLink RJ0 1059 yJ3_checkIndex_8e157, Cond.static yJ3_checkIndex_8e157, Cond.initialized RJ3, Cond.code yJ3_checkIndex_8e157 cJ3_checkIndex_8e157 3 (some .int), Cond.methodLink RJ0 498 yJ2_charAt_3b067, Cond.static yJ2_charAt_3b067]
def wsX4_wordOfToken_r3 : List Cond := [Cond.initialized RJ2, Cond.code yJ2_charAt_3b067 cJ2_charAt_3b067 2 (some .char), Cond.methodLink RJ2 67 yJ2_checkIndex_2214a, Cond.static yJ2_checkIndex_2214a, Cond.code yJ2_checkIndex_2214a cJ2_checkIndex_2214a 2 none, Cond.methodLink RJ2 48 yJ2_length_9d52b, Cond.static yJ2_length_9d52b, Cond.code yJ2_length_9d52b cJ2_length_9d52b 1 (some .int), Cond.methodLink RJ2 414 yJ0_checkIndex_df160, Cond.methodLink RJ2 71 yJ2_getChar_3b067, Cond.static yJ2_getChar_3b067, Cond.code yJ2_getChar_3b067 cJ2_getChar_3b067 2 (some .char), Cond.fieldLink RJ2 44 "java/lang/StringUTF16" "$assertionsDisabled" "Z", Cond.fieldLink RJ2 59 "java/lang/StringUTF16" "HI_BYTE_SHIFT" "I", Cond.fieldLink RJ2 63 "java/lang/StringUTF16" "LO_BYTE_SHIFT" "I"]
def wsX4_wordOfToken : List Cond := .code yX4_wordOfToken cX4_wordOfToken 2 (some .int) :: ((wsX4_wordOfToken_r1 ++ (wsX4_wordOfToken_r2 ++ wsX4_wordOfToken_r3)) ++ wsX40 ++ wsX30)
def wsX4_faultOfWord : List Cond := .code yX4_faultOfWord cX4_faultOfWord 2 (some .int) :: ([.fieldLink RX4 25 "WheelAreas$TextReader" "poleTold" "Z", .fieldLink RX4 21 "WheelAreas$TextReader" "told" "LWheelAreas$Layout;", .fieldLink RX4 97 "WheelAreas$Layout" "corners" "I", .fieldLink RX4 100 "WheelAreas$Layout" "wheels" "I"] ++ wsX40 ++ wsX00)
def wsX4_takeNumber_r1 : List Cond := [Cond.fieldLink RX4 12 "WheelAreas$TextReader" "tape" "LWheelAreas$Tape;", Cond.fieldLink RX4 48 "WheelAreas$Tape" "token" "I", Cond.methodLink RX4 45 yX4_advance, Cond.instanceMethod yX4_advance, Cond.selects RX4 yX4_advance yX4_advance, Cond.initialized RX4, Cond.code yX4_advance cX4_advance 1 none, Cond.fieldLink RX4 33 "WheelAreas$TextReader" "found" "I", Cond.methodLink RX4 116 yX3_nextToken, Cond.instanceMethod yX3_nextToken, Cond.selects RX3 yX3_nextToken yX3_nextToken, Cond.initialized RX3, Cond.code yX3_nextToken cX3_nextToken 2 none, Cond.fieldLink RX3 25 "WheelAreas$Tape" "tokenTo" "I", Cond.fieldLink RX3 22 "WheelAreas$Tape" "tokenFrom" "I", Cond.fieldLink RX3 15 "WheelAreas$Tape" "size" "I", Cond.fieldLink RX3 19 "WheelAreas$Tape" "token" "I", Cond.fieldLink RX3 9 "WheelAreas$Tape" "bytes" "[B", Cond.methodLink RX3 28 yX3_endOfRun, Cond.instanceMethod yX3_endOfRun, Cond.selects RX3 yX3_endOfRun yX3_endOfRun, Cond.code yX3_endOfRun cX3_endOfRun 5 (some .int), Cond.methodLink RX4 62 yX4_refuse, Cond.instanceMethod yX4_refuse]
def wsX4_takeNumber_r2 : List Cond := [Cond.selects RX4 yX4_refuse yX4_refuse, Cond.code yX4_refuse cX4_refuse 2 none, Cond.fieldLink RX4 119 "WheelAreas$Tape" "tokenFrom" "I", Cond.fieldLink RX4 36 "WheelAreas$TextReader" "foundAt" "I", Cond.methodLink RX4 113 yX3_numberOfToken, Cond.instanceMethod yX3_numberOfToken, Cond.selects RX3 yX3_numberOfToken yX3_numberOfToken, Cond.code yX3_numberOfToken cX3_numberOfToken 3 (some .int)]
def wsX4_takeNumber : List Cond := .code yX4_takeNumber cX4_takeNumber 4 (some .int) :: ((wsX4_takeNumber_r1 ++ wsX4_takeNumber_r2) ++ wsX40 ++ wsX30)
def wsX4_takeSemicolon_r1 : List Cond := [Cond.fieldLink RX4 12 "WheelAreas$TextReader" "tape" "LWheelAreas$Tape;", Cond.fieldLink RX4 48 "WheelAreas$Tape" "token" "I", Cond.methodLink RX4 45 yX4_advance, Cond.instanceMethod yX4_advance, Cond.selects RX4 yX4_advance yX4_advance, Cond.initialized RX4, Cond.code yX4_advance cX4_advance 1 none, Cond.fieldLink RX4 33 "WheelAreas$TextReader" "found" "I", Cond.methodLink RX4 116 yX3_nextToken, Cond.instanceMethod yX3_nextToken, Cond.selects RX3 yX3_nextToken yX3_nextToken, Cond.initialized RX3, Cond.code yX3_nextToken cX3_nextToken 2 none, Cond.fieldLink RX3 25 "WheelAreas$Tape" "tokenTo" "I", Cond.fieldLink RX3 22 "WheelAreas$Tape" "tokenFrom" "I", Cond.fieldLink RX3 15 "WheelAreas$Tape" "size" "I", Cond.fieldLink RX3 19 "WheelAreas$Tape" "token" "I", Cond.fieldLink RX3 9 "WheelAreas$Tape" "bytes" "[B", Cond.methodLink RX3 28 yX3_endOfRun, Cond.instanceMethod yX3_endOfRun, Cond.selects RX3 yX3_endOfRun yX3_endOfRun, Cond.code yX3_endOfRun cX3_endOfRun 5 (some .int), Cond.methodLink RX4 62 yX4_refuse, Cond.instanceMethod yX4_refuse]
def wsX4_takeSemicolon_r2 : List Cond := [Cond.selects RX4 yX4_refuse yX4_refuse, Cond.code yX4_refuse cX4_refuse 2 none, Cond.fieldLink RX4 119 "WheelAreas$Tape" "tokenFrom" "I", Cond.fieldLink RX4 36 "WheelAreas$TextReader" "foundAt" "I"]
def wsX4_takeSemicolon : List Cond := .code yX4_takeSemicolon cX4_takeSemicolon 1 none :: ((wsX4_takeSemicolon_r1 ++ wsX4_takeSemicolon_r2) ++ wsX40 ++ wsX30)
def wsX4_tell : List Cond := .code yX4_tell cX4_tell 4 none :: ([.fieldLink RX4 21 "WheelAreas$TextReader" "told" "LWheelAreas$Layout;", .fieldLink RX4 25 "WheelAreas$TextReader" "poleTold" "Z", .methodLink RX4 103 yX0_movePole, .instanceMethod yX0_movePole, .selects RX0 yX0_movePole yX0_movePole, .initialized RX0, .code yX0_movePole cX0_movePole 3 none, .fieldLink RX0 34 "WheelAreas$Layout" "poleX" "I", .fieldLink RX0 37 "WheelAreas$Layout" "poleY" "I", .methodLink RX4 107 yX0_appendCorner, .instanceMethod yX0_appendCorner, .selects RX0 yX0_appendCorner yX0_appendCorner, .code yX0_appendCorner cX0_appendCorner 3 none, .fieldLink RX0 18 "WheelAreas$Layout" "corners" "I", .fieldLink RX0 9 "WheelAreas$Layout" "cornerX" "[I", .fieldLink RX0 15 "WheelAreas$Layout" "cornerY" "[I", .methodLink RX4 110 yX0_appendWheel, .instanceMethod yX0_appendWheel, .selects RX0 yX0_appendWheel yX0_appendWheel, .code yX0_appendWheel cX0_appendWheel 3 none, .fieldLink RX0 31 "WheelAreas$Layout" "wheels" "I", .fieldLink RX0 22 "WheelAreas$Layout" "wheelKind" "[I", .fieldLink RX0 25 "WheelAreas$Layout" "wheelStep" "[I", .fieldLink RX0 28 "WheelAreas$Layout" "wheelReads" "[I"] ++ wsX40 ++ wsX00)
def wsX4_readLine_r1 : List Cond := [Cond.fieldLink RX4 33 "WheelAreas$TextReader" "found" "I", Cond.methodLink RX4 54 yX4_wordOfToken, Cond.instanceMethod yX4_wordOfToken, Cond.selects RX4 yX4_wordOfToken yX4_wordOfToken, Cond.initialized RX4, Cond.code yX4_wordOfToken cX4_wordOfToken 2 (some .int), Cond.fieldLink RX4 12 "WheelAreas$TextReader" "tape" "LWheelAreas$Tape;", Cond.fieldLink RX4 48 "WheelAreas$Tape" "token" "I", Cond.methodLink RX4 77 yX4_nameOf, Cond.static yX4_nameOf, Cond.code yX4_nameOf cX4_nameOf 1 (some (.object "java/lang/String")), Cond.methodLink RX4 81 yX3_tokenIs, Cond.instanceMethod yX3_tokenIs, Cond.selects RX3 yX3_tokenIs yX3_tokenIs, Cond.initialized RX3, Cond.code yX3_tokenIs cX3_tokenIs 4 (some .boolean), Cond.fieldLink RX3 25 "WheelAreas$Tape" "tokenTo" "I", Cond.fieldLink RX3 22 "WheelAreas$Tape" "tokenFrom" "I", Cond.fieldLink RX3 9 "WheelAreas$Tape" "bytes" "[B", Cond.methodLink RX3 32 yJ0_length_8abf5, Cond.instanceMethod yJ0_length_8abf5, Cond.selects RJ0 yJ0_length_8abf5 yJ0_length_8abf5, Cond.initialized RJ0, Cond.code yJ0_length_8abf5 cJ0_length_8abf5 1 (some .int)]
def wsX4_readLine_r2 : List Cond := [Cond.fieldLink RJ0 9 "java/lang/String" "value" "[B", Cond.methodLink RJ0 335 yJ0_coder_7d493, Cond.instanceMethod yJ0_coder_7d493, Cond.selects RJ0 yJ0_coder_7d493 yJ0_coder_7d493, Cond.code yJ0_coder_7d493 cJ0_coder_7d493 1 (some .byte), Cond.fieldLink RJ0 38 "java/lang/String" "COMPACT_STRINGS" "Z", Cond.fieldLink RJ0 15 "java/lang/String" "coder" "B", Cond.methodLink RX3 38 yJ0_charAt_5068e, Cond.instanceMethod yJ0_charAt_5068e, Cond.selects RJ0 yJ0_charAt_5068e yJ0_charAt_5068e, Cond.code yJ0_charAt_5068e cJ0_charAt_5068e 2 (some .char), Cond.methodLink RJ0 492 yJ0_isLatin1_aae02, Cond.instanceMethod yJ0_isLatin1_aae02, Cond.selects RJ0 yJ0_isLatin1_aae02 yJ0_isLatin1_aae02, Cond.code yJ0_isLatin1_aae02 cJ0_isLatin1_aae02 1 (some .boolean), Cond.methodLink RJ0 495 yJ1_charAt_3b067, Cond.static yJ1_charAt_3b067, Cond.initialized RJ1, Cond.code yJ1_charAt_3b067 cJ1_charAt_3b067 2 (some .char), Cond.methodLink RJ1 9 yJ0_checkIndex_df160, Cond.static yJ0_checkIndex_df160, Cond.code yJ0_checkIndex_df160 cJ0_checkIndex_df160 2 none, Cond.fieldLink RJ0 1053 "jdk/internal/util/Preconditions" "SIOOBE_FORMATTER" "Ljava/util/function/BiFunction;", Cond.methodLink RJ0 1059 yJ3_checkIndex_8e157]
def wsX4_readLine_r3 : List Cond := [Cond.static yJ3_checkIndex_8e157, Cond.initialized RJ3, Cond.code yJ3_checkIndex_8e157 cJ3_checkIndex_8e157 3 (some .int), Cond.methodLink RJ0 498 yJ2_charAt_3b067, Cond.static yJ2_charAt_3b067, Cond.initialized RJ2, Cond.code yJ2_charAt_3b067 cJ2_charAt_3b067 2 (some .char), Cond.methodLink RJ2 67 yJ2_checkIndex_2214a, Cond.static yJ2_checkIndex_2214a, Cond.code yJ2_checkIndex_2214a cJ2_checkIndex_2214a 2 none, Cond.methodLink RJ2 48 yJ2_length_9d52b, Cond.static yJ2_length_9d52b, Cond.code yJ2_length_9d52b cJ2_length_9d52b 1 (some .int), Cond.methodLink RJ2 414 yJ0_checkIndex_df160, Cond.methodLink RJ2 71 yJ2_getChar_3b067, Cond.static yJ2_getChar_3b067, Cond.code yJ2_getChar_3b067 cJ2_getChar_3b067 2 (some .char), Cond.fieldLink RJ2 44 "java/lang/StringUTF16" "$assertionsDisabled" "Z", Cond.fieldLink RJ2 59 "java/lang/StringUTF16" "HI_BYTE_SHIFT" "I", Cond.fieldLink RJ2 63 "java/lang/StringUTF16" "LO_BYTE_SHIFT" "I", Cond.methodLink RX4 58 yX4_faultOfWord, Cond.instanceMethod yX4_faultOfWord, Cond.selects RX4 yX4_faultOfWord yX4_faultOfWord, Cond.code yX4_faultOfWord cX4_faultOfWord 2 (some .int)]
def wsX4_readLine_r4 : List Cond := [Cond.fieldLink RX4 25 "WheelAreas$TextReader" "poleTold" "Z", Cond.fieldLink RX4 21 "WheelAreas$TextReader" "told" "LWheelAreas$Layout;", Cond.fieldLink RX4 97 "WheelAreas$Layout" "corners" "I", Cond.fieldLink RX4 100 "WheelAreas$Layout" "wheels" "I", Cond.methodLink RX4 62 yX4_refuse, Cond.instanceMethod yX4_refuse, Cond.selects RX4 yX4_refuse yX4_refuse, Cond.code yX4_refuse cX4_refuse 2 none, Cond.fieldLink RX4 119 "WheelAreas$Tape" "tokenFrom" "I", Cond.fieldLink RX4 36 "WheelAreas$TextReader" "foundAt" "I", Cond.methodLink RX4 66 yX4_takeNumber, Cond.instanceMethod yX4_takeNumber, Cond.selects RX4 yX4_takeNumber yX4_takeNumber, Cond.code yX4_takeNumber cX4_takeNumber 4 (some .int), Cond.methodLink RX4 45 yX4_advance, Cond.instanceMethod yX4_advance, Cond.selects RX4 yX4_advance yX4_advance, Cond.code yX4_advance cX4_advance 1 none, Cond.methodLink RX4 116 yX3_nextToken, Cond.instanceMethod yX3_nextToken, Cond.selects RX3 yX3_nextToken yX3_nextToken, Cond.code yX3_nextToken cX3_nextToken 2 none, Cond.fieldLink RX3 15 "WheelAreas$Tape" "size" "I", Cond.fieldLink RX3 19 "WheelAreas$Tape" "token" "I"]
def wsX4_readLine_r5 : List Cond := [Cond.methodLink RX3 28 yX3_endOfRun, Cond.instanceMethod yX3_endOfRun, Cond.selects RX3 yX3_endOfRun yX3_endOfRun, Cond.code yX3_endOfRun cX3_endOfRun 5 (some .int), Cond.methodLink RX4 113 yX3_numberOfToken, Cond.instanceMethod yX3_numberOfToken, Cond.selects RX3 yX3_numberOfToken yX3_numberOfToken, Cond.code yX3_numberOfToken cX3_numberOfToken 3 (some .int), Cond.methodLink RX4 70 yX4_takeSemicolon, Cond.instanceMethod yX4_takeSemicolon, Cond.selects RX4 yX4_takeSemicolon yX4_takeSemicolon, Cond.code yX4_takeSemicolon cX4_takeSemicolon 1 none, Cond.methodLink RX4 73 yX4_tell, Cond.instanceMethod yX4_tell, Cond.selects RX4 yX4_tell yX4_tell, Cond.code yX4_tell cX4_tell 4 none, Cond.methodLink RX4 103 yX0_movePole, Cond.instanceMethod yX0_movePole, Cond.selects RX0 yX0_movePole yX0_movePole, Cond.initialized RX0, Cond.code yX0_movePole cX0_movePole 3 none, Cond.fieldLink RX0 34 "WheelAreas$Layout" "poleX" "I", Cond.fieldLink RX0 37 "WheelAreas$Layout" "poleY" "I", Cond.methodLink RX4 107 yX0_appendCorner]
def wsX4_readLine_r6 : List Cond := [Cond.instanceMethod yX0_appendCorner, Cond.selects RX0 yX0_appendCorner yX0_appendCorner, Cond.code yX0_appendCorner cX0_appendCorner 3 none, Cond.fieldLink RX0 18 "WheelAreas$Layout" "corners" "I", Cond.fieldLink RX0 9 "WheelAreas$Layout" "cornerX" "[I", Cond.fieldLink RX0 15 "WheelAreas$Layout" "cornerY" "[I", Cond.methodLink RX4 110 yX0_appendWheel, Cond.instanceMethod yX0_appendWheel, Cond.selects RX0 yX0_appendWheel yX0_appendWheel, Cond.code yX0_appendWheel cX0_appendWheel 3 none, Cond.fieldLink RX0 31 "WheelAreas$Layout" "wheels" "I", Cond.fieldLink RX0 22 "WheelAreas$Layout" "wheelKind" "[I", Cond.fieldLink RX0 25 "WheelAreas$Layout" "wheelStep" "[I", Cond.fieldLink RX0 28 "WheelAreas$Layout" "wheelReads" "[I"]
def wsX4_readLine : List Cond := .code yX4_readLine cX4_readLine 5 none :: ((wsX4_readLine_r1 ++ (wsX4_readLine_r2 ++ (wsX4_readLine_r3 ++ (wsX4_readLine_r4 ++ (wsX4_readLine_r5 ++ wsX4_readLine_r6))))) ++ wsX40 ++ wsX30 ++ wsX00)
def wsX4_readText_r1 : List Cond := [Cond.fieldLink RX4 12 "WheelAreas$TextReader" "tape" "LWheelAreas$Tape;", Cond.fieldLink RX4 21 "WheelAreas$TextReader" "told" "LWheelAreas$Layout;", Cond.fieldLink RX4 25 "WheelAreas$TextReader" "poleTold" "Z", Cond.fieldLink RX4 29 "WheelAreas$TextReader" "lines" "I", Cond.fieldLink RX4 33 "WheelAreas$TextReader" "found" "I", Cond.fieldLink RX4 36 "WheelAreas$TextReader" "foundAt" "I", Cond.fieldLink RX4 48 "WheelAreas$Tape" "token" "I", Cond.methodLink RX4 39 yX3_rewind, Cond.instanceMethod yX3_rewind, Cond.selects RX3 yX3_rewind yX3_rewind, Cond.initialized RX3, Cond.code yX3_rewind cX3_rewind 1 none, Cond.fieldLink RX3 25 "WheelAreas$Tape" "tokenTo" "I", Cond.methodLink RX4 42 yX0_clear, Cond.instanceMethod yX0_clear, Cond.selects RX0 yX0_clear yX0_clear, Cond.initialized RX0, Cond.code yX0_clear cX0_clear 1 none, Cond.fieldLink RX0 18 "WheelAreas$Layout" "corners" "I", Cond.fieldLink RX0 31 "WheelAreas$Layout" "wheels" "I", Cond.fieldLink RX0 34 "WheelAreas$Layout" "poleX" "I", Cond.fieldLink RX0 37 "WheelAreas$Layout" "poleY" "I", Cond.fieldLink RX0 40 "WheelAreas$Layout" "traced" "I", Cond.methodLink RX4 45 yX4_advance]
def wsX4_readText_r2 : List Cond := [Cond.instanceMethod yX4_advance, Cond.selects RX4 yX4_advance yX4_advance, Cond.initialized RX4, Cond.code yX4_advance cX4_advance 1 none, Cond.methodLink RX4 116 yX3_nextToken, Cond.instanceMethod yX3_nextToken, Cond.selects RX3 yX3_nextToken yX3_nextToken, Cond.code yX3_nextToken cX3_nextToken 2 none, Cond.fieldLink RX3 22 "WheelAreas$Tape" "tokenFrom" "I", Cond.fieldLink RX3 15 "WheelAreas$Tape" "size" "I", Cond.fieldLink RX3 19 "WheelAreas$Tape" "token" "I", Cond.fieldLink RX3 9 "WheelAreas$Tape" "bytes" "[B", Cond.methodLink RX3 28 yX3_endOfRun, Cond.instanceMethod yX3_endOfRun, Cond.selects RX3 yX3_endOfRun yX3_endOfRun, Cond.code yX3_endOfRun cX3_endOfRun 5 (some .int), Cond.methodLink RX4 62 yX4_refuse, Cond.instanceMethod yX4_refuse, Cond.selects RX4 yX4_refuse yX4_refuse, Cond.code yX4_refuse cX4_refuse 2 none, Cond.fieldLink RX4 119 "WheelAreas$Tape" "tokenFrom" "I", Cond.methodLink RX4 51 yX4_readLine, Cond.instanceMethod yX4_readLine, Cond.selects RX4 yX4_readLine yX4_readLine]
def wsX4_readText_r3 : List Cond := [Cond.code yX4_readLine cX4_readLine 5 none, Cond.methodLink RX4 54 yX4_wordOfToken, Cond.instanceMethod yX4_wordOfToken, Cond.selects RX4 yX4_wordOfToken yX4_wordOfToken, Cond.code yX4_wordOfToken cX4_wordOfToken 2 (some .int), Cond.methodLink RX4 77 yX4_nameOf, Cond.static yX4_nameOf, Cond.code yX4_nameOf cX4_nameOf 1 (some (.object "java/lang/String")), Cond.methodLink RX4 81 yX3_tokenIs, Cond.instanceMethod yX3_tokenIs, Cond.selects RX3 yX3_tokenIs yX3_tokenIs, Cond.code yX3_tokenIs cX3_tokenIs 4 (some .boolean), Cond.methodLink RX3 32 yJ0_length_8abf5, Cond.instanceMethod yJ0_length_8abf5, Cond.selects RJ0 yJ0_length_8abf5 yJ0_length_8abf5, Cond.initialized RJ0, Cond.code yJ0_length_8abf5 cJ0_length_8abf5 1 (some .int), Cond.fieldLink RJ0 9 "java/lang/String" "value" "[B", Cond.methodLink RJ0 335 yJ0_coder_7d493, Cond.instanceMethod yJ0_coder_7d493, Cond.selects RJ0 yJ0_coder_7d493 yJ0_coder_7d493, Cond.code yJ0_coder_7d493 cJ0_coder_7d493 1 (some .byte), Cond.fieldLink RJ0 38 "java/lang/String" "COMPACT_STRINGS" "Z", Cond.fieldLink RJ0 15 "java/lang/String" "coder" "B"]
def wsX4_readText_r4 : List Cond := [Cond.methodLink RX3 38 yJ0_charAt_5068e, Cond.instanceMethod yJ0_charAt_5068e, Cond.selects RJ0 yJ0_charAt_5068e yJ0_charAt_5068e, Cond.code yJ0_charAt_5068e cJ0_charAt_5068e 2 (some .char), Cond.methodLink RJ0 492 yJ0_isLatin1_aae02, Cond.instanceMethod yJ0_isLatin1_aae02, Cond.selects RJ0 yJ0_isLatin1_aae02 yJ0_isLatin1_aae02, Cond.code yJ0_isLatin1_aae02 cJ0_isLatin1_aae02 1 (some .boolean), Cond.methodLink RJ0 495 yJ1_charAt_3b067, Cond.static yJ1_charAt_3b067, Cond.initialized RJ1, Cond.code yJ1_charAt_3b067 cJ1_charAt_3b067 2 (some .char), Cond.methodLink RJ1 9 yJ0_checkIndex_df160, Cond.static yJ0_checkIndex_df160, Cond.code yJ0_checkIndex_df160 cJ0_checkIndex_df160 2 none, Cond.fieldLink RJ0 1053 "jdk/internal/util/Preconditions" "SIOOBE_FORMATTER" "Ljava/util/function/BiFunction;", Cond.methodLink RJ0 1059 yJ3_checkIndex_8e157, Cond.static yJ3_checkIndex_8e157, Cond.initialized RJ3, Cond.code yJ3_checkIndex_8e157 cJ3_checkIndex_8e157 3 (some .int), Cond.methodLink RJ0 498 yJ2_charAt_3b067, Cond.static yJ2_charAt_3b067, Cond.initialized RJ2, Cond.code yJ2_charAt_3b067 cJ2_charAt_3b067 2 (some .char)]
def wsX4_readText_r5 : List Cond := [Cond.methodLink RJ2 67 yJ2_checkIndex_2214a, Cond.static yJ2_checkIndex_2214a, Cond.code yJ2_checkIndex_2214a cJ2_checkIndex_2214a 2 none, Cond.methodLink RJ2 48 yJ2_length_9d52b, Cond.static yJ2_length_9d52b, Cond.code yJ2_length_9d52b cJ2_length_9d52b 1 (some .int), Cond.methodLink RJ2 414 yJ0_checkIndex_df160, Cond.methodLink RJ2 71 yJ2_getChar_3b067, Cond.static yJ2_getChar_3b067, Cond.code yJ2_getChar_3b067 cJ2_getChar_3b067 2 (some .char), Cond.fieldLink RJ2 44 "java/lang/StringUTF16" "$assertionsDisabled" "Z", Cond.fieldLink RJ2 59 "java/lang/StringUTF16" "HI_BYTE_SHIFT" "I", Cond.fieldLink RJ2 63 "java/lang/StringUTF16" "LO_BYTE_SHIFT" "I", Cond.methodLink RX4 58 yX4_faultOfWord, Cond.instanceMethod yX4_faultOfWord, Cond.selects RX4 yX4_faultOfWord yX4_faultOfWord, Cond.code yX4_faultOfWord cX4_faultOfWord 2 (some .int), Cond.fieldLink RX4 97 "WheelAreas$Layout" "corners" "I", Cond.fieldLink RX4 100 "WheelAreas$Layout" "wheels" "I", Cond.methodLink RX4 66 yX4_takeNumber, Cond.instanceMethod yX4_takeNumber, Cond.selects RX4 yX4_takeNumber yX4_takeNumber, Cond.code yX4_takeNumber cX4_takeNumber 4 (some .int), Cond.methodLink RX4 113 yX3_numberOfToken]
def wsX4_readText_r6 : List Cond := [Cond.instanceMethod yX3_numberOfToken, Cond.selects RX3 yX3_numberOfToken yX3_numberOfToken, Cond.code yX3_numberOfToken cX3_numberOfToken 3 (some .int), Cond.methodLink RX4 70 yX4_takeSemicolon, Cond.instanceMethod yX4_takeSemicolon, Cond.selects RX4 yX4_takeSemicolon yX4_takeSemicolon, Cond.code yX4_takeSemicolon cX4_takeSemicolon 1 none, Cond.methodLink RX4 73 yX4_tell, Cond.instanceMethod yX4_tell, Cond.selects RX4 yX4_tell yX4_tell, Cond.code yX4_tell cX4_tell 4 none, Cond.methodLink RX4 103 yX0_movePole, Cond.instanceMethod yX0_movePole, Cond.selects RX0 yX0_movePole yX0_movePole, Cond.code yX0_movePole cX0_movePole 3 none, Cond.methodLink RX4 107 yX0_appendCorner, Cond.instanceMethod yX0_appendCorner, Cond.selects RX0 yX0_appendCorner yX0_appendCorner, Cond.code yX0_appendCorner cX0_appendCorner 3 none, Cond.fieldLink RX0 9 "WheelAreas$Layout" "cornerX" "[I", Cond.fieldLink RX0 15 "WheelAreas$Layout" "cornerY" "[I", Cond.methodLink RX4 110 yX0_appendWheel, Cond.instanceMethod yX0_appendWheel, Cond.selects RX0 yX0_appendWheel yX0_appendWheel]
def wsX4_readText_r7 : List Cond := [Cond.code yX0_appendWheel cX0_appendWheel 3 none, Cond.fieldLink RX0 22 "WheelAreas$Layout" "wheelKind" "[I", Cond.fieldLink RX0 25 "WheelAreas$Layout" "wheelStep" "[I", Cond.fieldLink RX0 28 "WheelAreas$Layout" "wheelReads" "[I"]
def wsX4_readText : List Cond := .code yX4_readText cX4_readText 2 none :: ((wsX4_readText_r1 ++ (wsX4_readText_r2 ++ (wsX4_readText_r3 ++ (wsX4_readText_r4 ++ (wsX4_readText_r5 ++ (wsX4_readText_r6 ++ wsX4_readText_r7)))))) ++ wsX40 ++ wsX30 ++ wsX00)
def wsX5_init_r1 : List Cond := [Cond.methodLink RX5 1 objectInit, Cond.instanceMethod objectInit, Cond.code objectInit ⟨#[0xb1]⟩ 1 none, Cond.classLink RX5 7 RX0, Cond.instantiable RX0 10, Cond.initialized RX0, Cond.fieldLink RX5 10 "WheelAreas" "now" "LWheelAreas$Layout;", Cond.fieldLink RX5 16 "WheelAreas" "trial" "LWheelAreas$Layout;", Cond.fieldLink RX5 19 "WheelAreas" "images" "[LWheelAreas$Layout;", Cond.arrayClass .boolean, Cond.fieldLink RX5 23 "WheelAreas" "kept" "[Z", Cond.classLink RX5 27 RX4, Cond.instantiable RX4 6, Cond.initialized RX4, Cond.fieldLink RX5 30 "WheelAreas" "reader" "LWheelAreas$TextReader;", Cond.classLink RX5 34 RX2, Cond.instantiable RX2 4, Cond.initialized RX2, Cond.fieldLink RX5 37 "WheelAreas" "sightings" "LWheelAreas$Sightings;", Cond.classLink RX5 41 RX1, Cond.fieldLink RX5 43 "WheelAreas" "sheets" "[LWheelAreas$Sheet;", Cond.arrayClass .int, Cond.fieldLink RX5 47 "WheelAreas" "edgeRolls" "[I", Cond.fieldLink RX5 51 "WheelAreas" "readsByStep" "[I"]
def wsX5_init_r2 : List Cond := [Cond.fieldLink RX5 54 "WheelAreas" "textFault" "I", Cond.fieldLink RX5 58 "WheelAreas" "readFault" "I", Cond.instantiable RX1 3, Cond.initialized RX1, Cond.instanceMethod yX0_init, Cond.code yX0_init cX0_init 1 none, Cond.methodLink RX0 3 objectInit, Cond.fieldLink RX0 9 "WheelAreas$Layout" "cornerX" "[I", Cond.fieldLink RX0 15 "WheelAreas$Layout" "cornerY" "[I", Cond.fieldLink RX0 18 "WheelAreas$Layout" "corners" "I", Cond.fieldLink RX0 22 "WheelAreas$Layout" "wheelKind" "[I", Cond.fieldLink RX0 25 "WheelAreas$Layout" "wheelStep" "[I", Cond.fieldLink RX0 28 "WheelAreas$Layout" "wheelReads" "[I", Cond.fieldLink RX0 31 "WheelAreas$Layout" "wheels" "I", Cond.fieldLink RX0 34 "WheelAreas$Layout" "poleX" "I", Cond.fieldLink RX0 37 "WheelAreas$Layout" "poleY" "I", Cond.fieldLink RX0 40 "WheelAreas$Layout" "traced" "I", Cond.instanceMethod yX4_init, Cond.code yX4_init cX4_init 1 none, Cond.methodLink RX4 3 objectInit, Cond.classLink RX4 9 RX3, Cond.instantiable RX3 5, Cond.initialized RX3, Cond.fieldLink RX4 12 "WheelAreas$TextReader" "tape" "LWheelAreas$Tape;"]
def wsX5_init_r3 : List Cond := [Cond.classLink RX4 18 RX0, Cond.fieldLink RX4 21 "WheelAreas$TextReader" "told" "LWheelAreas$Layout;", Cond.fieldLink RX4 25 "WheelAreas$TextReader" "poleTold" "Z", Cond.fieldLink RX4 29 "WheelAreas$TextReader" "lines" "I", Cond.fieldLink RX4 33 "WheelAreas$TextReader" "found" "I", Cond.fieldLink RX4 36 "WheelAreas$TextReader" "foundAt" "I", Cond.instanceMethod yX3_init, Cond.code yX3_init cX3_init 1 none, Cond.methodLink RX3 3 objectInit, Cond.arrayClass .byte, Cond.fieldLink RX3 9 "WheelAreas$Tape" "bytes" "[B", Cond.fieldLink RX3 15 "WheelAreas$Tape" "size" "I", Cond.fieldLink RX3 19 "WheelAreas$Tape" "token" "I", Cond.fieldLink RX3 22 "WheelAreas$Tape" "tokenFrom" "I", Cond.fieldLink RX3 25 "WheelAreas$Tape" "tokenTo" "I", Cond.instanceMethod yX2_init, Cond.code yX2_init cX2_init 1 none, Cond.methodLink RX2 3 objectInit, Cond.fieldLink RX2 9 "WheelAreas$Sightings" "edges" "[I", Cond.fieldLink RX2 15 "WheelAreas$Sightings" "wheel" "[I", Cond.fieldLink RX2 18 "WheelAreas$Sightings" "reads" "[I", Cond.fieldLink RX2 21 "WheelAreas$Sightings" "size" "I", Cond.instanceMethod yX1_init, Cond.code yX1_init cX1_init 1 none]
def wsX5_init_r4 : List Cond := [Cond.methodLink RX1 3 objectInit, Cond.fieldLink RX1 9 "WheelAreas$Sheet" "cells" "[I", Cond.fieldLink RX1 15 "WheelAreas$Sheet" "lane" "I", Cond.fieldLink RX1 19 "WheelAreas$Sheet" "size" "I"]
def wsX5_init : List Cond := .code yX5_init cX5_init 2 none :: ((wsX5_init_r1 ++ (wsX5_init_r2 ++ (wsX5_init_r3 ++ wsX5_init_r4))) ++ wsX00 ++ wsX50 ++ wsX40 ++ wsX20 ++ wsX10 ++ wsX30)
def wsX5_feed : List Cond := .code yX5_feed cX5_feed 2 (some .int) :: ([.fieldLink RX5 30 "WheelAreas" "reader" "LWheelAreas$TextReader;", .fieldLink RX5 66 "WheelAreas$TextReader" "tape" "LWheelAreas$Tape;", .fieldLink RX5 70 "WheelAreas$Tape" "size" "I", .methodLink RX5 62 yX5_within, .static yX5_within, .initialized RX5, .code yX5_within cX5_within 3 (some .boolean), .methodLink RX5 75 yX3_append, .instanceMethod yX3_append, .selects RX3 yX3_append yX3_append, .initialized RX3, .code yX3_append cX3_append 2 none, .fieldLink RX3 15 "WheelAreas$Tape" "size" "I", .fieldLink RX3 9 "WheelAreas$Tape" "bytes" "[B"] ++ wsX50 ++ wsX40 ++ wsX30)
def wsX5_end : List Cond := .code yX5_end cX5_end 3 (some .int) :: ([.fieldLink RX5 30 "WheelAreas" "reader" "LWheelAreas$TextReader;", .fieldLink RX5 66 "WheelAreas$TextReader" "tape" "LWheelAreas$Tape;", .fieldLink RX5 70 "WheelAreas$Tape" "size" "I", .methodLink RX5 62 yX5_within, .static yX5_within, .initialized RX5, .code yX5_within cX5_within 3 (some .boolean)] ++ wsX50 ++ wsX40 ++ wsX30)
def wsX5_text_r1 : List Cond := [Cond.fieldLink RX5 30 "WheelAreas" "reader" "LWheelAreas$TextReader;", Cond.fieldLink RX5 66 "WheelAreas$TextReader" "tape" "LWheelAreas$Tape;", Cond.fieldLink RX5 70 "WheelAreas$Tape" "size" "I", Cond.fieldLink RX5 82 "WheelAreas$TextReader" "found" "I", Cond.fieldLink RX5 54 "WheelAreas" "textFault" "I", Cond.fieldLink RX5 85 "WheelAreas$TextReader" "foundAt" "I", Cond.fieldLink RX5 10 "WheelAreas" "now" "LWheelAreas$Layout;", Cond.fieldLink RX5 88 "WheelAreas$TextReader" "told" "LWheelAreas$Layout;", Cond.fieldLink RX5 37 "WheelAreas" "sightings" "LWheelAreas$Sightings;", Cond.fieldLink RX5 95 "WheelAreas$Sightings" "size" "I", Cond.fieldLink RX5 23 "WheelAreas" "kept" "[Z", Cond.fieldLink RX5 96 "WheelAreas$TextReader" "lines" "I", Cond.methodLink RX5 79 yX4_readText, Cond.instanceMethod yX4_readText, Cond.selects RX4 yX4_readText yX4_readText, Cond.initialized RX4, Cond.code yX4_readText cX4_readText 2 none, Cond.fieldLink RX4 12 "WheelAreas$TextReader" "tape" "LWheelAreas$Tape;", Cond.fieldLink RX4 21 "WheelAreas$TextReader" "told" "LWheelAreas$Layout;", Cond.fieldLink RX4 25 "WheelAreas$TextReader" "poleTold" "Z", Cond.fieldLink RX4 29 "WheelAreas$TextReader" "lines" "I", Cond.fieldLink RX4 33 "WheelAreas$TextReader" "found" "I", Cond.fieldLink RX4 36 "WheelAreas$TextReader" "foundAt" "I", Cond.fieldLink RX4 48 "WheelAreas$Tape" "token" "I"]
def wsX5_text_r2 : List Cond := [Cond.methodLink RX4 39 yX3_rewind, Cond.instanceMethod yX3_rewind, Cond.selects RX3 yX3_rewind yX3_rewind, Cond.initialized RX3, Cond.code yX3_rewind cX3_rewind 1 none, Cond.fieldLink RX3 25 "WheelAreas$Tape" "tokenTo" "I", Cond.methodLink RX4 42 yX0_clear, Cond.instanceMethod yX0_clear, Cond.selects RX0 yX0_clear yX0_clear, Cond.initialized RX0, Cond.code yX0_clear cX0_clear 1 none, Cond.fieldLink RX0 18 "WheelAreas$Layout" "corners" "I", Cond.fieldLink RX0 31 "WheelAreas$Layout" "wheels" "I", Cond.fieldLink RX0 34 "WheelAreas$Layout" "poleX" "I", Cond.fieldLink RX0 37 "WheelAreas$Layout" "poleY" "I", Cond.fieldLink RX0 40 "WheelAreas$Layout" "traced" "I", Cond.methodLink RX4 45 yX4_advance, Cond.instanceMethod yX4_advance, Cond.selects RX4 yX4_advance yX4_advance, Cond.code yX4_advance cX4_advance 1 none, Cond.methodLink RX4 116 yX3_nextToken, Cond.instanceMethod yX3_nextToken, Cond.selects RX3 yX3_nextToken yX3_nextToken, Cond.code yX3_nextToken cX3_nextToken 2 none]
def wsX5_text_r3 : List Cond := [Cond.fieldLink RX3 22 "WheelAreas$Tape" "tokenFrom" "I", Cond.fieldLink RX3 15 "WheelAreas$Tape" "size" "I", Cond.fieldLink RX3 19 "WheelAreas$Tape" "token" "I", Cond.fieldLink RX3 9 "WheelAreas$Tape" "bytes" "[B", Cond.methodLink RX3 28 yX3_endOfRun, Cond.instanceMethod yX3_endOfRun, Cond.selects RX3 yX3_endOfRun yX3_endOfRun, Cond.code yX3_endOfRun cX3_endOfRun 5 (some .int), Cond.methodLink RX4 62 yX4_refuse, Cond.instanceMethod yX4_refuse, Cond.selects RX4 yX4_refuse yX4_refuse, Cond.code yX4_refuse cX4_refuse 2 none, Cond.fieldLink RX4 119 "WheelAreas$Tape" "tokenFrom" "I", Cond.methodLink RX4 51 yX4_readLine, Cond.instanceMethod yX4_readLine, Cond.selects RX4 yX4_readLine yX4_readLine, Cond.code yX4_readLine cX4_readLine 5 none, Cond.methodLink RX4 54 yX4_wordOfToken, Cond.instanceMethod yX4_wordOfToken, Cond.selects RX4 yX4_wordOfToken yX4_wordOfToken, Cond.code yX4_wordOfToken cX4_wordOfToken 2 (some .int), Cond.methodLink RX4 77 yX4_nameOf, Cond.static yX4_nameOf, Cond.code yX4_nameOf cX4_nameOf 1 (some (.object "java/lang/String"))]
def wsX5_text_r4 : List Cond := [Cond.methodLink RX4 81 yX3_tokenIs, Cond.instanceMethod yX3_tokenIs, Cond.selects RX3 yX3_tokenIs yX3_tokenIs, Cond.code yX3_tokenIs cX3_tokenIs 4 (some .boolean), Cond.methodLink RX3 32 yJ0_length_8abf5, Cond.instanceMethod yJ0_length_8abf5, Cond.selects RJ0 yJ0_length_8abf5 yJ0_length_8abf5, Cond.initialized RJ0, Cond.code yJ0_length_8abf5 cJ0_length_8abf5 1 (some .int), Cond.fieldLink RJ0 9 "java/lang/String" "value" "[B", Cond.methodLink RJ0 335 yJ0_coder_7d493, Cond.instanceMethod yJ0_coder_7d493, Cond.selects RJ0 yJ0_coder_7d493 yJ0_coder_7d493, Cond.code yJ0_coder_7d493 cJ0_coder_7d493 1 (some .byte), Cond.fieldLink RJ0 38 "java/lang/String" "COMPACT_STRINGS" "Z", Cond.fieldLink RJ0 15 "java/lang/String" "coder" "B", Cond.methodLink RX3 38 yJ0_charAt_5068e, Cond.instanceMethod yJ0_charAt_5068e, Cond.selects RJ0 yJ0_charAt_5068e yJ0_charAt_5068e, Cond.code yJ0_charAt_5068e cJ0_charAt_5068e 2 (some .char), Cond.methodLink RJ0 492 yJ0_isLatin1_aae02, Cond.instanceMethod yJ0_isLatin1_aae02, Cond.selects RJ0 yJ0_isLatin1_aae02 yJ0_isLatin1_aae02, Cond.code yJ0_isLatin1_aae02 cJ0_isLatin1_aae02 1 (some .boolean)]
def wsX5_text_r5 : List Cond := [Cond.methodLink RJ0 495 yJ1_charAt_3b067, Cond.static yJ1_charAt_3b067, Cond.initialized RJ1, Cond.code yJ1_charAt_3b067 cJ1_charAt_3b067 2 (some .char), Cond.methodLink RJ1 9 yJ0_checkIndex_df160, Cond.static yJ0_checkIndex_df160, Cond.code yJ0_checkIndex_df160 cJ0_checkIndex_df160 2 none, Cond.fieldLink RJ0 1053 "jdk/internal/util/Preconditions" "SIOOBE_FORMATTER" "Ljava/util/function/BiFunction;", Cond.methodLink RJ0 1059 yJ3_checkIndex_8e157, Cond.static yJ3_checkIndex_8e157, Cond.initialized RJ3, Cond.code yJ3_checkIndex_8e157 cJ3_checkIndex_8e157 3 (some .int), Cond.methodLink RJ0 498 yJ2_charAt_3b067, Cond.static yJ2_charAt_3b067, Cond.initialized RJ2, Cond.code yJ2_charAt_3b067 cJ2_charAt_3b067 2 (some .char), Cond.methodLink RJ2 67 yJ2_checkIndex_2214a, Cond.static yJ2_checkIndex_2214a, Cond.code yJ2_checkIndex_2214a cJ2_checkIndex_2214a 2 none, Cond.methodLink RJ2 48 yJ2_length_9d52b, Cond.static yJ2_length_9d52b, Cond.code yJ2_length_9d52b cJ2_length_9d52b 1 (some .int), Cond.methodLink RJ2 414 yJ0_checkIndex_df160, Cond.methodLink RJ2 71 yJ2_getChar_3b067]
def wsX5_text_r6 : List Cond := [Cond.static yJ2_getChar_3b067, Cond.code yJ2_getChar_3b067 cJ2_getChar_3b067 2 (some .char), Cond.fieldLink RJ2 44 "java/lang/StringUTF16" "$assertionsDisabled" "Z", Cond.fieldLink RJ2 59 "java/lang/StringUTF16" "HI_BYTE_SHIFT" "I", Cond.fieldLink RJ2 63 "java/lang/StringUTF16" "LO_BYTE_SHIFT" "I", Cond.methodLink RX4 58 yX4_faultOfWord, Cond.instanceMethod yX4_faultOfWord, Cond.selects RX4 yX4_faultOfWord yX4_faultOfWord, Cond.code yX4_faultOfWord cX4_faultOfWord 2 (some .int), Cond.fieldLink RX4 97 "WheelAreas$Layout" "corners" "I", Cond.fieldLink RX4 100 "WheelAreas$Layout" "wheels" "I", Cond.methodLink RX4 66 yX4_takeNumber, Cond.instanceMethod yX4_takeNumber, Cond.selects RX4 yX4_takeNumber yX4_takeNumber, Cond.code yX4_takeNumber cX4_takeNumber 4 (some .int), Cond.methodLink RX4 113 yX3_numberOfToken, Cond.instanceMethod yX3_numberOfToken, Cond.selects RX3 yX3_numberOfToken yX3_numberOfToken, Cond.code yX3_numberOfToken cX3_numberOfToken 3 (some .int), Cond.methodLink RX4 70 yX4_takeSemicolon, Cond.instanceMethod yX4_takeSemicolon, Cond.selects RX4 yX4_takeSemicolon yX4_takeSemicolon, Cond.code yX4_takeSemicolon cX4_takeSemicolon 1 none, Cond.methodLink RX4 73 yX4_tell]
def wsX5_text_r7 : List Cond := [Cond.instanceMethod yX4_tell, Cond.selects RX4 yX4_tell yX4_tell, Cond.code yX4_tell cX4_tell 4 none, Cond.methodLink RX4 103 yX0_movePole, Cond.instanceMethod yX0_movePole, Cond.selects RX0 yX0_movePole yX0_movePole, Cond.code yX0_movePole cX0_movePole 3 none, Cond.methodLink RX4 107 yX0_appendCorner, Cond.instanceMethod yX0_appendCorner, Cond.selects RX0 yX0_appendCorner yX0_appendCorner, Cond.code yX0_appendCorner cX0_appendCorner 3 none, Cond.fieldLink RX0 9 "WheelAreas$Layout" "cornerX" "[I", Cond.fieldLink RX0 15 "WheelAreas$Layout" "cornerY" "[I", Cond.methodLink RX4 110 yX0_appendWheel, Cond.instanceMethod yX0_appendWheel, Cond.selects RX0 yX0_appendWheel yX0_appendWheel, Cond.code yX0_appendWheel cX0_appendWheel 3 none, Cond.fieldLink RX0 22 "WheelAreas$Layout" "wheelKind" "[I", Cond.fieldLink RX0 25 "WheelAreas$Layout" "wheelStep" "[I", Cond.fieldLink RX0 28 "WheelAreas$Layout" "wheelReads" "[I", Cond.methodLink RX5 91 yX0_copyFrom, Cond.instanceMethod yX0_copyFrom, Cond.selects RX0 yX0_copyFrom yX0_copyFrom, Cond.code yX0_copyFrom cX0_copyFrom 2 none]
def wsX5_text_r8 : List Cond := [Cond.methodLink RX0 43 arraycopyName, Cond.native arraycopyName, Cond.static arraycopyName, Cond.initialized "java/lang/System"]
def wsX5_text : List Cond := .code yX5_text cX5_text 2 (some .int) :: ((wsX5_text_r1 ++ (wsX5_text_r2 ++ (wsX5_text_r3 ++ (wsX5_text_r4 ++ (wsX5_text_r5 ++ (wsX5_text_r6 ++ (wsX5_text_r7 ++ wsX5_text_r8))))))) ++ wsX50 ++ wsX40 ++ wsX30 ++ wsX20 ++ wsX00)
def wsX5_fault : List Cond := .code yX5_fault cX5_fault 1 (some .int) :: ([.fieldLink RX5 54 "WheelAreas" "textFault" "I"] ++ wsX50)
def wsX5_rule_r1 : List Cond := [Cond.fieldLink RX5 10 "WheelAreas" "now" "LWheelAreas$Layout;", Cond.fieldLink RX5 99 "WheelAreas$Layout" "corners" "I", Cond.fieldLink RX5 102 "WheelAreas$Layout" "wheels" "I", Cond.fieldLink RX5 105 "WheelAreas$Layout" "traced" "I", Cond.constant RX5 108 (100000), Cond.fieldLink RX5 117 "WheelAreas$Layout" "poleX" "I", Cond.fieldLink RX5 120 "WheelAreas$Layout" "poleY" "I", Cond.methodLink RX5 109 yX0_area, Cond.instanceMethod yX0_area, Cond.selects RX0 yX0_area yX0_area, Cond.initialized RX0, Cond.code yX0_area cX0_area 3 (some .int), Cond.fieldLink RX0 18 "WheelAreas$Layout" "corners" "I", Cond.methodLink RX0 53 yX0_sweepOf, Cond.instanceMethod yX0_sweepOf, Cond.selects RX0 yX0_sweepOf yX0_sweepOf, Cond.code yX0_sweepOf cX0_sweepOf 7 (some .int), Cond.fieldLink RX0 9 "WheelAreas$Layout" "cornerX" "[I", Cond.fieldLink RX0 34 "WheelAreas$Layout" "poleX" "I", Cond.fieldLink RX0 15 "WheelAreas$Layout" "cornerY" "[I", Cond.fieldLink RX0 37 "WheelAreas$Layout" "poleY" "I", Cond.methodLink RX5 113 yX0_edgeAhead, Cond.instanceMethod yX0_edgeAhead, Cond.selects RX0 yX0_edgeAhead yX0_edgeAhead]
def wsX5_rule_r2 : List Cond := [Cond.code yX0_edgeAhead cX0_edgeAhead 2 (some .int), Cond.fieldLink RX0 40 "WheelAreas$Layout" "traced" "I"]
def wsX5_rule : List Cond := .code yX5_rule cX5_rule 2 (some .int) :: ((wsX5_rule_r1 ++ wsX5_rule_r2) ++ wsX50 ++ wsX00)
def wsX5_hasCorner : List Cond := .code yX5_hasCorner cX5_hasCorner 2 (some .boolean) :: ([.fieldLink RX5 10 "WheelAreas" "now" "LWheelAreas$Layout;", .fieldLink RX5 99 "WheelAreas$Layout" "corners" "I", .methodLink RX5 62 yX5_within, .static yX5_within, .initialized RX5, .code yX5_within cX5_within 3 (some .boolean)] ++ wsX50 ++ wsX00)
def wsX5_corner : List Cond := .code yX5_corner cX5_corner 3 (some .int) :: ([.fieldLink RX5 10 "WheelAreas" "now" "LWheelAreas$Layout;", .fieldLink RX5 127 "WheelAreas$Layout" "cornerX" "[I", .fieldLink RX5 130 "WheelAreas$Layout" "cornerY" "[I", .methodLink RX5 123 yX5_hasCorner, .instanceMethod yX5_hasCorner, .selects RX5 yX5_hasCorner yX5_hasCorner, .initialized RX5, .code yX5_hasCorner cX5_hasCorner 2 (some .boolean), .fieldLink RX5 99 "WheelAreas$Layout" "corners" "I", .methodLink RX5 62 yX5_within, .static yX5_within, .code yX5_within cX5_within 3 (some .boolean), .methodLink RX5 133 yX0_sweepOf, .instanceMethod yX0_sweepOf, .selects RX0 yX0_sweepOf yX0_sweepOf, .initialized RX0, .code yX0_sweepOf cX0_sweepOf 7 (some .int), .fieldLink RX0 18 "WheelAreas$Layout" "corners" "I", .fieldLink RX0 9 "WheelAreas$Layout" "cornerX" "[I", .fieldLink RX0 34 "WheelAreas$Layout" "poleX" "I", .fieldLink RX0 15 "WheelAreas$Layout" "cornerY" "[I", .fieldLink RX0 37 "WheelAreas$Layout" "poleY" "I"] ++ wsX50 ++ wsX00)
def wsX5_hasWheel : List Cond := .code yX5_hasWheel cX5_hasWheel 2 (some .boolean) :: ([.fieldLink RX5 10 "WheelAreas" "now" "LWheelAreas$Layout;", .fieldLink RX5 102 "WheelAreas$Layout" "wheels" "I", .methodLink RX5 62 yX5_within, .static yX5_within, .initialized RX5, .code yX5_within cX5_within 3 (some .boolean)] ++ wsX50 ++ wsX00)
def wsX5_wheel_r1 : List Cond := [Cond.fieldLink RX5 10 "WheelAreas" "now" "LWheelAreas$Layout;", Cond.fieldLink RX5 139 "WheelAreas$Layout" "wheelKind" "[I", Cond.fieldLink RX5 142 "WheelAreas$Layout" "wheelStep" "[I", Cond.constant RX5 145 (20000000), Cond.fieldLink RX5 146 "WheelAreas$Layout" "wheelReads" "[I", Cond.methodLink RX5 136 yX5_hasWheel, Cond.instanceMethod yX5_hasWheel, Cond.selects RX5 yX5_hasWheel yX5_hasWheel, Cond.initialized RX5, Cond.code yX5_hasWheel cX5_hasWheel 2 (some .boolean), Cond.fieldLink RX5 102 "WheelAreas$Layout" "wheels" "I", Cond.methodLink RX5 62 yX5_within, Cond.static yX5_within, Cond.code yX5_within cX5_within 3 (some .boolean), Cond.methodLink RX5 149 yX0_shownBy, Cond.instanceMethod yX0_shownBy, Cond.selects RX0 yX0_shownBy yX0_shownBy, Cond.initialized RX0, Cond.code yX0_shownBy cX0_shownBy 4 (some .int), Cond.fieldLink RX0 28 "WheelAreas$Layout" "wheelReads" "[I", Cond.fieldLink RX0 25 "WheelAreas$Layout" "wheelStep" "[I", Cond.fieldLink RX0 22 "WheelAreas$Layout" "wheelKind" "[I", Cond.methodLink RX5 152 yX0_errorOf, Cond.instanceMethod yX0_errorOf]
def wsX5_wheel_r2 : List Cond := [Cond.selects RX0 yX0_errorOf yX0_errorOf, Cond.code yX0_errorOf cX0_errorOf 5 (some .int), Cond.fieldLink RX0 18 "WheelAreas$Layout" "corners" "I", Cond.methodLink RX0 61 Lib.Math.abs.name, Cond.static Lib.Math.abs.name, Cond.initialized "java/lang/Math", Cond.code Lib.Math.abs.name Lib.Math.abs.code 1 (some .int), Cond.methodLink RX0 53 yX0_sweepOf, Cond.instanceMethod yX0_sweepOf, Cond.selects RX0 yX0_sweepOf yX0_sweepOf, Cond.code yX0_sweepOf cX0_sweepOf 7 (some .int), Cond.fieldLink RX0 9 "WheelAreas$Layout" "cornerX" "[I", Cond.fieldLink RX0 34 "WheelAreas$Layout" "poleX" "I", Cond.fieldLink RX0 15 "WheelAreas$Layout" "cornerY" "[I", Cond.fieldLink RX0 37 "WheelAreas$Layout" "poleY" "I", Cond.methodLink RX0 73 yX0_rollOf, Cond.instanceMethod yX0_rollOf, Cond.selects RX0 yX0_rollOf yX0_rollOf, Cond.code yX0_rollOf cX0_rollOf 3 (some .int), Cond.methodLink RX0 69 yX0_roll, Cond.static yX0_roll, Cond.code yX0_roll cX0_roll 3 (some .int)]
def wsX5_wheel : List Cond := .code yX5_wheel cX5_wheel 3 (some .int) :: ((wsX5_wheel_r1 ++ wsX5_wheel_r2) ++ wsX50 ++ wsX00)
def wsX5_isKind : List Cond := .code yX5_isKind cX5_isKind 1 (some .boolean) :: ([.methodLink RX5 62 yX5_within, .static yX5_within, .initialized RX5, .code yX5_within cX5_within 3 (some .boolean)])
def wsX5_isStep : List Cond := .code yX5_isStep cX5_isStep 1 (some .boolean) :: ([.methodLink RX5 62 yX5_within, .static yX5_within, .initialized RX5, .code yX5_within cX5_within 3 (some .boolean)])
def wsX5_alter : List Cond := .code yX5_alter cX5_alter 5 (some .int) :: ([.fieldLink RX5 10 "WheelAreas" "now" "LWheelAreas$Layout;", .fieldLink RX5 139 "WheelAreas$Layout" "wheelKind" "[I", .fieldLink RX5 142 "WheelAreas$Layout" "wheelStep" "[I", .methodLink RX5 136 yX5_hasWheel, .instanceMethod yX5_hasWheel, .selects RX5 yX5_hasWheel yX5_hasWheel, .initialized RX5, .code yX5_hasWheel cX5_hasWheel 2 (some .boolean), .fieldLink RX5 102 "WheelAreas$Layout" "wheels" "I", .methodLink RX5 62 yX5_within, .static yX5_within, .code yX5_within cX5_within 3 (some .boolean), .methodLink RX5 155 yX5_isKind, .static yX5_isKind, .code yX5_isKind cX5_isKind 1 (some .boolean), .methodLink RX5 158 yX5_isStep, .static yX5_isStep, .code yX5_isStep cX5_isStep 1 (some .boolean)] ++ wsX50 ++ wsX00)
def wsX5_put : List Cond := .code yX5_put cX5_put 3 (some .int) :: ([.fieldLink RX5 10 "WheelAreas" "now" "LWheelAreas$Layout;", .fieldLink RX5 102 "WheelAreas$Layout" "wheels" "I", .methodLink RX5 155 yX5_isKind, .static yX5_isKind, .initialized RX5, .code yX5_isKind cX5_isKind 1 (some .boolean), .methodLink RX5 62 yX5_within, .static yX5_within, .code yX5_within cX5_within 3 (some .boolean), .methodLink RX5 158 yX5_isStep, .static yX5_isStep, .code yX5_isStep cX5_isStep 1 (some .boolean), .methodLink RX5 161 yX0_appendWheel, .instanceMethod yX0_appendWheel, .selects RX0 yX0_appendWheel yX0_appendWheel, .initialized RX0, .code yX0_appendWheel cX0_appendWheel 3 none, .fieldLink RX0 31 "WheelAreas$Layout" "wheels" "I", .fieldLink RX0 22 "WheelAreas$Layout" "wheelKind" "[I", .fieldLink RX0 25 "WheelAreas$Layout" "wheelStep" "[I", .fieldLink RX0 28 "WheelAreas$Layout" "wheelReads" "[I"] ++ wsX50 ++ wsX00)
def wsX5_cut : List Cond := .code yX5_cut cX5_cut 3 (some .int) :: ([.fieldLink RX5 10 "WheelAreas" "now" "LWheelAreas$Layout;", .fieldLink RX5 102 "WheelAreas$Layout" "wheels" "I", .methodLink RX5 62 yX5_within, .static yX5_within, .initialized RX5, .code yX5_within cX5_within 3 (some .boolean)] ++ wsX50 ++ wsX00)
def wsX5_zero : List Cond := .code yX5_zero cX5_zero 3 (some .int) :: ([.fieldLink RX5 10 "WheelAreas" "now" "LWheelAreas$Layout;", .fieldLink RX5 146 "WheelAreas$Layout" "wheelReads" "[I", .constant RX5 145 (20000000), .methodLink RX5 136 yX5_hasWheel, .instanceMethod yX5_hasWheel, .selects RX5 yX5_hasWheel yX5_hasWheel, .initialized RX5, .code yX5_hasWheel cX5_hasWheel 2 (some .boolean), .fieldLink RX5 102 "WheelAreas$Layout" "wheels" "I", .methodLink RX5 62 yX5_within, .static yX5_within, .code yX5_within cX5_within 3 (some .boolean)] ++ wsX50 ++ wsX00)
def wsX5_isPlace : List Cond := .code yX5_isPlace cX5_isPlace 2 (some .boolean) :: ([.methodLink RX5 62 yX5_within, .static yX5_within, .initialized RX5, .code yX5_within cX5_within 3 (some .boolean)])
def wsX5_pair : List Cond := .code yX5_pair cX5_pair 2 (some .int) :: ([])
def wsX5_shift_r1 : List Cond := [Cond.fieldLink RX5 10 "WheelAreas" "now" "LWheelAreas$Layout;", Cond.fieldLink RX5 127 "WheelAreas$Layout" "cornerX" "[I", Cond.fieldLink RX5 130 "WheelAreas$Layout" "cornerY" "[I", Cond.methodLink RX5 123 yX5_hasCorner, Cond.instanceMethod yX5_hasCorner, Cond.selects RX5 yX5_hasCorner yX5_hasCorner, Cond.initialized RX5, Cond.code yX5_hasCorner cX5_hasCorner 2 (some .boolean), Cond.fieldLink RX5 99 "WheelAreas$Layout" "corners" "I", Cond.methodLink RX5 62 yX5_within, Cond.static yX5_within, Cond.code yX5_within cX5_within 3 (some .boolean), Cond.methodLink RX5 165 yX5_isPlace, Cond.static yX5_isPlace, Cond.code yX5_isPlace cX5_isPlace 2 (some .boolean), Cond.methodLink RX5 169 yX5_pair, Cond.static yX5_pair, Cond.code yX5_pair cX5_pair 2 (some .int), Cond.methodLink RX5 173 yX0_moveCorner, Cond.instanceMethod yX0_moveCorner, Cond.selects RX0 yX0_moveCorner yX0_moveCorner, Cond.initialized RX0, Cond.code yX0_moveCorner cX0_moveCorner 4 none, Cond.fieldLink RX0 9 "WheelAreas$Layout" "cornerX" "[I"]
def wsX5_shift_r2 : List Cond := [Cond.fieldLink RX0 15 "WheelAreas$Layout" "cornerY" "[I"]
def wsX5_shift : List Cond := .code yX5_shift cX5_shift 5 (some .int) :: ((wsX5_shift_r1 ++ wsX5_shift_r2) ++ wsX50 ++ wsX00)
def wsX5_refusalOfCorner : List Cond := .code yX5_refusalOfCorner cX5_refusalOfCorner 3 (some .int) :: ([.fieldLink RX5 99 "WheelAreas$Layout" "corners" "I", .methodLink RX5 165 yX5_isPlace, .static yX5_isPlace, .initialized RX5, .code yX5_isPlace cX5_isPlace 2 (some .boolean), .methodLink RX5 62 yX5_within, .static yX5_within, .code yX5_within cX5_within 3 (some .boolean)] ++ wsX00)
def wsX5_add : List Cond := .code yX5_add cX5_add 4 (some .int) :: ([.fieldLink RX5 10 "WheelAreas" "now" "LWheelAreas$Layout;", .fieldLink RX5 99 "WheelAreas$Layout" "corners" "I", .methodLink RX5 177 yX5_refusalOfCorner, .static yX5_refusalOfCorner, .initialized RX5, .code yX5_refusalOfCorner cX5_refusalOfCorner 3 (some .int), .methodLink RX5 165 yX5_isPlace, .static yX5_isPlace, .code yX5_isPlace cX5_isPlace 2 (some .boolean), .methodLink RX5 62 yX5_within, .static yX5_within, .code yX5_within cX5_within 3 (some .boolean), .methodLink RX5 181 yX0_appendCorner, .instanceMethod yX0_appendCorner, .selects RX0 yX0_appendCorner yX0_appendCorner, .initialized RX0, .code yX0_appendCorner cX0_appendCorner 3 none, .fieldLink RX0 18 "WheelAreas$Layout" "corners" "I", .fieldLink RX0 9 "WheelAreas$Layout" "cornerX" "[I", .fieldLink RX0 15 "WheelAreas$Layout" "cornerY" "[I"] ++ wsX50 ++ wsX00)
def wsX5_drop : List Cond := .code yX5_drop cX5_drop 3 (some .int) :: ([.fieldLink RX5 10 "WheelAreas" "now" "LWheelAreas$Layout;", .fieldLink RX5 99 "WheelAreas$Layout" "corners" "I", .methodLink RX5 62 yX5_within, .static yX5_within, .initialized RX5, .code yX5_within cX5_within 3 (some .boolean)] ++ wsX50 ++ wsX00)
def wsX5_pole : List Cond := .code yX5_pole cX5_pole 4 (some .int) :: ([.fieldLink RX5 10 "WheelAreas" "now" "LWheelAreas$Layout;", .fieldLink RX5 117 "WheelAreas$Layout" "poleX" "I", .fieldLink RX5 120 "WheelAreas$Layout" "poleY" "I", .methodLink RX5 165 yX5_isPlace, .static yX5_isPlace, .initialized RX5, .code yX5_isPlace cX5_isPlace 2 (some .boolean), .methodLink RX5 62 yX5_within, .static yX5_within, .code yX5_within cX5_within 3 (some .boolean), .methodLink RX5 169 yX5_pair, .static yX5_pair, .code yX5_pair cX5_pair 2 (some .int), .methodLink RX5 184 yX0_movePole, .instanceMethod yX0_movePole, .selects RX0 yX0_movePole yX0_movePole, .initialized RX0, .code yX0_movePole cX0_movePole 3 none, .fieldLink RX0 34 "WheelAreas$Layout" "poleX" "I", .fieldLink RX0 37 "WheelAreas$Layout" "poleY" "I"] ++ wsX50 ++ wsX00)
def wsX5_trace_r1 : List Cond := [Cond.fieldLink RX5 10 "WheelAreas" "now" "LWheelAreas$Layout;", Cond.fieldLink RX5 105 "WheelAreas$Layout" "traced" "I", Cond.methodLink RX5 62 yX5_within, Cond.static yX5_within, Cond.initialized RX5, Cond.code yX5_within cX5_within 3 (some .boolean), Cond.methodLink RX5 187 yX0_sweepAhead, Cond.instanceMethod yX0_sweepAhead, Cond.selects RX0 yX0_sweepAhead yX0_sweepAhead, Cond.initialized RX0, Cond.code yX0_sweepAhead cX0_sweepAhead 3 (some .int), Cond.methodLink RX0 66 yX0_edgeAhead, Cond.instanceMethod yX0_edgeAhead, Cond.selects RX0 yX0_edgeAhead yX0_edgeAhead, Cond.code yX0_edgeAhead cX0_edgeAhead 2 (some .int), Cond.fieldLink RX0 18 "WheelAreas$Layout" "corners" "I", Cond.fieldLink RX0 40 "WheelAreas$Layout" "traced" "I", Cond.methodLink RX0 53 yX0_sweepOf, Cond.instanceMethod yX0_sweepOf, Cond.selects RX0 yX0_sweepOf yX0_sweepOf, Cond.code yX0_sweepOf cX0_sweepOf 7 (some .int), Cond.fieldLink RX0 9 "WheelAreas$Layout" "cornerX" "[I", Cond.fieldLink RX0 34 "WheelAreas$Layout" "poleX" "I", Cond.fieldLink RX0 15 "WheelAreas$Layout" "cornerY" "[I"]
def wsX5_trace_r2 : List Cond := [Cond.fieldLink RX0 37 "WheelAreas$Layout" "poleY" "I", Cond.methodLink RX5 190 yX0_rollAll, Cond.instanceMethod yX0_rollAll, Cond.selects RX0 yX0_rollAll yX0_rollAll, Cond.code yX0_rollAll cX0_rollAll 3 (some .int), Cond.fieldLink RX0 31 "WheelAreas$Layout" "wheels" "I", Cond.fieldLink RX0 28 "WheelAreas$Layout" "wheelReads" "[I", Cond.methodLink RX0 73 yX0_rollOf, Cond.instanceMethod yX0_rollOf, Cond.selects RX0 yX0_rollOf yX0_rollOf, Cond.code yX0_rollOf cX0_rollOf 3 (some .int), Cond.fieldLink RX0 22 "WheelAreas$Layout" "wheelKind" "[I", Cond.fieldLink RX0 25 "WheelAreas$Layout" "wheelStep" "[I", Cond.methodLink RX0 69 yX0_roll, Cond.static yX0_roll, Cond.code yX0_roll cX0_roll 3 (some .int), Cond.methodLink RX0 61 Lib.Math.abs.name, Cond.static Lib.Math.abs.name, Cond.initialized "java/lang/Math", Cond.code Lib.Math.abs.name Lib.Math.abs.code 1 (some .int), Cond.methodLink RX0 77 yX0_rolledByAll, Cond.instanceMethod yX0_rolledByAll, Cond.selects RX0 yX0_rolledByAll yX0_rolledByAll, Cond.code yX0_rolledByAll cX0_rolledByAll 4 (some .int)]
def wsX5_trace : List Cond := .code yX5_trace cX5_trace 4 (some .int) :: ((wsX5_trace_r1 ++ wsX5_trace_r2) ++ wsX50 ++ wsX00)
def wsX5_rolledAhead_r1 : List Cond := [Cond.fieldLink RX5 10 "WheelAreas" "now" "LWheelAreas$Layout;", Cond.methodLink RX5 187 yX0_sweepAhead, Cond.instanceMethod yX0_sweepAhead, Cond.selects RX0 yX0_sweepAhead yX0_sweepAhead, Cond.initialized RX0, Cond.code yX0_sweepAhead cX0_sweepAhead 3 (some .int), Cond.methodLink RX0 66 yX0_edgeAhead, Cond.instanceMethod yX0_edgeAhead, Cond.selects RX0 yX0_edgeAhead yX0_edgeAhead, Cond.code yX0_edgeAhead cX0_edgeAhead 2 (some .int), Cond.fieldLink RX0 18 "WheelAreas$Layout" "corners" "I", Cond.fieldLink RX0 40 "WheelAreas$Layout" "traced" "I", Cond.methodLink RX0 53 yX0_sweepOf, Cond.instanceMethod yX0_sweepOf, Cond.selects RX0 yX0_sweepOf yX0_sweepOf, Cond.code yX0_sweepOf cX0_sweepOf 7 (some .int), Cond.fieldLink RX0 9 "WheelAreas$Layout" "cornerX" "[I", Cond.fieldLink RX0 34 "WheelAreas$Layout" "poleX" "I", Cond.fieldLink RX0 15 "WheelAreas$Layout" "cornerY" "[I", Cond.fieldLink RX0 37 "WheelAreas$Layout" "poleY" "I", Cond.methodLink RX5 311 yX0_rolledByAll, Cond.instanceMethod yX0_rolledByAll, Cond.selects RX0 yX0_rolledByAll yX0_rolledByAll, Cond.code yX0_rolledByAll cX0_rolledByAll 4 (some .int)]
def wsX5_rolledAhead_r2 : List Cond := [Cond.fieldLink RX0 31 "WheelAreas$Layout" "wheels" "I", Cond.methodLink RX0 61 Lib.Math.abs.name, Cond.static Lib.Math.abs.name, Cond.initialized "java/lang/Math", Cond.code Lib.Math.abs.name Lib.Math.abs.code 1 (some .int), Cond.methodLink RX0 73 yX0_rollOf, Cond.instanceMethod yX0_rollOf, Cond.selects RX0 yX0_rollOf yX0_rollOf, Cond.code yX0_rollOf cX0_rollOf 3 (some .int), Cond.fieldLink RX0 22 "WheelAreas$Layout" "wheelKind" "[I", Cond.fieldLink RX0 25 "WheelAreas$Layout" "wheelStep" "[I", Cond.methodLink RX0 69 yX0_roll, Cond.static yX0_roll, Cond.code yX0_roll cX0_roll 3 (some .int)]
def wsX5_rolledAhead : List Cond := .code yX5_rolledAhead cX5_rolledAhead 4 (some .int) :: ((wsX5_rolledAhead_r1 ++ wsX5_rolledAhead_r2) ++ wsX50 ++ wsX00)
def wsX5_idleAhead_r1 : List Cond := [Cond.fieldLink RX5 10 "WheelAreas" "now" "LWheelAreas$Layout;", Cond.fieldLink RX5 99 "WheelAreas$Layout" "corners" "I", Cond.methodLink RX5 187 yX0_sweepAhead, Cond.instanceMethod yX0_sweepAhead, Cond.selects RX0 yX0_sweepAhead yX0_sweepAhead, Cond.initialized RX0, Cond.code yX0_sweepAhead cX0_sweepAhead 3 (some .int), Cond.methodLink RX0 66 yX0_edgeAhead, Cond.instanceMethod yX0_edgeAhead, Cond.selects RX0 yX0_edgeAhead yX0_edgeAhead, Cond.code yX0_edgeAhead cX0_edgeAhead 2 (some .int), Cond.fieldLink RX0 18 "WheelAreas$Layout" "corners" "I", Cond.fieldLink RX0 40 "WheelAreas$Layout" "traced" "I", Cond.methodLink RX0 53 yX0_sweepOf, Cond.instanceMethod yX0_sweepOf, Cond.selects RX0 yX0_sweepOf yX0_sweepOf, Cond.code yX0_sweepOf cX0_sweepOf 7 (some .int), Cond.fieldLink RX0 9 "WheelAreas$Layout" "cornerX" "[I", Cond.fieldLink RX0 34 "WheelAreas$Layout" "poleX" "I", Cond.fieldLink RX0 15 "WheelAreas$Layout" "cornerY" "[I", Cond.fieldLink RX0 37 "WheelAreas$Layout" "poleY" "I", Cond.methodLink RX5 314 yX0_someWheelRests, Cond.instanceMethod yX0_someWheelRests, Cond.selects RX0 yX0_someWheelRests yX0_someWheelRests]
def wsX5_idleAhead_r2 : List Cond := [Cond.code yX0_someWheelRests cX0_someWheelRests 3 (some .boolean), Cond.fieldLink RX0 31 "WheelAreas$Layout" "wheels" "I", Cond.methodLink RX0 73 yX0_rollOf, Cond.instanceMethod yX0_rollOf, Cond.selects RX0 yX0_rollOf yX0_rollOf, Cond.code yX0_rollOf cX0_rollOf 3 (some .int), Cond.fieldLink RX0 22 "WheelAreas$Layout" "wheelKind" "[I", Cond.fieldLink RX0 25 "WheelAreas$Layout" "wheelStep" "[I", Cond.methodLink RX0 69 yX0_roll, Cond.static yX0_roll, Cond.code yX0_roll cX0_roll 3 (some .int), Cond.methodLink RX0 61 Lib.Math.abs.name, Cond.static Lib.Math.abs.name, Cond.initialized "java/lang/Math", Cond.code Lib.Math.abs.name Lib.Math.abs.code 1 (some .int)]
def wsX5_idleAhead : List Cond := .code yX5_idleAhead cX5_idleAhead 4 (some .int) :: ((wsX5_idleAhead_r1 ++ wsX5_idleAhead_r2) ++ wsX50 ++ wsX00)
def wsX5_greatestSweepAhead_r1 : List Cond := [Cond.fieldLink RX5 10 "WheelAreas" "now" "LWheelAreas$Layout;", Cond.fieldLink RX5 99 "WheelAreas$Layout" "corners" "I", Cond.methodLink RX5 317 Lib.Math.max.name, Cond.static Lib.Math.max.name, Cond.initialized "java/lang/Math", Cond.code Lib.Math.max.name Lib.Math.max.code 2 (some .int), Cond.methodLink RX5 187 yX0_sweepAhead, Cond.instanceMethod yX0_sweepAhead, Cond.selects RX0 yX0_sweepAhead yX0_sweepAhead, Cond.initialized RX0, Cond.code yX0_sweepAhead cX0_sweepAhead 3 (some .int), Cond.methodLink RX0 66 yX0_edgeAhead, Cond.instanceMethod yX0_edgeAhead, Cond.selects RX0 yX0_edgeAhead yX0_edgeAhead, Cond.code yX0_edgeAhead cX0_edgeAhead 2 (some .int), Cond.fieldLink RX0 18 "WheelAreas$Layout" "corners" "I", Cond.fieldLink RX0 40 "WheelAreas$Layout" "traced" "I", Cond.methodLink RX0 53 yX0_sweepOf, Cond.instanceMethod yX0_sweepOf, Cond.selects RX0 yX0_sweepOf yX0_sweepOf, Cond.code yX0_sweepOf cX0_sweepOf 7 (some .int), Cond.fieldLink RX0 9 "WheelAreas$Layout" "cornerX" "[I", Cond.fieldLink RX0 34 "WheelAreas$Layout" "poleX" "I", Cond.fieldLink RX0 15 "WheelAreas$Layout" "cornerY" "[I"]
def wsX5_greatestSweepAhead_r2 : List Cond := [Cond.fieldLink RX0 37 "WheelAreas$Layout" "poleY" "I"]
def wsX5_greatestSweepAhead : List Cond := .code yX5_greatestSweepAhead cX5_greatestSweepAhead 4 (some .int) :: ((wsX5_greatestSweepAhead_r1 ++ wsX5_greatestSweepAhead_r2) ++ wsX50 ++ wsX00)
def wsX5_runs_r1 : List Cond := [Cond.methodLink RX5 62 yX5_within, Cond.static yX5_within, Cond.initialized RX5, Cond.code yX5_within cX5_within 3 (some .boolean), Cond.methodLink RX5 193 yX5_rolledAhead, Cond.instanceMethod yX5_rolledAhead, Cond.selects RX5 yX5_rolledAhead yX5_rolledAhead, Cond.code yX5_rolledAhead cX5_rolledAhead 4 (some .int), Cond.fieldLink RX5 10 "WheelAreas" "now" "LWheelAreas$Layout;", Cond.methodLink RX5 187 yX0_sweepAhead, Cond.instanceMethod yX0_sweepAhead, Cond.selects RX0 yX0_sweepAhead yX0_sweepAhead, Cond.initialized RX0, Cond.code yX0_sweepAhead cX0_sweepAhead 3 (some .int), Cond.methodLink RX0 66 yX0_edgeAhead, Cond.instanceMethod yX0_edgeAhead, Cond.selects RX0 yX0_edgeAhead yX0_edgeAhead, Cond.code yX0_edgeAhead cX0_edgeAhead 2 (some .int), Cond.fieldLink RX0 18 "WheelAreas$Layout" "corners" "I", Cond.fieldLink RX0 40 "WheelAreas$Layout" "traced" "I", Cond.methodLink RX0 53 yX0_sweepOf, Cond.instanceMethod yX0_sweepOf, Cond.selects RX0 yX0_sweepOf yX0_sweepOf, Cond.code yX0_sweepOf cX0_sweepOf 7 (some .int)]
def wsX5_runs_r2 : List Cond := [Cond.fieldLink RX0 9 "WheelAreas$Layout" "cornerX" "[I", Cond.fieldLink RX0 34 "WheelAreas$Layout" "poleX" "I", Cond.fieldLink RX0 15 "WheelAreas$Layout" "cornerY" "[I", Cond.fieldLink RX0 37 "WheelAreas$Layout" "poleY" "I", Cond.methodLink RX5 311 yX0_rolledByAll, Cond.instanceMethod yX0_rolledByAll, Cond.selects RX0 yX0_rolledByAll yX0_rolledByAll, Cond.code yX0_rolledByAll cX0_rolledByAll 4 (some .int), Cond.fieldLink RX0 31 "WheelAreas$Layout" "wheels" "I", Cond.methodLink RX0 61 Lib.Math.abs.name, Cond.static Lib.Math.abs.name, Cond.initialized "java/lang/Math", Cond.code Lib.Math.abs.name Lib.Math.abs.code 1 (some .int), Cond.methodLink RX0 73 yX0_rollOf, Cond.instanceMethod yX0_rollOf, Cond.selects RX0 yX0_rollOf yX0_rollOf, Cond.code yX0_rollOf cX0_rollOf 3 (some .int), Cond.fieldLink RX0 22 "WheelAreas$Layout" "wheelKind" "[I", Cond.fieldLink RX0 25 "WheelAreas$Layout" "wheelStep" "[I", Cond.methodLink RX0 69 yX0_roll, Cond.static yX0_roll, Cond.code yX0_roll cX0_roll 3 (some .int), Cond.methodLink RX5 196 yX5_idleAhead, Cond.instanceMethod yX5_idleAhead]
def wsX5_runs_r3 : List Cond := [Cond.selects RX5 yX5_idleAhead yX5_idleAhead, Cond.code yX5_idleAhead cX5_idleAhead 4 (some .int), Cond.fieldLink RX5 99 "WheelAreas$Layout" "corners" "I", Cond.methodLink RX5 314 yX0_someWheelRests, Cond.instanceMethod yX0_someWheelRests, Cond.selects RX0 yX0_someWheelRests yX0_someWheelRests, Cond.code yX0_someWheelRests cX0_someWheelRests 3 (some .boolean), Cond.methodLink RX5 199 yX5_greatestSweepAhead, Cond.instanceMethod yX5_greatestSweepAhead, Cond.selects RX5 yX5_greatestSweepAhead yX5_greatestSweepAhead, Cond.code yX5_greatestSweepAhead cX5_greatestSweepAhead 4 (some .int), Cond.methodLink RX5 317 Lib.Math.max.name, Cond.static Lib.Math.max.name, Cond.code Lib.Math.max.name Lib.Math.max.code 2 (some .int)]
def wsX5_runs : List Cond := .code yX5_runs cX5_runs 3 (some .int) :: ((wsX5_runs_r1 ++ (wsX5_runs_r2 ++ wsX5_runs_r3)) ++ wsX50 ++ wsX00)
def wsX5_ahead_r1 : List Cond := [Cond.constant RX5 145 (20000000), Cond.fieldLink RX5 10 "WheelAreas" "now" "LWheelAreas$Layout;", Cond.methodLink RX5 136 yX5_hasWheel, Cond.instanceMethod yX5_hasWheel, Cond.selects RX5 yX5_hasWheel yX5_hasWheel, Cond.initialized RX5, Cond.code yX5_hasWheel cX5_hasWheel 2 (some .boolean), Cond.fieldLink RX5 102 "WheelAreas$Layout" "wheels" "I", Cond.methodLink RX5 62 yX5_within, Cond.static yX5_within, Cond.code yX5_within cX5_within 3 (some .boolean), Cond.methodLink RX5 202 yX0_readsAhead, Cond.instanceMethod yX0_readsAhead, Cond.selects RX0 yX0_readsAhead yX0_readsAhead, Cond.initialized RX0, Cond.code yX0_readsAhead cX0_readsAhead 5 (some .int), Cond.fieldLink RX0 28 "WheelAreas$Layout" "wheelReads" "[I", Cond.methodLink RX0 80 yX0_sweepAhead, Cond.instanceMethod yX0_sweepAhead, Cond.selects RX0 yX0_sweepAhead yX0_sweepAhead, Cond.code yX0_sweepAhead cX0_sweepAhead 3 (some .int), Cond.methodLink RX0 66 yX0_edgeAhead, Cond.instanceMethod yX0_edgeAhead, Cond.selects RX0 yX0_edgeAhead yX0_edgeAhead]
def wsX5_ahead_r2 : List Cond := [Cond.code yX0_edgeAhead cX0_edgeAhead 2 (some .int), Cond.fieldLink RX0 18 "WheelAreas$Layout" "corners" "I", Cond.fieldLink RX0 40 "WheelAreas$Layout" "traced" "I", Cond.methodLink RX0 53 yX0_sweepOf, Cond.instanceMethod yX0_sweepOf, Cond.selects RX0 yX0_sweepOf yX0_sweepOf, Cond.code yX0_sweepOf cX0_sweepOf 7 (some .int), Cond.fieldLink RX0 9 "WheelAreas$Layout" "cornerX" "[I", Cond.fieldLink RX0 34 "WheelAreas$Layout" "poleX" "I", Cond.fieldLink RX0 15 "WheelAreas$Layout" "cornerY" "[I", Cond.fieldLink RX0 37 "WheelAreas$Layout" "poleY" "I", Cond.methodLink RX0 73 yX0_rollOf, Cond.instanceMethod yX0_rollOf, Cond.selects RX0 yX0_rollOf yX0_rollOf, Cond.code yX0_rollOf cX0_rollOf 3 (some .int), Cond.fieldLink RX0 22 "WheelAreas$Layout" "wheelKind" "[I", Cond.fieldLink RX0 25 "WheelAreas$Layout" "wheelStep" "[I", Cond.methodLink RX0 69 yX0_roll, Cond.static yX0_roll, Cond.code yX0_roll cX0_roll 3 (some .int), Cond.methodLink RX0 61 Lib.Math.abs.name, Cond.static Lib.Math.abs.name, Cond.initialized "java/lang/Math", Cond.code Lib.Math.abs.name Lib.Math.abs.code 1 (some .int)]
def wsX5_ahead : List Cond := .code yX5_ahead cX5_ahead 3 (some .int) :: ((wsX5_ahead_r1 ++ wsX5_ahead_r2) ++ wsX50 ++ wsX00)
def wsX5_isTold : List Cond := .code yX5_isTold cX5_isTold 1 (some .boolean) :: ([.constant RX5 309 (10000000), .constant RX5 310 (30000000), .methodLink RX5 62 yX5_within, .static yX5_within, .initialized RX5, .code yX5_within cX5_within 3 (some .boolean)])
def wsX5_when_r1 : List Cond := [Cond.constant RX5 145 (20000000), Cond.fieldLink RX5 10 "WheelAreas" "now" "LWheelAreas$Layout;", Cond.fieldLink RX5 146 "WheelAreas$Layout" "wheelReads" "[I", Cond.methodLink RX5 136 yX5_hasWheel, Cond.instanceMethod yX5_hasWheel, Cond.selects RX5 yX5_hasWheel yX5_hasWheel, Cond.initialized RX5, Cond.code yX5_hasWheel cX5_hasWheel 2 (some .boolean), Cond.fieldLink RX5 102 "WheelAreas$Layout" "wheels" "I", Cond.methodLink RX5 62 yX5_within, Cond.static yX5_within, Cond.code yX5_within cX5_within 3 (some .boolean), Cond.methodLink RX5 205 yX5_isTold, Cond.static yX5_isTold, Cond.code yX5_isTold cX5_isTold 1 (some .boolean), Cond.constant RX5 309 (10000000), Cond.constant RX5 310 (30000000), Cond.methodLink RX5 187 yX0_sweepAhead, Cond.instanceMethod yX0_sweepAhead, Cond.selects RX0 yX0_sweepAhead yX0_sweepAhead, Cond.initialized RX0, Cond.code yX0_sweepAhead cX0_sweepAhead 3 (some .int), Cond.methodLink RX0 66 yX0_edgeAhead, Cond.instanceMethod yX0_edgeAhead]
def wsX5_when_r2 : List Cond := [Cond.selects RX0 yX0_edgeAhead yX0_edgeAhead, Cond.code yX0_edgeAhead cX0_edgeAhead 2 (some .int), Cond.fieldLink RX0 18 "WheelAreas$Layout" "corners" "I", Cond.fieldLink RX0 40 "WheelAreas$Layout" "traced" "I", Cond.methodLink RX0 53 yX0_sweepOf, Cond.instanceMethod yX0_sweepOf, Cond.selects RX0 yX0_sweepOf yX0_sweepOf, Cond.code yX0_sweepOf cX0_sweepOf 7 (some .int), Cond.fieldLink RX0 9 "WheelAreas$Layout" "cornerX" "[I", Cond.fieldLink RX0 34 "WheelAreas$Layout" "poleX" "I", Cond.fieldLink RX0 15 "WheelAreas$Layout" "cornerY" "[I", Cond.fieldLink RX0 37 "WheelAreas$Layout" "poleY" "I", Cond.methodLink RX5 208 yX0_rollOf, Cond.instanceMethod yX0_rollOf, Cond.selects RX0 yX0_rollOf yX0_rollOf, Cond.code yX0_rollOf cX0_rollOf 3 (some .int), Cond.fieldLink RX0 22 "WheelAreas$Layout" "wheelKind" "[I", Cond.fieldLink RX0 25 "WheelAreas$Layout" "wheelStep" "[I", Cond.methodLink RX0 69 yX0_roll, Cond.static yX0_roll, Cond.code yX0_roll cX0_roll 3 (some .int), Cond.methodLink RX0 61 Lib.Math.abs.name, Cond.static Lib.Math.abs.name, Cond.initialized "java/lang/Math"]
def wsX5_when_r3 : List Cond := [Cond.code Lib.Math.abs.name Lib.Math.abs.code 1 (some .int)]
def wsX5_when : List Cond := .code yX5_when cX5_when 6 (some .int) :: ((wsX5_when_r1 ++ (wsX5_when_r2 ++ wsX5_when_r3)) ++ wsX50 ++ wsX00)
def wsX5_isEither : List Cond := .code yX5_isEither cX5_isEither 1 (some .boolean) :: ([.methodLink RX5 62 yX5_within, .static yX5_within, .initialized RX5, .code yX5_within cX5_within 3 (some .boolean)])
def wsX5_best_r1 : List Cond := [Cond.fieldLink RX5 16 "WheelAreas" "trial" "LWheelAreas$Layout;", Cond.fieldLink RX5 10 "WheelAreas" "now" "LWheelAreas$Layout;", Cond.constant RX5 214 (1000000), Cond.methodLink RX5 136 yX5_hasWheel, Cond.instanceMethod yX5_hasWheel, Cond.selects RX5 yX5_hasWheel yX5_hasWheel, Cond.initialized RX5, Cond.code yX5_hasWheel cX5_hasWheel 2 (some .boolean), Cond.fieldLink RX5 102 "WheelAreas$Layout" "wheels" "I", Cond.methodLink RX5 62 yX5_within, Cond.static yX5_within, Cond.code yX5_within cX5_within 3 (some .boolean), Cond.methodLink RX5 211 yX5_isEither, Cond.static yX5_isEither, Cond.code yX5_isEither cX5_isEither 1 (some .boolean), Cond.methodLink RX5 91 yX0_copyFrom, Cond.instanceMethod yX0_copyFrom, Cond.selects RX0 yX0_copyFrom yX0_copyFrom, Cond.initialized RX0, Cond.code yX0_copyFrom cX0_copyFrom 2 none, Cond.fieldLink RX0 9 "WheelAreas$Layout" "cornerX" "[I", Cond.methodLink RX0 43 arraycopyName, Cond.native arraycopyName, Cond.static arraycopyName]
def wsX5_best_r2 : List Cond := [Cond.initialized "java/lang/System", Cond.fieldLink RX0 15 "WheelAreas$Layout" "cornerY" "[I", Cond.fieldLink RX0 18 "WheelAreas$Layout" "corners" "I", Cond.fieldLink RX0 22 "WheelAreas$Layout" "wheelKind" "[I", Cond.fieldLink RX0 25 "WheelAreas$Layout" "wheelStep" "[I", Cond.fieldLink RX0 28 "WheelAreas$Layout" "wheelReads" "[I", Cond.fieldLink RX0 31 "WheelAreas$Layout" "wheels" "I", Cond.fieldLink RX0 34 "WheelAreas$Layout" "poleX" "I", Cond.fieldLink RX0 37 "WheelAreas$Layout" "poleY" "I", Cond.fieldLink RX0 40 "WheelAreas$Layout" "traced" "I", Cond.methodLink RX5 184 yX0_movePole, Cond.instanceMethod yX0_movePole, Cond.selects RX0 yX0_movePole yX0_movePole, Cond.code yX0_movePole cX0_movePole 3 none, Cond.methodLink RX5 152 yX0_errorOf, Cond.instanceMethod yX0_errorOf, Cond.selects RX0 yX0_errorOf yX0_errorOf, Cond.code yX0_errorOf cX0_errorOf 5 (some .int), Cond.methodLink RX0 61 Lib.Math.abs.name, Cond.static Lib.Math.abs.name, Cond.initialized "java/lang/Math", Cond.code Lib.Math.abs.name Lib.Math.abs.code 1 (some .int), Cond.methodLink RX0 53 yX0_sweepOf, Cond.instanceMethod yX0_sweepOf]
def wsX5_best_r3 : List Cond := [Cond.selects RX0 yX0_sweepOf yX0_sweepOf, Cond.code yX0_sweepOf cX0_sweepOf 7 (some .int), Cond.methodLink RX0 73 yX0_rollOf, Cond.instanceMethod yX0_rollOf, Cond.selects RX0 yX0_rollOf yX0_rollOf, Cond.code yX0_rollOf cX0_rollOf 3 (some .int), Cond.methodLink RX0 69 yX0_roll, Cond.static yX0_roll, Cond.code yX0_roll cX0_roll 3 (some .int), Cond.methodLink RX5 169 yX5_pair, Cond.static yX5_pair, Cond.code yX5_pair cX5_pair 2 (some .int)]
def wsX5_best : List Cond := .code yX5_best cX5_best 8 (some .int) :: ((wsX5_best_r1 ++ (wsX5_best_r2 ++ wsX5_best_r3)) ++ wsX50 ++ wsX00)
def wsX5_step_r1 : List Cond := [Cond.fieldLink RX5 16 "WheelAreas" "trial" "LWheelAreas$Layout;", Cond.fieldLink RX5 10 "WheelAreas" "now" "LWheelAreas$Layout;", Cond.constant RX5 214 (1000000), Cond.fieldLink RX5 142 "WheelAreas$Layout" "wheelStep" "[I", Cond.methodLink RX5 136 yX5_hasWheel, Cond.instanceMethod yX5_hasWheel, Cond.selects RX5 yX5_hasWheel yX5_hasWheel, Cond.initialized RX5, Cond.code yX5_hasWheel cX5_hasWheel 2 (some .boolean), Cond.fieldLink RX5 102 "WheelAreas$Layout" "wheels" "I", Cond.methodLink RX5 62 yX5_within, Cond.static yX5_within, Cond.code yX5_within cX5_within 3 (some .boolean), Cond.methodLink RX5 211 yX5_isEither, Cond.static yX5_isEither, Cond.code yX5_isEither cX5_isEither 1 (some .boolean), Cond.methodLink RX5 91 yX0_copyFrom, Cond.instanceMethod yX0_copyFrom, Cond.selects RX0 yX0_copyFrom yX0_copyFrom, Cond.initialized RX0, Cond.code yX0_copyFrom cX0_copyFrom 2 none, Cond.fieldLink RX0 9 "WheelAreas$Layout" "cornerX" "[I", Cond.methodLink RX0 43 arraycopyName, Cond.native arraycopyName]
def wsX5_step_r2 : List Cond := [Cond.static arraycopyName, Cond.initialized "java/lang/System", Cond.fieldLink RX0 15 "WheelAreas$Layout" "cornerY" "[I", Cond.fieldLink RX0 18 "WheelAreas$Layout" "corners" "I", Cond.fieldLink RX0 22 "WheelAreas$Layout" "wheelKind" "[I", Cond.fieldLink RX0 25 "WheelAreas$Layout" "wheelStep" "[I", Cond.fieldLink RX0 28 "WheelAreas$Layout" "wheelReads" "[I", Cond.fieldLink RX0 31 "WheelAreas$Layout" "wheels" "I", Cond.fieldLink RX0 34 "WheelAreas$Layout" "poleX" "I", Cond.fieldLink RX0 37 "WheelAreas$Layout" "poleY" "I", Cond.fieldLink RX0 40 "WheelAreas$Layout" "traced" "I", Cond.methodLink RX5 152 yX0_errorOf, Cond.instanceMethod yX0_errorOf, Cond.selects RX0 yX0_errorOf yX0_errorOf, Cond.code yX0_errorOf cX0_errorOf 5 (some .int), Cond.methodLink RX0 61 Lib.Math.abs.name, Cond.static Lib.Math.abs.name, Cond.initialized "java/lang/Math", Cond.code Lib.Math.abs.name Lib.Math.abs.code 1 (some .int), Cond.methodLink RX0 53 yX0_sweepOf, Cond.instanceMethod yX0_sweepOf, Cond.selects RX0 yX0_sweepOf yX0_sweepOf, Cond.code yX0_sweepOf cX0_sweepOf 7 (some .int), Cond.methodLink RX0 73 yX0_rollOf]
def wsX5_step_r3 : List Cond := [Cond.instanceMethod yX0_rollOf, Cond.selects RX0 yX0_rollOf yX0_rollOf, Cond.code yX0_rollOf cX0_rollOf 3 (some .int), Cond.methodLink RX0 69 yX0_roll, Cond.static yX0_roll, Cond.code yX0_roll cX0_roll 3 (some .int)]
def wsX5_step : List Cond := .code yX5_step cX5_step 7 (some .int) :: ((wsX5_step_r1 ++ (wsX5_step_r2 ++ wsX5_step_r3)) ++ wsX50 ++ wsX00)
def wsX5_kind_r1 : List Cond := [Cond.fieldLink RX5 16 "WheelAreas" "trial" "LWheelAreas$Layout;", Cond.fieldLink RX5 10 "WheelAreas" "now" "LWheelAreas$Layout;", Cond.constant RX5 214 (1000000), Cond.fieldLink RX5 139 "WheelAreas$Layout" "wheelKind" "[I", Cond.methodLink RX5 136 yX5_hasWheel, Cond.instanceMethod yX5_hasWheel, Cond.selects RX5 yX5_hasWheel yX5_hasWheel, Cond.initialized RX5, Cond.code yX5_hasWheel cX5_hasWheel 2 (some .boolean), Cond.fieldLink RX5 102 "WheelAreas$Layout" "wheels" "I", Cond.methodLink RX5 62 yX5_within, Cond.static yX5_within, Cond.code yX5_within cX5_within 3 (some .boolean), Cond.methodLink RX5 211 yX5_isEither, Cond.static yX5_isEither, Cond.code yX5_isEither cX5_isEither 1 (some .boolean), Cond.methodLink RX5 91 yX0_copyFrom, Cond.instanceMethod yX0_copyFrom, Cond.selects RX0 yX0_copyFrom yX0_copyFrom, Cond.initialized RX0, Cond.code yX0_copyFrom cX0_copyFrom 2 none, Cond.fieldLink RX0 9 "WheelAreas$Layout" "cornerX" "[I", Cond.methodLink RX0 43 arraycopyName, Cond.native arraycopyName]
def wsX5_kind_r2 : List Cond := [Cond.static arraycopyName, Cond.initialized "java/lang/System", Cond.fieldLink RX0 15 "WheelAreas$Layout" "cornerY" "[I", Cond.fieldLink RX0 18 "WheelAreas$Layout" "corners" "I", Cond.fieldLink RX0 22 "WheelAreas$Layout" "wheelKind" "[I", Cond.fieldLink RX0 25 "WheelAreas$Layout" "wheelStep" "[I", Cond.fieldLink RX0 28 "WheelAreas$Layout" "wheelReads" "[I", Cond.fieldLink RX0 31 "WheelAreas$Layout" "wheels" "I", Cond.fieldLink RX0 34 "WheelAreas$Layout" "poleX" "I", Cond.fieldLink RX0 37 "WheelAreas$Layout" "poleY" "I", Cond.fieldLink RX0 40 "WheelAreas$Layout" "traced" "I", Cond.methodLink RX5 152 yX0_errorOf, Cond.instanceMethod yX0_errorOf, Cond.selects RX0 yX0_errorOf yX0_errorOf, Cond.code yX0_errorOf cX0_errorOf 5 (some .int), Cond.methodLink RX0 61 Lib.Math.abs.name, Cond.static Lib.Math.abs.name, Cond.initialized "java/lang/Math", Cond.code Lib.Math.abs.name Lib.Math.abs.code 1 (some .int), Cond.methodLink RX0 53 yX0_sweepOf, Cond.instanceMethod yX0_sweepOf, Cond.selects RX0 yX0_sweepOf yX0_sweepOf, Cond.code yX0_sweepOf cX0_sweepOf 7 (some .int), Cond.methodLink RX0 73 yX0_rollOf]
def wsX5_kind_r3 : List Cond := [Cond.instanceMethod yX0_rollOf, Cond.selects RX0 yX0_rollOf yX0_rollOf, Cond.code yX0_rollOf cX0_rollOf 3 (some .int), Cond.methodLink RX0 69 yX0_roll, Cond.static yX0_roll, Cond.code yX0_roll cX0_roll 3 (some .int)]
def wsX5_kind : List Cond := .code yX5_kind cX5_kind 7 (some .int) :: ((wsX5_kind_r1 ++ (wsX5_kind_r2 ++ wsX5_kind_r3)) ++ wsX50 ++ wsX00)
def wsX5_place_r1 : List Cond := [Cond.fieldLink RX5 16 "WheelAreas" "trial" "LWheelAreas$Layout;", Cond.fieldLink RX5 10 "WheelAreas" "now" "LWheelAreas$Layout;", Cond.methodLink RX5 123 yX5_hasCorner, Cond.instanceMethod yX5_hasCorner, Cond.selects RX5 yX5_hasCorner yX5_hasCorner, Cond.initialized RX5, Cond.code yX5_hasCorner cX5_hasCorner 2 (some .boolean), Cond.fieldLink RX5 99 "WheelAreas$Layout" "corners" "I", Cond.methodLink RX5 62 yX5_within, Cond.static yX5_within, Cond.code yX5_within cX5_within 3 (some .boolean), Cond.methodLink RX5 211 yX5_isEither, Cond.static yX5_isEither, Cond.code yX5_isEither cX5_isEither 1 (some .boolean), Cond.methodLink RX5 91 yX0_copyFrom, Cond.instanceMethod yX0_copyFrom, Cond.selects RX0 yX0_copyFrom yX0_copyFrom, Cond.initialized RX0, Cond.code yX0_copyFrom cX0_copyFrom 2 none, Cond.fieldLink RX0 9 "WheelAreas$Layout" "cornerX" "[I", Cond.methodLink RX0 43 arraycopyName, Cond.native arraycopyName, Cond.static arraycopyName, Cond.initialized "java/lang/System"]
def wsX5_place_r2 : List Cond := [Cond.fieldLink RX0 15 "WheelAreas$Layout" "cornerY" "[I", Cond.fieldLink RX0 18 "WheelAreas$Layout" "corners" "I", Cond.fieldLink RX0 22 "WheelAreas$Layout" "wheelKind" "[I", Cond.fieldLink RX0 25 "WheelAreas$Layout" "wheelStep" "[I", Cond.fieldLink RX0 28 "WheelAreas$Layout" "wheelReads" "[I", Cond.fieldLink RX0 31 "WheelAreas$Layout" "wheels" "I", Cond.fieldLink RX0 34 "WheelAreas$Layout" "poleX" "I", Cond.fieldLink RX0 37 "WheelAreas$Layout" "poleY" "I", Cond.fieldLink RX0 40 "WheelAreas$Layout" "traced" "I", Cond.methodLink RX5 173 yX0_moveCorner, Cond.instanceMethod yX0_moveCorner, Cond.selects RX0 yX0_moveCorner yX0_moveCorner, Cond.code yX0_moveCorner cX0_moveCorner 4 none, Cond.methodLink RX5 215 yX0_areaUnsigned, Cond.instanceMethod yX0_areaUnsigned, Cond.selects RX0 yX0_areaUnsigned yX0_areaUnsigned, Cond.code yX0_areaUnsigned cX0_areaUnsigned 1 (some .int), Cond.methodLink RX0 61 Lib.Math.abs.name, Cond.static Lib.Math.abs.name, Cond.initialized "java/lang/Math", Cond.code Lib.Math.abs.name Lib.Math.abs.code 1 (some .int), Cond.methodLink RX0 57 yX0_area, Cond.instanceMethod yX0_area, Cond.selects RX0 yX0_area yX0_area]
def wsX5_place_r3 : List Cond := [Cond.code yX0_area cX0_area 3 (some .int), Cond.methodLink RX0 53 yX0_sweepOf, Cond.instanceMethod yX0_sweepOf, Cond.selects RX0 yX0_sweepOf yX0_sweepOf, Cond.code yX0_sweepOf cX0_sweepOf 7 (some .int), Cond.methodLink RX5 169 yX5_pair, Cond.static yX5_pair, Cond.code yX5_pair cX5_pair 2 (some .int)]
def wsX5_place : List Cond := .code yX5_place cX5_place 8 (some .int) :: ((wsX5_place_r1 ++ (wsX5_place_r2 ++ wsX5_place_r3)) ++ wsX50 ++ wsX00)
def wsX5_swap_r1 : List Cond := [Cond.fieldLink RX5 16 "WheelAreas" "trial" "LWheelAreas$Layout;", Cond.fieldLink RX5 10 "WheelAreas" "now" "LWheelAreas$Layout;", Cond.fieldLink RX5 99 "WheelAreas$Layout" "corners" "I", Cond.methodLink RX5 211 yX5_isEither, Cond.static yX5_isEither, Cond.initialized RX5, Cond.code yX5_isEither cX5_isEither 1 (some .boolean), Cond.methodLink RX5 62 yX5_within, Cond.static yX5_within, Cond.code yX5_within cX5_within 3 (some .boolean), Cond.methodLink RX5 91 yX0_copyFrom, Cond.instanceMethod yX0_copyFrom, Cond.selects RX0 yX0_copyFrom yX0_copyFrom, Cond.initialized RX0, Cond.code yX0_copyFrom cX0_copyFrom 2 none, Cond.fieldLink RX0 9 "WheelAreas$Layout" "cornerX" "[I", Cond.methodLink RX0 43 arraycopyName, Cond.native arraycopyName, Cond.static arraycopyName, Cond.initialized "java/lang/System", Cond.fieldLink RX0 15 "WheelAreas$Layout" "cornerY" "[I", Cond.fieldLink RX0 18 "WheelAreas$Layout" "corners" "I", Cond.fieldLink RX0 22 "WheelAreas$Layout" "wheelKind" "[I", Cond.fieldLink RX0 25 "WheelAreas$Layout" "wheelStep" "[I"]
def wsX5_swap_r2 : List Cond := [Cond.fieldLink RX0 28 "WheelAreas$Layout" "wheelReads" "[I", Cond.fieldLink RX0 31 "WheelAreas$Layout" "wheels" "I", Cond.fieldLink RX0 34 "WheelAreas$Layout" "poleX" "I", Cond.fieldLink RX0 37 "WheelAreas$Layout" "poleY" "I", Cond.fieldLink RX0 40 "WheelAreas$Layout" "traced" "I", Cond.methodLink RX5 215 yX0_areaUnsigned, Cond.instanceMethod yX0_areaUnsigned, Cond.selects RX0 yX0_areaUnsigned yX0_areaUnsigned, Cond.code yX0_areaUnsigned cX0_areaUnsigned 1 (some .int), Cond.methodLink RX0 61 Lib.Math.abs.name, Cond.static Lib.Math.abs.name, Cond.initialized "java/lang/Math", Cond.code Lib.Math.abs.name Lib.Math.abs.code 1 (some .int), Cond.methodLink RX0 57 yX0_area, Cond.instanceMethod yX0_area, Cond.selects RX0 yX0_area yX0_area, Cond.code yX0_area cX0_area 3 (some .int), Cond.methodLink RX0 53 yX0_sweepOf, Cond.instanceMethod yX0_sweepOf, Cond.selects RX0 yX0_sweepOf yX0_sweepOf, Cond.code yX0_sweepOf cX0_sweepOf 7 (some .int), Cond.methodLink RX5 218 yX0_exchangeCorners, Cond.instanceMethod yX0_exchangeCorners, Cond.selects RX0 yX0_exchangeCorners yX0_exchangeCorners]
def wsX5_swap_r3 : List Cond := [Cond.code yX0_exchangeCorners cX0_exchangeCorners 5 none, Cond.methodLink RX0 49 yX0_moveCorner, Cond.instanceMethod yX0_moveCorner, Cond.selects RX0 yX0_moveCorner yX0_moveCorner, Cond.code yX0_moveCorner cX0_moveCorner 4 none]
def wsX5_swap : List Cond := .code yX5_swap cX5_swap 7 (some .int) :: ((wsX5_swap_r1 ++ (wsX5_swap_r2 ++ wsX5_swap_r3)) ++ wsX50 ++ wsX00)
def wsX5_out_r1 : List Cond := [Cond.fieldLink RX5 10 "WheelAreas" "now" "LWheelAreas$Layout;", Cond.fieldLink RX5 99 "WheelAreas$Layout" "corners" "I", Cond.fieldLink RX5 16 "WheelAreas" "trial" "LWheelAreas$Layout;", Cond.methodLink RX5 211 yX5_isEither, Cond.static yX5_isEither, Cond.initialized RX5, Cond.code yX5_isEither cX5_isEither 1 (some .boolean), Cond.methodLink RX5 62 yX5_within, Cond.static yX5_within, Cond.code yX5_within cX5_within 3 (some .boolean), Cond.methodLink RX5 215 yX0_areaUnsigned, Cond.instanceMethod yX0_areaUnsigned, Cond.selects RX0 yX0_areaUnsigned yX0_areaUnsigned, Cond.initialized RX0, Cond.code yX0_areaUnsigned cX0_areaUnsigned 1 (some .int), Cond.methodLink RX0 61 Lib.Math.abs.name, Cond.static Lib.Math.abs.name, Cond.initialized "java/lang/Math", Cond.code Lib.Math.abs.name Lib.Math.abs.code 1 (some .int), Cond.methodLink RX0 57 yX0_area, Cond.instanceMethod yX0_area, Cond.selects RX0 yX0_area yX0_area, Cond.code yX0_area cX0_area 3 (some .int), Cond.fieldLink RX0 18 "WheelAreas$Layout" "corners" "I"]
def wsX5_out_r2 : List Cond := [Cond.methodLink RX0 53 yX0_sweepOf, Cond.instanceMethod yX0_sweepOf, Cond.selects RX0 yX0_sweepOf yX0_sweepOf, Cond.code yX0_sweepOf cX0_sweepOf 7 (some .int), Cond.fieldLink RX0 9 "WheelAreas$Layout" "cornerX" "[I", Cond.fieldLink RX0 34 "WheelAreas$Layout" "poleX" "I", Cond.fieldLink RX0 15 "WheelAreas$Layout" "cornerY" "[I", Cond.fieldLink RX0 37 "WheelAreas$Layout" "poleY" "I", Cond.methodLink RX5 91 yX0_copyFrom, Cond.instanceMethod yX0_copyFrom, Cond.selects RX0 yX0_copyFrom yX0_copyFrom, Cond.code yX0_copyFrom cX0_copyFrom 2 none, Cond.methodLink RX0 43 arraycopyName, Cond.native arraycopyName, Cond.static arraycopyName, Cond.initialized "java/lang/System", Cond.fieldLink RX0 22 "WheelAreas$Layout" "wheelKind" "[I", Cond.fieldLink RX0 25 "WheelAreas$Layout" "wheelStep" "[I", Cond.fieldLink RX0 28 "WheelAreas$Layout" "wheelReads" "[I", Cond.fieldLink RX0 31 "WheelAreas$Layout" "wheels" "I", Cond.fieldLink RX0 40 "WheelAreas$Layout" "traced" "I", Cond.methodLink RX5 221 yX0_removeCorner, Cond.instanceMethod yX0_removeCorner, Cond.selects RX0 yX0_removeCorner yX0_removeCorner]
def wsX5_out_r3 : List Cond := [Cond.code yX0_removeCorner cX0_removeCorner 3 none, Cond.methodLink RX0 49 yX0_moveCorner, Cond.instanceMethod yX0_moveCorner, Cond.selects RX0 yX0_moveCorner yX0_moveCorner, Cond.code yX0_moveCorner cX0_moveCorner 4 none]
def wsX5_out : List Cond := .code yX5_out cX5_out 6 (some .int) :: ((wsX5_out_r1 ++ (wsX5_out_r2 ++ wsX5_out_r3)) ++ wsX50 ++ wsX00)
def wsX5_isMissing : List Cond := .code yX5_isMissing cX5_isMissing 4 (some .boolean) :: ([.methodLink RX5 62 yX5_within, .static yX5_within, .initialized RX5, .code yX5_within cX5_within 3 (some .boolean), .methodLink RX5 136 yX5_hasWheel, .instanceMethod yX5_hasWheel, .selects RX5 yX5_hasWheel yX5_hasWheel, .code yX5_hasWheel cX5_hasWheel 2 (some .boolean), .fieldLink RX5 10 "WheelAreas" "now" "LWheelAreas$Layout;", .fieldLink RX5 102 "WheelAreas$Layout" "wheels" "I"] ++ wsX50 ++ wsX00)
def wsX5_setEdgeRolls_r1 : List Cond := [Cond.fieldLink RX5 47 "WheelAreas" "edgeRolls" "[I", Cond.fieldLink RX5 10 "WheelAreas" "now" "LWheelAreas$Layout;", Cond.methodLink RX5 187 yX0_sweepAhead, Cond.instanceMethod yX0_sweepAhead, Cond.selects RX0 yX0_sweepAhead yX0_sweepAhead, Cond.initialized RX0, Cond.code yX0_sweepAhead cX0_sweepAhead 3 (some .int), Cond.methodLink RX0 66 yX0_edgeAhead, Cond.instanceMethod yX0_edgeAhead, Cond.selects RX0 yX0_edgeAhead yX0_edgeAhead, Cond.code yX0_edgeAhead cX0_edgeAhead 2 (some .int), Cond.fieldLink RX0 18 "WheelAreas$Layout" "corners" "I", Cond.fieldLink RX0 40 "WheelAreas$Layout" "traced" "I", Cond.methodLink RX0 53 yX0_sweepOf, Cond.instanceMethod yX0_sweepOf, Cond.selects RX0 yX0_sweepOf yX0_sweepOf, Cond.code yX0_sweepOf cX0_sweepOf 7 (some .int), Cond.fieldLink RX0 9 "WheelAreas$Layout" "cornerX" "[I", Cond.fieldLink RX0 34 "WheelAreas$Layout" "poleX" "I", Cond.fieldLink RX0 15 "WheelAreas$Layout" "cornerY" "[I", Cond.fieldLink RX0 37 "WheelAreas$Layout" "poleY" "I", Cond.methodLink RX5 208 yX0_rollOf, Cond.instanceMethod yX0_rollOf, Cond.selects RX0 yX0_rollOf yX0_rollOf]
def wsX5_setEdgeRolls_r2 : List Cond := [Cond.code yX0_rollOf cX0_rollOf 3 (some .int), Cond.fieldLink RX0 22 "WheelAreas$Layout" "wheelKind" "[I", Cond.fieldLink RX0 25 "WheelAreas$Layout" "wheelStep" "[I", Cond.methodLink RX0 69 yX0_roll, Cond.static yX0_roll, Cond.code yX0_roll cX0_roll 3 (some .int), Cond.methodLink RX0 61 Lib.Math.abs.name, Cond.static Lib.Math.abs.name, Cond.initialized "java/lang/Math", Cond.code Lib.Math.abs.name Lib.Math.abs.code 1 (some .int)]
def wsX5_setEdgeRolls : List Cond := .code yX5_setEdgeRolls cX5_setEdgeRolls 4 none :: ((wsX5_setEdgeRolls_r1 ++ wsX5_setEdgeRolls_r2) ++ wsX50 ++ wsX00)
def wsX5_readsByTraced : List Cond := .code yX5_readsByTraced cX5_readsByTraced 6 (some .int) :: ([.fieldLink RX5 10 "WheelAreas" "now" "LWheelAreas$Layout;", .fieldLink RX5 146 "WheelAreas$Layout" "wheelReads" "[I", .fieldLink RX5 47 "WheelAreas" "edgeRolls" "[I"] ++ wsX50 ++ wsX00)
def wsX5_chancesOf : List Cond := .code yX5_chancesOf cX5_chancesOf 6 (some .long) :: ([])
def wsX5_tenTimes : List Cond := .code yX5_tenTimes cX5_tenTimes 4 (some .long) :: ([.constantLong RX5 320 (10)])
def wsX5_commonDivisor : List Cond := .code yX5_commonDivisor cX5_commonDivisor 11 (some .long) :: ([])
def wsX5_partOfFraction : List Cond := .code yX5_partOfFraction cX5_partOfFraction 7 (some .long) :: ([.constantLong RX5 227 (-1), .methodLink RX5 322 yX5_commonDivisor, .static yX5_commonDivisor, .initialized RX5, .code yX5_commonDivisor cX5_commonDivisor 11 (some .long)])
def wsX5_luck_r1 : List Cond := [Cond.constantLong RX5 227 (-1), Cond.constant RX5 145 (20000000), Cond.methodLink RX5 205 yX5_isTold, Cond.static yX5_isTold, Cond.initialized RX5, Cond.code yX5_isTold cX5_isTold 1 (some .boolean), Cond.constant RX5 309 (10000000), Cond.constant RX5 310 (30000000), Cond.methodLink RX5 62 yX5_within, Cond.static yX5_within, Cond.code yX5_within cX5_within 3 (some .boolean), Cond.methodLink RX5 224 yX5_isMissing, Cond.instanceMethod yX5_isMissing, Cond.selects RX5 yX5_isMissing yX5_isMissing, Cond.code yX5_isMissing cX5_isMissing 4 (some .boolean), Cond.methodLink RX5 136 yX5_hasWheel, Cond.instanceMethod yX5_hasWheel, Cond.selects RX5 yX5_hasWheel yX5_hasWheel, Cond.code yX5_hasWheel cX5_hasWheel 2 (some .boolean), Cond.fieldLink RX5 10 "WheelAreas" "now" "LWheelAreas$Layout;", Cond.fieldLink RX5 102 "WheelAreas$Layout" "wheels" "I", Cond.methodLink RX5 211 yX5_isEither, Cond.static yX5_isEither, Cond.code yX5_isEither cX5_isEither 1 (some .boolean)]
def wsX5_luck_r2 : List Cond := [Cond.methodLink RX5 229 yX5_setEdgeRolls, Cond.instanceMethod yX5_setEdgeRolls, Cond.selects RX5 yX5_setEdgeRolls yX5_setEdgeRolls, Cond.code yX5_setEdgeRolls cX5_setEdgeRolls 4 none, Cond.fieldLink RX5 47 "WheelAreas" "edgeRolls" "[I", Cond.methodLink RX5 187 yX0_sweepAhead, Cond.instanceMethod yX0_sweepAhead, Cond.selects RX0 yX0_sweepAhead yX0_sweepAhead, Cond.initialized RX0, Cond.code yX0_sweepAhead cX0_sweepAhead 3 (some .int), Cond.methodLink RX0 66 yX0_edgeAhead, Cond.instanceMethod yX0_edgeAhead, Cond.selects RX0 yX0_edgeAhead yX0_edgeAhead, Cond.code yX0_edgeAhead cX0_edgeAhead 2 (some .int), Cond.fieldLink RX0 18 "WheelAreas$Layout" "corners" "I", Cond.fieldLink RX0 40 "WheelAreas$Layout" "traced" "I", Cond.methodLink RX0 53 yX0_sweepOf, Cond.instanceMethod yX0_sweepOf, Cond.selects RX0 yX0_sweepOf yX0_sweepOf, Cond.code yX0_sweepOf cX0_sweepOf 7 (some .int), Cond.fieldLink RX0 9 "WheelAreas$Layout" "cornerX" "[I", Cond.fieldLink RX0 34 "WheelAreas$Layout" "poleX" "I", Cond.fieldLink RX0 15 "WheelAreas$Layout" "cornerY" "[I", Cond.fieldLink RX0 37 "WheelAreas$Layout" "poleY" "I"]
def wsX5_luck_r3 : List Cond := [Cond.methodLink RX5 208 yX0_rollOf, Cond.instanceMethod yX0_rollOf, Cond.selects RX0 yX0_rollOf yX0_rollOf, Cond.code yX0_rollOf cX0_rollOf 3 (some .int), Cond.fieldLink RX0 22 "WheelAreas$Layout" "wheelKind" "[I", Cond.fieldLink RX0 25 "WheelAreas$Layout" "wheelStep" "[I", Cond.methodLink RX0 69 yX0_roll, Cond.static yX0_roll, Cond.code yX0_roll cX0_roll 3 (some .int), Cond.methodLink RX0 61 Lib.Math.abs.name, Cond.static Lib.Math.abs.name, Cond.initialized "java/lang/Math", Cond.code Lib.Math.abs.name Lib.Math.abs.code 1 (some .int), Cond.methodLink RX5 232 yX5_readsByTraced, Cond.instanceMethod yX5_readsByTraced, Cond.selects RX5 yX5_readsByTraced yX5_readsByTraced, Cond.code yX5_readsByTraced cX5_readsByTraced 6 (some .int), Cond.fieldLink RX5 146 "WheelAreas$Layout" "wheelReads" "[I", Cond.methodLink RX5 236 yX5_chancesOf, Cond.static yX5_chancesOf, Cond.code yX5_chancesOf cX5_chancesOf 6 (some .long), Cond.methodLink RX5 240 yX5_tenTimes, Cond.static yX5_tenTimes, Cond.code yX5_tenTimes cX5_tenTimes 4 (some .long)]
def wsX5_luck_r4 : List Cond := [Cond.constantLong RX5 320 (10), Cond.methodLink RX5 244 yX5_partOfFraction, Cond.static yX5_partOfFraction, Cond.code yX5_partOfFraction cX5_partOfFraction 7 (some .long), Cond.methodLink RX5 322 yX5_commonDivisor, Cond.static yX5_commonDivisor, Cond.code yX5_commonDivisor cX5_commonDivisor 11 (some .long)]
def wsX5_luck : List Cond := .code yX5_luck cX5_luck 10 (some .long) :: ((wsX5_luck_r1 ++ (wsX5_luck_r2 ++ (wsX5_luck_r3 ++ wsX5_luck_r4))) ++ wsX50 ++ wsX00)
def wsX5_mean_r1 : List Cond := [Cond.constantLong RX5 227 (-1), Cond.methodLink RX5 248 Lib.Math.abs.name, Cond.static Lib.Math.abs.name, Cond.initialized "java/lang/Math", Cond.code Lib.Math.abs.name Lib.Math.abs.code 1 (some .int), Cond.methodLink RX5 224 yX5_isMissing, Cond.instanceMethod yX5_isMissing, Cond.selects RX5 yX5_isMissing yX5_isMissing, Cond.initialized RX5, Cond.code yX5_isMissing cX5_isMissing 4 (some .boolean), Cond.methodLink RX5 62 yX5_within, Cond.static yX5_within, Cond.code yX5_within cX5_within 3 (some .boolean), Cond.methodLink RX5 136 yX5_hasWheel, Cond.instanceMethod yX5_hasWheel, Cond.selects RX5 yX5_hasWheel yX5_hasWheel, Cond.code yX5_hasWheel cX5_hasWheel 2 (some .boolean), Cond.fieldLink RX5 10 "WheelAreas" "now" "LWheelAreas$Layout;", Cond.fieldLink RX5 102 "WheelAreas$Layout" "wheels" "I", Cond.methodLink RX5 211 yX5_isEither, Cond.static yX5_isEither, Cond.code yX5_isEither cX5_isEither 1 (some .boolean), Cond.methodLink RX5 229 yX5_setEdgeRolls, Cond.instanceMethod yX5_setEdgeRolls]
def wsX5_mean_r2 : List Cond := [Cond.selects RX5 yX5_setEdgeRolls yX5_setEdgeRolls, Cond.code yX5_setEdgeRolls cX5_setEdgeRolls 4 none, Cond.fieldLink RX5 47 "WheelAreas" "edgeRolls" "[I", Cond.methodLink RX5 187 yX0_sweepAhead, Cond.instanceMethod yX0_sweepAhead, Cond.selects RX0 yX0_sweepAhead yX0_sweepAhead, Cond.initialized RX0, Cond.code yX0_sweepAhead cX0_sweepAhead 3 (some .int), Cond.methodLink RX0 66 yX0_edgeAhead, Cond.instanceMethod yX0_edgeAhead, Cond.selects RX0 yX0_edgeAhead yX0_edgeAhead, Cond.code yX0_edgeAhead cX0_edgeAhead 2 (some .int), Cond.fieldLink RX0 18 "WheelAreas$Layout" "corners" "I", Cond.fieldLink RX0 40 "WheelAreas$Layout" "traced" "I", Cond.methodLink RX0 53 yX0_sweepOf, Cond.instanceMethod yX0_sweepOf, Cond.selects RX0 yX0_sweepOf yX0_sweepOf, Cond.code yX0_sweepOf cX0_sweepOf 7 (some .int), Cond.fieldLink RX0 9 "WheelAreas$Layout" "cornerX" "[I", Cond.fieldLink RX0 34 "WheelAreas$Layout" "poleX" "I", Cond.fieldLink RX0 15 "WheelAreas$Layout" "cornerY" "[I", Cond.fieldLink RX0 37 "WheelAreas$Layout" "poleY" "I", Cond.methodLink RX5 208 yX0_rollOf, Cond.instanceMethod yX0_rollOf]
def wsX5_mean_r3 : List Cond := [Cond.selects RX0 yX0_rollOf yX0_rollOf, Cond.code yX0_rollOf cX0_rollOf 3 (some .int), Cond.fieldLink RX0 22 "WheelAreas$Layout" "wheelKind" "[I", Cond.fieldLink RX0 25 "WheelAreas$Layout" "wheelStep" "[I", Cond.methodLink RX0 69 yX0_roll, Cond.static yX0_roll, Cond.code yX0_roll cX0_roll 3 (some .int), Cond.methodLink RX0 61 Lib.Math.abs.name, Cond.methodLink RX5 236 yX5_chancesOf, Cond.static yX5_chancesOf, Cond.code yX5_chancesOf cX5_chancesOf 6 (some .long), Cond.methodLink RX5 232 yX5_readsByTraced, Cond.instanceMethod yX5_readsByTraced, Cond.selects RX5 yX5_readsByTraced yX5_readsByTraced, Cond.code yX5_readsByTraced cX5_readsByTraced 6 (some .int), Cond.fieldLink RX5 146 "WheelAreas$Layout" "wheelReads" "[I", Cond.methodLink RX5 240 yX5_tenTimes, Cond.static yX5_tenTimes, Cond.code yX5_tenTimes cX5_tenTimes 4 (some .long), Cond.constantLong RX5 320 (10), Cond.methodLink RX5 244 yX5_partOfFraction, Cond.static yX5_partOfFraction, Cond.code yX5_partOfFraction cX5_partOfFraction 7 (some .long), Cond.methodLink RX5 322 yX5_commonDivisor]
def wsX5_mean_r4 : List Cond := [Cond.static yX5_commonDivisor, Cond.code yX5_commonDivisor cX5_commonDivisor 11 (some .long)]
def wsX5_mean : List Cond := .code yX5_mean cX5_mean 8 (some .long) :: ((wsX5_mean_r1 ++ (wsX5_mean_r2 ++ (wsX5_mean_r3 ++ wsX5_mean_r4))) ++ wsX50 ++ wsX00)
def wsX5_see_r1 : List Cond := [Cond.fieldLink RX5 37 "WheelAreas" "sightings" "LWheelAreas$Sightings;", Cond.fieldLink RX5 95 "WheelAreas$Sightings" "size" "I", Cond.constant RX5 145 (20000000), Cond.methodLink RX5 62 yX5_within, Cond.static yX5_within, Cond.initialized RX5, Cond.code yX5_within cX5_within 3 (some .boolean), Cond.methodLink RX5 136 yX5_hasWheel, Cond.instanceMethod yX5_hasWheel, Cond.selects RX5 yX5_hasWheel yX5_hasWheel, Cond.code yX5_hasWheel cX5_hasWheel 2 (some .boolean), Cond.fieldLink RX5 10 "WheelAreas" "now" "LWheelAreas$Layout;", Cond.fieldLink RX5 102 "WheelAreas$Layout" "wheels" "I", Cond.methodLink RX5 205 yX5_isTold, Cond.static yX5_isTold, Cond.code yX5_isTold cX5_isTold 1 (some .boolean), Cond.constant RX5 309 (10000000), Cond.constant RX5 310 (30000000), Cond.methodLink RX5 253 yX2_append, Cond.instanceMethod yX2_append, Cond.selects RX2 yX2_append yX2_append, Cond.initialized RX2, Cond.code yX2_append cX2_append 4 none, Cond.fieldLink RX2 21 "WheelAreas$Sightings" "size" "I"]
def wsX5_see_r2 : List Cond := [Cond.fieldLink RX2 9 "WheelAreas$Sightings" "edges" "[I", Cond.fieldLink RX2 15 "WheelAreas$Sightings" "wheel" "[I", Cond.fieldLink RX2 18 "WheelAreas$Sightings" "reads" "[I"]
def wsX5_see : List Cond := .code yX5_see cX5_see 4 (some .int) :: ((wsX5_see_r1 ++ wsX5_see_r2) ++ wsX50 ++ wsX20 ++ wsX00)
def wsX5_forget : List Cond := .code yX5_forget cX5_forget 3 (some .int) :: ([.fieldLink RX5 37 "WheelAreas" "sightings" "LWheelAreas$Sightings;", .fieldLink RX5 95 "WheelAreas$Sightings" "size" "I", .methodLink RX5 62 yX5_within, .static yX5_within, .initialized RX5, .code yX5_within cX5_within 3 (some .boolean)] ++ wsX50 ++ wsX20)
def wsX5_kinds_r1 : List Cond := [Cond.fieldLink RX5 16 "WheelAreas" "trial" "LWheelAreas$Layout;", Cond.fieldLink RX5 10 "WheelAreas" "now" "LWheelAreas$Layout;", Cond.fieldLink RX5 139 "WheelAreas$Layout" "wheelKind" "[I", Cond.fieldLink RX5 37 "WheelAreas" "sightings" "LWheelAreas$Sightings;", Cond.methodLink RX5 136 yX5_hasWheel, Cond.instanceMethod yX5_hasWheel, Cond.selects RX5 yX5_hasWheel yX5_hasWheel, Cond.initialized RX5, Cond.code yX5_hasWheel cX5_hasWheel 2 (some .boolean), Cond.fieldLink RX5 102 "WheelAreas$Layout" "wheels" "I", Cond.methodLink RX5 62 yX5_within, Cond.static yX5_within, Cond.code yX5_within cX5_within 3 (some .boolean), Cond.methodLink RX5 91 yX0_copyFrom, Cond.instanceMethod yX0_copyFrom, Cond.selects RX0 yX0_copyFrom yX0_copyFrom, Cond.initialized RX0, Cond.code yX0_copyFrom cX0_copyFrom 2 none, Cond.fieldLink RX0 9 "WheelAreas$Layout" "cornerX" "[I", Cond.methodLink RX0 43 arraycopyName, Cond.native arraycopyName, Cond.static arraycopyName, Cond.initialized "java/lang/System", Cond.fieldLink RX0 15 "WheelAreas$Layout" "cornerY" "[I"]
def wsX5_kinds_r2 : List Cond := [Cond.fieldLink RX0 18 "WheelAreas$Layout" "corners" "I", Cond.fieldLink RX0 22 "WheelAreas$Layout" "wheelKind" "[I", Cond.fieldLink RX0 25 "WheelAreas$Layout" "wheelStep" "[I", Cond.fieldLink RX0 28 "WheelAreas$Layout" "wheelReads" "[I", Cond.fieldLink RX0 31 "WheelAreas$Layout" "wheels" "I", Cond.fieldLink RX0 34 "WheelAreas$Layout" "poleX" "I", Cond.fieldLink RX0 37 "WheelAreas$Layout" "poleY" "I", Cond.fieldLink RX0 40 "WheelAreas$Layout" "traced" "I", Cond.methodLink RX5 255 yX2_agreeWith, Cond.instanceMethod yX2_agreeWith, Cond.selects RX2 yX2_agreeWith yX2_agreeWith, Cond.initialized RX2, Cond.code yX2_agreeWith cX2_agreeWith 3 (some .boolean), Cond.fieldLink RX2 21 "WheelAreas$Sightings" "size" "I", Cond.fieldLink RX2 15 "WheelAreas$Sightings" "wheel" "[I", Cond.fieldLink RX2 25 "WheelAreas$Layout" "wheels" "I", Cond.fieldLink RX2 9 "WheelAreas$Sightings" "edges" "[I", Cond.fieldLink RX2 18 "WheelAreas$Sightings" "reads" "[I", Cond.methodLink RX2 30 yX0_readsAhead, Cond.instanceMethod yX0_readsAhead, Cond.selects RX0 yX0_readsAhead yX0_readsAhead, Cond.code yX0_readsAhead cX0_readsAhead 5 (some .int), Cond.methodLink RX0 80 yX0_sweepAhead, Cond.instanceMethod yX0_sweepAhead]
def wsX5_kinds_r3 : List Cond := [Cond.selects RX0 yX0_sweepAhead yX0_sweepAhead, Cond.code yX0_sweepAhead cX0_sweepAhead 3 (some .int), Cond.methodLink RX0 66 yX0_edgeAhead, Cond.instanceMethod yX0_edgeAhead, Cond.selects RX0 yX0_edgeAhead yX0_edgeAhead, Cond.code yX0_edgeAhead cX0_edgeAhead 2 (some .int), Cond.methodLink RX0 53 yX0_sweepOf, Cond.instanceMethod yX0_sweepOf, Cond.selects RX0 yX0_sweepOf yX0_sweepOf, Cond.code yX0_sweepOf cX0_sweepOf 7 (some .int), Cond.methodLink RX0 73 yX0_rollOf, Cond.instanceMethod yX0_rollOf, Cond.selects RX0 yX0_rollOf yX0_rollOf, Cond.code yX0_rollOf cX0_rollOf 3 (some .int), Cond.methodLink RX0 69 yX0_roll, Cond.static yX0_roll, Cond.code yX0_roll cX0_roll 3 (some .int), Cond.methodLink RX0 61 Lib.Math.abs.name, Cond.static Lib.Math.abs.name, Cond.initialized "java/lang/Math", Cond.code Lib.Math.abs.name Lib.Math.abs.code 1 (some .int)]
def wsX5_kinds : List Cond := .code yX5_kinds cX5_kinds 4 (some .int) :: ((wsX5_kinds_r1 ++ (wsX5_kinds_r2 ++ wsX5_kinds_r3)) ++ wsX50 ++ wsX00 ++ wsX20)
def wsX5_stepsAsSeen_r1 : List Cond := [Cond.fieldLink RX5 16 "WheelAreas" "trial" "LWheelAreas$Layout;", Cond.fieldLink RX5 10 "WheelAreas" "now" "LWheelAreas$Layout;", Cond.fieldLink RX5 142 "WheelAreas$Layout" "wheelStep" "[I", Cond.fieldLink RX5 37 "WheelAreas" "sightings" "LWheelAreas$Sightings;", Cond.methodLink RX5 91 yX0_copyFrom, Cond.instanceMethod yX0_copyFrom, Cond.selects RX0 yX0_copyFrom yX0_copyFrom, Cond.initialized RX0, Cond.code yX0_copyFrom cX0_copyFrom 2 none, Cond.fieldLink RX0 9 "WheelAreas$Layout" "cornerX" "[I", Cond.methodLink RX0 43 arraycopyName, Cond.native arraycopyName, Cond.static arraycopyName, Cond.initialized "java/lang/System", Cond.fieldLink RX0 15 "WheelAreas$Layout" "cornerY" "[I", Cond.fieldLink RX0 18 "WheelAreas$Layout" "corners" "I", Cond.fieldLink RX0 22 "WheelAreas$Layout" "wheelKind" "[I", Cond.fieldLink RX0 25 "WheelAreas$Layout" "wheelStep" "[I", Cond.fieldLink RX0 28 "WheelAreas$Layout" "wheelReads" "[I", Cond.fieldLink RX0 31 "WheelAreas$Layout" "wheels" "I", Cond.fieldLink RX0 34 "WheelAreas$Layout" "poleX" "I", Cond.fieldLink RX0 37 "WheelAreas$Layout" "poleY" "I", Cond.fieldLink RX0 40 "WheelAreas$Layout" "traced" "I", Cond.methodLink RX5 255 yX2_agreeWith]
def wsX5_stepsAsSeen_r2 : List Cond := [Cond.instanceMethod yX2_agreeWith, Cond.selects RX2 yX2_agreeWith yX2_agreeWith, Cond.initialized RX2, Cond.code yX2_agreeWith cX2_agreeWith 3 (some .boolean), Cond.fieldLink RX2 21 "WheelAreas$Sightings" "size" "I", Cond.fieldLink RX2 15 "WheelAreas$Sightings" "wheel" "[I", Cond.fieldLink RX2 25 "WheelAreas$Layout" "wheels" "I", Cond.fieldLink RX2 9 "WheelAreas$Sightings" "edges" "[I", Cond.fieldLink RX2 18 "WheelAreas$Sightings" "reads" "[I", Cond.methodLink RX2 30 yX0_readsAhead, Cond.instanceMethod yX0_readsAhead, Cond.selects RX0 yX0_readsAhead yX0_readsAhead, Cond.code yX0_readsAhead cX0_readsAhead 5 (some .int), Cond.methodLink RX0 80 yX0_sweepAhead, Cond.instanceMethod yX0_sweepAhead, Cond.selects RX0 yX0_sweepAhead yX0_sweepAhead, Cond.code yX0_sweepAhead cX0_sweepAhead 3 (some .int), Cond.methodLink RX0 66 yX0_edgeAhead, Cond.instanceMethod yX0_edgeAhead, Cond.selects RX0 yX0_edgeAhead yX0_edgeAhead, Cond.code yX0_edgeAhead cX0_edgeAhead 2 (some .int), Cond.methodLink RX0 53 yX0_sweepOf, Cond.instanceMethod yX0_sweepOf, Cond.selects RX0 yX0_sweepOf yX0_sweepOf]
def wsX5_stepsAsSeen_r3 : List Cond := [Cond.code yX0_sweepOf cX0_sweepOf 7 (some .int), Cond.methodLink RX0 73 yX0_rollOf, Cond.instanceMethod yX0_rollOf, Cond.selects RX0 yX0_rollOf yX0_rollOf, Cond.code yX0_rollOf cX0_rollOf 3 (some .int), Cond.methodLink RX0 69 yX0_roll, Cond.static yX0_roll, Cond.code yX0_roll cX0_roll 3 (some .int), Cond.methodLink RX0 61 Lib.Math.abs.name, Cond.static Lib.Math.abs.name, Cond.initialized "java/lang/Math", Cond.code Lib.Math.abs.name Lib.Math.abs.code 1 (some .int)]
def wsX5_stepsAsSeen : List Cond := .code yX5_stepsAsSeen cX5_stepsAsSeen 4 (some .int) :: ((wsX5_stepsAsSeen_r1 ++ (wsX5_stepsAsSeen_r2 ++ wsX5_stepsAsSeen_r3)) ++ wsX50 ++ wsX00 ++ wsX20)
def wsX5_steps_r1 : List Cond := [Cond.methodLink RX5 136 yX5_hasWheel, Cond.instanceMethod yX5_hasWheel, Cond.selects RX5 yX5_hasWheel yX5_hasWheel, Cond.initialized RX5, Cond.code yX5_hasWheel cX5_hasWheel 2 (some .boolean), Cond.fieldLink RX5 10 "WheelAreas" "now" "LWheelAreas$Layout;", Cond.fieldLink RX5 102 "WheelAreas$Layout" "wheels" "I", Cond.methodLink RX5 62 yX5_within, Cond.static yX5_within, Cond.code yX5_within cX5_within 3 (some .boolean), Cond.methodLink RX5 259 yX5_stepsAsSeen, Cond.instanceMethod yX5_stepsAsSeen, Cond.selects RX5 yX5_stepsAsSeen yX5_stepsAsSeen, Cond.code yX5_stepsAsSeen cX5_stepsAsSeen 4 (some .int), Cond.fieldLink RX5 16 "WheelAreas" "trial" "LWheelAreas$Layout;", Cond.fieldLink RX5 142 "WheelAreas$Layout" "wheelStep" "[I", Cond.fieldLink RX5 37 "WheelAreas" "sightings" "LWheelAreas$Sightings;", Cond.methodLink RX5 91 yX0_copyFrom, Cond.instanceMethod yX0_copyFrom, Cond.selects RX0 yX0_copyFrom yX0_copyFrom, Cond.initialized RX0, Cond.code yX0_copyFrom cX0_copyFrom 2 none, Cond.fieldLink RX0 9 "WheelAreas$Layout" "cornerX" "[I", Cond.methodLink RX0 43 arraycopyName]
def wsX5_steps_r2 : List Cond := [Cond.native arraycopyName, Cond.static arraycopyName, Cond.initialized "java/lang/System", Cond.fieldLink RX0 15 "WheelAreas$Layout" "cornerY" "[I", Cond.fieldLink RX0 18 "WheelAreas$Layout" "corners" "I", Cond.fieldLink RX0 22 "WheelAreas$Layout" "wheelKind" "[I", Cond.fieldLink RX0 25 "WheelAreas$Layout" "wheelStep" "[I", Cond.fieldLink RX0 28 "WheelAreas$Layout" "wheelReads" "[I", Cond.fieldLink RX0 31 "WheelAreas$Layout" "wheels" "I", Cond.fieldLink RX0 34 "WheelAreas$Layout" "poleX" "I", Cond.fieldLink RX0 37 "WheelAreas$Layout" "poleY" "I", Cond.fieldLink RX0 40 "WheelAreas$Layout" "traced" "I", Cond.methodLink RX5 255 yX2_agreeWith, Cond.instanceMethod yX2_agreeWith, Cond.selects RX2 yX2_agreeWith yX2_agreeWith, Cond.initialized RX2, Cond.code yX2_agreeWith cX2_agreeWith 3 (some .boolean), Cond.fieldLink RX2 21 "WheelAreas$Sightings" "size" "I", Cond.fieldLink RX2 15 "WheelAreas$Sightings" "wheel" "[I", Cond.fieldLink RX2 25 "WheelAreas$Layout" "wheels" "I", Cond.fieldLink RX2 9 "WheelAreas$Sightings" "edges" "[I", Cond.fieldLink RX2 18 "WheelAreas$Sightings" "reads" "[I", Cond.methodLink RX2 30 yX0_readsAhead, Cond.instanceMethod yX0_readsAhead]
def wsX5_steps_r3 : List Cond := [Cond.selects RX0 yX0_readsAhead yX0_readsAhead, Cond.code yX0_readsAhead cX0_readsAhead 5 (some .int), Cond.methodLink RX0 80 yX0_sweepAhead, Cond.instanceMethod yX0_sweepAhead, Cond.selects RX0 yX0_sweepAhead yX0_sweepAhead, Cond.code yX0_sweepAhead cX0_sweepAhead 3 (some .int), Cond.methodLink RX0 66 yX0_edgeAhead, Cond.instanceMethod yX0_edgeAhead, Cond.selects RX0 yX0_edgeAhead yX0_edgeAhead, Cond.code yX0_edgeAhead cX0_edgeAhead 2 (some .int), Cond.methodLink RX0 53 yX0_sweepOf, Cond.instanceMethod yX0_sweepOf, Cond.selects RX0 yX0_sweepOf yX0_sweepOf, Cond.code yX0_sweepOf cX0_sweepOf 7 (some .int), Cond.methodLink RX0 73 yX0_rollOf, Cond.instanceMethod yX0_rollOf, Cond.selects RX0 yX0_rollOf yX0_rollOf, Cond.code yX0_rollOf cX0_rollOf 3 (some .int), Cond.methodLink RX0 69 yX0_roll, Cond.static yX0_roll, Cond.code yX0_roll cX0_roll 3 (some .int), Cond.methodLink RX0 61 Lib.Math.abs.name, Cond.static Lib.Math.abs.name, Cond.initialized "java/lang/Math"]
def wsX5_steps_r4 : List Cond := [Cond.code Lib.Math.abs.name Lib.Math.abs.code 1 (some .int)]
def wsX5_steps : List Cond := .code yX5_steps cX5_steps 2 (some .int) :: ((wsX5_steps_r1 ++ (wsX5_steps_r2 ++ (wsX5_steps_r3 ++ wsX5_steps_r4))) ++ wsX50 ++ wsX00 ++ wsX20)
def wsJ6_bitCount_0f7a4 : List Cond := .code yJ6_bitCount_0f7a4 cJ6_bitCount_0f7a4 1 (some .int) :: ([.constant RJ6 265 (1431655765), .constant RJ6 266 (858993459), .constant RJ6 267 (252645135)])
def wsX5_countAlike : List Cond := .code yX5_countAlike cX5_countAlike 5 (some .int) :: ([.fieldLink RX5 51 "WheelAreas" "readsByStep" "[I"] ++ wsX50)
def wsX5_mostAlike : List Cond := .code yX5_mostAlike cX5_mostAlike 4 (some .int) :: ([.fieldLink RX5 51 "WheelAreas" "readsByStep" "[I", .methodLink RX5 317 Lib.Math.max.name, .static Lib.Math.max.name, .initialized "java/lang/Math", .code Lib.Math.max.name Lib.Math.max.code 2 (some .int), .methodLink RX5 326 yX5_countAlike, .instanceMethod yX5_countAlike, .selects RX5 yX5_countAlike yX5_countAlike, .initialized RX5, .code yX5_countAlike cX5_countAlike 5 (some .int)] ++ wsX50)
def wsX5_rollEachStep : List Cond := .code yX5_rollEachStep cX5_rollEachStep 4 none :: ([.fieldLink RX5 51 "WheelAreas" "readsByStep" "[I", .methodLink RX5 329 yX0_roll, .static yX0_roll, .initialized RX0, .code yX0_roll cX0_roll 3 (some .int), .methodLink RX0 61 Lib.Math.abs.name, .static Lib.Math.abs.name, .initialized "java/lang/Math", .code Lib.Math.abs.name Lib.Math.abs.code 1 (some .int)] ++ wsX50)
def wsX5_ask_r1 : List Cond := [Cond.fieldLink RX5 51 "WheelAreas" "readsByStep" "[I", Cond.fieldLink RX5 10 "WheelAreas" "now" "LWheelAreas$Layout;", Cond.fieldLink RX5 146 "WheelAreas$Layout" "wheelReads" "[I", Cond.fieldLink RX5 139 "WheelAreas$Layout" "wheelKind" "[I", Cond.methodLink RX5 136 yX5_hasWheel, Cond.instanceMethod yX5_hasWheel, Cond.selects RX5 yX5_hasWheel yX5_hasWheel, Cond.initialized RX5, Cond.code yX5_hasWheel cX5_hasWheel 2 (some .boolean), Cond.fieldLink RX5 102 "WheelAreas$Layout" "wheels" "I", Cond.methodLink RX5 62 yX5_within, Cond.static yX5_within, Cond.code yX5_within cX5_within 3 (some .boolean), Cond.methodLink RX5 211 yX5_isEither, Cond.static yX5_isEither, Cond.code yX5_isEither cX5_isEither 1 (some .boolean), Cond.methodLink RX5 259 yX5_stepsAsSeen, Cond.instanceMethod yX5_stepsAsSeen, Cond.selects RX5 yX5_stepsAsSeen yX5_stepsAsSeen, Cond.code yX5_stepsAsSeen cX5_stepsAsSeen 4 (some .int), Cond.fieldLink RX5 16 "WheelAreas" "trial" "LWheelAreas$Layout;", Cond.fieldLink RX5 142 "WheelAreas$Layout" "wheelStep" "[I", Cond.fieldLink RX5 37 "WheelAreas" "sightings" "LWheelAreas$Sightings;", Cond.methodLink RX5 91 yX0_copyFrom]
def wsX5_ask_r2 : List Cond := [Cond.instanceMethod yX0_copyFrom, Cond.selects RX0 yX0_copyFrom yX0_copyFrom, Cond.initialized RX0, Cond.code yX0_copyFrom cX0_copyFrom 2 none, Cond.fieldLink RX0 9 "WheelAreas$Layout" "cornerX" "[I", Cond.methodLink RX0 43 arraycopyName, Cond.native arraycopyName, Cond.static arraycopyName, Cond.initialized "java/lang/System", Cond.fieldLink RX0 15 "WheelAreas$Layout" "cornerY" "[I", Cond.fieldLink RX0 18 "WheelAreas$Layout" "corners" "I", Cond.fieldLink RX0 22 "WheelAreas$Layout" "wheelKind" "[I", Cond.fieldLink RX0 25 "WheelAreas$Layout" "wheelStep" "[I", Cond.fieldLink RX0 28 "WheelAreas$Layout" "wheelReads" "[I", Cond.fieldLink RX0 31 "WheelAreas$Layout" "wheels" "I", Cond.fieldLink RX0 34 "WheelAreas$Layout" "poleX" "I", Cond.fieldLink RX0 37 "WheelAreas$Layout" "poleY" "I", Cond.fieldLink RX0 40 "WheelAreas$Layout" "traced" "I", Cond.methodLink RX5 255 yX2_agreeWith, Cond.instanceMethod yX2_agreeWith, Cond.selects RX2 yX2_agreeWith yX2_agreeWith, Cond.initialized RX2, Cond.code yX2_agreeWith cX2_agreeWith 3 (some .boolean), Cond.fieldLink RX2 21 "WheelAreas$Sightings" "size" "I"]
def wsX5_ask_r3 : List Cond := [Cond.fieldLink RX2 15 "WheelAreas$Sightings" "wheel" "[I", Cond.fieldLink RX2 25 "WheelAreas$Layout" "wheels" "I", Cond.fieldLink RX2 9 "WheelAreas$Sightings" "edges" "[I", Cond.fieldLink RX2 18 "WheelAreas$Sightings" "reads" "[I", Cond.methodLink RX2 30 yX0_readsAhead, Cond.instanceMethod yX0_readsAhead, Cond.selects RX0 yX0_readsAhead yX0_readsAhead, Cond.code yX0_readsAhead cX0_readsAhead 5 (some .int), Cond.methodLink RX0 80 yX0_sweepAhead, Cond.instanceMethod yX0_sweepAhead, Cond.selects RX0 yX0_sweepAhead yX0_sweepAhead, Cond.code yX0_sweepAhead cX0_sweepAhead 3 (some .int), Cond.methodLink RX0 66 yX0_edgeAhead, Cond.instanceMethod yX0_edgeAhead, Cond.selects RX0 yX0_edgeAhead yX0_edgeAhead, Cond.code yX0_edgeAhead cX0_edgeAhead 2 (some .int), Cond.methodLink RX0 53 yX0_sweepOf, Cond.instanceMethod yX0_sweepOf, Cond.selects RX0 yX0_sweepOf yX0_sweepOf, Cond.code yX0_sweepOf cX0_sweepOf 7 (some .int), Cond.methodLink RX0 73 yX0_rollOf, Cond.instanceMethod yX0_rollOf, Cond.selects RX0 yX0_rollOf yX0_rollOf, Cond.code yX0_rollOf cX0_rollOf 3 (some .int)]
def wsX5_ask_r4 : List Cond := [Cond.methodLink RX0 69 yX0_roll, Cond.static yX0_roll, Cond.code yX0_roll cX0_roll 3 (some .int), Cond.methodLink RX0 61 Lib.Math.abs.name, Cond.static Lib.Math.abs.name, Cond.initialized "java/lang/Math", Cond.code Lib.Math.abs.name Lib.Math.abs.code 1 (some .int), Cond.methodLink RX5 262 yJ6_bitCount_0f7a4, Cond.static yJ6_bitCount_0f7a4, Cond.initialized RJ6, Cond.code yJ6_bitCount_0f7a4 cJ6_bitCount_0f7a4 1 (some .int), Cond.constant RJ6 265 (1431655765), Cond.constant RJ6 266 (858993459), Cond.constant RJ6 267 (252645135), Cond.methodLink RX5 267 yX5_mostAlike, Cond.instanceMethod yX5_mostAlike, Cond.selects RX5 yX5_mostAlike yX5_mostAlike, Cond.code yX5_mostAlike cX5_mostAlike 4 (some .int), Cond.methodLink RX5 317 Lib.Math.max.name, Cond.static Lib.Math.max.name, Cond.code Lib.Math.max.name Lib.Math.max.code 2 (some .int), Cond.methodLink RX5 326 yX5_countAlike, Cond.instanceMethod yX5_countAlike, Cond.selects RX5 yX5_countAlike yX5_countAlike]
def wsX5_ask_r5 : List Cond := [Cond.code yX5_countAlike cX5_countAlike 5 (some .int), Cond.methodLink RX5 187 yX0_sweepAhead, Cond.methodLink RX5 270 yX5_rollEachStep, Cond.instanceMethod yX5_rollEachStep, Cond.selects RX5 yX5_rollEachStep yX5_rollEachStep, Cond.code yX5_rollEachStep cX5_rollEachStep 4 none, Cond.methodLink RX5 329 yX0_roll]
def wsX5_ask : List Cond := .code yX5_ask cX5_ask 8 (some .int) :: ((wsX5_ask_r1 ++ (wsX5_ask_r2 ++ (wsX5_ask_r3 ++ (wsX5_ask_r4 ++ wsX5_ask_r5)))) ++ wsX50 ++ wsX00 ++ wsX20)
def wsX5_drift_r1 : List Cond := [Cond.fieldLink RX5 10 "WheelAreas" "now" "LWheelAreas$Layout;", Cond.fieldLink RX5 99 "WheelAreas$Layout" "corners" "I", Cond.fieldLink RX5 102 "WheelAreas$Layout" "wheels" "I", Cond.fieldLink RX5 16 "WheelAreas" "trial" "LWheelAreas$Layout;", Cond.constant RX5 273 (1103515245), Cond.constant RX5 145 (20000000), Cond.fieldLink RX5 146 "WheelAreas$Layout" "wheelReads" "[I", Cond.methodLink RX5 62 yX5_within, Cond.static yX5_within, Cond.initialized RX5, Cond.code yX5_within cX5_within 3 (some .boolean), Cond.methodLink RX5 211 yX5_isEither, Cond.static yX5_isEither, Cond.code yX5_isEither cX5_isEither 1 (some .boolean), Cond.methodLink RX5 91 yX0_copyFrom, Cond.instanceMethod yX0_copyFrom, Cond.selects RX0 yX0_copyFrom yX0_copyFrom, Cond.initialized RX0, Cond.code yX0_copyFrom cX0_copyFrom 2 none, Cond.fieldLink RX0 9 "WheelAreas$Layout" "cornerX" "[I", Cond.methodLink RX0 43 arraycopyName, Cond.native arraycopyName, Cond.static arraycopyName, Cond.initialized "java/lang/System"]
def wsX5_drift_r2 : List Cond := [Cond.fieldLink RX0 15 "WheelAreas$Layout" "cornerY" "[I", Cond.fieldLink RX0 18 "WheelAreas$Layout" "corners" "I", Cond.fieldLink RX0 22 "WheelAreas$Layout" "wheelKind" "[I", Cond.fieldLink RX0 25 "WheelAreas$Layout" "wheelStep" "[I", Cond.fieldLink RX0 28 "WheelAreas$Layout" "wheelReads" "[I", Cond.fieldLink RX0 31 "WheelAreas$Layout" "wheels" "I", Cond.fieldLink RX0 34 "WheelAreas$Layout" "poleX" "I", Cond.fieldLink RX0 37 "WheelAreas$Layout" "poleY" "I", Cond.fieldLink RX0 40 "WheelAreas$Layout" "traced" "I", Cond.methodLink RX5 133 yX0_sweepOf, Cond.instanceMethod yX0_sweepOf, Cond.selects RX0 yX0_sweepOf yX0_sweepOf, Cond.code yX0_sweepOf cX0_sweepOf 7 (some .int), Cond.methodLink RX5 190 yX0_rollAll, Cond.instanceMethod yX0_rollAll, Cond.selects RX0 yX0_rollAll yX0_rollAll, Cond.code yX0_rollAll cX0_rollAll 3 (some .int), Cond.methodLink RX0 73 yX0_rollOf, Cond.instanceMethod yX0_rollOf, Cond.selects RX0 yX0_rollOf yX0_rollOf, Cond.code yX0_rollOf cX0_rollOf 3 (some .int), Cond.methodLink RX0 69 yX0_roll, Cond.static yX0_roll, Cond.code yX0_roll cX0_roll 3 (some .int)]
def wsX5_drift_r3 : List Cond := [Cond.methodLink RX0 61 Lib.Math.abs.name, Cond.static Lib.Math.abs.name, Cond.initialized "java/lang/Math", Cond.code Lib.Math.abs.name Lib.Math.abs.code 1 (some .int), Cond.methodLink RX0 77 yX0_rolledByAll, Cond.instanceMethod yX0_rolledByAll, Cond.selects RX0 yX0_rolledByAll yX0_rolledByAll, Cond.code yX0_rolledByAll cX0_rolledByAll 4 (some .int)]
def wsX5_drift : List Cond := .code yX5_drift cX5_drift 9 (some .int) :: ((wsX5_drift_r1 ++ (wsX5_drift_r2 ++ wsX5_drift_r3)) ++ wsX50 ++ wsX00)
def wsX5_keep_r1 : List Cond := [Cond.fieldLink RX5 23 "WheelAreas" "kept" "[Z", Cond.fieldLink RX5 19 "WheelAreas" "images" "[LWheelAreas$Layout;", Cond.fieldLink RX5 10 "WheelAreas" "now" "LWheelAreas$Layout;", Cond.methodLink RX5 62 yX5_within, Cond.static yX5_within, Cond.initialized RX5, Cond.code yX5_within cX5_within 3 (some .boolean), Cond.methodLink RX5 91 yX0_copyFrom, Cond.instanceMethod yX0_copyFrom, Cond.selects RX0 yX0_copyFrom yX0_copyFrom, Cond.initialized RX0, Cond.code yX0_copyFrom cX0_copyFrom 2 none, Cond.fieldLink RX0 9 "WheelAreas$Layout" "cornerX" "[I", Cond.methodLink RX0 43 arraycopyName, Cond.native arraycopyName, Cond.static arraycopyName, Cond.initialized "java/lang/System", Cond.fieldLink RX0 15 "WheelAreas$Layout" "cornerY" "[I", Cond.fieldLink RX0 18 "WheelAreas$Layout" "corners" "I", Cond.fieldLink RX0 22 "WheelAreas$Layout" "wheelKind" "[I", Cond.fieldLink RX0 25 "WheelAreas$Layout" "wheelStep" "[I", Cond.fieldLink RX0 28 "WheelAreas$Layout" "wheelReads" "[I", Cond.fieldLink RX0 31 "WheelAreas$Layout" "wheels" "I", Cond.fieldLink RX0 34 "WheelAreas$Layout" "poleX" "I"]
def wsX5_keep_r2 : List Cond := [Cond.fieldLink RX0 37 "WheelAreas$Layout" "poleY" "I", Cond.fieldLink RX0 40 "WheelAreas$Layout" "traced" "I"]
def wsX5_keep : List Cond := .code yX5_keep cX5_keep 3 (some .int) :: ((wsX5_keep_r1 ++ wsX5_keep_r2) ++ wsX50 ++ wsX00)
def wsX5_back_r1 : List Cond := [Cond.fieldLink RX5 23 "WheelAreas" "kept" "[Z", Cond.fieldLink RX5 10 "WheelAreas" "now" "LWheelAreas$Layout;", Cond.fieldLink RX5 19 "WheelAreas" "images" "[LWheelAreas$Layout;", Cond.fieldLink RX5 105 "WheelAreas$Layout" "traced" "I", Cond.methodLink RX5 62 yX5_within, Cond.static yX5_within, Cond.initialized RX5, Cond.code yX5_within cX5_within 3 (some .boolean), Cond.methodLink RX5 91 yX0_copyFrom, Cond.instanceMethod yX0_copyFrom, Cond.selects RX0 yX0_copyFrom yX0_copyFrom, Cond.initialized RX0, Cond.code yX0_copyFrom cX0_copyFrom 2 none, Cond.fieldLink RX0 9 "WheelAreas$Layout" "cornerX" "[I", Cond.methodLink RX0 43 arraycopyName, Cond.native arraycopyName, Cond.static arraycopyName, Cond.initialized "java/lang/System", Cond.fieldLink RX0 15 "WheelAreas$Layout" "cornerY" "[I", Cond.fieldLink RX0 18 "WheelAreas$Layout" "corners" "I", Cond.fieldLink RX0 22 "WheelAreas$Layout" "wheelKind" "[I", Cond.fieldLink RX0 25 "WheelAreas$Layout" "wheelStep" "[I", Cond.fieldLink RX0 28 "WheelAreas$Layout" "wheelReads" "[I", Cond.fieldLink RX0 31 "WheelAreas$Layout" "wheels" "I"]
def wsX5_back_r2 : List Cond := [Cond.fieldLink RX0 34 "WheelAreas$Layout" "poleX" "I", Cond.fieldLink RX0 37 "WheelAreas$Layout" "poleY" "I", Cond.fieldLink RX0 40 "WheelAreas$Layout" "traced" "I"]
def wsX5_back : List Cond := .code yX5_back cX5_back 2 (some .int) :: ((wsX5_back_r1 ++ wsX5_back_r2) ++ wsX50 ++ wsX00)
def wsX5_isSheet : List Cond := .code yX5_isSheet cX5_isSheet 1 (some .boolean) :: ([.methodLink RX5 62 yX5_within, .static yX5_within, .initialized RX5, .code yX5_within cX5_within 3 (some .boolean)])
def wsX5_isLane : List Cond := .code yX5_isLane cX5_isLane 1 (some .boolean) :: ([.methodLink RX5 62 yX5_within, .static yX5_within, .initialized RX5, .code yX5_within cX5_within 3 (some .boolean)])
def wsX5_sheet : List Cond := .code yX5_sheet cX5_sheet 4 (some .int) :: ([.fieldLink RX5 43 "WheelAreas" "sheets" "[LWheelAreas$Sheet;", .methodLink RX5 274 yX5_isSheet, .static yX5_isSheet, .initialized RX5, .code yX5_isSheet cX5_isSheet 1 (some .boolean), .methodLink RX5 62 yX5_within, .static yX5_within, .code yX5_within cX5_within 3 (some .boolean), .methodLink RX5 277 yX5_isLane, .static yX5_isLane, .code yX5_isLane cX5_isLane 1 (some .boolean), .methodLink RX5 280 yX1_renew, .instanceMethod yX1_renew, .selects RX1 yX1_renew yX1_renew, .initialized RX1, .code yX1_renew cX1_renew 4 none, .fieldLink RX1 9 "WheelAreas$Sheet" "cells" "[I", .fieldLink RX1 15 "WheelAreas$Sheet" "lane" "I", .fieldLink RX1 19 "WheelAreas$Sheet" "size" "I"] ++ wsX50 ++ wsX10)
def wsX5_lay_r1 : List Cond := [Cond.fieldLink RX5 43 "WheelAreas" "sheets" "[LWheelAreas$Sheet;", Cond.fieldLink RX5 283 "WheelAreas$Sheet" "lane" "I", Cond.methodLink RX5 274 yX5_isSheet, Cond.static yX5_isSheet, Cond.initialized RX5, Cond.code yX5_isSheet cX5_isSheet 1 (some .boolean), Cond.methodLink RX5 62 yX5_within, Cond.static yX5_within, Cond.code yX5_within cX5_within 3 (some .boolean), Cond.methodLink RX5 286 yX1_faultAt, Cond.instanceMethod yX1_faultAt, Cond.selects RX1 yX1_faultAt yX1_faultAt, Cond.initialized RX1, Cond.code yX1_faultAt cX1_faultAt 3 (some .int), Cond.fieldLink RX1 15 "WheelAreas$Sheet" "lane" "I", Cond.fieldLink RX1 19 "WheelAreas$Sheet" "size" "I", Cond.methodLink RX1 22 yX1_isNothing, Cond.instanceMethod yX1_isNothing, Cond.selects RX1 yX1_isNothing yX1_isNothing, Cond.code yX1_isNothing cX1_isNothing 1 (some .boolean), Cond.methodLink RX5 289 yX1_layCell, Cond.instanceMethod yX1_layCell, Cond.selects RX1 yX1_layCell yX1_layCell, Cond.code yX1_layCell cX1_layCell 3 none]
def wsX5_lay_r2 : List Cond := [Cond.fieldLink RX1 9 "WheelAreas$Sheet" "cells" "[I"]
def wsX5_lay : List Cond := .code yX5_lay cX5_lay 6 (some .int) :: ((wsX5_lay_r1 ++ wsX5_lay_r2) ++ wsX50 ++ wsX10)
def wsX5_read_r1 : List Cond := [Cond.fieldLink RX5 43 "WheelAreas" "sheets" "[LWheelAreas$Sheet;", Cond.fieldLink RX5 16 "WheelAreas" "trial" "LWheelAreas$Layout;", Cond.fieldLink RX5 10 "WheelAreas" "now" "LWheelAreas$Layout;", Cond.fieldLink RX5 295 "WheelAreas$Sheet" "cells" "[I", Cond.fieldLink RX5 99 "WheelAreas$Layout" "corners" "I", Cond.fieldLink RX5 58 "WheelAreas" "readFault" "I", Cond.methodLink RX5 274 yX5_isSheet, Cond.static yX5_isSheet, Cond.initialized RX5, Cond.code yX5_isSheet cX5_isSheet 1 (some .boolean), Cond.methodLink RX5 62 yX5_within, Cond.static yX5_within, Cond.code yX5_within cX5_within 3 (some .boolean), Cond.methodLink RX5 277 yX5_isLane, Cond.static yX5_isLane, Cond.code yX5_isLane cX5_isLane 1 (some .boolean), Cond.methodLink RX5 91 yX0_copyFrom, Cond.instanceMethod yX0_copyFrom, Cond.selects RX0 yX0_copyFrom yX0_copyFrom, Cond.initialized RX0, Cond.code yX0_copyFrom cX0_copyFrom 2 none, Cond.fieldLink RX0 9 "WheelAreas$Layout" "cornerX" "[I", Cond.methodLink RX0 43 arraycopyName, Cond.native arraycopyName]
def wsX5_read_r2 : List Cond := [Cond.static arraycopyName, Cond.initialized "java/lang/System", Cond.fieldLink RX0 15 "WheelAreas$Layout" "cornerY" "[I", Cond.fieldLink RX0 18 "WheelAreas$Layout" "corners" "I", Cond.fieldLink RX0 22 "WheelAreas$Layout" "wheelKind" "[I", Cond.fieldLink RX0 25 "WheelAreas$Layout" "wheelStep" "[I", Cond.fieldLink RX0 28 "WheelAreas$Layout" "wheelReads" "[I", Cond.fieldLink RX0 31 "WheelAreas$Layout" "wheels" "I", Cond.fieldLink RX0 34 "WheelAreas$Layout" "poleX" "I", Cond.fieldLink RX0 37 "WheelAreas$Layout" "poleY" "I", Cond.fieldLink RX0 40 "WheelAreas$Layout" "traced" "I", Cond.methodLink RX5 292 yX1_faultAtPair, Cond.instanceMethod yX1_faultAtPair, Cond.selects RX1 yX1_faultAtPair yX1_faultAtPair, Cond.initialized RX1, Cond.code yX1_faultAtPair cX1_faultAtPair 4 (some .int), Cond.methodLink RX1 30 yX1_faultAt, Cond.instanceMethod yX1_faultAt, Cond.selects RX1 yX1_faultAt yX1_faultAt, Cond.code yX1_faultAt cX1_faultAt 3 (some .int), Cond.fieldLink RX1 15 "WheelAreas$Sheet" "lane" "I", Cond.fieldLink RX1 19 "WheelAreas$Sheet" "size" "I", Cond.methodLink RX1 22 yX1_isNothing, Cond.instanceMethod yX1_isNothing]
def wsX5_read_r3 : List Cond := [Cond.selects RX1 yX1_isNothing yX1_isNothing, Cond.code yX1_isNothing cX1_isNothing 1 (some .boolean), Cond.methodLink RX5 177 yX5_refusalOfCorner, Cond.static yX5_refusalOfCorner, Cond.code yX5_refusalOfCorner cX5_refusalOfCorner 3 (some .int), Cond.methodLink RX5 165 yX5_isPlace, Cond.static yX5_isPlace, Cond.code yX5_isPlace cX5_isPlace 2 (some .boolean), Cond.methodLink RX5 181 yX0_appendCorner, Cond.instanceMethod yX0_appendCorner, Cond.selects RX0 yX0_appendCorner yX0_appendCorner, Cond.code yX0_appendCorner cX0_appendCorner 3 none]
def wsX5_read : List Cond := .code yX5_read cX5_read 11 (some .int) :: ((wsX5_read_r1 ++ (wsX5_read_r2 ++ wsX5_read_r3)) ++ wsX50 ++ wsX10 ++ wsX00)
def wsX5_torn : List Cond := .code yX5_torn cX5_torn 1 (some .int) :: ([.fieldLink RX5 58 "WheelAreas" "readFault" "I"] ++ wsX50)
def wsX5_count_r1 : List Cond := [Cond.fieldLink RX5 37 "WheelAreas" "sightings" "LWheelAreas$Sightings;", Cond.fieldLink RX5 95 "WheelAreas$Sightings" "size" "I", Cond.fieldLink RX5 23 "WheelAreas" "kept" "[Z", Cond.fieldLink RX5 30 "WheelAreas" "reader" "LWheelAreas$TextReader;", Cond.fieldLink RX5 66 "WheelAreas$TextReader" "tape" "LWheelAreas$Tape;", Cond.fieldLink RX5 70 "WheelAreas$Tape" "size" "I", Cond.fieldLink RX5 43 "WheelAreas" "sheets" "[LWheelAreas$Sheet;", Cond.fieldLink RX5 302 "WheelAreas$Sheet" "size" "I", Cond.fieldLink RX5 10 "WheelAreas" "now" "LWheelAreas$Layout;", Cond.methodLink RX5 298 yX1_isNothing, Cond.instanceMethod yX1_isNothing, Cond.selects RX1 yX1_isNothing yX1_isNothing, Cond.initialized RX1, Cond.code yX1_isNothing cX1_isNothing 1 (some .boolean), Cond.fieldLink RX1 19 "WheelAreas$Sheet" "size" "I", Cond.methodLink RX5 303 yX0_sumOfSteps, Cond.instanceMethod yX0_sumOfSteps, Cond.selects RX0 yX0_sumOfSteps yX0_sumOfSteps, Cond.initialized RX0, Cond.code yX0_sumOfSteps cX0_sumOfSteps 3 (some .int), Cond.fieldLink RX0 31 "WheelAreas$Layout" "wheels" "I", Cond.fieldLink RX0 25 "WheelAreas$Layout" "wheelStep" "[I", Cond.methodLink RX5 306 yX0_sumOfPlaces, Cond.instanceMethod yX0_sumOfPlaces]
def wsX5_count_r2 : List Cond := [Cond.selects RX0 yX0_sumOfPlaces yX0_sumOfPlaces, Cond.code yX0_sumOfPlaces cX0_sumOfPlaces 3 (some .int), Cond.fieldLink RX0 18 "WheelAreas$Layout" "corners" "I", Cond.fieldLink RX0 9 "WheelAreas$Layout" "cornerX" "[I", Cond.fieldLink RX0 15 "WheelAreas$Layout" "cornerY" "[I"]
def wsX5_count : List Cond := .code yX5_count cX5_count 2 (some .int) :: ((wsX5_count_r1 ++ wsX5_count_r2) ++ wsX50 ++ wsX20 ++ wsX40 ++ wsX30 ++ wsX10 ++ wsX00)
def wsX6_init : List Cond := .code yX6_init cX6_init 1 none :: ([.methodLink RX6 1 objectInit, .instanceMethod objectInit, .code objectInit ⟨#[0xb1]⟩ 1 none, .arrayClass .int, .fieldLink RX6 7 "WheelAreasModel" "state" "[I", .fieldLink RX6 13 "WheelAreasModel" "readPage" "[I", .fieldLink RX6 16 "WheelAreasModel" "tape" "[I", .fieldLink RX6 19 "WheelAreasModel" "ends" "[I", .fieldLink RX6 22 "WheelAreasModel" "letters" "[I", .fieldLink RX6 25 "WheelAreasModel" "lost" "I", .fieldLink RX6 29 "WheelAreasModel" "seen" "[I", .fieldLink RX6 32 "WheelAreasModel" "readBy" "[I", .arrayClass .boolean, .fieldLink RX6 35 "WheelAreasModel" "isKept" "[Z", .fieldLink RX6 39 "WheelAreasModel" "lanes" "[I", .fieldLink RX6 42 "WheelAreasModel" "lengths" "[I", .fieldLink RX6 45 "WheelAreasModel" "cells" "[I"] ++ wsX60)
def wsX6_in : List Cond := .code yX6_in cX6_in 6 (some .boolean) :: ([])
def wsX6_amount : List Cond := .code yX6_amount cX6_amount 1 (some .int) :: ([])
def wsX6_feed : List Cond := .code yX6_feed cX6_feed 2 (some .int) :: ([.constantLong RX6 48 (127), .fieldLink RX6 54 "WheelAreasModel" "taped" "I", .fieldLink RX6 16 "WheelAreasModel" "tape" "[I", .methodLink RX6 50 yX6_in, .static yX6_in, .initialized RX6, .code yX6_in cX6_in 6 (some .boolean)] ++ wsX60)
def wsX6_end : List Cond := .code yX6_end cX6_end 3 (some .int) :: ([.fieldLink RX6 54 "WheelAreasModel" "taped" "I", .methodLink RX6 50 yX6_in, .static yX6_in, .initialized RX6, .code yX6_in cX6_in 6 (some .boolean)] ++ wsX60)
def wsX6_byteAt : List Cond := .code yX6_byteAt cX6_byteAt 2 (some .int) :: ([.fieldLink RX6 54 "WheelAreasModel" "taped" "I", .fieldLink RX6 16 "WheelAreasModel" "tape" "[I"] ++ wsX60)
def wsX6_fails : List Cond := .code yX6_fails cX6_fails 2 none :: ([.fieldLink RX6 57 "WheelAreasModel" "broken" "I", .fieldLink RX6 60 "WheelAreasModel" "here" "I", .fieldLink RX6 63 "WheelAreasModel" "brokenAt" "I"] ++ wsX60)
def wsX6_nameHere : List Cond := .code yX6_nameHere cX6_nameHere 4 (some .int) :: ([.fieldLink RX6 66 "WheelAreasModel" "token" "I", .fieldLink RX6 69 "WheelAreasModel" "spot" "I", .fieldLink RX6 60 "WheelAreasModel" "here" "I", .fieldLink RX6 19 "WheelAreasModel" "ends" "[I", .fieldLink RX6 22 "WheelAreasModel" "letters" "[I", .methodLink RX6 72 yX6_byteAt, .instanceMethod yX6_byteAt, .selects RX6 yX6_byteAt yX6_byteAt, .initialized RX6, .code yX6_byteAt cX6_byteAt 2 (some .int), .fieldLink RX6 54 "WheelAreasModel" "taped" "I", .fieldLink RX6 16 "WheelAreasModel" "tape" "[I"] ++ wsX60)
def wsX6_readsOn : List Cond := .code yX6_readsOn cX6_readsOn 2 none :: ([.fieldLink RX6 57 "WheelAreasModel" "broken" "I", .fieldLink RX6 69 "WheelAreasModel" "spot" "I", .fieldLink RX6 60 "WheelAreasModel" "here" "I", .fieldLink RX6 76 "WheelAreasModel" "value" "I", .fieldLink RX6 66 "WheelAreasModel" "token" "I", .constantLong RX6 79 (97), .constantLong RX6 81 (122), .constantLong RX6 83 (48), .constantLong RX6 85 (57), .methodLink RX6 72 yX6_byteAt, .instanceMethod yX6_byteAt, .selects RX6 yX6_byteAt yX6_byteAt, .initialized RX6, .code yX6_byteAt cX6_byteAt 2 (some .int), .fieldLink RX6 54 "WheelAreasModel" "taped" "I", .fieldLink RX6 16 "WheelAreasModel" "tape" "[I", .methodLink RX6 50 yX6_in, .static yX6_in, .code yX6_in cX6_in 6 (some .boolean), .methodLink RX6 87 yX6_fails, .instanceMethod yX6_fails, .selects RX6 yX6_fails yX6_fails, .code yX6_fails cX6_fails 2 none, .fieldLink RX6 63 "WheelAreasModel" "brokenAt" "I"] ++ wsX60)
def wsX6_number_r1 : List Cond := [Cond.fieldLink RX6 57 "WheelAreasModel" "broken" "I", Cond.fieldLink RX6 66 "WheelAreasModel" "token" "I", Cond.fieldLink RX6 76 "WheelAreasModel" "value" "I", Cond.methodLink RX6 87 yX6_fails, Cond.instanceMethod yX6_fails, Cond.selects RX6 yX6_fails yX6_fails, Cond.initialized RX6, Cond.code yX6_fails cX6_fails 2 none, Cond.fieldLink RX6 60 "WheelAreasModel" "here" "I", Cond.fieldLink RX6 63 "WheelAreasModel" "brokenAt" "I", Cond.methodLink RX6 50 yX6_in, Cond.static yX6_in, Cond.code yX6_in cX6_in 6 (some .boolean), Cond.methodLink RX6 91 yX6_readsOn, Cond.instanceMethod yX6_readsOn, Cond.selects RX6 yX6_readsOn yX6_readsOn, Cond.code yX6_readsOn cX6_readsOn 2 none, Cond.fieldLink RX6 69 "WheelAreasModel" "spot" "I", Cond.constantLong RX6 79 (97), Cond.constantLong RX6 81 (122), Cond.constantLong RX6 83 (48), Cond.constantLong RX6 85 (57), Cond.methodLink RX6 72 yX6_byteAt, Cond.instanceMethod yX6_byteAt]
def wsX6_number_r2 : List Cond := [Cond.selects RX6 yX6_byteAt yX6_byteAt, Cond.code yX6_byteAt cX6_byteAt 2 (some .int), Cond.fieldLink RX6 54 "WheelAreasModel" "taped" "I", Cond.fieldLink RX6 16 "WheelAreasModel" "tape" "[I"]
def wsX6_number : List Cond := .code yX6_number cX6_number 4 (some .int) :: ((wsX6_number_r1 ++ wsX6_number_r2) ++ wsX60)
def wsX6_readMore_r1 : List Cond := [Cond.fieldLink RX6 13 "WheelAreasModel" "readPage" "[I", Cond.methodLink RX6 94 yX6_number, Cond.instanceMethod yX6_number, Cond.selects RX6 yX6_number yX6_number, Cond.initialized RX6, Cond.code yX6_number cX6_number 4 (some .int), Cond.fieldLink RX6 57 "WheelAreasModel" "broken" "I", Cond.fieldLink RX6 66 "WheelAreasModel" "token" "I", Cond.fieldLink RX6 76 "WheelAreasModel" "value" "I", Cond.methodLink RX6 87 yX6_fails, Cond.instanceMethod yX6_fails, Cond.selects RX6 yX6_fails yX6_fails, Cond.code yX6_fails cX6_fails 2 none, Cond.fieldLink RX6 60 "WheelAreasModel" "here" "I", Cond.fieldLink RX6 63 "WheelAreasModel" "brokenAt" "I", Cond.methodLink RX6 50 yX6_in, Cond.static yX6_in, Cond.code yX6_in cX6_in 6 (some .boolean), Cond.methodLink RX6 91 yX6_readsOn, Cond.instanceMethod yX6_readsOn, Cond.selects RX6 yX6_readsOn yX6_readsOn, Cond.code yX6_readsOn cX6_readsOn 2 none, Cond.fieldLink RX6 69 "WheelAreasModel" "spot" "I", Cond.constantLong RX6 79 (97)]
def wsX6_readMore_r2 : List Cond := [Cond.constantLong RX6 81 (122), Cond.constantLong RX6 83 (48), Cond.constantLong RX6 85 (57), Cond.methodLink RX6 72 yX6_byteAt, Cond.instanceMethod yX6_byteAt, Cond.selects RX6 yX6_byteAt yX6_byteAt, Cond.code yX6_byteAt cX6_byteAt 2 (some .int), Cond.fieldLink RX6 54 "WheelAreasModel" "taped" "I", Cond.fieldLink RX6 16 "WheelAreasModel" "tape" "[I"]
def wsX6_readMore : List Cond := .code yX6_readMore cX6_readMore 3 none :: ((wsX6_readMore_r1 ++ wsX6_readMore_r2) ++ wsX60)
def wsX6_readLine_r1 : List Cond := [Cond.constantLong RX6 102 (5), Cond.fieldLink RX6 13 "WheelAreasModel" "readPage" "[I", Cond.fieldLink RX6 104 "WheelAreasModel" "isPoleTold" "Z", Cond.fieldLink RX6 57 "WheelAreasModel" "broken" "I", Cond.fieldLink RX6 66 "WheelAreasModel" "token" "I", Cond.methodLink RX6 98 yX6_nameHere, Cond.instanceMethod yX6_nameHere, Cond.selects RX6 yX6_nameHere yX6_nameHere, Cond.initialized RX6, Cond.code yX6_nameHere cX6_nameHere 4 (some .int), Cond.fieldLink RX6 69 "WheelAreasModel" "spot" "I", Cond.fieldLink RX6 60 "WheelAreasModel" "here" "I", Cond.fieldLink RX6 19 "WheelAreasModel" "ends" "[I", Cond.fieldLink RX6 22 "WheelAreasModel" "letters" "[I", Cond.methodLink RX6 72 yX6_byteAt, Cond.instanceMethod yX6_byteAt, Cond.selects RX6 yX6_byteAt yX6_byteAt, Cond.code yX6_byteAt cX6_byteAt 2 (some .int), Cond.fieldLink RX6 54 "WheelAreasModel" "taped" "I", Cond.fieldLink RX6 16 "WheelAreasModel" "tape" "[I", Cond.methodLink RX6 50 yX6_in, Cond.static yX6_in, Cond.code yX6_in cX6_in 6 (some .boolean), Cond.methodLink RX6 87 yX6_fails]
def wsX6_readLine_r2 : List Cond := [Cond.instanceMethod yX6_fails, Cond.selects RX6 yX6_fails yX6_fails, Cond.code yX6_fails cX6_fails 2 none, Cond.fieldLink RX6 63 "WheelAreasModel" "brokenAt" "I", Cond.methodLink RX6 91 yX6_readsOn, Cond.instanceMethod yX6_readsOn, Cond.selects RX6 yX6_readsOn yX6_readsOn, Cond.code yX6_readsOn cX6_readsOn 2 none, Cond.fieldLink RX6 76 "WheelAreasModel" "value" "I", Cond.constantLong RX6 79 (97), Cond.constantLong RX6 81 (122), Cond.constantLong RX6 83 (48), Cond.constantLong RX6 85 (57), Cond.methodLink RX6 108 yX6_readMore, Cond.instanceMethod yX6_readMore, Cond.selects RX6 yX6_readMore yX6_readMore, Cond.code yX6_readMore cX6_readMore 3 none, Cond.methodLink RX6 94 yX6_number, Cond.instanceMethod yX6_number, Cond.selects RX6 yX6_number yX6_number, Cond.code yX6_number cX6_number 4 (some .int)]
def wsX6_readLine : List Cond := .code yX6_readLine cX6_readLine 2 none :: ((wsX6_readLine_r1 ++ wsX6_readLine_r2) ++ wsX60)
def wsX6_text_r1 : List Cond := [Cond.fieldLink RX6 57 "WheelAreasModel" "broken" "I", Cond.fieldLink RX6 69 "WheelAreasModel" "spot" "I", Cond.fieldLink RX6 104 "WheelAreasModel" "isPoleTold" "Z", Cond.fieldLink RX6 13 "WheelAreasModel" "readPage" "[I", Cond.fieldLink RX6 66 "WheelAreasModel" "token" "I", Cond.fieldLink RX6 54 "WheelAreasModel" "taped" "I", Cond.fieldLink RX6 114 "WheelAreasModel" "fault" "I", Cond.fieldLink RX6 63 "WheelAreasModel" "brokenAt" "I", Cond.fieldLink RX6 7 "WheelAreasModel" "state" "[I", Cond.fieldLink RX6 117 "WheelAreasModel" "seenMany" "I", Cond.fieldLink RX6 35 "WheelAreasModel" "isKept" "[Z", Cond.methodLink RX6 91 yX6_readsOn, Cond.instanceMethod yX6_readsOn, Cond.selects RX6 yX6_readsOn yX6_readsOn, Cond.initialized RX6, Cond.code yX6_readsOn cX6_readsOn 2 none, Cond.fieldLink RX6 60 "WheelAreasModel" "here" "I", Cond.fieldLink RX6 76 "WheelAreasModel" "value" "I", Cond.constantLong RX6 79 (97), Cond.constantLong RX6 81 (122), Cond.constantLong RX6 83 (48), Cond.constantLong RX6 85 (57), Cond.methodLink RX6 72 yX6_byteAt, Cond.instanceMethod yX6_byteAt]
def wsX6_text_r2 : List Cond := [Cond.selects RX6 yX6_byteAt yX6_byteAt, Cond.code yX6_byteAt cX6_byteAt 2 (some .int), Cond.fieldLink RX6 16 "WheelAreasModel" "tape" "[I", Cond.methodLink RX6 50 yX6_in, Cond.static yX6_in, Cond.code yX6_in cX6_in 6 (some .boolean), Cond.methodLink RX6 87 yX6_fails, Cond.instanceMethod yX6_fails, Cond.selects RX6 yX6_fails yX6_fails, Cond.code yX6_fails cX6_fails 2 none, Cond.methodLink RX6 111 yX6_readLine, Cond.instanceMethod yX6_readLine, Cond.selects RX6 yX6_readLine yX6_readLine, Cond.code yX6_readLine cX6_readLine 2 none, Cond.constantLong RX6 102 (5), Cond.methodLink RX6 98 yX6_nameHere, Cond.instanceMethod yX6_nameHere, Cond.selects RX6 yX6_nameHere yX6_nameHere, Cond.code yX6_nameHere cX6_nameHere 4 (some .int), Cond.fieldLink RX6 19 "WheelAreasModel" "ends" "[I", Cond.fieldLink RX6 22 "WheelAreasModel" "letters" "[I", Cond.methodLink RX6 108 yX6_readMore, Cond.instanceMethod yX6_readMore, Cond.selects RX6 yX6_readMore yX6_readMore]
def wsX6_text_r3 : List Cond := [Cond.code yX6_readMore cX6_readMore 3 none, Cond.methodLink RX6 94 yX6_number, Cond.instanceMethod yX6_number, Cond.selects RX6 yX6_number yX6_number, Cond.code yX6_number cX6_number 4 (some .int)]
def wsX6_text : List Cond := .code yX6_text cX6_text 3 (some .int) :: ((wsX6_text_r1 ++ (wsX6_text_r2 ++ wsX6_text_r3)) ++ wsX60)
def wsX6_fault : List Cond := .code yX6_fault cX6_fault 1 (some .int) :: ([.fieldLink RX6 114 "WheelAreasModel" "fault" "I"] ++ wsX60)
def wsX6_isCorner : List Cond := .code yX6_isCorner cX6_isCorner 2 (some .boolean) :: ([.fieldLink RX6 7 "WheelAreasModel" "state" "[I", .methodLink RX6 50 yX6_in, .static yX6_in, .initialized RX6, .code yX6_in cX6_in 6 (some .boolean)] ++ wsX60)
def wsX6_isWheel : List Cond := .code yX6_isWheel cX6_isWheel 2 (some .boolean) :: ([.fieldLink RX6 7 "WheelAreasModel" "state" "[I", .methodLink RX6 50 yX6_in, .static yX6_in, .initialized RX6, .code yX6_in cX6_in 6 (some .boolean)] ++ wsX60)
def wsX6_isPoint : List Cond := .code yX6_isPoint cX6_isPoint 2 (some .boolean) :: ([.constantLong RX6 120 (20), .methodLink RX6 50 yX6_in, .static yX6_in, .initialized RX6, .code yX6_in cX6_in 6 (some .boolean)])
def wsX6_isLong : List Cond := .code yX6_isLong cX6_isLong 1 (some .boolean) :: ([.constantLong RX6 122 (200), .methodLink RX6 50 yX6_in, .static yX6_in, .initialized RX6, .code yX6_in cX6_in 6 (some .boolean)])
def wsX6_isReading : List Cond := .code yX6_isReading cX6_isReading 1 (some .boolean) :: ([.constantLong RX6 124 (10000000), .constantLong RX6 126 (30000000), .methodLink RX6 50 yX6_in, .static yX6_in, .initialized RX6, .code yX6_in cX6_in 6 (some .boolean)])
def wsX6_sweepOn : List Cond := .code yX6_sweepOn cX6_sweepOn 6 (some .int) :: ([.fieldLink RX6 7 "WheelAreasModel" "state" "[I"] ++ wsX60)
def wsX6_behindOn : List Cond := .code yX6_behindOn cX6_behindOn 3 (some .int) :: ([.fieldLink RX6 7 "WheelAreasModel" "state" "[I"] ++ wsX60)
def wsX6_areaOn : List Cond := .code yX6_areaOn cX6_areaOn 5 (some .int) :: ([.fieldLink RX6 7 "WheelAreasModel" "state" "[I", .fieldLink RX6 25 "WheelAreasModel" "lost" "I", .methodLink RX6 128 yX6_behindOn, .instanceMethod yX6_behindOn, .selects RX6 yX6_behindOn yX6_behindOn, .initialized RX6, .code yX6_behindOn cX6_behindOn 3 (some .int), .methodLink RX6 131 yX6_sweepOn, .instanceMethod yX6_sweepOn, .selects RX6 yX6_sweepOn yX6_sweepOn, .code yX6_sweepOn cX6_sweepOn 6 (some .int)] ++ wsX60)
def wsX6_rollsOn : List Cond := .code yX6_rollsOn cX6_rollsOn 7 (some .int) :: ([.fieldLink RX6 7 "WheelAreasModel" "state" "[I", .methodLink RX6 135 yX6_amount, .static yX6_amount, .initialized RX6, .code yX6_amount cX6_amount 1 (some .int)] ++ wsX60)
def wsX6_errorOn : List Cond := .code yX6_errorOn cX6_errorOn 5 (some .int) :: ([.fieldLink RX6 7 "WheelAreasModel" "state" "[I", .methodLink RX6 128 yX6_behindOn, .instanceMethod yX6_behindOn, .selects RX6 yX6_behindOn yX6_behindOn, .initialized RX6, .code yX6_behindOn cX6_behindOn 3 (some .int), .methodLink RX6 131 yX6_sweepOn, .instanceMethod yX6_sweepOn, .selects RX6 yX6_sweepOn yX6_sweepOn, .code yX6_sweepOn cX6_sweepOn 6 (some .int), .methodLink RX6 138 yX6_rollsOn, .instanceMethod yX6_rollsOn, .selects RX6 yX6_rollsOn yX6_rollsOn, .code yX6_rollsOn cX6_rollsOn 7 (some .int), .methodLink RX6 135 yX6_amount, .static yX6_amount, .code yX6_amount cX6_amount 1 (some .int), .methodLink RX6 141 yX6_areaOn, .instanceMethod yX6_areaOn, .selects RX6 yX6_areaOn yX6_areaOn, .code yX6_areaOn cX6_areaOn 5 (some .int), .fieldLink RX6 25 "WheelAreasModel" "lost" "I"] ++ wsX60)
def wsX6_starts : List Cond := .code yX6_starts cX6_starts 1 none :: ([.fieldLink RX6 144 "WheelAreasModel" "rolled" "I", .fieldLink RX6 147 "WheelAreasModel" "idle" "I", .constant RX6 150 (-1000000), .fieldLink RX6 151 "WheelAreasModel" "greatest" "I"] ++ wsX60)
def wsX6_edgeOn : List Cond := .code yX6_edgeOn cX6_edgeOn 7 none :: ([.fieldLink RX6 7 "WheelAreasModel" "state" "[I", .fieldLink RX6 144 "WheelAreasModel" "rolled" "I", .fieldLink RX6 147 "WheelAreasModel" "idle" "I", .fieldLink RX6 151 "WheelAreasModel" "greatest" "I", .methodLink RX6 128 yX6_behindOn, .instanceMethod yX6_behindOn, .selects RX6 yX6_behindOn yX6_behindOn, .initialized RX6, .code yX6_behindOn cX6_behindOn 3 (some .int), .methodLink RX6 131 yX6_sweepOn, .instanceMethod yX6_sweepOn, .selects RX6 yX6_sweepOn yX6_sweepOn, .code yX6_sweepOn cX6_sweepOn 6 (some .int), .methodLink RX6 138 yX6_rollsOn, .instanceMethod yX6_rollsOn, .selects RX6 yX6_rollsOn yX6_rollsOn, .code yX6_rollsOn cX6_rollsOn 7 (some .int), .methodLink RX6 135 yX6_amount, .static yX6_amount, .code yX6_amount cX6_amount 1 (some .int)] ++ wsX60)
def wsX6_tracesOn : List Cond := .code yX6_tracesOn cX6_tracesOn 4 none :: ([.fieldLink RX6 7 "WheelAreasModel" "state" "[I", .methodLink RX6 154 yX6_edgeOn, .instanceMethod yX6_edgeOn, .selects RX6 yX6_edgeOn yX6_edgeOn, .initialized RX6, .code yX6_edgeOn cX6_edgeOn 7 none, .fieldLink RX6 144 "WheelAreasModel" "rolled" "I", .fieldLink RX6 147 "WheelAreasModel" "idle" "I", .fieldLink RX6 151 "WheelAreasModel" "greatest" "I", .methodLink RX6 128 yX6_behindOn, .instanceMethod yX6_behindOn, .selects RX6 yX6_behindOn yX6_behindOn, .code yX6_behindOn cX6_behindOn 3 (some .int), .methodLink RX6 131 yX6_sweepOn, .instanceMethod yX6_sweepOn, .selects RX6 yX6_sweepOn yX6_sweepOn, .code yX6_sweepOn cX6_sweepOn 6 (some .int), .methodLink RX6 138 yX6_rollsOn, .instanceMethod yX6_rollsOn, .selects RX6 yX6_rollsOn yX6_rollsOn, .code yX6_rollsOn cX6_rollsOn 7 (some .int), .methodLink RX6 135 yX6_amount, .static yX6_amount, .code yX6_amount cX6_amount 1 (some .int)] ++ wsX60)
def wsX6_rule : List Cond := .code yX6_rule cX6_rule 3 (some .int) :: ([.fieldLink RX6 7 "WheelAreasModel" "state" "[I", .constant RX6 158 (100000), .methodLink RX6 141 yX6_areaOn, .instanceMethod yX6_areaOn, .selects RX6 yX6_areaOn yX6_areaOn, .initialized RX6, .code yX6_areaOn cX6_areaOn 5 (some .int), .fieldLink RX6 25 "WheelAreasModel" "lost" "I", .methodLink RX6 128 yX6_behindOn, .instanceMethod yX6_behindOn, .selects RX6 yX6_behindOn yX6_behindOn, .code yX6_behindOn cX6_behindOn 3 (some .int), .methodLink RX6 131 yX6_sweepOn, .instanceMethod yX6_sweepOn, .selects RX6 yX6_sweepOn yX6_sweepOn, .code yX6_sweepOn cX6_sweepOn 6 (some .int)] ++ wsX60)
def wsX6_corner : List Cond := .code yX6_corner cX6_corner 3 (some .int) :: ([.constantLong RX6 163 (2), .fieldLink RX6 7 "WheelAreasModel" "state" "[I", .methodLink RX6 159 yX6_isCorner, .instanceMethod yX6_isCorner, .selects RX6 yX6_isCorner yX6_isCorner, .initialized RX6, .code yX6_isCorner cX6_isCorner 2 (some .boolean), .methodLink RX6 50 yX6_in, .static yX6_in, .code yX6_in cX6_in 6 (some .boolean), .methodLink RX6 128 yX6_behindOn, .instanceMethod yX6_behindOn, .selects RX6 yX6_behindOn yX6_behindOn, .code yX6_behindOn cX6_behindOn 3 (some .int), .methodLink RX6 131 yX6_sweepOn, .instanceMethod yX6_sweepOn, .selects RX6 yX6_sweepOn yX6_sweepOn, .code yX6_sweepOn cX6_sweepOn 6 (some .int)] ++ wsX60)
def wsX6_showsOn : List Cond := .code yX6_showsOn cX6_showsOn 5 (some .int) :: ([.fieldLink RX6 7 "WheelAreasModel" "state" "[I"] ++ wsX60)
def wsX6_wheel_r1 : List Cond := [Cond.fieldLink RX6 7 "WheelAreasModel" "state" "[I", Cond.constant RX6 168 (20000000), Cond.methodLink RX6 165 yX6_isWheel, Cond.instanceMethod yX6_isWheel, Cond.selects RX6 yX6_isWheel yX6_isWheel, Cond.initialized RX6, Cond.code yX6_isWheel cX6_isWheel 2 (some .boolean), Cond.methodLink RX6 50 yX6_in, Cond.static yX6_in, Cond.code yX6_in cX6_in 6 (some .boolean), Cond.methodLink RX6 169 yX6_showsOn, Cond.instanceMethod yX6_showsOn, Cond.selects RX6 yX6_showsOn yX6_showsOn, Cond.code yX6_showsOn cX6_showsOn 5 (some .int), Cond.methodLink RX6 172 yX6_errorOn, Cond.instanceMethod yX6_errorOn, Cond.selects RX6 yX6_errorOn yX6_errorOn, Cond.code yX6_errorOn cX6_errorOn 5 (some .int), Cond.methodLink RX6 128 yX6_behindOn, Cond.instanceMethod yX6_behindOn, Cond.selects RX6 yX6_behindOn yX6_behindOn, Cond.code yX6_behindOn cX6_behindOn 3 (some .int), Cond.methodLink RX6 131 yX6_sweepOn, Cond.instanceMethod yX6_sweepOn]
def wsX6_wheel_r2 : List Cond := [Cond.selects RX6 yX6_sweepOn yX6_sweepOn, Cond.code yX6_sweepOn cX6_sweepOn 6 (some .int), Cond.methodLink RX6 138 yX6_rollsOn, Cond.instanceMethod yX6_rollsOn, Cond.selects RX6 yX6_rollsOn yX6_rollsOn, Cond.code yX6_rollsOn cX6_rollsOn 7 (some .int), Cond.methodLink RX6 135 yX6_amount, Cond.static yX6_amount, Cond.code yX6_amount cX6_amount 1 (some .int), Cond.methodLink RX6 141 yX6_areaOn, Cond.instanceMethod yX6_areaOn, Cond.selects RX6 yX6_areaOn yX6_areaOn, Cond.code yX6_areaOn cX6_areaOn 5 (some .int), Cond.fieldLink RX6 25 "WheelAreasModel" "lost" "I"]
def wsX6_wheel : List Cond := .code yX6_wheel cX6_wheel 3 (some .int) :: ((wsX6_wheel_r1 ++ wsX6_wheel_r2) ++ wsX60)
def wsX6_puts : List Cond := .code yX6_puts cX6_puts 5 (some .int) :: ([.fieldLink RX6 7 "WheelAreasModel" "state" "[I"] ++ wsX60)
def wsX6_alter : List Cond := .code yX6_alter cX6_alter 5 (some .int) :: ([.constantLong RX6 175 (3), .constantLong RX6 177 (9), .methodLink RX6 50 yX6_in, .static yX6_in, .initialized RX6, .code yX6_in cX6_in 6 (some .boolean), .methodLink RX6 165 yX6_isWheel, .instanceMethod yX6_isWheel, .selects RX6 yX6_isWheel yX6_isWheel, .code yX6_isWheel cX6_isWheel 2 (some .boolean), .fieldLink RX6 7 "WheelAreasModel" "state" "[I", .methodLink RX6 179 yX6_puts, .instanceMethod yX6_puts, .selects RX6 yX6_puts yX6_puts, .code yX6_puts cX6_puts 5 (some .int)] ++ wsX60)
def wsX6_put : List Cond := .code yX6_put cX6_put 4 (some .int) :: ([.constantLong RX6 175 (3), .constantLong RX6 177 (9), .fieldLink RX6 7 "WheelAreasModel" "state" "[I", .methodLink RX6 50 yX6_in, .static yX6_in, .initialized RX6, .code yX6_in cX6_in 6 (some .boolean)] ++ wsX60)
def wsX6_cut : List Cond := .code yX6_cut cX6_cut 2 (some .int) :: ([.fieldLink RX6 7 "WheelAreasModel" "state" "[I", .methodLink RX6 50 yX6_in, .static yX6_in, .initialized RX6, .code yX6_in cX6_in 6 (some .boolean), .methodLink RX6 179 yX6_puts, .instanceMethod yX6_puts, .selects RX6 yX6_puts yX6_puts, .code yX6_puts cX6_puts 5 (some .int)] ++ wsX60)
def wsX6_zero : List Cond := .code yX6_zero cX6_zero 2 (some .int) :: ([.constant RX6 168 (20000000), .methodLink RX6 165 yX6_isWheel, .instanceMethod yX6_isWheel, .selects RX6 yX6_isWheel yX6_isWheel, .initialized RX6, .code yX6_isWheel cX6_isWheel 2 (some .boolean), .fieldLink RX6 7 "WheelAreasModel" "state" "[I", .methodLink RX6 50 yX6_in, .static yX6_in, .code yX6_in cX6_in 6 (some .boolean), .methodLink RX6 179 yX6_puts, .instanceMethod yX6_puts, .selects RX6 yX6_puts yX6_puts, .code yX6_puts cX6_puts 5 (some .int)] ++ wsX60)
def wsX6_movesTo : List Cond := .code yX6_movesTo cX6_movesTo 6 (some .int) :: ([.fieldLink RX6 7 "WheelAreasModel" "state" "[I"] ++ wsX60)
def wsX6_shift : List Cond := .code yX6_shift cX6_shift 4 (some .int) :: ([.methodLink RX6 159 yX6_isCorner, .instanceMethod yX6_isCorner, .selects RX6 yX6_isCorner yX6_isCorner, .initialized RX6, .code yX6_isCorner cX6_isCorner 2 (some .boolean), .fieldLink RX6 7 "WheelAreasModel" "state" "[I", .methodLink RX6 50 yX6_in, .static yX6_in, .code yX6_in cX6_in 6 (some .boolean), .methodLink RX6 183 yX6_isPoint, .static yX6_isPoint, .code yX6_isPoint cX6_isPoint 2 (some .boolean), .constantLong RX6 120 (20), .methodLink RX6 187 yX6_movesTo, .instanceMethod yX6_movesTo, .selects RX6 yX6_movesTo yX6_movesTo, .code yX6_movesTo cX6_movesTo 6 (some .int)] ++ wsX60)
def wsX6_adds : List Cond := .code yX6_adds cX6_adds 4 (some .int) :: ([.fieldLink RX6 7 "WheelAreasModel" "state" "[I", .methodLink RX6 183 yX6_isPoint, .static yX6_isPoint, .initialized RX6, .code yX6_isPoint cX6_isPoint 2 (some .boolean), .constantLong RX6 120 (20), .methodLink RX6 50 yX6_in, .static yX6_in, .code yX6_in cX6_in 6 (some .boolean)] ++ wsX60)
def wsX6_add : List Cond := .code yX6_add cX6_add 3 (some .int) :: ([.methodLink RX6 191 yX6_adds, .instanceMethod yX6_adds, .selects RX6 yX6_adds yX6_adds, .initialized RX6, .code yX6_adds cX6_adds 4 (some .int), .fieldLink RX6 7 "WheelAreasModel" "state" "[I", .methodLink RX6 183 yX6_isPoint, .static yX6_isPoint, .code yX6_isPoint cX6_isPoint 2 (some .boolean), .constantLong RX6 120 (20), .methodLink RX6 50 yX6_in, .static yX6_in, .code yX6_in cX6_in 6 (some .boolean)] ++ wsX60)
def wsX6_drop : List Cond := .code yX6_drop cX6_drop 2 (some .int) :: ([.fieldLink RX6 7 "WheelAreasModel" "state" "[I", .methodLink RX6 50 yX6_in, .static yX6_in, .initialized RX6, .code yX6_in cX6_in 6 (some .boolean), .methodLink RX6 179 yX6_puts, .instanceMethod yX6_puts, .selects RX6 yX6_puts yX6_puts, .code yX6_puts cX6_puts 5 (some .int)] ++ wsX60)
def wsX6_pole : List Cond := .code yX6_pole cX6_pole 3 (some .int) :: ([.methodLink RX6 183 yX6_isPoint, .static yX6_isPoint, .initialized RX6, .code yX6_isPoint cX6_isPoint 2 (some .boolean), .constantLong RX6 120 (20), .methodLink RX6 50 yX6_in, .static yX6_in, .code yX6_in cX6_in 6 (some .boolean), .methodLink RX6 187 yX6_movesTo, .instanceMethod yX6_movesTo, .selects RX6 yX6_movesTo yX6_movesTo, .code yX6_movesTo cX6_movesTo 6 (some .int), .fieldLink RX6 7 "WheelAreasModel" "state" "[I"] ++ wsX60)
def wsX6_trace_r1 : List Cond := [Cond.constantLong RX6 194 (100), Cond.fieldLink RX6 7 "WheelAreasModel" "state" "[I", Cond.fieldLink RX6 144 "WheelAreasModel" "rolled" "I", Cond.methodLink RX6 50 yX6_in, Cond.static yX6_in, Cond.initialized RX6, Cond.code yX6_in cX6_in 6 (some .boolean), Cond.methodLink RX6 196 yX6_starts, Cond.instanceMethod yX6_starts, Cond.selects RX6 yX6_starts yX6_starts, Cond.code yX6_starts cX6_starts 1 none, Cond.fieldLink RX6 147 "WheelAreasModel" "idle" "I", Cond.constant RX6 150 (-1000000), Cond.fieldLink RX6 151 "WheelAreasModel" "greatest" "I", Cond.methodLink RX6 199 yX6_tracesOn, Cond.instanceMethod yX6_tracesOn, Cond.selects RX6 yX6_tracesOn yX6_tracesOn, Cond.code yX6_tracesOn cX6_tracesOn 4 none, Cond.methodLink RX6 154 yX6_edgeOn, Cond.instanceMethod yX6_edgeOn, Cond.selects RX6 yX6_edgeOn yX6_edgeOn, Cond.code yX6_edgeOn cX6_edgeOn 7 none, Cond.methodLink RX6 128 yX6_behindOn, Cond.instanceMethod yX6_behindOn]
def wsX6_trace_r2 : List Cond := [Cond.selects RX6 yX6_behindOn yX6_behindOn, Cond.code yX6_behindOn cX6_behindOn 3 (some .int), Cond.methodLink RX6 131 yX6_sweepOn, Cond.instanceMethod yX6_sweepOn, Cond.selects RX6 yX6_sweepOn yX6_sweepOn, Cond.code yX6_sweepOn cX6_sweepOn 6 (some .int), Cond.methodLink RX6 138 yX6_rollsOn, Cond.instanceMethod yX6_rollsOn, Cond.selects RX6 yX6_rollsOn yX6_rollsOn, Cond.code yX6_rollsOn cX6_rollsOn 7 (some .int), Cond.methodLink RX6 135 yX6_amount, Cond.static yX6_amount, Cond.code yX6_amount cX6_amount 1 (some .int)]
def wsX6_trace : List Cond := .code yX6_trace cX6_trace 3 (some .int) :: ((wsX6_trace_r1 ++ wsX6_trace_r2) ++ wsX60)
def wsX6_copies : List Cond := .code yX6_copies cX6_copies 4 none :: ([.fieldLink RX6 7 "WheelAreasModel" "state" "[I"] ++ wsX60)
def wsX6_edgesGo_r1 : List Cond := [Cond.methodLink RX6 203 yX6_copies, Cond.instanceMethod yX6_copies, Cond.selects RX6 yX6_copies yX6_copies, Cond.initialized RX6, Cond.code yX6_copies cX6_copies 4 none, Cond.fieldLink RX6 7 "WheelAreasModel" "state" "[I", Cond.methodLink RX6 196 yX6_starts, Cond.instanceMethod yX6_starts, Cond.selects RX6 yX6_starts yX6_starts, Cond.code yX6_starts cX6_starts 1 none, Cond.fieldLink RX6 144 "WheelAreasModel" "rolled" "I", Cond.fieldLink RX6 147 "WheelAreasModel" "idle" "I", Cond.constant RX6 150 (-1000000), Cond.fieldLink RX6 151 "WheelAreasModel" "greatest" "I", Cond.methodLink RX6 199 yX6_tracesOn, Cond.instanceMethod yX6_tracesOn, Cond.selects RX6 yX6_tracesOn yX6_tracesOn, Cond.code yX6_tracesOn cX6_tracesOn 4 none, Cond.methodLink RX6 154 yX6_edgeOn, Cond.instanceMethod yX6_edgeOn, Cond.selects RX6 yX6_edgeOn yX6_edgeOn, Cond.code yX6_edgeOn cX6_edgeOn 7 none, Cond.methodLink RX6 128 yX6_behindOn, Cond.instanceMethod yX6_behindOn]
def wsX6_edgesGo_r2 : List Cond := [Cond.selects RX6 yX6_behindOn yX6_behindOn, Cond.code yX6_behindOn cX6_behindOn 3 (some .int), Cond.methodLink RX6 131 yX6_sweepOn, Cond.instanceMethod yX6_sweepOn, Cond.selects RX6 yX6_sweepOn yX6_sweepOn, Cond.code yX6_sweepOn cX6_sweepOn 6 (some .int), Cond.methodLink RX6 138 yX6_rollsOn, Cond.instanceMethod yX6_rollsOn, Cond.selects RX6 yX6_rollsOn yX6_rollsOn, Cond.code yX6_rollsOn cX6_rollsOn 7 (some .int), Cond.methodLink RX6 135 yX6_amount, Cond.static yX6_amount, Cond.code yX6_amount cX6_amount 1 (some .int)]
def wsX6_edgesGo : List Cond := .code yX6_edgesGo cX6_edgesGo 3 none :: ((wsX6_edgesGo_r1 ++ wsX6_edgesGo_r2) ++ wsX60)
def wsX6_runs_r1 : List Cond := [Cond.constantLong RX6 163 (2), Cond.fieldLink RX6 7 "WheelAreasModel" "state" "[I", Cond.fieldLink RX6 151 "WheelAreasModel" "greatest" "I", Cond.fieldLink RX6 144 "WheelAreasModel" "rolled" "I", Cond.fieldLink RX6 147 "WheelAreasModel" "idle" "I", Cond.methodLink RX6 206 yX6_isLong, Cond.static yX6_isLong, Cond.initialized RX6, Cond.code yX6_isLong cX6_isLong 1 (some .boolean), Cond.constantLong RX6 122 (200), Cond.methodLink RX6 50 yX6_in, Cond.static yX6_in, Cond.code yX6_in cX6_in 6 (some .boolean), Cond.methodLink RX6 209 yX6_edgesGo, Cond.instanceMethod yX6_edgesGo, Cond.selects RX6 yX6_edgesGo yX6_edgesGo, Cond.code yX6_edgesGo cX6_edgesGo 3 none, Cond.methodLink RX6 203 yX6_copies, Cond.instanceMethod yX6_copies, Cond.selects RX6 yX6_copies yX6_copies, Cond.code yX6_copies cX6_copies 4 none, Cond.methodLink RX6 196 yX6_starts, Cond.instanceMethod yX6_starts, Cond.selects RX6 yX6_starts yX6_starts]
def wsX6_runs_r2 : List Cond := [Cond.code yX6_starts cX6_starts 1 none, Cond.constant RX6 150 (-1000000), Cond.methodLink RX6 199 yX6_tracesOn, Cond.instanceMethod yX6_tracesOn, Cond.selects RX6 yX6_tracesOn yX6_tracesOn, Cond.code yX6_tracesOn cX6_tracesOn 4 none, Cond.methodLink RX6 154 yX6_edgeOn, Cond.instanceMethod yX6_edgeOn, Cond.selects RX6 yX6_edgeOn yX6_edgeOn, Cond.code yX6_edgeOn cX6_edgeOn 7 none, Cond.methodLink RX6 128 yX6_behindOn, Cond.instanceMethod yX6_behindOn, Cond.selects RX6 yX6_behindOn yX6_behindOn, Cond.code yX6_behindOn cX6_behindOn 3 (some .int), Cond.methodLink RX6 131 yX6_sweepOn, Cond.instanceMethod yX6_sweepOn, Cond.selects RX6 yX6_sweepOn yX6_sweepOn, Cond.code yX6_sweepOn cX6_sweepOn 6 (some .int), Cond.methodLink RX6 138 yX6_rollsOn, Cond.instanceMethod yX6_rollsOn, Cond.selects RX6 yX6_rollsOn yX6_rollsOn, Cond.code yX6_rollsOn cX6_rollsOn 7 (some .int), Cond.methodLink RX6 135 yX6_amount, Cond.static yX6_amount]
def wsX6_runs_r3 : List Cond := [Cond.code yX6_amount cX6_amount 1 (some .int)]
def wsX6_runs : List Cond := .code yX6_runs cX6_runs 3 (some .int) :: ((wsX6_runs_r1 ++ (wsX6_runs_r2 ++ wsX6_runs_r3)) ++ wsX60)
def wsX6_ahead_r1 : List Cond := [Cond.constant RX6 168 (20000000), Cond.fieldLink RX6 7 "WheelAreasModel" "state" "[I", Cond.methodLink RX6 165 yX6_isWheel, Cond.instanceMethod yX6_isWheel, Cond.selects RX6 yX6_isWheel yX6_isWheel, Cond.initialized RX6, Cond.code yX6_isWheel cX6_isWheel 2 (some .boolean), Cond.methodLink RX6 50 yX6_in, Cond.static yX6_in, Cond.code yX6_in cX6_in 6 (some .boolean), Cond.methodLink RX6 206 yX6_isLong, Cond.static yX6_isLong, Cond.code yX6_isLong cX6_isLong 1 (some .boolean), Cond.constantLong RX6 122 (200), Cond.methodLink RX6 209 yX6_edgesGo, Cond.instanceMethod yX6_edgesGo, Cond.selects RX6 yX6_edgesGo yX6_edgesGo, Cond.code yX6_edgesGo cX6_edgesGo 3 none, Cond.methodLink RX6 203 yX6_copies, Cond.instanceMethod yX6_copies, Cond.selects RX6 yX6_copies yX6_copies, Cond.code yX6_copies cX6_copies 4 none, Cond.methodLink RX6 196 yX6_starts, Cond.instanceMethod yX6_starts]
def wsX6_ahead_r2 : List Cond := [Cond.selects RX6 yX6_starts yX6_starts, Cond.code yX6_starts cX6_starts 1 none, Cond.fieldLink RX6 144 "WheelAreasModel" "rolled" "I", Cond.fieldLink RX6 147 "WheelAreasModel" "idle" "I", Cond.constant RX6 150 (-1000000), Cond.fieldLink RX6 151 "WheelAreasModel" "greatest" "I", Cond.methodLink RX6 199 yX6_tracesOn, Cond.instanceMethod yX6_tracesOn, Cond.selects RX6 yX6_tracesOn yX6_tracesOn, Cond.code yX6_tracesOn cX6_tracesOn 4 none, Cond.methodLink RX6 154 yX6_edgeOn, Cond.instanceMethod yX6_edgeOn, Cond.selects RX6 yX6_edgeOn yX6_edgeOn, Cond.code yX6_edgeOn cX6_edgeOn 7 none, Cond.methodLink RX6 128 yX6_behindOn, Cond.instanceMethod yX6_behindOn, Cond.selects RX6 yX6_behindOn yX6_behindOn, Cond.code yX6_behindOn cX6_behindOn 3 (some .int), Cond.methodLink RX6 131 yX6_sweepOn, Cond.instanceMethod yX6_sweepOn, Cond.selects RX6 yX6_sweepOn yX6_sweepOn, Cond.code yX6_sweepOn cX6_sweepOn 6 (some .int), Cond.methodLink RX6 138 yX6_rollsOn, Cond.instanceMethod yX6_rollsOn]
def wsX6_ahead_r3 : List Cond := [Cond.selects RX6 yX6_rollsOn yX6_rollsOn, Cond.code yX6_rollsOn cX6_rollsOn 7 (some .int), Cond.methodLink RX6 135 yX6_amount, Cond.static yX6_amount, Cond.code yX6_amount cX6_amount 1 (some .int)]
def wsX6_ahead : List Cond := .code yX6_ahead cX6_ahead 3 (some .int) :: ((wsX6_ahead_r1 ++ (wsX6_ahead_r2 ++ wsX6_ahead_r3)) ++ wsX60)
def wsX6_when_r1 : List Cond := [Cond.fieldLink RX6 7 "WheelAreasModel" "state" "[I", Cond.constant RX6 168 (20000000), Cond.methodLink RX6 165 yX6_isWheel, Cond.instanceMethod yX6_isWheel, Cond.selects RX6 yX6_isWheel yX6_isWheel, Cond.initialized RX6, Cond.code yX6_isWheel cX6_isWheel 2 (some .boolean), Cond.methodLink RX6 50 yX6_in, Cond.static yX6_in, Cond.code yX6_in cX6_in 6 (some .boolean), Cond.methodLink RX6 212 yX6_isReading, Cond.static yX6_isReading, Cond.code yX6_isReading cX6_isReading 1 (some .boolean), Cond.constantLong RX6 124 (10000000), Cond.constantLong RX6 126 (30000000), Cond.methodLink RX6 209 yX6_edgesGo, Cond.instanceMethod yX6_edgesGo, Cond.selects RX6 yX6_edgesGo yX6_edgesGo, Cond.code yX6_edgesGo cX6_edgesGo 3 none, Cond.methodLink RX6 203 yX6_copies, Cond.instanceMethod yX6_copies, Cond.selects RX6 yX6_copies yX6_copies, Cond.code yX6_copies cX6_copies 4 none, Cond.methodLink RX6 196 yX6_starts]
def wsX6_when_r2 : List Cond := [Cond.instanceMethod yX6_starts, Cond.selects RX6 yX6_starts yX6_starts, Cond.code yX6_starts cX6_starts 1 none, Cond.fieldLink RX6 144 "WheelAreasModel" "rolled" "I", Cond.fieldLink RX6 147 "WheelAreasModel" "idle" "I", Cond.constant RX6 150 (-1000000), Cond.fieldLink RX6 151 "WheelAreasModel" "greatest" "I", Cond.methodLink RX6 199 yX6_tracesOn, Cond.instanceMethod yX6_tracesOn, Cond.selects RX6 yX6_tracesOn yX6_tracesOn, Cond.code yX6_tracesOn cX6_tracesOn 4 none, Cond.methodLink RX6 154 yX6_edgeOn, Cond.instanceMethod yX6_edgeOn, Cond.selects RX6 yX6_edgeOn yX6_edgeOn, Cond.code yX6_edgeOn cX6_edgeOn 7 none, Cond.methodLink RX6 128 yX6_behindOn, Cond.instanceMethod yX6_behindOn, Cond.selects RX6 yX6_behindOn yX6_behindOn, Cond.code yX6_behindOn cX6_behindOn 3 (some .int), Cond.methodLink RX6 131 yX6_sweepOn, Cond.instanceMethod yX6_sweepOn, Cond.selects RX6 yX6_sweepOn yX6_sweepOn, Cond.code yX6_sweepOn cX6_sweepOn 6 (some .int), Cond.methodLink RX6 138 yX6_rollsOn]
def wsX6_when_r3 : List Cond := [Cond.instanceMethod yX6_rollsOn, Cond.selects RX6 yX6_rollsOn yX6_rollsOn, Cond.code yX6_rollsOn cX6_rollsOn 7 (some .int), Cond.methodLink RX6 135 yX6_amount, Cond.static yX6_amount, Cond.code yX6_amount cX6_amount 1 (some .int)]
def wsX6_when : List Cond := .code yX6_when cX6_when 4 (some .int) :: ((wsX6_when_r1 ++ (wsX6_when_r2 ++ wsX6_when_r3)) ++ wsX60)
def wsX6_best_r1 : List Cond := [Cond.constant RX6 215 (1000000), Cond.fieldLink RX6 7 "WheelAreasModel" "state" "[I", Cond.methodLink RX6 165 yX6_isWheel, Cond.instanceMethod yX6_isWheel, Cond.selects RX6 yX6_isWheel yX6_isWheel, Cond.initialized RX6, Cond.code yX6_isWheel cX6_isWheel 2 (some .boolean), Cond.methodLink RX6 50 yX6_in, Cond.static yX6_in, Cond.code yX6_in cX6_in 6 (some .boolean), Cond.methodLink RX6 203 yX6_copies, Cond.instanceMethod yX6_copies, Cond.selects RX6 yX6_copies yX6_copies, Cond.code yX6_copies cX6_copies 4 none, Cond.methodLink RX6 172 yX6_errorOn, Cond.instanceMethod yX6_errorOn, Cond.selects RX6 yX6_errorOn yX6_errorOn, Cond.code yX6_errorOn cX6_errorOn 5 (some .int), Cond.methodLink RX6 128 yX6_behindOn, Cond.instanceMethod yX6_behindOn, Cond.selects RX6 yX6_behindOn yX6_behindOn, Cond.code yX6_behindOn cX6_behindOn 3 (some .int), Cond.methodLink RX6 131 yX6_sweepOn, Cond.instanceMethod yX6_sweepOn]
def wsX6_best_r2 : List Cond := [Cond.selects RX6 yX6_sweepOn yX6_sweepOn, Cond.code yX6_sweepOn cX6_sweepOn 6 (some .int), Cond.methodLink RX6 138 yX6_rollsOn, Cond.instanceMethod yX6_rollsOn, Cond.selects RX6 yX6_rollsOn yX6_rollsOn, Cond.code yX6_rollsOn cX6_rollsOn 7 (some .int), Cond.methodLink RX6 135 yX6_amount, Cond.static yX6_amount, Cond.code yX6_amount cX6_amount 1 (some .int), Cond.methodLink RX6 141 yX6_areaOn, Cond.instanceMethod yX6_areaOn, Cond.selects RX6 yX6_areaOn yX6_areaOn, Cond.code yX6_areaOn cX6_areaOn 5 (some .int), Cond.fieldLink RX6 25 "WheelAreasModel" "lost" "I"]
def wsX6_best : List Cond := .code yX6_best cX6_best 8 (some .int) :: ((wsX6_best_r1 ++ wsX6_best_r2) ++ wsX60)
def wsX6_step_r1 : List Cond := [Cond.constant RX6 215 (1000000), Cond.fieldLink RX6 7 "WheelAreasModel" "state" "[I", Cond.methodLink RX6 165 yX6_isWheel, Cond.instanceMethod yX6_isWheel, Cond.selects RX6 yX6_isWheel yX6_isWheel, Cond.initialized RX6, Cond.code yX6_isWheel cX6_isWheel 2 (some .boolean), Cond.methodLink RX6 50 yX6_in, Cond.static yX6_in, Cond.code yX6_in cX6_in 6 (some .boolean), Cond.methodLink RX6 203 yX6_copies, Cond.instanceMethod yX6_copies, Cond.selects RX6 yX6_copies yX6_copies, Cond.code yX6_copies cX6_copies 4 none, Cond.methodLink RX6 172 yX6_errorOn, Cond.instanceMethod yX6_errorOn, Cond.selects RX6 yX6_errorOn yX6_errorOn, Cond.code yX6_errorOn cX6_errorOn 5 (some .int), Cond.methodLink RX6 128 yX6_behindOn, Cond.instanceMethod yX6_behindOn, Cond.selects RX6 yX6_behindOn yX6_behindOn, Cond.code yX6_behindOn cX6_behindOn 3 (some .int), Cond.methodLink RX6 131 yX6_sweepOn, Cond.instanceMethod yX6_sweepOn]
def wsX6_step_r2 : List Cond := [Cond.selects RX6 yX6_sweepOn yX6_sweepOn, Cond.code yX6_sweepOn cX6_sweepOn 6 (some .int), Cond.methodLink RX6 138 yX6_rollsOn, Cond.instanceMethod yX6_rollsOn, Cond.selects RX6 yX6_rollsOn yX6_rollsOn, Cond.code yX6_rollsOn cX6_rollsOn 7 (some .int), Cond.methodLink RX6 135 yX6_amount, Cond.static yX6_amount, Cond.code yX6_amount cX6_amount 1 (some .int), Cond.methodLink RX6 141 yX6_areaOn, Cond.instanceMethod yX6_areaOn, Cond.selects RX6 yX6_areaOn yX6_areaOn, Cond.code yX6_areaOn cX6_areaOn 5 (some .int), Cond.fieldLink RX6 25 "WheelAreasModel" "lost" "I"]
def wsX6_step : List Cond := .code yX6_step cX6_step 7 (some .int) :: ((wsX6_step_r1 ++ wsX6_step_r2) ++ wsX60)
def wsX6_kind_r1 : List Cond := [Cond.constant RX6 215 (1000000), Cond.fieldLink RX6 7 "WheelAreasModel" "state" "[I", Cond.methodLink RX6 165 yX6_isWheel, Cond.instanceMethod yX6_isWheel, Cond.selects RX6 yX6_isWheel yX6_isWheel, Cond.initialized RX6, Cond.code yX6_isWheel cX6_isWheel 2 (some .boolean), Cond.methodLink RX6 50 yX6_in, Cond.static yX6_in, Cond.code yX6_in cX6_in 6 (some .boolean), Cond.methodLink RX6 203 yX6_copies, Cond.instanceMethod yX6_copies, Cond.selects RX6 yX6_copies yX6_copies, Cond.code yX6_copies cX6_copies 4 none, Cond.methodLink RX6 172 yX6_errorOn, Cond.instanceMethod yX6_errorOn, Cond.selects RX6 yX6_errorOn yX6_errorOn, Cond.code yX6_errorOn cX6_errorOn 5 (some .int), Cond.methodLink RX6 128 yX6_behindOn, Cond.instanceMethod yX6_behindOn, Cond.selects RX6 yX6_behindOn yX6_behindOn, Cond.code yX6_behindOn cX6_behindOn 3 (some .int), Cond.methodLink RX6 131 yX6_sweepOn, Cond.instanceMethod yX6_sweepOn]
def wsX6_kind_r2 : List Cond := [Cond.selects RX6 yX6_sweepOn yX6_sweepOn, Cond.code yX6_sweepOn cX6_sweepOn 6 (some .int), Cond.methodLink RX6 138 yX6_rollsOn, Cond.instanceMethod yX6_rollsOn, Cond.selects RX6 yX6_rollsOn yX6_rollsOn, Cond.code yX6_rollsOn cX6_rollsOn 7 (some .int), Cond.methodLink RX6 135 yX6_amount, Cond.static yX6_amount, Cond.code yX6_amount cX6_amount 1 (some .int), Cond.methodLink RX6 141 yX6_areaOn, Cond.instanceMethod yX6_areaOn, Cond.selects RX6 yX6_areaOn yX6_areaOn, Cond.code yX6_areaOn cX6_areaOn 5 (some .int), Cond.fieldLink RX6 25 "WheelAreasModel" "lost" "I"]
def wsX6_kind : List Cond := .code yX6_kind cX6_kind 7 (some .int) :: ((wsX6_kind_r1 ++ wsX6_kind_r2) ++ wsX60)
def wsX6_place_r1 : List Cond := [Cond.fieldLink RX6 7 "WheelAreasModel" "state" "[I", Cond.methodLink RX6 159 yX6_isCorner, Cond.instanceMethod yX6_isCorner, Cond.selects RX6 yX6_isCorner yX6_isCorner, Cond.initialized RX6, Cond.code yX6_isCorner cX6_isCorner 2 (some .boolean), Cond.methodLink RX6 50 yX6_in, Cond.static yX6_in, Cond.code yX6_in cX6_in 6 (some .boolean), Cond.methodLink RX6 203 yX6_copies, Cond.instanceMethod yX6_copies, Cond.selects RX6 yX6_copies yX6_copies, Cond.code yX6_copies cX6_copies 4 none, Cond.methodLink RX6 141 yX6_areaOn, Cond.instanceMethod yX6_areaOn, Cond.selects RX6 yX6_areaOn yX6_areaOn, Cond.code yX6_areaOn cX6_areaOn 5 (some .int), Cond.fieldLink RX6 25 "WheelAreasModel" "lost" "I", Cond.methodLink RX6 128 yX6_behindOn, Cond.instanceMethod yX6_behindOn, Cond.selects RX6 yX6_behindOn yX6_behindOn, Cond.code yX6_behindOn cX6_behindOn 3 (some .int), Cond.methodLink RX6 131 yX6_sweepOn, Cond.instanceMethod yX6_sweepOn]
def wsX6_place_r2 : List Cond := [Cond.selects RX6 yX6_sweepOn yX6_sweepOn, Cond.code yX6_sweepOn cX6_sweepOn 6 (some .int), Cond.methodLink RX6 135 yX6_amount, Cond.static yX6_amount, Cond.code yX6_amount cX6_amount 1 (some .int)]
def wsX6_place : List Cond := .code yX6_place cX6_place 8 (some .int) :: ((wsX6_place_r1 ++ wsX6_place_r2) ++ wsX60)
def wsX6_swap_r1 : List Cond := [Cond.fieldLink RX6 7 "WheelAreasModel" "state" "[I", Cond.methodLink RX6 50 yX6_in, Cond.static yX6_in, Cond.initialized RX6, Cond.code yX6_in cX6_in 6 (some .boolean), Cond.methodLink RX6 141 yX6_areaOn, Cond.instanceMethod yX6_areaOn, Cond.selects RX6 yX6_areaOn yX6_areaOn, Cond.code yX6_areaOn cX6_areaOn 5 (some .int), Cond.fieldLink RX6 25 "WheelAreasModel" "lost" "I", Cond.methodLink RX6 128 yX6_behindOn, Cond.instanceMethod yX6_behindOn, Cond.selects RX6 yX6_behindOn yX6_behindOn, Cond.code yX6_behindOn cX6_behindOn 3 (some .int), Cond.methodLink RX6 131 yX6_sweepOn, Cond.instanceMethod yX6_sweepOn, Cond.selects RX6 yX6_sweepOn yX6_sweepOn, Cond.code yX6_sweepOn cX6_sweepOn 6 (some .int), Cond.methodLink RX6 135 yX6_amount, Cond.static yX6_amount, Cond.code yX6_amount cX6_amount 1 (some .int), Cond.methodLink RX6 203 yX6_copies, Cond.instanceMethod yX6_copies, Cond.selects RX6 yX6_copies yX6_copies]
def wsX6_swap_r2 : List Cond := [Cond.code yX6_copies cX6_copies 4 none]
def wsX6_swap : List Cond := .code yX6_swap cX6_swap 7 (some .int) :: ((wsX6_swap_r1 ++ wsX6_swap_r2) ++ wsX60)
def wsX6_out : List Cond := .code yX6_out cX6_out 6 (some .int) :: ([.fieldLink RX6 7 "WheelAreasModel" "state" "[I", .fieldLink RX6 25 "WheelAreasModel" "lost" "I", .methodLink RX6 50 yX6_in, .static yX6_in, .initialized RX6, .code yX6_in cX6_in 6 (some .boolean), .methodLink RX6 141 yX6_areaOn, .instanceMethod yX6_areaOn, .selects RX6 yX6_areaOn yX6_areaOn, .code yX6_areaOn cX6_areaOn 5 (some .int), .methodLink RX6 128 yX6_behindOn, .instanceMethod yX6_behindOn, .selects RX6 yX6_behindOn yX6_behindOn, .code yX6_behindOn cX6_behindOn 3 (some .int), .methodLink RX6 131 yX6_sweepOn, .instanceMethod yX6_sweepOn, .selects RX6 yX6_sweepOn yX6_sweepOn, .code yX6_sweepOn cX6_sweepOn 6 (some .int), .methodLink RX6 135 yX6_amount, .static yX6_amount, .code yX6_amount cX6_amount 1 (some .int)] ++ wsX60)
def wsX6_lowest : List Cond := .code yX6_lowest cX6_lowest 11 (some .long) :: ([])
def wsX6_byMisses_r1 : List Cond := [Cond.constantLong RX6 216 (10), Cond.fieldLink RX6 7 "WheelAreasModel" "state" "[I", Cond.constant RX6 168 (20000000), Cond.methodLink RX6 209 yX6_edgesGo, Cond.instanceMethod yX6_edgesGo, Cond.selects RX6 yX6_edgesGo yX6_edgesGo, Cond.initialized RX6, Cond.code yX6_edgesGo cX6_edgesGo 3 none, Cond.methodLink RX6 203 yX6_copies, Cond.instanceMethod yX6_copies, Cond.selects RX6 yX6_copies yX6_copies, Cond.code yX6_copies cX6_copies 4 none, Cond.methodLink RX6 196 yX6_starts, Cond.instanceMethod yX6_starts, Cond.selects RX6 yX6_starts yX6_starts, Cond.code yX6_starts cX6_starts 1 none, Cond.fieldLink RX6 144 "WheelAreasModel" "rolled" "I", Cond.fieldLink RX6 147 "WheelAreasModel" "idle" "I", Cond.constant RX6 150 (-1000000), Cond.fieldLink RX6 151 "WheelAreasModel" "greatest" "I", Cond.methodLink RX6 199 yX6_tracesOn, Cond.instanceMethod yX6_tracesOn, Cond.selects RX6 yX6_tracesOn yX6_tracesOn, Cond.code yX6_tracesOn cX6_tracesOn 4 none]
def wsX6_byMisses_r2 : List Cond := [Cond.methodLink RX6 154 yX6_edgeOn, Cond.instanceMethod yX6_edgeOn, Cond.selects RX6 yX6_edgeOn yX6_edgeOn, Cond.code yX6_edgeOn cX6_edgeOn 7 none, Cond.methodLink RX6 128 yX6_behindOn, Cond.instanceMethod yX6_behindOn, Cond.selects RX6 yX6_behindOn yX6_behindOn, Cond.code yX6_behindOn cX6_behindOn 3 (some .int), Cond.methodLink RX6 131 yX6_sweepOn, Cond.instanceMethod yX6_sweepOn, Cond.selects RX6 yX6_sweepOn yX6_sweepOn, Cond.code yX6_sweepOn cX6_sweepOn 6 (some .int), Cond.methodLink RX6 138 yX6_rollsOn, Cond.instanceMethod yX6_rollsOn, Cond.selects RX6 yX6_rollsOn yX6_rollsOn, Cond.code yX6_rollsOn cX6_rollsOn 7 (some .int), Cond.methodLink RX6 135 yX6_amount, Cond.static yX6_amount, Cond.code yX6_amount cX6_amount 1 (some .int), Cond.methodLink RX6 218 yX6_lowest, Cond.static yX6_lowest, Cond.code yX6_lowest cX6_lowest 11 (some .long)]
def wsX6_byMisses : List Cond := .code yX6_byMisses cX6_byMisses 15 (some .long) :: ((wsX6_byMisses_r1 ++ wsX6_byMisses_r2) ++ wsX60)
def wsX6_luck_r1 : List Cond := [Cond.constantLong RX6 216 (10), Cond.constantLong RX6 222 (8), Cond.constantLong RX6 228 (-1), Cond.methodLink RX6 50 yX6_in, Cond.static yX6_in, Cond.initialized RX6, Cond.code yX6_in cX6_in 6 (some .boolean), Cond.methodLink RX6 165 yX6_isWheel, Cond.instanceMethod yX6_isWheel, Cond.selects RX6 yX6_isWheel yX6_isWheel, Cond.code yX6_isWheel cX6_isWheel 2 (some .boolean), Cond.fieldLink RX6 7 "WheelAreasModel" "state" "[I", Cond.methodLink RX6 212 yX6_isReading, Cond.static yX6_isReading, Cond.code yX6_isReading cX6_isReading 1 (some .boolean), Cond.constantLong RX6 124 (10000000), Cond.constantLong RX6 126 (30000000), Cond.methodLink RX6 224 yX6_byMisses, Cond.instanceMethod yX6_byMisses, Cond.selects RX6 yX6_byMisses yX6_byMisses, Cond.code yX6_byMisses cX6_byMisses 15 (some .long), Cond.constant RX6 168 (20000000), Cond.methodLink RX6 209 yX6_edgesGo, Cond.instanceMethod yX6_edgesGo]
def wsX6_luck_r2 : List Cond := [Cond.selects RX6 yX6_edgesGo yX6_edgesGo, Cond.code yX6_edgesGo cX6_edgesGo 3 none, Cond.methodLink RX6 203 yX6_copies, Cond.instanceMethod yX6_copies, Cond.selects RX6 yX6_copies yX6_copies, Cond.code yX6_copies cX6_copies 4 none, Cond.methodLink RX6 196 yX6_starts, Cond.instanceMethod yX6_starts, Cond.selects RX6 yX6_starts yX6_starts, Cond.code yX6_starts cX6_starts 1 none, Cond.fieldLink RX6 144 "WheelAreasModel" "rolled" "I", Cond.fieldLink RX6 147 "WheelAreasModel" "idle" "I", Cond.constant RX6 150 (-1000000), Cond.fieldLink RX6 151 "WheelAreasModel" "greatest" "I", Cond.methodLink RX6 199 yX6_tracesOn, Cond.instanceMethod yX6_tracesOn, Cond.selects RX6 yX6_tracesOn yX6_tracesOn, Cond.code yX6_tracesOn cX6_tracesOn 4 none, Cond.methodLink RX6 154 yX6_edgeOn, Cond.instanceMethod yX6_edgeOn, Cond.selects RX6 yX6_edgeOn yX6_edgeOn, Cond.code yX6_edgeOn cX6_edgeOn 7 none, Cond.methodLink RX6 128 yX6_behindOn, Cond.instanceMethod yX6_behindOn]
def wsX6_luck_r3 : List Cond := [Cond.selects RX6 yX6_behindOn yX6_behindOn, Cond.code yX6_behindOn cX6_behindOn 3 (some .int), Cond.methodLink RX6 131 yX6_sweepOn, Cond.instanceMethod yX6_sweepOn, Cond.selects RX6 yX6_sweepOn yX6_sweepOn, Cond.code yX6_sweepOn cX6_sweepOn 6 (some .int), Cond.methodLink RX6 138 yX6_rollsOn, Cond.instanceMethod yX6_rollsOn, Cond.selects RX6 yX6_rollsOn yX6_rollsOn, Cond.code yX6_rollsOn cX6_rollsOn 7 (some .int), Cond.methodLink RX6 135 yX6_amount, Cond.static yX6_amount, Cond.code yX6_amount cX6_amount 1 (some .int), Cond.methodLink RX6 218 yX6_lowest, Cond.static yX6_lowest, Cond.code yX6_lowest cX6_lowest 11 (some .long)]
def wsX6_luck : List Cond := .code yX6_luck cX6_luck 6 (some .long) :: ((wsX6_luck_r1 ++ (wsX6_luck_r2 ++ wsX6_luck_r3)) ++ wsX60)
def wsX6_mean_r1 : List Cond := [Cond.constantLong RX6 216 (10), Cond.constantLong RX6 222 (8), Cond.constantLong RX6 228 (-1), Cond.methodLink RX6 50 yX6_in, Cond.static yX6_in, Cond.initialized RX6, Cond.code yX6_in cX6_in 6 (some .boolean), Cond.methodLink RX6 165 yX6_isWheel, Cond.instanceMethod yX6_isWheel, Cond.selects RX6 yX6_isWheel yX6_isWheel, Cond.code yX6_isWheel cX6_isWheel 2 (some .boolean), Cond.fieldLink RX6 7 "WheelAreasModel" "state" "[I", Cond.methodLink RX6 224 yX6_byMisses, Cond.instanceMethod yX6_byMisses, Cond.selects RX6 yX6_byMisses yX6_byMisses, Cond.code yX6_byMisses cX6_byMisses 15 (some .long), Cond.constant RX6 168 (20000000), Cond.methodLink RX6 209 yX6_edgesGo, Cond.instanceMethod yX6_edgesGo, Cond.selects RX6 yX6_edgesGo yX6_edgesGo, Cond.code yX6_edgesGo cX6_edgesGo 3 none, Cond.methodLink RX6 203 yX6_copies, Cond.instanceMethod yX6_copies, Cond.selects RX6 yX6_copies yX6_copies]
def wsX6_mean_r2 : List Cond := [Cond.code yX6_copies cX6_copies 4 none, Cond.methodLink RX6 196 yX6_starts, Cond.instanceMethod yX6_starts, Cond.selects RX6 yX6_starts yX6_starts, Cond.code yX6_starts cX6_starts 1 none, Cond.fieldLink RX6 144 "WheelAreasModel" "rolled" "I", Cond.fieldLink RX6 147 "WheelAreasModel" "idle" "I", Cond.constant RX6 150 (-1000000), Cond.fieldLink RX6 151 "WheelAreasModel" "greatest" "I", Cond.methodLink RX6 199 yX6_tracesOn, Cond.instanceMethod yX6_tracesOn, Cond.selects RX6 yX6_tracesOn yX6_tracesOn, Cond.code yX6_tracesOn cX6_tracesOn 4 none, Cond.methodLink RX6 154 yX6_edgeOn, Cond.instanceMethod yX6_edgeOn, Cond.selects RX6 yX6_edgeOn yX6_edgeOn, Cond.code yX6_edgeOn cX6_edgeOn 7 none, Cond.methodLink RX6 128 yX6_behindOn, Cond.instanceMethod yX6_behindOn, Cond.selects RX6 yX6_behindOn yX6_behindOn, Cond.code yX6_behindOn cX6_behindOn 3 (some .int), Cond.methodLink RX6 131 yX6_sweepOn, Cond.instanceMethod yX6_sweepOn, Cond.selects RX6 yX6_sweepOn yX6_sweepOn]
def wsX6_mean_r3 : List Cond := [Cond.code yX6_sweepOn cX6_sweepOn 6 (some .int), Cond.methodLink RX6 138 yX6_rollsOn, Cond.instanceMethod yX6_rollsOn, Cond.selects RX6 yX6_rollsOn yX6_rollsOn, Cond.code yX6_rollsOn cX6_rollsOn 7 (some .int), Cond.methodLink RX6 135 yX6_amount, Cond.static yX6_amount, Cond.code yX6_amount cX6_amount 1 (some .int), Cond.methodLink RX6 218 yX6_lowest, Cond.static yX6_lowest, Cond.code yX6_lowest cX6_lowest 11 (some .long)]
def wsX6_mean : List Cond := .code yX6_mean cX6_mean 5 (some .long) :: ((wsX6_mean_r1 ++ (wsX6_mean_r2 ++ wsX6_mean_r3)) ++ wsX60)
def wsX6_see : List Cond := .code yX6_see cX6_see 4 (some .int) :: ([.constantLong RX6 230 (40), .fieldLink RX6 117 "WheelAreasModel" "seenMany" "I", .fieldLink RX6 29 "WheelAreasModel" "seen" "[I", .constant RX6 168 (20000000), .methodLink RX6 50 yX6_in, .static yX6_in, .initialized RX6, .code yX6_in cX6_in 6 (some .boolean), .methodLink RX6 165 yX6_isWheel, .instanceMethod yX6_isWheel, .selects RX6 yX6_isWheel yX6_isWheel, .code yX6_isWheel cX6_isWheel 2 (some .boolean), .fieldLink RX6 7 "WheelAreasModel" "state" "[I", .methodLink RX6 212 yX6_isReading, .static yX6_isReading, .code yX6_isReading cX6_isReading 1 (some .boolean), .constantLong RX6 124 (10000000), .constantLong RX6 126 (30000000)] ++ wsX60)
def wsX6_forget : List Cond := .code yX6_forget cX6_forget 3 (some .int) :: ([.fieldLink RX6 117 "WheelAreasModel" "seenMany" "I", .methodLink RX6 50 yX6_in, .static yX6_in, .initialized RX6, .code yX6_in cX6_in 6 (some .boolean)] ++ wsX60)
def wsX6_isAsSeen_r1 : List Cond := [Cond.fieldLink RX6 32 "WheelAreasModel" "readBy" "[I", Cond.fieldLink RX6 7 "WheelAreasModel" "state" "[I", Cond.fieldLink RX6 117 "WheelAreasModel" "seenMany" "I", Cond.fieldLink RX6 29 "WheelAreasModel" "seen" "[I", Cond.methodLink RX6 209 yX6_edgesGo, Cond.instanceMethod yX6_edgesGo, Cond.selects RX6 yX6_edgesGo yX6_edgesGo, Cond.initialized RX6, Cond.code yX6_edgesGo cX6_edgesGo 3 none, Cond.methodLink RX6 203 yX6_copies, Cond.instanceMethod yX6_copies, Cond.selects RX6 yX6_copies yX6_copies, Cond.code yX6_copies cX6_copies 4 none, Cond.methodLink RX6 196 yX6_starts, Cond.instanceMethod yX6_starts, Cond.selects RX6 yX6_starts yX6_starts, Cond.code yX6_starts cX6_starts 1 none, Cond.fieldLink RX6 144 "WheelAreasModel" "rolled" "I", Cond.fieldLink RX6 147 "WheelAreasModel" "idle" "I", Cond.constant RX6 150 (-1000000), Cond.fieldLink RX6 151 "WheelAreasModel" "greatest" "I", Cond.methodLink RX6 199 yX6_tracesOn, Cond.instanceMethod yX6_tracesOn, Cond.selects RX6 yX6_tracesOn yX6_tracesOn]
def wsX6_isAsSeen_r2 : List Cond := [Cond.code yX6_tracesOn cX6_tracesOn 4 none, Cond.methodLink RX6 154 yX6_edgeOn, Cond.instanceMethod yX6_edgeOn, Cond.selects RX6 yX6_edgeOn yX6_edgeOn, Cond.code yX6_edgeOn cX6_edgeOn 7 none, Cond.methodLink RX6 128 yX6_behindOn, Cond.instanceMethod yX6_behindOn, Cond.selects RX6 yX6_behindOn yX6_behindOn, Cond.code yX6_behindOn cX6_behindOn 3 (some .int), Cond.methodLink RX6 131 yX6_sweepOn, Cond.instanceMethod yX6_sweepOn, Cond.selects RX6 yX6_sweepOn yX6_sweepOn, Cond.code yX6_sweepOn cX6_sweepOn 6 (some .int), Cond.methodLink RX6 138 yX6_rollsOn, Cond.instanceMethod yX6_rollsOn, Cond.selects RX6 yX6_rollsOn yX6_rollsOn, Cond.code yX6_rollsOn cX6_rollsOn 7 (some .int), Cond.methodLink RX6 135 yX6_amount, Cond.static yX6_amount, Cond.code yX6_amount cX6_amount 1 (some .int)]
def wsX6_isAsSeen : List Cond := .code yX6_isAsSeen cX6_isAsSeen 8 (some .boolean) :: ((wsX6_isAsSeen_r1 ++ wsX6_isAsSeen_r2) ++ wsX60)
def wsX6_numbersAt_r1 : List Cond := [Cond.fieldLink RX6 7 "WheelAreasModel" "state" "[I", Cond.methodLink RX6 232 yX6_isAsSeen, Cond.instanceMethod yX6_isAsSeen, Cond.selects RX6 yX6_isAsSeen yX6_isAsSeen, Cond.initialized RX6, Cond.code yX6_isAsSeen cX6_isAsSeen 8 (some .boolean), Cond.fieldLink RX6 32 "WheelAreasModel" "readBy" "[I", Cond.fieldLink RX6 117 "WheelAreasModel" "seenMany" "I", Cond.fieldLink RX6 29 "WheelAreasModel" "seen" "[I", Cond.methodLink RX6 209 yX6_edgesGo, Cond.instanceMethod yX6_edgesGo, Cond.selects RX6 yX6_edgesGo yX6_edgesGo, Cond.code yX6_edgesGo cX6_edgesGo 3 none, Cond.methodLink RX6 203 yX6_copies, Cond.instanceMethod yX6_copies, Cond.selects RX6 yX6_copies yX6_copies, Cond.code yX6_copies cX6_copies 4 none, Cond.methodLink RX6 196 yX6_starts, Cond.instanceMethod yX6_starts, Cond.selects RX6 yX6_starts yX6_starts, Cond.code yX6_starts cX6_starts 1 none, Cond.fieldLink RX6 144 "WheelAreasModel" "rolled" "I", Cond.fieldLink RX6 147 "WheelAreasModel" "idle" "I", Cond.constant RX6 150 (-1000000)]
def wsX6_numbersAt_r2 : List Cond := [Cond.fieldLink RX6 151 "WheelAreasModel" "greatest" "I", Cond.methodLink RX6 199 yX6_tracesOn, Cond.instanceMethod yX6_tracesOn, Cond.selects RX6 yX6_tracesOn yX6_tracesOn, Cond.code yX6_tracesOn cX6_tracesOn 4 none, Cond.methodLink RX6 154 yX6_edgeOn, Cond.instanceMethod yX6_edgeOn, Cond.selects RX6 yX6_edgeOn yX6_edgeOn, Cond.code yX6_edgeOn cX6_edgeOn 7 none, Cond.methodLink RX6 128 yX6_behindOn, Cond.instanceMethod yX6_behindOn, Cond.selects RX6 yX6_behindOn yX6_behindOn, Cond.code yX6_behindOn cX6_behindOn 3 (some .int), Cond.methodLink RX6 131 yX6_sweepOn, Cond.instanceMethod yX6_sweepOn, Cond.selects RX6 yX6_sweepOn yX6_sweepOn, Cond.code yX6_sweepOn cX6_sweepOn 6 (some .int), Cond.methodLink RX6 138 yX6_rollsOn, Cond.instanceMethod yX6_rollsOn, Cond.selects RX6 yX6_rollsOn yX6_rollsOn, Cond.code yX6_rollsOn cX6_rollsOn 7 (some .int), Cond.methodLink RX6 135 yX6_amount, Cond.static yX6_amount, Cond.code yX6_amount cX6_amount 1 (some .int)]
def wsX6_numbersAt : List Cond := .code yX6_numbersAt cX6_numbersAt 8 (some .int) :: ((wsX6_numbersAt_r1 ++ wsX6_numbersAt_r2) ++ wsX60)
def wsX6_kinds_r1 : List Cond := [Cond.methodLink RX6 165 yX6_isWheel, Cond.instanceMethod yX6_isWheel, Cond.selects RX6 yX6_isWheel yX6_isWheel, Cond.initialized RX6, Cond.code yX6_isWheel cX6_isWheel 2 (some .boolean), Cond.fieldLink RX6 7 "WheelAreasModel" "state" "[I", Cond.methodLink RX6 50 yX6_in, Cond.static yX6_in, Cond.code yX6_in cX6_in 6 (some .boolean), Cond.methodLink RX6 235 yX6_numbersAt, Cond.instanceMethod yX6_numbersAt, Cond.selects RX6 yX6_numbersAt yX6_numbersAt, Cond.code yX6_numbersAt cX6_numbersAt 8 (some .int), Cond.methodLink RX6 232 yX6_isAsSeen, Cond.instanceMethod yX6_isAsSeen, Cond.selects RX6 yX6_isAsSeen yX6_isAsSeen, Cond.code yX6_isAsSeen cX6_isAsSeen 8 (some .boolean), Cond.fieldLink RX6 32 "WheelAreasModel" "readBy" "[I", Cond.fieldLink RX6 117 "WheelAreasModel" "seenMany" "I", Cond.fieldLink RX6 29 "WheelAreasModel" "seen" "[I", Cond.methodLink RX6 209 yX6_edgesGo, Cond.instanceMethod yX6_edgesGo, Cond.selects RX6 yX6_edgesGo yX6_edgesGo, Cond.code yX6_edgesGo cX6_edgesGo 3 none]
def wsX6_kinds_r2 : List Cond := [Cond.methodLink RX6 203 yX6_copies, Cond.instanceMethod yX6_copies, Cond.selects RX6 yX6_copies yX6_copies, Cond.code yX6_copies cX6_copies 4 none, Cond.methodLink RX6 196 yX6_starts, Cond.instanceMethod yX6_starts, Cond.selects RX6 yX6_starts yX6_starts, Cond.code yX6_starts cX6_starts 1 none, Cond.fieldLink RX6 144 "WheelAreasModel" "rolled" "I", Cond.fieldLink RX6 147 "WheelAreasModel" "idle" "I", Cond.constant RX6 150 (-1000000), Cond.fieldLink RX6 151 "WheelAreasModel" "greatest" "I", Cond.methodLink RX6 199 yX6_tracesOn, Cond.instanceMethod yX6_tracesOn, Cond.selects RX6 yX6_tracesOn yX6_tracesOn, Cond.code yX6_tracesOn cX6_tracesOn 4 none, Cond.methodLink RX6 154 yX6_edgeOn, Cond.instanceMethod yX6_edgeOn, Cond.selects RX6 yX6_edgeOn yX6_edgeOn, Cond.code yX6_edgeOn cX6_edgeOn 7 none, Cond.methodLink RX6 128 yX6_behindOn, Cond.instanceMethod yX6_behindOn, Cond.selects RX6 yX6_behindOn yX6_behindOn, Cond.code yX6_behindOn cX6_behindOn 3 (some .int)]
def wsX6_kinds_r3 : List Cond := [Cond.methodLink RX6 131 yX6_sweepOn, Cond.instanceMethod yX6_sweepOn, Cond.selects RX6 yX6_sweepOn yX6_sweepOn, Cond.code yX6_sweepOn cX6_sweepOn 6 (some .int), Cond.methodLink RX6 138 yX6_rollsOn, Cond.instanceMethod yX6_rollsOn, Cond.selects RX6 yX6_rollsOn yX6_rollsOn, Cond.code yX6_rollsOn cX6_rollsOn 7 (some .int), Cond.methodLink RX6 135 yX6_amount, Cond.static yX6_amount, Cond.code yX6_amount cX6_amount 1 (some .int)]
def wsX6_kinds : List Cond := .code yX6_kinds cX6_kinds 2 (some .int) :: ((wsX6_kinds_r1 ++ (wsX6_kinds_r2 ++ wsX6_kinds_r3)) ++ wsX60)
def wsX6_steps_r1 : List Cond := [Cond.methodLink RX6 165 yX6_isWheel, Cond.instanceMethod yX6_isWheel, Cond.selects RX6 yX6_isWheel yX6_isWheel, Cond.initialized RX6, Cond.code yX6_isWheel cX6_isWheel 2 (some .boolean), Cond.fieldLink RX6 7 "WheelAreasModel" "state" "[I", Cond.methodLink RX6 50 yX6_in, Cond.static yX6_in, Cond.code yX6_in cX6_in 6 (some .boolean), Cond.methodLink RX6 235 yX6_numbersAt, Cond.instanceMethod yX6_numbersAt, Cond.selects RX6 yX6_numbersAt yX6_numbersAt, Cond.code yX6_numbersAt cX6_numbersAt 8 (some .int), Cond.methodLink RX6 232 yX6_isAsSeen, Cond.instanceMethod yX6_isAsSeen, Cond.selects RX6 yX6_isAsSeen yX6_isAsSeen, Cond.code yX6_isAsSeen cX6_isAsSeen 8 (some .boolean), Cond.fieldLink RX6 32 "WheelAreasModel" "readBy" "[I", Cond.fieldLink RX6 117 "WheelAreasModel" "seenMany" "I", Cond.fieldLink RX6 29 "WheelAreasModel" "seen" "[I", Cond.methodLink RX6 209 yX6_edgesGo, Cond.instanceMethod yX6_edgesGo, Cond.selects RX6 yX6_edgesGo yX6_edgesGo, Cond.code yX6_edgesGo cX6_edgesGo 3 none]
def wsX6_steps_r2 : List Cond := [Cond.methodLink RX6 203 yX6_copies, Cond.instanceMethod yX6_copies, Cond.selects RX6 yX6_copies yX6_copies, Cond.code yX6_copies cX6_copies 4 none, Cond.methodLink RX6 196 yX6_starts, Cond.instanceMethod yX6_starts, Cond.selects RX6 yX6_starts yX6_starts, Cond.code yX6_starts cX6_starts 1 none, Cond.fieldLink RX6 144 "WheelAreasModel" "rolled" "I", Cond.fieldLink RX6 147 "WheelAreasModel" "idle" "I", Cond.constant RX6 150 (-1000000), Cond.fieldLink RX6 151 "WheelAreasModel" "greatest" "I", Cond.methodLink RX6 199 yX6_tracesOn, Cond.instanceMethod yX6_tracesOn, Cond.selects RX6 yX6_tracesOn yX6_tracesOn, Cond.code yX6_tracesOn cX6_tracesOn 4 none, Cond.methodLink RX6 154 yX6_edgeOn, Cond.instanceMethod yX6_edgeOn, Cond.selects RX6 yX6_edgeOn yX6_edgeOn, Cond.code yX6_edgeOn cX6_edgeOn 7 none, Cond.methodLink RX6 128 yX6_behindOn, Cond.instanceMethod yX6_behindOn, Cond.selects RX6 yX6_behindOn yX6_behindOn, Cond.code yX6_behindOn cX6_behindOn 3 (some .int)]
def wsX6_steps_r3 : List Cond := [Cond.methodLink RX6 131 yX6_sweepOn, Cond.instanceMethod yX6_sweepOn, Cond.selects RX6 yX6_sweepOn yX6_sweepOn, Cond.code yX6_sweepOn cX6_sweepOn 6 (some .int), Cond.methodLink RX6 138 yX6_rollsOn, Cond.instanceMethod yX6_rollsOn, Cond.selects RX6 yX6_rollsOn yX6_rollsOn, Cond.code yX6_rollsOn cX6_rollsOn 7 (some .int), Cond.methodLink RX6 135 yX6_amount, Cond.static yX6_amount, Cond.code yX6_amount cX6_amount 1 (some .int)]
def wsX6_steps : List Cond := .code yX6_steps cX6_steps 2 (some .int) :: ((wsX6_steps_r1 ++ (wsX6_steps_r2 ++ wsX6_steps_r3)) ++ wsX60)
def wsX6_worstAt : List Cond := .code yX6_worstAt cX6_worstAt 7 (some .int) :: ([.fieldLink RX6 32 "WheelAreasModel" "readBy" "[I"] ++ wsX60)
def wsX6_ask_r1 : List Cond := [Cond.methodLink RX6 165 yX6_isWheel, Cond.instanceMethod yX6_isWheel, Cond.selects RX6 yX6_isWheel yX6_isWheel, Cond.initialized RX6, Cond.code yX6_isWheel cX6_isWheel 2 (some .boolean), Cond.fieldLink RX6 7 "WheelAreasModel" "state" "[I", Cond.methodLink RX6 50 yX6_in, Cond.static yX6_in, Cond.code yX6_in cX6_in 6 (some .boolean), Cond.methodLink RX6 235 yX6_numbersAt, Cond.instanceMethod yX6_numbersAt, Cond.selects RX6 yX6_numbersAt yX6_numbersAt, Cond.code yX6_numbersAt cX6_numbersAt 8 (some .int), Cond.methodLink RX6 232 yX6_isAsSeen, Cond.instanceMethod yX6_isAsSeen, Cond.selects RX6 yX6_isAsSeen yX6_isAsSeen, Cond.code yX6_isAsSeen cX6_isAsSeen 8 (some .boolean), Cond.fieldLink RX6 32 "WheelAreasModel" "readBy" "[I", Cond.fieldLink RX6 117 "WheelAreasModel" "seenMany" "I", Cond.fieldLink RX6 29 "WheelAreasModel" "seen" "[I", Cond.methodLink RX6 209 yX6_edgesGo, Cond.instanceMethod yX6_edgesGo, Cond.selects RX6 yX6_edgesGo yX6_edgesGo, Cond.code yX6_edgesGo cX6_edgesGo 3 none]
def wsX6_ask_r2 : List Cond := [Cond.methodLink RX6 203 yX6_copies, Cond.instanceMethod yX6_copies, Cond.selects RX6 yX6_copies yX6_copies, Cond.code yX6_copies cX6_copies 4 none, Cond.methodLink RX6 196 yX6_starts, Cond.instanceMethod yX6_starts, Cond.selects RX6 yX6_starts yX6_starts, Cond.code yX6_starts cX6_starts 1 none, Cond.fieldLink RX6 144 "WheelAreasModel" "rolled" "I", Cond.fieldLink RX6 147 "WheelAreasModel" "idle" "I", Cond.constant RX6 150 (-1000000), Cond.fieldLink RX6 151 "WheelAreasModel" "greatest" "I", Cond.methodLink RX6 199 yX6_tracesOn, Cond.instanceMethod yX6_tracesOn, Cond.selects RX6 yX6_tracesOn yX6_tracesOn, Cond.code yX6_tracesOn cX6_tracesOn 4 none, Cond.methodLink RX6 154 yX6_edgeOn, Cond.instanceMethod yX6_edgeOn, Cond.selects RX6 yX6_edgeOn yX6_edgeOn, Cond.code yX6_edgeOn cX6_edgeOn 7 none, Cond.methodLink RX6 128 yX6_behindOn, Cond.instanceMethod yX6_behindOn, Cond.selects RX6 yX6_behindOn yX6_behindOn, Cond.code yX6_behindOn cX6_behindOn 3 (some .int)]
def wsX6_ask_r3 : List Cond := [Cond.methodLink RX6 131 yX6_sweepOn, Cond.instanceMethod yX6_sweepOn, Cond.selects RX6 yX6_sweepOn yX6_sweepOn, Cond.code yX6_sweepOn cX6_sweepOn 6 (some .int), Cond.methodLink RX6 138 yX6_rollsOn, Cond.instanceMethod yX6_rollsOn, Cond.selects RX6 yX6_rollsOn yX6_rollsOn, Cond.code yX6_rollsOn cX6_rollsOn 7 (some .int), Cond.methodLink RX6 135 yX6_amount, Cond.static yX6_amount, Cond.code yX6_amount cX6_amount 1 (some .int), Cond.methodLink RX6 238 yX6_worstAt, Cond.instanceMethod yX6_worstAt, Cond.selects RX6 yX6_worstAt yX6_worstAt, Cond.code yX6_worstAt cX6_worstAt 7 (some .int)]
def wsX6_ask : List Cond := .code yX6_ask cX6_ask 8 (some .int) :: ((wsX6_ask_r1 ++ (wsX6_ask_r2 ++ wsX6_ask_r3)) ++ wsX60)
def wsX6_drift_r1 : List Cond := [Cond.constantLong RX6 122 (200), Cond.fieldLink RX6 7 "WheelAreasModel" "state" "[I", Cond.constant RX6 241 (1103515245), Cond.constant RX6 168 (20000000), Cond.fieldLink RX6 144 "WheelAreasModel" "rolled" "I", Cond.methodLink RX6 50 yX6_in, Cond.static yX6_in, Cond.initialized RX6, Cond.code yX6_in cX6_in 6 (some .boolean), Cond.methodLink RX6 209 yX6_edgesGo, Cond.instanceMethod yX6_edgesGo, Cond.selects RX6 yX6_edgesGo yX6_edgesGo, Cond.code yX6_edgesGo cX6_edgesGo 3 none, Cond.methodLink RX6 203 yX6_copies, Cond.instanceMethod yX6_copies, Cond.selects RX6 yX6_copies yX6_copies, Cond.code yX6_copies cX6_copies 4 none, Cond.methodLink RX6 196 yX6_starts, Cond.instanceMethod yX6_starts, Cond.selects RX6 yX6_starts yX6_starts, Cond.code yX6_starts cX6_starts 1 none, Cond.fieldLink RX6 147 "WheelAreasModel" "idle" "I", Cond.constant RX6 150 (-1000000), Cond.fieldLink RX6 151 "WheelAreasModel" "greatest" "I"]
def wsX6_drift_r2 : List Cond := [Cond.methodLink RX6 199 yX6_tracesOn, Cond.instanceMethod yX6_tracesOn, Cond.selects RX6 yX6_tracesOn yX6_tracesOn, Cond.code yX6_tracesOn cX6_tracesOn 4 none, Cond.methodLink RX6 154 yX6_edgeOn, Cond.instanceMethod yX6_edgeOn, Cond.selects RX6 yX6_edgeOn yX6_edgeOn, Cond.code yX6_edgeOn cX6_edgeOn 7 none, Cond.methodLink RX6 128 yX6_behindOn, Cond.instanceMethod yX6_behindOn, Cond.selects RX6 yX6_behindOn yX6_behindOn, Cond.code yX6_behindOn cX6_behindOn 3 (some .int), Cond.methodLink RX6 131 yX6_sweepOn, Cond.instanceMethod yX6_sweepOn, Cond.selects RX6 yX6_sweepOn yX6_sweepOn, Cond.code yX6_sweepOn cX6_sweepOn 6 (some .int), Cond.methodLink RX6 138 yX6_rollsOn, Cond.instanceMethod yX6_rollsOn, Cond.selects RX6 yX6_rollsOn yX6_rollsOn, Cond.code yX6_rollsOn cX6_rollsOn 7 (some .int), Cond.methodLink RX6 135 yX6_amount, Cond.static yX6_amount, Cond.code yX6_amount cX6_amount 1 (some .int)]
def wsX6_drift : List Cond := .code yX6_drift cX6_drift 6 (some .int) :: ((wsX6_drift_r1 ++ wsX6_drift_r2) ++ wsX60)
def wsX6_keep : List Cond := .code yX6_keep cX6_keep 3 (some .int) :: ([.fieldLink RX6 35 "WheelAreasModel" "isKept" "[Z", .methodLink RX6 50 yX6_in, .static yX6_in, .initialized RX6, .code yX6_in cX6_in 6 (some .boolean), .methodLink RX6 203 yX6_copies, .instanceMethod yX6_copies, .selects RX6 yX6_copies yX6_copies, .code yX6_copies cX6_copies 4 none, .fieldLink RX6 7 "WheelAreasModel" "state" "[I"] ++ wsX60)
def wsX6_back : List Cond := .code yX6_back cX6_back 2 (some .int) :: ([.fieldLink RX6 35 "WheelAreasModel" "isKept" "[Z", .fieldLink RX6 7 "WheelAreasModel" "state" "[I", .methodLink RX6 50 yX6_in, .static yX6_in, .initialized RX6, .code yX6_in cX6_in 6 (some .boolean), .methodLink RX6 203 yX6_copies, .instanceMethod yX6_copies, .selects RX6 yX6_copies yX6_copies, .code yX6_copies cX6_copies 4 none] ++ wsX60)
def wsX6_sheet : List Cond := .code yX6_sheet cX6_sheet 5 (some .int) :: ([.constantLong RX6 175 (3), .constantLong RX6 163 (2), .fieldLink RX6 39 "WheelAreasModel" "lanes" "[I", .fieldLink RX6 42 "WheelAreasModel" "lengths" "[I", .fieldLink RX6 45 "WheelAreasModel" "cells" "[I", .methodLink RX6 50 yX6_in, .static yX6_in, .initialized RX6, .code yX6_in cX6_in 6 (some .boolean)] ++ wsX60)
def wsX6_lay : List Cond := .code yX6_lay cX6_lay 4 (some .int) :: ([.constantLong RX6 175 (3), .fieldLink RX6 39 "WheelAreasModel" "lanes" "[I", .fieldLink RX6 42 "WheelAreasModel" "lengths" "[I", .fieldLink RX6 45 "WheelAreasModel" "cells" "[I", .methodLink RX6 50 yX6_in, .static yX6_in, .initialized RX6, .code yX6_in cX6_in 6 (some .boolean)] ++ wsX60)
def wsX6_read : List Cond := .code yX6_read cX6_read 9 (some .int) :: ([.constantLong RX6 175 (3), .constantLong RX6 163 (2), .constantLong RX6 120 (20), .fieldLink RX6 39 "WheelAreasModel" "lanes" "[I", .fieldLink RX6 42 "WheelAreasModel" "lengths" "[I", .fieldLink RX6 45 "WheelAreasModel" "cells" "[I", .fieldLink RX6 242 "WheelAreasModel" "torn" "I", .methodLink RX6 50 yX6_in, .static yX6_in, .initialized RX6, .code yX6_in cX6_in 6 (some .boolean), .methodLink RX6 203 yX6_copies, .instanceMethod yX6_copies, .selects RX6 yX6_copies yX6_copies, .code yX6_copies cX6_copies 4 none, .fieldLink RX6 7 "WheelAreasModel" "state" "[I", .methodLink RX6 191 yX6_adds, .instanceMethod yX6_adds, .selects RX6 yX6_adds yX6_adds, .code yX6_adds cX6_adds 4 (some .int), .methodLink RX6 183 yX6_isPoint, .static yX6_isPoint, .code yX6_isPoint cX6_isPoint 2 (some .boolean)] ++ wsX60)
def wsX6_torn : List Cond := .code yX6_torn cX6_torn 1 (some .int) :: ([.fieldLink RX6 242 "WheelAreasModel" "torn" "I"] ++ wsX60)
def wsX6_count : List Cond := .code yX6_count cX6_count 5 (some .int) :: ([.fieldLink RX6 7 "WheelAreasModel" "state" "[I", .fieldLink RX6 117 "WheelAreasModel" "seenMany" "I", .fieldLink RX6 35 "WheelAreasModel" "isKept" "[Z", .fieldLink RX6 54 "WheelAreasModel" "taped" "I", .fieldLink RX6 39 "WheelAreasModel" "lanes" "[I", .fieldLink RX6 42 "WheelAreasModel" "lengths" "[I"] ++ wsX60)
def wsJ9_abs_0f7a4 : List Cond := .code yJ9_abs_0f7a4 cJ9_abs_0f7a4 1 (some .int) :: ([])
def wsJ9_max_7cf53 : List Cond := .code yJ9_max_7cf53 cJ9_max_7cf53 2 (some .int) :: ([])
def wsL_law_r1 : List Cond := [Cond.classLink RL 7 RX5, Cond.instantiable RX5 11, Cond.initialized RX5, Cond.classLink RL 10 RX6, Cond.instantiable RX6 26, Cond.initialized RX6, Cond.methodLink RL 9 yX5_init, Cond.instanceMethod yX5_init, Cond.code yX5_init cX5_init 2 none, Cond.methodLink RX5 1 objectInit, Cond.instanceMethod objectInit, Cond.code objectInit ⟨#[0xb1]⟩ 1 none, Cond.classLink RX5 7 RX0, Cond.instantiable RX0 10, Cond.initialized RX0, Cond.fieldLink RX5 10 "WheelAreas" "now" "LWheelAreas$Layout;", Cond.fieldLink RX5 16 "WheelAreas" "trial" "LWheelAreas$Layout;", Cond.fieldLink RX5 19 "WheelAreas" "images" "[LWheelAreas$Layout;", Cond.arrayClass .boolean, Cond.fieldLink RX5 23 "WheelAreas" "kept" "[Z", Cond.classLink RX5 27 RX4, Cond.instantiable RX4 6, Cond.initialized RX4, Cond.fieldLink RX5 30 "WheelAreas" "reader" "LWheelAreas$TextReader;"]
def wsL_law_r2 : List Cond := [Cond.classLink RX5 34 RX2, Cond.instantiable RX2 4, Cond.initialized RX2, Cond.fieldLink RX5 37 "WheelAreas" "sightings" "LWheelAreas$Sightings;", Cond.classLink RX5 41 RX1, Cond.fieldLink RX5 43 "WheelAreas" "sheets" "[LWheelAreas$Sheet;", Cond.arrayClass .int, Cond.fieldLink RX5 47 "WheelAreas" "edgeRolls" "[I", Cond.fieldLink RX5 51 "WheelAreas" "readsByStep" "[I", Cond.fieldLink RX5 54 "WheelAreas" "textFault" "I", Cond.fieldLink RX5 58 "WheelAreas" "readFault" "I", Cond.instantiable RX1 3, Cond.initialized RX1, Cond.instanceMethod yX0_init, Cond.code yX0_init cX0_init 1 none, Cond.methodLink RX0 3 objectInit, Cond.fieldLink RX0 9 "WheelAreas$Layout" "cornerX" "[I", Cond.fieldLink RX0 15 "WheelAreas$Layout" "cornerY" "[I", Cond.fieldLink RX0 18 "WheelAreas$Layout" "corners" "I", Cond.fieldLink RX0 22 "WheelAreas$Layout" "wheelKind" "[I", Cond.fieldLink RX0 25 "WheelAreas$Layout" "wheelStep" "[I", Cond.fieldLink RX0 28 "WheelAreas$Layout" "wheelReads" "[I", Cond.fieldLink RX0 31 "WheelAreas$Layout" "wheels" "I", Cond.fieldLink RX0 34 "WheelAreas$Layout" "poleX" "I"]
def wsL_law_r3 : List Cond := [Cond.fieldLink RX0 37 "WheelAreas$Layout" "poleY" "I", Cond.fieldLink RX0 40 "WheelAreas$Layout" "traced" "I", Cond.instanceMethod yX4_init, Cond.code yX4_init cX4_init 1 none, Cond.methodLink RX4 3 objectInit, Cond.classLink RX4 9 RX3, Cond.instantiable RX3 5, Cond.initialized RX3, Cond.fieldLink RX4 12 "WheelAreas$TextReader" "tape" "LWheelAreas$Tape;", Cond.classLink RX4 18 RX0, Cond.fieldLink RX4 21 "WheelAreas$TextReader" "told" "LWheelAreas$Layout;", Cond.fieldLink RX4 25 "WheelAreas$TextReader" "poleTold" "Z", Cond.fieldLink RX4 29 "WheelAreas$TextReader" "lines" "I", Cond.fieldLink RX4 33 "WheelAreas$TextReader" "found" "I", Cond.fieldLink RX4 36 "WheelAreas$TextReader" "foundAt" "I", Cond.instanceMethod yX3_init, Cond.code yX3_init cX3_init 1 none, Cond.methodLink RX3 3 objectInit, Cond.arrayClass .byte, Cond.fieldLink RX3 9 "WheelAreas$Tape" "bytes" "[B", Cond.fieldLink RX3 15 "WheelAreas$Tape" "size" "I", Cond.fieldLink RX3 19 "WheelAreas$Tape" "token" "I", Cond.fieldLink RX3 22 "WheelAreas$Tape" "tokenFrom" "I", Cond.fieldLink RX3 25 "WheelAreas$Tape" "tokenTo" "I"]
def wsL_law_r4 : List Cond := [Cond.instanceMethod yX2_init, Cond.code yX2_init cX2_init 1 none, Cond.methodLink RX2 3 objectInit, Cond.fieldLink RX2 9 "WheelAreas$Sightings" "edges" "[I", Cond.fieldLink RX2 15 "WheelAreas$Sightings" "wheel" "[I", Cond.fieldLink RX2 18 "WheelAreas$Sightings" "reads" "[I", Cond.fieldLink RX2 21 "WheelAreas$Sightings" "size" "I", Cond.instanceMethod yX1_init, Cond.code yX1_init cX1_init 1 none, Cond.methodLink RX1 3 objectInit, Cond.fieldLink RX1 9 "WheelAreas$Sheet" "cells" "[I", Cond.fieldLink RX1 15 "WheelAreas$Sheet" "lane" "I", Cond.fieldLink RX1 19 "WheelAreas$Sheet" "size" "I", Cond.methodLink RL 12 yX6_init, Cond.instanceMethod yX6_init, Cond.code yX6_init cX6_init 1 none, Cond.methodLink RX6 1 objectInit, Cond.fieldLink RX6 7 "WheelAreasModel" "state" "[I", Cond.fieldLink RX6 13 "WheelAreasModel" "readPage" "[I", Cond.fieldLink RX6 16 "WheelAreasModel" "tape" "[I", Cond.fieldLink RX6 19 "WheelAreasModel" "ends" "[I", Cond.fieldLink RX6 22 "WheelAreasModel" "letters" "[I", Cond.fieldLink RX6 25 "WheelAreasModel" "lost" "I", Cond.fieldLink RX6 29 "WheelAreasModel" "seen" "[I"]
def wsL_law_r5 : List Cond := [Cond.fieldLink RX6 32 "WheelAreasModel" "readBy" "[I", Cond.fieldLink RX6 35 "WheelAreasModel" "isKept" "[Z", Cond.fieldLink RX6 39 "WheelAreasModel" "lanes" "[I", Cond.fieldLink RX6 42 "WheelAreasModel" "lengths" "[I", Cond.fieldLink RX6 45 "WheelAreasModel" "cells" "[I", Cond.methodLink RL 13 yX5_feed, Cond.instanceMethod yX5_feed, Cond.selects RX5 yX5_feed yX5_feed, Cond.code yX5_feed cX5_feed 2 (some .int), Cond.fieldLink RX5 66 "WheelAreas$TextReader" "tape" "LWheelAreas$Tape;", Cond.fieldLink RX5 70 "WheelAreas$Tape" "size" "I", Cond.methodLink RX5 62 yX5_within, Cond.static yX5_within, Cond.code yX5_within cX5_within 3 (some .boolean), Cond.methodLink RX5 75 yX3_append, Cond.instanceMethod yX3_append, Cond.selects RX3 yX3_append yX3_append, Cond.code yX3_append cX3_append 2 none, Cond.methodLink RL 17 yX6_feed, Cond.instanceMethod yX6_feed, Cond.selects RX6 yX6_feed yX6_feed, Cond.code yX6_feed cX6_feed 2 (some .int), Cond.constantLong RX6 48 (127), Cond.fieldLink RX6 54 "WheelAreasModel" "taped" "I"]
def wsL_law_r6 : List Cond := [Cond.methodLink RX6 50 yX6_in, Cond.static yX6_in, Cond.code yX6_in cX6_in 6 (some .boolean), Cond.methodLink RL 18 yX5_end, Cond.instanceMethod yX5_end, Cond.selects RX5 yX5_end yX5_end, Cond.code yX5_end cX5_end 3 (some .int), Cond.methodLink RL 21 yX6_end, Cond.instanceMethod yX6_end, Cond.selects RX6 yX6_end yX6_end, Cond.code yX6_end cX6_end 3 (some .int), Cond.methodLink RL 22 yX5_text, Cond.instanceMethod yX5_text, Cond.selects RX5 yX5_text yX5_text, Cond.code yX5_text cX5_text 2 (some .int), Cond.fieldLink RX5 82 "WheelAreas$TextReader" "found" "I", Cond.fieldLink RX5 85 "WheelAreas$TextReader" "foundAt" "I", Cond.fieldLink RX5 88 "WheelAreas$TextReader" "told" "LWheelAreas$Layout;", Cond.fieldLink RX5 95 "WheelAreas$Sightings" "size" "I", Cond.fieldLink RX5 96 "WheelAreas$TextReader" "lines" "I", Cond.methodLink RX5 79 yX4_readText, Cond.instanceMethod yX4_readText, Cond.selects RX4 yX4_readText yX4_readText, Cond.code yX4_readText cX4_readText 2 none]
def wsL_law_r7 : List Cond := [Cond.fieldLink RX4 48 "WheelAreas$Tape" "token" "I", Cond.methodLink RX4 39 yX3_rewind, Cond.instanceMethod yX3_rewind, Cond.selects RX3 yX3_rewind yX3_rewind, Cond.code yX3_rewind cX3_rewind 1 none, Cond.methodLink RX4 42 yX0_clear, Cond.instanceMethod yX0_clear, Cond.selects RX0 yX0_clear yX0_clear, Cond.code yX0_clear cX0_clear 1 none, Cond.methodLink RX4 45 yX4_advance, Cond.instanceMethod yX4_advance, Cond.selects RX4 yX4_advance yX4_advance, Cond.code yX4_advance cX4_advance 1 none, Cond.methodLink RX4 116 yX3_nextToken, Cond.instanceMethod yX3_nextToken, Cond.selects RX3 yX3_nextToken yX3_nextToken, Cond.code yX3_nextToken cX3_nextToken 2 none, Cond.methodLink RX3 28 yX3_endOfRun, Cond.instanceMethod yX3_endOfRun, Cond.selects RX3 yX3_endOfRun yX3_endOfRun, Cond.code yX3_endOfRun cX3_endOfRun 5 (some .int), Cond.methodLink RX4 62 yX4_refuse, Cond.instanceMethod yX4_refuse, Cond.selects RX4 yX4_refuse yX4_refuse]
def wsL_law_r8 : List Cond := [Cond.code yX4_refuse cX4_refuse 2 none, Cond.fieldLink RX4 119 "WheelAreas$Tape" "tokenFrom" "I", Cond.methodLink RX4 51 yX4_readLine, Cond.instanceMethod yX4_readLine, Cond.selects RX4 yX4_readLine yX4_readLine, Cond.code yX4_readLine cX4_readLine 5 none, Cond.methodLink RX4 54 yX4_wordOfToken, Cond.instanceMethod yX4_wordOfToken, Cond.selects RX4 yX4_wordOfToken yX4_wordOfToken, Cond.code yX4_wordOfToken cX4_wordOfToken 2 (some .int), Cond.methodLink RX4 77 yX4_nameOf, Cond.static yX4_nameOf, Cond.code yX4_nameOf cX4_nameOf 1 (some (.object "java/lang/String")), Cond.methodLink RX4 81 yX3_tokenIs, Cond.instanceMethod yX3_tokenIs, Cond.selects RX3 yX3_tokenIs yX3_tokenIs, Cond.code yX3_tokenIs cX3_tokenIs 4 (some .boolean), Cond.methodLink RX3 32 yJ0_length_8abf5, Cond.instanceMethod yJ0_length_8abf5, Cond.selects RJ0 yJ0_length_8abf5 yJ0_length_8abf5, Cond.initialized RJ0, Cond.code yJ0_length_8abf5 cJ0_length_8abf5 1 (some .int), Cond.fieldLink RJ0 9 "java/lang/String" "value" "[B", Cond.methodLink RJ0 335 yJ0_coder_7d493]
def wsL_law_r9 : List Cond := [Cond.instanceMethod yJ0_coder_7d493, Cond.selects RJ0 yJ0_coder_7d493 yJ0_coder_7d493, Cond.code yJ0_coder_7d493 cJ0_coder_7d493 1 (some .byte), Cond.fieldLink RJ0 38 "java/lang/String" "COMPACT_STRINGS" "Z", Cond.fieldLink RJ0 15 "java/lang/String" "coder" "B", Cond.methodLink RX3 38 yJ0_charAt_5068e, Cond.instanceMethod yJ0_charAt_5068e, Cond.selects RJ0 yJ0_charAt_5068e yJ0_charAt_5068e, Cond.code yJ0_charAt_5068e cJ0_charAt_5068e 2 (some .char), Cond.methodLink RJ0 492 yJ0_isLatin1_aae02, Cond.instanceMethod yJ0_isLatin1_aae02, Cond.selects RJ0 yJ0_isLatin1_aae02 yJ0_isLatin1_aae02, Cond.code yJ0_isLatin1_aae02 cJ0_isLatin1_aae02 1 (some .boolean), Cond.methodLink RJ0 495 yJ1_charAt_3b067, Cond.static yJ1_charAt_3b067, Cond.initialized RJ1, Cond.code yJ1_charAt_3b067 cJ1_charAt_3b067 2 (some .char), Cond.methodLink RJ1 9 yJ0_checkIndex_df160, Cond.static yJ0_checkIndex_df160, Cond.code yJ0_checkIndex_df160 cJ0_checkIndex_df160 2 none, Cond.fieldLink RJ0 1053 "jdk/internal/util/Preconditions" "SIOOBE_FORMATTER" "Ljava/util/function/BiFunction;", Cond.methodLink RJ0 1059 yJ3_checkIndex_8e157, Cond.static yJ3_checkIndex_8e157, Cond.initialized RJ3]
def wsL_law_r10 : List Cond := [Cond.code yJ3_checkIndex_8e157 cJ3_checkIndex_8e157 3 (some .int), Cond.methodLink RJ0 498 yJ2_charAt_3b067, Cond.static yJ2_charAt_3b067, Cond.initialized RJ2, Cond.code yJ2_charAt_3b067 cJ2_charAt_3b067 2 (some .char), Cond.methodLink RJ2 67 yJ2_checkIndex_2214a, Cond.static yJ2_checkIndex_2214a, Cond.code yJ2_checkIndex_2214a cJ2_checkIndex_2214a 2 none, Cond.methodLink RJ2 48 yJ2_length_9d52b, Cond.static yJ2_length_9d52b, Cond.code yJ2_length_9d52b cJ2_length_9d52b 1 (some .int), Cond.methodLink RJ2 414 yJ0_checkIndex_df160, Cond.methodLink RJ2 71 yJ2_getChar_3b067, Cond.static yJ2_getChar_3b067, Cond.code yJ2_getChar_3b067 cJ2_getChar_3b067 2 (some .char), Cond.fieldLink RJ2 44 "java/lang/StringUTF16" "$assertionsDisabled" "Z", Cond.fieldLink RJ2 59 "java/lang/StringUTF16" "HI_BYTE_SHIFT" "I", Cond.fieldLink RJ2 63 "java/lang/StringUTF16" "LO_BYTE_SHIFT" "I", Cond.methodLink RX4 58 yX4_faultOfWord, Cond.instanceMethod yX4_faultOfWord, Cond.selects RX4 yX4_faultOfWord yX4_faultOfWord, Cond.code yX4_faultOfWord cX4_faultOfWord 2 (some .int), Cond.fieldLink RX4 97 "WheelAreas$Layout" "corners" "I", Cond.fieldLink RX4 100 "WheelAreas$Layout" "wheels" "I"]
def wsL_law_r11 : List Cond := [Cond.methodLink RX4 66 yX4_takeNumber, Cond.instanceMethod yX4_takeNumber, Cond.selects RX4 yX4_takeNumber yX4_takeNumber, Cond.code yX4_takeNumber cX4_takeNumber 4 (some .int), Cond.methodLink RX4 113 yX3_numberOfToken, Cond.instanceMethod yX3_numberOfToken, Cond.selects RX3 yX3_numberOfToken yX3_numberOfToken, Cond.code yX3_numberOfToken cX3_numberOfToken 3 (some .int), Cond.methodLink RX4 70 yX4_takeSemicolon, Cond.instanceMethod yX4_takeSemicolon, Cond.selects RX4 yX4_takeSemicolon yX4_takeSemicolon, Cond.code yX4_takeSemicolon cX4_takeSemicolon 1 none, Cond.methodLink RX4 73 yX4_tell, Cond.instanceMethod yX4_tell, Cond.selects RX4 yX4_tell yX4_tell, Cond.code yX4_tell cX4_tell 4 none, Cond.methodLink RX4 103 yX0_movePole, Cond.instanceMethod yX0_movePole, Cond.selects RX0 yX0_movePole yX0_movePole, Cond.code yX0_movePole cX0_movePole 3 none, Cond.methodLink RX4 107 yX0_appendCorner, Cond.instanceMethod yX0_appendCorner, Cond.selects RX0 yX0_appendCorner yX0_appendCorner, Cond.code yX0_appendCorner cX0_appendCorner 3 none]
def wsL_law_r12 : List Cond := [Cond.methodLink RX4 110 yX0_appendWheel, Cond.instanceMethod yX0_appendWheel, Cond.selects RX0 yX0_appendWheel yX0_appendWheel, Cond.code yX0_appendWheel cX0_appendWheel 3 none, Cond.methodLink RX5 91 yX0_copyFrom, Cond.instanceMethod yX0_copyFrom, Cond.selects RX0 yX0_copyFrom yX0_copyFrom, Cond.code yX0_copyFrom cX0_copyFrom 2 none, Cond.methodLink RX0 43 arraycopyName, Cond.native arraycopyName, Cond.static arraycopyName, Cond.initialized "java/lang/System", Cond.methodLink RL 26 yX6_text, Cond.instanceMethod yX6_text, Cond.selects RX6 yX6_text yX6_text, Cond.code yX6_text cX6_text 3 (some .int), Cond.fieldLink RX6 57 "WheelAreasModel" "broken" "I", Cond.fieldLink RX6 69 "WheelAreasModel" "spot" "I", Cond.fieldLink RX6 104 "WheelAreasModel" "isPoleTold" "Z", Cond.fieldLink RX6 66 "WheelAreasModel" "token" "I", Cond.fieldLink RX6 114 "WheelAreasModel" "fault" "I", Cond.fieldLink RX6 63 "WheelAreasModel" "brokenAt" "I", Cond.fieldLink RX6 117 "WheelAreasModel" "seenMany" "I", Cond.methodLink RX6 91 yX6_readsOn]
def wsL_law_r13 : List Cond := [Cond.instanceMethod yX6_readsOn, Cond.selects RX6 yX6_readsOn yX6_readsOn, Cond.code yX6_readsOn cX6_readsOn 2 none, Cond.fieldLink RX6 60 "WheelAreasModel" "here" "I", Cond.fieldLink RX6 76 "WheelAreasModel" "value" "I", Cond.constantLong RX6 79 (97), Cond.constantLong RX6 81 (122), Cond.constantLong RX6 83 (48), Cond.constantLong RX6 85 (57), Cond.methodLink RX6 72 yX6_byteAt, Cond.instanceMethod yX6_byteAt, Cond.selects RX6 yX6_byteAt yX6_byteAt, Cond.code yX6_byteAt cX6_byteAt 2 (some .int), Cond.methodLink RX6 87 yX6_fails, Cond.instanceMethod yX6_fails, Cond.selects RX6 yX6_fails yX6_fails, Cond.code yX6_fails cX6_fails 2 none, Cond.methodLink RX6 111 yX6_readLine, Cond.instanceMethod yX6_readLine, Cond.selects RX6 yX6_readLine yX6_readLine, Cond.code yX6_readLine cX6_readLine 2 none, Cond.constantLong RX6 102 (5), Cond.methodLink RX6 98 yX6_nameHere, Cond.instanceMethod yX6_nameHere]
def wsL_law_r14 : List Cond := [Cond.selects RX6 yX6_nameHere yX6_nameHere, Cond.code yX6_nameHere cX6_nameHere 4 (some .int), Cond.methodLink RX6 108 yX6_readMore, Cond.instanceMethod yX6_readMore, Cond.selects RX6 yX6_readMore yX6_readMore, Cond.code yX6_readMore cX6_readMore 3 none, Cond.methodLink RX6 94 yX6_number, Cond.instanceMethod yX6_number, Cond.selects RX6 yX6_number yX6_number, Cond.code yX6_number cX6_number 4 (some .int), Cond.methodLink RL 27 yX5_fault, Cond.instanceMethod yX5_fault, Cond.selects RX5 yX5_fault yX5_fault, Cond.code yX5_fault cX5_fault 1 (some .int), Cond.methodLink RL 30 yX6_fault, Cond.instanceMethod yX6_fault, Cond.selects RX6 yX6_fault yX6_fault, Cond.code yX6_fault cX6_fault 1 (some .int), Cond.methodLink RL 31 yX5_rule, Cond.instanceMethod yX5_rule, Cond.selects RX5 yX5_rule yX5_rule, Cond.code yX5_rule cX5_rule 2 (some .int), Cond.fieldLink RX5 99 "WheelAreas$Layout" "corners" "I", Cond.fieldLink RX5 102 "WheelAreas$Layout" "wheels" "I"]
def wsL_law_r15 : List Cond := [Cond.fieldLink RX5 105 "WheelAreas$Layout" "traced" "I", Cond.constant RX5 108 (100000), Cond.fieldLink RX5 117 "WheelAreas$Layout" "poleX" "I", Cond.fieldLink RX5 120 "WheelAreas$Layout" "poleY" "I", Cond.methodLink RX5 109 yX0_area, Cond.instanceMethod yX0_area, Cond.selects RX0 yX0_area yX0_area, Cond.code yX0_area cX0_area 3 (some .int), Cond.methodLink RX0 53 yX0_sweepOf, Cond.instanceMethod yX0_sweepOf, Cond.selects RX0 yX0_sweepOf yX0_sweepOf, Cond.code yX0_sweepOf cX0_sweepOf 7 (some .int), Cond.methodLink RX5 113 yX0_edgeAhead, Cond.instanceMethod yX0_edgeAhead, Cond.selects RX0 yX0_edgeAhead yX0_edgeAhead, Cond.code yX0_edgeAhead cX0_edgeAhead 2 (some .int), Cond.methodLink RL 34 yX6_rule, Cond.instanceMethod yX6_rule, Cond.selects RX6 yX6_rule yX6_rule, Cond.code yX6_rule cX6_rule 3 (some .int), Cond.constant RX6 158 (100000), Cond.methodLink RX6 141 yX6_areaOn, Cond.instanceMethod yX6_areaOn, Cond.selects RX6 yX6_areaOn yX6_areaOn]
def wsL_law_r16 : List Cond := [Cond.code yX6_areaOn cX6_areaOn 5 (some .int), Cond.methodLink RX6 128 yX6_behindOn, Cond.instanceMethod yX6_behindOn, Cond.selects RX6 yX6_behindOn yX6_behindOn, Cond.code yX6_behindOn cX6_behindOn 3 (some .int), Cond.methodLink RX6 131 yX6_sweepOn, Cond.instanceMethod yX6_sweepOn, Cond.selects RX6 yX6_sweepOn yX6_sweepOn, Cond.code yX6_sweepOn cX6_sweepOn 6 (some .int), Cond.methodLink RL 35 yX5_corner, Cond.instanceMethod yX5_corner, Cond.selects RX5 yX5_corner yX5_corner, Cond.code yX5_corner cX5_corner 3 (some .int), Cond.fieldLink RX5 127 "WheelAreas$Layout" "cornerX" "[I", Cond.fieldLink RX5 130 "WheelAreas$Layout" "cornerY" "[I", Cond.methodLink RX5 123 yX5_hasCorner, Cond.instanceMethod yX5_hasCorner, Cond.selects RX5 yX5_hasCorner yX5_hasCorner, Cond.code yX5_hasCorner cX5_hasCorner 2 (some .boolean), Cond.methodLink RX5 133 yX0_sweepOf, Cond.methodLink RL 39 yX6_corner, Cond.instanceMethod yX6_corner, Cond.selects RX6 yX6_corner yX6_corner, Cond.code yX6_corner cX6_corner 3 (some .int)]
def wsL_law_r17 : List Cond := [Cond.constantLong RX6 163 (2), Cond.methodLink RX6 159 yX6_isCorner, Cond.instanceMethod yX6_isCorner, Cond.selects RX6 yX6_isCorner yX6_isCorner, Cond.code yX6_isCorner cX6_isCorner 2 (some .boolean), Cond.methodLink RL 40 yX5_wheel, Cond.instanceMethod yX5_wheel, Cond.selects RX5 yX5_wheel yX5_wheel, Cond.code yX5_wheel cX5_wheel 3 (some .int), Cond.fieldLink RX5 139 "WheelAreas$Layout" "wheelKind" "[I", Cond.fieldLink RX5 142 "WheelAreas$Layout" "wheelStep" "[I", Cond.constant RX5 145 (20000000), Cond.fieldLink RX5 146 "WheelAreas$Layout" "wheelReads" "[I", Cond.methodLink RX5 136 yX5_hasWheel, Cond.instanceMethod yX5_hasWheel, Cond.selects RX5 yX5_hasWheel yX5_hasWheel, Cond.code yX5_hasWheel cX5_hasWheel 2 (some .boolean), Cond.methodLink RX5 149 yX0_shownBy, Cond.instanceMethod yX0_shownBy, Cond.selects RX0 yX0_shownBy yX0_shownBy, Cond.code yX0_shownBy cX0_shownBy 4 (some .int), Cond.methodLink RX5 152 yX0_errorOf, Cond.instanceMethod yX0_errorOf, Cond.selects RX0 yX0_errorOf yX0_errorOf]
def wsL_law_r18 : List Cond := [Cond.code yX0_errorOf cX0_errorOf 5 (some .int), Cond.methodLink RX0 61 Lib.Math.abs.name, Cond.static Lib.Math.abs.name, Cond.initialized "java/lang/Math", Cond.code Lib.Math.abs.name Lib.Math.abs.code 1 (some .int), Cond.methodLink RX0 73 yX0_rollOf, Cond.instanceMethod yX0_rollOf, Cond.selects RX0 yX0_rollOf yX0_rollOf, Cond.code yX0_rollOf cX0_rollOf 3 (some .int), Cond.methodLink RX0 69 yX0_roll, Cond.static yX0_roll, Cond.code yX0_roll cX0_roll 3 (some .int), Cond.methodLink RL 43 yX6_wheel, Cond.instanceMethod yX6_wheel, Cond.selects RX6 yX6_wheel yX6_wheel, Cond.code yX6_wheel cX6_wheel 3 (some .int), Cond.constant RX6 168 (20000000), Cond.methodLink RX6 165 yX6_isWheel, Cond.instanceMethod yX6_isWheel, Cond.selects RX6 yX6_isWheel yX6_isWheel, Cond.code yX6_isWheel cX6_isWheel 2 (some .boolean), Cond.methodLink RX6 169 yX6_showsOn, Cond.instanceMethod yX6_showsOn, Cond.selects RX6 yX6_showsOn yX6_showsOn]
def wsL_law_r19 : List Cond := [Cond.code yX6_showsOn cX6_showsOn 5 (some .int), Cond.methodLink RX6 172 yX6_errorOn, Cond.instanceMethod yX6_errorOn, Cond.selects RX6 yX6_errorOn yX6_errorOn, Cond.code yX6_errorOn cX6_errorOn 5 (some .int), Cond.methodLink RX6 138 yX6_rollsOn, Cond.instanceMethod yX6_rollsOn, Cond.selects RX6 yX6_rollsOn yX6_rollsOn, Cond.code yX6_rollsOn cX6_rollsOn 7 (some .int), Cond.methodLink RX6 135 yX6_amount, Cond.static yX6_amount, Cond.code yX6_amount cX6_amount 1 (some .int), Cond.methodLink RL 44 yX5_alter, Cond.instanceMethod yX5_alter, Cond.selects RX5 yX5_alter yX5_alter, Cond.code yX5_alter cX5_alter 5 (some .int), Cond.methodLink RX5 155 yX5_isKind, Cond.static yX5_isKind, Cond.code yX5_isKind cX5_isKind 1 (some .boolean), Cond.methodLink RX5 158 yX5_isStep, Cond.static yX5_isStep, Cond.code yX5_isStep cX5_isStep 1 (some .boolean), Cond.methodLink RL 48 yX6_alter, Cond.instanceMethod yX6_alter]
def wsL_law_r20 : List Cond := [Cond.selects RX6 yX6_alter yX6_alter, Cond.code yX6_alter cX6_alter 5 (some .int), Cond.constantLong RX6 175 (3), Cond.constantLong RX6 177 (9), Cond.methodLink RX6 179 yX6_puts, Cond.instanceMethod yX6_puts, Cond.selects RX6 yX6_puts yX6_puts, Cond.code yX6_puts cX6_puts 5 (some .int), Cond.methodLink RL 49 yX5_put, Cond.instanceMethod yX5_put, Cond.selects RX5 yX5_put yX5_put, Cond.code yX5_put cX5_put 3 (some .int), Cond.methodLink RX5 161 yX0_appendWheel, Cond.methodLink RL 52 yX6_put, Cond.instanceMethod yX6_put, Cond.selects RX6 yX6_put yX6_put, Cond.code yX6_put cX6_put 4 (some .int), Cond.methodLink RL 53 yX5_cut, Cond.instanceMethod yX5_cut, Cond.selects RX5 yX5_cut yX5_cut, Cond.code yX5_cut cX5_cut 3 (some .int), Cond.methodLink RL 56 yX6_cut, Cond.instanceMethod yX6_cut, Cond.selects RX6 yX6_cut yX6_cut]
def wsL_law_r21 : List Cond := [Cond.code yX6_cut cX6_cut 2 (some .int), Cond.methodLink RL 57 yX5_zero, Cond.instanceMethod yX5_zero, Cond.selects RX5 yX5_zero yX5_zero, Cond.code yX5_zero cX5_zero 3 (some .int), Cond.methodLink RL 60 yX6_zero, Cond.instanceMethod yX6_zero, Cond.selects RX6 yX6_zero yX6_zero, Cond.code yX6_zero cX6_zero 2 (some .int), Cond.methodLink RL 61 yX5_shift, Cond.instanceMethod yX5_shift, Cond.selects RX5 yX5_shift yX5_shift, Cond.code yX5_shift cX5_shift 5 (some .int), Cond.methodLink RX5 165 yX5_isPlace, Cond.static yX5_isPlace, Cond.code yX5_isPlace cX5_isPlace 2 (some .boolean), Cond.methodLink RX5 169 yX5_pair, Cond.static yX5_pair, Cond.code yX5_pair cX5_pair 2 (some .int), Cond.methodLink RX5 173 yX0_moveCorner, Cond.instanceMethod yX0_moveCorner, Cond.selects RX0 yX0_moveCorner yX0_moveCorner, Cond.code yX0_moveCorner cX0_moveCorner 4 none, Cond.methodLink RL 64 yX6_shift]
def wsL_law_r22 : List Cond := [Cond.instanceMethod yX6_shift, Cond.selects RX6 yX6_shift yX6_shift, Cond.code yX6_shift cX6_shift 4 (some .int), Cond.methodLink RX6 183 yX6_isPoint, Cond.static yX6_isPoint, Cond.code yX6_isPoint cX6_isPoint 2 (some .boolean), Cond.constantLong RX6 120 (20), Cond.methodLink RX6 187 yX6_movesTo, Cond.instanceMethod yX6_movesTo, Cond.selects RX6 yX6_movesTo yX6_movesTo, Cond.code yX6_movesTo cX6_movesTo 6 (some .int), Cond.methodLink RL 65 yX5_add, Cond.instanceMethod yX5_add, Cond.selects RX5 yX5_add yX5_add, Cond.code yX5_add cX5_add 4 (some .int), Cond.methodLink RX5 177 yX5_refusalOfCorner, Cond.static yX5_refusalOfCorner, Cond.code yX5_refusalOfCorner cX5_refusalOfCorner 3 (some .int), Cond.methodLink RX5 181 yX0_appendCorner, Cond.methodLink RL 68 yX6_add, Cond.instanceMethod yX6_add, Cond.selects RX6 yX6_add yX6_add, Cond.code yX6_add cX6_add 3 (some .int), Cond.methodLink RX6 191 yX6_adds]
def wsL_law_r23 : List Cond := [Cond.instanceMethod yX6_adds, Cond.selects RX6 yX6_adds yX6_adds, Cond.code yX6_adds cX6_adds 4 (some .int), Cond.methodLink RL 69 yX5_drop, Cond.instanceMethod yX5_drop, Cond.selects RX5 yX5_drop yX5_drop, Cond.code yX5_drop cX5_drop 3 (some .int), Cond.methodLink RL 72 yX6_drop, Cond.instanceMethod yX6_drop, Cond.selects RX6 yX6_drop yX6_drop, Cond.code yX6_drop cX6_drop 2 (some .int), Cond.methodLink RL 73 yX5_pole, Cond.instanceMethod yX5_pole, Cond.selects RX5 yX5_pole yX5_pole, Cond.code yX5_pole cX5_pole 4 (some .int), Cond.methodLink RX5 184 yX0_movePole, Cond.methodLink RL 76 yX6_pole, Cond.instanceMethod yX6_pole, Cond.selects RX6 yX6_pole yX6_pole, Cond.code yX6_pole cX6_pole 3 (some .int), Cond.methodLink RL 77 yX5_trace, Cond.instanceMethod yX5_trace, Cond.selects RX5 yX5_trace yX5_trace, Cond.code yX5_trace cX5_trace 4 (some .int)]
def wsL_law_r24 : List Cond := [Cond.methodLink RX5 187 yX0_sweepAhead, Cond.instanceMethod yX0_sweepAhead, Cond.selects RX0 yX0_sweepAhead yX0_sweepAhead, Cond.code yX0_sweepAhead cX0_sweepAhead 3 (some .int), Cond.methodLink RX0 66 yX0_edgeAhead, Cond.methodLink RX5 190 yX0_rollAll, Cond.instanceMethod yX0_rollAll, Cond.selects RX0 yX0_rollAll yX0_rollAll, Cond.code yX0_rollAll cX0_rollAll 3 (some .int), Cond.methodLink RX0 77 yX0_rolledByAll, Cond.instanceMethod yX0_rolledByAll, Cond.selects RX0 yX0_rolledByAll yX0_rolledByAll, Cond.code yX0_rolledByAll cX0_rolledByAll 4 (some .int), Cond.methodLink RL 80 yX6_trace, Cond.instanceMethod yX6_trace, Cond.selects RX6 yX6_trace yX6_trace, Cond.code yX6_trace cX6_trace 3 (some .int), Cond.constantLong RX6 194 (100), Cond.fieldLink RX6 144 "WheelAreasModel" "rolled" "I", Cond.methodLink RX6 196 yX6_starts, Cond.instanceMethod yX6_starts, Cond.selects RX6 yX6_starts yX6_starts, Cond.code yX6_starts cX6_starts 1 none, Cond.fieldLink RX6 147 "WheelAreasModel" "idle" "I"]
def wsL_law_r25 : List Cond := [Cond.constant RX6 150 (-1000000), Cond.fieldLink RX6 151 "WheelAreasModel" "greatest" "I", Cond.methodLink RX6 199 yX6_tracesOn, Cond.instanceMethod yX6_tracesOn, Cond.selects RX6 yX6_tracesOn yX6_tracesOn, Cond.code yX6_tracesOn cX6_tracesOn 4 none, Cond.methodLink RX6 154 yX6_edgeOn, Cond.instanceMethod yX6_edgeOn, Cond.selects RX6 yX6_edgeOn yX6_edgeOn, Cond.code yX6_edgeOn cX6_edgeOn 7 none, Cond.methodLink RL 81 yX5_runs, Cond.instanceMethod yX5_runs, Cond.selects RX5 yX5_runs yX5_runs, Cond.code yX5_runs cX5_runs 3 (some .int), Cond.methodLink RX5 193 yX5_rolledAhead, Cond.instanceMethod yX5_rolledAhead, Cond.selects RX5 yX5_rolledAhead yX5_rolledAhead, Cond.code yX5_rolledAhead cX5_rolledAhead 4 (some .int), Cond.methodLink RX5 311 yX0_rolledByAll, Cond.methodLink RX5 196 yX5_idleAhead, Cond.instanceMethod yX5_idleAhead, Cond.selects RX5 yX5_idleAhead yX5_idleAhead, Cond.code yX5_idleAhead cX5_idleAhead 4 (some .int), Cond.methodLink RX5 314 yX0_someWheelRests]
def wsL_law_r26 : List Cond := [Cond.instanceMethod yX0_someWheelRests, Cond.selects RX0 yX0_someWheelRests yX0_someWheelRests, Cond.code yX0_someWheelRests cX0_someWheelRests 3 (some .boolean), Cond.methodLink RX5 199 yX5_greatestSweepAhead, Cond.instanceMethod yX5_greatestSweepAhead, Cond.selects RX5 yX5_greatestSweepAhead yX5_greatestSweepAhead, Cond.code yX5_greatestSweepAhead cX5_greatestSweepAhead 4 (some .int), Cond.methodLink RX5 317 Lib.Math.max.name, Cond.static Lib.Math.max.name, Cond.code Lib.Math.max.name Lib.Math.max.code 2 (some .int), Cond.methodLink RL 84 yX6_runs, Cond.instanceMethod yX6_runs, Cond.selects RX6 yX6_runs yX6_runs, Cond.code yX6_runs cX6_runs 3 (some .int), Cond.methodLink RX6 206 yX6_isLong, Cond.static yX6_isLong, Cond.code yX6_isLong cX6_isLong 1 (some .boolean), Cond.constantLong RX6 122 (200), Cond.methodLink RX6 209 yX6_edgesGo, Cond.instanceMethod yX6_edgesGo, Cond.selects RX6 yX6_edgesGo yX6_edgesGo, Cond.code yX6_edgesGo cX6_edgesGo 3 none, Cond.methodLink RX6 203 yX6_copies, Cond.instanceMethod yX6_copies]
def wsL_law_r27 : List Cond := [Cond.selects RX6 yX6_copies yX6_copies, Cond.code yX6_copies cX6_copies 4 none, Cond.methodLink RL 85 yX5_ahead, Cond.instanceMethod yX5_ahead, Cond.selects RX5 yX5_ahead yX5_ahead, Cond.code yX5_ahead cX5_ahead 3 (some .int), Cond.methodLink RX5 202 yX0_readsAhead, Cond.instanceMethod yX0_readsAhead, Cond.selects RX0 yX0_readsAhead yX0_readsAhead, Cond.code yX0_readsAhead cX0_readsAhead 5 (some .int), Cond.methodLink RX0 80 yX0_sweepAhead, Cond.methodLink RL 88 yX6_ahead, Cond.instanceMethod yX6_ahead, Cond.selects RX6 yX6_ahead yX6_ahead, Cond.code yX6_ahead cX6_ahead 3 (some .int), Cond.methodLink RL 89 yX5_when, Cond.instanceMethod yX5_when, Cond.selects RX5 yX5_when yX5_when, Cond.code yX5_when cX5_when 6 (some .int), Cond.methodLink RX5 205 yX5_isTold, Cond.static yX5_isTold, Cond.code yX5_isTold cX5_isTold 1 (some .boolean), Cond.constant RX5 309 (10000000), Cond.constant RX5 310 (30000000)]
def wsL_law_r28 : List Cond := [Cond.methodLink RX5 208 yX0_rollOf, Cond.methodLink RL 92 yX6_when, Cond.instanceMethod yX6_when, Cond.selects RX6 yX6_when yX6_when, Cond.code yX6_when cX6_when 4 (some .int), Cond.methodLink RX6 212 yX6_isReading, Cond.static yX6_isReading, Cond.code yX6_isReading cX6_isReading 1 (some .boolean), Cond.constantLong RX6 124 (10000000), Cond.constantLong RX6 126 (30000000), Cond.methodLink RL 93 yX5_best, Cond.instanceMethod yX5_best, Cond.selects RX5 yX5_best yX5_best, Cond.code yX5_best cX5_best 8 (some .int), Cond.constant RX5 214 (1000000), Cond.methodLink RX5 211 yX5_isEither, Cond.static yX5_isEither, Cond.code yX5_isEither cX5_isEither 1 (some .boolean), Cond.methodLink RL 96 yX6_best, Cond.instanceMethod yX6_best, Cond.selects RX6 yX6_best yX6_best, Cond.code yX6_best cX6_best 8 (some .int), Cond.constant RX6 215 (1000000), Cond.methodLink RL 97 yX5_step]
def wsL_law_r29 : List Cond := [Cond.instanceMethod yX5_step, Cond.selects RX5 yX5_step yX5_step, Cond.code yX5_step cX5_step 7 (some .int), Cond.methodLink RL 100 yX6_step, Cond.instanceMethod yX6_step, Cond.selects RX6 yX6_step yX6_step, Cond.code yX6_step cX6_step 7 (some .int), Cond.methodLink RL 101 yX5_kind, Cond.instanceMethod yX5_kind, Cond.selects RX5 yX5_kind yX5_kind, Cond.code yX5_kind cX5_kind 7 (some .int), Cond.methodLink RL 104 yX6_kind, Cond.instanceMethod yX6_kind, Cond.selects RX6 yX6_kind yX6_kind, Cond.code yX6_kind cX6_kind 7 (some .int), Cond.methodLink RL 105 yX5_place, Cond.instanceMethod yX5_place, Cond.selects RX5 yX5_place yX5_place, Cond.code yX5_place cX5_place 8 (some .int), Cond.methodLink RX5 215 yX0_areaUnsigned, Cond.instanceMethod yX0_areaUnsigned, Cond.selects RX0 yX0_areaUnsigned yX0_areaUnsigned, Cond.code yX0_areaUnsigned cX0_areaUnsigned 1 (some .int), Cond.methodLink RX0 57 yX0_area]
def wsL_law_r30 : List Cond := [Cond.methodLink RL 108 yX6_place, Cond.instanceMethod yX6_place, Cond.selects RX6 yX6_place yX6_place, Cond.code yX6_place cX6_place 8 (some .int), Cond.methodLink RL 109 yX5_swap, Cond.instanceMethod yX5_swap, Cond.selects RX5 yX5_swap yX5_swap, Cond.code yX5_swap cX5_swap 7 (some .int), Cond.methodLink RX5 218 yX0_exchangeCorners, Cond.instanceMethod yX0_exchangeCorners, Cond.selects RX0 yX0_exchangeCorners yX0_exchangeCorners, Cond.code yX0_exchangeCorners cX0_exchangeCorners 5 none, Cond.methodLink RX0 49 yX0_moveCorner, Cond.methodLink RL 112 yX6_swap, Cond.instanceMethod yX6_swap, Cond.selects RX6 yX6_swap yX6_swap, Cond.code yX6_swap cX6_swap 7 (some .int), Cond.methodLink RL 113 yX5_out, Cond.instanceMethod yX5_out, Cond.selects RX5 yX5_out yX5_out, Cond.code yX5_out cX5_out 6 (some .int), Cond.methodLink RX5 221 yX0_removeCorner, Cond.instanceMethod yX0_removeCorner, Cond.selects RX0 yX0_removeCorner yX0_removeCorner]
def wsL_law_r31 : List Cond := [Cond.code yX0_removeCorner cX0_removeCorner 3 none, Cond.methodLink RL 116 yX6_out, Cond.instanceMethod yX6_out, Cond.selects RX6 yX6_out yX6_out, Cond.code yX6_out cX6_out 6 (some .int), Cond.methodLink RL 117 yX5_luck, Cond.instanceMethod yX5_luck, Cond.selects RX5 yX5_luck yX5_luck, Cond.code yX5_luck cX5_luck 10 (some .long), Cond.constantLong RX5 227 (-1), Cond.methodLink RX5 224 yX5_isMissing, Cond.instanceMethod yX5_isMissing, Cond.selects RX5 yX5_isMissing yX5_isMissing, Cond.code yX5_isMissing cX5_isMissing 4 (some .boolean), Cond.methodLink RX5 229 yX5_setEdgeRolls, Cond.instanceMethod yX5_setEdgeRolls, Cond.selects RX5 yX5_setEdgeRolls yX5_setEdgeRolls, Cond.code yX5_setEdgeRolls cX5_setEdgeRolls 4 none, Cond.methodLink RX5 232 yX5_readsByTraced, Cond.instanceMethod yX5_readsByTraced, Cond.selects RX5 yX5_readsByTraced yX5_readsByTraced, Cond.code yX5_readsByTraced cX5_readsByTraced 6 (some .int), Cond.methodLink RX5 236 yX5_chancesOf, Cond.static yX5_chancesOf]
def wsL_law_r32 : List Cond := [Cond.code yX5_chancesOf cX5_chancesOf 6 (some .long), Cond.methodLink RX5 240 yX5_tenTimes, Cond.static yX5_tenTimes, Cond.code yX5_tenTimes cX5_tenTimes 4 (some .long), Cond.constantLong RX5 320 (10), Cond.methodLink RX5 244 yX5_partOfFraction, Cond.static yX5_partOfFraction, Cond.code yX5_partOfFraction cX5_partOfFraction 7 (some .long), Cond.methodLink RX5 322 yX5_commonDivisor, Cond.static yX5_commonDivisor, Cond.code yX5_commonDivisor cX5_commonDivisor 11 (some .long), Cond.methodLink RL 121 yX6_luck, Cond.instanceMethod yX6_luck, Cond.selects RX6 yX6_luck yX6_luck, Cond.code yX6_luck cX6_luck 6 (some .long), Cond.constantLong RX6 216 (10), Cond.constantLong RX6 222 (8), Cond.constantLong RX6 228 (-1), Cond.methodLink RX6 224 yX6_byMisses, Cond.instanceMethod yX6_byMisses, Cond.selects RX6 yX6_byMisses yX6_byMisses, Cond.code yX6_byMisses cX6_byMisses 15 (some .long), Cond.methodLink RX6 218 yX6_lowest, Cond.static yX6_lowest]
def wsL_law_r33 : List Cond := [Cond.code yX6_lowest cX6_lowest 11 (some .long), Cond.methodLink RL 122 yX5_mean, Cond.instanceMethod yX5_mean, Cond.selects RX5 yX5_mean yX5_mean, Cond.code yX5_mean cX5_mean 8 (some .long), Cond.methodLink RX5 248 Lib.Math.abs.name, Cond.methodLink RL 126 yX6_mean, Cond.instanceMethod yX6_mean, Cond.selects RX6 yX6_mean yX6_mean, Cond.code yX6_mean cX6_mean 5 (some .long), Cond.methodLink RL 127 yX5_see, Cond.instanceMethod yX5_see, Cond.selects RX5 yX5_see yX5_see, Cond.code yX5_see cX5_see 4 (some .int), Cond.methodLink RX5 253 yX2_append, Cond.instanceMethod yX2_append, Cond.selects RX2 yX2_append yX2_append, Cond.code yX2_append cX2_append 4 none, Cond.methodLink RL 130 yX6_see, Cond.instanceMethod yX6_see, Cond.selects RX6 yX6_see yX6_see, Cond.code yX6_see cX6_see 4 (some .int), Cond.constantLong RX6 230 (40), Cond.methodLink RL 131 yX5_forget]
def wsL_law_r34 : List Cond := [Cond.instanceMethod yX5_forget, Cond.selects RX5 yX5_forget yX5_forget, Cond.code yX5_forget cX5_forget 3 (some .int), Cond.methodLink RL 134 yX6_forget, Cond.instanceMethod yX6_forget, Cond.selects RX6 yX6_forget yX6_forget, Cond.code yX6_forget cX6_forget 3 (some .int), Cond.methodLink RL 135 yX5_kinds, Cond.instanceMethod yX5_kinds, Cond.selects RX5 yX5_kinds yX5_kinds, Cond.code yX5_kinds cX5_kinds 4 (some .int), Cond.methodLink RX5 255 yX2_agreeWith, Cond.instanceMethod yX2_agreeWith, Cond.selects RX2 yX2_agreeWith yX2_agreeWith, Cond.code yX2_agreeWith cX2_agreeWith 3 (some .boolean), Cond.fieldLink RX2 25 "WheelAreas$Layout" "wheels" "I", Cond.methodLink RX2 30 yX0_readsAhead, Cond.methodLink RL 138 yX6_kinds, Cond.instanceMethod yX6_kinds, Cond.selects RX6 yX6_kinds yX6_kinds, Cond.code yX6_kinds cX6_kinds 2 (some .int), Cond.methodLink RX6 235 yX6_numbersAt, Cond.instanceMethod yX6_numbersAt, Cond.selects RX6 yX6_numbersAt yX6_numbersAt]
def wsL_law_r35 : List Cond := [Cond.code yX6_numbersAt cX6_numbersAt 8 (some .int), Cond.methodLink RX6 232 yX6_isAsSeen, Cond.instanceMethod yX6_isAsSeen, Cond.selects RX6 yX6_isAsSeen yX6_isAsSeen, Cond.code yX6_isAsSeen cX6_isAsSeen 8 (some .boolean), Cond.methodLink RL 139 yX5_steps, Cond.instanceMethod yX5_steps, Cond.selects RX5 yX5_steps yX5_steps, Cond.code yX5_steps cX5_steps 2 (some .int), Cond.methodLink RX5 259 yX5_stepsAsSeen, Cond.instanceMethod yX5_stepsAsSeen, Cond.selects RX5 yX5_stepsAsSeen yX5_stepsAsSeen, Cond.code yX5_stepsAsSeen cX5_stepsAsSeen 4 (some .int), Cond.methodLink RL 142 yX6_steps, Cond.instanceMethod yX6_steps, Cond.selects RX6 yX6_steps yX6_steps, Cond.code yX6_steps cX6_steps 2 (some .int), Cond.methodLink RL 143 yX5_ask, Cond.instanceMethod yX5_ask, Cond.selects RX5 yX5_ask yX5_ask, Cond.code yX5_ask cX5_ask 8 (some .int), Cond.methodLink RX5 262 yJ6_bitCount_0f7a4, Cond.static yJ6_bitCount_0f7a4, Cond.initialized RJ6]
def wsL_law_r36 : List Cond := [Cond.code yJ6_bitCount_0f7a4 cJ6_bitCount_0f7a4 1 (some .int), Cond.constant RJ6 265 (1431655765), Cond.constant RJ6 266 (858993459), Cond.constant RJ6 267 (252645135), Cond.methodLink RX5 267 yX5_mostAlike, Cond.instanceMethod yX5_mostAlike, Cond.selects RX5 yX5_mostAlike yX5_mostAlike, Cond.code yX5_mostAlike cX5_mostAlike 4 (some .int), Cond.methodLink RX5 326 yX5_countAlike, Cond.instanceMethod yX5_countAlike, Cond.selects RX5 yX5_countAlike yX5_countAlike, Cond.code yX5_countAlike cX5_countAlike 5 (some .int), Cond.methodLink RX5 270 yX5_rollEachStep, Cond.instanceMethod yX5_rollEachStep, Cond.selects RX5 yX5_rollEachStep yX5_rollEachStep, Cond.code yX5_rollEachStep cX5_rollEachStep 4 none, Cond.methodLink RX5 329 yX0_roll, Cond.methodLink RL 146 yX6_ask, Cond.instanceMethod yX6_ask, Cond.selects RX6 yX6_ask yX6_ask, Cond.code yX6_ask cX6_ask 8 (some .int), Cond.methodLink RX6 238 yX6_worstAt, Cond.instanceMethod yX6_worstAt, Cond.selects RX6 yX6_worstAt yX6_worstAt]
def wsL_law_r37 : List Cond := [Cond.code yX6_worstAt cX6_worstAt 7 (some .int), Cond.methodLink RL 147 yX5_drift, Cond.instanceMethod yX5_drift, Cond.selects RX5 yX5_drift yX5_drift, Cond.code yX5_drift cX5_drift 9 (some .int), Cond.constant RX5 273 (1103515245), Cond.methodLink RL 150 yX6_drift, Cond.instanceMethod yX6_drift, Cond.selects RX6 yX6_drift yX6_drift, Cond.code yX6_drift cX6_drift 6 (some .int), Cond.constant RX6 241 (1103515245), Cond.methodLink RL 151 yX5_keep, Cond.instanceMethod yX5_keep, Cond.selects RX5 yX5_keep yX5_keep, Cond.code yX5_keep cX5_keep 3 (some .int), Cond.methodLink RL 154 yX6_keep, Cond.instanceMethod yX6_keep, Cond.selects RX6 yX6_keep yX6_keep, Cond.code yX6_keep cX6_keep 3 (some .int), Cond.methodLink RL 155 yX5_back, Cond.instanceMethod yX5_back, Cond.selects RX5 yX5_back yX5_back, Cond.code yX5_back cX5_back 2 (some .int), Cond.methodLink RL 158 yX6_back]
def wsL_law_r38 : List Cond := [Cond.instanceMethod yX6_back, Cond.selects RX6 yX6_back yX6_back, Cond.code yX6_back cX6_back 2 (some .int), Cond.methodLink RL 159 yX5_sheet, Cond.instanceMethod yX5_sheet, Cond.selects RX5 yX5_sheet yX5_sheet, Cond.code yX5_sheet cX5_sheet 4 (some .int), Cond.methodLink RX5 274 yX5_isSheet, Cond.static yX5_isSheet, Cond.code yX5_isSheet cX5_isSheet 1 (some .boolean), Cond.methodLink RX5 277 yX5_isLane, Cond.static yX5_isLane, Cond.code yX5_isLane cX5_isLane 1 (some .boolean), Cond.methodLink RX5 280 yX1_renew, Cond.instanceMethod yX1_renew, Cond.selects RX1 yX1_renew yX1_renew, Cond.code yX1_renew cX1_renew 4 none, Cond.methodLink RL 162 yX6_sheet, Cond.instanceMethod yX6_sheet, Cond.selects RX6 yX6_sheet yX6_sheet, Cond.code yX6_sheet cX6_sheet 5 (some .int), Cond.methodLink RL 163 yX5_lay, Cond.instanceMethod yX5_lay, Cond.selects RX5 yX5_lay yX5_lay]
def wsL_law_r39 : List Cond := [Cond.code yX5_lay cX5_lay 6 (some .int), Cond.fieldLink RX5 283 "WheelAreas$Sheet" "lane" "I", Cond.methodLink RX5 286 yX1_faultAt, Cond.instanceMethod yX1_faultAt, Cond.selects RX1 yX1_faultAt yX1_faultAt, Cond.code yX1_faultAt cX1_faultAt 3 (some .int), Cond.methodLink RX1 22 yX1_isNothing, Cond.instanceMethod yX1_isNothing, Cond.selects RX1 yX1_isNothing yX1_isNothing, Cond.code yX1_isNothing cX1_isNothing 1 (some .boolean), Cond.methodLink RX5 289 yX1_layCell, Cond.instanceMethod yX1_layCell, Cond.selects RX1 yX1_layCell yX1_layCell, Cond.code yX1_layCell cX1_layCell 3 none, Cond.methodLink RL 166 yX6_lay, Cond.instanceMethod yX6_lay, Cond.selects RX6 yX6_lay yX6_lay, Cond.code yX6_lay cX6_lay 4 (some .int), Cond.methodLink RL 167 yX5_read, Cond.instanceMethod yX5_read, Cond.selects RX5 yX5_read yX5_read, Cond.code yX5_read cX5_read 11 (some .int), Cond.fieldLink RX5 295 "WheelAreas$Sheet" "cells" "[I", Cond.methodLink RX5 292 yX1_faultAtPair]
def wsL_law_r40 : List Cond := [Cond.instanceMethod yX1_faultAtPair, Cond.selects RX1 yX1_faultAtPair yX1_faultAtPair, Cond.code yX1_faultAtPair cX1_faultAtPair 4 (some .int), Cond.methodLink RX1 30 yX1_faultAt, Cond.methodLink RL 171 yX6_read, Cond.instanceMethod yX6_read, Cond.selects RX6 yX6_read yX6_read, Cond.code yX6_read cX6_read 9 (some .int), Cond.fieldLink RX6 242 "WheelAreasModel" "torn" "I", Cond.methodLink RL 172 yX5_torn, Cond.instanceMethod yX5_torn, Cond.selects RX5 yX5_torn yX5_torn, Cond.code yX5_torn cX5_torn 1 (some .int), Cond.methodLink RL 175 yX6_torn, Cond.instanceMethod yX6_torn, Cond.selects RX6 yX6_torn yX6_torn, Cond.code yX6_torn cX6_torn 1 (some .int), Cond.methodLink RL 176 yX5_count, Cond.instanceMethod yX5_count, Cond.selects RX5 yX5_count yX5_count, Cond.code yX5_count cX5_count 2 (some .int), Cond.fieldLink RX5 302 "WheelAreas$Sheet" "size" "I", Cond.methodLink RX5 298 yX1_isNothing, Cond.methodLink RX5 303 yX0_sumOfSteps]
def wsL_law_r41 : List Cond := [Cond.instanceMethod yX0_sumOfSteps, Cond.selects RX0 yX0_sumOfSteps yX0_sumOfSteps, Cond.code yX0_sumOfSteps cX0_sumOfSteps 3 (some .int), Cond.methodLink RX5 306 yX0_sumOfPlaces, Cond.instanceMethod yX0_sumOfPlaces, Cond.selects RX0 yX0_sumOfPlaces yX0_sumOfPlaces, Cond.code yX0_sumOfPlaces cX0_sumOfPlaces 3 (some .int), Cond.methodLink RL 179 yX6_count, Cond.instanceMethod yX6_count, Cond.selects RX6 yX6_count yX6_count, Cond.code yX6_count cX6_count 5 (some .int)]
def wsL_law : List Cond := (wsL_law_r1 ++ (wsL_law_r2 ++ (wsL_law_r3 ++ (wsL_law_r4 ++ (wsL_law_r5 ++ (wsL_law_r6 ++ (wsL_law_r7 ++ (wsL_law_r8 ++ (wsL_law_r9 ++ (wsL_law_r10 ++ (wsL_law_r11 ++ (wsL_law_r12 ++ (wsL_law_r13 ++ (wsL_law_r14 ++ (wsL_law_r15 ++ (wsL_law_r16 ++ (wsL_law_r17 ++ (wsL_law_r18 ++ (wsL_law_r19 ++ (wsL_law_r20 ++ (wsL_law_r21 ++ (wsL_law_r22 ++ (wsL_law_r23 ++ (wsL_law_r24 ++ (wsL_law_r25 ++ (wsL_law_r26 ++ (wsL_law_r27 ++ (wsL_law_r28 ++ (wsL_law_r29 ++ (wsL_law_r30 ++ (wsL_law_r31 ++ (wsL_law_r32 ++ (wsL_law_r33 ++ (wsL_law_r34 ++ (wsL_law_r35 ++ (wsL_law_r36 ++ (wsL_law_r37 ++ (wsL_law_r38 ++ (wsL_law_r39 ++ (wsL_law_r40 ++ wsL_law_r41)))))))))))))))))))))))))))))))))))))))) ++ wsX50 ++ wsX60 ++ wsX00 ++ wsX40 ++ wsX20 ++ wsX10 ++ wsX30 ++ ([] : List Cond)
theorem inlX0 : ∀ w ∈ wsX00, w ∈ wsL_law := fun _ h => List.mem_append_left _ (List.mem_append_left _ (List.mem_append_left _ (List.mem_append_left _ (List.mem_append_left _ (List.mem_append_right _ h)))))
theorem inlX1 : ∀ w ∈ wsX10, w ∈ wsL_law := fun _ h => List.mem_append_left _ (List.mem_append_left _ (List.mem_append_right _ h))
theorem inlX2 : ∀ w ∈ wsX20, w ∈ wsL_law := fun _ h => List.mem_append_left _ (List.mem_append_left _ (List.mem_append_left _ (List.mem_append_right _ h)))
theorem inlX3 : ∀ w ∈ wsX30, w ∈ wsL_law := fun _ h => List.mem_append_left _ (List.mem_append_right _ h)
theorem inlX4 : ∀ w ∈ wsX40, w ∈ wsL_law := fun _ h => List.mem_append_left _ (List.mem_append_left _ (List.mem_append_left _ (List.mem_append_left _ (List.mem_append_right _ h))))
theorem inlX5 : ∀ w ∈ wsX50, w ∈ wsL_law := fun _ h => List.mem_append_left _ (List.mem_append_left _ (List.mem_append_left _ (List.mem_append_left _ (List.mem_append_left _ (List.mem_append_left _ (List.mem_append_left _ (List.mem_append_right _ h)))))))
theorem inlX6 : ∀ w ∈ wsX60, w ∈ wsL_law := fun _ h => List.mem_append_left _ (List.mem_append_left _ (List.mem_append_left _ (List.mem_append_left _ (List.mem_append_left _ (List.mem_append_left _ (List.mem_append_right _ h))))))
abbrev vwCl : List vw_C := [(RX0, TX0, 10), (RX1, TX1, 3), (RX2, TX2, 4), (RX3, TX3, 5), (RX4, TX4, 6), (RX5, TX5, 11), (RX6, TX6, 26)]
end
section
theorem dX0_init_0 : decode cX0_init 0 = .ok (.aload_n 0, 1) := by decide +kernel
theorem dX0_init_1 : decode cX0_init 1 = .ok (.invokespecial 3, 3) := by decide +kernel
theorem dX0_init_4 : decode cX0_init 4 = .ok (.aload_n 0, 1) := by decide +kernel
theorem dX0_init_5 : decode cX0_init 5 = .ok (.bipush 10, 2) := by decide +kernel
theorem dX0_init_7 : decode cX0_init 7 = .ok (.newarray .int, 2) := by decide +kernel
theorem dX0_init_9 : decode cX0_init 9 = .ok (.putfield 9, 3) := by decide +kernel
theorem dX0_init_12 : decode cX0_init 12 = .ok (.aload_n 0, 1) := by decide +kernel
theorem dX0_init_13 : decode cX0_init 13 = .ok (.bipush 10, 2) := by decide +kernel
theorem dX0_init_15 : decode cX0_init 15 = .ok (.newarray .int, 2) := by decide +kernel
theorem dX0_init_17 : decode cX0_init 17 = .ok (.putfield 15, 3) := by decide +kernel
theorem dX0_init_20 : decode cX0_init 20 = .ok (.aload_n 0, 1) := by decide +kernel
theorem dX0_init_21 : decode cX0_init 21 = .ok (.iconst 0, 1) := by decide +kernel
theorem dX0_init_22 : decode cX0_init 22 = .ok (.putfield 18, 3) := by decide +kernel
theorem dX0_init_25 : decode cX0_init 25 = .ok (.aload_n 0, 1) := by decide +kernel
theorem dX0_init_26 : decode cX0_init 26 = .ok (.iconst 4, 1) := by decide +kernel
theorem dX0_init_27 : decode cX0_init 27 = .ok (.newarray .int, 2) := by decide +kernel
theorem dX0_init_29 : decode cX0_init 29 = .ok (.putfield 22, 3) := by decide +kernel
theorem dX0_init_32 : decode cX0_init 32 = .ok (.aload_n 0, 1) := by decide +kernel
theorem dX0_init_33 : decode cX0_init 33 = .ok (.iconst 4, 1) := by decide +kernel
theorem dX0_init_34 : decode cX0_init 34 = .ok (.newarray .int, 2) := by decide +kernel
theorem dX0_init_36 : decode cX0_init 36 = .ok (.putfield 25, 3) := by decide +kernel
theorem dX0_init_39 : decode cX0_init 39 = .ok (.aload_n 0, 1) := by decide +kernel
theorem dX0_init_40 : decode cX0_init 40 = .ok (.iconst 4, 1) := by decide +kernel
theorem dX0_init_41 : decode cX0_init 41 = .ok (.newarray .int, 2) := by decide +kernel
theorem dX0_init_43 : decode cX0_init 43 = .ok (.putfield 28, 3) := by decide +kernel
theorem dX0_init_46 : decode cX0_init 46 = .ok (.aload_n 0, 1) := by decide +kernel
theorem dX0_init_47 : decode cX0_init 47 = .ok (.iconst 0, 1) := by decide +kernel
theorem dX0_init_48 : decode cX0_init 48 = .ok (.putfield 31, 3) := by decide +kernel
theorem dX0_init_51 : decode cX0_init 51 = .ok (.aload_n 0, 1) := by decide +kernel
theorem dX0_init_52 : decode cX0_init 52 = .ok (.iconst 0, 1) := by decide +kernel
theorem dX0_init_53 : decode cX0_init 53 = .ok (.putfield 34, 3) := by decide +kernel
theorem dX0_init_56 : decode cX0_init 56 = .ok (.aload_n 0, 1) := by decide +kernel
theorem dX0_init_57 : decode cX0_init 57 = .ok (.iconst 0, 1) := by decide +kernel
theorem dX0_init_58 : decode cX0_init 58 = .ok (.putfield 37, 3) := by decide +kernel
theorem dX0_init_61 : decode cX0_init 61 = .ok (.aload_n 0, 1) := by decide +kernel
theorem dX0_init_62 : decode cX0_init 62 = .ok (.iconst 0, 1) := by decide +kernel
theorem dX0_init_63 : decode cX0_init 63 = .ok (.putfield 40, 3) := by decide +kernel
theorem dX0_init_66 : decode cX0_init 66 = .ok (.return_, 1) := by decide +kernel
theorem dX0_clear_0 : decode cX0_clear 0 = .ok (.aload_n 0, 1) := by decide +kernel
theorem dX0_clear_1 : decode cX0_clear 1 = .ok (.iconst 0, 1) := by decide +kernel
theorem dX0_clear_2 : decode cX0_clear 2 = .ok (.putfield 18, 3) := by decide +kernel
theorem dX0_clear_5 : decode cX0_clear 5 = .ok (.aload_n 0, 1) := by decide +kernel
theorem dX0_clear_6 : decode cX0_clear 6 = .ok (.iconst 0, 1) := by decide +kernel
theorem dX0_clear_7 : decode cX0_clear 7 = .ok (.putfield 31, 3) := by decide +kernel
theorem dX0_clear_10 : decode cX0_clear 10 = .ok (.aload_n 0, 1) := by decide +kernel
theorem dX0_clear_11 : decode cX0_clear 11 = .ok (.iconst 0, 1) := by decide +kernel
theorem dX0_clear_12 : decode cX0_clear 12 = .ok (.putfield 34, 3) := by decide +kernel
theorem dX0_clear_15 : decode cX0_clear 15 = .ok (.aload_n 0, 1) := by decide +kernel
theorem dX0_clear_16 : decode cX0_clear 16 = .ok (.iconst 0, 1) := by decide +kernel
theorem dX0_clear_17 : decode cX0_clear 17 = .ok (.putfield 37, 3) := by decide +kernel
theorem dX0_clear_20 : decode cX0_clear 20 = .ok (.aload_n 0, 1) := by decide +kernel
theorem dX0_clear_21 : decode cX0_clear 21 = .ok (.iconst 0, 1) := by decide +kernel
theorem dX0_clear_22 : decode cX0_clear 22 = .ok (.putfield 40, 3) := by decide +kernel
theorem dX0_clear_25 : decode cX0_clear 25 = .ok (.return_, 1) := by decide +kernel
theorem dX0_copyFrom_0 : decode cX0_copyFrom 0 = .ok (.aload_n 1, 1) := by decide +kernel
theorem dX0_copyFrom_1 : decode cX0_copyFrom 1 = .ok (.getfield 9, 3) := by decide +kernel
theorem dX0_copyFrom_4 : decode cX0_copyFrom 4 = .ok (.iconst 0, 1) := by decide +kernel
theorem dX0_copyFrom_5 : decode cX0_copyFrom 5 = .ok (.aload_n 0, 1) := by decide +kernel
theorem dX0_copyFrom_6 : decode cX0_copyFrom 6 = .ok (.getfield 9, 3) := by decide +kernel
theorem dX0_copyFrom_9 : decode cX0_copyFrom 9 = .ok (.iconst 0, 1) := by decide +kernel
theorem dX0_copyFrom_10 : decode cX0_copyFrom 10 = .ok (.bipush 10, 2) := by decide +kernel
theorem dX0_copyFrom_12 : decode cX0_copyFrom 12 = .ok (.invokestatic 43, 3) := by decide +kernel
theorem dX0_copyFrom_15 : decode cX0_copyFrom 15 = .ok (.aload_n 1, 1) := by decide +kernel
theorem dX0_copyFrom_16 : decode cX0_copyFrom 16 = .ok (.getfield 15, 3) := by decide +kernel
theorem dX0_copyFrom_19 : decode cX0_copyFrom 19 = .ok (.iconst 0, 1) := by decide +kernel
theorem dX0_copyFrom_20 : decode cX0_copyFrom 20 = .ok (.aload_n 0, 1) := by decide +kernel
theorem dX0_copyFrom_21 : decode cX0_copyFrom 21 = .ok (.getfield 15, 3) := by decide +kernel
theorem dX0_copyFrom_24 : decode cX0_copyFrom 24 = .ok (.iconst 0, 1) := by decide +kernel
theorem dX0_copyFrom_25 : decode cX0_copyFrom 25 = .ok (.bipush 10, 2) := by decide +kernel
theorem dX0_copyFrom_27 : decode cX0_copyFrom 27 = .ok (.invokestatic 43, 3) := by decide +kernel
theorem dX0_copyFrom_30 : decode cX0_copyFrom 30 = .ok (.aload_n 0, 1) := by decide +kernel
theorem dX0_copyFrom_31 : decode cX0_copyFrom 31 = .ok (.aload_n 1, 1) := by decide +kernel
theorem dX0_copyFrom_32 : decode cX0_copyFrom 32 = .ok (.getfield 18, 3) := by decide +kernel
theorem dX0_copyFrom_35 : decode cX0_copyFrom 35 = .ok (.putfield 18, 3) := by decide +kernel
theorem dX0_copyFrom_38 : decode cX0_copyFrom 38 = .ok (.aload_n 1, 1) := by decide +kernel
theorem dX0_copyFrom_39 : decode cX0_copyFrom 39 = .ok (.getfield 22, 3) := by decide +kernel
theorem dX0_copyFrom_42 : decode cX0_copyFrom 42 = .ok (.iconst 0, 1) := by decide +kernel
theorem dX0_copyFrom_43 : decode cX0_copyFrom 43 = .ok (.aload_n 0, 1) := by decide +kernel
theorem dX0_copyFrom_44 : decode cX0_copyFrom 44 = .ok (.getfield 22, 3) := by decide +kernel
theorem dX0_copyFrom_47 : decode cX0_copyFrom 47 = .ok (.iconst 0, 1) := by decide +kernel
theorem dX0_copyFrom_48 : decode cX0_copyFrom 48 = .ok (.iconst 4, 1) := by decide +kernel
theorem dX0_copyFrom_49 : decode cX0_copyFrom 49 = .ok (.invokestatic 43, 3) := by decide +kernel
theorem dX0_copyFrom_52 : decode cX0_copyFrom 52 = .ok (.aload_n 1, 1) := by decide +kernel
theorem dX0_copyFrom_53 : decode cX0_copyFrom 53 = .ok (.getfield 25, 3) := by decide +kernel
theorem dX0_copyFrom_56 : decode cX0_copyFrom 56 = .ok (.iconst 0, 1) := by decide +kernel
theorem dX0_copyFrom_57 : decode cX0_copyFrom 57 = .ok (.aload_n 0, 1) := by decide +kernel
theorem dX0_copyFrom_58 : decode cX0_copyFrom 58 = .ok (.getfield 25, 3) := by decide +kernel
theorem dX0_copyFrom_61 : decode cX0_copyFrom 61 = .ok (.iconst 0, 1) := by decide +kernel
theorem dX0_copyFrom_62 : decode cX0_copyFrom 62 = .ok (.iconst 4, 1) := by decide +kernel
theorem dX0_copyFrom_63 : decode cX0_copyFrom 63 = .ok (.invokestatic 43, 3) := by decide +kernel
theorem dX0_copyFrom_66 : decode cX0_copyFrom 66 = .ok (.aload_n 1, 1) := by decide +kernel
theorem dX0_copyFrom_67 : decode cX0_copyFrom 67 = .ok (.getfield 28, 3) := by decide +kernel
theorem dX0_copyFrom_70 : decode cX0_copyFrom 70 = .ok (.iconst 0, 1) := by decide +kernel
theorem dX0_copyFrom_71 : decode cX0_copyFrom 71 = .ok (.aload_n 0, 1) := by decide +kernel
theorem dX0_copyFrom_72 : decode cX0_copyFrom 72 = .ok (.getfield 28, 3) := by decide +kernel
theorem dX0_copyFrom_75 : decode cX0_copyFrom 75 = .ok (.iconst 0, 1) := by decide +kernel
theorem dX0_copyFrom_76 : decode cX0_copyFrom 76 = .ok (.iconst 4, 1) := by decide +kernel
theorem dX0_copyFrom_77 : decode cX0_copyFrom 77 = .ok (.invokestatic 43, 3) := by decide +kernel
theorem dX0_copyFrom_80 : decode cX0_copyFrom 80 = .ok (.aload_n 0, 1) := by decide +kernel
theorem dX0_copyFrom_81 : decode cX0_copyFrom 81 = .ok (.aload_n 1, 1) := by decide +kernel
theorem dX0_copyFrom_82 : decode cX0_copyFrom 82 = .ok (.getfield 31, 3) := by decide +kernel
theorem dX0_copyFrom_85 : decode cX0_copyFrom 85 = .ok (.putfield 31, 3) := by decide +kernel
theorem dX0_copyFrom_88 : decode cX0_copyFrom 88 = .ok (.aload_n 0, 1) := by decide +kernel
theorem dX0_copyFrom_89 : decode cX0_copyFrom 89 = .ok (.aload_n 1, 1) := by decide +kernel
theorem dX0_copyFrom_90 : decode cX0_copyFrom 90 = .ok (.getfield 34, 3) := by decide +kernel
theorem dX0_copyFrom_93 : decode cX0_copyFrom 93 = .ok (.putfield 34, 3) := by decide +kernel
theorem dX0_copyFrom_96 : decode cX0_copyFrom 96 = .ok (.aload_n 0, 1) := by decide +kernel
theorem dX0_copyFrom_97 : decode cX0_copyFrom 97 = .ok (.aload_n 1, 1) := by decide +kernel
theorem dX0_copyFrom_98 : decode cX0_copyFrom 98 = .ok (.getfield 37, 3) := by decide +kernel
theorem dX0_copyFrom_101 : decode cX0_copyFrom 101 = .ok (.putfield 37, 3) := by decide +kernel
theorem dX0_copyFrom_104 : decode cX0_copyFrom 104 = .ok (.aload_n 0, 1) := by decide +kernel
theorem dX0_copyFrom_105 : decode cX0_copyFrom 105 = .ok (.aload_n 1, 1) := by decide +kernel
theorem dX0_copyFrom_106 : decode cX0_copyFrom 106 = .ok (.getfield 40, 3) := by decide +kernel
theorem dX0_copyFrom_109 : decode cX0_copyFrom 109 = .ok (.putfield 40, 3) := by decide +kernel
theorem dX0_copyFrom_112 : decode cX0_copyFrom 112 = .ok (.return_, 1) := by decide +kernel
theorem dX0_appendCorner_0 : decode cX0_appendCorner 0 = .ok (.aload_n 0, 1) := by decide +kernel
theorem dX0_appendCorner_1 : decode cX0_appendCorner 1 = .ok (.getfield 18, 3) := by decide +kernel
theorem dX0_appendCorner_4 : decode cX0_appendCorner 4 = .ok (.bipush 10, 2) := by decide +kernel
theorem dX0_appendCorner_6 : decode cX0_appendCorner 6 = .ok (.if_icmp .ge 33, 3) := by decide +kernel
theorem dX0_appendCorner_9 : decode cX0_appendCorner 9 = .ok (.aload_n 0, 1) := by decide +kernel
theorem dX0_appendCorner_10 : decode cX0_appendCorner 10 = .ok (.getfield 9, 3) := by decide +kernel
theorem dX0_appendCorner_13 : decode cX0_appendCorner 13 = .ok (.aload_n 0, 1) := by decide +kernel
theorem dX0_appendCorner_14 : decode cX0_appendCorner 14 = .ok (.getfield 18, 3) := by decide +kernel
theorem dX0_appendCorner_17 : decode cX0_appendCorner 17 = .ok (.iload_n 1, 1) := by decide +kernel
theorem dX0_appendCorner_18 : decode cX0_appendCorner 18 = .ok (.iastore, 1) := by decide +kernel
theorem dX0_appendCorner_19 : decode cX0_appendCorner 19 = .ok (.aload_n 0, 1) := by decide +kernel
theorem dX0_appendCorner_20 : decode cX0_appendCorner 20 = .ok (.getfield 15, 3) := by decide +kernel
theorem dX0_appendCorner_23 : decode cX0_appendCorner 23 = .ok (.aload_n 0, 1) := by decide +kernel
theorem dX0_appendCorner_24 : decode cX0_appendCorner 24 = .ok (.getfield 18, 3) := by decide +kernel
theorem dX0_appendCorner_27 : decode cX0_appendCorner 27 = .ok (.iload_n 2, 1) := by decide +kernel
theorem dX0_appendCorner_28 : decode cX0_appendCorner 28 = .ok (.iastore, 1) := by decide +kernel
theorem dX0_appendCorner_29 : decode cX0_appendCorner 29 = .ok (.aload_n 0, 1) := by decide +kernel
theorem dX0_appendCorner_30 : decode cX0_appendCorner 30 = .ok (.dup, 1) := by decide +kernel
theorem dX0_appendCorner_31 : decode cX0_appendCorner 31 = .ok (.getfield 18, 3) := by decide +kernel
theorem dX0_appendCorner_34 : decode cX0_appendCorner 34 = .ok (.iconst 1, 1) := by decide +kernel
theorem dX0_appendCorner_35 : decode cX0_appendCorner 35 = .ok (.iadd, 1) := by decide +kernel
theorem dX0_appendCorner_36 : decode cX0_appendCorner 36 = .ok (.putfield 18, 3) := by decide +kernel
theorem dX0_appendCorner_39 : decode cX0_appendCorner 39 = .ok (.return_, 1) := by decide +kernel
theorem dX0_moveCorner_0 : decode cX0_moveCorner 0 = .ok (.aload_n 0, 1) := by decide +kernel
theorem dX0_moveCorner_1 : decode cX0_moveCorner 1 = .ok (.getfield 9, 3) := by decide +kernel
theorem dX0_moveCorner_4 : decode cX0_moveCorner 4 = .ok (.iload_n 1, 1) := by decide +kernel
theorem dX0_moveCorner_5 : decode cX0_moveCorner 5 = .ok (.iload_n 2, 1) := by decide +kernel
theorem dX0_moveCorner_6 : decode cX0_moveCorner 6 = .ok (.iastore, 1) := by decide +kernel
theorem dX0_moveCorner_7 : decode cX0_moveCorner 7 = .ok (.aload_n 0, 1) := by decide +kernel
theorem dX0_moveCorner_8 : decode cX0_moveCorner 8 = .ok (.getfield 15, 3) := by decide +kernel
theorem dX0_moveCorner_11 : decode cX0_moveCorner 11 = .ok (.iload_n 1, 1) := by decide +kernel
theorem dX0_moveCorner_12 : decode cX0_moveCorner 12 = .ok (.iload_n 3, 1) := by decide +kernel
theorem dX0_moveCorner_13 : decode cX0_moveCorner 13 = .ok (.iastore, 1) := by decide +kernel
theorem dX0_moveCorner_14 : decode cX0_moveCorner 14 = .ok (.return_, 1) := by decide +kernel
set_option maxRecDepth 20000 in
theorem ggX0_exchangeCorners_X0_moveCorner : GoodIn wsX0_exchangeCorners wsX0_moveCorner := goodIn_r _ [7, 1, 2, 8, 9, 10, 11, 12, 13, 14, 15, 16, 17] (by decide +kernel) (by decide +kernel)
set_option maxRecDepth 20000 in
theorem gX0_exchangeCorners_X0_moveCorner : GoodIn wsX0_exchangeCorners (wsV RX0 49 RX0 yX0_moveCorner wsX0_moveCorner) := goodIn_app (goodIn_of _ (by decide +kernel)) ggX0_exchangeCorners_X0_moveCorner
theorem dX0_exchangeCorners_0 : decode cX0_exchangeCorners 0 = .ok (.aload_n 0, 1) := by decide +kernel
theorem dX0_exchangeCorners_1 : decode cX0_exchangeCorners 1 = .ok (.getfield 9, 3) := by decide +kernel
theorem dX0_exchangeCorners_4 : decode cX0_exchangeCorners 4 = .ok (.iload_n 1, 1) := by decide +kernel
theorem dX0_exchangeCorners_5 : decode cX0_exchangeCorners 5 = .ok (.iaload, 1) := by decide +kernel
theorem dX0_exchangeCorners_6 : decode cX0_exchangeCorners 6 = .ok (.istore_n 3, 1) := by decide +kernel
theorem dX0_exchangeCorners_7 : decode cX0_exchangeCorners 7 = .ok (.aload_n 0, 1) := by decide +kernel
theorem dX0_exchangeCorners_8 : decode cX0_exchangeCorners 8 = .ok (.getfield 15, 3) := by decide +kernel
theorem dX0_exchangeCorners_11 : decode cX0_exchangeCorners 11 = .ok (.iload_n 1, 1) := by decide +kernel
theorem dX0_exchangeCorners_12 : decode cX0_exchangeCorners 12 = .ok (.iaload, 1) := by decide +kernel
theorem dX0_exchangeCorners_13 : decode cX0_exchangeCorners 13 = .ok (.istore 4, 2) := by decide +kernel
theorem dX0_exchangeCorners_15 : decode cX0_exchangeCorners 15 = .ok (.aload_n 0, 1) := by decide +kernel
theorem dX0_exchangeCorners_16 : decode cX0_exchangeCorners 16 = .ok (.iload_n 1, 1) := by decide +kernel
theorem dX0_exchangeCorners_17 : decode cX0_exchangeCorners 17 = .ok (.aload_n 0, 1) := by decide +kernel
theorem dX0_exchangeCorners_18 : decode cX0_exchangeCorners 18 = .ok (.getfield 9, 3) := by decide +kernel
theorem dX0_exchangeCorners_21 : decode cX0_exchangeCorners 21 = .ok (.iload_n 2, 1) := by decide +kernel
theorem dX0_exchangeCorners_22 : decode cX0_exchangeCorners 22 = .ok (.iaload, 1) := by decide +kernel
theorem dX0_exchangeCorners_23 : decode cX0_exchangeCorners 23 = .ok (.aload_n 0, 1) := by decide +kernel
theorem dX0_exchangeCorners_24 : decode cX0_exchangeCorners 24 = .ok (.getfield 15, 3) := by decide +kernel
theorem dX0_exchangeCorners_27 : decode cX0_exchangeCorners 27 = .ok (.iload_n 2, 1) := by decide +kernel
theorem dX0_exchangeCorners_28 : decode cX0_exchangeCorners 28 = .ok (.iaload, 1) := by decide +kernel
theorem dX0_exchangeCorners_29 : decode cX0_exchangeCorners 29 = .ok (.invokevirtual 49, 3) := by decide +kernel
theorem dX0_exchangeCorners_32 : decode cX0_exchangeCorners 32 = .ok (.aload_n 0, 1) := by decide +kernel
theorem dX0_exchangeCorners_33 : decode cX0_exchangeCorners 33 = .ok (.iload_n 2, 1) := by decide +kernel
theorem dX0_exchangeCorners_34 : decode cX0_exchangeCorners 34 = .ok (.iload_n 3, 1) := by decide +kernel
theorem dX0_exchangeCorners_35 : decode cX0_exchangeCorners 35 = .ok (.iload 4, 2) := by decide +kernel
theorem dX0_exchangeCorners_37 : decode cX0_exchangeCorners 37 = .ok (.invokevirtual 49, 3) := by decide +kernel
theorem dX0_exchangeCorners_40 : decode cX0_exchangeCorners 40 = .ok (.return_, 1) := by decide +kernel
set_option maxRecDepth 20000 in
theorem ggX0_removeCorner_X0_moveCorner : GoodIn wsX0_removeCorner wsX0_moveCorner := goodIn_r _ [8, 2, 3, 9, 10, 11, 12, 13, 14, 15, 16, 17, 18] (by decide +kernel) (by decide +kernel)
set_option maxRecDepth 20000 in
theorem gX0_removeCorner_X0_moveCorner : GoodIn wsX0_removeCorner (wsV RX0 49 RX0 yX0_moveCorner wsX0_moveCorner) := goodIn_app (goodIn_of _ (by decide +kernel)) ggX0_removeCorner_X0_moveCorner
theorem dX0_removeCorner_0 : decode cX0_removeCorner 0 = .ok (.iload_n 1, 1) := by decide +kernel
theorem dX0_removeCorner_1 : decode cX0_removeCorner 1 = .ok (.iconst 1, 1) := by decide +kernel
theorem dX0_removeCorner_2 : decode cX0_removeCorner 2 = .ok (.iadd, 1) := by decide +kernel
theorem dX0_removeCorner_3 : decode cX0_removeCorner 3 = .ok (.istore_n 2, 1) := by decide +kernel
theorem dX0_removeCorner_4 : decode cX0_removeCorner 4 = .ok (.iload_n 2, 1) := by decide +kernel
theorem dX0_removeCorner_5 : decode cX0_removeCorner 5 = .ok (.aload_n 0, 1) := by decide +kernel
theorem dX0_removeCorner_6 : decode cX0_removeCorner 6 = .ok (.getfield 18, 3) := by decide +kernel
theorem dX0_removeCorner_9 : decode cX0_removeCorner 9 = .ok (.if_icmp .ge 28, 3) := by decide +kernel
theorem dX0_removeCorner_12 : decode cX0_removeCorner 12 = .ok (.aload_n 0, 1) := by decide +kernel
theorem dX0_removeCorner_13 : decode cX0_removeCorner 13 = .ok (.iload_n 2, 1) := by decide +kernel
theorem dX0_removeCorner_14 : decode cX0_removeCorner 14 = .ok (.iconst 1, 1) := by decide +kernel
theorem dX0_removeCorner_15 : decode cX0_removeCorner 15 = .ok (.isub, 1) := by decide +kernel
theorem dX0_removeCorner_16 : decode cX0_removeCorner 16 = .ok (.aload_n 0, 1) := by decide +kernel
theorem dX0_removeCorner_17 : decode cX0_removeCorner 17 = .ok (.getfield 9, 3) := by decide +kernel
theorem dX0_removeCorner_20 : decode cX0_removeCorner 20 = .ok (.iload_n 2, 1) := by decide +kernel
theorem dX0_removeCorner_21 : decode cX0_removeCorner 21 = .ok (.iaload, 1) := by decide +kernel
theorem dX0_removeCorner_22 : decode cX0_removeCorner 22 = .ok (.aload_n 0, 1) := by decide +kernel
theorem dX0_removeCorner_23 : decode cX0_removeCorner 23 = .ok (.getfield 15, 3) := by decide +kernel
theorem dX0_removeCorner_26 : decode cX0_removeCorner 26 = .ok (.iload_n 2, 1) := by decide +kernel
theorem dX0_removeCorner_27 : decode cX0_removeCorner 27 = .ok (.iaload, 1) := by decide +kernel
theorem dX0_removeCorner_28 : decode cX0_removeCorner 28 = .ok (.invokevirtual 49, 3) := by decide +kernel
theorem dX0_removeCorner_31 : decode cX0_removeCorner 31 = .ok (.iinc 2 1, 3) := by decide +kernel
theorem dX0_removeCorner_34 : decode cX0_removeCorner 34 = .ok (.goto (-30), 3) := by decide +kernel
theorem dX0_removeCorner_37 : decode cX0_removeCorner 37 = .ok (.aload_n 0, 1) := by decide +kernel
theorem dX0_removeCorner_38 : decode cX0_removeCorner 38 = .ok (.dup, 1) := by decide +kernel
theorem dX0_removeCorner_39 : decode cX0_removeCorner 39 = .ok (.getfield 18, 3) := by decide +kernel
theorem dX0_removeCorner_42 : decode cX0_removeCorner 42 = .ok (.iconst 1, 1) := by decide +kernel
theorem dX0_removeCorner_43 : decode cX0_removeCorner 43 = .ok (.isub, 1) := by decide +kernel
theorem dX0_removeCorner_44 : decode cX0_removeCorner 44 = .ok (.putfield 18, 3) := by decide +kernel
theorem dX0_removeCorner_47 : decode cX0_removeCorner 47 = .ok (.return_, 1) := by decide +kernel
theorem dX0_appendWheel_0 : decode cX0_appendWheel 0 = .ok (.aload_n 0, 1) := by decide +kernel
theorem dX0_appendWheel_1 : decode cX0_appendWheel 1 = .ok (.getfield 31, 3) := by decide +kernel
theorem dX0_appendWheel_4 : decode cX0_appendWheel 4 = .ok (.iconst 4, 1) := by decide +kernel
theorem dX0_appendWheel_5 : decode cX0_appendWheel 5 = .ok (.if_icmp .ge 43, 3) := by decide +kernel
theorem dX0_appendWheel_8 : decode cX0_appendWheel 8 = .ok (.aload_n 0, 1) := by decide +kernel
theorem dX0_appendWheel_9 : decode cX0_appendWheel 9 = .ok (.getfield 22, 3) := by decide +kernel
theorem dX0_appendWheel_12 : decode cX0_appendWheel 12 = .ok (.aload_n 0, 1) := by decide +kernel
theorem dX0_appendWheel_13 : decode cX0_appendWheel 13 = .ok (.getfield 31, 3) := by decide +kernel
theorem dX0_appendWheel_16 : decode cX0_appendWheel 16 = .ok (.iload_n 1, 1) := by decide +kernel
theorem dX0_appendWheel_17 : decode cX0_appendWheel 17 = .ok (.iastore, 1) := by decide +kernel
theorem dX0_appendWheel_18 : decode cX0_appendWheel 18 = .ok (.aload_n 0, 1) := by decide +kernel
theorem dX0_appendWheel_19 : decode cX0_appendWheel 19 = .ok (.getfield 25, 3) := by decide +kernel
theorem dX0_appendWheel_22 : decode cX0_appendWheel 22 = .ok (.aload_n 0, 1) := by decide +kernel
theorem dX0_appendWheel_23 : decode cX0_appendWheel 23 = .ok (.getfield 31, 3) := by decide +kernel
theorem dX0_appendWheel_26 : decode cX0_appendWheel 26 = .ok (.iload_n 2, 1) := by decide +kernel
theorem dX0_appendWheel_27 : decode cX0_appendWheel 27 = .ok (.iastore, 1) := by decide +kernel
theorem dX0_appendWheel_28 : decode cX0_appendWheel 28 = .ok (.aload_n 0, 1) := by decide +kernel
theorem dX0_appendWheel_29 : decode cX0_appendWheel 29 = .ok (.getfield 28, 3) := by decide +kernel
theorem dX0_appendWheel_32 : decode cX0_appendWheel 32 = .ok (.aload_n 0, 1) := by decide +kernel
theorem dX0_appendWheel_33 : decode cX0_appendWheel 33 = .ok (.getfield 31, 3) := by decide +kernel
theorem dX0_appendWheel_36 : decode cX0_appendWheel 36 = .ok (.iconst 0, 1) := by decide +kernel
theorem dX0_appendWheel_37 : decode cX0_appendWheel 37 = .ok (.iastore, 1) := by decide +kernel
theorem dX0_appendWheel_38 : decode cX0_appendWheel 38 = .ok (.aload_n 0, 1) := by decide +kernel
theorem dX0_appendWheel_39 : decode cX0_appendWheel 39 = .ok (.dup, 1) := by decide +kernel
theorem dX0_appendWheel_40 : decode cX0_appendWheel 40 = .ok (.getfield 31, 3) := by decide +kernel
theorem dX0_appendWheel_43 : decode cX0_appendWheel 43 = .ok (.iconst 1, 1) := by decide +kernel
theorem dX0_appendWheel_44 : decode cX0_appendWheel 44 = .ok (.iadd, 1) := by decide +kernel
theorem dX0_appendWheel_45 : decode cX0_appendWheel 45 = .ok (.putfield 31, 3) := by decide +kernel
theorem dX0_appendWheel_48 : decode cX0_appendWheel 48 = .ok (.return_, 1) := by decide +kernel
theorem dX0_movePole_0 : decode cX0_movePole 0 = .ok (.aload_n 0, 1) := by decide +kernel
theorem dX0_movePole_1 : decode cX0_movePole 1 = .ok (.iload_n 1, 1) := by decide +kernel
theorem dX0_movePole_2 : decode cX0_movePole 2 = .ok (.putfield 34, 3) := by decide +kernel
theorem dX0_movePole_5 : decode cX0_movePole 5 = .ok (.aload_n 0, 1) := by decide +kernel
theorem dX0_movePole_6 : decode cX0_movePole 6 = .ok (.iload_n 2, 1) := by decide +kernel
theorem dX0_movePole_7 : decode cX0_movePole 7 = .ok (.putfield 37, 3) := by decide +kernel
theorem dX0_movePole_10 : decode cX0_movePole 10 = .ok (.return_, 1) := by decide +kernel
theorem dX0_sweepOf_0 : decode cX0_sweepOf 0 = .ok (.iload_n 1, 1) := by decide +kernel
theorem dX0_sweepOf_1 : decode cX0_sweepOf 1 = .ok (.iconst 1, 1) := by decide +kernel
theorem dX0_sweepOf_2 : decode cX0_sweepOf 2 = .ok (.iadd, 1) := by decide +kernel
theorem dX0_sweepOf_3 : decode cX0_sweepOf 3 = .ok (.aload_n 0, 1) := by decide +kernel
theorem dX0_sweepOf_4 : decode cX0_sweepOf 4 = .ok (.getfield 18, 3) := by decide +kernel
theorem dX0_sweepOf_7 : decode cX0_sweepOf 7 = .ok (.if_icmp .ge 9, 3) := by decide +kernel
theorem dX0_sweepOf_10 : decode cX0_sweepOf 10 = .ok (.iload_n 1, 1) := by decide +kernel
theorem dX0_sweepOf_11 : decode cX0_sweepOf 11 = .ok (.iconst 1, 1) := by decide +kernel
theorem dX0_sweepOf_12 : decode cX0_sweepOf 12 = .ok (.iadd, 1) := by decide +kernel
theorem dX0_sweepOf_13 : decode cX0_sweepOf 13 = .ok (.goto 4, 3) := by decide +kernel
theorem dX0_sweepOf_16 : decode cX0_sweepOf 16 = .ok (.iconst 0, 1) := by decide +kernel
theorem dX0_sweepOf_17 : decode cX0_sweepOf 17 = .ok (.istore_n 2, 1) := by decide +kernel
theorem dX0_sweepOf_18 : decode cX0_sweepOf 18 = .ok (.aload_n 0, 1) := by decide +kernel
theorem dX0_sweepOf_19 : decode cX0_sweepOf 19 = .ok (.getfield 9, 3) := by decide +kernel
theorem dX0_sweepOf_22 : decode cX0_sweepOf 22 = .ok (.iload_n 1, 1) := by decide +kernel
theorem dX0_sweepOf_23 : decode cX0_sweepOf 23 = .ok (.iaload, 1) := by decide +kernel
theorem dX0_sweepOf_24 : decode cX0_sweepOf 24 = .ok (.aload_n 0, 1) := by decide +kernel
theorem dX0_sweepOf_25 : decode cX0_sweepOf 25 = .ok (.getfield 34, 3) := by decide +kernel
theorem dX0_sweepOf_28 : decode cX0_sweepOf 28 = .ok (.isub, 1) := by decide +kernel
theorem dX0_sweepOf_29 : decode cX0_sweepOf 29 = .ok (.istore_n 3, 1) := by decide +kernel
theorem dX0_sweepOf_30 : decode cX0_sweepOf 30 = .ok (.aload_n 0, 1) := by decide +kernel
theorem dX0_sweepOf_31 : decode cX0_sweepOf 31 = .ok (.getfield 15, 3) := by decide +kernel
theorem dX0_sweepOf_34 : decode cX0_sweepOf 34 = .ok (.iload_n 1, 1) := by decide +kernel
theorem dX0_sweepOf_35 : decode cX0_sweepOf 35 = .ok (.iaload, 1) := by decide +kernel
theorem dX0_sweepOf_36 : decode cX0_sweepOf 36 = .ok (.aload_n 0, 1) := by decide +kernel
theorem dX0_sweepOf_37 : decode cX0_sweepOf 37 = .ok (.getfield 37, 3) := by decide +kernel
theorem dX0_sweepOf_40 : decode cX0_sweepOf 40 = .ok (.isub, 1) := by decide +kernel
theorem dX0_sweepOf_41 : decode cX0_sweepOf 41 = .ok (.istore 4, 2) := by decide +kernel
theorem dX0_sweepOf_43 : decode cX0_sweepOf 43 = .ok (.aload_n 0, 1) := by decide +kernel
theorem dX0_sweepOf_44 : decode cX0_sweepOf 44 = .ok (.getfield 9, 3) := by decide +kernel
theorem dX0_sweepOf_47 : decode cX0_sweepOf 47 = .ok (.iload_n 2, 1) := by decide +kernel
theorem dX0_sweepOf_48 : decode cX0_sweepOf 48 = .ok (.iaload, 1) := by decide +kernel
theorem dX0_sweepOf_49 : decode cX0_sweepOf 49 = .ok (.aload_n 0, 1) := by decide +kernel
theorem dX0_sweepOf_50 : decode cX0_sweepOf 50 = .ok (.getfield 34, 3) := by decide +kernel
theorem dX0_sweepOf_53 : decode cX0_sweepOf 53 = .ok (.isub, 1) := by decide +kernel
theorem dX0_sweepOf_54 : decode cX0_sweepOf 54 = .ok (.istore 5, 2) := by decide +kernel
theorem dX0_sweepOf_56 : decode cX0_sweepOf 56 = .ok (.aload_n 0, 1) := by decide +kernel
theorem dX0_sweepOf_57 : decode cX0_sweepOf 57 = .ok (.getfield 15, 3) := by decide +kernel
theorem dX0_sweepOf_60 : decode cX0_sweepOf 60 = .ok (.iload_n 2, 1) := by decide +kernel
theorem dX0_sweepOf_61 : decode cX0_sweepOf 61 = .ok (.iaload, 1) := by decide +kernel
theorem dX0_sweepOf_62 : decode cX0_sweepOf 62 = .ok (.aload_n 0, 1) := by decide +kernel
theorem dX0_sweepOf_63 : decode cX0_sweepOf 63 = .ok (.getfield 37, 3) := by decide +kernel
theorem dX0_sweepOf_66 : decode cX0_sweepOf 66 = .ok (.isub, 1) := by decide +kernel
theorem dX0_sweepOf_67 : decode cX0_sweepOf 67 = .ok (.istore 6, 2) := by decide +kernel
theorem dX0_sweepOf_69 : decode cX0_sweepOf 69 = .ok (.iload_n 3, 1) := by decide +kernel
theorem dX0_sweepOf_70 : decode cX0_sweepOf 70 = .ok (.iload 6, 2) := by decide +kernel
theorem dX0_sweepOf_72 : decode cX0_sweepOf 72 = .ok (.imul, 1) := by decide +kernel
theorem dX0_sweepOf_73 : decode cX0_sweepOf 73 = .ok (.iload 5, 2) := by decide +kernel
theorem dX0_sweepOf_75 : decode cX0_sweepOf 75 = .ok (.iload 4, 2) := by decide +kernel
theorem dX0_sweepOf_77 : decode cX0_sweepOf 77 = .ok (.imul, 1) := by decide +kernel
theorem dX0_sweepOf_78 : decode cX0_sweepOf 78 = .ok (.isub, 1) := by decide +kernel
theorem dX0_sweepOf_79 : decode cX0_sweepOf 79 = .ok (.ireturn, 1) := by decide +kernel
set_option maxRecDepth 20000 in
theorem ggX0_area_X0_sweepOf : GoodIn wsX0_area wsX0_sweepOf := goodIn_r _ [6, 1, 7, 8, 9, 10, 11, 12, 13, 14, 15, 16, 17, 18, 19, 20] (by decide +kernel) (by decide +kernel)
set_option maxRecDepth 20000 in
theorem gX0_area_X0_sweepOf : GoodIn wsX0_area (wsV RX0 53 RX0 yX0_sweepOf wsX0_sweepOf) := goodIn_app (goodIn_of _ (by decide +kernel)) ggX0_area_X0_sweepOf
theorem dX0_area_0 : decode cX0_area 0 = .ok (.iconst 0, 1) := by decide +kernel
theorem dX0_area_1 : decode cX0_area 1 = .ok (.istore_n 1, 1) := by decide +kernel
theorem dX0_area_2 : decode cX0_area 2 = .ok (.iconst 0, 1) := by decide +kernel
theorem dX0_area_3 : decode cX0_area 3 = .ok (.istore_n 2, 1) := by decide +kernel
theorem dX0_area_4 : decode cX0_area 4 = .ok (.iload_n 2, 1) := by decide +kernel
theorem dX0_area_5 : decode cX0_area 5 = .ok (.aload_n 0, 1) := by decide +kernel
theorem dX0_area_6 : decode cX0_area 6 = .ok (.getfield 18, 3) := by decide +kernel
theorem dX0_area_9 : decode cX0_area 9 = .ok (.if_icmp .ge 17, 3) := by decide +kernel
theorem dX0_area_12 : decode cX0_area 12 = .ok (.iload_n 1, 1) := by decide +kernel
theorem dX0_area_13 : decode cX0_area 13 = .ok (.aload_n 0, 1) := by decide +kernel
theorem dX0_area_14 : decode cX0_area 14 = .ok (.iload_n 2, 1) := by decide +kernel
theorem dX0_area_15 : decode cX0_area 15 = .ok (.invokevirtual 53, 3) := by decide +kernel
theorem dX0_area_18 : decode cX0_area 18 = .ok (.iadd, 1) := by decide +kernel
theorem dX0_area_19 : decode cX0_area 19 = .ok (.istore_n 1, 1) := by decide +kernel
theorem dX0_area_20 : decode cX0_area 20 = .ok (.iinc 2 1, 3) := by decide +kernel
theorem dX0_area_23 : decode cX0_area 23 = .ok (.goto (-19), 3) := by decide +kernel
theorem dX0_area_26 : decode cX0_area 26 = .ok (.iload_n 1, 1) := by decide +kernel
theorem dX0_area_27 : decode cX0_area 27 = .ok (.ireturn, 1) := by decide +kernel
set_option maxRecDepth 20000 in
theorem ggX0_areaUnsigned_X0_area : GoodIn wsX0_areaUnsigned wsX0_area := goodIn_r _ [9, 10, 11, 12, 13, 8, 14, 15, 16, 17, 18, 19, 20, 21, 22, 23, 24, 25, 26, 27, 28] (by decide +kernel) (by decide +kernel)
set_option maxRecDepth 20000 in
theorem gX0_areaUnsigned_X0_area : GoodIn wsX0_areaUnsigned (wsV RX0 57 RX0 yX0_area wsX0_area) := goodIn_app (goodIn_of _ (by decide +kernel)) ggX0_areaUnsigned_X0_area
theorem dX0_areaUnsigned_0 : decode cX0_areaUnsigned 0 = .ok (.aload_n 0, 1) := by decide +kernel
theorem dX0_areaUnsigned_1 : decode cX0_areaUnsigned 1 = .ok (.invokevirtual 57, 3) := by decide +kernel
theorem dX0_areaUnsigned_4 : decode cX0_areaUnsigned 4 = .ok (.invokestatic 61, 3) := by decide +kernel
theorem dX0_areaUnsigned_7 : decode cX0_areaUnsigned 7 = .ok (.ireturn, 1) := by decide +kernel
theorem dX0_edgeAhead_0 : decode cX0_edgeAhead 0 = .ok (.aload_n 0, 1) := by decide +kernel
theorem dX0_edgeAhead_1 : decode cX0_edgeAhead 1 = .ok (.getfield 18, 3) := by decide +kernel
theorem dX0_edgeAhead_4 : decode cX0_edgeAhead 4 = .ok (.ifCond .ne 8, 3) := by decide +kernel
theorem dX0_edgeAhead_7 : decode cX0_edgeAhead 7 = .ok (.bipush (-4), 2) := by decide +kernel
theorem dX0_edgeAhead_9 : decode cX0_edgeAhead 9 = .ok (.goto 14, 3) := by decide +kernel
theorem dX0_edgeAhead_12 : decode cX0_edgeAhead 12 = .ok (.aload_n 0, 1) := by decide +kernel
theorem dX0_edgeAhead_13 : decode cX0_edgeAhead 13 = .ok (.getfield 40, 3) := by decide +kernel
theorem dX0_edgeAhead_16 : decode cX0_edgeAhead 16 = .ok (.iload_n 1, 1) := by decide +kernel
theorem dX0_edgeAhead_17 : decode cX0_edgeAhead 17 = .ok (.iadd, 1) := by decide +kernel
theorem dX0_edgeAhead_18 : decode cX0_edgeAhead 18 = .ok (.aload_n 0, 1) := by decide +kernel
theorem dX0_edgeAhead_19 : decode cX0_edgeAhead 19 = .ok (.getfield 18, 3) := by decide +kernel
theorem dX0_edgeAhead_22 : decode cX0_edgeAhead 22 = .ok (.irem, 1) := by decide +kernel
theorem dX0_edgeAhead_23 : decode cX0_edgeAhead 23 = .ok (.ireturn, 1) := by decide +kernel
set_option maxRecDepth 20000 in
theorem ggX0_sweepAhead_X0_edgeAhead : GoodIn wsX0_sweepAhead wsX0_edgeAhead := goodIn_r _ [5, 6, 7, 16, 17, 18, 19, 20, 21, 22, 23, 24, 25] (by decide +kernel) (by decide +kernel)
set_option maxRecDepth 20000 in
theorem gX0_sweepAhead_X0_edgeAhead : GoodIn wsX0_sweepAhead (wsV RX0 66 RX0 yX0_edgeAhead wsX0_edgeAhead) := goodIn_app (goodIn_of _ (by decide +kernel)) ggX0_sweepAhead_X0_edgeAhead
set_option maxRecDepth 20000 in
theorem ggX0_sweepAhead_X0_sweepOf : GoodIn wsX0_sweepAhead wsX0_sweepOf := goodIn_r _ [11, 6, 12, 13, 14, 15, 16, 17, 18, 19, 20, 21, 22, 23, 24, 25] (by decide +kernel) (by decide +kernel)
set_option maxRecDepth 20000 in
theorem gX0_sweepAhead_X0_sweepOf : GoodIn wsX0_sweepAhead (wsV RX0 53 RX0 yX0_sweepOf wsX0_sweepOf) := goodIn_app (goodIn_of _ (by decide +kernel)) ggX0_sweepAhead_X0_sweepOf
theorem dX0_sweepAhead_0 : decode cX0_sweepAhead 0 = .ok (.aload_n 0, 1) := by decide +kernel
theorem dX0_sweepAhead_1 : decode cX0_sweepAhead 1 = .ok (.iload_n 1, 1) := by decide +kernel
theorem dX0_sweepAhead_2 : decode cX0_sweepAhead 2 = .ok (.invokevirtual 66, 3) := by decide +kernel
theorem dX0_sweepAhead_5 : decode cX0_sweepAhead 5 = .ok (.istore_n 2, 1) := by decide +kernel
theorem dX0_sweepAhead_6 : decode cX0_sweepAhead 6 = .ok (.iload_n 2, 1) := by decide +kernel
theorem dX0_sweepAhead_7 : decode cX0_sweepAhead 7 = .ok (.bipush (-4), 2) := by decide +kernel
theorem dX0_sweepAhead_9 : decode cX0_sweepAhead 9 = .ok (.if_icmp .ne 7, 3) := by decide +kernel
theorem dX0_sweepAhead_12 : decode cX0_sweepAhead 12 = .ok (.iconst 0, 1) := by decide +kernel
theorem dX0_sweepAhead_13 : decode cX0_sweepAhead 13 = .ok (.goto 8, 3) := by decide +kernel
theorem dX0_sweepAhead_16 : decode cX0_sweepAhead 16 = .ok (.aload_n 0, 1) := by decide +kernel
theorem dX0_sweepAhead_17 : decode cX0_sweepAhead 17 = .ok (.iload_n 2, 1) := by decide +kernel
theorem dX0_sweepAhead_18 : decode cX0_sweepAhead 18 = .ok (.invokevirtual 53, 3) := by decide +kernel
theorem dX0_sweepAhead_21 : decode cX0_sweepAhead 21 = .ok (.ireturn, 1) := by decide +kernel
theorem dX0_roll_0 : decode cX0_roll 0 = .ok (.iload_n 0, 1) := by decide +kernel
theorem dX0_roll_1 : decode cX0_roll 1 = .ok (.tableswitch 67 1 3 #[27, 42, 56], 27) := by decide +kernel
theorem dX0_roll_28 : decode cX0_roll 28 = .ok (.iload_n 1, 1) := by decide +kernel
theorem dX0_roll_29 : decode cX0_roll 29 = .ok (.iconst 1, 1) := by decide +kernel
theorem dX0_roll_30 : decode cX0_roll 30 = .ok (.if_icmp .ge 7, 3) := by decide +kernel
theorem dX0_roll_33 : decode cX0_roll 33 = .ok (.iconst 0, 1) := by decide +kernel
theorem dX0_roll_34 : decode cX0_roll 34 = .ok (.goto 8, 3) := by decide +kernel
theorem dX0_roll_37 : decode cX0_roll 37 = .ok (.iload_n 2, 1) := by decide +kernel
theorem dX0_roll_38 : decode cX0_roll 38 = .ok (.iload_n 1, 1) := by decide +kernel
theorem dX0_roll_39 : decode cX0_roll 39 = .ok (.idiv, 1) := by decide +kernel
theorem dX0_roll_40 : decode cX0_roll 40 = .ok (.iload_n 1, 1) := by decide +kernel
theorem dX0_roll_41 : decode cX0_roll 41 = .ok (.imul, 1) := by decide +kernel
theorem dX0_roll_42 : decode cX0_roll 42 = .ok (.ireturn, 1) := by decide +kernel
theorem dX0_roll_43 : decode cX0_roll 43 = .ok (.iload_n 2, 1) := by decide +kernel
theorem dX0_roll_44 : decode cX0_roll 44 = .ok (.invokestatic 61, 3) := by decide +kernel
theorem dX0_roll_47 : decode cX0_roll 47 = .ok (.iload_n 1, 1) := by decide +kernel
theorem dX0_roll_48 : decode cX0_roll 48 = .ok (.if_icmp .ge 7, 3) := by decide +kernel
theorem dX0_roll_51 : decode cX0_roll 51 = .ok (.iconst 0, 1) := by decide +kernel
theorem dX0_roll_52 : decode cX0_roll 52 = .ok (.goto 4, 3) := by decide +kernel
theorem dX0_roll_55 : decode cX0_roll 55 = .ok (.iload_n 2, 1) := by decide +kernel
theorem dX0_roll_56 : decode cX0_roll 56 = .ok (.ireturn, 1) := by decide +kernel
theorem dX0_roll_57 : decode cX0_roll 57 = .ok (.iload_n 2, 1) := by decide +kernel
theorem dX0_roll_58 : decode cX0_roll 58 = .ok (.iload_n 1, 1) := by decide +kernel
theorem dX0_roll_59 : decode cX0_roll 59 = .ok (.if_icmp .ge 7, 3) := by decide +kernel
theorem dX0_roll_62 : decode cX0_roll 62 = .ok (.iconst 0, 1) := by decide +kernel
theorem dX0_roll_63 : decode cX0_roll 63 = .ok (.goto 4, 3) := by decide +kernel
theorem dX0_roll_66 : decode cX0_roll 66 = .ok (.iload_n 2, 1) := by decide +kernel
theorem dX0_roll_67 : decode cX0_roll 67 = .ok (.ireturn, 1) := by decide +kernel
theorem dX0_roll_68 : decode cX0_roll 68 = .ok (.iload_n 2, 1) := by decide +kernel
theorem dX0_roll_69 : decode cX0_roll 69 = .ok (.ireturn, 1) := by decide +kernel
set_option maxRecDepth 20000 in
theorem ggX0_rollOf_X0_roll : GoodIn wsX0_rollOf wsX0_roll := goodIn_r _ [6, 7, 8, 9, 10] (by decide +kernel) (by decide +kernel)
set_option maxRecDepth 20000 in
theorem gX0_rollOf_X0_roll : GoodIn wsX0_rollOf (va_wsS RX0 69 yX0_roll wsX0_roll) := goodIn_app (goodIn_of _ (by decide +kernel)) ggX0_rollOf_X0_roll
theorem dX0_rollOf_0 : decode cX0_rollOf 0 = .ok (.aload_n 0, 1) := by decide +kernel
theorem dX0_rollOf_1 : decode cX0_rollOf 1 = .ok (.getfield 22, 3) := by decide +kernel
theorem dX0_rollOf_4 : decode cX0_rollOf 4 = .ok (.iload_n 1, 1) := by decide +kernel
theorem dX0_rollOf_5 : decode cX0_rollOf 5 = .ok (.iaload, 1) := by decide +kernel
theorem dX0_rollOf_6 : decode cX0_rollOf 6 = .ok (.aload_n 0, 1) := by decide +kernel
theorem dX0_rollOf_7 : decode cX0_rollOf 7 = .ok (.getfield 25, 3) := by decide +kernel
theorem dX0_rollOf_10 : decode cX0_rollOf 10 = .ok (.iload_n 1, 1) := by decide +kernel
theorem dX0_rollOf_11 : decode cX0_rollOf 11 = .ok (.iaload, 1) := by decide +kernel
theorem dX0_rollOf_12 : decode cX0_rollOf 12 = .ok (.iload_n 2, 1) := by decide +kernel
theorem dX0_rollOf_13 : decode cX0_rollOf 13 = .ok (.invokestatic 69, 3) := by decide +kernel
theorem dX0_rollOf_16 : decode cX0_rollOf 16 = .ok (.ireturn, 1) := by decide +kernel
set_option maxRecDepth 20000 in
theorem ggX0_rolledByAll_X0_rollOf : GoodIn wsX0_rolledByAll wsX0_rollOf := goodIn_r _ [10, 11, 12, 13, 14, 9, 15, 2, 3, 4, 5, 16, 17, 18, 19, 20, 21, 22, 23, 24, 25] (by decide +kernel) (by decide +kernel)
set_option maxRecDepth 20000 in
theorem gX0_rolledByAll_X0_rollOf : GoodIn wsX0_rolledByAll (wsV RX0 73 RX0 yX0_rollOf wsX0_rollOf) := goodIn_app (goodIn_of _ (by decide +kernel)) ggX0_rolledByAll_X0_rollOf
theorem dX0_rolledByAll_0 : decode cX0_rolledByAll 0 = .ok (.iconst 0, 1) := by decide +kernel
theorem dX0_rolledByAll_1 : decode cX0_rolledByAll 1 = .ok (.istore_n 2, 1) := by decide +kernel
theorem dX0_rolledByAll_2 : decode cX0_rolledByAll 2 = .ok (.iconst 0, 1) := by decide +kernel
theorem dX0_rolledByAll_3 : decode cX0_rolledByAll 3 = .ok (.istore_n 3, 1) := by decide +kernel
theorem dX0_rolledByAll_4 : decode cX0_rolledByAll 4 = .ok (.iload_n 3, 1) := by decide +kernel
theorem dX0_rolledByAll_5 : decode cX0_rolledByAll 5 = .ok (.aload_n 0, 1) := by decide +kernel
theorem dX0_rolledByAll_6 : decode cX0_rolledByAll 6 = .ok (.getfield 31, 3) := by decide +kernel
theorem dX0_rolledByAll_9 : decode cX0_rolledByAll 9 = .ok (.if_icmp .ge 21, 3) := by decide +kernel
theorem dX0_rolledByAll_12 : decode cX0_rolledByAll 12 = .ok (.iload_n 2, 1) := by decide +kernel
theorem dX0_rolledByAll_13 : decode cX0_rolledByAll 13 = .ok (.aload_n 0, 1) := by decide +kernel
theorem dX0_rolledByAll_14 : decode cX0_rolledByAll 14 = .ok (.iload_n 3, 1) := by decide +kernel
theorem dX0_rolledByAll_15 : decode cX0_rolledByAll 15 = .ok (.iload_n 1, 1) := by decide +kernel
theorem dX0_rolledByAll_16 : decode cX0_rolledByAll 16 = .ok (.invokevirtual 73, 3) := by decide +kernel
theorem dX0_rolledByAll_19 : decode cX0_rolledByAll 19 = .ok (.invokestatic 61, 3) := by decide +kernel
theorem dX0_rolledByAll_22 : decode cX0_rolledByAll 22 = .ok (.iadd, 1) := by decide +kernel
theorem dX0_rolledByAll_23 : decode cX0_rolledByAll 23 = .ok (.istore_n 2, 1) := by decide +kernel
theorem dX0_rolledByAll_24 : decode cX0_rolledByAll 24 = .ok (.iinc 3 1, 3) := by decide +kernel
theorem dX0_rolledByAll_27 : decode cX0_rolledByAll 27 = .ok (.goto (-23), 3) := by decide +kernel
theorem dX0_rolledByAll_30 : decode cX0_rolledByAll 30 = .ok (.iload_n 2, 1) := by decide +kernel
theorem dX0_rolledByAll_31 : decode cX0_rolledByAll 31 = .ok (.ireturn, 1) := by decide +kernel
set_option maxRecDepth 20000 in
theorem ggX0_rollAll_X0_rollOf : GoodIn wsX0_rollAll wsX0_rollOf := goodIn_r _ [7, 8, 9, 10, 11, 6, 12, 13, 14, 15, 16, 21, 22, 23, 24, 25, 26, 27, 28, 29, 30] (by decide +kernel) (by decide +kernel)
set_option maxRecDepth 20000 in
theorem gX0_rollAll_X0_rollOf : GoodIn wsX0_rollAll (wsV RX0 73 RX0 yX0_rollOf wsX0_rollOf) := goodIn_app (goodIn_of _ (by decide +kernel)) ggX0_rollAll_X0_rollOf
set_option maxRecDepth 20000 in
theorem ggX0_rollAll_X0_rolledByAll : GoodIn wsX0_rollAll wsX0_rolledByAll := goodIn_r _ [20, 1, 13, 14, 15, 16, 3, 4, 5, 6, 7, 8, 9, 10, 11, 12, 21, 22, 23, 24, 25, 26, 27, 28, 29, 30] (by decide +kernel) (by decide +kernel)
set_option maxRecDepth 20000 in
theorem gX0_rollAll_X0_rolledByAll : GoodIn wsX0_rollAll (wsV RX0 77 RX0 yX0_rolledByAll wsX0_rolledByAll) := goodIn_app (goodIn_of _ (by decide +kernel)) ggX0_rollAll_X0_rolledByAll
theorem dX0_rollAll_0 : decode cX0_rollAll 0 = .ok (.iconst 0, 1) := by decide +kernel
theorem dX0_rollAll_1 : decode cX0_rollAll 1 = .ok (.istore_n 2, 1) := by decide +kernel
theorem dX0_rollAll_2 : decode cX0_rollAll 2 = .ok (.iload_n 2, 1) := by decide +kernel
theorem dX0_rollAll_3 : decode cX0_rollAll 3 = .ok (.aload_n 0, 1) := by decide +kernel
theorem dX0_rollAll_4 : decode cX0_rollAll 4 = .ok (.getfield 31, 3) := by decide +kernel
theorem dX0_rollAll_7 : decode cX0_rollAll 7 = .ok (.if_icmp .ge 24, 3) := by decide +kernel
theorem dX0_rollAll_10 : decode cX0_rollAll 10 = .ok (.aload_n 0, 1) := by decide +kernel
theorem dX0_rollAll_11 : decode cX0_rollAll 11 = .ok (.getfield 28, 3) := by decide +kernel
theorem dX0_rollAll_14 : decode cX0_rollAll 14 = .ok (.iload_n 2, 1) := by decide +kernel
theorem dX0_rollAll_15 : decode cX0_rollAll 15 = .ok (.dup2, 1) := by decide +kernel
theorem dX0_rollAll_16 : decode cX0_rollAll 16 = .ok (.iaload, 1) := by decide +kernel
theorem dX0_rollAll_17 : decode cX0_rollAll 17 = .ok (.aload_n 0, 1) := by decide +kernel
theorem dX0_rollAll_18 : decode cX0_rollAll 18 = .ok (.iload_n 2, 1) := by decide +kernel
theorem dX0_rollAll_19 : decode cX0_rollAll 19 = .ok (.iload_n 1, 1) := by decide +kernel
theorem dX0_rollAll_20 : decode cX0_rollAll 20 = .ok (.invokevirtual 73, 3) := by decide +kernel
theorem dX0_rollAll_23 : decode cX0_rollAll 23 = .ok (.iadd, 1) := by decide +kernel
theorem dX0_rollAll_24 : decode cX0_rollAll 24 = .ok (.iastore, 1) := by decide +kernel
theorem dX0_rollAll_25 : decode cX0_rollAll 25 = .ok (.iinc 2 1, 3) := by decide +kernel
theorem dX0_rollAll_28 : decode cX0_rollAll 28 = .ok (.goto (-26), 3) := by decide +kernel
theorem dX0_rollAll_31 : decode cX0_rollAll 31 = .ok (.aload_n 0, 1) := by decide +kernel
theorem dX0_rollAll_32 : decode cX0_rollAll 32 = .ok (.iload_n 1, 1) := by decide +kernel
theorem dX0_rollAll_33 : decode cX0_rollAll 33 = .ok (.invokevirtual 77, 3) := by decide +kernel
theorem dX0_rollAll_36 : decode cX0_rollAll 36 = .ok (.ireturn, 1) := by decide +kernel
set_option maxRecDepth 20000 in
theorem ggX0_someWheelRests_X0_rollOf : GoodIn wsX0_someWheelRests wsX0_rollOf := goodIn_r _ [6, 7, 8, 9, 10, 5, 11, 12, 13, 14, 15, 16, 17, 18, 19, 20, 21, 22, 23, 24, 25] (by decide +kernel) (by decide +kernel)
set_option maxRecDepth 20000 in
theorem gX0_someWheelRests_X0_rollOf : GoodIn wsX0_someWheelRests (wsV RX0 73 RX0 yX0_rollOf wsX0_rollOf) := goodIn_app (goodIn_of _ (by decide +kernel)) ggX0_someWheelRests_X0_rollOf
theorem dX0_someWheelRests_0 : decode cX0_someWheelRests 0 = .ok (.iconst 0, 1) := by decide +kernel
theorem dX0_someWheelRests_1 : decode cX0_someWheelRests 1 = .ok (.istore_n 2, 1) := by decide +kernel
theorem dX0_someWheelRests_2 : decode cX0_someWheelRests 2 = .ok (.iload_n 2, 1) := by decide +kernel
theorem dX0_someWheelRests_3 : decode cX0_someWheelRests 3 = .ok (.aload_n 0, 1) := by decide +kernel
theorem dX0_someWheelRests_4 : decode cX0_someWheelRests 4 = .ok (.getfield 31, 3) := by decide +kernel
theorem dX0_someWheelRests_7 : decode cX0_someWheelRests 7 = .ok (.if_icmp .ge 20, 3) := by decide +kernel
theorem dX0_someWheelRests_10 : decode cX0_someWheelRests 10 = .ok (.aload_n 0, 1) := by decide +kernel
theorem dX0_someWheelRests_11 : decode cX0_someWheelRests 11 = .ok (.iload_n 2, 1) := by decide +kernel
theorem dX0_someWheelRests_12 : decode cX0_someWheelRests 12 = .ok (.iload_n 1, 1) := by decide +kernel
theorem dX0_someWheelRests_13 : decode cX0_someWheelRests 13 = .ok (.invokevirtual 73, 3) := by decide +kernel
theorem dX0_someWheelRests_16 : decode cX0_someWheelRests 16 = .ok (.ifCond .ne 5, 3) := by decide +kernel
theorem dX0_someWheelRests_19 : decode cX0_someWheelRests 19 = .ok (.iconst 1, 1) := by decide +kernel
theorem dX0_someWheelRests_20 : decode cX0_someWheelRests 20 = .ok (.ireturn, 1) := by decide +kernel
theorem dX0_someWheelRests_21 : decode cX0_someWheelRests 21 = .ok (.iinc 2 1, 3) := by decide +kernel
theorem dX0_someWheelRests_24 : decode cX0_someWheelRests 24 = .ok (.goto (-22), 3) := by decide +kernel
theorem dX0_someWheelRests_27 : decode cX0_someWheelRests 27 = .ok (.iconst 0, 1) := by decide +kernel
theorem dX0_someWheelRests_28 : decode cX0_someWheelRests 28 = .ok (.ireturn, 1) := by decide +kernel
set_option maxRecDepth 20000 in
theorem ggX0_readsAhead_X0_sweepAhead : GoodIn wsX0_readsAhead wsX0_sweepAhead := goodIn_r _ [6, 7, 8, 9, 5, 10, 11, 12, 13, 14, 15, 16, 17, 18, 19, 20, 34, 35, 36, 37, 38, 39, 40, 41, 42, 43] (by decide +kernel) (by decide +kernel)
set_option maxRecDepth 20000 in
theorem gX0_readsAhead_X0_sweepAhead : GoodIn wsX0_readsAhead (wsV RX0 80 RX0 yX0_sweepAhead wsX0_sweepAhead) := goodIn_app (goodIn_of _ (by decide +kernel)) ggX0_readsAhead_X0_sweepAhead
set_option maxRecDepth 20000 in
theorem ggX0_readsAhead_X0_rollOf : GoodIn wsX0_readsAhead wsX0_rollOf := goodIn_r _ [24, 25, 26, 27, 28, 5, 29, 30, 31, 32, 33, 34, 35, 36, 37, 38, 39, 40, 41, 42, 43] (by decide +kernel) (by decide +kernel)
set_option maxRecDepth 20000 in
theorem gX0_readsAhead_X0_rollOf : GoodIn wsX0_readsAhead (wsV RX0 73 RX0 yX0_rollOf wsX0_rollOf) := goodIn_app (goodIn_of _ (by decide +kernel)) ggX0_readsAhead_X0_rollOf
theorem dX0_readsAhead_0 : decode cX0_readsAhead 0 = .ok (.aload_n 0, 1) := by decide +kernel
theorem dX0_readsAhead_1 : decode cX0_readsAhead 1 = .ok (.getfield 28, 3) := by decide +kernel
theorem dX0_readsAhead_4 : decode cX0_readsAhead 4 = .ok (.iload_n 1, 1) := by decide +kernel
theorem dX0_readsAhead_5 : decode cX0_readsAhead 5 = .ok (.iaload, 1) := by decide +kernel
theorem dX0_readsAhead_6 : decode cX0_readsAhead 6 = .ok (.istore_n 3, 1) := by decide +kernel
theorem dX0_readsAhead_7 : decode cX0_readsAhead 7 = .ok (.iconst 0, 1) := by decide +kernel
theorem dX0_readsAhead_8 : decode cX0_readsAhead 8 = .ok (.istore 4, 2) := by decide +kernel
theorem dX0_readsAhead_10 : decode cX0_readsAhead 10 = .ok (.iload 4, 2) := by decide +kernel
theorem dX0_readsAhead_12 : decode cX0_readsAhead 12 = .ok (.iload_n 2, 1) := by decide +kernel
theorem dX0_readsAhead_13 : decode cX0_readsAhead 13 = .ok (.if_icmp .ge 23, 3) := by decide +kernel
theorem dX0_readsAhead_16 : decode cX0_readsAhead 16 = .ok (.iload_n 3, 1) := by decide +kernel
theorem dX0_readsAhead_17 : decode cX0_readsAhead 17 = .ok (.aload_n 0, 1) := by decide +kernel
theorem dX0_readsAhead_18 : decode cX0_readsAhead 18 = .ok (.iload_n 1, 1) := by decide +kernel
theorem dX0_readsAhead_19 : decode cX0_readsAhead 19 = .ok (.aload_n 0, 1) := by decide +kernel
theorem dX0_readsAhead_20 : decode cX0_readsAhead 20 = .ok (.iload 4, 2) := by decide +kernel
theorem dX0_readsAhead_22 : decode cX0_readsAhead 22 = .ok (.invokevirtual 80, 3) := by decide +kernel
theorem dX0_readsAhead_25 : decode cX0_readsAhead 25 = .ok (.invokevirtual 73, 3) := by decide +kernel
theorem dX0_readsAhead_28 : decode cX0_readsAhead 28 = .ok (.iadd, 1) := by decide +kernel
theorem dX0_readsAhead_29 : decode cX0_readsAhead 29 = .ok (.istore_n 3, 1) := by decide +kernel
theorem dX0_readsAhead_30 : decode cX0_readsAhead 30 = .ok (.iinc 4 1, 3) := by decide +kernel
theorem dX0_readsAhead_33 : decode cX0_readsAhead 33 = .ok (.goto (-23), 3) := by decide +kernel
theorem dX0_readsAhead_36 : decode cX0_readsAhead 36 = .ok (.iload_n 3, 1) := by decide +kernel
theorem dX0_readsAhead_37 : decode cX0_readsAhead 37 = .ok (.ireturn, 1) := by decide +kernel
theorem dX0_shownBy_0 : decode cX0_shownBy 0 = .ok (.aload_n 0, 1) := by decide +kernel
theorem dX0_shownBy_1 : decode cX0_shownBy 1 = .ok (.getfield 28, 3) := by decide +kernel
theorem dX0_shownBy_4 : decode cX0_shownBy 4 = .ok (.iload_n 1, 1) := by decide +kernel
theorem dX0_shownBy_5 : decode cX0_shownBy 5 = .ok (.iaload, 1) := by decide +kernel
theorem dX0_shownBy_6 : decode cX0_shownBy 6 = .ok (.istore_n 2, 1) := by decide +kernel
theorem dX0_shownBy_7 : decode cX0_shownBy 7 = .ok (.aload_n 0, 1) := by decide +kernel
theorem dX0_shownBy_8 : decode cX0_shownBy 8 = .ok (.getfield 25, 3) := by decide +kernel
theorem dX0_shownBy_11 : decode cX0_shownBy 11 = .ok (.iload_n 1, 1) := by decide +kernel
theorem dX0_shownBy_12 : decode cX0_shownBy 12 = .ok (.iaload, 1) := by decide +kernel
theorem dX0_shownBy_13 : decode cX0_shownBy 13 = .ok (.istore_n 3, 1) := by decide +kernel
theorem dX0_shownBy_14 : decode cX0_shownBy 14 = .ok (.aload_n 0, 1) := by decide +kernel
theorem dX0_shownBy_15 : decode cX0_shownBy 15 = .ok (.getfield 22, 3) := by decide +kernel
theorem dX0_shownBy_18 : decode cX0_shownBy 18 = .ok (.iload_n 1, 1) := by decide +kernel
theorem dX0_shownBy_19 : decode cX0_shownBy 19 = .ok (.iaload, 1) := by decide +kernel
theorem dX0_shownBy_20 : decode cX0_shownBy 20 = .ok (.lookupswitch 45 #[(1, 28), (3, 41)], 28) := by decide +kernel
theorem dX0_shownBy_48 : decode cX0_shownBy 48 = .ok (.iload_n 3, 1) := by decide +kernel
theorem dX0_shownBy_49 : decode cX0_shownBy 49 = .ok (.iconst 1, 1) := by decide +kernel
theorem dX0_shownBy_50 : decode cX0_shownBy 50 = .ok (.if_icmp .ge 7, 3) := by decide +kernel
theorem dX0_shownBy_53 : decode cX0_shownBy 53 = .ok (.iconst 0, 1) := by decide +kernel
theorem dX0_shownBy_54 : decode cX0_shownBy 54 = .ok (.goto 6, 3) := by decide +kernel
theorem dX0_shownBy_57 : decode cX0_shownBy 57 = .ok (.iload_n 2, 1) := by decide +kernel
theorem dX0_shownBy_58 : decode cX0_shownBy 58 = .ok (.iload_n 3, 1) := by decide +kernel
theorem dX0_shownBy_59 : decode cX0_shownBy 59 = .ok (.idiv, 1) := by decide +kernel
theorem dX0_shownBy_60 : decode cX0_shownBy 60 = .ok (.ireturn, 1) := by decide +kernel
theorem dX0_shownBy_61 : decode cX0_shownBy 61 = .ok (.iconst 2, 1) := by decide +kernel
theorem dX0_shownBy_62 : decode cX0_shownBy 62 = .ok (.iload_n 2, 1) := by decide +kernel
theorem dX0_shownBy_63 : decode cX0_shownBy 63 = .ok (.imul, 1) := by decide +kernel
theorem dX0_shownBy_64 : decode cX0_shownBy 64 = .ok (.ireturn, 1) := by decide +kernel
theorem dX0_shownBy_65 : decode cX0_shownBy 65 = .ok (.iload_n 2, 1) := by decide +kernel
theorem dX0_shownBy_66 : decode cX0_shownBy 66 = .ok (.ireturn, 1) := by decide +kernel
set_option maxRecDepth 20000 in
theorem ggX0_errorOf_X0_sweepOf : GoodIn wsX0_errorOf wsX0_sweepOf := goodIn_r _ [10, 1, 11, 12, 13, 14, 24, 25, 26, 27, 28, 29, 30, 31, 32, 33] (by decide +kernel) (by decide +kernel)
set_option maxRecDepth 20000 in
theorem gX0_errorOf_X0_sweepOf : GoodIn wsX0_errorOf (wsV RX0 53 RX0 yX0_sweepOf wsX0_sweepOf) := goodIn_app (goodIn_of _ (by decide +kernel)) ggX0_errorOf_X0_sweepOf
set_option maxRecDepth 20000 in
theorem ggX0_errorOf_X0_rollOf : GoodIn wsX0_errorOf wsX0_rollOf := goodIn_r _ [18, 19, 20, 21, 22, 9, 23, 2, 3, 4, 5, 24, 25, 26, 27, 28, 29, 30, 31, 32, 33] (by decide +kernel) (by decide +kernel)
set_option maxRecDepth 20000 in
theorem gX0_errorOf_X0_rollOf : GoodIn wsX0_errorOf (wsV RX0 73 RX0 yX0_rollOf wsX0_rollOf) := goodIn_app (goodIn_of _ (by decide +kernel)) ggX0_errorOf_X0_rollOf
theorem dX0_errorOf_0 : decode cX0_errorOf 0 = .ok (.iconst 0, 1) := by decide +kernel
theorem dX0_errorOf_1 : decode cX0_errorOf 1 = .ok (.istore_n 2, 1) := by decide +kernel
theorem dX0_errorOf_2 : decode cX0_errorOf 2 = .ok (.iconst 0, 1) := by decide +kernel
theorem dX0_errorOf_3 : decode cX0_errorOf 3 = .ok (.istore_n 3, 1) := by decide +kernel
theorem dX0_errorOf_4 : decode cX0_errorOf 4 = .ok (.iload_n 3, 1) := by decide +kernel
theorem dX0_errorOf_5 : decode cX0_errorOf 5 = .ok (.aload_n 0, 1) := by decide +kernel
theorem dX0_errorOf_6 : decode cX0_errorOf 6 = .ok (.getfield 18, 3) := by decide +kernel
theorem dX0_errorOf_9 : decode cX0_errorOf 9 = .ok (.if_icmp .ge 29, 3) := by decide +kernel
theorem dX0_errorOf_12 : decode cX0_errorOf 12 = .ok (.aload_n 0, 1) := by decide +kernel
theorem dX0_errorOf_13 : decode cX0_errorOf 13 = .ok (.iload_n 3, 1) := by decide +kernel
theorem dX0_errorOf_14 : decode cX0_errorOf 14 = .ok (.invokevirtual 53, 3) := by decide +kernel
theorem dX0_errorOf_17 : decode cX0_errorOf 17 = .ok (.istore 4, 2) := by decide +kernel
theorem dX0_errorOf_19 : decode cX0_errorOf 19 = .ok (.iload_n 2, 1) := by decide +kernel
theorem dX0_errorOf_20 : decode cX0_errorOf 20 = .ok (.aload_n 0, 1) := by decide +kernel
theorem dX0_errorOf_21 : decode cX0_errorOf 21 = .ok (.iload_n 1, 1) := by decide +kernel
theorem dX0_errorOf_22 : decode cX0_errorOf 22 = .ok (.iload 4, 2) := by decide +kernel
theorem dX0_errorOf_24 : decode cX0_errorOf 24 = .ok (.invokevirtual 73, 3) := by decide +kernel
theorem dX0_errorOf_27 : decode cX0_errorOf 27 = .ok (.iload 4, 2) := by decide +kernel
theorem dX0_errorOf_29 : decode cX0_errorOf 29 = .ok (.isub, 1) := by decide +kernel
theorem dX0_errorOf_30 : decode cX0_errorOf 30 = .ok (.iadd, 1) := by decide +kernel
theorem dX0_errorOf_31 : decode cX0_errorOf 31 = .ok (.istore_n 2, 1) := by decide +kernel
theorem dX0_errorOf_32 : decode cX0_errorOf 32 = .ok (.iinc 3 1, 3) := by decide +kernel
theorem dX0_errorOf_35 : decode cX0_errorOf 35 = .ok (.goto (-31), 3) := by decide +kernel
theorem dX0_errorOf_38 : decode cX0_errorOf 38 = .ok (.iload_n 2, 1) := by decide +kernel
theorem dX0_errorOf_39 : decode cX0_errorOf 39 = .ok (.invokestatic 61, 3) := by decide +kernel
theorem dX0_errorOf_42 : decode cX0_errorOf 42 = .ok (.ireturn, 1) := by decide +kernel
theorem dX0_sumOfSteps_0 : decode cX0_sumOfSteps 0 = .ok (.iconst 0, 1) := by decide +kernel
theorem dX0_sumOfSteps_1 : decode cX0_sumOfSteps 1 = .ok (.istore_n 1, 1) := by decide +kernel
theorem dX0_sumOfSteps_2 : decode cX0_sumOfSteps 2 = .ok (.iconst 0, 1) := by decide +kernel
theorem dX0_sumOfSteps_3 : decode cX0_sumOfSteps 3 = .ok (.istore_n 2, 1) := by decide +kernel
theorem dX0_sumOfSteps_4 : decode cX0_sumOfSteps 4 = .ok (.iload_n 2, 1) := by decide +kernel
theorem dX0_sumOfSteps_5 : decode cX0_sumOfSteps 5 = .ok (.aload_n 0, 1) := by decide +kernel
theorem dX0_sumOfSteps_6 : decode cX0_sumOfSteps 6 = .ok (.getfield 31, 3) := by decide +kernel
theorem dX0_sumOfSteps_9 : decode cX0_sumOfSteps 9 = .ok (.if_icmp .ge 18, 3) := by decide +kernel
theorem dX0_sumOfSteps_12 : decode cX0_sumOfSteps 12 = .ok (.iload_n 1, 1) := by decide +kernel
theorem dX0_sumOfSteps_13 : decode cX0_sumOfSteps 13 = .ok (.aload_n 0, 1) := by decide +kernel
theorem dX0_sumOfSteps_14 : decode cX0_sumOfSteps 14 = .ok (.getfield 25, 3) := by decide +kernel
theorem dX0_sumOfSteps_17 : decode cX0_sumOfSteps 17 = .ok (.iload_n 2, 1) := by decide +kernel
theorem dX0_sumOfSteps_18 : decode cX0_sumOfSteps 18 = .ok (.iaload, 1) := by decide +kernel
theorem dX0_sumOfSteps_19 : decode cX0_sumOfSteps 19 = .ok (.iadd, 1) := by decide +kernel
theorem dX0_sumOfSteps_20 : decode cX0_sumOfSteps 20 = .ok (.istore_n 1, 1) := by decide +kernel
theorem dX0_sumOfSteps_21 : decode cX0_sumOfSteps 21 = .ok (.iinc 2 1, 3) := by decide +kernel
theorem dX0_sumOfSteps_24 : decode cX0_sumOfSteps 24 = .ok (.goto (-20), 3) := by decide +kernel
theorem dX0_sumOfSteps_27 : decode cX0_sumOfSteps 27 = .ok (.iload_n 1, 1) := by decide +kernel
theorem dX0_sumOfSteps_28 : decode cX0_sumOfSteps 28 = .ok (.ireturn, 1) := by decide +kernel
theorem dX0_sumOfPlaces_0 : decode cX0_sumOfPlaces 0 = .ok (.iconst 0, 1) := by decide +kernel
theorem dX0_sumOfPlaces_1 : decode cX0_sumOfPlaces 1 = .ok (.istore_n 1, 1) := by decide +kernel
theorem dX0_sumOfPlaces_2 : decode cX0_sumOfPlaces 2 = .ok (.iconst 0, 1) := by decide +kernel
theorem dX0_sumOfPlaces_3 : decode cX0_sumOfPlaces 3 = .ok (.istore_n 2, 1) := by decide +kernel
theorem dX0_sumOfPlaces_4 : decode cX0_sumOfPlaces 4 = .ok (.iload_n 2, 1) := by decide +kernel
theorem dX0_sumOfPlaces_5 : decode cX0_sumOfPlaces 5 = .ok (.aload_n 0, 1) := by decide +kernel
theorem dX0_sumOfPlaces_6 : decode cX0_sumOfPlaces 6 = .ok (.getfield 18, 3) := by decide +kernel
theorem dX0_sumOfPlaces_9 : decode cX0_sumOfPlaces 9 = .ok (.if_icmp .ge 25, 3) := by decide +kernel
theorem dX0_sumOfPlaces_12 : decode cX0_sumOfPlaces 12 = .ok (.iload_n 1, 1) := by decide +kernel
theorem dX0_sumOfPlaces_13 : decode cX0_sumOfPlaces 13 = .ok (.aload_n 0, 1) := by decide +kernel
theorem dX0_sumOfPlaces_14 : decode cX0_sumOfPlaces 14 = .ok (.getfield 9, 3) := by decide +kernel
theorem dX0_sumOfPlaces_17 : decode cX0_sumOfPlaces 17 = .ok (.iload_n 2, 1) := by decide +kernel
theorem dX0_sumOfPlaces_18 : decode cX0_sumOfPlaces 18 = .ok (.iaload, 1) := by decide +kernel
theorem dX0_sumOfPlaces_19 : decode cX0_sumOfPlaces 19 = .ok (.aload_n 0, 1) := by decide +kernel
theorem dX0_sumOfPlaces_20 : decode cX0_sumOfPlaces 20 = .ok (.getfield 15, 3) := by decide +kernel
theorem dX0_sumOfPlaces_23 : decode cX0_sumOfPlaces 23 = .ok (.iload_n 2, 1) := by decide +kernel
theorem dX0_sumOfPlaces_24 : decode cX0_sumOfPlaces 24 = .ok (.iaload, 1) := by decide +kernel
theorem dX0_sumOfPlaces_25 : decode cX0_sumOfPlaces 25 = .ok (.iadd, 1) := by decide +kernel
theorem dX0_sumOfPlaces_26 : decode cX0_sumOfPlaces 26 = .ok (.iadd, 1) := by decide +kernel
theorem dX0_sumOfPlaces_27 : decode cX0_sumOfPlaces 27 = .ok (.istore_n 1, 1) := by decide +kernel
theorem dX0_sumOfPlaces_28 : decode cX0_sumOfPlaces 28 = .ok (.iinc 2 1, 3) := by decide +kernel
theorem dX0_sumOfPlaces_31 : decode cX0_sumOfPlaces 31 = .ok (.goto (-27), 3) := by decide +kernel
theorem dX0_sumOfPlaces_34 : decode cX0_sumOfPlaces 34 = .ok (.iload_n 1, 1) := by decide +kernel
theorem dX0_sumOfPlaces_35 : decode cX0_sumOfPlaces 35 = .ok (.ireturn, 1) := by decide +kernel
theorem dX1_init_0 : decode cX1_init 0 = .ok (.aload_n 0, 1) := by decide +kernel
theorem dX1_init_1 : decode cX1_init 1 = .ok (.invokespecial 3, 3) := by decide +kernel
theorem dX1_init_4 : decode cX1_init 4 = .ok (.aload_n 0, 1) := by decide +kernel
theorem dX1_init_5 : decode cX1_init 5 = .ok (.bipush 40, 2) := by decide +kernel
theorem dX1_init_7 : decode cX1_init 7 = .ok (.newarray .int, 2) := by decide +kernel
theorem dX1_init_9 : decode cX1_init 9 = .ok (.putfield 9, 3) := by decide +kernel
theorem dX1_init_12 : decode cX1_init 12 = .ok (.aload_n 0, 1) := by decide +kernel
theorem dX1_init_13 : decode cX1_init 13 = .ok (.iconst 0, 1) := by decide +kernel
theorem dX1_init_14 : decode cX1_init 14 = .ok (.putfield 15, 3) := by decide +kernel
theorem dX1_init_17 : decode cX1_init 17 = .ok (.aload_n 0, 1) := by decide +kernel
theorem dX1_init_18 : decode cX1_init 18 = .ok (.iconst (-1), 1) := by decide +kernel
theorem dX1_init_19 : decode cX1_init 19 = .ok (.putfield 19, 3) := by decide +kernel
theorem dX1_init_22 : decode cX1_init 22 = .ok (.return_, 1) := by decide +kernel
theorem dX1_isNothing_0 : decode cX1_isNothing 0 = .ok (.aload_n 0, 1) := by decide +kernel
theorem dX1_isNothing_1 : decode cX1_isNothing 1 = .ok (.getfield 19, 3) := by decide +kernel
theorem dX1_isNothing_4 : decode cX1_isNothing 4 = .ok (.iconst (-1), 1) := by decide +kernel
theorem dX1_isNothing_5 : decode cX1_isNothing 5 = .ok (.if_icmp .ne 7, 3) := by decide +kernel
theorem dX1_isNothing_8 : decode cX1_isNothing 8 = .ok (.iconst 1, 1) := by decide +kernel
theorem dX1_isNothing_9 : decode cX1_isNothing 9 = .ok (.goto 4, 3) := by decide +kernel
theorem dX1_isNothing_12 : decode cX1_isNothing 12 = .ok (.iconst 0, 1) := by decide +kernel
theorem dX1_isNothing_13 : decode cX1_isNothing 13 = .ok (.ireturn, 1) := by decide +kernel
theorem dX1_renew_0 : decode cX1_renew 0 = .ok (.iconst 0, 1) := by decide +kernel
theorem dX1_renew_1 : decode cX1_renew 1 = .ok (.istore_n 3, 1) := by decide +kernel
theorem dX1_renew_2 : decode cX1_renew 2 = .ok (.iload_n 3, 1) := by decide +kernel
theorem dX1_renew_3 : decode cX1_renew 3 = .ok (.bipush 40, 2) := by decide +kernel
theorem dX1_renew_5 : decode cX1_renew 5 = .ok (.if_icmp .ge 16, 3) := by decide +kernel
theorem dX1_renew_8 : decode cX1_renew 8 = .ok (.aload_n 0, 1) := by decide +kernel
theorem dX1_renew_9 : decode cX1_renew 9 = .ok (.getfield 9, 3) := by decide +kernel
theorem dX1_renew_12 : decode cX1_renew 12 = .ok (.iload_n 3, 1) := by decide +kernel
theorem dX1_renew_13 : decode cX1_renew 13 = .ok (.iconst 0, 1) := by decide +kernel
theorem dX1_renew_14 : decode cX1_renew 14 = .ok (.iastore, 1) := by decide +kernel
theorem dX1_renew_15 : decode cX1_renew 15 = .ok (.iinc 3 1, 3) := by decide +kernel
theorem dX1_renew_18 : decode cX1_renew 18 = .ok (.goto (-16), 3) := by decide +kernel
theorem dX1_renew_21 : decode cX1_renew 21 = .ok (.aload_n 0, 1) := by decide +kernel
theorem dX1_renew_22 : decode cX1_renew 22 = .ok (.iload_n 1, 1) := by decide +kernel
theorem dX1_renew_23 : decode cX1_renew 23 = .ok (.putfield 15, 3) := by decide +kernel
theorem dX1_renew_26 : decode cX1_renew 26 = .ok (.aload_n 0, 1) := by decide +kernel
theorem dX1_renew_27 : decode cX1_renew 27 = .ok (.iload_n 2, 1) := by decide +kernel
theorem dX1_renew_28 : decode cX1_renew 28 = .ok (.putfield 19, 3) := by decide +kernel
theorem dX1_renew_31 : decode cX1_renew 31 = .ok (.return_, 1) := by decide +kernel
theorem dX1_layCell_0 : decode cX1_layCell 0 = .ok (.aload_n 0, 1) := by decide +kernel
theorem dX1_layCell_1 : decode cX1_layCell 1 = .ok (.getfield 15, 3) := by decide +kernel
theorem dX1_layCell_4 : decode cX1_layCell 4 = .ok (.ifCond .ne 14, 3) := by decide +kernel
theorem dX1_layCell_7 : decode cX1_layCell 7 = .ok (.aload_n 0, 1) := by decide +kernel
theorem dX1_layCell_8 : decode cX1_layCell 8 = .ok (.getfield 9, 3) := by decide +kernel
theorem dX1_layCell_11 : decode cX1_layCell 11 = .ok (.iload_n 1, 1) := by decide +kernel
theorem dX1_layCell_12 : decode cX1_layCell 12 = .ok (.iload_n 2, 1) := by decide +kernel
theorem dX1_layCell_13 : decode cX1_layCell 13 = .ok (.i2b, 1) := by decide +kernel
theorem dX1_layCell_14 : decode cX1_layCell 14 = .ok (.iastore, 1) := by decide +kernel
theorem dX1_layCell_15 : decode cX1_layCell 15 = .ok (.goto 29, 3) := by decide +kernel
theorem dX1_layCell_18 : decode cX1_layCell 18 = .ok (.aload_n 0, 1) := by decide +kernel
theorem dX1_layCell_19 : decode cX1_layCell 19 = .ok (.getfield 15, 3) := by decide +kernel
theorem dX1_layCell_22 : decode cX1_layCell 22 = .ok (.iconst 1, 1) := by decide +kernel
theorem dX1_layCell_23 : decode cX1_layCell 23 = .ok (.if_icmp .ne 14, 3) := by decide +kernel
theorem dX1_layCell_26 : decode cX1_layCell 26 = .ok (.aload_n 0, 1) := by decide +kernel
theorem dX1_layCell_27 : decode cX1_layCell 27 = .ok (.getfield 9, 3) := by decide +kernel
theorem dX1_layCell_30 : decode cX1_layCell 30 = .ok (.iload_n 1, 1) := by decide +kernel
theorem dX1_layCell_31 : decode cX1_layCell 31 = .ok (.iload_n 2, 1) := by decide +kernel
theorem dX1_layCell_32 : decode cX1_layCell 32 = .ok (.i2s, 1) := by decide +kernel
theorem dX1_layCell_33 : decode cX1_layCell 33 = .ok (.iastore, 1) := by decide +kernel
theorem dX1_layCell_34 : decode cX1_layCell 34 = .ok (.goto 10, 3) := by decide +kernel
theorem dX1_layCell_37 : decode cX1_layCell 37 = .ok (.aload_n 0, 1) := by decide +kernel
theorem dX1_layCell_38 : decode cX1_layCell 38 = .ok (.getfield 9, 3) := by decide +kernel
theorem dX1_layCell_41 : decode cX1_layCell 41 = .ok (.iload_n 1, 1) := by decide +kernel
theorem dX1_layCell_42 : decode cX1_layCell 42 = .ok (.iload_n 2, 1) := by decide +kernel
theorem dX1_layCell_43 : decode cX1_layCell 43 = .ok (.iastore, 1) := by decide +kernel
theorem dX1_layCell_44 : decode cX1_layCell 44 = .ok (.return_, 1) := by decide +kernel
set_option maxRecDepth 20000 in
theorem ggX1_faultAt_X1_isNothing : GoodIn wsX1_faultAt wsX1_isNothing := goodIn_r _ [7, 2, 11, 12, 13] (by decide +kernel) (by decide +kernel)
set_option maxRecDepth 20000 in
theorem gX1_faultAt_X1_isNothing : GoodIn wsX1_faultAt (wsV RX1 22 RX1 yX1_isNothing wsX1_isNothing) := goodIn_app (goodIn_of _ (by decide +kernel)) ggX1_faultAt_X1_isNothing
set_option maxRecDepth 20000 in
theorem ggX1_faultAt_X5_within : GoodIn wsX1_faultAt wsX5_within := goodIn_r _ [10] (by decide +kernel) (by decide +kernel)
set_option maxRecDepth 20000 in
theorem gX1_faultAt_X5_within_n26 : GoodIn wsX1_faultAt (wsX5_within) := ggX1_faultAt_X5_within
theorem dX1_faultAt_0 : decode cX1_faultAt 0 = .ok (.aload_n 0, 1) := by decide +kernel
theorem dX1_faultAt_1 : decode cX1_faultAt 1 = .ok (.invokevirtual 22, 3) := by decide +kernel
theorem dX1_faultAt_4 : decode cX1_faultAt 4 = .ok (.ifCond .eq 5, 3) := by decide +kernel
theorem dX1_faultAt_7 : decode cX1_faultAt 7 = .ok (.iconst 1, 1) := by decide +kernel
theorem dX1_faultAt_8 : decode cX1_faultAt 8 = .ok (.ireturn, 1) := by decide +kernel
theorem dX1_faultAt_9 : decode cX1_faultAt 9 = .ok (.iload_n 1, 1) := by decide +kernel
theorem dX1_faultAt_10 : decode cX1_faultAt 10 = .ok (.aload_n 0, 1) := by decide +kernel
theorem dX1_faultAt_11 : decode cX1_faultAt 11 = .ok (.getfield 15, 3) := by decide +kernel
theorem dX1_faultAt_14 : decode cX1_faultAt 14 = .ok (.if_icmp .eq 5, 3) := by decide +kernel
theorem dX1_faultAt_17 : decode cX1_faultAt 17 = .ok (.iconst 3, 1) := by decide +kernel
theorem dX1_faultAt_18 : decode cX1_faultAt 18 = .ok (.ireturn, 1) := by decide +kernel
theorem dX1_faultAt_19 : decode cX1_faultAt 19 = .ok (.iload_n 2, 1) := by decide +kernel
theorem dX1_faultAt_20 : decode cX1_faultAt 20 = .ok (.iconst 0, 1) := by decide +kernel
theorem dX1_faultAt_21 : decode cX1_faultAt 21 = .ok (.aload_n 0, 1) := by decide +kernel
theorem dX1_faultAt_22 : decode cX1_faultAt 22 = .ok (.getfield 19, 3) := by decide +kernel
theorem dX1_faultAt_25 : decode cX1_faultAt 25 = .ok (.iconst 1, 1) := by decide +kernel
theorem dX1_faultAt_26 : decode cX1_faultAt 26 = .ok (.isub, 1) := by decide +kernel
theorem dX1_faultAt_27 : decode cX1_faultAt 27 = .ok (.invokestatic 26, 3) := by decide +kernel
theorem dX1_faultAt_30 : decode cX1_faultAt 30 = .ok (.ifCond .eq 7, 3) := by decide +kernel
theorem dX1_faultAt_33 : decode cX1_faultAt 33 = .ok (.iconst 0, 1) := by decide +kernel
theorem dX1_faultAt_34 : decode cX1_faultAt 34 = .ok (.goto 4, 3) := by decide +kernel
theorem dX1_faultAt_37 : decode cX1_faultAt 37 = .ok (.iconst 2, 1) := by decide +kernel
theorem dX1_faultAt_38 : decode cX1_faultAt 38 = .ok (.ireturn, 1) := by decide +kernel
set_option maxRecDepth 20000 in
theorem ggX1_faultAtPair_X1_faultAt : GoodIn wsX1_faultAtPair wsX1_faultAt := goodIn_r _ [5, 6, 7, 8, 9, 10, 4, 11, 12, 13, 14, 15, 16, 17] (by decide +kernel) (by decide +kernel)
set_option maxRecDepth 20000 in
theorem gX1_faultAtPair_X1_faultAt : GoodIn wsX1_faultAtPair (wsV RX1 30 RX1 yX1_faultAt wsX1_faultAt) := goodIn_app (goodIn_of _ (by decide +kernel)) ggX1_faultAtPair_X1_faultAt
theorem dX1_faultAtPair_0 : decode cX1_faultAtPair 0 = .ok (.aload_n 0, 1) := by decide +kernel
theorem dX1_faultAtPair_1 : decode cX1_faultAtPair 1 = .ok (.iload_n 1, 1) := by decide +kernel
theorem dX1_faultAtPair_2 : decode cX1_faultAtPair 2 = .ok (.iload_n 2, 1) := by decide +kernel
theorem dX1_faultAtPair_3 : decode cX1_faultAtPair 3 = .ok (.invokevirtual 30, 3) := by decide +kernel
theorem dX1_faultAtPair_6 : decode cX1_faultAtPair 6 = .ok (.istore_n 3, 1) := by decide +kernel
theorem dX1_faultAtPair_7 : decode cX1_faultAtPair 7 = .ok (.iload_n 3, 1) := by decide +kernel
theorem dX1_faultAtPair_8 : decode cX1_faultAtPair 8 = .ok (.ifCond .eq 7, 3) := by decide +kernel
theorem dX1_faultAtPair_11 : decode cX1_faultAtPair 11 = .ok (.iload_n 3, 1) := by decide +kernel
theorem dX1_faultAtPair_12 : decode cX1_faultAtPair 12 = .ok (.goto 11, 3) := by decide +kernel
theorem dX1_faultAtPair_15 : decode cX1_faultAtPair 15 = .ok (.aload_n 0, 1) := by decide +kernel
theorem dX1_faultAtPair_16 : decode cX1_faultAtPair 16 = .ok (.iload_n 1, 1) := by decide +kernel
theorem dX1_faultAtPair_17 : decode cX1_faultAtPair 17 = .ok (.iload_n 2, 1) := by decide +kernel
theorem dX1_faultAtPair_18 : decode cX1_faultAtPair 18 = .ok (.iconst 1, 1) := by decide +kernel
theorem dX1_faultAtPair_19 : decode cX1_faultAtPair 19 = .ok (.iadd, 1) := by decide +kernel
theorem dX1_faultAtPair_20 : decode cX1_faultAtPair 20 = .ok (.invokevirtual 30, 3) := by decide +kernel
theorem dX1_faultAtPair_23 : decode cX1_faultAtPair 23 = .ok (.ireturn, 1) := by decide +kernel
theorem dX2_init_0 : decode cX2_init 0 = .ok (.aload_n 0, 1) := by decide +kernel
theorem dX2_init_1 : decode cX2_init 1 = .ok (.invokespecial 3, 3) := by decide +kernel
theorem dX2_init_4 : decode cX2_init 4 = .ok (.aload_n 0, 1) := by decide +kernel
theorem dX2_init_5 : decode cX2_init 5 = .ok (.bipush 6, 2) := by decide +kernel
theorem dX2_init_7 : decode cX2_init 7 = .ok (.newarray .int, 2) := by decide +kernel
theorem dX2_init_9 : decode cX2_init 9 = .ok (.putfield 9, 3) := by decide +kernel
theorem dX2_init_12 : decode cX2_init 12 = .ok (.aload_n 0, 1) := by decide +kernel
theorem dX2_init_13 : decode cX2_init 13 = .ok (.bipush 6, 2) := by decide +kernel
theorem dX2_init_15 : decode cX2_init 15 = .ok (.newarray .int, 2) := by decide +kernel
theorem dX2_init_17 : decode cX2_init 17 = .ok (.putfield 15, 3) := by decide +kernel
theorem dX2_init_20 : decode cX2_init 20 = .ok (.aload_n 0, 1) := by decide +kernel
theorem dX2_init_21 : decode cX2_init 21 = .ok (.bipush 6, 2) := by decide +kernel
theorem dX2_init_23 : decode cX2_init 23 = .ok (.newarray .int, 2) := by decide +kernel
theorem dX2_init_25 : decode cX2_init 25 = .ok (.putfield 18, 3) := by decide +kernel
theorem dX2_init_28 : decode cX2_init 28 = .ok (.aload_n 0, 1) := by decide +kernel
theorem dX2_init_29 : decode cX2_init 29 = .ok (.iconst 0, 1) := by decide +kernel
theorem dX2_init_30 : decode cX2_init 30 = .ok (.putfield 21, 3) := by decide +kernel
theorem dX2_init_33 : decode cX2_init 33 = .ok (.return_, 1) := by decide +kernel
theorem dX2_append_0 : decode cX2_append 0 = .ok (.aload_n 0, 1) := by decide +kernel
theorem dX2_append_1 : decode cX2_append 1 = .ok (.getfield 21, 3) := by decide +kernel
theorem dX2_append_4 : decode cX2_append 4 = .ok (.bipush 6, 2) := by decide +kernel
theorem dX2_append_6 : decode cX2_append 6 = .ok (.if_icmp .ge 43, 3) := by decide +kernel
theorem dX2_append_9 : decode cX2_append 9 = .ok (.aload_n 0, 1) := by decide +kernel
theorem dX2_append_10 : decode cX2_append 10 = .ok (.getfield 9, 3) := by decide +kernel
theorem dX2_append_13 : decode cX2_append 13 = .ok (.aload_n 0, 1) := by decide +kernel
theorem dX2_append_14 : decode cX2_append 14 = .ok (.getfield 21, 3) := by decide +kernel
theorem dX2_append_17 : decode cX2_append 17 = .ok (.iload_n 1, 1) := by decide +kernel
theorem dX2_append_18 : decode cX2_append 18 = .ok (.iastore, 1) := by decide +kernel
theorem dX2_append_19 : decode cX2_append 19 = .ok (.aload_n 0, 1) := by decide +kernel
theorem dX2_append_20 : decode cX2_append 20 = .ok (.getfield 15, 3) := by decide +kernel
theorem dX2_append_23 : decode cX2_append 23 = .ok (.aload_n 0, 1) := by decide +kernel
theorem dX2_append_24 : decode cX2_append 24 = .ok (.getfield 21, 3) := by decide +kernel
theorem dX2_append_27 : decode cX2_append 27 = .ok (.iload_n 2, 1) := by decide +kernel
theorem dX2_append_28 : decode cX2_append 28 = .ok (.iastore, 1) := by decide +kernel
theorem dX2_append_29 : decode cX2_append 29 = .ok (.aload_n 0, 1) := by decide +kernel
theorem dX2_append_30 : decode cX2_append 30 = .ok (.getfield 18, 3) := by decide +kernel
theorem dX2_append_33 : decode cX2_append 33 = .ok (.aload_n 0, 1) := by decide +kernel
theorem dX2_append_34 : decode cX2_append 34 = .ok (.getfield 21, 3) := by decide +kernel
theorem dX2_append_37 : decode cX2_append 37 = .ok (.iload_n 3, 1) := by decide +kernel
theorem dX2_append_38 : decode cX2_append 38 = .ok (.iastore, 1) := by decide +kernel
theorem dX2_append_39 : decode cX2_append 39 = .ok (.aload_n 0, 1) := by decide +kernel
theorem dX2_append_40 : decode cX2_append 40 = .ok (.dup, 1) := by decide +kernel
theorem dX2_append_41 : decode cX2_append 41 = .ok (.getfield 21, 3) := by decide +kernel
theorem dX2_append_44 : decode cX2_append 44 = .ok (.iconst 1, 1) := by decide +kernel
theorem dX2_append_45 : decode cX2_append 45 = .ok (.iadd, 1) := by decide +kernel
theorem dX2_append_46 : decode cX2_append 46 = .ok (.putfield 21, 3) := by decide +kernel
theorem dX2_append_49 : decode cX2_append 49 = .ok (.return_, 1) := by decide +kernel
set_option maxRecDepth 20000 in
theorem ggX2_agreeWith_X0_readsAhead : GoodIn wsX2_agreeWith wsX0_readsAhead := goodIn_r _ [10, 11, 12, 13, 14, 9, 15, 16, 17, 18, 19, 20, 21, 22, 23, 24, 25, 26, 27, 28, 29, 30, 31, 32, 33, 34, 35, 36, 37, 38, 39, 40, 41, 42, 47, 48, 49, 50, 51, 52, 53, 54, 55, 56] (by decide +kernel) (by decide +kernel)
set_option maxRecDepth 20000 in
theorem gX2_agreeWith_X0_readsAhead : GoodIn wsX2_agreeWith (wsV RX2 30 RX0 yX0_readsAhead wsX0_readsAhead) := goodIn_app (goodIn_of _ (by decide +kernel)) ggX2_agreeWith_X0_readsAhead
theorem dX2_agreeWith_0 : decode cX2_agreeWith 0 = .ok (.iconst 0, 1) := by decide +kernel
theorem dX2_agreeWith_1 : decode cX2_agreeWith 1 = .ok (.istore_n 2, 1) := by decide +kernel
theorem dX2_agreeWith_2 : decode cX2_agreeWith 2 = .ok (.iload_n 2, 1) := by decide +kernel
theorem dX2_agreeWith_3 : decode cX2_agreeWith 3 = .ok (.aload_n 0, 1) := by decide +kernel
theorem dX2_agreeWith_4 : decode cX2_agreeWith 4 = .ok (.getfield 21, 3) := by decide +kernel
theorem dX2_agreeWith_7 : decode cX2_agreeWith 7 = .ok (.if_icmp .ge 49, 3) := by decide +kernel
theorem dX2_agreeWith_10 : decode cX2_agreeWith 10 = .ok (.aload_n 0, 1) := by decide +kernel
theorem dX2_agreeWith_11 : decode cX2_agreeWith 11 = .ok (.getfield 15, 3) := by decide +kernel
theorem dX2_agreeWith_14 : decode cX2_agreeWith 14 = .ok (.iload_n 2, 1) := by decide +kernel
theorem dX2_agreeWith_15 : decode cX2_agreeWith 15 = .ok (.iaload, 1) := by decide +kernel
theorem dX2_agreeWith_16 : decode cX2_agreeWith 16 = .ok (.aload_n 1, 1) := by decide +kernel
theorem dX2_agreeWith_17 : decode cX2_agreeWith 17 = .ok (.getfield 25, 3) := by decide +kernel
theorem dX2_agreeWith_20 : decode cX2_agreeWith 20 = .ok (.if_icmp .ge 28, 3) := by decide +kernel
theorem dX2_agreeWith_23 : decode cX2_agreeWith 23 = .ok (.aload_n 1, 1) := by decide +kernel
theorem dX2_agreeWith_24 : decode cX2_agreeWith 24 = .ok (.aload_n 0, 1) := by decide +kernel
theorem dX2_agreeWith_25 : decode cX2_agreeWith 25 = .ok (.getfield 15, 3) := by decide +kernel
theorem dX2_agreeWith_28 : decode cX2_agreeWith 28 = .ok (.iload_n 2, 1) := by decide +kernel
theorem dX2_agreeWith_29 : decode cX2_agreeWith 29 = .ok (.iaload, 1) := by decide +kernel
theorem dX2_agreeWith_30 : decode cX2_agreeWith 30 = .ok (.aload_n 0, 1) := by decide +kernel
theorem dX2_agreeWith_31 : decode cX2_agreeWith 31 = .ok (.getfield 9, 3) := by decide +kernel
theorem dX2_agreeWith_34 : decode cX2_agreeWith 34 = .ok (.iload_n 2, 1) := by decide +kernel
theorem dX2_agreeWith_35 : decode cX2_agreeWith 35 = .ok (.iaload, 1) := by decide +kernel
theorem dX2_agreeWith_36 : decode cX2_agreeWith 36 = .ok (.invokevirtual 30, 3) := by decide +kernel
theorem dX2_agreeWith_39 : decode cX2_agreeWith 39 = .ok (.aload_n 0, 1) := by decide +kernel
theorem dX2_agreeWith_40 : decode cX2_agreeWith 40 = .ok (.getfield 18, 3) := by decide +kernel
theorem dX2_agreeWith_43 : decode cX2_agreeWith 43 = .ok (.iload_n 2, 1) := by decide +kernel
theorem dX2_agreeWith_44 : decode cX2_agreeWith 44 = .ok (.iaload, 1) := by decide +kernel
theorem dX2_agreeWith_45 : decode cX2_agreeWith 45 = .ok (.if_icmp .eq 5, 3) := by decide +kernel
theorem dX2_agreeWith_48 : decode cX2_agreeWith 48 = .ok (.iconst 0, 1) := by decide +kernel
theorem dX2_agreeWith_49 : decode cX2_agreeWith 49 = .ok (.ireturn, 1) := by decide +kernel
theorem dX2_agreeWith_50 : decode cX2_agreeWith 50 = .ok (.iinc 2 1, 3) := by decide +kernel
theorem dX2_agreeWith_53 : decode cX2_agreeWith 53 = .ok (.goto (-51), 3) := by decide +kernel
theorem dX2_agreeWith_56 : decode cX2_agreeWith 56 = .ok (.iconst 1, 1) := by decide +kernel
theorem dX2_agreeWith_57 : decode cX2_agreeWith 57 = .ok (.ireturn, 1) := by decide +kernel
theorem dX3_init_0 : decode cX3_init 0 = .ok (.aload_n 0, 1) := by decide +kernel
theorem dX3_init_1 : decode cX3_init 1 = .ok (.invokespecial 3, 3) := by decide +kernel
theorem dX3_init_4 : decode cX3_init 4 = .ok (.aload_n 0, 1) := by decide +kernel
theorem dX3_init_5 : decode cX3_init 5 = .ok (.sipush 160, 3) := by decide +kernel
theorem dX3_init_8 : decode cX3_init 8 = .ok (.newarray .byte, 2) := by decide +kernel
theorem dX3_init_10 : decode cX3_init 10 = .ok (.putfield 9, 3) := by decide +kernel
theorem dX3_init_13 : decode cX3_init 13 = .ok (.aload_n 0, 1) := by decide +kernel
theorem dX3_init_14 : decode cX3_init 14 = .ok (.iconst 0, 1) := by decide +kernel
theorem dX3_init_15 : decode cX3_init 15 = .ok (.putfield 15, 3) := by decide +kernel
theorem dX3_init_18 : decode cX3_init 18 = .ok (.aload_n 0, 1) := by decide +kernel
theorem dX3_init_19 : decode cX3_init 19 = .ok (.iconst 0, 1) := by decide +kernel
theorem dX3_init_20 : decode cX3_init 20 = .ok (.putfield 19, 3) := by decide +kernel
theorem dX3_init_23 : decode cX3_init 23 = .ok (.aload_n 0, 1) := by decide +kernel
theorem dX3_init_24 : decode cX3_init 24 = .ok (.iconst 0, 1) := by decide +kernel
theorem dX3_init_25 : decode cX3_init 25 = .ok (.putfield 22, 3) := by decide +kernel
theorem dX3_init_28 : decode cX3_init 28 = .ok (.aload_n 0, 1) := by decide +kernel
theorem dX3_init_29 : decode cX3_init 29 = .ok (.iconst 0, 1) := by decide +kernel
theorem dX3_init_30 : decode cX3_init 30 = .ok (.putfield 25, 3) := by decide +kernel
theorem dX3_init_33 : decode cX3_init 33 = .ok (.return_, 1) := by decide +kernel
theorem dX3_append_0 : decode cX3_append 0 = .ok (.aload_n 0, 1) := by decide +kernel
theorem dX3_append_1 : decode cX3_append 1 = .ok (.getfield 15, 3) := by decide +kernel
theorem dX3_append_4 : decode cX3_append 4 = .ok (.sipush 160, 3) := by decide +kernel
theorem dX3_append_7 : decode cX3_append 7 = .ok (.if_icmp .ge 24, 3) := by decide +kernel
theorem dX3_append_10 : decode cX3_append 10 = .ok (.aload_n 0, 1) := by decide +kernel
theorem dX3_append_11 : decode cX3_append 11 = .ok (.getfield 9, 3) := by decide +kernel
theorem dX3_append_14 : decode cX3_append 14 = .ok (.aload_n 0, 1) := by decide +kernel
theorem dX3_append_15 : decode cX3_append 15 = .ok (.getfield 15, 3) := by decide +kernel
theorem dX3_append_18 : decode cX3_append 18 = .ok (.iload_n 1, 1) := by decide +kernel
theorem dX3_append_19 : decode cX3_append 19 = .ok (.i2b, 1) := by decide +kernel
theorem dX3_append_20 : decode cX3_append 20 = .ok (.bastore, 1) := by decide +kernel
theorem dX3_append_21 : decode cX3_append 21 = .ok (.aload_n 0, 1) := by decide +kernel
theorem dX3_append_22 : decode cX3_append 22 = .ok (.dup, 1) := by decide +kernel
theorem dX3_append_23 : decode cX3_append 23 = .ok (.getfield 15, 3) := by decide +kernel
theorem dX3_append_26 : decode cX3_append 26 = .ok (.iconst 1, 1) := by decide +kernel
theorem dX3_append_27 : decode cX3_append 27 = .ok (.iadd, 1) := by decide +kernel
theorem dX3_append_28 : decode cX3_append 28 = .ok (.putfield 15, 3) := by decide +kernel
theorem dX3_append_31 : decode cX3_append 31 = .ok (.return_, 1) := by decide +kernel
theorem dX3_rewind_0 : decode cX3_rewind 0 = .ok (.aload_n 0, 1) := by decide +kernel
theorem dX3_rewind_1 : decode cX3_rewind 1 = .ok (.iconst 0, 1) := by decide +kernel
theorem dX3_rewind_2 : decode cX3_rewind 2 = .ok (.putfield 25, 3) := by decide +kernel
theorem dX3_rewind_5 : decode cX3_rewind 5 = .ok (.return_, 1) := by decide +kernel
set_option maxRecDepth 20000 in
theorem ggX3_nextToken_X3_endOfRun : GoodIn wsX3_nextToken wsX3_endOfRun := goodIn_r _ [10, 3, 5, 11, 12, 13, 14, 15] (by decide +kernel) (by decide +kernel)
set_option maxRecDepth 20000 in
theorem gX3_nextToken_X3_endOfRun : GoodIn wsX3_nextToken (wsV RX3 28 RX3 yX3_endOfRun wsX3_endOfRun) := goodIn_app (goodIn_of _ (by decide +kernel)) ggX3_nextToken_X3_endOfRun
theorem dX3_nextToken_0 : decode cX3_nextToken 0 = .ok (.aload_n 0, 1) := by decide +kernel
theorem dX3_nextToken_1 : decode cX3_nextToken 1 = .ok (.aload_n 0, 1) := by decide +kernel
theorem dX3_nextToken_2 : decode cX3_nextToken 2 = .ok (.aload_n 0, 1) := by decide +kernel
theorem dX3_nextToken_3 : decode cX3_nextToken 3 = .ok (.getfield 25, 3) := by decide +kernel
theorem dX3_nextToken_6 : decode cX3_nextToken 6 = .ok (.bipush 32, 2) := by decide +kernel
theorem dX3_nextToken_8 : decode cX3_nextToken 8 = .ok (.bipush 32, 2) := by decide +kernel
theorem dX3_nextToken_10 : decode cX3_nextToken 10 = .ok (.invokevirtual 28, 3) := by decide +kernel
theorem dX3_nextToken_13 : decode cX3_nextToken 13 = .ok (.putfield 22, 3) := by decide +kernel
theorem dX3_nextToken_16 : decode cX3_nextToken 16 = .ok (.aload_n 0, 1) := by decide +kernel
theorem dX3_nextToken_17 : decode cX3_nextToken 17 = .ok (.getfield 22, 3) := by decide +kernel
theorem dX3_nextToken_20 : decode cX3_nextToken 20 = .ok (.aload_n 0, 1) := by decide +kernel
theorem dX3_nextToken_21 : decode cX3_nextToken 21 = .ok (.getfield 15, 3) := by decide +kernel
theorem dX3_nextToken_24 : decode cX3_nextToken 24 = .ok (.if_icmp .lt 9, 3) := by decide +kernel
theorem dX3_nextToken_27 : decode cX3_nextToken 27 = .ok (.aload_n 0, 1) := by decide +kernel
theorem dX3_nextToken_28 : decode cX3_nextToken 28 = .ok (.iconst 0, 1) := by decide +kernel
theorem dX3_nextToken_29 : decode cX3_nextToken 29 = .ok (.putfield 19, 3) := by decide +kernel
theorem dX3_nextToken_32 : decode cX3_nextToken 32 = .ok (.return_, 1) := by decide +kernel
theorem dX3_nextToken_33 : decode cX3_nextToken 33 = .ok (.aload_n 0, 1) := by decide +kernel
theorem dX3_nextToken_34 : decode cX3_nextToken 34 = .ok (.getfield 9, 3) := by decide +kernel
theorem dX3_nextToken_37 : decode cX3_nextToken 37 = .ok (.aload_n 0, 1) := by decide +kernel
theorem dX3_nextToken_38 : decode cX3_nextToken 38 = .ok (.getfield 22, 3) := by decide +kernel
theorem dX3_nextToken_41 : decode cX3_nextToken 41 = .ok (.baload, 1) := by decide +kernel
theorem dX3_nextToken_42 : decode cX3_nextToken 42 = .ok (.istore_n 1, 1) := by decide +kernel
theorem dX3_nextToken_43 : decode cX3_nextToken 43 = .ok (.iload_n 1, 1) := by decide +kernel
theorem dX3_nextToken_44 : decode cX3_nextToken 44 = .ok (.bipush 97, 2) := by decide +kernel
theorem dX3_nextToken_46 : decode cX3_nextToken 46 = .ok (.if_icmp .lt 33, 3) := by decide +kernel
theorem dX3_nextToken_49 : decode cX3_nextToken 49 = .ok (.iload_n 1, 1) := by decide +kernel
theorem dX3_nextToken_50 : decode cX3_nextToken 50 = .ok (.bipush 122, 2) := by decide +kernel
theorem dX3_nextToken_52 : decode cX3_nextToken 52 = .ok (.if_icmp .gt 27, 3) := by decide +kernel
theorem dX3_nextToken_55 : decode cX3_nextToken 55 = .ok (.aload_n 0, 1) := by decide +kernel
theorem dX3_nextToken_56 : decode cX3_nextToken 56 = .ok (.aload_n 0, 1) := by decide +kernel
theorem dX3_nextToken_57 : decode cX3_nextToken 57 = .ok (.aload_n 0, 1) := by decide +kernel
theorem dX3_nextToken_58 : decode cX3_nextToken 58 = .ok (.getfield 22, 3) := by decide +kernel
theorem dX3_nextToken_61 : decode cX3_nextToken 61 = .ok (.bipush 97, 2) := by decide +kernel
theorem dX3_nextToken_63 : decode cX3_nextToken 63 = .ok (.bipush 122, 2) := by decide +kernel
theorem dX3_nextToken_65 : decode cX3_nextToken 65 = .ok (.invokevirtual 28, 3) := by decide +kernel
theorem dX3_nextToken_68 : decode cX3_nextToken 68 = .ok (.putfield 25, 3) := by decide +kernel
theorem dX3_nextToken_71 : decode cX3_nextToken 71 = .ok (.aload_n 0, 1) := by decide +kernel
theorem dX3_nextToken_72 : decode cX3_nextToken 72 = .ok (.iconst 1, 1) := by decide +kernel
theorem dX3_nextToken_73 : decode cX3_nextToken 73 = .ok (.putfield 19, 3) := by decide +kernel
theorem dX3_nextToken_76 : decode cX3_nextToken 76 = .ok (.goto 81, 3) := by decide +kernel
theorem dX3_nextToken_79 : decode cX3_nextToken 79 = .ok (.iload_n 1, 1) := by decide +kernel
theorem dX3_nextToken_80 : decode cX3_nextToken 80 = .ok (.bipush 48, 2) := by decide +kernel
theorem dX3_nextToken_82 : decode cX3_nextToken 82 = .ok (.if_icmp .lt 50, 3) := by decide +kernel
theorem dX3_nextToken_85 : decode cX3_nextToken 85 = .ok (.iload_n 1, 1) := by decide +kernel
theorem dX3_nextToken_86 : decode cX3_nextToken 86 = .ok (.bipush 57, 2) := by decide +kernel
theorem dX3_nextToken_88 : decode cX3_nextToken 88 = .ok (.if_icmp .gt 44, 3) := by decide +kernel
theorem dX3_nextToken_91 : decode cX3_nextToken 91 = .ok (.aload_n 0, 1) := by decide +kernel
theorem dX3_nextToken_92 : decode cX3_nextToken 92 = .ok (.aload_n 0, 1) := by decide +kernel
theorem dX3_nextToken_93 : decode cX3_nextToken 93 = .ok (.aload_n 0, 1) := by decide +kernel
theorem dX3_nextToken_94 : decode cX3_nextToken 94 = .ok (.getfield 22, 3) := by decide +kernel
theorem dX3_nextToken_97 : decode cX3_nextToken 97 = .ok (.bipush 48, 2) := by decide +kernel
theorem dX3_nextToken_99 : decode cX3_nextToken 99 = .ok (.bipush 57, 2) := by decide +kernel
theorem dX3_nextToken_101 : decode cX3_nextToken 101 = .ok (.invokevirtual 28, 3) := by decide +kernel
theorem dX3_nextToken_104 : decode cX3_nextToken 104 = .ok (.putfield 25, 3) := by decide +kernel
theorem dX3_nextToken_107 : decode cX3_nextToken 107 = .ok (.aload_n 0, 1) := by decide +kernel
theorem dX3_nextToken_108 : decode cX3_nextToken 108 = .ok (.aload_n 0, 1) := by decide +kernel
theorem dX3_nextToken_109 : decode cX3_nextToken 109 = .ok (.getfield 25, 3) := by decide +kernel
theorem dX3_nextToken_112 : decode cX3_nextToken 112 = .ok (.aload_n 0, 1) := by decide +kernel
theorem dX3_nextToken_113 : decode cX3_nextToken 113 = .ok (.getfield 22, 3) := by decide +kernel
theorem dX3_nextToken_116 : decode cX3_nextToken 116 = .ok (.isub, 1) := by decide +kernel
theorem dX3_nextToken_117 : decode cX3_nextToken 117 = .ok (.iconst 2, 1) := by decide +kernel
theorem dX3_nextToken_118 : decode cX3_nextToken 118 = .ok (.if_icmp .gt 7, 3) := by decide +kernel
theorem dX3_nextToken_121 : decode cX3_nextToken 121 = .ok (.iconst 2, 1) := by decide +kernel
theorem dX3_nextToken_122 : decode cX3_nextToken 122 = .ok (.goto 4, 3) := by decide +kernel
theorem dX3_nextToken_125 : decode cX3_nextToken 125 = .ok (.iconst 4, 1) := by decide +kernel
theorem dX3_nextToken_126 : decode cX3_nextToken 126 = .ok (.putfield 19, 3) := by decide +kernel
theorem dX3_nextToken_129 : decode cX3_nextToken 129 = .ok (.goto 28, 3) := by decide +kernel
theorem dX3_nextToken_132 : decode cX3_nextToken 132 = .ok (.aload_n 0, 1) := by decide +kernel
theorem dX3_nextToken_133 : decode cX3_nextToken 133 = .ok (.aload_n 0, 1) := by decide +kernel
theorem dX3_nextToken_134 : decode cX3_nextToken 134 = .ok (.getfield 22, 3) := by decide +kernel
theorem dX3_nextToken_137 : decode cX3_nextToken 137 = .ok (.iconst 1, 1) := by decide +kernel
theorem dX3_nextToken_138 : decode cX3_nextToken 138 = .ok (.iadd, 1) := by decide +kernel
theorem dX3_nextToken_139 : decode cX3_nextToken 139 = .ok (.putfield 25, 3) := by decide +kernel
theorem dX3_nextToken_142 : decode cX3_nextToken 142 = .ok (.aload_n 0, 1) := by decide +kernel
theorem dX3_nextToken_143 : decode cX3_nextToken 143 = .ok (.iload_n 1, 1) := by decide +kernel
theorem dX3_nextToken_144 : decode cX3_nextToken 144 = .ok (.bipush 59, 2) := by decide +kernel
theorem dX3_nextToken_146 : decode cX3_nextToken 146 = .ok (.if_icmp .ne 7, 3) := by decide +kernel
theorem dX3_nextToken_149 : decode cX3_nextToken 149 = .ok (.iconst 3, 1) := by decide +kernel
theorem dX3_nextToken_150 : decode cX3_nextToken 150 = .ok (.goto 4, 3) := by decide +kernel
theorem dX3_nextToken_153 : decode cX3_nextToken 153 = .ok (.iconst 4, 1) := by decide +kernel
theorem dX3_nextToken_154 : decode cX3_nextToken 154 = .ok (.putfield 19, 3) := by decide +kernel
theorem dX3_nextToken_157 : decode cX3_nextToken 157 = .ok (.return_, 1) := by decide +kernel
theorem dX3_endOfRun_0 : decode cX3_endOfRun 0 = .ok (.iload_n 1, 1) := by decide +kernel
theorem dX3_endOfRun_1 : decode cX3_endOfRun 1 = .ok (.istore 4, 2) := by decide +kernel
theorem dX3_endOfRun_3 : decode cX3_endOfRun 3 = .ok (.iload 4, 2) := by decide +kernel
theorem dX3_endOfRun_5 : decode cX3_endOfRun 5 = .ok (.aload_n 0, 1) := by decide +kernel
theorem dX3_endOfRun_6 : decode cX3_endOfRun 6 = .ok (.getfield 15, 3) := by decide +kernel
theorem dX3_endOfRun_9 : decode cX3_endOfRun 9 = .ok (.if_icmp .ge 31, 3) := by decide +kernel
theorem dX3_endOfRun_12 : decode cX3_endOfRun 12 = .ok (.aload_n 0, 1) := by decide +kernel
theorem dX3_endOfRun_13 : decode cX3_endOfRun 13 = .ok (.getfield 9, 3) := by decide +kernel
theorem dX3_endOfRun_16 : decode cX3_endOfRun 16 = .ok (.iload 4, 2) := by decide +kernel
theorem dX3_endOfRun_18 : decode cX3_endOfRun 18 = .ok (.baload, 1) := by decide +kernel
theorem dX3_endOfRun_19 : decode cX3_endOfRun 19 = .ok (.iload_n 2, 1) := by decide +kernel
theorem dX3_endOfRun_20 : decode cX3_endOfRun 20 = .ok (.if_icmp .lt 20, 3) := by decide +kernel
theorem dX3_endOfRun_23 : decode cX3_endOfRun 23 = .ok (.aload_n 0, 1) := by decide +kernel
theorem dX3_endOfRun_24 : decode cX3_endOfRun 24 = .ok (.getfield 9, 3) := by decide +kernel
theorem dX3_endOfRun_27 : decode cX3_endOfRun 27 = .ok (.iload 4, 2) := by decide +kernel
theorem dX3_endOfRun_29 : decode cX3_endOfRun 29 = .ok (.baload, 1) := by decide +kernel
theorem dX3_endOfRun_30 : decode cX3_endOfRun 30 = .ok (.iload_n 3, 1) := by decide +kernel
theorem dX3_endOfRun_31 : decode cX3_endOfRun 31 = .ok (.if_icmp .gt 9, 3) := by decide +kernel
theorem dX3_endOfRun_34 : decode cX3_endOfRun 34 = .ok (.iinc 4 1, 3) := by decide +kernel
theorem dX3_endOfRun_37 : decode cX3_endOfRun 37 = .ok (.goto (-34), 3) := by decide +kernel
theorem dX3_endOfRun_40 : decode cX3_endOfRun 40 = .ok (.iload 4, 2) := by decide +kernel
theorem dX3_endOfRun_42 : decode cX3_endOfRun 42 = .ok (.ireturn, 1) := by decide +kernel
set_option maxRecDepth 20000 in
theorem ggX3_tokenIs_J0_length_8abf5 : GoodIn wsX3_tokenIs wsJ0_length_8abf5 := goodIn_r _ [8, 9, 10, 11, 12, 7, 13, 14, 15] (by decide +kernel) (by decide +kernel)
set_option maxRecDepth 20000 in
theorem gX3_tokenIs_J0_length_8abf5 : GoodIn wsX3_tokenIs (wsV RX3 32 RJ0 yJ0_length_8abf5 wsJ0_length_8abf5) := goodIn_app (goodIn_of _ (by decide +kernel)) ggX3_tokenIs_J0_length_8abf5
set_option maxRecDepth 20000 in
theorem ggX3_tokenIs_J0_charAt_5068e : GoodIn wsX3_tokenIs wsJ0_charAt_5068e := goodIn_r _ [19, 9, 20, 21, 22, 7, 23, 14, 15, 24, 25, 26, 27, 28, 29, 30, 31, 32, 33, 34, 35, 36, 37, 38, 39, 40, 41, 42, 43, 44, 45, 46, 47, 48, 49, 50, 51, 52] (by decide +kernel) (by decide +kernel)
set_option maxRecDepth 20000 in
theorem gX3_tokenIs_J0_charAt_5068e : GoodIn wsX3_tokenIs (wsV RX3 38 RJ0 yJ0_charAt_5068e wsJ0_charAt_5068e) := goodIn_app (goodIn_of _ (by decide +kernel)) ggX3_tokenIs_J0_charAt_5068e
theorem dX3_tokenIs_0 : decode cX3_tokenIs 0 = .ok (.aload_n 1, 1) := by decide +kernel
theorem dX3_tokenIs_1 : decode cX3_tokenIs 1 = .ok (.invokevirtual 32, 3) := by decide +kernel
theorem dX3_tokenIs_4 : decode cX3_tokenIs 4 = .ok (.istore_n 2, 1) := by decide +kernel
theorem dX3_tokenIs_5 : decode cX3_tokenIs 5 = .ok (.aload_n 0, 1) := by decide +kernel
theorem dX3_tokenIs_6 : decode cX3_tokenIs 6 = .ok (.getfield 25, 3) := by decide +kernel
theorem dX3_tokenIs_9 : decode cX3_tokenIs 9 = .ok (.aload_n 0, 1) := by decide +kernel
theorem dX3_tokenIs_10 : decode cX3_tokenIs 10 = .ok (.getfield 22, 3) := by decide +kernel
theorem dX3_tokenIs_13 : decode cX3_tokenIs 13 = .ok (.isub, 1) := by decide +kernel
theorem dX3_tokenIs_14 : decode cX3_tokenIs 14 = .ok (.iload_n 2, 1) := by decide +kernel
theorem dX3_tokenIs_15 : decode cX3_tokenIs 15 = .ok (.if_icmp .eq 5, 3) := by decide +kernel
theorem dX3_tokenIs_18 : decode cX3_tokenIs 18 = .ok (.iconst 0, 1) := by decide +kernel
theorem dX3_tokenIs_19 : decode cX3_tokenIs 19 = .ok (.ireturn, 1) := by decide +kernel
theorem dX3_tokenIs_20 : decode cX3_tokenIs 20 = .ok (.iconst 0, 1) := by decide +kernel
theorem dX3_tokenIs_21 : decode cX3_tokenIs 21 = .ok (.istore_n 3, 1) := by decide +kernel
theorem dX3_tokenIs_22 : decode cX3_tokenIs 22 = .ok (.iload_n 3, 1) := by decide +kernel
theorem dX3_tokenIs_23 : decode cX3_tokenIs 23 = .ok (.iload_n 2, 1) := by decide +kernel
theorem dX3_tokenIs_24 : decode cX3_tokenIs 24 = .ok (.if_icmp .ge 30, 3) := by decide +kernel
theorem dX3_tokenIs_27 : decode cX3_tokenIs 27 = .ok (.aload_n 0, 1) := by decide +kernel
theorem dX3_tokenIs_28 : decode cX3_tokenIs 28 = .ok (.getfield 9, 3) := by decide +kernel
theorem dX3_tokenIs_31 : decode cX3_tokenIs 31 = .ok (.aload_n 0, 1) := by decide +kernel
theorem dX3_tokenIs_32 : decode cX3_tokenIs 32 = .ok (.getfield 22, 3) := by decide +kernel
theorem dX3_tokenIs_35 : decode cX3_tokenIs 35 = .ok (.iload_n 3, 1) := by decide +kernel
theorem dX3_tokenIs_36 : decode cX3_tokenIs 36 = .ok (.iadd, 1) := by decide +kernel
theorem dX3_tokenIs_37 : decode cX3_tokenIs 37 = .ok (.baload, 1) := by decide +kernel
theorem dX3_tokenIs_38 : decode cX3_tokenIs 38 = .ok (.aload_n 1, 1) := by decide +kernel
theorem dX3_tokenIs_39 : decode cX3_tokenIs 39 = .ok (.iload_n 3, 1) := by decide +kernel
theorem dX3_tokenIs_40 : decode cX3_tokenIs 40 = .ok (.invokevirtual 38, 3) := by decide +kernel
theorem dX3_tokenIs_43 : decode cX3_tokenIs 43 = .ok (.if_icmp .eq 5, 3) := by decide +kernel
theorem dX3_tokenIs_46 : decode cX3_tokenIs 46 = .ok (.iconst 0, 1) := by decide +kernel
theorem dX3_tokenIs_47 : decode cX3_tokenIs 47 = .ok (.ireturn, 1) := by decide +kernel
theorem dX3_tokenIs_48 : decode cX3_tokenIs 48 = .ok (.iinc 3 1, 3) := by decide +kernel
theorem dX3_tokenIs_51 : decode cX3_tokenIs 51 = .ok (.goto (-29), 3) := by decide +kernel
theorem dX3_tokenIs_54 : decode cX3_tokenIs 54 = .ok (.iconst 1, 1) := by decide +kernel
theorem dX3_tokenIs_55 : decode cX3_tokenIs 55 = .ok (.ireturn, 1) := by decide +kernel
theorem dX3_numberOfToken_0 : decode cX3_numberOfToken 0 = .ok (.iconst 0, 1) := by decide +kernel
theorem dX3_numberOfToken_1 : decode cX3_numberOfToken 1 = .ok (.istore_n 1, 1) := by decide +kernel
theorem dX3_numberOfToken_2 : decode cX3_numberOfToken 2 = .ok (.aload_n 0, 1) := by decide +kernel
theorem dX3_numberOfToken_3 : decode cX3_numberOfToken 3 = .ok (.getfield 22, 3) := by decide +kernel
theorem dX3_numberOfToken_6 : decode cX3_numberOfToken 6 = .ok (.istore_n 2, 1) := by decide +kernel
theorem dX3_numberOfToken_7 : decode cX3_numberOfToken 7 = .ok (.iload_n 2, 1) := by decide +kernel
theorem dX3_numberOfToken_8 : decode cX3_numberOfToken 8 = .ok (.aload_n 0, 1) := by decide +kernel
theorem dX3_numberOfToken_9 : decode cX3_numberOfToken 9 = .ok (.getfield 25, 3) := by decide +kernel
theorem dX3_numberOfToken_12 : decode cX3_numberOfToken 12 = .ok (.if_icmp .ge 24, 3) := by decide +kernel
theorem dX3_numberOfToken_15 : decode cX3_numberOfToken 15 = .ok (.bipush 10, 2) := by decide +kernel
theorem dX3_numberOfToken_17 : decode cX3_numberOfToken 17 = .ok (.iload_n 1, 1) := by decide +kernel
theorem dX3_numberOfToken_18 : decode cX3_numberOfToken 18 = .ok (.imul, 1) := by decide +kernel
theorem dX3_numberOfToken_19 : decode cX3_numberOfToken 19 = .ok (.aload_n 0, 1) := by decide +kernel
theorem dX3_numberOfToken_20 : decode cX3_numberOfToken 20 = .ok (.getfield 9, 3) := by decide +kernel
theorem dX3_numberOfToken_23 : decode cX3_numberOfToken 23 = .ok (.iload_n 2, 1) := by decide +kernel
theorem dX3_numberOfToken_24 : decode cX3_numberOfToken 24 = .ok (.baload, 1) := by decide +kernel
theorem dX3_numberOfToken_25 : decode cX3_numberOfToken 25 = .ok (.iadd, 1) := by decide +kernel
theorem dX3_numberOfToken_26 : decode cX3_numberOfToken 26 = .ok (.bipush 48, 2) := by decide +kernel
theorem dX3_numberOfToken_28 : decode cX3_numberOfToken 28 = .ok (.isub, 1) := by decide +kernel
theorem dX3_numberOfToken_29 : decode cX3_numberOfToken 29 = .ok (.istore_n 1, 1) := by decide +kernel
theorem dX3_numberOfToken_30 : decode cX3_numberOfToken 30 = .ok (.iinc 2 1, 3) := by decide +kernel
theorem dX3_numberOfToken_33 : decode cX3_numberOfToken 33 = .ok (.goto (-26), 3) := by decide +kernel
theorem dX3_numberOfToken_36 : decode cX3_numberOfToken 36 = .ok (.iload_n 1, 1) := by decide +kernel
theorem dX3_numberOfToken_37 : decode cX3_numberOfToken 37 = .ok (.ireturn, 1) := by decide +kernel
set_option maxRecDepth 20000 in
theorem ggX4_init_X3_init : GoodIn wsX4_init wsX3_init := goodIn_r _ [17, 18, 2, 3, 19, 20, 21, 22, 23, 24, 39, 40, 41, 42, 43] (by decide +kernel) (by decide +kernel)
set_option maxRecDepth 20000 in
theorem gX4_init_X3_init_n11 : GoodIn wsX4_init (wsX3_init) := ggX4_init_X3_init
set_option maxRecDepth 20000 in
theorem ggX4_init_X0_init : GoodIn wsX4_init wsX0_init := goodIn_r _ [26, 27, 2, 3, 28, 29, 30, 31, 32, 33, 34, 35, 36, 37, 38, 50, 51, 52, 53, 54, 55, 56, 57, 58, 59] (by decide +kernel) (by decide +kernel)
set_option maxRecDepth 20000 in
theorem gX4_init_X0_init_n20 : GoodIn wsX4_init (wsX0_init) := ggX4_init_X0_init
theorem dX4_init_0 : decode cX4_init 0 = .ok (.aload_n 0, 1) := by decide +kernel
theorem dX4_init_1 : decode cX4_init 1 = .ok (.invokespecial 3, 3) := by decide +kernel
theorem dX4_init_4 : decode cX4_init 4 = .ok (.aload_n 0, 1) := by decide +kernel
theorem dX4_init_5 : decode cX4_init 5 = .ok (.new 9, 3) := by decide +kernel
theorem dX4_init_8 : decode cX4_init 8 = .ok (.dup, 1) := by decide +kernel
theorem dX4_init_9 : decode cX4_init 9 = .ok (.invokespecial 11, 3) := by decide +kernel
theorem dX4_init_12 : decode cX4_init 12 = .ok (.putfield 12, 3) := by decide +kernel
theorem dX4_init_15 : decode cX4_init 15 = .ok (.aload_n 0, 1) := by decide +kernel
theorem dX4_init_16 : decode cX4_init 16 = .ok (.new 18, 3) := by decide +kernel
theorem dX4_init_19 : decode cX4_init 19 = .ok (.dup, 1) := by decide +kernel
theorem dX4_init_20 : decode cX4_init 20 = .ok (.invokespecial 20, 3) := by decide +kernel
theorem dX4_init_23 : decode cX4_init 23 = .ok (.putfield 21, 3) := by decide +kernel
theorem dX4_init_26 : decode cX4_init 26 = .ok (.aload_n 0, 1) := by decide +kernel
theorem dX4_init_27 : decode cX4_init 27 = .ok (.iconst 0, 1) := by decide +kernel
theorem dX4_init_28 : decode cX4_init 28 = .ok (.putfield 25, 3) := by decide +kernel
theorem dX4_init_31 : decode cX4_init 31 = .ok (.aload_n 0, 1) := by decide +kernel
theorem dX4_init_32 : decode cX4_init 32 = .ok (.iconst 0, 1) := by decide +kernel
theorem dX4_init_33 : decode cX4_init 33 = .ok (.putfield 29, 3) := by decide +kernel
theorem dX4_init_36 : decode cX4_init 36 = .ok (.aload_n 0, 1) := by decide +kernel
theorem dX4_init_37 : decode cX4_init 37 = .ok (.iconst 0, 1) := by decide +kernel
theorem dX4_init_38 : decode cX4_init 38 = .ok (.putfield 33, 3) := by decide +kernel
theorem dX4_init_41 : decode cX4_init 41 = .ok (.aload_n 0, 1) := by decide +kernel
theorem dX4_init_42 : decode cX4_init 42 = .ok (.iconst 0, 1) := by decide +kernel
theorem dX4_init_43 : decode cX4_init 43 = .ok (.putfield 36, 3) := by decide +kernel
theorem dX4_init_46 : decode cX4_init 46 = .ok (.return_, 1) := by decide +kernel
set_option maxRecDepth 20000 in
theorem ggX4_readText_X3_rewind : GoodIn wsX4_readText wsX3_rewind := goodIn_r _ [12, 13, 155, 156, 157, 158, 159] (by decide +kernel) (by decide +kernel)
set_option maxRecDepth 20000 in
theorem gX4_readText_X3_rewind : GoodIn wsX4_readText (wsV RX4 39 RX3 yX3_rewind wsX3_rewind) := goodIn_app (goodIn_of _ (by decide +kernel)) ggX4_readText_X3_rewind
set_option maxRecDepth 20000 in
theorem ggX4_readText_X0_clear : GoodIn wsX4_readText wsX0_clear := goodIn_r _ [18, 19, 20, 21, 22, 23, 160, 161, 162, 163, 164, 165, 166, 167, 168, 169] (by decide +kernel) (by decide +kernel)
set_option maxRecDepth 20000 in
theorem gX4_readText_X0_clear : GoodIn wsX4_readText (wsV RX4 42 RX0 yX0_clear wsX0_clear) := goodIn_app (goodIn_of _ (by decide +kernel)) ggX4_readText_X0_clear
set_option maxRecDepth 20000 in
theorem ggX4_readText_X4_advance : GoodIn wsX4_readText wsX4_advance := goodIn_r _ [28, 5, 1, 7, 29, 30, 31, 11, 32, 13, 33, 34, 35, 36, 37, 38, 39, 40, 41, 42, 43, 27, 44, 45, 6, 149, 150, 151, 152, 153, 154, 155, 156, 157, 158, 159] (by decide +kernel) (by decide +kernel)
set_option maxRecDepth 20000 in
theorem gX4_readText_X4_advance : GoodIn wsX4_readText (wsV RX4 45 RX4 yX4_advance wsX4_advance) := goodIn_app (goodIn_of _ (by decide +kernel)) ggX4_readText_X4_advance
set_option maxRecDepth 20000 in
theorem ggX4_readText_X4_readLine : GoodIn wsX4_readText wsX4_readLine := goodIn_r _ [49, 5, 50, 51, 52, 27, 53, 1, 7, 54, 55, 56, 57, 58, 59, 11, 60, 13, 33, 36, 61, 62, 63, 64, 65, 66, 67, 68, 69, 70, 71, 72, 73, 74, 75, 76, 77, 78, 79, 80, 81, 82, 83, 84, 85, 86, 87, 88, 89, 90, 91, 92, 93, 94, 95, 96, 97, 98, 99, 100, 101, 102, 103, 104, 105, 106, 107, 108, 109, 110, 111, 112, 113, 3, 2, 114, 115, 41, 42, 43, 44, 45, 6, 116, 117, 118, 119, 24, 25, 26, 28, 29, 30, 31, 32, 34, 35, 37, 38, 39, 40, 120, 121, 122, 123, 124, 125, 126, 127, 128, 129, 130, 131, 132, 133, 134, 17, 135, 21, 22, 136, 137, 138, 139, 19, 140, 141, 142, 143, 144, 145, 20, 146, 147, 148, 149, 150, 151, 152, 153, 154, 155, 156, 157, 158, 159, 160, 161, 162, 163, 164, 165, 166, 167, 168, 169] (by decide +kernel) (by decide +kernel)
set_option maxRecDepth 20000 in
theorem gX4_readText_X4_readLine : GoodIn wsX4_readText (wsV RX4 51 RX4 yX4_readLine wsX4_readLine) := goodIn_app (goodIn_of _ (by decide +kernel)) ggX4_readText_X4_readLine
theorem dX4_readText_0 : decode cX4_readText 0 = .ok (.aload_n 0, 1) := by decide +kernel
theorem dX4_readText_1 : decode cX4_readText 1 = .ok (.getfield 12, 3) := by decide +kernel
theorem dX4_readText_4 : decode cX4_readText 4 = .ok (.invokevirtual 39, 3) := by decide +kernel
theorem dX4_readText_7 : decode cX4_readText 7 = .ok (.aload_n 0, 1) := by decide +kernel
theorem dX4_readText_8 : decode cX4_readText 8 = .ok (.getfield 21, 3) := by decide +kernel
theorem dX4_readText_11 : decode cX4_readText 11 = .ok (.invokevirtual 42, 3) := by decide +kernel
theorem dX4_readText_14 : decode cX4_readText 14 = .ok (.aload_n 0, 1) := by decide +kernel
theorem dX4_readText_15 : decode cX4_readText 15 = .ok (.iconst 0, 1) := by decide +kernel
theorem dX4_readText_16 : decode cX4_readText 16 = .ok (.putfield 25, 3) := by decide +kernel
theorem dX4_readText_19 : decode cX4_readText 19 = .ok (.aload_n 0, 1) := by decide +kernel
theorem dX4_readText_20 : decode cX4_readText 20 = .ok (.iconst 0, 1) := by decide +kernel
theorem dX4_readText_21 : decode cX4_readText 21 = .ok (.putfield 29, 3) := by decide +kernel
theorem dX4_readText_24 : decode cX4_readText 24 = .ok (.aload_n 0, 1) := by decide +kernel
theorem dX4_readText_25 : decode cX4_readText 25 = .ok (.iconst 0, 1) := by decide +kernel
theorem dX4_readText_26 : decode cX4_readText 26 = .ok (.putfield 33, 3) := by decide +kernel
theorem dX4_readText_29 : decode cX4_readText 29 = .ok (.aload_n 0, 1) := by decide +kernel
theorem dX4_readText_30 : decode cX4_readText 30 = .ok (.iconst 0, 1) := by decide +kernel
theorem dX4_readText_31 : decode cX4_readText 31 = .ok (.putfield 36, 3) := by decide +kernel
theorem dX4_readText_34 : decode cX4_readText 34 = .ok (.iconst 0, 1) := by decide +kernel
theorem dX4_readText_35 : decode cX4_readText 35 = .ok (.istore_n 1, 1) := by decide +kernel
theorem dX4_readText_36 : decode cX4_readText 36 = .ok (.iload_n 1, 1) := by decide +kernel
theorem dX4_readText_37 : decode cX4_readText 37 = .ok (.sipush 160, 3) := by decide +kernel
theorem dX4_readText_40 : decode cX4_readText 40 = .ok (.if_icmp .gt 53, 3) := by decide +kernel
theorem dX4_readText_43 : decode cX4_readText 43 = .ok (.aload_n 0, 1) := by decide +kernel
theorem dX4_readText_44 : decode cX4_readText 44 = .ok (.invokevirtual 45, 3) := by decide +kernel
theorem dX4_readText_47 : decode cX4_readText 47 = .ok (.aload_n 0, 1) := by decide +kernel
theorem dX4_readText_48 : decode cX4_readText 48 = .ok (.getfield 33, 3) := by decide +kernel
theorem dX4_readText_51 : decode cX4_readText 51 = .ok (.ifCond .ne 13, 3) := by decide +kernel
theorem dX4_readText_54 : decode cX4_readText 54 = .ok (.aload_n 0, 1) := by decide +kernel
theorem dX4_readText_55 : decode cX4_readText 55 = .ok (.getfield 12, 3) := by decide +kernel
theorem dX4_readText_58 : decode cX4_readText 58 = .ok (.getfield 48, 3) := by decide +kernel
theorem dX4_readText_61 : decode cX4_readText 61 = .ok (.ifCond .ne 4, 3) := by decide +kernel
theorem dX4_readText_64 : decode cX4_readText 64 = .ok (.return_, 1) := by decide +kernel
theorem dX4_readText_65 : decode cX4_readText 65 = .ok (.aload_n 0, 1) := by decide +kernel
theorem dX4_readText_66 : decode cX4_readText 66 = .ok (.invokevirtual 51, 3) := by decide +kernel
theorem dX4_readText_69 : decode cX4_readText 69 = .ok (.aload_n 0, 1) := by decide +kernel
theorem dX4_readText_70 : decode cX4_readText 70 = .ok (.getfield 33, 3) := by decide +kernel
theorem dX4_readText_73 : decode cX4_readText 73 = .ok (.ifCond .eq 4, 3) := by decide +kernel
theorem dX4_readText_76 : decode cX4_readText 76 = .ok (.return_, 1) := by decide +kernel
theorem dX4_readText_77 : decode cX4_readText 77 = .ok (.aload_n 0, 1) := by decide +kernel
theorem dX4_readText_78 : decode cX4_readText 78 = .ok (.dup, 1) := by decide +kernel
theorem dX4_readText_79 : decode cX4_readText 79 = .ok (.getfield 29, 3) := by decide +kernel
theorem dX4_readText_82 : decode cX4_readText 82 = .ok (.iconst 1, 1) := by decide +kernel
theorem dX4_readText_83 : decode cX4_readText 83 = .ok (.iadd, 1) := by decide +kernel
theorem dX4_readText_84 : decode cX4_readText 84 = .ok (.putfield 29, 3) := by decide +kernel
theorem dX4_readText_87 : decode cX4_readText 87 = .ok (.iinc 1 1, 3) := by decide +kernel
theorem dX4_readText_90 : decode cX4_readText 90 = .ok (.goto (-54), 3) := by decide +kernel
theorem dX4_readText_93 : decode cX4_readText 93 = .ok (.return_, 1) := by decide +kernel
set_option maxRecDepth 20000 in
theorem ggX4_readLine_X4_wordOfToken : GoodIn wsX4_readLine wsX4_wordOfToken := goodIn_r _ [6, 7, 8, 9, 10, 5, 11, 12, 13, 14, 15, 16, 17, 18, 19, 20, 21, 22, 23, 24, 25, 26, 27, 28, 29, 30, 31, 32, 33, 34, 35, 36, 37, 38, 39, 40, 41, 42, 43, 44, 45, 46, 47, 48, 49, 50, 51, 52, 53, 54, 55, 56, 57, 58, 59, 60, 61, 62, 63, 64, 65, 66, 67, 68, 135, 136, 137, 138, 139, 140, 141, 142, 143, 144, 145] (by decide +kernel) (by decide +kernel)
set_option maxRecDepth 20000 in
theorem gX4_readLine_X4_wordOfToken : GoodIn wsX4_readLine (wsV RX4 54 RX4 yX4_wordOfToken wsX4_wordOfToken) := goodIn_app (goodIn_of _ (by decide +kernel)) ggX4_readLine_X4_wordOfToken
set_option maxRecDepth 20000 in
theorem ggX4_readLine_X4_faultOfWord : GoodIn wsX4_readLine wsX4_faultOfWord := goodIn_r _ [72, 73, 74, 75, 76, 135, 136, 137, 138, 139, 140, 146, 147, 148, 149, 150, 151, 152, 153, 154, 155] (by decide +kernel) (by decide +kernel)
set_option maxRecDepth 20000 in
theorem gX4_readLine_X4_faultOfWord : GoodIn wsX4_readLine (wsV RX4 58 RX4 yX4_faultOfWord wsX4_faultOfWord) := goodIn_app (goodIn_of _ (by decide +kernel)) ggX4_readLine_X4_faultOfWord
set_option maxRecDepth 20000 in
theorem ggX4_readLine_X4_refuse : GoodIn wsX4_readLine wsX4_refuse := goodIn_r _ [80, 1, 7, 81, 82, 135, 136, 137, 138, 139, 140, 141, 142, 143, 144, 145] (by decide +kernel) (by decide +kernel)
set_option maxRecDepth 20000 in
theorem gX4_readLine_X4_refuse : GoodIn wsX4_readLine (wsV RX4 62 RX4 yX4_refuse wsX4_refuse) := goodIn_app (goodIn_of _ (by decide +kernel)) ggX4_readLine_X4_refuse
set_option maxRecDepth 20000 in
theorem ggX4_readLine_X4_takeNumber : GoodIn wsX4_readLine wsX4_takeNumber := goodIn_r _ [86, 7, 8, 87, 88, 89, 5, 90, 1, 91, 92, 93, 15, 94, 17, 18, 95, 96, 19, 97, 98, 99, 100, 77, 78, 79, 80, 81, 82, 101, 102, 103, 104, 135, 136, 137, 138, 139, 140, 141, 142, 143, 144, 145] (by decide +kernel) (by decide +kernel)
set_option maxRecDepth 20000 in
theorem gX4_readLine_X4_takeNumber : GoodIn wsX4_readLine (wsV RX4 66 RX4 yX4_takeNumber wsX4_takeNumber) := goodIn_app (goodIn_of _ (by decide +kernel)) ggX4_readLine_X4_takeNumber
set_option maxRecDepth 20000 in
theorem ggX4_readLine_X4_takeSemicolon : GoodIn wsX4_readLine wsX4_takeSemicolon := goodIn_r _ [108, 7, 8, 87, 88, 89, 5, 90, 1, 91, 92, 93, 15, 94, 17, 18, 95, 96, 19, 97, 98, 99, 100, 77, 78, 79, 80, 81, 82, 135, 136, 137, 138, 139, 140, 141, 142, 143, 144, 145] (by decide +kernel) (by decide +kernel)
set_option maxRecDepth 20000 in
theorem gX4_readLine_X4_takeSemicolon : GoodIn wsX4_readLine (wsV RX4 70 RX4 yX4_takeSemicolon wsX4_takeSemicolon) := goodIn_app (goodIn_of _ (by decide +kernel)) ggX4_readLine_X4_takeSemicolon
set_option maxRecDepth 20000 in
theorem ggX4_readLine_X4_tell : GoodIn wsX4_readLine wsX4_tell := goodIn_r _ [112, 74, 73, 113, 114, 115, 116, 117, 118, 119, 120, 121, 122, 123, 124, 125, 126, 127, 128, 129, 130, 131, 132, 133, 134, 135, 136, 137, 138, 139, 140, 146, 147, 148, 149, 150, 151, 152, 153, 154, 155] (by decide +kernel) (by decide +kernel)
set_option maxRecDepth 20000 in
theorem gX4_readLine_X4_tell : GoodIn wsX4_readLine (wsV RX4 73 RX4 yX4_tell wsX4_tell) := goodIn_app (goodIn_of _ (by decide +kernel)) ggX4_readLine_X4_tell
theorem dX4_readLine_0 : decode cX4_readLine 0 = .ok (.aload_n 0, 1) := by decide +kernel
theorem dX4_readLine_1 : decode cX4_readLine 1 = .ok (.invokevirtual 54, 3) := by decide +kernel
theorem dX4_readLine_4 : decode cX4_readLine 4 = .ok (.istore_n 1, 1) := by decide +kernel
theorem dX4_readLine_5 : decode cX4_readLine 5 = .ok (.aload_n 0, 1) := by decide +kernel
theorem dX4_readLine_6 : decode cX4_readLine 6 = .ok (.aload_n 0, 1) := by decide +kernel
theorem dX4_readLine_7 : decode cX4_readLine 7 = .ok (.iload_n 1, 1) := by decide +kernel
theorem dX4_readLine_8 : decode cX4_readLine 8 = .ok (.invokevirtual 58, 3) := by decide +kernel
theorem dX4_readLine_11 : decode cX4_readLine 11 = .ok (.invokevirtual 62, 3) := by decide +kernel
theorem dX4_readLine_14 : decode cX4_readLine 14 = .ok (.iload_n 1, 1) := by decide +kernel
theorem dX4_readLine_15 : decode cX4_readLine 15 = .ok (.iconst 4, 1) := by decide +kernel
theorem dX4_readLine_16 : decode cX4_readLine 16 = .ok (.if_icmp .ge 7, 3) := by decide +kernel
theorem dX4_readLine_19 : decode cX4_readLine 19 = .ok (.iconst 1, 1) := by decide +kernel
theorem dX4_readLine_20 : decode cX4_readLine 20 = .ok (.goto 4, 3) := by decide +kernel
theorem dX4_readLine_23 : decode cX4_readLine 23 = .ok (.iconst 0, 1) := by decide +kernel
theorem dX4_readLine_24 : decode cX4_readLine 24 = .ok (.istore_n 2, 1) := by decide +kernel
theorem dX4_readLine_25 : decode cX4_readLine 25 = .ok (.iload_n 2, 1) := by decide +kernel
theorem dX4_readLine_26 : decode cX4_readLine 26 = .ok (.ifCond .eq 13, 3) := by decide +kernel
theorem dX4_readLine_29 : decode cX4_readLine 29 = .ok (.aload_n 0, 1) := by decide +kernel
theorem dX4_readLine_30 : decode cX4_readLine 30 = .ok (.iconst 1, 1) := by decide +kernel
theorem dX4_readLine_31 : decode cX4_readLine 31 = .ok (.bipush 9, 2) := by decide +kernel
theorem dX4_readLine_33 : decode cX4_readLine 33 = .ok (.invokevirtual 66, 3) := by decide +kernel
theorem dX4_readLine_36 : decode cX4_readLine 36 = .ok (.goto 10, 3) := by decide +kernel
theorem dX4_readLine_39 : decode cX4_readLine 39 = .ok (.aload_n 0, 1) := by decide +kernel
theorem dX4_readLine_40 : decode cX4_readLine 40 = .ok (.iconst 0, 1) := by decide +kernel
theorem dX4_readLine_41 : decode cX4_readLine 41 = .ok (.bipush 20, 2) := by decide +kernel
theorem dX4_readLine_43 : decode cX4_readLine 43 = .ok (.invokevirtual 66, 3) := by decide +kernel
theorem dX4_readLine_46 : decode cX4_readLine 46 = .ok (.istore_n 3, 1) := by decide +kernel
theorem dX4_readLine_47 : decode cX4_readLine 47 = .ok (.iload_n 2, 1) := by decide +kernel
theorem dX4_readLine_48 : decode cX4_readLine 48 = .ok (.ifCond .eq 7, 3) := by decide +kernel
theorem dX4_readLine_51 : decode cX4_readLine 51 = .ok (.iconst 0, 1) := by decide +kernel
theorem dX4_readLine_52 : decode cX4_readLine 52 = .ok (.goto 10, 3) := by decide +kernel
theorem dX4_readLine_55 : decode cX4_readLine 55 = .ok (.aload_n 0, 1) := by decide +kernel
theorem dX4_readLine_56 : decode cX4_readLine 56 = .ok (.iconst 0, 1) := by decide +kernel
theorem dX4_readLine_57 : decode cX4_readLine 57 = .ok (.bipush 20, 2) := by decide +kernel
theorem dX4_readLine_59 : decode cX4_readLine 59 = .ok (.invokevirtual 66, 3) := by decide +kernel
theorem dX4_readLine_62 : decode cX4_readLine 62 = .ok (.istore 4, 2) := by decide +kernel
theorem dX4_readLine_64 : decode cX4_readLine 64 = .ok (.aload_n 0, 1) := by decide +kernel
theorem dX4_readLine_65 : decode cX4_readLine 65 = .ok (.invokevirtual 70, 3) := by decide +kernel
theorem dX4_readLine_68 : decode cX4_readLine 68 = .ok (.aload_n 0, 1) := by decide +kernel
theorem dX4_readLine_69 : decode cX4_readLine 69 = .ok (.getfield 33, 3) := by decide +kernel
theorem dX4_readLine_72 : decode cX4_readLine 72 = .ok (.ifCond .ne 11, 3) := by decide +kernel
theorem dX4_readLine_75 : decode cX4_readLine 75 = .ok (.aload_n 0, 1) := by decide +kernel
theorem dX4_readLine_76 : decode cX4_readLine 76 = .ok (.iload_n 1, 1) := by decide +kernel
theorem dX4_readLine_77 : decode cX4_readLine 77 = .ok (.iload_n 3, 1) := by decide +kernel
theorem dX4_readLine_78 : decode cX4_readLine 78 = .ok (.iload 4, 2) := by decide +kernel
theorem dX4_readLine_80 : decode cX4_readLine 80 = .ok (.invokevirtual 73, 3) := by decide +kernel
theorem dX4_readLine_83 : decode cX4_readLine 83 = .ok (.return_, 1) := by decide +kernel
set_option maxRecDepth 20000 in
theorem ggX4_wordOfToken_X4_nameOf : GoodIn wsX4_wordOfToken wsX4_nameOf := goodIn_r _ [6] (by decide +kernel) (by decide +kernel)
set_option maxRecDepth 20000 in
theorem gX4_wordOfToken_X4_nameOf : GoodIn wsX4_wordOfToken (va_wsS RX4 77 yX4_nameOf wsX4_nameOf) := goodIn_app (goodIn_of _ (by decide +kernel)) ggX4_wordOfToken_X4_nameOf
set_option maxRecDepth 20000 in
theorem ggX4_wordOfToken_X3_tokenIs : GoodIn wsX4_wordOfToken wsX3_tokenIs := goodIn_r _ [11, 12, 13, 14, 15, 16, 17, 18, 19, 20, 21, 22, 23, 24, 25, 26, 27, 28, 29, 30, 31, 32, 33, 34, 35, 36, 37, 38, 39, 40, 41, 42, 43, 44, 45, 46, 47, 48, 49, 50, 51, 52, 53, 54, 55, 56, 57, 58, 59, 60, 61, 62, 63, 70, 71, 72, 73, 74] (by decide +kernel) (by decide +kernel)
set_option maxRecDepth 20000 in
theorem gX4_wordOfToken_X3_tokenIs : GoodIn wsX4_wordOfToken (wsV RX4 81 RX3 yX3_tokenIs wsX3_tokenIs) := goodIn_app (goodIn_of _ (by decide +kernel)) ggX4_wordOfToken_X3_tokenIs
theorem dX4_wordOfToken_0 : decode cX4_wordOfToken 0 = .ok (.iconst 0, 1) := by decide +kernel
theorem dX4_wordOfToken_1 : decode cX4_wordOfToken 1 = .ok (.istore_n 1, 1) := by decide +kernel
theorem dX4_wordOfToken_2 : decode cX4_wordOfToken 2 = .ok (.iload_n 1, 1) := by decide +kernel
theorem dX4_wordOfToken_3 : decode cX4_wordOfToken 3 = .ok (.bipush 6, 2) := by decide +kernel
theorem dX4_wordOfToken_5 : decode cX4_wordOfToken 5 = .ok (.if_icmp .ge 36, 3) := by decide +kernel
theorem dX4_wordOfToken_8 : decode cX4_wordOfToken 8 = .ok (.aload_n 0, 1) := by decide +kernel
theorem dX4_wordOfToken_9 : decode cX4_wordOfToken 9 = .ok (.getfield 12, 3) := by decide +kernel
theorem dX4_wordOfToken_12 : decode cX4_wordOfToken 12 = .ok (.getfield 48, 3) := by decide +kernel
theorem dX4_wordOfToken_15 : decode cX4_wordOfToken 15 = .ok (.iconst 1, 1) := by decide +kernel
theorem dX4_wordOfToken_16 : decode cX4_wordOfToken 16 = .ok (.if_icmp .ne 25, 3) := by decide +kernel
theorem dX4_wordOfToken_19 : decode cX4_wordOfToken 19 = .ok (.aload_n 0, 1) := by decide +kernel
theorem dX4_wordOfToken_20 : decode cX4_wordOfToken 20 = .ok (.getfield 12, 3) := by decide +kernel
theorem dX4_wordOfToken_23 : decode cX4_wordOfToken 23 = .ok (.iload_n 1, 1) := by decide +kernel
theorem dX4_wordOfToken_24 : decode cX4_wordOfToken 24 = .ok (.invokestatic 77, 3) := by decide +kernel
theorem dX4_wordOfToken_27 : decode cX4_wordOfToken 27 = .ok (.invokevirtual 81, 3) := by decide +kernel
theorem dX4_wordOfToken_30 : decode cX4_wordOfToken 30 = .ok (.ifCond .eq 5, 3) := by decide +kernel
theorem dX4_wordOfToken_33 : decode cX4_wordOfToken 33 = .ok (.iload_n 1, 1) := by decide +kernel
theorem dX4_wordOfToken_34 : decode cX4_wordOfToken 34 = .ok (.ireturn, 1) := by decide +kernel
theorem dX4_wordOfToken_35 : decode cX4_wordOfToken 35 = .ok (.iinc 1 1, 3) := by decide +kernel
theorem dX4_wordOfToken_38 : decode cX4_wordOfToken 38 = .ok (.goto (-36), 3) := by decide +kernel
theorem dX4_wordOfToken_41 : decode cX4_wordOfToken 41 = .ok (.bipush 6, 2) := by decide +kernel
theorem dX4_wordOfToken_43 : decode cX4_wordOfToken 43 = .ok (.ireturn, 1) := by decide +kernel
theorem dX4_nameOf_0 : decode cX4_nameOf 0 = .ok (.iload_n 0, 1) := by decide +kernel
theorem dX4_nameOf_1 : decode cX4_nameOf 1 = .ok (.tableswitch 50 0 4 #[35, 38, 41, 44, 47], 35) := by decide +kernel
theorem dX4_nameOf_36 : decode cX4_nameOf 36 = .ok (.ldc 85, 2) := by decide +kernel
theorem dX4_nameOf_38 : decode cX4_nameOf 38 = .ok (.areturn, 1) := by decide +kernel
theorem dX4_nameOf_39 : decode cX4_nameOf 39 = .ok (.ldc 87, 2) := by decide +kernel
theorem dX4_nameOf_41 : decode cX4_nameOf 41 = .ok (.areturn, 1) := by decide +kernel
theorem dX4_nameOf_42 : decode cX4_nameOf 42 = .ok (.ldc 89, 2) := by decide +kernel
theorem dX4_nameOf_44 : decode cX4_nameOf 44 = .ok (.areturn, 1) := by decide +kernel
theorem dX4_nameOf_45 : decode cX4_nameOf 45 = .ok (.ldc 91, 2) := by decide +kernel
theorem dX4_nameOf_47 : decode cX4_nameOf 47 = .ok (.areturn, 1) := by decide +kernel
theorem dX4_nameOf_48 : decode cX4_nameOf 48 = .ok (.ldc 93, 2) := by decide +kernel
theorem dX4_nameOf_50 : decode cX4_nameOf 50 = .ok (.areturn, 1) := by decide +kernel
theorem dX4_nameOf_51 : decode cX4_nameOf 51 = .ok (.ldc 95, 2) := by decide +kernel
theorem dX4_nameOf_53 : decode cX4_nameOf 53 = .ok (.areturn, 1) := by decide +kernel
theorem dX4_faultOfWord_0 : decode cX4_faultOfWord 0 = .ok (.iload_n 1, 1) := by decide +kernel
theorem dX4_faultOfWord_1 : decode cX4_faultOfWord 1 = .ok (.tableswitch 60 4 6 #[42, 29, 27], 27) := by decide +kernel
theorem dX4_faultOfWord_28 : decode cX4_faultOfWord 28 = .ok (.iconst 2, 1) := by decide +kernel
theorem dX4_faultOfWord_29 : decode cX4_faultOfWord 29 = .ok (.ireturn, 1) := by decide +kernel
theorem dX4_faultOfWord_30 : decode cX4_faultOfWord 30 = .ok (.aload_n 0, 1) := by decide +kernel
theorem dX4_faultOfWord_31 : decode cX4_faultOfWord 31 = .ok (.getfield 25, 3) := by decide +kernel
theorem dX4_faultOfWord_34 : decode cX4_faultOfWord 34 = .ok (.ifCond .eq 7, 3) := by decide +kernel
theorem dX4_faultOfWord_37 : decode cX4_faultOfWord 37 = .ok (.iconst 4, 1) := by decide +kernel
theorem dX4_faultOfWord_38 : decode cX4_faultOfWord 38 = .ok (.goto 4, 3) := by decide +kernel
theorem dX4_faultOfWord_41 : decode cX4_faultOfWord 41 = .ok (.iconst 0, 1) := by decide +kernel
theorem dX4_faultOfWord_42 : decode cX4_faultOfWord 42 = .ok (.ireturn, 1) := by decide +kernel
theorem dX4_faultOfWord_43 : decode cX4_faultOfWord 43 = .ok (.aload_n 0, 1) := by decide +kernel
theorem dX4_faultOfWord_44 : decode cX4_faultOfWord 44 = .ok (.getfield 21, 3) := by decide +kernel
theorem dX4_faultOfWord_47 : decode cX4_faultOfWord 47 = .ok (.getfield 97, 3) := by decide +kernel
theorem dX4_faultOfWord_50 : decode cX4_faultOfWord 50 = .ok (.bipush 10, 2) := by decide +kernel
theorem dX4_faultOfWord_52 : decode cX4_faultOfWord 52 = .ok (.if_icmp .lt 7, 3) := by decide +kernel
theorem dX4_faultOfWord_55 : decode cX4_faultOfWord 55 = .ok (.iconst 5, 1) := by decide +kernel
theorem dX4_faultOfWord_56 : decode cX4_faultOfWord 56 = .ok (.goto 4, 3) := by decide +kernel
theorem dX4_faultOfWord_59 : decode cX4_faultOfWord 59 = .ok (.iconst 0, 1) := by decide +kernel
theorem dX4_faultOfWord_60 : decode cX4_faultOfWord 60 = .ok (.ireturn, 1) := by decide +kernel
theorem dX4_faultOfWord_61 : decode cX4_faultOfWord 61 = .ok (.aload_n 0, 1) := by decide +kernel
theorem dX4_faultOfWord_62 : decode cX4_faultOfWord 62 = .ok (.getfield 21, 3) := by decide +kernel
theorem dX4_faultOfWord_65 : decode cX4_faultOfWord 65 = .ok (.getfield 100, 3) := by decide +kernel
theorem dX4_faultOfWord_68 : decode cX4_faultOfWord 68 = .ok (.iconst 4, 1) := by decide +kernel
theorem dX4_faultOfWord_69 : decode cX4_faultOfWord 69 = .ok (.if_icmp .lt 7, 3) := by decide +kernel
theorem dX4_faultOfWord_72 : decode cX4_faultOfWord 72 = .ok (.iconst 5, 1) := by decide +kernel
theorem dX4_faultOfWord_73 : decode cX4_faultOfWord 73 = .ok (.goto 4, 3) := by decide +kernel
theorem dX4_faultOfWord_76 : decode cX4_faultOfWord 76 = .ok (.iconst 0, 1) := by decide +kernel
theorem dX4_faultOfWord_77 : decode cX4_faultOfWord 77 = .ok (.ireturn, 1) := by decide +kernel
set_option maxRecDepth 20000 in
theorem ggX4_tell_X0_movePole : GoodIn wsX4_tell wsX0_movePole := goodIn_r _ [7, 8, 9, 31, 32, 33, 34, 35, 36, 37, 38, 39, 40] (by decide +kernel) (by decide +kernel)
set_option maxRecDepth 20000 in
theorem gX4_tell_X0_movePole : GoodIn wsX4_tell (wsV RX4 103 RX0 yX0_movePole wsX0_movePole) := goodIn_app (goodIn_of _ (by decide +kernel)) ggX4_tell_X0_movePole
set_option maxRecDepth 20000 in
theorem ggX4_tell_X0_appendCorner : GoodIn wsX4_tell wsX0_appendCorner := goodIn_r _ [13, 14, 15, 16, 31, 32, 33, 34, 35, 36, 37, 38, 39, 40] (by decide +kernel) (by decide +kernel)
set_option maxRecDepth 20000 in
theorem gX4_tell_X0_appendCorner : GoodIn wsX4_tell (wsV RX4 107 RX0 yX0_appendCorner wsX0_appendCorner) := goodIn_app (goodIn_of _ (by decide +kernel)) ggX4_tell_X0_appendCorner
set_option maxRecDepth 20000 in
theorem ggX4_tell_X0_appendWheel : GoodIn wsX4_tell wsX0_appendWheel := goodIn_r _ [20, 21, 22, 23, 24, 31, 32, 33, 34, 35, 36, 37, 38, 39, 40] (by decide +kernel) (by decide +kernel)
set_option maxRecDepth 20000 in
theorem gX4_tell_X0_appendWheel : GoodIn wsX4_tell (wsV RX4 110 RX0 yX0_appendWheel wsX0_appendWheel) := goodIn_app (goodIn_of _ (by decide +kernel)) ggX4_tell_X0_appendWheel
theorem dX4_tell_0 : decode cX4_tell 0 = .ok (.iload_n 1, 1) := by decide +kernel
theorem dX4_tell_1 : decode cX4_tell 1 = .ok (.lookupswitch 56 #[(4, 44), (5, 27)], 27) := by decide +kernel
theorem dX4_tell_28 : decode cX4_tell 28 = .ok (.aload_n 0, 1) := by decide +kernel
theorem dX4_tell_29 : decode cX4_tell 29 = .ok (.getfield 21, 3) := by decide +kernel
theorem dX4_tell_32 : decode cX4_tell 32 = .ok (.iload_n 2, 1) := by decide +kernel
theorem dX4_tell_33 : decode cX4_tell 33 = .ok (.iload_n 3, 1) := by decide +kernel
theorem dX4_tell_34 : decode cX4_tell 34 = .ok (.invokevirtual 103, 3) := by decide +kernel
theorem dX4_tell_37 : decode cX4_tell 37 = .ok (.aload_n 0, 1) := by decide +kernel
theorem dX4_tell_38 : decode cX4_tell 38 = .ok (.iconst 1, 1) := by decide +kernel
theorem dX4_tell_39 : decode cX4_tell 39 = .ok (.putfield 25, 3) := by decide +kernel
theorem dX4_tell_42 : decode cX4_tell 42 = .ok (.goto 24, 3) := by decide +kernel
theorem dX4_tell_45 : decode cX4_tell 45 = .ok (.aload_n 0, 1) := by decide +kernel
theorem dX4_tell_46 : decode cX4_tell 46 = .ok (.getfield 21, 3) := by decide +kernel
theorem dX4_tell_49 : decode cX4_tell 49 = .ok (.iload_n 2, 1) := by decide +kernel
theorem dX4_tell_50 : decode cX4_tell 50 = .ok (.iload_n 3, 1) := by decide +kernel
theorem dX4_tell_51 : decode cX4_tell 51 = .ok (.invokevirtual 107, 3) := by decide +kernel
theorem dX4_tell_54 : decode cX4_tell 54 = .ok (.goto 12, 3) := by decide +kernel
theorem dX4_tell_57 : decode cX4_tell 57 = .ok (.aload_n 0, 1) := by decide +kernel
theorem dX4_tell_58 : decode cX4_tell 58 = .ok (.getfield 21, 3) := by decide +kernel
theorem dX4_tell_61 : decode cX4_tell 61 = .ok (.iload_n 1, 1) := by decide +kernel
theorem dX4_tell_62 : decode cX4_tell 62 = .ok (.iload_n 2, 1) := by decide +kernel
theorem dX4_tell_63 : decode cX4_tell 63 = .ok (.invokevirtual 110, 3) := by decide +kernel
theorem dX4_tell_66 : decode cX4_tell 66 = .ok (.return_, 1) := by decide +kernel
set_option maxRecDepth 20000 in
theorem ggX4_takeNumber_X4_advance : GoodIn wsX4_takeNumber wsX4_advance := goodIn_r _ [7, 8, 1, 2, 9, 10, 11, 12, 13, 14, 15, 16, 17, 18, 19, 20, 21, 22, 23, 24, 25, 6, 26, 27, 28, 33, 34, 35, 36, 37, 38, 39, 40, 41, 42, 43] (by decide +kernel) (by decide +kernel)
set_option maxRecDepth 20000 in
theorem gX4_takeNumber_X4_advance : GoodIn wsX4_takeNumber (wsV RX4 45 RX4 yX4_advance wsX4_advance) := goodIn_app (goodIn_of _ (by decide +kernel)) ggX4_takeNumber_X4_advance
set_option maxRecDepth 20000 in
theorem ggX4_takeNumber_X4_refuse : GoodIn wsX4_takeNumber wsX4_refuse := goodIn_r _ [26, 8, 1, 27, 28, 33, 34, 35, 36, 37, 38, 39, 40, 41, 42, 43] (by decide +kernel) (by decide +kernel)
set_option maxRecDepth 20000 in
theorem gX4_takeNumber_X4_refuse : GoodIn wsX4_takeNumber (wsV RX4 62 RX4 yX4_refuse wsX4_refuse) := goodIn_app (goodIn_of _ (by decide +kernel)) ggX4_takeNumber_X4_refuse
set_option maxRecDepth 20000 in
theorem ggX4_takeNumber_X3_numberOfToken : GoodIn wsX4_takeNumber wsX3_numberOfToken := goodIn_r _ [32, 15, 14, 18, 39, 40, 41, 42, 43] (by decide +kernel) (by decide +kernel)
set_option maxRecDepth 20000 in
theorem gX4_takeNumber_X3_numberOfToken : GoodIn wsX4_takeNumber (wsV RX4 113 RX3 yX3_numberOfToken wsX3_numberOfToken) := goodIn_app (goodIn_of _ (by decide +kernel)) ggX4_takeNumber_X3_numberOfToken
theorem dX4_takeNumber_0 : decode cX4_takeNumber 0 = .ok (.aload_n 0, 1) := by decide +kernel
theorem dX4_takeNumber_1 : decode cX4_takeNumber 1 = .ok (.invokevirtual 45, 3) := by decide +kernel
theorem dX4_takeNumber_4 : decode cX4_takeNumber 4 = .ok (.aload_n 0, 1) := by decide +kernel
theorem dX4_takeNumber_5 : decode cX4_takeNumber 5 = .ok (.getfield 12, 3) := by decide +kernel
theorem dX4_takeNumber_8 : decode cX4_takeNumber 8 = .ok (.getfield 48, 3) := by decide +kernel
theorem dX4_takeNumber_11 : decode cX4_takeNumber 11 = .ok (.iconst 2, 1) := by decide +kernel
theorem dX4_takeNumber_12 : decode cX4_takeNumber 12 = .ok (.if_icmp .eq 10, 3) := by decide +kernel
theorem dX4_takeNumber_15 : decode cX4_takeNumber 15 = .ok (.aload_n 0, 1) := by decide +kernel
theorem dX4_takeNumber_16 : decode cX4_takeNumber 16 = .ok (.iconst 2, 1) := by decide +kernel
theorem dX4_takeNumber_17 : decode cX4_takeNumber 17 = .ok (.invokevirtual 62, 3) := by decide +kernel
theorem dX4_takeNumber_20 : decode cX4_takeNumber 20 = .ok (.iload_n 1, 1) := by decide +kernel
theorem dX4_takeNumber_21 : decode cX4_takeNumber 21 = .ok (.ireturn, 1) := by decide +kernel
theorem dX4_takeNumber_22 : decode cX4_takeNumber 22 = .ok (.aload_n 0, 1) := by decide +kernel
theorem dX4_takeNumber_23 : decode cX4_takeNumber 23 = .ok (.getfield 12, 3) := by decide +kernel
theorem dX4_takeNumber_26 : decode cX4_takeNumber 26 = .ok (.invokevirtual 113, 3) := by decide +kernel
theorem dX4_takeNumber_29 : decode cX4_takeNumber 29 = .ok (.istore_n 3, 1) := by decide +kernel
theorem dX4_takeNumber_30 : decode cX4_takeNumber 30 = .ok (.iload_n 3, 1) := by decide +kernel
theorem dX4_takeNumber_31 : decode cX4_takeNumber 31 = .ok (.iload_n 1, 1) := by decide +kernel
theorem dX4_takeNumber_32 : decode cX4_takeNumber 32 = .ok (.if_icmp .lt 8, 3) := by decide +kernel
theorem dX4_takeNumber_35 : decode cX4_takeNumber 35 = .ok (.iload_n 3, 1) := by decide +kernel
theorem dX4_takeNumber_36 : decode cX4_takeNumber 36 = .ok (.iload_n 2, 1) := by decide +kernel
theorem dX4_takeNumber_37 : decode cX4_takeNumber 37 = .ok (.if_icmp .le 8, 3) := by decide +kernel
theorem dX4_takeNumber_40 : decode cX4_takeNumber 40 = .ok (.aload_n 0, 1) := by decide +kernel
theorem dX4_takeNumber_41 : decode cX4_takeNumber 41 = .ok (.iconst 3, 1) := by decide +kernel
theorem dX4_takeNumber_42 : decode cX4_takeNumber 42 = .ok (.invokevirtual 62, 3) := by decide +kernel
theorem dX4_takeNumber_45 : decode cX4_takeNumber 45 = .ok (.iload_n 3, 1) := by decide +kernel
theorem dX4_takeNumber_46 : decode cX4_takeNumber 46 = .ok (.ireturn, 1) := by decide +kernel
set_option maxRecDepth 20000 in
theorem ggX4_takeSemicolon_X4_advance : GoodIn wsX4_takeSemicolon wsX4_advance := goodIn_r _ [7, 8, 1, 2, 9, 10, 11, 12, 13, 14, 15, 16, 17, 18, 19, 20, 21, 22, 23, 24, 25, 6, 26, 27, 28, 29, 30, 31, 32, 33, 34, 35, 36, 37, 38, 39] (by decide +kernel) (by decide +kernel)
set_option maxRecDepth 20000 in
theorem gX4_takeSemicolon_X4_advance : GoodIn wsX4_takeSemicolon (wsV RX4 45 RX4 yX4_advance wsX4_advance) := goodIn_app (goodIn_of _ (by decide +kernel)) ggX4_takeSemicolon_X4_advance
set_option maxRecDepth 20000 in
theorem ggX4_takeSemicolon_X4_refuse : GoodIn wsX4_takeSemicolon wsX4_refuse := goodIn_r _ [26, 8, 1, 27, 28, 29, 30, 31, 32, 33, 34, 35, 36, 37, 38, 39] (by decide +kernel) (by decide +kernel)
set_option maxRecDepth 20000 in
theorem gX4_takeSemicolon_X4_refuse : GoodIn wsX4_takeSemicolon (wsV RX4 62 RX4 yX4_refuse wsX4_refuse) := goodIn_app (goodIn_of _ (by decide +kernel)) ggX4_takeSemicolon_X4_refuse
theorem dX4_takeSemicolon_0 : decode cX4_takeSemicolon 0 = .ok (.aload_n 0, 1) := by decide +kernel
theorem dX4_takeSemicolon_1 : decode cX4_takeSemicolon 1 = .ok (.invokevirtual 45, 3) := by decide +kernel
theorem dX4_takeSemicolon_4 : decode cX4_takeSemicolon 4 = .ok (.aload_n 0, 1) := by decide +kernel
theorem dX4_takeSemicolon_5 : decode cX4_takeSemicolon 5 = .ok (.getfield 12, 3) := by decide +kernel
theorem dX4_takeSemicolon_8 : decode cX4_takeSemicolon 8 = .ok (.getfield 48, 3) := by decide +kernel
theorem dX4_takeSemicolon_11 : decode cX4_takeSemicolon 11 = .ok (.iconst 3, 1) := by decide +kernel
theorem dX4_takeSemicolon_12 : decode cX4_takeSemicolon 12 = .ok (.if_icmp .eq 8, 3) := by decide +kernel
theorem dX4_takeSemicolon_15 : decode cX4_takeSemicolon 15 = .ok (.aload_n 0, 1) := by decide +kernel
theorem dX4_takeSemicolon_16 : decode cX4_takeSemicolon 16 = .ok (.iconst 2, 1) := by decide +kernel
theorem dX4_takeSemicolon_17 : decode cX4_takeSemicolon 17 = .ok (.invokevirtual 62, 3) := by decide +kernel
theorem dX4_takeSemicolon_20 : decode cX4_takeSemicolon 20 = .ok (.return_, 1) := by decide +kernel
set_option maxRecDepth 20000 in
theorem ggX4_advance_X3_nextToken : GoodIn wsX4_advance wsX3_nextToken := goodIn_r _ [8, 9, 10, 11, 12, 13, 14, 15, 16, 7, 17, 31, 32, 33, 34, 35] (by decide +kernel) (by decide +kernel)
set_option maxRecDepth 20000 in
theorem gX4_advance_X3_nextToken : GoodIn wsX4_advance (wsV RX4 116 RX3 yX3_nextToken wsX3_nextToken) := goodIn_app (goodIn_of _ (by decide +kernel)) ggX4_advance_X3_nextToken
set_option maxRecDepth 20000 in
theorem ggX4_advance_X4_refuse : GoodIn wsX4_advance wsX4_refuse := goodIn_r _ [22, 1, 2, 23, 24, 25, 26, 27, 28, 29, 30, 31, 32, 33, 34, 35] (by decide +kernel) (by decide +kernel)
set_option maxRecDepth 20000 in
theorem gX4_advance_X4_refuse : GoodIn wsX4_advance (wsV RX4 62 RX4 yX4_refuse wsX4_refuse) := goodIn_app (goodIn_of _ (by decide +kernel)) ggX4_advance_X4_refuse
theorem dX4_advance_0 : decode cX4_advance 0 = .ok (.aload_n 0, 1) := by decide +kernel
theorem dX4_advance_1 : decode cX4_advance 1 = .ok (.getfield 33, 3) := by decide +kernel
theorem dX4_advance_4 : decode cX4_advance 4 = .ok (.ifCond .ne 30, 3) := by decide +kernel
theorem dX4_advance_7 : decode cX4_advance 7 = .ok (.aload_n 0, 1) := by decide +kernel
theorem dX4_advance_8 : decode cX4_advance 8 = .ok (.getfield 12, 3) := by decide +kernel
theorem dX4_advance_11 : decode cX4_advance 11 = .ok (.invokevirtual 116, 3) := by decide +kernel
theorem dX4_advance_14 : decode cX4_advance 14 = .ok (.aload_n 0, 1) := by decide +kernel
theorem dX4_advance_15 : decode cX4_advance 15 = .ok (.aload_n 0, 1) := by decide +kernel
theorem dX4_advance_16 : decode cX4_advance 16 = .ok (.getfield 12, 3) := by decide +kernel
theorem dX4_advance_19 : decode cX4_advance 19 = .ok (.getfield 48, 3) := by decide +kernel
theorem dX4_advance_22 : decode cX4_advance 22 = .ok (.iconst 4, 1) := by decide +kernel
theorem dX4_advance_23 : decode cX4_advance 23 = .ok (.if_icmp .ne 7, 3) := by decide +kernel
theorem dX4_advance_26 : decode cX4_advance 26 = .ok (.iconst 1, 1) := by decide +kernel
theorem dX4_advance_27 : decode cX4_advance 27 = .ok (.goto 4, 3) := by decide +kernel
theorem dX4_advance_30 : decode cX4_advance 30 = .ok (.iconst 0, 1) := by decide +kernel
theorem dX4_advance_31 : decode cX4_advance 31 = .ok (.invokevirtual 62, 3) := by decide +kernel
theorem dX4_advance_34 : decode cX4_advance 34 = .ok (.return_, 1) := by decide +kernel
theorem dX4_refuse_0 : decode cX4_refuse 0 = .ok (.aload_n 0, 1) := by decide +kernel
theorem dX4_refuse_1 : decode cX4_refuse 1 = .ok (.getfield 33, 3) := by decide +kernel
theorem dX4_refuse_4 : decode cX4_refuse 4 = .ok (.ifCond .ne 19, 3) := by decide +kernel
theorem dX4_refuse_7 : decode cX4_refuse 7 = .ok (.aload_n 0, 1) := by decide +kernel
theorem dX4_refuse_8 : decode cX4_refuse 8 = .ok (.iload_n 1, 1) := by decide +kernel
theorem dX4_refuse_9 : decode cX4_refuse 9 = .ok (.putfield 33, 3) := by decide +kernel
theorem dX4_refuse_12 : decode cX4_refuse 12 = .ok (.aload_n 0, 1) := by decide +kernel
theorem dX4_refuse_13 : decode cX4_refuse 13 = .ok (.aload_n 0, 1) := by decide +kernel
theorem dX4_refuse_14 : decode cX4_refuse 14 = .ok (.getfield 12, 3) := by decide +kernel
theorem dX4_refuse_17 : decode cX4_refuse 17 = .ok (.getfield 119, 3) := by decide +kernel
theorem dX4_refuse_20 : decode cX4_refuse 20 = .ok (.putfield 36, 3) := by decide +kernel
theorem dX4_refuse_23 : decode cX4_refuse 23 = .ok (.return_, 1) := by decide +kernel
end
section
/-! the memory of a world: cell by cell, slot by slot, whole numbers; the shape of the cells stays -/
abbrev Mem : Type := Nat → Nat → Int32
def mR (M : Mem) (k : Nat) (f : Nat → Int32) : Mem := fun a => if a = k then f else M a
def mU (M : Mem) (k j : Nat) (x : Int32) : Mem := mR M k (upd (M k) j x)
theorem mR_s (M : Mem) (k : Nat) (f : Nat → Int32) : mR M k f k = f := if_pos rfl
theorem mR_n {M : Mem} {k a : Nat} {f : Nat → Int32} (h : a ≠ k) : mR M k f a = M a := if_neg h
theorem mU_s (M : Mem) (k j : Nat) (x : Int32) : mU M k j x k = upd (M k) j x := if_pos rfl
theorem mU_n {M : Mem} {k j a : Nat} {x : Int32} (h : a ≠ k) : mU M k j x a = M a := if_neg h
theorem mU_at (M : Mem) (k j a b : Nat) (x : Int32) : mU M k j x a b = if a = k ∧ b = j then x else M a b := by
  unfold mU mR upd
  by_cases h : a = k
  · subst h
    by_cases h2 : b = j
    · simp [h2]
    · simp [h2]
  · simp [h]
def iabs (x : Int32) : Int32 := if 0 ≤ x then x else 0 - x
/-- tables, array classes (int, byte, boolean, Layout, Sheet), the String constants and their bytes, where the cells begin -/
abbrev wC : Type := va_G × (Nat → ClassId) × (Nat → Nat) × (Nat → Nat) × Nat
abbrev kD (K : wC) : va_G := K.1
abbrev kc (K : wC) (i : Nat) : ClassId := K.2.1 i
abbrev kS (K : wC) (i : Nat) : Nat := K.2.2.1 i
abbrev kV (K : wC) (i : Nat) : Nat := K.2.2.2.1 i
abbrev kb (K : wC) : Nat := K.2.2.2.2
abbrev wS : Type := wC → Nat → (Nat → Int32) → va_E
def wl (sh : wS) (n : Nat) (K : wC) (M : Mem) : va_W := (List.range n).map (fun k => (kb K + k, sh K k (M k)))
abbrev tyl (K : wC) : List (ClassId × FieldType) := [(kc K 0, .int), (kc K 1, .byte), (kc K 2, .boolean), (kc K 3, .object "WheelAreas$Layout"), (kc K 4, .object "WheelAreas$Sheet")]
def wP (sh : wS) (n : Nat) (K : wC) (M : Mem) (H : Heap) : Prop := va_P (kD K) vwCl (wl sh n K M) H
def wA (n : Nat) (K : wC) : Nat → Prop := fun q => kb K ≤ q ∧ q < kb K + n
theorem wl_get {sh : wS} {n : Nat} {K : wC} {M : Mem} {k : Nat} (h : k < n) : (wl sh n K M)[k]? = some (kb K + k, sh K k (M k)) := by simp [wl, h]
theorem wl_len {sh : wS} {n : Nat} {K : wC} {M : Mem} : (wl sh n K M).length = n := by simp [wl]
theorem wl_of {sh : wS} {n : Nat} {K : wC} {M : Mem} {i : Nat} {q : Nat × va_E} (h : (wl sh n K M)[i]? = some q) : i < n ∧ q.1 = kb K + i := by
  have hl : i < n := by
    have h1 := (List.getElem?_eq_some_iff.mp h).1
    rw [wl_len] at h1
    exact h1
  rw [wl_get hl] at h
  cases h
  exact ⟨hl, rfl⟩
theorem wl_set {sh : wS} {n : Nat} {K : wC} {M : Mem} {k : Nat} {f : Nat → Int32} : (wl sh n K M).set k (kb K + k, sh K k f) = wl sh n K (mR M k f) := by
  apply List.ext_getElem?
  intro i
  by_cases hi : i < n
  · by_cases h : i = k
    · subst h
      rw [List.getElem?_set_self (by rw [wl_len]; exact hi), wl_get hi, mR_s]
    · rw [List.getElem?_set_ne (Ne.symm h), wl_get hi, wl_get hi, mR_n h]
  · have hn := Nat.le_of_not_lt hi
    rw [List.getElem?_eq_none (by rw [List.length_set, wl_len]; exact hn), List.getElem?_eq_none (by rw [wl_len]; exact hn)]
theorem wl_D {sh : wS} {n : Nat} {K : wC} {M : Mem} : va_D (wA n K) (wl sh n K M) := by
  refine ⟨fun i j p q hi hj e => ?_, fun k q hk => ?_⟩
  · have a := (wl_of hi).2
    have b := (wl_of hj).2
    omega
  · obtain ⟨a, b⟩ := wl_of hk
    refine ⟨?_, ?_⟩ <;> omega
/-! what never changes: the tables, the String constants and statics that lie outside the world's cells -/
abbrev sLen : List Nat := [5, 6, 5, 4, 2, 4]
abbrev sByt : List (List Int32) := [[112, 108, 97, 105, 110], [99, 111, 97, 114, 115, 101], [115, 116, 105, 99, 107], [102, 114, 101, 101], [97, 116], [112, 111, 108, 101]]
abbrev sIx : List Nat := [85, 87, 89, 91, 93, 95]
abbrev sTx : List String := ["plain", "coarse", "stick", "free", "at", "pole"]
def wK (n : Nat) (K : wC) (U : State) : Prop :=
  va_K (kD K) vwCl (tyl K) U ∧ va_Nw (.methodLinkNest RX1 26 yX5_within "WheelAreas") U ∧ vk_S 6 sLen sByt (kS K) (kV K) (wA n K) U U.heap ∧ (∀ i : Nat, i < 6 → vk_R RX4 (sIx.getD i 0) (sTx.getD i "") (kS K i) U) ∧
  va_Z "java/lang/String" "COMPACT_STRINGS" "Z" (.int 1) (wA n K) U U.heap ∧ va_Zq "jdk/internal/util/Preconditions" "SIOOBE_FORMATTER" "Ljava/util/function/BiFunction;" (wA n K) U U.heap
theorem wK.step {n : Nat} {K : wC} {s U : State} {H : Heap} {locs : List Loc} (h : wK n K s) (hS : va_S (wA n K) s.heap H locs) (hU : U.heap = H) (hW : s.WarmedH U.vm) : wK n K U := by
  obtain ⟨h1, h2, h3, h4, h5, h6⟩ := h
  refine ⟨va_K.moved hW.alike h1, va_Nw.warmM hW h2, ?_, fun i hi => (h4 i hi).warm hW, ?_, ?_⟩
  · rw [hU]; exact (vk_S.moved hW.alike h3).kept hS.2.1
  · rw [hU]; exact (va_Z.moved hW.alike h5).kept hS.2.1
  · rw [hU]; exact (va_Zq.moved hW.alike h6).kept hS.2.1
theorem wK.same {n : Nat} {K : wC} {u U : State} (h : wK n K u) (hv : U.vm = u.vm) (hh : U.heap = u.heap) : wK n K U := by
  obtain ⟨h1, h2, h3, h4, h5, h6⟩ := h
  have hA : u.vm.Alike U.vm := by rw [hv]; exact Vm.Alike.refl u.vm
  refine ⟨va_K.moved hA h1, va_Nw.same rfl hv.symm h2, ?_, fun i hi => (h4 i hi).same hv, ?_, ?_⟩
  · rw [hh]; exact vk_S.moved hA h3
  · rw [hh]; exact va_Z.moved hA h5
  · rw [hh]; exact va_Zq.moved hA h6
def wB (sh : wS) (n : Nat) (K : wC) (M : Mem) (U : State) : Prop := wP sh n K M U.heap ∧ wK n K U
def wE (sh : wS) (n : Nat) (K : wC) (M : Mem) (t : State) : Prop := wP sh n K M t.heap
abbrev metI (l : Launch) (y : MethodName) (ws : List Cond) (rm : Room) (sh : wS) (n : Nat) (K : wC) (As : List Value) (M : Mem) (Q : Int32 → Mem → Prop) : Prop :=
  Met l y ws rm (va_Pc As (wB sh n K M)) (va_Qi Q (wE sh n K) (wA n K)) 0 0 (wA n K)
abbrev metL (l : Launch) (y : MethodName) (ws : List Cond) (rm : Room) (sh : wS) (n : Nat) (K : wC) (As : List Value) (M : Mem) (Q : Int64 → Mem → Prop) : Prop :=
  Met l y ws rm (va_Pc As (wB sh n K M)) (va_Ql Q (wE sh n K) (wA n K)) 0 0 (wA n K)
abbrev metV (l : Launch) (y : MethodName) (ws : List Cond) (rm : Room) (sh : wS) (n : Nat) (K : wC) (As : List Value) (M : Mem) (Q : Mem → Prop) : Prop :=
  Met l y ws rm (va_Pc As (wB sh n K M)) (va_Qv Q (wE sh n K) (wA n K)) 0 0 (wA n K)
/-- an answer that is a String constant, by its number -/
abbrev metS (l : Launch) (y : MethodName) (ws : List Cond) (rm : Room) (sh : wS) (n : Nat) (K : wC) (As : List Value) (M : Mem) (Q : Nat → Mem → Prop) : Prop :=
  Met l y ws rm (va_Pc As (wB sh n K M)) (va_Qr (fun u : Nat × Mem => Q u.1 u.2 ∧ u.1 < 6) (fun u a t => a = kS K u.1 ∧ wE sh n K u.2 t) (wA n K)) 0 0 (wA n K)
def cx (n : Nat) (K : wC) (p : Program) (s : State) (m : MethodId) (args : Array Value) (meth : Method) (c : Code) (cc : ByteArray) (nL : Nat) (ws : List Cond) (own : String) (ret : Option FieldType) : Prop :=
  p.tables.exec = Jvm.exec ∧ c.code = cc ∧ c.maxLocals = nL ∧ s.vm.findClass own = some m.cls ∧ (∀ w ∈ ws, w.before args s = true) ∧ meth.sig.returnType = ret ∧ meth.locks = false ∧ wK n K s
theorem met_of {l : Launch} {y : MethodName} {ws ws' : List Cond} {rm : Room} {sh : wS} {n : Nat} {K : wC} {As : List Value} {M : Mem} {Qc : Array Value → State → Outcome → State → Prop} {cc : ByteArray} {maxL : Nat} {ret : Option FieldType} {own : String}
    (hy : plainName y.cls = true) (hw : ws = .code y cc maxL ret :: ws') (ho : y.cls = own) (hlen : (lg_sl As).length ≤ maxL)
    (body : ∀ (p : Program) (e : Env) (s : State) (m : MethodId) (below : List Frame) (meth : Method) (c : Code) (ls : Array Slot), cx n K p s m As.toArray meth c cc maxL ws own ret → lv_has ls maxL (lv_args 0 As) → wP sh n K M s.heap → va_S (wA n K) s.heap s.heap [] →
      W p l e rm s m As.toArray below meth c s.heap [] 0 0 (MQ below Qc As.toArray s 0 0 (wA n K)) (F0 m 0 ls [])) :
    Met l y ws rm (va_Pc As (wB sh n K M)) Qc 0 0 (wA n K) := by
  refine Met.ofW (cc := cc) (maxL := maxL) (ret := ret) hy hw ?_
  intro p e s m args below meth c s₁ B hml hv
  obtain ⟨rfl, hP, hK⟩ := hv
  have hl := lv_entry As (n := maxL) hlen
  rw [lg_entry_eq]
  generalize (lg_sl As ++ List.replicate (maxL - (lg_sl As).length) Slot.unset).toArray = ls at hl ⊢
  exact body p e s m below meth c ls ⟨B.exec, B.bytes, hml, by rw [← ho]; exact findClass_of_methodNamed B.named, atoms_spec (ws := ws) B.pre, B.returns, B.notSynchronized, hK⟩ hl hP va_S.rf
section WR
variable {p : Program} {l : Launch} {e : Env} {R : Room} {s : State} {m : MethodId} {args : Array Value} {below : List Frame} {meth : Method} {c : Code} {H : Heap} {locs : List Loc} {cells slots : Nat} {Q : State → Prop}
variable {n : Nat} {K : wC} {sh : wS} {M : Mem} {cc : ByteArray} {nL : Nat} {ws : List Cond} {own : String} {ret : Option FieldType} {pc : Nat} {ls : Array Slot} {rest : List Value} {H0 : Heap}
theorem r_i {P : Int32 → Mem → Prop} {v : Int32} (C : cx n K p s m args meth c cc nL ws own (some .int)) (hP : wP sh n K M H) (hS : va_S (wA n K) s.heap H locs) (hq : P v M) (hdg : decode cc pc = .ok (.ireturn, 1)) : W p l e R s m args below meth c H locs cells slots (MQ below (va_Qi P (wE sh n K) (wA n K)) args s cells slots (wA n K)) (F0 m pc ls [.int v]) :=
  W.iret C.1 C.2.1 C.2.2.2.2.2.1 (fun t ht hW => ⟨⟨v, M, rfl, hq, by show wP sh n K M t.heap; rw [ht]; exact hP⟩, hS.F ht⟩) hS.2.2 hdg C.2.2.2.2.2.2.1
theorem r_z {P : Int32 → Mem → Prop} {v : Int32} {ty : FieldType} (C : cx n K p s m args meth c cc nL ws own (some ty)) (hn : narrow ty (.int v) = .int v) (hP : wP sh n K M H) (hS : va_S (wA n K) s.heap H locs) (hq : P v M) (hdg : decode cc pc = .ok (.ireturn, 1)) : W p l e R s m args below meth c H locs cells slots (MQ below (va_Qi P (wE sh n K) (wA n K)) args s cells slots (wA n K)) (F0 m pc ls [.int v]) :=
  W.zret C.1 C.2.1 C.2.2.2.2.2.1 hn (fun t ht hW => ⟨⟨v, M, rfl, hq, by show wP sh n K M t.heap; rw [ht]; exact hP⟩, hS.F ht⟩) hS.2.2 hdg C.2.2.2.2.2.2.1
theorem r_l {P : Int64 → Mem → Prop} {v : Int64} (C : cx n K p s m args meth c cc nL ws own (some .long)) (hP : wP sh n K M H) (hS : va_S (wA n K) s.heap H locs) (hq : P v M) (hdg : decode cc pc = .ok (.lreturn, 1)) : W p l e R s m args below meth c H locs cells slots (MQ below (va_Ql P (wE sh n K) (wA n K)) args s cells slots (wA n K)) (F0 m pc ls [.long v]) :=
  W.lret C.1 C.2.1 C.2.2.2.2.2.1 (fun t ht hW => ⟨⟨v, M, rfl, hq, by show wP sh n K M t.heap; rw [ht]; exact hP⟩, hS.F ht⟩) hS.2.2 hdg C.2.2.2.2.2.2.1
theorem r_v {P : Mem → Prop} (C : cx n K p s m args meth c cc nL ws own none) (hP : wP sh n K M H) (hS : va_S (wA n K) s.heap H locs) (hq : P M) (hdg : decode cc pc = .ok (.return_, 1)) : W p l e R s m args below meth c H locs cells slots (MQ below (va_Qv P (wE sh n K) (wA n K)) args s cells slots (wA n K)) (F0 m pc ls []) :=
  W.vret C.1 C.2.1 C.2.2.2.2.2.1 (fun t ht hW => ⟨⟨M, rfl, hq, by show wP sh n K M t.heap; rw [ht]; exact hP⟩, hS.F ht⟩) hS.2.2 hdg C.2.2.2.2.2.2.1
theorem r_s {P : Nat → Mem → Prop} {v : Nat} {ty : String} (C : cx n K p s m args meth c cc nL ws own (some (.object ty))) (hv : v < 6) (hP : wP sh n K M H) (hS : va_S (wA n K) s.heap H locs) (hq : P v M) (hdg : decode cc pc = .ok (.areturn, 1)) : W p l e R s m args below meth c H locs cells slots (MQ below (va_Qr (fun u : Nat × Mem => P u.1 u.2 ∧ u.1 < 6) (fun u a t => a = kS K u.1 ∧ wE sh n K u.2 t) (wA n K)) args s cells slots (wA n K)) (F0 m pc ls [.ref (kS K v)]) :=
  W.aret C.1 C.2.1 C.2.2.2.2.2.1 (Or.inl ⟨_, rfl⟩) (Or.inr ⟨_, rfl⟩) (fun t ht hW => ⟨⟨(v, M), kS K v, rfl, ⟨hq, hv⟩, rfl, by show wP sh n K M t.heap; rw [ht]; exact hP⟩, hS.F ht⟩) hS.2.2 hdg C.2.2.2.2.2.2.1
/-- a field is read -/
theorem g_f (C : cx n K p s m args meth c cc nL ws own ret) (hP : wP sh n K M H) {k ci : Nat} {fs : List Value} (hk : k < n) (he : sh K k (M k) = .inr (ci, fs)) {Cn : String} {T : u_T} {N : Nat} (hc : vwCl[ci]? = some (Cn, T, N)) (hin : ∀ w ∈ u_ws Cn T N, w ∈ ws) (j : Nat) (hj : j < N) {index : Nat} (hlk : Cond.fieldLink own index (T j).1 (T j).2.1 (T j).2.2.1 ∈ ws) {v : Value} (hv : fs[j]? = some v) (hdg : decode cc pc = .ok (.getfield index, 3))
    (kk : W p l e R s m args below meth c H locs cells slots Q (F0 m (pc + 3) ls (v :: rest))) : W p l e R s m args below meth c H locs cells slots Q (F0 m pc ls (.ref (kb K + k) :: rest)) :=
  va_get C.1 C.2.1 C.2.2.2.2.1 hin C.2.2.2.1 C.2.2.2.2.2.2.2.1 hP k ((wl_get hk).trans (by rw [he])) hc j hj (C.2.2.2.2.1 _ hlk) (fun _ h => h) hv hdg kk
/-- a field of a whole number is written -/
theorem p_f (C : cx n K p s m args meth c cc nL ws own ret) (hP : wP sh n K M H) (hS : va_S (wA n K) H0 H locs) {k ci : Nat} {fs : List Value} (hk : k < n) {x : Int32} {j : Nat} (he : sh K k (M k) = .inr (ci, fs)) (he2 : sh K k (upd (M k) j x) = .inr (ci, fs.set j (.int x))) {Cn : String} {T : u_T} {N : Nat} (hc : vwCl[ci]? = some (Cn, T, N)) (hin : ∀ w ∈ u_ws Cn T N, w ∈ ws) {ty0 : Nat → FieldType} (hty : ∀ k, k < N → parseFieldDescriptor (T k).2.2.1 = some (ty0 k)) (hnm : ∀ a, a < N → ∀ b, b < N → a ≠ b → (T a).2.1 ≠ (T b).2.1)
    (hj : j < N) {index : Nat} (hlk : Cond.fieldLink own index (T j).1 (T j).2.1 (T j).2.2.1 ∈ ws) (hfin : (T j).2.2.2 = false) (hn : narrow (ty0 j) (.int x) = .int x) (hfit : fits (ty0 j) (.int x) = true) (hl : j < fs.length) (hdg : decode cc pc = .ok (.putfield index, 3))
    (kk : ∀ (H1 : Heap) (locs1 : List Loc), wP sh n K (mU M k j x) H1 → va_S (wA n K) H0 H1 locs1 → W p l e R s m args below meth c H1 locs1 cells slots Q (F0 m (pc + 3) ls rest)) : W p l e R s m args below meth c H locs cells slots Q (F0 m pc ls (.int x :: .ref (kb K + k) :: rest)) := by
  refine va_put C.1 C.2.1 C.2.2.2.2.1 hin ty0 hty hnm C.2.2.2.1 C.2.2.2.2.2.2.2.1 hP wl_D hS k ((wl_get hk).trans (by rw [he])) hc j hj (C.2.2.2.2.1 _ hlk) (fun _ h => h) hfin (hty j hj) hn hfit hl hdg (fun H1 locs1 hP1 _ hS1 => kk H1 locs1 ?_ hS1)
  rw [← he2, wl_set] at hP1
  exact hP1
theorem a_il (C : cx n K p s m args meth c cc nL ws own ret) (hP : wP sh n K M H) {k N : Nat} (hk : k < n) (he : sh K k (M k) = .inl (kc K 0, N, .inl (M k))) {i : Int32} (hin : vp_in i N) {j : Nat} (hj : i.toNatClampNeg = j) (hdg : decode cc pc = .ok (.iaload, 1))
    (kk : W p l e R s m args below meth c H locs cells slots Q (F0 m (pc + 1) ls (.int (M k j) :: rest))) : W p l e R s m args below meth c H locs cells slots Q (F0 m pc ls (.int i :: .ref (kb K + k) :: rest)) :=
  va_iald C.1 C.2.1 C.2.2.2.2.2.2.2.1 hP k 0 ((wl_get hk).trans (by rw [he])) rfl hin hdg (by rw [hj]; exact kk)
theorem a_bl (C : cx n K p s m args meth c cc nL ws own ret) (hP : wP sh n K M H) {k N : Nat} (hk : k < n) (he : sh K k (M k) = .inl (kc K 1, N, .inl (M k))) {i : Int32} (hin : vp_in i N) {j : Nat} (hj : i.toNatClampNeg = j) (hdg : decode cc pc = .ok (.baload, 1))
    (kk : W p l e R s m args below meth c H locs cells slots Q (F0 m (pc + 1) ls (.int (M k j) :: rest))) : W p l e R s m args below meth c H locs cells slots Q (F0 m pc ls (.int i :: .ref (kb K + k) :: rest)) :=
  va_bald C.1 C.2.1 C.2.2.2.2.2.2.2.1 hP k 1 ((wl_get hk).trans (by rw [he])) rfl hin hdg (by rw [hj]; exact kk)
theorem a_zl (C : cx n K p s m args meth c cc nL ws own ret) (hP : wP sh n K M H) {k N : Nat} (hk : k < n) (he : sh K k (M k) = .inl (kc K 2, N, .inl (M k))) {i : Int32} (hin : vp_in i N) {j : Nat} (hj : i.toNatClampNeg = j) (hdg : decode cc pc = .ok (.baload, 1))
    (kk : W p l e R s m args below meth c H locs cells slots Q (F0 m (pc + 1) ls (.int (M k j) :: rest))) : W p l e R s m args below meth c H locs cells slots Q (F0 m pc ls (.int i :: .ref (kb K + k) :: rest)) :=
  va_zald C.1 C.2.1 C.2.2.2.2.2.2.2.1 hP k 2 ((wl_get hk).trans (by rw [he])) rfl hin hdg (by rw [hj]; exact kk)
theorem a_ql (C : cx n K p s m args meth c cc nL ws own ret) (hP : wP sh n K M H) {k N : Nat} (hk : k < n) {t0 : Nat} {cA : ClassId} {Cn : String} {f : Nat → Option Nat} (he : sh K k (M k) = .inl (cA, N, .inr (.inr (.inr (.inr f))))) (ht : (tyl K)[t0]? = some (cA, .object Cn)) {i : Int32} (hin : vp_in i N) {a : Nat} (ha : f i.toNatClampNeg = some a) (hdg : decode cc pc = .ok (.aaload, 1))
    (kk : W p l e R s m args below meth c H locs cells slots Q (F0 m (pc + 1) ls (.ref a :: rest))) : W p l e R s m args below meth c H locs cells slots Q (F0 m pc ls (.int i :: .ref (kb K + k) :: rest)) :=
  va_aldq C.1 C.2.1 C.2.2.2.2.2.2.2.1 hP k t0 ((wl_get hk).trans (by rw [he])) ht hin hdg (by rw [ha]; exact kk)
theorem a_is (C : cx n K p s m args meth c cc nL ws own ret) (hP : wP sh n K M H) (hS : va_S (wA n K) H0 H locs) {k N : Nat} (hk : k < n) (he : ∀ f, sh K k f = .inl (kc K 0, N, .inl f)) {i x : Int32} (hin : vp_in i N) {j : Nat} (hj : i.toNatClampNeg = j) (hdg : decode cc pc = .ok (.iastore, 1))
    (kk : ∀ (H1 : Heap) (locs1 : List Loc), wP sh n K (mU M k j x) H1 → va_S (wA n K) H0 H1 locs1 → W p l e R s m args below meth c H1 locs1 cells slots Q (F0 m (pc + 1) ls rest)) : W p l e R s m args below meth c H locs cells slots Q (F0 m pc ls (.int x :: .int i :: .ref (kb K + k) :: rest)) := by
  subst hj
  refine va_iast C.1 C.2.1 C.2.2.2.2.2.2.2.1 hP wl_D hS k 0 ((wl_get hk).trans (by rw [he])) rfl hin hdg (fun H1 locs1 hP1 _ hS1 => kk H1 locs1 ?_ hS1)
  rw [← he, wl_set] at hP1
  exact hP1
theorem a_bs (C : cx n K p s m args meth c cc nL ws own ret) (hP : wP sh n K M H) (hS : va_S (wA n K) H0 H locs) {k N : Nat} (hk : k < n) (he : ∀ f, sh K k f = .inl (kc K 1, N, .inl f)) {i x : Int32} (hin : vp_in i N) {j : Nat} (hj : i.toNatClampNeg = j) (hdg : decode cc pc = .ok (.bastore, 1))
    (kk : ∀ (H1 : Heap) (locs1 : List Loc), wP sh n K (mU M k j (vp_nar .byte x)) H1 → va_S (wA n K) H0 H1 locs1 → W p l e R s m args below meth c H1 locs1 cells slots Q (F0 m (pc + 1) ls rest)) : W p l e R s m args below meth c H locs cells slots Q (F0 m pc ls (.int x :: .int i :: .ref (kb K + k) :: rest)) := by
  subst hj
  refine va_bast C.1 C.2.1 C.2.2.2.2.2.2.2.1 hP wl_D hS k 1 ((wl_get hk).trans (by rw [he])) rfl hin hdg (fun H1 locs1 hP1 _ hS1 => kk H1 locs1 ?_ hS1)
  rw [← he, wl_set] at hP1
  exact hP1
theorem a_zs (C : cx n K p s m args meth c cc nL ws own ret) (hP : wP sh n K M H) (hS : va_S (wA n K) H0 H locs) {k N : Nat} (hk : k < n) (he : ∀ f, sh K k f = .inl (kc K 2, N, .inl f)) {i x : Int32} (hx : vp_nar .boolean x = x) (hin : vp_in i N) {j : Nat} (hj : i.toNatClampNeg = j) (hdg : decode cc pc = .ok (.bastore, 1))
    (kk : ∀ (H1 : Heap) (locs1 : List Loc), wP sh n K (mU M k j x) H1 → va_S (wA n K) H0 H1 locs1 → W p l e R s m args below meth c H1 locs1 cells slots Q (F0 m (pc + 1) ls rest)) : W p l e R s m args below meth c H locs cells slots Q (F0 m pc ls (.int x :: .int i :: .ref (kb K + k) :: rest)) := by
  subst hj
  refine va_zast C.1 C.2.1 C.2.2.2.2.2.2.2.1 hP wl_D hS k 2 ((wl_get hk).trans (by rw [he])) rfl hin hdg (fun H1 locs1 hP1 _ hS1 => kk H1 locs1 ?_ hS1)
  rw [hx, ← he, wl_set] at hP1
  exact hP1
/-- System.arraycopy of whole rows of ints -/
theorem a_cp (C : cx n K p s m args meth c cc nL ws own ret) (hP : wP sh n K M H) (hS : va_S (wA n K) H0 H locs) {k0 k1 N : Nat} (hk0 : k0 < n) (hk1 : k1 < n) (he0 : sh K k0 (M k0) = .inl (kc K 0, N, .inl (M k0))) (he1 : ∀ f, sh K k1 f = .inl (kc K 0, N, .inl f)) (hls : ls.size = nL) {index : Nat} (hlk : Cond.methodLink own index arraycopyName ∈ ws) (hnat : Cond.native arraycopyName ∈ ws) (hst : Cond.static arraycopyName ∈ ws) (hini : Cond.initialized "java/lang/System" ∈ ws)
    {sp dp q : Int32} (h1 : ¬ sp < 0) (h2 : ¬ dp < 0) (h3 : ¬ q < 0) (h4 : sp.toNatClampNeg + q.toNatClampNeg ≤ N) (h5 : dp.toNatClampNeg + q.toNatClampNeg ≤ N) (hfr : 1 ≤ R.frames) (hlo : (rest.map fun v => v.category).sum + (nativeFrameWords "java/lang/System" "arraycopy" 5 + 11) ≤ R.locals) (hdg : decode cc pc = .ok (.invokestatic index, 3))
    (kk : ∀ (H1 : Heap) (locs1 : List Loc), wP sh n K (mR M k1 (va_cpy (M k0) (M k1) sp.toNatClampNeg dp.toNatClampNeg q.toNatClampNeg)) H1 → va_S (wA n K) H0 H1 locs1 → W p l e R s m args below meth c H1 locs1 cells slots Q (F0 m (pc + 3) ls rest)) : W p l e R s m args below meth c H locs cells slots Q (F0 m pc ls (.int q :: .int dp :: .ref (kb K + k1) :: .int sp :: .ref (kb K + k0) :: rest)) := by
  refine va_copyi C.1 C.2.1 (C.2.2.1.trans hls.symm) C.2.2.2.1 (C.2.2.2.2.1 _ hlk) (C.2.2.2.2.1 _ hnat) (C.2.2.2.2.1 _ hst) (C.2.2.2.2.1 _ hini) C.2.2.2.2.2.2.2.1 hP wl_D hS k0 k1 0 0 ((wl_get hk0).trans (by rw [he0])) ((wl_get hk1).trans (by rw [he1])) rfl rfl rfl h1 h2 h3 h4 h5 (fun _ _ => rfl) hfr hlo hdg (fun H1 locs1 hP1 _ hS1 => kk H1 locs1 ?_ hS1)
  rw [← he1, wl_set] at hP1
  exact hP1
theorem m_abs (C : cx n K p s m args meth c cc nL ws own ret) (hls : ls.size = nL) {index : Nat} (hlk : Cond.methodLink own index Lib.Math.abs.name ∈ ws) (hst : Cond.static Lib.Math.abs.name ∈ ws) (hini : Cond.initialized "java/lang/Math" ∈ ws) (hcode : Cond.code Lib.Math.abs.name Lib.Math.abs.code 1 (some .int) ∈ ws) (hfr : 1 ≤ R.frames) (hlo : (rest.map fun v => v.category).sum + 13 ≤ R.locals) (hc : cells ≤ R.cells) (hs : slots ≤ R.slots) {x : Int32} (hdg : decode cc pc = .ok (.invokestatic index, 3))
    (kk : W p l e R s m args below meth c H locs cells slots Q (F0 m (pc + 3) ls (.int (iabs x) :: rest))) : W p l e R s m args below meth c H locs cells slots Q (F0 m pc ls (.int x :: rest)) :=
  va_mabs C.1 C.2.1 (C.2.2.1.trans hls.symm) C.2.2.2.1 (C.2.2.2.2.1 _ hlk) (C.2.2.2.2.1 _ hst) (C.2.2.2.2.1 _ hini) (C.2.2.2.2.1 _ hcode) hfr hlo hc hs hdg kk
/-- calls: the callee's contract is of the same world -/
theorem fb_w {As : List Value} : FrameBlind (va_Pc As (wB sh n K M)) := fun a U g mk q => ⟨q.1, q.2.1, wK.same q.2.2 rfl rfl⟩
theorem pc_w {As : List Value} (C : cx n K p s m args meth c cc nL ws own ret) (hP : wP sh n K M H) (hS : va_S (wA n K) s.heap H locs) : ∀ U : State, U.heap = H → s.WarmedH U.vm → va_Pc As (wB sh n K M) As.toArray U :=
  fun U hU hW => ⟨rfl, by show wP sh n K M U.heap; rw [hU]; exact hP, C.2.2.2.2.2.2.2.step hS hU hW⟩
variable {y : MethodName} {ws2 ws2' : List Cond} {rm : Room} {bytes : ByteArray} {maxL na index : Nat} {ret2 : Option FieldType} {st0 As : List Value} {Qc : Array Value → State → Outcome → State → Prop}
/-- a virtual call on a cell of the world -/
theorem run_v {Cn : String} {k ci N : Nat} {fs : List Value} {T : u_T} (C : cx n K p s m args meth c cc nL ws own ret) (hP : wP sh n K M H) (hS : va_S (wA n K) s.heap H locs) (hM : Met l y ws2 rm (va_Pc (.ref (kb K + k) :: As) (wB sh n K M)) Qc 0 0 (wA n K)) (hG : GoodIn ws (wsV own index Cn y ws2)) (hw : ws2 = Cond.code y bytes maxL ret2 :: ws2')
    (hd : y.cls = Cn ∧ y.cls ≠ "java/lang/invoke/MethodHandle" ∧ y.cls ≠ "java/lang/invoke/VarHandle" ∧ (parseMethodDescriptor y.desc).map (fun d => d.parameters.length) = some na) (hn : As.length = na) (hr : rm.cells = 0 ∧ rm.slots = 0) (hR : rm.frames + 1 ≤ R.frames ∧ 8 + (maxL + 11) + rm.locals ≤ R.locals) (hk : k < n) (he : sh K k (M k) = .inr (ci, fs)) (hc : vwCl[ci]? = some (Cn, T, N)) (hls : ls.size = nL) (hst : st0 = As.reverse ++ .ref (kb K + k) :: rest) (hrm : (rest.map fun v => v.category).sum ≤ 8) (hdg : decode cc pc = .ok (.invokevirtual index, 3)) (hcs : cells ≤ R.cells ∧ slots ≤ R.slots) :
    va_Run p l e R s m args below meth c H locs cells slots 0 0 (F0 m pc ls st0) rest (Qc (.ref (kb K + k) :: As).toArray) (wA n K) :=
  va_runV ⟨C.1, C.2.1, C.2.2.1, C.2.2.2.1, C.2.2.2.2.1⟩ hM (cwV na C.2.2.2.2.1 hG hw hr.1 hr.2 hd hR) ⟨fb_w, va_recv C.2.2.2.2.2.2.2.1 hP hc ((wl_get hk).trans (by rw [he])), pc_w C hP hS⟩ rfl hn hls hst (lv_room hrm) hdg hcs
theorem run_s (C : cx n K p s m args meth c cc nL ws own ret) (hP : wP sh n K M H) (hS : va_S (wA n K) s.heap H locs) (hM : Met l y ws2 rm (va_Pc As (wB sh n K M)) Qc 0 0 (wA n K)) (hG : GoodIn ws (va_wsS own index y ws2)) (hw : ws2 = Cond.code y bytes maxL ret2 :: ws2')
    (hd : y.cls ≠ "java/lang/invoke/MethodHandle" ∧ y.cls ≠ "java/lang/invoke/VarHandle" ∧ (parseMethodDescriptor y.desc).map (fun d => d.parameters.length) = some na) (hn : As.length = na) (hr : rm.cells = 0 ∧ rm.slots = 0) (hR : rm.frames + 1 ≤ R.frames ∧ 8 + (maxL + 11) + rm.locals ≤ R.locals) (hls : ls.size = nL) (hst : st0 = As.reverse ++ rest) (hrm : (rest.map fun v => v.category).sum ≤ 8) (hdg : decode cc pc = .ok (.invokestatic index, 3)) (hcs : cells ≤ R.cells ∧ slots ≤ R.slots) :
    va_Run p l e R s m args below meth c H locs cells slots 0 0 (F0 m pc ls st0) rest (Qc As.toArray) (wA n K) :=
  va_runS ⟨C.1, C.2.1, C.2.2.1, C.2.2.2.1, C.2.2.2.2.1⟩ hM (va_cwS na C.2.2.2.2.1 hG hw hr.1 hr.2 hd hR) ⟨fb_w, pc_w C hP hS⟩ rfl hn hls hst (lv_room hrm) hdg hcs
theorem c_i {P : Int32 → Mem → Prop} {a : Array Value} (hr : va_Run p l e R s m args below meth c H locs cells slots 0 0 (F0 m pc ls st0) rest (va_Qi P (wE sh n K) (wA n K) a) (wA n K)) (hS : va_S (wA n K) H0 H locs)
    (kk : ∀ (r : Int32) (M1 : Mem) (H1 : Heap) (locs1 : List Loc), P r M1 → wP sh n K M1 H1 → va_S (wA n K) H0 H1 locs1 → W p l e R s m args below meth c H1 locs1 cells slots Q (F0 m (pc + 3) ls (.int r :: rest))) : W p l e R s m args below meth c H locs cells slots Q (F0 m pc ls st0) :=
  va_calli hr hS (fun _ _ h => h) (fun _ h => h) (fun r M1 t H1 locs1 ht _ hp hB _ _ hS1 => kk r M1 H1 locs1 hp (by rw [← ht]; exact hB) hS1)
theorem c_l {P : Int64 → Mem → Prop} {a : Array Value} (hr : va_Run p l e R s m args below meth c H locs cells slots 0 0 (F0 m pc ls st0) rest (va_Ql P (wE sh n K) (wA n K) a) (wA n K)) (hS : va_S (wA n K) H0 H locs)
    (kk : ∀ (r : Int64) (M1 : Mem) (H1 : Heap) (locs1 : List Loc), P r M1 → wP sh n K M1 H1 → va_S (wA n K) H0 H1 locs1 → W p l e R s m args below meth c H1 locs1 cells slots Q (F0 m (pc + 3) ls (.long r :: rest))) : W p l e R s m args below meth c H locs cells slots Q (F0 m pc ls st0) :=
  va_calll hr hS (fun _ _ h => h) (fun _ h => h) (fun r M1 t H1 locs1 ht _ hp hB _ _ hS1 => kk r M1 H1 locs1 hp (by rw [← ht]; exact hB) hS1)
theorem c_v {P : Mem → Prop} {a : Array Value} (hr : va_Run p l e R s m args below meth c H locs cells slots 0 0 (F0 m pc ls st0) rest (va_Qv P (wE sh n K) (wA n K) a) (wA n K)) (hS : va_S (wA n K) H0 H locs)
    (kk : ∀ (M1 : Mem) (H1 : Heap) (locs1 : List Loc), P M1 → wP sh n K M1 H1 → va_S (wA n K) H0 H1 locs1 → W p l e R s m args below meth c H1 locs1 cells slots Q (F0 m (pc + 3) ls rest)) : W p l e R s m args below meth c H locs cells slots Q (F0 m pc ls st0) :=
  va_callv hr hS (fun _ _ h => h) (fun _ h => h) (fun M1 t H1 locs1 ht _ hp hB _ _ hS1 => kk M1 H1 locs1 hp (by rw [← ht]; exact hB) hS1)
theorem c_s {P : Nat → Mem → Prop} {a : Array Value} (hr : va_Run p l e R s m args below meth c H locs cells slots 0 0 (F0 m pc ls st0) rest (va_Qr (fun u : Nat × Mem => P u.1 u.2 ∧ u.1 < 6) (fun u a t => a = kS K u.1 ∧ wE sh n K u.2 t) (wA n K) a) (wA n K)) (hS : va_S (wA n K) H0 H locs)
    (kk : ∀ (r : Nat) (M1 : Mem) (H1 : Heap) (locs1 : List Loc), r < 6 → P r M1 → wP sh n K M1 H1 → va_S (wA n K) H0 H1 locs1 → W p l e R s m args below meth c H1 locs1 cells slots Q (F0 m (pc + 3) ls (.ref (kS K r) :: rest))) : W p l e R s m args below meth c H locs cells slots Q (F0 m pc ls st0) :=
  va_callr hr hS (fun _ _ h => h) (fun _ h => h) (fun u ra t H1 locs1 ht _ hp hB _ _ hS1 => by
    obtain ⟨e1, hB⟩ := hB
    subst e1
    exact kk u.1 u.2 H1 locs1 hp.2 hp.1 (by rw [← ht]; exact hB) hS1)
end WR
theorem ne_toInt {x k : Int32} (h : ¬ x = k) : x.toInt ≠ k.toInt := fun e => h (Int32.toInt_inj.mp e)
/-! the shape of the class's cells, from its object on -/
abbrev lcell (K : wC) (o : Nat) (f : Nat → Int32) : va_E := .inr (0, [.ref (kb K + (o + 1)), .ref (kb K + (o + 2)), .int (f 2), .ref (kb K + (o + 3)), .ref (kb K + (o + 4)), .ref (kb K + (o + 5)), .int (f 6), .int (f 7), .int (f 8), .int (f 9)])
abbrev scell (K : wC) (o : Nat) (f : Nat → Int32) : va_E := .inr (1, [.ref (kb K + (o + 1)), .int (f 1), .int (f 2)])
abbrev icell (K : wC) (N : Nat) (f : Nat → Int32) : va_E := .inl (kc K 0, N, .inl f)
def shX : wS := fun K k f => match k with
  | 0 => .inr (5, [.ref (kb K + 1), .ref (kb K + 7), .ref (kb K + 13), .ref (kb K + 14), .ref (kb K + 15), .ref (kb K + 24), .ref (kb K + 28), .ref (kb K + 29), .ref (kb K + 30), .int (f 9), .int (f 10)])
  | 1 => lcell K 1 f
  | 2 => icell K 10 f
  | 3 => icell K 10 f
  | 4 => icell K 4 f
  | 5 => icell K 4 f
  | 6 => icell K 4 f
  | 7 => lcell K 7 f
  | 8 => icell K 10 f
  | 9 => icell K 10 f
  | 10 => icell K 4 f
  | 11 => icell K 4 f
  | 12 => icell K 4 f
  | 13 => .inl (kc K 3, 2, .inr (.inr (.inr (.inr (fun i => some (kb K + (31 + 6 * i)))))))
  | 14 => .inl (kc K 2, 2, .inl f)
  | 15 => .inr (4, [.ref (kb K + 16), .ref (kb K + 18), .int (f 2), .int (f 3), .int (f 4), .int (f 5)])
  | 16 => .inr (3, [.ref (kb K + 17), .int (f 1), .int (f 2), .int (f 3), .int (f 4)])
  | 17 => .inl (kc K 1, 160, .inl f)
  | 18 => lcell K 18 f
  | 19 => icell K 10 f
  | 20 => icell K 10 f
  | 21 => icell K 4 f
  | 22 => icell K 4 f
  | 23 => icell K 4 f
  | 24 => .inr (2, [.ref (kb K + 25), .ref (kb K + 26), .ref (kb K + 27), .int (f 3)])
  | 25 => icell K 6 f
  | 26 => icell K 6 f
  | 27 => icell K 6 f
  | 28 => .inl (kc K 4, 4, .inr (.inr (.inr (.inr (fun i => some (kb K + (43 + 2 * i)))))))
  | 29 => icell K 8 f
  | 30 => icell K 10 f
  | 31 => lcell K 31 f
  | 32 => icell K 10 f
  | 33 => icell K 10 f
  | 34 => icell K 4 f
  | 35 => icell K 4 f
  | 36 => icell K 4 f
  | 37 => lcell K 37 f
  | 38 => icell K 10 f
  | 39 => icell K 10 f
  | 40 => icell K 4 f
  | 41 => icell K 4 f
  | 42 => icell K 4 f
  | 43 => scell K 43 f
  | 44 => icell K 40 f
  | 45 => scell K 45 f
  | 46 => icell K 40 f
  | 47 => scell K 47 f
  | 48 => icell K 40 f
  | 49 => scell K 49 f
  | _ => icell K 40 f
/-- the reference's cells -/
def shM : wS := fun K k f => match k with
  | 0 => .inr (6, [.ref (kb K + 1), .ref (kb K + 2), .int (f 2), .ref (kb K + 3), .int (f 4), .int (f 5), .int (f 6), .int (f 7), .int (f 8), .int (f 9), .int (f 10), .int (f 11), .ref (kb K + 4), .ref (kb K + 5), .int (f 14), .int (f 15), .int (f 16), .int (f 17), .ref (kb K + 6), .int (f 19), .ref (kb K + 7), .ref (kb K + 8), .ref (kb K + 9), .ref (kb K + 10), .ref (kb K + 11), .int (f 25)])
  | 1 => icell K 222 f
  | 2 => icell K 37 f
  | 3 => icell K 160 f
  | 4 => icell K 7 f
  | 5 => icell K 26 f
  | 6 => icell K 18 f
  | 7 => icell K 410 f
  | 8 => .inl (kc K 2, 2, .inl f)
  | 9 => icell K 4 f
  | 10 => icell K 4 f
  | _ => icell K 160 f
theorem sX_0 (K : wC) (f : Nat → Int32) : shX K 0 f = .inr (5, [.ref (kb K + 1), .ref (kb K + 7), .ref (kb K + 13), .ref (kb K + 14), .ref (kb K + 15), .ref (kb K + 24), .ref (kb K + 28), .ref (kb K + 29), .ref (kb K + 30), .int (f 9), .int (f 10)]) := rfl
theorem sX_1 (K : wC) (f : Nat → Int32) : shX K 1 f = .inr (0, [.ref (kb K + 2), .ref (kb K + 3), .int (f 2), .ref (kb K + 4), .ref (kb K + 5), .ref (kb K + 6), .int (f 6), .int (f 7), .int (f 8), .int (f 9)]) := rfl
theorem sX_2 (K : wC) (f : Nat → Int32) : shX K 2 f = icell K 10 f := rfl
theorem sX_3 (K : wC) (f : Nat → Int32) : shX K 3 f = icell K 10 f := rfl
theorem sX_4 (K : wC) (f : Nat → Int32) : shX K 4 f = icell K 4 f := rfl
theorem sX_5 (K : wC) (f : Nat → Int32) : shX K 5 f = icell K 4 f := rfl
theorem sX_6 (K : wC) (f : Nat → Int32) : shX K 6 f = icell K 4 f := rfl
theorem sX_7 (K : wC) (f : Nat → Int32) : shX K 7 f = .inr (0, [.ref (kb K + 8), .ref (kb K + 9), .int (f 2), .ref (kb K + 10), .ref (kb K + 11), .ref (kb K + 12), .int (f 6), .int (f 7), .int (f 8), .int (f 9)]) := rfl
theorem sX_8 (K : wC) (f : Nat → Int32) : shX K 8 f = icell K 10 f := rfl
theorem sX_9 (K : wC) (f : Nat → Int32) : shX K 9 f = icell K 10 f := rfl
theorem sX_10 (K : wC) (f : Nat → Int32) : shX K 10 f = icell K 4 f := rfl
theorem sX_11 (K : wC) (f : Nat → Int32) : shX K 11 f = icell K 4 f := rfl
theorem sX_12 (K : wC) (f : Nat → Int32) : shX K 12 f = icell K 4 f := rfl
theorem sX_13 (K : wC) (f : Nat → Int32) : shX K 13 f = .inl (kc K 3, 2, .inr (.inr (.inr (.inr (fun i => some (kb K + (31 + 6 * i))))))) := rfl
theorem sX_14 (K : wC) (f : Nat → Int32) : shX K 14 f = .inl (kc K 2, 2, .inl f) := rfl
theorem sX_15 (K : wC) (f : Nat → Int32) : shX K 15 f = .inr (4, [.ref (kb K + 16), .ref (kb K + 18), .int (f 2), .int (f 3), .int (f 4), .int (f 5)]) := rfl
theorem sX_16 (K : wC) (f : Nat → Int32) : shX K 16 f = .inr (3, [.ref (kb K + 17), .int (f 1), .int (f 2), .int (f 3), .int (f 4)]) := rfl
theorem sX_17 (K : wC) (f : Nat → Int32) : shX K 17 f = .inl (kc K 1, 160, .inl f) := rfl
theorem sX_18 (K : wC) (f : Nat → Int32) : shX K 18 f = .inr (0, [.ref (kb K + 19), .ref (kb K + 20), .int (f 2), .ref (kb K + 21), .ref (kb K + 22), .ref (kb K + 23), .int (f 6), .int (f 7), .int (f 8), .int (f 9)]) := rfl
theorem sX_19 (K : wC) (f : Nat → Int32) : shX K 19 f = icell K 10 f := rfl
theorem sX_20 (K : wC) (f : Nat → Int32) : shX K 20 f = icell K 10 f := rfl
theorem sX_21 (K : wC) (f : Nat → Int32) : shX K 21 f = icell K 4 f := rfl
theorem sX_22 (K : wC) (f : Nat → Int32) : shX K 22 f = icell K 4 f := rfl
theorem sX_23 (K : wC) (f : Nat → Int32) : shX K 23 f = icell K 4 f := rfl
theorem sX_24 (K : wC) (f : Nat → Int32) : shX K 24 f = .inr (2, [.ref (kb K + 25), .ref (kb K + 26), .ref (kb K + 27), .int (f 3)]) := rfl
theorem sX_25 (K : wC) (f : Nat → Int32) : shX K 25 f = icell K 6 f := rfl
theorem sX_26 (K : wC) (f : Nat → Int32) : shX K 26 f = icell K 6 f := rfl
theorem sX_27 (K : wC) (f : Nat → Int32) : shX K 27 f = icell K 6 f := rfl
theorem sX_28 (K : wC) (f : Nat → Int32) : shX K 28 f = .inl (kc K 4, 4, .inr (.inr (.inr (.inr (fun i => some (kb K + (43 + 2 * i))))))) := rfl
theorem sX_29 (K : wC) (f : Nat → Int32) : shX K 29 f = icell K 8 f := rfl
theorem sX_30 (K : wC) (f : Nat → Int32) : shX K 30 f = icell K 10 f := rfl
theorem sX_31 (K : wC) (f : Nat → Int32) : shX K 31 f = .inr (0, [.ref (kb K + 32), .ref (kb K + 33), .int (f 2), .ref (kb K + 34), .ref (kb K + 35), .ref (kb K + 36), .int (f 6), .int (f 7), .int (f 8), .int (f 9)]) := rfl
theorem sX_32 (K : wC) (f : Nat → Int32) : shX K 32 f = icell K 10 f := rfl
theorem sX_33 (K : wC) (f : Nat → Int32) : shX K 33 f = icell K 10 f := rfl
theorem sX_34 (K : wC) (f : Nat → Int32) : shX K 34 f = icell K 4 f := rfl
theorem sX_35 (K : wC) (f : Nat → Int32) : shX K 35 f = icell K 4 f := rfl
theorem sX_36 (K : wC) (f : Nat → Int32) : shX K 36 f = icell K 4 f := rfl
theorem sX_37 (K : wC) (f : Nat → Int32) : shX K 37 f = .inr (0, [.ref (kb K + 38), .ref (kb K + 39), .int (f 2), .ref (kb K + 40), .ref (kb K + 41), .ref (kb K + 42), .int (f 6), .int (f 7), .int (f 8), .int (f 9)]) := rfl
theorem sX_38 (K : wC) (f : Nat → Int32) : shX K 38 f = icell K 10 f := rfl
theorem sX_39 (K : wC) (f : Nat → Int32) : shX K 39 f = icell K 10 f := rfl
theorem sX_40 (K : wC) (f : Nat → Int32) : shX K 40 f = icell K 4 f := rfl
theorem sX_41 (K : wC) (f : Nat → Int32) : shX K 41 f = icell K 4 f := rfl
theorem sX_42 (K : wC) (f : Nat → Int32) : shX K 42 f = icell K 4 f := rfl
theorem sX_43 (K : wC) (f : Nat → Int32) : shX K 43 f = .inr (1, [.ref (kb K + 44), .int (f 1), .int (f 2)]) := rfl
theorem sX_44 (K : wC) (f : Nat → Int32) : shX K 44 f = icell K 40 f := rfl
theorem sX_45 (K : wC) (f : Nat → Int32) : shX K 45 f = .inr (1, [.ref (kb K + 46), .int (f 1), .int (f 2)]) := rfl
theorem sX_46 (K : wC) (f : Nat → Int32) : shX K 46 f = icell K 40 f := rfl
theorem sX_47 (K : wC) (f : Nat → Int32) : shX K 47 f = .inr (1, [.ref (kb K + 48), .int (f 1), .int (f 2)]) := rfl
theorem sX_48 (K : wC) (f : Nat → Int32) : shX K 48 f = icell K 40 f := rfl
theorem sX_49 (K : wC) (f : Nat → Int32) : shX K 49 f = .inr (1, [.ref (kb K + 50), .int (f 1), .int (f 2)]) := rfl
theorem sX_50 (K : wC) (f : Nat → Int32) : shX K 50 f = icell K 40 f := rfl
theorem sM_0 (K : wC) (f : Nat → Int32) : shM K 0 f = .inr (6, [.ref (kb K + 1), .ref (kb K + 2), .int (f 2), .ref (kb K + 3), .int (f 4), .int (f 5), .int (f 6), .int (f 7), .int (f 8), .int (f 9), .int (f 10), .int (f 11), .ref (kb K + 4), .ref (kb K + 5), .int (f 14), .int (f 15), .int (f 16), .int (f 17), .ref (kb K + 6), .int (f 19), .ref (kb K + 7), .ref (kb K + 8), .ref (kb K + 9), .ref (kb K + 10), .ref (kb K + 11), .int (f 25)]) := rfl
theorem sM_1 (K : wC) (f : Nat → Int32) : shM K 1 f = icell K 222 f := rfl
theorem sM_2 (K : wC) (f : Nat → Int32) : shM K 2 f = icell K 37 f := rfl
theorem sM_3 (K : wC) (f : Nat → Int32) : shM K 3 f = icell K 160 f := rfl
theorem sM_4 (K : wC) (f : Nat → Int32) : shM K 4 f = icell K 7 f := rfl
theorem sM_5 (K : wC) (f : Nat → Int32) : shM K 5 f = icell K 26 f := rfl
theorem sM_6 (K : wC) (f : Nat → Int32) : shM K 6 f = icell K 18 f := rfl
theorem sM_7 (K : wC) (f : Nat → Int32) : shM K 7 f = icell K 410 f := rfl
theorem sM_8 (K : wC) (f : Nat → Int32) : shM K 8 f = .inl (kc K 2, 2, .inl f) := rfl
theorem sM_9 (K : wC) (f : Nat → Int32) : shM K 9 f = icell K 4 f := rfl
theorem sM_10 (K : wC) (f : Nat → Int32) : shM K 10 f = icell K 4 f := rfl
theorem sM_11 (K : wC) (f : Nat → Int32) : shM K 11 f = icell K 160 f := rfl
def isLay (o : Nat) : Prop := o + 5 < 51 ∧ ∀ (K : wC) (f : Nat → Int32), shX K o f = lcell K o f ∧ shX K (o + 1) f = icell K 10 f ∧ shX K (o + 2) f = icell K 10 f ∧ shX K (o + 3) f = icell K 4 f ∧ shX K (o + 4) f = icell K 4 f ∧ shX K (o + 5) f = icell K 4 f
def isSh (o : Nat) : Prop := o + 1 < 51 ∧ ∀ (K : wC) (f : Nat → Int32), shX K o f = scell K o f ∧ shX K (o + 1) f = icell K 40 f
theorem lay0 {o : Nat} (h : isLay o) (K : wC) (f : Nat → Int32) : shX K o f = lcell K o f := (h.2 K f).1
theorem lay1 {o : Nat} (h : isLay o) (K : wC) (f : Nat → Int32) : shX K (o + 1) f = icell K 10 f := (h.2 K f).2.1
theorem lay2 {o : Nat} (h : isLay o) (K : wC) (f : Nat → Int32) : shX K (o + 2) f = icell K 10 f := (h.2 K f).2.2.1
theorem lay3 {o : Nat} (h : isLay o) (K : wC) (f : Nat → Int32) : shX K (o + 3) f = icell K 4 f := (h.2 K f).2.2.2.1
theorem lay4 {o : Nat} (h : isLay o) (K : wC) (f : Nat → Int32) : shX K (o + 4) f = icell K 4 f := (h.2 K f).2.2.2.2.1
theorem lay5 {o : Nat} (h : isLay o) (K : wC) (f : Nat → Int32) : shX K (o + 5) f = icell K 4 f := (h.2 K f).2.2.2.2.2
theorem layb {o : Nat} (h : isLay o) (i : Nat) (hi : i < 6) : o + i < 51 := by have h1 := h.1; omega
theorem layb0 {o : Nat} (h : isLay o) : o < 51 := by have h1 := h.1; omega
theorem sh0 {o : Nat} (h : isSh o) (K : wC) (f : Nat → Int32) : shX K o f = scell K o f := (h.2 K f).1
theorem sh1 {o : Nat} (h : isSh o) (K : wC) (f : Nat → Int32) : shX K (o + 1) f = icell K 40 f := (h.2 K f).2
theorem shb {o : Nat} (h : isSh o) (i : Nat) (hi : i < 2) : o + i < 51 := by have h1 := h.1; omega
theorem shb0 {o : Nat} (h : isSh o) : o < 51 := by have h1 := h.1; omega
theorem lay_1 : isLay 1 := ⟨by decide, fun _ _ => ⟨rfl, rfl, rfl, rfl, rfl, rfl⟩⟩
theorem lay_7 : isLay 7 := ⟨by decide, fun _ _ => ⟨rfl, rfl, rfl, rfl, rfl, rfl⟩⟩
theorem lay_18 : isLay 18 := ⟨by decide, fun _ _ => ⟨rfl, rfl, rfl, rfl, rfl, rfl⟩⟩
theorem lay_31 : isLay 31 := ⟨by decide, fun _ _ => ⟨rfl, rfl, rfl, rfl, rfl, rfl⟩⟩
theorem lay_37 : isLay 37 := ⟨by decide, fun _ _ => ⟨rfl, rfl, rfl, rfl, rfl, rfl⟩⟩
theorem sh_43 : isSh 43 := ⟨by decide, fun _ _ => ⟨rfl, rfl⟩⟩
theorem sh_45 : isSh 45 := ⟨by decide, fun _ _ => ⟨rfl, rfl⟩⟩
theorem sh_47 : isSh 47 := ⟨by decide, fun _ _ => ⟨rfl, rfl⟩⟩
theorem sh_49 : isSh 49 := ⟨by decide, fun _ _ => ⟨rfl, rfl⟩⟩
theorem lay_im {i : Nat} (h : i < 2) : isLay (31 + 6 * i) := by
  rcases (by omega : i = 0 ∨ i = 1) with rfl | rfl
  · exact lay_31
  · exact lay_37
theorem sh_sh {i : Nat} (h : i < 4) : isSh (43 + 2 * i) := by
  rcases (by omega : i = 0 ∨ i = 1 ∨ i = 2 ∨ i = 3) with rfl | rfl | rfl | rfl
  · exact sh_43
  · exact sh_45
  · exact sh_47
  · exact sh_49
end
section
def iushr (x y : Int32) : Int32 := (x.toUInt32 >>> (y.toUInt32 &&& Int32.toUInt32 31)).toInt32
def isZ (v : Int32) : Prop := narrow .boolean (.int v) = .int v ∧ fits .boolean (.int v) = true
def cpN (N : Nat) (f g : Nat → Int32) : Nat → Int32 := fun k => if k < N then f k else g k
theorem cpN_eq (N : Nat) (f g : Nat → Int32) : va_cpy f g 0 0 N = cpN N f g := by
  funext k
  simp [va_cpy, cpN]
section WN
variable {p : Program} {l : Launch} {e : Env} {R : Room} {s : State} {m : MethodId} {args : Array Value} {below : List Frame} {meth : Method} {c : Code} {H : Heap} {locs : List Loc} {cells slots : Nat} {Q : State → Prop}
variable {n : Nat} {K : wC} {sh : wS} {M : Mem} {cc : ByteArray} {nL : Nat} {ws : List Cond} {own : String} {ret : Option FieldType} {pc : Nat} {ls : Array Slot} {rest : List Value} {H0 : Heap}
variable {y : MethodName} {ws2 ws2' : List Cond} {rm : Room} {bytes : ByteArray} {maxL na index : Nat} {ret2 : Option FieldType} {st0 As : List Value} {Qc : Array Value → State → Outcome → State → Prop}
theorem run_n {host : String} (C : cx n K p s m args meth c cc nL ws own ret) (hP : wP sh n K M H) (hS : va_S (wA n K) s.heap H locs) (hM : Met l y ws2 rm (va_Pc As (wB sh n K M)) Qc 0 0 (wA n K)) (hG : GoodIn ws ws2) (hw : ws2 = Cond.code y bytes maxL ret2 :: ws2') (hlk : va_Nw (.methodLinkNest own index y host) s) (hini : Cond.initialized y.cls ∈ ws) (hstat : Cond.static y ∈ ws)
    (hd : y.cls ≠ "java/lang/invoke/MethodHandle" ∧ y.cls ≠ "java/lang/invoke/VarHandle" ∧ (parseMethodDescriptor y.desc).map (fun d => d.parameters.length) = some na) (hn : As.length = na) (hr : rm.cells = 0 ∧ rm.slots = 0) (hR : rm.frames + 1 ≤ R.frames ∧ 8 + (maxL + 11) + rm.locals ≤ R.locals) (hls : ls.size = nL) (hst : st0 = As.reverse ++ rest) (hrm : (rest.map fun v => v.category).sum ≤ 8) (hdg : decode cc pc = .ok (.invokestatic index, 3)) (hcs : cells ≤ R.cells ∧ slots ≤ R.slots) :
    va_Run p l e R s m args below meth c H locs cells slots 0 0 (F0 m pc ls st0) rest (Qc As.toArray) (wA n K) :=
  va_runSN ⟨C.1, C.2.1, C.2.2.1, C.2.2.2.1, C.2.2.2.2.1⟩ hM ⟨va_cnB na C.2.2.2.2.1 hG hw hr.1 hr.2 hlk (C.2.2.2.2.1 _ hini) hd hR, C.2.2.2.2.1 _ hstat, trivial⟩ ⟨fb_w, pc_w C hP hS⟩ rfl hn hls hst (lv_room hrm) hdg hcs
theorem a_c0 (C : cx n K p s m args meth c cc nL ws own ret) (hP : wP sh n K M H) (hS : va_S (wA n K) H0 H locs) {k0 k1 N : Nat} (hk0 : k0 < n) (hk1 : k1 < n) (he0 : sh K k0 (M k0) = .inl (kc K 0, N, .inl (M k0))) (he1 : ∀ f, sh K k1 f = .inl (kc K 0, N, .inl f)) (hls : ls.size = nL) {index : Nat} (hlk : Cond.methodLink own index arraycopyName ∈ ws) (hnat : Cond.native arraycopyName ∈ ws) (hst : Cond.static arraycopyName ∈ ws) (hini : Cond.initialized "java/lang/System" ∈ ws)
    {q : Int32} (h3 : ¬ q < 0 ∧ q.toNatClampNeg = N) (hfr : 1 ≤ R.frames) (hlo : (rest.map fun v => v.category).sum + (nativeFrameWords "java/lang/System" "arraycopy" 5 + 11) ≤ R.locals) (hdg : decode cc pc = .ok (.invokestatic index, 3))
    (kk : ∀ (H1 : Heap) (locs1 : List Loc), wP sh n K (mR M k1 (cpN N (M k0) (M k1))) H1 → va_S (wA n K) H0 H1 locs1 → W p l e R s m args below meth c H1 locs1 cells slots Q (F0 m (pc + 3) ls rest)) : W p l e R s m args below meth c H locs cells slots Q (F0 m pc ls (.int q :: .int 0 :: .ref (kb K + k1) :: .int 0 :: .ref (kb K + k0) :: rest)) := by
  have e0 : (0 : Int32).toNatClampNeg = 0 := by decide
  refine a_cp C hP hS hk0 hk1 he0 he1 hls hlk hnat hst hini (by decide) (by decide) h3.1 (by rw [e0, h3.2]; omega) (by rw [e0, h3.2]; omega) hfr hlo hdg (fun H1 locs1 hP1 hS1 => kk H1 locs1 ?_ hS1)
  rw [e0, h3.2, cpN_eq] at hP1
  exact hP1
end WN
theorem bp_10 : (Int8.ofInt (10)).toInt32 = (10 : Int32) := by decide
theorem bp_m4 : (Int8.ofInt (-4)).toInt32 = (-4 : Int32) := by decide
theorem ic_0 : Int32.ofInt (0) = (0 : Int32) := by decide
theorem ic_1 : Int32.ofInt (1) = (1 : Int32) := by decide
theorem ic_2 : Int32.ofInt (2) = (2 : Int32) := by decide
theorem ic_4 : Int32.ofInt (4) = (4 : Int32) := by decide
end
section
theorem kX0_clear_f18 : Cond.fieldLink RX0 18 (TX0 2).1 (TX0 2).2.1 (TX0 2).2.2.1 ∈ wsX0_clear := List.mem_of_getElem? (i := 1) rfl
theorem hX0_clear_X0 : ∀ w ∈ u_ws RX0 TX0 10, w ∈ wsX0_clear := fun _ h => List.mem_cons_of_mem _ (List.mem_append_right _ (h))
theorem kX0_clear_f31 : Cond.fieldLink RX0 31 (TX0 6).1 (TX0 6).2.1 (TX0 6).2.2.1 ∈ wsX0_clear := List.mem_of_getElem? (i := 2) rfl
theorem kX0_clear_f34 : Cond.fieldLink RX0 34 (TX0 7).1 (TX0 7).2.1 (TX0 7).2.2.1 ∈ wsX0_clear := List.mem_of_getElem? (i := 3) rfl
theorem kX0_clear_f37 : Cond.fieldLink RX0 37 (TX0 8).1 (TX0 8).2.1 (TX0 8).2.2.1 ∈ wsX0_clear := List.mem_of_getElem? (i := 4) rfl
theorem kX0_clear_f40 : Cond.fieldLink RX0 40 (TX0 9).1 (TX0 9).2.1 (TX0 9).2.2.1 ∈ wsX0_clear := List.mem_of_getElem? (i := 5) rfl
abbrev rmX0_clear : Room := { frames := 0, cells := 0, slots := 0, locals := 0 }
def q_X0_clear (o : Nat) (M : Mem) (Q : Mem → Prop) : Prop := ∀ M_1 : Mem, M_1 = mU (mU (mU (mU M o 2 (0 : Int32)) o 6 (0 : Int32)) o 7 (0 : Int32)) o 8 (0 : Int32) → Q (mU M_1 o 9 (0 : Int32))
theorem dsX0_clear : yX0_clear.cls = RX0 ∧ yX0_clear.cls ≠ "java/lang/invoke/MethodHandle" ∧ yX0_clear.cls ≠ "java/lang/invoke/VarHandle" ∧ (parseMethodDescriptor yX0_clear.desc).map (fun d => d.parameters.length) = some 0 := by decide +kernel
set_option maxRecDepth 100000 in
set_option maxHeartbeats 4000000 in
theorem c_X0_clear {l : Launch} {K : wC} {o : Nat} {M : Mem} {Q : Mem → Prop} (ho : isLay o) (hw : q_X0_clear o M Q) : metV l yX0_clear wsX0_clear rmX0_clear shX 51 K [.ref (kb K + o)] M Q := by
  refine met_of (cc := cX0_clear) (maxL := 1) (ret := none) (own := RX0) (by decide) rfl rfl (Nat.le_of_ble_eq_true rfl) ?_
  intro p e s m below meth c ls C hl hP hS
  have hl : lv_has ls 1 [(0, .ref (kb K + o))] := hl
  obtain ⟨hx, hb, hml, hown, hts, hr, hlk, hK⟩ := id C
  have hP0 := hP
  delta q_X0_clear at hw
  refine lv_aload_n hx hb dX0_clear_0 rfl (lv_at hl 0 rfl) ?_
  refine lv_iconst hx hb dX0_clear_1 ic_0 ?_
  refine p_f C hP hS (layb0 ho) (lay0 ho K _) (lay0 ho K _) rfl hX0_clear_X0 tyX0_ok nmX0 (by decide) kX0_clear_f18 rfl rfl rfl (Nat.le_of_ble_eq_true rfl) dX0_clear_2 (fun H locs hP hS => ?_)
  refine lv_aload_n hx hb dX0_clear_5 rfl (lv_at hl 0 rfl) ?_
  refine lv_iconst hx hb dX0_clear_6 ic_0 ?_
  refine p_f C hP hS (layb0 ho) (lay0 ho K _) (lay0 ho K _) rfl hX0_clear_X0 tyX0_ok nmX0 (by decide) kX0_clear_f31 rfl rfl rfl (Nat.le_of_ble_eq_true rfl) dX0_clear_7 (fun H locs hP hS => ?_)
  refine lv_aload_n hx hb dX0_clear_10 rfl (lv_at hl 0 rfl) ?_
  refine lv_iconst hx hb dX0_clear_11 ic_0 ?_
  refine p_f C hP hS (layb0 ho) (lay0 ho K _) (lay0 ho K _) rfl hX0_clear_X0 tyX0_ok nmX0 (by decide) kX0_clear_f34 rfl rfl rfl (Nat.le_of_ble_eq_true rfl) dX0_clear_12 (fun H locs hP hS => ?_)
  refine lv_aload_n hx hb dX0_clear_15 rfl (lv_at hl 0 rfl) ?_
  refine lv_iconst hx hb dX0_clear_16 ic_0 ?_
  refine p_f C hP hS (layb0 ho) (lay0 ho K _) (lay0 ho K _) rfl hX0_clear_X0 tyX0_ok nmX0 (by decide) kX0_clear_f37 rfl rfl rfl (Nat.le_of_ble_eq_true rfl) dX0_clear_17 (fun H locs hP hS => ?_)
  obtain ⟨M_1, eM_1⟩ : ∃ z : Mem, z = mU (mU (mU (mU M o 2 (0 : Int32)) o 6 (0 : Int32)) o 7 (0 : Int32)) o 8 (0 : Int32) := ⟨_, rfl⟩
  rw [← eM_1] at hP
  have hw := hw M_1 eM_1
  refine lv_aload_n hx hb dX0_clear_20 rfl (lv_at hl 0 rfl) ?_
  refine lv_iconst hx hb dX0_clear_21 ic_0 ?_
  refine p_f C hP hS (layb0 ho) (lay0 ho K _) (lay0 ho K _) rfl hX0_clear_X0 tyX0_ok nmX0 (by decide) kX0_clear_f40 rfl rfl rfl (Nat.le_of_ble_eq_true rfl) dX0_clear_22 (fun H locs hP hS => ?_)
  exact r_v C hP hS hw dX0_clear_25
theorem kX0_copyFrom_f9 : Cond.fieldLink RX0 9 (TX0 0).1 (TX0 0).2.1 (TX0 0).2.2.1 ∈ wsX0_copyFrom := List.mem_of_getElem? (i := 1) rfl
theorem hX0_copyFrom_X0 : ∀ w ∈ u_ws RX0 TX0 10, w ∈ wsX0_copyFrom := fun _ h => List.mem_cons_of_mem _ (List.mem_append_right _ (h))
theorem kX0_copyFrom_m43 : Cond.methodLink RX0 43 arraycopyName ∈ wsX0_copyFrom := List.mem_of_getElem? (i := 2) rfl
theorem kX0_copyFrom_ac1 : Cond.native arraycopyName ∈ wsX0_copyFrom := List.mem_of_getElem? (i := 3) rfl
theorem kX0_copyFrom_ac2 : Cond.static arraycopyName ∈ wsX0_copyFrom := List.mem_of_getElem? (i := 4) rfl
theorem kX0_copyFrom_ac3 : Cond.initialized "java/lang/System" ∈ wsX0_copyFrom := List.mem_of_getElem? (i := 5) rfl
theorem kX0_copyFrom_f15 : Cond.fieldLink RX0 15 (TX0 1).1 (TX0 1).2.1 (TX0 1).2.2.1 ∈ wsX0_copyFrom := List.mem_of_getElem? (i := 6) rfl
theorem kX0_copyFrom_f18 : Cond.fieldLink RX0 18 (TX0 2).1 (TX0 2).2.1 (TX0 2).2.2.1 ∈ wsX0_copyFrom := List.mem_of_getElem? (i := 7) rfl
theorem kX0_copyFrom_f22 : Cond.fieldLink RX0 22 (TX0 3).1 (TX0 3).2.1 (TX0 3).2.2.1 ∈ wsX0_copyFrom := List.mem_of_getElem? (i := 8) rfl
theorem kX0_copyFrom_f25 : Cond.fieldLink RX0 25 (TX0 4).1 (TX0 4).2.1 (TX0 4).2.2.1 ∈ wsX0_copyFrom := List.mem_of_getElem? (i := 9) rfl
theorem kX0_copyFrom_f28 : Cond.fieldLink RX0 28 (TX0 5).1 (TX0 5).2.1 (TX0 5).2.2.1 ∈ wsX0_copyFrom := List.mem_of_getElem? (i := 10) rfl
theorem kX0_copyFrom_f31 : Cond.fieldLink RX0 31 (TX0 6).1 (TX0 6).2.1 (TX0 6).2.2.1 ∈ wsX0_copyFrom := List.mem_of_getElem? (i := 11) rfl
theorem kX0_copyFrom_f34 : Cond.fieldLink RX0 34 (TX0 7).1 (TX0 7).2.1 (TX0 7).2.2.1 ∈ wsX0_copyFrom := List.mem_of_getElem? (i := 12) rfl
theorem kX0_copyFrom_f37 : Cond.fieldLink RX0 37 (TX0 8).1 (TX0 8).2.1 (TX0 8).2.2.1 ∈ wsX0_copyFrom := List.mem_of_getElem? (i := 13) rfl
theorem kX0_copyFrom_f40 : Cond.fieldLink RX0 40 (TX0 9).1 (TX0 9).2.1 (TX0 9).2.2.1 ∈ wsX0_copyFrom := List.mem_of_getElem? (i := 14) rfl
abbrev rmX0_copyFrom : Room := { frames := 1, cells := 0, slots := 0, locals := 40 }
def q_X0_copyFrom (o : Nat) (o1 : Nat) (M : Mem) (Q : Mem → Prop) : Prop := ∀ M_1 : Mem, M_1 = mR (mR M (o + 1) (cpN 10 (M (o1 + 1)) (M (o + 1)))) (o + 2) (cpN 10 ((mR M (o + 1) (cpN 10 (M (o1 + 1)) (M (o + 1)))) (o1 + 2)) ((mR M (o + 1) (cpN 10 (M (o1 + 1)) (M (o + 1)))) (o + 2))) → ∀ M_2 : Mem, M_2 = mR (mU M_1 o 2 (M_1 o1 2)) (o + 3) (cpN 4 ((mU M_1 o 2 (M_1 o1 2)) (o1 + 3)) ((mU M_1 o 2 (M_1 o1 2)) (o + 3))) → ∀ M_3 : Mem, M_3 = mR (mR M_2 (o + 4) (cpN 4 (M_2 (o1 + 4)) (M_2 (o + 4)))) (o + 5) (cpN 4 ((mR M_2 (o + 4) (cpN 4 (M_2 (o1 + 4)) (M_2 (o + 4)))) (o1 + 5)) ((mR M_2 (o + 4) (cpN 4 (M_2 (o1 + 4)) (M_2 (o + 4)))) (o + 5))) → ∀ M_4 : Mem, M_4 = mU (mU (mU M_3 o 6 (M_3 o1 6)) o 7 ((mU M_3 o 6 (M_3 o1 6)) o1 7)) o 8 ((mU (mU M_3 o 6 (M_3 o1 6)) o 7 ((mU M_3 o 6 (M_3 o1 6)) o1 7)) o1 8) → Q (mU M_4 o 9 (M_4 o1 9))
theorem dsX0_copyFrom : yX0_copyFrom.cls = RX0 ∧ yX0_copyFrom.cls ≠ "java/lang/invoke/MethodHandle" ∧ yX0_copyFrom.cls ≠ "java/lang/invoke/VarHandle" ∧ (parseMethodDescriptor yX0_copyFrom.desc).map (fun d => d.parameters.length) = some 1 := by decide +kernel
set_option maxRecDepth 100000 in
set_option maxHeartbeats 4000000 in
theorem c_X0_copyFrom {l : Launch} {K : wC} {o : Nat} {o1 : Nat} {M : Mem} {Q : Mem → Prop} (ho : isLay o) (ho1 : isLay o1) (hw : q_X0_copyFrom o o1 M Q) : metV l yX0_copyFrom wsX0_copyFrom rmX0_copyFrom shX 51 K [.ref (kb K + o), .ref (kb K + o1)] M Q := by
  refine met_of (cc := cX0_copyFrom) (maxL := 2) (ret := none) (own := RX0) (by decide) rfl rfl (Nat.le_of_ble_eq_true rfl) ?_
  intro p e s m below meth c ls C hl hP hS
  have hl : lv_has ls 2 [(0, .ref (kb K + o)), (1, .ref (kb K + o1))] := hl
  obtain ⟨hx, hb, hml, hown, hts, hr, hlk, hK⟩ := id C
  have hP0 := hP
  delta q_X0_copyFrom at hw
  refine lv_aload_n hx hb dX0_copyFrom_0 rfl (lv_at hl 1 rfl) ?_
  refine g_f C hP (layb0 ho1) (lay0 ho1 K _) rfl hX0_copyFrom_X0 0 (by decide) kX0_copyFrom_f9 rfl dX0_copyFrom_1 ?_
  refine lv_iconst hx hb dX0_copyFrom_4 ic_0 ?_
  refine lv_aload_n hx hb dX0_copyFrom_5 rfl (lv_at hl 0 rfl) ?_
  refine g_f C hP (layb0 ho) (lay0 ho K _) rfl hX0_copyFrom_X0 0 (by decide) kX0_copyFrom_f9 rfl dX0_copyFrom_6 ?_
  refine lv_iconst hx hb dX0_copyFrom_9 ic_0 ?_
  refine lv_bipush hx hb dX0_copyFrom_10 bp_10 ?_
  refine a_c0 C hP hS (layb ho1 1 (by decide)) (layb ho 1 (by decide)) (lay1 ho1 K _) (lay1 ho K) hl.1 kX0_copyFrom_m43 kX0_copyFrom_ac1 kX0_copyFrom_ac2 kX0_copyFrom_ac3 (by decide) (Nat.le_of_ble_eq_true rfl) (by decide) dX0_copyFrom_12 (fun H locs hP hS => ?_)
  refine lv_aload_n hx hb dX0_copyFrom_15 rfl (lv_at hl 1 rfl) ?_
  refine g_f C hP (layb0 ho1) (lay0 ho1 K _) rfl hX0_copyFrom_X0 1 (by decide) kX0_copyFrom_f15 rfl dX0_copyFrom_16 ?_
  refine lv_iconst hx hb dX0_copyFrom_19 ic_0 ?_
  refine lv_aload_n hx hb dX0_copyFrom_20 rfl (lv_at hl 0 rfl) ?_
  refine g_f C hP (layb0 ho) (lay0 ho K _) rfl hX0_copyFrom_X0 1 (by decide) kX0_copyFrom_f15 rfl dX0_copyFrom_21 ?_
  refine lv_iconst hx hb dX0_copyFrom_24 ic_0 ?_
  refine lv_bipush hx hb dX0_copyFrom_25 bp_10 ?_
  refine a_c0 C hP hS (layb ho1 2 (by decide)) (layb ho 2 (by decide)) (lay2 ho1 K _) (lay2 ho K) hl.1 kX0_copyFrom_m43 kX0_copyFrom_ac1 kX0_copyFrom_ac2 kX0_copyFrom_ac3 (by decide) (Nat.le_of_ble_eq_true rfl) (by decide) dX0_copyFrom_27 (fun H locs hP hS => ?_)
  obtain ⟨M_1, eM_1⟩ : ∃ z : Mem, z = mR (mR M (o + 1) (cpN 10 (M (o1 + 1)) (M (o + 1)))) (o + 2) (cpN 10 ((mR M (o + 1) (cpN 10 (M (o1 + 1)) (M (o + 1)))) (o1 + 2)) ((mR M (o + 1) (cpN 10 (M (o1 + 1)) (M (o + 1)))) (o + 2))) := ⟨_, rfl⟩
  rw [← eM_1] at hP
  have hw := hw M_1 eM_1
  refine lv_aload_n hx hb dX0_copyFrom_30 rfl (lv_at hl 0 rfl) ?_
  refine lv_aload_n hx hb dX0_copyFrom_31 rfl (lv_at hl 1 rfl) ?_
  refine g_f C hP (layb0 ho1) (lay0 ho1 K _) rfl hX0_copyFrom_X0 2 (by decide) kX0_copyFrom_f18 rfl dX0_copyFrom_32 ?_
  refine p_f C hP hS (layb0 ho) (lay0 ho K _) (lay0 ho K _) rfl hX0_copyFrom_X0 tyX0_ok nmX0 (by decide) kX0_copyFrom_f18 rfl rfl rfl (Nat.le_of_ble_eq_true rfl) dX0_copyFrom_35 (fun H locs hP hS => ?_)
  refine lv_aload_n hx hb dX0_copyFrom_38 rfl (lv_at hl 1 rfl) ?_
  refine g_f C hP (layb0 ho1) (lay0 ho1 K _) rfl hX0_copyFrom_X0 3 (by decide) kX0_copyFrom_f22 rfl dX0_copyFrom_39 ?_
  refine lv_iconst hx hb dX0_copyFrom_42 ic_0 ?_
  refine lv_aload_n hx hb dX0_copyFrom_43 rfl (lv_at hl 0 rfl) ?_
  refine g_f C hP (layb0 ho) (lay0 ho K _) rfl hX0_copyFrom_X0 3 (by decide) kX0_copyFrom_f22 rfl dX0_copyFrom_44 ?_
  refine lv_iconst hx hb dX0_copyFrom_47 ic_0 ?_
  refine lv_iconst hx hb dX0_copyFrom_48 ic_4 ?_
  refine a_c0 C hP hS (layb ho1 3 (by decide)) (layb ho 3 (by decide)) (lay3 ho1 K _) (lay3 ho K) hl.1 kX0_copyFrom_m43 kX0_copyFrom_ac1 kX0_copyFrom_ac2 kX0_copyFrom_ac3 (by decide) (Nat.le_of_ble_eq_true rfl) (by decide) dX0_copyFrom_49 (fun H locs hP hS => ?_)
  obtain ⟨M_2, eM_2⟩ : ∃ z : Mem, z = mR (mU M_1 o 2 (M_1 o1 2)) (o + 3) (cpN 4 ((mU M_1 o 2 (M_1 o1 2)) (o1 + 3)) ((mU M_1 o 2 (M_1 o1 2)) (o + 3))) := ⟨_, rfl⟩
  rw [← eM_2] at hP
  have hw := hw M_2 eM_2
  refine lv_aload_n hx hb dX0_copyFrom_52 rfl (lv_at hl 1 rfl) ?_
  refine g_f C hP (layb0 ho1) (lay0 ho1 K _) rfl hX0_copyFrom_X0 4 (by decide) kX0_copyFrom_f25 rfl dX0_copyFrom_53 ?_
  refine lv_iconst hx hb dX0_copyFrom_56 ic_0 ?_
  refine lv_aload_n hx hb dX0_copyFrom_57 rfl (lv_at hl 0 rfl) ?_
  refine g_f C hP (layb0 ho) (lay0 ho K _) rfl hX0_copyFrom_X0 4 (by decide) kX0_copyFrom_f25 rfl dX0_copyFrom_58 ?_
  refine lv_iconst hx hb dX0_copyFrom_61 ic_0 ?_
  refine lv_iconst hx hb dX0_copyFrom_62 ic_4 ?_
  refine a_c0 C hP hS (layb ho1 4 (by decide)) (layb ho 4 (by decide)) (lay4 ho1 K _) (lay4 ho K) hl.1 kX0_copyFrom_m43 kX0_copyFrom_ac1 kX0_copyFrom_ac2 kX0_copyFrom_ac3 (by decide) (Nat.le_of_ble_eq_true rfl) (by decide) dX0_copyFrom_63 (fun H locs hP hS => ?_)
  refine lv_aload_n hx hb dX0_copyFrom_66 rfl (lv_at hl 1 rfl) ?_
  refine g_f C hP (layb0 ho1) (lay0 ho1 K _) rfl hX0_copyFrom_X0 5 (by decide) kX0_copyFrom_f28 rfl dX0_copyFrom_67 ?_
  refine lv_iconst hx hb dX0_copyFrom_70 ic_0 ?_
  refine lv_aload_n hx hb dX0_copyFrom_71 rfl (lv_at hl 0 rfl) ?_
  refine g_f C hP (layb0 ho) (lay0 ho K _) rfl hX0_copyFrom_X0 5 (by decide) kX0_copyFrom_f28 rfl dX0_copyFrom_72 ?_
  refine lv_iconst hx hb dX0_copyFrom_75 ic_0 ?_
  refine lv_iconst hx hb dX0_copyFrom_76 ic_4 ?_
  refine a_c0 C hP hS (layb ho1 5 (by decide)) (layb ho 5 (by decide)) (lay5 ho1 K _) (lay5 ho K) hl.1 kX0_copyFrom_m43 kX0_copyFrom_ac1 kX0_copyFrom_ac2 kX0_copyFrom_ac3 (by decide) (Nat.le_of_ble_eq_true rfl) (by decide) dX0_copyFrom_77 (fun H locs hP hS => ?_)
  obtain ⟨M_3, eM_3⟩ : ∃ z : Mem, z = mR (mR M_2 (o + 4) (cpN 4 (M_2 (o1 + 4)) (M_2 (o + 4)))) (o + 5) (cpN 4 ((mR M_2 (o + 4) (cpN 4 (M_2 (o1 + 4)) (M_2 (o + 4)))) (o1 + 5)) ((mR M_2 (o + 4) (cpN 4 (M_2 (o1 + 4)) (M_2 (o + 4)))) (o + 5))) := ⟨_, rfl⟩
  rw [← eM_3] at hP
  have hw := hw M_3 eM_3
  refine lv_aload_n hx hb dX0_copyFrom_80 rfl (lv_at hl 0 rfl) ?_
  refine lv_aload_n hx hb dX0_copyFrom_81 rfl (lv_at hl 1 rfl) ?_
  refine g_f C hP (layb0 ho1) (lay0 ho1 K _) rfl hX0_copyFrom_X0 6 (by decide) kX0_copyFrom_f31 rfl dX0_copyFrom_82 ?_
  refine p_f C hP hS (layb0 ho) (lay0 ho K _) (lay0 ho K _) rfl hX0_copyFrom_X0 tyX0_ok nmX0 (by decide) kX0_copyFrom_f31 rfl rfl rfl (Nat.le_of_ble_eq_true rfl) dX0_copyFrom_85 (fun H locs hP hS => ?_)
  refine lv_aload_n hx hb dX0_copyFrom_88 rfl (lv_at hl 0 rfl) ?_
  refine lv_aload_n hx hb dX0_copyFrom_89 rfl (lv_at hl 1 rfl) ?_
  refine g_f C hP (layb0 ho1) (lay0 ho1 K _) rfl hX0_copyFrom_X0 7 (by decide) kX0_copyFrom_f34 rfl dX0_copyFrom_90 ?_
  refine p_f C hP hS (layb0 ho) (lay0 ho K _) (lay0 ho K _) rfl hX0_copyFrom_X0 tyX0_ok nmX0 (by decide) kX0_copyFrom_f34 rfl rfl rfl (Nat.le_of_ble_eq_true rfl) dX0_copyFrom_93 (fun H locs hP hS => ?_)
  refine lv_aload_n hx hb dX0_copyFrom_96 rfl (lv_at hl 0 rfl) ?_
  refine lv_aload_n hx hb dX0_copyFrom_97 rfl (lv_at hl 1 rfl) ?_
  refine g_f C hP (layb0 ho1) (lay0 ho1 K _) rfl hX0_copyFrom_X0 8 (by decide) kX0_copyFrom_f37 rfl dX0_copyFrom_98 ?_
  refine p_f C hP hS (layb0 ho) (lay0 ho K _) (lay0 ho K _) rfl hX0_copyFrom_X0 tyX0_ok nmX0 (by decide) kX0_copyFrom_f37 rfl rfl rfl (Nat.le_of_ble_eq_true rfl) dX0_copyFrom_101 (fun H locs hP hS => ?_)
  obtain ⟨M_4, eM_4⟩ : ∃ z : Mem, z = mU (mU (mU M_3 o 6 (M_3 o1 6)) o 7 ((mU M_3 o 6 (M_3 o1 6)) o1 7)) o 8 ((mU (mU M_3 o 6 (M_3 o1 6)) o 7 ((mU M_3 o 6 (M_3 o1 6)) o1 7)) o1 8) := ⟨_, rfl⟩
  rw [← eM_4] at hP
  have hw := hw M_4 eM_4
  refine lv_aload_n hx hb dX0_copyFrom_104 rfl (lv_at hl 0 rfl) ?_
  refine lv_aload_n hx hb dX0_copyFrom_105 rfl (lv_at hl 1 rfl) ?_
  refine g_f C hP (layb0 ho1) (lay0 ho1 K _) rfl hX0_copyFrom_X0 9 (by decide) kX0_copyFrom_f40 rfl dX0_copyFrom_106 ?_
  refine p_f C hP hS (layb0 ho) (lay0 ho K _) (lay0 ho K _) rfl hX0_copyFrom_X0 tyX0_ok nmX0 (by decide) kX0_copyFrom_f40 rfl rfl rfl (Nat.le_of_ble_eq_true rfl) dX0_copyFrom_109 (fun H locs hP hS => ?_)
  exact r_v C hP hS hw dX0_copyFrom_112
theorem kX0_appendCorner_f18 : Cond.fieldLink RX0 18 (TX0 2).1 (TX0 2).2.1 (TX0 2).2.2.1 ∈ wsX0_appendCorner := List.mem_of_getElem? (i := 1) rfl
theorem hX0_appendCorner_X0 : ∀ w ∈ u_ws RX0 TX0 10, w ∈ wsX0_appendCorner := fun _ h => List.mem_cons_of_mem _ (List.mem_append_right _ (h))
theorem kX0_appendCorner_f9 : Cond.fieldLink RX0 9 (TX0 0).1 (TX0 0).2.1 (TX0 0).2.2.1 ∈ wsX0_appendCorner := List.mem_of_getElem? (i := 2) rfl
theorem kX0_appendCorner_f15 : Cond.fieldLink RX0 15 (TX0 1).1 (TX0 1).2.1 (TX0 1).2.2.1 ∈ wsX0_appendCorner := List.mem_of_getElem? (i := 3) rfl
abbrev rmX0_appendCorner : Room := { frames := 0, cells := 0, slots := 0, locals := 0 }
def q_X0_appendCorner (o : Nat) (v1 : Int32) (v2 : Int32) (M : Mem) (Q : Mem → Prop) : Prop := (((10 : Int32) ≤ (M o 2) → Q M) ∧ (¬ (10 : Int32) ≤ (M o 2) → vp_in (M o 2) 10 ∧ vp_in ((mU M (o + 1) (M o 2).toNatClampNeg v1) o 2) 10 ∧ (∀ M_3 : Mem, M_3 = mU (mU M (o + 1) (M o 2).toNatClampNeg v1) (o + 2) ((mU M (o + 1) (M o 2).toNatClampNeg v1) o 2).toNatClampNeg v2 → Q (mU M_3 o 2 ((M_3 o 2) + (1 : Int32))))))
theorem dsX0_appendCorner : yX0_appendCorner.cls = RX0 ∧ yX0_appendCorner.cls ≠ "java/lang/invoke/MethodHandle" ∧ yX0_appendCorner.cls ≠ "java/lang/invoke/VarHandle" ∧ (parseMethodDescriptor yX0_appendCorner.desc).map (fun d => d.parameters.length) = some 2 := by decide +kernel
set_option maxRecDepth 100000 in
set_option maxHeartbeats 4000000 in
theorem c_X0_appendCorner {l : Launch} {K : wC} {o : Nat} {v1 : Int32} {v2 : Int32} {M : Mem} {Q : Mem → Prop} (ho : isLay o) (hw : q_X0_appendCorner o v1 v2 M Q) : metV l yX0_appendCorner wsX0_appendCorner rmX0_appendCorner shX 51 K [.ref (kb K + o), .int v1, .int v2] M Q := by
  refine met_of (cc := cX0_appendCorner) (maxL := 3) (ret := none) (own := RX0) (by decide) rfl rfl (Nat.le_of_ble_eq_true rfl) ?_
  intro p e s m below meth c ls C hl hP hS
  have hl : lv_has ls 3 [(0, .ref (kb K + o)), (1, .int v1), (2, .int v2)] := hl
  obtain ⟨hx, hb, hml, hown, hts, hr, hlk, hK⟩ := id C
  have hP0 := hP
  delta q_X0_appendCorner at hw
  refine lv_aload_n hx hb dX0_appendCorner_0 rfl (lv_at hl 0 rfl) ?_
  refine g_f C hP (layb0 ho) (lay0 ho K _) rfl hX0_appendCorner_X0 2 (by decide) kX0_appendCorner_f18 rfl dX0_appendCorner_1 ?_
  refine lv_bipush hx hb dX0_appendCorner_4 bp_10 ?_
  refine lv_icmp_ge (tgt := 39) hx hb dX0_appendCorner_6 (by decide) (fun hc => ?_) (fun hc => ?_)
  · have hw := hw.1 hc
    exact r_v C hP hS hw dX0_appendCorner_39
  · have hw := hw.2 hc
    refine lv_aload_n hx hb dX0_appendCorner_9 rfl (lv_at hl 0 rfl) ?_
    refine g_f C hP (layb0 ho) (lay0 ho K _) rfl hX0_appendCorner_X0 0 (by decide) kX0_appendCorner_f9 rfl dX0_appendCorner_10 ?_
    refine lv_aload_n hx hb dX0_appendCorner_13 rfl (lv_at hl 0 rfl) ?_
    refine g_f C hP (layb0 ho) (lay0 ho K _) rfl hX0_appendCorner_X0 2 (by decide) kX0_appendCorner_f18 rfl dX0_appendCorner_14 ?_
    refine lv_iload_n hx hb dX0_appendCorner_17 rfl (lv_at hl 1 rfl) ?_
    have hi_1 := hw.1
    have hw := hw.2
    refine a_is C hP hS (layb ho 1 (by decide)) (lay1 ho K) hi_1 rfl dX0_appendCorner_18 (fun H locs hP hS => ?_)
    refine lv_aload_n hx hb dX0_appendCorner_19 rfl (lv_at hl 0 rfl) ?_
    refine g_f C hP (layb0 ho) (lay0 ho K _) rfl hX0_appendCorner_X0 1 (by decide) kX0_appendCorner_f15 rfl dX0_appendCorner_20 ?_
    refine lv_aload_n hx hb dX0_appendCorner_23 rfl (lv_at hl 0 rfl) ?_
    refine g_f C hP (layb0 ho) (lay0 ho K _) rfl hX0_appendCorner_X0 2 (by decide) kX0_appendCorner_f18 rfl dX0_appendCorner_24 ?_
    refine lv_iload_n hx hb dX0_appendCorner_27 rfl (lv_at hl 2 rfl) ?_
    have hi_2 := hw.1
    have hw := hw.2
    refine a_is C hP hS (layb ho 2 (by decide)) (lay2 ho K) hi_2 rfl dX0_appendCorner_28 (fun H locs hP hS => ?_)
    obtain ⟨M_3, eM_3⟩ : ∃ z : Mem, z = mU (mU M (o + 1) (M o 2).toNatClampNeg v1) (o + 2) ((mU M (o + 1) (M o 2).toNatClampNeg v1) o 2).toNatClampNeg v2 := ⟨_, rfl⟩
    rw [← eM_3] at hP
    have hw := hw M_3 eM_3
    refine lv_aload_n hx hb dX0_appendCorner_29 rfl (lv_at hl 0 rfl) ?_
    refine lv_dup hx hb dX0_appendCorner_30 rfl ?_
    refine g_f C hP (layb0 ho) (lay0 ho K _) rfl hX0_appendCorner_X0 2 (by decide) kX0_appendCorner_f18 rfl dX0_appendCorner_31 ?_
    refine lv_iconst hx hb dX0_appendCorner_34 ic_1 ?_
    refine lv_iadd hx hb dX0_appendCorner_35 ?_
    refine p_f C hP hS (layb0 ho) (lay0 ho K _) (lay0 ho K _) rfl hX0_appendCorner_X0 tyX0_ok nmX0 (by decide) kX0_appendCorner_f18 rfl rfl rfl (Nat.le_of_ble_eq_true rfl) dX0_appendCorner_36 (fun H locs hP hS => ?_)
    exact r_v C hP hS hw dX0_appendCorner_39
theorem kX0_moveCorner_f9 : Cond.fieldLink RX0 9 (TX0 0).1 (TX0 0).2.1 (TX0 0).2.2.1 ∈ wsX0_moveCorner := List.mem_of_getElem? (i := 1) rfl
theorem hX0_moveCorner_X0 : ∀ w ∈ u_ws RX0 TX0 10, w ∈ wsX0_moveCorner := fun _ h => List.mem_cons_of_mem _ (List.mem_append_right _ (h))
theorem kX0_moveCorner_f15 : Cond.fieldLink RX0 15 (TX0 1).1 (TX0 1).2.1 (TX0 1).2.2.1 ∈ wsX0_moveCorner := List.mem_of_getElem? (i := 2) rfl
abbrev rmX0_moveCorner : Room := { frames := 0, cells := 0, slots := 0, locals := 0 }
def q_X0_moveCorner (o : Nat) (v1 : Int32) (v2 : Int32) (v3 : Int32) (M : Mem) (Q : Mem → Prop) : Prop := vp_in v1 10 ∧ vp_in v1 10 ∧ Q (mU (mU M (o + 1) v1.toNatClampNeg v2) (o + 2) v1.toNatClampNeg v3)
theorem dsX0_moveCorner : yX0_moveCorner.cls = RX0 ∧ yX0_moveCorner.cls ≠ "java/lang/invoke/MethodHandle" ∧ yX0_moveCorner.cls ≠ "java/lang/invoke/VarHandle" ∧ (parseMethodDescriptor yX0_moveCorner.desc).map (fun d => d.parameters.length) = some 3 := by decide +kernel
set_option maxRecDepth 100000 in
set_option maxHeartbeats 4000000 in
theorem c_X0_moveCorner {l : Launch} {K : wC} {o : Nat} {v1 : Int32} {v2 : Int32} {v3 : Int32} {M : Mem} {Q : Mem → Prop} (ho : isLay o) (hw : q_X0_moveCorner o v1 v2 v3 M Q) : metV l yX0_moveCorner wsX0_moveCorner rmX0_moveCorner shX 51 K [.ref (kb K + o), .int v1, .int v2, .int v3] M Q := by
  refine met_of (cc := cX0_moveCorner) (maxL := 4) (ret := none) (own := RX0) (by decide) rfl rfl (Nat.le_of_ble_eq_true rfl) ?_
  intro p e s m below meth c ls C hl hP hS
  have hl : lv_has ls 4 [(0, .ref (kb K + o)), (1, .int v1), (2, .int v2), (3, .int v3)] := hl
  obtain ⟨hx, hb, hml, hown, hts, hr, hlk, hK⟩ := id C
  have hP0 := hP
  delta q_X0_moveCorner at hw
  refine lv_aload_n hx hb dX0_moveCorner_0 rfl (lv_at hl 0 rfl) ?_
  refine g_f C hP (layb0 ho) (lay0 ho K _) rfl hX0_moveCorner_X0 0 (by decide) kX0_moveCorner_f9 rfl dX0_moveCorner_1 ?_
  refine lv_iload_n hx hb dX0_moveCorner_4 rfl (lv_at hl 1 rfl) ?_
  refine lv_iload_n hx hb dX0_moveCorner_5 rfl (lv_at hl 2 rfl) ?_
  have hi_1 := hw.1
  have hw := hw.2
  refine a_is C hP hS (layb ho 1 (by decide)) (lay1 ho K) hi_1 rfl dX0_moveCorner_6 (fun H locs hP hS => ?_)
  refine lv_aload_n hx hb dX0_moveCorner_7 rfl (lv_at hl 0 rfl) ?_
  refine g_f C hP (layb0 ho) (lay0 ho K _) rfl hX0_moveCorner_X0 1 (by decide) kX0_moveCorner_f15 rfl dX0_moveCorner_8 ?_
  refine lv_iload_n hx hb dX0_moveCorner_11 rfl (lv_at hl 1 rfl) ?_
  refine lv_iload_n hx hb dX0_moveCorner_12 rfl (lv_at hl 3 rfl) ?_
  have hi_2 := hw.1
  have hw := hw.2
  refine a_is C hP hS (layb ho 2 (by decide)) (lay2 ho K) hi_2 rfl dX0_moveCorner_13 (fun H locs hP hS => ?_)
  exact r_v C hP hS hw dX0_moveCorner_14
theorem kX0_exchangeCorners_f9 : Cond.fieldLink RX0 9 (TX0 0).1 (TX0 0).2.1 (TX0 0).2.2.1 ∈ wsX0_exchangeCorners := List.mem_of_getElem? (i := 1) rfl
theorem hX0_exchangeCorners_X0 : ∀ w ∈ u_ws RX0 TX0 10, w ∈ wsX0_exchangeCorners := fun _ h => List.mem_cons_of_mem _ (List.mem_append_right _ (h))
theorem kX0_exchangeCorners_f15 : Cond.fieldLink RX0 15 (TX0 1).1 (TX0 1).2.1 (TX0 1).2.2.1 ∈ wsX0_exchangeCorners := List.mem_of_getElem? (i := 2) rfl
abbrev rmX0_exchangeCorners : Room := { frames := 1, cells := 0, slots := 0, locals := 23 }
def q_X0_exchangeCorners (o : Nat) (v1 : Int32) (v2 : Int32) (M : Mem) (Q : Mem → Prop) : Prop := vp_in v1 10 ∧ (∀ x_2 : Int32, x_2 = (M (o + 1) v1.toNatClampNeg) → vp_in v1 10 ∧ (∀ x_4 : Int32, x_4 = (M (o + 2) v1.toNatClampNeg) → vp_in v2 10 ∧ vp_in v2 10 ∧ q_X0_moveCorner o v1 (M (o + 1) v2.toNatClampNeg) (M (o + 2) v2.toNatClampNeg) M (fun M_7 => q_X0_moveCorner o v2 x_2 x_4 M_7 (fun M_8 => Q M_8))))
theorem dsX0_exchangeCorners : yX0_exchangeCorners.cls = RX0 ∧ yX0_exchangeCorners.cls ≠ "java/lang/invoke/MethodHandle" ∧ yX0_exchangeCorners.cls ≠ "java/lang/invoke/VarHandle" ∧ (parseMethodDescriptor yX0_exchangeCorners.desc).map (fun d => d.parameters.length) = some 2 := by decide +kernel
set_option maxRecDepth 100000 in
set_option maxHeartbeats 4000000 in
theorem c_X0_exchangeCorners {l : Launch} {K : wC} {o : Nat} {v1 : Int32} {v2 : Int32} {M : Mem} {Q : Mem → Prop} (ho : isLay o) (hw : q_X0_exchangeCorners o v1 v2 M Q) : metV l yX0_exchangeCorners wsX0_exchangeCorners rmX0_exchangeCorners shX 51 K [.ref (kb K + o), .int v1, .int v2] M Q := by
  refine met_of (cc := cX0_exchangeCorners) (maxL := 5) (ret := none) (own := RX0) (by decide) rfl rfl (Nat.le_of_ble_eq_true rfl) ?_
  intro p e s m below meth c ls C hl hP hS
  have hl : lv_has ls 5 [(0, .ref (kb K + o)), (1, .int v1), (2, .int v2)] := hl
  obtain ⟨hx, hb, hml, hown, hts, hr, hlk, hK⟩ := id C
  have hP0 := hP
  delta q_X0_exchangeCorners at hw
  refine lv_aload_n hx hb dX0_exchangeCorners_0 rfl (lv_at hl 0 rfl) ?_
  refine g_f C hP (layb0 ho) (lay0 ho K _) rfl hX0_exchangeCorners_X0 0 (by decide) kX0_exchangeCorners_f9 rfl dX0_exchangeCorners_1 ?_
  refine lv_iload_n hx hb dX0_exchangeCorners_4 rfl (lv_at hl 1 rfl) ?_
  have hi_1 := hw.1
  have hw := hw.2
  refine a_il C hP (layb ho 1 (by decide)) (lay1 ho K _) hi_1 rfl dX0_exchangeCorners_5 ?_
  refine lv_topi (fun x_2 ex_2 => ?_)
  have hw := hw x_2 ex_2
  refine lv_istore_n (lv' := [(3, .int x_2), (0, .ref (kb K + o)), (1, .int v1), (2, .int v2)]) hx hb dX0_exchangeCorners_6 rfl hl (by decide) rfl (fun ls hl => ?_)
  refine lv_aload_n hx hb dX0_exchangeCorners_7 rfl (lv_at hl 1 rfl) ?_
  refine g_f C hP (layb0 ho) (lay0 ho K _) rfl hX0_exchangeCorners_X0 1 (by decide) kX0_exchangeCorners_f15 rfl dX0_exchangeCorners_8 ?_
  refine lv_iload_n hx hb dX0_exchangeCorners_11 rfl (lv_at hl 2 rfl) ?_
  have hi_3 := hw.1
  have hw := hw.2
  refine a_il C hP (layb ho 2 (by decide)) (lay2 ho K _) hi_3 rfl dX0_exchangeCorners_12 ?_
  refine lv_topi (fun x_4 ex_4 => ?_)
  have hw := hw x_4 ex_4
  refine lv_istore (lv' := [(4, .int x_4), (3, .int x_2), (0, .ref (kb K + o)), (1, .int v1), (2, .int v2)]) hx hb dX0_exchangeCorners_13 hl (by decide) rfl (fun ls hl => ?_)
  refine lv_aload_n hx hb dX0_exchangeCorners_15 rfl (lv_at hl 2 rfl) ?_
  refine lv_iload_n hx hb dX0_exchangeCorners_16 rfl (lv_at hl 3 rfl) ?_
  refine lv_aload_n hx hb dX0_exchangeCorners_17 rfl (lv_at hl 2 rfl) ?_
  refine g_f C hP (layb0 ho) (lay0 ho K _) rfl hX0_exchangeCorners_X0 0 (by decide) kX0_exchangeCorners_f9 rfl dX0_exchangeCorners_18 ?_
  refine lv_iload_n hx hb dX0_exchangeCorners_21 rfl (lv_at hl 4 rfl) ?_
  have hi_5 := hw.1
  have hw := hw.2
  refine a_il C hP (layb ho 1 (by decide)) (lay1 ho K _) hi_5 rfl dX0_exchangeCorners_22 ?_
  refine lv_aload_n hx hb dX0_exchangeCorners_23 rfl (lv_at hl 2 rfl) ?_
  refine g_f C hP (layb0 ho) (lay0 ho K _) rfl hX0_exchangeCorners_X0 1 (by decide) kX0_exchangeCorners_f15 rfl dX0_exchangeCorners_24 ?_
  refine lv_iload_n hx hb dX0_exchangeCorners_27 rfl (lv_at hl 4 rfl) ?_
  have hi_6 := hw.1
  have hw := hw.2
  refine a_il C hP (layb ho 2 (by decide)) (lay2 ho K _) hi_6 rfl dX0_exchangeCorners_28 ?_
  refine c_v (run_v (As := [.int v1, .int (M (o + 1) v2.toNatClampNeg), .int (M (o + 2) v2.toNatClampNeg)]) (rest := []) C hP hS (c_X0_moveCorner ho hw) gX0_exchangeCorners_X0_moveCorner rfl dsX0_moveCorner rfl ⟨rfl, rfl⟩ ⟨Nat.le_of_ble_eq_true rfl, Nat.le_of_ble_eq_true rfl⟩ (layb0 ho) (lay0 ho K _) rfl hl.1 rfl (Nat.le_of_ble_eq_true rfl) dX0_exchangeCorners_29 ⟨Nat.le_of_ble_eq_true rfl, Nat.le_of_ble_eq_true rfl⟩) hS (fun M_7 H locs hw hP hS => ?_)
  refine lv_aload_n hx hb dX0_exchangeCorners_32 rfl (lv_at hl 2 rfl) ?_
  refine lv_iload_n hx hb dX0_exchangeCorners_33 rfl (lv_at hl 4 rfl) ?_
  refine lv_iload_n hx hb dX0_exchangeCorners_34 rfl (lv_at hl 1 rfl) ?_
  refine lv_iload hx hb dX0_exchangeCorners_35 (lv_at hl 0 rfl) ?_
  refine c_v (run_v (As := [.int v2, .int x_2, .int x_4]) (rest := []) C hP hS (c_X0_moveCorner ho hw) gX0_exchangeCorners_X0_moveCorner rfl dsX0_moveCorner rfl ⟨rfl, rfl⟩ ⟨Nat.le_of_ble_eq_true rfl, Nat.le_of_ble_eq_true rfl⟩ (layb0 ho) (lay0 ho K _) rfl hl.1 rfl (Nat.le_of_ble_eq_true rfl) dX0_exchangeCorners_37 ⟨Nat.le_of_ble_eq_true rfl, Nat.le_of_ble_eq_true rfl⟩) hS (fun M_8 H locs hw hP hS => ?_)
  exact r_v C hP hS hw dX0_exchangeCorners_40
theorem kX0_removeCorner_f18 : Cond.fieldLink RX0 18 (TX0 2).1 (TX0 2).2.1 (TX0 2).2.2.1 ∈ wsX0_removeCorner := List.mem_of_getElem? (i := 1) rfl
theorem hX0_removeCorner_X0 : ∀ w ∈ u_ws RX0 TX0 10, w ∈ wsX0_removeCorner := fun _ h => List.mem_cons_of_mem _ (List.mem_append_right _ (h))
theorem kX0_removeCorner_f9 : Cond.fieldLink RX0 9 (TX0 0).1 (TX0 0).2.1 (TX0 0).2.2.1 ∈ wsX0_removeCorner := List.mem_of_getElem? (i := 2) rfl
theorem kX0_removeCorner_f15 : Cond.fieldLink RX0 15 (TX0 1).1 (TX0 1).2.1 (TX0 1).2.2.1 ∈ wsX0_removeCorner := List.mem_of_getElem? (i := 3) rfl
abbrev rmX0_removeCorner : Room := { frames := 1, cells := 0, slots := 0, locals := 23 }
abbrev t_X0_removeCorner : Type := (Int32 → Mem → Prop)
def f_X0_removeCorner_4 (o : Nat) (Q : Mem → Prop) (r : t_X0_removeCorner) (v2 : Int32) (M : Mem) : Prop := (((M o 2) ≤ v2 → Q (mU M o 2 ((M o 2) - (1 : Int32)))) ∧ (¬ (M o 2) ≤ v2 → vp_in v2 10 ∧ vp_in v2 10 ∧ q_X0_moveCorner o (v2 - (1 : Int32)) (M (o + 1) v2.toNatClampNeg) (M (o + 2) v2.toNatClampNeg) M (fun M_3 => r (v2 + 1) M_3)))
def p_X0_removeCorner (o : Nat) (Q : Mem → Prop) : Nat → t_X0_removeCorner
  | 0 => fun _ _ => False
  | n + 1 => f_X0_removeCorner_4 o Q (p_X0_removeCorner o Q n)
def e_X0_removeCorner (o : Nat) (v1 : Int32) (Q : Mem → Prop) (r : t_X0_removeCorner) (M : Mem) : Prop := r (v1 + (1 : Int32)) M
def q_X0_removeCorner (o : Nat) (v1 : Int32) (M : Mem) (Q : Mem → Prop) : Prop := ∃ n : Nat, e_X0_removeCorner o v1 Q (p_X0_removeCorner o Q n) M
set_option maxRecDepth 100000 in
set_option maxHeartbeats 4000000 in
theorem b_X0_removeCorner {l : Launch} {K : wC} {o : Nat} {Q : Mem → Prop} {p : Program} {e : Env} {s : State} {m : MethodId} {args : Array Value} {below : List Frame} {meth : Method} {c : Code} (ho : isLay o) (C : cx 51 K p s m args meth c cX0_removeCorner 3 wsX0_removeCorner RX0 none) : ∀ n : Nat, (∀ (v2 : Int32) (M : Mem) (H : Heap) (locs : List Loc) (ls : Array Slot), (p_X0_removeCorner o Q n) v2 M → wP shX 51 K M H → va_S (wA 51 K) s.heap H locs → lv_has ls 3 [(0, .ref (kb K + o)), (2, .int v2)] → W p l e rmX0_removeCorner s m args below meth c H locs 0 0 (MQ below (va_Qv Q (wE shX 51 K) (wA 51 K)) args s 0 0 (wA 51 K)) (F0 m 4 ls [])) := by
  obtain ⟨hx, hb, hml, hown, hts, hr, hlk, hK⟩ := id C
  intro n
  induction n with
  | zero => exact fun _ _ _ _ _ hw _ _ _ => False.elim hw
  | succ n ih =>
    intro v2 M H locs ls hw hP hS hl
    have hw : f_X0_removeCorner_4 o Q (p_X0_removeCorner o Q n) v2 M := hw
    delta f_X0_removeCorner_4 at hw
    refine lv_iload_n hx hb dX0_removeCorner_4 rfl (lv_at hl 1 rfl) ?_
    refine lv_aload_n hx hb dX0_removeCorner_5 rfl (lv_at hl 0 rfl) ?_
    refine g_f C hP (layb0 ho) (lay0 ho K _) rfl hX0_removeCorner_X0 2 (by decide) kX0_removeCorner_f18 rfl dX0_removeCorner_6 ?_
    refine lv_icmp_ge (tgt := 37) hx hb dX0_removeCorner_9 (by decide) (fun hc => ?_) (fun hc => ?_)
    · have hw := hw.1 hc
      refine lv_aload_n hx hb dX0_removeCorner_37 rfl (lv_at hl 0 rfl) ?_
      refine lv_dup hx hb dX0_removeCorner_38 rfl ?_
      refine g_f C hP (layb0 ho) (lay0 ho K _) rfl hX0_removeCorner_X0 2 (by decide) kX0_removeCorner_f18 rfl dX0_removeCorner_39 ?_
      refine lv_iconst hx hb dX0_removeCorner_42 ic_1 ?_
      refine lv_isub hx hb dX0_removeCorner_43 ?_
      refine p_f C hP hS (layb0 ho) (lay0 ho K _) (lay0 ho K _) rfl hX0_removeCorner_X0 tyX0_ok nmX0 (by decide) kX0_removeCorner_f18 rfl rfl rfl (Nat.le_of_ble_eq_true rfl) dX0_removeCorner_44 (fun H locs hP hS => ?_)
      exact r_v C hP hS hw dX0_removeCorner_47
    · have hw := hw.2 hc
      refine lv_aload_n hx hb dX0_removeCorner_12 rfl (lv_at hl 0 rfl) ?_
      refine lv_iload_n hx hb dX0_removeCorner_13 rfl (lv_at hl 1 rfl) ?_
      refine lv_iconst hx hb dX0_removeCorner_14 ic_1 ?_
      refine lv_isub hx hb dX0_removeCorner_15 ?_
      refine lv_aload_n hx hb dX0_removeCorner_16 rfl (lv_at hl 0 rfl) ?_
      refine g_f C hP (layb0 ho) (lay0 ho K _) rfl hX0_removeCorner_X0 0 (by decide) kX0_removeCorner_f9 rfl dX0_removeCorner_17 ?_
      refine lv_iload_n hx hb dX0_removeCorner_20 rfl (lv_at hl 1 rfl) ?_
      have hi_1 := hw.1
      have hw := hw.2
      refine a_il C hP (layb ho 1 (by decide)) (lay1 ho K _) hi_1 rfl dX0_removeCorner_21 ?_
      refine lv_aload_n hx hb dX0_removeCorner_22 rfl (lv_at hl 0 rfl) ?_
      refine g_f C hP (layb0 ho) (lay0 ho K _) rfl hX0_removeCorner_X0 1 (by decide) kX0_removeCorner_f15 rfl dX0_removeCorner_23 ?_
      refine lv_iload_n hx hb dX0_removeCorner_26 rfl (lv_at hl 1 rfl) ?_
      have hi_2 := hw.1
      have hw := hw.2
      refine a_il C hP (layb ho 2 (by decide)) (lay2 ho K _) hi_2 rfl dX0_removeCorner_27 ?_
      refine c_v (run_v (As := [.int (v2 - (1 : Int32)), .int (M (o + 1) v2.toNatClampNeg), .int (M (o + 2) v2.toNatClampNeg)]) (rest := []) C hP hS (c_X0_moveCorner ho hw) gX0_removeCorner_X0_moveCorner rfl dsX0_moveCorner rfl ⟨rfl, rfl⟩ ⟨Nat.le_of_ble_eq_true rfl, Nat.le_of_ble_eq_true rfl⟩ (layb0 ho) (lay0 ho K _) rfl hl.1 rfl (Nat.le_of_ble_eq_true rfl) dX0_removeCorner_28 ⟨Nat.le_of_ble_eq_true rfl, Nat.le_of_ble_eq_true rfl⟩) hS (fun M_3 H locs hw hP hS => ?_)
      refine lv_iinc (v := (v2 + 1)) (lv' := [(2, .int (v2 + 1)), (0, .ref (kb K + o))]) hx hb dX0_removeCorner_31 hl (k := 1) rfl (by rw [ic_1]) (by decide) rfl (fun ls hl => ?_)
      refine lv_goto (tgt := 4) hx hb dX0_removeCorner_34 (by decide) ?_
      exact ih _ _ _ _ _ hw hP hS (lv_sub hl [1, 0] rfl)
theorem dsX0_removeCorner : yX0_removeCorner.cls = RX0 ∧ yX0_removeCorner.cls ≠ "java/lang/invoke/MethodHandle" ∧ yX0_removeCorner.cls ≠ "java/lang/invoke/VarHandle" ∧ (parseMethodDescriptor yX0_removeCorner.desc).map (fun d => d.parameters.length) = some 1 := by decide +kernel
set_option maxRecDepth 100000 in
set_option maxHeartbeats 4000000 in
theorem c_X0_removeCorner {l : Launch} {K : wC} {o : Nat} {v1 : Int32} {M : Mem} {Q : Mem → Prop} (ho : isLay o) (hw : q_X0_removeCorner o v1 M Q) : metV l yX0_removeCorner wsX0_removeCorner rmX0_removeCorner shX 51 K [.ref (kb K + o), .int v1] M Q := by
  refine met_of (cc := cX0_removeCorner) (maxL := 3) (ret := none) (own := RX0) (by decide) rfl rfl (Nat.le_of_ble_eq_true rfl) ?_
  intro p e s m below meth c ls C hl hP hS
  have hl : lv_has ls 3 [(0, .ref (kb K + o)), (1, .int v1)] := hl
  obtain ⟨hx, hb, hml, hown, hts, hr, hlk, hK⟩ := id C
  have hP0 := hP
  obtain ⟨n, hw⟩ := hw
  have ih := b_X0_removeCorner (l := l) (e := e) (below := below) (Q := Q) ho C n
  delta e_X0_removeCorner at hw
  refine lv_iload_n hx hb dX0_removeCorner_0 rfl (lv_at hl 1 rfl) ?_
  refine lv_iconst hx hb dX0_removeCorner_1 ic_1 ?_
  refine lv_iadd hx hb dX0_removeCorner_2 ?_
  refine lv_istore_n (lv' := [(2, .int (v1 + (1 : Int32))), (0, .ref (kb K + o)), (1, .int v1)]) hx hb dX0_removeCorner_3 rfl hl (by decide) rfl (fun ls hl => ?_)
  exact ih _ _ _ _ _ hw hP hS (lv_sub hl [1, 0] rfl)
theorem kX0_appendWheel_f31 : Cond.fieldLink RX0 31 (TX0 6).1 (TX0 6).2.1 (TX0 6).2.2.1 ∈ wsX0_appendWheel := List.mem_of_getElem? (i := 1) rfl
theorem hX0_appendWheel_X0 : ∀ w ∈ u_ws RX0 TX0 10, w ∈ wsX0_appendWheel := fun _ h => List.mem_cons_of_mem _ (List.mem_append_right _ (h))
theorem kX0_appendWheel_f22 : Cond.fieldLink RX0 22 (TX0 3).1 (TX0 3).2.1 (TX0 3).2.2.1 ∈ wsX0_appendWheel := List.mem_of_getElem? (i := 2) rfl
theorem kX0_appendWheel_f25 : Cond.fieldLink RX0 25 (TX0 4).1 (TX0 4).2.1 (TX0 4).2.2.1 ∈ wsX0_appendWheel := List.mem_of_getElem? (i := 3) rfl
theorem kX0_appendWheel_f28 : Cond.fieldLink RX0 28 (TX0 5).1 (TX0 5).2.1 (TX0 5).2.2.1 ∈ wsX0_appendWheel := List.mem_of_getElem? (i := 4) rfl
abbrev rmX0_appendWheel : Room := { frames := 0, cells := 0, slots := 0, locals := 0 }
def q_X0_appendWheel (o : Nat) (v1 : Int32) (v2 : Int32) (M : Mem) (Q : Mem → Prop) : Prop := (((4 : Int32) ≤ (M o 6) → Q M) ∧ (¬ (4 : Int32) ≤ (M o 6) → vp_in (M o 6) 4 ∧ vp_in ((mU M (o + 3) (M o 6).toNatClampNeg v1) o 6) 4 ∧ (∀ M_3 : Mem, M_3 = mU (mU M (o + 3) (M o 6).toNatClampNeg v1) (o + 4) ((mU M (o + 3) (M o 6).toNatClampNeg v1) o 6).toNatClampNeg v2 → vp_in (M_3 o 6) 4 ∧ (∀ M_5 : Mem, M_5 = mU (mU M_3 (o + 5) (M_3 o 6).toNatClampNeg (0 : Int32)) o 6 (((mU M_3 (o + 5) (M_3 o 6).toNatClampNeg (0 : Int32)) o 6) + (1 : Int32)) → Q M_5))))
theorem dsX0_appendWheel : yX0_appendWheel.cls = RX0 ∧ yX0_appendWheel.cls ≠ "java/lang/invoke/MethodHandle" ∧ yX0_appendWheel.cls ≠ "java/lang/invoke/VarHandle" ∧ (parseMethodDescriptor yX0_appendWheel.desc).map (fun d => d.parameters.length) = some 2 := by decide +kernel
set_option maxRecDepth 100000 in
set_option maxHeartbeats 4000000 in
theorem c_X0_appendWheel {l : Launch} {K : wC} {o : Nat} {v1 : Int32} {v2 : Int32} {M : Mem} {Q : Mem → Prop} (ho : isLay o) (hw : q_X0_appendWheel o v1 v2 M Q) : metV l yX0_appendWheel wsX0_appendWheel rmX0_appendWheel shX 51 K [.ref (kb K + o), .int v1, .int v2] M Q := by
  refine met_of (cc := cX0_appendWheel) (maxL := 3) (ret := none) (own := RX0) (by decide) rfl rfl (Nat.le_of_ble_eq_true rfl) ?_
  intro p e s m below meth c ls C hl hP hS
  have hl : lv_has ls 3 [(0, .ref (kb K + o)), (1, .int v1), (2, .int v2)] := hl
  obtain ⟨hx, hb, hml, hown, hts, hr, hlk, hK⟩ := id C
  have hP0 := hP
  delta q_X0_appendWheel at hw
  refine lv_aload_n hx hb dX0_appendWheel_0 rfl (lv_at hl 0 rfl) ?_
  refine g_f C hP (layb0 ho) (lay0 ho K _) rfl hX0_appendWheel_X0 6 (by decide) kX0_appendWheel_f31 rfl dX0_appendWheel_1 ?_
  refine lv_iconst hx hb dX0_appendWheel_4 ic_4 ?_
  refine lv_icmp_ge (tgt := 48) hx hb dX0_appendWheel_5 (by decide) (fun hc => ?_) (fun hc => ?_)
  · have hw := hw.1 hc
    exact r_v C hP hS hw dX0_appendWheel_48
  · have hw := hw.2 hc
    refine lv_aload_n hx hb dX0_appendWheel_8 rfl (lv_at hl 0 rfl) ?_
    refine g_f C hP (layb0 ho) (lay0 ho K _) rfl hX0_appendWheel_X0 3 (by decide) kX0_appendWheel_f22 rfl dX0_appendWheel_9 ?_
    refine lv_aload_n hx hb dX0_appendWheel_12 rfl (lv_at hl 0 rfl) ?_
    refine g_f C hP (layb0 ho) (lay0 ho K _) rfl hX0_appendWheel_X0 6 (by decide) kX0_appendWheel_f31 rfl dX0_appendWheel_13 ?_
    refine lv_iload_n hx hb dX0_appendWheel_16 rfl (lv_at hl 1 rfl) ?_
    have hi_1 := hw.1
    have hw := hw.2
    refine a_is C hP hS (layb ho 3 (by decide)) (lay3 ho K) hi_1 rfl dX0_appendWheel_17 (fun H locs hP hS => ?_)
    refine lv_aload_n hx hb dX0_appendWheel_18 rfl (lv_at hl 0 rfl) ?_
    refine g_f C hP (layb0 ho) (lay0 ho K _) rfl hX0_appendWheel_X0 4 (by decide) kX0_appendWheel_f25 rfl dX0_appendWheel_19 ?_
    refine lv_aload_n hx hb dX0_appendWheel_22 rfl (lv_at hl 0 rfl) ?_
    refine g_f C hP (layb0 ho) (lay0 ho K _) rfl hX0_appendWheel_X0 6 (by decide) kX0_appendWheel_f31 rfl dX0_appendWheel_23 ?_
    refine lv_iload_n hx hb dX0_appendWheel_26 rfl (lv_at hl 2 rfl) ?_
    have hi_2 := hw.1
    have hw := hw.2
    refine a_is C hP hS (layb ho 4 (by decide)) (lay4 ho K) hi_2 rfl dX0_appendWheel_27 (fun H locs hP hS => ?_)
    obtain ⟨M_3, eM_3⟩ : ∃ z : Mem, z = mU (mU M (o + 3) (M o 6).toNatClampNeg v1) (o + 4) ((mU M (o + 3) (M o 6).toNatClampNeg v1) o 6).toNatClampNeg v2 := ⟨_, rfl⟩
    rw [← eM_3] at hP
    have hw := hw M_3 eM_3
    refine lv_aload_n hx hb dX0_appendWheel_28 rfl (lv_at hl 0 rfl) ?_
    refine g_f C hP (layb0 ho) (lay0 ho K _) rfl hX0_appendWheel_X0 5 (by decide) kX0_appendWheel_f28 rfl dX0_appendWheel_29 ?_
    refine lv_aload_n hx hb dX0_appendWheel_32 rfl (lv_at hl 0 rfl) ?_
    refine g_f C hP (layb0 ho) (lay0 ho K _) rfl hX0_appendWheel_X0 6 (by decide) kX0_appendWheel_f31 rfl dX0_appendWheel_33 ?_
    refine lv_iconst hx hb dX0_appendWheel_36 ic_0 ?_
    have hi_4 := hw.1
    have hw := hw.2
    refine a_is C hP hS (layb ho 5 (by decide)) (lay5 ho K) hi_4 rfl dX0_appendWheel_37 (fun H locs hP hS => ?_)
    refine lv_aload_n hx hb dX0_appendWheel_38 rfl (lv_at hl 0 rfl) ?_
    refine lv_dup hx hb dX0_appendWheel_39 rfl ?_
    refine g_f C hP (layb0 ho) (lay0 ho K _) rfl hX0_appendWheel_X0 6 (by decide) kX0_appendWheel_f31 rfl dX0_appendWheel_40 ?_
    refine lv_iconst hx hb dX0_appendWheel_43 ic_1 ?_
    refine lv_iadd hx hb dX0_appendWheel_44 ?_
    refine p_f C hP hS (layb0 ho) (lay0 ho K _) (lay0 ho K _) rfl hX0_appendWheel_X0 tyX0_ok nmX0 (by decide) kX0_appendWheel_f31 rfl rfl rfl (Nat.le_of_ble_eq_true rfl) dX0_appendWheel_45 (fun H locs hP hS => ?_)
    obtain ⟨M_5, eM_5⟩ : ∃ z : Mem, z = mU (mU M_3 (o + 5) (M_3 o 6).toNatClampNeg (0 : Int32)) o 6 (((mU M_3 (o + 5) (M_3 o 6).toNatClampNeg (0 : Int32)) o 6) + (1 : Int32)) := ⟨_, rfl⟩
    rw [← eM_5] at hP
    have hw := hw M_5 eM_5
    exact r_v C hP hS hw dX0_appendWheel_48
theorem kX0_movePole_f34 : Cond.fieldLink RX0 34 (TX0 7).1 (TX0 7).2.1 (TX0 7).2.2.1 ∈ wsX0_movePole := List.mem_of_getElem? (i := 1) rfl
theorem hX0_movePole_X0 : ∀ w ∈ u_ws RX0 TX0 10, w ∈ wsX0_movePole := fun _ h => List.mem_cons_of_mem _ (List.mem_append_right _ (h))
theorem kX0_movePole_f37 : Cond.fieldLink RX0 37 (TX0 8).1 (TX0 8).2.1 (TX0 8).2.2.1 ∈ wsX0_movePole := List.mem_of_getElem? (i := 2) rfl
abbrev rmX0_movePole : Room := { frames := 0, cells := 0, slots := 0, locals := 0 }
def q_X0_movePole (o : Nat) (v1 : Int32) (v2 : Int32) (M : Mem) (Q : Mem → Prop) : Prop := Q (mU (mU M o 7 v1) o 8 v2)
theorem dsX0_movePole : yX0_movePole.cls = RX0 ∧ yX0_movePole.cls ≠ "java/lang/invoke/MethodHandle" ∧ yX0_movePole.cls ≠ "java/lang/invoke/VarHandle" ∧ (parseMethodDescriptor yX0_movePole.desc).map (fun d => d.parameters.length) = some 2 := by decide +kernel
set_option maxRecDepth 100000 in
set_option maxHeartbeats 4000000 in
theorem c_X0_movePole {l : Launch} {K : wC} {o : Nat} {v1 : Int32} {v2 : Int32} {M : Mem} {Q : Mem → Prop} (ho : isLay o) (hw : q_X0_movePole o v1 v2 M Q) : metV l yX0_movePole wsX0_movePole rmX0_movePole shX 51 K [.ref (kb K + o), .int v1, .int v2] M Q := by
  refine met_of (cc := cX0_movePole) (maxL := 3) (ret := none) (own := RX0) (by decide) rfl rfl (Nat.le_of_ble_eq_true rfl) ?_
  intro p e s m below meth c ls C hl hP hS
  have hl : lv_has ls 3 [(0, .ref (kb K + o)), (1, .int v1), (2, .int v2)] := hl
  obtain ⟨hx, hb, hml, hown, hts, hr, hlk, hK⟩ := id C
  have hP0 := hP
  delta q_X0_movePole at hw
  refine lv_aload_n hx hb dX0_movePole_0 rfl (lv_at hl 0 rfl) ?_
  refine lv_iload_n hx hb dX0_movePole_1 rfl (lv_at hl 1 rfl) ?_
  refine p_f C hP hS (layb0 ho) (lay0 ho K _) (lay0 ho K _) rfl hX0_movePole_X0 tyX0_ok nmX0 (by decide) kX0_movePole_f34 rfl rfl rfl (Nat.le_of_ble_eq_true rfl) dX0_movePole_2 (fun H locs hP hS => ?_)
  refine lv_aload_n hx hb dX0_movePole_5 rfl (lv_at hl 0 rfl) ?_
  refine lv_iload_n hx hb dX0_movePole_6 rfl (lv_at hl 2 rfl) ?_
  refine p_f C hP hS (layb0 ho) (lay0 ho K _) (lay0 ho K _) rfl hX0_movePole_X0 tyX0_ok nmX0 (by decide) kX0_movePole_f37 rfl rfl rfl (Nat.le_of_ble_eq_true rfl) dX0_movePole_7 (fun H locs hP hS => ?_)
  exact r_v C hP hS hw dX0_movePole_10
theorem kX0_sweepOf_f18 : Cond.fieldLink RX0 18 (TX0 2).1 (TX0 2).2.1 (TX0 2).2.2.1 ∈ wsX0_sweepOf := List.mem_of_getElem? (i := 1) rfl
theorem hX0_sweepOf_X0 : ∀ w ∈ u_ws RX0 TX0 10, w ∈ wsX0_sweepOf := fun _ h => List.mem_cons_of_mem _ (List.mem_append_right _ (h))
theorem kX0_sweepOf_f9 : Cond.fieldLink RX0 9 (TX0 0).1 (TX0 0).2.1 (TX0 0).2.2.1 ∈ wsX0_sweepOf := List.mem_of_getElem? (i := 2) rfl
theorem kX0_sweepOf_f34 : Cond.fieldLink RX0 34 (TX0 7).1 (TX0 7).2.1 (TX0 7).2.2.1 ∈ wsX0_sweepOf := List.mem_of_getElem? (i := 3) rfl
theorem kX0_sweepOf_f15 : Cond.fieldLink RX0 15 (TX0 1).1 (TX0 1).2.1 (TX0 1).2.2.1 ∈ wsX0_sweepOf := List.mem_of_getElem? (i := 4) rfl
theorem kX0_sweepOf_f37 : Cond.fieldLink RX0 37 (TX0 8).1 (TX0 8).2.1 (TX0 8).2.2.1 ∈ wsX0_sweepOf := List.mem_of_getElem? (i := 5) rfl
abbrev rmX0_sweepOf : Room := { frames := 0, cells := 0, slots := 0, locals := 0 }
def f_X0_sweepOf_17 (o : Nat) (Q : Int32 → Mem → Prop) (v1 : Int32) (s0 : Int32) (M : Mem) : Prop := vp_in v1 10 ∧ (∀ x_2 : Int32, x_2 = ((M (o + 1) v1.toNatClampNeg) - (M o 7)) → vp_in v1 10 ∧ (∀ x_4 : Int32, x_4 = ((M (o + 2) v1.toNatClampNeg) - (M o 8)) → vp_in s0 10 ∧ (∀ x_6 : Int32, x_6 = ((M (o + 1) s0.toNatClampNeg) - (M o 7)) → vp_in s0 10 ∧ (∀ x_8 : Int32, x_8 = ((M (o + 2) s0.toNatClampNeg) - (M o 8)) → Q ((x_2 * x_8) - (x_6 * x_4)) M))))
def q_X0_sweepOf (o : Nat) (v1 : Int32) (M : Mem) (Q : Int32 → Mem → Prop) : Prop := (((M o 2) ≤ (v1 + (1 : Int32)) → f_X0_sweepOf_17 o Q v1 (0 : Int32) M) ∧ (¬ (M o 2) ≤ (v1 + (1 : Int32)) → f_X0_sweepOf_17 o Q v1 (v1 + (1 : Int32)) M))
set_option maxRecDepth 100000 in
set_option maxHeartbeats 4000000 in
theorem b_X0_sweepOf_17 {l : Launch} {K : wC} {o : Nat} {Q : Int32 → Mem → Prop} {p : Program} {e : Env} {s : State} {m : MethodId} {args : Array Value} {below : List Frame} {meth : Method} {c : Code} (ho : isLay o) (C : cx 51 K p s m args meth c cX0_sweepOf 7 wsX0_sweepOf RX0 (some .int)) (v1 : Int32) (s0 : Int32) (M : Mem) (H : Heap) (locs : List Loc) (ls : Array Slot) (hw : f_X0_sweepOf_17 o Q v1 s0 M) (hP : wP shX 51 K M H) (hS : va_S (wA 51 K) s.heap H locs) (hl : lv_has ls 7 [(0, .ref (kb K + o)), (1, .int v1)]) : W p l e rmX0_sweepOf s m args below meth c H locs 0 0 (MQ below (va_Qi Q (wE shX 51 K) (wA 51 K)) args s 0 0 (wA 51 K)) (F0 m 17 ls [.int s0]) := by
  obtain ⟨hx, hb, hml, hown, hts, hr, hlk, hK⟩ := id C
  delta f_X0_sweepOf_17 at hw
  refine lv_istore_n (lv' := [(2, .int s0), (0, .ref (kb K + o)), (1, .int v1)]) hx hb dX0_sweepOf_17 rfl hl (by decide) rfl (fun ls hl => ?_)
  refine lv_aload_n hx hb dX0_sweepOf_18 rfl (lv_at hl 1 rfl) ?_
  refine g_f C hP (layb0 ho) (lay0 ho K _) rfl hX0_sweepOf_X0 0 (by decide) kX0_sweepOf_f9 rfl dX0_sweepOf_19 ?_
  refine lv_iload_n hx hb dX0_sweepOf_22 rfl (lv_at hl 2 rfl) ?_
  have hi_1 := hw.1
  have hw := hw.2
  refine a_il C hP (layb ho 1 (by decide)) (lay1 ho K _) hi_1 rfl dX0_sweepOf_23 ?_
  refine lv_aload_n hx hb dX0_sweepOf_24 rfl (lv_at hl 1 rfl) ?_
  refine g_f C hP (layb0 ho) (lay0 ho K _) rfl hX0_sweepOf_X0 7 (by decide) kX0_sweepOf_f34 rfl dX0_sweepOf_25 ?_
  refine lv_isub hx hb dX0_sweepOf_28 ?_
  refine lv_topi (fun x_2 ex_2 => ?_)
  have hw := hw x_2 ex_2
  refine lv_istore_n (lv' := [(3, .int x_2), (2, .int s0), (0, .ref (kb K + o)), (1, .int v1)]) hx hb dX0_sweepOf_29 rfl hl (by decide) rfl (fun ls hl => ?_)
  refine lv_aload_n hx hb dX0_sweepOf_30 rfl (lv_at hl 2 rfl) ?_
  refine g_f C hP (layb0 ho) (lay0 ho K _) rfl hX0_sweepOf_X0 1 (by decide) kX0_sweepOf_f15 rfl dX0_sweepOf_31 ?_
  refine lv_iload_n hx hb dX0_sweepOf_34 rfl (lv_at hl 3 rfl) ?_
  have hi_3 := hw.1
  have hw := hw.2
  refine a_il C hP (layb ho 2 (by decide)) (lay2 ho K _) hi_3 rfl dX0_sweepOf_35 ?_
  refine lv_aload_n hx hb dX0_sweepOf_36 rfl (lv_at hl 2 rfl) ?_
  refine g_f C hP (layb0 ho) (lay0 ho K _) rfl hX0_sweepOf_X0 8 (by decide) kX0_sweepOf_f37 rfl dX0_sweepOf_37 ?_
  refine lv_isub hx hb dX0_sweepOf_40 ?_
  refine lv_topi (fun x_4 ex_4 => ?_)
  have hw := hw x_4 ex_4
  refine lv_istore (lv' := [(4, .int x_4), (3, .int x_2), (2, .int s0), (0, .ref (kb K + o)), (1, .int v1)]) hx hb dX0_sweepOf_41 hl (by decide) rfl (fun ls hl => ?_)
  refine lv_aload_n hx hb dX0_sweepOf_43 rfl (lv_at hl 3 rfl) ?_
  refine g_f C hP (layb0 ho) (lay0 ho K _) rfl hX0_sweepOf_X0 0 (by decide) kX0_sweepOf_f9 rfl dX0_sweepOf_44 ?_
  refine lv_iload_n hx hb dX0_sweepOf_47 rfl (lv_at hl 2 rfl) ?_
  have hi_5 := hw.1
  have hw := hw.2
  refine a_il C hP (layb ho 1 (by decide)) (lay1 ho K _) hi_5 rfl dX0_sweepOf_48 ?_
  refine lv_aload_n hx hb dX0_sweepOf_49 rfl (lv_at hl 3 rfl) ?_
  refine g_f C hP (layb0 ho) (lay0 ho K _) rfl hX0_sweepOf_X0 7 (by decide) kX0_sweepOf_f34 rfl dX0_sweepOf_50 ?_
  refine lv_isub hx hb dX0_sweepOf_53 ?_
  refine lv_topi (fun x_6 ex_6 => ?_)
  have hw := hw x_6 ex_6
  refine lv_istore (lv' := [(5, .int x_6), (4, .int x_4), (3, .int x_2), (2, .int s0), (0, .ref (kb K + o)), (1, .int v1)]) hx hb dX0_sweepOf_54 hl (by decide) rfl (fun ls hl => ?_)
  refine lv_aload_n hx hb dX0_sweepOf_56 rfl (lv_at hl 4 rfl) ?_
  refine g_f C hP (layb0 ho) (lay0 ho K _) rfl hX0_sweepOf_X0 1 (by decide) kX0_sweepOf_f15 rfl dX0_sweepOf_57 ?_
  refine lv_iload_n hx hb dX0_sweepOf_60 rfl (lv_at hl 3 rfl) ?_
  have hi_7 := hw.1
  have hw := hw.2
  refine a_il C hP (layb ho 2 (by decide)) (lay2 ho K _) hi_7 rfl dX0_sweepOf_61 ?_
  refine lv_aload_n hx hb dX0_sweepOf_62 rfl (lv_at hl 4 rfl) ?_
  refine g_f C hP (layb0 ho) (lay0 ho K _) rfl hX0_sweepOf_X0 8 (by decide) kX0_sweepOf_f37 rfl dX0_sweepOf_63 ?_
  refine lv_isub hx hb dX0_sweepOf_66 ?_
  refine lv_topi (fun x_8 ex_8 => ?_)
  have hw := hw x_8 ex_8
  refine lv_istore (lv' := [(6, .int x_8), (5, .int x_6), (4, .int x_4), (3, .int x_2), (2, .int s0), (0, .ref (kb K + o)), (1, .int v1)]) hx hb dX0_sweepOf_67 hl (by decide) rfl (fun ls hl => ?_)
  refine lv_iload_n hx hb dX0_sweepOf_69 rfl (lv_at hl 3 rfl) ?_
  refine lv_iload hx hb dX0_sweepOf_70 (lv_at hl 0 rfl) ?_
  refine lv_imul hx hb dX0_sweepOf_72 ?_
  refine lv_iload hx hb dX0_sweepOf_73 (lv_at hl 1 rfl) ?_
  refine lv_iload hx hb dX0_sweepOf_75 (lv_at hl 2 rfl) ?_
  refine lv_imul hx hb dX0_sweepOf_77 ?_
  refine lv_isub hx hb dX0_sweepOf_78 ?_
  exact r_i C hP hS hw dX0_sweepOf_79
theorem dsX0_sweepOf : yX0_sweepOf.cls = RX0 ∧ yX0_sweepOf.cls ≠ "java/lang/invoke/MethodHandle" ∧ yX0_sweepOf.cls ≠ "java/lang/invoke/VarHandle" ∧ (parseMethodDescriptor yX0_sweepOf.desc).map (fun d => d.parameters.length) = some 1 := by decide +kernel
set_option maxRecDepth 100000 in
set_option maxHeartbeats 4000000 in
theorem c_X0_sweepOf {l : Launch} {K : wC} {o : Nat} {v1 : Int32} {M : Mem} {Q : Int32 → Mem → Prop} (ho : isLay o) (hw : q_X0_sweepOf o v1 M Q) : metI l yX0_sweepOf wsX0_sweepOf rmX0_sweepOf shX 51 K [.ref (kb K + o), .int v1] M Q := by
  refine met_of (cc := cX0_sweepOf) (maxL := 7) (ret := (some .int)) (own := RX0) (by decide) rfl rfl (Nat.le_of_ble_eq_true rfl) ?_
  intro p e s m below meth c ls C hl hP hS
  have hl : lv_has ls 7 [(0, .ref (kb K + o)), (1, .int v1)] := hl
  obtain ⟨hx, hb, hml, hown, hts, hr, hlk, hK⟩ := id C
  have hP0 := hP
  delta q_X0_sweepOf at hw
  refine lv_iload_n hx hb dX0_sweepOf_0 rfl (lv_at hl 1 rfl) ?_
  refine lv_iconst hx hb dX0_sweepOf_1 ic_1 ?_
  refine lv_iadd hx hb dX0_sweepOf_2 ?_
  refine lv_aload_n hx hb dX0_sweepOf_3 rfl (lv_at hl 0 rfl) ?_
  refine g_f C hP (layb0 ho) (lay0 ho K _) rfl hX0_sweepOf_X0 2 (by decide) kX0_sweepOf_f18 rfl dX0_sweepOf_4 ?_
  refine lv_icmp_ge (tgt := 16) hx hb dX0_sweepOf_7 (by decide) (fun hc => ?_) (fun hc => ?_)
  · have hw := hw.1 hc
    refine lv_iconst hx hb dX0_sweepOf_16 ic_0 ?_
    exact b_X0_sweepOf_17 ho C _ _ _ _ _ _ hw hP hS (lv_sub hl [0, 1] rfl)
  · have hw := hw.2 hc
    refine lv_iload_n hx hb dX0_sweepOf_10 rfl (lv_at hl 1 rfl) ?_
    refine lv_iconst hx hb dX0_sweepOf_11 ic_1 ?_
    refine lv_iadd hx hb dX0_sweepOf_12 ?_
    refine lv_goto (tgt := 17) hx hb dX0_sweepOf_13 (by decide) ?_
    exact b_X0_sweepOf_17 ho C _ _ _ _ _ _ hw hP hS (lv_sub hl [0, 1] rfl)
theorem kX0_area_f18 : Cond.fieldLink RX0 18 (TX0 2).1 (TX0 2).2.1 (TX0 2).2.2.1 ∈ wsX0_area := List.mem_of_getElem? (i := 1) rfl
theorem hX0_area_X0 : ∀ w ∈ u_ws RX0 TX0 10, w ∈ wsX0_area := fun _ h => List.mem_cons_of_mem _ (List.mem_append_right _ (h))
abbrev rmX0_area : Room := { frames := 1, cells := 0, slots := 0, locals := 26 }
abbrev t_X0_area : Type := (Int32 → Int32 → Mem → Prop)
def f_X0_area_4 (o : Nat) (Q : Int32 → Mem → Prop) (r : t_X0_area) (v1 : Int32) (v2 : Int32) (M : Mem) : Prop := (((M o 2) ≤ v2 → Q v1 M) ∧ (¬ (M o 2) ≤ v2 → q_X0_sweepOf o v2 M (fun r_2 M_1 => r (v1 + r_2) (v2 + 1) M_1)))
def p_X0_area (o : Nat) (Q : Int32 → Mem → Prop) : Nat → t_X0_area
  | 0 => fun _ _ _ => False
  | n + 1 => f_X0_area_4 o Q (p_X0_area o Q n)
def e_X0_area (o : Nat) (Q : Int32 → Mem → Prop) (r : t_X0_area) (M : Mem) : Prop := r (0 : Int32) (0 : Int32) M
def q_X0_area (o : Nat) (M : Mem) (Q : Int32 → Mem → Prop) : Prop := ∃ n : Nat, e_X0_area o Q (p_X0_area o Q n) M
set_option maxRecDepth 100000 in
set_option maxHeartbeats 4000000 in
theorem b_X0_area {l : Launch} {K : wC} {o : Nat} {Q : Int32 → Mem → Prop} {p : Program} {e : Env} {s : State} {m : MethodId} {args : Array Value} {below : List Frame} {meth : Method} {c : Code} (ho : isLay o) (C : cx 51 K p s m args meth c cX0_area 3 wsX0_area RX0 (some .int)) : ∀ n : Nat, (∀ (v1 : Int32) (v2 : Int32) (M : Mem) (H : Heap) (locs : List Loc) (ls : Array Slot), (p_X0_area o Q n) v1 v2 M → wP shX 51 K M H → va_S (wA 51 K) s.heap H locs → lv_has ls 3 [(0, .ref (kb K + o)), (1, .int v1), (2, .int v2)] → W p l e rmX0_area s m args below meth c H locs 0 0 (MQ below (va_Qi Q (wE shX 51 K) (wA 51 K)) args s 0 0 (wA 51 K)) (F0 m 4 ls [])) := by
  obtain ⟨hx, hb, hml, hown, hts, hr, hlk, hK⟩ := id C
  intro n
  induction n with
  | zero => exact fun _ _ _ _ _ _ hw _ _ _ => False.elim hw
  | succ n ih =>
    intro v1 v2 M H locs ls hw hP hS hl
    have hw : f_X0_area_4 o Q (p_X0_area o Q n) v1 v2 M := hw
    delta f_X0_area_4 at hw
    refine lv_iload_n hx hb dX0_area_4 rfl (lv_at hl 2 rfl) ?_
    refine lv_aload_n hx hb dX0_area_5 rfl (lv_at hl 0 rfl) ?_
    refine g_f C hP (layb0 ho) (lay0 ho K _) rfl hX0_area_X0 2 (by decide) kX0_area_f18 rfl dX0_area_6 ?_
    refine lv_icmp_ge (tgt := 26) hx hb dX0_area_9 (by decide) (fun hc => ?_) (fun hc => ?_)
    · have hw := hw.1 hc
      refine lv_iload_n hx hb dX0_area_26 rfl (lv_at hl 1 rfl) ?_
      exact r_i C hP hS hw dX0_area_27
    · have hw := hw.2 hc
      refine lv_iload_n hx hb dX0_area_12 rfl (lv_at hl 1 rfl) ?_
      refine lv_aload_n hx hb dX0_area_13 rfl (lv_at hl 0 rfl) ?_
      refine lv_iload_n hx hb dX0_area_14 rfl (lv_at hl 2 rfl) ?_
      refine c_i (run_v (As := [.int v2]) (rest := [.int v1]) C hP hS (c_X0_sweepOf ho hw) gX0_area_X0_sweepOf rfl dsX0_sweepOf rfl ⟨rfl, rfl⟩ ⟨Nat.le_of_ble_eq_true rfl, Nat.le_of_ble_eq_true rfl⟩ (layb0 ho) (lay0 ho K _) rfl hl.1 rfl (Nat.le_of_ble_eq_true rfl) dX0_area_15 ⟨Nat.le_of_ble_eq_true rfl, Nat.le_of_ble_eq_true rfl⟩) hS (fun r_2 M_1 H locs hw hP hS => ?_)
      refine lv_iadd hx hb dX0_area_18 ?_
      refine lv_istore_n (lv' := [(1, .int (v1 + r_2)), (0, .ref (kb K + o)), (2, .int v2)]) hx hb dX0_area_19 rfl hl (by decide) rfl (fun ls hl => ?_)
      refine lv_iinc (v := (v2 + 1)) (lv' := [(2, .int (v2 + 1)), (1, .int (v1 + r_2)), (0, .ref (kb K + o))]) hx hb dX0_area_20 hl (k := 2) rfl (by rw [ic_1]) (by decide) rfl (fun ls hl => ?_)
      refine lv_goto (tgt := 4) hx hb dX0_area_23 (by decide) ?_
      exact ih _ _ _ _ _ _ hw hP hS (lv_sub hl [2, 1, 0] rfl)
theorem dsX0_area : yX0_area.cls = RX0 ∧ yX0_area.cls ≠ "java/lang/invoke/MethodHandle" ∧ yX0_area.cls ≠ "java/lang/invoke/VarHandle" ∧ (parseMethodDescriptor yX0_area.desc).map (fun d => d.parameters.length) = some 0 := by decide +kernel
set_option maxRecDepth 100000 in
set_option maxHeartbeats 4000000 in
theorem c_X0_area {l : Launch} {K : wC} {o : Nat} {M : Mem} {Q : Int32 → Mem → Prop} (ho : isLay o) (hw : q_X0_area o M Q) : metI l yX0_area wsX0_area rmX0_area shX 51 K [.ref (kb K + o)] M Q := by
  refine met_of (cc := cX0_area) (maxL := 3) (ret := (some .int)) (own := RX0) (by decide) rfl rfl (Nat.le_of_ble_eq_true rfl) ?_
  intro p e s m below meth c ls C hl hP hS
  have hl : lv_has ls 3 [(0, .ref (kb K + o))] := hl
  obtain ⟨hx, hb, hml, hown, hts, hr, hlk, hK⟩ := id C
  have hP0 := hP
  obtain ⟨n, hw⟩ := hw
  have ih := b_X0_area (l := l) (e := e) (below := below) (Q := Q) ho C n
  delta e_X0_area at hw
  refine lv_iconst hx hb dX0_area_0 ic_0 ?_
  refine lv_istore_n (lv' := [(1, .int (0 : Int32)), (0, .ref (kb K + o))]) hx hb dX0_area_1 rfl hl (by decide) rfl (fun ls hl => ?_)
  refine lv_iconst hx hb dX0_area_2 ic_0 ?_
  refine lv_istore_n (lv' := [(2, .int (0 : Int32)), (1, .int (0 : Int32)), (0, .ref (kb K + o))]) hx hb dX0_area_3 rfl hl (by decide) rfl (fun ls hl => ?_)
  exact ih _ _ _ _ _ _ hw hP hS (lv_sub hl [2, 1, 0] rfl)
theorem kX0_areaUnsigned_m61 : Cond.methodLink RX0 61 Lib.Math.abs.name ∈ wsX0_areaUnsigned := List.mem_of_getElem? (i := 1) rfl
theorem kX0_areaUnsigned_ma1 : Cond.static Lib.Math.abs.name ∈ wsX0_areaUnsigned := List.mem_of_getElem? (i := 2) rfl
theorem kX0_areaUnsigned_ma2 : Cond.initialized "java/lang/Math" ∈ wsX0_areaUnsigned := List.mem_of_getElem? (i := 3) rfl
theorem kX0_areaUnsigned_ma3 : Cond.code Lib.Math.abs.name Lib.Math.abs.code 1 (some .int) ∈ wsX0_areaUnsigned := List.mem_of_getElem? (i := 4) rfl
abbrev rmX0_areaUnsigned : Room := { frames := 2, cells := 0, slots := 0, locals := 48 }
def q_X0_areaUnsigned (o : Nat) (M : Mem) (Q : Int32 → Mem → Prop) : Prop := q_X0_area o M (fun r_2 M_1 => Q (iabs r_2) M_1)
theorem dsX0_areaUnsigned : yX0_areaUnsigned.cls = RX0 ∧ yX0_areaUnsigned.cls ≠ "java/lang/invoke/MethodHandle" ∧ yX0_areaUnsigned.cls ≠ "java/lang/invoke/VarHandle" ∧ (parseMethodDescriptor yX0_areaUnsigned.desc).map (fun d => d.parameters.length) = some 0 := by decide +kernel
set_option maxRecDepth 100000 in
set_option maxHeartbeats 4000000 in
theorem c_X0_areaUnsigned {l : Launch} {K : wC} {o : Nat} {M : Mem} {Q : Int32 → Mem → Prop} (ho : isLay o) (hw : q_X0_areaUnsigned o M Q) : metI l yX0_areaUnsigned wsX0_areaUnsigned rmX0_areaUnsigned shX 51 K [.ref (kb K + o)] M Q := by
  refine met_of (cc := cX0_areaUnsigned) (maxL := 1) (ret := (some .int)) (own := RX0) (by decide) rfl rfl (Nat.le_of_ble_eq_true rfl) ?_
  intro p e s m below meth c ls C hl hP hS
  have hl : lv_has ls 1 [(0, .ref (kb K + o))] := hl
  obtain ⟨hx, hb, hml, hown, hts, hr, hlk, hK⟩ := id C
  have hP0 := hP
  delta q_X0_areaUnsigned at hw
  refine lv_aload_n hx hb dX0_areaUnsigned_0 rfl (lv_at hl 0 rfl) ?_
  refine c_i (run_v (As := []) (rest := []) C hP hS (c_X0_area ho hw) gX0_areaUnsigned_X0_area rfl dsX0_area rfl ⟨rfl, rfl⟩ ⟨Nat.le_of_ble_eq_true rfl, Nat.le_of_ble_eq_true rfl⟩ (layb0 ho) (lay0 ho K _) rfl hl.1 rfl (Nat.le_of_ble_eq_true rfl) dX0_areaUnsigned_1 ⟨Nat.le_of_ble_eq_true rfl, Nat.le_of_ble_eq_true rfl⟩) hS (fun r_2 M_1 H locs hw hP hS => ?_)
  refine m_abs C hl.1 kX0_areaUnsigned_m61 kX0_areaUnsigned_ma1 kX0_areaUnsigned_ma2 kX0_areaUnsigned_ma3 (Nat.le_of_ble_eq_true rfl) (Nat.le_of_ble_eq_true rfl) (Nat.le_of_ble_eq_true rfl) (Nat.le_of_ble_eq_true rfl) dX0_areaUnsigned_4 ?_
  exact r_i C hP hS hw dX0_areaUnsigned_7
theorem kX0_edgeAhead_f18 : Cond.fieldLink RX0 18 (TX0 2).1 (TX0 2).2.1 (TX0 2).2.2.1 ∈ wsX0_edgeAhead := List.mem_of_getElem? (i := 1) rfl
theorem hX0_edgeAhead_X0 : ∀ w ∈ u_ws RX0 TX0 10, w ∈ wsX0_edgeAhead := fun _ h => List.mem_cons_of_mem _ (List.mem_append_right _ (h))
theorem kX0_edgeAhead_f40 : Cond.fieldLink RX0 40 (TX0 9).1 (TX0 9).2.1 (TX0 9).2.2.1 ∈ wsX0_edgeAhead := List.mem_of_getElem? (i := 2) rfl
abbrev rmX0_edgeAhead : Room := { frames := 0, cells := 0, slots := 0, locals := 0 }
def q_X0_edgeAhead (o : Nat) (v1 : Int32) (M : Mem) (Q : Int32 → Mem → Prop) : Prop := ((¬ (M o 2) = 0 → (¬ (M o 2) = 0) ∧ Q (((M o 9) + v1) - ((M o 9) + v1) / (M o 2) * (M o 2)) M) ∧ ((M o 2) = 0 → Q (-4 : Int32) M))
theorem dsX0_edgeAhead : yX0_edgeAhead.cls = RX0 ∧ yX0_edgeAhead.cls ≠ "java/lang/invoke/MethodHandle" ∧ yX0_edgeAhead.cls ≠ "java/lang/invoke/VarHandle" ∧ (parseMethodDescriptor yX0_edgeAhead.desc).map (fun d => d.parameters.length) = some 1 := by decide +kernel
set_option maxRecDepth 100000 in
set_option maxHeartbeats 4000000 in
theorem c_X0_edgeAhead {l : Launch} {K : wC} {o : Nat} {v1 : Int32} {M : Mem} {Q : Int32 → Mem → Prop} (ho : isLay o) (hw : q_X0_edgeAhead o v1 M Q) : metI l yX0_edgeAhead wsX0_edgeAhead rmX0_edgeAhead shX 51 K [.ref (kb K + o), .int v1] M Q := by
  refine met_of (cc := cX0_edgeAhead) (maxL := 2) (ret := (some .int)) (own := RX0) (by decide) rfl rfl (Nat.le_of_ble_eq_true rfl) ?_
  intro p e s m below meth c ls C hl hP hS
  have hl : lv_has ls 2 [(0, .ref (kb K + o)), (1, .int v1)] := hl
  obtain ⟨hx, hb, hml, hown, hts, hr, hlk, hK⟩ := id C
  have hP0 := hP
  delta q_X0_edgeAhead at hw
  refine lv_aload_n hx hb dX0_edgeAhead_0 rfl (lv_at hl 0 rfl) ?_
  refine g_f C hP (layb0 ho) (lay0 ho K _) rfl hX0_edgeAhead_X0 2 (by decide) kX0_edgeAhead_f18 rfl dX0_edgeAhead_1 ?_
  refine lv_if_ne (tgt := 12) hx hb dX0_edgeAhead_4 (by decide) (fun hc => ?_) (fun hc => ?_)
  · have hw := hw.1 hc
    refine lv_aload_n hx hb dX0_edgeAhead_12 rfl (lv_at hl 0 rfl) ?_
    refine g_f C hP (layb0 ho) (lay0 ho K _) rfl hX0_edgeAhead_X0 9 (by decide) kX0_edgeAhead_f40 rfl dX0_edgeAhead_13 ?_
    refine lv_iload_n hx hb dX0_edgeAhead_16 rfl (lv_at hl 1 rfl) ?_
    refine lv_iadd hx hb dX0_edgeAhead_17 ?_
    refine lv_aload_n hx hb dX0_edgeAhead_18 rfl (lv_at hl 0 rfl) ?_
    refine g_f C hP (layb0 ho) (lay0 ho K _) rfl hX0_edgeAhead_X0 2 (by decide) kX0_edgeAhead_f18 rfl dX0_edgeAhead_19 ?_
    have hz_1 := hw.1
    have hw := hw.2
    refine lv_irem hx hb dX0_edgeAhead_22 hz_1 ?_
    exact r_i C hP hS hw dX0_edgeAhead_23
  · have hw := hw.2 hc
    refine lv_bipush hx hb dX0_edgeAhead_7 bp_m4 ?_
    refine lv_goto (tgt := 23) hx hb dX0_edgeAhead_9 (by decide) ?_
    exact r_i C hP hS hw dX0_edgeAhead_23
abbrev rmX0_sweepAhead : Room := { frames := 1, cells := 0, slots := 0, locals := 26 }
def q_X0_sweepAhead (o : Nat) (v1 : Int32) (M : Mem) (Q : Int32 → Mem → Prop) : Prop := q_X0_edgeAhead o v1 M (fun r_2 M_1 => ((¬ r_2 = (-4 : Int32) → q_X0_sweepOf o r_2 M_1 (fun r_4 M_3 => Q r_4 M_3)) ∧ (r_2 = (-4 : Int32) → Q (0 : Int32) M_1)))
theorem dsX0_sweepAhead : yX0_sweepAhead.cls = RX0 ∧ yX0_sweepAhead.cls ≠ "java/lang/invoke/MethodHandle" ∧ yX0_sweepAhead.cls ≠ "java/lang/invoke/VarHandle" ∧ (parseMethodDescriptor yX0_sweepAhead.desc).map (fun d => d.parameters.length) = some 1 := by decide +kernel
set_option maxRecDepth 100000 in
set_option maxHeartbeats 4000000 in
theorem c_X0_sweepAhead {l : Launch} {K : wC} {o : Nat} {v1 : Int32} {M : Mem} {Q : Int32 → Mem → Prop} (ho : isLay o) (hw : q_X0_sweepAhead o v1 M Q) : metI l yX0_sweepAhead wsX0_sweepAhead rmX0_sweepAhead shX 51 K [.ref (kb K + o), .int v1] M Q := by
  refine met_of (cc := cX0_sweepAhead) (maxL := 3) (ret := (some .int)) (own := RX0) (by decide) rfl rfl (Nat.le_of_ble_eq_true rfl) ?_
  intro p e s m below meth c ls C hl hP hS
  have hl : lv_has ls 3 [(0, .ref (kb K + o)), (1, .int v1)] := hl
  obtain ⟨hx, hb, hml, hown, hts, hr, hlk, hK⟩ := id C
  have hP0 := hP
  delta q_X0_sweepAhead at hw
  refine lv_aload_n hx hb dX0_sweepAhead_0 rfl (lv_at hl 0 rfl) ?_
  refine lv_iload_n hx hb dX0_sweepAhead_1 rfl (lv_at hl 1 rfl) ?_
  refine c_i (run_v (As := [.int v1]) (rest := []) C hP hS (c_X0_edgeAhead ho hw) gX0_sweepAhead_X0_edgeAhead rfl dsX0_edgeAhead rfl ⟨rfl, rfl⟩ ⟨Nat.le_of_ble_eq_true rfl, Nat.le_of_ble_eq_true rfl⟩ (layb0 ho) (lay0 ho K _) rfl hl.1 rfl (Nat.le_of_ble_eq_true rfl) dX0_sweepAhead_2 ⟨Nat.le_of_ble_eq_true rfl, Nat.le_of_ble_eq_true rfl⟩) hS (fun r_2 M_1 H locs hw hP hS => ?_)
  refine lv_istore_n (lv' := [(2, .int r_2), (0, .ref (kb K + o)), (1, .int v1)]) hx hb dX0_sweepAhead_5 rfl hl (by decide) rfl (fun ls hl => ?_)
  refine lv_iload_n hx hb dX0_sweepAhead_6 rfl (lv_at hl 0 rfl) ?_
  refine lv_bipush hx hb dX0_sweepAhead_7 bp_m4 ?_
  refine lv_icmp_ne (tgt := 16) hx hb dX0_sweepAhead_9 (by decide) (fun hc => ?_) (fun hc => ?_)
  · have hw := hw.1 hc
    refine lv_aload_n hx hb dX0_sweepAhead_16 rfl (lv_at hl 1 rfl) ?_
    refine lv_iload_n hx hb dX0_sweepAhead_17 rfl (lv_at hl 0 rfl) ?_
    refine c_i (run_v (As := [.int r_2]) (rest := []) C hP hS (c_X0_sweepOf ho hw) gX0_sweepAhead_X0_sweepOf rfl dsX0_sweepOf rfl ⟨rfl, rfl⟩ ⟨Nat.le_of_ble_eq_true rfl, Nat.le_of_ble_eq_true rfl⟩ (layb0 ho) (lay0 ho K _) rfl hl.1 rfl (Nat.le_of_ble_eq_true rfl) dX0_sweepAhead_18 ⟨Nat.le_of_ble_eq_true rfl, Nat.le_of_ble_eq_true rfl⟩) hS (fun r_4 M_3 H locs hw hP hS => ?_)
    exact r_i C hP hS hw dX0_sweepAhead_21
  · have hw := hw.2 hc
    refine lv_iconst hx hb dX0_sweepAhead_12 ic_0 ?_
    refine lv_goto (tgt := 21) hx hb dX0_sweepAhead_13 (by decide) ?_
    exact r_i C hP hS hw dX0_sweepAhead_21
theorem kX0_roll_m61 : Cond.methodLink RX0 61 Lib.Math.abs.name ∈ wsX0_roll := List.mem_of_getElem? (i := 1) rfl
theorem kX0_roll_ma1 : Cond.static Lib.Math.abs.name ∈ wsX0_roll := List.mem_of_getElem? (i := 2) rfl
theorem kX0_roll_ma2 : Cond.initialized "java/lang/Math" ∈ wsX0_roll := List.mem_of_getElem? (i := 3) rfl
theorem kX0_roll_ma3 : Cond.code Lib.Math.abs.name Lib.Math.abs.code 1 (some .int) ∈ wsX0_roll := List.mem_of_getElem? (i := 4) rfl
abbrev rmX0_roll : Room := { frames := 1, cells := 0, slots := 0, locals := 21 }
def q_X0_roll (v0 : Int32) (v1 : Int32) (v2 : Int32) (M : Mem) (Q : Int32 → Mem → Prop) : Prop := ((v0 = 1 → (((1 : Int32) ≤ v1 → (¬ v1 = 0) ∧ Q ((v2 / v1) * v1) M) ∧ (¬ (1 : Int32) ≤ v1 → Q (0 : Int32) M))) ∧ (¬ v0 = 1 → ((v0 = 2 → ((v1 ≤ (iabs v2) → Q v2 M) ∧ (¬ v1 ≤ (iabs v2) → Q (0 : Int32) M))) ∧ (¬ v0 = 2 → ((v0 = 3 → ((v1 ≤ v2 → Q v2 M) ∧ (¬ v1 ≤ v2 → Q (0 : Int32) M))) ∧ (¬ v0 = 3 → Q v2 M))))))
theorem dsX0_roll : yX0_roll.cls ≠ "java/lang/invoke/MethodHandle" ∧ yX0_roll.cls ≠ "java/lang/invoke/VarHandle" ∧ (parseMethodDescriptor yX0_roll.desc).map (fun d => d.parameters.length) = some 3 := by decide +kernel
set_option maxRecDepth 100000 in
set_option maxHeartbeats 4000000 in
theorem c_X0_roll {l : Launch} {K : wC} {v0 : Int32} {v1 : Int32} {v2 : Int32} {M : Mem} {Q : Int32 → Mem → Prop} (hw : q_X0_roll v0 v1 v2 M Q) : metI l yX0_roll wsX0_roll rmX0_roll shX 51 K [.int v0, .int v1, .int v2] M Q := by
  refine met_of (cc := cX0_roll) (maxL := 3) (ret := (some .int)) (own := RX0) (by decide) rfl rfl (Nat.le_of_ble_eq_true rfl) ?_
  intro p e s m below meth c ls C hl hP hS
  have hl : lv_has ls 3 [(0, .int v0), (1, .int v1), (2, .int v2)] := hl
  obtain ⟨hx, hb, hml, hown, hts, hr, hlk, hK⟩ := id C
  have hP0 := hP
  delta q_X0_roll at hw
  refine lv_iload_n hx hb dX0_roll_0 rfl (lv_at hl 0 rfl) ?_
  by_cases hs1 : v0 = 1
  · have hw := hw.1 hs1
    refine lv_tableIn (tgt := 28) hx hb dX0_roll_1 (by rw [hs1]; decide) (by rw [hs1]; decide) (by rw [hs1]; rfl) (by decide) ?_
    refine lv_iload_n hx hb dX0_roll_28 rfl (lv_at hl 1 rfl) ?_
    refine lv_iconst hx hb dX0_roll_29 ic_1 ?_
    refine lv_icmp_ge (tgt := 37) hx hb dX0_roll_30 (by decide) (fun hc => ?_) (fun hc => ?_)
    · have hw := hw.1 hc
      refine lv_iload_n hx hb dX0_roll_37 rfl (lv_at hl 2 rfl) ?_
      refine lv_iload_n hx hb dX0_roll_38 rfl (lv_at hl 1 rfl) ?_
      have hz_1 := hw.1
      have hw := hw.2
      refine lv_idiv hx hb dX0_roll_39 hz_1 ?_
      refine lv_iload_n hx hb dX0_roll_40 rfl (lv_at hl 1 rfl) ?_
      refine lv_imul hx hb dX0_roll_41 ?_
      exact r_i C hP hS hw dX0_roll_42
    · have hw := hw.2 hc
      refine lv_iconst hx hb dX0_roll_33 ic_0 ?_
      refine lv_goto (tgt := 42) hx hb dX0_roll_34 (by decide) ?_
      exact r_i C hP hS hw dX0_roll_42
  · have hw := hw.2 hs1
    by_cases hs2 : v0 = 2
    · have hw := hw.1 hs2
      refine lv_tableIn (tgt := 43) hx hb dX0_roll_1 (by rw [hs2]; decide) (by rw [hs2]; decide) (by rw [hs2]; rfl) (by decide) ?_
      refine lv_iload_n hx hb dX0_roll_43 rfl (lv_at hl 2 rfl) ?_
      refine m_abs C hl.1 kX0_roll_m61 kX0_roll_ma1 kX0_roll_ma2 kX0_roll_ma3 (Nat.le_of_ble_eq_true rfl) (Nat.le_of_ble_eq_true rfl) (Nat.le_of_ble_eq_true rfl) (Nat.le_of_ble_eq_true rfl) dX0_roll_44 ?_
      refine lv_iload_n hx hb dX0_roll_47 rfl (lv_at hl 1 rfl) ?_
      refine lv_icmp_ge (tgt := 55) hx hb dX0_roll_48 (by decide) (fun hc => ?_) (fun hc => ?_)
      · have hw := hw.1 hc
        refine lv_iload_n hx hb dX0_roll_55 rfl (lv_at hl 2 rfl) ?_
        exact r_i C hP hS hw dX0_roll_56
      · have hw := hw.2 hc
        refine lv_iconst hx hb dX0_roll_51 ic_0 ?_
        refine lv_goto (tgt := 56) hx hb dX0_roll_52 (by decide) ?_
        exact r_i C hP hS hw dX0_roll_56
    · have hw := hw.2 hs2
      by_cases hs3 : v0 = 3
      · have hw := hw.1 hs3
        refine lv_tableIn (tgt := 57) hx hb dX0_roll_1 (by rw [hs3]; decide) (by rw [hs3]; decide) (by rw [hs3]; rfl) (by decide) ?_
        refine lv_iload_n hx hb dX0_roll_57 rfl (lv_at hl 2 rfl) ?_
        refine lv_iload_n hx hb dX0_roll_58 rfl (lv_at hl 1 rfl) ?_
        refine lv_icmp_ge (tgt := 66) hx hb dX0_roll_59 (by decide) (fun hc => ?_) (fun hc => ?_)
        · have hw := hw.1 hc
          refine lv_iload_n hx hb dX0_roll_66 rfl (lv_at hl 2 rfl) ?_
          exact r_i C hP hS hw dX0_roll_67
        · have hw := hw.2 hc
          refine lv_iconst hx hb dX0_roll_62 ic_0 ?_
          refine lv_goto (tgt := 67) hx hb dX0_roll_63 (by decide) ?_
          exact r_i C hP hS hw dX0_roll_67
      · have hw := hw.2 hs3
        have nhs1 : v0.toInt ≠ 1 := ne_toInt hs1
        have nhs2 : v0.toInt ≠ 2 := ne_toInt hs2
        have nhs3 : v0.toInt ≠ 3 := ne_toInt hs3
        refine lv_tableOut (tgt := 68) hx hb dX0_roll_1 (by omega) (by decide) ?_
        refine lv_iload_n hx hb dX0_roll_68 rfl (lv_at hl 2 rfl) ?_
        exact r_i C hP hS hw dX0_roll_69
theorem kX0_rollOf_f22 : Cond.fieldLink RX0 22 (TX0 3).1 (TX0 3).2.1 (TX0 3).2.2.1 ∈ wsX0_rollOf := List.mem_of_getElem? (i := 1) rfl
theorem hX0_rollOf_X0 : ∀ w ∈ u_ws RX0 TX0 10, w ∈ wsX0_rollOf := fun _ h => List.mem_cons_of_mem _ (List.mem_append_right _ (h))
theorem kX0_rollOf_f25 : Cond.fieldLink RX0 25 (TX0 4).1 (TX0 4).2.1 (TX0 4).2.2.1 ∈ wsX0_rollOf := List.mem_of_getElem? (i := 2) rfl
abbrev rmX0_rollOf : Room := { frames := 2, cells := 0, slots := 0, locals := 43 }
def q_X0_rollOf (o : Nat) (v1 : Int32) (v2 : Int32) (M : Mem) (Q : Int32 → Mem → Prop) : Prop := vp_in v1 4 ∧ vp_in v1 4 ∧ q_X0_roll (M (o + 3) v1.toNatClampNeg) (M (o + 4) v1.toNatClampNeg) v2 M (fun r_4 M_3 => Q r_4 M_3)
theorem dsX0_rollOf : yX0_rollOf.cls = RX0 ∧ yX0_rollOf.cls ≠ "java/lang/invoke/MethodHandle" ∧ yX0_rollOf.cls ≠ "java/lang/invoke/VarHandle" ∧ (parseMethodDescriptor yX0_rollOf.desc).map (fun d => d.parameters.length) = some 2 := by decide +kernel
set_option maxRecDepth 100000 in
set_option maxHeartbeats 4000000 in
theorem c_X0_rollOf {l : Launch} {K : wC} {o : Nat} {v1 : Int32} {v2 : Int32} {M : Mem} {Q : Int32 → Mem → Prop} (ho : isLay o) (hw : q_X0_rollOf o v1 v2 M Q) : metI l yX0_rollOf wsX0_rollOf rmX0_rollOf shX 51 K [.ref (kb K + o), .int v1, .int v2] M Q := by
  refine met_of (cc := cX0_rollOf) (maxL := 3) (ret := (some .int)) (own := RX0) (by decide) rfl rfl (Nat.le_of_ble_eq_true rfl) ?_
  intro p e s m below meth c ls C hl hP hS
  have hl : lv_has ls 3 [(0, .ref (kb K + o)), (1, .int v1), (2, .int v2)] := hl
  obtain ⟨hx, hb, hml, hown, hts, hr, hlk, hK⟩ := id C
  have hP0 := hP
  delta q_X0_rollOf at hw
  refine lv_aload_n hx hb dX0_rollOf_0 rfl (lv_at hl 0 rfl) ?_
  refine g_f C hP (layb0 ho) (lay0 ho K _) rfl hX0_rollOf_X0 3 (by decide) kX0_rollOf_f22 rfl dX0_rollOf_1 ?_
  refine lv_iload_n hx hb dX0_rollOf_4 rfl (lv_at hl 1 rfl) ?_
  have hi_1 := hw.1
  have hw := hw.2
  refine a_il C hP (layb ho 3 (by decide)) (lay3 ho K _) hi_1 rfl dX0_rollOf_5 ?_
  refine lv_aload_n hx hb dX0_rollOf_6 rfl (lv_at hl 0 rfl) ?_
  refine g_f C hP (layb0 ho) (lay0 ho K _) rfl hX0_rollOf_X0 4 (by decide) kX0_rollOf_f25 rfl dX0_rollOf_7 ?_
  refine lv_iload_n hx hb dX0_rollOf_10 rfl (lv_at hl 1 rfl) ?_
  have hi_2 := hw.1
  have hw := hw.2
  refine a_il C hP (layb ho 4 (by decide)) (lay4 ho K _) hi_2 rfl dX0_rollOf_11 ?_
  refine lv_iload_n hx hb dX0_rollOf_12 rfl (lv_at hl 2 rfl) ?_
  refine c_i (run_s (As := [.int (M (o + 3) v1.toNatClampNeg), .int (M (o + 4) v1.toNatClampNeg), .int v2]) (rest := []) C hP hS (c_X0_roll hw) gX0_rollOf_X0_roll rfl dsX0_roll rfl ⟨rfl, rfl⟩ ⟨Nat.le_of_ble_eq_true rfl, Nat.le_of_ble_eq_true rfl⟩ hl.1 rfl (Nat.le_of_ble_eq_true rfl) dX0_rollOf_13 ⟨Nat.le_of_ble_eq_true rfl, Nat.le_of_ble_eq_true rfl⟩) hS (fun r_4 M_3 H locs hw hP hS => ?_)
  exact r_i C hP hS hw dX0_rollOf_16
theorem kX0_rolledByAll_f31 : Cond.fieldLink RX0 31 (TX0 6).1 (TX0 6).2.1 (TX0 6).2.2.1 ∈ wsX0_rolledByAll := List.mem_of_getElem? (i := 1) rfl
theorem hX0_rolledByAll_X0 : ∀ w ∈ u_ws RX0 TX0 10, w ∈ wsX0_rolledByAll := fun _ h => List.mem_cons_of_mem _ (List.mem_append_right _ (h))
theorem kX0_rolledByAll_m61 : Cond.methodLink RX0 61 Lib.Math.abs.name ∈ wsX0_rolledByAll := List.mem_of_getElem? (i := 2) rfl
theorem kX0_rolledByAll_ma1 : Cond.static Lib.Math.abs.name ∈ wsX0_rolledByAll := List.mem_of_getElem? (i := 3) rfl
theorem kX0_rolledByAll_ma2 : Cond.initialized "java/lang/Math" ∈ wsX0_rolledByAll := List.mem_of_getElem? (i := 4) rfl
theorem kX0_rolledByAll_ma3 : Cond.code Lib.Math.abs.name Lib.Math.abs.code 1 (some .int) ∈ wsX0_rolledByAll := List.mem_of_getElem? (i := 5) rfl
abbrev rmX0_rolledByAll : Room := { frames := 3, cells := 0, slots := 0, locals := 65 }
abbrev t_X0_rolledByAll : Type := (Int32 → Int32 → Int32 → Mem → Prop)
def f_X0_rolledByAll_4 (o : Nat) (Q : Int32 → Mem → Prop) (r : t_X0_rolledByAll) (v1 : Int32) (v2 : Int32) (v3 : Int32) (M : Mem) : Prop := (((M o 6) ≤ v3 → Q v2 M) ∧ (¬ (M o 6) ≤ v3 → q_X0_rollOf o v3 v1 M (fun r_2 M_1 => r v1 (v2 + (iabs r_2)) (v3 + 1) M_1)))
def p_X0_rolledByAll (o : Nat) (Q : Int32 → Mem → Prop) : Nat → t_X0_rolledByAll
  | 0 => fun _ _ _ _ => False
  | n + 1 => f_X0_rolledByAll_4 o Q (p_X0_rolledByAll o Q n)
def e_X0_rolledByAll (o : Nat) (v1 : Int32) (Q : Int32 → Mem → Prop) (r : t_X0_rolledByAll) (M : Mem) : Prop := r v1 (0 : Int32) (0 : Int32) M
def q_X0_rolledByAll (o : Nat) (v1 : Int32) (M : Mem) (Q : Int32 → Mem → Prop) : Prop := ∃ n : Nat, e_X0_rolledByAll o v1 Q (p_X0_rolledByAll o Q n) M
set_option maxRecDepth 100000 in
set_option maxHeartbeats 4000000 in
theorem b_X0_rolledByAll {l : Launch} {K : wC} {o : Nat} {Q : Int32 → Mem → Prop} {p : Program} {e : Env} {s : State} {m : MethodId} {args : Array Value} {below : List Frame} {meth : Method} {c : Code} (ho : isLay o) (C : cx 51 K p s m args meth c cX0_rolledByAll 4 wsX0_rolledByAll RX0 (some .int)) : ∀ n : Nat, (∀ (v1 : Int32) (v2 : Int32) (v3 : Int32) (M : Mem) (H : Heap) (locs : List Loc) (ls : Array Slot), (p_X0_rolledByAll o Q n) v1 v2 v3 M → wP shX 51 K M H → va_S (wA 51 K) s.heap H locs → lv_has ls 4 [(0, .ref (kb K + o)), (1, .int v1), (2, .int v2), (3, .int v3)] → W p l e rmX0_rolledByAll s m args below meth c H locs 0 0 (MQ below (va_Qi Q (wE shX 51 K) (wA 51 K)) args s 0 0 (wA 51 K)) (F0 m 4 ls [])) := by
  obtain ⟨hx, hb, hml, hown, hts, hr, hlk, hK⟩ := id C
  intro n
  induction n with
  | zero => exact fun _ _ _ _ _ _ _ hw _ _ _ => False.elim hw
  | succ n ih =>
    intro v1 v2 v3 M H locs ls hw hP hS hl
    have hw : f_X0_rolledByAll_4 o Q (p_X0_rolledByAll o Q n) v1 v2 v3 M := hw
    delta f_X0_rolledByAll_4 at hw
    refine lv_iload_n hx hb dX0_rolledByAll_4 rfl (lv_at hl 3 rfl) ?_
    refine lv_aload_n hx hb dX0_rolledByAll_5 rfl (lv_at hl 0 rfl) ?_
    refine g_f C hP (layb0 ho) (lay0 ho K _) rfl hX0_rolledByAll_X0 6 (by decide) kX0_rolledByAll_f31 rfl dX0_rolledByAll_6 ?_
    refine lv_icmp_ge (tgt := 30) hx hb dX0_rolledByAll_9 (by decide) (fun hc => ?_) (fun hc => ?_)
    · have hw := hw.1 hc
      refine lv_iload_n hx hb dX0_rolledByAll_30 rfl (lv_at hl 2 rfl) ?_
      exact r_i C hP hS hw dX0_rolledByAll_31
    · have hw := hw.2 hc
      refine lv_iload_n hx hb dX0_rolledByAll_12 rfl (lv_at hl 2 rfl) ?_
      refine lv_aload_n hx hb dX0_rolledByAll_13 rfl (lv_at hl 0 rfl) ?_
      refine lv_iload_n hx hb dX0_rolledByAll_14 rfl (lv_at hl 3 rfl) ?_
      refine lv_iload_n hx hb dX0_rolledByAll_15 rfl (lv_at hl 1 rfl) ?_
      refine c_i (run_v (As := [.int v3, .int v1]) (rest := [.int v2]) C hP hS (c_X0_rollOf ho hw) gX0_rolledByAll_X0_rollOf rfl dsX0_rollOf rfl ⟨rfl, rfl⟩ ⟨Nat.le_of_ble_eq_true rfl, Nat.le_of_ble_eq_true rfl⟩ (layb0 ho) (lay0 ho K _) rfl hl.1 rfl (Nat.le_of_ble_eq_true rfl) dX0_rolledByAll_16 ⟨Nat.le_of_ble_eq_true rfl, Nat.le_of_ble_eq_true rfl⟩) hS (fun r_2 M_1 H locs hw hP hS => ?_)
      refine m_abs C hl.1 kX0_rolledByAll_m61 kX0_rolledByAll_ma1 kX0_rolledByAll_ma2 kX0_rolledByAll_ma3 (Nat.le_of_ble_eq_true rfl) (Nat.le_of_ble_eq_true rfl) (Nat.le_of_ble_eq_true rfl) (Nat.le_of_ble_eq_true rfl) dX0_rolledByAll_19 ?_
      refine lv_iadd hx hb dX0_rolledByAll_22 ?_
      refine lv_istore_n (lv' := [(2, .int (v2 + (iabs r_2))), (0, .ref (kb K + o)), (1, .int v1), (3, .int v3)]) hx hb dX0_rolledByAll_23 rfl hl (by decide) rfl (fun ls hl => ?_)
      refine lv_iinc (v := (v3 + 1)) (lv' := [(3, .int (v3 + 1)), (2, .int (v2 + (iabs r_2))), (0, .ref (kb K + o)), (1, .int v1)]) hx hb dX0_rolledByAll_24 hl (k := 3) rfl (by rw [ic_1]) (by decide) rfl (fun ls hl => ?_)
      refine lv_goto (tgt := 4) hx hb dX0_rolledByAll_27 (by decide) ?_
      exact ih _ _ _ _ _ _ _ hw hP hS (lv_sub hl [2, 3, 1, 0] rfl)
theorem dsX0_rolledByAll : yX0_rolledByAll.cls = RX0 ∧ yX0_rolledByAll.cls ≠ "java/lang/invoke/MethodHandle" ∧ yX0_rolledByAll.cls ≠ "java/lang/invoke/VarHandle" ∧ (parseMethodDescriptor yX0_rolledByAll.desc).map (fun d => d.parameters.length) = some 1 := by decide +kernel
set_option maxRecDepth 100000 in
set_option maxHeartbeats 4000000 in
theorem c_X0_rolledByAll {l : Launch} {K : wC} {o : Nat} {v1 : Int32} {M : Mem} {Q : Int32 → Mem → Prop} (ho : isLay o) (hw : q_X0_rolledByAll o v1 M Q) : metI l yX0_rolledByAll wsX0_rolledByAll rmX0_rolledByAll shX 51 K [.ref (kb K + o), .int v1] M Q := by
  refine met_of (cc := cX0_rolledByAll) (maxL := 4) (ret := (some .int)) (own := RX0) (by decide) rfl rfl (Nat.le_of_ble_eq_true rfl) ?_
  intro p e s m below meth c ls C hl hP hS
  have hl : lv_has ls 4 [(0, .ref (kb K + o)), (1, .int v1)] := hl
  obtain ⟨hx, hb, hml, hown, hts, hr, hlk, hK⟩ := id C
  have hP0 := hP
  obtain ⟨n, hw⟩ := hw
  have ih := b_X0_rolledByAll (l := l) (e := e) (below := below) (Q := Q) ho C n
  delta e_X0_rolledByAll at hw
  refine lv_iconst hx hb dX0_rolledByAll_0 ic_0 ?_
  refine lv_istore_n (lv' := [(2, .int (0 : Int32)), (0, .ref (kb K + o)), (1, .int v1)]) hx hb dX0_rolledByAll_1 rfl hl (by decide) rfl (fun ls hl => ?_)
  refine lv_iconst hx hb dX0_rolledByAll_2 ic_0 ?_
  refine lv_istore_n (lv' := [(3, .int (0 : Int32)), (2, .int (0 : Int32)), (0, .ref (kb K + o)), (1, .int v1)]) hx hb dX0_rolledByAll_3 rfl hl (by decide) rfl (fun ls hl => ?_)
  exact ih _ _ _ _ _ _ _ hw hP hS (lv_sub hl [2, 3, 1, 0] rfl)
theorem kX0_rollAll_f31 : Cond.fieldLink RX0 31 (TX0 6).1 (TX0 6).2.1 (TX0 6).2.2.1 ∈ wsX0_rollAll := List.mem_of_getElem? (i := 1) rfl
theorem hX0_rollAll_X0 : ∀ w ∈ u_ws RX0 TX0 10, w ∈ wsX0_rollAll := fun _ h => List.mem_cons_of_mem _ (List.mem_append_right _ (h))
theorem kX0_rollAll_f28 : Cond.fieldLink RX0 28 (TX0 5).1 (TX0 5).2.1 (TX0 5).2.2.1 ∈ wsX0_rollAll := List.mem_of_getElem? (i := 2) rfl
abbrev rmX0_rollAll : Room := { frames := 4, cells := 0, slots := 0, locals := 88 }
abbrev t_X0_rollAll : Type := (Int32 → Int32 → Mem → Prop)
def f_X0_rollAll_2 (o : Nat) (Q : Int32 → Mem → Prop) (r : t_X0_rollAll) (v1 : Int32) (v2 : Int32) (M : Mem) : Prop := (((M o 6) ≤ v2 → q_X0_rolledByAll o v1 M (fun r_2 M_1 => Q r_2 M_1)) ∧ (¬ (M o 6) ≤ v2 → vp_in v2 4 ∧ q_X0_rollOf o v2 v1 M (fun r_5 M_4 => vp_in v2 4 ∧ r v1 (v2 + 1) (mU M_4 (o + 5) v2.toNatClampNeg ((M (o + 5) v2.toNatClampNeg) + r_5)))))
def p_X0_rollAll (o : Nat) (Q : Int32 → Mem → Prop) : Nat → t_X0_rollAll
  | 0 => fun _ _ _ => False
  | n + 1 => f_X0_rollAll_2 o Q (p_X0_rollAll o Q n)
def e_X0_rollAll (o : Nat) (v1 : Int32) (Q : Int32 → Mem → Prop) (r : t_X0_rollAll) (M : Mem) : Prop := r v1 (0 : Int32) M
def q_X0_rollAll (o : Nat) (v1 : Int32) (M : Mem) (Q : Int32 → Mem → Prop) : Prop := ∃ n : Nat, e_X0_rollAll o v1 Q (p_X0_rollAll o Q n) M
set_option maxRecDepth 100000 in
set_option maxHeartbeats 4000000 in
theorem b_X0_rollAll {l : Launch} {K : wC} {o : Nat} {Q : Int32 → Mem → Prop} {p : Program} {e : Env} {s : State} {m : MethodId} {args : Array Value} {below : List Frame} {meth : Method} {c : Code} (ho : isLay o) (C : cx 51 K p s m args meth c cX0_rollAll 3 wsX0_rollAll RX0 (some .int)) : ∀ n : Nat, (∀ (v1 : Int32) (v2 : Int32) (M : Mem) (H : Heap) (locs : List Loc) (ls : Array Slot), (p_X0_rollAll o Q n) v1 v2 M → wP shX 51 K M H → va_S (wA 51 K) s.heap H locs → lv_has ls 3 [(0, .ref (kb K + o)), (1, .int v1), (2, .int v2)] → W p l e rmX0_rollAll s m args below meth c H locs 0 0 (MQ below (va_Qi Q (wE shX 51 K) (wA 51 K)) args s 0 0 (wA 51 K)) (F0 m 2 ls [])) := by
  obtain ⟨hx, hb, hml, hown, hts, hr, hlk, hK⟩ := id C
  intro n
  induction n with
  | zero => exact fun _ _ _ _ _ _ hw _ _ _ => False.elim hw
  | succ n ih =>
    intro v1 v2 M H locs ls hw hP hS hl
    have hw : f_X0_rollAll_2 o Q (p_X0_rollAll o Q n) v1 v2 M := hw
    delta f_X0_rollAll_2 at hw
    refine lv_iload_n hx hb dX0_rollAll_2 rfl (lv_at hl 2 rfl) ?_
    refine lv_aload_n hx hb dX0_rollAll_3 rfl (lv_at hl 0 rfl) ?_
    refine g_f C hP (layb0 ho) (lay0 ho K _) rfl hX0_rollAll_X0 6 (by decide) kX0_rollAll_f31 rfl dX0_rollAll_4 ?_
    refine lv_icmp_ge (tgt := 31) hx hb dX0_rollAll_7 (by decide) (fun hc => ?_) (fun hc => ?_)
    · have hw := hw.1 hc
      refine lv_aload_n hx hb dX0_rollAll_31 rfl (lv_at hl 0 rfl) ?_
      refine lv_iload_n hx hb dX0_rollAll_32 rfl (lv_at hl 1 rfl) ?_
      refine c_i (run_v (As := [.int v1]) (rest := []) C hP hS (c_X0_rolledByAll ho hw) gX0_rollAll_X0_rolledByAll rfl dsX0_rolledByAll rfl ⟨rfl, rfl⟩ ⟨Nat.le_of_ble_eq_true rfl, Nat.le_of_ble_eq_true rfl⟩ (layb0 ho) (lay0 ho K _) rfl hl.1 rfl (Nat.le_of_ble_eq_true rfl) dX0_rollAll_33 ⟨Nat.le_of_ble_eq_true rfl, Nat.le_of_ble_eq_true rfl⟩) hS (fun r_2 M_1 H locs hw hP hS => ?_)
      exact r_i C hP hS hw dX0_rollAll_36
    · have hw := hw.2 hc
      refine lv_aload_n hx hb dX0_rollAll_10 rfl (lv_at hl 0 rfl) ?_
      refine g_f C hP (layb0 ho) (lay0 ho K _) rfl hX0_rollAll_X0 5 (by decide) kX0_rollAll_f28 rfl dX0_rollAll_11 ?_
      refine lv_iload_n hx hb dX0_rollAll_14 rfl (lv_at hl 2 rfl) ?_
      refine lv_dup2_11 hx hb dX0_rollAll_15 rfl rfl ?_
      have hi_3 := hw.1
      have hw := hw.2
      refine a_il C hP (layb ho 5 (by decide)) (lay5 ho K _) hi_3 rfl dX0_rollAll_16 ?_
      refine lv_aload_n hx hb dX0_rollAll_17 rfl (lv_at hl 0 rfl) ?_
      refine lv_iload_n hx hb dX0_rollAll_18 rfl (lv_at hl 2 rfl) ?_
      refine lv_iload_n hx hb dX0_rollAll_19 rfl (lv_at hl 1 rfl) ?_
      refine c_i (run_v (As := [.int v2, .int v1]) (rest := [.int (M (o + 5) v2.toNatClampNeg), .int v2, .ref (kb K + (o + 5))]) C hP hS (c_X0_rollOf ho hw) gX0_rollAll_X0_rollOf rfl dsX0_rollOf rfl ⟨rfl, rfl⟩ ⟨Nat.le_of_ble_eq_true rfl, Nat.le_of_ble_eq_true rfl⟩ (layb0 ho) (lay0 ho K _) rfl hl.1 rfl (Nat.le_of_ble_eq_true rfl) dX0_rollAll_20 ⟨Nat.le_of_ble_eq_true rfl, Nat.le_of_ble_eq_true rfl⟩) hS (fun r_5 M_4 H locs hw hP hS => ?_)
      refine lv_iadd hx hb dX0_rollAll_23 ?_
      have hi_6 := hw.1
      have hw := hw.2
      refine a_is C hP hS (layb ho 5 (by decide)) (lay5 ho K) hi_6 rfl dX0_rollAll_24 (fun H locs hP hS => ?_)
      refine lv_iinc (v := (v2 + 1)) (lv' := [(2, .int (v2 + 1)), (0, .ref (kb K + o)), (1, .int v1)]) hx hb dX0_rollAll_25 hl (k := 2) rfl (by rw [ic_1]) (by decide) rfl (fun ls hl => ?_)
      refine lv_goto (tgt := 2) hx hb dX0_rollAll_28 (by decide) ?_
      exact ih _ _ _ _ _ _ hw hP hS (lv_sub hl [1, 2, 0] rfl)
theorem dsX0_rollAll : yX0_rollAll.cls = RX0 ∧ yX0_rollAll.cls ≠ "java/lang/invoke/MethodHandle" ∧ yX0_rollAll.cls ≠ "java/lang/invoke/VarHandle" ∧ (parseMethodDescriptor yX0_rollAll.desc).map (fun d => d.parameters.length) = some 1 := by decide +kernel
set_option maxRecDepth 100000 in
set_option maxHeartbeats 4000000 in
theorem c_X0_rollAll {l : Launch} {K : wC} {o : Nat} {v1 : Int32} {M : Mem} {Q : Int32 → Mem → Prop} (ho : isLay o) (hw : q_X0_rollAll o v1 M Q) : metI l yX0_rollAll wsX0_rollAll rmX0_rollAll shX 51 K [.ref (kb K + o), .int v1] M Q := by
  refine met_of (cc := cX0_rollAll) (maxL := 3) (ret := (some .int)) (own := RX0) (by decide) rfl rfl (Nat.le_of_ble_eq_true rfl) ?_
  intro p e s m below meth c ls C hl hP hS
  have hl : lv_has ls 3 [(0, .ref (kb K + o)), (1, .int v1)] := hl
  obtain ⟨hx, hb, hml, hown, hts, hr, hlk, hK⟩ := id C
  have hP0 := hP
  obtain ⟨n, hw⟩ := hw
  have ih := b_X0_rollAll (l := l) (e := e) (below := below) (Q := Q) ho C n
  delta e_X0_rollAll at hw
  refine lv_iconst hx hb dX0_rollAll_0 ic_0 ?_
  refine lv_istore_n (lv' := [(2, .int (0 : Int32)), (0, .ref (kb K + o)), (1, .int v1)]) hx hb dX0_rollAll_1 rfl hl (by decide) rfl (fun ls hl => ?_)
  exact ih _ _ _ _ _ _ hw hP hS (lv_sub hl [1, 2, 0] rfl)
theorem kX0_someWheelRests_f31 : Cond.fieldLink RX0 31 (TX0 6).1 (TX0 6).2.1 (TX0 6).2.2.1 ∈ wsX0_someWheelRests := List.mem_of_getElem? (i := 1) rfl
theorem hX0_someWheelRests_X0 : ∀ w ∈ u_ws RX0 TX0 10, w ∈ wsX0_someWheelRests := fun _ h => List.mem_cons_of_mem _ (List.mem_append_right _ (h))
abbrev rmX0_someWheelRests : Room := { frames := 3, cells := 0, slots := 0, locals := 65 }
abbrev t_X0_someWheelRests : Type := (Int32 → Int32 → Mem → Prop)
def f_X0_someWheelRests_2 (o : Nat) (Q : Int32 → Mem → Prop) (r : t_X0_someWheelRests) (v1 : Int32) (v2 : Int32) (M : Mem) : Prop := (((M o 6) ≤ v2 → Q (0 : Int32) M) ∧ (¬ (M o 6) ≤ v2 → q_X0_rollOf o v2 v1 M (fun r_2 M_1 => ((¬ r_2 = 0 → r v1 (v2 + 1) M_1) ∧ (r_2 = 0 → Q (1 : Int32) M_1)))))
def p_X0_someWheelRests (o : Nat) (Q : Int32 → Mem → Prop) : Nat → t_X0_someWheelRests
  | 0 => fun _ _ _ => False
  | n + 1 => f_X0_someWheelRests_2 o Q (p_X0_someWheelRests o Q n)
def e_X0_someWheelRests (o : Nat) (v1 : Int32) (Q : Int32 → Mem → Prop) (r : t_X0_someWheelRests) (M : Mem) : Prop := r v1 (0 : Int32) M
def q_X0_someWheelRests (o : Nat) (v1 : Int32) (M : Mem) (Q : Int32 → Mem → Prop) : Prop := ∃ n : Nat, e_X0_someWheelRests o v1 Q (p_X0_someWheelRests o Q n) M
set_option maxRecDepth 100000 in
set_option maxHeartbeats 4000000 in
theorem b_X0_someWheelRests {l : Launch} {K : wC} {o : Nat} {Q : Int32 → Mem → Prop} {p : Program} {e : Env} {s : State} {m : MethodId} {args : Array Value} {below : List Frame} {meth : Method} {c : Code} (ho : isLay o) (C : cx 51 K p s m args meth c cX0_someWheelRests 3 wsX0_someWheelRests RX0 (some .boolean)) : ∀ n : Nat, (∀ (v1 : Int32) (v2 : Int32) (M : Mem) (H : Heap) (locs : List Loc) (ls : Array Slot), (p_X0_someWheelRests o Q n) v1 v2 M → wP shX 51 K M H → va_S (wA 51 K) s.heap H locs → lv_has ls 3 [(0, .ref (kb K + o)), (1, .int v1), (2, .int v2)] → W p l e rmX0_someWheelRests s m args below meth c H locs 0 0 (MQ below (va_Qi Q (wE shX 51 K) (wA 51 K)) args s 0 0 (wA 51 K)) (F0 m 2 ls [])) := by
  obtain ⟨hx, hb, hml, hown, hts, hr, hlk, hK⟩ := id C
  intro n
  induction n with
  | zero => exact fun _ _ _ _ _ _ hw _ _ _ => False.elim hw
  | succ n ih =>
    intro v1 v2 M H locs ls hw hP hS hl
    have hw : f_X0_someWheelRests_2 o Q (p_X0_someWheelRests o Q n) v1 v2 M := hw
    delta f_X0_someWheelRests_2 at hw
    refine lv_iload_n hx hb dX0_someWheelRests_2 rfl (lv_at hl 2 rfl) ?_
    refine lv_aload_n hx hb dX0_someWheelRests_3 rfl (lv_at hl 0 rfl) ?_
    refine g_f C hP (layb0 ho) (lay0 ho K _) rfl hX0_someWheelRests_X0 6 (by decide) kX0_someWheelRests_f31 rfl dX0_someWheelRests_4 ?_
    refine lv_icmp_ge (tgt := 27) hx hb dX0_someWheelRests_7 (by decide) (fun hc => ?_) (fun hc => ?_)
    · have hw := hw.1 hc
      refine lv_iconst hx hb dX0_someWheelRests_27 ic_0 ?_
      exact r_z C (by decide) hP hS hw dX0_someWheelRests_28
    · have hw := hw.2 hc
      refine lv_aload_n hx hb dX0_someWheelRests_10 rfl (lv_at hl 0 rfl) ?_
      refine lv_iload_n hx hb dX0_someWheelRests_11 rfl (lv_at hl 2 rfl) ?_
      refine lv_iload_n hx hb dX0_someWheelRests_12 rfl (lv_at hl 1 rfl) ?_
      refine c_i (run_v (As := [.int v2, .int v1]) (rest := []) C hP hS (c_X0_rollOf ho hw) gX0_someWheelRests_X0_rollOf rfl dsX0_rollOf rfl ⟨rfl, rfl⟩ ⟨Nat.le_of_ble_eq_true rfl, Nat.le_of_ble_eq_true rfl⟩ (layb0 ho) (lay0 ho K _) rfl hl.1 rfl (Nat.le_of_ble_eq_true rfl) dX0_someWheelRests_13 ⟨Nat.le_of_ble_eq_true rfl, Nat.le_of_ble_eq_true rfl⟩) hS (fun r_2 M_1 H locs hw hP hS => ?_)
      refine lv_if_ne (tgt := 21) hx hb dX0_someWheelRests_16 (by decide) (fun hc => ?_) (fun hc => ?_)
      · have hw := hw.1 hc
        refine lv_iinc (v := (v2 + 1)) (lv' := [(2, .int (v2 + 1)), (0, .ref (kb K + o)), (1, .int v1)]) hx hb dX0_someWheelRests_21 hl (k := 2) rfl (by rw [ic_1]) (by decide) rfl (fun ls hl => ?_)
        refine lv_goto (tgt := 2) hx hb dX0_someWheelRests_24 (by decide) ?_
        exact ih _ _ _ _ _ _ hw hP hS (lv_sub hl [1, 2, 0] rfl)
      · have hw := hw.2 hc
        refine lv_iconst hx hb dX0_someWheelRests_19 ic_1 ?_
        exact r_z C (by decide) hP hS hw dX0_someWheelRests_20
theorem dsX0_someWheelRests : yX0_someWheelRests.cls = RX0 ∧ yX0_someWheelRests.cls ≠ "java/lang/invoke/MethodHandle" ∧ yX0_someWheelRests.cls ≠ "java/lang/invoke/VarHandle" ∧ (parseMethodDescriptor yX0_someWheelRests.desc).map (fun d => d.parameters.length) = some 1 := by decide +kernel
set_option maxRecDepth 100000 in
set_option maxHeartbeats 4000000 in
theorem c_X0_someWheelRests {l : Launch} {K : wC} {o : Nat} {v1 : Int32} {M : Mem} {Q : Int32 → Mem → Prop} (ho : isLay o) (hw : q_X0_someWheelRests o v1 M Q) : metI l yX0_someWheelRests wsX0_someWheelRests rmX0_someWheelRests shX 51 K [.ref (kb K + o), .int v1] M Q := by
  refine met_of (cc := cX0_someWheelRests) (maxL := 3) (ret := (some .boolean)) (own := RX0) (by decide) rfl rfl (Nat.le_of_ble_eq_true rfl) ?_
  intro p e s m below meth c ls C hl hP hS
  have hl : lv_has ls 3 [(0, .ref (kb K + o)), (1, .int v1)] := hl
  obtain ⟨hx, hb, hml, hown, hts, hr, hlk, hK⟩ := id C
  have hP0 := hP
  obtain ⟨n, hw⟩ := hw
  have ih := b_X0_someWheelRests (l := l) (e := e) (below := below) (Q := Q) ho C n
  delta e_X0_someWheelRests at hw
  refine lv_iconst hx hb dX0_someWheelRests_0 ic_0 ?_
  refine lv_istore_n (lv' := [(2, .int (0 : Int32)), (0, .ref (kb K + o)), (1, .int v1)]) hx hb dX0_someWheelRests_1 rfl hl (by decide) rfl (fun ls hl => ?_)
  exact ih _ _ _ _ _ _ hw hP hS (lv_sub hl [1, 2, 0] rfl)
theorem kX0_readsAhead_f28 : Cond.fieldLink RX0 28 (TX0 5).1 (TX0 5).2.1 (TX0 5).2.2.1 ∈ wsX0_readsAhead := List.mem_of_getElem? (i := 1) rfl
theorem hX0_readsAhead_X0 : ∀ w ∈ u_ws RX0 TX0 10, w ∈ wsX0_readsAhead := fun _ h => List.mem_cons_of_mem _ (List.mem_append_right _ (h))
abbrev rmX0_readsAhead : Room := { frames := 3, cells := 0, slots := 0, locals := 65 }
abbrev t_X0_readsAhead : Type := (Int32 → Int32 → Int32 → Int32 → Mem → Prop)
def f_X0_readsAhead_10 (o : Nat) (Q : Int32 → Mem → Prop) (r : t_X0_readsAhead) (v1 : Int32) (v2 : Int32) (v3 : Int32) (v4 : Int32) (M : Mem) : Prop := ((v2 ≤ v4 → Q v3 M) ∧ (¬ v2 ≤ v4 → q_X0_sweepAhead o v4 M (fun r_4 M_3 => q_X0_rollOf o v1 r_4 M_3 (fun r_6 M_5 => r v1 v2 (v3 + r_6) (v4 + 1) M_5))))
def p_X0_readsAhead (o : Nat) (Q : Int32 → Mem → Prop) : Nat → t_X0_readsAhead
  | 0 => fun _ _ _ _ _ => False
  | n + 1 => f_X0_readsAhead_10 o Q (p_X0_readsAhead o Q n)
def e_X0_readsAhead (o : Nat) (v1 : Int32) (v2 : Int32) (Q : Int32 → Mem → Prop) (r : t_X0_readsAhead) (M : Mem) : Prop := vp_in v1 4 ∧ (∀ x_2 : Int32, x_2 = (M (o + 5) v1.toNatClampNeg) → r v1 v2 x_2 (0 : Int32) M)
def q_X0_readsAhead (o : Nat) (v1 : Int32) (v2 : Int32) (M : Mem) (Q : Int32 → Mem → Prop) : Prop := ∃ n : Nat, e_X0_readsAhead o v1 v2 Q (p_X0_readsAhead o Q n) M
set_option maxRecDepth 100000 in
set_option maxHeartbeats 4000000 in
theorem b_X0_readsAhead {l : Launch} {K : wC} {o : Nat} {Q : Int32 → Mem → Prop} {p : Program} {e : Env} {s : State} {m : MethodId} {args : Array Value} {below : List Frame} {meth : Method} {c : Code} (ho : isLay o) (C : cx 51 K p s m args meth c cX0_readsAhead 5 wsX0_readsAhead RX0 (some .int)) : ∀ n : Nat, (∀ (v1 : Int32) (v2 : Int32) (v3 : Int32) (v4 : Int32) (M : Mem) (H : Heap) (locs : List Loc) (ls : Array Slot), (p_X0_readsAhead o Q n) v1 v2 v3 v4 M → wP shX 51 K M H → va_S (wA 51 K) s.heap H locs → lv_has ls 5 [(0, .ref (kb K + o)), (1, .int v1), (2, .int v2), (3, .int v3), (4, .int v4)] → W p l e rmX0_readsAhead s m args below meth c H locs 0 0 (MQ below (va_Qi Q (wE shX 51 K) (wA 51 K)) args s 0 0 (wA 51 K)) (F0 m 10 ls [])) := by
  obtain ⟨hx, hb, hml, hown, hts, hr, hlk, hK⟩ := id C
  intro n
  induction n with
  | zero => exact fun _ _ _ _ _ _ _ _ hw _ _ _ => False.elim hw
  | succ n ih =>
    intro v1 v2 v3 v4 M H locs ls hw hP hS hl
    have hw : f_X0_readsAhead_10 o Q (p_X0_readsAhead o Q n) v1 v2 v3 v4 M := hw
    delta f_X0_readsAhead_10 at hw
    refine lv_iload hx hb dX0_readsAhead_10 (lv_at hl 4 rfl) ?_
    refine lv_iload_n hx hb dX0_readsAhead_12 rfl (lv_at hl 2 rfl) ?_
    refine lv_icmp_ge (tgt := 36) hx hb dX0_readsAhead_13 (by decide) (fun hc => ?_) (fun hc => ?_)
    · have hw := hw.1 hc
      refine lv_iload_n hx hb dX0_readsAhead_36 rfl (lv_at hl 3 rfl) ?_
      exact r_i C hP hS hw dX0_readsAhead_37
    · have hw := hw.2 hc
      refine lv_iload_n hx hb dX0_readsAhead_16 rfl (lv_at hl 3 rfl) ?_
      refine lv_aload_n hx hb dX0_readsAhead_17 rfl (lv_at hl 0 rfl) ?_
      refine lv_iload_n hx hb dX0_readsAhead_18 rfl (lv_at hl 1 rfl) ?_
      refine lv_aload_n hx hb dX0_readsAhead_19 rfl (lv_at hl 0 rfl) ?_
      refine lv_iload hx hb dX0_readsAhead_20 (lv_at hl 4 rfl) ?_
      refine c_i (run_v (As := [.int v4]) (rest := [.int v1, .ref (kb K + o), .int v3]) C hP hS (c_X0_sweepAhead ho hw) gX0_readsAhead_X0_sweepAhead rfl dsX0_sweepAhead rfl ⟨rfl, rfl⟩ ⟨Nat.le_of_ble_eq_true rfl, Nat.le_of_ble_eq_true rfl⟩ (layb0 ho) (lay0 ho K _) rfl hl.1 rfl (Nat.le_of_ble_eq_true rfl) dX0_readsAhead_22 ⟨Nat.le_of_ble_eq_true rfl, Nat.le_of_ble_eq_true rfl⟩) hS (fun r_4 M_3 H locs hw hP hS => ?_)
      refine c_i (run_v (As := [.int v1, .int r_4]) (rest := [.int v3]) C hP hS (c_X0_rollOf ho hw) gX0_readsAhead_X0_rollOf rfl dsX0_rollOf rfl ⟨rfl, rfl⟩ ⟨Nat.le_of_ble_eq_true rfl, Nat.le_of_ble_eq_true rfl⟩ (layb0 ho) (lay0 ho K _) rfl hl.1 rfl (Nat.le_of_ble_eq_true rfl) dX0_readsAhead_25 ⟨Nat.le_of_ble_eq_true rfl, Nat.le_of_ble_eq_true rfl⟩) hS (fun r_6 M_5 H locs hw hP hS => ?_)
      refine lv_iadd hx hb dX0_readsAhead_28 ?_
      refine lv_istore_n (lv' := [(3, .int (v3 + r_6)), (0, .ref (kb K + o)), (1, .int v1), (2, .int v2), (4, .int v4)]) hx hb dX0_readsAhead_29 rfl hl (by decide) rfl (fun ls hl => ?_)
      refine lv_iinc (v := (v4 + 1)) (lv' := [(4, .int (v4 + 1)), (3, .int (v3 + r_6)), (0, .ref (kb K + o)), (1, .int v1), (2, .int v2)]) hx hb dX0_readsAhead_30 hl (k := 4) rfl (by rw [ic_1]) (by decide) rfl (fun ls hl => ?_)
      refine lv_goto (tgt := 10) hx hb dX0_readsAhead_33 (by decide) ?_
      exact ih _ _ _ _ _ _ _ _ hw hP hS (lv_sub hl [2, 3, 4, 1, 0] rfl)
theorem dsX0_readsAhead : yX0_readsAhead.cls = RX0 ∧ yX0_readsAhead.cls ≠ "java/lang/invoke/MethodHandle" ∧ yX0_readsAhead.cls ≠ "java/lang/invoke/VarHandle" ∧ (parseMethodDescriptor yX0_readsAhead.desc).map (fun d => d.parameters.length) = some 2 := by decide +kernel
set_option maxRecDepth 100000 in
set_option maxHeartbeats 4000000 in
theorem c_X0_readsAhead {l : Launch} {K : wC} {o : Nat} {v1 : Int32} {v2 : Int32} {M : Mem} {Q : Int32 → Mem → Prop} (ho : isLay o) (hw : q_X0_readsAhead o v1 v2 M Q) : metI l yX0_readsAhead wsX0_readsAhead rmX0_readsAhead shX 51 K [.ref (kb K + o), .int v1, .int v2] M Q := by
  refine met_of (cc := cX0_readsAhead) (maxL := 5) (ret := (some .int)) (own := RX0) (by decide) rfl rfl (Nat.le_of_ble_eq_true rfl) ?_
  intro p e s m below meth c ls C hl hP hS
  have hl : lv_has ls 5 [(0, .ref (kb K + o)), (1, .int v1), (2, .int v2)] := hl
  obtain ⟨hx, hb, hml, hown, hts, hr, hlk, hK⟩ := id C
  have hP0 := hP
  obtain ⟨n, hw⟩ := hw
  have ih := b_X0_readsAhead (l := l) (e := e) (below := below) (Q := Q) ho C n
  delta e_X0_readsAhead at hw
  refine lv_aload_n hx hb dX0_readsAhead_0 rfl (lv_at hl 0 rfl) ?_
  refine g_f C hP (layb0 ho) (lay0 ho K _) rfl hX0_readsAhead_X0 5 (by decide) kX0_readsAhead_f28 rfl dX0_readsAhead_1 ?_
  refine lv_iload_n hx hb dX0_readsAhead_4 rfl (lv_at hl 1 rfl) ?_
  have hi_1 := hw.1
  have hw := hw.2
  refine a_il C hP (layb ho 5 (by decide)) (lay5 ho K _) hi_1 rfl dX0_readsAhead_5 ?_
  refine lv_topi (fun x_2 ex_2 => ?_)
  have hw := hw x_2 ex_2
  refine lv_istore_n (lv' := [(3, .int x_2), (0, .ref (kb K + o)), (1, .int v1), (2, .int v2)]) hx hb dX0_readsAhead_6 rfl hl (by decide) rfl (fun ls hl => ?_)
  refine lv_iconst hx hb dX0_readsAhead_7 ic_0 ?_
  refine lv_istore (lv' := [(4, .int (0 : Int32)), (3, .int x_2), (0, .ref (kb K + o)), (1, .int v1), (2, .int v2)]) hx hb dX0_readsAhead_8 hl (by decide) rfl (fun ls hl => ?_)
  exact ih _ _ _ _ _ _ _ _ hw hP hS (lv_sub hl [2, 3, 4, 1, 0] rfl)
theorem kX0_shownBy_f28 : Cond.fieldLink RX0 28 (TX0 5).1 (TX0 5).2.1 (TX0 5).2.2.1 ∈ wsX0_shownBy := List.mem_of_getElem? (i := 1) rfl
theorem hX0_shownBy_X0 : ∀ w ∈ u_ws RX0 TX0 10, w ∈ wsX0_shownBy := fun _ h => List.mem_cons_of_mem _ (List.mem_append_right _ (h))
theorem kX0_shownBy_f25 : Cond.fieldLink RX0 25 (TX0 4).1 (TX0 4).2.1 (TX0 4).2.2.1 ∈ wsX0_shownBy := List.mem_of_getElem? (i := 2) rfl
theorem kX0_shownBy_f22 : Cond.fieldLink RX0 22 (TX0 3).1 (TX0 3).2.1 (TX0 3).2.2.1 ∈ wsX0_shownBy := List.mem_of_getElem? (i := 3) rfl
abbrev rmX0_shownBy : Room := { frames := 0, cells := 0, slots := 0, locals := 0 }
def q_X0_shownBy (o : Nat) (v1 : Int32) (M : Mem) (Q : Int32 → Mem → Prop) : Prop := vp_in v1 4 ∧ (∀ x_2 : Int32, x_2 = (M (o + 5) v1.toNatClampNeg) → vp_in v1 4 ∧ (∀ x_4 : Int32, x_4 = (M (o + 4) v1.toNatClampNeg) → vp_in v1 4 ∧ (((M (o + 3) v1.toNatClampNeg) = 1 → (((1 : Int32) ≤ x_4 → (¬ x_4 = 0) ∧ Q (x_2 / x_4) M) ∧ (¬ (1 : Int32) ≤ x_4 → Q (0 : Int32) M))) ∧ (¬ (M (o + 3) v1.toNatClampNeg) = 1 → (((M (o + 3) v1.toNatClampNeg) = 3 → Q ((2 : Int32) * x_2) M) ∧ (¬ (M (o + 3) v1.toNatClampNeg) = 3 → Q x_2 M))))))
theorem dsX0_shownBy : yX0_shownBy.cls = RX0 ∧ yX0_shownBy.cls ≠ "java/lang/invoke/MethodHandle" ∧ yX0_shownBy.cls ≠ "java/lang/invoke/VarHandle" ∧ (parseMethodDescriptor yX0_shownBy.desc).map (fun d => d.parameters.length) = some 1 := by decide +kernel
set_option maxRecDepth 100000 in
set_option maxHeartbeats 4000000 in
theorem c_X0_shownBy {l : Launch} {K : wC} {o : Nat} {v1 : Int32} {M : Mem} {Q : Int32 → Mem → Prop} (ho : isLay o) (hw : q_X0_shownBy o v1 M Q) : metI l yX0_shownBy wsX0_shownBy rmX0_shownBy shX 51 K [.ref (kb K + o), .int v1] M Q := by
  refine met_of (cc := cX0_shownBy) (maxL := 4) (ret := (some .int)) (own := RX0) (by decide) rfl rfl (Nat.le_of_ble_eq_true rfl) ?_
  intro p e s m below meth c ls C hl hP hS
  have hl : lv_has ls 4 [(0, .ref (kb K + o)), (1, .int v1)] := hl
  obtain ⟨hx, hb, hml, hown, hts, hr, hlk, hK⟩ := id C
  have hP0 := hP
  delta q_X0_shownBy at hw
  refine lv_aload_n hx hb dX0_shownBy_0 rfl (lv_at hl 0 rfl) ?_
  refine g_f C hP (layb0 ho) (lay0 ho K _) rfl hX0_shownBy_X0 5 (by decide) kX0_shownBy_f28 rfl dX0_shownBy_1 ?_
  refine lv_iload_n hx hb dX0_shownBy_4 rfl (lv_at hl 1 rfl) ?_
  have hi_1 := hw.1
  have hw := hw.2
  refine a_il C hP (layb ho 5 (by decide)) (lay5 ho K _) hi_1 rfl dX0_shownBy_5 ?_
  refine lv_topi (fun x_2 ex_2 => ?_)
  have hw := hw x_2 ex_2
  refine lv_istore_n (lv' := [(2, .int x_2), (0, .ref (kb K + o)), (1, .int v1)]) hx hb dX0_shownBy_6 rfl hl (by decide) rfl (fun ls hl => ?_)
  refine lv_aload_n hx hb dX0_shownBy_7 rfl (lv_at hl 1 rfl) ?_
  refine g_f C hP (layb0 ho) (lay0 ho K _) rfl hX0_shownBy_X0 4 (by decide) kX0_shownBy_f25 rfl dX0_shownBy_8 ?_
  refine lv_iload_n hx hb dX0_shownBy_11 rfl (lv_at hl 2 rfl) ?_
  have hi_3 := hw.1
  have hw := hw.2
  refine a_il C hP (layb ho 4 (by decide)) (lay4 ho K _) hi_3 rfl dX0_shownBy_12 ?_
  refine lv_topi (fun x_4 ex_4 => ?_)
  have hw := hw x_4 ex_4
  refine lv_istore_n (lv' := [(3, .int x_4), (2, .int x_2), (0, .ref (kb K + o)), (1, .int v1)]) hx hb dX0_shownBy_13 rfl hl (by decide) rfl (fun ls hl => ?_)
  refine lv_aload_n hx hb dX0_shownBy_14 rfl (lv_at hl 2 rfl) ?_
  refine g_f C hP (layb0 ho) (lay0 ho K _) rfl hX0_shownBy_X0 3 (by decide) kX0_shownBy_f22 rfl dX0_shownBy_15 ?_
  refine lv_iload_n hx hb dX0_shownBy_18 rfl (lv_at hl 3 rfl) ?_
  have hi_5 := hw.1
  have hw := hw.2
  refine a_il C hP (layb ho 3 (by decide)) (lay3 ho K _) hi_5 rfl dX0_shownBy_19 ?_
  by_cases hs1 : (M (o + 3) v1.toNatClampNeg) = 1
  · have hw := hw.1 hs1
    refine lv_lookup (off := 28) (tgt := 48) hx hb dX0_shownBy_20 (by decide) (by rw [hs1]; first | done | rfl) (by decide) ?_
    refine lv_iload_n hx hb dX0_shownBy_48 rfl (lv_at hl 0 rfl) ?_
    refine lv_iconst hx hb dX0_shownBy_49 ic_1 ?_
    refine lv_icmp_ge (tgt := 57) hx hb dX0_shownBy_50 (by decide) (fun hc => ?_) (fun hc => ?_)
    · have hw := hw.1 hc
      refine lv_iload_n hx hb dX0_shownBy_57 rfl (lv_at hl 1 rfl) ?_
      refine lv_iload_n hx hb dX0_shownBy_58 rfl (lv_at hl 0 rfl) ?_
      have hz_6 := hw.1
      have hw := hw.2
      refine lv_idiv hx hb dX0_shownBy_59 hz_6 ?_
      exact r_i C hP hS hw dX0_shownBy_60
    · have hw := hw.2 hc
      refine lv_iconst hx hb dX0_shownBy_53 ic_0 ?_
      refine lv_goto (tgt := 60) hx hb dX0_shownBy_54 (by decide) ?_
      exact r_i C hP hS hw dX0_shownBy_60
  · have hw := hw.2 hs1
    by_cases hs3 : (M (o + 3) v1.toNatClampNeg) = 3
    · have hw := hw.1 hs3
      refine lv_lookup (off := 41) (tgt := 61) hx hb dX0_shownBy_20 (by decide) (by rw [hs3]; first | done | rfl) (by decide) ?_
      refine lv_iconst hx hb dX0_shownBy_61 ic_2 ?_
      refine lv_iload_n hx hb dX0_shownBy_62 rfl (lv_at hl 1 rfl) ?_
      refine lv_imul hx hb dX0_shownBy_63 ?_
      exact r_i C hP hS hw dX0_shownBy_64
    · have hw := hw.2 hs3
      refine lv_lookup (off := 45) (tgt := 65) hx hb dX0_shownBy_20 (by decide) (by refine (lv_osw hs1 (by decide)).trans ?_; refine (lv_osw hs3 (by decide)).trans ?_; rfl) (by decide) ?_
      refine lv_iload_n hx hb dX0_shownBy_65 rfl (lv_at hl 1 rfl) ?_
      exact r_i C hP hS hw dX0_shownBy_66
theorem kX0_errorOf_f18 : Cond.fieldLink RX0 18 (TX0 2).1 (TX0 2).2.1 (TX0 2).2.2.1 ∈ wsX0_errorOf := List.mem_of_getElem? (i := 1) rfl
theorem hX0_errorOf_X0 : ∀ w ∈ u_ws RX0 TX0 10, w ∈ wsX0_errorOf := fun _ h => List.mem_cons_of_mem _ (List.mem_append_right _ (h))
theorem kX0_errorOf_m61 : Cond.methodLink RX0 61 Lib.Math.abs.name ∈ wsX0_errorOf := List.mem_of_getElem? (i := 2) rfl
theorem kX0_errorOf_ma1 : Cond.static Lib.Math.abs.name ∈ wsX0_errorOf := List.mem_of_getElem? (i := 3) rfl
theorem kX0_errorOf_ma2 : Cond.initialized "java/lang/Math" ∈ wsX0_errorOf := List.mem_of_getElem? (i := 4) rfl
theorem kX0_errorOf_ma3 : Cond.code Lib.Math.abs.name Lib.Math.abs.code 1 (some .int) ∈ wsX0_errorOf := List.mem_of_getElem? (i := 5) rfl
abbrev rmX0_errorOf : Room := { frames := 3, cells := 0, slots := 0, locals := 65 }
abbrev t_X0_errorOf : Type := (Int32 → Int32 → Int32 → Mem → Prop)
def f_X0_errorOf_4 (o : Nat) (Q : Int32 → Mem → Prop) (r : t_X0_errorOf) (v1 : Int32) (v2 : Int32) (v3 : Int32) (M : Mem) : Prop := (((M o 2) ≤ v3 → Q (iabs v2) M) ∧ (¬ (M o 2) ≤ v3 → q_X0_sweepOf o v3 M (fun r_2 M_1 => q_X0_rollOf o v1 r_2 M_1 (fun r_4 M_3 => r v1 (v2 + (r_4 - r_2)) (v3 + 1) M_3))))
def p_X0_errorOf (o : Nat) (Q : Int32 → Mem → Prop) : Nat → t_X0_errorOf
  | 0 => fun _ _ _ _ => False
  | n + 1 => f_X0_errorOf_4 o Q (p_X0_errorOf o Q n)
def e_X0_errorOf (o : Nat) (v1 : Int32) (Q : Int32 → Mem → Prop) (r : t_X0_errorOf) (M : Mem) : Prop := r v1 (0 : Int32) (0 : Int32) M
def q_X0_errorOf (o : Nat) (v1 : Int32) (M : Mem) (Q : Int32 → Mem → Prop) : Prop := ∃ n : Nat, e_X0_errorOf o v1 Q (p_X0_errorOf o Q n) M
set_option maxRecDepth 100000 in
set_option maxHeartbeats 4000000 in
theorem b_X0_errorOf {l : Launch} {K : wC} {o : Nat} {Q : Int32 → Mem → Prop} {p : Program} {e : Env} {s : State} {m : MethodId} {args : Array Value} {below : List Frame} {meth : Method} {c : Code} (ho : isLay o) (C : cx 51 K p s m args meth c cX0_errorOf 5 wsX0_errorOf RX0 (some .int)) : ∀ n : Nat, (∀ (v1 : Int32) (v2 : Int32) (v3 : Int32) (M : Mem) (H : Heap) (locs : List Loc) (ls : Array Slot), (p_X0_errorOf o Q n) v1 v2 v3 M → wP shX 51 K M H → va_S (wA 51 K) s.heap H locs → lv_has ls 5 [(0, .ref (kb K + o)), (1, .int v1), (2, .int v2), (3, .int v3)] → W p l e rmX0_errorOf s m args below meth c H locs 0 0 (MQ below (va_Qi Q (wE shX 51 K) (wA 51 K)) args s 0 0 (wA 51 K)) (F0 m 4 ls [])) := by
  obtain ⟨hx, hb, hml, hown, hts, hr, hlk, hK⟩ := id C
  intro n
  induction n with
  | zero => exact fun _ _ _ _ _ _ _ hw _ _ _ => False.elim hw
  | succ n ih =>
    intro v1 v2 v3 M H locs ls hw hP hS hl
    have hw : f_X0_errorOf_4 o Q (p_X0_errorOf o Q n) v1 v2 v3 M := hw
    delta f_X0_errorOf_4 at hw
    refine lv_iload_n hx hb dX0_errorOf_4 rfl (lv_at hl 3 rfl) ?_
    refine lv_aload_n hx hb dX0_errorOf_5 rfl (lv_at hl 0 rfl) ?_
    refine g_f C hP (layb0 ho) (lay0 ho K _) rfl hX0_errorOf_X0 2 (by decide) kX0_errorOf_f18 rfl dX0_errorOf_6 ?_
    refine lv_icmp_ge (tgt := 38) hx hb dX0_errorOf_9 (by decide) (fun hc => ?_) (fun hc => ?_)
    · have hw := hw.1 hc
      refine lv_iload_n hx hb dX0_errorOf_38 rfl (lv_at hl 2 rfl) ?_
      refine m_abs C hl.1 kX0_errorOf_m61 kX0_errorOf_ma1 kX0_errorOf_ma2 kX0_errorOf_ma3 (Nat.le_of_ble_eq_true rfl) (Nat.le_of_ble_eq_true rfl) (Nat.le_of_ble_eq_true rfl) (Nat.le_of_ble_eq_true rfl) dX0_errorOf_39 ?_
      exact r_i C hP hS hw dX0_errorOf_42
    · have hw := hw.2 hc
      refine lv_aload_n hx hb dX0_errorOf_12 rfl (lv_at hl 0 rfl) ?_
      refine lv_iload_n hx hb dX0_errorOf_13 rfl (lv_at hl 3 rfl) ?_
      refine c_i (run_v (As := [.int v3]) (rest := []) C hP hS (c_X0_sweepOf ho hw) gX0_errorOf_X0_sweepOf rfl dsX0_sweepOf rfl ⟨rfl, rfl⟩ ⟨Nat.le_of_ble_eq_true rfl, Nat.le_of_ble_eq_true rfl⟩ (layb0 ho) (lay0 ho K _) rfl hl.1 rfl (Nat.le_of_ble_eq_true rfl) dX0_errorOf_14 ⟨Nat.le_of_ble_eq_true rfl, Nat.le_of_ble_eq_true rfl⟩) hS (fun r_2 M_1 H locs hw hP hS => ?_)
      refine lv_istore (lv' := [(4, .int r_2), (0, .ref (kb K + o)), (1, .int v1), (2, .int v2), (3, .int v3)]) hx hb dX0_errorOf_17 hl (by decide) rfl (fun ls hl => ?_)
      refine lv_iload_n hx hb dX0_errorOf_19 rfl (lv_at hl 3 rfl) ?_
      refine lv_aload_n hx hb dX0_errorOf_20 rfl (lv_at hl 1 rfl) ?_
      refine lv_iload_n hx hb dX0_errorOf_21 rfl (lv_at hl 2 rfl) ?_
      refine lv_iload hx hb dX0_errorOf_22 (lv_at hl 0 rfl) ?_
      refine c_i (run_v (As := [.int v1, .int r_2]) (rest := [.int v2]) C hP hS (c_X0_rollOf ho hw) gX0_errorOf_X0_rollOf rfl dsX0_rollOf rfl ⟨rfl, rfl⟩ ⟨Nat.le_of_ble_eq_true rfl, Nat.le_of_ble_eq_true rfl⟩ (layb0 ho) (lay0 ho K _) rfl hl.1 rfl (Nat.le_of_ble_eq_true rfl) dX0_errorOf_24 ⟨Nat.le_of_ble_eq_true rfl, Nat.le_of_ble_eq_true rfl⟩) hS (fun r_4 M_3 H locs hw hP hS => ?_)
      refine lv_iload hx hb dX0_errorOf_27 (lv_at hl 0 rfl) ?_
      refine lv_isub hx hb dX0_errorOf_29 ?_
      refine lv_iadd hx hb dX0_errorOf_30 ?_
      refine lv_istore_n (lv' := [(2, .int (v2 + (r_4 - r_2))), (4, .int r_2), (0, .ref (kb K + o)), (1, .int v1), (3, .int v3)]) hx hb dX0_errorOf_31 rfl hl (by decide) rfl (fun ls hl => ?_)
      refine lv_iinc (v := (v3 + 1)) (lv' := [(3, .int (v3 + 1)), (2, .int (v2 + (r_4 - r_2))), (4, .int r_2), (0, .ref (kb K + o)), (1, .int v1)]) hx hb dX0_errorOf_32 hl (k := 4) rfl (by rw [ic_1]) (by decide) rfl (fun ls hl => ?_)
      refine lv_goto (tgt := 4) hx hb dX0_errorOf_35 (by decide) ?_
      exact ih _ _ _ _ _ _ _ hw hP hS (lv_sub hl [3, 4, 1, 0] rfl)
theorem dsX0_errorOf : yX0_errorOf.cls = RX0 ∧ yX0_errorOf.cls ≠ "java/lang/invoke/MethodHandle" ∧ yX0_errorOf.cls ≠ "java/lang/invoke/VarHandle" ∧ (parseMethodDescriptor yX0_errorOf.desc).map (fun d => d.parameters.length) = some 1 := by decide +kernel
set_option maxRecDepth 100000 in
set_option maxHeartbeats 4000000 in
theorem c_X0_errorOf {l : Launch} {K : wC} {o : Nat} {v1 : Int32} {M : Mem} {Q : Int32 → Mem → Prop} (ho : isLay o) (hw : q_X0_errorOf o v1 M Q) : metI l yX0_errorOf wsX0_errorOf rmX0_errorOf shX 51 K [.ref (kb K + o), .int v1] M Q := by
  refine met_of (cc := cX0_errorOf) (maxL := 5) (ret := (some .int)) (own := RX0) (by decide) rfl rfl (Nat.le_of_ble_eq_true rfl) ?_
  intro p e s m below meth c ls C hl hP hS
  have hl : lv_has ls 5 [(0, .ref (kb K + o)), (1, .int v1)] := hl
  obtain ⟨hx, hb, hml, hown, hts, hr, hlk, hK⟩ := id C
  have hP0 := hP
  obtain ⟨n, hw⟩ := hw
  have ih := b_X0_errorOf (l := l) (e := e) (below := below) (Q := Q) ho C n
  delta e_X0_errorOf at hw
  refine lv_iconst hx hb dX0_errorOf_0 ic_0 ?_
  refine lv_istore_n (lv' := [(2, .int (0 : Int32)), (0, .ref (kb K + o)), (1, .int v1)]) hx hb dX0_errorOf_1 rfl hl (by decide) rfl (fun ls hl => ?_)
  refine lv_iconst hx hb dX0_errorOf_2 ic_0 ?_
  refine lv_istore_n (lv' := [(3, .int (0 : Int32)), (2, .int (0 : Int32)), (0, .ref (kb K + o)), (1, .int v1)]) hx hb dX0_errorOf_3 rfl hl (by decide) rfl (fun ls hl => ?_)
  exact ih _ _ _ _ _ _ _ hw hP hS (lv_sub hl [2, 3, 1, 0] rfl)
theorem kX0_sumOfSteps_f31 : Cond.fieldLink RX0 31 (TX0 6).1 (TX0 6).2.1 (TX0 6).2.2.1 ∈ wsX0_sumOfSteps := List.mem_of_getElem? (i := 1) rfl
theorem hX0_sumOfSteps_X0 : ∀ w ∈ u_ws RX0 TX0 10, w ∈ wsX0_sumOfSteps := fun _ h => List.mem_cons_of_mem _ (List.mem_append_right _ (h))
theorem kX0_sumOfSteps_f25 : Cond.fieldLink RX0 25 (TX0 4).1 (TX0 4).2.1 (TX0 4).2.2.1 ∈ wsX0_sumOfSteps := List.mem_of_getElem? (i := 2) rfl
abbrev rmX0_sumOfSteps : Room := { frames := 0, cells := 0, slots := 0, locals := 0 }
abbrev t_X0_sumOfSteps : Type := (Int32 → Int32 → Mem → Prop)
def f_X0_sumOfSteps_4 (o : Nat) (Q : Int32 → Mem → Prop) (r : t_X0_sumOfSteps) (v1 : Int32) (v2 : Int32) (M : Mem) : Prop := (((M o 6) ≤ v2 → Q v1 M) ∧ (¬ (M o 6) ≤ v2 → vp_in v2 4 ∧ (∀ x_2 : Int32, x_2 = (v1 + (M (o + 4) v2.toNatClampNeg)) → r x_2 (v2 + 1) M)))
def p_X0_sumOfSteps (o : Nat) (Q : Int32 → Mem → Prop) : Nat → t_X0_sumOfSteps
  | 0 => fun _ _ _ => False
  | n + 1 => f_X0_sumOfSteps_4 o Q (p_X0_sumOfSteps o Q n)
def e_X0_sumOfSteps (o : Nat) (Q : Int32 → Mem → Prop) (r : t_X0_sumOfSteps) (M : Mem) : Prop := r (0 : Int32) (0 : Int32) M
def q_X0_sumOfSteps (o : Nat) (M : Mem) (Q : Int32 → Mem → Prop) : Prop := ∃ n : Nat, e_X0_sumOfSteps o Q (p_X0_sumOfSteps o Q n) M
set_option maxRecDepth 100000 in
set_option maxHeartbeats 4000000 in
theorem b_X0_sumOfSteps {l : Launch} {K : wC} {o : Nat} {Q : Int32 → Mem → Prop} {p : Program} {e : Env} {s : State} {m : MethodId} {args : Array Value} {below : List Frame} {meth : Method} {c : Code} (ho : isLay o) (C : cx 51 K p s m args meth c cX0_sumOfSteps 3 wsX0_sumOfSteps RX0 (some .int)) : ∀ n : Nat, (∀ (v1 : Int32) (v2 : Int32) (M : Mem) (H : Heap) (locs : List Loc) (ls : Array Slot), (p_X0_sumOfSteps o Q n) v1 v2 M → wP shX 51 K M H → va_S (wA 51 K) s.heap H locs → lv_has ls 3 [(0, .ref (kb K + o)), (1, .int v1), (2, .int v2)] → W p l e rmX0_sumOfSteps s m args below meth c H locs 0 0 (MQ below (va_Qi Q (wE shX 51 K) (wA 51 K)) args s 0 0 (wA 51 K)) (F0 m 4 ls [])) := by
  obtain ⟨hx, hb, hml, hown, hts, hr, hlk, hK⟩ := id C
  intro n
  induction n with
  | zero => exact fun _ _ _ _ _ _ hw _ _ _ => False.elim hw
  | succ n ih =>
    intro v1 v2 M H locs ls hw hP hS hl
    have hw : f_X0_sumOfSteps_4 o Q (p_X0_sumOfSteps o Q n) v1 v2 M := hw
    delta f_X0_sumOfSteps_4 at hw
    refine lv_iload_n hx hb dX0_sumOfSteps_4 rfl (lv_at hl 2 rfl) ?_
    refine lv_aload_n hx hb dX0_sumOfSteps_5 rfl (lv_at hl 0 rfl) ?_
    refine g_f C hP (layb0 ho) (lay0 ho K _) rfl hX0_sumOfSteps_X0 6 (by decide) kX0_sumOfSteps_f31 rfl dX0_sumOfSteps_6 ?_
    refine lv_icmp_ge (tgt := 27) hx hb dX0_sumOfSteps_9 (by decide) (fun hc => ?_) (fun hc => ?_)
    · have hw := hw.1 hc
      refine lv_iload_n hx hb dX0_sumOfSteps_27 rfl (lv_at hl 1 rfl) ?_
      exact r_i C hP hS hw dX0_sumOfSteps_28
    · have hw := hw.2 hc
      refine lv_iload_n hx hb dX0_sumOfSteps_12 rfl (lv_at hl 1 rfl) ?_
      refine lv_aload_n hx hb dX0_sumOfSteps_13 rfl (lv_at hl 0 rfl) ?_
      refine g_f C hP (layb0 ho) (lay0 ho K _) rfl hX0_sumOfSteps_X0 4 (by decide) kX0_sumOfSteps_f25 rfl dX0_sumOfSteps_14 ?_
      refine lv_iload_n hx hb dX0_sumOfSteps_17 rfl (lv_at hl 2 rfl) ?_
      have hi_1 := hw.1
      have hw := hw.2
      refine a_il C hP (layb ho 4 (by decide)) (lay4 ho K _) hi_1 rfl dX0_sumOfSteps_18 ?_
      refine lv_iadd hx hb dX0_sumOfSteps_19 ?_
      refine lv_topi (fun x_2 ex_2 => ?_)
      have hw := hw x_2 ex_2
      refine lv_istore_n (lv' := [(1, .int x_2), (0, .ref (kb K + o)), (2, .int v2)]) hx hb dX0_sumOfSteps_20 rfl hl (by decide) rfl (fun ls hl => ?_)
      refine lv_iinc (v := (v2 + 1)) (lv' := [(2, .int (v2 + 1)), (1, .int x_2), (0, .ref (kb K + o))]) hx hb dX0_sumOfSteps_21 hl (k := 2) rfl (by rw [ic_1]) (by decide) rfl (fun ls hl => ?_)
      refine lv_goto (tgt := 4) hx hb dX0_sumOfSteps_24 (by decide) ?_
      exact ih _ _ _ _ _ _ hw hP hS (lv_sub hl [2, 1, 0] rfl)
theorem dsX0_sumOfSteps : yX0_sumOfSteps.cls = RX0 ∧ yX0_sumOfSteps.cls ≠ "java/lang/invoke/MethodHandle" ∧ yX0_sumOfSteps.cls ≠ "java/lang/invoke/VarHandle" ∧ (parseMethodDescriptor yX0_sumOfSteps.desc).map (fun d => d.parameters.length) = some 0 := by decide +kernel
set_option maxRecDepth 100000 in
set_option maxHeartbeats 4000000 in
theorem c_X0_sumOfSteps {l : Launch} {K : wC} {o : Nat} {M : Mem} {Q : Int32 → Mem → Prop} (ho : isLay o) (hw : q_X0_sumOfSteps o M Q) : metI l yX0_sumOfSteps wsX0_sumOfSteps rmX0_sumOfSteps shX 51 K [.ref (kb K + o)] M Q := by
  refine met_of (cc := cX0_sumOfSteps) (maxL := 3) (ret := (some .int)) (own := RX0) (by decide) rfl rfl (Nat.le_of_ble_eq_true rfl) ?_
  intro p e s m below meth c ls C hl hP hS
  have hl : lv_has ls 3 [(0, .ref (kb K + o))] := hl
  obtain ⟨hx, hb, hml, hown, hts, hr, hlk, hK⟩ := id C
  have hP0 := hP
  obtain ⟨n, hw⟩ := hw
  have ih := b_X0_sumOfSteps (l := l) (e := e) (below := below) (Q := Q) ho C n
  delta e_X0_sumOfSteps at hw
  refine lv_iconst hx hb dX0_sumOfSteps_0 ic_0 ?_
  refine lv_istore_n (lv' := [(1, .int (0 : Int32)), (0, .ref (kb K + o))]) hx hb dX0_sumOfSteps_1 rfl hl (by decide) rfl (fun ls hl => ?_)
  refine lv_iconst hx hb dX0_sumOfSteps_2 ic_0 ?_
  refine lv_istore_n (lv' := [(2, .int (0 : Int32)), (1, .int (0 : Int32)), (0, .ref (kb K + o))]) hx hb dX0_sumOfSteps_3 rfl hl (by decide) rfl (fun ls hl => ?_)
  exact ih _ _ _ _ _ _ hw hP hS (lv_sub hl [2, 1, 0] rfl)
theorem kX0_sumOfPlaces_f18 : Cond.fieldLink RX0 18 (TX0 2).1 (TX0 2).2.1 (TX0 2).2.2.1 ∈ wsX0_sumOfPlaces := List.mem_of_getElem? (i := 1) rfl
theorem hX0_sumOfPlaces_X0 : ∀ w ∈ u_ws RX0 TX0 10, w ∈ wsX0_sumOfPlaces := fun _ h => List.mem_cons_of_mem _ (List.mem_append_right _ (h))
theorem kX0_sumOfPlaces_f9 : Cond.fieldLink RX0 9 (TX0 0).1 (TX0 0).2.1 (TX0 0).2.2.1 ∈ wsX0_sumOfPlaces := List.mem_of_getElem? (i := 2) rfl
theorem kX0_sumOfPlaces_f15 : Cond.fieldLink RX0 15 (TX0 1).1 (TX0 1).2.1 (TX0 1).2.2.1 ∈ wsX0_sumOfPlaces := List.mem_of_getElem? (i := 3) rfl
abbrev rmX0_sumOfPlaces : Room := { frames := 0, cells := 0, slots := 0, locals := 0 }
abbrev t_X0_sumOfPlaces : Type := (Int32 → Int32 → Mem → Prop)
def f_X0_sumOfPlaces_4 (o : Nat) (Q : Int32 → Mem → Prop) (r : t_X0_sumOfPlaces) (v1 : Int32) (v2 : Int32) (M : Mem) : Prop := (((M o 2) ≤ v2 → Q v1 M) ∧ (¬ (M o 2) ≤ v2 → vp_in v2 10 ∧ vp_in v2 10 ∧ (∀ x_3 : Int32, x_3 = (v1 + ((M (o + 1) v2.toNatClampNeg) + (M (o + 2) v2.toNatClampNeg))) → r x_3 (v2 + 1) M)))
def p_X0_sumOfPlaces (o : Nat) (Q : Int32 → Mem → Prop) : Nat → t_X0_sumOfPlaces
  | 0 => fun _ _ _ => False
  | n + 1 => f_X0_sumOfPlaces_4 o Q (p_X0_sumOfPlaces o Q n)
def e_X0_sumOfPlaces (o : Nat) (Q : Int32 → Mem → Prop) (r : t_X0_sumOfPlaces) (M : Mem) : Prop := r (0 : Int32) (0 : Int32) M
def q_X0_sumOfPlaces (o : Nat) (M : Mem) (Q : Int32 → Mem → Prop) : Prop := ∃ n : Nat, e_X0_sumOfPlaces o Q (p_X0_sumOfPlaces o Q n) M
set_option maxRecDepth 100000 in
set_option maxHeartbeats 4000000 in
theorem b_X0_sumOfPlaces {l : Launch} {K : wC} {o : Nat} {Q : Int32 → Mem → Prop} {p : Program} {e : Env} {s : State} {m : MethodId} {args : Array Value} {below : List Frame} {meth : Method} {c : Code} (ho : isLay o) (C : cx 51 K p s m args meth c cX0_sumOfPlaces 3 wsX0_sumOfPlaces RX0 (some .int)) : ∀ n : Nat, (∀ (v1 : Int32) (v2 : Int32) (M : Mem) (H : Heap) (locs : List Loc) (ls : Array Slot), (p_X0_sumOfPlaces o Q n) v1 v2 M → wP shX 51 K M H → va_S (wA 51 K) s.heap H locs → lv_has ls 3 [(0, .ref (kb K + o)), (1, .int v1), (2, .int v2)] → W p l e rmX0_sumOfPlaces s m args below meth c H locs 0 0 (MQ below (va_Qi Q (wE shX 51 K) (wA 51 K)) args s 0 0 (wA 51 K)) (F0 m 4 ls [])) := by
  obtain ⟨hx, hb, hml, hown, hts, hr, hlk, hK⟩ := id C
  intro n
  induction n with
  | zero => exact fun _ _ _ _ _ _ hw _ _ _ => False.elim hw
  | succ n ih =>
    intro v1 v2 M H locs ls hw hP hS hl
    have hw : f_X0_sumOfPlaces_4 o Q (p_X0_sumOfPlaces o Q n) v1 v2 M := hw
    delta f_X0_sumOfPlaces_4 at hw
    refine lv_iload_n hx hb dX0_sumOfPlaces_4 rfl (lv_at hl 2 rfl) ?_
    refine lv_aload_n hx hb dX0_sumOfPlaces_5 rfl (lv_at hl 0 rfl) ?_
    refine g_f C hP (layb0 ho) (lay0 ho K _) rfl hX0_sumOfPlaces_X0 2 (by decide) kX0_sumOfPlaces_f18 rfl dX0_sumOfPlaces_6 ?_
    refine lv_icmp_ge (tgt := 34) hx hb dX0_sumOfPlaces_9 (by decide) (fun hc => ?_) (fun hc => ?_)
    · have hw := hw.1 hc
      refine lv_iload_n hx hb dX0_sumOfPlaces_34 rfl (lv_at hl 1 rfl) ?_
      exact r_i C hP hS hw dX0_sumOfPlaces_35
    · have hw := hw.2 hc
      refine lv_iload_n hx hb dX0_sumOfPlaces_12 rfl (lv_at hl 1 rfl) ?_
      refine lv_aload_n hx hb dX0_sumOfPlaces_13 rfl (lv_at hl 0 rfl) ?_
      refine g_f C hP (layb0 ho) (lay0 ho K _) rfl hX0_sumOfPlaces_X0 0 (by decide) kX0_sumOfPlaces_f9 rfl dX0_sumOfPlaces_14 ?_
      refine lv_iload_n hx hb dX0_sumOfPlaces_17 rfl (lv_at hl 2 rfl) ?_
      have hi_1 := hw.1
      have hw := hw.2
      refine a_il C hP (layb ho 1 (by decide)) (lay1 ho K _) hi_1 rfl dX0_sumOfPlaces_18 ?_
      refine lv_aload_n hx hb dX0_sumOfPlaces_19 rfl (lv_at hl 0 rfl) ?_
      refine g_f C hP (layb0 ho) (lay0 ho K _) rfl hX0_sumOfPlaces_X0 1 (by decide) kX0_sumOfPlaces_f15 rfl dX0_sumOfPlaces_20 ?_
      refine lv_iload_n hx hb dX0_sumOfPlaces_23 rfl (lv_at hl 2 rfl) ?_
      have hi_2 := hw.1
      have hw := hw.2
      refine a_il C hP (layb ho 2 (by decide)) (lay2 ho K _) hi_2 rfl dX0_sumOfPlaces_24 ?_
      refine lv_iadd hx hb dX0_sumOfPlaces_25 ?_
      refine lv_iadd hx hb dX0_sumOfPlaces_26 ?_
      refine lv_topi (fun x_3 ex_3 => ?_)
      have hw := hw x_3 ex_3
      refine lv_istore_n (lv' := [(1, .int x_3), (0, .ref (kb K + o)), (2, .int v2)]) hx hb dX0_sumOfPlaces_27 rfl hl (by decide) rfl (fun ls hl => ?_)
      refine lv_iinc (v := (v2 + 1)) (lv' := [(2, .int (v2 + 1)), (1, .int x_3), (0, .ref (kb K + o))]) hx hb dX0_sumOfPlaces_28 hl (k := 2) rfl (by rw [ic_1]) (by decide) rfl (fun ls hl => ?_)
      refine lv_goto (tgt := 4) hx hb dX0_sumOfPlaces_31 (by decide) ?_
      exact ih _ _ _ _ _ _ hw hP hS (lv_sub hl [2, 1, 0] rfl)
theorem dsX0_sumOfPlaces : yX0_sumOfPlaces.cls = RX0 ∧ yX0_sumOfPlaces.cls ≠ "java/lang/invoke/MethodHandle" ∧ yX0_sumOfPlaces.cls ≠ "java/lang/invoke/VarHandle" ∧ (parseMethodDescriptor yX0_sumOfPlaces.desc).map (fun d => d.parameters.length) = some 0 := by decide +kernel
set_option maxRecDepth 100000 in
set_option maxHeartbeats 4000000 in
theorem c_X0_sumOfPlaces {l : Launch} {K : wC} {o : Nat} {M : Mem} {Q : Int32 → Mem → Prop} (ho : isLay o) (hw : q_X0_sumOfPlaces o M Q) : metI l yX0_sumOfPlaces wsX0_sumOfPlaces rmX0_sumOfPlaces shX 51 K [.ref (kb K + o)] M Q := by
  refine met_of (cc := cX0_sumOfPlaces) (maxL := 3) (ret := (some .int)) (own := RX0) (by decide) rfl rfl (Nat.le_of_ble_eq_true rfl) ?_
  intro p e s m below meth c ls C hl hP hS
  have hl : lv_has ls 3 [(0, .ref (kb K + o))] := hl
  obtain ⟨hx, hb, hml, hown, hts, hr, hlk, hK⟩ := id C
  have hP0 := hP
  obtain ⟨n, hw⟩ := hw
  have ih := b_X0_sumOfPlaces (l := l) (e := e) (below := below) (Q := Q) ho C n
  delta e_X0_sumOfPlaces at hw
  refine lv_iconst hx hb dX0_sumOfPlaces_0 ic_0 ?_
  refine lv_istore_n (lv' := [(1, .int (0 : Int32)), (0, .ref (kb K + o))]) hx hb dX0_sumOfPlaces_1 rfl hl (by decide) rfl (fun ls hl => ?_)
  refine lv_iconst hx hb dX0_sumOfPlaces_2 ic_0 ?_
  refine lv_istore_n (lv' := [(2, .int (0 : Int32)), (1, .int (0 : Int32)), (0, .ref (kb K + o))]) hx hb dX0_sumOfPlaces_3 rfl hl (by decide) rfl (fun ls hl => ?_)
  exact ih _ _ _ _ _ _ hw hP hS (lv_sub hl [2, 1, 0] rfl)
end
