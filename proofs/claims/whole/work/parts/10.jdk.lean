/-! the JDK's own methods on the six String constants -/
theorem sv_ok : ∀ w, w < 6 → ∀ j, j < sLen.getD w 0 → (((sByt.getD w []).getD j 0 &&& 255).toUInt32 % 65536).toInt32 = (sByt.getD w []).getD j 0 ∧ narrow .char (.int ((sByt.getD w []).getD j 0)) = .int ((sByt.getD w []).getD j 0) := by decide +kernel
theorem sl_ok : ∀ w, w < 6 → nI (sLen.getD w 0) >>> ((0 : Int32) &&& 31) = nI (sLen.getD w 0) ∧ sLen.getD w 0 < 7 := by decide +kernel
section WSV
variable {p : Program} {l : Launch} {e : Env} {R : Room} {s : State} {m : MethodId} {args : Array Value} {below : List Frame} {meth : Method} {c : Code} {H : Heap} {locs : List Loc} {cells slots : Nat} {Q : State → Prop}
variable {K : wC} {M : Mem} {cc : ByteArray} {nL : Nat} {ws : List Cond} {own : String} {ret : Option FieldType} {pc : Nat} {ls : Array Slot} {rest : List Value} {H0 : Heap}
variable {y : MethodName} {ws2 ws2' : List Cond} {rm : Room} {bytes : ByteArray} {maxL na index : Nat} {ret2 : Option FieldType} {st0 As : List Value} {Qc : Array Value → State → Outcome → State → Prop}
theorem run_vs {w : Nat} (C : cx 51 K p s m args meth c cc nL ws own ret) (hP : wP shX 51 K M H) (hS : va_S (wA 51 K) s.heap H locs) (hM : Met l y ws2 rm (va_Pc (.ref (kS K w) :: As) (wB shX 51 K M)) Qc 0 0 (wA 51 K)) (hG : GoodIn ws (wsV own index RJ0 y ws2)) (hw : ws2 = Cond.code y bytes maxL ret2 :: ws2')
    (hd : y.cls = RJ0 ∧ y.cls ≠ "java/lang/invoke/MethodHandle" ∧ y.cls ≠ "java/lang/invoke/VarHandle" ∧ (parseMethodDescriptor y.desc).map (fun d => d.parameters.length) = some na) (hn : As.length = na) (hr : rm.cells = 0 ∧ rm.slots = 0) (hR : rm.frames + 1 ≤ R.frames ∧ 8 + (maxL + 11) + rm.locals ≤ R.locals) (hw6 : w < 6) (hls : ls.size = nL) (hst : st0 = As.reverse ++ .ref (kS K w) :: rest) (hrm : (rest.map fun v => v.category).sum ≤ 8) (hdg : decode cc pc = .ok (.invokevirtual index, 3)) (hcs : cells ≤ R.cells ∧ slots ≤ R.slots) :
    va_Run p l e R s m args below meth c H locs cells slots 0 0 (F0 m pc ls st0) rest (Qc (.ref (kS K w) :: As).toArray) (wA 51 K) :=
  va_runV ⟨C.1, C.2.1, C.2.2.1, C.2.2.2.1, C.2.2.2.2.1⟩ hM (cwV na C.2.2.2.2.1 hG hw hr.1 hr.2 hd hR) ⟨fb_w, vk_recv C.2.2.2.2.2.2.2.2.2.1 hw6 hS, pc_w C hP hS⟩ rfl hn hls hst (lv_room hrm) hdg hcs
end WSV
abbrev rmJ0_coder_7d493 : Room := { frames := 0, cells := 0, slots := 0, locals := 0 }
abbrev rmJ0_isLatin1_aae02 : Room := { frames := 0, cells := 0, slots := 0, locals := 0 }
abbrev rmJ3_checkIndex_8e157 : Room := { frames := 0, cells := 0, slots := 0, locals := 0 }
abbrev rmJ0_checkIndex_df160 : Room := { frames := 1, cells := 0, slots := 0, locals := 22 }
abbrev rmJ1_charAt_3b067 : Room := { frames := 2, cells := 0, slots := 0, locals := 43 }
abbrev rmJ0_charAt_5068e : Room := { frames := 3, cells := 0, slots := 0, locals := 64 }
abbrev rmJ0_length_8abf5 : Room := { frames := 1, cells := 0, slots := 0, locals := 20 }
set_option maxRecDepth 100000 in
set_option maxHeartbeats 4000000 in
theorem c_J0_coder {l : Launch} {K : wC} {w : Nat} {M : Mem} {Q : Int32 → Mem → Prop} (hw1 : w < 6) (hw : Q 0 M) : metI l yJ0_coder_7d493 wsJ0_coder_7d493 rmJ0_coder_7d493 shX 51 K [.ref (kS K w)] M Q := by
  refine met_of (cc := cJ0_coder_7d493) (maxL := 1) (ret := (some .byte)) (own := RJ0) (by decide) rfl rfl (Nat.le_of_ble_eq_true rfl) ?_
  intro p e s m below meth c ls C hl hP hS
  have hl : lv_has ls 1 [(0, .ref (kS K w))] := hl
  obtain ⟨hx, hb, hml, hown, hts, hr, hlk, hK⟩ := id C
  refine va_gets hx hb hK.2.2.2.2.1 hS hown (hts (.fieldLink RJ0 38 "java/lang/String" "COMPACT_STRINGS" "Z") (List.mem_of_getElem? (i := 1) rfl)) (fun _ h => h) dJ0_coder_7d493_0 ?_
  refine lv_if_eq (tgt := 13) hx hb dJ0_coder_7d493_3 (by decide) (fun hc => absurd hc (by decide)) (fun hc => ?_)
  refine lv_aload_n hx hb dJ0_coder_7d493_6 rfl (lv_at hl 0 rfl) ?_
  refine vk_getf hx hb (hK.2.2.1.1 w hw1).2.1 hS hown (hts (.fieldLink RJ0 15 "java/lang/String" "coder" "B") (List.mem_of_getElem? (i := 2) rfl)) (fun _ h => h) dJ0_coder_7d493_7 ?_
  refine lv_goto (tgt := 14) hx hb dJ0_coder_7d493_10 (by decide) ?_
  exact r_z C (by decide) hP hS hw dJ0_coder_7d493_14
set_option maxRecDepth 100000 in
set_option maxHeartbeats 4000000 in
theorem c_J0_isLatin1 {l : Launch} {K : wC} {w : Nat} {M : Mem} {Q : Int32 → Mem → Prop} (hw1 : w < 6) (hw : Q 1 M) : metI l yJ0_isLatin1_aae02 wsJ0_isLatin1_aae02 rmJ0_isLatin1_aae02 shX 51 K [.ref (kS K w)] M Q := by
  refine met_of (cc := cJ0_isLatin1_aae02) (maxL := 1) (ret := (some .boolean)) (own := RJ0) (by decide) rfl rfl (Nat.le_of_ble_eq_true rfl) ?_
  intro p e s m below meth c ls C hl hP hS
  have hl : lv_has ls 1 [(0, .ref (kS K w))] := hl
  obtain ⟨hx, hb, hml, hown, hts, hr, hlk, hK⟩ := id C
  refine va_gets hx hb hK.2.2.2.2.1 hS hown (hts (.fieldLink RJ0 38 "java/lang/String" "COMPACT_STRINGS" "Z") (List.mem_of_getElem? (i := 1) rfl)) (fun _ h => h) dJ0_isLatin1_aae02_0 ?_
  refine lv_if_eq (tgt := 17) hx hb dJ0_isLatin1_aae02_3 (by decide) (fun hc => absurd hc (by decide)) (fun hc => ?_)
  refine lv_aload_n hx hb dJ0_isLatin1_aae02_6 rfl (lv_at hl 0 rfl) ?_
  refine vk_getf hx hb (hK.2.2.1.1 w hw1).2.1 hS hown (hts (.fieldLink RJ0 15 "java/lang/String" "coder" "B") (List.mem_of_getElem? (i := 2) rfl)) (fun _ h => h) dJ0_isLatin1_aae02_7 ?_
  refine lv_if_ne (tgt := 17) hx hb dJ0_isLatin1_aae02_10 (by decide) (fun hc => absurd rfl hc) (fun hc => ?_)
  refine lv_iconst (v := 1) hx hb dJ0_isLatin1_aae02_13 (by decide) ?_
  refine lv_goto (tgt := 18) hx hb dJ0_isLatin1_aae02_14 (by decide) ?_
  exact r_z C (by decide) hP hS hw dJ0_isLatin1_aae02_18
theorem dsJ0_coder : yJ0_coder_7d493.cls = RJ0 ∧ yJ0_coder_7d493.cls ≠ "java/lang/invoke/MethodHandle" ∧ yJ0_coder_7d493.cls ≠ "java/lang/invoke/VarHandle" ∧ (parseMethodDescriptor yJ0_coder_7d493.desc).map (fun d => d.parameters.length) = some 0 := by decide +kernel
theorem dsJ0_isLatin1 : yJ0_isLatin1_aae02.cls = RJ0 ∧ yJ0_isLatin1_aae02.cls ≠ "java/lang/invoke/MethodHandle" ∧ yJ0_isLatin1_aae02.cls ≠ "java/lang/invoke/VarHandle" ∧ (parseMethodDescriptor yJ0_isLatin1_aae02.desc).map (fun d => d.parameters.length) = some 0 := by decide +kernel
theorem dsJ0_length_8abf5 : yJ0_length_8abf5.cls = RJ0 ∧ yJ0_length_8abf5.cls ≠ "java/lang/invoke/MethodHandle" ∧ yJ0_length_8abf5.cls ≠ "java/lang/invoke/VarHandle" ∧ (parseMethodDescriptor yJ0_length_8abf5.desc).map (fun d => d.parameters.length) = some 0 := by decide +kernel
theorem dsJ0_charAt_5068e : yJ0_charAt_5068e.cls = RJ0 ∧ yJ0_charAt_5068e.cls ≠ "java/lang/invoke/MethodHandle" ∧ yJ0_charAt_5068e.cls ≠ "java/lang/invoke/VarHandle" ∧ (parseMethodDescriptor yJ0_charAt_5068e.desc).map (fun d => d.parameters.length) = some 1 := by decide +kernel
theorem dsJ3_checkIndex : yJ3_checkIndex_8e157.cls ≠ "java/lang/invoke/MethodHandle" ∧ yJ3_checkIndex_8e157.cls ≠ "java/lang/invoke/VarHandle" ∧ (parseMethodDescriptor yJ3_checkIndex_8e157.desc).map (fun d => d.parameters.length) = some 3 := by decide +kernel
theorem dsJ0_checkIndex : yJ0_checkIndex_df160.cls ≠ "java/lang/invoke/MethodHandle" ∧ yJ0_checkIndex_df160.cls ≠ "java/lang/invoke/VarHandle" ∧ (parseMethodDescriptor yJ0_checkIndex_df160.desc).map (fun d => d.parameters.length) = some 2 := by decide +kernel
theorem dsJ1_charAt : yJ1_charAt_3b067.cls ≠ "java/lang/invoke/MethodHandle" ∧ yJ1_charAt_3b067.cls ≠ "java/lang/invoke/VarHandle" ∧ (parseMethodDescriptor yJ1_charAt_3b067.desc).map (fun d => d.parameters.length) = some 2 := by decide +kernel
def q_J0_length_8abf5 (w : Nat) (M : Mem) (Q : Int32 → Mem → Prop) : Prop := Q (nI (sLen.getD w 0)) M
def q_J0_charAt_5068e (w : Nat) (i : Int32) (M : Mem) (Q : Int32 → Mem → Prop) : Prop := vp_in i (sLen.getD w 0) ∧ Q ((sByt.getD w []).getD i.toNatClampNeg 0) M
set_option maxRecDepth 100000 in
set_option maxHeartbeats 4000000 in
theorem c_J0_length_8abf5 {l : Launch} {K : wC} {w : Nat} {M : Mem} {Q : Int32 → Mem → Prop} (hw1 : w < 6) (hw : q_J0_length_8abf5 w M Q) : metI l yJ0_length_8abf5 wsJ0_length_8abf5 rmJ0_length_8abf5 shX 51 K [.ref (kS K w)] M Q := by
  refine met_of (cc := cJ0_length_8abf5) (maxL := 1) (ret := (some .int)) (own := RJ0) (by decide) rfl rfl (Nat.le_of_ble_eq_true rfl) ?_
  intro p e s m below meth c ls C hl hP hS
  have hl : lv_has ls 1 [(0, .ref (kS K w))] := hl
  obtain ⟨hx, hb, hml, hown, hts, hr, hlk, hK⟩ := id C
  delta q_J0_length_8abf5 at hw
  refine lv_aload_n hx hb dJ0_length_8abf5_0 rfl (lv_at hl 0 rfl) ?_
  refine vk_getf hx hb (hK.2.2.1.1 w hw1).2.2.1 hS hown (hts (.fieldLink RJ0 9 "java/lang/String" "value" "[B") (List.mem_of_getElem? (i := 1) rfl)) (fun _ h => h) dJ0_length_8abf5_1 ?_
  refine va_tlen (v := nI (sLen.getD w 0)) hx hb (hK.2.2.1.1 w hw1).2.2.2 hS rfl dJ0_length_8abf5_4 ?_
  refine lv_aload_n hx hb dJ0_length_8abf5_5 rfl (lv_at hl 0 rfl) ?_
  refine c_i (run_vs (As := []) (rest := [.int (nI (sLen.getD w 0))]) C hP hS (c_J0_coder (Q := fun r M1 => r = 0 ∧ M1 = M) hw1 ⟨rfl, rfl⟩) gJ0_length_8abf5_J0_coder_7d493 rfl dsJ0_coder rfl ⟨rfl, rfl⟩ ⟨Nat.le_of_ble_eq_true rfl, Nat.le_of_ble_eq_true rfl⟩ hw1 hl.1 rfl (Nat.le_of_ble_eq_true rfl) dJ0_length_8abf5_6 ⟨Nat.le_of_ble_eq_true rfl, Nat.le_of_ble_eq_true rfl⟩) hS (fun r M1 H locs hq hP2 hS2 => ?_)
  obtain ⟨rfl, rfl⟩ := hq
  refine lv_ishr hx hb dJ0_length_8abf5_9 ?_
  rw [(sl_ok w hw1).1]
  exact r_i C hP2 hS2 hw dJ0_length_8abf5_10
set_option maxRecDepth 100000 in
set_option maxHeartbeats 4000000 in
theorem c_J3_checkIndex {l : Launch} {K : wC} {v0 v1 : Int32} {f : Value} {M : Mem} {Q : Int32 → Mem → Prop} (hf : f = .null ∨ ∃ t, f = .ref t) (h0 : ¬ v0 < 0) (h1 : v0 < v1) (hw : Q v0 M) : metI l yJ3_checkIndex_8e157 wsJ3_checkIndex_8e157 rmJ3_checkIndex_8e157 shX 51 K [.int v0, .int v1, f] M Q := by
  have hcat : f.category = 1 := by rcases hf with rfl | ⟨t, rfl⟩ <;> rfl
  refine met_of (cc := cJ3_checkIndex_8e157) (maxL := 3) (ret := (some .int)) (own := RJ3) (by decide) rfl rfl (by rcases hf with rfl | ⟨t, rfl⟩ <;> exact Nat.le_of_ble_eq_true rfl) ?_
  intro p e s m below meth c ls C hl hP hS
  have hl : lv_has ls 3 [(0, .int v0), (1, .int v1), (2, f)] := by rcases hf with rfl | ⟨t, rfl⟩ <;> exact hl
  obtain ⟨hx, hb, hml, hown, hts, hr, hlk, hK⟩ := id C
  refine lv_iload_n hx hb dJ3_checkIndex_8e157_0 rfl (lv_at hl 0 rfl) ?_
  refine lv_if_lt (tgt := 9) hx hb dJ3_checkIndex_8e157_1 (by decide) (fun hc => absurd hc h0) (fun hc => ?_)
  refine lv_iload_n hx hb dJ3_checkIndex_8e157_4 rfl (lv_at hl 0 rfl) ?_
  refine lv_iload_n hx hb dJ3_checkIndex_8e157_5 rfl (lv_at hl 1 rfl) ?_
  refine lv_icmp_lt (tgt := 16) hx hb dJ3_checkIndex_8e157_6 (by decide) (fun hc => ?_) (fun hc => absurd h1 hc)
  refine lv_iload_n hx hb dJ3_checkIndex_8e157_16 rfl (lv_at hl 0 rfl) ?_
  exact r_i C hP hS hw dJ3_checkIndex_8e157_17
set_option maxRecDepth 100000 in
set_option maxHeartbeats 4000000 in
theorem c_J0_checkIndex {l : Launch} {K : wC} {v0 v1 : Int32} {M : Mem} {Q : Mem → Prop} (h0 : ¬ v0 < 0) (h1 : v0 < v1) (hw : Q M) : metV l yJ0_checkIndex_df160 wsJ0_checkIndex_df160 rmJ0_checkIndex_df160 shX 51 K [.int v0, .int v1] M Q := by
  refine met_of (cc := cJ0_checkIndex_df160) (maxL := 2) (ret := none) (own := RJ0) (by decide) rfl rfl (Nat.le_of_ble_eq_true rfl) ?_
  intro p e s m below meth c ls C hl hP hS
  have hl : lv_has ls 2 [(0, .int v0), (1, .int v1)] := hl
  obtain ⟨hx, hb, hml, hown, hts, hr, hlk, hK⟩ := id C
  refine lv_iload_n hx hb dJ0_checkIndex_df160_0 rfl (lv_at hl 0 rfl) ?_
  refine lv_iload_n hx hb dJ0_checkIndex_df160_1 rfl (lv_at hl 1 rfl) ?_
  have hz := hK.2.2.2.2.2
  obtain ⟨f, hf, hz⟩ : ∃ f : Value, (f = .null ∨ ∃ t, f = .ref t) ∧ va_Z "jdk/internal/util/Preconditions" "SIOOBE_FORMATTER" "Ljava/util/function/BiFunction;" f (wA 51 K) s s.heap := by
    rcases hz with hz | ⟨t, hz⟩
    · exact ⟨_, Or.inl rfl, hz⟩
    · exact ⟨_, Or.inr ⟨t, rfl⟩, hz⟩
  refine va_gets hx hb hz hS hown (hts (.fieldLink RJ0 1053 "jdk/internal/util/Preconditions" "SIOOBE_FORMATTER" "Ljava/util/function/BiFunction;") (List.mem_of_getElem? (i := 1) rfl)) (fun _ h => h) dJ0_checkIndex_df160_2 ?_
  refine c_i (run_s (As := [.int v0, .int v1, f]) (rest := []) C hP hS (c_J3_checkIndex (Q := fun r M1 => M1 = M) hf h0 h1 rfl) gJ0_checkIndex_df160_J3_checkIndex_8e157 rfl dsJ3_checkIndex rfl ⟨rfl, rfl⟩ ⟨Nat.le_of_ble_eq_true rfl, Nat.le_of_ble_eq_true rfl⟩ hl.1 rfl (Nat.le_of_ble_eq_true rfl) dJ0_checkIndex_df160_5 ⟨Nat.le_of_ble_eq_true rfl, Nat.le_of_ble_eq_true rfl⟩) hS (fun r M1 H locs hq hP2 hS2 => ?_)
  subst hq
  refine lv_pop hx hb dJ0_checkIndex_df160_8 rfl ?_
  exact r_v C hP2 hS2 hw dJ0_checkIndex_df160_9
set_option maxRecDepth 100000 in
set_option maxHeartbeats 4000000 in
theorem c_J1_charAt {l : Launch} {K : wC} {w : Nat} {v1 : Int32} {M : Mem} {Q : Int32 → Mem → Prop} (hw1 : w < 6) (hi : vp_in v1 (sLen.getD w 0)) (hw : Q ((sByt.getD w []).getD v1.toNatClampNeg 0) M) : metI l yJ1_charAt_3b067 wsJ1_charAt_3b067 rmJ1_charAt_3b067 shX 51 K [.ref (kV K w), .int v1] M Q := by
  refine met_of (cc := cJ1_charAt_3b067) (maxL := 2) (ret := (some .char)) (own := RJ1) (by decide) rfl rfl (Nat.le_of_ble_eq_true rfl) ?_
  intro p e s m below meth c ls C hl hP hS
  have hl : lv_has ls 2 [(0, .ref (kV K w)), (1, .int v1)] := hl
  obtain ⟨hx, hb, hml, hown, hts, hr, hlk, hK⟩ := id C
  have hlen : sLen.getD w 0 < 7 := (sl_ok w hw1).2
  obtain ⟨j, hj, rfl⟩ := vp_in_of hi (by omega)
  refine lv_iload_n hx hb dJ1_charAt_3b067_0 rfl (lv_at hl 1 rfl) ?_
  refine lv_aload_n hx hb dJ1_charAt_3b067_1 rfl (lv_at hl 0 rfl) ?_
  refine va_tlen (v := nI (sLen.getD w 0)) hx hb (hK.2.2.1.1 w hw1).2.2.2 hS rfl dJ1_charAt_3b067_2 ?_
  refine c_v (run_s (As := [.int (nI j), .int (nI (sLen.getD w 0))]) (rest := []) C hP hS (c_J0_checkIndex (Q := fun M1 => M1 = M) (nI_pos (by omega)) (nI_lt hj (by omega)) rfl) gJ1_charAt_3b067_J0_checkIndex_df160 rfl dsJ0_checkIndex rfl ⟨rfl, rfl⟩ ⟨Nat.le_of_ble_eq_true rfl, Nat.le_of_ble_eq_true rfl⟩ hl.1 rfl (Nat.le_of_ble_eq_true rfl) dJ1_charAt_3b067_3 ⟨Nat.le_of_ble_eq_true rfl, Nat.le_of_ble_eq_true rfl⟩) hS (fun M1 H locs hq hP2 hS2 => ?_)
  subst hq
  refine lv_aload_n hx hb dJ1_charAt_3b067_6 rfl (lv_at hl 0 rfl) ?_
  refine lv_iload_n hx hb dJ1_charAt_3b067_7 rfl (lv_at hl 1 rfl) ?_
  refine va_tb hx hb (hK.2.2.1.1 w hw1).2.2.2 hS2 hi rfl dJ1_charAt_3b067_8 ?_
  refine lv_sipush (v := 255) hx hb dJ1_charAt_3b067_9 (by decide) ?_
  refine lv_iand hx hb dJ1_charAt_3b067_12 ?_
  have hj2 : (nI j).toNatClampNeg = j := nI_clamp (by omega)
  rw [hj2] at hw ⊢
  refine lv_i2c hx hb dJ1_charAt_3b067_13 (sv_ok w hw1 j hj).1 ?_
  exact r_z C (sv_ok w hw1 j hj).2 hP2 hS2 hw dJ1_charAt_3b067_14
set_option maxRecDepth 100000 in
set_option maxHeartbeats 4000000 in
theorem c_J0_charAt_5068e {l : Launch} {K : wC} {w : Nat} {v1 : Int32} {M : Mem} {Q : Int32 → Mem → Prop} (hw1 : w < 6) (hw : q_J0_charAt_5068e w v1 M Q) : metI l yJ0_charAt_5068e wsJ0_charAt_5068e rmJ0_charAt_5068e shX 51 K [.ref (kS K w), .int v1] M Q := by
  refine met_of (cc := cJ0_charAt_5068e) (maxL := 2) (ret := (some .char)) (own := RJ0) (by decide) rfl rfl (Nat.le_of_ble_eq_true rfl) ?_
  intro p e s m below meth c ls C hl hP hS
  have hl : lv_has ls 2 [(0, .ref (kS K w)), (1, .int v1)] := hl
  obtain ⟨hx, hb, hml, hown, hts, hr, hlk, hK⟩ := id C
  obtain ⟨hi, hw⟩ := hw
  have hlen : sLen.getD w 0 < 7 := (sl_ok w hw1).2
  obtain ⟨j, hj, rfl⟩ := vp_in_of hi (by omega)
  have hj2 : (nI j).toNatClampNeg = j := nI_clamp (by omega)
  refine lv_aload_n hx hb dJ0_charAt_5068e_0 rfl (lv_at hl 0 rfl) ?_
  refine c_i (run_vs (As := []) (rest := []) C hP hS (c_J0_isLatin1 (Q := fun r M1 => r = 1 ∧ M1 = M) hw1 ⟨rfl, rfl⟩) gJ0_charAt_5068e_J0_isLatin1_aae02 rfl dsJ0_isLatin1 rfl ⟨rfl, rfl⟩ ⟨Nat.le_of_ble_eq_true rfl, Nat.le_of_ble_eq_true rfl⟩ hw1 hl.1 rfl (Nat.le_of_ble_eq_true rfl) dJ0_charAt_5068e_1 ⟨Nat.le_of_ble_eq_true rfl, Nat.le_of_ble_eq_true rfl⟩) hS (fun r M1 H locs hq hP2 hS2 => ?_)
  obtain ⟨rfl, rfl⟩ := hq
  refine lv_if_eq (tgt := 16) hx hb dJ0_charAt_5068e_4 (by decide) (fun hc => absurd hc (by decide)) (fun hc => ?_)
  refine lv_aload_n hx hb dJ0_charAt_5068e_7 rfl (lv_at hl 0 rfl) ?_
  refine vk_getf hx hb (hK.2.2.1.1 w hw1).2.2.1 hS2 hown (hts (.fieldLink RJ0 9 "java/lang/String" "value" "[B") (List.mem_of_getElem? (i := 1) rfl)) (fun _ h => h) dJ0_charAt_5068e_8 ?_
  refine lv_iload_n hx hb dJ0_charAt_5068e_11 rfl (lv_at hl 1 rfl) ?_
  refine c_i (run_s (As := [.ref (kV K w), .int (nI j)]) (rest := []) C hP2 hS2 (c_J1_charAt (Q := fun r M2 => r = (sByt.getD w []).getD (nI j).toNatClampNeg 0 ∧ M2 = M1) hw1 hi ⟨rfl, rfl⟩) gJ0_charAt_5068e_J1_charAt_3b067 rfl dsJ1_charAt rfl ⟨rfl, rfl⟩ ⟨Nat.le_of_ble_eq_true rfl, Nat.le_of_ble_eq_true rfl⟩ hl.1 rfl (Nat.le_of_ble_eq_true rfl) dJ0_charAt_5068e_12 ⟨Nat.le_of_ble_eq_true rfl, Nat.le_of_ble_eq_true rfl⟩) hS2 (fun r M2 H locs hq hP3 hS3 => ?_)
  obtain ⟨rfl, rfl⟩ := hq
  refine r_z C ?_ hP3 hS3 hw dJ0_charAt_5068e_15
  rw [hj2]
  exact (sv_ok w hw1 j hj).2
