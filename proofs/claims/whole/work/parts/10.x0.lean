theorem kX0_clear_f18 : Cond.fieldLink RX0 18 (TX0 2).1 (TX0 2).2.1 (TX0 2).2.2.1 ∈ wsX0_clear := List.mem_of_getElem? (i := 1) rfl
theorem hX0_clear_X0 : ∀ w ∈ u_ws RX0 TX0 10, w ∈ wsX0_clear := fun _ h => List.mem_cons_of_mem _ (List.mem_append_right _ (h))
theorem kX0_clear_f31 : Cond.fieldLink RX0 31 (TX0 6).1 (TX0 6).2.1 (TX0 6).2.2.1 ∈ wsX0_clear := List.mem_of_getElem? (i := 2) rfl
theorem kX0_clear_f34 : Cond.fieldLink RX0 34 (TX0 7).1 (TX0 7).2.1 (TX0 7).2.2.1 ∈ wsX0_clear := List.mem_of_getElem? (i := 3) rfl
theorem kX0_clear_f37 : Cond.fieldLink RX0 37 (TX0 8).1 (TX0 8).2.1 (TX0 8).2.2.1 ∈ wsX0_clear := List.mem_of_getElem? (i := 4) rfl
theorem kX0_clear_f40 : Cond.fieldLink RX0 40 (TX0 9).1 (TX0 9).2.1 (TX0 9).2.2.1 ∈ wsX0_clear := List.mem_of_getElem? (i := 5) rfl
abbrev rmX0_clear : Room := { frames := 0, cells := 0, slots := 0, locals := 0 }
def q_X0_clear (o : Nat) (M : Mem) (Q : Mem → Prop) : Prop := ∀ M_1 : Mem, M_1 = mU (mU (mU (mU M o 2 (0 : Int32)) o 6 (0 : Int32)) o 7 (0 : Int32)) o 8 (0 : Int32) → Q (mU M_1 o 9 (0 : Int32))
theorem dsX0_clear : yX0_clear.cls = RX0 ∧ yX0_clear.cls ≠ "java/lang/invoke/MethodHandle" ∧ yX0_clear.cls ≠ "java/lang/invoke/VarHandle" ∧ (parseMethodDescriptor yX0_clear.desc).map (fun d => d.parameters.length) = some 0 := by decide +kernel
set_option maxRecDepth 100000 in
set_option maxHeartbeats 4000000 in
theorem c_X0_clear {l : Launch} {K : wC} {o : Nat} {M : Mem} {Q : Mem → Prop} (ho : isLay o) (hw : q_X0_clear o M Q) : metV l yX0_clear wsX0_clear rmX0_clear shX 51 K [.ref (kb K + o)] M Q := by
  refine met_of (cc := cX0_clear) (maxL := 1) (ret := none) (own := RX0) (by decide) rfl rfl (Nat.le_of_ble_eq_true rfl) ?_
  intro p e s m below meth c ls C hl hP hS
  have hl : lv_has ls 1 [(0, .ref (kb K + o))] := hl
  obtain ⟨hx, hb, hml, hown, hts, hr, hlk, hK⟩ := id C
  have hP0 := hP
  delta q_X0_clear at hw
  refine lv_aload_n hx hb dX0_clear_0 rfl (lv_at hl 0 rfl) ?_
  refine lv_iconst hx hb dX0_clear_1 ic_0 ?_
  refine p_f C hP hS (layb0 ho) (lay0 ho K _) (lay0 ho K _) rfl hX0_clear_X0 tyX0_ok nmX0 (by decide) kX0_clear_f18 rfl rfl rfl (Nat.le_of_ble_eq_true rfl) dX0_clear_2 (fun H locs hP hS => ?_)
  refine lv_aload_n hx hb dX0_clear_5 rfl (lv_at hl 0 rfl) ?_
  refine lv_iconst hx hb dX0_clear_6 ic_0 ?_
  refine p_f C hP hS (layb0 ho) (lay0 ho K _) (lay0 ho K _) rfl hX0_clear_X0 tyX0_ok nmX0 (by decide) kX0_clear_f31 rfl rfl rfl (Nat.le_of_ble_eq_true rfl) dX0_clear_7 (fun H locs hP hS => ?_)
  refine lv_aload_n hx hb dX0_clear_10 rfl (lv_at hl 0 rfl) ?_
  refine lv_iconst hx hb dX0_clear_11 ic_0 ?_
  refine p_f C hP hS (layb0 ho) (lay0 ho K _) (lay0 ho K _) rfl hX0_clear_X0 tyX0_ok nmX0 (by decide) kX0_clear_f34 rfl rfl rfl (Nat.le_of_ble_eq_true rfl) dX0_clear_12 (fun H locs hP hS => ?_)
  refine lv_aload_n hx hb dX0_clear_15 rfl (lv_at hl 0 rfl) ?_
  refine lv_iconst hx hb dX0_clear_16 ic_0 ?_
  refine p_f C hP hS (layb0 ho) (lay0 ho K _) (lay0 ho K _) rfl hX0_clear_X0 tyX0_ok nmX0 (by decide) kX0_clear_f37 rfl rfl rfl (Nat.le_of_ble_eq_true rfl) dX0_clear_17 (fun H locs hP hS => ?_)
  obtain ⟨M_1, eM_1⟩ : ∃ z : Mem, z = mU (mU (mU (mU M o 2 (0 : Int32)) o 6 (0 : Int32)) o 7 (0 : Int32)) o 8 (0 : Int32) := ⟨_, rfl⟩
  rw [← eM_1] at hP
  have hw := hw M_1 eM_1
  refine lv_aload_n hx hb dX0_clear_20 rfl (lv_at hl 0 rfl) ?_
  refine lv_iconst hx hb dX0_clear_21 ic_0 ?_
  refine p_f C hP hS (layb0 ho) (lay0 ho K _) (lay0 ho K _) rfl hX0_clear_X0 tyX0_ok nmX0 (by decide) kX0_clear_f40 rfl rfl rfl (Nat.le_of_ble_eq_true rfl) dX0_clear_22 (fun H locs hP hS => ?_)
  exact r_v C hP hS hw dX0_clear_25
theorem kX0_copyFrom_f9 : Cond.fieldLink RX0 9 (TX0 0).1 (TX0 0).2.1 (TX0 0).2.2.1 ∈ wsX0_copyFrom := List.mem_of_getElem? (i := 1) rfl
theorem hX0_copyFrom_X0 : ∀ w ∈ u_ws RX0 TX0 10, w ∈ wsX0_copyFrom := fun _ h => List.mem_cons_of_mem _ (List.mem_append_right _ (h))
theorem kX0_copyFrom_m43 : Cond.methodLink RX0 43 arraycopyName ∈ wsX0_copyFrom := List.mem_of_getElem? (i := 2) rfl
theorem kX0_copyFrom_ac1 : Cond.native arraycopyName ∈ wsX0_copyFrom := List.mem_of_getElem? (i := 3) rfl
theorem kX0_copyFrom_ac2 : Cond.static arraycopyName ∈ wsX0_copyFrom := List.mem_of_getElem? (i := 4) rfl
theorem kX0_copyFrom_ac3 : Cond.initialized "java/lang/System" ∈ wsX0_copyFrom := List.mem_of_getElem? (i := 5) rfl
theorem kX0_copyFrom_f15 : Cond.fieldLink RX0 15 (TX0 1).1 (TX0 1).2.1 (TX0 1).2.2.1 ∈ wsX0_copyFrom := List.mem_of_getElem? (i := 6) rfl
theorem kX0_copyFrom_f18 : Cond.fieldLink RX0 18 (TX0 2).1 (TX0 2).2.1 (TX0 2).2.2.1 ∈ wsX0_copyFrom := List.mem_of_getElem? (i := 7) rfl
theorem kX0_copyFrom_f22 : Cond.fieldLink RX0 22 (TX0 3).1 (TX0 3).2.1 (TX0 3).2.2.1 ∈ wsX0_copyFrom := List.mem_of_getElem? (i := 8) rfl
theorem kX0_copyFrom_f25 : Cond.fieldLink RX0 25 (TX0 4).1 (TX0 4).2.1 (TX0 4).2.2.1 ∈ wsX0_copyFrom := List.mem_of_getElem? (i := 9) rfl
theorem kX0_copyFrom_f28 : Cond.fieldLink RX0 28 (TX0 5).1 (TX0 5).2.1 (TX0 5).2.2.1 ∈ wsX0_copyFrom := List.mem_of_getElem? (i := 10) rfl
theorem kX0_copyFrom_f31 : Cond.fieldLink RX0 31 (TX0 6).1 (TX0 6).2.1 (TX0 6).2.2.1 ∈ wsX0_copyFrom := List.mem_of_getElem? (i := 11) rfl
theorem kX0_copyFrom_f34 : Cond.fieldLink RX0 34 (TX0 7).1 (TX0 7).2.1 (TX0 7).2.2.1 ∈ wsX0_copyFrom := List.mem_of_getElem? (i := 12) rfl
theorem kX0_copyFrom_f37 : Cond.fieldLink RX0 37 (TX0 8).1 (TX0 8).2.1 (TX0 8).2.2.1 ∈ wsX0_copyFrom := List.mem_of_getElem? (i := 13) rfl
theorem kX0_copyFrom_f40 : Cond.fieldLink RX0 40 (TX0 9).1 (TX0 9).2.1 (TX0 9).2.2.1 ∈ wsX0_copyFrom := List.mem_of_getElem? (i := 14) rfl
abbrev rmX0_copyFrom : Room := { frames := 1, cells := 0, slots := 0, locals := 40 }
def q_X0_copyFrom (o : Nat) (o1 : Nat) (M : Mem) (Q : Mem → Prop) : Prop := ∀ M_1 : Mem, M_1 = mR (mR M (o + 1) (cpN 10 (M (o1 + 1)) (M (o + 1)))) (o + 2) (cpN 10 ((mR M (o + 1) (cpN 10 (M (o1 + 1)) (M (o + 1)))) (o1 + 2)) ((mR M (o + 1) (cpN 10 (M (o1 + 1)) (M (o + 1)))) (o + 2))) → ∀ M_2 : Mem, M_2 = mR (mU M_1 o 2 (M_1 o1 2)) (o + 3) (cpN 4 ((mU M_1 o 2 (M_1 o1 2)) (o1 + 3)) ((mU M_1 o 2 (M_1 o1 2)) (o + 3))) → ∀ M_3 : Mem, M_3 = mR (mR M_2 (o + 4) (cpN 4 (M_2 (o1 + 4)) (M_2 (o + 4)))) (o + 5) (cpN 4 ((mR M_2 (o + 4) (cpN 4 (M_2 (o1 + 4)) (M_2 (o + 4)))) (o1 + 5)) ((mR M_2 (o + 4) (cpN 4 (M_2 (o1 + 4)) (M_2 (o + 4)))) (o + 5))) → ∀ M_4 : Mem, M_4 = mU (mU (mU M_3 o 6 (M_3 o1 6)) o 7 ((mU M_3 o 6 (M_3 o1 6)) o1 7)) o 8 ((mU (mU M_3 o 6 (M_3 o1 6)) o 7 ((mU M_3 o 6 (M_3 o1 6)) o1 7)) o1 8) → Q (mU M_4 o 9 (M_4 o1 9))
theorem dsX0_copyFrom : yX0_copyFrom.cls = RX0 ∧ yX0_copyFrom.cls ≠ "java/lang/invoke/MethodHandle" ∧ yX0_copyFrom.cls ≠ "java/lang/invoke/VarHandle" ∧ (parseMethodDescriptor yX0_copyFrom.desc).map (fun d => d.parameters.length) = some 1 := by decide +kernel
set_option maxRecDepth 100000 in
set_option maxHeartbeats 4000000 in
theorem c_X0_copyFrom {l : Launch} {K : wC} {o : Nat} {o1 : Nat} {M : Mem} {Q : Mem → Prop} (ho : isLay o) (ho1 : isLay o1) (hw : q_X0_copyFrom o o1 M Q) : metV l yX0_copyFrom wsX0_copyFrom rmX0_copyFrom shX 51 K [.ref (kb K + o), .ref (kb K + o1)] M Q := by
  refine met_of (cc := cX0_copyFrom) (maxL := 2) (ret := none) (own := RX0) (by decide) rfl rfl (Nat.le_of_ble_eq_true rfl) ?_
  intro p e s m below meth c ls C hl hP hS
  have hl : lv_has ls 2 [(0, .ref (kb K + o)), (1, .ref (kb K + o1))] := hl
  obtain ⟨hx, hb, hml, hown, hts, hr, hlk, hK⟩ := id C
  have hP0 := hP
  delta q_X0_copyFrom at hw
  refine lv_aload_n hx hb dX0_copyFrom_0 rfl (lv_at hl 1 rfl) ?_
  refine g_f C hP (layb0 ho1) (lay0 ho1 K _) rfl hX0_copyFrom_X0 0 (by decide) kX0_copyFrom_f9 rfl dX0_copyFrom_1 ?_
  refine lv_iconst hx hb dX0_copyFrom_4 ic_0 ?_
  refine lv_aload_n hx hb dX0_copyFrom_5 rfl (lv_at hl 0 rfl) ?_
  refine g_f C hP (layb0 ho) (lay0 ho K _) rfl hX0_copyFrom_X0 0 (by decide) kX0_copyFrom_f9 rfl dX0_copyFrom_6 ?_
  refine lv_iconst hx hb dX0_copyFrom_9 ic_0 ?_
  refine lv_bipush hx hb dX0_copyFrom_10 bp_10 ?_
  refine a_c0 C hP hS (layb ho1 1 (by decide)) (layb ho 1 (by decide)) (lay1 ho1 K _) (lay1 ho K) hl.1 kX0_copyFrom_m43 kX0_copyFrom_ac1 kX0_copyFrom_ac2 kX0_copyFrom_ac3 (by decide) (Nat.le_of_ble_eq_true rfl) (by decide) dX0_copyFrom_12 (fun H locs hP hS => ?_)
  refine lv_aload_n hx hb dX0_copyFrom_15 rfl (lv_at hl 1 rfl) ?_
  refine g_f C hP (layb0 ho1) (lay0 ho1 K _) rfl hX0_copyFrom_X0 1 (by decide) kX0_copyFrom_f15 rfl dX0_copyFrom_16 ?_
  refine lv_iconst hx hb dX0_copyFrom_19 ic_0 ?_
  refine lv_aload_n hx hb dX0_copyFrom_20 rfl (lv_at hl 0 rfl) ?_
  refine g_f C hP (layb0 ho) (lay0 ho K _) rfl hX0_copyFrom_X0 1 (by decide) kX0_copyFrom_f15 rfl dX0_copyFrom_21 ?_
  refine lv_iconst hx hb dX0_copyFrom_24 ic_0 ?_
  refine lv_bipush hx hb dX0_copyFrom_25 bp_10 ?_
  refine a_c0 C hP hS (layb ho1 2 (by decide)) (layb ho 2 (by decide)) (lay2 ho1 K _) (lay2 ho K) hl.1 kX0_copyFrom_m43 kX0_copyFrom_ac1 kX0_copyFrom_ac2 kX0_copyFrom_ac3 (by decide) (Nat.le_of_ble_eq_true rfl) (by decide) dX0_copyFrom_27 (fun H locs hP hS => ?_)
  obtain ⟨M_1, eM_1⟩ : ∃ z : Mem, z = mR (mR M (o + 1) (cpN 10 (M (o1 + 1)) (M (o + 1)))) (o + 2) (cpN 10 ((mR M (o + 1) (cpN 10 (M (o1 + 1)) (M (o + 1)))) (o1 + 2)) ((mR M (o + 1) (cpN 10 (M (o1 + 1)) (M (o + 1)))) (o + 2))) := ⟨_, rfl⟩
  rw [← eM_1] at hP
  have hw := hw M_1 eM_1
  refine lv_aload_n hx hb dX0_copyFrom_30 rfl (lv_at hl 0 rfl) ?_
  refine lv_aload_n hx hb dX0_copyFrom_31 rfl (lv_at hl 1 rfl) ?_
  refine g_f C hP (layb0 ho1) (lay0 ho1 K _) rfl hX0_copyFrom_X0 2 (by decide) kX0_copyFrom_f18 rfl dX0_copyFrom_32 ?_
  refine p_f C hP hS (layb0 ho) (lay0 ho K _) (lay0 ho K _) rfl hX0_copyFrom_X0 tyX0_ok nmX0 (by decide) kX0_copyFrom_f18 rfl rfl rfl (Nat.le_of_ble_eq_true rfl) dX0_copyFrom_35 (fun H locs hP hS => ?_)
  refine lv_aload_n hx hb dX0_copyFrom_38 rfl (lv_at hl 1 rfl) ?_
  refine g_f C hP (layb0 ho1) (lay0 ho1 K _) rfl hX0_copyFrom_X0 3 (by decide) kX0_copyFrom_f22 rfl dX0_copyFrom_39 ?_
  refine lv_iconst hx hb dX0_copyFrom_42 ic_0 ?_
  refine lv_aload_n hx hb dX0_copyFrom_43 rfl (lv_at hl 0 rfl) ?_
  refine g_f C hP (layb0 ho) (lay0 ho K _) rfl hX0_copyFrom_X0 3 (by decide) kX0_copyFrom_f22 rfl dX0_copyFrom_44 ?_
  refine lv_iconst hx hb dX0_copyFrom_47 ic_0 ?_
  refine lv_iconst hx hb dX0_copyFrom_48 ic_4 ?_
  refine a_c0 C hP hS (layb ho1 3 (by decide)) (layb ho 3 (by decide)) (lay3 ho1 K _) (lay3 ho K) hl.1 kX0_copyFrom_m43 kX0_copyFrom_ac1 kX0_copyFrom_ac2 kX0_copyFrom_ac3 (by decide) (Nat.le_of_ble_eq_true rfl) (by decide) dX0_copyFrom_49 (fun H locs hP hS => ?_)
  obtain ⟨M_2, eM_2⟩ : ∃ z : Mem, z = mR (mU M_1 o 2 (M_1 o1 2)) (o + 3) (cpN 4 ((mU M_1 o 2 (M_1 o1 2)) (o1 + 3)) ((mU M_1 o 2 (M_1 o1 2)) (o + 3))) := ⟨_, rfl⟩
  rw [← eM_2] at hP
  have hw := hw M_2 eM_2
  refine lv_aload_n hx hb dX0_copyFrom_52 rfl (lv_at hl 1 rfl) ?_
  refine g_f C hP (layb0 ho1) (lay0 ho1 K _) rfl hX0_copyFrom_X0 4 (by decide) kX0_copyFrom_f25 rfl dX0_copyFrom_53 ?_
  refine lv_iconst hx hb dX0_copyFrom_56 ic_0 ?_
  refine lv_aload_n hx hb dX0_copyFrom_57 rfl (lv_at hl 0 rfl) ?_
  refine g_f C hP (layb0 ho) (lay0 ho K _) rfl hX0_copyFrom_X0 4 (by decide) kX0_copyFrom_f25 rfl dX0_copyFrom_58 ?_
  refine lv_iconst hx hb dX0_copyFrom_61 ic_0 ?_
  refine lv_iconst hx hb dX0_copyFrom_62 ic_4 ?_
  refine a_c0 C hP hS (layb ho1 4 (by decide)) (layb ho 4 (by decide)) (lay4 ho1 K _) (lay4 ho K) hl.1 kX0_copyFrom_m43 kX0_copyFrom_ac1 kX0_copyFrom_ac2 kX0_copyFrom_ac3 (by decide) (Nat.le_of_ble_eq_true rfl) (by decide) dX0_copyFrom_63 (fun H locs hP hS => ?_)
  refine lv_aload_n hx hb dX0_copyFrom_66 rfl (lv_at hl 1 rfl) ?_
  refine g_f C hP (layb0 ho1) (lay0 ho1 K _) rfl hX0_copyFrom_X0 5 (by decide) kX0_copyFrom_f28 rfl dX0_copyFrom_67 ?_
  refine lv_iconst hx hb dX0_copyFrom_70 ic_0 ?_
  refine lv_aload_n hx hb dX0_copyFrom_71 rfl (lv_at hl 0 rfl) ?_
  refine g_f C hP (layb0 ho) (lay0 ho K _) rfl hX0_copyFrom_X0 5 (by decide) kX0_copyFrom_f28 rfl dX0_copyFrom_72 ?_
  refine lv_iconst hx hb dX0_copyFrom_75 ic_0 ?_
  refine lv_iconst hx hb dX0_copyFrom_76 ic_4 ?_
  refine a_c0 C hP hS (layb ho1 5 (by decide)) (layb ho 5 (by decide)) (lay5 ho1 K _) (lay5 ho K) hl.1 kX0_copyFrom_m43 kX0_copyFrom_ac1 kX0_copyFrom_ac2 kX0_copyFrom_ac3 (by decide) (Nat.le_of_ble_eq_true rfl) (by decide) dX0_copyFrom_77 (fun H locs hP hS => ?_)
  obtain ⟨M_3, eM_3⟩ : ∃ z : Mem, z = mR (mR M_2 (o + 4) (cpN 4 (M_2 (o1 + 4)) (M_2 (o + 4)))) (o + 5) (cpN 4 ((mR M_2 (o + 4) (cpN 4 (M_2 (o1 + 4)) (M_2 (o + 4)))) (o1 + 5)) ((mR M_2 (o + 4) (cpN 4 (M_2 (o1 + 4)) (M_2 (o + 4)))) (o + 5))) := ⟨_, rfl⟩
  rw [← eM_3] at hP
  have hw := hw M_3 eM_3
  refine lv_aload_n hx hb dX0_copyFrom_80 rfl (lv_at hl 0 rfl) ?_
  refine lv_aload_n hx hb dX0_copyFrom_81 rfl (lv_at hl 1 rfl) ?_
  refine g_f C hP (layb0 ho1) (lay0 ho1 K _) rfl hX0_copyFrom_X0 6 (by decide) kX0_copyFrom_f31 rfl dX0_copyFrom_82 ?_
  refine p_f C hP hS (layb0 ho) (lay0 ho K _) (lay0 ho K _) rfl hX0_copyFrom_X0 tyX0_ok nmX0 (by decide) kX0_copyFrom_f31 rfl rfl rfl (Nat.le_of_ble_eq_true rfl) dX0_copyFrom_85 (fun H locs hP hS => ?_)
  refine lv_aload_n hx hb dX0_copyFrom_88 rfl (lv_at hl 0 rfl) ?_
  refine lv_aload_n hx hb dX0_copyFrom_89 rfl (lv_at hl 1 rfl) ?_
  refine g_f C hP (layb0 ho1) (lay0 ho1 K _) rfl hX0_copyFrom_X0 7 (by decide) kX0_copyFrom_f34 rfl dX0_copyFrom_90 ?_
  refine p_f C hP hS (layb0 ho) (lay0 ho K _) (lay0 ho K _) rfl hX0_copyFrom_X0 tyX0_ok nmX0 (by decide) kX0_copyFrom_f34 rfl rfl rfl (Nat.le_of_ble_eq_true rfl) dX0_copyFrom_93 (fun H locs hP hS => ?_)
  refine lv_aload_n hx hb dX0_copyFrom_96 rfl (lv_at hl 0 rfl) ?_
  refine lv_aload_n hx hb dX0_copyFrom_97 rfl (lv_at hl 1 rfl) ?_
  refine g_f C hP (layb0 ho1) (lay0 ho1 K _) rfl hX0_copyFrom_X0 8 (by decide) kX0_copyFrom_f37 rfl dX0_copyFrom_98 ?_
  refine p_f C hP hS (layb0 ho) (lay0 ho K _) (lay0 ho K _) rfl hX0_copyFrom_X0 tyX0_ok nmX0 (by decide) kX0_copyFrom_f37 rfl rfl rfl (Nat.le_of_ble_eq_true rfl) dX0_copyFrom_101 (fun H locs hP hS => ?_)
  obtain ⟨M_4, eM_4⟩ : ∃ z : Mem, z = mU (mU (mU M_3 o 6 (M_3 o1 6)) o 7 ((mU M_3 o 6 (M_3 o1 6)) o1 7)) o 8 ((mU (mU M_3 o 6 (M_3 o1 6)) o 7 ((mU M_3 o 6 (M_3 o1 6)) o1 7)) o1 8) := ⟨_, rfl⟩
  rw [← eM_4] at hP
  have hw := hw M_4 eM_4
  refine lv_aload_n hx hb dX0_copyFrom_104 rfl (lv_at hl 0 rfl) ?_
  refine lv_aload_n hx hb dX0_copyFrom_105 rfl (lv_at hl 1 rfl) ?_
  refine g_f C hP (layb0 ho1) (lay0 ho1 K _) rfl hX0_copyFrom_X0 9 (by decide) kX0_copyFrom_f40 rfl dX0_copyFrom_106 ?_
  refine p_f C hP hS (layb0 ho) (lay0 ho K _) (lay0 ho K _) rfl hX0_copyFrom_X0 tyX0_ok nmX0 (by decide) kX0_copyFrom_f40 rfl rfl rfl (Nat.le_of_ble_eq_true rfl) dX0_copyFrom_109 (fun H locs hP hS => ?_)
  exact r_v C hP hS hw dX0_copyFrom_112
theorem kX0_appendCorner_f18 : Cond.fieldLink RX0 18 (TX0 2).1 (TX0 2).2.1 (TX0 2).2.2.1 ∈ wsX0_appendCorner := List.mem_of_getElem? (i := 1) rfl
theorem hX0_appendCorner_X0 : ∀ w ∈ u_ws RX0 TX0 10, w ∈ wsX0_appendCorner := fun _ h => List.mem_cons_of_mem _ (List.mem_append_right _ (h))
theorem kX0_appendCorner_f9 : Cond.fieldLink RX0 9 (TX0 0).1 (TX0 0).2.1 (TX0 0).2.2.1 ∈ wsX0_appendCorner := List.mem_of_getElem? (i := 2) rfl
theorem kX0_appendCorner_f15 : Cond.fieldLink RX0 15 (TX0 1).1 (TX0 1).2.1 (TX0 1).2.2.1 ∈ wsX0_appendCorner := List.mem_of_getElem? (i := 3) rfl
abbrev rmX0_appendCorner : Room := { frames := 0, cells := 0, slots := 0, locals := 0 }
def q_X0_appendCorner (o : Nat) (v1 : Int32) (v2 : Int32) (M : Mem) (Q : Mem → Prop) : Prop := (((10 : Int32) ≤ (M o 2) → Q M) ∧ (¬ (10 : Int32) ≤ (M o 2) → vp_in (M o 2) 10 ∧ vp_in ((mU M (o + 1) (M o 2).toNatClampNeg v1) o 2) 10 ∧ (∀ M_3 : Mem, M_3 = mU (mU M (o + 1) (M o 2).toNatClampNeg v1) (o + 2) ((mU M (o + 1) (M o 2).toNatClampNeg v1) o 2).toNatClampNeg v2 → Q (mU M_3 o 2 ((M_3 o 2) + (1 : Int32))))))
theorem dsX0_appendCorner : yX0_appendCorner.cls = RX0 ∧ yX0_appendCorner.cls ≠ "java/lang/invoke/MethodHandle" ∧ yX0_appendCorner.cls ≠ "java/lang/invoke/VarHandle" ∧ (parseMethodDescriptor yX0_appendCorner.desc).map (fun d => d.parameters.length) = some 2 := by decide +kernel
set_option maxRecDepth 100000 in
set_option maxHeartbeats 4000000 in
theorem c_X0_appendCorner {l : Launch} {K : wC} {o : Nat} {v1 : Int32} {v2 : Int32} {M : Mem} {Q : Mem → Prop} (ho : isLay o) (hw : q_X0_appendCorner o v1 v2 M Q) : metV l yX0_appendCorner wsX0_appendCorner rmX0_appendCorner shX 51 K [.ref (kb K + o), .int v1, .int v2] M Q := by
  refine met_of (cc := cX0_appendCorner) (maxL := 3) (ret := none) (own := RX0) (by decide) rfl rfl (Nat.le_of_ble_eq_true rfl) ?_
  intro p e s m below meth c ls C hl hP hS
  have hl : lv_has ls 3 [(0, .ref (kb K + o)), (1, .int v1), (2, .int v2)] := hl
  obtain ⟨hx, hb, hml, hown, hts, hr, hlk, hK⟩ := id C
  have hP0 := hP
  delta q_X0_appendCorner at hw
  refine lv_aload_n hx hb dX0_appendCorner_0 rfl (lv_at hl 0 rfl) ?_
  refine g_f C hP (layb0 ho) (lay0 ho K _) rfl hX0_appendCorner_X0 2 (by decide) kX0_appendCorner_f18 rfl dX0_appendCorner_1 ?_
  refine lv_bipush hx hb dX0_appendCorner_4 bp_10 ?_
  refine lv_icmp_ge (tgt := 39) hx hb dX0_appendCorner_6 (by decide) (fun hc => ?_) (fun hc => ?_)
  · have hw := hw.1 hc
    exact r_v C hP hS hw dX0_appendCorner_39
  · have hw := hw.2 hc
    refine lv_aload_n hx hb dX0_appendCorner_9 rfl (lv_at hl 0 rfl) ?_
    refine g_f C hP (layb0 ho) (lay0 ho K _) rfl hX0_appendCorner_X0 0 (by decide) kX0_appendCorner_f9 rfl dX0_appendCorner_10 ?_
    refine lv_aload_n hx hb dX0_appendCorner_13 rfl (lv_at hl 0 rfl) ?_
    refine g_f C hP (layb0 ho) (lay0 ho K _) rfl hX0_appendCorner_X0 2 (by decide) kX0_appendCorner_f18 rfl dX0_appendCorner_14 ?_
    refine lv_iload_n hx hb dX0_appendCorner_17 rfl (lv_at hl 1 rfl) ?_
    have hi_1 := hw.1
    have hw := hw.2
    refine a_is C hP hS (layb ho 1 (by decide)) (lay1 ho K) hi_1 rfl dX0_appendCorner_18 (fun H locs hP hS => ?_)
    refine lv_aload_n hx hb dX0_appendCorner_19 rfl (lv_at hl 0 rfl) ?_
    refine g_f C hP (layb0 ho) (lay0 ho K _) rfl hX0_appendCorner_X0 1 (by decide) kX0_appendCorner_f15 rfl dX0_appendCorner_20 ?_
    refine lv_aload_n hx hb dX0_appendCorner_23 rfl (lv_at hl 0 rfl) ?_
    refine g_f C hP (layb0 ho) (lay0 ho K _) rfl hX0_appendCorner_X0 2 (by decide) kX0_appendCorner_f18 rfl dX0_appendCorner_24 ?_
    refine lv_iload_n hx hb dX0_appendCorner_27 rfl (lv_at hl 2 rfl) ?_
    have hi_2 := hw.1
    have hw := hw.2
    refine a_is C hP hS (layb ho 2 (by decide)) (lay2 ho K) hi_2 rfl dX0_appendCorner_28 (fun H locs hP hS => ?_)
    obtain ⟨M_3, eM_3⟩ : ∃ z : Mem, z = mU (mU M (o + 1) (M o 2).toNatClampNeg v1) (o + 2) ((mU M (o + 1) (M o 2).toNatClampNeg v1) o 2).toNatClampNeg v2 := ⟨_, rfl⟩
    rw [← eM_3] at hP
    have hw := hw M_3 eM_3
    refine lv_aload_n hx hb dX0_appendCorner_29 rfl (lv_at hl 0 rfl) ?_
    refine lv_dup hx hb dX0_appendCorner_30 rfl ?_
    refine g_f C hP (layb0 ho) (lay0 ho K _) rfl hX0_appendCorner_X0 2 (by decide) kX0_appendCorner_f18 rfl dX0_appendCorner_31 ?_
    refine lv_iconst hx hb dX0_appendCorner_34 ic_1 ?_
    refine lv_iadd hx hb dX0_appendCorner_35 ?_
    refine p_f C hP hS (layb0 ho) (lay0 ho K _) (lay0 ho K _) rfl hX0_appendCorner_X0 tyX0_ok nmX0 (by decide) kX0_appendCorner_f18 rfl rfl rfl (Nat.le_of_ble_eq_true rfl) dX0_appendCorner_36 (fun H locs hP hS => ?_)
    exact r_v C hP hS hw dX0_appendCorner_39
theorem kX0_moveCorner_f9 : Cond.fieldLink RX0 9 (TX0 0).1 (TX0 0).2.1 (TX0 0).2.2.1 ∈ wsX0_moveCorner := List.mem_of_getElem? (i := 1) rfl
theorem hX0_moveCorner_X0 : ∀ w ∈ u_ws RX0 TX0 10, w ∈ wsX0_moveCorner := fun _ h => List.mem_cons_of_mem _ (List.mem_append_right _ (h))
theorem kX0_moveCorner_f15 : Cond.fieldLink RX0 15 (TX0 1).1 (TX0 1).2.1 (TX0 1).2.2.1 ∈ wsX0_moveCorner := List.mem_of_getElem? (i := 2) rfl
abbrev rmX0_moveCorner : Room := { frames := 0, cells := 0, slots := 0, locals := 0 }
def q_X0_moveCorner (o : Nat) (v1 : Int32) (v2 : Int32) (v3 : Int32) (M : Mem) (Q : Mem → Prop) : Prop := vp_in v1 10 ∧ vp_in v1 10 ∧ Q (mU (mU M (o + 1) v1.toNatClampNeg v2) (o + 2) v1.toNatClampNeg v3)
theorem dsX0_moveCorner : yX0_moveCorner.cls = RX0 ∧ yX0_moveCorner.cls ≠ "java/lang/invoke/MethodHandle" ∧ yX0_moveCorner.cls ≠ "java/lang/invoke/VarHandle" ∧ (parseMethodDescriptor yX0_moveCorner.desc).map (fun d => d.parameters.length) = some 3 := by decide +kernel
set_option maxRecDepth 100000 in
set_option maxHeartbeats 4000000 in
theorem c_X0_moveCorner {l : Launch} {K : wC} {o : Nat} {v1 : Int32} {v2 : Int32} {v3 : Int32} {M : Mem} {Q : Mem → Prop} (ho : isLay o) (hw : q_X0_moveCorner o v1 v2 v3 M Q) : metV l yX0_moveCorner wsX0_moveCorner rmX0_moveCorner shX 51 K [.ref (kb K + o), .int v1, .int v2, .int v3] M Q := by
  refine met_of (cc := cX0_moveCorner) (maxL := 4) (ret := none) (own := RX0) (by decide) rfl rfl (Nat.le_of_ble_eq_true rfl) ?_
  intro p e s m below meth c ls C hl hP hS
  have hl : lv_has ls 4 [(0, .ref (kb K + o)), (1, .int v1), (2, .int v2), (3, .int v3)] := hl
  obtain ⟨hx, hb, hml, hown, hts, hr, hlk, hK⟩ := id C
  have hP0 := hP
  delta q_X0_moveCorner at hw
  refine lv_aload_n hx hb dX0_moveCorner_0 rfl (lv_at hl 0 rfl) ?_
  refine g_f C hP (layb0 ho) (lay0 ho K _) rfl hX0_moveCorner_X0 0 (by decide) kX0_moveCorner_f9 rfl dX0_moveCorner_1 ?_
  refine lv_iload_n hx hb dX0_moveCorner_4 rfl (lv_at hl 1 rfl) ?_
  refine lv_iload_n hx hb dX0_moveCorner_5 rfl (lv_at hl 2 rfl) ?_
  have hi_1 := hw.1
  have hw := hw.2
  refine a_is C hP hS (layb ho 1 (by decide)) (lay1 ho K) hi_1 rfl dX0_moveCorner_6 (fun H locs hP hS => ?_)
  refine lv_aload_n hx hb dX0_moveCorner_7 rfl (lv_at hl 0 rfl) ?_
  refine g_f C hP (layb0 ho) (lay0 ho K _) rfl hX0_moveCorner_X0 1 (by decide) kX0_moveCorner_f15 rfl dX0_moveCorner_8 ?_
  refine lv_iload_n hx hb dX0_moveCorner_11 rfl (lv_at hl 1 rfl) ?_
  refine lv_iload_n hx hb dX0_moveCorner_12 rfl (lv_at hl 3 rfl) ?_
  have hi_2 := hw.1
  have hw := hw.2
  refine a_is C hP hS (layb ho 2 (by decide)) (lay2 ho K) hi_2 rfl dX0_moveCorner_13 (fun H locs hP hS => ?_)
  exact r_v C hP hS hw dX0_moveCorner_14
theorem kX0_exchangeCorners_f9 : Cond.fieldLink RX0 9 (TX0 0).1 (TX0 0).2.1 (TX0 0).2.2.1 ∈ wsX0_exchangeCorners := List.mem_of_getElem? (i := 1) rfl
theorem hX0_exchangeCorners_X0 : ∀ w ∈ u_ws RX0 TX0 10, w ∈ wsX0_exchangeCorners := fun _ h => List.mem_cons_of_mem _ (List.mem_append_right _ (h))
theorem kX0_exchangeCorners_f15 : Cond.fieldLink RX0 15 (TX0 1).1 (TX0 1).2.1 (TX0 1).2.2.1 ∈ wsX0_exchangeCorners := List.mem_of_getElem? (i := 2) rfl
abbrev rmX0_exchangeCorners : Room := { frames := 1, cells := 0, slots := 0, locals := 23 }
def q_X0_exchangeCorners (o : Nat) (v1 : Int32) (v2 : Int32) (M : Mem) (Q : Mem → Prop) : Prop := vp_in v1 10 ∧ (∀ x_2 : Int32, x_2 = (M (o + 1) v1.toNatClampNeg) → vp_in v1 10 ∧ (∀ x_4 : Int32, x_4 = (M (o + 2) v1.toNatClampNeg) → vp_in v2 10 ∧ vp_in v2 10 ∧ q_X0_moveCorner o v1 (M (o + 1) v2.toNatClampNeg) (M (o + 2) v2.toNatClampNeg) M (fun M_7 => q_X0_moveCorner o v2 x_2 x_4 M_7 (fun M_8 => Q M_8))))
theorem dsX0_exchangeCorners : yX0_exchangeCorners.cls = RX0 ∧ yX0_exchangeCorners.cls ≠ "java/lang/invoke/MethodHandle" ∧ yX0_exchangeCorners.cls ≠ "java/lang/invoke/VarHandle" ∧ (parseMethodDescriptor yX0_exchangeCorners.desc).map (fun d => d.parameters.length) = some 2 := by decide +kernel
set_option maxRecDepth 100000 in
set_option maxHeartbeats 4000000 in
theorem c_X0_exchangeCorners {l : Launch} {K : wC} {o : Nat} {v1 : Int32} {v2 : Int32} {M : Mem} {Q : Mem → Prop} (ho : isLay o) (hw : q_X0_exchangeCorners o v1 v2 M Q) : metV l yX0_exchangeCorners wsX0_exchangeCorners rmX0_exchangeCorners shX 51 K [.ref (kb K + o), .int v1, .int v2] M Q := by
  refine met_of (cc := cX0_exchangeCorners) (maxL := 5) (ret := none) (own := RX0) (by decide) rfl rfl (Nat.le_of_ble_eq_true rfl) ?_
  intro p e s m below meth c ls C hl hP hS
  have hl : lv_has ls 5 [(0, .ref (kb K + o)), (1, .int v1), (2, .int v2)] := hl
  obtain ⟨hx, hb, hml, hown, hts, hr, hlk, hK⟩ := id C
  have hP0 := hP
  delta q_X0_exchangeCorners at hw
  refine lv_aload_n hx hb dX0_exchangeCorners_0 rfl (lv_at hl 0 rfl) ?_
  refine g_f C hP (layb0 ho) (lay0 ho K _) rfl hX0_exchangeCorners_X0 0 (by decide) kX0_exchangeCorners_f9 rfl dX0_exchangeCorners_1 ?_
  refine lv_iload_n hx hb dX0_exchangeCorners_4 rfl (lv_at hl 1 rfl) ?_
  have hi_1 := hw.1
  have hw := hw.2
  refine a_il C hP (layb ho 1 (by decide)) (lay1 ho K _) hi_1 rfl dX0_exchangeCorners_5 ?_
  refine lv_topi (fun x_2 ex_2 => ?_)
  have hw := hw x_2 ex_2
  refine lv_istore_n (lv' := [(3, .int x_2), (0, .ref (kb K + o)), (1, .int v1), (2, .int v2)]) hx hb dX0_exchangeCorners_6 rfl hl (by decide) rfl (fun ls hl => ?_)
  refine lv_aload_n hx hb dX0_exchangeCorners_7 rfl (lv_at hl 1 rfl) ?_
  refine g_f C hP (layb0 ho) (lay0 ho K _) rfl hX0_exchangeCorners_X0 1 (by decide) kX0_exchangeCorners_f15 rfl dX0_exchangeCorners_8 ?_
  refine lv_iload_n hx hb dX0_exchangeCorners_11 rfl (lv_at hl 2 rfl) ?_
  have hi_3 := hw.1
  have hw := hw.2
  refine a_il C hP (layb ho 2 (by decide)) (lay2 ho K _) hi_3 rfl dX0_exchangeCorners_12 ?_
  refine lv_topi (fun x_4 ex_4 => ?_)
  have hw := hw x_4 ex_4
  refine lv_istore (lv' := [(4, .int x_4), (3, .int x_2), (0, .ref (kb K + o)), (1, .int v1), (2, .int v2)]) hx hb dX0_exchangeCorners_13 hl (by decide) rfl (fun ls hl => ?_)
  refine lv_aload_n hx hb dX0_exchangeCorners_15 rfl (lv_at hl 2 rfl) ?_
  refine lv_iload_n hx hb dX0_exchangeCorners_16 rfl (lv_at hl 3 rfl) ?_
  refine lv_aload_n hx hb dX0_exchangeCorners_17 rfl (lv_at hl 2 rfl) ?_
  refine g_f C hP (layb0 ho) (lay0 ho K _) rfl hX0_exchangeCorners_X0 0 (by decide) kX0_exchangeCorners_f9 rfl dX0_exchangeCorners_18 ?_
  refine lv_iload_n hx hb dX0_exchangeCorners_21 rfl (lv_at hl 4 rfl) ?_
  have hi_5 := hw.1
  have hw := hw.2
  refine a_il C hP (layb ho 1 (by decide)) (lay1 ho K _) hi_5 rfl dX0_exchangeCorners_22 ?_
  refine lv_aload_n hx hb dX0_exchangeCorners_23 rfl (lv_at hl 2 rfl) ?_
  refine g_f C hP (layb0 ho) (lay0 ho K _) rfl hX0_exchangeCorners_X0 1 (by decide) kX0_exchangeCorners_f15 rfl dX0_exchangeCorners_24 ?_
  refine lv_iload_n hx hb dX0_exchangeCorners_27 rfl (lv_at hl 4 rfl) ?_
  have hi_6 := hw.1
  have hw := hw.2
  refine a_il C hP (layb ho 2 (by decide)) (lay2 ho K _) hi_6 rfl dX0_exchangeCorners_28 ?_
  refine c_v (run_v (As := [.int v1, .int (M (o + 1) v2.toNatClampNeg), .int (M (o + 2) v2.toNatClampNeg)]) (rest := []) C hP hS (c_X0_moveCorner ho hw) gX0_exchangeCorners_X0_moveCorner rfl dsX0_moveCorner rfl ⟨rfl, rfl⟩ ⟨Nat.le_of_ble_eq_true rfl, Nat.le_of_ble_eq_true rfl⟩ (layb0 ho) (lay0 ho K _) rfl hl.1 rfl (Nat.le_of_ble_eq_true rfl) dX0_exchangeCorners_29 ⟨Nat.le_of_ble_eq_true rfl, Nat.le_of_ble_eq_true rfl⟩) hS (fun M_7 H locs hw hP hS => ?_)
  refine lv_aload_n hx hb dX0_exchangeCorners_32 rfl (lv_at hl 2 rfl) ?_
  refine lv_iload_n hx hb dX0_exchangeCorners_33 rfl (lv_at hl 4 rfl) ?_
  refine lv_iload_n hx hb dX0_exchangeCorners_34 rfl (lv_at hl 1 rfl) ?_
  refine lv_iload hx hb dX0_exchangeCorners_35 (lv_at hl 0 rfl) ?_
  refine c_v (run_v (As := [.int v2, .int x_2, .int x_4]) (rest := []) C hP hS (c_X0_moveCorner ho hw) gX0_exchangeCorners_X0_moveCorner rfl dsX0_moveCorner rfl ⟨rfl, rfl⟩ ⟨Nat.le_of_ble_eq_true rfl, Nat.le_of_ble_eq_true rfl⟩ (layb0 ho) (lay0 ho K _) rfl hl.1 rfl (Nat.le_of_ble_eq_true rfl) dX0_exchangeCorners_37 ⟨Nat.le_of_ble_eq_true rfl, Nat.le_of_ble_eq_true rfl⟩) hS (fun M_8 H locs hw hP hS => ?_)
  exact r_v C hP hS hw dX0_exchangeCorners_40
theorem kX0_removeCorner_f18 : Cond.fieldLink RX0 18 (TX0 2).1 (TX0 2).2.1 (TX0 2).2.2.1 ∈ wsX0_removeCorner := List.mem_of_getElem? (i := 1) rfl
theorem hX0_removeCorner_X0 : ∀ w ∈ u_ws RX0 TX0 10, w ∈ wsX0_removeCorner := fun _ h => List.mem_cons_of_mem _ (List.mem_append_right _ (h))
theorem kX0_removeCorner_f9 : Cond.fieldLink RX0 9 (TX0 0).1 (TX0 0).2.1 (TX0 0).2.2.1 ∈ wsX0_removeCorner := List.mem_of_getElem? (i := 2) rfl
theorem kX0_removeCorner_f15 : Cond.fieldLink RX0 15 (TX0 1).1 (TX0 1).2.1 (TX0 1).2.2.1 ∈ wsX0_removeCorner := List.mem_of_getElem? (i := 3) rfl
abbrev rmX0_removeCorner : Room := { frames := 1, cells := 0, slots := 0, locals := 23 }
abbrev t_X0_removeCorner : Type := (Int32 → Mem → Prop)
def f_X0_removeCorner_4 (o : Nat) (Q : Mem → Prop) (r : t_X0_removeCorner) (v2 : Int32) (M : Mem) : Prop := (((M o 2) ≤ v2 → Q (mU M o 2 ((M o 2) - (1 : Int32)))) ∧ (¬ (M o 2) ≤ v2 → vp_in v2 10 ∧ vp_in v2 10 ∧ q_X0_moveCorner o (v2 - (1 : Int32)) (M (o + 1) v2.toNatClampNeg) (M (o + 2) v2.toNatClampNeg) M (fun M_3 => r (v2 + 1) M_3)))
def p_X0_removeCorner (o : Nat) (Q : Mem → Prop) : Nat → t_X0_removeCorner
  | 0 => fun _ _ => False
  | n + 1 => f_X0_removeCorner_4 o Q (p_X0_removeCorner o Q n)
def e_X0_removeCorner (o : Nat) (v1 : Int32) (Q : Mem → Prop) (r : t_X0_removeCorner) (M : Mem) : Prop := r (v1 + (1 : Int32)) M
def q_X0_removeCorner (o : Nat) (v1 : Int32) (M : Mem) (Q : Mem → Prop) : Prop := ∃ n : Nat, e_X0_removeCorner o v1 Q (p_X0_removeCorner o Q n) M
set_option maxRecDepth 100000 in
set_option maxHeartbeats 4000000 in
theorem b_X0_removeCorner {l : Launch} {K : wC} {o : Nat} {Q : Mem → Prop} {p : Program} {e : Env} {s : State} {m : MethodId} {args : Array Value} {below : List Frame} {meth : Method} {c : Code} (ho : isLay o) (C : cx 51 K p s m args meth c cX0_removeCorner 3 wsX0_removeCorner RX0 none) : ∀ n : Nat, (∀ (v2 : Int32) (M : Mem) (H : Heap) (locs : List Loc) (ls : Array Slot), (p_X0_removeCorner o Q n) v2 M → wP shX 51 K M H → va_S (wA 51 K) s.heap H locs → lv_has ls 3 [(0, .ref (kb K + o)), (2, .int v2)] → W p l e rmX0_removeCorner s m args below meth c H locs 0 0 (MQ below (va_Qv Q (wE shX 51 K) (wA 51 K)) args s 0 0 (wA 51 K)) (F0 m 4 ls [])) := by
  obtain ⟨hx, hb, hml, hown, hts, hr, hlk, hK⟩ := id C
  intro n
  induction n with
  | zero => exact fun _ _ _ _ _ hw _ _ _ => False.elim hw
  | succ n ih =>
    intro v2 M H locs ls hw hP hS hl
    have hw : f_X0_removeCorner_4 o Q (p_X0_removeCorner o Q n) v2 M := hw
    delta f_X0_removeCorner_4 at hw
    refine lv_iload_n hx hb dX0_removeCorner_4 rfl (lv_at hl 1 rfl) ?_
    refine lv_aload_n hx hb dX0_removeCorner_5 rfl (lv_at hl 0 rfl) ?_
    refine g_f C hP (layb0 ho) (lay0 ho K _) rfl hX0_removeCorner_X0 2 (by decide) kX0_removeCorner_f18 rfl dX0_removeCorner_6 ?_
    refine lv_icmp_ge (tgt := 37) hx hb dX0_removeCorner_9 (by decide) (fun hc => ?_) (fun hc => ?_)
    · have hw := hw.1 hc
      refine lv_aload_n hx hb dX0_removeCorner_37 rfl (lv_at hl 0 rfl) ?_
      refine lv_dup hx hb dX0_removeCorner_38 rfl ?_
      refine g_f C hP (layb0 ho) (lay0 ho K _) rfl hX0_removeCorner_X0 2 (by decide) kX0_removeCorner_f18 rfl dX0_removeCorner_39 ?_
      refine lv_iconst hx hb dX0_removeCorner_42 ic_1 ?_
      refine lv_isub hx hb dX0_removeCorner_43 ?_
      refine p_f C hP hS (layb0 ho) (lay0 ho K _) (lay0 ho K _) rfl hX0_removeCorner_X0 tyX0_ok nmX0 (by decide) kX0_removeCorner_f18 rfl rfl rfl (Nat.le_of_ble_eq_true rfl) dX0_removeCorner_44 (fun H locs hP hS => ?_)
      exact r_v C hP hS hw dX0_removeCorner_47
    · have hw := hw.2 hc
      refine lv_aload_n hx hb dX0_removeCorner_12 rfl (lv_at hl 0 rfl) ?_
      refine lv_iload_n hx hb dX0_removeCorner_13 rfl (lv_at hl 1 rfl) ?_
      refine lv_iconst hx hb dX0_removeCorner_14 ic_1 ?_
      refine lv_isub hx hb dX0_removeCorner_15 ?_
      refine lv_aload_n hx hb dX0_removeCorner_16 rfl (lv_at hl 0 rfl) ?_
      refine g_f C hP (layb0 ho) (lay0 ho K _) rfl hX0_removeCorner_X0 0 (by decide) kX0_removeCorner_f9 rfl dX0_removeCorner_17 ?_
      refine lv_iload_n hx hb dX0_removeCorner_20 rfl (lv_at hl 1 rfl) ?_
      have hi_1 := hw.1
      have hw := hw.2
      refine a_il C hP (layb ho 1 (by decide)) (lay1 ho K _) hi_1 rfl dX0_removeCorner_21 ?_
      refine lv_aload_n hx hb dX0_removeCorner_22 rfl (lv_at hl 0 rfl) ?_
      refine g_f C hP (layb0 ho) (lay0 ho K _) rfl hX0_removeCorner_X0 1 (by decide) kX0_removeCorner_f15 rfl dX0_removeCorner_23 ?_
      refine lv_iload_n hx hb dX0_removeCorner_26 rfl (lv_at hl 1 rfl) ?_
      have hi_2 := hw.1
      have hw := hw.2
      refine a_il C hP (layb ho 2 (by decide)) (lay2 ho K _) hi_2 rfl dX0_removeCorner_27 ?_
      refine c_v (run_v (As := [.int (v2 - (1 : Int32)), .int (M (o + 1) v2.toNatClampNeg), .int (M (o + 2) v2.toNatClampNeg)]) (rest := []) C hP hS (c_X0_moveCorner ho hw) gX0_removeCorner_X0_moveCorner rfl dsX0_moveCorner rfl ⟨rfl, rfl⟩ ⟨Nat.le_of_ble_eq_true rfl, Nat.le_of_ble_eq_true rfl⟩ (layb0 ho) (lay0 ho K _) rfl hl.1 rfl (Nat.le_of_ble_eq_true rfl) dX0_removeCorner_28 ⟨Nat.le_of_ble_eq_true rfl, Nat.le_of_ble_eq_true rfl⟩) hS (fun M_3 H locs hw hP hS => ?_)
      refine lv_iinc (v := (v2 + 1)) (lv' := [(2, .int (v2 + 1)), (0, .ref (kb K + o))]) hx hb dX0_removeCorner_31 hl (k := 1) rfl (by rw [ic_1]) (by decide) rfl (fun ls hl => ?_)
      refine lv_goto (tgt := 4) hx hb dX0_removeCorner_34 (by decide) ?_
      exact ih _ _ _ _ _ hw hP hS (lv_sub hl [1, 0] rfl)
theorem dsX0_removeCorner : yX0_removeCorner.cls = RX0 ∧ yX0_removeCorner.cls ≠ "java/lang/invoke/MethodHandle" ∧ yX0_removeCorner.cls ≠ "java/lang/invoke/VarHandle" ∧ (parseMethodDescriptor yX0_removeCorner.desc).map (fun d => d.parameters.length) = some 1 := by decide +kernel
set_option maxRecDepth 100000 in
set_option maxHeartbeats 4000000 in
theorem c_X0_removeCorner {l : Launch} {K : wC} {o : Nat} {v1 : Int32} {M : Mem} {Q : Mem → Prop} (ho : isLay o) (hw : q_X0_removeCorner o v1 M Q) : metV l yX0_removeCorner wsX0_removeCorner rmX0_removeCorner shX 51 K [.ref (kb K + o), .int v1] M Q := by
  refine met_of (cc := cX0_removeCorner) (maxL := 3) (ret := none) (own := RX0) (by decide) rfl rfl (Nat.le_of_ble_eq_true rfl) ?_
  intro p e s m below meth c ls C hl hP hS
  have hl : lv_has ls 3 [(0, .ref (kb K + o)), (1, .int v1)] := hl
  obtain ⟨hx, hb, hml, hown, hts, hr, hlk, hK⟩ := id C
  have hP0 := hP
  obtain ⟨n, hw⟩ := hw
  have ih := b_X0_removeCorner (l := l) (e := e) (below := below) (Q := Q) ho C n
  delta e_X0_removeCorner at hw
  refine lv_iload_n hx hb dX0_removeCorner_0 rfl (lv_at hl 1 rfl) ?_
  refine lv_iconst hx hb dX0_removeCorner_1 ic_1 ?_
  refine lv_iadd hx hb dX0_removeCorner_2 ?_
  refine lv_istore_n (lv' := [(2, .int (v1 + (1 : Int32))), (0, .ref (kb K + o)), (1, .int v1)]) hx hb dX0_removeCorner_3 rfl hl (by decide) rfl (fun ls hl => ?_)
  exact ih _ _ _ _ _ hw hP hS (lv_sub hl [1, 0] rfl)
theorem kX0_appendWheel_f31 : Cond.fieldLink RX0 31 (TX0 6).1 (TX0 6).2.1 (TX0 6).2.2.1 ∈ wsX0_appendWheel := List.mem_of_getElem? (i := 1) rfl
theorem hX0_appendWheel_X0 : ∀ w ∈ u_ws RX0 TX0 10, w ∈ wsX0_appendWheel := fun _ h => List.mem_cons_of_mem _ (List.mem_append_right _ (h))
theorem kX0_appendWheel_f22 : Cond.fieldLink RX0 22 (TX0 3).1 (TX0 3).2.1 (TX0 3).2.2.1 ∈ wsX0_appendWheel := List.mem_of_getElem? (i := 2) rfl
theorem kX0_appendWheel_f25 : Cond.fieldLink RX0 25 (TX0 4).1 (TX0 4).2.1 (TX0 4).2.2.1 ∈ wsX0_appendWheel := List.mem_of_getElem? (i := 3) rfl
theorem kX0_appendWheel_f28 : Cond.fieldLink RX0 28 (TX0 5).1 (TX0 5).2.1 (TX0 5).2.2.1 ∈ wsX0_appendWheel := List.mem_of_getElem? (i := 4) rfl
abbrev rmX0_appendWheel : Room := { frames := 0, cells := 0, slots := 0, locals := 0 }
def q_X0_appendWheel (o : Nat) (v1 : Int32) (v2 : Int32) (M : Mem) (Q : Mem → Prop) : Prop := (((4 : Int32) ≤ (M o 6) → Q M) ∧ (¬ (4 : Int32) ≤ (M o 6) → vp_in (M o 6) 4 ∧ vp_in ((mU M (o + 3) (M o 6).toNatClampNeg v1) o 6) 4 ∧ (∀ M_3 : Mem, M_3 = mU (mU M (o + 3) (M o 6).toNatClampNeg v1) (o + 4) ((mU M (o + 3) (M o 6).toNatClampNeg v1) o 6).toNatClampNeg v2 → vp_in (M_3 o 6) 4 ∧ (∀ M_5 : Mem, M_5 = mU (mU M_3 (o + 5) (M_3 o 6).toNatClampNeg (0 : Int32)) o 6 (((mU M_3 (o + 5) (M_3 o 6).toNatClampNeg (0 : Int32)) o 6) + (1 : Int32)) → Q M_5))))
theorem dsX0_appendWheel : yX0_appendWheel.cls = RX0 ∧ yX0_appendWheel.cls ≠ "java/lang/invoke/MethodHandle" ∧ yX0_appendWheel.cls ≠ "java/lang/invoke/VarHandle" ∧ (parseMethodDescriptor yX0_appendWheel.desc).map (fun d => d.parameters.length) = some 2 := by decide +kernel
set_option maxRecDepth 100000 in
set_option maxHeartbeats 4000000 in
theorem c_X0_appendWheel {l : Launch} {K : wC} {o : Nat} {v1 : Int32} {v2 : Int32} {M : Mem} {Q : Mem → Prop} (ho : isLay o) (hw : q_X0_appendWheel o v1 v2 M Q) : metV l yX0_appendWheel wsX0_appendWheel rmX0_appendWheel shX 51 K [.ref (kb K + o), .int v1, .int v2] M Q := by
  refine met_of (cc := cX0_appendWheel) (maxL := 3) (ret := none) (own := RX0) (by decide) rfl rfl (Nat.le_of_ble_eq_true rfl) ?_
  intro p e s m below meth c ls C hl hP hS
  have hl : lv_has ls 3 [(0, .ref (kb K + o)), (1, .int v1), (2, .int v2)] := hl
  obtain ⟨hx, hb, hml, hown, hts, hr, hlk, hK⟩ := id C
  have hP0 := hP
  delta q_X0_appendWheel at hw
  refine lv_aload_n hx hb dX0_appendWheel_0 rfl (lv_at hl 0 rfl) ?_
  refine g_f C hP (layb0 ho) (lay0 ho K _) rfl hX0_appendWheel_X0 6 (by decide) kX0_appendWheel_f31 rfl dX0_appendWheel_1 ?_
  refine lv_iconst hx hb dX0_appendWheel_4 ic_4 ?_
  refine lv_icmp_ge (tgt := 48) hx hb dX0_appendWheel_5 (by decide) (fun hc => ?_) (fun hc => ?_)
  · have hw := hw.1 hc
    exact r_v C hP hS hw dX0_appendWheel_48
  · have hw := hw.2 hc
    refine lv_aload_n hx hb dX0_appendWheel_8 rfl (lv_at hl 0 rfl) ?_
    refine g_f C hP (layb0 ho) (lay0 ho K _) rfl hX0_appendWheel_X0 3 (by decide) kX0_appendWheel_f22 rfl dX0_appendWheel_9 ?_
    refine lv_aload_n hx hb dX0_appendWheel_12 rfl (lv_at hl 0 rfl) ?_
    refine g_f C hP (layb0 ho) (lay0 ho K _) rfl hX0_appendWheel_X0 6 (by decide) kX0_appendWheel_f31 rfl dX0_appendWheel_13 ?_
    refine lv_iload_n hx hb dX0_appendWheel_16 rfl (lv_at hl 1 rfl) ?_
    have hi_1 := hw.1
    have hw := hw.2
    refine a_is C hP hS (layb ho 3 (by decide)) (lay3 ho K) hi_1 rfl dX0_appendWheel_17 (fun H locs hP hS => ?_)
    refine lv_aload_n hx hb dX0_appendWheel_18 rfl (lv_at hl 0 rfl) ?_
    refine g_f C hP (layb0 ho) (lay0 ho K _) rfl hX0_appendWheel_X0 4 (by decide) kX0_appendWheel_f25 rfl dX0_appendWheel_19 ?_
    refine lv_aload_n hx hb dX0_appendWheel_22 rfl (lv_at hl 0 rfl) ?_
    refine g_f C hP (layb0 ho) (lay0 ho K _) rfl hX0_appendWheel_X0 6 (by decide) kX0_appendWheel_f31 rfl dX0_appendWheel_23 ?_
    refine lv_iload_n hx hb dX0_appendWheel_26 rfl (lv_at hl 2 rfl) ?_
    have hi_2 := hw.1
    have hw := hw.2
    refine a_is C hP hS (layb ho 4 (by decide)) (lay4 ho K) hi_2 rfl dX0_appendWheel_27 (fun H locs hP hS => ?_)
    obtain ⟨M_3, eM_3⟩ : ∃ z : Mem, z = mU (mU M (o + 3) (M o 6).toNatClampNeg v1) (o + 4) ((mU M (o + 3) (M o 6).toNatClampNeg v1) o 6).toNatClampNeg v2 := ⟨_, rfl⟩
    rw [← eM_3] at hP
    have hw := hw M_3 eM_3
    refine lv_aload_n hx hb dX0_appendWheel_28 rfl (lv_at hl 0 rfl) ?_
    refine g_f C hP (layb0 ho) (lay0 ho K _) rfl hX0_appendWheel_X0 5 (by decide) kX0_appendWheel_f28 rfl dX0_appendWheel_29 ?_
    refine lv_aload_n hx hb dX0_appendWheel_32 rfl (lv_at hl 0 rfl) ?_
    refine g_f C hP (layb0 ho) (lay0 ho K _) rfl hX0_appendWheel_X0 6 (by decide) kX0_appendWheel_f31 rfl dX0_appendWheel_33 ?_
    refine lv_iconst hx hb dX0_appendWheel_36 ic_0 ?_
    have hi_4 := hw.1
    have hw := hw.2
    refine a_is C hP hS (layb ho 5 (by decide)) (lay5 ho K) hi_4 rfl dX0_appendWheel_37 (fun H locs hP hS => ?_)
    refine lv_aload_n hx hb dX0_appendWheel_38 rfl (lv_at hl 0 rfl) ?_
    refine lv_dup hx hb dX0_appendWheel_39 rfl ?_
    refine g_f C hP (layb0 ho) (lay0 ho K _) rfl hX0_appendWheel_X0 6 (by decide) kX0_appendWheel_f31 rfl dX0_appendWheel_40 ?_
    refine lv_iconst hx hb dX0_appendWheel_43 ic_1 ?_
    refine lv_iadd hx hb dX0_appendWheel_44 ?_
    refine p_f C hP hS (layb0 ho) (lay0 ho K _) (lay0 ho K _) rfl hX0_appendWheel_X0 tyX0_ok nmX0 (by decide) kX0_appendWheel_f31 rfl rfl rfl (Nat.le_of_ble_eq_true rfl) dX0_appendWheel_45 (fun H locs hP hS => ?_)
    obtain ⟨M_5, eM_5⟩ : ∃ z : Mem, z = mU (mU M_3 (o + 5) (M_3 o 6).toNatClampNeg (0 : Int32)) o 6 (((mU M_3 (o + 5) (M_3 o 6).toNatClampNeg (0 : Int32)) o 6) + (1 : Int32)) := ⟨_, rfl⟩
    rw [← eM_5] at hP
    have hw := hw M_5 eM_5
    exact r_v C hP hS hw dX0_appendWheel_48
theorem kX0_movePole_f34 : Cond.fieldLink RX0 34 (TX0 7).1 (TX0 7).2.1 (TX0 7).2.2.1 ∈ wsX0_movePole := List.mem_of_getElem? (i := 1) rfl
theorem hX0_movePole_X0 : ∀ w ∈ u_ws RX0 TX0 10, w ∈ wsX0_movePole := fun _ h => List.mem_cons_of_mem _ (List.mem_append_right _ (h))
theorem kX0_movePole_f37 : Cond.fieldLink RX0 37 (TX0 8).1 (TX0 8).2.1 (TX0 8).2.2.1 ∈ wsX0_movePole := List.mem_of_getElem? (i := 2) rfl
abbrev rmX0_movePole : Room := { frames := 0, cells := 0, slots := 0, locals := 0 }
def q_X0_movePole (o : Nat) (v1 : Int32) (v2 : Int32) (M : Mem) (Q : Mem → Prop) : Prop := Q (mU (mU M o 7 v1) o 8 v2)
theorem dsX0_movePole : yX0_movePole.cls = RX0 ∧ yX0_movePole.cls ≠ "java/lang/invoke/MethodHandle" ∧ yX0_movePole.cls ≠ "java/lang/invoke/VarHandle" ∧ (parseMethodDescriptor yX0_movePole.desc).map (fun d => d.parameters.length) = some 2 := by decide +kernel
set_option maxRecDepth 100000 in
set_option maxHeartbeats 4000000 in
theorem c_X0_movePole {l : Launch} {K : wC} {o : Nat} {v1 : Int32} {v2 : Int32} {M : Mem} {Q : Mem → Prop} (ho : isLay o) (hw : q_X0_movePole o v1 v2 M Q) : metV l yX0_movePole wsX0_movePole rmX0_movePole shX 51 K [.ref (kb K + o), .int v1, .int v2] M Q := by
  refine met_of (cc := cX0_movePole) (maxL := 3) (ret := none) (own := RX0) (by decide) rfl rfl (Nat.le_of_ble_eq_true rfl) ?_
  intro p e s m below meth c ls C hl hP hS
  have hl : lv_has ls 3 [(0, .ref (kb K + o)), (1, .int v1), (2, .int v2)] := hl
  obtain ⟨hx, hb, hml, hown, hts, hr, hlk, hK⟩ := id C
  have hP0 := hP
  delta q_X0_movePole at hw
  refine lv_aload_n hx hb dX0_movePole_0 rfl (lv_at hl 0 rfl) ?_
  refine lv_iload_n hx hb dX0_movePole_1 rfl (lv_at hl 1 rfl) ?_
  refine p_f C hP hS (layb0 ho) (lay0 ho K _) (lay0 ho K _) rfl hX0_movePole_X0 tyX0_ok nmX0 (by decide) kX0_movePole_f34 rfl rfl rfl (Nat.le_of_ble_eq_true rfl) dX0_movePole_2 (fun H locs hP hS => ?_)
  refine lv_aload_n hx hb dX0_movePole_5 rfl (lv_at hl 0 rfl) ?_
  refine lv_iload_n hx hb dX0_movePole_6 rfl (lv_at hl 2 rfl) ?_
  refine p_f C hP hS (layb0 ho) (lay0 ho K _) (lay0 ho K _) rfl hX0_movePole_X0 tyX0_ok nmX0 (by decide) kX0_movePole_f37 rfl rfl rfl (Nat.le_of_ble_eq_true rfl) dX0_movePole_7 (fun H locs hP hS => ?_)
  exact r_v C hP hS hw dX0_movePole_10
theorem kX0_sweepOf_f18 : Cond.fieldLink RX0 18 (TX0 2).1 (TX0 2).2.1 (TX0 2).2.2.1 ∈ wsX0_sweepOf := List.mem_of_getElem? (i := 1) rfl
theorem hX0_sweepOf_X0 : ∀ w ∈ u_ws RX0 TX0 10, w ∈ wsX0_sweepOf := fun _ h => List.mem_cons_of_mem _ (List.mem_append_right _ (h))
theorem kX0_sweepOf_f9 : Cond.fieldLink RX0 9 (TX0 0).1 (TX0 0).2.1 (TX0 0).2.2.1 ∈ wsX0_sweepOf := List.mem_of_getElem? (i := 2) rfl
theorem kX0_sweepOf_f34 : Cond.fieldLink RX0 34 (TX0 7).1 (TX0 7).2.1 (TX0 7).2.2.1 ∈ wsX0_sweepOf := List.mem_of_getElem? (i := 3) rfl
theorem kX0_sweepOf_f15 : Cond.fieldLink RX0 15 (TX0 1).1 (TX0 1).2.1 (TX0 1).2.2.1 ∈ wsX0_sweepOf := List.mem_of_getElem? (i := 4) rfl
theorem kX0_sweepOf_f37 : Cond.fieldLink RX0 37 (TX0 8).1 (TX0 8).2.1 (TX0 8).2.2.1 ∈ wsX0_sweepOf := List.mem_of_getElem? (i := 5) rfl
abbrev rmX0_sweepOf : Room := { frames := 0, cells := 0, slots := 0, locals := 0 }
def f_X0_sweepOf_17 (o : Nat) (Q : Int32 → Mem → Prop) (v1 : Int32) (s0 : Int32) (M : Mem) : Prop := vp_in v1 10 ∧ (∀ x_2 : Int32, x_2 = ((M (o + 1) v1.toNatClampNeg) - (M o 7)) → vp_in v1 10 ∧ (∀ x_4 : Int32, x_4 = ((M (o + 2) v1.toNatClampNeg) - (M o 8)) → vp_in s0 10 ∧ (∀ x_6 : Int32, x_6 = ((M (o + 1) s0.toNatClampNeg) - (M o 7)) → vp_in s0 10 ∧ (∀ x_8 : Int32, x_8 = ((M (o + 2) s0.toNatClampNeg) - (M o 8)) → Q ((x_2 * x_8) - (x_6 * x_4)) M))))
def q_X0_sweepOf (o : Nat) (v1 : Int32) (M : Mem) (Q : Int32 → Mem → Prop) : Prop := (((M o 2) ≤ (v1 + (1 : Int32)) → f_X0_sweepOf_17 o Q v1 (0 : Int32) M) ∧ (¬ (M o 2) ≤ (v1 + (1 : Int32)) → f_X0_sweepOf_17 o Q v1 (v1 + (1 : Int32)) M))
set_option maxRecDepth 100000 in
set_option maxHeartbeats 4000000 in
theorem b_X0_sweepOf_17 {l : Launch} {K : wC} {o : Nat} {Q : Int32 → Mem → Prop} {p : Program} {e : Env} {s : State} {m : MethodId} {args : Array Value} {below : List Frame} {meth : Method} {c : Code} (ho : isLay o) (C : cx 51 K p s m args meth c cX0_sweepOf 7 wsX0_sweepOf RX0 (some .int)) (v1 : Int32) (s0 : Int32) (M : Mem) (H : Heap) (locs : List Loc) (ls : Array Slot) (hw : f_X0_sweepOf_17 o Q v1 s0 M) (hP : wP shX 51 K M H) (hS : va_S (wA 51 K) s.heap H locs) (hl : lv_has ls 7 [(0, .ref (kb K + o)), (1, .int v1)]) : W p l e rmX0_sweepOf s m args below meth c H locs 0 0 (MQ below (va_Qi Q (wE shX 51 K) (wA 51 K)) args s 0 0 (wA 51 K)) (F0 m 17 ls [.int s0]) := by
  obtain ⟨hx, hb, hml, hown, hts, hr, hlk, hK⟩ := id C
  delta f_X0_sweepOf_17 at hw
  refine lv_istore_n (lv' := [(2, .int s0), (0, .ref (kb K + o)), (1, .int v1)]) hx hb dX0_sweepOf_17 rfl hl (by decide) rfl (fun ls hl => ?_)
  refine lv_aload_n hx hb dX0_sweepOf_18 rfl (lv_at hl 1 rfl) ?_
  refine g_f C hP (layb0 ho) (lay0 ho K _) rfl hX0_sweepOf_X0 0 (by decide) kX0_sweepOf_f9 rfl dX0_sweepOf_19 ?_
  refine lv_iload_n hx hb dX0_sweepOf_22 rfl (lv_at hl 2 rfl) ?_
  have hi_1 := hw.1
  have hw := hw.2
  refine a_il C hP (layb ho 1 (by decide)) (lay1 ho K _) hi_1 rfl dX0_sweepOf_23 ?_
  refine lv_aload_n hx hb dX0_sweepOf_24 rfl (lv_at hl 1 rfl) ?_
  refine g_f C hP (layb0 ho) (lay0 ho K _) rfl hX0_sweepOf_X0 7 (by decide) kX0_sweepOf_f34 rfl dX0_sweepOf_25 ?_
  refine lv_isub hx hb dX0_sweepOf_28 ?_
  refine lv_topi (fun x_2 ex_2 => ?_)
  have hw := hw x_2 ex_2
  refine lv_istore_n (lv' := [(3, .int x_2), (2, .int s0), (0, .ref (kb K + o)), (1, .int v1)]) hx hb dX0_sweepOf_29 rfl hl (by decide) rfl (fun ls hl => ?_)
  refine lv_aload_n hx hb dX0_sweepOf_30 rfl (lv_at hl 2 rfl) ?_
  refine g_f C hP (layb0 ho) (lay0 ho K _) rfl hX0_sweepOf_X0 1 (by decide) kX0_sweepOf_f15 rfl dX0_sweepOf_31 ?_
  refine lv_iload_n hx hb dX0_sweepOf_34 rfl (lv_at hl 3 rfl) ?_
  have hi_3 := hw.1
  have hw := hw.2
  refine a_il C hP (layb ho 2 (by decide)) (lay2 ho K _) hi_3 rfl dX0_sweepOf_35 ?_
  refine lv_aload_n hx hb dX0_sweepOf_36 rfl (lv_at hl 2 rfl) ?_
  refine g_f C hP (layb0 ho) (lay0 ho K _) rfl hX0_sweepOf_X0 8 (by decide) kX0_sweepOf_f37 rfl dX0_sweepOf_37 ?_
  refine lv_isub hx hb dX0_sweepOf_40 ?_
  refine lv_topi (fun x_4 ex_4 => ?_)
  have hw := hw x_4 ex_4
  refine lv_istore (lv' := [(4, .int x_4), (3, .int x_2), (2, .int s0), (0, .ref (kb K + o)), (1, .int v1)]) hx hb dX0_sweepOf_41 hl (by decide) rfl (fun ls hl => ?_)
  refine lv_aload_n hx hb dX0_sweepOf_43 rfl (lv_at hl 3 rfl) ?_
  refine g_f C hP (layb0 ho) (lay0 ho K _) rfl hX0_sweepOf_X0 0 (by decide) kX0_sweepOf_f9 rfl dX0_sweepOf_44 ?_
  refine lv_iload_n hx hb dX0_sweepOf_47 rfl (lv_at hl 2 rfl) ?_
  have hi_5 := hw.1
  have hw := hw.2
  refine a_il C hP (layb ho 1 (by decide)) (lay1 ho K _) hi_5 rfl dX0_sweepOf_48 ?_
  refine lv_aload_n hx hb dX0_sweepOf_49 rfl (lv_at hl 3 rfl) ?_
  refine g_f C hP (layb0 ho) (lay0 ho K _) rfl hX0_sweepOf_X0 7 (by decide) kX0_sweepOf_f34 rfl dX0_sweepOf_50 ?_
  refine lv_isub hx hb dX0_sweepOf_53 ?_
  refine lv_topi (fun x_6 ex_6 => ?_)
  have hw := hw x_6 ex_6
  refine lv_istore (lv' := [(5, .int x_6), (4, .int x_4), (3, .int x_2), (2, .int s0), (0, .ref (kb K + o)), (1, .int v1)]) hx hb dX0_sweepOf_54 hl (by decide) rfl (fun ls hl => ?_)
  refine lv_aload_n hx hb dX0_sweepOf_56 rfl (lv_at hl 4 rfl) ?_
  refine g_f C hP (layb0 ho) (lay0 ho K _) rfl hX0_sweepOf_X0 1 (by decide) kX0_sweepOf_f15 rfl dX0_sweepOf_57 ?_
  refine lv_iload_n hx hb dX0_sweepOf_60 rfl (lv_at hl 3 rfl) ?_
  have hi_7 := hw.1
  have hw := hw.2
  refine a_il C hP (layb ho 2 (by decide)) (lay2 ho K _) hi_7 rfl dX0_sweepOf_61 ?_
  refine lv_aload_n hx hb dX0_sweepOf_62 rfl (lv_at hl 4 rfl) ?_
  refine g_f C hP (layb0 ho) (lay0 ho K _) rfl hX0_sweepOf_X0 8 (by decide) kX0_sweepOf_f37 rfl dX0_sweepOf_63 ?_
  refine lv_isub hx hb dX0_sweepOf_66 ?_
  refine lv_topi (fun x_8 ex_8 => ?_)
  have hw := hw x_8 ex_8
  refine lv_istore (lv' := [(6, .int x_8), (5, .int x_6), (4, .int x_4), (3, .int x_2), (2, .int s0), (0, .ref (kb K + o)), (1, .int v1)]) hx hb dX0_sweepOf_67 hl (by decide) rfl (fun ls hl => ?_)
  refine lv_iload_n hx hb dX0_sweepOf_69 rfl (lv_at hl 3 rfl) ?_
  refine lv_iload hx hb dX0_sweepOf_70 (lv_at hl 0 rfl) ?_
  refine lv_imul hx hb dX0_sweepOf_72 ?_
  refine lv_iload hx hb dX0_sweepOf_73 (lv_at hl 1 rfl) ?_
  refine lv_iload hx hb dX0_sweepOf_75 (lv_at hl 2 rfl) ?_
  refine lv_imul hx hb dX0_sweepOf_77 ?_
  refine lv_isub hx hb dX0_sweepOf_78 ?_
  exact r_i C hP hS hw dX0_sweepOf_79
theorem dsX0_sweepOf : yX0_sweepOf.cls = RX0 ∧ yX0_sweepOf.cls ≠ "java/lang/invoke/MethodHandle" ∧ yX0_sweepOf.cls ≠ "java/lang/invoke/VarHandle" ∧ (parseMethodDescriptor yX0_sweepOf.desc).map (fun d => d.parameters.length) = some 1 := by decide +kernel
set_option maxRecDepth 100000 in
set_option maxHeartbeats 4000000 in
theorem c_X0_sweepOf {l : Launch} {K : wC} {o : Nat} {v1 : Int32} {M : Mem} {Q : Int32 → Mem → Prop} (ho : isLay o) (hw : q_X0_sweepOf o v1 M Q) : metI l yX0_sweepOf wsX0_sweepOf rmX0_sweepOf shX 51 K [.ref (kb K + o), .int v1] M Q := by
  refine met_of (cc := cX0_sweepOf) (maxL := 7) (ret := (some .int)) (own := RX0) (by decide) rfl rfl (Nat.le_of_ble_eq_true rfl) ?_
  intro p e s m below meth c ls C hl hP hS
  have hl : lv_has ls 7 [(0, .ref (kb K + o)), (1, .int v1)] := hl
  obtain ⟨hx, hb, hml, hown, hts, hr, hlk, hK⟩ := id C
  have hP0 := hP
  delta q_X0_sweepOf at hw
  refine lv_iload_n hx hb dX0_sweepOf_0 rfl (lv_at hl 1 rfl) ?_
  refine lv_iconst hx hb dX0_sweepOf_1 ic_1 ?_
  refine lv_iadd hx hb dX0_sweepOf_2 ?_
  refine lv_aload_n hx hb dX0_sweepOf_3 rfl (lv_at hl 0 rfl) ?_
  refine g_f C hP (layb0 ho) (lay0 ho K _) rfl hX0_sweepOf_X0 2 (by decide) kX0_sweepOf_f18 rfl dX0_sweepOf_4 ?_
  refine lv_icmp_ge (tgt := 16) hx hb dX0_sweepOf_7 (by decide) (fun hc => ?_) (fun hc => ?_)
  · have hw := hw.1 hc
    refine lv_iconst hx hb dX0_sweepOf_16 ic_0 ?_
    exact b_X0_sweepOf_17 ho C _ _ _ _ _ _ hw hP hS (lv_sub hl [0, 1] rfl)
  · have hw := hw.2 hc
    refine lv_iload_n hx hb dX0_sweepOf_10 rfl (lv_at hl 1 rfl) ?_
    refine lv_iconst hx hb dX0_sweepOf_11 ic_1 ?_
    refine lv_iadd hx hb dX0_sweepOf_12 ?_
    refine lv_goto (tgt := 17) hx hb dX0_sweepOf_13 (by decide) ?_
    exact b_X0_sweepOf_17 ho C _ _ _ _ _ _ hw hP hS (lv_sub hl [0, 1] rfl)
theorem kX0_area_f18 : Cond.fieldLink RX0 18 (TX0 2).1 (TX0 2).2.1 (TX0 2).2.2.1 ∈ wsX0_area := List.mem_of_getElem? (i := 1) rfl
theorem hX0_area_X0 : ∀ w ∈ u_ws RX0 TX0 10, w ∈ wsX0_area := fun _ h => List.mem_cons_of_mem _ (List.mem_append_right _ (h))
abbrev rmX0_area : Room := { frames := 1, cells := 0, slots := 0, locals := 26 }
abbrev t_X0_area : Type := (Int32 → Int32 → Mem → Prop)
def f_X0_area_4 (o : Nat) (Q : Int32 → Mem → Prop) (r : t_X0_area) (v1 : Int32) (v2 : Int32) (M : Mem) : Prop := (((M o 2) ≤ v2 → Q v1 M) ∧ (¬ (M o 2) ≤ v2 → q_X0_sweepOf o v2 M (fun r_2 M_1 => r (v1 + r_2) (v2 + 1) M_1)))
def p_X0_area (o : Nat) (Q : Int32 → Mem → Prop) : Nat → t_X0_area
  | 0 => fun _ _ _ => False
  | n + 1 => f_X0_area_4 o Q (p_X0_area o Q n)
def e_X0_area (o : Nat) (Q : Int32 → Mem → Prop) (r : t_X0_area) (M : Mem) : Prop := r (0 : Int32) (0 : Int32) M
def q_X0_area (o : Nat) (M : Mem) (Q : Int32 → Mem → Prop) : Prop := ∃ n : Nat, e_X0_area o Q (p_X0_area o Q n) M
set_option maxRecDepth 100000 in
set_option maxHeartbeats 4000000 in
theorem b_X0_area {l : Launch} {K : wC} {o : Nat} {Q : Int32 → Mem → Prop} {p : Program} {e : Env} {s : State} {m : MethodId} {args : Array Value} {below : List Frame} {meth : Method} {c : Code} (ho : isLay o) (C : cx 51 K p s m args meth c cX0_area 3 wsX0_area RX0 (some .int)) : ∀ n : Nat, (∀ (v1 : Int32) (v2 : Int32) (M : Mem) (H : Heap) (locs : List Loc) (ls : Array Slot), (p_X0_area o Q n) v1 v2 M → wP shX 51 K M H → va_S (wA 51 K) s.heap H locs → lv_has ls 3 [(0, .ref (kb K + o)), (1, .int v1), (2, .int v2)] → W p l e rmX0_area s m args below meth c H locs 0 0 (MQ below (va_Qi Q (wE shX 51 K) (wA 51 K)) args s 0 0 (wA 51 K)) (F0 m 4 ls [])) := by
  obtain ⟨hx, hb, hml, hown, hts, hr, hlk, hK⟩ := id C
  intro n
  induction n with
  | zero => exact fun _ _ _ _ _ _ hw _ _ _ => False.elim hw
  | succ n ih =>
    intro v1 v2 M H locs ls hw hP hS hl
    have hw : f_X0_area_4 o Q (p_X0_area o Q n) v1 v2 M := hw
    delta f_X0_area_4 at hw
    refine lv_iload_n hx hb dX0_area_4 rfl (lv_at hl 2 rfl) ?_
    refine lv_aload_n hx hb dX0_area_5 rfl (lv_at hl 0 rfl) ?_
    refine g_f C hP (layb0 ho) (lay0 ho K _) rfl hX0_area_X0 2 (by decide) kX0_area_f18 rfl dX0_area_6 ?_
    refine lv_icmp_ge (tgt := 26) hx hb dX0_area_9 (by decide) (fun hc => ?_) (fun hc => ?_)
    · have hw := hw.1 hc
      refine lv_iload_n hx hb dX0_area_26 rfl (lv_at hl 1 rfl) ?_
      exact r_i C hP hS hw dX0_area_27
    · have hw := hw.2 hc
      refine lv_iload_n hx hb dX0_area_12 rfl (lv_at hl 1 rfl) ?_
      refine lv_aload_n hx hb dX0_area_13 rfl (lv_at hl 0 rfl) ?_
      refine lv_iload_n hx hb dX0_area_14 rfl (lv_at hl 2 rfl) ?_
      refine c_i (run_v (As := [.int v2]) (rest := [.int v1]) C hP hS (c_X0_sweepOf ho hw) gX0_area_X0_sweepOf rfl dsX0_sweepOf rfl ⟨rfl, rfl⟩ ⟨Nat.le_of_ble_eq_true rfl, Nat.le_of_ble_eq_true rfl⟩ (layb0 ho) (lay0 ho K _) rfl hl.1 rfl (Nat.le_of_ble_eq_true rfl) dX0_area_15 ⟨Nat.le_of_ble_eq_true rfl, Nat.le_of_ble_eq_true rfl⟩) hS (fun r_2 M_1 H locs hw hP hS => ?_)
      refine lv_iadd hx hb dX0_area_18 ?_
      refine lv_istore_n (lv' := [(1, .int (v1 + r_2)), (0, .ref (kb K + o)), (2, .int v2)]) hx hb dX0_area_19 rfl hl (by decide) rfl (fun ls hl => ?_)
      refine lv_iinc (v := (v2 + 1)) (lv' := [(2, .int (v2 + 1)), (1, .int (v1 + r_2)), (0, .ref (kb K + o))]) hx hb dX0_area_20 hl (k := 2) rfl (by rw [ic_1]) (by decide) rfl (fun ls hl => ?_)
      refine lv_goto (tgt := 4) hx hb dX0_area_23 (by decide) ?_
      exact ih _ _ _ _ _ _ hw hP hS (lv_sub hl [2, 1, 0] rfl)
theorem dsX0_area : yX0_area.cls = RX0 ∧ yX0_area.cls ≠ "java/lang/invoke/MethodHandle" ∧ yX0_area.cls ≠ "java/lang/invoke/VarHandle" ∧ (parseMethodDescriptor yX0_area.desc).map (fun d => d.parameters.length) = some 0 := by decide +kernel
set_option maxRecDepth 100000 in
set_option maxHeartbeats 4000000 in
theorem c_X0_area {l : Launch} {K : wC} {o : Nat} {M : Mem} {Q : Int32 → Mem → Prop} (ho : isLay o) (hw : q_X0_area o M Q) : metI l yX0_area wsX0_area rmX0_area shX 51 K [.ref (kb K + o)] M Q := by
  refine met_of (cc := cX0_area) (maxL := 3) (ret := (some .int)) (own := RX0) (by decide) rfl rfl (Nat.le_of_ble_eq_true rfl) ?_
  intro p e s m below meth c ls C hl hP hS
  have hl : lv_has ls 3 [(0, .ref (kb K + o))] := hl
  obtain ⟨hx, hb, hml, hown, hts, hr, hlk, hK⟩ := id C
  have hP0 := hP
  obtain ⟨n, hw⟩ := hw
  have ih := b_X0_area (l := l) (e := e) (below := below) (Q := Q) ho C n
  delta e_X0_area at hw
  refine lv_iconst hx hb dX0_area_0 ic_0 ?_
  refine lv_istore_n (lv' := [(1, .int (0 : Int32)), (0, .ref (kb K + o))]) hx hb dX0_area_1 rfl hl (by decide) rfl (fun ls hl => ?_)
  refine lv_iconst hx hb dX0_area_2 ic_0 ?_
  refine lv_istore_n (lv' := [(2, .int (0 : Int32)), (1, .int (0 : Int32)), (0, .ref (kb K + o))]) hx hb dX0_area_3 rfl hl (by decide) rfl (fun ls hl => ?_)
  exact ih _ _ _ _ _ _ hw hP hS (lv_sub hl [2, 1, 0] rfl)
theorem kX0_areaUnsigned_m61 : Cond.methodLink RX0 61 Lib.Math.abs.name ∈ wsX0_areaUnsigned := List.mem_of_getElem? (i := 1) rfl
theorem kX0_areaUnsigned_ma1 : Cond.static Lib.Math.abs.name ∈ wsX0_areaUnsigned := List.mem_of_getElem? (i := 2) rfl
theorem kX0_areaUnsigned_ma2 : Cond.initialized "java/lang/Math" ∈ wsX0_areaUnsigned := List.mem_of_getElem? (i := 3) rfl
theorem kX0_areaUnsigned_ma3 : Cond.code Lib.Math.abs.name Lib.Math.abs.code 1 (some .int) ∈ wsX0_areaUnsigned := List.mem_of_getElem? (i := 4) rfl
abbrev rmX0_areaUnsigned : Room := { frames := 2, cells := 0, slots := 0, locals := 48 }
def q_X0_areaUnsigned (o : Nat) (M : Mem) (Q : Int32 → Mem → Prop) : Prop := q_X0_area o M (fun r_2 M_1 => Q (iabs r_2) M_1)
theorem dsX0_areaUnsigned : yX0_areaUnsigned.cls = RX0 ∧ yX0_areaUnsigned.cls ≠ "java/lang/invoke/MethodHandle" ∧ yX0_areaUnsigned.cls ≠ "java/lang/invoke/VarHandle" ∧ (parseMethodDescriptor yX0_areaUnsigned.desc).map (fun d => d.parameters.length) = some 0 := by decide +kernel
set_option maxRecDepth 100000 in
set_option maxHeartbeats 4000000 in
theorem c_X0_areaUnsigned {l : Launch} {K : wC} {o : Nat} {M : Mem} {Q : Int32 → Mem → Prop} (ho : isLay o) (hw : q_X0_areaUnsigned o M Q) : metI l yX0_areaUnsigned wsX0_areaUnsigned rmX0_areaUnsigned shX 51 K [.ref (kb K + o)] M Q := by
  refine met_of (cc := cX0_areaUnsigned) (maxL := 1) (ret := (some .int)) (own := RX0) (by decide) rfl rfl (Nat.le_of_ble_eq_true rfl) ?_
  intro p e s m below meth c ls C hl hP hS
  have hl : lv_has ls 1 [(0, .ref (kb K + o))] := hl
  obtain ⟨hx, hb, hml, hown, hts, hr, hlk, hK⟩ := id C
  have hP0 := hP
  delta q_X0_areaUnsigned at hw
  refine lv_aload_n hx hb dX0_areaUnsigned_0 rfl (lv_at hl 0 rfl) ?_
  refine c_i (run_v (As := []) (rest := []) C hP hS (c_X0_area ho hw) gX0_areaUnsigned_X0_area rfl dsX0_area rfl ⟨rfl, rfl⟩ ⟨Nat.le_of_ble_eq_true rfl, Nat.le_of_ble_eq_true rfl⟩ (layb0 ho) (lay0 ho K _) rfl hl.1 rfl (Nat.le_of_ble_eq_true rfl) dX0_areaUnsigned_1 ⟨Nat.le_of_ble_eq_true rfl, Nat.le_of_ble_eq_true rfl⟩) hS (fun r_2 M_1 H locs hw hP hS => ?_)
  refine m_abs C hl.1 kX0_areaUnsigned_m61 kX0_areaUnsigned_ma1 kX0_areaUnsigned_ma2 kX0_areaUnsigned_ma3 (Nat.le_of_ble_eq_true rfl) (Nat.le_of_ble_eq_true rfl) (Nat.le_of_ble_eq_true rfl) (Nat.le_of_ble_eq_true rfl) dX0_areaUnsigned_4 ?_
  exact r_i C hP hS hw dX0_areaUnsigned_7
theorem kX0_edgeAhead_f18 : Cond.fieldLink RX0 18 (TX0 2).1 (TX0 2).2.1 (TX0 2).2.2.1 ∈ wsX0_edgeAhead := List.mem_of_getElem? (i := 1) rfl
theorem hX0_edgeAhead_X0 : ∀ w ∈ u_ws RX0 TX0 10, w ∈ wsX0_edgeAhead := fun _ h => List.mem_cons_of_mem _ (List.mem_append_right _ (h))
theorem kX0_edgeAhead_f40 : Cond.fieldLink RX0 40 (TX0 9).1 (TX0 9).2.1 (TX0 9).2.2.1 ∈ wsX0_edgeAhead := List.mem_of_getElem? (i := 2) rfl
abbrev rmX0_edgeAhead : Room := { frames := 0, cells := 0, slots := 0, locals := 0 }
def q_X0_edgeAhead (o : Nat) (v1 : Int32) (M : Mem) (Q : Int32 → Mem → Prop) : Prop := ((¬ (M o 2) = 0 → (¬ (M o 2) = 0) ∧ Q (((M o 9) + v1) - ((M o 9) + v1) / (M o 2) * (M o 2)) M) ∧ ((M o 2) = 0 → Q (-4 : Int32) M))
theorem dsX0_edgeAhead : yX0_edgeAhead.cls = RX0 ∧ yX0_edgeAhead.cls ≠ "java/lang/invoke/MethodHandle" ∧ yX0_edgeAhead.cls ≠ "java/lang/invoke/VarHandle" ∧ (parseMethodDescriptor yX0_edgeAhead.desc).map (fun d => d.parameters.length) = some 1 := by decide +kernel
set_option maxRecDepth 100000 in
set_option maxHeartbeats 4000000 in
theorem c_X0_edgeAhead {l : Launch} {K : wC} {o : Nat} {v1 : Int32} {M : Mem} {Q : Int32 → Mem → Prop} (ho : isLay o) (hw : q_X0_edgeAhead o v1 M Q) : metI l yX0_edgeAhead wsX0_edgeAhead rmX0_edgeAhead shX 51 K [.ref (kb K + o), .int v1] M Q := by
  refine met_of (cc := cX0_edgeAhead) (maxL := 2) (ret := (some .int)) (own := RX0) (by decide) rfl rfl (Nat.le_of_ble_eq_true rfl) ?_
  intro p e s m below meth c ls C hl hP hS
  have hl : lv_has ls 2 [(0, .ref (kb K + o)), (1, .int v1)] := hl
  obtain ⟨hx, hb, hml, hown, hts, hr, hlk, hK⟩ := id C
  have hP0 := hP
  delta q_X0_edgeAhead at hw
  refine lv_aload_n hx hb dX0_edgeAhead_0 rfl (lv_at hl 0 rfl) ?_
  refine g_f C hP (layb0 ho) (lay0 ho K _) rfl hX0_edgeAhead_X0 2 (by decide) kX0_edgeAhead_f18 rfl dX0_edgeAhead_1 ?_
  refine lv_if_ne (tgt := 12) hx hb dX0_edgeAhead_4 (by decide) (fun hc => ?_) (fun hc => ?_)
  · have hw := hw.1 hc
    refine lv_aload_n hx hb dX0_edgeAhead_12 rfl (lv_at hl 0 rfl) ?_
    refine g_f C hP (layb0 ho) (lay0 ho K _) rfl hX0_edgeAhead_X0 9 (by decide) kX0_edgeAhead_f40 rfl dX0_edgeAhead_13 ?_
    refine lv_iload_n hx hb dX0_edgeAhead_16 rfl (lv_at hl 1 rfl) ?_
    refine lv_iadd hx hb dX0_edgeAhead_17 ?_
    refine lv_aload_n hx hb dX0_edgeAhead_18 rfl (lv_at hl 0 rfl) ?_
    refine g_f C hP (layb0 ho) (lay0 ho K _) rfl hX0_edgeAhead_X0 2 (by decide) kX0_edgeAhead_f18 rfl dX0_edgeAhead_19 ?_
    have hz_1 := hw.1
    have hw := hw.2
    refine lv_irem hx hb dX0_edgeAhead_22 hz_1 ?_
    exact r_i C hP hS hw dX0_edgeAhead_23
  · have hw := hw.2 hc
    refine lv_bipush hx hb dX0_edgeAhead_7 bp_m4 ?_
    refine lv_goto (tgt := 23) hx hb dX0_edgeAhead_9 (by decide) ?_
    exact r_i C hP hS hw dX0_edgeAhead_23
abbrev rmX0_sweepAhead : Room := { frames := 1, cells := 0, slots := 0, locals := 26 }
def q_X0_sweepAhead (o : Nat) (v1 : Int32) (M : Mem) (Q : Int32 → Mem → Prop) : Prop := q_X0_edgeAhead o v1 M (fun r_2 M_1 => ((¬ r_2 = (-4 : Int32) → q_X0_sweepOf o r_2 M_1 (fun r_4 M_3 => Q r_4 M_3)) ∧ (r_2 = (-4 : Int32) → Q (0 : Int32) M_1)))
theorem dsX0_sweepAhead : yX0_sweepAhead.cls = RX0 ∧ yX0_sweepAhead.cls ≠ "java/lang/invoke/MethodHandle" ∧ yX0_sweepAhead.cls ≠ "java/lang/invoke/VarHandle" ∧ (parseMethodDescriptor yX0_sweepAhead.desc).map (fun d => d.parameters.length) = some 1 := by decide +kernel
set_option maxRecDepth 100000 in
set_option maxHeartbeats 4000000 in
theorem c_X0_sweepAhead {l : Launch} {K : wC} {o : Nat} {v1 : Int32} {M : Mem} {Q : Int32 → Mem → Prop} (ho : isLay o) (hw : q_X0_sweepAhead o v1 M Q) : metI l yX0_sweepAhead wsX0_sweepAhead rmX0_sweepAhead shX 51 K [.ref (kb K + o), .int v1] M Q := by
  refine met_of (cc := cX0_sweepAhead) (maxL := 3) (ret := (some .int)) (own := RX0) (by decide) rfl rfl (Nat.le_of_ble_eq_true rfl) ?_
  intro p e s m below meth c ls C hl hP hS
  have hl : lv_has ls 3 [(0, .ref (kb K + o)), (1, .int v1)] := hl
  obtain ⟨hx, hb, hml, hown, hts, hr, hlk, hK⟩ := id C
  have hP0 := hP
  delta q_X0_sweepAhead at hw
  refine lv_aload_n hx hb dX0_sweepAhead_0 rfl (lv_at hl 0 rfl) ?_
  refine lv_iload_n hx hb dX0_sweepAhead_1 rfl (lv_at hl 1 rfl) ?_
  refine c_i (run_v (As := [.int v1]) (rest := []) C hP hS (c_X0_edgeAhead ho hw) gX0_sweepAhead_X0_edgeAhead rfl dsX0_edgeAhead rfl ⟨rfl, rfl⟩ ⟨Nat.le_of_ble_eq_true rfl, Nat.le_of_ble_eq_true rfl⟩ (layb0 ho) (lay0 ho K _) rfl hl.1 rfl (Nat.le_of_ble_eq_true rfl) dX0_sweepAhead_2 ⟨Nat.le_of_ble_eq_true rfl, Nat.le_of_ble_eq_true rfl⟩) hS (fun r_2 M_1 H locs hw hP hS => ?_)
  refine lv_istore_n (lv' := [(2, .int r_2), (0, .ref (kb K + o)), (1, .int v1)]) hx hb dX0_sweepAhead_5 rfl hl (by decide) rfl (fun ls hl => ?_)
  refine lv_iload_n hx hb dX0_sweepAhead_6 rfl (lv_at hl 0 rfl) ?_
  refine lv_bipush hx hb dX0_sweepAhead_7 bp_m4 ?_
  refine lv_icmp_ne (tgt := 16) hx hb dX0_sweepAhead_9 (by decide) (fun hc => ?_) (fun hc => ?_)
  · have hw := hw.1 hc
    refine lv_aload_n hx hb dX0_sweepAhead_16 rfl (lv_at hl 1 rfl) ?_
    refine lv_iload_n hx hb dX0_sweepAhead_17 rfl (lv_at hl 0 rfl) ?_
    refine c_i (run_v (As := [.int r_2]) (rest := []) C hP hS (c_X0_sweepOf ho hw) gX0_sweepAhead_X0_sweepOf rfl dsX0_sweepOf rfl ⟨rfl, rfl⟩ ⟨Nat.le_of_ble_eq_true rfl, Nat.le_of_ble_eq_true rfl⟩ (layb0 ho) (lay0 ho K _) rfl hl.1 rfl (Nat.le_of_ble_eq_true rfl) dX0_sweepAhead_18 ⟨Nat.le_of_ble_eq_true rfl, Nat.le_of_ble_eq_true rfl⟩) hS (fun r_4 M_3 H locs hw hP hS => ?_)
    exact r_i C hP hS hw dX0_sweepAhead_21
  · have hw := hw.2 hc
    refine lv_iconst hx hb dX0_sweepAhead_12 ic_0 ?_
    refine lv_goto (tgt := 21) hx hb dX0_sweepAhead_13 (by decide) ?_
    exact r_i C hP hS hw dX0_sweepAhead_21
theorem kX0_roll_m61 : Cond.methodLink RX0 61 Lib.Math.abs.name ∈ wsX0_roll := List.mem_of_getElem? (i := 1) rfl
theorem kX0_roll_ma1 : Cond.static Lib.Math.abs.name ∈ wsX0_roll := List.mem_of_getElem? (i := 2) rfl
theorem kX0_roll_ma2 : Cond.initialized "java/lang/Math" ∈ wsX0_roll := List.mem_of_getElem? (i := 3) rfl
theorem kX0_roll_ma3 : Cond.code Lib.Math.abs.name Lib.Math.abs.code 1 (some .int) ∈ wsX0_roll := List.mem_of_getElem? (i := 4) rfl
abbrev rmX0_roll : Room := { frames := 1, cells := 0, slots := 0, locals := 21 }
def q_X0_roll (v0 : Int32) (v1 : Int32) (v2 : Int32) (M : Mem) (Q : Int32 → Mem → Prop) : Prop := ((v0 = 1 → (((1 : Int32) ≤ v1 → (¬ v1 = 0) ∧ Q ((v2 / v1) * v1) M) ∧ (¬ (1 : Int32) ≤ v1 → Q (0 : Int32) M))) ∧ (¬ v0 = 1 → ((v0 = 2 → ((v1 ≤ (iabs v2) → Q v2 M) ∧ (¬ v1 ≤ (iabs v2) → Q (0 : Int32) M))) ∧ (¬ v0 = 2 → ((v0 = 3 → ((v1 ≤ v2 → Q v2 M) ∧ (¬ v1 ≤ v2 → Q (0 : Int32) M))) ∧ (¬ v0 = 3 → Q v2 M))))))
theorem dsX0_roll : yX0_roll.cls ≠ "java/lang/invoke/MethodHandle" ∧ yX0_roll.cls ≠ "java/lang/invoke/VarHandle" ∧ (parseMethodDescriptor yX0_roll.desc).map (fun d => d.parameters.length) = some 3 := by decide +kernel
set_option maxRecDepth 100000 in
set_option maxHeartbeats 4000000 in
theorem c_X0_roll {l : Launch} {K : wC} {v0 : Int32} {v1 : Int32} {v2 : Int32} {M : Mem} {Q : Int32 → Mem → Prop} (hw : q_X0_roll v0 v1 v2 M Q) : metI l yX0_roll wsX0_roll rmX0_roll shX 51 K [.int v0, .int v1, .int v2] M Q := by
  refine met_of (cc := cX0_roll) (maxL := 3) (ret := (some .int)) (own := RX0) (by decide) rfl rfl (Nat.le_of_ble_eq_true rfl) ?_
  intro p e s m below meth c ls C hl hP hS
  have hl : lv_has ls 3 [(0, .int v0), (1, .int v1), (2, .int v2)] := hl
  obtain ⟨hx, hb, hml, hown, hts, hr, hlk, hK⟩ := id C
  have hP0 := hP
  delta q_X0_roll at hw
  refine lv_iload_n hx hb dX0_roll_0 rfl (lv_at hl 0 rfl) ?_
  by_cases hs1 : v0 = 1
  · have hw := hw.1 hs1
    refine lv_tableIn (tgt := 28) hx hb dX0_roll_1 (by rw [hs1]; decide) (by rw [hs1]; decide) (by rw [hs1]; rfl) (by decide) ?_
    refine lv_iload_n hx hb dX0_roll_28 rfl (lv_at hl 1 rfl) ?_
    refine lv_iconst hx hb dX0_roll_29 ic_1 ?_
    refine lv_icmp_ge (tgt := 37) hx hb dX0_roll_30 (by decide) (fun hc => ?_) (fun hc => ?_)
    · have hw := hw.1 hc
      refine lv_iload_n hx hb dX0_roll_37 rfl (lv_at hl 2 rfl) ?_
      refine lv_iload_n hx hb dX0_roll_38 rfl (lv_at hl 1 rfl) ?_
      have hz_1 := hw.1
      have hw := hw.2
      refine lv_idiv hx hb dX0_roll_39 hz_1 ?_
      refine lv_iload_n hx hb dX0_roll_40 rfl (lv_at hl 1 rfl) ?_
      refine lv_imul hx hb dX0_roll_41 ?_
      exact r_i C hP hS hw dX0_roll_42
    · have hw := hw.2 hc
      refine lv_iconst hx hb dX0_roll_33 ic_0 ?_
      refine lv_goto (tgt := 42) hx hb dX0_roll_34 (by decide) ?_
      exact r_i C hP hS hw dX0_roll_42
  · have hw := hw.2 hs1
    by_cases hs2 : v0 = 2
    · have hw := hw.1 hs2
      refine lv_tableIn (tgt := 43) hx hb dX0_roll_1 (by rw [hs2]; decide) (by rw [hs2]; decide) (by rw [hs2]; rfl) (by decide) ?_
      refine lv_iload_n hx hb dX0_roll_43 rfl (lv_at hl 2 rfl) ?_
      refine m_abs C hl.1 kX0_roll_m61 kX0_roll_ma1 kX0_roll_ma2 kX0_roll_ma3 (Nat.le_of_ble_eq_true rfl) (Nat.le_of_ble_eq_true rfl) (Nat.le_of_ble_eq_true rfl) (Nat.le_of_ble_eq_true rfl) dX0_roll_44 ?_
      refine lv_iload_n hx hb dX0_roll_47 rfl (lv_at hl 1 rfl) ?_
      refine lv_icmp_ge (tgt := 55) hx hb dX0_roll_48 (by decide) (fun hc => ?_) (fun hc => ?_)
      · have hw := hw.1 hc
        refine lv_iload_n hx hb dX0_roll_55 rfl (lv_at hl 2 rfl) ?_
        exact r_i C hP hS hw dX0_roll_56
      · have hw := hw.2 hc
        refine lv_iconst hx hb dX0_roll_51 ic_0 ?_
        refine lv_goto (tgt := 56) hx hb dX0_roll_52 (by decide) ?_
        exact r_i C hP hS hw dX0_roll_56
    · have hw := hw.2 hs2
      by_cases hs3 : v0 = 3
      · have hw := hw.1 hs3
        refine lv_tableIn (tgt := 57) hx hb dX0_roll_1 (by rw [hs3]; decide) (by rw [hs3]; decide) (by rw [hs3]; rfl) (by decide) ?_
        refine lv_iload_n hx hb dX0_roll_57 rfl (lv_at hl 2 rfl) ?_
        refine lv_iload_n hx hb dX0_roll_58 rfl (lv_at hl 1 rfl) ?_
        refine lv_icmp_ge (tgt := 66) hx hb dX0_roll_59 (by decide) (fun hc => ?_) (fun hc => ?_)
        · have hw := hw.1 hc
          refine lv_iload_n hx hb dX0_roll_66 rfl (lv_at hl 2 rfl) ?_
          exact r_i C hP hS hw dX0_roll_67
        · have hw := hw.2 hc
          refine lv_iconst hx hb dX0_roll_62 ic_0 ?_
          refine lv_goto (tgt := 67) hx hb dX0_roll_63 (by decide) ?_
          exact r_i C hP hS hw dX0_roll_67
      · have hw := hw.2 hs3
        have nhs1 : v0.toInt ≠ 1 := ne_toInt hs1
        have nhs2 : v0.toInt ≠ 2 := ne_toInt hs2
        have nhs3 : v0.toInt ≠ 3 := ne_toInt hs3
        refine lv_tableOut (tgt := 68) hx hb dX0_roll_1 (by omega) (by decide) ?_
        refine lv_iload_n hx hb dX0_roll_68 rfl (lv_at hl 2 rfl) ?_
        exact r_i C hP hS hw dX0_roll_69
theorem kX0_rollOf_f22 : Cond.fieldLink RX0 22 (TX0 3).1 (TX0 3).2.1 (TX0 3).2.2.1 ∈ wsX0_rollOf := List.mem_of_getElem? (i := 1) rfl
theorem hX0_rollOf_X0 : ∀ w ∈ u_ws RX0 TX0 10, w ∈ wsX0_rollOf := fun _ h => List.mem_cons_of_mem _ (List.mem_append_right _ (h))
theorem kX0_rollOf_f25 : Cond.fieldLink RX0 25 (TX0 4).1 (TX0 4).2.1 (TX0 4).2.2.1 ∈ wsX0_rollOf := List.mem_of_getElem? (i := 2) rfl
abbrev rmX0_rollOf : Room := { frames := 2, cells := 0, slots := 0, locals := 43 }
def q_X0_rollOf (o : Nat) (v1 : Int32) (v2 : Int32) (M : Mem) (Q : Int32 → Mem → Prop) : Prop := vp_in v1 4 ∧ vp_in v1 4 ∧ q_X0_roll (M (o + 3) v1.toNatClampNeg) (M (o + 4) v1.toNatClampNeg) v2 M (fun r_4 M_3 => Q r_4 M_3)
theorem dsX0_rollOf : yX0_rollOf.cls = RX0 ∧ yX0_rollOf.cls ≠ "java/lang/invoke/MethodHandle" ∧ yX0_rollOf.cls ≠ "java/lang/invoke/VarHandle" ∧ (parseMethodDescriptor yX0_rollOf.desc).map (fun d => d.parameters.length) = some 2 := by decide +kernel
set_option maxRecDepth 100000 in
set_option maxHeartbeats 4000000 in
theorem c_X0_rollOf {l : Launch} {K : wC} {o : Nat} {v1 : Int32} {v2 : Int32} {M : Mem} {Q : Int32 → Mem → Prop} (ho : isLay o) (hw : q_X0_rollOf o v1 v2 M Q) : metI l yX0_rollOf wsX0_rollOf rmX0_rollOf shX 51 K [.ref (kb K + o), .int v1, .int v2] M Q := by
  refine met_of (cc := cX0_rollOf) (maxL := 3) (ret := (some .int)) (own := RX0) (by decide) rfl rfl (Nat.le_of_ble_eq_true rfl) ?_
  intro p e s m below meth c ls C hl hP hS
  have hl : lv_has ls 3 [(0, .ref (kb K + o)), (1, .int v1), (2, .int v2)] := hl
  obtain ⟨hx, hb, hml, hown, hts, hr, hlk, hK⟩ := id C
  have hP0 := hP
  delta q_X0_rollOf at hw
  refine lv_aload_n hx hb dX0_rollOf_0 rfl (lv_at hl 0 rfl) ?_
  refine g_f C hP (layb0 ho) (lay0 ho K _) rfl hX0_rollOf_X0 3 (by decide) kX0_rollOf_f22 rfl dX0_rollOf_1 ?_
  refine lv_iload_n hx hb dX0_rollOf_4 rfl (lv_at hl 1 rfl) ?_
  have hi_1 := hw.1
  have hw := hw.2
  refine a_il C hP (layb ho 3 (by decide)) (lay3 ho K _) hi_1 rfl dX0_rollOf_5 ?_
  refine lv_aload_n hx hb dX0_rollOf_6 rfl (lv_at hl 0 rfl) ?_
  refine g_f C hP (layb0 ho) (lay0 ho K _) rfl hX0_rollOf_X0 4 (by decide) kX0_rollOf_f25 rfl dX0_rollOf_7 ?_
  refine lv_iload_n hx hb dX0_rollOf_10 rfl (lv_at hl 1 rfl) ?_
  have hi_2 := hw.1
  have hw := hw.2
  refine a_il C hP (layb ho 4 (by decide)) (lay4 ho K _) hi_2 rfl dX0_rollOf_11 ?_
  refine lv_iload_n hx hb dX0_rollOf_12 rfl (lv_at hl 2 rfl) ?_
  refine c_i (run_s (As := [.int (M (o + 3) v1.toNatClampNeg), .int (M (o + 4) v1.toNatClampNeg), .int v2]) (rest := []) C hP hS (c_X0_roll hw) gX0_rollOf_X0_roll rfl dsX0_roll rfl ⟨rfl, rfl⟩ ⟨Nat.le_of_ble_eq_true rfl, Nat.le_of_ble_eq_true rfl⟩ hl.1 rfl (Nat.le_of_ble_eq_true rfl) dX0_rollOf_13 ⟨Nat.le_of_ble_eq_true rfl, Nat.le_of_ble_eq_true rfl⟩) hS (fun r_4 M_3 H locs hw hP hS => ?_)
  exact r_i C hP hS hw dX0_rollOf_16
theorem kX0_rolledByAll_f31 : Cond.fieldLink RX0 31 (TX0 6).1 (TX0 6).2.1 (TX0 6).2.2.1 ∈ wsX0_rolledByAll := List.mem_of_getElem? (i := 1) rfl
theorem hX0_rolledByAll_X0 : ∀ w ∈ u_ws RX0 TX0 10, w ∈ wsX0_rolledByAll := fun _ h => List.mem_cons_of_mem _ (List.mem_append_right _ (h))
theorem kX0_rolledByAll_m61 : Cond.methodLink RX0 61 Lib.Math.abs.name ∈ wsX0_rolledByAll := List.mem_of_getElem? (i := 2) rfl
theorem kX0_rolledByAll_ma1 : Cond.static Lib.Math.abs.name ∈ wsX0_rolledByAll := List.mem_of_getElem? (i := 3) rfl
theorem kX0_rolledByAll_ma2 : Cond.initialized "java/lang/Math" ∈ wsX0_rolledByAll := List.mem_of_getElem? (i := 4) rfl
theorem kX0_rolledByAll_ma3 : Cond.code Lib.Math.abs.name Lib.Math.abs.code 1 (some .int) ∈ wsX0_rolledByAll := List.mem_of_getElem? (i := 5) rfl
abbrev rmX0_rolledByAll : Room := { frames := 3, cells := 0, slots := 0, locals := 65 }
abbrev t_X0_rolledByAll : Type := (Int32 → Int32 → Int32 → Mem → Prop)
def f_X0_rolledByAll_4 (o : Nat) (Q : Int32 → Mem → Prop) (r : t_X0_rolledByAll) (v1 : Int32) (v2 : Int32) (v3 : Int32) (M : Mem) : Prop := (((M o 6) ≤ v3 → Q v2 M) ∧ (¬ (M o 6) ≤ v3 → q_X0_rollOf o v3 v1 M (fun r_2 M_1 => r v1 (v2 + (iabs r_2)) (v3 + 1) M_1)))
def p_X0_rolledByAll (o : Nat) (Q : Int32 → Mem → Prop) : Nat → t_X0_rolledByAll
  | 0 => fun _ _ _ _ => False
  | n + 1 => f_X0_rolledByAll_4 o Q (p_X0_rolledByAll o Q n)
def e_X0_rolledByAll (o : Nat) (v1 : Int32) (Q : Int32 → Mem → Prop) (r : t_X0_rolledByAll) (M : Mem) : Prop := r v1 (0 : Int32) (0 : Int32) M
def q_X0_rolledByAll (o : Nat) (v1 : Int32) (M : Mem) (Q : Int32 → Mem → Prop) : Prop := ∃ n : Nat, e_X0_rolledByAll o v1 Q (p_X0_rolledByAll o Q n) M
set_option maxRecDepth 100000 in
set_option maxHeartbeats 4000000 in
theorem b_X0_rolledByAll {l : Launch} {K : wC} {o : Nat} {Q : Int32 → Mem → Prop} {p : Program} {e : Env} {s : State} {m : MethodId} {args : Array Value} {below : List Frame} {meth : Method} {c : Code} (ho : isLay o) (C : cx 51 K p s m args meth c cX0_rolledByAll 4 wsX0_rolledByAll RX0 (some .int)) : ∀ n : Nat, (∀ (v1 : Int32) (v2 : Int32) (v3 : Int32) (M : Mem) (H : Heap) (locs : List Loc) (ls : Array Slot), (p_X0_rolledByAll o Q n) v1 v2 v3 M → wP shX 51 K M H → va_S (wA 51 K) s.heap H locs → lv_has ls 4 [(0, .ref (kb K + o)), (1, .int v1), (2, .int v2), (3, .int v3)] → W p l e rmX0_rolledByAll s m args below meth c H locs 0 0 (MQ below (va_Qi Q (wE shX 51 K) (wA 51 K)) args s 0 0 (wA 51 K)) (F0 m 4 ls [])) := by
  obtain ⟨hx, hb, hml, hown, hts, hr, hlk, hK⟩ := id C
  intro n
  induction n with
  | zero => exact fun _ _ _ _ _ _ _ hw _ _ _ => False.elim hw
  | succ n ih =>
    intro v1 v2 v3 M H locs ls hw hP hS hl
    have hw : f_X0_rolledByAll_4 o Q (p_X0_rolledByAll o Q n) v1 v2 v3 M := hw
    delta f_X0_rolledByAll_4 at hw
    refine lv_iload_n hx hb dX0_rolledByAll_4 rfl (lv_at hl 3 rfl) ?_
    refine lv_aload_n hx hb dX0_rolledByAll_5 rfl (lv_at hl 0 rfl) ?_
    refine g_f C hP (layb0 ho) (lay0 ho K _) rfl hX0_rolledByAll_X0 6 (by decide) kX0_rolledByAll_f31 rfl dX0_rolledByAll_6 ?_
    refine lv_icmp_ge (tgt := 30) hx hb dX0_rolledByAll_9 (by decide) (fun hc => ?_) (fun hc => ?_)
    · have hw := hw.1 hc
      refine lv_iload_n hx hb dX0_rolledByAll_30 rfl (lv_at hl 2 rfl) ?_
      exact r_i C hP hS hw dX0_rolledByAll_31
    · have hw := hw.2 hc
      refine lv_iload_n hx hb dX0_rolledByAll_12 rfl (lv_at hl 2 rfl) ?_
      refine lv_aload_n hx hb dX0_rolledByAll_13 rfl (lv_at hl 0 rfl) ?_
      refine lv_iload_n hx hb dX0_rolledByAll_14 rfl (lv_at hl 3 rfl) ?_
      refine lv_iload_n hx hb dX0_rolledByAll_15 rfl (lv_at hl 1 rfl) ?_
      refine c_i (run_v (As := [.int v3, .int v1]) (rest := [.int v2]) C hP hS (c_X0_rollOf ho hw) gX0_rolledByAll_X0_rollOf rfl dsX0_rollOf rfl ⟨rfl, rfl⟩ ⟨Nat.le_of_ble_eq_true rfl, Nat.le_of_ble_eq_true rfl⟩ (layb0 ho) (lay0 ho K _) rfl hl.1 rfl (Nat.le_of_ble_eq_true rfl) dX0_rolledByAll_16 ⟨Nat.le_of_ble_eq_true rfl, Nat.le_of_ble_eq_true rfl⟩) hS (fun r_2 M_1 H locs hw hP hS => ?_)
      refine m_abs C hl.1 kX0_rolledByAll_m61 kX0_rolledByAll_ma1 kX0_rolledByAll_ma2 kX0_rolledByAll_ma3 (Nat.le_of_ble_eq_true rfl) (Nat.le_of_ble_eq_true rfl) (Nat.le_of_ble_eq_true rfl) (Nat.le_of_ble_eq_true rfl) dX0_rolledByAll_19 ?_
      refine lv_iadd hx hb dX0_rolledByAll_22 ?_
      refine lv_istore_n (lv' := [(2, .int (v2 + (iabs r_2))), (0, .ref (kb K + o)), (1, .int v1), (3, .int v3)]) hx hb dX0_rolledByAll_23 rfl hl (by decide) rfl (fun ls hl => ?_)
      refine lv_iinc (v := (v3 + 1)) (lv' := [(3, .int (v3 + 1)), (2, .int (v2 + (iabs r_2))), (0, .ref (kb K + o)), (1, .int v1)]) hx hb dX0_rolledByAll_24 hl (k := 3) rfl (by rw [ic_1]) (by decide) rfl (fun ls hl => ?_)
      refine lv_goto (tgt := 4) hx hb dX0_rolledByAll_27 (by decide) ?_
      exact ih _ _ _ _ _ _ _ hw hP hS (lv_sub hl [2, 3, 1, 0] rfl)
theorem dsX0_rolledByAll : yX0_rolledByAll.cls = RX0 ∧ yX0_rolledByAll.cls ≠ "java/lang/invoke/MethodHandle" ∧ yX0_rolledByAll.cls ≠ "java/lang/invoke/VarHandle" ∧ (parseMethodDescriptor yX0_rolledByAll.desc).map (fun d => d.parameters.length) = some 1 := by decide +kernel
set_option maxRecDepth 100000 in
set_option maxHeartbeats 4000000 in
theorem c_X0_rolledByAll {l : Launch} {K : wC} {o : Nat} {v1 : Int32} {M : Mem} {Q : Int32 → Mem → Prop} (ho : isLay o) (hw : q_X0_rolledByAll o v1 M Q) : metI l yX0_rolledByAll wsX0_rolledByAll rmX0_rolledByAll shX 51 K [.ref (kb K + o), .int v1] M Q := by
  refine met_of (cc := cX0_rolledByAll) (maxL := 4) (ret := (some .int)) (own := RX0) (by decide) rfl rfl (Nat.le_of_ble_eq_true rfl) ?_
  intro p e s m below meth c ls C hl hP hS
  have hl : lv_has ls 4 [(0, .ref (kb K + o)), (1, .int v1)] := hl
  obtain ⟨hx, hb, hml, hown, hts, hr, hlk, hK⟩ := id C
  have hP0 := hP
  obtain ⟨n, hw⟩ := hw
  have ih := b_X0_rolledByAll (l := l) (e := e) (below := below) (Q := Q) ho C n
  delta e_X0_rolledByAll at hw
  refine lv_iconst hx hb dX0_rolledByAll_0 ic_0 ?_
  refine lv_istore_n (lv' := [(2, .int (0 : Int32)), (0, .ref (kb K + o)), (1, .int v1)]) hx hb dX0_rolledByAll_1 rfl hl (by decide) rfl (fun ls hl => ?_)
  refine lv_iconst hx hb dX0_rolledByAll_2 ic_0 ?_
  refine lv_istore_n (lv' := [(3, .int (0 : Int32)), (2, .int (0 : Int32)), (0, .ref (kb K + o)), (1, .int v1)]) hx hb dX0_rolledByAll_3 rfl hl (by decide) rfl (fun ls hl => ?_)
  exact ih _ _ _ _ _ _ _ hw hP hS (lv_sub hl [2, 3, 1, 0] rfl)
theorem kX0_rollAll_f31 : Cond.fieldLink RX0 31 (TX0 6).1 (TX0 6).2.1 (TX0 6).2.2.1 ∈ wsX0_rollAll := List.mem_of_getElem? (i := 1) rfl
theorem hX0_rollAll_X0 : ∀ w ∈ u_ws RX0 TX0 10, w ∈ wsX0_rollAll := fun _ h => List.mem_cons_of_mem _ (List.mem_append_right _ (h))
theorem kX0_rollAll_f28 : Cond.fieldLink RX0 28 (TX0 5).1 (TX0 5).2.1 (TX0 5).2.2.1 ∈ wsX0_rollAll := List.mem_of_getElem? (i := 2) rfl
abbrev rmX0_rollAll : Room := { frames := 4, cells := 0, slots := 0, locals := 88 }
abbrev t_X0_rollAll : Type := (Int32 → Int32 → Mem → Prop)
def f_X0_rollAll_2 (o : Nat) (Q : Int32 → Mem → Prop) (r : t_X0_rollAll) (v1 : Int32) (v2 : Int32) (M : Mem) : Prop := (((M o 6) ≤ v2 → q_X0_rolledByAll o v1 M (fun r_2 M_1 => Q r_2 M_1)) ∧ (¬ (M o 6) ≤ v2 → vp_in v2 4 ∧ q_X0_rollOf o v2 v1 M (fun r_5 M_4 => vp_in v2 4 ∧ r v1 (v2 + 1) (mU M_4 (o + 5) v2.toNatClampNeg ((M (o + 5) v2.toNatClampNeg) + r_5)))))
def p_X0_rollAll (o : Nat) (Q : Int32 → Mem → Prop) : Nat → t_X0_rollAll
  | 0 => fun _ _ _ => False
  | n + 1 => f_X0_rollAll_2 o Q (p_X0_rollAll o Q n)
def e_X0_rollAll (o : Nat) (v1 : Int32) (Q : Int32 → Mem → Prop) (r : t_X0_rollAll) (M : Mem) : Prop := r v1 (0 : Int32) M
def q_X0_rollAll (o : Nat) (v1 : Int32) (M : Mem) (Q : Int32 → Mem → Prop) : Prop := ∃ n : Nat, e_X0_rollAll o v1 Q (p_X0_rollAll o Q n) M
set_option maxRecDepth 100000 in
set_option maxHeartbeats 4000000 in
theorem b_X0_rollAll {l : Launch} {K : wC} {o : Nat} {Q : Int32 → Mem → Prop} {p : Program} {e : Env} {s : State} {m : MethodId} {args : Array Value} {below : List Frame} {meth : Method} {c : Code} (ho : isLay o) (C : cx 51 K p s m args meth c cX0_rollAll 3 wsX0_rollAll RX0 (some .int)) : ∀ n : Nat, (∀ (v1 : Int32) (v2 : Int32) (M : Mem) (H : Heap) (locs : List Loc) (ls : Array Slot), (p_X0_rollAll o Q n) v1 v2 M → wP shX 51 K M H → va_S (wA 51 K) s.heap H locs → lv_has ls 3 [(0, .ref (kb K + o)), (1, .int v1), (2, .int v2)] → W p l e rmX0_rollAll s m args below meth c H locs 0 0 (MQ below (va_Qi Q (wE shX 51 K) (wA 51 K)) args s 0 0 (wA 51 K)) (F0 m 2 ls [])) := by
  obtain ⟨hx, hb, hml, hown, hts, hr, hlk, hK⟩ := id C
  intro n
  induction n with
  | zero => exact fun _ _ _ _ _ _ hw _ _ _ => False.elim hw
  | succ n ih =>
    intro v1 v2 M H locs ls hw hP hS hl
    have hw : f_X0_rollAll_2 o Q (p_X0_rollAll o Q n) v1 v2 M := hw
    delta f_X0_rollAll_2 at hw
    refine lv_iload_n hx hb dX0_rollAll_2 rfl (lv_at hl 2 rfl) ?_
    refine lv_aload_n hx hb dX0_rollAll_3 rfl (lv_at hl 0 rfl) ?_
    refine g_f C hP (layb0 ho) (lay0 ho K _) rfl hX0_rollAll_X0 6 (by decide) kX0_rollAll_f31 rfl dX0_rollAll_4 ?_
    refine lv_icmp_ge (tgt := 31) hx hb dX0_rollAll_7 (by decide) (fun hc => ?_) (fun hc => ?_)
    · have hw := hw.1 hc
      refine lv_aload_n hx hb dX0_rollAll_31 rfl (lv_at hl 0 rfl) ?_
      refine lv_iload_n hx hb dX0_rollAll_32 rfl (lv_at hl 1 rfl) ?_
      refine c_i (run_v (As := [.int v1]) (rest := []) C hP hS (c_X0_rolledByAll ho hw) gX0_rollAll_X0_rolledByAll rfl dsX0_rolledByAll rfl ⟨rfl, rfl⟩ ⟨Nat.le_of_ble_eq_true rfl, Nat.le_of_ble_eq_true rfl⟩ (layb0 ho) (lay0 ho K _) rfl hl.1 rfl (Nat.le_of_ble_eq_true rfl) dX0_rollAll_33 ⟨Nat.le_of_ble_eq_true rfl, Nat.le_of_ble_eq_true rfl⟩) hS (fun r_2 M_1 H locs hw hP hS => ?_)
      exact r_i C hP hS hw dX0_rollAll_36
    · have hw := hw.2 hc
      refine lv_aload_n hx hb dX0_rollAll_10 rfl (lv_at hl 0 rfl) ?_
      refine g_f C hP (layb0 ho) (lay0 ho K _) rfl hX0_rollAll_X0 5 (by decide) kX0_rollAll_f28 rfl dX0_rollAll_11 ?_
      refine lv_iload_n hx hb dX0_rollAll_14 rfl (lv_at hl 2 rfl) ?_
      refine lv_dup2_11 hx hb dX0_rollAll_15 rfl rfl ?_
      have hi_3 := hw.1
      have hw := hw.2
      refine a_il C hP (layb ho 5 (by decide)) (lay5 ho K _) hi_3 rfl dX0_rollAll_16 ?_
      refine lv_aload_n hx hb dX0_rollAll_17 rfl (lv_at hl 0 rfl) ?_
      refine lv_iload_n hx hb dX0_rollAll_18 rfl (lv_at hl 2 rfl) ?_
      refine lv_iload_n hx hb dX0_rollAll_19 rfl (lv_at hl 1 rfl) ?_
      refine c_i (run_v (As := [.int v2, .int v1]) (rest := [.int (M (o + 5) v2.toNatClampNeg), .int v2, .ref (kb K + (o + 5))]) C hP hS (c_X0_rollOf ho hw) gX0_rollAll_X0_rollOf rfl dsX0_rollOf rfl ⟨rfl, rfl⟩ ⟨Nat.le_of_ble_eq_true rfl, Nat.le_of_ble_eq_true rfl⟩ (layb0 ho) (lay0 ho K _) rfl hl.1 rfl (Nat.le_of_ble_eq_true rfl) dX0_rollAll_20 ⟨Nat.le_of_ble_eq_true rfl, Nat.le_of_ble_eq_true rfl⟩) hS (fun r_5 M_4 H locs hw hP hS => ?_)
      refine lv_iadd hx hb dX0_rollAll_23 ?_
      have hi_6 := hw.1
      have hw := hw.2
      refine a_is C hP hS (layb ho 5 (by decide)) (lay5 ho K) hi_6 rfl dX0_rollAll_24 (fun H locs hP hS => ?_)
      refine lv_iinc (v := (v2 + 1)) (lv' := [(2, .int (v2 + 1)), (0, .ref (kb K + o)), (1, .int v1)]) hx hb dX0_rollAll_25 hl (k := 2) rfl (by rw [ic_1]) (by decide) rfl (fun ls hl => ?_)
      refine lv_goto (tgt := 2) hx hb dX0_rollAll_28 (by decide) ?_
      exact ih _ _ _ _ _ _ hw hP hS (lv_sub hl [1, 2, 0] rfl)
theorem dsX0_rollAll : yX0_rollAll.cls = RX0 ∧ yX0_rollAll.cls ≠ "java/lang/invoke/MethodHandle" ∧ yX0_rollAll.cls ≠ "java/lang/invoke/VarHandle" ∧ (parseMethodDescriptor yX0_rollAll.desc).map (fun d => d.parameters.length) = some 1 := by decide +kernel
set_option maxRecDepth 100000 in
set_option maxHeartbeats 4000000 in
theorem c_X0_rollAll {l : Launch} {K : wC} {o : Nat} {v1 : Int32} {M : Mem} {Q : Int32 → Mem → Prop} (ho : isLay o) (hw : q_X0_rollAll o v1 M Q) : metI l yX0_rollAll wsX0_rollAll rmX0_rollAll shX 51 K [.ref (kb K + o), .int v1] M Q := by
  refine met_of (cc := cX0_rollAll) (maxL := 3) (ret := (some .int)) (own := RX0) (by decide) rfl rfl (Nat.le_of_ble_eq_true rfl) ?_
  intro p e s m below meth c ls C hl hP hS
  have hl : lv_has ls 3 [(0, .ref (kb K + o)), (1, .int v1)] := hl
  obtain ⟨hx, hb, hml, hown, hts, hr, hlk, hK⟩ := id C
  have hP0 := hP
  obtain ⟨n, hw⟩ := hw
  have ih := b_X0_rollAll (l := l) (e := e) (below := below) (Q := Q) ho C n
  delta e_X0_rollAll at hw
  refine lv_iconst hx hb dX0_rollAll_0 ic_0 ?_
  refine lv_istore_n (lv' := [(2, .int (0 : Int32)), (0, .ref (kb K + o)), (1, .int v1)]) hx hb dX0_rollAll_1 rfl hl (by decide) rfl (fun ls hl => ?_)
  exact ih _ _ _ _ _ _ hw hP hS (lv_sub hl [1, 2, 0] rfl)
theorem kX0_someWheelRests_f31 : Cond.fieldLink RX0 31 (TX0 6).1 (TX0 6).2.1 (TX0 6).2.2.1 ∈ wsX0_someWheelRests := List.mem_of_getElem? (i := 1) rfl
theorem hX0_someWheelRests_X0 : ∀ w ∈ u_ws RX0 TX0 10, w ∈ wsX0_someWheelRests := fun _ h => List.mem_cons_of_mem _ (List.mem_append_right _ (h))
abbrev rmX0_someWheelRests : Room := { frames := 3, cells := 0, slots := 0, locals := 65 }
abbrev t_X0_someWheelRests : Type := (Int32 → Int32 → Mem → Prop)
def f_X0_someWheelRests_2 (o : Nat) (Q : Int32 → Mem → Prop) (r : t_X0_someWheelRests) (v1 : Int32) (v2 : Int32) (M : Mem) : Prop := (((M o 6) ≤ v2 → Q (0 : Int32) M) ∧ (¬ (M o 6) ≤ v2 → q_X0_rollOf o v2 v1 M (fun r_2 M_1 => ((¬ r_2 = 0 → r v1 (v2 + 1) M_1) ∧ (r_2 = 0 → Q (1 : Int32) M_1)))))
def p_X0_someWheelRests (o : Nat) (Q : Int32 → Mem → Prop) : Nat → t_X0_someWheelRests
  | 0 => fun _ _ _ => False
  | n + 1 => f_X0_someWheelRests_2 o Q (p_X0_someWheelRests o Q n)
def e_X0_someWheelRests (o : Nat) (v1 : Int32) (Q : Int32 → Mem → Prop) (r : t_X0_someWheelRests) (M : Mem) : Prop := r v1 (0 : Int32) M
def q_X0_someWheelRests (o : Nat) (v1 : Int32) (M : Mem) (Q : Int32 → Mem → Prop) : Prop := ∃ n : Nat, e_X0_someWheelRests o v1 Q (p_X0_someWheelRests o Q n) M
set_option maxRecDepth 100000 in
set_option maxHeartbeats 4000000 in
theorem b_X0_someWheelRests {l : Launch} {K : wC} {o : Nat} {Q : Int32 → Mem → Prop} {p : Program} {e : Env} {s : State} {m : MethodId} {args : Array Value} {below : List Frame} {meth : Method} {c : Code} (ho : isLay o) (C : cx 51 K p s m args meth c cX0_someWheelRests 3 wsX0_someWheelRests RX0 (some .boolean)) : ∀ n : Nat, (∀ (v1 : Int32) (v2 : Int32) (M : Mem) (H : Heap) (locs : List Loc) (ls : Array Slot), (p_X0_someWheelRests o Q n) v1 v2 M → wP shX 51 K M H → va_S (wA 51 K) s.heap H locs → lv_has ls 3 [(0, .ref (kb K + o)), (1, .int v1), (2, .int v2)] → W p l e rmX0_someWheelRests s m args below meth c H locs 0 0 (MQ below (va_Qi Q (wE shX 51 K) (wA 51 K)) args s 0 0 (wA 51 K)) (F0 m 2 ls [])) := by
  obtain ⟨hx, hb, hml, hown, hts, hr, hlk, hK⟩ := id C
  intro n
  induction n with
  | zero => exact fun _ _ _ _ _ _ hw _ _ _ => False.elim hw
  | succ n ih =>
    intro v1 v2 M H locs ls hw hP hS hl
    have hw : f_X0_someWheelRests_2 o Q (p_X0_someWheelRests o Q n) v1 v2 M := hw
    delta f_X0_someWheelRests_2 at hw
    refine lv_iload_n hx hb dX0_someWheelRests_2 rfl (lv_at hl 2 rfl) ?_
    refine lv_aload_n hx hb dX0_someWheelRests_3 rfl (lv_at hl 0 rfl) ?_
    refine g_f C hP (layb0 ho) (lay0 ho K _) rfl hX0_someWheelRests_X0 6 (by decide) kX0_someWheelRests_f31 rfl dX0_someWheelRests_4 ?_
    refine lv_icmp_ge (tgt := 27) hx hb dX0_someWheelRests_7 (by decide) (fun hc => ?_) (fun hc => ?_)
    · have hw := hw.1 hc
      refine lv_iconst hx hb dX0_someWheelRests_27 ic_0 ?_
      exact r_z C (by decide) hP hS hw dX0_someWheelRests_28
    · have hw := hw.2 hc
      refine lv_aload_n hx hb dX0_someWheelRests_10 rfl (lv_at hl 0 rfl) ?_
      refine lv_iload_n hx hb dX0_someWheelRests_11 rfl (lv_at hl 2 rfl) ?_
      refine lv_iload_n hx hb dX0_someWheelRests_12 rfl (lv_at hl 1 rfl) ?_
      refine c_i (run_v (As := [.int v2, .int v1]) (rest := []) C hP hS (c_X0_rollOf ho hw) gX0_someWheelRests_X0_rollOf rfl dsX0_rollOf rfl ⟨rfl, rfl⟩ ⟨Nat.le_of_ble_eq_true rfl, Nat.le_of_ble_eq_true rfl⟩ (layb0 ho) (lay0 ho K _) rfl hl.1 rfl (Nat.le_of_ble_eq_true rfl) dX0_someWheelRests_13 ⟨Nat.le_of_ble_eq_true rfl, Nat.le_of_ble_eq_true rfl⟩) hS (fun r_2 M_1 H locs hw hP hS => ?_)
      refine lv_if_ne (tgt := 21) hx hb dX0_someWheelRests_16 (by decide) (fun hc => ?_) (fun hc => ?_)
      · have hw := hw.1 hc
        refine lv_iinc (v := (v2 + 1)) (lv' := [(2, .int (v2 + 1)), (0, .ref (kb K + o)), (1, .int v1)]) hx hb dX0_someWheelRests_21 hl (k := 2) rfl (by rw [ic_1]) (by decide) rfl (fun ls hl => ?_)
        refine lv_goto (tgt := 2) hx hb dX0_someWheelRests_24 (by decide) ?_
        exact ih _ _ _ _ _ _ hw hP hS (lv_sub hl [1, 2, 0] rfl)
      · have hw := hw.2 hc
        refine lv_iconst hx hb dX0_someWheelRests_19 ic_1 ?_
        exact r_z C (by decide) hP hS hw dX0_someWheelRests_20
theorem dsX0_someWheelRests : yX0_someWheelRests.cls = RX0 ∧ yX0_someWheelRests.cls ≠ "java/lang/invoke/MethodHandle" ∧ yX0_someWheelRests.cls ≠ "java/lang/invoke/VarHandle" ∧ (parseMethodDescriptor yX0_someWheelRests.desc).map (fun d => d.parameters.length) = some 1 := by decide +kernel
set_option maxRecDepth 100000 in
set_option maxHeartbeats 4000000 in
theorem c_X0_someWheelRests {l : Launch} {K : wC} {o : Nat} {v1 : Int32} {M : Mem} {Q : Int32 → Mem → Prop} (ho : isLay o) (hw : q_X0_someWheelRests o v1 M Q) : metI l yX0_someWheelRests wsX0_someWheelRests rmX0_someWheelRests shX 51 K [.ref (kb K + o), .int v1] M Q := by
  refine met_of (cc := cX0_someWheelRests) (maxL := 3) (ret := (some .boolean)) (own := RX0) (by decide) rfl rfl (Nat.le_of_ble_eq_true rfl) ?_
  intro p e s m below meth c ls C hl hP hS
  have hl : lv_has ls 3 [(0, .ref (kb K + o)), (1, .int v1)] := hl
  obtain ⟨hx, hb, hml, hown, hts, hr, hlk, hK⟩ := id C
  have hP0 := hP
  obtain ⟨n, hw⟩ := hw
  have ih := b_X0_someWheelRests (l := l) (e := e) (below := below) (Q := Q) ho C n
  delta e_X0_someWheelRests at hw
  refine lv_iconst hx hb dX0_someWheelRests_0 ic_0 ?_
  refine lv_istore_n (lv' := [(2, .int (0 : Int32)), (0, .ref (kb K + o)), (1, .int v1)]) hx hb dX0_someWheelRests_1 rfl hl (by decide) rfl (fun ls hl => ?_)
  exact ih _ _ _ _ _ _ hw hP hS (lv_sub hl [1, 2, 0] rfl)
theorem kX0_readsAhead_f28 : Cond.fieldLink RX0 28 (TX0 5).1 (TX0 5).2.1 (TX0 5).2.2.1 ∈ wsX0_readsAhead := List.mem_of_getElem? (i := 1) rfl
theorem hX0_readsAhead_X0 : ∀ w ∈ u_ws RX0 TX0 10, w ∈ wsX0_readsAhead := fun _ h => List.mem_cons_of_mem _ (List.mem_append_right _ (h))
abbrev rmX0_readsAhead : Room := { frames := 3, cells := 0, slots := 0, locals := 65 }
abbrev t_X0_readsAhead : Type := (Int32 → Int32 → Int32 → Int32 → Mem → Prop)
def f_X0_readsAhead_10 (o : Nat) (Q : Int32 → Mem → Prop) (r : t_X0_readsAhead) (v1 : Int32) (v2 : Int32) (v3 : Int32) (v4 : Int32) (M : Mem) : Prop := ((v2 ≤ v4 → Q v3 M) ∧ (¬ v2 ≤ v4 → q_X0_sweepAhead o v4 M (fun r_4 M_3 => q_X0_rollOf o v1 r_4 M_3 (fun r_6 M_5 => r v1 v2 (v3 + r_6) (v4 + 1) M_5))))
def p_X0_readsAhead (o : Nat) (Q : Int32 → Mem → Prop) : Nat → t_X0_readsAhead
  | 0 => fun _ _ _ _ _ => False
  | n + 1 => f_X0_readsAhead_10 o Q (p_X0_readsAhead o Q n)
def e_X0_readsAhead (o : Nat) (v1 : Int32) (v2 : Int32) (Q : Int32 → Mem → Prop) (r : t_X0_readsAhead) (M : Mem) : Prop := vp_in v1 4 ∧ (∀ x_2 : Int32, x_2 = (M (o + 5) v1.toNatClampNeg) → r v1 v2 x_2 (0 : Int32) M)
def q_X0_readsAhead (o : Nat) (v1 : Int32) (v2 : Int32) (M : Mem) (Q : Int32 → Mem → Prop) : Prop := ∃ n : Nat, e_X0_readsAhead o v1 v2 Q (p_X0_readsAhead o Q n) M
set_option maxRecDepth 100000 in
set_option maxHeartbeats 4000000 in
theorem b_X0_readsAhead {l : Launch} {K : wC} {o : Nat} {Q : Int32 → Mem → Prop} {p : Program} {e : Env} {s : State} {m : MethodId} {args : Array Value} {below : List Frame} {meth : Method} {c : Code} (ho : isLay o) (C : cx 51 K p s m args meth c cX0_readsAhead 5 wsX0_readsAhead RX0 (some .int)) : ∀ n : Nat, (∀ (v1 : Int32) (v2 : Int32) (v3 : Int32) (v4 : Int32) (M : Mem) (H : Heap) (locs : List Loc) (ls : Array Slot), (p_X0_readsAhead o Q n) v1 v2 v3 v4 M → wP shX 51 K M H → va_S (wA 51 K) s.heap H locs → lv_has ls 5 [(0, .ref (kb K + o)), (1, .int v1), (2, .int v2), (3, .int v3), (4, .int v4)] → W p l e rmX0_readsAhead s m args below meth c H locs 0 0 (MQ below (va_Qi Q (wE shX 51 K) (wA 51 K)) args s 0 0 (wA 51 K)) (F0 m 10 ls [])) := by
  obtain ⟨hx, hb, hml, hown, hts, hr, hlk, hK⟩ := id C
  intro n
  induction n with
  | zero => exact fun _ _ _ _ _ _ _ _ hw _ _ _ => False.elim hw
  | succ n ih =>
    intro v1 v2 v3 v4 M H locs ls hw hP hS hl
    have hw : f_X0_readsAhead_10 o Q (p_X0_readsAhead o Q n) v1 v2 v3 v4 M := hw
    delta f_X0_readsAhead_10 at hw
    refine lv_iload hx hb dX0_readsAhead_10 (lv_at hl 4 rfl) ?_
    refine lv_iload_n hx hb dX0_readsAhead_12 rfl (lv_at hl 2 rfl) ?_
    refine lv_icmp_ge (tgt := 36) hx hb dX0_readsAhead_13 (by decide) (fun hc => ?_) (fun hc => ?_)
    · have hw := hw.1 hc
      refine lv_iload_n hx hb dX0_readsAhead_36 rfl (lv_at hl 3 rfl) ?_
      exact r_i C hP hS hw dX0_readsAhead_37
    · have hw := hw.2 hc
      refine lv_iload_n hx hb dX0_readsAhead_16 rfl (lv_at hl 3 rfl) ?_
      refine lv_aload_n hx hb dX0_readsAhead_17 rfl (lv_at hl 0 rfl) ?_
      refine lv_iload_n hx hb dX0_readsAhead_18 rfl (lv_at hl 1 rfl) ?_
      refine lv_aload_n hx hb dX0_readsAhead_19 rfl (lv_at hl 0 rfl) ?_
      refine lv_iload hx hb dX0_readsAhead_20 (lv_at hl 4 rfl) ?_
      refine c_i (run_v (As := [.int v4]) (rest := [.int v1, .ref (kb K + o), .int v3]) C hP hS (c_X0_sweepAhead ho hw) gX0_readsAhead_X0_sweepAhead rfl dsX0_sweepAhead rfl ⟨rfl, rfl⟩ ⟨Nat.le_of_ble_eq_true rfl, Nat.le_of_ble_eq_true rfl⟩ (layb0 ho) (lay0 ho K _) rfl hl.1 rfl (Nat.le_of_ble_eq_true rfl) dX0_readsAhead_22 ⟨Nat.le_of_ble_eq_true rfl, Nat.le_of_ble_eq_true rfl⟩) hS (fun r_4 M_3 H locs hw hP hS => ?_)
      refine c_i (run_v (As := [.int v1, .int r_4]) (rest := [.int v3]) C hP hS (c_X0_rollOf ho hw) gX0_readsAhead_X0_rollOf rfl dsX0_rollOf rfl ⟨rfl, rfl⟩ ⟨Nat.le_of_ble_eq_true rfl, Nat.le_of_ble_eq_true rfl⟩ (layb0 ho) (lay0 ho K _) rfl hl.1 rfl (Nat.le_of_ble_eq_true rfl) dX0_readsAhead_25 ⟨Nat.le_of_ble_eq_true rfl, Nat.le_of_ble_eq_true rfl⟩) hS (fun r_6 M_5 H locs hw hP hS => ?_)
      refine lv_iadd hx hb dX0_readsAhead_28 ?_
      refine lv_istore_n (lv' := [(3, .int (v3 + r_6)), (0, .ref (kb K + o)), (1, .int v1), (2, .int v2), (4, .int v4)]) hx hb dX0_readsAhead_29 rfl hl (by decide) rfl (fun ls hl => ?_)
      refine lv_iinc (v := (v4 + 1)) (lv' := [(4, .int (v4 + 1)), (3, .int (v3 + r_6)), (0, .ref (kb K + o)), (1, .int v1), (2, .int v2)]) hx hb dX0_readsAhead_30 hl (k := 4) rfl (by rw [ic_1]) (by decide) rfl (fun ls hl => ?_)
      refine lv_goto (tgt := 10) hx hb dX0_readsAhead_33 (by decide) ?_
      exact ih _ _ _ _ _ _ _ _ hw hP hS (lv_sub hl [2, 3, 4, 1, 0] rfl)
theorem dsX0_readsAhead : yX0_readsAhead.cls = RX0 ∧ yX0_readsAhead.cls ≠ "java/lang/invoke/MethodHandle" ∧ yX0_readsAhead.cls ≠ "java/lang/invoke/VarHandle" ∧ (parseMethodDescriptor yX0_readsAhead.desc).map (fun d => d.parameters.length) = some 2 := by decide +kernel
set_option maxRecDepth 100000 in
set_option maxHeartbeats 4000000 in
theorem c_X0_readsAhead {l : Launch} {K : wC} {o : Nat} {v1 : Int32} {v2 : Int32} {M : Mem} {Q : Int32 → Mem → Prop} (ho : isLay o) (hw : q_X0_readsAhead o v1 v2 M Q) : metI l yX0_readsAhead wsX0_readsAhead rmX0_readsAhead shX 51 K [.ref (kb K + o), .int v1, .int v2] M Q := by
  refine met_of (cc := cX0_readsAhead) (maxL := 5) (ret := (some .int)) (own := RX0) (by decide) rfl rfl (Nat.le_of_ble_eq_true rfl) ?_
  intro p e s m below meth c ls C hl hP hS
  have hl : lv_has ls 5 [(0, .ref (kb K + o)), (1, .int v1), (2, .int v2)] := hl
  obtain ⟨hx, hb, hml, hown, hts, hr, hlk, hK⟩ := id C
  have hP0 := hP
  obtain ⟨n, hw⟩ := hw
  have ih := b_X0_readsAhead (l := l) (e := e) (below := below) (Q := Q) ho C n
  delta e_X0_readsAhead at hw
  refine lv_aload_n hx hb dX0_readsAhead_0 rfl (lv_at hl 0 rfl) ?_
  refine g_f C hP (layb0 ho) (lay0 ho K _) rfl hX0_readsAhead_X0 5 (by decide) kX0_readsAhead_f28 rfl dX0_readsAhead_1 ?_
  refine lv_iload_n hx hb dX0_readsAhead_4 rfl (lv_at hl 1 rfl) ?_
  have hi_1 := hw.1
  have hw := hw.2
  refine a_il C hP (layb ho 5 (by decide)) (lay5 ho K _) hi_1 rfl dX0_readsAhead_5 ?_
  refine lv_topi (fun x_2 ex_2 => ?_)
  have hw := hw x_2 ex_2
  refine lv_istore_n (lv' := [(3, .int x_2), (0, .ref (kb K + o)), (1, .int v1), (2, .int v2)]) hx hb dX0_readsAhead_6 rfl hl (by decide) rfl (fun ls hl => ?_)
  refine lv_iconst hx hb dX0_readsAhead_7 ic_0 ?_
  refine lv_istore (lv' := [(4, .int (0 : Int32)), (3, .int x_2), (0, .ref (kb K + o)), (1, .int v1), (2, .int v2)]) hx hb dX0_readsAhead_8 hl (by decide) rfl (fun ls hl => ?_)
  exact ih _ _ _ _ _ _ _ _ hw hP hS (lv_sub hl [2, 3, 4, 1, 0] rfl)
theorem kX0_shownBy_f28 : Cond.fieldLink RX0 28 (TX0 5).1 (TX0 5).2.1 (TX0 5).2.2.1 ∈ wsX0_shownBy := List.mem_of_getElem? (i := 1) rfl
theorem hX0_shownBy_X0 : ∀ w ∈ u_ws RX0 TX0 10, w ∈ wsX0_shownBy := fun _ h => List.mem_cons_of_mem _ (List.mem_append_right _ (h))
theorem kX0_shownBy_f25 : Cond.fieldLink RX0 25 (TX0 4).1 (TX0 4).2.1 (TX0 4).2.2.1 ∈ wsX0_shownBy := List.mem_of_getElem? (i := 2) rfl
theorem kX0_shownBy_f22 : Cond.fieldLink RX0 22 (TX0 3).1 (TX0 3).2.1 (TX0 3).2.2.1 ∈ wsX0_shownBy := List.mem_of_getElem? (i := 3) rfl
abbrev rmX0_shownBy : Room := { frames := 0, cells := 0, slots := 0, locals := 0 }
def q_X0_shownBy (o : Nat) (v1 : Int32) (M : Mem) (Q : Int32 → Mem → Prop) : Prop := vp_in v1 4 ∧ (∀ x_2 : Int32, x_2 = (M (o + 5) v1.toNatClampNeg) → vp_in v1 4 ∧ (∀ x_4 : Int32, x_4 = (M (o + 4) v1.toNatClampNeg) → vp_in v1 4 ∧ (((M (o + 3) v1.toNatClampNeg) = 1 → (((1 : Int32) ≤ x_4 → (¬ x_4 = 0) ∧ Q (x_2 / x_4) M) ∧ (¬ (1 : Int32) ≤ x_4 → Q (0 : Int32) M))) ∧ (¬ (M (o + 3) v1.toNatClampNeg) = 1 → (((M (o + 3) v1.toNatClampNeg) = 3 → Q ((2 : Int32) * x_2) M) ∧ (¬ (M (o + 3) v1.toNatClampNeg) = 3 → Q x_2 M))))))
theorem dsX0_shownBy : yX0_shownBy.cls = RX0 ∧ yX0_shownBy.cls ≠ "java/lang/invoke/MethodHandle" ∧ yX0_shownBy.cls ≠ "java/lang/invoke/VarHandle" ∧ (parseMethodDescriptor yX0_shownBy.desc).map (fun d => d.parameters.length) = some 1 := by decide +kernel
set_option maxRecDepth 100000 in
set_option maxHeartbeats 4000000 in
theorem c_X0_shownBy {l : Launch} {K : wC} {o : Nat} {v1 : Int32} {M : Mem} {Q : Int32 → Mem → Prop} (ho : isLay o) (hw : q_X0_shownBy o v1 M Q) : metI l yX0_shownBy wsX0_shownBy rmX0_shownBy shX 51 K [.ref (kb K + o), .int v1] M Q := by
  refine met_of (cc := cX0_shownBy) (maxL := 4) (ret := (some .int)) (own := RX0) (by decide) rfl rfl (Nat.le_of_ble_eq_true rfl) ?_
  intro p e s m below meth c ls C hl hP hS
  have hl : lv_has ls 4 [(0, .ref (kb K + o)), (1, .int v1)] := hl
  obtain ⟨hx, hb, hml, hown, hts, hr, hlk, hK⟩ := id C
  have hP0 := hP
  delta q_X0_shownBy at hw
  refine lv_aload_n hx hb dX0_shownBy_0 rfl (lv_at hl 0 rfl) ?_
  refine g_f C hP (layb0 ho) (lay0 ho K _) rfl hX0_shownBy_X0 5 (by decide) kX0_shownBy_f28 rfl dX0_shownBy_1 ?_
  refine lv_iload_n hx hb dX0_shownBy_4 rfl (lv_at hl 1 rfl) ?_
  have hi_1 := hw.1
  have hw := hw.2
  refine a_il C hP (layb ho 5 (by decide)) (lay5 ho K _) hi_1 rfl dX0_shownBy_5 ?_
  refine lv_topi (fun x_2 ex_2 => ?_)
  have hw := hw x_2 ex_2
  refine lv_istore_n (lv' := [(2, .int x_2), (0, .ref (kb K + o)), (1, .int v1)]) hx hb dX0_shownBy_6 rfl hl (by decide) rfl (fun ls hl => ?_)
  refine lv_aload_n hx hb dX0_shownBy_7 rfl (lv_at hl 1 rfl) ?_
  refine g_f C hP (layb0 ho) (lay0 ho K _) rfl hX0_shownBy_X0 4 (by decide) kX0_shownBy_f25 rfl dX0_shownBy_8 ?_
  refine lv_iload_n hx hb dX0_shownBy_11 rfl (lv_at hl 2 rfl) ?_
  have hi_3 := hw.1
  have hw := hw.2
  refine a_il C hP (layb ho 4 (by decide)) (lay4 ho K _) hi_3 rfl dX0_shownBy_12 ?_
  refine lv_topi (fun x_4 ex_4 => ?_)
  have hw := hw x_4 ex_4
  refine lv_istore_n (lv' := [(3, .int x_4), (2, .int x_2), (0, .ref (kb K + o)), (1, .int v1)]) hx hb dX0_shownBy_13 rfl hl (by decide) rfl (fun ls hl => ?_)
  refine lv_aload_n hx hb dX0_shownBy_14 rfl (lv_at hl 2 rfl) ?_
  refine g_f C hP (layb0 ho) (lay0 ho K _) rfl hX0_shownBy_X0 3 (by decide) kX0_shownBy_f22 rfl dX0_shownBy_15 ?_
  refine lv_iload_n hx hb dX0_shownBy_18 rfl (lv_at hl 3 rfl) ?_
  have hi_5 := hw.1
  have hw := hw.2
  refine a_il C hP (layb ho 3 (by decide)) (lay3 ho K _) hi_5 rfl dX0_shownBy_19 ?_
  by_cases hs1 : (M (o + 3) v1.toNatClampNeg) = 1
  · have hw := hw.1 hs1
    refine lv_lookup (off := 28) (tgt := 48) hx hb dX0_shownBy_20 (by decide) (by rw [hs1]; first | done | rfl) (by decide) ?_
    refine lv_iload_n hx hb dX0_shownBy_48 rfl (lv_at hl 0 rfl) ?_
    refine lv_iconst hx hb dX0_shownBy_49 ic_1 ?_
    refine lv_icmp_ge (tgt := 57) hx hb dX0_shownBy_50 (by decide) (fun hc => ?_) (fun hc => ?_)
    · have hw := hw.1 hc
      refine lv_iload_n hx hb dX0_shownBy_57 rfl (lv_at hl 1 rfl) ?_
      refine lv_iload_n hx hb dX0_shownBy_58 rfl (lv_at hl 0 rfl) ?_
      have hz_6 := hw.1
      have hw := hw.2
      refine lv_idiv hx hb dX0_shownBy_59 hz_6 ?_
      exact r_i C hP hS hw dX0_shownBy_60
    · have hw := hw.2 hc
      refine lv_iconst hx hb dX0_shownBy_53 ic_0 ?_
      refine lv_goto (tgt := 60) hx hb dX0_shownBy_54 (by decide) ?_
      exact r_i C hP hS hw dX0_shownBy_60
  · have hw := hw.2 hs1
    by_cases hs3 : (M (o + 3) v1.toNatClampNeg) = 3
    · have hw := hw.1 hs3
      refine lv_lookup (off := 41) (tgt := 61) hx hb dX0_shownBy_20 (by decide) (by rw [hs3]; first | done | rfl) (by decide) ?_
      refine lv_iconst hx hb dX0_shownBy_61 ic_2 ?_
      refine lv_iload_n hx hb dX0_shownBy_62 rfl (lv_at hl 1 rfl) ?_
      refine lv_imul hx hb dX0_shownBy_63 ?_
      exact r_i C hP hS hw dX0_shownBy_64
    · have hw := hw.2 hs3
      refine lv_lookup (off := 45) (tgt := 65) hx hb dX0_shownBy_20 (by decide) (by refine (lv_osw hs1 (by decide)).trans ?_; refine (lv_osw hs3 (by decide)).trans ?_; rfl) (by decide) ?_
      refine lv_iload_n hx hb dX0_shownBy_65 rfl (lv_at hl 1 rfl) ?_
      exact r_i C hP hS hw dX0_shownBy_66
theorem kX0_errorOf_f18 : Cond.fieldLink RX0 18 (TX0 2).1 (TX0 2).2.1 (TX0 2).2.2.1 ∈ wsX0_errorOf := List.mem_of_getElem? (i := 1) rfl
theorem hX0_errorOf_X0 : ∀ w ∈ u_ws RX0 TX0 10, w ∈ wsX0_errorOf := fun _ h => List.mem_cons_of_mem _ (List.mem_append_right _ (h))
theorem kX0_errorOf_m61 : Cond.methodLink RX0 61 Lib.Math.abs.name ∈ wsX0_errorOf := List.mem_of_getElem? (i := 2) rfl
theorem kX0_errorOf_ma1 : Cond.static Lib.Math.abs.name ∈ wsX0_errorOf := List.mem_of_getElem? (i := 3) rfl
theorem kX0_errorOf_ma2 : Cond.initialized "java/lang/Math" ∈ wsX0_errorOf := List.mem_of_getElem? (i := 4) rfl
theorem kX0_errorOf_ma3 : Cond.code Lib.Math.abs.name Lib.Math.abs.code 1 (some .int) ∈ wsX0_errorOf := List.mem_of_getElem? (i := 5) rfl
abbrev rmX0_errorOf : Room := { frames := 3, cells := 0, slots := 0, locals := 65 }
abbrev t_X0_errorOf : Type := (Int32 → Int32 → Int32 → Mem → Prop)
def f_X0_errorOf_4 (o : Nat) (Q : Int32 → Mem → Prop) (r : t_X0_errorOf) (v1 : Int32) (v2 : Int32) (v3 : Int32) (M : Mem) : Prop := (((M o 2) ≤ v3 → Q (iabs v2) M) ∧ (¬ (M o 2) ≤ v3 → q_X0_sweepOf o v3 M (fun r_2 M_1 => q_X0_rollOf o v1 r_2 M_1 (fun r_4 M_3 => r v1 (v2 + (r_4 - r_2)) (v3 + 1) M_3))))
def p_X0_errorOf (o : Nat) (Q : Int32 → Mem → Prop) : Nat → t_X0_errorOf
  | 0 => fun _ _ _ _ => False
  | n + 1 => f_X0_errorOf_4 o Q (p_X0_errorOf o Q n)
def e_X0_errorOf (o : Nat) (v1 : Int32) (Q : Int32 → Mem → Prop) (r : t_X0_errorOf) (M : Mem) : Prop := r v1 (0 : Int32) (0 : Int32) M
def q_X0_errorOf (o : Nat) (v1 : Int32) (M : Mem) (Q : Int32 → Mem → Prop) : Prop := ∃ n : Nat, e_X0_errorOf o v1 Q (p_X0_errorOf o Q n) M
set_option maxRecDepth 100000 in
set_option maxHeartbeats 4000000 in
theorem b_X0_errorOf {l : Launch} {K : wC} {o : Nat} {Q : Int32 → Mem → Prop} {p : Program} {e : Env} {s : State} {m : MethodId} {args : Array Value} {below : List Frame} {meth : Method} {c : Code} (ho : isLay o) (C : cx 51 K p s m args meth c cX0_errorOf 5 wsX0_errorOf RX0 (some .int)) : ∀ n : Nat, (∀ (v1 : Int32) (v2 : Int32) (v3 : Int32) (M : Mem) (H : Heap) (locs : List Loc) (ls : Array Slot), (p_X0_errorOf o Q n) v1 v2 v3 M → wP shX 51 K M H → va_S (wA 51 K) s.heap H locs → lv_has ls 5 [(0, .ref (kb K + o)), (1, .int v1), (2, .int v2), (3, .int v3)] → W p l e rmX0_errorOf s m args below meth c H locs 0 0 (MQ below (va_Qi Q (wE shX 51 K) (wA 51 K)) args s 0 0 (wA 51 K)) (F0 m 4 ls [])) := by
  obtain ⟨hx, hb, hml, hown, hts, hr, hlk, hK⟩ := id C
  intro n
  induction n with
  | zero => exact fun _ _ _ _ _ _ _ hw _ _ _ => False.elim hw
  | succ n ih =>
    intro v1 v2 v3 M H locs ls hw hP hS hl
    have hw : f_X0_errorOf_4 o Q (p_X0_errorOf o Q n) v1 v2 v3 M := hw
    delta f_X0_errorOf_4 at hw
    refine lv_iload_n hx hb dX0_errorOf_4 rfl (lv_at hl 3 rfl) ?_
    refine lv_aload_n hx hb dX0_errorOf_5 rfl (lv_at hl 0 rfl) ?_
    refine g_f C hP (layb0 ho) (lay0 ho K _) rfl hX0_errorOf_X0 2 (by decide) kX0_errorOf_f18 rfl dX0_errorOf_6 ?_
    refine lv_icmp_ge (tgt := 38) hx hb dX0_errorOf_9 (by decide) (fun hc => ?_) (fun hc => ?_)
    · have hw := hw.1 hc
      refine lv_iload_n hx hb dX0_errorOf_38 rfl (lv_at hl 2 rfl) ?_
      refine m_abs C hl.1 kX0_errorOf_m61 kX0_errorOf_ma1 kX0_errorOf_ma2 kX0_errorOf_ma3 (Nat.le_of_ble_eq_true rfl) (Nat.le_of_ble_eq_true rfl) (Nat.le_of_ble_eq_true rfl) (Nat.le_of_ble_eq_true rfl) dX0_errorOf_39 ?_
      exact r_i C hP hS hw dX0_errorOf_42
    · have hw := hw.2 hc
      refine lv_aload_n hx hb dX0_errorOf_12 rfl (lv_at hl 0 rfl) ?_
      refine lv_iload_n hx hb dX0_errorOf_13 rfl (lv_at hl 3 rfl) ?_
      refine c_i (run_v (As := [.int v3]) (rest := []) C hP hS (c_X0_sweepOf ho hw) gX0_errorOf_X0_sweepOf rfl dsX0_sweepOf rfl ⟨rfl, rfl⟩ ⟨Nat.le_of_ble_eq_true rfl, Nat.le_of_ble_eq_true rfl⟩ (layb0 ho) (lay0 ho K _) rfl hl.1 rfl (Nat.le_of_ble_eq_true rfl) dX0_errorOf_14 ⟨Nat.le_of_ble_eq_true rfl, Nat.le_of_ble_eq_true rfl⟩) hS (fun r_2 M_1 H locs hw hP hS => ?_)
      refine lv_istore (lv' := [(4, .int r_2), (0, .ref (kb K + o)), (1, .int v1), (2, .int v2), (3, .int v3)]) hx hb dX0_errorOf_17 hl (by decide) rfl (fun ls hl => ?_)
      refine lv_iload_n hx hb dX0_errorOf_19 rfl (lv_at hl 3 rfl) ?_
      refine lv_aload_n hx hb dX0_errorOf_20 rfl (lv_at hl 1 rfl) ?_
      refine lv_iload_n hx hb dX0_errorOf_21 rfl (lv_at hl 2 rfl) ?_
      refine lv_iload hx hb dX0_errorOf_22 (lv_at hl 0 rfl) ?_
      refine c_i (run_v (As := [.int v1, .int r_2]) (rest := [.int v2]) C hP hS (c_X0_rollOf ho hw) gX0_errorOf_X0_rollOf rfl dsX0_rollOf rfl ⟨rfl, rfl⟩ ⟨Nat.le_of_ble_eq_true rfl, Nat.le_of_ble_eq_true rfl⟩ (layb0 ho) (lay0 ho K _) rfl hl.1 rfl (Nat.le_of_ble_eq_true rfl) dX0_errorOf_24 ⟨Nat.le_of_ble_eq_true rfl, Nat.le_of_ble_eq_true rfl⟩) hS (fun r_4 M_3 H locs hw hP hS => ?_)
      refine lv_iload hx hb dX0_errorOf_27 (lv_at hl 0 rfl) ?_
      refine lv_isub hx hb dX0_errorOf_29 ?_
      refine lv_iadd hx hb dX0_errorOf_30 ?_
      refine lv_istore_n (lv' := [(2, .int (v2 + (r_4 - r_2))), (4, .int r_2), (0, .ref (kb K + o)), (1, .int v1), (3, .int v3)]) hx hb dX0_errorOf_31 rfl hl (by decide) rfl (fun ls hl => ?_)
      refine lv_iinc (v := (v3 + 1)) (lv' := [(3, .int (v3 + 1)), (2, .int (v2 + (r_4 - r_2))), (4, .int r_2), (0, .ref (kb K + o)), (1, .int v1)]) hx hb dX0_errorOf_32 hl (k := 4) rfl (by rw [ic_1]) (by decide) rfl (fun ls hl => ?_)
      refine lv_goto (tgt := 4) hx hb dX0_errorOf_35 (by decide) ?_
      exact ih _ _ _ _ _ _ _ hw hP hS (lv_sub hl [3, 4, 1, 0] rfl)
theorem dsX0_errorOf : yX0_errorOf.cls = RX0 ∧ yX0_errorOf.cls ≠ "java/lang/invoke/MethodHandle" ∧ yX0_errorOf.cls ≠ "java/lang/invoke/VarHandle" ∧ (parseMethodDescriptor yX0_errorOf.desc).map (fun d => d.parameters.length) = some 1 := by decide +kernel
set_option maxRecDepth 100000 in
set_option maxHeartbeats 4000000 in
theorem c_X0_errorOf {l : Launch} {K : wC} {o : Nat} {v1 : Int32} {M : Mem} {Q : Int32 → Mem → Prop} (ho : isLay o) (hw : q_X0_errorOf o v1 M Q) : metI l yX0_errorOf wsX0_errorOf rmX0_errorOf shX 51 K [.ref (kb K + o), .int v1] M Q := by
  refine met_of (cc := cX0_errorOf) (maxL := 5) (ret := (some .int)) (own := RX0) (by decide) rfl rfl (Nat.le_of_ble_eq_true rfl) ?_
  intro p e s m below meth c ls C hl hP hS
  have hl : lv_has ls 5 [(0, .ref (kb K + o)), (1, .int v1)] := hl
  obtain ⟨hx, hb, hml, hown, hts, hr, hlk, hK⟩ := id C
  have hP0 := hP
  obtain ⟨n, hw⟩ := hw
  have ih := b_X0_errorOf (l := l) (e := e) (below := below) (Q := Q) ho C n
  delta e_X0_errorOf at hw
  refine lv_iconst hx hb dX0_errorOf_0 ic_0 ?_
  refine lv_istore_n (lv' := [(2, .int (0 : Int32)), (0, .ref (kb K + o)), (1, .int v1)]) hx hb dX0_errorOf_1 rfl hl (by decide) rfl (fun ls hl => ?_)
  refine lv_iconst hx hb dX0_errorOf_2 ic_0 ?_
  refine lv_istore_n (lv' := [(3, .int (0 : Int32)), (2, .int (0 : Int32)), (0, .ref (kb K + o)), (1, .int v1)]) hx hb dX0_errorOf_3 rfl hl (by decide) rfl (fun ls hl => ?_)
  exact ih _ _ _ _ _ _ _ hw hP hS (lv_sub hl [2, 3, 1, 0] rfl)
theorem kX0_sumOfSteps_f31 : Cond.fieldLink RX0 31 (TX0 6).1 (TX0 6).2.1 (TX0 6).2.2.1 ∈ wsX0_sumOfSteps := List.mem_of_getElem? (i := 1) rfl
theorem hX0_sumOfSteps_X0 : ∀ w ∈ u_ws RX0 TX0 10, w ∈ wsX0_sumOfSteps := fun _ h => List.mem_cons_of_mem _ (List.mem_append_right _ (h))
theorem kX0_sumOfSteps_f25 : Cond.fieldLink RX0 25 (TX0 4).1 (TX0 4).2.1 (TX0 4).2.2.1 ∈ wsX0_sumOfSteps := List.mem_of_getElem? (i := 2) rfl
abbrev rmX0_sumOfSteps : Room := { frames := 0, cells := 0, slots := 0, locals := 0 }
abbrev t_X0_sumOfSteps : Type := (Int32 → Int32 → Mem → Prop)
def f_X0_sumOfSteps_4 (o : Nat) (Q : Int32 → Mem → Prop) (r : t_X0_sumOfSteps) (v1 : Int32) (v2 : Int32) (M : Mem) : Prop := (((M o 6) ≤ v2 → Q v1 M) ∧ (¬ (M o 6) ≤ v2 → vp_in v2 4 ∧ (∀ x_2 : Int32, x_2 = (v1 + (M (o + 4) v2.toNatClampNeg)) → r x_2 (v2 + 1) M)))
def p_X0_sumOfSteps (o : Nat) (Q : Int32 → Mem → Prop) : Nat → t_X0_sumOfSteps
  | 0 => fun _ _ _ => False
  | n + 1 => f_X0_sumOfSteps_4 o Q (p_X0_sumOfSteps o Q n)
def e_X0_sumOfSteps (o : Nat) (Q : Int32 → Mem → Prop) (r : t_X0_sumOfSteps) (M : Mem) : Prop := r (0 : Int32) (0 : Int32) M
def q_X0_sumOfSteps (o : Nat) (M : Mem) (Q : Int32 → Mem → Prop) : Prop := ∃ n : Nat, e_X0_sumOfSteps o Q (p_X0_sumOfSteps o Q n) M
set_option maxRecDepth 100000 in
set_option maxHeartbeats 4000000 in
theorem b_X0_sumOfSteps {l : Launch} {K : wC} {o : Nat} {Q : Int32 → Mem → Prop} {p : Program} {e : Env} {s : State} {m : MethodId} {args : Array Value} {below : List Frame} {meth : Method} {c : Code} (ho : isLay o) (C : cx 51 K p s m args meth c cX0_sumOfSteps 3 wsX0_sumOfSteps RX0 (some .int)) : ∀ n : Nat, (∀ (v1 : Int32) (v2 : Int32) (M : Mem) (H : Heap) (locs : List Loc) (ls : Array Slot), (p_X0_sumOfSteps o Q n) v1 v2 M → wP shX 51 K M H → va_S (wA 51 K) s.heap H locs → lv_has ls 3 [(0, .ref (kb K + o)), (1, .int v1), (2, .int v2)] → W p l e rmX0_sumOfSteps s m args below meth c H locs 0 0 (MQ below (va_Qi Q (wE shX 51 K) (wA 51 K)) args s 0 0 (wA 51 K)) (F0 m 4 ls [])) := by
  obtain ⟨hx, hb, hml, hown, hts, hr, hlk, hK⟩ := id C
  intro n
  induction n with
  | zero => exact fun _ _ _ _ _ _ hw _ _ _ => False.elim hw
  | succ n ih =>
    intro v1 v2 M H locs ls hw hP hS hl
    have hw : f_X0_sumOfSteps_4 o Q (p_X0_sumOfSteps o Q n) v1 v2 M := hw
    delta f_X0_sumOfSteps_4 at hw
    refine lv_iload_n hx hb dX0_sumOfSteps_4 rfl (lv_at hl 2 rfl) ?_
    refine lv_aload_n hx hb dX0_sumOfSteps_5 rfl (lv_at hl 0 rfl) ?_
    refine g_f C hP (layb0 ho) (lay0 ho K _) rfl hX0_sumOfSteps_X0 6 (by decide) kX0_sumOfSteps_f31 rfl dX0_sumOfSteps_6 ?_
    refine lv_icmp_ge (tgt := 27) hx hb dX0_sumOfSteps_9 (by decide) (fun hc => ?_) (fun hc => ?_)
    · have hw := hw.1 hc
      refine lv_iload_n hx hb dX0_sumOfSteps_27 rfl (lv_at hl 1 rfl) ?_
      exact r_i C hP hS hw dX0_sumOfSteps_28
    · have hw := hw.2 hc
      refine lv_iload_n hx hb dX0_sumOfSteps_12 rfl (lv_at hl 1 rfl) ?_
      refine lv_aload_n hx hb dX0_sumOfSteps_13 rfl (lv_at hl 0 rfl) ?_
      refine g_f C hP (layb0 ho) (lay0 ho K _) rfl hX0_sumOfSteps_X0 4 (by decide) kX0_sumOfSteps_f25 rfl dX0_sumOfSteps_14 ?_
      refine lv_iload_n hx hb dX0_sumOfSteps_17 rfl (lv_at hl 2 rfl) ?_
      have hi_1 := hw.1
      have hw := hw.2
      refine a_il C hP (layb ho 4 (by decide)) (lay4 ho K _) hi_1 rfl dX0_sumOfSteps_18 ?_
      refine lv_iadd hx hb dX0_sumOfSteps_19 ?_
      refine lv_topi (fun x_2 ex_2 => ?_)
      have hw := hw x_2 ex_2
      refine lv_istore_n (lv' := [(1, .int x_2), (0, .ref (kb K + o)), (2, .int v2)]) hx hb dX0_sumOfSteps_20 rfl hl (by decide) rfl (fun ls hl => ?_)
      refine lv_iinc (v := (v2 + 1)) (lv' := [(2, .int (v2 + 1)), (1, .int x_2), (0, .ref (kb K + o))]) hx hb dX0_sumOfSteps_21 hl (k := 2) rfl (by rw [ic_1]) (by decide) rfl (fun ls hl => ?_)
      refine lv_goto (tgt := 4) hx hb dX0_sumOfSteps_24 (by decide) ?_
      exact ih _ _ _ _ _ _ hw hP hS (lv_sub hl [2, 1, 0] rfl)
theorem dsX0_sumOfSteps : yX0_sumOfSteps.cls = RX0 ∧ yX0_sumOfSteps.cls ≠ "java/lang/invoke/MethodHandle" ∧ yX0_sumOfSteps.cls ≠ "java/lang/invoke/VarHandle" ∧ (parseMethodDescriptor yX0_sumOfSteps.desc).map (fun d => d.parameters.length) = some 0 := by decide +kernel
set_option maxRecDepth 100000 in
set_option maxHeartbeats 4000000 in
theorem c_X0_sumOfSteps {l : Launch} {K : wC} {o : Nat} {M : Mem} {Q : Int32 → Mem → Prop} (ho : isLay o) (hw : q_X0_sumOfSteps o M Q) : metI l yX0_sumOfSteps wsX0_sumOfSteps rmX0_sumOfSteps shX 51 K [.ref (kb K + o)] M Q := by
  refine met_of (cc := cX0_sumOfSteps) (maxL := 3) (ret := (some .int)) (own := RX0) (by decide) rfl rfl (Nat.le_of_ble_eq_true rfl) ?_
  intro p e s m below meth c ls C hl hP hS
  have hl : lv_has ls 3 [(0, .ref (kb K + o))] := hl
  obtain ⟨hx, hb, hml, hown, hts, hr, hlk, hK⟩ := id C
  have hP0 := hP
  obtain ⟨n, hw⟩ := hw
  have ih := b_X0_sumOfSteps (l := l) (e := e) (below := below) (Q := Q) ho C n
  delta e_X0_sumOfSteps at hw
  refine lv_iconst hx hb dX0_sumOfSteps_0 ic_0 ?_
  refine lv_istore_n (lv' := [(1, .int (0 : Int32)), (0, .ref (kb K + o))]) hx hb dX0_sumOfSteps_1 rfl hl (by decide) rfl (fun ls hl => ?_)
  refine lv_iconst hx hb dX0_sumOfSteps_2 ic_0 ?_
  refine lv_istore_n (lv' := [(2, .int (0 : Int32)), (1, .int (0 : Int32)), (0, .ref (kb K + o))]) hx hb dX0_sumOfSteps_3 rfl hl (by decide) rfl (fun ls hl => ?_)
  exact ih _ _ _ _ _ _ hw hP hS (lv_sub hl [2, 1, 0] rfl)
theorem kX0_sumOfPlaces_f18 : Cond.fieldLink RX0 18 (TX0 2).1 (TX0 2).2.1 (TX0 2).2.2.1 ∈ wsX0_sumOfPlaces := List.mem_of_getElem? (i := 1) rfl
theorem hX0_sumOfPlaces_X0 : ∀ w ∈ u_ws RX0 TX0 10, w ∈ wsX0_sumOfPlaces := fun _ h => List.mem_cons_of_mem _ (List.mem_append_right _ (h))
theorem kX0_sumOfPlaces_f9 : Cond.fieldLink RX0 9 (TX0 0).1 (TX0 0).2.1 (TX0 0).2.2.1 ∈ wsX0_sumOfPlaces := List.mem_of_getElem? (i := 2) rfl
theorem kX0_sumOfPlaces_f15 : Cond.fieldLink RX0 15 (TX0 1).1 (TX0 1).2.1 (TX0 1).2.2.1 ∈ wsX0_sumOfPlaces := List.mem_of_getElem? (i := 3) rfl
abbrev rmX0_sumOfPlaces : Room := { frames := 0, cells := 0, slots := 0, locals := 0 }
abbrev t_X0_sumOfPlaces : Type := (Int32 → Int32 → Mem → Prop)
def f_X0_sumOfPlaces_4 (o : Nat) (Q : Int32 → Mem → Prop) (r : t_X0_sumOfPlaces) (v1 : Int32) (v2 : Int32) (M : Mem) : Prop := (((M o 2) ≤ v2 → Q v1 M) ∧ (¬ (M o 2) ≤ v2 → vp_in v2 10 ∧ vp_in v2 10 ∧ (∀ x_3 : Int32, x_3 = (v1 + ((M (o + 1) v2.toNatClampNeg) + (M (o + 2) v2.toNatClampNeg))) → r x_3 (v2 + 1) M)))
def p_X0_sumOfPlaces (o : Nat) (Q : Int32 → Mem → Prop) : Nat → t_X0_sumOfPlaces
  | 0 => fun _ _ _ => False
  | n + 1 => f_X0_sumOfPlaces_4 o Q (p_X0_sumOfPlaces o Q n)
def e_X0_sumOfPlaces (o : Nat) (Q : Int32 → Mem → Prop) (r : t_X0_sumOfPlaces) (M : Mem) : Prop := r (0 : Int32) (0 : Int32) M
def q_X0_sumOfPlaces (o : Nat) (M : Mem) (Q : Int32 → Mem → Prop) : Prop := ∃ n : Nat, e_X0_sumOfPlaces o Q (p_X0_sumOfPlaces o Q n) M
set_option maxRecDepth 100000 in
set_option maxHeartbeats 4000000 in
theorem b_X0_sumOfPlaces {l : Launch} {K : wC} {o : Nat} {Q : Int32 → Mem → Prop} {p : Program} {e : Env} {s : State} {m : MethodId} {args : Array Value} {below : List Frame} {meth : Method} {c : Code} (ho : isLay o) (C : cx 51 K p s m args meth c cX0_sumOfPlaces 3 wsX0_sumOfPlaces RX0 (some .int)) : ∀ n : Nat, (∀ (v1 : Int32) (v2 : Int32) (M : Mem) (H : Heap) (locs : List Loc) (ls : Array Slot), (p_X0_sumOfPlaces o Q n) v1 v2 M → wP shX 51 K M H → va_S (wA 51 K) s.heap H locs → lv_has ls 3 [(0, .ref (kb K + o)), (1, .int v1), (2, .int v2)] → W p l e rmX0_sumOfPlaces s m args below meth c H locs 0 0 (MQ below (va_Qi Q (wE shX 51 K) (wA 51 K)) args s 0 0 (wA 51 K)) (F0 m 4 ls [])) := by
  obtain ⟨hx, hb, hml, hown, hts, hr, hlk, hK⟩ := id C
  intro n
  induction n with
  | zero => exact fun _ _ _ _ _ _ hw _ _ _ => False.elim hw
  | succ n ih =>
    intro v1 v2 M H locs ls hw hP hS hl
    have hw : f_X0_sumOfPlaces_4 o Q (p_X0_sumOfPlaces o Q n) v1 v2 M := hw
    delta f_X0_sumOfPlaces_4 at hw
    refine lv_iload_n hx hb dX0_sumOfPlaces_4 rfl (lv_at hl 2 rfl) ?_
    refine lv_aload_n hx hb dX0_sumOfPlaces_5 rfl (lv_at hl 0 rfl) ?_
    refine g_f C hP (layb0 ho) (lay0 ho K _) rfl hX0_sumOfPlaces_X0 2 (by decide) kX0_sumOfPlaces_f18 rfl dX0_sumOfPlaces_6 ?_
    refine lv_icmp_ge (tgt := 34) hx hb dX0_sumOfPlaces_9 (by decide) (fun hc => ?_) (fun hc => ?_)
    · have hw := hw.1 hc
      refine lv_iload_n hx hb dX0_sumOfPlaces_34 rfl (lv_at hl 1 rfl) ?_
      exact r_i C hP hS hw dX0_sumOfPlaces_35
    · have hw := hw.2 hc
      refine lv_iload_n hx hb dX0_sumOfPlaces_12 rfl (lv_at hl 1 rfl) ?_
      refine lv_aload_n hx hb dX0_sumOfPlaces_13 rfl (lv_at hl 0 rfl) ?_
      refine g_f C hP (layb0 ho) (lay0 ho K _) rfl hX0_sumOfPlaces_X0 0 (by decide) kX0_sumOfPlaces_f9 rfl dX0_sumOfPlaces_14 ?_
      refine lv_iload_n hx hb dX0_sumOfPlaces_17 rfl (lv_at hl 2 rfl) ?_
      have hi_1 := hw.1
      have hw := hw.2
      refine a_il C hP (layb ho 1 (by decide)) (lay1 ho K _) hi_1 rfl dX0_sumOfPlaces_18 ?_
      refine lv_aload_n hx hb dX0_sumOfPlaces_19 rfl (lv_at hl 0 rfl) ?_
      refine g_f C hP (layb0 ho) (lay0 ho K _) rfl hX0_sumOfPlaces_X0 1 (by decide) kX0_sumOfPlaces_f15 rfl dX0_sumOfPlaces_20 ?_
      refine lv_iload_n hx hb dX0_sumOfPlaces_23 rfl (lv_at hl 2 rfl) ?_
      have hi_2 := hw.1
      have hw := hw.2
      refine a_il C hP (layb ho 2 (by decide)) (lay2 ho K _) hi_2 rfl dX0_sumOfPlaces_24 ?_
      refine lv_iadd hx hb dX0_sumOfPlaces_25 ?_
      refine lv_iadd hx hb dX0_sumOfPlaces_26 ?_
      refine lv_topi (fun x_3 ex_3 => ?_)
      have hw := hw x_3 ex_3
      refine lv_istore_n (lv' := [(1, .int x_3), (0, .ref (kb K + o)), (2, .int v2)]) hx hb dX0_sumOfPlaces_27 rfl hl (by decide) rfl (fun ls hl => ?_)
      refine lv_iinc (v := (v2 + 1)) (lv' := [(2, .int (v2 + 1)), (1, .int x_3), (0, .ref (kb K + o))]) hx hb dX0_sumOfPlaces_28 hl (k := 2) rfl (by rw [ic_1]) (by decide) rfl (fun ls hl => ?_)
      refine lv_goto (tgt := 4) hx hb dX0_sumOfPlaces_31 (by decide) ?_
      exact ih _ _ _ _ _ _ hw hP hS (lv_sub hl [2, 1, 0] rfl)
theorem dsX0_sumOfPlaces : yX0_sumOfPlaces.cls = RX0 ∧ yX0_sumOfPlaces.cls ≠ "java/lang/invoke/MethodHandle" ∧ yX0_sumOfPlaces.cls ≠ "java/lang/invoke/VarHandle" ∧ (parseMethodDescriptor yX0_sumOfPlaces.desc).map (fun d => d.parameters.length) = some 0 := by decide +kernel
set_option maxRecDepth 100000 in
set_option maxHeartbeats 4000000 in
theorem c_X0_sumOfPlaces {l : Launch} {K : wC} {o : Nat} {M : Mem} {Q : Int32 → Mem → Prop} (ho : isLay o) (hw : q_X0_sumOfPlaces o M Q) : metI l yX0_sumOfPlaces wsX0_sumOfPlaces rmX0_sumOfPlaces shX 51 K [.ref (kb K + o)] M Q := by
  refine met_of (cc := cX0_sumOfPlaces) (maxL := 3) (ret := (some .int)) (own := RX0) (by decide) rfl rfl (Nat.le_of_ble_eq_true rfl) ?_
  intro p e s m below meth c ls C hl hP hS
  have hl : lv_has ls 3 [(0, .ref (kb K + o))] := hl
  obtain ⟨hx, hb, hml, hown, hts, hr, hlk, hK⟩ := id C
  have hP0 := hP
  obtain ⟨n, hw⟩ := hw
  have ih := b_X0_sumOfPlaces (l := l) (e := e) (below := below) (Q := Q) ho C n
  delta e_X0_sumOfPlaces at hw
  refine lv_iconst hx hb dX0_sumOfPlaces_0 ic_0 ?_
  refine lv_istore_n (lv' := [(1, .int (0 : Int32)), (0, .ref (kb K + o))]) hx hb dX0_sumOfPlaces_1 rfl hl (by decide) rfl (fun ls hl => ?_)
  refine lv_iconst hx hb dX0_sumOfPlaces_2 ic_0 ?_
  refine lv_istore_n (lv' := [(2, .int (0 : Int32)), (1, .int (0 : Int32)), (0, .ref (kb K + o))]) hx hb dX0_sumOfPlaces_3 rfl hl (by decide) rfl (fun ls hl => ?_)
  exact ih _ _ _ _ _ _ hw hP hS (lv_sub hl [2, 1, 0] rfl)
