theorem kX0_clear_f18 : Cond.fieldLink RX0 18 (TX0 2).1 (TX0 2).2.1 (TX0 2).2.2.1 ∈ wsX0_clear := List.mem_of_getElem? (i := 1) rfl
theorem hX0_clear_X0 : ∀ w ∈ u_ws RX0 TX0 10, w ∈ wsX0_clear := fun _ h => List.mem_cons_of_mem _ (List.mem_append_right _ (h))
theorem kX0_clear_f31 : Cond.fieldLink RX0 31 (TX0 6).1 (TX0 6).2.1 (TX0 6).2.2.1 ∈ wsX0_clear := List.mem_of_getElem? (i := 2) rfl
theorem kX0_clear_f34 : Cond.fieldLink RX0 34 (TX0 7).1 (TX0 7).2.1 (TX0 7).2.2.1 ∈ wsX0_clear := List.mem_of_getElem? (i := 3) rfl
theorem kX0_clear_f37 : Cond.fieldLink RX0 37 (TX0 8).1 (TX0 8).2.1 (TX0 8).2.2.1 ∈ wsX0_clear := List.mem_of_getElem? (i := 4) rfl
theorem kX0_clear_f40 : Cond.fieldLink RX0 40 (TX0 9).1 (TX0 9).2.1 (TX0 9).2.2.1 ∈ wsX0_clear := List.mem_of_getElem? (i := 5) rfl
abbrev rmX0_clear : Room := { frames := 0, cells := 0, slots := 0, locals := 0 }
def q_X0_clear (o : Nat) (M : Mem) (Q : Mem → Prop) : Prop := ∀ M_1 : Mem, M_1 = mU (mU (mU (mU M o 2 (0 : Int32)) o 6 (0 : Int32)) o 7 (0 : Int32)) o 8 (0 : Int32) → Q (mU M_1 o 9 (0 : Int32))
theorem dsX0_clear : yX0_clear.cls = RX0 ∧ yX0_clear.cls ≠ "java/lang/invoke/MethodHandle" ∧ yX0_clear.cls ≠ "java/lang/invoke/VarHandle" ∧ (parseMethodDescriptor yX0_clear.desc).map (fun d => d.parameters.length) = some 0 := by decide +kernel
set_option maxRecDepth 100000 in
set_option maxHeartbeats 4000000 in
theorem c_X0_clear {l : Launch} {K : wC} {o : Nat} {M : Mem} {Q : Mem → Prop} (ho : isLay o) (hw : q_X0_clear o M Q) : metV l yX0_clear wsX0_clear rmX0_clear shX 51 K [.ref (kb K + o)] M Q := by
  refine met_of (cc := cX0_clear) (maxL := 1) (ret := none) (own := RX0) (by decide) rfl rfl (Nat.le_of_ble_eq_true rfl) ?_
  intro p e s m below meth c ls C hl hP hS
  have hl : lv_has ls 1 [(0, .ref (kb K + o))] := hl
  obtain ⟨hx, hb, hml, hown, hts, hr, hlk, hK⟩ := id C
  have hP0 := hP
  delta q_X0_clear at hw
  refine lv_aload_n hx hb dX0_clear_0 rfl (lv_at hl 0 rfl) ?_
  refine lv_iconst hx hb dX0_clear_1 ic_0 ?_
  refine p_f C hP hS (layb0 ho) (lay0 ho K _) (lay0 ho K _) rfl hX0_clear_X0 tyX0_ok nmX0 (by decide) kX0_clear_f18 rfl rfl rfl (Nat.le_of_ble_eq_true rfl) dX0_clear_2 (fun H locs hP hS => ?_)
  refine lv_aload_n hx hb dX0_clear_5 rfl (lv_at hl 0 rfl) ?_
  refine lv_iconst hx hb dX0_clear_6 ic_0 ?_
  refine p_f C hP hS (layb0 ho) (lay0 ho K _) (lay0 ho K _) rfl hX0_clear_X0 tyX0_ok nmX0 (by decide) kX0_clear_f31 rfl rfl rfl (Nat.le_of_ble_eq_true rfl) dX0_clear_7 (fun H locs hP hS => ?_)
  refine lv_aload_n hx hb dX0_clear_10 rfl (lv_at hl 0 rfl) ?_
  refine lv_iconst hx hb dX0_clear_11 ic_0 ?_
  refine p_f C hP hS (layb0 ho) (lay0 ho K _) (lay0 ho K _) rfl hX0_clear_X0 tyX0_ok nmX0 (by decide) kX0_clear_f34 rfl rfl rfl (Nat.le_of_ble_eq_true rfl) dX0_clear_12 (fun H locs hP hS => ?_)
  refine lv_aload_n hx hb dX0_clear_15 rfl (lv_at hl 0 rfl) ?_
  refine lv_iconst hx hb dX0_clear_16 ic_0 ?_
  refine p_f C hP hS (layb0 ho) (lay0 ho K _) (lay0 ho K _) rfl hX0_clear_X0 tyX0_ok nmX0 (by decide) kX0_clear_f37 rfl rfl rfl (Nat.le_of_ble_eq_true rfl) dX0_clear_17 (fun H locs hP hS => ?_)
  obtain ⟨M_1, eM_1⟩ : ∃ z : Mem, z = mU (mU (mU (mU M o 2 (0 : Int32)) o 6 (0 : Int32)) o 7 (0 : Int32)) o 8 (0 : Int32) := ⟨_, rfl⟩
  rw [← eM_1] at hP
  have hw := hw M_1 eM_1
  refine lv_aload_n hx hb dX0_clear_20 rfl (lv_at hl 0 rfl) ?_
  refine lv_iconst hx hb dX0_clear_21 ic_0 ?_
  refine p_f C hP hS (layb0 ho) (lay0 ho K _) (lay0 ho K _) rfl hX0_clear_X0 tyX0_ok nmX0 (by decide) kX0_clear_f40 rfl rfl rfl (Nat.le_of_ble_eq_true rfl) dX0_clear_22 (fun H locs hP hS => ?_)
  exact r_v C hP hS hw dX0_clear_25

theorem kX0_copyFrom_f9 : Cond.fieldLink RX0 9 (TX0 0).1 (TX0 0).2.1 (TX0 0).2.2.1 ∈ wsX0_copyFrom := List.mem_of_getElem? (i := 1) rfl
theorem hX0_copyFrom_X0 : ∀ w ∈ u_ws RX0 TX0 10, w ∈ wsX0_copyFrom := fun _ h => List.mem_cons_of_mem _ (List.mem_append_right _ (h))
theorem kX0_copyFrom_m43 : Cond.methodLink RX0 43 arraycopyName ∈ wsX0_copyFrom := List.mem_of_getElem? (i := 2) rfl
theorem kX0_copyFrom_ac1 : Cond.native arraycopyName ∈ wsX0_copyFrom := List.mem_of_getElem? (i := 3) rfl
theorem kX0_copyFrom_ac2 : Cond.static arraycopyName ∈ wsX0_copyFrom := List.mem_of_getElem? (i := 4) rfl
theorem kX0_copyFrom_ac3 : Cond.initialized "java/lang/System" ∈ wsX0_copyFrom := List.mem_of_getElem? (i := 5) rfl
theorem kX0_copyFrom_f15 : Cond.fieldLink RX0 15 (TX0 1).1 (TX0 1).2.1 (TX0 1).2.2.1 ∈ wsX0_copyFrom := List.mem_of_getElem? (i := 6) rfl
theorem kX0_copyFrom_f18 : Cond.fieldLink RX0 18 (TX0 2).1 (TX0 2).2.1 (TX0 2).2.2.1 ∈ wsX0_copyFrom := List.mem_of_getElem? (i := 7) rfl
theorem kX0_copyFrom_f22 : Cond.fieldLink RX0 22 (TX0 3).1 (TX0 3).2.1 (TX0 3).2.2.1 ∈ wsX0_copyFrom := List.mem_of_getElem? (i := 8) rfl
theorem kX0_copyFrom_f25 : Cond.fieldLink RX0 25 (TX0 4).1 (TX0 4).2.1 (TX0 4).2.2.1 ∈ wsX0_copyFrom := List.mem_of_getElem? (i := 9) rfl
theorem kX0_copyFrom_f28 : Cond.fieldLink RX0 28 (TX0 5).1 (TX0 5).2.1 (TX0 5).2.2.1 ∈ wsX0_copyFrom := List.mem_of_getElem? (i := 10) rfl
theorem kX0_copyFrom_f31 : Cond.fieldLink RX0 31 (TX0 6).1 (TX0 6).2.1 (TX0 6).2.2.1 ∈ wsX0_copyFrom := List.mem_of_getElem? (i := 11) rfl
theorem kX0_copyFrom_f34 : Cond.fieldLink RX0 34 (TX0 7).1 (TX0 7).2.1 (TX0 7).2.2.1 ∈ wsX0_copyFrom := List.mem_of_getElem? (i := 12) rfl
theorem kX0_copyFrom_f37 : Cond.fieldLink RX0 37 (TX0 8).1 (TX0 8).2.1 (TX0 8).2.2.1 ∈ wsX0_copyFrom := List.mem_of_getElem? (i := 13) rfl
theorem kX0_copyFrom_f40 : Cond.fieldLink RX0 40 (TX0 9).1 (TX0 9).2.1 (TX0 9).2.2.1 ∈ wsX0_copyFrom := List.mem_of_getElem? (i := 14) rfl
abbrev rmX0_copyFrom : Room := { frames := 1, cells := 0, slots := 0, locals := 40 }
def q_X0_copyFrom (o : Nat) (o1 : Nat) (M : Mem) (Q : Mem → Prop) : Prop := ∀ M_1 : Mem, M_1 = mR (mR M (o + 1) (cpN 10 (M (o1 + 1)) (M (o + 1)))) (o + 2) (cpN 10 ((mR M (o + 1) (cpN 10 (M (o1 + 1)) (M (o + 1)))) (o1 + 2)) ((mR M (o + 1) (cpN 10 (M (o1 + 1)) (M (o + 1)))) (o + 2))) → ∀ M_2 : Mem, M_2 = mR (mU M_1 o 2 (M_1 o1 2)) (o + 3) (cpN 4 ((mU M_1 o 2 (M_1 o1 2)) (o1 + 3)) ((mU M_1 o 2 (M_1 o1 2)) (o + 3))) → ∀ M_3 : Mem, M_3 = mR (mR M_2 (o + 4) (cpN 4 (M_2 (o1 + 4)) (M_2 (o + 4)))) (o + 5) (cpN 4 ((mR M_2 (o + 4) (cpN 4 (M_2 (o1 + 4)) (M_2 (o + 4)))) (o1 + 5)) ((mR M_2 (o + 4) (cpN 4 (M_2 (o1 + 4)) (M_2 (o + 4)))) (o + 5))) → ∀ M_4 : Mem, M_4 = mU (mU (mU M_3 o 6 (M_3 o1 6)) o 7 ((mU M_3 o 6 (M_3 o1 6)) o1 7)) o 8 ((mU (mU M_3 o 6 (M_3 o1 6)) o 7 ((mU M_3 o 6 (M_3 o1 6)) o1 7)) o1 8) → Q (mU M_4 o 9 (M_4 o1 9))
theorem dsX0_copyFrom : yX0_copyFrom.cls = RX0 ∧ yX0_copyFrom.cls ≠ "java/lang/invoke/MethodHandle" ∧ yX0_copyFrom.cls ≠ "java/lang/invoke/VarHandle" ∧ (parseMethodDescriptor yX0_copyFrom.desc).map (fun d => d.parameters.length) = some 1 := by decide +kernel
set_option maxRecDepth 100000 in
set_option maxHeartbeats 4000000 in
theorem c_X0_copyFrom {l : Launch} {K : wC} {o : Nat} {o1 : Nat} {M : Mem} {Q : Mem → Prop} (ho : isLay o) (ho1 : isLay o1) (hw : q_X0_copyFrom o o1 M Q) : metV l yX0_copyFrom wsX0_copyFrom rmX0_copyFrom shX 51 K [.ref (kb K + o), .ref (kb K + o1)] M Q := by
  refine met_of (cc := cX0_copyFrom) (maxL := 2) (ret := none) (own := RX0) (by decide) rfl rfl (Nat.le_of_ble_eq_true rfl) ?_
  intro p e s m below meth c ls C hl hP hS
  have hl : lv_has ls 2 [(0, .ref (kb K + o)), (1, .ref (kb K + o1))] := hl
  obtain ⟨hx, hb, hml, hown, hts, hr, hlk, hK⟩ := id C
  have hP0 := hP
  delta q_X0_copyFrom at hw
  refine lv_aload_n hx hb dX0_copyFrom_0 rfl (lv_at hl 1 rfl) ?_
  refine g_f C hP (layb0 ho1) (lay0 ho1 K _) rfl hX0_copyFrom_X0 0 (by decide) kX0_copyFrom_f9 rfl dX0_copyFrom_1 ?_
  refine lv_iconst hx hb dX0_copyFrom_4 ic_0 ?_
  refine lv_aload_n hx hb dX0_copyFrom_5 rfl (lv_at hl 0 rfl) ?_
  refine g_f C hP (layb0 ho) (lay0 ho K _) rfl hX0_copyFrom_X0 0 (by decide) kX0_copyFrom_f9 rfl dX0_copyFrom_6 ?_
  refine lv_iconst hx hb dX0_copyFrom_9 ic_0 ?_
  refine lv_bipush hx hb dX0_copyFrom_10 bp_10 ?_
  refine a_c0 C hP hS (layb ho1 1 (by decide)) (layb ho 1 (by decide)) (lay1 ho1 K _) (lay1 ho K) hl.1 kX0_copyFrom_m43 kX0_copyFrom_ac1 kX0_copyFrom_ac2 kX0_copyFrom_ac3 (by decide) (Nat.le_of_ble_eq_true rfl) (by decide) dX0_copyFrom_12 (fun H locs hP hS => ?_)
  refine lv_aload_n hx hb dX0_copyFrom_15 rfl (lv_at hl 1 rfl) ?_
  refine g_f C hP (layb0 ho1) (lay0 ho1 K _) rfl hX0_copyFrom_X0 1 (by decide) kX0_copyFrom_f15 rfl dX0_copyFrom_16 ?_
  refine lv_iconst hx hb dX0_copyFrom_19 ic_0 ?_
  refine lv_aload_n hx hb dX0_copyFrom_20 rfl (lv_at hl 0 rfl) ?_
  refine g_f C hP (layb0 ho) (lay0 ho K _) rfl hX0_copyFrom_X0 1 (by decide) kX0_copyFrom_f15 rfl dX0_copyFrom_21 ?_
  refine lv_iconst hx hb dX0_copyFrom_24 ic_0 ?_
  refine lv_bipush hx hb dX0_copyFrom_25 bp_10 ?_
  refine a_c0 C hP hS (layb ho1 2 (by decide)) (layb ho 2 (by decide)) (lay2 ho1 K _) (lay2 ho K) hl.1 kX0_copyFrom_m43 kX0_copyFrom_ac1 kX0_copyFrom_ac2 kX0_copyFrom_ac3 (by decide) (Nat.le_of_ble_eq_true rfl) (by decide) dX0_copyFrom_27 (fun H locs hP hS => ?_)
  obtain ⟨M_1, eM_1⟩ : ∃ z : Mem, z = mR (mR M (o + 1) (cpN 10 (M (o1 + 1)) (M (o + 1)))) (o + 2) (cpN 10 ((mR M (o + 1) (cpN 10 (M (o1 + 1)) (M (o + 1)))) (o1 + 2)) ((mR M (o + 1) (cpN 10 (M (o1 + 1)) (M (o + 1)))) (o + 2))) := ⟨_, rfl⟩
  rw [← eM_1] at hP
  have hw := hw M_1 eM_1
  refine lv_aload_n hx hb dX0_copyFrom_30 rfl (lv_at hl 0 rfl) ?_
  refine lv_aload_n hx hb dX0_copyFrom_31 rfl (lv_at hl 1 rfl) ?_
  refine g_f C hP (layb0 ho1) (lay0 ho1 K _) rfl hX0_copyFrom_X0 2 (by decide) kX0_copyFrom_f18 rfl dX0_copyFrom_32 ?_
  refine p_f C hP hS (layb0 ho) (lay0 ho K _) (lay0 ho K _) rfl hX0_copyFrom_X0 tyX0_ok nmX0 (by decide) kX0_copyFrom_f18 rfl rfl rfl (Nat.le_of_ble_eq_true rfl) dX0_copyFrom_35 (fun H locs hP hS => ?_)
  refine lv_aload_n hx hb dX0_copyFrom_38 rfl (lv_at hl 1 rfl) ?_
  refine g_f C hP (layb0 ho1) (lay0 ho1 K _) rfl hX0_copyFrom_X0 3 (by decide) kX0_copyFrom_f22 rfl dX0_copyFrom_39 ?_
  refine lv_iconst hx hb dX0_copyFrom_42 ic_0 ?_
  refine lv_aload_n hx hb dX0_copyFrom_43 rfl (lv_at hl 0 rfl) ?_
  refine g_f C hP (layb0 ho) (lay0 ho K _) rfl hX0_copyFrom_X0 3 (by decide) kX0_copyFrom_f22 rfl dX0_copyFrom_44 ?_
  refine lv_iconst hx hb dX0_copyFrom_47 ic_0 ?_
  refine lv_iconst hx hb dX0_copyFrom_48 ic_4 ?_
  refine a_c0 C hP hS (layb ho1 3 (by decide)) (layb ho 3 (by decide)) (lay3 ho1 K _) (lay3 ho K) hl.1 kX0_copyFrom_m43 kX0_copyFrom_ac1 kX0_copyFrom_ac2 kX0_copyFrom_ac3 (by decide) (Nat.le_of_ble_eq_true rfl) (by decide) dX0_copyFrom_49 (fun H locs hP hS => ?_)
  obtain ⟨M_2, eM_2⟩ : ∃ z : Mem, z = mR (mU M_1 o 2 (M_1 o1 2)) (o + 3) (cpN 4 ((mU M_1 o 2 (M_1 o1 2)) (o1 + 3)) ((mU M_1 o 2 (M_1 o1 2)) (o + 3))) := ⟨_, rfl⟩
  rw [← eM_2] at hP
  have hw := hw M_2 eM_2
  refine lv_aload_n hx hb dX0_copyFrom_52 rfl (lv_at hl 1 rfl) ?_
  refine g_f C hP (layb0 ho1) (lay0 ho1 K _) rfl hX0_copyFrom_X0 4 (by decide) kX0_copyFrom_f25 rfl dX0_copyFrom_53 ?_
  refine lv_iconst hx hb dX0_copyFrom_56 ic_0 ?_
  refine lv_aload_n hx hb dX0_copyFrom_57 rfl (lv_at hl 0 rfl) ?_
  refine g_f C hP (layb0 ho) (lay0 ho K _) rfl hX0_copyFrom_X0 4 (by decide) kX0_copyFrom_f25 rfl dX0_copyFrom_58 ?_
  refine lv_iconst hx hb dX0_copyFrom_61 ic_0 ?_
  refine lv_iconst hx hb dX0_copyFrom_62 ic_4 ?_
  refine a_c0 C hP hS (layb ho1 4 (by decide)) (layb ho 4 (by decide)) (lay4 ho1 K _) (lay4 ho K) hl.1 kX0_copyFrom_m43 kX0_copyFrom_ac1 kX0_copyFrom_ac2 kX0_copyFrom_ac3 (by decide) (Nat.le_of_ble_eq_true rfl) (by decide) dX0_copyFrom_63 (fun H locs hP hS => ?_)
  refine lv_aload_n hx hb dX0_copyFrom_66 rfl (lv_at hl 1 rfl) ?_
  refine g_f C hP (layb0 ho1) (lay0 ho1 K _) rfl hX0_copyFrom_X0 5 (by decide) kX0_copyFrom_f28 rfl dX0_copyFrom_67 ?_
  refine lv_iconst hx hb dX0_copyFrom_70 ic_0 ?_
  refine lv_aload_n hx hb dX0_copyFrom_71 rfl (lv_at hl 0 rfl) ?_
  refine g_f C hP (layb0 ho) (lay0 ho K _) rfl hX0_copyFrom_X0 5 (by decide) kX0_copyFrom_f28 rfl dX0_copyFrom_72 ?_
  refine lv_iconst hx hb dX0_copyFrom_75 ic_0 ?_
  refine lv_iconst hx hb dX0_copyFrom_76 ic_4 ?_
  refine a_c0 C hP hS (layb ho1 5 (by decide)) (layb ho 5 (by decide)) (lay5 ho1 K _) (lay5 ho K) hl.1 kX0_copyFrom_m43 kX0_copyFrom_ac1 kX0_copyFrom_ac2 kX0_copyFrom_ac3 (by decide) (Nat.le_of_ble_eq_true rfl) (by decide) dX0_copyFrom_77 (fun H locs hP hS => ?_)
  obtain ⟨M_3, eM_3⟩ : ∃ z : Mem, z = mR (mR M_2 (o + 4) (cpN 4 (M_2 (o1 + 4)) (M_2 (o + 4)))) (o + 5) (cpN 4 ((mR M_2 (o + 4) (cpN 4 (M_2 (o1 + 4)) (M_2 (o + 4)))) (o1 + 5)) ((mR M_2 (o + 4) (cpN 4 (M_2 (o1 + 4)) (M_2 (o + 4)))) (o + 5))) := ⟨_, rfl⟩
  rw [← eM_3] at hP
  have hw := hw M_3 eM_3
  refine lv_aload_n hx hb dX0_copyFrom_80 rfl (lv_at hl 0 rfl) ?_
  refine lv_aload_n hx hb dX0_copyFrom_81 rfl (lv_at hl 1 rfl) ?_
  refine g_f C hP (layb0 ho1) (lay0 ho1 K _) rfl hX0_copyFrom_X0 6 (by decide) kX0_copyFrom_f31 rfl dX0_copyFrom_82 ?_
  refine p_f C hP hS (layb0 ho) (lay0 ho K _) (lay0 ho K _) rfl hX0_copyFrom_X0 tyX0_ok nmX0 (by decide) kX0_copyFrom_f31 rfl rfl rfl (Nat.le_of_ble_eq_true rfl) dX0_copyFrom_85 (fun H locs hP hS => ?_)
  refine lv_aload_n hx hb dX0_copyFrom_88 rfl (lv_at hl 0 rfl) ?_
  refine lv_aload_n hx hb dX0_copyFrom_89 rfl (lv_at hl 1 rfl) ?_
  refine g_f C hP (layb0 ho1) (lay0 ho1 K _) rfl hX0_copyFrom_X0 7 (by decide) kX0_copyFrom_f34 rfl dX0_copyFrom_90 ?_
  refine p_f C hP hS (layb0 ho) (lay0 ho K _) (lay0 ho K _) rfl hX0_copyFrom_X0 tyX0_ok nmX0 (by decide) kX0_copyFrom_f34 rfl rfl rfl (Nat.le_of_ble_eq_true rfl) dX0_copyFrom_93 (fun H locs hP hS => ?_)
  refine lv_aload_n hx hb dX0_copyFrom_96 rfl (lv_at hl 0 rfl) ?_
  refine lv_aload_n hx hb dX0_copyFrom_97 rfl (lv_at hl 1 rfl) ?_
  refine g_f C hP (layb0 ho1) (lay0 ho1 K _) rfl hX0_copyFrom_X0 8 (by decide) kX0_copyFrom_f37 rfl dX0_copyFrom_98 ?_
  refine p_f C hP hS (layb0 ho) (lay0 ho K _) (lay0 ho K _) rfl hX0_copyFrom_X0 tyX0_ok nmX0 (by decide) kX0_copyFrom_f37 rfl rfl rfl (Nat.le_of_ble_eq_true rfl) dX0_copyFrom_101 (fun H locs hP hS => ?_)
  obtain ⟨M_4, eM_4⟩ : ∃ z : Mem, z = mU (mU (mU M_3 o 6 (M_3 o1 6)) o 7 ((mU M_3 o 6 (M_3 o1 6)) o1 7)) o 8 ((mU (mU M_3 o 6 (M_3 o1 6)) o 7 ((mU M_3 o 6 (M_3 o1 6)) o1 7)) o1 8) := ⟨_, rfl⟩
  rw [← eM_4] at hP
  have hw := hw M_4 eM_4
  refine lv_aload_n hx hb dX0_copyFrom_104 rfl (lv_at hl 0 rfl) ?_
  refine lv_aload_n hx hb dX0_copyFrom_105 rfl (lv_at hl 1 rfl) ?_
  refine g_f C hP (layb0 ho1) (lay0 ho1 K _) rfl hX0_copyFrom_X0 9 (by decide) kX0_copyFrom_f40 rfl dX0_copyFrom_106 ?_
  refine p_f C hP hS (layb0 ho) (lay0 ho K _) (lay0 ho K _) rfl hX0_copyFrom_X0 tyX0_ok nmX0 (by decide) kX0_copyFrom_f40 rfl rfl rfl (Nat.le_of_ble_eq_true rfl) dX0_copyFrom_109 (fun H locs hP hS => ?_)
  exact r_v C hP hS hw dX0_copyFrom_112

theorem kX0_appendCorner_f18 : Cond.fieldLink RX0 18 (TX0 2).1 (TX0 2).2.1 (TX0 2).2.2.1 ∈ wsX0_appendCorner := List.mem_of_getElem? (i := 1) rfl
theorem hX0_appendCorner_X0 : ∀ w ∈ u_ws RX0 TX0 10, w ∈ wsX0_appendCorner := fun _ h => List.mem_cons_of_mem _ (List.mem_append_right _ (h))
theorem kX0_appendCorner_f9 : Cond.fieldLink RX0 9 (TX0 0).1 (TX0 0).2.1 (TX0 0).2.2.1 ∈ wsX0_appendCorner := List.mem_of_getElem? (i := 2) rfl
theorem kX0_appendCorner_f15 : Cond.fieldLink RX0 15 (TX0 1).1 (TX0 1).2.1 (TX0 1).2.2.1 ∈ wsX0_appendCorner := List.mem_of_getElem? (i := 3) rfl
abbrev rmX0_appendCorner : Room := { frames := 0, cells := 0, slots := 0, locals := 0 }
def q_X0_appendCorner (o : Nat) (v1 : Int32) (v2 : Int32) (M : Mem) (Q : Mem → Prop) : Prop := (((10 : Int32) ≤ (M o 2) → Q M) ∧ (¬ (10 : Int32) ≤ (M o 2) → vp_in (M o 2) 10 ∧ vp_in ((mU M (o + 1) (M o 2).toNatClampNeg v1) o 2) 10 ∧ (∀ M_3 : Mem, M_3 = mU (mU M (o + 1) (M o 2).toNatClampNeg v1) (o + 2) ((mU M (o + 1) (M o 2).toNatClampNeg v1) o 2).toNatClampNeg v2 → Q (mU M_3 o 2 ((M_3 o 2) + (1 : Int32))))))
theorem dsX0_appendCorner : yX0_appendCorner.cls = RX0 ∧ yX0_appendCorner.cls ≠ "java/lang/invoke/MethodHandle" ∧ yX0_appendCorner.cls ≠ "java/lang/invoke/VarHandle" ∧ (parseMethodDescriptor yX0_appendCorner.desc).map (fun d => d.parameters.length) = some 2 := by decide +kernel
set_option maxRecDepth 100000 in
set_option maxHeartbeats 4000000 in
theorem c_X0_appendCorner {l : Launch} {K : wC} {o : Nat} {v1 : Int32} {v2 : Int32} {M : Mem} {Q : Mem → Prop} (ho : isLay o) (hw : q_X0_appendCorner o v1 v2 M Q) : metV l yX0_appendCorner wsX0_appendCorner rmX0_appendCorner shX 51 K [.ref (kb K + o), .int v1, .int v2] M Q := by
  refine met_of (cc := cX0_appendCorner) (maxL := 3) (ret := none) (own := RX0) (by decide) rfl rfl (Nat.le_of_ble_eq_true rfl) ?_
  intro p e s m below meth c ls C hl hP hS
  have hl : lv_has ls 3 [(0, .ref (kb K + o)), (1, .int v1), (2, .int v2)] := hl
  obtain ⟨hx, hb, hml, hown, hts, hr, hlk, hK⟩ := id C
  have hP0 := hP
  delta q_X0_appendCorner at hw
  refine lv_aload_n hx hb dX0_appendCorner_0 rfl (lv_at hl 0 rfl) ?_
  refine g_f C hP (layb0 ho) (lay0 ho K _) rfl hX0_appendCorner_X0 2 (by decide) kX0_appendCorner_f18 rfl dX0_appendCorner_1 ?_
  refine lv_bipush hx hb dX0_appendCorner_4 bp_10 ?_
  refine lv_icmp_ge (tgt := 39) hx hb dX0_appendCorner_6 (by decide) (fun hc => ?_) (fun hc => ?_)
  · have hw := hw.1 hc
    exact r_v C hP hS hw dX0_appendCorner_39
  · have hw := hw.2 hc
    refine lv_aload_n hx hb dX0_appendCorner_9 rfl (lv_at hl 0 rfl) ?_
    refine g_f C hP (layb0 ho) (lay0 ho K _) rfl hX0_appendCorner_X0 0 (by decide) kX0_appendCorner_f9 rfl dX0_appendCorner_10 ?_
    refine lv_aload_n hx hb dX0_appendCorner_13 rfl (lv_at hl 0 rfl) ?_
    refine g_f C hP (layb0 ho) (lay0 ho K _) rfl hX0_appendCorner_X0 2 (by decide) kX0_appendCorner_f18 rfl dX0_appendCorner_14 ?_
    refine lv_iload_n hx hb dX0_appendCorner_17 rfl (lv_at hl 1 rfl) ?_
    have hi_1 := hw.1
    have hw := hw.2
    refine a_is C hP hS (layb ho 1 (by decide)) (lay1 ho K) hi_1 rfl dX0_appendCorner_18 (fun H locs hP hS => ?_)
    refine lv_aload_n hx hb dX0_appendCorner_19 rfl (lv_at hl 0 rfl) ?_
    refine g_f C hP (layb0 ho) (lay0 ho K _) rfl hX0_appendCorner_X0 1 (by decide) kX0_appendCorner_f15 rfl dX0_appendCorner_20 ?_
    refine lv_aload_n hx hb dX0_appendCorner_23 rfl (lv_at hl 0 rfl) ?_
    refine g_f C hP (layb0 ho) (lay0 ho K _) rfl hX0_appendCorner_X0 2 (by decide) kX0_appendCorner_f18 rfl dX0_appendCorner_24 ?_
    refine lv_iload_n hx hb dX0_appendCorner_27 rfl (lv_at hl 2 rfl) ?_
    have hi_2 := hw.1
    have hw := hw.2
    refine a_is C hP hS (layb ho 2 (by decide)) (lay2 ho K) hi_2 rfl dX0_appendCorner_28 (fun H locs hP hS => ?_)
    obtain ⟨M_3, eM_3⟩ : ∃ z : Mem, z = mU (mU M (o + 1) (M o 2).toNatClampNeg v1) (o + 2) ((mU M (o + 1) (M o 2).toNatClampNeg v1) o 2).toNatClampNeg v2 := ⟨_, rfl⟩
    rw [← eM_3] at hP
    have hw := hw M_3 eM_3
    refine lv_aload_n hx hb dX0_appendCorner_29 rfl (lv_at hl 0 rfl) ?_
    refine lv_dup hx hb dX0_appendCorner_30 rfl ?_
    refine g_f C hP (layb0 ho) (lay0 ho K _) rfl hX0_appendCorner_X0 2 (by decide) kX0_appendCorner_f18 rfl dX0_appendCorner_31 ?_
    refine lv_iconst hx hb dX0_appendCorner_34 ic_1 ?_
    refine lv_iadd hx hb dX0_appendCorner_35 ?_
    refine p_f C hP hS (layb0 ho) (lay0 ho K _) (lay0 ho K _) rfl hX0_appendCorner_X0 tyX0_ok nmX0 (by decide) kX0_appendCorner_f18 rfl rfl rfl (Nat.le_of_ble_eq_true rfl) dX0_appendCorner_36 (fun H locs hP hS => ?_)
    exact r_v C hP hS hw dX0_appendCorner_39

theorem kX0_moveCorner_f9 : Cond.fieldLink RX0 9 (TX0 0).1 (TX0 0).2.1 (TX0 0).2.2.1 ∈ wsX0_moveCorner := List.mem_of_getElem? (i := 1) rfl
theorem hX0_moveCorner_X0 : ∀ w ∈ u_ws RX0 TX0 10, w ∈ wsX0_moveCorner := fun _ h => List.mem_cons_of_mem _ (List.mem_append_right _ (h))
theorem kX0_moveCorner_f15 : Cond.fieldLink RX0 15 (TX0 1).1 (TX0 1).2.1 (TX0 1).2.2.1 ∈ wsX0_moveCorner := List.mem_of_getElem? (i := 2) rfl
abbrev rmX0_moveCorner : Room := { frames := 0, cells := 0, slots := 0, locals := 0 }
def q_X0_moveCorner (o : Nat) (v1 : Int32) (v2 : Int32) (v3 : Int32) (M : Mem) (Q : Mem → Prop) : Prop := vp_in v1 10 ∧ vp_in v1 10 ∧ Q (mU (mU M (o + 1) v1.toNatClampNeg v2) (o + 2) v1.toNatClampNeg v3)
theorem dsX0_moveCorner : yX0_moveCorner.cls = RX0 ∧ yX0_moveCorner.cls ≠ "java/lang/invoke/MethodHandle" ∧ yX0_moveCorner.cls ≠ "java/lang/invoke/VarHandle" ∧ (parseMethodDescriptor yX0_moveCorner.desc).map (fun d => d.parameters.length) = some 3 := by decide +kernel
set_option maxRecDepth 100000 in
set_option maxHeartbeats 4000000 in
theorem c_X0_moveCorner {l : Launch} {K : wC} {o : Nat} {v1 : Int32} {v2 : Int32} {v3 : Int32} {M : Mem} {Q : Mem → Prop} (ho : isLay o) (hw : q_X0_moveCorner o v1 v2 v3 M Q) : metV l yX0_moveCorner wsX0_moveCorner rmX0_moveCorner shX 51 K [.ref (kb K + o), .int v1, .int v2, .int v3] M Q := by
  refine met_of (cc := cX0_moveCorner) (maxL := 4) (ret := none) (own := RX0) (by decide) rfl rfl (Nat.le_of_ble_eq_true rfl) ?_
  intro p e s m below meth c ls C hl hP hS
  have hl : lv_has ls 4 [(0, .ref (kb K + o)), (1, .int v1), (2, .int v2), (3, .int v3)] := hl
  obtain ⟨hx, hb, hml, hown, hts, hr, hlk, hK⟩ := id C
  have hP0 := hP
  delta q_X0_moveCorner at hw
  refine lv_aload_n hx hb dX0_moveCorner_0 rfl (lv_at hl 0 rfl) ?_
  refine g_f C hP (layb0 ho) (lay0 ho K _) rfl hX0_moveCorner_X0 0 (by decide) kX0_moveCorner_f9 rfl dX0_moveCorner_1 ?_
  refine lv_iload_n hx hb dX0_moveCorner_4 rfl (lv_at hl 1 rfl) ?_
  refine lv_iload_n hx hb dX0_moveCorner_5 rfl (lv_at hl 2 rfl) ?_
  have hi_1 := hw.1
  have hw := hw.2
  refine a_is C hP hS (layb ho 1 (by decide)) (lay1 ho K) hi_1 rfl dX0_moveCorner_6 (fun H locs hP hS => ?_)
  refine lv_aload_n hx hb dX0_moveCorner_7 rfl (lv_at hl 0 rfl) ?_
  refine g_f C hP (layb0 ho) (lay0 ho K _) rfl hX0_moveCorner_X0 1 (by decide) kX0_moveCorner_f15 rfl dX0_moveCorner_8 ?_
  refine lv_iload_n hx hb dX0_moveCorner_11 rfl (lv_at hl 1 rfl) ?_
  refine lv_iload_n hx hb dX0_moveCorner_12 rfl (lv_at hl 3 rfl) ?_
  have hi_2 := hw.1
  have hw := hw.2
  refine a_is C hP hS (layb ho 2 (by decide)) (lay2 ho K) hi_2 rfl dX0_moveCorner_13 (fun H locs hP hS => ?_)
  exact r_v C hP hS hw dX0_moveCorner_14

theorem kX0_exchangeCorners_f9 : Cond.fieldLink RX0 9 (TX0 0).1 (TX0 0).2.1 (TX0 0).2.2.1 ∈ wsX0_exchangeCorners := List.mem_of_getElem? (i := 1) rfl
theorem hX0_exchangeCorners_X0 : ∀ w ∈ u_ws RX0 TX0 10, w ∈ wsX0_exchangeCorners := fun _ h => List.mem_cons_of_mem _ (List.mem_append_right _ (h))
theorem kX0_exchangeCorners_f15 : Cond.fieldLink RX0 15 (TX0 1).1 (TX0 1).2.1 (TX0 1).2.2.1 ∈ wsX0_exchangeCorners := List.mem_of_getElem? (i := 2) rfl
abbrev rmX0_exchangeCorners : Room := { frames := 1, cells := 0, slots := 0, locals := 23 }
def q_X0_exchangeCorners (o : Nat) (v1 : Int32) (v2 : Int32) (M : Mem) (Q : Mem → Prop) : Prop := vp_in v1 10 ∧ (∀ x_2 : Int32, x_2 = (M (o + 1) v1.toNatClampNeg) → vp_in v1 10 ∧ (∀ x_4 : Int32, x_4 = (M (o + 2) v1.toNatClampNeg) → vp_in v2 10 ∧ vp_in v2 10 ∧ q_X0_moveCorner o v1 (M (o + 1) v2.toNatClampNeg) (M (o + 2) v2.toNatClampNeg) M (fun M_7 => q_X0_moveCorner o v2 x_2 x_4 M_7 (fun M_8 => Q M_8))))
theorem dsX0_exchangeCorners : yX0_exchangeCorners.cls = RX0 ∧ yX0_exchangeCorners.cls ≠ "java/lang/invoke/MethodHandle" ∧ yX0_exchangeCorners.cls ≠ "java/lang/invoke/VarHandle" ∧ (parseMethodDescriptor yX0_exchangeCorners.desc).map (fun d => d.parameters.length) = some 2 := by decide +kernel
set_option maxRecDepth 100000 in
set_option maxHeartbeats 4000000 in
theorem c_X0_exchangeCorners {l : Launch} {K : wC} {o : Nat} {v1 : Int32} {v2 : Int32} {M : Mem} {Q : Mem → Prop} (ho : isLay o) (hw : q_X0_exchangeCorners o v1 v2 M Q) : metV l yX0_exchangeCorners wsX0_exchangeCorners rmX0_exchangeCorners shX 51 K [.ref (kb K + o), .int v1, .int v2] M Q := by
  refine met_of (cc := cX0_exchangeCorners) (maxL := 5) (ret := none) (own := RX0) (by decide) rfl rfl (Nat.le_of_ble_eq_true rfl) ?_
  intro p e s m below meth c ls C hl hP hS
  have hl : lv_has ls 5 [(0, .ref (kb K + o)), (1, .int v1), (2, .int v2)] := hl
  obtain ⟨hx, hb, hml, hown, hts, hr, hlk, hK⟩ := id C
  have hP0 := hP
  delta q_X0_exchangeCorners at hw
  refine lv_aload_n hx hb dX0_exchangeCorners_0 rfl (lv_at hl 0 rfl) ?_
  refine g_f C hP (layb0 ho) (lay0 ho K _) rfl hX0_exchangeCorners_X0 0 (by decide) kX0_exchangeCorners_f9 rfl dX0_exchangeCorners_1 ?_
  refine lv_iload_n hx hb dX0_exchangeCorners_4 rfl (lv_at hl 1 rfl) ?_
  have hi_1 := hw.1
  have hw := hw.2
  refine a_il C hP (layb ho 1 (by decide)) (lay1 ho K _) hi_1 rfl dX0_exchangeCorners_5 ?_
  refine lv_topi (fun x_2 ex_2 => ?_)
  have hw := hw x_2 ex_2
  refine lv_istore_n (lv' := [(3, .int x_2), (0, .ref (kb K + o)), (1, .int v1), (2, .int v2)]) hx hb dX0_exchangeCorners_6 rfl hl (by decide) rfl (fun ls hl => ?_)
  refine lv_aload_n hx hb dX0_exchangeCorners_7 rfl (lv_at hl 1 rfl) ?_
  refine g_f C hP (layb0 ho) (lay0 ho K _) rfl hX0_exchangeCorners_X0 1 (by decide) kX0_exchangeCorners_f15 rfl dX0_exchangeCorners_8 ?_
  refine lv_iload_n hx hb dX0_exchangeCorners_11 rfl (lv_at hl 2 rfl) ?_
  have hi_3 := hw.1
  have hw := hw.2
  refine a_il C hP (layb ho 2 (by decide)) (lay2 ho K _) hi_3 rfl dX0_exchangeCorners_12 ?_
  refine lv_topi (fun x_4 ex_4 => ?_)
  have hw := hw x_4 ex_4
  refine lv_istore (lv' := [(4, .int x_4), (3, .int x_2), (0, .ref (kb K + o)), (1, .int v1), (2, .int v2)]) hx hb dX0_exchangeCorners_13 hl (by decide) rfl (fun ls hl => ?_)
  refine lv_aload_n hx hb dX0_exchangeCorners_15 rfl (lv_at hl 2 rfl) ?_
  refine lv_iload_n hx hb dX0_exchangeCorners_16 rfl (lv_at hl 3 rfl) ?_
  refine lv_aload_n hx hb dX0_exchangeCorners_17 rfl (lv_at hl 2 rfl) ?_
  refine g_f C hP (layb0 ho) (lay0 ho K _) rfl hX0_exchangeCorners_X0 0 (by decide) kX0_exchangeCorners_f9 rfl dX0_exchangeCorners_18 ?_
  refine lv_iload_n hx hb dX0_exchangeCorners_21 rfl (lv_at hl 4 rfl) ?_
  have hi_5 := hw.1
  have hw := hw.2
  refine a_il C hP (layb ho 1 (by decide)) (lay1 ho K _) hi_5 rfl dX0_exchangeCorners_22 ?_
  refine lv_aload_n hx hb dX0_exchangeCorners_23 rfl (lv_at hl 2 rfl) ?_
  refine g_f C hP (layb0 ho) (lay0 ho K _) rfl hX0_exchangeCorners_X0 1 (by decide) kX0_exchangeCorners_f15 rfl dX0_exchangeCorners_24 ?_
  refine lv_iload_n hx hb dX0_exchangeCorners_27 rfl (lv_at hl 4 rfl) ?_
  have hi_6 := hw.1
  have hw := hw.2
  refine a_il C hP (layb ho 2 (by decide)) (lay2 ho K _) hi_6 rfl dX0_exchangeCorners_28 ?_
  refine c_v (run_v (As := [.int v1, .int (M (o + 1) v2.toNatClampNeg), .int (M (o + 2) v2.toNatClampNeg)]) (rest := []) C hP hS (c_X0_moveCorner ho hw) gX0_exchangeCorners_X0_moveCorner rfl dsX0_moveCorner rfl ⟨rfl, rfl⟩ ⟨Nat.le_of_ble_eq_true rfl, Nat.le_of_ble_eq_true rfl⟩ (layb0 ho) (lay0 ho K _) rfl hl.1 rfl (Nat.le_of_ble_eq_true rfl) dX0_exchangeCorners_29 ⟨Nat.le_of_ble_eq_true rfl, Nat.le_of_ble_eq_true rfl⟩) hS (fun M_7 H locs hw hP hS => ?_)
  refine lv_aload_n hx hb dX0_exchangeCorners_32 rfl (lv_at hl 2 rfl) ?_
  refine lv_iload_n hx hb dX0_exchangeCorners_33 rfl (lv_at hl 4 rfl) ?_
  refine lv_iload_n hx hb dX0_exchangeCorners_34 rfl (lv_at hl 1 rfl) ?_
  refine lv_iload hx hb dX0_exchangeCorners_35 (lv_at hl 0 rfl) ?_
  refine c_v (run_v (As := [.int v2, .int x_2, .int x_4]) (rest := []) C hP hS (c_X0_moveCorner ho hw) gX0_exchangeCorners_X0_moveCorner rfl dsX0_moveCorner rfl ⟨rfl, rfl⟩ ⟨Nat.le_of_ble_eq_true rfl, Nat.le_of_ble_eq_true rfl⟩ (layb0 ho) (lay0 ho K _) rfl hl.1 rfl (Nat.le_of_ble_eq_true rfl) dX0_exchangeCorners_37 ⟨Nat.le_of_ble_eq_true rfl, Nat.le_of_ble_eq_true rfl⟩) hS (fun M_8 H locs hw hP hS => ?_)
  exact r_v C hP hS hw dX0_exchangeCorners_40

theorem kX0_removeCorner_f18 : Cond.fieldLink RX0 18 (TX0 2).1 (TX0 2).2.1 (TX0 2).2.2.1 ∈ wsX0_removeCorner := List.mem_of_getElem? (i := 1) rfl
theorem hX0_removeCorner_X0 : ∀ w ∈ u_ws RX0 TX0 10, w ∈ wsX0_removeCorner := fun _ h => List.mem_cons_of_mem _ (List.mem_append_right _ (h))
theorem kX0_removeCorner_f9 : Cond.fieldLink RX0 9 (TX0 0).1 (TX0 0).2.1 (TX0 0).2.2.1 ∈ wsX0_removeCorner := List.mem_of_getElem? (i := 2) rfl
theorem kX0_removeCorner_f15 : Cond.fieldLink RX0 15 (TX0 1).1 (TX0 1).2.1 (TX0 1).2.2.1 ∈ wsX0_removeCorner := List.mem_of_getElem? (i := 3) rfl
abbrev rmX0_removeCorner : Room := { frames := 1, cells := 0, slots := 0, locals := 23 }
abbrev t_X0_removeCorner : Type := (Int32 → Mem → Prop)
def f_X0_removeCorner_4 (o : Nat) (Q : Mem → Prop) (r : t_X0_removeCorner) (v2 : Int32) (M : Mem) : Prop := (((M o 2) ≤ v2 → Q (mU M o 2 ((M o 2) - (1 : Int32)))) ∧ (¬ (M o 2) ≤ v2 → vp_in v2 10 ∧ vp_in v2 10 ∧ q_X0_moveCorner o (v2 - (1 : Int32)) (M (o + 1) v2.toNatClampNeg) (M (o + 2) v2.toNatClampNeg) M (fun M_3 => r (v2 + 1) M_3)))
def p_X0_removeCorner (o : Nat) (Q : Mem → Prop) : Nat → t_X0_removeCorner
  | 0 => fun _ _ => False
  | n + 1 => f_X0_removeCorner_4 o Q (p_X0_removeCorner o Q n)
def e_X0_removeCorner (o : Nat) (v1 : Int32) (Q : Mem → Prop) (r : t_X0_removeCorner) (M : Mem) : Prop := r (v1 + (1 : Int32)) M
def q_X0_removeCorner (o : Nat) (v1 : Int32) (M : Mem) (Q : Mem → Prop) : Prop := ∃ n : Nat, e_X0_removeCorner o v1 Q (p_X0_removeCorner o Q n) M
set_option maxRecDepth 100000 in
set_option maxHeartbeats 4000000 in
theorem b_X0_removeCorner {l : Launch} {K : wC} {o : Nat} {Q : Mem → Prop} {p : Program} {e : Env} {s : State} {m : MethodId} {args : Array Value} {below : List Frame} {meth : Method} {c : Code} (ho : isLay o) (C : cx 51 K p s m args meth c cX0_removeCorner 3 wsX0_removeCorner RX0 none) : ∀ n : Nat, (∀ (v2 : Int32) (M : Mem) (H : Heap) (locs : List Loc) (ls : Array Slot), (p_X0_removeCorner o Q n) v2 M → wP shX 51 K M H → va_S (wA 51 K) s.heap H locs → lv_has ls 3 [(0, .ref (kb K + o)), (2, .int v2)] → W p l e rmX0_removeCorner s m args below meth c H locs 0 0 (MQ below (va_Qv Q (wE shX 51 K) (wA 51 K)) args s 0 0 (wA 51 K)) (F0 m 4 ls [])) := by
  obtain ⟨hx, hb, hml, hown, hts, hr, hlk, hK⟩ := id C
  intro n
  induction n with
  | zero => exact fun _ _ _ _ _ hw _ _ _ => False.elim hw
  | succ n ih =>
    intro v2 M H locs ls hw hP hS hl
    have hw : f_X0_removeCorner_4 o Q (p_X0_removeCorner o Q n) v2 M := hw
    delta f_X0_removeCorner_4 at hw
    refine lv_iload_n hx hb dX0_removeCorner_4 rfl (lv_at hl 1 rfl) ?_
    refine lv_aload_n hx hb dX0_removeCorner_5 rfl (lv_at hl 0 rfl) ?_
    refine g_f C hP (layb0 ho) (lay0 ho K _) rfl hX0_removeCorner_X0 2 (by decide) kX0_removeCorner_f18 rfl dX0_removeCorner_6 ?_
    refine lv_icmp_ge (tgt := 37) hx hb dX0_removeCorner_9 (by decide) (fun hc => ?_) (fun hc => ?_)
    · have hw := hw.1 hc
      refine lv_aload_n hx hb dX0_removeCorner_37 rfl (lv_at hl 0 rfl) ?_
      refine lv_dup hx hb dX0_removeCorner_38 rfl ?_
      refine g_f C hP (layb0 ho) (lay0 ho K _) rfl hX0_removeCorner_X0 2 (by decide) kX0_removeCorner_f18 rfl dX0_removeCorner_39 ?_
      refine lv_iconst hx hb dX0_removeCorner_42 ic_1 ?_
      refine lv_isub hx hb dX0_removeCorner_43 ?_
      refine p_f C hP hS (layb0 ho) (lay0 ho K _) (lay0 ho K _) rfl hX0_removeCorner_X0 tyX0_ok nmX0 (by decide) kX0_removeCorner_f18 rfl rfl rfl (Nat.le_of_ble_eq_true rfl) dX0_removeCorner_44 (fun H locs hP hS => ?_)
      exact r_v C hP hS hw dX0_removeCorner_47
    · have hw := hw.2 hc
      refine lv_aload_n hx hb dX0_removeCorner_12 rfl (lv_at hl 0 rfl) ?_
      refine lv_iload_n hx hb dX0_removeCorner_13 rfl (lv_at hl 1 rfl) ?_
      refine lv_iconst hx hb dX0_removeCorner_14 ic_1 ?_
      refine lv_isub hx hb dX0_removeCorner_15 ?_
      refine lv_aload_n hx hb dX0_removeCorner_16 rfl (lv_at hl 0 rfl) ?_
      refine g_f C hP (layb0 ho) (lay0 ho K _) rfl hX0_removeCorner_X0 0 (by decide) kX0_removeCorner_f9 rfl dX0_removeCorner_17 ?_
      refine lv_iload_n hx hb dX0_removeCorner_20 rfl (lv_at hl 1 rfl) ?_
      have hi_1 := hw.1
      have hw := hw.2
      refine a_il C hP (layb ho 1 (by decide)) (lay1 ho K _) hi_1 rfl dX0_removeCorner_21 ?_
      refine lv_aload_n hx hb dX0_removeCorner_22 rfl (lv_at hl 0 rfl) ?_
      refine g_f C hP (layb0 ho) (lay0 ho K _) rfl hX0_removeCorner_X0 1 (by decide) kX0_removeCorner_f15 rfl dX0_removeCorner_23 ?_
      refine lv_iload_n hx hb dX0_removeCorner_26 rfl (lv_at hl 1 rfl) ?_
      have hi_2 := hw.1
      have hw := hw.2
      refine a_il C hP (layb ho 2 (by decide)) (lay2 ho K _) hi_2 rfl dX0_removeCorner_27 ?_
      refine c_v (run_v (As := [.int (v2 - (1 : Int32)), .int (M (o + 1) v2.toNatClampNeg), .int (M (o + 2) v2.toNatClampNeg)]) (rest := []) C hP hS (c_X0_moveCorner ho hw) gX0_removeCorner_X0_moveCorner rfl dsX0_moveCorner rfl ⟨rfl, rfl⟩ ⟨Nat.le_of_ble_eq_true rfl, Nat.le_of_ble_eq_true rfl⟩ (layb0 ho) (lay0 ho K _) rfl hl.1 rfl (Nat.le_of_ble_eq_true rfl) dX0_removeCorner_28 ⟨Nat.le_of_ble_eq_true rfl, Nat.le_of_ble_eq_true rfl⟩) hS (fun M_3 H locs hw hP hS => ?_)
      refine lv_iinc (v := (v2 + 1)) (lv' := [(2, .int (v2 + 1)), (0, .ref (kb K + o))]) hx hb dX0_removeCorner_31 hl (k := 1) rfl (by rw [ic_1]) (by decide) rfl (fun ls hl => ?_)
      refine lv_goto (tgt := 4) hx hb dX0_removeCorner_34 (by decide) ?_
      exact ih _ _ _ _ _ hw hP hS (lv_sub hl [1, 0] rfl)
theorem dsX0_removeCorner : yX0_removeCorner.cls = RX0 ∧ yX0_removeCorner.cls ≠ "java/lang/invoke/MethodHandle" ∧ yX0_removeCorner.cls ≠ "java/lang/invoke/VarHandle" ∧ (parseMethodDescriptor yX0_removeCorner.desc).map (fun d => d.parameters.length) = some 1 := by decide +kernel
set_option maxRecDepth 100000 in
set_option maxHeartbeats 4000000 in
theorem c_X0_removeCorner {l : Launch} {K : wC} {o : Nat} {v1 : Int32} {M : Mem} {Q : Mem → Prop} (ho : isLay o) (hw : q_X0_removeCorner o v1 M Q) : metV l yX0_removeCorner wsX0_removeCorner rmX0_removeCorner shX 51 K [.ref (kb K + o), .int v1] M Q := by
  refine met_of (cc := cX0_removeCorner) (maxL := 3) (ret := none) (own := RX0) (by decide) rfl rfl (Nat.le_of_ble_eq_true rfl) ?_
  intro p e s m below meth c ls C hl hP hS
  have hl : lv_has ls 3 [(0, .ref (kb K + o)), (1, .int v1)] := hl
  obtain ⟨hx, hb, hml, hown, hts, hr, hlk, hK⟩ := id C
  have hP0 := hP
  obtain ⟨n, hw⟩ := hw
  have ih := b_X0_removeCorner (l := l) (e := e) (below := below) (Q := Q) ho C n
  delta e_X0_removeCorner at hw
  refine lv_iload_n hx hb dX0_removeCorner_0 rfl (lv_at hl 1 rfl) ?_
  refine lv_iconst hx hb dX0_removeCorner_1 ic_1 ?_
  refine lv_iadd hx hb dX0_removeCorner_2 ?_
  refine lv_istore_n (lv' := [(2, .int (v1 + (1 : Int32))), (0, .ref (kb K + o)), (1, .int v1)]) hx hb dX0_removeCorner_3 rfl hl (by decide) rfl (fun ls hl => ?_)
  exact ih _ _ _ _ _ hw hP hS (lv_sub hl [1, 0] rfl)

theorem kX0_appendWheel_f31 : Cond.fieldLink RX0 31 (TX0 6).1 (TX0 6).2.1 (TX0 6).2.2.1 ∈ wsX0_appendWheel := List.mem_of_getElem? (i := 1) rfl
theorem hX0_appendWheel_X0 : ∀ w ∈ u_ws RX0 TX0 10, w ∈ wsX0_appendWheel := fun _ h => List.mem_cons_of_mem _ (List.mem_append_right _ (h))
theorem kX0_appendWheel_f22 : Cond.fieldLink RX0 22 (TX0 3).1 (TX0 3).2.1 (TX0 3).2.2.1 ∈ wsX0_appendWheel := List.mem_of_getElem? (i := 2) rfl
theorem kX0_appendWheel_f25 : Cond.fieldLink RX0 25 (TX0 4).1 (TX0 4).2.1 (TX0 4).2.2.1 ∈ wsX0_appendWheel := List.mem_of_getElem? (i := 3) rfl
theorem kX0_appendWheel_f28 : Cond.fieldLink RX0 28 (TX0 5).1 (TX0 5).2.1 (TX0 5).2.2.1 ∈ wsX0_appendWheel := List.mem_of_getElem? (i := 4) rfl
abbrev rmX0_appendWheel : Room := { frames := 0, cells := 0, slots := 0, locals := 0 }
def q_X0_appendWheel (o : Nat) (v1 : Int32) (v2 : Int32) (M : Mem) (Q : Mem → Prop) : Prop := (((4 : Int32) ≤ (M o 6) → Q M) ∧ (¬ (4 : Int32) ≤ (M o 6) → vp_in (M o 6) 4 ∧ vp_in ((mU M (o + 3) (M o 6).toNatClampNeg v1) o 6) 4 ∧ (∀ M_3 : Mem, M_3 = mU (mU M (o + 3) (M o 6).toNatClampNeg v1) (o + 4) ((mU M (o + 3) (M o 6).toNatClampNeg v1) o 6).toNatClampNeg v2 → vp_in (M_3 o 6) 4 ∧ (∀ M_5 : Mem, M_5 = mU (mU M_3 (o + 5) (M_3 o 6).toNatClampNeg (0 : Int32)) o 6 (((mU M_3 (o + 5) (M_3 o 6).toNatClampNeg (0 : Int32)) o 6) + (1 : Int32)) → Q M_5))))
theorem dsX0_appendWheel : yX0_appendWheel.cls = RX0 ∧ yX0_appendWheel.cls ≠ "java/lang/invoke/MethodHandle" ∧ yX0_appendWheel.cls ≠ "java/lang/invoke/VarHandle" ∧ (parseMethodDescriptor yX0_appendWheel.desc).map (fun d => d.parameters.length) = some 2 := by decide +kernel
set_option maxRecDepth 100000 in
set_option maxHeartbeats 4000000 in
theorem c_X0_appendWheel {l : Launch} {K : wC} {o : Nat} {v1 : Int32} {v2 : Int32} {M : Mem} {Q : Mem → Prop} (ho : isLay o) (hw : q_X0_appendWheel o v1 v2 M Q) : metV l yX0_appendWheel wsX0_appendWheel rmX0_appendWheel shX 51 K [.ref (kb K + o), .int v1, .int v2] M Q := by
  refine met_of (cc := cX0_appendWheel) (maxL := 3) (ret := none) (own := RX0) (by decide) rfl rfl (Nat.le_of_ble_eq_true rfl) ?_
  intro p e s m below meth c ls C hl hP hS
  have hl : lv_has ls 3 [(0, .ref (kb K + o)), (1, .int v1), (2, .int v2)] := hl
  obtain ⟨hx, hb, hml, hown, hts, hr, hlk, hK⟩ := id C
  have hP0 := hP
  delta q_X0_appendWheel at hw
  refine lv_aload_n hx hb dX0_appendWheel_0 rfl (lv_at hl 0 rfl) ?_
  refine g_f C hP (layb0 ho) (lay0 ho K _) rfl hX0_appendWheel_X0 6 (by decide) kX0_appendWheel_f31 rfl dX0_appendWheel_1 ?_
  refine lv_iconst hx hb dX0_appendWheel_4 ic_4 ?_
  refine lv_icmp_ge (tgt := 48) hx hb dX0_appendWheel_5 (by decide) (fun hc => ?_) (fun hc => ?_)
  · have hw := hw.1 hc
    exact r_v C hP hS hw dX0_appendWheel_48
  · have hw := hw.2 hc
    refine lv_aload_n hx hb dX0_appendWheel_8 rfl (lv_at hl 0 rfl) ?_
    refine g_f C hP (layb0 ho) (lay0 ho K _) rfl hX0_appendWheel_X0 3 (by decide) kX0_appendWheel_f22 rfl dX0_appendWheel_9 ?_
    refine lv_aload_n hx hb dX0_appendWheel_12 rfl (lv_at hl 0 rfl) ?_
    refine g_f C hP (layb0 ho) (lay0 ho K _) rfl hX0_appendWheel_X0 6 (by decide) kX0_appendWheel_f31 rfl dX0_appendWheel_13 ?_
    refine lv_iload_n hx hb dX0_appendWheel_16 rfl (lv_at hl 1 rfl) ?_
    have hi_1 := hw.1
    have hw := hw.2
    refine a_is C hP hS (layb ho 3 (by decide)) (lay3 ho K) hi_1 rfl dX0_appendWheel_17 (fun H locs hP hS => ?_)
    refine lv_aload_n hx hb dX0_appendWheel_18 rfl (lv_at hl 0 rfl) ?_
    refine g_f C hP (layb0 ho) (lay0 ho K _) rfl hX0_appendWheel_X0 4 (by decide) kX0_appendWheel_f25 rfl dX0_appendWheel_19 ?_
    refine lv_aload_n hx hb dX0_appendWheel_22 rfl (lv_at hl 0 rfl) ?_
    refine g_f C hP (layb0 ho) (lay0 ho K _) rfl hX0_appendWheel_X0 6 (by decide) kX0_appendWheel_f31 rfl dX0_appendWheel_23 ?_
    refine lv_iload_n hx hb dX0_appendWheel_26 rfl (lv_at hl 2 rfl) ?_
    have hi_2 := hw.1
    have hw := hw.2
    refine a_is C hP hS (layb ho 4 (by decide)) (lay4 ho K) hi_2 rfl dX0_appendWheel_27 (fun H locs hP hS => ?_)
    obtain ⟨M_3, eM_3⟩ : ∃ z : Mem, z = mU (mU M (o + 3) (M o 6).toNatClampNeg v1) (o + 4) ((mU M (o + 3) (M o 6).toNatClampNeg v1) o 6).toNatClampNeg v2 := ⟨_, rfl⟩
    rw [← eM_3] at hP
    have hw := hw M_3 eM_3
    refine lv_aload_n hx hb dX0_appendWheel_28 rfl (lv_at hl 0 rfl) ?_
    refine g_f C hP (layb0 ho) (lay0 ho K _) rfl hX0_appendWheel_X0 5 (by decide) kX0_appendWheel_f28 rfl dX0_appendWheel_29 ?_
    refine lv_aload_n hx hb dX0_appendWheel_32 rfl (lv_at hl 0 rfl) ?_
    refine g_f C hP (layb0 ho) (lay0 ho K _) rfl hX0_appendWheel_X0 6 (by decide) kX0_appendWheel_f31 rfl dX0_appendWheel_33 ?_
    refine lv_iconst hx hb dX0_appendWheel_36 ic_0 ?_
    have hi_4 := hw.1
    have hw := hw.2
    refine a_is C hP hS (layb ho 5 (by decide)) (lay5 ho K) hi_4 rfl dX0_appendWheel_37 (fun H locs hP hS => ?_)
    refine lv_aload_n hx hb dX0_appendWheel_38 rfl (lv_at hl 0 rfl) ?_
    refine lv_dup hx hb dX0_appendWheel_39 rfl ?_
    refine g_f C hP (layb0 ho) (lay0 ho K _) rfl hX0_appendWheel_X0 6 (by decide) kX0_appendWheel_f31 rfl dX0_appendWheel_40 ?_
    refine lv_iconst hx hb dX0_appendWheel_43 ic_1 ?_
    refine lv_iadd hx hb dX0_appendWheel_44 ?_
    refine p_f C hP hS (layb0 ho) (lay0 ho K _) (lay0 ho K _) rfl hX0_appendWheel_X0 tyX0_ok nmX0 (by decide) kX0_appendWheel_f31 rfl rfl rfl (Nat.le_of_ble_eq_true rfl) dX0_appendWheel_45 (fun H locs hP hS => ?_)
    obtain ⟨M_5, eM_5⟩ : ∃ z : Mem, z = mU (mU M_3 (o + 5) (M_3 o 6).toNatClampNeg (0 : Int32)) o 6 (((mU M_3 (o + 5) (M_3 o 6).toNatClampNeg (0 : Int32)) o 6) + (1 : Int32)) := ⟨_, rfl⟩
    rw [← eM_5] at hP
    have hw := hw M_5 eM_5
    exact r_v C hP hS hw dX0_appendWheel_48

theorem kX0_movePole_f34 : Cond.fieldLink RX0 34 (TX0 7).1 (TX0 7).2.1 (TX0 7).2.2.1 ∈ wsX0_movePole := List.mem_of_getElem? (i := 1) rfl
theorem hX0_movePole_X0 : ∀ w ∈ u_ws RX0 TX0 10, w ∈ wsX0_movePole := fun _ h => List.mem_cons_of_mem _ (List.mem_append_right _ (h))
theorem kX0_movePole_f37 : Cond.fieldLink RX0 37 (TX0 8).1 (TX0 8).2.1 (TX0 8).2.2.1 ∈ wsX0_movePole := List.mem_of_getElem? (i := 2) rfl
abbrev rmX0_movePole : Room := { frames := 0, cells := 0, slots := 0, locals := 0 }
def q_X0_movePole (o : Nat) (v1 : Int32) (v2 : Int32) (M : Mem) (Q : Mem → Prop) : Prop := Q (mU (mU M o 7 v1) o 8 v2)
theorem dsX0_movePole : yX0_movePole.cls = RX0 ∧ yX0_movePole.cls ≠ "java/lang/invoke/MethodHandle" ∧ yX0_movePole.cls ≠ "java/lang/invoke/VarHandle" ∧ (parseMethodDescriptor yX0_movePole.desc).map (fun d => d.parameters.length) = some 2 := by decide +kernel
set_option maxRecDepth 100000 in
set_option maxHeartbeats 4000000 in
theorem c_X0_movePole {l : Launch} {K : wC} {o : Nat} {v1 : Int32} {v2 : Int32} {M : Mem} {Q : Mem → Prop} (ho : isLay o) (hw : q_X0_movePole o v1 v2 M Q) : metV l yX0_movePole wsX0_movePole rmX0_movePole shX 51 K [.ref (kb K + o), .int v1, .int v2] M Q := by
  refine met_of (cc := cX0_movePole) (maxL := 3) (ret := none) (own := RX0) (by decide) rfl rfl (Nat.le_of_ble_eq_true rfl) ?_
  intro p e s m below meth c ls C hl hP hS
  have hl : lv_has ls 3 [(0, .ref (kb K + o)), (1, .int v1), (2, .int v2)] := hl
  obtain ⟨hx, hb, hml, hown, hts, hr, hlk, hK⟩ := id C
  have hP0 := hP
  delta q_X0_movePole at hw
  refine lv_aload_n hx hb dX0_movePole_0 rfl (lv_at hl 0 rfl) ?_
  refine lv_iload_n hx hb dX0_movePole_1 rfl (lv_at hl 1 rfl) ?_
  refine p_f C hP hS (layb0 ho) (lay0 ho K _) (lay0 ho K _) rfl hX0_movePole_X0 tyX0_ok nmX0 (by decide) kX0_movePole_f34 rfl rfl rfl (Nat.le_of_ble_eq_true rfl) dX0_movePole_2 (fun H locs hP hS => ?_)
  refine lv_aload_n hx hb dX0_movePole_5 rfl (lv_at hl 0 rfl) ?_
  refine lv_iload_n hx hb dX0_movePole_6 rfl (lv_at hl 2 rfl) ?_
  refine p_f C hP hS (layb0 ho) (lay0 ho K _) (lay0 ho K _) rfl hX0_movePole_X0 tyX0_ok nmX0 (by decide) kX0_movePole_f37 rfl rfl rfl (Nat.le_of_ble_eq_true rfl) dX0_movePole_7 (fun H locs hP hS => ?_)
  exact r_v C hP hS hw dX0_movePole_10

theorem kX0_sweepOf_f18 : Cond.fieldLink RX0 18 (TX0 2).1 (TX0 2).2.1 (TX0 2).2.2.1 ∈ wsX0_sweepOf := List.mem_of_getElem? (i := 1) rfl
theorem hX0_sweepOf_X0 : ∀ w ∈ u_ws RX0 TX0 10, w ∈ wsX0_sweepOf := fun _ h => List.mem_cons_of_mem _ (List.mem_append_right _ (h))
theorem kX0_sweepOf_f9 : Cond.fieldLink RX0 9 (TX0 0).1 (TX0 0).2.1 (TX0 0).2.2.1 ∈ wsX0_sweepOf := List.mem_of_getElem? (i := 2) rfl
theorem kX0_sweepOf_f34 : Cond.fieldLink RX0 34 (TX0 7).1 (TX0 7).2.1 (TX0 7).2.2.1 ∈ wsX0_sweepOf := List.mem_of_getElem? (i := 3) rfl
theorem kX0_sweepOf_f15 : Cond.fieldLink RX0 15 (TX0 1).1 (TX0 1).2.1 (TX0 1).2.2.1 ∈ wsX0_sweepOf := List.mem_of_getElem? (i := 4) rfl
theorem kX0_sweepOf_f37 : Cond.fieldLink RX0 37 (TX0 8).1 (TX0 8).2.1 (TX0 8).2.2.1 ∈ wsX0_sweepOf := List.mem_of_getElem? (i := 5) rfl
abbrev rmX0_sweepOf : Room := { frames := 0, cells := 0, slots := 0, locals := 0 }
def f_X0_sweepOf_17 (o : Nat) (Q : Int32 → Mem → Prop) (v1 : Int32) (s0 : Int32) (M : Mem) : Prop := vp_in v1 10 ∧ (∀ x_2 : Int32, x_2 = ((M (o + 1) v1.toNatClampNeg) - (M o 7)) → vp_in v1 10 ∧ (∀ x_4 : Int32, x_4 = ((M (o + 2) v1.toNatClampNeg) - (M o 8)) → vp_in s0 10 ∧ (∀ x_6 : Int32, x_6 = ((M (o + 1) s0.toNatClampNeg) - (M o 7)) → vp_in s0 10 ∧ (∀ x_8 : Int32, x_8 = ((M (o + 2) s0.toNatClampNeg) - (M o 8)) → Q ((x_2 * x_8) - (x_6 * x_4)) M))))
def q_X0_sweepOf (o : Nat) (v1 : Int32) (M : Mem) (Q : Int32 → Mem → Prop) : Prop := (((M o 2) ≤ (v1 + (1 : Int32)) → f_X0_sweepOf_17 o Q v1 (0 : Int32) M) ∧ (¬ (M o 2) ≤ (v1 + (1 : Int32)) → f_X0_sweepOf_17 o Q v1 (v1 + (1 : Int32)) M))
set_option maxRecDepth 100000 in
set_option maxHeartbeats 4000000 in
theorem b_X0_sweepOf_17 {l : Launch} {K : wC} {o : Nat} {Q : Int32 → Mem → Prop} {p : Program} {e : Env} {s : State} {m : MethodId} {args : Array Value} {below : List Frame} {meth : Method} {c : Code} (ho : isLay o) (C : cx 51 K p s m args meth c cX0_sweepOf 7 wsX0_sweepOf RX0 (some .int)) (v1 : Int32) (s0 : Int32) (M : Mem) (H : Heap) (locs : List Loc) (ls : Array Slot) (hw : f_X0_sweepOf_17 o Q v1 s0 M) (hP : wP shX 51 K M H) (hS : va_S (wA 51 K) s.heap H locs) (hl : lv_has ls 7 [(0, .ref (kb K + o)), (1, .int v1)]) : W p l e rmX0_sweepOf s m args below meth c H locs 0 0 (MQ below (va_Qi Q (wE shX 51 K) (wA 51 K)) args s 0 0 (wA 51 K)) (F0 m 17 ls [.int s0]) := by
  obtain ⟨hx, hb, hml, hown, hts, hr, hlk, hK⟩ := id C
  delta f_X0_sweepOf_17 at hw
  refine lv_istore_n (lv' := [(2, .int s0), (0, .ref (kb K + o)), (1, .int v1)]) hx hb dX0_sweepOf_17 rfl hl (by decide) rfl (fun ls hl => ?_)
  refine lv_aload_n hx hb dX0_sweepOf_18 rfl (lv_at hl 1 rfl) ?_
  refine g_f C hP (layb0 ho) (lay0 ho K _) rfl hX0_sweepOf_X0 0 (by decide) kX0_sweepOf_f9 rfl dX0_sweepOf_19 ?_
  refine lv_iload_n hx hb dX0_sweepOf_22 rfl (lv_at hl 2 rfl) ?_
  have hi_1 := hw.1
  have hw := hw.2
  refine a_il C hP (layb ho 1 (by decide)) (lay1 ho K _) hi_1 rfl dX0_sweepOf_23 ?_
  refine lv_aload_n hx hb dX0_sweepOf_24 rfl (lv_at hl 1 rfl) ?_
  refine g_f C hP (layb0 ho) (lay0 ho K _) rfl hX0_sweepOf_X0 7 (by decide) kX0_sweepOf_f34 rfl dX0_sweepOf_25 ?_
  refine lv_isub hx hb dX0_sweepOf_28 ?_
  refine lv_topi (fun x_2 ex_2 => ?_)
  have hw := hw x_2 ex_2
  refine lv_istore_n (lv' := [(3, .int x_2), (2, .int s0), (0, .ref (kb K + o)), (1, .int v1)]) hx hb dX0_sweepOf_29 rfl hl (by decide) rfl (fun ls hl => ?_)
  refine lv_aload_n hx hb dX0_sweepOf_30 rfl (lv_at hl 2 rfl) ?_
  refine g_f C hP (layb0 ho) (lay0 ho K _) rfl hX0_sweepOf_X0 1 (by decide) kX0_sweepOf_f15 rfl dX0_sweepOf_31 ?_
  refine lv_iload_n hx hb dX0_sweepOf_34 rfl (lv_at hl 3 rfl) ?_
  have hi_3 := hw.1
  have hw := hw.2
  refine a_il C hP (layb ho 2 (by decide)) (lay2 ho K _) hi_3 rfl dX0_sweepOf_35 ?_
  refine lv_aload_n hx hb dX0_sweepOf_36 rfl (lv_at hl 2 rfl) ?_
  refine g_f C hP (layb0 ho) (lay0 ho K _) rfl hX0_sweepOf_X0 8 (by decide) kX0_sweepOf_f37 rfl dX0_sweepOf_37 ?_
  refine lv_isub hx hb dX0_sweepOf_40 ?_
  refine lv_topi (fun x_4 ex_4 => ?_)
  have hw := hw x_4 ex_4
  refine lv_istore (lv' := [(4, .int x_4), (3, .int x_2), (2, .int s0), (0, .ref (kb K + o)), (1, .int v1)]) hx hb dX0_sweepOf_41 hl (by decide) rfl (fun ls hl => ?_)
  refine lv_aload_n hx hb dX0_sweepOf_43 rfl (lv_at hl 3 rfl) ?_
  refine g_f C hP (layb0 ho) (lay0 ho K _) rfl hX0_sweepOf_X0 0 (by decide) kX0_sweepOf_f9 rfl dX0_sweepOf_44 ?_
  refine lv_iload_n hx hb dX0_sweepOf_47 rfl (lv_at hl 2 rfl) ?_
  have hi_5 := hw.1
  have hw := hw.2
  refine a_il C hP (layb ho 1 (by decide)) (lay1 ho K _) hi_5 rfl dX0_sweepOf_48 ?_
  refine lv_aload_n hx hb dX0_sweepOf_49 rfl (lv_at hl 3 rfl) ?_
  refine g_f C hP (layb0 ho) (lay0 ho K _) rfl hX0_sweepOf_X0 7 (by decide) kX0_sweepOf_f34 rfl dX0_sweepOf_50 ?_
  refine lv_isub hx hb dX0_sweepOf_53 ?_
  refine lv_topi (fun x_6 ex_6 => ?_)
  have hw := hw x_6 ex_6
  refine lv_istore (lv' := [(5, .int x_6), (4, .int x_4), (3, .int x_2), (2, .int s0), (0, .ref (kb K + o)), (1, .int v1)]) hx hb dX0_sweepOf_54 hl (by decide) rfl (fun ls hl => ?_)
  refine lv_aload_n hx hb dX0_sweepOf_56 rfl (lv_at hl 4 rfl) ?_
  refine g_f C hP (layb0 ho) (lay0 ho K _) rfl hX0_sweepOf_X0 1 (by decide) kX0_sweepOf_f15 rfl dX0_sweepOf_57 ?_
  refine lv_iload_n hx hb dX0_sweepOf_60 rfl (lv_at hl 3 rfl) ?_
  have hi_7 := hw.1
  have hw := hw.2
  refine a_il C hP (layb ho 2 (by decide)) (lay2 ho K _) hi_7 rfl dX0_sweepOf_61 ?_
  refine lv_aload_n hx hb dX0_sweepOf_62 rfl (lv_at hl 4 rfl) ?_
  refine g_f C hP (layb0 ho) (lay0 ho K _) rfl hX0_sweepOf_X0 8 (by decide) kX0_sweepOf_f37 rfl dX0_sweepOf_63 ?_
  refine lv_isub hx hb dX0_sweepOf_66 ?_
  refine lv_topi (fun x_8 ex_8 => ?_)
  have hw := hw x_8 ex_8
  refine lv_istore (lv' := [(6, .int x_8), (5, .int x_6), (4, .int x_4), (3, .int x_2), (2, .int s0), (0, .ref (kb K + o)), (1, .int v1)]) hx hb dX0_sweepOf_67 hl (by decide) rfl (fun ls hl => ?_)
  refine lv_iload_n hx hb dX0_sweepOf_69 rfl (lv_at hl 3 rfl) ?_
  refine lv_iload hx hb dX0_sweepOf_70 (lv_at hl 0 rfl) ?_
  refine lv_imul hx hb dX0_sweepOf_72 ?_
  refine lv_iload hx hb dX0_sweepOf_73 (lv_at hl 1 rfl) ?_
  refine lv_iload hx hb dX0_sweepOf_75 (lv_at hl 2 rfl) ?_
  refine lv_imul hx hb dX0_sweepOf_77 ?_
  refine lv_isub hx hb dX0_sweepOf_78 ?_
  exact r_i C hP hS hw dX0_sweepOf_79
theorem dsX0_sweepOf : yX0_sweepOf.cls = RX0 ∧ yX0_sweepOf.cls ≠ "java/lang/invoke/MethodHandle" ∧ yX0_sweepOf.cls ≠ "java/lang/invoke/VarHandle" ∧ (parseMethodDescriptor yX0_sweepOf.desc).map (fun d => d.parameters.length) = some 1 := by decide +kernel
set_option maxRecDepth 100000 in
set_option maxHeartbeats 4000000 in
theorem c_X0_sweepOf {l : Launch} {K : wC} {o : Nat} {v1 : Int32} {M : Mem} {Q : Int32 → Mem → Prop} (ho : isLay o) (hw : q_X0_sweepOf o v1 M Q) : metI l yX0_sweepOf wsX0_sweepOf rmX0_sweepOf shX 51 K [.ref (kb K + o), .int v1] M Q := by
  refine met_of (cc := cX0_sweepOf) (maxL := 7) (ret := (some .int)) (own := RX0) (by decide) rfl rfl (Nat.le_of_ble_eq_true rfl) ?_
  intro p e s m below meth c ls C hl hP hS
  have hl : lv_has ls 7 [(0, .ref (kb K + o)), (1, .int v1)] := hl
  obtain ⟨hx, hb, hml, hown, hts, hr, hlk, hK⟩ := id C
  have hP0 := hP
  delta q_X0_sweepOf at hw
  refine lv_iload_n hx hb dX0_sweepOf_0 rfl (lv_at hl 1 rfl) ?_
  refine lv_iconst hx hb dX0_sweepOf_1 ic_1 ?_
  refine lv_iadd hx hb dX0_sweepOf_2 ?_
  refine lv_aload_n hx hb dX0_sweepOf_3 rfl (lv_at hl 0 rfl) ?_
  refine g_f C hP (layb0 ho) (lay0 ho K _) rfl hX0_sweepOf_X0 2 (by decide) kX0_sweepOf_f18 rfl dX0_sweepOf_4 ?_
  refine lv_icmp_ge (tgt := 16) hx hb dX0_sweepOf_7 (by decide) (fun hc => ?_) (fun hc => ?_)
  · have hw := hw.1 hc
    refine lv_iconst hx hb dX0_sweepOf_16 ic_0 ?_
    exact b_X0_sweepOf_17 ho C _ _ _ _ _ _ hw hP hS (lv_sub hl [0, 1] rfl)
  · have hw := hw.2 hc
    refine lv_iload_n hx hb dX0_sweepOf_10 rfl (lv_at hl 1 rfl) ?_
    refine lv_iconst hx hb dX0_sweepOf_11 ic_1 ?_
    refine lv_iadd hx hb dX0_sweepOf_12 ?_
    refine lv_goto (tgt := 17) hx hb dX0_sweepOf_13 (by decide) ?_
    exact b_X0_sweepOf_17 ho C _ _ _ _ _ _ hw hP hS (lv_sub hl [0, 1] rfl)

theorem kX0_area_f18 : Cond.fieldLink RX0 18 (TX0 2).1 (TX0 2).2.1 (TX0 2).2.2.1 ∈ wsX0_area := List.mem_of_getElem? (i := 1) rfl
theorem hX0_area_X0 : ∀ w ∈ u_ws RX0 TX0 10, w ∈ wsX0_area := fun _ h => List.mem_cons_of_mem _ (List.mem_append_right _ (h))
abbrev rmX0_area : Room := { frames := 1, cells := 0, slots := 0, locals := 26 }
abbrev t_X0_area : Type := (Int32 → Int32 → Mem → Prop)
def f_X0_area_4 (o : Nat) (Q : Int32 → Mem → Prop) (r : t_X0_area) (v1 : Int32) (v2 : Int32) (M : Mem) : Prop := (((M o 2) ≤ v2 → Q v1 M) ∧ (¬ (M o 2) ≤ v2 → q_X0_sweepOf o v2 M (fun r_2 M_1 => r (v1 + r_2) (v2 + 1) M_1)))
def p_X0_area (o : Nat) (Q : Int32 → Mem → Prop) : Nat → t_X0_area
  | 0 => fun _ _ _ => False
  | n + 1 => f_X0_area_4 o Q (p_X0_area o Q n)
def e_X0_area (o : Nat) (Q : Int32 → Mem → Prop) (r : t_X0_area) (M : Mem) : Prop := r (0 : Int32) (0 : Int32) M
def q_X0_area (o : Nat) (M : Mem) (Q : Int32 → Mem → Prop) : Prop := ∃ n : Nat, e_X0_area o Q (p_X0_area o Q n) M
set_option maxRecDepth 100000 in
set_option maxHeartbeats 4000000 in
theorem b_X0_area {l : Launch} {K : wC} {o : Nat} {Q : Int32 → Mem → Prop} {p : Program} {e : Env} {s : State} {m : MethodId} {args : Array Value} {below : List Frame} {meth : Method} {c : Code} (ho : isLay o) (C : cx 51 K p s m args meth c cX0_area 3 wsX0_area RX0 (some .int)) : ∀ n : Nat, (∀ (v1 : Int32) (v2 : Int32) (M : Mem) (H : Heap) (locs : List Loc) (ls : Array Slot), (p_X0_area o Q n) v1 v2 M → wP shX 51 K M H → va_S (wA 51 K) s.heap H locs → lv_has ls 3 [(0, .ref (kb K + o)), (1, .int v1), (2, .int v2)] → W p l e rmX0_area s m args below meth c H locs 0 0 (MQ below (va_Qi Q (wE shX 51 K) (wA 51 K)) args s 0 0 (wA 51 K)) (F0 m 4 ls [])) := by
  obtain ⟨hx, hb, hml, hown, hts, hr, hlk, hK⟩ := id C
  intro n
  induction n with
  | zero => exact fun _ _ _ _ _ _ hw _ _ _ => False.elim hw
  | succ n ih =>
    intro v1 v2 M H locs ls hw hP hS hl
    have hw : f_X0_area_4 o Q (p_X0_area o Q n) v1 v2 M := hw
    delta f_X0_area_4 at hw
    refine lv_iload_n hx hb dX0_area_4 rfl (lv_at hl 2 rfl) ?_
    refine lv_aload_n hx hb dX0_area_5 rfl (lv_at hl 0 rfl) ?_
    refine g_f C hP (layb0 ho) (lay0 ho K _) rfl hX0_area_X0 2 (by decide) kX0_area_f18 rfl dX0_area_6 ?_
    refine lv_icmp_ge (tgt := 26) hx hb dX0_area_9 (by decide) (fun hc => ?_) (fun hc => ?_)
    · have hw := hw.1 hc
      refine lv_iload_n hx hb dX0_area_26 rfl (lv_at hl 1 rfl) ?_
      exact r_i C hP hS hw dX0_area_27
    · have hw := hw.2 hc
      refine lv_iload_n hx hb dX0_area_12 rfl (lv_at hl 1 rfl) ?_
      refine lv_aload_n hx hb dX0_area_13 rfl (lv_at hl 0 rfl) ?_
      refine lv_iload_n hx hb dX0_area_14 rfl (lv_at hl 2 rfl) ?_
      refine c_i (run_v (As := [.int v2]) (rest := [.int v1]) C hP hS (c_X0_sweepOf ho hw) gX0_area_X0_sweepOf rfl dsX0_sweepOf rfl ⟨rfl, rfl⟩ ⟨Nat.le_of_ble_eq_true rfl, Nat.le_of_ble_eq_true rfl⟩ (layb0 ho) (lay0 ho K _) rfl hl.1 rfl (Nat.le_of_ble_eq_true rfl) dX0_area_15 ⟨Nat.le_of_ble_eq_true rfl, Nat.le_of_ble_eq_true rfl⟩) hS (fun r_2 M_1 H locs hw hP hS => ?_)
      refine lv_iadd hx hb dX0_area_18 ?_
      refine lv_istore_n (lv' := [(1, .int (v1 + r_2)), (0, .ref (kb K + o)), (2, .int v2)]) hx hb dX0_area_19 rfl hl (by decide) rfl (fun ls hl => ?_)
      refine lv_iinc (v := (v2 + 1)) (lv' := [(2, .int (v2 + 1)), (1, .int (v1 + r_2)), (0, .ref (kb K + o))]) hx hb dX0_area_20 hl (k := 2) rfl (by rw [ic_1]) (by decide) rfl (fun ls hl => ?_)
      refine lv_goto (tgt := 4) hx hb dX0_area_23 (by decide) ?_
      exact ih _ _ _ _ _ _ hw hP hS (lv_sub hl [2, 1, 0] rfl)
theorem dsX0_area : yX0_area.cls = RX0 ∧ yX0_area.cls ≠ "java/lang/invoke/MethodHandle" ∧ yX0_area.cls ≠ "java/lang/invoke/VarHandle" ∧ (parseMethodDescriptor yX0_area.desc).map (fun d => d.parameters.length) = some 0 := by decide +kernel
set_option maxRecDepth 100000 in
set_option maxHeartbeats 4000000 in
theorem c_X0_area {l : Launch} {K : wC} {o : Nat} {M : Mem} {Q : Int32 → Mem → Prop} (ho : isLay o) (hw : q_X0_area o M Q) : metI l yX0_area wsX0_area rmX0_area shX 51 K [.ref (kb K + o)] M Q := by
  refine met_of (cc := cX0_area) (maxL := 3) (ret := (some .int)) (own := RX0) (by decide) rfl rfl (Nat.le_of_ble_eq_true rfl) ?_
  intro p e s m below meth c ls C hl hP hS
  have hl : lv_has ls 3 [(0, .ref (kb K + o))] := hl
  obtain ⟨hx, hb, hml, hown, hts, hr, hlk, hK⟩ := id C
  have hP0 := hP
  obtain ⟨n, hw⟩ := hw
  have ih := b_X0_area (l := l) (e := e) (below := below) (Q := Q) ho C n
  delta e_X0_area at hw
  refine lv_iconst hx hb dX0_area_0 ic_0 ?_
  refine lv_istore_n (lv' := [(1, .int (0 : Int32)), (0, .ref (kb K + o))]) hx hb dX0_area_1 rfl hl (by decide) rfl (fun ls hl => ?_)
  refine lv_iconst hx hb dX0_area_2 ic_0 ?_
  refine lv_istore_n (lv' := [(2, .int (0 : Int32)), (1, .int (0 : Int32)), (0, .ref (kb K + o))]) hx hb dX0_area_3 rfl hl (by decide) rfl (fun ls hl => ?_)
  exact ih _ _ _ _ _ _ hw hP hS (lv_sub hl [2, 1, 0] rfl)

theorem kX0_areaUnsigned_m61 : Cond.methodLink RX0 61 Lib.Math.abs.name ∈ wsX0_areaUnsigned := List.mem_of_getElem? (i := 1) rfl
theorem kX0_areaUnsigned_ma1 : Cond.static Lib.Math.abs.name ∈ wsX0_areaUnsigned := List.mem_of_getElem? (i := 2) rfl
theorem kX0_areaUnsigned_ma2 : Cond.initialized "java/lang/Math" ∈ wsX0_areaUnsigned := List.mem_of_getElem? (i := 3) rfl
theorem kX0_areaUnsigned_ma3 : Cond.code Lib.Math.abs.name Lib.Math.abs.code 1 (some .int) ∈ wsX0_areaUnsigned := List.mem_of_getElem? (i := 4) rfl
abbrev rmX0_areaUnsigned : Room := { frames := 2, cells := 0, slots := 0, locals := 48 }
def q_X0_areaUnsigned (o : Nat) (M : Mem) (Q : Int32 → Mem → Prop) : Prop := q_X0_area o M (fun r_2 M_1 => Q (iabs r_2) M_1)
theorem dsX0_areaUnsigned : yX0_areaUnsigned.cls = RX0 ∧ yX0_areaUnsigned.cls ≠ "java/lang/invoke/MethodHandle" ∧ yX0_areaUnsigned.cls ≠ "java/lang/invoke/VarHandle" ∧ (parseMethodDescriptor yX0_areaUnsigned.desc).map (fun d => d.parameters.length) = some 0 := by decide +kernel
set_option maxRecDepth 100000 in
set_option maxHeartbeats 4000000 in
theorem c_X0_areaUnsigned {l : Launch} {K : wC} {o : Nat} {M : Mem} {Q : Int32 → Mem → Prop} (ho : isLay o) (hw : q_X0_areaUnsigned o M Q) : metI l yX0_areaUnsigned wsX0_areaUnsigned rmX0_areaUnsigned shX 51 K [.ref (kb K + o)] M Q := by
  refine met_of (cc := cX0_areaUnsigned) (maxL := 1) (ret := (some .int)) (own := RX0) (by decide) rfl rfl (Nat.le_of_ble_eq_true rfl) ?_
  intro p e s m below meth c ls C hl hP hS
  have hl : lv_has ls 1 [(0, .ref (kb K + o))] := hl
  obtain ⟨hx, hb, hml, hown, hts, hr, hlk, hK⟩ := id C
  have hP0 := hP
  delta q_X0_areaUnsigned at hw
  refine lv_aload_n hx hb dX0_areaUnsigned_0 rfl (lv_at hl 0 rfl) ?_
  refine c_i (run_v (As := []) (rest := []) C hP hS (c_X0_area ho hw) gX0_areaUnsigned_X0_area rfl dsX0_area rfl ⟨rfl, rfl⟩ ⟨Nat.le_of_ble_eq_true rfl, Nat.le_of_ble_eq_true rfl⟩ (layb0 ho) (lay0 ho K _) rfl hl.1 rfl (Nat.le_of_ble_eq_true rfl) dX0_areaUnsigned_1 ⟨Nat.le_of_ble_eq_true rfl, Nat.le_of_ble_eq_true rfl⟩) hS (fun r_2 M_1 H locs hw hP hS => ?_)
  refine m_abs C hl.1 kX0_areaUnsigned_m61 kX0_areaUnsigned_ma1 kX0_areaUnsigned_ma2 kX0_areaUnsigned_ma3 (Nat.le_of_ble_eq_true rfl) (Nat.le_of_ble_eq_true rfl) (Nat.le_of_ble_eq_true rfl) (Nat.le_of_ble_eq_true rfl) dX0_areaUnsigned_4 ?_
  exact r_i C hP hS hw dX0_areaUnsigned_7

theorem kX0_edgeAhead_f18 : Cond.fieldLink RX0 18 (TX0 2).1 (TX0 2).2.1 (TX0 2).2.2.1 ∈ wsX0_edgeAhead := List.mem_of_getElem? (i := 1) rfl
theorem hX0_edgeAhead_X0 : ∀ w ∈ u_ws RX0 TX0 10, w ∈ wsX0_edgeAhead := fun _ h => List.mem_cons_of_mem _ (List.mem_append_right _ (h))
theorem kX0_edgeAhead_f40 : Cond.fieldLink RX0 40 (TX0 9).1 (TX0 9).2.1 (TX0 9).2.2.1 ∈ wsX0_edgeAhead := List.mem_of_getElem? (i := 2) rfl
abbrev rmX0_edgeAhead : Room := { frames := 0, cells := 0, slots := 0, locals := 0 }
def q_X0_edgeAhead (o : Nat) (v1 : Int32) (M : Mem) (Q : Int32 → Mem → Prop) : Prop := ((¬ (M o 2) = 0 → (¬ (M o 2) = 0) ∧ Q (((M o 9) + v1) - ((M o 9) + v1) / (M o 2) * (M o 2)) M) ∧ ((M o 2) = 0 → Q (-4 : Int32) M))
theorem dsX0_edgeAhead : yX0_edgeAhead.cls = RX0 ∧ yX0_edgeAhead.cls ≠ "java/lang/invoke/MethodHandle" ∧ yX0_edgeAhead.cls ≠ "java/lang/invoke/VarHandle" ∧ (parseMethodDescriptor yX0_edgeAhead.desc).map (fun d => d.parameters.length) = some 1 := by decide +kernel
set_option maxRecDepth 100000 in
set_option maxHeartbeats 4000000 in
theorem c_X0_edgeAhead {l : Launch} {K : wC} {o : Nat} {v1 : Int32} {M : Mem} {Q : Int32 → Mem → Prop} (ho : isLay o) (hw : q_X0_edgeAhead o v1 M Q) : metI l yX0_edgeAhead wsX0_edgeAhead rmX0_edgeAhead shX 51 K [.ref (kb K + o), .int v1] M Q := by
  refine met_of (cc := cX0_edgeAhead) (maxL := 2) (ret := (some .int)) (own := RX0) (by decide) rfl rfl (Nat.le_of_ble_eq_true rfl) ?_
  intro p e s m below meth c ls C hl hP hS
  have hl : lv_has ls 2 [(0, .ref (kb K + o)), (1, .int v1)] := hl
  obtain ⟨hx, hb, hml, hown, hts, hr, hlk, hK⟩ := id C
  have hP0 := hP
  delta q_X0_edgeAhead at hw
  refine lv_aload_n hx hb dX0_edgeAhead_0 rfl (lv_at hl 0 rfl) ?_
  refine g_f C hP (layb0 ho) (lay0 ho K _) rfl hX0_edgeAhead_X0 2 (by decide) kX0_edgeAhead_f18 rfl dX0_edgeAhead_1 ?_
  refine lv_if_ne (tgt := 12) hx hb dX0_edgeAhead_4 (by decide) (fun hc => ?_) (fun hc => ?_)
  · have hw := hw.1 hc
    refine lv_aload_n hx hb dX0_edgeAhead_12 rfl (lv_at hl 0 rfl) ?_
    refine g_f C hP (layb0 ho) (lay0 ho K _) rfl hX0_edgeAhead_X0 9 (by decide) kX0_edgeAhead_f40 rfl dX0_edgeAhead_13 ?_
    refine lv_iload_n hx hb dX0_edgeAhead_16 rfl (lv_at hl 1 rfl) ?_
    refine lv_iadd hx hb dX0_edgeAhead_17 ?_
    refine lv_aload_n hx hb dX0_edgeAhead_18 rfl (lv_at hl 0 rfl) ?_
    refine g_f C hP (layb0 ho) (lay0 ho K _) rfl hX0_edgeAhead_X0 2 (by decide) kX0_edgeAhead_f18 rfl dX0_edgeAhead_19 ?_
    have hz_1 := hw.1
    have hw := hw.2
    refine lv_irem hx hb dX0_edgeAhead_22 hz_1 ?_
    exact r_i C hP hS hw dX0_edgeAhead_23
  · have hw := hw.2 hc
    refine lv_bipush hx hb dX0_edgeAhead_7 bp_m4 ?_
    refine lv_goto (tgt := 23) hx hb dX0_edgeAhead_9 (by decide) ?_
    exact r_i C hP hS hw dX0_edgeAhead_23

abbrev rmX0_sweepAhead : Room := { frames := 1, cells := 0, slots := 0, locals := 26 }
def q_X0_sweepAhead (o : Nat) (v1 : Int32) (M : Mem) (Q : Int32 → Mem → Prop) : Prop := q_X0_edgeAhead o v1 M (fun r_2 M_1 => ((¬ r_2 = (-4 : Int32) → q_X0_sweepOf o r_2 M_1 (fun r_4 M_3 => Q r_4 M_3)) ∧ (r_2 = (-4 : Int32) → Q (0 : Int32) M_1)))
theorem dsX0_sweepAhead : yX0_sweepAhead.cls = RX0 ∧ yX0_sweepAhead.cls ≠ "java/lang/invoke/MethodHandle" ∧ yX0_sweepAhead.cls ≠ "java/lang/invoke/VarHandle" ∧ (parseMethodDescriptor yX0_sweepAhead.desc).map (fun d => d.parameters.length) = some 1 := by decide +kernel
set_option maxRecDepth 100000 in
set_option maxHeartbeats 4000000 in
theorem c_X0_sweepAhead {l : Launch} {K : wC} {o : Nat} {v1 : Int32} {M : Mem} {Q : Int32 → Mem → Prop} (ho : isLay o) (hw : q_X0_sweepAhead o v1 M Q) : metI l yX0_sweepAhead wsX0_sweepAhead rmX0_sweepAhead shX 51 K [.ref (kb K + o), .int v1] M Q := by
  refine met_of (cc := cX0_sweepAhead) (maxL := 3) (ret := (some .int)) (own := RX0) (by decide) rfl rfl (Nat.le_of_ble_eq_true rfl) ?_
  intro p e s m below meth c ls C hl hP hS
  have hl : lv_has ls 3 [(0, .ref (kb K + o)), (1, .int v1)] := hl
  obtain ⟨hx, hb, hml, hown, hts, hr, hlk, hK⟩ := id C
  have hP0 := hP
  delta q_X0_sweepAhead at hw
  refine lv_aload_n hx hb dX0_sweepAhead_0 rfl (lv_at hl 0 rfl) ?_
  refine lv_iload_n hx hb dX0_sweepAhead_1 rfl (lv_at hl 1 rfl) ?_
  refine c_i (run_v (As := [.int v1]) (rest := []) C hP hS (c_X0_edgeAhead ho hw) gX0_sweepAhead_X0_edgeAhead rfl dsX0_edgeAhead rfl ⟨rfl, rfl⟩ ⟨Nat.le_of_ble_eq_true rfl, Nat.le_of_ble_eq_true rfl⟩ (layb0 ho) (lay0 ho K _) rfl hl.1 rfl (Nat.le_of_ble_eq_true rfl) dX0_sweepAhead_2 ⟨Nat.le_of_ble_eq_true rfl, Nat.le_of_ble_eq_true rfl⟩) hS (fun r_2 M_1 H locs hw hP hS => ?_)
  refine lv_istore_n (lv' := [(2, .int r_2), (0, .ref (kb K + o)), (1, .int v1)]) hx hb dX0_sweepAhead_5 rfl hl (by decide) rfl (fun ls hl => ?_)
  refine lv_iload_n hx hb dX0_sweepAhead_6 rfl (lv_at hl 0 rfl) ?_
  refine lv_bipush hx hb dX0_sweepAhead_7 bp_m4 ?_
  refine lv_icmp_ne (tgt := 16) hx hb dX0_sweepAhead_9 (by decide) (fun hc => ?_) (fun hc => ?_)
  · have hw := hw.1 hc
    refine lv_aload_n hx hb dX0_sweepAhead_16 rfl (lv_at hl 1 rfl) ?_
    refine lv_iload_n hx hb dX0_sweepAhead_17 rfl (lv_at hl 0 rfl) ?_
    refine c_i (run_v (As := [.int r_2]) (rest := []) C hP hS (c_X0_sweepOf ho hw) gX0_sweepAhead_X0_sweepOf rfl dsX0_sweepOf rfl ⟨rfl, rfl⟩ ⟨Nat.le_of_ble_eq_true rfl, Nat.le_of_ble_eq_true rfl⟩ (layb0 ho) (lay0 ho K _) rfl hl.1 rfl (Nat.le_of_ble_eq_true rfl) dX0_sweepAhead_18 ⟨Nat.le_of_ble_eq_true rfl, Nat.le_of_ble_eq_true rfl⟩) hS (fun r_4 M_3 H locs hw hP hS => ?_)
    exact r_i C hP hS hw dX0_sweepAhead_21
  · have hw := hw.2 hc
    refine lv_iconst hx hb dX0_sweepAhead_12 ic_0 ?_
    refine lv_goto (tgt := 21) hx hb dX0_sweepAhead_13 (by decide) ?_
    exact r_i C hP hS hw dX0_sweepAhead_21

theorem kX0_roll_m61 : Cond.methodLink RX0 61 Lib.Math.abs.name ∈ wsX0_roll := List.mem_of_getElem? (i := 1) rfl
theorem kX0_roll_ma1 : Cond.static Lib.Math.abs.name ∈ wsX0_roll := List.mem_of_getElem? (i := 2) rfl
theorem kX0_roll_ma2 : Cond.initialized "java/lang/Math" ∈ wsX0_roll := List.mem_of_getElem? (i := 3) rfl
theorem kX0_roll_ma3 : Cond.code Lib.Math.abs.name Lib.Math.abs.code 1 (some .int) ∈ wsX0_roll := List.mem_of_getElem? (i := 4) rfl
abbrev rmX0_roll : Room := { frames := 1, cells := 0, slots := 0, locals := 21 }
def q_X0_roll (v0 : Int32) (v1 : Int32) (v2 : Int32) (M : Mem) (Q : Int32 → Mem → Prop) : Prop := ((v0 = 1 → (((1 : Int32) ≤ v1 → (¬ v1 = 0) ∧ Q ((v2 / v1) * v1) M) ∧ (¬ (1 : Int32) ≤ v1 → Q (0 : Int32) M))) ∧ (¬ v0 = 1 → ((v0 = 2 → ((v1 ≤ (iabs v2) → Q v2 M) ∧ (¬ v1 ≤ (iabs v2) → Q (0 : Int32) M))) ∧ (¬ v0 = 2 → ((v0 = 3 → ((v1 ≤ v2 → Q v2 M) ∧ (¬ v1 ≤ v2 → Q (0 : Int32) M))) ∧ (¬ v0 = 3 → Q v2 M))))))
theorem dsX0_roll : yX0_roll.cls ≠ "java/lang/invoke/MethodHandle" ∧ yX0_roll.cls ≠ "java/lang/invoke/VarHandle" ∧ (parseMethodDescriptor yX0_roll.desc).map (fun d => d.parameters.length) = some 3 := by decide +kernel
set_option maxRecDepth 100000 in
set_option maxHeartbeats 4000000 in
theorem c_X0_roll {l : Launch} {K : wC} {v0 : Int32} {v1 : Int32} {v2 : Int32} {M : Mem} {Q : Int32 → Mem → Prop} (hw : q_X0_roll v0 v1 v2 M Q) : metI l yX0_roll wsX0_roll rmX0_roll shX 51 K [.int v0, .int v1, .int v2] M Q := by
  refine met_of (cc := cX0_roll) (maxL := 3) (ret := (some .int)) (own := RX0) (by decide) rfl rfl (Nat.le_of_ble_eq_true rfl) ?_
  intro p e s m below meth c ls C hl hP hS
  have hl : lv_has ls 3 [(0, .int v0), (1, .int v1), (2, .int v2)] := hl
  obtain ⟨hx, hb, hml, hown, hts, hr, hlk, hK⟩ := id C
  have hP0 := hP
  delta q_X0_roll at hw
  refine lv_iload_n hx hb dX0_roll_0 rfl (lv_at hl 0 rfl) ?_
  by_cases hs1 : v0 = 1
  · have hw := hw.1 hs1
    refine lv_tableIn (tgt := 28) hx hb dX0_roll_1 (by rw [hs1]; decide) (by rw [hs1]; decide) (by rw [hs1]; rfl) (by decide) ?_
    refine lv_iload_n hx hb dX0_roll_28 rfl (lv_at hl 1 rfl) ?_
    refine lv_iconst hx hb dX0_roll_29 ic_1 ?_
    refine lv_icmp_ge (tgt := 37) hx hb dX0_roll_30 (by decide) (fun hc => ?_) (fun hc => ?_)
    · have hw := hw.1 hc
      refine lv_iload_n hx hb dX0_roll_37 rfl (lv_at hl 2 rfl) ?_
      refine lv_iload_n hx hb dX0_roll_38 rfl (lv_at hl 1 rfl) ?_
      have hz_1 := hw.1
      have hw := hw.2
      refine lv_idiv hx hb dX0_roll_39 hz_1 ?_
      refine lv_iload_n hx hb dX0_roll_40 rfl (lv_at hl 1 rfl) ?_
      refine lv_imul hx hb dX0_roll_41 ?_
      exact r_i C hP hS hw dX0_roll_42
    · have hw := hw.2 hc
      refine lv_iconst hx hb dX0_roll_33 ic_0 ?_
      refine lv_goto (tgt := 42) hx hb dX0_roll_34 (by decide) ?_
      exact r_i C hP hS hw dX0_roll_42
  · have hw := hw.2 hs1
    by_cases hs2 : v0 = 2
    · have hw := hw.1 hs2
      refine lv_tableIn (tgt := 43) hx hb dX0_roll_1 (by rw [hs2]; decide) (by rw [hs2]; decide) (by rw [hs2]; rfl) (by decide) ?_
      refine lv_iload_n hx hb dX0_roll_43 rfl (lv_at hl 2 rfl) ?_
      refine m_abs C hl.1 kX0_roll_m61 kX0_roll_ma1 kX0_roll_ma2 kX0_roll_ma3 (Nat.le_of_ble_eq_true rfl) (Nat.le_of_ble_eq_true rfl) (Nat.le_of_ble_eq_true rfl) (Nat.le_of_ble_eq_true rfl) dX0_roll_44 ?_
      refine lv_iload_n hx hb dX0_roll_47 rfl (lv_at hl 1 rfl) ?_
      refine lv_icmp_ge (tgt := 55) hx hb dX0_roll_48 (by decide) (fun hc => ?_) (fun hc => ?_)
      · have hw := hw.1 hc
        refine lv_iload_n hx hb dX0_roll_55 rfl (lv_at hl 2 rfl) ?_
        exact r_i C hP hS hw dX0_roll_56
      · have hw := hw.2 hc
        refine lv_iconst hx hb dX0_roll_51 ic_0 ?_
        refine lv_goto (tgt := 56) hx hb dX0_roll_52 (by decide) ?_
        exact r_i C hP hS hw dX0_roll_56
    · have hw := hw.2 hs2
      by_cases hs3 : v0 = 3
      · have hw := hw.1 hs3
        refine lv_tableIn (tgt := 57) hx hb dX0_roll_1 (by rw [hs3]; decide) (by rw [hs3]; decide) (by rw [hs3]; rfl) (by decide) ?_
        refine lv_iload_n hx hb dX0_roll_57 rfl (lv_at hl 2 rfl) ?_
        refine lv_iload_n hx hb dX0_roll_58 rfl (lv_at hl 1 rfl) ?_
        refine lv_icmp_ge (tgt := 66) hx hb dX0_roll_59 (by decide) (fun hc => ?_) (fun hc => ?_)
        · have hw := hw.1 hc
          refine lv_iload_n hx hb dX0_roll_66 rfl (lv_at hl 2 rfl) ?_
          exact r_i C hP hS hw dX0_roll_67
        · have hw := hw.2 hc
          refine lv_iconst hx hb dX0_roll_62 ic_0 ?_
          refine lv_goto (tgt := 67) hx hb dX0_roll_63 (by decide) ?_
          exact r_i C hP hS hw dX0_roll_67
      · have hw := hw.2 hs3
        have nhs1 : v0.toInt ≠ 1 := ne_toInt hs1
        have nhs2 : v0.toInt ≠ 2 := ne_toInt hs2
        have nhs3 : v0.toInt ≠ 3 := ne_toInt hs3
        refine lv_tableOut (tgt := 68) hx hb dX0_roll_1 (by omega) (by decide) ?_
        refine lv_iload_n hx hb dX0_roll_68 rfl (lv_at hl 2 rfl) ?_
        exact r_i C hP hS hw dX0_roll_69

theorem kX0_rollOf_f22 : Cond.fieldLink RX0 22 (TX0 3).1 (TX0 3).2.1 (TX0 3).2.2.1 ∈ wsX0_rollOf := List.mem_of_getElem? (i := 1) rfl
theorem hX0_rollOf_X0 : ∀ w ∈ u_ws RX0 TX0 10, w ∈ wsX0_rollOf := fun _ h => List.mem_cons_of_mem _ (List.mem_append_right _ (h))
theorem kX0_rollOf_f25 : Cond.fieldLink RX0 25 (TX0 4).1 (TX0 4).2.1 (TX0 4).2.2.1 ∈ wsX0_rollOf := List.mem_of_getElem? (i := 2) rfl
abbrev rmX0_rollOf : Room := { frames := 2, cells := 0, slots := 0, locals := 43 }
def q_X0_rollOf (o : Nat) (v1 : Int32) (v2 : Int32) (M : Mem) (Q : Int32 → Mem → Prop) : Prop := vp_in v1 4 ∧ vp_in v1 4 ∧ q_X0_roll (M (o + 3) v1.toNatClampNeg) (M (o + 4) v1.toNatClampNeg) v2 M (fun r_4 M_3 => Q r_4 M_3)
theorem dsX0_rollOf : yX0_rollOf.cls = RX0 ∧ yX0_rollOf.cls ≠ "java/lang/invoke/MethodHandle" ∧ yX0_rollOf.cls ≠ "java/lang/invoke/VarHandle" ∧ (parseMethodDescriptor yX0_rollOf.desc).map (fun d => d.parameters.length) = some 2 := by decide +kernel
set_option maxRecDepth 100000 in
set_option maxHeartbeats 4000000 in
theorem c_X0_rollOf {l : Launch} {K : wC} {o : Nat} {v1 : Int32} {v2 : Int32} {M : Mem} {Q : Int32 → Mem → Prop} (ho : isLay o) (hw : q_X0_rollOf o v1 v2 M Q) : metI l yX0_rollOf wsX0_rollOf rmX0_rollOf shX 51 K [.ref (kb K + o), .int v1, .int v2] M Q := by
  refine met_of (cc := cX0_rollOf) (maxL := 3) (ret := (some .int)) (own := RX0) (by decide) rfl rfl (Nat.le_of_ble_eq_true rfl) ?_
  intro p e s m below meth c ls C hl hP hS
  have hl : lv_has ls 3 [(0, .ref (kb K + o)), (1, .int v1), (2, .int v2)] := hl
  obtain ⟨hx, hb, hml, hown, hts, hr, hlk, hK⟩ := id C
  have hP0 := hP
  delta q_X0_rollOf at hw
  refine lv_aload_n hx hb dX0_rollOf_0 rfl (lv_at hl 0 rfl) ?_
  refine g_f C hP (layb0 ho) (lay0 ho K _) rfl hX0_rollOf_X0 3 (by decide) kX0_rollOf_f22 rfl dX0_rollOf_1 ?_
  refine lv_iload_n hx hb dX0_rollOf_4 rfl (lv_at hl 1 rfl) ?_
  have hi_1 := hw.1
  have hw := hw.2
  refine a_il C hP (layb ho 3 (by decide)) (lay3 ho K _) hi_1 rfl dX0_rollOf_5 ?_
  refine lv_aload_n hx hb dX0_rollOf_6 rfl (lv_at hl 0 rfl) ?_
  refine g_f C hP (layb0 ho) (lay0 ho K _) rfl hX0_rollOf_X0 4 (by decide) kX0_rollOf_f25 rfl dX0_rollOf_7 ?_
  refine lv_iload_n hx hb dX0_rollOf_10 rfl (lv_at hl 1 rfl) ?_
  have hi_2 := hw.1
  have hw := hw.2
  refine a_il C hP (layb ho 4 (by decide)) (lay4 ho K _) hi_2 rfl dX0_rollOf_11 ?_
  refine lv_iload_n hx hb dX0_rollOf_12 rfl (lv_at hl 2 rfl) ?_
  refine c_i (run_s (As := [.int (M (o + 3) v1.toNatClampNeg), .int (M (o + 4) v1.toNatClampNeg), .int v2]) (rest := []) C hP hS (c_X0_roll hw) gX0_rollOf_X0_roll rfl dsX0_roll rfl ⟨rfl, rfl⟩ ⟨Nat.le_of_ble_eq_true rfl, Nat.le_of_ble_eq_true rfl⟩ hl.1 rfl (Nat.le_of_ble_eq_true rfl) dX0_rollOf_13 ⟨Nat.le_of_ble_eq_true rfl, Nat.le_of_ble_eq_true rfl⟩) hS (fun r_4 M_3 H locs hw hP hS => ?_)
  exact r_i C hP hS hw dX0_rollOf_16

theorem kX0_rolledByAll_f31 : Cond.fieldLink RX0 31 (TX0 6).1 (TX0 6).2.1 (TX0 6).2.2.1 ∈ wsX0_rolledByAll := List.mem_of_getElem? (i := 1) rfl
theorem hX0_rolledByAll_X0 : ∀ w ∈ u_ws RX0 TX0 10, w ∈ wsX0_rolledByAll := fun _ h => List.mem_cons_of_mem _ (List.mem_append_right _ (h))
theorem kX0_rolledByAll_m61 : Cond.methodLink RX0 61 Lib.Math.abs.name ∈ wsX0_rolledByAll := List.mem_of_getElem? (i := 2) rfl
theorem kX0_rolledByAll_ma1 : Cond.static Lib.Math.abs.name ∈ wsX0_rolledByAll := List.mem_of_getElem? (i := 3) rfl
theorem kX0_rolledByAll_ma2 : Cond.initialized "java/lang/Math" ∈ wsX0_rolledByAll := List.mem_of_getElem? (i := 4) rfl
theorem kX0_rolledByAll_ma3 : Cond.code Lib.Math.abs.name Lib.Math.abs.code 1 (some .int) ∈ wsX0_rolledByAll := List.mem_of_getElem? (i := 5) rfl
abbrev rmX0_rolledByAll : Room := { frames := 3, cells := 0, slots := 0, locals := 65 }
abbrev t_X0_rolledByAll : Type := (Int32 → Int32 → Int32 → Mem → Prop)
def f_X0_rolledByAll_4 (o : Nat) (Q : Int32 → Mem → Prop) (r : t_X0_rolledByAll) (v1 : Int32) (v2 : Int32) (v3 : Int32) (M : Mem) : Prop := (((M o 6) ≤ v3 → Q v2 M) ∧ (¬ (M o 6) ≤ v3 → q_X0_rollOf o v3 v1 M (fun r_2 M_1 => r v1 (v2 + (iabs r_2)) (v3 + 1) M_1)))
def p_X0_rolledByAll (o : Nat) (Q : Int32 → Mem → Prop) : Nat → t_X0_rolledByAll
  | 0 => fun _ _ _ _ => False
  | n + 1 => f_X0_rolledByAll_4 o Q (p_X0_rolledByAll o Q n)
def e_X0_rolledByAll (o : Nat) (v1 : Int32) (Q : Int32 → Mem → Prop) (r : t_X0_rolledByAll) (M : Mem) : Prop := r v1 (0 : Int32) (0 : Int32) M
def q_X0_rolledByAll (o : Nat) (v1 : Int32) (M : Mem) (Q : Int32 → Mem → Prop) : Prop := ∃ n : Nat, e_X0_rolledByAll o v1 Q (p_X0_rolledByAll o Q n) M
set_option maxRecDepth 100000 in
set_option maxHeartbeats 4000000 in
theorem b_X0_rolledByAll {l : Launch} {K : wC} {o : Nat} {Q : Int32 → Mem → Prop} {p : Program} {e : Env} {s : State} {m : MethodId} {args : Array Value} {below : List Frame} {meth : Method} {c : Code} (ho : isLay o) (C : cx 51 K p s m args meth c cX0_rolledByAll 4 wsX0_rolledByAll RX0 (some .int)) : ∀ n : Nat, (∀ (v1 : Int32) (v2 : Int32) (v3 : Int32) (M : Mem) (H : Heap) (locs : List Loc) (ls : Array Slot), (p_X0_rolledByAll o Q n) v1 v2 v3 M → wP shX 51 K M H → va_S (wA 51 K) s.heap H locs → lv_has ls 4 [(0, .ref (kb K + o)), (1, .int v1), (2, .int v2), (3, .int v3)] → W p l e rmX0_rolledByAll s m args below meth c H locs 0 0 (MQ below (va_Qi Q (wE shX 51 K) (wA 51 K)) args s 0 0 (wA 51 K)) (F0 m 4 ls [])) := by
  obtain ⟨hx, hb, hml, hown, hts, hr, hlk, hK⟩ := id C
  intro n
  induction n with
  | zero => exact fun _ _ _ _ _ _ _ hw _ _ _ => False.elim hw
  | succ n ih =>
    intro v1 v2 v3 M H locs ls hw hP hS hl
    have hw : f_X0_rolledByAll_4 o Q (p_X0_rolledByAll o Q n) v1 v2 v3 M := hw
    delta f_X0_rolledByAll_4 at hw
    refine lv_iload_n hx hb dX0_rolledByAll_4 rfl (lv_at hl 3 rfl) ?_
    refine lv_aload_n hx hb dX0_rolledByAll_5 rfl (lv_at hl 0 rfl) ?_
    refine g_f C hP (layb0 ho) (lay0 ho K _) rfl hX0_rolledByAll_X0 6 (by decide) kX0_rolledByAll_f31 rfl dX0_rolledByAll_6 ?_
    refine lv_icmp_ge (tgt := 30) hx hb dX0_rolledByAll_9 (by decide) (fun hc => ?_) (fun hc => ?_)
    · have hw := hw.1 hc
      refine lv_iload_n hx hb dX0_rolledByAll_30 rfl (lv_at hl 2 rfl) ?_
      exact r_i C hP hS hw dX0_rolledByAll_31
    · have hw := hw.2 hc
      refine lv_iload_n hx hb dX0_rolledByAll_12 rfl (lv_at hl 2 rfl) ?_
      refine lv_aload_n hx hb dX0_rolledByAll_13 rfl (lv_at hl 0 rfl) ?_
      refine lv_iload_n hx hb dX0_rolledByAll_14 rfl (lv_at hl 3 rfl) ?_
      refine lv_iload_n hx hb dX0_rolledByAll_15 rfl (lv_at hl 1 rfl) ?_
      refine c_i (run_v (As := [.int v3, .int v1]) (rest := [.int v2]) C hP hS (c_X0_rollOf ho hw) gX0_rolledByAll_X0_rollOf rfl dsX0_rollOf rfl ⟨rfl, rfl⟩ ⟨Nat.le_of_ble_eq_true rfl, Nat.le_of_ble_eq_true rfl⟩ (layb0 ho) (lay0 ho K _) rfl hl.1 rfl (Nat.le_of_ble_eq_true rfl) dX0_rolledByAll_16 ⟨Nat.le_of_ble_eq_true rfl, Nat.le_of_ble_eq_true rfl⟩) hS (fun r_2 M_1 H locs hw hP hS => ?_)
      refine m_abs C hl.1 kX0_rolledByAll_m61 kX0_rolledByAll_ma1 kX0_rolledByAll_ma2 kX0_rolledByAll_ma3 (Nat.le_of_ble_eq_true rfl) (Nat.le_of_ble_eq_true rfl) (Nat.le_of_ble_eq_true rfl) (Nat.le_of_ble_eq_true rfl) dX0_rolledByAll_19 ?_
      refine lv_iadd hx hb dX0_rolledByAll_22 ?_
      refine lv_istore_n (lv' := [(2, .int (v2 + (iabs r_2))), (0, .ref (kb K + o)), (1, .int v1), (3, .int v3)]) hx hb dX0_rolledByAll_23 rfl hl (by decide) rfl (fun ls hl => ?_)
      refine lv_iinc (v := (v3 + 1)) (lv' := [(3, .int (v3 + 1)), (2, .int (v2 + (iabs r_2))), (0, .ref (kb K + o)), (1, .int v1)]) hx hb dX0_rolledByAll_24 hl (k := 3) rfl (by rw [ic_1]) (by decide) rfl (fun ls hl => ?_)
      refine lv_goto (tgt := 4) hx hb dX0_rolledByAll_27 (by decide) ?_
      exact ih _ _ _ _ _ _ _ hw hP hS (lv_sub hl [2, 3, 1, 0] rfl)
theorem dsX0_rolledByAll : yX0_rolledByAll.cls = RX0 ∧ yX0_rolledByAll.cls ≠ "java/lang/invoke/MethodHandle" ∧ yX0_rolledByAll.cls ≠ "java/lang/invoke/VarHandle" ∧ (parseMethodDescriptor yX0_rolledByAll.desc).map (fun d => d.parameters.length) = some 1 := by decide +kernel
set_option maxRecDepth 100000 in
set_option maxHeartbeats 4000000 in
theorem c_X0_rolledByAll {l : Launch} {K : wC} {o : Nat} {v1 : Int32} {M : Mem} {Q : Int32 → Mem → Prop} (ho : isLay o) (hw : q_X0_rolledByAll o v1 M Q) : metI l yX0_rolledByAll wsX0_rolledByAll rmX0_rolledByAll shX 51 K [.ref (kb K + o), .int v1] M Q := by
  refine met_of (cc := cX0_rolledByAll) (maxL := 4) (ret := (some .int)) (own := RX0) (by decide) rfl rfl (Nat.le_of_ble_eq_true rfl) ?_
  intro p e s m below meth c ls C hl hP hS
  have hl : lv_has ls 4 [(0, .ref (kb K + o)), (1, .int v1)] := hl
  obtain ⟨hx, hb, hml, hown, hts, hr, hlk, hK⟩ := id C
  have hP0 := hP
  obtain ⟨n, hw⟩ := hw
  have ih := b_X0_rolledByAll (l := l) (e := e) (below := below) (Q := Q) ho C n
  delta e_X0_rolledByAll at hw
  refine lv_iconst hx hb dX0_rolledByAll_0 ic_0 ?_
  refine lv_istore_n (lv' := [(2, .int (0 : Int32)), (0, .ref (kb K + o)), (1, .int v1)]) hx hb dX0_rolledByAll_1 rfl hl (by decide) rfl (fun ls hl => ?_)
  refine lv_iconst hx hb dX0_rolledByAll_2 ic_0 ?_
  refine lv_istore_n (lv' := [(3, .int (0 : Int32)), (2, .int (0 : Int32)), (0, .ref (kb K + o)), (1, .int v1)]) hx hb dX0_rolledByAll_3 rfl hl (by decide) rfl (fun ls hl => ?_)
  exact ih _ _ _ _ _ _ _ hw hP hS (lv_sub hl [2, 3, 1, 0] rfl)

theorem kX0_rollAll_f31 : Cond.fieldLink RX0 31 (TX0 6).1 (TX0 6).2.1 (TX0 6).2.2.1 ∈ wsX0_rollAll := List.mem_of_getElem? (i := 1) rfl
theorem hX0_rollAll_X0 : ∀ w ∈ u_ws RX0 TX0 10, w ∈ wsX0_rollAll := fun _ h => List.mem_cons_of_mem _ (List.mem_append_right _ (h))
theorem kX0_rollAll_f28 : Cond.fieldLink RX0 28 (TX0 5).1 (TX0 5).2.1 (TX0 5).2.2.1 ∈ wsX0_rollAll := List.mem_of_getElem? (i := 2) rfl
abbrev rmX0_rollAll : Room := { frames := 4, cells := 0, slots := 0, locals := 88 }
abbrev t_X0_rollAll : Type := (Int32 → Int32 → Mem → Prop)
def f_X0_rollAll_2 (o : Nat) (Q : Int32 → Mem → Prop) (r : t_X0_rollAll) (v1 : Int32) (v2 : Int32) (M : Mem) : Prop := (((M o 6) ≤ v2 → q_X0_rolledByAll o v1 M (fun r_2 M_1 => Q r_2 M_1)) ∧ (¬ (M o 6) ≤ v2 → vp_in v2 4 ∧ q_X0_rollOf o v2 v1 M (fun r_5 M_4 => vp_in v2 4 ∧ r v1 (v2 + 1) (mU M_4 (o + 5) v2.toNatClampNeg ((M (o + 5) v2.toNatClampNeg) + r_5)))))
def p_X0_rollAll (o : Nat) (Q : Int32 → Mem → Prop) : Nat → t_X0_rollAll
  | 0 => fun _ _ _ => False
  | n + 1 => f_X0_rollAll_2 o Q (p_X0_rollAll o Q n)
def e_X0_rollAll (o : Nat) (v1 : Int32) (Q : Int32 → Mem → Prop) (r : t_X0_rollAll) (M : Mem) : Prop := r v1 (0 : Int32) M
def q_X0_rollAll (o : Nat) (v1 : Int32) (M : Mem) (Q : Int32 → Mem → Prop) : Prop := ∃ n : Nat, e_X0_rollAll o v1 Q (p_X0_rollAll o Q n) M
set_option maxRecDepth 100000 in
set_option maxHeartbeats 4000000 in
theorem b_X0_rollAll {l : Launch} {K : wC} {o : Nat} {Q : Int32 → Mem → Prop} {p : Program} {e : Env} {s : State} {m : MethodId} {args : Array Value} {below : List Frame} {meth : Method} {c : Code} (ho : isLay o) (C : cx 51 K p s m args meth c cX0_rollAll 3 wsX0_rollAll RX0 (some .int)) : ∀ n : Nat, (∀ (v1 : Int32) (v2 : Int32) (M : Mem) (H : Heap) (locs : List Loc) (ls : Array Slot), (p_X0_rollAll o Q n) v1 v2 M → wP shX 51 K M H → va_S (wA 51 K) s.heap H locs → lv_has ls 3 [(0, .ref (kb K + o)), (1, .int v1), (2, .int v2)] → W p l e rmX0_rollAll s m args below meth c H locs 0 0 (MQ below (va_Qi Q (wE shX 51 K) (wA 51 K)) args s 0 0 (wA 51 K)) (F0 m 2 ls [])) := by
  obtain ⟨hx, hb, hml, hown, hts, hr, hlk, hK⟩ := id C
  intro n
  induction n with
  | zero => exact fun _ _ _ _ _ _ hw _ _ _ => False.elim hw
  | succ n ih =>
    intro v1 v2 M H locs ls hw hP hS hl
    have hw : f_X0_rollAll_2 o Q (p_X0_rollAll o Q n) v1 v2 M := hw
    delta f_X0_rollAll_2 at hw
    refine lv_iload_n hx hb dX0_rollAll_2 rfl (lv_at hl 2 rfl) ?_
    refine lv_aload_n hx hb dX0_rollAll_3 rfl (lv_at hl 0 rfl) ?_
    refine g_f C hP (layb0 ho) (lay0 ho K _) rfl hX0_rollAll_X0 6 (by decide) kX0_rollAll_f31 rfl dX0_rollAll_4 ?_
    refine lv_icmp_ge (tgt := 31) hx hb dX0_rollAll_7 (by decide) (fun hc => ?_) (fun hc => ?_)
    · have hw := hw.1 hc
      refine lv_aload_n hx hb dX0_rollAll_31 rfl (lv_at hl 0 rfl) ?_
      refine lv_iload_n hx hb dX0_rollAll_32 rfl (lv_at hl 1 rfl) ?_
      refine c_i (run_v (As := [.int v1]) (rest := []) C hP hS (c_X0_rolledByAll ho hw) gX0_rollAll_X0_rolledByAll rfl dsX0_rolledByAll rfl ⟨rfl, rfl⟩ ⟨Nat.le_of_ble_eq_true rfl, Nat.le_of_ble_eq_true rfl⟩ (layb0 ho) (lay0 ho K _) rfl hl.1 rfl (Nat.le_of_ble_eq_true rfl) dX0_rollAll_33 ⟨Nat.le_of_ble_eq_true rfl, Nat.le_of_ble_eq_true rfl⟩) hS (fun r_2 M_1 H locs hw hP hS => ?_)
      exact r_i C hP hS hw dX0_rollAll_36
    · have hw := hw.2 hc
      refine lv_aload_n hx hb dX0_rollAll_10 rfl (lv_at hl 0 rfl) ?_
      refine g_f C hP (layb0 ho) (lay0 ho K _) rfl hX0_rollAll_X0 5 (by decide) kX0_rollAll_f28 rfl dX0_rollAll_11 ?_
      refine lv_iload_n hx hb dX0_rollAll_14 rfl (lv_at hl 2 rfl) ?_
      refine lv_dup2_11 hx hb dX0_rollAll_15 rfl rfl ?_
      have hi_3 := hw.1
      have hw := hw.2
      refine a_il C hP (layb ho 5 (by decide)) (lay5 ho K _) hi_3 rfl dX0_rollAll_16 ?_
      refine lv_aload_n hx hb dX0_rollAll_17 rfl (lv_at hl 0 rfl) ?_
      refine lv_iload_n hx hb dX0_rollAll_18 rfl (lv_at hl 2 rfl) ?_
      refine lv_iload_n hx hb dX0_rollAll_19 rfl (lv_at hl 1 rfl) ?_
      refine c_i (run_v (As := [.int v2, .int v1]) (rest := [.int (M (o + 5) v2.toNatClampNeg), .int v2, .ref (kb K + (o + 5))]) C hP hS (c_X0_rollOf ho hw) gX0_rollAll_X0_rollOf rfl dsX0_rollOf rfl ⟨rfl, rfl⟩ ⟨Nat.le_of_ble_eq_true rfl, Nat.le_of_ble_eq_true rfl⟩ (layb0 ho) (lay0 ho K _) rfl hl.1 rfl (Nat.le_of_ble_eq_true rfl) dX0_rollAll_20 ⟨Nat.le_of_ble_eq_true rfl, Nat.le_of_ble_eq_true rfl⟩) hS (fun r_5 M_4 H locs hw hP hS => ?_)
      refine lv_iadd hx hb dX0_rollAll_23 ?_
      have hi_6 := hw.1
      have hw := hw.2
      refine a_is C hP hS (layb ho 5 (by decide)) (lay5 ho K) hi_6 rfl dX0_rollAll_24 (fun H locs hP hS => ?_)
      refine lv_iinc (v := (v2 + 1)) (lv' := [(2, .int (v2 + 1)), (0, .ref (kb K + o)), (1, .int v1)]) hx hb dX0_rollAll_25 hl (k := 2) rfl (by rw [ic_1]) (by decide) rfl (fun ls hl => ?_)
      refine lv_goto (tgt := 2) hx hb dX0_rollAll_28 (by decide) ?_
      exact ih _ _ _ _ _ _ hw hP hS (lv_sub hl [1, 2, 0] rfl)
theorem dsX0_rollAll : yX0_rollAll.cls = RX0 ∧ yX0_rollAll.cls ≠ "java/lang/invoke/MethodHandle" ∧ yX0_rollAll.cls ≠ "java/lang/invoke/VarHandle" ∧ (parseMethodDescriptor yX0_rollAll.desc).map (fun d => d.parameters.length) = some 1 := by decide +kernel
set_option maxRecDepth 100000 in
set_option maxHeartbeats 4000000 in
theorem c_X0_rollAll {l : Launch} {K : wC} {o : Nat} {v1 : Int32} {M : Mem} {Q : Int32 → Mem → Prop} (ho : isLay o) (hw : q_X0_rollAll o v1 M Q) : metI l yX0_rollAll wsX0_rollAll rmX0_rollAll shX 51 K [.ref (kb K + o), .int v1] M Q := by
  refine met_of (cc := cX0_rollAll) (maxL := 3) (ret := (some .int)) (own := RX0) (by decide) rfl rfl (Nat.le_of_ble_eq_true rfl) ?_
  intro p e s m below meth c ls C hl hP hS
  have hl : lv_has ls 3 [(0, .ref (kb K + o)), (1, .int v1)] := hl
  obtain ⟨hx, hb, hml, hown, hts, hr, hlk, hK⟩ := id C
  have hP0 := hP
  obtain ⟨n, hw⟩ := hw
  have ih := b_X0_rollAll (l := l) (e := e) (below := below) (Q := Q) ho C n
  delta e_X0_rollAll at hw
  refine lv_iconst hx hb dX0_rollAll_0 ic_0 ?_
  refine lv_istore_n (lv' := [(2, .int (0 : Int32)), (0, .ref (kb K + o)), (1, .int v1)]) hx hb dX0_rollAll_1 rfl hl (by decide) rfl (fun ls hl => ?_)
  exact ih _ _ _ _ _ _ hw hP hS (lv_sub hl [1, 2, 0] rfl)

theorem kX0_someWheelRests_f31 : Cond.fieldLink RX0 31 (TX0 6).1 (TX0 6).2.1 (TX0 6).2.2.1 ∈ wsX0_someWheelRests := List.mem_of_getElem? (i := 1) rfl
theorem hX0_someWheelRests_X0 : ∀ w ∈ u_ws RX0 TX0 10, w ∈ wsX0_someWheelRests := fun _ h => List.mem_cons_of_mem _ (List.mem_append_right _ (h))
abbrev rmX0_someWheelRests : Room := { frames := 3, cells := 0, slots := 0, locals := 65 }
abbrev t_X0_someWheelRests : Type := (Int32 → Int32 → Mem → Prop)
def f_X0_someWheelRests_2 (o : Nat) (Q : Int32 → Mem → Prop) (r : t_X0_someWheelRests) (v1 : Int32) (v2 : Int32) (M : Mem) : Prop := (((M o 6) ≤ v2 → Q (0 : Int32) M) ∧ (¬ (M o 6) ≤ v2 → q_X0_rollOf o v2 v1 M (fun r_2 M_1 => ((¬ r_2 = 0 → r v1 (v2 + 1) M_1) ∧ (r_2 = 0 → Q (1 : Int32) M_1)))))
def p_X0_someWheelRests (o : Nat) (Q : Int32 → Mem → Prop) : Nat → t_X0_someWheelRests
  | 0 => fun _ _ _ => False
  | n + 1 => f_X0_someWheelRests_2 o Q (p_X0_someWheelRests o Q n)
def e_X0_someWheelRests (o : Nat) (v1 : Int32) (Q : Int32 → Mem → Prop) (r : t_X0_someWheelRests) (M : Mem) : Prop := r v1 (0 : Int32) M
def q_X0_someWheelRests (o : Nat) (v1 : Int32) (M : Mem) (Q : Int32 → Mem → Prop) : Prop := ∃ n : Nat, e_X0_someWheelRests o v1 Q (p_X0_someWheelRests o Q n) M
set_option maxRecDepth 100000 in
set_option maxHeartbeats 4000000 in
theorem b_X0_someWheelRests {l : Launch} {K : wC} {o : Nat} {Q : Int32 → Mem → Prop} {p : Program} {e : Env} {s : State} {m : MethodId} {args : Array Value} {below : List Frame} {meth : Method} {c : Code} (ho : isLay o) (C : cx 51 K p s m args meth c cX0_someWheelRests 3 wsX0_someWheelRests RX0 (some .boolean)) : ∀ n : Nat, (∀ (v1 : Int32) (v2 : Int32) (M : Mem) (H : Heap) (locs : List Loc) (ls : Array Slot), (p_X0_someWheelRests o Q n) v1 v2 M → wP shX 51 K M H → va_S (wA 51 K) s.heap H locs → lv_has ls 3 [(0, .ref (kb K + o)), (1, .int v1), (2, .int v2)] → W p l e rmX0_someWheelRests s m args below meth c H locs 0 0 (MQ below (va_Qi Q (wE shX 51 K) (wA 51 K)) args s 0 0 (wA 51 K)) (F0 m 2 ls [])) := by
  obtain ⟨hx, hb, hml, hown, hts, hr, hlk, hK⟩ := id C
  intro n
  induction n with
  | zero => exact fun _ _ _ _ _ _ hw _ _ _ => False.elim hw
  | succ n ih =>
    intro v1 v2 M H locs ls hw hP hS hl
    have hw : f_X0_someWheelRests_2 o Q (p_X0_someWheelRests o Q n) v1 v2 M := hw
    delta f_X0_someWheelRests_2 at hw
    refine lv_iload_n hx hb dX0_someWheelRests_2 rfl (lv_at hl 2 rfl) ?_
    refine lv_aload_n hx hb dX0_someWheelRests_3 rfl (lv_at hl 0 rfl) ?_
    refine g_f C hP (layb0 ho) (lay0 ho K _) rfl hX0_someWheelRests_X0 6 (by decide) kX0_someWheelRests_f31 rfl dX0_someWheelRests_4 ?_
    refine lv_icmp_ge (tgt := 27) hx hb dX0_someWheelRests_7 (by decide) (fun hc => ?_) (fun hc => ?_)
    · have hw := hw.1 hc
      refine lv_iconst hx hb dX0_someWheelRests_27 ic_0 ?_
      exact r_z C (by decide) hP hS hw dX0_someWheelRests_28
    · have hw := hw.2 hc
      refine lv_aload_n hx hb dX0_someWheelRests_10 rfl (lv_at hl 0 rfl) ?_
      refine lv_iload_n hx hb dX0_someWheelRests_11 rfl (lv_at hl 2 rfl) ?_
      refine lv_iload_n hx hb dX0_someWheelRests_12 rfl (lv_at hl 1 rfl) ?_
      refine c_i (run_v (As := [.int v2, .int v1]) (rest := []) C hP hS (c_X0_rollOf ho hw) gX0_someWheelRests_X0_rollOf rfl dsX0_rollOf rfl ⟨rfl, rfl⟩ ⟨Nat.le_of_ble_eq_true rfl, Nat.le_of_ble_eq_true rfl⟩ (layb0 ho) (lay0 ho K _) rfl hl.1 rfl (Nat.le_of_ble_eq_true rfl) dX0_someWheelRests_13 ⟨Nat.le_of_ble_eq_true rfl, Nat.le_of_ble_eq_true rfl⟩) hS (fun r_2 M_1 H locs hw hP hS => ?_)
      refine lv_if_ne (tgt := 21) hx hb dX0_someWheelRests_16 (by decide) (fun hc => ?_) (fun hc => ?_)
      · have hw := hw.1 hc
        refine lv_iinc (v := (v2 + 1)) (lv' := [(2, .int (v2 + 1)), (0, .ref (kb K + o)), (1, .int v1)]) hx hb dX0_someWheelRests_21 hl (k := 2) rfl (by rw [ic_1]) (by decide) rfl (fun ls hl => ?_)
        refine lv_goto (tgt := 2) hx hb dX0_someWheelRests_24 (by decide) ?_
        exact ih _ _ _ _ _ _ hw hP hS (lv_sub hl [1, 2, 0] rfl)
      · have hw := hw.2 hc
        refine lv_iconst hx hb dX0_someWheelRests_19 ic_1 ?_
        exact r_z C (by decide) hP hS hw dX0_someWheelRests_20
theorem dsX0_someWheelRests : yX0_someWheelRests.cls = RX0 ∧ yX0_someWheelRests.cls ≠ "java/lang/invoke/MethodHandle" ∧ yX0_someWheelRests.cls ≠ "java/lang/invoke/VarHandle" ∧ (parseMethodDescriptor yX0_someWheelRests.desc).map (fun d => d.parameters.length) = some 1 := by decide +kernel
set_option maxRecDepth 100000 in
set_option maxHeartbeats 4000000 in
theorem c_X0_someWheelRests {l : Launch} {K : wC} {o : Nat} {v1 : Int32} {M : Mem} {Q : Int32 → Mem → Prop} (ho : isLay o) (hw : q_X0_someWheelRests o v1 M Q) : metI l yX0_someWheelRests wsX0_someWheelRests rmX0_someWheelRests shX 51 K [.ref (kb K + o), .int v1] M Q := by
  refine met_of (cc := cX0_someWheelRests) (maxL := 3) (ret := (some .boolean)) (own := RX0) (by decide) rfl rfl (Nat.le_of_ble_eq_true rfl) ?_
  intro p e s m below meth c ls C hl hP hS
  have hl : lv_has ls 3 [(0, .ref (kb K + o)), (1, .int v1)] := hl
  obtain ⟨hx, hb, hml, hown, hts, hr, hlk, hK⟩ := id C
  have hP0 := hP
  obtain ⟨n, hw⟩ := hw
  have ih := b_X0_someWheelRests (l := l) (e := e) (below := below) (Q := Q) ho C n
  delta e_X0_someWheelRests at hw
  refine lv_iconst hx hb dX0_someWheelRests_0 ic_0 ?_
  refine lv_istore_n (lv' := [(2, .int (0 : Int32)), (0, .ref (kb K + o)), (1, .int v1)]) hx hb dX0_someWheelRests_1 rfl hl (by decide) rfl (fun ls hl => ?_)
  exact ih _ _ _ _ _ _ hw hP hS (lv_sub hl [1, 2, 0] rfl)

theorem kX0_readsAhead_f28 : Cond.fieldLink RX0 28 (TX0 5).1 (TX0 5).2.1 (TX0 5).2.2.1 ∈ wsX0_readsAhead := List.mem_of_getElem? (i := 1) rfl
theorem hX0_readsAhead_X0 : ∀ w ∈ u_ws RX0 TX0 10, w ∈ wsX0_readsAhead := fun _ h => List.mem_cons_of_mem _ (List.mem_append_right _ (h))
abbrev rmX0_readsAhead : Room := { frames := 3, cells := 0, slots := 0, locals := 65 }
abbrev t_X0_readsAhead : Type := (Int32 → Int32 → Int32 → Int32 → Mem → Prop)
def f_X0_readsAhead_10 (o : Nat) (Q : Int32 → Mem → Prop) (r : t_X0_readsAhead) (v1 : Int32) (v2 : Int32) (v3 : Int32) (v4 : Int32) (M : Mem) : Prop := ((v2 ≤ v4 → Q v3 M) ∧ (¬ v2 ≤ v4 → q_X0_sweepAhead o v4 M (fun r_4 M_3 => q_X0_rollOf o v1 r_4 M_3 (fun r_6 M_5 => r v1 v2 (v3 + r_6) (v4 + 1) M_5))))
def p_X0_readsAhead (o : Nat) (Q : Int32 → Mem → Prop) : Nat → t_X0_readsAhead
  | 0 => fun _ _ _ _ _ => False
  | n + 1 => f_X0_readsAhead_10 o Q (p_X0_readsAhead o Q n)
def e_X0_readsAhead (o : Nat) (v1 : Int32) (v2 : Int32) (Q : Int32 → Mem → Prop) (r : t_X0_readsAhead) (M : Mem) : Prop := vp_in v1 4 ∧ (∀ x_2 : Int32, x_2 = (M (o + 5) v1.toNatClampNeg) → r v1 v2 x_2 (0 : Int32) M)
def q_X0_readsAhead (o : Nat) (v1 : Int32) (v2 : Int32) (M : Mem) (Q : Int32 → Mem → Prop) : Prop := ∃ n : Nat, e_X0_readsAhead o v1 v2 Q (p_X0_readsAhead o Q n) M
set_option maxRecDepth 100000 in
set_option maxHeartbeats 4000000 in
theorem b_X0_readsAhead {l : Launch} {K : wC} {o : Nat} {Q : Int32 → Mem → Prop} {p : Program} {e : Env} {s : State} {m : MethodId} {args : Array Value} {below : List Frame} {meth : Method} {c : Code} (ho : isLay o) (C : cx 51 K p s m args meth c cX0_readsAhead 5 wsX0_readsAhead RX0 (some .int)) : ∀ n : Nat, (∀ (v1 : Int32) (v2 : Int32) (v3 : Int32) (v4 : Int32) (M : Mem) (H : Heap) (locs : List Loc) (ls : Array Slot), (p_X0_readsAhead o Q n) v1 v2 v3 v4 M → wP shX 51 K M H → va_S (wA 51 K) s.heap H locs → lv_has ls 5 [(0, .ref (kb K + o)), (1, .int v1), (2, .int v2), (3, .int v3), (4, .int v4)] → W p l e rmX0_readsAhead s m args below meth c H locs 0 0 (MQ below (va_Qi Q (wE shX 51 K) (wA 51 K)) args s 0 0 (wA 51 K)) (F0 m 10 ls [])) := by
  obtain ⟨hx, hb, hml, hown, hts, hr, hlk, hK⟩ := id C
  intro n
  induction n with
  | zero => exact fun _ _ _ _ _ _ _ _ hw _ _ _ => False.elim hw
  | succ n ih =>
    intro v1 v2 v3 v4 M H locs ls hw hP hS hl
    have hw : f_X0_readsAhead_10 o Q (p_X0_readsAhead o Q n) v1 v2 v3 v4 M := hw
    delta f_X0_readsAhead_10 at hw
    refine lv_iload hx hb dX0_readsAhead_10 (lv_at hl 4 rfl) ?_
    refine lv_iload_n hx hb dX0_readsAhead_12 rfl (lv_at hl 2 rfl) ?_
    refine lv_icmp_ge (tgt := 36) hx hb dX0_readsAhead_13 (by decide) (fun hc => ?_) (fun hc => ?_)
    · have hw := hw.1 hc
      refine lv_iload_n hx hb dX0_readsAhead_36 rfl (lv_at hl 3 rfl) ?_
      exact r_i C hP hS hw dX0_readsAhead_37
    · have hw := hw.2 hc
      refine lv_iload_n hx hb dX0_readsAhead_16 rfl (lv_at hl 3 rfl) ?_
      refine lv_aload_n hx hb dX0_readsAhead_17 rfl (lv_at hl 0 rfl) ?_
      refine lv_iload_n hx hb dX0_readsAhead_18 rfl (lv_at hl 1 rfl) ?_
      refine lv_aload_n hx hb dX0_readsAhead_19 rfl (lv_at hl 0 rfl) ?_
      refine lv_iload hx hb dX0_readsAhead_20 (lv_at hl 4 rfl) ?_
      refine c_i (run_v (As := [.int v4]) (rest := [.int v1, .ref (kb K + o), .int v3]) C hP hS (c_X0_sweepAhead ho hw) gX0_readsAhead_X0_sweepAhead rfl dsX0_sweepAhead rfl ⟨rfl, rfl⟩ ⟨Nat.le_of_ble_eq_true rfl, Nat.le_of_ble_eq_true rfl⟩ (layb0 ho) (lay0 ho K _) rfl hl.1 rfl (Nat.le_of_ble_eq_true rfl) dX0_readsAhead_22 ⟨Nat.le_of_ble_eq_true rfl, Nat.le_of_ble_eq_true rfl⟩) hS (fun r_4 M_3 H locs hw hP hS => ?_)
      refine c_i (run_v (As := [.int v1, .int r_4]) (rest := [.int v3]) C hP hS (c_X0_rollOf ho hw) gX0_readsAhead_X0_rollOf rfl dsX0_rollOf rfl ⟨rfl, rfl⟩ ⟨Nat.le_of_ble_eq_true rfl, Nat.le_of_ble_eq_true rfl⟩ (layb0 ho) (lay0 ho K _) rfl hl.1 rfl (Nat.le_of_ble_eq_true rfl) dX0_readsAhead_25 ⟨Nat.le_of_ble_eq_true rfl, Nat.le_of_ble_eq_true rfl⟩) hS (fun r_6 M_5 H locs hw hP hS => ?_)
      refine lv_iadd hx hb dX0_readsAhead_28 ?_
      refine lv_istore_n (lv' := [(3, .int (v3 + r_6)), (0, .ref (kb K + o)), (1, .int v1), (2, .int v2), (4, .int v4)]) hx hb dX0_readsAhead_29 rfl hl (by decide) rfl (fun ls hl => ?_)
      refine lv_iinc (v := (v4 + 1)) (lv' := [(4, .int (v4 + 1)), (3, .int (v3 + r_6)), (0, .ref (kb K + o)), (1, .int v1), (2, .int v2)]) hx hb dX0_readsAhead_30 hl (k := 4) rfl (by rw [ic_1]) (by decide) rfl (fun ls hl => ?_)
      refine lv_goto (tgt := 10) hx hb dX0_readsAhead_33 (by decide) ?_
      exact ih _ _ _ _ _ _ _ _ hw hP hS (lv_sub hl [2, 3, 4, 1, 0] rfl)
theorem dsX0_readsAhead : yX0_readsAhead.cls = RX0 ∧ yX0_readsAhead.cls ≠ "java/lang/invoke/MethodHandle" ∧ yX0_readsAhead.cls ≠ "java/lang/invoke/VarHandle" ∧ (parseMethodDescriptor yX0_readsAhead.desc).map (fun d => d.parameters.length) = some 2 := by decide +kernel
set_option maxRecDepth 100000 in
set_option maxHeartbeats 4000000 in
theorem c_X0_readsAhead {l : Launch} {K : wC} {o : Nat} {v1 : Int32} {v2 : Int32} {M : Mem} {Q : Int32 → Mem → Prop} (ho : isLay o) (hw : q_X0_readsAhead o v1 v2 M Q) : metI l yX0_readsAhead wsX0_readsAhead rmX0_readsAhead shX 51 K [.ref (kb K + o), .int v1, .int v2] M Q := by
  refine met_of (cc := cX0_readsAhead) (maxL := 5) (ret := (some .int)) (own := RX0) (by decide) rfl rfl (Nat.le_of_ble_eq_true rfl) ?_
  intro p e s m below meth c ls C hl hP hS
  have hl : lv_has ls 5 [(0, .ref (kb K + o)), (1, .int v1), (2, .int v2)] := hl
  obtain ⟨hx, hb, hml, hown, hts, hr, hlk, hK⟩ := id C
  have hP0 := hP
  obtain ⟨n, hw⟩ := hw
  have ih := b_X0_readsAhead (l := l) (e := e) (below := below) (Q := Q) ho C n
  delta e_X0_readsAhead at hw
  refine lv_aload_n hx hb dX0_readsAhead_0 rfl (lv_at hl 0 rfl) ?_
  refine g_f C hP (layb0 ho) (lay0 ho K _) rfl hX0_readsAhead_X0 5 (by decide) kX0_readsAhead_f28 rfl dX0_readsAhead_1 ?_
  refine lv_iload_n hx hb dX0_readsAhead_4 rfl (lv_at hl 1 rfl) ?_
  have hi_1 := hw.1
  have hw := hw.2
  refine a_il C hP (layb ho 5 (by decide)) (lay5 ho K _) hi_1 rfl dX0_readsAhead_5 ?_
  refine lv_topi (fun x_2 ex_2 => ?_)
  have hw := hw x_2 ex_2
  refine lv_istore_n (lv' := [(3, .int x_2), (0, .ref (kb K + o)), (1, .int v1), (2, .int v2)]) hx hb dX0_readsAhead_6 rfl hl (by decide) rfl (fun ls hl => ?_)
  refine lv_iconst hx hb dX0_readsAhead_7 ic_0 ?_
  refine lv_istore (lv' := [(4, .int (0 : Int32)), (3, .int x_2), (0, .ref (kb K + o)), (1, .int v1), (2, .int v2)]) hx hb dX0_readsAhead_8 hl (by decide) rfl (fun ls hl => ?_)
  exact ih _ _ _ _ _ _ _ _ hw hP hS (lv_sub hl [2, 3, 4, 1, 0] rfl)

theorem kX0_shownBy_f28 : Cond.fieldLink RX0 28 (TX0 5).1 (TX0 5).2.1 (TX0 5).2.2.1 ∈ wsX0_shownBy := List.mem_of_getElem? (i := 1) rfl
theorem hX0_shownBy_X0 : ∀ w ∈ u_ws RX0 TX0 10, w ∈ wsX0_shownBy := fun _ h => List.mem_cons_of_mem _ (List.mem_append_right _ (h))
theorem kX0_shownBy_f25 : Cond.fieldLink RX0 25 (TX0 4).1 (TX0 4).2.1 (TX0 4).2.2.1 ∈ wsX0_shownBy := List.mem_of_getElem? (i := 2) rfl
theorem kX0_shownBy_f22 : Cond.fieldLink RX0 22 (TX0 3).1 (TX0 3).2.1 (TX0 3).2.2.1 ∈ wsX0_shownBy := List.mem_of_getElem? (i := 3) rfl
abbrev rmX0_shownBy : Room := { frames := 0, cells := 0, slots := 0, locals := 0 }
def q_X0_shownBy (o : Nat) (v1 : Int32) (M : Mem) (Q : Int32 → Mem → Prop) : Prop := vp_in v1 4 ∧ (∀ x_2 : Int32, x_2 = (M (o + 5) v1.toNatClampNeg) → vp_in v1 4 ∧ (∀ x_4 : Int32, x_4 = (M (o + 4) v1.toNatClampNeg) → vp_in v1 4 ∧ (((M (o + 3) v1.toNatClampNeg) = 1 → (((1 : Int32) ≤ x_4 → (¬ x_4 = 0) ∧ Q (x_2 / x_4) M) ∧ (¬ (1 : Int32) ≤ x_4 → Q (0 : Int32) M))) ∧ (¬ (M (o + 3) v1.toNatClampNeg) = 1 → (((M (o + 3) v1.toNatClampNeg) = 3 → Q ((2 : Int32) * x_2) M) ∧ (¬ (M (o + 3) v1.toNatClampNeg) = 3 → Q x_2 M))))))
theorem dsX0_shownBy : yX0_shownBy.cls = RX0 ∧ yX0_shownBy.cls ≠ "java/lang/invoke/MethodHandle" ∧ yX0_shownBy.cls ≠ "java/lang/invoke/VarHandle" ∧ (parseMethodDescriptor yX0_shownBy.desc).map (fun d => d.parameters.length) = some 1 := by decide +kernel
set_option maxRecDepth 100000 in
set_option maxHeartbeats 4000000 in
theorem c_X0_shownBy {l : Launch} {K : wC} {o : Nat} {v1 : Int32} {M : Mem} {Q : Int32 → Mem → Prop} (ho : isLay o) (hw : q_X0_shownBy o v1 M Q) : metI l yX0_shownBy wsX0_shownBy rmX0_shownBy shX 51 K [.ref (kb K + o), .int v1] M Q := by
  refine met_of (cc := cX0_shownBy) (maxL := 4) (ret := (some .int)) (own := RX0) (by decide) rfl rfl (Nat.le_of_ble_eq_true rfl) ?_
  intro p e s m below meth c ls C hl hP hS
  have hl : lv_has ls 4 [(0, .ref (kb K + o)), (1, .int v1)] := hl
  obtain ⟨hx, hb, hml, hown, hts, hr, hlk, hK⟩ := id C
  have hP0 := hP
  delta q_X0_shownBy at hw
  refine lv_aload_n hx hb dX0_shownBy_0 rfl (lv_at hl 0 rfl) ?_
  refine g_f C hP (layb0 ho) (lay0 ho K _) rfl hX0_shownBy_X0 5 (by decide) kX0_shownBy_f28 rfl dX0_shownBy_1 ?_
  refine lv_iload_n hx hb dX0_shownBy_4 rfl (lv_at hl 1 rfl) ?_
  have hi_1 := hw.1
  have hw := hw.2
  refine a_il C hP (layb ho 5 (by decide)) (lay5 ho K _) hi_1 rfl dX0_shownBy_5 ?_
  refine lv_topi (fun x_2 ex_2 => ?_)
  have hw := hw x_2 ex_2
  refine lv_istore_n (lv' := [(2, .int x_2), (0, .ref (kb K + o)), (1, .int v1)]) hx hb dX0_shownBy_6 rfl hl (by decide) rfl (fun ls hl => ?_)
  refine lv_aload_n hx hb dX0_shownBy_7 rfl (lv_at hl 1 rfl) ?_
  refine g_f C hP (layb0 ho) (lay0 ho K _) rfl hX0_shownBy_X0 4 (by decide) kX0_shownBy_f25 rfl dX0_shownBy_8 ?_
  refine lv_iload_n hx hb dX0_shownBy_11 rfl (lv_at hl 2 rfl) ?_
  have hi_3 := hw.1
  have hw := hw.2
  refine a_il C hP (layb ho 4 (by decide)) (lay4 ho K _) hi_3 rfl dX0_shownBy_12 ?_
  refine lv_topi (fun x_4 ex_4 => ?_)
  have hw := hw x_4 ex_4
  refine lv_istore_n (lv' := [(3, .int x_4), (2, .int x_2), (0, .ref (kb K + o)), (1, .int v1)]) hx hb dX0_shownBy_13 rfl hl (by decide) rfl (fun ls hl => ?_)
  refine lv_aload_n hx hb dX0_shownBy_14 rfl (lv_at hl 2 rfl) ?_
  refine g_f C hP (layb0 ho) (lay0 ho K _) rfl hX0_shownBy_X0 3 (by decide) kX0_shownBy_f22 rfl dX0_shownBy_15 ?_
  refine lv_iload_n hx hb dX0_shownBy_18 rfl (lv_at hl 3 rfl) ?_
  have hi_5 := hw.1
  have hw := hw.2
  refine a_il C hP (layb ho 3 (by decide)) (lay3 ho K _) hi_5 rfl dX0_shownBy_19 ?_
  by_cases hs1 : (M (o + 3) v1.toNatClampNeg) = 1
  · have hw := hw.1 hs1
    refine lv_lookup (off := 28) (tgt := 48) hx hb dX0_shownBy_20 (by decide) (by rw [hs1]; first | done | rfl) (by decide) ?_
    refine lv_iload_n hx hb dX0_shownBy_48 rfl (lv_at hl 0 rfl) ?_
    refine lv_iconst hx hb dX0_shownBy_49 ic_1 ?_
    refine lv_icmp_ge (tgt := 57) hx hb dX0_shownBy_50 (by decide) (fun hc => ?_) (fun hc => ?_)
    · have hw := hw.1 hc
      refine lv_iload_n hx hb dX0_shownBy_57 rfl (lv_at hl 1 rfl) ?_
      refine lv_iload_n hx hb dX0_shownBy_58 rfl (lv_at hl 0 rfl) ?_
      have hz_6 := hw.1
      have hw := hw.2
      refine lv_idiv hx hb dX0_shownBy_59 hz_6 ?_
      exact r_i C hP hS hw dX0_shownBy_60
    · have hw := hw.2 hc
      refine lv_iconst hx hb dX0_shownBy_53 ic_0 ?_
      refine lv_goto (tgt := 60) hx hb dX0_shownBy_54 (by decide) ?_
      exact r_i C hP hS hw dX0_shownBy_60
  · have hw := hw.2 hs1
    by_cases hs3 : (M (o + 3) v1.toNatClampNeg) = 3
    · have hw := hw.1 hs3
      refine lv_lookup (off := 41) (tgt := 61) hx hb dX0_shownBy_20 (by decide) (by rw [hs3]; first | done | rfl) (by decide) ?_
      refine lv_iconst hx hb dX0_shownBy_61 ic_2 ?_
      refine lv_iload_n hx hb dX0_shownBy_62 rfl (lv_at hl 1 rfl) ?_
      refine lv_imul hx hb dX0_shownBy_63 ?_
      exact r_i C hP hS hw dX0_shownBy_64
    · have hw := hw.2 hs3
      refine lv_lookup (off := 45) (tgt := 65) hx hb dX0_shownBy_20 (by decide) (by refine (lv_osw hs1 (by decide)).trans ?_; refine (lv_osw hs3 (by decide)).trans ?_; rfl) (by decide) ?_
      refine lv_iload_n hx hb dX0_shownBy_65 rfl (lv_at hl 1 rfl) ?_
      exact r_i C hP hS hw dX0_shownBy_66

theorem kX0_errorOf_f18 : Cond.fieldLink RX0 18 (TX0 2).1 (TX0 2).2.1 (TX0 2).2.2.1 ∈ wsX0_errorOf := List.mem_of_getElem? (i := 1) rfl
theorem hX0_errorOf_X0 : ∀ w ∈ u_ws RX0 TX0 10, w ∈ wsX0_errorOf := fun _ h => List.mem_cons_of_mem _ (List.mem_append_right _ (h))
theorem kX0_errorOf_m61 : Cond.methodLink RX0 61 Lib.Math.abs.name ∈ wsX0_errorOf := List.mem_of_getElem? (i := 2) rfl
theorem kX0_errorOf_ma1 : Cond.static Lib.Math.abs.name ∈ wsX0_errorOf := List.mem_of_getElem? (i := 3) rfl
theorem kX0_errorOf_ma2 : Cond.initialized "java/lang/Math" ∈ wsX0_errorOf := List.mem_of_getElem? (i := 4) rfl
theorem kX0_errorOf_ma3 : Cond.code Lib.Math.abs.name Lib.Math.abs.code 1 (some .int) ∈ wsX0_errorOf := List.mem_of_getElem? (i := 5) rfl
abbrev rmX0_errorOf : Room := { frames := 3, cells := 0, slots := 0, locals := 65 }
abbrev t_X0_errorOf : Type := (Int32 → Int32 → Int32 → Mem → Prop)
def f_X0_errorOf_4 (o : Nat) (Q : Int32 → Mem → Prop) (r : t_X0_errorOf) (v1 : Int32) (v2 : Int32) (v3 : Int32) (M : Mem) : Prop := (((M o 2) ≤ v3 → Q (iabs v2) M) ∧ (¬ (M o 2) ≤ v3 → q_X0_sweepOf o v3 M (fun r_2 M_1 => q_X0_rollOf o v1 r_2 M_1 (fun r_4 M_3 => r v1 (v2 + (r_4 - r_2)) (v3 + 1) M_3))))
def p_X0_errorOf (o : Nat) (Q : Int32 → Mem → Prop) : Nat → t_X0_errorOf
  | 0 => fun _ _ _ _ => False
  | n + 1 => f_X0_errorOf_4 o Q (p_X0_errorOf o Q n)
def e_X0_errorOf (o : Nat) (v1 : Int32) (Q : Int32 → Mem → Prop) (r : t_X0_errorOf) (M : Mem) : Prop := r v1 (0 : Int32) (0 : Int32) M
def q_X0_errorOf (o : Nat) (v1 : Int32) (M : Mem) (Q : Int32 → Mem → Prop) : Prop := ∃ n : Nat, e_X0_errorOf o v1 Q (p_X0_errorOf o Q n) M
set_option maxRecDepth 100000 in
set_option maxHeartbeats 4000000 in
theorem b_X0_errorOf {l : Launch} {K : wC} {o : Nat} {Q : Int32 → Mem → Prop} {p : Program} {e : Env} {s : State} {m : MethodId} {args : Array Value} {below : List Frame} {meth : Method} {c : Code} (ho : isLay o) (C : cx 51 K p s m args meth c cX0_errorOf 5 wsX0_errorOf RX0 (some .int)) : ∀ n : Nat, (∀ (v1 : Int32) (v2 : Int32) (v3 : Int32) (M : Mem) (H : Heap) (locs : List Loc) (ls : Array Slot), (p_X0_errorOf o Q n) v1 v2 v3 M → wP shX 51 K M H → va_S (wA 51 K) s.heap H locs → lv_has ls 5 [(0, .ref (kb K + o)), (1, .int v1), (2, .int v2), (3, .int v3)] → W p l e rmX0_errorOf s m args below meth c H locs 0 0 (MQ below (va_Qi Q (wE shX 51 K) (wA 51 K)) args s 0 0 (wA 51 K)) (F0 m 4 ls [])) := by
  obtain ⟨hx, hb, hml, hown, hts, hr, hlk, hK⟩ := id C
  intro n
  induction n with
  | zero => exact fun _ _ _ _ _ _ _ hw _ _ _ => False.elim hw
  | succ n ih =>
    intro v1 v2 v3 M H locs ls hw hP hS hl
    have hw : f_X0_errorOf_4 o Q (p_X0_errorOf o Q n) v1 v2 v3 M := hw
    delta f_X0_errorOf_4 at hw
    refine lv_iload_n hx hb dX0_errorOf_4 rfl (lv_at hl 3 rfl) ?_
    refine lv_aload_n hx hb dX0_errorOf_5 rfl (lv_at hl 0 rfl) ?_
    refine g_f C hP (layb0 ho) (lay0 ho K _) rfl hX0_errorOf_X0 2 (by decide) kX0_errorOf_f18 rfl dX0_errorOf_6 ?_
    refine lv_icmp_ge (tgt := 38) hx hb dX0_errorOf_9 (by decide) (fun hc => ?_) (fun hc => ?_)
    · have hw := hw.1 hc
      refine lv_iload_n hx hb dX0_errorOf_38 rfl (lv_at hl 2 rfl) ?_
      refine m_abs C hl.1 kX0_errorOf_m61 kX0_errorOf_ma1 kX0_errorOf_ma2 kX0_errorOf_ma3 (Nat.le_of_ble_eq_true rfl) (Nat.le_of_ble_eq_true rfl) (Nat.le_of_ble_eq_true rfl) (Nat.le_of_ble_eq_true rfl) dX0_errorOf_39 ?_
      exact r_i C hP hS hw dX0_errorOf_42
    · have hw := hw.2 hc
      refine lv_aload_n hx hb dX0_errorOf_12 rfl (lv_at hl 0 rfl) ?_
      refine lv_iload_n hx hb dX0_errorOf_13 rfl (lv_at hl 3 rfl) ?_
      refine c_i (run_v (As := [.int v3]) (rest := []) C hP hS (c_X0_sweepOf ho hw) gX0_errorOf_X0_sweepOf rfl dsX0_sweepOf rfl ⟨rfl, rfl⟩ ⟨Nat.le_of_ble_eq_true rfl, Nat.le_of_ble_eq_true rfl⟩ (layb0 ho) (lay0 ho K _) rfl hl.1 rfl (Nat.le_of_ble_eq_true rfl) dX0_errorOf_14 ⟨Nat.le_of_ble_eq_true rfl, Nat.le_of_ble_eq_true rfl⟩) hS (fun r_2 M_1 H locs hw hP hS => ?_)
      refine lv_istore (lv' := [(4, .int r_2), (0, .ref (kb K + o)), (1, .int v1), (2, .int v2), (3, .int v3)]) hx hb dX0_errorOf_17 hl (by decide) rfl (fun ls hl => ?_)
      refine lv_iload_n hx hb dX0_errorOf_19 rfl (lv_at hl 3 rfl) ?_
      refine lv_aload_n hx hb dX0_errorOf_20 rfl (lv_at hl 1 rfl) ?_
      refine lv_iload_n hx hb dX0_errorOf_21 rfl (lv_at hl 2 rfl) ?_
      refine lv_iload hx hb dX0_errorOf_22 (lv_at hl 0 rfl) ?_
      refine c_i (run_v (As := [.int v1, .int r_2]) (rest := [.int v2]) C hP hS (c_X0_rollOf ho hw) gX0_errorOf_X0_rollOf rfl dsX0_rollOf rfl ⟨rfl, rfl⟩ ⟨Nat.le_of_ble_eq_true rfl, Nat.le_of_ble_eq_true rfl⟩ (layb0 ho) (lay0 ho K _) rfl hl.1 rfl (Nat.le_of_ble_eq_true rfl) dX0_errorOf_24 ⟨Nat.le_of_ble_eq_true rfl, Nat.le_of_ble_eq_true rfl⟩) hS (fun r_4 M_3 H locs hw hP hS => ?_)
      refine lv_iload hx hb dX0_errorOf_27 (lv_at hl 0 rfl) ?_
      refine lv_isub hx hb dX0_errorOf_29 ?_
      refine lv_iadd hx hb dX0_errorOf_30 ?_
      refine lv_istore_n (lv' := [(2, .int (v2 + (r_4 - r_2))), (4, .int r_2), (0, .ref (kb K + o)), (1, .int v1), (3, .int v3)]) hx hb dX0_errorOf_31 rfl hl (by decide) rfl (fun ls hl => ?_)
      refine lv_iinc (v := (v3 + 1)) (lv' := [(3, .int (v3 + 1)), (2, .int (v2 + (r_4 - r_2))), (4, .int r_2), (0, .ref (kb K + o)), (1, .int v1)]) hx hb dX0_errorOf_32 hl (k := 4) rfl (by rw [ic_1]) (by decide) rfl (fun ls hl => ?_)
      refine lv_goto (tgt := 4) hx hb dX0_errorOf_35 (by decide) ?_
      exact ih _ _ _ _ _ _ _ hw hP hS (lv_sub hl [3, 4, 1, 0] rfl)
theorem dsX0_errorOf : yX0_errorOf.cls = RX0 ∧ yX0_errorOf.cls ≠ "java/lang/invoke/MethodHandle" ∧ yX0_errorOf.cls ≠ "java/lang/invoke/VarHandle" ∧ (parseMethodDescriptor yX0_errorOf.desc).map (fun d => d.parameters.length) = some 1 := by decide +kernel
set_option maxRecDepth 100000 in
set_option maxHeartbeats 4000000 in
theorem c_X0_errorOf {l : Launch} {K : wC} {o : Nat} {v1 : Int32} {M : Mem} {Q : Int32 → Mem → Prop} (ho : isLay o) (hw : q_X0_errorOf o v1 M Q) : metI l yX0_errorOf wsX0_errorOf rmX0_errorOf shX 51 K [.ref (kb K + o), .int v1] M Q := by
  refine met_of (cc := cX0_errorOf) (maxL := 5) (ret := (some .int)) (own := RX0) (by decide) rfl rfl (Nat.le_of_ble_eq_true rfl) ?_
  intro p e s m below meth c ls C hl hP hS
  have hl : lv_has ls 5 [(0, .ref (kb K + o)), (1, .int v1)] := hl
  obtain ⟨hx, hb, hml, hown, hts, hr, hlk, hK⟩ := id C
  have hP0 := hP
  obtain ⟨n, hw⟩ := hw
  have ih := b_X0_errorOf (l := l) (e := e) (below := below) (Q := Q) ho C n
  delta e_X0_errorOf at hw
  refine lv_iconst hx hb dX0_errorOf_0 ic_0 ?_
  refine lv_istore_n (lv' := [(2, .int (0 : Int32)), (0, .ref (kb K + o)), (1, .int v1)]) hx hb dX0_errorOf_1 rfl hl (by decide) rfl (fun ls hl => ?_)
  refine lv_iconst hx hb dX0_errorOf_2 ic_0 ?_
  refine lv_istore_n (lv' := [(3, .int (0 : Int32)), (2, .int (0 : Int32)), (0, .ref (kb K + o)), (1, .int v1)]) hx hb dX0_errorOf_3 rfl hl (by decide) rfl (fun ls hl => ?_)
  exact ih _ _ _ _ _ _ _ hw hP hS (lv_sub hl [2, 3, 1, 0] rfl)

theorem kX0_sumOfSteps_f31 : Cond.fieldLink RX0 31 (TX0 6).1 (TX0 6).2.1 (TX0 6).2.2.1 ∈ wsX0_sumOfSteps := List.mem_of_getElem? (i := 1) rfl
theorem hX0_sumOfSteps_X0 : ∀ w ∈ u_ws RX0 TX0 10, w ∈ wsX0_sumOfSteps := fun _ h => List.mem_cons_of_mem _ (List.mem_append_right _ (h))
theorem kX0_sumOfSteps_f25 : Cond.fieldLink RX0 25 (TX0 4).1 (TX0 4).2.1 (TX0 4).2.2.1 ∈ wsX0_sumOfSteps := List.mem_of_getElem? (i := 2) rfl
abbrev rmX0_sumOfSteps : Room := { frames := 0, cells := 0, slots := 0, locals := 0 }
abbrev t_X0_sumOfSteps : Type := (Int32 → Int32 → Mem → Prop)
def f_X0_sumOfSteps_4 (o : Nat) (Q : Int32 → Mem → Prop) (r : t_X0_sumOfSteps) (v1 : Int32) (v2 : Int32) (M : Mem) : Prop := (((M o 6) ≤ v2 → Q v1 M) ∧ (¬ (M o 6) ≤ v2 → vp_in v2 4 ∧ (∀ x_2 : Int32, x_2 = (v1 + (M (o + 4) v2.toNatClampNeg)) → r x_2 (v2 + 1) M)))
def p_X0_sumOfSteps (o : Nat) (Q : Int32 → Mem → Prop) : Nat → t_X0_sumOfSteps
  | 0 => fun _ _ _ => False
  | n + 1 => f_X0_sumOfSteps_4 o Q (p_X0_sumOfSteps o Q n)
def e_X0_sumOfSteps (o : Nat) (Q : Int32 → Mem → Prop) (r : t_X0_sumOfSteps) (M : Mem) : Prop := r (0 : Int32) (0 : Int32) M
def q_X0_sumOfSteps (o : Nat) (M : Mem) (Q : Int32 → Mem → Prop) : Prop := ∃ n : Nat, e_X0_sumOfSteps o Q (p_X0_sumOfSteps o Q n) M
set_option maxRecDepth 100000 in
set_option maxHeartbeats 4000000 in
theorem b_X0_sumOfSteps {l : Launch} {K : wC} {o : Nat} {Q : Int32 → Mem → Prop} {p : Program} {e : Env} {s : State} {m : MethodId} {args : Array Value} {below : List Frame} {meth : Method} {c : Code} (ho : isLay o) (C : cx 51 K p s m args meth c cX0_sumOfSteps 3 wsX0_sumOfSteps RX0 (some .int)) : ∀ n : Nat, (∀ (v1 : Int32) (v2 : Int32) (M : Mem) (H : Heap) (locs : List Loc) (ls : Array Slot), (p_X0_sumOfSteps o Q n) v1 v2 M → wP shX 51 K M H → va_S (wA 51 K) s.heap H locs → lv_has ls 3 [(0, .ref (kb K + o)), (1, .int v1), (2, .int v2)] → W p l e rmX0_sumOfSteps s m args below meth c H locs 0 0 (MQ below (va_Qi Q (wE shX 51 K) (wA 51 K)) args s 0 0 (wA 51 K)) (F0 m 4 ls [])) := by
  obtain ⟨hx, hb, hml, hown, hts, hr, hlk, hK⟩ := id C
  intro n
  induction n with
  | zero => exact fun _ _ _ _ _ _ hw _ _ _ => False.elim hw
  | succ n ih =>
    intro v1 v2 M H locs ls hw hP hS hl
    have hw : f_X0_sumOfSteps_4 o Q (p_X0_sumOfSteps o Q n) v1 v2 M := hw
    delta f_X0_sumOfSteps_4 at hw
    refine lv_iload_n hx hb dX0_sumOfSteps_4 rfl (lv_at hl 2 rfl) ?_
    refine lv_aload_n hx hb dX0_sumOfSteps_5 rfl (lv_at hl 0 rfl) ?_
    refine g_f C hP (layb0 ho) (lay0 ho K _) rfl hX0_sumOfSteps_X0 6 (by decide) kX0_sumOfSteps_f31 rfl dX0_sumOfSteps_6 ?_
    refine lv_icmp_ge (tgt := 27) hx hb dX0_sumOfSteps_9 (by decide) (fun hc => ?_) (fun hc => ?_)
    · have hw := hw.1 hc
      refine lv_iload_n hx hb dX0_sumOfSteps_27 rfl (lv_at hl 1 rfl) ?_
      exact r_i C hP hS hw dX0_sumOfSteps_28
    · have hw := hw.2 hc
      refine lv_iload_n hx hb dX0_sumOfSteps_12 rfl (lv_at hl 1 rfl) ?_
      refine lv_aload_n hx hb dX0_sumOfSteps_13 rfl (lv_at hl 0 rfl) ?_
      refine g_f C hP (layb0 ho) (lay0 ho K _) rfl hX0_sumOfSteps_X0 4 (by decide) kX0_sumOfSteps_f25 rfl dX0_sumOfSteps_14 ?_
      refine lv_iload_n hx hb dX0_sumOfSteps_17 rfl (lv_at hl 2 rfl) ?_
      have hi_1 := hw.1
      have hw := hw.2
      refine a_il C hP (layb ho 4 (by decide)) (lay4 ho K _) hi_1 rfl dX0_sumOfSteps_18 ?_
      refine lv_iadd hx hb dX0_sumOfSteps_19 ?_
      refine lv_topi (fun x_2 ex_2 => ?_)
      have hw := hw x_2 ex_2
      refine lv_istore_n (lv' := [(1, .int x_2), (0, .ref (kb K + o)), (2, .int v2)]) hx hb dX0_sumOfSteps_20 rfl hl (by decide) rfl (fun ls hl => ?_)
      refine lv_iinc (v := (v2 + 1)) (lv' := [(2, .int (v2 + 1)), (1, .int x_2), (0, .ref (kb K + o))]) hx hb dX0_sumOfSteps_21 hl (k := 2) rfl (by rw [ic_1]) (by decide) rfl (fun ls hl => ?_)
      refine lv_goto (tgt := 4) hx hb dX0_sumOfSteps_24 (by decide) ?_
      exact ih _ _ _ _ _ _ hw hP hS (lv_sub hl [2, 1, 0] rfl)
theorem dsX0_sumOfSteps : yX0_sumOfSteps.cls = RX0 ∧ yX0_sumOfSteps.cls ≠ "java/lang/invoke/MethodHandle" ∧ yX0_sumOfSteps.cls ≠ "java/lang/invoke/VarHandle" ∧ (parseMethodDescriptor yX0_sumOfSteps.desc).map (fun d => d.parameters.length) = some 0 := by decide +kernel
set_option maxRecDepth 100000 in
set_option maxHeartbeats 4000000 in
theorem c_X0_sumOfSteps {l : Launch} {K : wC} {o : Nat} {M : Mem} {Q : Int32 → Mem → Prop} (ho : isLay o) (hw : q_X0_sumOfSteps o M Q) : metI l yX0_sumOfSteps wsX0_sumOfSteps rmX0_sumOfSteps shX 51 K [.ref (kb K + o)] M Q := by
  refine met_of (cc := cX0_sumOfSteps) (maxL := 3) (ret := (some .int)) (own := RX0) (by decide) rfl rfl (Nat.le_of_ble_eq_true rfl) ?_
  intro p e s m below meth c ls C hl hP hS
  have hl : lv_has ls 3 [(0, .ref (kb K + o))] := hl
  obtain ⟨hx, hb, hml, hown, hts, hr, hlk, hK⟩ := id C
  have hP0 := hP
  obtain ⟨n, hw⟩ := hw
  have ih := b_X0_sumOfSteps (l := l) (e := e) (below := below) (Q := Q) ho C n
  delta e_X0_sumOfSteps at hw
  refine lv_iconst hx hb dX0_sumOfSteps_0 ic_0 ?_
  refine lv_istore_n (lv' := [(1, .int (0 : Int32)), (0, .ref (kb K + o))]) hx hb dX0_sumOfSteps_1 rfl hl (by decide) rfl (fun ls hl => ?_)
  refine lv_iconst hx hb dX0_sumOfSteps_2 ic_0 ?_
  refine lv_istore_n (lv' := [(2, .int (0 : Int32)), (1, .int (0 : Int32)), (0, .ref (kb K + o))]) hx hb dX0_sumOfSteps_3 rfl hl (by decide) rfl (fun ls hl => ?_)
  exact ih _ _ _ _ _ _ hw hP hS (lv_sub hl [2, 1, 0] rfl)

theorem kX0_sumOfPlaces_f18 : Cond.fieldLink RX0 18 (TX0 2).1 (TX0 2).2.1 (TX0 2).2.2.1 ∈ wsX0_sumOfPlaces := List.mem_of_getElem? (i := 1) rfl
theorem hX0_sumOfPlaces_X0 : ∀ w ∈ u_ws RX0 TX0 10, w ∈ wsX0_sumOfPlaces := fun _ h => List.mem_cons_of_mem _ (List.mem_append_right _ (h))
theorem kX0_sumOfPlaces_f9 : Cond.fieldLink RX0 9 (TX0 0).1 (TX0 0).2.1 (TX0 0).2.2.1 ∈ wsX0_sumOfPlaces := List.mem_of_getElem? (i := 2) rfl
theorem kX0_sumOfPlaces_f15 : Cond.fieldLink RX0 15 (TX0 1).1 (TX0 1).2.1 (TX0 1).2.2.1 ∈ wsX0_sumOfPlaces := List.mem_of_getElem? (i := 3) rfl
abbrev rmX0_sumOfPlaces : Room := { frames := 0, cells := 0, slots := 0, locals := 0 }
abbrev t_X0_sumOfPlaces : Type := (Int32 → Int32 → Mem → Prop)
def f_X0_sumOfPlaces_4 (o : Nat) (Q : Int32 → Mem → Prop) (r : t_X0_sumOfPlaces) (v1 : Int32) (v2 : Int32) (M : Mem) : Prop := (((M o 2) ≤ v2 → Q v1 M) ∧ (¬ (M o 2) ≤ v2 → vp_in v2 10 ∧ vp_in v2 10 ∧ (∀ x_3 : Int32, x_3 = (v1 + ((M (o + 1) v2.toNatClampNeg) + (M (o + 2) v2.toNatClampNeg))) → r x_3 (v2 + 1) M)))
def p_X0_sumOfPlaces (o : Nat) (Q : Int32 → Mem → Prop) : Nat → t_X0_sumOfPlaces
  | 0 => fun _ _ _ => False
  | n + 1 => f_X0_sumOfPlaces_4 o Q (p_X0_sumOfPlaces o Q n)
def e_X0_sumOfPlaces (o : Nat) (Q : Int32 → Mem → Prop) (r : t_X0_sumOfPlaces) (M : Mem) : Prop := r (0 : Int32) (0 : Int32) M
def q_X0_sumOfPlaces (o : Nat) (M : Mem) (Q : Int32 → Mem → Prop) : Prop := ∃ n : Nat, e_X0_sumOfPlaces o Q (p_X0_sumOfPlaces o Q n) M
set_option maxRecDepth 100000 in
set_option maxHeartbeats 4000000 in
theorem b_X0_sumOfPlaces {l : Launch} {K : wC} {o : Nat} {Q : Int32 → Mem → Prop} {p : Program} {e : Env} {s : State} {m : MethodId} {args : Array Value} {below : List Frame} {meth : Method} {c : Code} (ho : isLay o) (C : cx 51 K p s m args meth c cX0_sumOfPlaces 3 wsX0_sumOfPlaces RX0 (some .int)) : ∀ n : Nat, (∀ (v1 : Int32) (v2 : Int32) (M : Mem) (H : Heap) (locs : List Loc) (ls : Array Slot), (p_X0_sumOfPlaces o Q n) v1 v2 M → wP shX 51 K M H → va_S (wA 51 K) s.heap H locs → lv_has ls 3 [(0, .ref (kb K + o)), (1, .int v1), (2, .int v2)] → W p l e rmX0_sumOfPlaces s m args below meth c H locs 0 0 (MQ below (va_Qi Q (wE shX 51 K) (wA 51 K)) args s 0 0 (wA 51 K)) (F0 m 4 ls [])) := by
  obtain ⟨hx, hb, hml, hown, hts, hr, hlk, hK⟩ := id C
  intro n
  induction n with
  | zero => exact fun _ _ _ _ _ _ hw _ _ _ => False.elim hw
  | succ n ih =>
    intro v1 v2 M H locs ls hw hP hS hl
    have hw : f_X0_sumOfPlaces_4 o Q (p_X0_sumOfPlaces o Q n) v1 v2 M := hw
    delta f_X0_sumOfPlaces_4 at hw
    refine lv_iload_n hx hb dX0_sumOfPlaces_4 rfl (lv_at hl 2 rfl) ?_
    refine lv_aload_n hx hb dX0_sumOfPlaces_5 rfl (lv_at hl 0 rfl) ?_
    refine g_f C hP (layb0 ho) (lay0 ho K _) rfl hX0_sumOfPlaces_X0 2 (by decide) kX0_sumOfPlaces_f18 rfl dX0_sumOfPlaces_6 ?_
    refine lv_icmp_ge (tgt := 34) hx hb dX0_sumOfPlaces_9 (by decide) (fun hc => ?_) (fun hc => ?_)
    · have hw := hw.1 hc
      refine lv_iload_n hx hb dX0_sumOfPlaces_34 rfl (lv_at hl 1 rfl) ?_
      exact r_i C hP hS hw dX0_sumOfPlaces_35
    · have hw := hw.2 hc
      refine lv_iload_n hx hb dX0_sumOfPlaces_12 rfl (lv_at hl 1 rfl) ?_
      refine lv_aload_n hx hb dX0_sumOfPlaces_13 rfl (lv_at hl 0 rfl) ?_
      refine g_f C hP (layb0 ho) (lay0 ho K _) rfl hX0_sumOfPlaces_X0 0 (by decide) kX0_sumOfPlaces_f9 rfl dX0_sumOfPlaces_14 ?_
      refine lv_iload_n hx hb dX0_sumOfPlaces_17 rfl (lv_at hl 2 rfl) ?_
      have hi_1 := hw.1
      have hw := hw.2
      refine a_il C hP (layb ho 1 (by decide)) (lay1 ho K _) hi_1 rfl dX0_sumOfPlaces_18 ?_
      refine lv_aload_n hx hb dX0_sumOfPlaces_19 rfl (lv_at hl 0 rfl) ?_
      refine g_f C hP (layb0 ho) (lay0 ho K _) rfl hX0_sumOfPlaces_X0 1 (by decide) kX0_sumOfPlaces_f15 rfl dX0_sumOfPlaces_20 ?_
      refine lv_iload_n hx hb dX0_sumOfPlaces_23 rfl (lv_at hl 2 rfl) ?_
      have hi_2 := hw.1
      have hw := hw.2
      refine a_il C hP (layb ho 2 (by decide)) (lay2 ho K _) hi_2 rfl dX0_sumOfPlaces_24 ?_
      refine lv_iadd hx hb dX0_sumOfPlaces_25 ?_
      refine lv_iadd hx hb dX0_sumOfPlaces_26 ?_
      refine lv_topi (fun x_3 ex_3 => ?_)
      have hw := hw x_3 ex_3
      refine lv_istore_n (lv' := [(1, .int x_3), (0, .ref (kb K + o)), (2, .int v2)]) hx hb dX0_sumOfPlaces_27 rfl hl (by decide) rfl (fun ls hl => ?_)
      refine lv_iinc (v := (v2 + 1)) (lv' := [(2, .int (v2 + 1)), (1, .int x_3), (0, .ref (kb K + o))]) hx hb dX0_sumOfPlaces_28 hl (k := 2) rfl (by rw [ic_1]) (by decide) rfl (fun ls hl => ?_)
      refine lv_goto (tgt := 4) hx hb dX0_sumOfPlaces_31 (by decide) ?_
      exact ih _ _ _ _ _ _ hw hP hS (lv_sub hl [2, 1, 0] rfl)
theorem dsX0_sumOfPlaces : yX0_sumOfPlaces.cls = RX0 ∧ yX0_sumOfPlaces.cls ≠ "java/lang/invoke/MethodHandle" ∧ yX0_sumOfPlaces.cls ≠ "java/lang/invoke/VarHandle" ∧ (parseMethodDescriptor yX0_sumOfPlaces.desc).map (fun d => d.parameters.length) = some 0 := by decide +kernel
set_option maxRecDepth 100000 in
set_option maxHeartbeats 4000000 in
theorem c_X0_sumOfPlaces {l : Launch} {K : wC} {o : Nat} {M : Mem} {Q : Int32 → Mem → Prop} (ho : isLay o) (hw : q_X0_sumOfPlaces o M Q) : metI l yX0_sumOfPlaces wsX0_sumOfPlaces rmX0_sumOfPlaces shX 51 K [.ref (kb K + o)] M Q := by
  refine met_of (cc := cX0_sumOfPlaces) (maxL := 3) (ret := (some .int)) (own := RX0) (by decide) rfl rfl (Nat.le_of_ble_eq_true rfl) ?_
  intro p e s m below meth c ls C hl hP hS
  have hl : lv_has ls 3 [(0, .ref (kb K + o))] := hl
  obtain ⟨hx, hb, hml, hown, hts, hr, hlk, hK⟩ := id C
  have hP0 := hP
  obtain ⟨n, hw⟩ := hw
  have ih := b_X0_sumOfPlaces (l := l) (e := e) (below := below) (Q := Q) ho C n
  delta e_X0_sumOfPlaces at hw
  refine lv_iconst hx hb dX0_sumOfPlaces_0 ic_0 ?_
  refine lv_istore_n (lv' := [(1, .int (0 : Int32)), (0, .ref (kb K + o))]) hx hb dX0_sumOfPlaces_1 rfl hl (by decide) rfl (fun ls hl => ?_)
  refine lv_iconst hx hb dX0_sumOfPlaces_2 ic_0 ?_
  refine lv_istore_n (lv' := [(2, .int (0 : Int32)), (1, .int (0 : Int32)), (0, .ref (kb K + o))]) hx hb dX0_sumOfPlaces_3 rfl hl (by decide) rfl (fun ls hl => ?_)
  exact ih _ _ _ _ _ _ hw hP hS (lv_sub hl [2, 1, 0] rfl)

theorem kX1_isNothing_f19 : Cond.fieldLink RX1 19 (TX1 2).1 (TX1 2).2.1 (TX1 2).2.2.1 ∈ wsX1_isNothing := List.mem_of_getElem? (i := 1) rfl
theorem hX1_isNothing_X1 : ∀ w ∈ u_ws RX1 TX1 3, w ∈ wsX1_isNothing := fun _ h => List.mem_cons_of_mem _ (List.mem_append_right _ (h))
abbrev rmX1_isNothing : Room := { frames := 0, cells := 0, slots := 0, locals := 0 }
def q_X1_isNothing (o : Nat) (M : Mem) (Q : Int32 → Mem → Prop) : Prop := ((¬ (M o 2) = (-1 : Int32) → Q (0 : Int32) M) ∧ ((M o 2) = (-1 : Int32) → Q (1 : Int32) M))
theorem dsX1_isNothing : yX1_isNothing.cls = RX1 ∧ yX1_isNothing.cls ≠ "java/lang/invoke/MethodHandle" ∧ yX1_isNothing.cls ≠ "java/lang/invoke/VarHandle" ∧ (parseMethodDescriptor yX1_isNothing.desc).map (fun d => d.parameters.length) = some 0 := by decide +kernel
set_option maxRecDepth 100000 in
set_option maxHeartbeats 4000000 in
theorem c_X1_isNothing {l : Launch} {K : wC} {o : Nat} {M : Mem} {Q : Int32 → Mem → Prop} (ho : isSh o) (hw : q_X1_isNothing o M Q) : metI l yX1_isNothing wsX1_isNothing rmX1_isNothing shX 51 K [.ref (kb K + o)] M Q := by
  refine met_of (cc := cX1_isNothing) (maxL := 1) (ret := (some .boolean)) (own := RX1) (by decide) rfl rfl (Nat.le_of_ble_eq_true rfl) ?_
  intro p e s m below meth c ls C hl hP hS
  have hl : lv_has ls 1 [(0, .ref (kb K + o))] := hl
  obtain ⟨hx, hb, hml, hown, hts, hr, hlk, hK⟩ := id C
  have hP0 := hP
  delta q_X1_isNothing at hw
  refine lv_aload_n hx hb dX1_isNothing_0 rfl (lv_at hl 0 rfl) ?_
  refine g_f C hP (shb0 ho) (sh0 ho K _) rfl hX1_isNothing_X1 2 (by decide) kX1_isNothing_f19 rfl dX1_isNothing_1 ?_
  refine lv_iconst hx hb dX1_isNothing_4 ic_m1 ?_
  refine lv_icmp_ne (tgt := 12) hx hb dX1_isNothing_5 (by decide) (fun hc => ?_) (fun hc => ?_)
  · have hw := hw.1 hc
    refine lv_iconst hx hb dX1_isNothing_12 ic_0 ?_
    exact r_z C (by decide) hP hS hw dX1_isNothing_13
  · have hw := hw.2 hc
    refine lv_iconst hx hb dX1_isNothing_8 ic_1 ?_
    refine lv_goto (tgt := 13) hx hb dX1_isNothing_9 (by decide) ?_
    exact r_z C (by decide) hP hS hw dX1_isNothing_13

theorem kX1_renew_f15 : Cond.fieldLink RX1 15 (TX1 1).1 (TX1 1).2.1 (TX1 1).2.2.1 ∈ wsX1_renew := List.mem_of_getElem? (i := 2) rfl
theorem hX1_renew_X1 : ∀ w ∈ u_ws RX1 TX1 3, w ∈ wsX1_renew := fun _ h => List.mem_cons_of_mem _ (List.mem_append_right _ (h))
theorem kX1_renew_f19 : Cond.fieldLink RX1 19 (TX1 2).1 (TX1 2).2.1 (TX1 2).2.2.1 ∈ wsX1_renew := List.mem_of_getElem? (i := 3) rfl
theorem kX1_renew_f9 : Cond.fieldLink RX1 9 (TX1 0).1 (TX1 0).2.1 (TX1 0).2.2.1 ∈ wsX1_renew := List.mem_of_getElem? (i := 1) rfl
abbrev rmX1_renew : Room := { frames := 0, cells := 0, slots := 0, locals := 0 }
abbrev t_X1_renew : Type := (Int32 → Int32 → Int32 → Mem → Prop)
def f_X1_renew_2 (o : Nat) (Q : Mem → Prop) (r : t_X1_renew) (v1 : Int32) (v2 : Int32) (v3 : Int32) (M : Mem) : Prop := (((40 : Int32) ≤ v3 → Q (mU (mU M o 1 v1) o 2 v2)) ∧ (¬ (40 : Int32) ≤ v3 → vp_in v3 40 ∧ r v1 v2 (v3 + 1) (mU M (o + 1) v3.toNatClampNeg (0 : Int32))))
def p_X1_renew (o : Nat) (Q : Mem → Prop) : Nat → t_X1_renew
  | 0 => fun _ _ _ _ => False
  | n + 1 => f_X1_renew_2 o Q (p_X1_renew o Q n)
def e_X1_renew (o : Nat) (v1 : Int32) (v2 : Int32) (Q : Mem → Prop) (r : t_X1_renew) (M : Mem) : Prop := r v1 v2 (0 : Int32) M
def q_X1_renew (o : Nat) (v1 : Int32) (v2 : Int32) (M : Mem) (Q : Mem → Prop) : Prop := ∃ n : Nat, e_X1_renew o v1 v2 Q (p_X1_renew o Q n) M
set_option maxRecDepth 100000 in
set_option maxHeartbeats 4000000 in
theorem b_X1_renew {l : Launch} {K : wC} {o : Nat} {Q : Mem → Prop} {p : Program} {e : Env} {s : State} {m : MethodId} {args : Array Value} {below : List Frame} {meth : Method} {c : Code} (ho : isSh o) (C : cx 51 K p s m args meth c cX1_renew 4 wsX1_renew RX1 none) : ∀ n : Nat, (∀ (v1 : Int32) (v2 : Int32) (v3 : Int32) (M : Mem) (H : Heap) (locs : List Loc) (ls : Array Slot), (p_X1_renew o Q n) v1 v2 v3 M → wP shX 51 K M H → va_S (wA 51 K) s.heap H locs → lv_has ls 4 [(0, .ref (kb K + o)), (1, .int v1), (2, .int v2), (3, .int v3)] → W p l e rmX1_renew s m args below meth c H locs 0 0 (MQ below (va_Qv Q (wE shX 51 K) (wA 51 K)) args s 0 0 (wA 51 K)) (F0 m 2 ls [])) := by
  obtain ⟨hx, hb, hml, hown, hts, hr, hlk, hK⟩ := id C
  intro n
  induction n with
  | zero => exact fun _ _ _ _ _ _ _ hw _ _ _ => False.elim hw
  | succ n ih =>
    intro v1 v2 v3 M H locs ls hw hP hS hl
    have hw : f_X1_renew_2 o Q (p_X1_renew o Q n) v1 v2 v3 M := hw
    delta f_X1_renew_2 at hw
    refine lv_iload_n hx hb dX1_renew_2 rfl (lv_at hl 3 rfl) ?_
    refine lv_bipush hx hb dX1_renew_3 bp_40 ?_
    refine lv_icmp_ge (tgt := 21) hx hb dX1_renew_5 (by decide) (fun hc => ?_) (fun hc => ?_)
    · have hw := hw.1 hc
      refine lv_aload_n hx hb dX1_renew_21 rfl (lv_at hl 0 rfl) ?_
      refine lv_iload_n hx hb dX1_renew_22 rfl (lv_at hl 1 rfl) ?_
      refine p_f C hP hS (shb0 ho) (sh0 ho K _) (sh0 ho K _) rfl hX1_renew_X1 tyX1_ok nmX1 (by decide) kX1_renew_f15 rfl rfl rfl (Nat.le_of_ble_eq_true rfl) dX1_renew_23 (fun H locs hP hS => ?_)
      refine lv_aload_n hx hb dX1_renew_26 rfl (lv_at hl 0 rfl) ?_
      refine lv_iload_n hx hb dX1_renew_27 rfl (lv_at hl 2 rfl) ?_
      refine p_f C hP hS (shb0 ho) (sh0 ho K _) (sh0 ho K _) rfl hX1_renew_X1 tyX1_ok nmX1 (by decide) kX1_renew_f19 rfl rfl rfl (Nat.le_of_ble_eq_true rfl) dX1_renew_28 (fun H locs hP hS => ?_)
      exact r_v C hP hS hw dX1_renew_31
    · have hw := hw.2 hc
      refine lv_aload_n hx hb dX1_renew_8 rfl (lv_at hl 0 rfl) ?_
      refine g_f C hP (shb0 ho) (sh0 ho K _) rfl hX1_renew_X1 0 (by decide) kX1_renew_f9 rfl dX1_renew_9 ?_
      refine lv_iload_n hx hb dX1_renew_12 rfl (lv_at hl 3 rfl) ?_
      refine lv_iconst hx hb dX1_renew_13 ic_0 ?_
      have hi_1 := hw.1
      have hw := hw.2
      refine a_is C hP hS (shb ho 1 (by decide)) (sh1 ho K) hi_1 rfl dX1_renew_14 (fun H locs hP hS => ?_)
      refine lv_iinc (v := (v3 + 1)) (lv' := [(3, .int (v3 + 1)), (0, .ref (kb K + o)), (1, .int v1), (2, .int v2)]) hx hb dX1_renew_15 hl (k := 3) rfl (by rw [ic_1]) (by decide) rfl (fun ls hl => ?_)
      refine lv_goto (tgt := 2) hx hb dX1_renew_18 (by decide) ?_
      exact ih _ _ _ _ _ _ _ hw hP hS (lv_sub hl [1, 2, 3, 0] rfl)
theorem dsX1_renew : yX1_renew.cls = RX1 ∧ yX1_renew.cls ≠ "java/lang/invoke/MethodHandle" ∧ yX1_renew.cls ≠ "java/lang/invoke/VarHandle" ∧ (parseMethodDescriptor yX1_renew.desc).map (fun d => d.parameters.length) = some 2 := by decide +kernel
set_option maxRecDepth 100000 in
set_option maxHeartbeats 4000000 in
theorem c_X1_renew {l : Launch} {K : wC} {o : Nat} {v1 : Int32} {v2 : Int32} {M : Mem} {Q : Mem → Prop} (ho : isSh o) (hw : q_X1_renew o v1 v2 M Q) : metV l yX1_renew wsX1_renew rmX1_renew shX 51 K [.ref (kb K + o), .int v1, .int v2] M Q := by
  refine met_of (cc := cX1_renew) (maxL := 4) (ret := none) (own := RX1) (by decide) rfl rfl (Nat.le_of_ble_eq_true rfl) ?_
  intro p e s m below meth c ls C hl hP hS
  have hl : lv_has ls 4 [(0, .ref (kb K + o)), (1, .int v1), (2, .int v2)] := hl
  obtain ⟨hx, hb, hml, hown, hts, hr, hlk, hK⟩ := id C
  have hP0 := hP
  obtain ⟨n, hw⟩ := hw
  have ih := b_X1_renew (l := l) (e := e) (below := below) (Q := Q) ho C n
  delta e_X1_renew at hw
  refine lv_iconst hx hb dX1_renew_0 ic_0 ?_
  refine lv_istore_n (lv' := [(3, .int (0 : Int32)), (0, .ref (kb K + o)), (1, .int v1), (2, .int v2)]) hx hb dX1_renew_1 rfl hl (by decide) rfl (fun ls hl => ?_)
  exact ih _ _ _ _ _ _ _ hw hP hS (lv_sub hl [1, 2, 3, 0] rfl)

theorem kX1_layCell_f15 : Cond.fieldLink RX1 15 (TX1 1).1 (TX1 1).2.1 (TX1 1).2.2.1 ∈ wsX1_layCell := List.mem_of_getElem? (i := 1) rfl
theorem hX1_layCell_X1 : ∀ w ∈ u_ws RX1 TX1 3, w ∈ wsX1_layCell := fun _ h => List.mem_cons_of_mem _ (List.mem_append_right _ (h))
theorem kX1_layCell_f9 : Cond.fieldLink RX1 9 (TX1 0).1 (TX1 0).2.1 (TX1 0).2.2.1 ∈ wsX1_layCell := List.mem_of_getElem? (i := 2) rfl
abbrev rmX1_layCell : Room := { frames := 0, cells := 0, slots := 0, locals := 0 }
def q_X1_layCell (o : Nat) (v1 : Int32) (v2 : Int32) (M : Mem) (Q : Mem → Prop) : Prop := ((¬ (M o 1) = 0 → ((¬ (M o 1) = (1 : Int32) → vp_in v1 40 ∧ Q (mU M (o + 1) v1.toNatClampNeg v2)) ∧ ((M o 1) = (1 : Int32) → vp_in v1 40 ∧ Q (mU M (o + 1) v1.toNatClampNeg v2.toInt16.toInt32)))) ∧ ((M o 1) = 0 → vp_in v1 40 ∧ Q (mU M (o + 1) v1.toNatClampNeg v2.toInt8.toInt32)))
theorem dsX1_layCell : yX1_layCell.cls = RX1 ∧ yX1_layCell.cls ≠ "java/lang/invoke/MethodHandle" ∧ yX1_layCell.cls ≠ "java/lang/invoke/VarHandle" ∧ (parseMethodDescriptor yX1_layCell.desc).map (fun d => d.parameters.length) = some 2 := by decide +kernel
set_option maxRecDepth 100000 in
set_option maxHeartbeats 4000000 in
theorem c_X1_layCell {l : Launch} {K : wC} {o : Nat} {v1 : Int32} {v2 : Int32} {M : Mem} {Q : Mem → Prop} (ho : isSh o) (hw : q_X1_layCell o v1 v2 M Q) : metV l yX1_layCell wsX1_layCell rmX1_layCell shX 51 K [.ref (kb K + o), .int v1, .int v2] M Q := by
  refine met_of (cc := cX1_layCell) (maxL := 3) (ret := none) (own := RX1) (by decide) rfl rfl (Nat.le_of_ble_eq_true rfl) ?_
  intro p e s m below meth c ls C hl hP hS
  have hl : lv_has ls 3 [(0, .ref (kb K + o)), (1, .int v1), (2, .int v2)] := hl
  obtain ⟨hx, hb, hml, hown, hts, hr, hlk, hK⟩ := id C
  have hP0 := hP
  delta q_X1_layCell at hw
  refine lv_aload_n hx hb dX1_layCell_0 rfl (lv_at hl 0 rfl) ?_
  refine g_f C hP (shb0 ho) (sh0 ho K _) rfl hX1_layCell_X1 1 (by decide) kX1_layCell_f15 rfl dX1_layCell_1 ?_
  refine lv_if_ne (tgt := 18) hx hb dX1_layCell_4 (by decide) (fun hc => ?_) (fun hc => ?_)
  · have hw := hw.1 hc
    refine lv_aload_n hx hb dX1_layCell_18 rfl (lv_at hl 0 rfl) ?_
    refine g_f C hP (shb0 ho) (sh0 ho K _) rfl hX1_layCell_X1 1 (by decide) kX1_layCell_f15 rfl dX1_layCell_19 ?_
    refine lv_iconst hx hb dX1_layCell_22 ic_1 ?_
    refine lv_icmp_ne (tgt := 37) hx hb dX1_layCell_23 (by decide) (fun hc => ?_) (fun hc => ?_)
    · have hw := hw.1 hc
      refine lv_aload_n hx hb dX1_layCell_37 rfl (lv_at hl 0 rfl) ?_
      refine g_f C hP (shb0 ho) (sh0 ho K _) rfl hX1_layCell_X1 0 (by decide) kX1_layCell_f9 rfl dX1_layCell_38 ?_
      refine lv_iload_n hx hb dX1_layCell_41 rfl (lv_at hl 1 rfl) ?_
      refine lv_iload_n hx hb dX1_layCell_42 rfl (lv_at hl 2 rfl) ?_
      have hi_1 := hw.1
      have hw := hw.2
      refine a_is C hP hS (shb ho 1 (by decide)) (sh1 ho K) hi_1 rfl dX1_layCell_43 (fun H locs hP hS => ?_)
      exact r_v C hP hS hw dX1_layCell_44
    · have hw := hw.2 hc
      refine lv_aload_n hx hb dX1_layCell_26 rfl (lv_at hl 0 rfl) ?_
      refine g_f C hP (shb0 ho) (sh0 ho K _) rfl hX1_layCell_X1 0 (by decide) kX1_layCell_f9 rfl dX1_layCell_27 ?_
      refine lv_iload_n hx hb dX1_layCell_30 rfl (lv_at hl 1 rfl) ?_
      refine lv_iload_n hx hb dX1_layCell_31 rfl (lv_at hl 2 rfl) ?_
      refine lv_i2s hx hb dX1_layCell_32 rfl ?_
      have hi_2 := hw.1
      have hw := hw.2
      refine a_is C hP hS (shb ho 1 (by decide)) (sh1 ho K) hi_2 rfl dX1_layCell_33 (fun H locs hP hS => ?_)
      refine lv_goto (tgt := 44) hx hb dX1_layCell_34 (by decide) ?_
      exact r_v C hP hS hw dX1_layCell_44
  · have hw := hw.2 hc
    refine lv_aload_n hx hb dX1_layCell_7 rfl (lv_at hl 0 rfl) ?_
    refine g_f C hP (shb0 ho) (sh0 ho K _) rfl hX1_layCell_X1 0 (by decide) kX1_layCell_f9 rfl dX1_layCell_8 ?_
    refine lv_iload_n hx hb dX1_layCell_11 rfl (lv_at hl 1 rfl) ?_
    refine lv_iload_n hx hb dX1_layCell_12 rfl (lv_at hl 2 rfl) ?_
    refine lv_i2b hx hb dX1_layCell_13 rfl ?_
    have hi_3 := hw.1
    have hw := hw.2
    refine a_is C hP hS (shb ho 1 (by decide)) (sh1 ho K) hi_3 rfl dX1_layCell_14 (fun H locs hP hS => ?_)
    refine lv_goto (tgt := 44) hx hb dX1_layCell_15 (by decide) ?_
    exact r_v C hP hS hw dX1_layCell_44

abbrev rmX5_within : Room := { frames := 0, cells := 0, slots := 0, locals := 0 }
def q_X5_within (v0 : Int32) (v1 : Int32) (v2 : Int32) (M : Mem) (Q : Int32 → Mem → Prop) : Prop := ((v0 < v1 → Q (0 : Int32) M) ∧ (¬ v0 < v1 → ((v2 < v0 → Q (0 : Int32) M) ∧ (¬ v2 < v0 → Q (1 : Int32) M))))
theorem dsX5_within : yX5_within.cls ≠ "java/lang/invoke/MethodHandle" ∧ yX5_within.cls ≠ "java/lang/invoke/VarHandle" ∧ (parseMethodDescriptor yX5_within.desc).map (fun d => d.parameters.length) = some 3 := by decide +kernel
set_option maxRecDepth 100000 in
set_option maxHeartbeats 4000000 in
theorem c_X5_within {l : Launch} {K : wC} {v0 : Int32} {v1 : Int32} {v2 : Int32} {M : Mem} {Q : Int32 → Mem → Prop} (hw : q_X5_within v0 v1 v2 M Q) : metI l yX5_within wsX5_within rmX5_within shX 51 K [.int v0, .int v1, .int v2] M Q := by
  refine met_of (cc := cX5_within) (maxL := 3) (ret := (some .boolean)) (own := RX5) (by decide) rfl rfl (Nat.le_of_ble_eq_true rfl) ?_
  intro p e s m below meth c ls C hl hP hS
  have hl : lv_has ls 3 [(0, .int v0), (1, .int v1), (2, .int v2)] := hl
  obtain ⟨hx, hb, hml, hown, hts, hr, hlk, hK⟩ := id C
  have hP0 := hP
  delta q_X5_within at hw
  refine lv_iload_n hx hb dX5_within_0 rfl (lv_at hl 0 rfl) ?_
  refine lv_iload_n hx hb dX5_within_1 rfl (lv_at hl 1 rfl) ?_
  refine lv_icmp_lt (tgt := 14) hx hb dX5_within_2 (by decide) (fun hc => ?_) (fun hc => ?_)
  · have hw := hw.1 hc
    refine lv_iconst hx hb dX5_within_14 ic_0 ?_
    exact r_z C (by decide) hP hS hw dX5_within_15
  · have hw := hw.2 hc
    refine lv_iload_n hx hb dX5_within_5 rfl (lv_at hl 0 rfl) ?_
    refine lv_iload_n hx hb dX5_within_6 rfl (lv_at hl 2 rfl) ?_
    refine lv_icmp_gt (tgt := 14) hx hb dX5_within_7 (by decide) (fun hc => ?_) (fun hc => ?_)
    · have hw := hw.1 hc
      refine lv_iconst hx hb dX5_within_14 ic_0 ?_
      exact r_z C (by decide) hP hS hw dX5_within_15
    · have hw := hw.2 hc
      refine lv_iconst hx hb dX5_within_10 ic_1 ?_
      refine lv_goto (tgt := 15) hx hb dX5_within_11 (by decide) ?_
      exact r_z C (by decide) hP hS hw dX5_within_15

theorem kX1_faultAt_f15 : Cond.fieldLink RX1 15 (TX1 1).1 (TX1 1).2.1 (TX1 1).2.2.1 ∈ wsX1_faultAt := List.mem_of_getElem? (i := 1) rfl
theorem hX1_faultAt_X1 : ∀ w ∈ u_ws RX1 TX1 3, w ∈ wsX1_faultAt := fun _ h => List.mem_cons_of_mem _ (List.mem_append_right _ (h))
theorem kX1_faultAt_f19 : Cond.fieldLink RX1 19 (TX1 2).1 (TX1 2).2.1 (TX1 2).2.2.1 ∈ wsX1_faultAt := List.mem_of_getElem? (i := 2) rfl
theorem kX1_faultAt_ni : Cond.initialized RX5 ∈ wsX1_faultAt := List.mem_of_getElem? (i := 9) rfl
theorem kX1_faultAt_ns : Cond.static yX5_within ∈ wsX1_faultAt := List.mem_of_getElem? (i := 8) rfl
abbrev rmX1_faultAt : Room := { frames := 1, cells := 0, slots := 0, locals := 22 }
def q_X1_faultAt (o : Nat) (v1 : Int32) (v2 : Int32) (M : Mem) (Q : Int32 → Mem → Prop) : Prop := q_X1_isNothing o M (fun r_2 M_1 => ((r_2 = 0 → ((v1 = (M_1 o 1) → q_X5_within v2 (0 : Int32) ((M_1 o 2) - (1 : Int32)) M_1 (fun r_4 M_3 => ((r_4 = 0 → Q (2 : Int32) M_3) ∧ (¬ r_4 = 0 → Q (0 : Int32) M_3)))) ∧ (¬ v1 = (M_1 o 1) → Q (3 : Int32) M_1))) ∧ (¬ r_2 = 0 → Q (1 : Int32) M_1)))
theorem dsX1_faultAt : yX1_faultAt.cls = RX1 ∧ yX1_faultAt.cls ≠ "java/lang/invoke/MethodHandle" ∧ yX1_faultAt.cls ≠ "java/lang/invoke/VarHandle" ∧ (parseMethodDescriptor yX1_faultAt.desc).map (fun d => d.parameters.length) = some 2 := by decide +kernel
set_option maxRecDepth 100000 in
set_option maxHeartbeats 4000000 in
theorem c_X1_faultAt {l : Launch} {K : wC} {o : Nat} {v1 : Int32} {v2 : Int32} {M : Mem} {Q : Int32 → Mem → Prop} (ho : isSh o) (hw : q_X1_faultAt o v1 v2 M Q) : metI l yX1_faultAt wsX1_faultAt rmX1_faultAt shX 51 K [.ref (kb K + o), .int v1, .int v2] M Q := by
  refine met_of (cc := cX1_faultAt) (maxL := 3) (ret := (some .int)) (own := RX1) (by decide) rfl rfl (Nat.le_of_ble_eq_true rfl) ?_
  intro p e s m below meth c ls C hl hP hS
  have hl : lv_has ls 3 [(0, .ref (kb K + o)), (1, .int v1), (2, .int v2)] := hl
  obtain ⟨hx, hb, hml, hown, hts, hr, hlk, hK⟩ := id C
  have hP0 := hP
  delta q_X1_faultAt at hw
  refine lv_aload_n hx hb dX1_faultAt_0 rfl (lv_at hl 0 rfl) ?_
  refine c_i (run_v (As := []) (rest := []) C hP hS (c_X1_isNothing ho hw) gX1_faultAt_X1_isNothing rfl dsX1_isNothing rfl ⟨rfl, rfl⟩ ⟨Nat.le_of_ble_eq_true rfl, Nat.le_of_ble_eq_true rfl⟩ (shb0 ho) (sh0 ho K _) rfl hl.1 rfl (Nat.le_of_ble_eq_true rfl) dX1_faultAt_1 ⟨Nat.le_of_ble_eq_true rfl, Nat.le_of_ble_eq_true rfl⟩) hS (fun r_2 M_1 H locs hw hP hS => ?_)
  refine lv_if_eq (tgt := 9) hx hb dX1_faultAt_4 (by decide) (fun hc => ?_) (fun hc => ?_)
  · have hw := hw.1 hc
    refine lv_iload_n hx hb dX1_faultAt_9 rfl (lv_at hl 1 rfl) ?_
    refine lv_aload_n hx hb dX1_faultAt_10 rfl (lv_at hl 0 rfl) ?_
    refine g_f C hP (shb0 ho) (sh0 ho K _) rfl hX1_faultAt_X1 1 (by decide) kX1_faultAt_f15 rfl dX1_faultAt_11 ?_
    refine lv_icmp_eq (tgt := 19) hx hb dX1_faultAt_14 (by decide) (fun hc => ?_) (fun hc => ?_)
    · have hw := hw.1 hc
      refine lv_iload_n hx hb dX1_faultAt_19 rfl (lv_at hl 2 rfl) ?_
      refine lv_iconst hx hb dX1_faultAt_20 ic_0 ?_
      refine lv_aload_n hx hb dX1_faultAt_21 rfl (lv_at hl 0 rfl) ?_
      refine g_f C hP (shb0 ho) (sh0 ho K _) rfl hX1_faultAt_X1 2 (by decide) kX1_faultAt_f19 rfl dX1_faultAt_22 ?_
      refine lv_iconst hx hb dX1_faultAt_25 ic_1 ?_
      refine lv_isub hx hb dX1_faultAt_26 ?_
      refine c_i (run_n (As := [.int v2, .int (0 : Int32), .int ((M_1 o 2) - (1 : Int32))]) (rest := []) C hP hS (c_X5_within hw) gX1_faultAt_X5_within_n26 rfl hK.2.1 kX1_faultAt_ni kX1_faultAt_ns dsX5_within rfl ⟨rfl, rfl⟩ ⟨Nat.le_of_ble_eq_true rfl, Nat.le_of_ble_eq_true rfl⟩ hl.1 rfl (Nat.le_of_ble_eq_true rfl) dX1_faultAt_27 ⟨Nat.le_of_ble_eq_true rfl, Nat.le_of_ble_eq_true rfl⟩) hS (fun r_4 M_3 H locs hw hP hS => ?_)
      refine lv_if_eq (tgt := 37) hx hb dX1_faultAt_30 (by decide) (fun hc => ?_) (fun hc => ?_)
      · have hw := hw.1 hc
        refine lv_iconst hx hb dX1_faultAt_37 ic_2 ?_
        exact r_i C hP hS hw dX1_faultAt_38
      · have hw := hw.2 hc
        refine lv_iconst hx hb dX1_faultAt_33 ic_0 ?_
        refine lv_goto (tgt := 38) hx hb dX1_faultAt_34 (by decide) ?_
        exact r_i C hP hS hw dX1_faultAt_38
    · have hw := hw.2 hc
      refine lv_iconst hx hb dX1_faultAt_17 ic_3 ?_
      exact r_i C hP hS hw dX1_faultAt_18
  · have hw := hw.2 hc
    refine lv_iconst hx hb dX1_faultAt_7 ic_1 ?_
    exact r_i C hP hS hw dX1_faultAt_8

abbrev rmX1_faultAtPair : Room := { frames := 2, cells := 0, slots := 0, locals := 44 }
def q_X1_faultAtPair (o : Nat) (v1 : Int32) (v2 : Int32) (M : Mem) (Q : Int32 → Mem → Prop) : Prop := q_X1_faultAt o v1 v2 M (fun r_2 M_1 => ((r_2 = 0 → q_X1_faultAt o v1 (v2 + (1 : Int32)) M_1 (fun r_4 M_3 => Q r_4 M_3)) ∧ (¬ r_2 = 0 → Q r_2 M_1)))
theorem dsX1_faultAtPair : yX1_faultAtPair.cls = RX1 ∧ yX1_faultAtPair.cls ≠ "java/lang/invoke/MethodHandle" ∧ yX1_faultAtPair.cls ≠ "java/lang/invoke/VarHandle" ∧ (parseMethodDescriptor yX1_faultAtPair.desc).map (fun d => d.parameters.length) = some 2 := by decide +kernel
set_option maxRecDepth 100000 in
set_option maxHeartbeats 4000000 in
theorem c_X1_faultAtPair {l : Launch} {K : wC} {o : Nat} {v1 : Int32} {v2 : Int32} {M : Mem} {Q : Int32 → Mem → Prop} (ho : isSh o) (hw : q_X1_faultAtPair o v1 v2 M Q) : metI l yX1_faultAtPair wsX1_faultAtPair rmX1_faultAtPair shX 51 K [.ref (kb K + o), .int v1, .int v2] M Q := by
  refine met_of (cc := cX1_faultAtPair) (maxL := 4) (ret := (some .int)) (own := RX1) (by decide) rfl rfl (Nat.le_of_ble_eq_true rfl) ?_
  intro p e s m below meth c ls C hl hP hS
  have hl : lv_has ls 4 [(0, .ref (kb K + o)), (1, .int v1), (2, .int v2)] := hl
  obtain ⟨hx, hb, hml, hown, hts, hr, hlk, hK⟩ := id C
  have hP0 := hP
  delta q_X1_faultAtPair at hw
  refine lv_aload_n hx hb dX1_faultAtPair_0 rfl (lv_at hl 0 rfl) ?_
  refine lv_iload_n hx hb dX1_faultAtPair_1 rfl (lv_at hl 1 rfl) ?_
  refine lv_iload_n hx hb dX1_faultAtPair_2 rfl (lv_at hl 2 rfl) ?_
  refine c_i (run_v (As := [.int v1, .int v2]) (rest := []) C hP hS (c_X1_faultAt ho hw) gX1_faultAtPair_X1_faultAt rfl dsX1_faultAt rfl ⟨rfl, rfl⟩ ⟨Nat.le_of_ble_eq_true rfl, Nat.le_of_ble_eq_true rfl⟩ (shb0 ho) (sh0 ho K _) rfl hl.1 rfl (Nat.le_of_ble_eq_true rfl) dX1_faultAtPair_3 ⟨Nat.le_of_ble_eq_true rfl, Nat.le_of_ble_eq_true rfl⟩) hS (fun r_2 M_1 H locs hw hP hS => ?_)
  refine lv_istore_n (lv' := [(3, .int r_2), (0, .ref (kb K + o)), (1, .int v1), (2, .int v2)]) hx hb dX1_faultAtPair_6 rfl hl (by decide) rfl (fun ls hl => ?_)
  refine lv_iload_n hx hb dX1_faultAtPair_7 rfl (lv_at hl 0 rfl) ?_
  refine lv_if_eq (tgt := 15) hx hb dX1_faultAtPair_8 (by decide) (fun hc => ?_) (fun hc => ?_)
  · have hw := hw.1 hc
    refine lv_aload_n hx hb dX1_faultAtPair_15 rfl (lv_at hl 1 rfl) ?_
    refine lv_iload_n hx hb dX1_faultAtPair_16 rfl (lv_at hl 2 rfl) ?_
    refine lv_iload_n hx hb dX1_faultAtPair_17 rfl (lv_at hl 3 rfl) ?_
    refine lv_iconst hx hb dX1_faultAtPair_18 ic_1 ?_
    refine lv_iadd hx hb dX1_faultAtPair_19 ?_
    refine c_i (run_v (As := [.int v1, .int (v2 + (1 : Int32))]) (rest := []) C hP hS (c_X1_faultAt ho hw) gX1_faultAtPair_X1_faultAt rfl dsX1_faultAt rfl ⟨rfl, rfl⟩ ⟨Nat.le_of_ble_eq_true rfl, Nat.le_of_ble_eq_true rfl⟩ (shb0 ho) (sh0 ho K _) rfl hl.1 rfl (Nat.le_of_ble_eq_true rfl) dX1_faultAtPair_20 ⟨Nat.le_of_ble_eq_true rfl, Nat.le_of_ble_eq_true rfl⟩) hS (fun r_4 M_3 H locs hw hP hS => ?_)
    exact r_i C hP hS hw dX1_faultAtPair_23
  · have hw := hw.2 hc
    refine lv_iload_n hx hb dX1_faultAtPair_11 rfl (lv_at hl 0 rfl) ?_
    refine lv_goto (tgt := 23) hx hb dX1_faultAtPair_12 (by decide) ?_
    exact r_i C hP hS hw dX1_faultAtPair_23

theorem kX2_append_f21 : Cond.fieldLink RX2 21 (TX2 3).1 (TX2 3).2.1 (TX2 3).2.2.1 ∈ wsX2_append := List.mem_of_getElem? (i := 1) rfl
theorem hX2_append_X2 : ∀ w ∈ u_ws RX2 TX2 4, w ∈ wsX2_append := fun _ h => List.mem_cons_of_mem _ (List.mem_append_right _ (h))
theorem kX2_append_f9 : Cond.fieldLink RX2 9 (TX2 0).1 (TX2 0).2.1 (TX2 0).2.2.1 ∈ wsX2_append := List.mem_of_getElem? (i := 2) rfl
theorem kX2_append_f15 : Cond.fieldLink RX2 15 (TX2 1).1 (TX2 1).2.1 (TX2 1).2.2.1 ∈ wsX2_append := List.mem_of_getElem? (i := 3) rfl
theorem kX2_append_f18 : Cond.fieldLink RX2 18 (TX2 2).1 (TX2 2).2.1 (TX2 2).2.2.1 ∈ wsX2_append := List.mem_of_getElem? (i := 4) rfl
abbrev rmX2_append : Room := { frames := 0, cells := 0, slots := 0, locals := 0 }
def q_X2_append (v1 : Int32) (v2 : Int32) (v3 : Int32) (M : Mem) (Q : Mem → Prop) : Prop := (((6 : Int32) ≤ (M 24 3) → Q M) ∧ (¬ (6 : Int32) ≤ (M 24 3) → vp_in (M 24 3) 6 ∧ vp_in ((mU M 25 (M 24 3).toNatClampNeg v1) 24 3) 6 ∧ (∀ M_3 : Mem, M_3 = mU (mU M 25 (M 24 3).toNatClampNeg v1) 26 ((mU M 25 (M 24 3).toNatClampNeg v1) 24 3).toNatClampNeg v2 → vp_in (M_3 24 3) 6 ∧ (∀ M_5 : Mem, M_5 = mU (mU M_3 27 (M_3 24 3).toNatClampNeg v3) 24 3 (((mU M_3 27 (M_3 24 3).toNatClampNeg v3) 24 3) + (1 : Int32)) → Q M_5))))
theorem dsX2_append : yX2_append.cls = RX2 ∧ yX2_append.cls ≠ "java/lang/invoke/MethodHandle" ∧ yX2_append.cls ≠ "java/lang/invoke/VarHandle" ∧ (parseMethodDescriptor yX2_append.desc).map (fun d => d.parameters.length) = some 3 := by decide +kernel
set_option maxRecDepth 100000 in
set_option maxHeartbeats 4000000 in
theorem c_X2_append {l : Launch} {K : wC} {v1 : Int32} {v2 : Int32} {v3 : Int32} {M : Mem} {Q : Mem → Prop} (hw : q_X2_append v1 v2 v3 M Q) : metV l yX2_append wsX2_append rmX2_append shX 51 K [.ref (kb K + 24), .int v1, .int v2, .int v3] M Q := by
  refine met_of (cc := cX2_append) (maxL := 4) (ret := none) (own := RX2) (by decide) rfl rfl (Nat.le_of_ble_eq_true rfl) ?_
  intro p e s m below meth c ls C hl hP hS
  have hl : lv_has ls 4 [(0, .ref (kb K + 24)), (1, .int v1), (2, .int v2), (3, .int v3)] := hl
  obtain ⟨hx, hb, hml, hown, hts, hr, hlk, hK⟩ := id C
  have hP0 := hP
  delta q_X2_append at hw
  refine lv_aload_n hx hb dX2_append_0 rfl (lv_at hl 0 rfl) ?_
  refine g_f C hP (by decide) (sX_24 K _) rfl hX2_append_X2 3 (by decide) kX2_append_f21 rfl dX2_append_1 ?_
  refine lv_bipush hx hb dX2_append_4 bp_6 ?_
  refine lv_icmp_ge (tgt := 49) hx hb dX2_append_6 (by decide) (fun hc => ?_) (fun hc => ?_)
  · have hw := hw.1 hc
    exact r_v C hP hS hw dX2_append_49
  · have hw := hw.2 hc
    refine lv_aload_n hx hb dX2_append_9 rfl (lv_at hl 0 rfl) ?_
    refine g_f C hP (by decide) (sX_24 K _) rfl hX2_append_X2 0 (by decide) kX2_append_f9 rfl dX2_append_10 ?_
    refine lv_aload_n hx hb dX2_append_13 rfl (lv_at hl 0 rfl) ?_
    refine g_f C hP (by decide) (sX_24 K _) rfl hX2_append_X2 3 (by decide) kX2_append_f21 rfl dX2_append_14 ?_
    refine lv_iload_n hx hb dX2_append_17 rfl (lv_at hl 1 rfl) ?_
    have hi_1 := hw.1
    have hw := hw.2
    refine a_is C hP hS (by decide) (sX_25 K) hi_1 rfl dX2_append_18 (fun H locs hP hS => ?_)
    refine lv_aload_n hx hb dX2_append_19 rfl (lv_at hl 0 rfl) ?_
    refine g_f C hP (by decide) (sX_24 K _) rfl hX2_append_X2 1 (by decide) kX2_append_f15 rfl dX2_append_20 ?_
    refine lv_aload_n hx hb dX2_append_23 rfl (lv_at hl 0 rfl) ?_
    refine g_f C hP (by decide) (sX_24 K _) rfl hX2_append_X2 3 (by decide) kX2_append_f21 rfl dX2_append_24 ?_
    refine lv_iload_n hx hb dX2_append_27 rfl (lv_at hl 2 rfl) ?_
    have hi_2 := hw.1
    have hw := hw.2
    refine a_is C hP hS (by decide) (sX_26 K) hi_2 rfl dX2_append_28 (fun H locs hP hS => ?_)
    obtain ⟨M_3, eM_3⟩ : ∃ z : Mem, z = mU (mU M 25 (M 24 3).toNatClampNeg v1) 26 ((mU M 25 (M 24 3).toNatClampNeg v1) 24 3).toNatClampNeg v2 := ⟨_, rfl⟩
    rw [← eM_3] at hP
    have hw := hw M_3 eM_3
    refine lv_aload_n hx hb dX2_append_29 rfl (lv_at hl 0 rfl) ?_
    refine g_f C hP (by decide) (sX_24 K _) rfl hX2_append_X2 2 (by decide) kX2_append_f18 rfl dX2_append_30 ?_
    refine lv_aload_n hx hb dX2_append_33 rfl (lv_at hl 0 rfl) ?_
    refine g_f C hP (by decide) (sX_24 K _) rfl hX2_append_X2 3 (by decide) kX2_append_f21 rfl dX2_append_34 ?_
    refine lv_iload_n hx hb dX2_append_37 rfl (lv_at hl 3 rfl) ?_
    have hi_4 := hw.1
    have hw := hw.2
    refine a_is C hP hS (by decide) (sX_27 K) hi_4 rfl dX2_append_38 (fun H locs hP hS => ?_)
    refine lv_aload_n hx hb dX2_append_39 rfl (lv_at hl 0 rfl) ?_
    refine lv_dup hx hb dX2_append_40 rfl ?_
    refine g_f C hP (by decide) (sX_24 K _) rfl hX2_append_X2 3 (by decide) kX2_append_f21 rfl dX2_append_41 ?_
    refine lv_iconst hx hb dX2_append_44 ic_1 ?_
    refine lv_iadd hx hb dX2_append_45 ?_
    refine p_f C hP hS (by decide) (sX_24 K _) (sX_24 K _) rfl hX2_append_X2 tyX2_ok nmX2 (by decide) kX2_append_f21 rfl rfl rfl (Nat.le_of_ble_eq_true rfl) dX2_append_46 (fun H locs hP hS => ?_)
    obtain ⟨M_5, eM_5⟩ : ∃ z : Mem, z = mU (mU M_3 27 (M_3 24 3).toNatClampNeg v3) 24 3 (((mU M_3 27 (M_3 24 3).toNatClampNeg v3) 24 3) + (1 : Int32)) := ⟨_, rfl⟩
    rw [← eM_5] at hP
    have hw := hw M_5 eM_5
    exact r_v C hP hS hw dX2_append_49

theorem kX2_agreeWith_f21 : Cond.fieldLink RX2 21 (TX2 3).1 (TX2 3).2.1 (TX2 3).2.2.1 ∈ wsX2_agreeWith := List.mem_of_getElem? (i := 1) rfl
theorem hX2_agreeWith_X2 : ∀ w ∈ u_ws RX2 TX2 4, w ∈ wsX2_agreeWith := fun _ h => List.mem_cons_of_mem _ (List.mem_append_left _ (List.mem_append_right _ (h)))
theorem kX2_agreeWith_f15 : Cond.fieldLink RX2 15 (TX2 1).1 (TX2 1).2.1 (TX2 1).2.2.1 ∈ wsX2_agreeWith := List.mem_of_getElem? (i := 2) rfl
theorem kX2_agreeWith_f25 : Cond.fieldLink RX2 25 (TX0 6).1 (TX0 6).2.1 (TX0 6).2.2.1 ∈ wsX2_agreeWith := List.mem_of_getElem? (i := 3) rfl
theorem hX2_agreeWith_X0 : ∀ w ∈ u_ws RX0 TX0 10, w ∈ wsX2_agreeWith := fun _ h => List.mem_cons_of_mem _ (List.mem_append_right _ (h))
theorem kX2_agreeWith_f9 : Cond.fieldLink RX2 9 (TX2 0).1 (TX2 0).2.1 (TX2 0).2.2.1 ∈ wsX2_agreeWith := List.mem_of_getElem? (i := 4) rfl
theorem kX2_agreeWith_f18 : Cond.fieldLink RX2 18 (TX2 2).1 (TX2 2).2.1 (TX2 2).2.2.1 ∈ wsX2_agreeWith := List.mem_of_getElem? (i := 5) rfl
abbrev rmX2_agreeWith : Room := { frames := 4, cells := 0, slots := 0, locals := 89 }
abbrev t_X2_agreeWith : Type := (Int32 → Mem → Prop)
def f_X2_agreeWith_2 (o1 : Nat) (Q : Int32 → Mem → Prop) (r : t_X2_agreeWith) (v2 : Int32) (M : Mem) : Prop := (((M 24 3) ≤ v2 → Q (1 : Int32) M) ∧ (¬ (M 24 3) ≤ v2 → vp_in v2 6 ∧ (((M o1 6) ≤ (M 26 v2.toNatClampNeg) → Q (0 : Int32) M) ∧ (¬ (M o1 6) ≤ (M 26 v2.toNatClampNeg) → vp_in v2 6 ∧ vp_in v2 6 ∧ q_X0_readsAhead o1 (M 26 v2.toNatClampNeg) (M 25 v2.toNatClampNeg) M (fun r_5 M_4 => vp_in v2 6 ∧ ((r_5 = (M_4 27 v2.toNatClampNeg) → r (v2 + 1) M_4) ∧ (¬ r_5 = (M_4 27 v2.toNatClampNeg) → Q (0 : Int32) M_4)))))))
def p_X2_agreeWith (o1 : Nat) (Q : Int32 → Mem → Prop) : Nat → t_X2_agreeWith
  | 0 => fun _ _ => False
  | n + 1 => f_X2_agreeWith_2 o1 Q (p_X2_agreeWith o1 Q n)
def e_X2_agreeWith (o1 : Nat) (Q : Int32 → Mem → Prop) (r : t_X2_agreeWith) (M : Mem) : Prop := r (0 : Int32) M
def q_X2_agreeWith (o1 : Nat) (M : Mem) (Q : Int32 → Mem → Prop) : Prop := ∃ n : Nat, e_X2_agreeWith o1 Q (p_X2_agreeWith o1 Q n) M
set_option maxRecDepth 100000 in
set_option maxHeartbeats 4000000 in
theorem b_X2_agreeWith {l : Launch} {K : wC} {o1 : Nat} {Q : Int32 → Mem → Prop} {p : Program} {e : Env} {s : State} {m : MethodId} {args : Array Value} {below : List Frame} {meth : Method} {c : Code} (ho1 : isLay o1) (C : cx 51 K p s m args meth c cX2_agreeWith 3 wsX2_agreeWith RX2 (some .boolean)) : ∀ n : Nat, (∀ (v2 : Int32) (M : Mem) (H : Heap) (locs : List Loc) (ls : Array Slot), (p_X2_agreeWith o1 Q n) v2 M → wP shX 51 K M H → va_S (wA 51 K) s.heap H locs → lv_has ls 3 [(0, .ref (kb K + 24)), (1, .ref (kb K + o1)), (2, .int v2)] → W p l e rmX2_agreeWith s m args below meth c H locs 0 0 (MQ below (va_Qi Q (wE shX 51 K) (wA 51 K)) args s 0 0 (wA 51 K)) (F0 m 2 ls [])) := by
  obtain ⟨hx, hb, hml, hown, hts, hr, hlk, hK⟩ := id C
  intro n
  induction n with
  | zero => exact fun _ _ _ _ _ hw _ _ _ => False.elim hw
  | succ n ih =>
    intro v2 M H locs ls hw hP hS hl
    have hw : f_X2_agreeWith_2 o1 Q (p_X2_agreeWith o1 Q n) v2 M := hw
    delta f_X2_agreeWith_2 at hw
    refine lv_iload_n hx hb dX2_agreeWith_2 rfl (lv_at hl 2 rfl) ?_
    refine lv_aload_n hx hb dX2_agreeWith_3 rfl (lv_at hl 0 rfl) ?_
    refine g_f C hP (by decide) (sX_24 K _) rfl hX2_agreeWith_X2 3 (by decide) kX2_agreeWith_f21 rfl dX2_agreeWith_4 ?_
    refine lv_icmp_ge (tgt := 56) hx hb dX2_agreeWith_7 (by decide) (fun hc => ?_) (fun hc => ?_)
    · have hw := hw.1 hc
      refine lv_iconst hx hb dX2_agreeWith_56 ic_1 ?_
      exact r_z C (by decide) hP hS hw dX2_agreeWith_57
    · have hw := hw.2 hc
      refine lv_aload_n hx hb dX2_agreeWith_10 rfl (lv_at hl 0 rfl) ?_
      refine g_f C hP (by decide) (sX_24 K _) rfl hX2_agreeWith_X2 1 (by decide) kX2_agreeWith_f15 rfl dX2_agreeWith_11 ?_
      refine lv_iload_n hx hb dX2_agreeWith_14 rfl (lv_at hl 2 rfl) ?_
      have hi_1 := hw.1
      have hw := hw.2
      refine a_il C hP (by decide) (sX_26 K _) hi_1 rfl dX2_agreeWith_15 ?_
      refine lv_aload_n hx hb dX2_agreeWith_16 rfl (lv_at hl 1 rfl) ?_
      refine g_f C hP (layb0 ho1) (lay0 ho1 K _) rfl hX2_agreeWith_X0 6 (by decide) kX2_agreeWith_f25 rfl dX2_agreeWith_17 ?_
      refine lv_icmp_ge (tgt := 48) hx hb dX2_agreeWith_20 (by decide) (fun hc => ?_) (fun hc => ?_)
      · have hw := hw.1 hc
        refine lv_iconst hx hb dX2_agreeWith_48 ic_0 ?_
        exact r_z C (by decide) hP hS hw dX2_agreeWith_49
      · have hw := hw.2 hc
        refine lv_aload_n hx hb dX2_agreeWith_23 rfl (lv_at hl 1 rfl) ?_
        refine lv_aload_n hx hb dX2_agreeWith_24 rfl (lv_at hl 0 rfl) ?_
        refine g_f C hP (by decide) (sX_24 K _) rfl hX2_agreeWith_X2 1 (by decide) kX2_agreeWith_f15 rfl dX2_agreeWith_25 ?_
        refine lv_iload_n hx hb dX2_agreeWith_28 rfl (lv_at hl 2 rfl) ?_
        have hi_2 := hw.1
        have hw := hw.2
        refine a_il C hP (by decide) (sX_26 K _) hi_2 rfl dX2_agreeWith_29 ?_
        refine lv_aload_n hx hb dX2_agreeWith_30 rfl (lv_at hl 0 rfl) ?_
        refine g_f C hP (by decide) (sX_24 K _) rfl hX2_agreeWith_X2 0 (by decide) kX2_agreeWith_f9 rfl dX2_agreeWith_31 ?_
        refine lv_iload_n hx hb dX2_agreeWith_34 rfl (lv_at hl 2 rfl) ?_
        have hi_3 := hw.1
        have hw := hw.2
        refine a_il C hP (by decide) (sX_25 K _) hi_3 rfl dX2_agreeWith_35 ?_
        refine c_i (run_v (As := [.int (M 26 v2.toNatClampNeg), .int (M 25 v2.toNatClampNeg)]) (rest := []) C hP hS (c_X0_readsAhead ho1 hw) gX2_agreeWith_X0_readsAhead rfl dsX0_readsAhead rfl ⟨rfl, rfl⟩ ⟨Nat.le_of_ble_eq_true rfl, Nat.le_of_ble_eq_true rfl⟩ (layb0 ho1) (lay0 ho1 K _) rfl hl.1 rfl (Nat.le_of_ble_eq_true rfl) dX2_agreeWith_36 ⟨Nat.le_of_ble_eq_true rfl, Nat.le_of_ble_eq_true rfl⟩) hS (fun r_5 M_4 H locs hw hP hS => ?_)
        refine lv_aload_n hx hb dX2_agreeWith_39 rfl (lv_at hl 0 rfl) ?_
        refine g_f C hP (by decide) (sX_24 K _) rfl hX2_agreeWith_X2 2 (by decide) kX2_agreeWith_f18 rfl dX2_agreeWith_40 ?_
        refine lv_iload_n hx hb dX2_agreeWith_43 rfl (lv_at hl 2 rfl) ?_
        have hi_6 := hw.1
        have hw := hw.2
        refine a_il C hP (by decide) (sX_27 K _) hi_6 rfl dX2_agreeWith_44 ?_
        refine lv_icmp_eq (tgt := 50) hx hb dX2_agreeWith_45 (by decide) (fun hc => ?_) (fun hc => ?_)
        · have hw := hw.1 hc
          refine lv_iinc (v := (v2 + 1)) (lv' := [(2, .int (v2 + 1)), (0, .ref (kb K + 24)), (1, .ref (kb K + o1))]) hx hb dX2_agreeWith_50 hl (k := 2) rfl (by rw [ic_1]) (by decide) rfl (fun ls hl => ?_)
          refine lv_goto (tgt := 2) hx hb dX2_agreeWith_53 (by decide) ?_
          exact ih _ _ _ _ _ hw hP hS (lv_sub hl [1, 2, 0] rfl)
        · have hw := hw.2 hc
          refine lv_iconst hx hb dX2_agreeWith_48 ic_0 ?_
          exact r_z C (by decide) hP hS hw dX2_agreeWith_49
theorem dsX2_agreeWith : yX2_agreeWith.cls = RX2 ∧ yX2_agreeWith.cls ≠ "java/lang/invoke/MethodHandle" ∧ yX2_agreeWith.cls ≠ "java/lang/invoke/VarHandle" ∧ (parseMethodDescriptor yX2_agreeWith.desc).map (fun d => d.parameters.length) = some 1 := by decide +kernel
set_option maxRecDepth 100000 in
set_option maxHeartbeats 4000000 in
theorem c_X2_agreeWith {l : Launch} {K : wC} {o1 : Nat} {M : Mem} {Q : Int32 → Mem → Prop} (ho1 : isLay o1) (hw : q_X2_agreeWith o1 M Q) : metI l yX2_agreeWith wsX2_agreeWith rmX2_agreeWith shX 51 K [.ref (kb K + 24), .ref (kb K + o1)] M Q := by
  refine met_of (cc := cX2_agreeWith) (maxL := 3) (ret := (some .boolean)) (own := RX2) (by decide) rfl rfl (Nat.le_of_ble_eq_true rfl) ?_
  intro p e s m below meth c ls C hl hP hS
  have hl : lv_has ls 3 [(0, .ref (kb K + 24)), (1, .ref (kb K + o1))] := hl
  obtain ⟨hx, hb, hml, hown, hts, hr, hlk, hK⟩ := id C
  have hP0 := hP
  obtain ⟨n, hw⟩ := hw
  have ih := b_X2_agreeWith (l := l) (e := e) (below := below) (Q := Q) ho1 C n
  delta e_X2_agreeWith at hw
  refine lv_iconst hx hb dX2_agreeWith_0 ic_0 ?_
  refine lv_istore_n (lv' := [(2, .int (0 : Int32)), (0, .ref (kb K + 24)), (1, .ref (kb K + o1))]) hx hb dX2_agreeWith_1 rfl hl (by decide) rfl (fun ls hl => ?_)
  exact ih _ _ _ _ _ hw hP hS (lv_sub hl [1, 2, 0] rfl)

theorem kX3_append_f15 : Cond.fieldLink RX3 15 (TX3 1).1 (TX3 1).2.1 (TX3 1).2.2.1 ∈ wsX3_append := List.mem_of_getElem? (i := 1) rfl
theorem hX3_append_X3 : ∀ w ∈ u_ws RX3 TX3 5, w ∈ wsX3_append := fun _ h => List.mem_cons_of_mem _ (List.mem_append_right _ (h))
theorem kX3_append_f9 : Cond.fieldLink RX3 9 (TX3 0).1 (TX3 0).2.1 (TX3 0).2.2.1 ∈ wsX3_append := List.mem_of_getElem? (i := 2) rfl
abbrev rmX3_append : Room := { frames := 0, cells := 0, slots := 0, locals := 0 }
def q_X3_append (v1 : Int32) (M : Mem) (Q : Mem → Prop) : Prop := (((160 : Int32) ≤ (M 16 1) → Q M) ∧ (¬ (160 : Int32) ≤ (M 16 1) → vp_in (M 16 1) 160 ∧ (∀ M_2 : Mem, M_2 = mU (mU M 17 (M 16 1).toNatClampNeg (vp_nar .byte v1.toInt8.toInt32)) 16 1 (((mU M 17 (M 16 1).toNatClampNeg (vp_nar .byte v1.toInt8.toInt32)) 16 1) + (1 : Int32)) → Q M_2)))
theorem dsX3_append : yX3_append.cls = RX3 ∧ yX3_append.cls ≠ "java/lang/invoke/MethodHandle" ∧ yX3_append.cls ≠ "java/lang/invoke/VarHandle" ∧ (parseMethodDescriptor yX3_append.desc).map (fun d => d.parameters.length) = some 1 := by decide +kernel
set_option maxRecDepth 100000 in
set_option maxHeartbeats 4000000 in
theorem c_X3_append {l : Launch} {K : wC} {v1 : Int32} {M : Mem} {Q : Mem → Prop} (hw : q_X3_append v1 M Q) : metV l yX3_append wsX3_append rmX3_append shX 51 K [.ref (kb K + 16), .int v1] M Q := by
  refine met_of (cc := cX3_append) (maxL := 2) (ret := none) (own := RX3) (by decide) rfl rfl (Nat.le_of_ble_eq_true rfl) ?_
  intro p e s m below meth c ls C hl hP hS
  have hl : lv_has ls 2 [(0, .ref (kb K + 16)), (1, .int v1)] := hl
  obtain ⟨hx, hb, hml, hown, hts, hr, hlk, hK⟩ := id C
  have hP0 := hP
  delta q_X3_append at hw
  refine lv_aload_n hx hb dX3_append_0 rfl (lv_at hl 0 rfl) ?_
  refine g_f C hP (by decide) (sX_16 K _) rfl hX3_append_X3 1 (by decide) kX3_append_f15 rfl dX3_append_1 ?_
  refine lv_sipush hx hb dX3_append_4 sp_160 ?_
  refine lv_icmp_ge (tgt := 31) hx hb dX3_append_7 (by decide) (fun hc => ?_) (fun hc => ?_)
  · have hw := hw.1 hc
    exact r_v C hP hS hw dX3_append_31
  · have hw := hw.2 hc
    refine lv_aload_n hx hb dX3_append_10 rfl (lv_at hl 0 rfl) ?_
    refine g_f C hP (by decide) (sX_16 K _) rfl hX3_append_X3 0 (by decide) kX3_append_f9 rfl dX3_append_11 ?_
    refine lv_aload_n hx hb dX3_append_14 rfl (lv_at hl 0 rfl) ?_
    refine g_f C hP (by decide) (sX_16 K _) rfl hX3_append_X3 1 (by decide) kX3_append_f15 rfl dX3_append_15 ?_
    refine lv_iload_n hx hb dX3_append_18 rfl (lv_at hl 1 rfl) ?_
    refine lv_i2b hx hb dX3_append_19 rfl ?_
    have hi_1 := hw.1
    have hw := hw.2
    refine a_bs C hP hS (by decide) (sX_17 K) hi_1 rfl dX3_append_20 (fun H locs hP hS => ?_)
    refine lv_aload_n hx hb dX3_append_21 rfl (lv_at hl 0 rfl) ?_
    refine lv_dup hx hb dX3_append_22 rfl ?_
    refine g_f C hP (by decide) (sX_16 K _) rfl hX3_append_X3 1 (by decide) kX3_append_f15 rfl dX3_append_23 ?_
    refine lv_iconst hx hb dX3_append_26 ic_1 ?_
    refine lv_iadd hx hb dX3_append_27 ?_
    refine p_f C hP hS (by decide) (sX_16 K _) (sX_16 K _) rfl hX3_append_X3 tyX3_ok nmX3 (by decide) kX3_append_f15 rfl rfl rfl (Nat.le_of_ble_eq_true rfl) dX3_append_28 (fun H locs hP hS => ?_)
    obtain ⟨M_2, eM_2⟩ : ∃ z : Mem, z = mU (mU M 17 (M 16 1).toNatClampNeg (vp_nar .byte v1.toInt8.toInt32)) 16 1 (((mU M 17 (M 16 1).toNatClampNeg (vp_nar .byte v1.toInt8.toInt32)) 16 1) + (1 : Int32)) := ⟨_, rfl⟩
    rw [← eM_2] at hP
    have hw := hw M_2 eM_2
    exact r_v C hP hS hw dX3_append_31

theorem kX3_rewind_f25 : Cond.fieldLink RX3 25 (TX3 4).1 (TX3 4).2.1 (TX3 4).2.2.1 ∈ wsX3_rewind := List.mem_of_getElem? (i := 1) rfl
theorem hX3_rewind_X3 : ∀ w ∈ u_ws RX3 TX3 5, w ∈ wsX3_rewind := fun _ h => List.mem_cons_of_mem _ (List.mem_append_right _ (h))
abbrev rmX3_rewind : Room := { frames := 0, cells := 0, slots := 0, locals := 0 }
def q_X3_rewind (M : Mem) (Q : Mem → Prop) : Prop := Q (mU M 16 4 (0 : Int32))
theorem dsX3_rewind : yX3_rewind.cls = RX3 ∧ yX3_rewind.cls ≠ "java/lang/invoke/MethodHandle" ∧ yX3_rewind.cls ≠ "java/lang/invoke/VarHandle" ∧ (parseMethodDescriptor yX3_rewind.desc).map (fun d => d.parameters.length) = some 0 := by decide +kernel
set_option maxRecDepth 100000 in
set_option maxHeartbeats 4000000 in
theorem c_X3_rewind {l : Launch} {K : wC} {M : Mem} {Q : Mem → Prop} (hw : q_X3_rewind M Q) : metV l yX3_rewind wsX3_rewind rmX3_rewind shX 51 K [.ref (kb K + 16)] M Q := by
  refine met_of (cc := cX3_rewind) (maxL := 1) (ret := none) (own := RX3) (by decide) rfl rfl (Nat.le_of_ble_eq_true rfl) ?_
  intro p e s m below meth c ls C hl hP hS
  have hl : lv_has ls 1 [(0, .ref (kb K + 16))] := hl
  obtain ⟨hx, hb, hml, hown, hts, hr, hlk, hK⟩ := id C
  have hP0 := hP
  delta q_X3_rewind at hw
  refine lv_aload_n hx hb dX3_rewind_0 rfl (lv_at hl 0 rfl) ?_
  refine lv_iconst hx hb dX3_rewind_1 ic_0 ?_
  refine p_f C hP hS (by decide) (sX_16 K _) (sX_16 K _) rfl hX3_rewind_X3 tyX3_ok nmX3 (by decide) kX3_rewind_f25 rfl rfl rfl (Nat.le_of_ble_eq_true rfl) dX3_rewind_2 (fun H locs hP hS => ?_)
  exact r_v C hP hS hw dX3_rewind_5

theorem kX3_endOfRun_f15 : Cond.fieldLink RX3 15 (TX3 1).1 (TX3 1).2.1 (TX3 1).2.2.1 ∈ wsX3_endOfRun := List.mem_of_getElem? (i := 1) rfl
theorem hX3_endOfRun_X3 : ∀ w ∈ u_ws RX3 TX3 5, w ∈ wsX3_endOfRun := fun _ h => List.mem_cons_of_mem _ (List.mem_append_right _ (h))
theorem kX3_endOfRun_f9 : Cond.fieldLink RX3 9 (TX3 0).1 (TX3 0).2.1 (TX3 0).2.2.1 ∈ wsX3_endOfRun := List.mem_of_getElem? (i := 2) rfl
abbrev rmX3_endOfRun : Room := { frames := 0, cells := 0, slots := 0, locals := 0 }
abbrev t_X3_endOfRun : Type := (Int32 → Int32 → Int32 → Mem → Prop)
def f_X3_endOfRun_3 (Q : Int32 → Mem → Prop) (r : t_X3_endOfRun) (v2 : Int32) (v3 : Int32) (v4 : Int32) (M : Mem) : Prop := (((M 16 1) ≤ v4 → Q v4 M) ∧ (¬ (M 16 1) ≤ v4 → vp_in v4 160 ∧ (((M 17 v4.toNatClampNeg) < v2 → Q v4 M) ∧ (¬ (M 17 v4.toNatClampNeg) < v2 → vp_in v4 160 ∧ ((v3 < (M 17 v4.toNatClampNeg) → Q v4 M) ∧ (¬ v3 < (M 17 v4.toNatClampNeg) → r v2 v3 (v4 + 1) M))))))
def p_X3_endOfRun (Q : Int32 → Mem → Prop) : Nat → t_X3_endOfRun
  | 0 => fun _ _ _ _ => False
  | n + 1 => f_X3_endOfRun_3 Q (p_X3_endOfRun Q n)
def e_X3_endOfRun (v1 : Int32) (v2 : Int32) (v3 : Int32) (Q : Int32 → Mem → Prop) (r : t_X3_endOfRun) (M : Mem) : Prop := r v2 v3 v1 M
def q_X3_endOfRun (v1 : Int32) (v2 : Int32) (v3 : Int32) (M : Mem) (Q : Int32 → Mem → Prop) : Prop := ∃ n : Nat, e_X3_endOfRun v1 v2 v3 Q (p_X3_endOfRun Q n) M
set_option maxRecDepth 100000 in
set_option maxHeartbeats 4000000 in
theorem b_X3_endOfRun {l : Launch} {K : wC} {Q : Int32 → Mem → Prop} {p : Program} {e : Env} {s : State} {m : MethodId} {args : Array Value} {below : List Frame} {meth : Method} {c : Code} (C : cx 51 K p s m args meth c cX3_endOfRun 5 wsX3_endOfRun RX3 (some .int)) : ∀ n : Nat, (∀ (v2 : Int32) (v3 : Int32) (v4 : Int32) (M : Mem) (H : Heap) (locs : List Loc) (ls : Array Slot), (p_X3_endOfRun Q n) v2 v3 v4 M → wP shX 51 K M H → va_S (wA 51 K) s.heap H locs → lv_has ls 5 [(0, .ref (kb K + 16)), (2, .int v2), (3, .int v3), (4, .int v4)] → W p l e rmX3_endOfRun s m args below meth c H locs 0 0 (MQ below (va_Qi Q (wE shX 51 K) (wA 51 K)) args s 0 0 (wA 51 K)) (F0 m 3 ls [])) := by
  obtain ⟨hx, hb, hml, hown, hts, hr, hlk, hK⟩ := id C
  intro n
  induction n with
  | zero => exact fun _ _ _ _ _ _ _ hw _ _ _ => False.elim hw
  | succ n ih =>
    intro v2 v3 v4 M H locs ls hw hP hS hl
    have hw : f_X3_endOfRun_3 Q (p_X3_endOfRun Q n) v2 v3 v4 M := hw
    delta f_X3_endOfRun_3 at hw
    refine lv_iload hx hb dX3_endOfRun_3 (lv_at hl 3 rfl) ?_
    refine lv_aload_n hx hb dX3_endOfRun_5 rfl (lv_at hl 0 rfl) ?_
    refine g_f C hP (by decide) (sX_16 K _) rfl hX3_endOfRun_X3 1 (by decide) kX3_endOfRun_f15 rfl dX3_endOfRun_6 ?_
    refine lv_icmp_ge (tgt := 40) hx hb dX3_endOfRun_9 (by decide) (fun hc => ?_) (fun hc => ?_)
    · have hw := hw.1 hc
      refine lv_iload hx hb dX3_endOfRun_40 (lv_at hl 3 rfl) ?_
      exact r_i C hP hS hw dX3_endOfRun_42
    · have hw := hw.2 hc
      refine lv_aload_n hx hb dX3_endOfRun_12 rfl (lv_at hl 0 rfl) ?_
      refine g_f C hP (by decide) (sX_16 K _) rfl hX3_endOfRun_X3 0 (by decide) kX3_endOfRun_f9 rfl dX3_endOfRun_13 ?_
      refine lv_iload hx hb dX3_endOfRun_16 (lv_at hl 3 rfl) ?_
      have hi_1 := hw.1
      have hw := hw.2
      refine a_bl C hP (by decide) (sX_17 K _) hi_1 rfl dX3_endOfRun_18 ?_
      refine lv_iload_n hx hb dX3_endOfRun_19 rfl (lv_at hl 1 rfl) ?_
      refine lv_icmp_lt (tgt := 40) hx hb dX3_endOfRun_20 (by decide) (fun hc => ?_) (fun hc => ?_)
      · have hw := hw.1 hc
        refine lv_iload hx hb dX3_endOfRun_40 (lv_at hl 3 rfl) ?_
        exact r_i C hP hS hw dX3_endOfRun_42
      · have hw := hw.2 hc
        refine lv_aload_n hx hb dX3_endOfRun_23 rfl (lv_at hl 0 rfl) ?_
        refine g_f C hP (by decide) (sX_16 K _) rfl hX3_endOfRun_X3 0 (by decide) kX3_endOfRun_f9 rfl dX3_endOfRun_24 ?_
        refine lv_iload hx hb dX3_endOfRun_27 (lv_at hl 3 rfl) ?_
        have hi_2 := hw.1
        have hw := hw.2
        refine a_bl C hP (by decide) (sX_17 K _) hi_2 rfl dX3_endOfRun_29 ?_
        refine lv_iload_n hx hb dX3_endOfRun_30 rfl (lv_at hl 2 rfl) ?_
        refine lv_icmp_gt (tgt := 40) hx hb dX3_endOfRun_31 (by decide) (fun hc => ?_) (fun hc => ?_)
        · have hw := hw.1 hc
          refine lv_iload hx hb dX3_endOfRun_40 (lv_at hl 3 rfl) ?_
          exact r_i C hP hS hw dX3_endOfRun_42
        · have hw := hw.2 hc
          refine lv_iinc (v := (v4 + 1)) (lv' := [(4, .int (v4 + 1)), (0, .ref (kb K + 16)), (2, .int v2), (3, .int v3)]) hx hb dX3_endOfRun_34 hl (k := 3) rfl (by rw [ic_1]) (by decide) rfl (fun ls hl => ?_)
          refine lv_goto (tgt := 3) hx hb dX3_endOfRun_37 (by decide) ?_
          exact ih _ _ _ _ _ _ _ hw hP hS (lv_sub hl [1, 2, 3, 0] rfl)
theorem dsX3_endOfRun : yX3_endOfRun.cls = RX3 ∧ yX3_endOfRun.cls ≠ "java/lang/invoke/MethodHandle" ∧ yX3_endOfRun.cls ≠ "java/lang/invoke/VarHandle" ∧ (parseMethodDescriptor yX3_endOfRun.desc).map (fun d => d.parameters.length) = some 3 := by decide +kernel
set_option maxRecDepth 100000 in
set_option maxHeartbeats 4000000 in
theorem c_X3_endOfRun {l : Launch} {K : wC} {v1 : Int32} {v2 : Int32} {v3 : Int32} {M : Mem} {Q : Int32 → Mem → Prop} (hw : q_X3_endOfRun v1 v2 v3 M Q) : metI l yX3_endOfRun wsX3_endOfRun rmX3_endOfRun shX 51 K [.ref (kb K + 16), .int v1, .int v2, .int v3] M Q := by
  refine met_of (cc := cX3_endOfRun) (maxL := 5) (ret := (some .int)) (own := RX3) (by decide) rfl rfl (Nat.le_of_ble_eq_true rfl) ?_
  intro p e s m below meth c ls C hl hP hS
  have hl : lv_has ls 5 [(0, .ref (kb K + 16)), (1, .int v1), (2, .int v2), (3, .int v3)] := hl
  obtain ⟨hx, hb, hml, hown, hts, hr, hlk, hK⟩ := id C
  have hP0 := hP
  obtain ⟨n, hw⟩ := hw
  have ih := b_X3_endOfRun (l := l) (e := e) (below := below) (Q := Q) C n
  delta e_X3_endOfRun at hw
  refine lv_iload_n hx hb dX3_endOfRun_0 rfl (lv_at hl 1 rfl) ?_
  refine lv_istore (lv' := [(4, .int v1), (0, .ref (kb K + 16)), (1, .int v1), (2, .int v2), (3, .int v3)]) hx hb dX3_endOfRun_1 hl (by decide) rfl (fun ls hl => ?_)
  exact ih _ _ _ _ _ _ _ hw hP hS (lv_sub hl [1, 3, 4, 0] rfl)

theorem kX3_nextToken_f25 : Cond.fieldLink RX3 25 (TX3 4).1 (TX3 4).2.1 (TX3 4).2.2.1 ∈ wsX3_nextToken := List.mem_of_getElem? (i := 1) rfl
theorem hX3_nextToken_X3 : ∀ w ∈ u_ws RX3 TX3 5, w ∈ wsX3_nextToken := fun _ h => List.mem_cons_of_mem _ (List.mem_append_right _ (h))
theorem kX3_nextToken_f22 : Cond.fieldLink RX3 22 (TX3 3).1 (TX3 3).2.1 (TX3 3).2.2.1 ∈ wsX3_nextToken := List.mem_of_getElem? (i := 2) rfl
theorem kX3_nextToken_f15 : Cond.fieldLink RX3 15 (TX3 1).1 (TX3 1).2.1 (TX3 1).2.2.1 ∈ wsX3_nextToken := List.mem_of_getElem? (i := 3) rfl
theorem kX3_nextToken_f9 : Cond.fieldLink RX3 9 (TX3 0).1 (TX3 0).2.1 (TX3 0).2.2.1 ∈ wsX3_nextToken := List.mem_of_getElem? (i := 5) rfl
theorem kX3_nextToken_f19 : Cond.fieldLink RX3 19 (TX3 2).1 (TX3 2).2.1 (TX3 2).2.2.1 ∈ wsX3_nextToken := List.mem_of_getElem? (i := 4) rfl
abbrev rmX3_nextToken : Room := { frames := 1, cells := 0, slots := 0, locals := 24 }
def f_X3_nextToken_154 (Q : Mem → Prop) (s0 : Int32) (M : Mem) : Prop := Q (mU M 16 2 s0)
def f_X3_nextToken_132 (Q : Mem → Prop) (v1 : Int32) (M : Mem) : Prop := ((¬ v1 = (59 : Int32) → f_X3_nextToken_154 Q (4 : Int32) (mU M 16 4 ((M 16 3) + (1 : Int32)))) ∧ (v1 = (59 : Int32) → f_X3_nextToken_154 Q (3 : Int32) (mU M 16 4 ((M 16 3) + (1 : Int32)))))
def f_X3_nextToken_126 (Q : Mem → Prop) (s0 : Int32) (M : Mem) : Prop := Q (mU M 16 2 s0)
def f_X3_nextToken_79 (Q : Mem → Prop) (v1 : Int32) (M : Mem) : Prop := ((v1 < (48 : Int32) → f_X3_nextToken_132 Q v1 M) ∧ (¬ v1 < (48 : Int32) → (((57 : Int32) < v1 → f_X3_nextToken_132 Q v1 M) ∧ (¬ (57 : Int32) < v1 → q_X3_endOfRun (M 16 3) (48 : Int32) (57 : Int32) M (fun r_8 M_7 => (((2 : Int32) < (((mU M_7 16 4 r_8) 16 4) - ((mU M_7 16 4 r_8) 16 3)) → f_X3_nextToken_126 Q (4 : Int32) (mU M_7 16 4 r_8)) ∧ (¬ (2 : Int32) < (((mU M_7 16 4 r_8) 16 4) - ((mU M_7 16 4 r_8) 16 3)) → f_X3_nextToken_126 Q (2 : Int32) (mU M_7 16 4 r_8))))))))
def q_X3_nextToken (M : Mem) (Q : Mem → Prop) : Prop := q_X3_endOfRun (M 16 4) (32 : Int32) (32 : Int32) M (fun r_2 M_1 => ((((mU M_1 16 3 r_2) 16 3) < ((mU M_1 16 3 r_2) 16 1) → vp_in ((mU M_1 16 3 r_2) 16 3) 160 ∧ (∀ x_4 : Int32, x_4 = ((mU M_1 16 3 r_2) 17 ((mU M_1 16 3 r_2) 16 3).toNatClampNeg) → ((x_4 < (97 : Int32) → f_X3_nextToken_79 Q x_4 (mU M_1 16 3 r_2)) ∧ (¬ x_4 < (97 : Int32) → (((122 : Int32) < x_4 → f_X3_nextToken_79 Q x_4 (mU M_1 16 3 r_2)) ∧ (¬ (122 : Int32) < x_4 → q_X3_endOfRun ((mU M_1 16 3 r_2) 16 3) (97 : Int32) (122 : Int32) (mU M_1 16 3 r_2) (fun r_6 M_5 => Q (mU (mU M_5 16 4 r_6) 16 2 (1 : Int32))))))))) ∧ (¬ ((mU M_1 16 3 r_2) 16 3) < ((mU M_1 16 3 r_2) 16 1) → Q (mU (mU M_1 16 3 r_2) 16 2 (0 : Int32)))))
set_option maxRecDepth 100000 in
set_option maxHeartbeats 4000000 in
theorem b_X3_nextToken_154 {l : Launch} {K : wC} {Q : Mem → Prop} {p : Program} {e : Env} {s : State} {m : MethodId} {args : Array Value} {below : List Frame} {meth : Method} {c : Code} (C : cx 51 K p s m args meth c cX3_nextToken 2 wsX3_nextToken RX3 none) (s0 : Int32) (M : Mem) (H : Heap) (locs : List Loc) (ls : Array Slot) (hw : f_X3_nextToken_154 Q s0 M) (hP : wP shX 51 K M H) (hS : va_S (wA 51 K) s.heap H locs) (hl : lv_has ls 2 []) : W p l e rmX3_nextToken s m args below meth c H locs 0 0 (MQ below (va_Qv Q (wE shX 51 K) (wA 51 K)) args s 0 0 (wA 51 K)) (F0 m 154 ls [.int s0, .ref (kb K + 16)]) := by
  obtain ⟨hx, hb, hml, hown, hts, hr, hlk, hK⟩ := id C
  delta f_X3_nextToken_154 at hw
  refine p_f C hP hS (by decide) (sX_16 K _) (sX_16 K _) rfl hX3_nextToken_X3 tyX3_ok nmX3 (by decide) kX3_nextToken_f19 rfl rfl rfl (Nat.le_of_ble_eq_true rfl) dX3_nextToken_154 (fun H locs hP hS => ?_)
  exact r_v C hP hS hw dX3_nextToken_157
set_option maxRecDepth 100000 in
set_option maxHeartbeats 4000000 in
theorem b_X3_nextToken_132 {l : Launch} {K : wC} {Q : Mem → Prop} {p : Program} {e : Env} {s : State} {m : MethodId} {args : Array Value} {below : List Frame} {meth : Method} {c : Code} (C : cx 51 K p s m args meth c cX3_nextToken 2 wsX3_nextToken RX3 none) (v1 : Int32) (M : Mem) (H : Heap) (locs : List Loc) (ls : Array Slot) (hw : f_X3_nextToken_132 Q v1 M) (hP : wP shX 51 K M H) (hS : va_S (wA 51 K) s.heap H locs) (hl : lv_has ls 2 [(0, .ref (kb K + 16)), (1, .int v1)]) : W p l e rmX3_nextToken s m args below meth c H locs 0 0 (MQ below (va_Qv Q (wE shX 51 K) (wA 51 K)) args s 0 0 (wA 51 K)) (F0 m 132 ls []) := by
  obtain ⟨hx, hb, hml, hown, hts, hr, hlk, hK⟩ := id C
  delta f_X3_nextToken_132 at hw
  refine lv_aload_n hx hb dX3_nextToken_132 rfl (lv_at hl 0 rfl) ?_
  refine lv_aload_n hx hb dX3_nextToken_133 rfl (lv_at hl 0 rfl) ?_
  refine g_f C hP (by decide) (sX_16 K _) rfl hX3_nextToken_X3 3 (by decide) kX3_nextToken_f22 rfl dX3_nextToken_134 ?_
  refine lv_iconst hx hb dX3_nextToken_137 ic_1 ?_
  refine lv_iadd hx hb dX3_nextToken_138 ?_
  refine p_f C hP hS (by decide) (sX_16 K _) (sX_16 K _) rfl hX3_nextToken_X3 tyX3_ok nmX3 (by decide) kX3_nextToken_f25 rfl rfl rfl (Nat.le_of_ble_eq_true rfl) dX3_nextToken_139 (fun H locs hP hS => ?_)
  refine lv_aload_n hx hb dX3_nextToken_142 rfl (lv_at hl 0 rfl) ?_
  refine lv_iload_n hx hb dX3_nextToken_143 rfl (lv_at hl 1 rfl) ?_
  refine lv_bipush hx hb dX3_nextToken_144 bp_59 ?_
  refine lv_icmp_ne (tgt := 153) hx hb dX3_nextToken_146 (by decide) (fun hc => ?_) (fun hc => ?_)
  · have hw := hw.1 hc
    refine lv_iconst hx hb dX3_nextToken_153 ic_4 ?_
    exact b_X3_nextToken_154 C _ _ _ _ _ hw hP hS (lv_sub hl [] rfl)
  · have hw := hw.2 hc
    refine lv_iconst hx hb dX3_nextToken_149 ic_3 ?_
    refine lv_goto (tgt := 154) hx hb dX3_nextToken_150 (by decide) ?_
    exact b_X3_nextToken_154 C _ _ _ _ _ hw hP hS (lv_sub hl [] rfl)
set_option maxRecDepth 100000 in
set_option maxHeartbeats 4000000 in
theorem b_X3_nextToken_126 {l : Launch} {K : wC} {Q : Mem → Prop} {p : Program} {e : Env} {s : State} {m : MethodId} {args : Array Value} {below : List Frame} {meth : Method} {c : Code} (C : cx 51 K p s m args meth c cX3_nextToken 2 wsX3_nextToken RX3 none) (s0 : Int32) (M : Mem) (H : Heap) (locs : List Loc) (ls : Array Slot) (hw : f_X3_nextToken_126 Q s0 M) (hP : wP shX 51 K M H) (hS : va_S (wA 51 K) s.heap H locs) (hl : lv_has ls 2 []) : W p l e rmX3_nextToken s m args below meth c H locs 0 0 (MQ below (va_Qv Q (wE shX 51 K) (wA 51 K)) args s 0 0 (wA 51 K)) (F0 m 126 ls [.int s0, .ref (kb K + 16)]) := by
  obtain ⟨hx, hb, hml, hown, hts, hr, hlk, hK⟩ := id C
  delta f_X3_nextToken_126 at hw
  refine p_f C hP hS (by decide) (sX_16 K _) (sX_16 K _) rfl hX3_nextToken_X3 tyX3_ok nmX3 (by decide) kX3_nextToken_f19 rfl rfl rfl (Nat.le_of_ble_eq_true rfl) dX3_nextToken_126 (fun H locs hP hS => ?_)
  refine lv_goto (tgt := 157) hx hb dX3_nextToken_129 (by decide) ?_
  exact r_v C hP hS hw dX3_nextToken_157
set_option maxRecDepth 100000 in
set_option maxHeartbeats 4000000 in
theorem b_X3_nextToken_79 {l : Launch} {K : wC} {Q : Mem → Prop} {p : Program} {e : Env} {s : State} {m : MethodId} {args : Array Value} {below : List Frame} {meth : Method} {c : Code} (C : cx 51 K p s m args meth c cX3_nextToken 2 wsX3_nextToken RX3 none) (v1 : Int32) (M : Mem) (H : Heap) (locs : List Loc) (ls : Array Slot) (hw : f_X3_nextToken_79 Q v1 M) (hP : wP shX 51 K M H) (hS : va_S (wA 51 K) s.heap H locs) (hl : lv_has ls 2 [(0, .ref (kb K + 16)), (1, .int v1)]) : W p l e rmX3_nextToken s m args below meth c H locs 0 0 (MQ below (va_Qv Q (wE shX 51 K) (wA 51 K)) args s 0 0 (wA 51 K)) (F0 m 79 ls []) := by
  obtain ⟨hx, hb, hml, hown, hts, hr, hlk, hK⟩ := id C
  delta f_X3_nextToken_79 at hw
  refine lv_iload_n hx hb dX3_nextToken_79 rfl (lv_at hl 1 rfl) ?_
  refine lv_bipush hx hb dX3_nextToken_80 bp_48 ?_
  refine lv_icmp_lt (tgt := 132) hx hb dX3_nextToken_82 (by decide) (fun hc => ?_) (fun hc => ?_)
  · have hw := hw.1 hc
    exact b_X3_nextToken_132 C _ _ _ _ _ hw hP hS (lv_sub hl [0, 1] rfl)
  · have hw := hw.2 hc
    refine lv_iload_n hx hb dX3_nextToken_85 rfl (lv_at hl 1 rfl) ?_
    refine lv_bipush hx hb dX3_nextToken_86 bp_57 ?_
    refine lv_icmp_gt (tgt := 132) hx hb dX3_nextToken_88 (by decide) (fun hc => ?_) (fun hc => ?_)
    · have hw := hw.1 hc
      exact b_X3_nextToken_132 C _ _ _ _ _ hw hP hS (lv_sub hl [0, 1] rfl)
    · have hw := hw.2 hc
      refine lv_aload_n hx hb dX3_nextToken_91 rfl (lv_at hl 0 rfl) ?_
      refine lv_aload_n hx hb dX3_nextToken_92 rfl (lv_at hl 0 rfl) ?_
      refine lv_aload_n hx hb dX3_nextToken_93 rfl (lv_at hl 0 rfl) ?_
      refine g_f C hP (by decide) (sX_16 K _) rfl hX3_nextToken_X3 3 (by decide) kX3_nextToken_f22 rfl dX3_nextToken_94 ?_
      refine lv_bipush hx hb dX3_nextToken_97 bp_48 ?_
      refine lv_bipush hx hb dX3_nextToken_99 bp_57 ?_
      refine c_i (run_v (As := [.int (M 16 3), .int (48 : Int32), .int (57 : Int32)]) (rest := [.ref (kb K + 16)]) C hP hS (c_X3_endOfRun hw) gX3_nextToken_X3_endOfRun rfl dsX3_endOfRun rfl ⟨rfl, rfl⟩ ⟨Nat.le_of_ble_eq_true rfl, Nat.le_of_ble_eq_true rfl⟩ (by decide) (sX_16 K _) rfl hl.1 rfl (Nat.le_of_ble_eq_true rfl) dX3_nextToken_101 ⟨Nat.le_of_ble_eq_true rfl, Nat.le_of_ble_eq_true rfl⟩) hS (fun r_8 M_7 H locs hw hP hS => ?_)
      refine p_f C hP hS (by decide) (sX_16 K _) (sX_16 K _) rfl hX3_nextToken_X3 tyX3_ok nmX3 (by decide) kX3_nextToken_f25 rfl rfl rfl (Nat.le_of_ble_eq_true rfl) dX3_nextToken_104 (fun H locs hP hS => ?_)
      refine lv_aload_n hx hb dX3_nextToken_107 rfl (lv_at hl 0 rfl) ?_
      refine lv_aload_n hx hb dX3_nextToken_108 rfl (lv_at hl 0 rfl) ?_
      refine g_f C hP (by decide) (sX_16 K _) rfl hX3_nextToken_X3 4 (by decide) kX3_nextToken_f25 rfl dX3_nextToken_109 ?_
      refine lv_aload_n hx hb dX3_nextToken_112 rfl (lv_at hl 0 rfl) ?_
      refine g_f C hP (by decide) (sX_16 K _) rfl hX3_nextToken_X3 3 (by decide) kX3_nextToken_f22 rfl dX3_nextToken_113 ?_
      refine lv_isub hx hb dX3_nextToken_116 ?_
      refine lv_iconst hx hb dX3_nextToken_117 ic_2 ?_
      refine lv_icmp_gt (tgt := 125) hx hb dX3_nextToken_118 (by decide) (fun hc => ?_) (fun hc => ?_)
      · have hw := hw.1 hc
        refine lv_iconst hx hb dX3_nextToken_125 ic_4 ?_
        exact b_X3_nextToken_126 C _ _ _ _ _ hw hP hS (lv_sub hl [] rfl)
      · have hw := hw.2 hc
        refine lv_iconst hx hb dX3_nextToken_121 ic_2 ?_
        refine lv_goto (tgt := 126) hx hb dX3_nextToken_122 (by decide) ?_
        exact b_X3_nextToken_126 C _ _ _ _ _ hw hP hS (lv_sub hl [] rfl)
theorem dsX3_nextToken : yX3_nextToken.cls = RX3 ∧ yX3_nextToken.cls ≠ "java/lang/invoke/MethodHandle" ∧ yX3_nextToken.cls ≠ "java/lang/invoke/VarHandle" ∧ (parseMethodDescriptor yX3_nextToken.desc).map (fun d => d.parameters.length) = some 0 := by decide +kernel
set_option maxRecDepth 100000 in
set_option maxHeartbeats 4000000 in
theorem c_X3_nextToken {l : Launch} {K : wC} {M : Mem} {Q : Mem → Prop} (hw : q_X3_nextToken M Q) : metV l yX3_nextToken wsX3_nextToken rmX3_nextToken shX 51 K [.ref (kb K + 16)] M Q := by
  refine met_of (cc := cX3_nextToken) (maxL := 2) (ret := none) (own := RX3) (by decide) rfl rfl (Nat.le_of_ble_eq_true rfl) ?_
  intro p e s m below meth c ls C hl hP hS
  have hl : lv_has ls 2 [(0, .ref (kb K + 16))] := hl
  obtain ⟨hx, hb, hml, hown, hts, hr, hlk, hK⟩ := id C
  have hP0 := hP
  delta q_X3_nextToken at hw
  refine lv_aload_n hx hb dX3_nextToken_0 rfl (lv_at hl 0 rfl) ?_
  refine lv_aload_n hx hb dX3_nextToken_1 rfl (lv_at hl 0 rfl) ?_
  refine lv_aload_n hx hb dX3_nextToken_2 rfl (lv_at hl 0 rfl) ?_
  refine g_f C hP (by decide) (sX_16 K _) rfl hX3_nextToken_X3 4 (by decide) kX3_nextToken_f25 rfl dX3_nextToken_3 ?_
  refine lv_bipush hx hb dX3_nextToken_6 bp_32 ?_
  refine lv_bipush hx hb dX3_nextToken_8 bp_32 ?_
  refine c_i (run_v (As := [.int (M 16 4), .int (32 : Int32), .int (32 : Int32)]) (rest := [.ref (kb K + 16)]) C hP hS (c_X3_endOfRun hw) gX3_nextToken_X3_endOfRun rfl dsX3_endOfRun rfl ⟨rfl, rfl⟩ ⟨Nat.le_of_ble_eq_true rfl, Nat.le_of_ble_eq_true rfl⟩ (by decide) (sX_16 K _) rfl hl.1 rfl (Nat.le_of_ble_eq_true rfl) dX3_nextToken_10 ⟨Nat.le_of_ble_eq_true rfl, Nat.le_of_ble_eq_true rfl⟩) hS (fun r_2 M_1 H locs hw hP hS => ?_)
  refine p_f C hP hS (by decide) (sX_16 K _) (sX_16 K _) rfl hX3_nextToken_X3 tyX3_ok nmX3 (by decide) kX3_nextToken_f22 rfl rfl rfl (Nat.le_of_ble_eq_true rfl) dX3_nextToken_13 (fun H locs hP hS => ?_)
  refine lv_aload_n hx hb dX3_nextToken_16 rfl (lv_at hl 0 rfl) ?_
  refine g_f C hP (by decide) (sX_16 K _) rfl hX3_nextToken_X3 3 (by decide) kX3_nextToken_f22 rfl dX3_nextToken_17 ?_
  refine lv_aload_n hx hb dX3_nextToken_20 rfl (lv_at hl 0 rfl) ?_
  refine g_f C hP (by decide) (sX_16 K _) rfl hX3_nextToken_X3 1 (by decide) kX3_nextToken_f15 rfl dX3_nextToken_21 ?_
  refine lv_icmp_lt (tgt := 33) hx hb dX3_nextToken_24 (by decide) (fun hc => ?_) (fun hc => ?_)
  · have hw := hw.1 hc
    refine lv_aload_n hx hb dX3_nextToken_33 rfl (lv_at hl 0 rfl) ?_
    refine g_f C hP (by decide) (sX_16 K _) rfl hX3_nextToken_X3 0 (by decide) kX3_nextToken_f9 rfl dX3_nextToken_34 ?_
    refine lv_aload_n hx hb dX3_nextToken_37 rfl (lv_at hl 0 rfl) ?_
    refine g_f C hP (by decide) (sX_16 K _) rfl hX3_nextToken_X3 3 (by decide) kX3_nextToken_f22 rfl dX3_nextToken_38 ?_
    have hi_3 := hw.1
    have hw := hw.2
    refine a_bl C hP (by decide) (sX_17 K _) hi_3 rfl dX3_nextToken_41 ?_
    refine lv_topi (fun x_4 ex_4 => ?_)
    have hw := hw x_4 ex_4
    refine lv_istore_n (lv' := [(1, .int x_4), (0, .ref (kb K + 16))]) hx hb dX3_nextToken_42 rfl hl (by decide) rfl (fun ls hl => ?_)
    refine lv_iload_n hx hb dX3_nextToken_43 rfl (lv_at hl 0 rfl) ?_
    refine lv_bipush hx hb dX3_nextToken_44 bp_97 ?_
    refine lv_icmp_lt (tgt := 79) hx hb dX3_nextToken_46 (by decide) (fun hc => ?_) (fun hc => ?_)
    · have hw := hw.1 hc
      exact b_X3_nextToken_79 C _ _ _ _ _ hw hP hS (lv_sub hl [1, 0] rfl)
    · have hw := hw.2 hc
      refine lv_iload_n hx hb dX3_nextToken_49 rfl (lv_at hl 0 rfl) ?_
      refine lv_bipush hx hb dX3_nextToken_50 bp_122 ?_
      refine lv_icmp_gt (tgt := 79) hx hb dX3_nextToken_52 (by decide) (fun hc => ?_) (fun hc => ?_)
      · have hw := hw.1 hc
        exact b_X3_nextToken_79 C _ _ _ _ _ hw hP hS (lv_sub hl [1, 0] rfl)
      · have hw := hw.2 hc
        refine lv_aload_n hx hb dX3_nextToken_55 rfl (lv_at hl 1 rfl) ?_
        refine lv_aload_n hx hb dX3_nextToken_56 rfl (lv_at hl 1 rfl) ?_
        refine lv_aload_n hx hb dX3_nextToken_57 rfl (lv_at hl 1 rfl) ?_
        refine g_f C hP (by decide) (sX_16 K _) rfl hX3_nextToken_X3 3 (by decide) kX3_nextToken_f22 rfl dX3_nextToken_58 ?_
        refine lv_bipush hx hb dX3_nextToken_61 bp_97 ?_
        refine lv_bipush hx hb dX3_nextToken_63 bp_122 ?_
        refine c_i (run_v (As := [.int ((mU M_1 16 3 r_2) 16 3), .int (97 : Int32), .int (122 : Int32)]) (rest := [.ref (kb K + 16)]) C hP hS (c_X3_endOfRun hw) gX3_nextToken_X3_endOfRun rfl dsX3_endOfRun rfl ⟨rfl, rfl⟩ ⟨Nat.le_of_ble_eq_true rfl, Nat.le_of_ble_eq_true rfl⟩ (by decide) (sX_16 K _) rfl hl.1 rfl (Nat.le_of_ble_eq_true rfl) dX3_nextToken_65 ⟨Nat.le_of_ble_eq_true rfl, Nat.le_of_ble_eq_true rfl⟩) hS (fun r_6 M_5 H locs hw hP hS => ?_)
        refine p_f C hP hS (by decide) (sX_16 K _) (sX_16 K _) rfl hX3_nextToken_X3 tyX3_ok nmX3 (by decide) kX3_nextToken_f25 rfl rfl rfl (Nat.le_of_ble_eq_true rfl) dX3_nextToken_68 (fun H locs hP hS => ?_)
        refine lv_aload_n hx hb dX3_nextToken_71 rfl (lv_at hl 1 rfl) ?_
        refine lv_iconst hx hb dX3_nextToken_72 ic_1 ?_
        refine p_f C hP hS (by decide) (sX_16 K _) (sX_16 K _) rfl hX3_nextToken_X3 tyX3_ok nmX3 (by decide) kX3_nextToken_f19 rfl rfl rfl (Nat.le_of_ble_eq_true rfl) dX3_nextToken_73 (fun H locs hP hS => ?_)
        refine lv_goto (tgt := 157) hx hb dX3_nextToken_76 (by decide) ?_
        exact r_v C hP hS hw dX3_nextToken_157
  · have hw := hw.2 hc
    refine lv_aload_n hx hb dX3_nextToken_27 rfl (lv_at hl 0 rfl) ?_
    refine lv_iconst hx hb dX3_nextToken_28 ic_0 ?_
    refine p_f C hP hS (by decide) (sX_16 K _) (sX_16 K _) rfl hX3_nextToken_X3 tyX3_ok nmX3 (by decide) kX3_nextToken_f19 rfl rfl rfl (Nat.le_of_ble_eq_true rfl) dX3_nextToken_29 (fun H locs hP hS => ?_)
    exact r_v C hP hS hw dX3_nextToken_32

theorem kX3_tokenIs_f25 : Cond.fieldLink RX3 25 (TX3 4).1 (TX3 4).2.1 (TX3 4).2.2.1 ∈ wsX3_tokenIs := List.mem_of_getElem? (i := 1) rfl
theorem hX3_tokenIs_X3 : ∀ w ∈ u_ws RX3 TX3 5, w ∈ wsX3_tokenIs := fun _ h => List.mem_cons_of_mem _ (List.mem_append_right _ (h))
theorem kX3_tokenIs_f22 : Cond.fieldLink RX3 22 (TX3 3).1 (TX3 3).2.1 (TX3 3).2.2.1 ∈ wsX3_tokenIs := List.mem_of_getElem? (i := 2) rfl
theorem kX3_tokenIs_f9 : Cond.fieldLink RX3 9 (TX3 0).1 (TX3 0).2.1 (TX3 0).2.2.1 ∈ wsX3_tokenIs := List.mem_of_getElem? (i := 3) rfl
abbrev rmX3_tokenIs : Room := { frames := 4, cells := 0, slots := 0, locals := 85 }
abbrev t_X3_tokenIs : Type := (Int32 → Int32 → Mem → Prop)
def f_X3_tokenIs_22 (w1 : Nat) (Q : Int32 → Mem → Prop) (r : t_X3_tokenIs) (v2 : Int32) (v3 : Int32) (M : Mem) : Prop := ((v2 ≤ v3 → Q (1 : Int32) M) ∧ (¬ v2 ≤ v3 → vp_in ((M 16 3) + v3) 160 ∧ q_J0_charAt_5068e w1 v3 M (fun r_5 M_4 => (((M 17 ((M 16 3) + v3).toNatClampNeg) = r_5 → r v2 (v3 + 1) M_4) ∧ (¬ (M 17 ((M 16 3) + v3).toNatClampNeg) = r_5 → Q (0 : Int32) M_4)))))
def p_X3_tokenIs (w1 : Nat) (Q : Int32 → Mem → Prop) : Nat → t_X3_tokenIs
  | 0 => fun _ _ _ => False
  | n + 1 => f_X3_tokenIs_22 w1 Q (p_X3_tokenIs w1 Q n)
def e_X3_tokenIs (w1 : Nat) (Q : Int32 → Mem → Prop) (r : t_X3_tokenIs) (M : Mem) : Prop := q_J0_length_8abf5 w1 M (fun r_2 M_1 => ((((M_1 16 4) - (M_1 16 3)) = r_2 → r r_2 (0 : Int32) M_1) ∧ (¬ ((M_1 16 4) - (M_1 16 3)) = r_2 → Q (0 : Int32) M_1)))
def q_X3_tokenIs (w1 : Nat) (M : Mem) (Q : Int32 → Mem → Prop) : Prop := ∃ n : Nat, e_X3_tokenIs w1 Q (p_X3_tokenIs w1 Q n) M
set_option maxRecDepth 100000 in
set_option maxHeartbeats 4000000 in
theorem b_X3_tokenIs {l : Launch} {K : wC} {w1 : Nat} {Q : Int32 → Mem → Prop} {p : Program} {e : Env} {s : State} {m : MethodId} {args : Array Value} {below : List Frame} {meth : Method} {c : Code} (hw1 : w1 < 6) (C : cx 51 K p s m args meth c cX3_tokenIs 4 wsX3_tokenIs RX3 (some .boolean)) : ∀ n : Nat, (∀ (v2 : Int32) (v3 : Int32) (M : Mem) (H : Heap) (locs : List Loc) (ls : Array Slot), (p_X3_tokenIs w1 Q n) v2 v3 M → wP shX 51 K M H → va_S (wA 51 K) s.heap H locs → lv_has ls 4 [(0, .ref (kb K + 16)), (1, .ref (kS K w1)), (2, .int v2), (3, .int v3)] → W p l e rmX3_tokenIs s m args below meth c H locs 0 0 (MQ below (va_Qi Q (wE shX 51 K) (wA 51 K)) args s 0 0 (wA 51 K)) (F0 m 22 ls [])) := by
  obtain ⟨hx, hb, hml, hown, hts, hr, hlk, hK⟩ := id C
  intro n
  induction n with
  | zero => exact fun _ _ _ _ _ _ hw _ _ _ => False.elim hw
  | succ n ih =>
    intro v2 v3 M H locs ls hw hP hS hl
    have hw : f_X3_tokenIs_22 w1 Q (p_X3_tokenIs w1 Q n) v2 v3 M := hw
    delta f_X3_tokenIs_22 at hw
    refine lv_iload_n hx hb dX3_tokenIs_22 rfl (lv_at hl 3 rfl) ?_
    refine lv_iload_n hx hb dX3_tokenIs_23 rfl (lv_at hl 2 rfl) ?_
    refine lv_icmp_ge (tgt := 54) hx hb dX3_tokenIs_24 (by decide) (fun hc => ?_) (fun hc => ?_)
    · have hw := hw.1 hc
      refine lv_iconst hx hb dX3_tokenIs_54 ic_1 ?_
      exact r_z C (by decide) hP hS hw dX3_tokenIs_55
    · have hw := hw.2 hc
      refine lv_aload_n hx hb dX3_tokenIs_27 rfl (lv_at hl 0 rfl) ?_
      refine g_f C hP (by decide) (sX_16 K _) rfl hX3_tokenIs_X3 0 (by decide) kX3_tokenIs_f9 rfl dX3_tokenIs_28 ?_
      refine lv_aload_n hx hb dX3_tokenIs_31 rfl (lv_at hl 0 rfl) ?_
      refine g_f C hP (by decide) (sX_16 K _) rfl hX3_tokenIs_X3 3 (by decide) kX3_tokenIs_f22 rfl dX3_tokenIs_32 ?_
      refine lv_iload_n hx hb dX3_tokenIs_35 rfl (lv_at hl 3 rfl) ?_
      refine lv_iadd hx hb dX3_tokenIs_36 ?_
      have hi_3 := hw.1
      have hw := hw.2
      refine a_bl C hP (by decide) (sX_17 K _) hi_3 rfl dX3_tokenIs_37 ?_
      refine lv_aload_n hx hb dX3_tokenIs_38 rfl (lv_at hl 1 rfl) ?_
      refine lv_iload_n hx hb dX3_tokenIs_39 rfl (lv_at hl 3 rfl) ?_
      refine c_i (run_vs (As := [.int v3]) (rest := [.int (M 17 ((M 16 3) + v3).toNatClampNeg)]) C hP hS (c_J0_charAt_5068e hw1 hw) gX3_tokenIs_J0_charAt_5068e rfl dsJ0_charAt_5068e rfl ⟨rfl, rfl⟩ ⟨Nat.le_of_ble_eq_true rfl, Nat.le_of_ble_eq_true rfl⟩ hw1 hl.1 rfl (Nat.le_of_ble_eq_true rfl) dX3_tokenIs_40 ⟨Nat.le_of_ble_eq_true rfl, Nat.le_of_ble_eq_true rfl⟩) hS (fun r_5 M_4 H locs hw hP hS => ?_)
      refine lv_icmp_eq (tgt := 48) hx hb dX3_tokenIs_43 (by decide) (fun hc => ?_) (fun hc => ?_)
      · have hw := hw.1 hc
        refine lv_iinc (v := (v3 + 1)) (lv' := [(3, .int (v3 + 1)), (0, .ref (kb K + 16)), (1, .ref (kS K w1)), (2, .int v2)]) hx hb dX3_tokenIs_48 hl (k := 3) rfl (by rw [ic_1]) (by decide) rfl (fun ls hl => ?_)
        refine lv_goto (tgt := 22) hx hb dX3_tokenIs_51 (by decide) ?_
        exact ih _ _ _ _ _ _ hw hP hS (lv_sub hl [1, 2, 3, 0] rfl)
      · have hw := hw.2 hc
        refine lv_iconst hx hb dX3_tokenIs_46 ic_0 ?_
        exact r_z C (by decide) hP hS hw dX3_tokenIs_47
theorem dsX3_tokenIs : yX3_tokenIs.cls = RX3 ∧ yX3_tokenIs.cls ≠ "java/lang/invoke/MethodHandle" ∧ yX3_tokenIs.cls ≠ "java/lang/invoke/VarHandle" ∧ (parseMethodDescriptor yX3_tokenIs.desc).map (fun d => d.parameters.length) = some 1 := by decide +kernel
set_option maxRecDepth 100000 in
set_option maxHeartbeats 4000000 in
theorem c_X3_tokenIs {l : Launch} {K : wC} {w1 : Nat} {M : Mem} {Q : Int32 → Mem → Prop} (hw1 : w1 < 6) (hw : q_X3_tokenIs w1 M Q) : metI l yX3_tokenIs wsX3_tokenIs rmX3_tokenIs shX 51 K [.ref (kb K + 16), .ref (kS K w1)] M Q := by
  refine met_of (cc := cX3_tokenIs) (maxL := 4) (ret := (some .boolean)) (own := RX3) (by decide) rfl rfl (Nat.le_of_ble_eq_true rfl) ?_
  intro p e s m below meth c ls C hl hP hS
  have hl : lv_has ls 4 [(0, .ref (kb K + 16)), (1, .ref (kS K w1))] := hl
  obtain ⟨hx, hb, hml, hown, hts, hr, hlk, hK⟩ := id C
  have hP0 := hP
  obtain ⟨n, hw⟩ := hw
  have ih := b_X3_tokenIs (l := l) (e := e) (below := below) (Q := Q) hw1 C n
  delta e_X3_tokenIs at hw
  refine lv_aload_n hx hb dX3_tokenIs_0 rfl (lv_at hl 1 rfl) ?_
  refine c_i (run_vs (As := []) (rest := []) C hP hS (c_J0_length_8abf5 hw1 hw) gX3_tokenIs_J0_length_8abf5 rfl dsJ0_length_8abf5 rfl ⟨rfl, rfl⟩ ⟨Nat.le_of_ble_eq_true rfl, Nat.le_of_ble_eq_true rfl⟩ hw1 hl.1 rfl (Nat.le_of_ble_eq_true rfl) dX3_tokenIs_1 ⟨Nat.le_of_ble_eq_true rfl, Nat.le_of_ble_eq_true rfl⟩) hS (fun r_2 M_1 H locs hw hP hS => ?_)
  refine lv_istore_n (lv' := [(2, .int r_2), (0, .ref (kb K + 16)), (1, .ref (kS K w1))]) hx hb dX3_tokenIs_4 rfl hl (by decide) rfl (fun ls hl => ?_)
  refine lv_aload_n hx hb dX3_tokenIs_5 rfl (lv_at hl 1 rfl) ?_
  refine g_f C hP (by decide) (sX_16 K _) rfl hX3_tokenIs_X3 4 (by decide) kX3_tokenIs_f25 rfl dX3_tokenIs_6 ?_
  refine lv_aload_n hx hb dX3_tokenIs_9 rfl (lv_at hl 1 rfl) ?_
  refine g_f C hP (by decide) (sX_16 K _) rfl hX3_tokenIs_X3 3 (by decide) kX3_tokenIs_f22 rfl dX3_tokenIs_10 ?_
  refine lv_isub hx hb dX3_tokenIs_13 ?_
  refine lv_iload_n hx hb dX3_tokenIs_14 rfl (lv_at hl 0 rfl) ?_
  refine lv_icmp_eq (tgt := 20) hx hb dX3_tokenIs_15 (by decide) (fun hc => ?_) (fun hc => ?_)
  · have hw := hw.1 hc
    refine lv_iconst hx hb dX3_tokenIs_20 ic_0 ?_
    refine lv_istore_n (lv' := [(3, .int (0 : Int32)), (2, .int r_2), (0, .ref (kb K + 16)), (1, .ref (kS K w1))]) hx hb dX3_tokenIs_21 rfl hl (by decide) rfl (fun ls hl => ?_)
    exact ih _ _ _ _ _ _ hw hP hS (lv_sub hl [2, 3, 1, 0] rfl)
  · have hw := hw.2 hc
    refine lv_iconst hx hb dX3_tokenIs_18 ic_0 ?_
    exact r_z C (by decide) hP hS hw dX3_tokenIs_19

theorem kX3_numberOfToken_f22 : Cond.fieldLink RX3 22 (TX3 3).1 (TX3 3).2.1 (TX3 3).2.2.1 ∈ wsX3_numberOfToken := List.mem_of_getElem? (i := 1) rfl
theorem hX3_numberOfToken_X3 : ∀ w ∈ u_ws RX3 TX3 5, w ∈ wsX3_numberOfToken := fun _ h => List.mem_cons_of_mem _ (List.mem_append_right _ (h))
theorem kX3_numberOfToken_f25 : Cond.fieldLink RX3 25 (TX3 4).1 (TX3 4).2.1 (TX3 4).2.2.1 ∈ wsX3_numberOfToken := List.mem_of_getElem? (i := 2) rfl
theorem kX3_numberOfToken_f9 : Cond.fieldLink RX3 9 (TX3 0).1 (TX3 0).2.1 (TX3 0).2.2.1 ∈ wsX3_numberOfToken := List.mem_of_getElem? (i := 3) rfl
abbrev rmX3_numberOfToken : Room := { frames := 0, cells := 0, slots := 0, locals := 0 }
abbrev t_X3_numberOfToken : Type := (Int32 → Int32 → Mem → Prop)
def f_X3_numberOfToken_7 (Q : Int32 → Mem → Prop) (r : t_X3_numberOfToken) (v1 : Int32) (v2 : Int32) (M : Mem) : Prop := (((M 16 4) ≤ v2 → Q v1 M) ∧ (¬ (M 16 4) ≤ v2 → vp_in v2 160 ∧ (∀ x_2 : Int32, x_2 = ((((10 : Int32) * v1) + (M 17 v2.toNatClampNeg)) - (48 : Int32)) → r x_2 (v2 + 1) M)))
def p_X3_numberOfToken (Q : Int32 → Mem → Prop) : Nat → t_X3_numberOfToken
  | 0 => fun _ _ _ => False
  | n + 1 => f_X3_numberOfToken_7 Q (p_X3_numberOfToken Q n)
def e_X3_numberOfToken (Q : Int32 → Mem → Prop) (r : t_X3_numberOfToken) (M : Mem) : Prop := r (0 : Int32) (M 16 3) M
def q_X3_numberOfToken (M : Mem) (Q : Int32 → Mem → Prop) : Prop := ∃ n : Nat, e_X3_numberOfToken Q (p_X3_numberOfToken Q n) M
set_option maxRecDepth 100000 in
set_option maxHeartbeats 4000000 in
theorem b_X3_numberOfToken {l : Launch} {K : wC} {Q : Int32 → Mem → Prop} {p : Program} {e : Env} {s : State} {m : MethodId} {args : Array Value} {below : List Frame} {meth : Method} {c : Code} (C : cx 51 K p s m args meth c cX3_numberOfToken 3 wsX3_numberOfToken RX3 (some .int)) : ∀ n : Nat, (∀ (v1 : Int32) (v2 : Int32) (M : Mem) (H : Heap) (locs : List Loc) (ls : Array Slot), (p_X3_numberOfToken Q n) v1 v2 M → wP shX 51 K M H → va_S (wA 51 K) s.heap H locs → lv_has ls 3 [(0, .ref (kb K + 16)), (1, .int v1), (2, .int v2)] → W p l e rmX3_numberOfToken s m args below meth c H locs 0 0 (MQ below (va_Qi Q (wE shX 51 K) (wA 51 K)) args s 0 0 (wA 51 K)) (F0 m 7 ls [])) := by
  obtain ⟨hx, hb, hml, hown, hts, hr, hlk, hK⟩ := id C
  intro n
  induction n with
  | zero => exact fun _ _ _ _ _ _ hw _ _ _ => False.elim hw
  | succ n ih =>
    intro v1 v2 M H locs ls hw hP hS hl
    have hw : f_X3_numberOfToken_7 Q (p_X3_numberOfToken Q n) v1 v2 M := hw
    delta f_X3_numberOfToken_7 at hw
    refine lv_iload_n hx hb dX3_numberOfToken_7 rfl (lv_at hl 2 rfl) ?_
    refine lv_aload_n hx hb dX3_numberOfToken_8 rfl (lv_at hl 0 rfl) ?_
    refine g_f C hP (by decide) (sX_16 K _) rfl hX3_numberOfToken_X3 4 (by decide) kX3_numberOfToken_f25 rfl dX3_numberOfToken_9 ?_
    refine lv_icmp_ge (tgt := 36) hx hb dX3_numberOfToken_12 (by decide) (fun hc => ?_) (fun hc => ?_)
    · have hw := hw.1 hc
      refine lv_iload_n hx hb dX3_numberOfToken_36 rfl (lv_at hl 1 rfl) ?_
      exact r_i C hP hS hw dX3_numberOfToken_37
    · have hw := hw.2 hc
      refine lv_bipush hx hb dX3_numberOfToken_15 bp_10 ?_
      refine lv_iload_n hx hb dX3_numberOfToken_17 rfl (lv_at hl 1 rfl) ?_
      refine lv_imul hx hb dX3_numberOfToken_18 ?_
      refine lv_aload_n hx hb dX3_numberOfToken_19 rfl (lv_at hl 0 rfl) ?_
      refine g_f C hP (by decide) (sX_16 K _) rfl hX3_numberOfToken_X3 0 (by decide) kX3_numberOfToken_f9 rfl dX3_numberOfToken_20 ?_
      refine lv_iload_n hx hb dX3_numberOfToken_23 rfl (lv_at hl 2 rfl) ?_
      have hi_1 := hw.1
      have hw := hw.2
      refine a_bl C hP (by decide) (sX_17 K _) hi_1 rfl dX3_numberOfToken_24 ?_
      refine lv_iadd hx hb dX3_numberOfToken_25 ?_
      refine lv_bipush hx hb dX3_numberOfToken_26 bp_48 ?_
      refine lv_isub hx hb dX3_numberOfToken_28 ?_
      refine lv_topi (fun x_2 ex_2 => ?_)
      have hw := hw x_2 ex_2
      refine lv_istore_n (lv' := [(1, .int x_2), (0, .ref (kb K + 16)), (2, .int v2)]) hx hb dX3_numberOfToken_29 rfl hl (by decide) rfl (fun ls hl => ?_)
      refine lv_iinc (v := (v2 + 1)) (lv' := [(2, .int (v2 + 1)), (1, .int x_2), (0, .ref (kb K + 16))]) hx hb dX3_numberOfToken_30 hl (k := 2) rfl (by rw [ic_1]) (by decide) rfl (fun ls hl => ?_)
      refine lv_goto (tgt := 7) hx hb dX3_numberOfToken_33 (by decide) ?_
      exact ih _ _ _ _ _ _ hw hP hS (lv_sub hl [2, 1, 0] rfl)
theorem dsX3_numberOfToken : yX3_numberOfToken.cls = RX3 ∧ yX3_numberOfToken.cls ≠ "java/lang/invoke/MethodHandle" ∧ yX3_numberOfToken.cls ≠ "java/lang/invoke/VarHandle" ∧ (parseMethodDescriptor yX3_numberOfToken.desc).map (fun d => d.parameters.length) = some 0 := by decide +kernel
set_option maxRecDepth 100000 in
set_option maxHeartbeats 4000000 in
theorem c_X3_numberOfToken {l : Launch} {K : wC} {M : Mem} {Q : Int32 → Mem → Prop} (hw : q_X3_numberOfToken M Q) : metI l yX3_numberOfToken wsX3_numberOfToken rmX3_numberOfToken shX 51 K [.ref (kb K + 16)] M Q := by
  refine met_of (cc := cX3_numberOfToken) (maxL := 3) (ret := (some .int)) (own := RX3) (by decide) rfl rfl (Nat.le_of_ble_eq_true rfl) ?_
  intro p e s m below meth c ls C hl hP hS
  have hl : lv_has ls 3 [(0, .ref (kb K + 16))] := hl
  obtain ⟨hx, hb, hml, hown, hts, hr, hlk, hK⟩ := id C
  have hP0 := hP
  obtain ⟨n, hw⟩ := hw
  have ih := b_X3_numberOfToken (l := l) (e := e) (below := below) (Q := Q) C n
  delta e_X3_numberOfToken at hw
  refine lv_iconst hx hb dX3_numberOfToken_0 ic_0 ?_
  refine lv_istore_n (lv' := [(1, .int (0 : Int32)), (0, .ref (kb K + 16))]) hx hb dX3_numberOfToken_1 rfl hl (by decide) rfl (fun ls hl => ?_)
  refine lv_aload_n hx hb dX3_numberOfToken_2 rfl (lv_at hl 1 rfl) ?_
  refine g_f C hP (by decide) (sX_16 K _) rfl hX3_numberOfToken_X3 3 (by decide) kX3_numberOfToken_f22 rfl dX3_numberOfToken_3 ?_
  refine lv_istore_n (lv' := [(2, .int (M 16 3)), (1, .int (0 : Int32)), (0, .ref (kb K + 16))]) hx hb dX3_numberOfToken_6 rfl hl (by decide) rfl (fun ls hl => ?_)
  exact ih _ _ _ _ _ _ hw hP hS (lv_sub hl [2, 1, 0] rfl)

theorem kX4_refuse_f33 : Cond.fieldLink RX4 33 (TX4 4).1 (TX4 4).2.1 (TX4 4).2.2.1 ∈ wsX4_refuse := List.mem_of_getElem? (i := 1) rfl
theorem hX4_refuse_X4 : ∀ w ∈ u_ws RX4 TX4 6, w ∈ wsX4_refuse := fun _ h => List.mem_cons_of_mem _ (List.mem_append_left _ (List.mem_append_right _ (h)))
theorem kX4_refuse_f12 : Cond.fieldLink RX4 12 (TX4 0).1 (TX4 0).2.1 (TX4 0).2.2.1 ∈ wsX4_refuse := List.mem_of_getElem? (i := 2) rfl
theorem kX4_refuse_f119 : Cond.fieldLink RX4 119 (TX3 3).1 (TX3 3).2.1 (TX3 3).2.2.1 ∈ wsX4_refuse := List.mem_of_getElem? (i := 3) rfl
theorem hX4_refuse_X3 : ∀ w ∈ u_ws RX3 TX3 5, w ∈ wsX4_refuse := fun _ h => List.mem_cons_of_mem _ (List.mem_append_right _ (h))
theorem kX4_refuse_f36 : Cond.fieldLink RX4 36 (TX4 5).1 (TX4 5).2.1 (TX4 5).2.2.1 ∈ wsX4_refuse := List.mem_of_getElem? (i := 4) rfl
abbrev rmX4_refuse : Room := { frames := 0, cells := 0, slots := 0, locals := 0 }
def q_X4_refuse (v1 : Int32) (M : Mem) (Q : Mem → Prop) : Prop := ((¬ (M 15 4) = 0 → Q M) ∧ ((M 15 4) = 0 → Q (mU (mU M 15 4 v1) 15 5 ((mU M 15 4 v1) 16 3))))
theorem dsX4_refuse : yX4_refuse.cls = RX4 ∧ yX4_refuse.cls ≠ "java/lang/invoke/MethodHandle" ∧ yX4_refuse.cls ≠ "java/lang/invoke/VarHandle" ∧ (parseMethodDescriptor yX4_refuse.desc).map (fun d => d.parameters.length) = some 1 := by decide +kernel
set_option maxRecDepth 100000 in
set_option maxHeartbeats 4000000 in
theorem c_X4_refuse {l : Launch} {K : wC} {v1 : Int32} {M : Mem} {Q : Mem → Prop} (hw : q_X4_refuse v1 M Q) : metV l yX4_refuse wsX4_refuse rmX4_refuse shX 51 K [.ref (kb K + 15), .int v1] M Q := by
  refine met_of (cc := cX4_refuse) (maxL := 2) (ret := none) (own := RX4) (by decide) rfl rfl (Nat.le_of_ble_eq_true rfl) ?_
  intro p e s m below meth c ls C hl hP hS
  have hl : lv_has ls 2 [(0, .ref (kb K + 15)), (1, .int v1)] := hl
  obtain ⟨hx, hb, hml, hown, hts, hr, hlk, hK⟩ := id C
  have hP0 := hP
  delta q_X4_refuse at hw
  refine lv_aload_n hx hb dX4_refuse_0 rfl (lv_at hl 0 rfl) ?_
  refine g_f C hP (by decide) (sX_15 K _) rfl hX4_refuse_X4 4 (by decide) kX4_refuse_f33 rfl dX4_refuse_1 ?_
  refine lv_if_ne (tgt := 23) hx hb dX4_refuse_4 (by decide) (fun hc => ?_) (fun hc => ?_)
  · have hw := hw.1 hc
    exact r_v C hP hS hw dX4_refuse_23
  · have hw := hw.2 hc
    refine lv_aload_n hx hb dX4_refuse_7 rfl (lv_at hl 0 rfl) ?_
    refine lv_iload_n hx hb dX4_refuse_8 rfl (lv_at hl 1 rfl) ?_
    refine p_f C hP hS (by decide) (sX_15 K _) (sX_15 K _) rfl hX4_refuse_X4 tyX4_ok nmX4 (by decide) kX4_refuse_f33 rfl rfl rfl (Nat.le_of_ble_eq_true rfl) dX4_refuse_9 (fun H locs hP hS => ?_)
    refine lv_aload_n hx hb dX4_refuse_12 rfl (lv_at hl 0 rfl) ?_
    refine lv_aload_n hx hb dX4_refuse_13 rfl (lv_at hl 0 rfl) ?_
    refine g_f C hP (by decide) (sX_15 K _) rfl hX4_refuse_X4 0 (by decide) kX4_refuse_f12 rfl dX4_refuse_14 ?_
    refine g_f C hP (by decide) (sX_16 K _) rfl hX4_refuse_X3 3 (by decide) kX4_refuse_f119 rfl dX4_refuse_17 ?_
    refine p_f C hP hS (by decide) (sX_15 K _) (sX_15 K _) rfl hX4_refuse_X4 tyX4_ok nmX4 (by decide) kX4_refuse_f36 rfl rfl rfl (Nat.le_of_ble_eq_true rfl) dX4_refuse_20 (fun H locs hP hS => ?_)
    exact r_v C hP hS hw dX4_refuse_23

theorem kX4_advance_f33 : Cond.fieldLink RX4 33 (TX4 4).1 (TX4 4).2.1 (TX4 4).2.2.1 ∈ wsX4_advance := List.mem_of_getElem? (i := 1) rfl
theorem hX4_advance_X4 : ∀ w ∈ u_ws RX4 TX4 6, w ∈ wsX4_advance := fun _ h => List.mem_cons_of_mem _ (List.mem_append_left _ (List.mem_append_right _ (h)))
theorem kX4_advance_f12 : Cond.fieldLink RX4 12 (TX4 0).1 (TX4 0).2.1 (TX4 0).2.2.1 ∈ wsX4_advance := List.mem_of_getElem? (i := 2) rfl
theorem kX4_advance_f48 : Cond.fieldLink RX4 48 (TX3 2).1 (TX3 2).2.1 (TX3 2).2.2.1 ∈ wsX4_advance := List.mem_of_getElem? (i := 3) rfl
theorem hX4_advance_X3 : ∀ w ∈ u_ws RX3 TX3 5, w ∈ wsX4_advance := fun _ h => List.mem_cons_of_mem _ (List.mem_append_right _ (h))
abbrev rmX4_advance : Room := { frames := 2, cells := 0, slots := 0, locals := 45 }
def f_X4_advance_31 (Q : Mem → Prop) (s0 : Int32) (M : Mem) : Prop := q_X4_refuse s0 M (fun M_2 => Q M_2)
def q_X4_advance (M : Mem) (Q : Mem → Prop) : Prop := ((¬ (M 15 4) = 0 → Q M) ∧ ((M 15 4) = 0 → q_X3_nextToken M (fun M_1 => ((¬ (M_1 16 2) = (4 : Int32) → f_X4_advance_31 Q (0 : Int32) M_1) ∧ ((M_1 16 2) = (4 : Int32) → f_X4_advance_31 Q (1 : Int32) M_1)))))
set_option maxRecDepth 100000 in
set_option maxHeartbeats 4000000 in
theorem b_X4_advance_31 {l : Launch} {K : wC} {Q : Mem → Prop} {p : Program} {e : Env} {s : State} {m : MethodId} {args : Array Value} {below : List Frame} {meth : Method} {c : Code} (C : cx 51 K p s m args meth c cX4_advance 1 wsX4_advance RX4 none) (s0 : Int32) (M : Mem) (H : Heap) (locs : List Loc) (ls : Array Slot) (hw : f_X4_advance_31 Q s0 M) (hP : wP shX 51 K M H) (hS : va_S (wA 51 K) s.heap H locs) (hl : lv_has ls 1 []) : W p l e rmX4_advance s m args below meth c H locs 0 0 (MQ below (va_Qv Q (wE shX 51 K) (wA 51 K)) args s 0 0 (wA 51 K)) (F0 m 31 ls [.int s0, .ref (kb K + 15)]) := by
  obtain ⟨hx, hb, hml, hown, hts, hr, hlk, hK⟩ := id C
  delta f_X4_advance_31 at hw
  refine c_v (run_v (As := [.int s0]) (rest := []) C hP hS (c_X4_refuse hw) gX4_advance_X4_refuse rfl dsX4_refuse rfl ⟨rfl, rfl⟩ ⟨Nat.le_of_ble_eq_true rfl, Nat.le_of_ble_eq_true rfl⟩ (by decide) (sX_15 K _) rfl hl.1 rfl (Nat.le_of_ble_eq_true rfl) dX4_advance_31 ⟨Nat.le_of_ble_eq_true rfl, Nat.le_of_ble_eq_true rfl⟩) hS (fun M_2 H locs hw hP hS => ?_)
  exact r_v C hP hS hw dX4_advance_34
theorem dsX4_advance : yX4_advance.cls = RX4 ∧ yX4_advance.cls ≠ "java/lang/invoke/MethodHandle" ∧ yX4_advance.cls ≠ "java/lang/invoke/VarHandle" ∧ (parseMethodDescriptor yX4_advance.desc).map (fun d => d.parameters.length) = some 0 := by decide +kernel
set_option maxRecDepth 100000 in
set_option maxHeartbeats 4000000 in
theorem c_X4_advance {l : Launch} {K : wC} {M : Mem} {Q : Mem → Prop} (hw : q_X4_advance M Q) : metV l yX4_advance wsX4_advance rmX4_advance shX 51 K [.ref (kb K + 15)] M Q := by
  refine met_of (cc := cX4_advance) (maxL := 1) (ret := none) (own := RX4) (by decide) rfl rfl (Nat.le_of_ble_eq_true rfl) ?_
  intro p e s m below meth c ls C hl hP hS
  have hl : lv_has ls 1 [(0, .ref (kb K + 15))] := hl
  obtain ⟨hx, hb, hml, hown, hts, hr, hlk, hK⟩ := id C
  have hP0 := hP
  delta q_X4_advance at hw
  refine lv_aload_n hx hb dX4_advance_0 rfl (lv_at hl 0 rfl) ?_
  refine g_f C hP (by decide) (sX_15 K _) rfl hX4_advance_X4 4 (by decide) kX4_advance_f33 rfl dX4_advance_1 ?_
  refine lv_if_ne (tgt := 34) hx hb dX4_advance_4 (by decide) (fun hc => ?_) (fun hc => ?_)
  · have hw := hw.1 hc
    exact r_v C hP hS hw dX4_advance_34
  · have hw := hw.2 hc
    refine lv_aload_n hx hb dX4_advance_7 rfl (lv_at hl 0 rfl) ?_
    refine g_f C hP (by decide) (sX_15 K _) rfl hX4_advance_X4 0 (by decide) kX4_advance_f12 rfl dX4_advance_8 ?_
    refine c_v (run_v (As := []) (rest := []) C hP hS (c_X3_nextToken hw) gX4_advance_X3_nextToken rfl dsX3_nextToken rfl ⟨rfl, rfl⟩ ⟨Nat.le_of_ble_eq_true rfl, Nat.le_of_ble_eq_true rfl⟩ (by decide) (sX_16 K _) rfl hl.1 rfl (Nat.le_of_ble_eq_true rfl) dX4_advance_11 ⟨Nat.le_of_ble_eq_true rfl, Nat.le_of_ble_eq_true rfl⟩) hS (fun M_1 H locs hw hP hS => ?_)
    refine lv_aload_n hx hb dX4_advance_14 rfl (lv_at hl 0 rfl) ?_
    refine lv_aload_n hx hb dX4_advance_15 rfl (lv_at hl 0 rfl) ?_
    refine g_f C hP (by decide) (sX_15 K _) rfl hX4_advance_X4 0 (by decide) kX4_advance_f12 rfl dX4_advance_16 ?_
    refine g_f C hP (by decide) (sX_16 K _) rfl hX4_advance_X3 2 (by decide) kX4_advance_f48 rfl dX4_advance_19 ?_
    refine lv_iconst hx hb dX4_advance_22 ic_4 ?_
    refine lv_icmp_ne (tgt := 30) hx hb dX4_advance_23 (by decide) (fun hc => ?_) (fun hc => ?_)
    · have hw := hw.1 hc
      refine lv_iconst hx hb dX4_advance_30 ic_0 ?_
      exact b_X4_advance_31 C _ _ _ _ _ hw hP hS (lv_sub hl [] rfl)
    · have hw := hw.2 hc
      refine lv_iconst hx hb dX4_advance_26 ic_1 ?_
      refine lv_goto (tgt := 31) hx hb dX4_advance_27 (by decide) ?_
      exact b_X4_advance_31 C _ _ _ _ _ hw hP hS (lv_sub hl [] rfl)

abbrev rmX4_nameOf : Room := { frames := 0, cells := 0, slots := 0, locals := 0 }
def q_X4_nameOf (v0 : Int32) (M : Mem) (Q : Nat → Mem → Prop) : Prop := ((v0 = 0 → Q 0 M) ∧ (¬ v0 = 0 → ((v0 = 1 → Q 1 M) ∧ (¬ v0 = 1 → ((v0 = 2 → Q 2 M) ∧ (¬ v0 = 2 → ((v0 = 3 → Q 3 M) ∧ (¬ v0 = 3 → ((v0 = 4 → Q 4 M) ∧ (¬ v0 = 4 → Q 5 M))))))))))
theorem dsX4_nameOf : yX4_nameOf.cls ≠ "java/lang/invoke/MethodHandle" ∧ yX4_nameOf.cls ≠ "java/lang/invoke/VarHandle" ∧ (parseMethodDescriptor yX4_nameOf.desc).map (fun d => d.parameters.length) = some 1 := by decide +kernel
set_option maxRecDepth 100000 in
set_option maxHeartbeats 4000000 in
theorem c_X4_nameOf {l : Launch} {K : wC} {v0 : Int32} {M : Mem} {Q : Nat → Mem → Prop} (hw : q_X4_nameOf v0 M Q) : metS l yX4_nameOf wsX4_nameOf rmX4_nameOf shX 51 K [.int v0] M Q := by
  refine met_of (cc := cX4_nameOf) (maxL := 1) (ret := (some (.object "java/lang/String"))) (own := RX4) (by decide) rfl rfl (Nat.le_of_ble_eq_true rfl) ?_
  intro p e s m below meth c ls C hl hP hS
  have hl : lv_has ls 1 [(0, .int v0)] := hl
  obtain ⟨hx, hb, hml, hown, hts, hr, hlk, hK⟩ := id C
  have hP0 := hP
  delta q_X4_nameOf at hw
  refine lv_iload_n hx hb dX4_nameOf_0 rfl (lv_at hl 0 rfl) ?_
  by_cases hs0 : v0 = 0
  · have hw := hw.1 hs0
    refine lv_tableIn (tgt := 36) hx hb dX4_nameOf_1 (by rw [hs0]; decide) (by rw [hs0]; decide) (by rw [hs0]; rfl) (by decide) ?_
    refine va_ldcS hx hb hown (hK.2.2.2.1 0 (by decide)) dX4_nameOf_36 ?_
    exact r_s C (by decide) hP hS hw dX4_nameOf_38
  · have hw := hw.2 hs0
    by_cases hs1 : v0 = 1
    · have hw := hw.1 hs1
      refine lv_tableIn (tgt := 39) hx hb dX4_nameOf_1 (by rw [hs1]; decide) (by rw [hs1]; decide) (by rw [hs1]; rfl) (by decide) ?_
      refine va_ldcS hx hb hown (hK.2.2.2.1 1 (by decide)) dX4_nameOf_39 ?_
      exact r_s C (by decide) hP hS hw dX4_nameOf_41
    · have hw := hw.2 hs1
      by_cases hs2 : v0 = 2
      · have hw := hw.1 hs2
        refine lv_tableIn (tgt := 42) hx hb dX4_nameOf_1 (by rw [hs2]; decide) (by rw [hs2]; decide) (by rw [hs2]; rfl) (by decide) ?_
        refine va_ldcS hx hb hown (hK.2.2.2.1 2 (by decide)) dX4_nameOf_42 ?_
        exact r_s C (by decide) hP hS hw dX4_nameOf_44
      · have hw := hw.2 hs2
        by_cases hs3 : v0 = 3
        · have hw := hw.1 hs3
          refine lv_tableIn (tgt := 45) hx hb dX4_nameOf_1 (by rw [hs3]; decide) (by rw [hs3]; decide) (by rw [hs3]; rfl) (by decide) ?_
          refine va_ldcS hx hb hown (hK.2.2.2.1 3 (by decide)) dX4_nameOf_45 ?_
          exact r_s C (by decide) hP hS hw dX4_nameOf_47
        · have hw := hw.2 hs3
          by_cases hs4 : v0 = 4
          · have hw := hw.1 hs4
            refine lv_tableIn (tgt := 48) hx hb dX4_nameOf_1 (by rw [hs4]; decide) (by rw [hs4]; decide) (by rw [hs4]; rfl) (by decide) ?_
            refine va_ldcS hx hb hown (hK.2.2.2.1 4 (by decide)) dX4_nameOf_48 ?_
            exact r_s C (by decide) hP hS hw dX4_nameOf_50
          · have hw := hw.2 hs4
            have nhs0 : v0.toInt ≠ 0 := ne_toInt hs0
            have nhs1 : v0.toInt ≠ 1 := ne_toInt hs1
            have nhs2 : v0.toInt ≠ 2 := ne_toInt hs2
            have nhs3 : v0.toInt ≠ 3 := ne_toInt hs3
            have nhs4 : v0.toInt ≠ 4 := ne_toInt hs4
            refine lv_tableOut (tgt := 51) hx hb dX4_nameOf_1 (by omega) (by decide) ?_
            refine va_ldcS hx hb hown (hK.2.2.2.1 5 (by decide)) dX4_nameOf_51 ?_
            exact r_s C (by decide) hP hS hw dX4_nameOf_53

theorem kX4_wordOfToken_f12 : Cond.fieldLink RX4 12 (TX4 0).1 (TX4 0).2.1 (TX4 0).2.2.1 ∈ wsX4_wordOfToken := List.mem_of_getElem? (i := 1) rfl
theorem hX4_wordOfToken_X4 : ∀ w ∈ u_ws RX4 TX4 6, w ∈ wsX4_wordOfToken := fun _ h => List.mem_cons_of_mem _ (List.mem_append_left _ (List.mem_append_right _ (h)))
theorem kX4_wordOfToken_f48 : Cond.fieldLink RX4 48 (TX3 2).1 (TX3 2).2.1 (TX3 2).2.2.1 ∈ wsX4_wordOfToken := List.mem_of_getElem? (i := 2) rfl
theorem hX4_wordOfToken_X3 : ∀ w ∈ u_ws RX3 TX3 5, w ∈ wsX4_wordOfToken := fun _ h => List.mem_cons_of_mem _ (List.mem_append_right _ (h))
abbrev rmX4_wordOfToken : Room := { frames := 5, cells := 0, slots := 0, locals := 108 }
abbrev t_X4_wordOfToken : Type := (Int32 → Mem → Prop)
def f_X4_wordOfToken_2 (Q : Int32 → Mem → Prop) (r : t_X4_wordOfToken) (v1 : Int32) (M : Mem) : Prop := (((6 : Int32) ≤ v1 → Q (6 : Int32) M) ∧ (¬ (6 : Int32) ≤ v1 → ((¬ (M 16 2) = (1 : Int32) → Q (6 : Int32) M) ∧ ((M 16 2) = (1 : Int32) → q_X4_nameOf v1 M (fun r_2 M_1 => q_X3_tokenIs r_2 M_1 (fun r_4 M_3 => ((r_4 = 0 → r (v1 + 1) M_3) ∧ (¬ r_4 = 0 → Q v1 M_3))))))))
def p_X4_wordOfToken (Q : Int32 → Mem → Prop) : Nat → t_X4_wordOfToken
  | 0 => fun _ _ => False
  | n + 1 => f_X4_wordOfToken_2 Q (p_X4_wordOfToken Q n)
def e_X4_wordOfToken (Q : Int32 → Mem → Prop) (r : t_X4_wordOfToken) (M : Mem) : Prop := r (0 : Int32) M
def q_X4_wordOfToken (M : Mem) (Q : Int32 → Mem → Prop) : Prop := ∃ n : Nat, e_X4_wordOfToken Q (p_X4_wordOfToken Q n) M
set_option maxRecDepth 100000 in
set_option maxHeartbeats 4000000 in
theorem b_X4_wordOfToken {l : Launch} {K : wC} {Q : Int32 → Mem → Prop} {p : Program} {e : Env} {s : State} {m : MethodId} {args : Array Value} {below : List Frame} {meth : Method} {c : Code} (C : cx 51 K p s m args meth c cX4_wordOfToken 2 wsX4_wordOfToken RX4 (some .int)) : ∀ n : Nat, (∀ (v1 : Int32) (M : Mem) (H : Heap) (locs : List Loc) (ls : Array Slot), (p_X4_wordOfToken Q n) v1 M → wP shX 51 K M H → va_S (wA 51 K) s.heap H locs → lv_has ls 2 [(0, .ref (kb K + 15)), (1, .int v1)] → W p l e rmX4_wordOfToken s m args below meth c H locs 0 0 (MQ below (va_Qi Q (wE shX 51 K) (wA 51 K)) args s 0 0 (wA 51 K)) (F0 m 2 ls [])) := by
  obtain ⟨hx, hb, hml, hown, hts, hr, hlk, hK⟩ := id C
  intro n
  induction n with
  | zero => exact fun _ _ _ _ _ hw _ _ _ => False.elim hw
  | succ n ih =>
    intro v1 M H locs ls hw hP hS hl
    have hw : f_X4_wordOfToken_2 Q (p_X4_wordOfToken Q n) v1 M := hw
    delta f_X4_wordOfToken_2 at hw
    refine lv_iload_n hx hb dX4_wordOfToken_2 rfl (lv_at hl 1 rfl) ?_
    refine lv_bipush hx hb dX4_wordOfToken_3 bp_6 ?_
    refine lv_icmp_ge (tgt := 41) hx hb dX4_wordOfToken_5 (by decide) (fun hc => ?_) (fun hc => ?_)
    · have hw := hw.1 hc
      refine lv_bipush hx hb dX4_wordOfToken_41 bp_6 ?_
      exact r_i C hP hS hw dX4_wordOfToken_43
    · have hw := hw.2 hc
      refine lv_aload_n hx hb dX4_wordOfToken_8 rfl (lv_at hl 0 rfl) ?_
      refine g_f C hP (by decide) (sX_15 K _) rfl hX4_wordOfToken_X4 0 (by decide) kX4_wordOfToken_f12 rfl dX4_wordOfToken_9 ?_
      refine g_f C hP (by decide) (sX_16 K _) rfl hX4_wordOfToken_X3 2 (by decide) kX4_wordOfToken_f48 rfl dX4_wordOfToken_12 ?_
      refine lv_iconst hx hb dX4_wordOfToken_15 ic_1 ?_
      refine lv_icmp_ne (tgt := 41) hx hb dX4_wordOfToken_16 (by decide) (fun hc => ?_) (fun hc => ?_)
      · have hw := hw.1 hc
        refine lv_bipush hx hb dX4_wordOfToken_41 bp_6 ?_
        exact r_i C hP hS hw dX4_wordOfToken_43
      · have hw := hw.2 hc
        refine lv_aload_n hx hb dX4_wordOfToken_19 rfl (lv_at hl 0 rfl) ?_
        refine g_f C hP (by decide) (sX_15 K _) rfl hX4_wordOfToken_X4 0 (by decide) kX4_wordOfToken_f12 rfl dX4_wordOfToken_20 ?_
        refine lv_iload_n hx hb dX4_wordOfToken_23 rfl (lv_at hl 1 rfl) ?_
        refine c_s (run_s (As := [.int v1]) (rest := [.ref (kb K + 16)]) C hP hS (c_X4_nameOf hw) gX4_wordOfToken_X4_nameOf rfl dsX4_nameOf rfl ⟨rfl, rfl⟩ ⟨Nat.le_of_ble_eq_true rfl, Nat.le_of_ble_eq_true rfl⟩ hl.1 rfl (Nat.le_of_ble_eq_true rfl) dX4_wordOfToken_24 ⟨Nat.le_of_ble_eq_true rfl, Nat.le_of_ble_eq_true rfl⟩) hS (fun r_2 M_1 H locs hr_2 hw hP hS => ?_)
        refine c_i (run_v (As := [.ref (kS K r_2)]) (rest := []) C hP hS (c_X3_tokenIs hr_2 hw) gX4_wordOfToken_X3_tokenIs rfl dsX3_tokenIs rfl ⟨rfl, rfl⟩ ⟨Nat.le_of_ble_eq_true rfl, Nat.le_of_ble_eq_true rfl⟩ (by decide) (sX_16 K _) rfl hl.1 rfl (Nat.le_of_ble_eq_true rfl) dX4_wordOfToken_27 ⟨Nat.le_of_ble_eq_true rfl, Nat.le_of_ble_eq_true rfl⟩) hS (fun r_4 M_3 H locs hw hP hS => ?_)
        refine lv_if_eq (tgt := 35) hx hb dX4_wordOfToken_30 (by decide) (fun hc => ?_) (fun hc => ?_)
        · have hw := hw.1 hc
          refine lv_iinc (v := (v1 + 1)) (lv' := [(1, .int (v1 + 1)), (0, .ref (kb K + 15))]) hx hb dX4_wordOfToken_35 hl (k := 1) rfl (by rw [ic_1]) (by decide) rfl (fun ls hl => ?_)
          refine lv_goto (tgt := 2) hx hb dX4_wordOfToken_38 (by decide) ?_
          exact ih _ _ _ _ _ hw hP hS (lv_sub hl [1, 0] rfl)
        · have hw := hw.2 hc
          refine lv_iload_n hx hb dX4_wordOfToken_33 rfl (lv_at hl 1 rfl) ?_
          exact r_i C hP hS hw dX4_wordOfToken_34
theorem dsX4_wordOfToken : yX4_wordOfToken.cls = RX4 ∧ yX4_wordOfToken.cls ≠ "java/lang/invoke/MethodHandle" ∧ yX4_wordOfToken.cls ≠ "java/lang/invoke/VarHandle" ∧ (parseMethodDescriptor yX4_wordOfToken.desc).map (fun d => d.parameters.length) = some 0 := by decide +kernel
set_option maxRecDepth 100000 in
set_option maxHeartbeats 4000000 in
theorem c_X4_wordOfToken {l : Launch} {K : wC} {M : Mem} {Q : Int32 → Mem → Prop} (hw : q_X4_wordOfToken M Q) : metI l yX4_wordOfToken wsX4_wordOfToken rmX4_wordOfToken shX 51 K [.ref (kb K + 15)] M Q := by
  refine met_of (cc := cX4_wordOfToken) (maxL := 2) (ret := (some .int)) (own := RX4) (by decide) rfl rfl (Nat.le_of_ble_eq_true rfl) ?_
  intro p e s m below meth c ls C hl hP hS
  have hl : lv_has ls 2 [(0, .ref (kb K + 15))] := hl
  obtain ⟨hx, hb, hml, hown, hts, hr, hlk, hK⟩ := id C
  have hP0 := hP
  obtain ⟨n, hw⟩ := hw
  have ih := b_X4_wordOfToken (l := l) (e := e) (below := below) (Q := Q) C n
  delta e_X4_wordOfToken at hw
  refine lv_iconst hx hb dX4_wordOfToken_0 ic_0 ?_
  refine lv_istore_n (lv' := [(1, .int (0 : Int32)), (0, .ref (kb K + 15))]) hx hb dX4_wordOfToken_1 rfl hl (by decide) rfl (fun ls hl => ?_)
  exact ih _ _ _ _ _ hw hP hS (lv_sub hl [1, 0] rfl)

theorem kX4_faultOfWord_f21 : Cond.fieldLink RX4 21 (TX4 1).1 (TX4 1).2.1 (TX4 1).2.2.1 ∈ wsX4_faultOfWord := List.mem_of_getElem? (i := 2) rfl
theorem hX4_faultOfWord_X4 : ∀ w ∈ u_ws RX4 TX4 6, w ∈ wsX4_faultOfWord := fun _ h => List.mem_cons_of_mem _ (List.mem_append_left _ (List.mem_append_right _ (h)))
theorem kX4_faultOfWord_f97 : Cond.fieldLink RX4 97 (TX0 2).1 (TX0 2).2.1 (TX0 2).2.2.1 ∈ wsX4_faultOfWord := List.mem_of_getElem? (i := 3) rfl
theorem hX4_faultOfWord_X0 : ∀ w ∈ u_ws RX0 TX0 10, w ∈ wsX4_faultOfWord := fun _ h => List.mem_cons_of_mem _ (List.mem_append_right _ (h))
theorem kX4_faultOfWord_f25 : Cond.fieldLink RX4 25 (TX4 2).1 (TX4 2).2.1 (TX4 2).2.2.1 ∈ wsX4_faultOfWord := List.mem_of_getElem? (i := 1) rfl
theorem kX4_faultOfWord_f100 : Cond.fieldLink RX4 100 (TX0 6).1 (TX0 6).2.1 (TX0 6).2.2.1 ∈ wsX4_faultOfWord := List.mem_of_getElem? (i := 4) rfl
abbrev rmX4_faultOfWord : Room := { frames := 0, cells := 0, slots := 0, locals := 0 }
def q_X4_faultOfWord (v1 : Int32) (M : Mem) (Q : Int32 → Mem → Prop) : Prop := ((v1 = 4 → (((M 18 2) < (10 : Int32) → Q (0 : Int32) M) ∧ (¬ (M 18 2) < (10 : Int32) → Q (5 : Int32) M))) ∧ (¬ v1 = 4 → ((v1 = 5 → (((M 15 2) = 0 → Q (0 : Int32) M) ∧ (¬ (M 15 2) = 0 → Q (4 : Int32) M))) ∧ (¬ v1 = 5 → ((v1 = 6 → Q (2 : Int32) M) ∧ (¬ v1 = 6 → (((M 18 6) < (4 : Int32) → Q (0 : Int32) M) ∧ (¬ (M 18 6) < (4 : Int32) → Q (5 : Int32) M))))))))
theorem dsX4_faultOfWord : yX4_faultOfWord.cls = RX4 ∧ yX4_faultOfWord.cls ≠ "java/lang/invoke/MethodHandle" ∧ yX4_faultOfWord.cls ≠ "java/lang/invoke/VarHandle" ∧ (parseMethodDescriptor yX4_faultOfWord.desc).map (fun d => d.parameters.length) = some 1 := by decide +kernel
set_option maxRecDepth 100000 in
set_option maxHeartbeats 4000000 in
theorem c_X4_faultOfWord {l : Launch} {K : wC} {v1 : Int32} {M : Mem} {Q : Int32 → Mem → Prop} (hw : q_X4_faultOfWord v1 M Q) : metI l yX4_faultOfWord wsX4_faultOfWord rmX4_faultOfWord shX 51 K [.ref (kb K + 15), .int v1] M Q := by
  refine met_of (cc := cX4_faultOfWord) (maxL := 2) (ret := (some .int)) (own := RX4) (by decide) rfl rfl (Nat.le_of_ble_eq_true rfl) ?_
  intro p e s m below meth c ls C hl hP hS
  have hl : lv_has ls 2 [(0, .ref (kb K + 15)), (1, .int v1)] := hl
  obtain ⟨hx, hb, hml, hown, hts, hr, hlk, hK⟩ := id C
  have hP0 := hP
  delta q_X4_faultOfWord at hw
  refine lv_iload_n hx hb dX4_faultOfWord_0 rfl (lv_at hl 1 rfl) ?_
  by_cases hs4 : v1 = 4
  · have hw := hw.1 hs4
    refine lv_tableIn (tgt := 43) hx hb dX4_faultOfWord_1 (by rw [hs4]; decide) (by rw [hs4]; decide) (by rw [hs4]; rfl) (by decide) ?_
    refine lv_aload_n hx hb dX4_faultOfWord_43 rfl (lv_at hl 0 rfl) ?_
    refine g_f C hP (by decide) (sX_15 K _) rfl hX4_faultOfWord_X4 1 (by decide) kX4_faultOfWord_f21 rfl dX4_faultOfWord_44 ?_
    refine g_f C hP (by decide) (sX_18 K _) rfl hX4_faultOfWord_X0 2 (by decide) kX4_faultOfWord_f97 rfl dX4_faultOfWord_47 ?_
    refine lv_bipush hx hb dX4_faultOfWord_50 bp_10 ?_
    refine lv_icmp_lt (tgt := 59) hx hb dX4_faultOfWord_52 (by decide) (fun hc => ?_) (fun hc => ?_)
    · have hw := hw.1 hc
      refine lv_iconst hx hb dX4_faultOfWord_59 ic_0 ?_
      exact r_i C hP hS hw dX4_faultOfWord_60
    · have hw := hw.2 hc
      refine lv_iconst hx hb dX4_faultOfWord_55 ic_5 ?_
      refine lv_goto (tgt := 60) hx hb dX4_faultOfWord_56 (by decide) ?_
      exact r_i C hP hS hw dX4_faultOfWord_60
  · have hw := hw.2 hs4
    by_cases hs5 : v1 = 5
    · have hw := hw.1 hs5
      refine lv_tableIn (tgt := 30) hx hb dX4_faultOfWord_1 (by rw [hs5]; decide) (by rw [hs5]; decide) (by rw [hs5]; rfl) (by decide) ?_
      refine lv_aload_n hx hb dX4_faultOfWord_30 rfl (lv_at hl 0 rfl) ?_
      refine g_f C hP (by decide) (sX_15 K _) rfl hX4_faultOfWord_X4 2 (by decide) kX4_faultOfWord_f25 rfl dX4_faultOfWord_31 ?_
      refine lv_if_eq (tgt := 41) hx hb dX4_faultOfWord_34 (by decide) (fun hc => ?_) (fun hc => ?_)
      · have hw := hw.1 hc
        refine lv_iconst hx hb dX4_faultOfWord_41 ic_0 ?_
        exact r_i C hP hS hw dX4_faultOfWord_42
      · have hw := hw.2 hc
        refine lv_iconst hx hb dX4_faultOfWord_37 ic_4 ?_
        refine lv_goto (tgt := 42) hx hb dX4_faultOfWord_38 (by decide) ?_
        exact r_i C hP hS hw dX4_faultOfWord_42
    · have hw := hw.2 hs5
      by_cases hs6 : v1 = 6
      · have hw := hw.1 hs6
        refine lv_tableIn (tgt := 28) hx hb dX4_faultOfWord_1 (by rw [hs6]; decide) (by rw [hs6]; decide) (by rw [hs6]; rfl) (by decide) ?_
        refine lv_iconst hx hb dX4_faultOfWord_28 ic_2 ?_
        exact r_i C hP hS hw dX4_faultOfWord_29
      · have hw := hw.2 hs6
        have nhs4 : v1.toInt ≠ 4 := ne_toInt hs4
        have nhs5 : v1.toInt ≠ 5 := ne_toInt hs5
        have nhs6 : v1.toInt ≠ 6 := ne_toInt hs6
        refine lv_tableOut (tgt := 61) hx hb dX4_faultOfWord_1 (by omega) (by decide) ?_
        refine lv_aload_n hx hb dX4_faultOfWord_61 rfl (lv_at hl 0 rfl) ?_
        refine g_f C hP (by decide) (sX_15 K _) rfl hX4_faultOfWord_X4 1 (by decide) kX4_faultOfWord_f21 rfl dX4_faultOfWord_62 ?_
        refine g_f C hP (by decide) (sX_18 K _) rfl hX4_faultOfWord_X0 6 (by decide) kX4_faultOfWord_f100 rfl dX4_faultOfWord_65 ?_
        refine lv_iconst hx hb dX4_faultOfWord_68 ic_4 ?_
        refine lv_icmp_lt (tgt := 76) hx hb dX4_faultOfWord_69 (by decide) (fun hc => ?_) (fun hc => ?_)
        · have hw := hw.1 hc
          refine lv_iconst hx hb dX4_faultOfWord_76 ic_0 ?_
          exact r_i C hP hS hw dX4_faultOfWord_77
        · have hw := hw.2 hc
          refine lv_iconst hx hb dX4_faultOfWord_72 ic_5 ?_
          refine lv_goto (tgt := 77) hx hb dX4_faultOfWord_73 (by decide) ?_
          exact r_i C hP hS hw dX4_faultOfWord_77

theorem kX4_takeNumber_f12 : Cond.fieldLink RX4 12 (TX4 0).1 (TX4 0).2.1 (TX4 0).2.2.1 ∈ wsX4_takeNumber := List.mem_of_getElem? (i := 1) rfl
theorem hX4_takeNumber_X4 : ∀ w ∈ u_ws RX4 TX4 6, w ∈ wsX4_takeNumber := fun _ h => List.mem_cons_of_mem _ (List.mem_append_left _ (List.mem_append_right _ (h)))
theorem kX4_takeNumber_f48 : Cond.fieldLink RX4 48 (TX3 2).1 (TX3 2).2.1 (TX3 2).2.2.1 ∈ wsX4_takeNumber := List.mem_of_getElem? (i := 2) rfl
theorem hX4_takeNumber_X3 : ∀ w ∈ u_ws RX3 TX3 5, w ∈ wsX4_takeNumber := fun _ h => List.mem_cons_of_mem _ (List.mem_append_right _ (h))
abbrev rmX4_takeNumber : Room := { frames := 3, cells := 0, slots := 0, locals := 65 }
def f_X4_takeNumber_40 (Q : Int32 → Mem → Prop) (v3 : Int32) (M : Mem) : Prop := q_X4_refuse (3 : Int32) M (fun M_5 => Q v3 M_5)
def q_X4_takeNumber (v1 : Int32) (v2 : Int32) (M : Mem) (Q : Int32 → Mem → Prop) : Prop := q_X4_advance M (fun M_1 => (((M_1 16 2) = (2 : Int32) → q_X3_numberOfToken M_1 (fun r_3 M_2 => ((r_3 < v1 → f_X4_takeNumber_40 Q r_3 M_2) ∧ (¬ r_3 < v1 → ((r_3 ≤ v2 → Q r_3 M_2) ∧ (¬ r_3 ≤ v2 → f_X4_takeNumber_40 Q r_3 M_2)))))) ∧ (¬ (M_1 16 2) = (2 : Int32) → q_X4_refuse (2 : Int32) M_1 (fun M_4 => Q v1 M_4))))
set_option maxRecDepth 100000 in
set_option maxHeartbeats 4000000 in
theorem b_X4_takeNumber_40 {l : Launch} {K : wC} {Q : Int32 → Mem → Prop} {p : Program} {e : Env} {s : State} {m : MethodId} {args : Array Value} {below : List Frame} {meth : Method} {c : Code} (C : cx 51 K p s m args meth c cX4_takeNumber 4 wsX4_takeNumber RX4 (some .int)) (v3 : Int32) (M : Mem) (H : Heap) (locs : List Loc) (ls : Array Slot) (hw : f_X4_takeNumber_40 Q v3 M) (hP : wP shX 51 K M H) (hS : va_S (wA 51 K) s.heap H locs) (hl : lv_has ls 4 [(0, .ref (kb K + 15)), (3, .int v3)]) : W p l e rmX4_takeNumber s m args below meth c H locs 0 0 (MQ below (va_Qi Q (wE shX 51 K) (wA 51 K)) args s 0 0 (wA 51 K)) (F0 m 40 ls []) := by
  obtain ⟨hx, hb, hml, hown, hts, hr, hlk, hK⟩ := id C
  delta f_X4_takeNumber_40 at hw
  refine lv_aload_n hx hb dX4_takeNumber_40 rfl (lv_at hl 0 rfl) ?_
  refine lv_iconst hx hb dX4_takeNumber_41 ic_3 ?_
  refine c_v (run_v (As := [.int (3 : Int32)]) (rest := []) C hP hS (c_X4_refuse hw) gX4_takeNumber_X4_refuse rfl dsX4_refuse rfl ⟨rfl, rfl⟩ ⟨Nat.le_of_ble_eq_true rfl, Nat.le_of_ble_eq_true rfl⟩ (by decide) (sX_15 K _) rfl hl.1 rfl (Nat.le_of_ble_eq_true rfl) dX4_takeNumber_42 ⟨Nat.le_of_ble_eq_true rfl, Nat.le_of_ble_eq_true rfl⟩) hS (fun M_5 H locs hw hP hS => ?_)
  refine lv_iload_n hx hb dX4_takeNumber_45 rfl (lv_at hl 1 rfl) ?_
  exact r_i C hP hS hw dX4_takeNumber_46
theorem dsX4_takeNumber : yX4_takeNumber.cls = RX4 ∧ yX4_takeNumber.cls ≠ "java/lang/invoke/MethodHandle" ∧ yX4_takeNumber.cls ≠ "java/lang/invoke/VarHandle" ∧ (parseMethodDescriptor yX4_takeNumber.desc).map (fun d => d.parameters.length) = some 2 := by decide +kernel
set_option maxRecDepth 100000 in
set_option maxHeartbeats 4000000 in
theorem c_X4_takeNumber {l : Launch} {K : wC} {v1 : Int32} {v2 : Int32} {M : Mem} {Q : Int32 → Mem → Prop} (hw : q_X4_takeNumber v1 v2 M Q) : metI l yX4_takeNumber wsX4_takeNumber rmX4_takeNumber shX 51 K [.ref (kb K + 15), .int v1, .int v2] M Q := by
  refine met_of (cc := cX4_takeNumber) (maxL := 4) (ret := (some .int)) (own := RX4) (by decide) rfl rfl (Nat.le_of_ble_eq_true rfl) ?_
  intro p e s m below meth c ls C hl hP hS
  have hl : lv_has ls 4 [(0, .ref (kb K + 15)), (1, .int v1), (2, .int v2)] := hl
  obtain ⟨hx, hb, hml, hown, hts, hr, hlk, hK⟩ := id C
  have hP0 := hP
  delta q_X4_takeNumber at hw
  refine lv_aload_n hx hb dX4_takeNumber_0 rfl (lv_at hl 0 rfl) ?_
  refine c_v (run_v (As := []) (rest := []) C hP hS (c_X4_advance hw) gX4_takeNumber_X4_advance rfl dsX4_advance rfl ⟨rfl, rfl⟩ ⟨Nat.le_of_ble_eq_true rfl, Nat.le_of_ble_eq_true rfl⟩ (by decide) (sX_15 K _) rfl hl.1 rfl (Nat.le_of_ble_eq_true rfl) dX4_takeNumber_1 ⟨Nat.le_of_ble_eq_true rfl, Nat.le_of_ble_eq_true rfl⟩) hS (fun M_1 H locs hw hP hS => ?_)
  refine lv_aload_n hx hb dX4_takeNumber_4 rfl (lv_at hl 0 rfl) ?_
  refine g_f C hP (by decide) (sX_15 K _) rfl hX4_takeNumber_X4 0 (by decide) kX4_takeNumber_f12 rfl dX4_takeNumber_5 ?_
  refine g_f C hP (by decide) (sX_16 K _) rfl hX4_takeNumber_X3 2 (by decide) kX4_takeNumber_f48 rfl dX4_takeNumber_8 ?_
  refine lv_iconst hx hb dX4_takeNumber_11 ic_2 ?_
  refine lv_icmp_eq (tgt := 22) hx hb dX4_takeNumber_12 (by decide) (fun hc => ?_) (fun hc => ?_)
  · have hw := hw.1 hc
    refine lv_aload_n hx hb dX4_takeNumber_22 rfl (lv_at hl 0 rfl) ?_
    refine g_f C hP (by decide) (sX_15 K _) rfl hX4_takeNumber_X4 0 (by decide) kX4_takeNumber_f12 rfl dX4_takeNumber_23 ?_
    refine c_i (run_v (As := []) (rest := []) C hP hS (c_X3_numberOfToken hw) gX4_takeNumber_X3_numberOfToken rfl dsX3_numberOfToken rfl ⟨rfl, rfl⟩ ⟨Nat.le_of_ble_eq_true rfl, Nat.le_of_ble_eq_true rfl⟩ (by decide) (sX_16 K _) rfl hl.1 rfl (Nat.le_of_ble_eq_true rfl) dX4_takeNumber_26 ⟨Nat.le_of_ble_eq_true rfl, Nat.le_of_ble_eq_true rfl⟩) hS (fun r_3 M_2 H locs hw hP hS => ?_)
    refine lv_istore_n (lv' := [(3, .int r_3), (0, .ref (kb K + 15)), (1, .int v1), (2, .int v2)]) hx hb dX4_takeNumber_29 rfl hl (by decide) rfl (fun ls hl => ?_)
    refine lv_iload_n hx hb dX4_takeNumber_30 rfl (lv_at hl 0 rfl) ?_
    refine lv_iload_n hx hb dX4_takeNumber_31 rfl (lv_at hl 2 rfl) ?_
    refine lv_icmp_lt (tgt := 40) hx hb dX4_takeNumber_32 (by decide) (fun hc => ?_) (fun hc => ?_)
    · have hw := hw.1 hc
      exact b_X4_takeNumber_40 C _ _ _ _ _ hw hP hS (lv_sub hl [1, 0] rfl)
    · have hw := hw.2 hc
      refine lv_iload_n hx hb dX4_takeNumber_35 rfl (lv_at hl 0 rfl) ?_
      refine lv_iload_n hx hb dX4_takeNumber_36 rfl (lv_at hl 3 rfl) ?_
      refine lv_icmp_le (tgt := 45) hx hb dX4_takeNumber_37 (by decide) (fun hc => ?_) (fun hc => ?_)
      · have hw := hw.1 hc
        refine lv_iload_n hx hb dX4_takeNumber_45 rfl (lv_at hl 0 rfl) ?_
        exact r_i C hP hS hw dX4_takeNumber_46
      · have hw := hw.2 hc
        exact b_X4_takeNumber_40 C _ _ _ _ _ hw hP hS (lv_sub hl [1, 0] rfl)
  · have hw := hw.2 hc
    refine lv_aload_n hx hb dX4_takeNumber_15 rfl (lv_at hl 0 rfl) ?_
    refine lv_iconst hx hb dX4_takeNumber_16 ic_2 ?_
    refine c_v (run_v (As := [.int (2 : Int32)]) (rest := []) C hP hS (c_X4_refuse hw) gX4_takeNumber_X4_refuse rfl dsX4_refuse rfl ⟨rfl, rfl⟩ ⟨Nat.le_of_ble_eq_true rfl, Nat.le_of_ble_eq_true rfl⟩ (by decide) (sX_15 K _) rfl hl.1 rfl (Nat.le_of_ble_eq_true rfl) dX4_takeNumber_17 ⟨Nat.le_of_ble_eq_true rfl, Nat.le_of_ble_eq_true rfl⟩) hS (fun M_4 H locs hw hP hS => ?_)
    refine lv_iload_n hx hb dX4_takeNumber_20 rfl (lv_at hl 1 rfl) ?_
    exact r_i C hP hS hw dX4_takeNumber_21

theorem kX4_takeSemicolon_f12 : Cond.fieldLink RX4 12 (TX4 0).1 (TX4 0).2.1 (TX4 0).2.2.1 ∈ wsX4_takeSemicolon := List.mem_of_getElem? (i := 1) rfl
theorem hX4_takeSemicolon_X4 : ∀ w ∈ u_ws RX4 TX4 6, w ∈ wsX4_takeSemicolon := fun _ h => List.mem_cons_of_mem _ (List.mem_append_left _ (List.mem_append_right _ (h)))
theorem kX4_takeSemicolon_f48 : Cond.fieldLink RX4 48 (TX3 2).1 (TX3 2).2.1 (TX3 2).2.2.1 ∈ wsX4_takeSemicolon := List.mem_of_getElem? (i := 2) rfl
theorem hX4_takeSemicolon_X3 : ∀ w ∈ u_ws RX3 TX3 5, w ∈ wsX4_takeSemicolon := fun _ h => List.mem_cons_of_mem _ (List.mem_append_right _ (h))
abbrev rmX4_takeSemicolon : Room := { frames := 3, cells := 0, slots := 0, locals := 65 }
def q_X4_takeSemicolon (M : Mem) (Q : Mem → Prop) : Prop := q_X4_advance M (fun M_1 => (((M_1 16 2) = (3 : Int32) → Q M_1) ∧ (¬ (M_1 16 2) = (3 : Int32) → q_X4_refuse (2 : Int32) M_1 (fun M_2 => Q M_2))))
theorem dsX4_takeSemicolon : yX4_takeSemicolon.cls = RX4 ∧ yX4_takeSemicolon.cls ≠ "java/lang/invoke/MethodHandle" ∧ yX4_takeSemicolon.cls ≠ "java/lang/invoke/VarHandle" ∧ (parseMethodDescriptor yX4_takeSemicolon.desc).map (fun d => d.parameters.length) = some 0 := by decide +kernel
set_option maxRecDepth 100000 in
set_option maxHeartbeats 4000000 in
theorem c_X4_takeSemicolon {l : Launch} {K : wC} {M : Mem} {Q : Mem → Prop} (hw : q_X4_takeSemicolon M Q) : metV l yX4_takeSemicolon wsX4_takeSemicolon rmX4_takeSemicolon shX 51 K [.ref (kb K + 15)] M Q := by
  refine met_of (cc := cX4_takeSemicolon) (maxL := 1) (ret := none) (own := RX4) (by decide) rfl rfl (Nat.le_of_ble_eq_true rfl) ?_
  intro p e s m below meth c ls C hl hP hS
  have hl : lv_has ls 1 [(0, .ref (kb K + 15))] := hl
  obtain ⟨hx, hb, hml, hown, hts, hr, hlk, hK⟩ := id C
  have hP0 := hP
  delta q_X4_takeSemicolon at hw
  refine lv_aload_n hx hb dX4_takeSemicolon_0 rfl (lv_at hl 0 rfl) ?_
  refine c_v (run_v (As := []) (rest := []) C hP hS (c_X4_advance hw) gX4_takeSemicolon_X4_advance rfl dsX4_advance rfl ⟨rfl, rfl⟩ ⟨Nat.le_of_ble_eq_true rfl, Nat.le_of_ble_eq_true rfl⟩ (by decide) (sX_15 K _) rfl hl.1 rfl (Nat.le_of_ble_eq_true rfl) dX4_takeSemicolon_1 ⟨Nat.le_of_ble_eq_true rfl, Nat.le_of_ble_eq_true rfl⟩) hS (fun M_1 H locs hw hP hS => ?_)
  refine lv_aload_n hx hb dX4_takeSemicolon_4 rfl (lv_at hl 0 rfl) ?_
  refine g_f C hP (by decide) (sX_15 K _) rfl hX4_takeSemicolon_X4 0 (by decide) kX4_takeSemicolon_f12 rfl dX4_takeSemicolon_5 ?_
  refine g_f C hP (by decide) (sX_16 K _) rfl hX4_takeSemicolon_X3 2 (by decide) kX4_takeSemicolon_f48 rfl dX4_takeSemicolon_8 ?_
  refine lv_iconst hx hb dX4_takeSemicolon_11 ic_3 ?_
  refine lv_icmp_eq (tgt := 20) hx hb dX4_takeSemicolon_12 (by decide) (fun hc => ?_) (fun hc => ?_)
  · have hw := hw.1 hc
    exact r_v C hP hS hw dX4_takeSemicolon_20
  · have hw := hw.2 hc
    refine lv_aload_n hx hb dX4_takeSemicolon_15 rfl (lv_at hl 0 rfl) ?_
    refine lv_iconst hx hb dX4_takeSemicolon_16 ic_2 ?_
    refine c_v (run_v (As := [.int (2 : Int32)]) (rest := []) C hP hS (c_X4_refuse hw) gX4_takeSemicolon_X4_refuse rfl dsX4_refuse rfl ⟨rfl, rfl⟩ ⟨Nat.le_of_ble_eq_true rfl, Nat.le_of_ble_eq_true rfl⟩ (by decide) (sX_15 K _) rfl hl.1 rfl (Nat.le_of_ble_eq_true rfl) dX4_takeSemicolon_17 ⟨Nat.le_of_ble_eq_true rfl, Nat.le_of_ble_eq_true rfl⟩) hS (fun M_2 H locs hw hP hS => ?_)
    exact r_v C hP hS hw dX4_takeSemicolon_20

theorem kX4_tell_f21 : Cond.fieldLink RX4 21 (TX4 1).1 (TX4 1).2.1 (TX4 1).2.2.1 ∈ wsX4_tell := List.mem_of_getElem? (i := 1) rfl
theorem hX4_tell_X4 : ∀ w ∈ u_ws RX4 TX4 6, w ∈ wsX4_tell := fun _ h => List.mem_cons_of_mem _ (List.mem_append_left _ (List.mem_append_right _ (h)))
theorem kX4_tell_f25 : Cond.fieldLink RX4 25 (TX4 2).1 (TX4 2).2.1 (TX4 2).2.2.1 ∈ wsX4_tell := List.mem_of_getElem? (i := 2) rfl
abbrev rmX4_tell : Room := { frames := 1, cells := 0, slots := 0, locals := 22 }
def q_X4_tell (v1 : Int32) (v2 : Int32) (v3 : Int32) (M : Mem) (Q : Mem → Prop) : Prop := ((v1 = 4 → q_X0_appendCorner 18 v2 v3 M (fun M_1 => Q M_1)) ∧ (¬ v1 = 4 → ((v1 = 5 → q_X0_movePole 18 v2 v3 M (fun M_2 => Q (mU M_2 15 2 (1 : Int32)))) ∧ (¬ v1 = 5 → q_X0_appendWheel 18 v1 v2 M (fun M_3 => Q M_3)))))
theorem dsX4_tell : yX4_tell.cls = RX4 ∧ yX4_tell.cls ≠ "java/lang/invoke/MethodHandle" ∧ yX4_tell.cls ≠ "java/lang/invoke/VarHandle" ∧ (parseMethodDescriptor yX4_tell.desc).map (fun d => d.parameters.length) = some 3 := by decide +kernel
set_option maxRecDepth 100000 in
set_option maxHeartbeats 4000000 in
theorem c_X4_tell {l : Launch} {K : wC} {v1 : Int32} {v2 : Int32} {v3 : Int32} {M : Mem} {Q : Mem → Prop} (hw : q_X4_tell v1 v2 v3 M Q) : metV l yX4_tell wsX4_tell rmX4_tell shX 51 K [.ref (kb K + 15), .int v1, .int v2, .int v3] M Q := by
  refine met_of (cc := cX4_tell) (maxL := 4) (ret := none) (own := RX4) (by decide) rfl rfl (Nat.le_of_ble_eq_true rfl) ?_
  intro p e s m below meth c ls C hl hP hS
  have hl : lv_has ls 4 [(0, .ref (kb K + 15)), (1, .int v1), (2, .int v2), (3, .int v3)] := hl
  obtain ⟨hx, hb, hml, hown, hts, hr, hlk, hK⟩ := id C
  have hP0 := hP
  delta q_X4_tell at hw
  refine lv_iload_n hx hb dX4_tell_0 rfl (lv_at hl 1 rfl) ?_
  by_cases hs4 : v1 = 4
  · have hw := hw.1 hs4
    refine lv_lookup (off := 44) (tgt := 45) hx hb dX4_tell_1 (by decide) (by rw [hs4]; first | done | rfl) (by decide) ?_
    refine lv_aload_n hx hb dX4_tell_45 rfl (lv_at hl 0 rfl) ?_
    refine g_f C hP (by decide) (sX_15 K _) rfl hX4_tell_X4 1 (by decide) kX4_tell_f21 rfl dX4_tell_46 ?_
    refine lv_iload_n hx hb dX4_tell_49 rfl (lv_at hl 2 rfl) ?_
    refine lv_iload_n hx hb dX4_tell_50 rfl (lv_at hl 3 rfl) ?_
    refine c_v (run_v (As := [.int v2, .int v3]) (rest := []) C hP hS (c_X0_appendCorner lay_18 hw) gX4_tell_X0_appendCorner rfl dsX0_appendCorner rfl ⟨rfl, rfl⟩ ⟨Nat.le_of_ble_eq_true rfl, Nat.le_of_ble_eq_true rfl⟩ (by decide) (sX_18 K _) rfl hl.1 rfl (Nat.le_of_ble_eq_true rfl) dX4_tell_51 ⟨Nat.le_of_ble_eq_true rfl, Nat.le_of_ble_eq_true rfl⟩) hS (fun M_1 H locs hw hP hS => ?_)
    refine lv_goto (tgt := 66) hx hb dX4_tell_54 (by decide) ?_
    exact r_v C hP hS hw dX4_tell_66
  · have hw := hw.2 hs4
    by_cases hs5 : v1 = 5
    · have hw := hw.1 hs5
      refine lv_lookup (off := 27) (tgt := 28) hx hb dX4_tell_1 (by decide) (by rw [hs5]; first | done | rfl) (by decide) ?_
      refine lv_aload_n hx hb dX4_tell_28 rfl (lv_at hl 0 rfl) ?_
      refine g_f C hP (by decide) (sX_15 K _) rfl hX4_tell_X4 1 (by decide) kX4_tell_f21 rfl dX4_tell_29 ?_
      refine lv_iload_n hx hb dX4_tell_32 rfl (lv_at hl 2 rfl) ?_
      refine lv_iload_n hx hb dX4_tell_33 rfl (lv_at hl 3 rfl) ?_
      refine c_v (run_v (As := [.int v2, .int v3]) (rest := []) C hP hS (c_X0_movePole lay_18 hw) gX4_tell_X0_movePole rfl dsX0_movePole rfl ⟨rfl, rfl⟩ ⟨Nat.le_of_ble_eq_true rfl, Nat.le_of_ble_eq_true rfl⟩ (by decide) (sX_18 K _) rfl hl.1 rfl (Nat.le_of_ble_eq_true rfl) dX4_tell_34 ⟨Nat.le_of_ble_eq_true rfl, Nat.le_of_ble_eq_true rfl⟩) hS (fun M_2 H locs hw hP hS => ?_)
      refine lv_aload_n hx hb dX4_tell_37 rfl (lv_at hl 0 rfl) ?_
      refine lv_iconst hx hb dX4_tell_38 ic_1 ?_
      refine p_f C hP hS (by decide) (sX_15 K _) (sX_15 K _) rfl hX4_tell_X4 tyX4_ok nmX4 (by decide) kX4_tell_f25 rfl (by decide) (by decide) (Nat.le_of_ble_eq_true rfl) dX4_tell_39 (fun H locs hP hS => ?_)
      refine lv_goto (tgt := 66) hx hb dX4_tell_42 (by decide) ?_
      exact r_v C hP hS hw dX4_tell_66
    · have hw := hw.2 hs5
      refine lv_lookup (off := 56) (tgt := 57) hx hb dX4_tell_1 (by decide) (by refine (lv_osw hs4 (by decide)).trans ?_; refine (lv_osw hs5 (by decide)).trans ?_; rfl) (by decide) ?_
      refine lv_aload_n hx hb dX4_tell_57 rfl (lv_at hl 0 rfl) ?_
      refine g_f C hP (by decide) (sX_15 K _) rfl hX4_tell_X4 1 (by decide) kX4_tell_f21 rfl dX4_tell_58 ?_
      refine lv_iload_n hx hb dX4_tell_61 rfl (lv_at hl 1 rfl) ?_
      refine lv_iload_n hx hb dX4_tell_62 rfl (lv_at hl 2 rfl) ?_
      refine c_v (run_v (As := [.int v1, .int v2]) (rest := []) C hP hS (c_X0_appendWheel lay_18 hw) gX4_tell_X0_appendWheel rfl dsX0_appendWheel rfl ⟨rfl, rfl⟩ ⟨Nat.le_of_ble_eq_true rfl, Nat.le_of_ble_eq_true rfl⟩ (by decide) (sX_18 K _) rfl hl.1 rfl (Nat.le_of_ble_eq_true rfl) dX4_tell_63 ⟨Nat.le_of_ble_eq_true rfl, Nat.le_of_ble_eq_true rfl⟩) hS (fun M_3 H locs hw hP hS => ?_)
      exact r_v C hP hS hw dX4_tell_66

theorem kX4_readLine_f33 : Cond.fieldLink RX4 33 (TX4 4).1 (TX4 4).2.1 (TX4 4).2.2.1 ∈ wsX4_readLine := List.mem_of_getElem? (i := 1) rfl
theorem hX4_readLine_X4 : ∀ w ∈ u_ws RX4 TX4 6, w ∈ wsX4_readLine := fun _ h => List.mem_cons_of_mem _ (List.mem_append_left _ (List.mem_append_left _ (List.mem_append_right _ (h))))
abbrev rmX4_readLine : Room := { frames := 6, cells := 0, slots := 0, locals := 129 }
def f_X4_readLine_62 (Q : Mem → Prop) (v1 : Int32) (v3 : Int32) (s0 : Int32) (M : Mem) : Prop := q_X4_takeSemicolon M (fun M_12 => ((¬ (M_12 15 4) = 0 → Q M_12) ∧ ((M_12 15 4) = 0 → q_X4_tell v1 v3 s0 M_12 (fun M_13 => Q M_13))))
def f_X4_readLine_46 (Q : Mem → Prop) (v1 : Int32) (v2 : Int32) (s0 : Int32) (M : Mem) : Prop := ((v2 = 0 → q_X4_takeNumber (0 : Int32) (20 : Int32) M (fun r_11 M_10 => f_X4_readLine_62 Q v1 s0 r_11 M_10)) ∧ (¬ v2 = 0 → f_X4_readLine_62 Q v1 s0 (0 : Int32) M))
def f_X4_readLine_24 (Q : Mem → Prop) (v1 : Int32) (s0 : Int32) (M : Mem) : Prop := ((s0 = 0 → q_X4_takeNumber (0 : Int32) (20 : Int32) M (fun r_7 M_6 => f_X4_readLine_46 Q v1 s0 r_7 M_6)) ∧ (¬ s0 = 0 → q_X4_takeNumber (1 : Int32) (9 : Int32) M (fun r_9 M_8 => f_X4_readLine_46 Q v1 s0 r_9 M_8)))
def q_X4_readLine (M : Mem) (Q : Mem → Prop) : Prop := q_X4_wordOfToken M (fun r_2 M_1 => q_X4_faultOfWord r_2 M_1 (fun r_4 M_3 => q_X4_refuse r_4 M_3 (fun M_5 => (((4 : Int32) ≤ r_2 → f_X4_readLine_24 Q r_2 (0 : Int32) M_5) ∧ (¬ (4 : Int32) ≤ r_2 → f_X4_readLine_24 Q r_2 (1 : Int32) M_5)))))
set_option maxRecDepth 100000 in
set_option maxHeartbeats 4000000 in
theorem b_X4_readLine_62 {l : Launch} {K : wC} {Q : Mem → Prop} {p : Program} {e : Env} {s : State} {m : MethodId} {args : Array Value} {below : List Frame} {meth : Method} {c : Code} (C : cx 51 K p s m args meth c cX4_readLine 5 wsX4_readLine RX4 none) (v1 : Int32) (v3 : Int32) (s0 : Int32) (M : Mem) (H : Heap) (locs : List Loc) (ls : Array Slot) (hw : f_X4_readLine_62 Q v1 v3 s0 M) (hP : wP shX 51 K M H) (hS : va_S (wA 51 K) s.heap H locs) (hl : lv_has ls 5 [(0, .ref (kb K + 15)), (1, .int v1), (3, .int v3)]) : W p l e rmX4_readLine s m args below meth c H locs 0 0 (MQ below (va_Qv Q (wE shX 51 K) (wA 51 K)) args s 0 0 (wA 51 K)) (F0 m 62 ls [.int s0]) := by
  obtain ⟨hx, hb, hml, hown, hts, hr, hlk, hK⟩ := id C
  delta f_X4_readLine_62 at hw
  refine lv_istore (lv' := [(4, .int s0), (0, .ref (kb K + 15)), (1, .int v1), (3, .int v3)]) hx hb dX4_readLine_62 hl (by decide) rfl (fun ls hl => ?_)
  refine lv_aload_n hx hb dX4_readLine_64 rfl (lv_at hl 1 rfl) ?_
  refine c_v (run_v (As := []) (rest := []) C hP hS (c_X4_takeSemicolon hw) gX4_readLine_X4_takeSemicolon rfl dsX4_takeSemicolon rfl ⟨rfl, rfl⟩ ⟨Nat.le_of_ble_eq_true rfl, Nat.le_of_ble_eq_true rfl⟩ (by decide) (sX_15 K _) rfl hl.1 rfl (Nat.le_of_ble_eq_true rfl) dX4_readLine_65 ⟨Nat.le_of_ble_eq_true rfl, Nat.le_of_ble_eq_true rfl⟩) hS (fun M_12 H locs hw hP hS => ?_)
  refine lv_aload_n hx hb dX4_readLine_68 rfl (lv_at hl 1 rfl) ?_
  refine g_f C hP (by decide) (sX_15 K _) rfl hX4_readLine_X4 4 (by decide) kX4_readLine_f33 rfl dX4_readLine_69 ?_
  refine lv_if_ne (tgt := 83) hx hb dX4_readLine_72 (by decide) (fun hc => ?_) (fun hc => ?_)
  · have hw := hw.1 hc
    exact r_v C hP hS hw dX4_readLine_83
  · have hw := hw.2 hc
    refine lv_aload_n hx hb dX4_readLine_75 rfl (lv_at hl 1 rfl) ?_
    refine lv_iload_n hx hb dX4_readLine_76 rfl (lv_at hl 2 rfl) ?_
    refine lv_iload_n hx hb dX4_readLine_77 rfl (lv_at hl 3 rfl) ?_
    refine lv_iload hx hb dX4_readLine_78 (lv_at hl 0 rfl) ?_
    refine c_v (run_v (As := [.int v1, .int v3, .int s0]) (rest := []) C hP hS (c_X4_tell hw) gX4_readLine_X4_tell rfl dsX4_tell rfl ⟨rfl, rfl⟩ ⟨Nat.le_of_ble_eq_true rfl, Nat.le_of_ble_eq_true rfl⟩ (by decide) (sX_15 K _) rfl hl.1 rfl (Nat.le_of_ble_eq_true rfl) dX4_readLine_80 ⟨Nat.le_of_ble_eq_true rfl, Nat.le_of_ble_eq_true rfl⟩) hS (fun M_13 H locs hw hP hS => ?_)
    exact r_v C hP hS hw dX4_readLine_83
set_option maxRecDepth 100000 in
set_option maxHeartbeats 4000000 in
theorem b_X4_readLine_46 {l : Launch} {K : wC} {Q : Mem → Prop} {p : Program} {e : Env} {s : State} {m : MethodId} {args : Array Value} {below : List Frame} {meth : Method} {c : Code} (C : cx 51 K p s m args meth c cX4_readLine 5 wsX4_readLine RX4 none) (v1 : Int32) (v2 : Int32) (s0 : Int32) (M : Mem) (H : Heap) (locs : List Loc) (ls : Array Slot) (hw : f_X4_readLine_46 Q v1 v2 s0 M) (hP : wP shX 51 K M H) (hS : va_S (wA 51 K) s.heap H locs) (hl : lv_has ls 5 [(0, .ref (kb K + 15)), (1, .int v1), (2, .int v2)]) : W p l e rmX4_readLine s m args below meth c H locs 0 0 (MQ below (va_Qv Q (wE shX 51 K) (wA 51 K)) args s 0 0 (wA 51 K)) (F0 m 46 ls [.int s0]) := by
  obtain ⟨hx, hb, hml, hown, hts, hr, hlk, hK⟩ := id C
  delta f_X4_readLine_46 at hw
  refine lv_istore_n (lv' := [(3, .int s0), (0, .ref (kb K + 15)), (1, .int v1), (2, .int v2)]) hx hb dX4_readLine_46 rfl hl (by decide) rfl (fun ls hl => ?_)
  refine lv_iload_n hx hb dX4_readLine_47 rfl (lv_at hl 3 rfl) ?_
  refine lv_if_eq (tgt := 55) hx hb dX4_readLine_48 (by decide) (fun hc => ?_) (fun hc => ?_)
  · have hw := hw.1 hc
    refine lv_aload_n hx hb dX4_readLine_55 rfl (lv_at hl 1 rfl) ?_
    refine lv_iconst hx hb dX4_readLine_56 ic_0 ?_
    refine lv_bipush hx hb dX4_readLine_57 bp_20 ?_
    refine c_i (run_v (As := [.int (0 : Int32), .int (20 : Int32)]) (rest := []) C hP hS (c_X4_takeNumber hw) gX4_readLine_X4_takeNumber rfl dsX4_takeNumber rfl ⟨rfl, rfl⟩ ⟨Nat.le_of_ble_eq_true rfl, Nat.le_of_ble_eq_true rfl⟩ (by decide) (sX_15 K _) rfl hl.1 rfl (Nat.le_of_ble_eq_true rfl) dX4_readLine_59 ⟨Nat.le_of_ble_eq_true rfl, Nat.le_of_ble_eq_true rfl⟩) hS (fun r_11 M_10 H locs hw hP hS => ?_)
    exact b_X4_readLine_62 C _ _ _ _ _ _ _ hw hP hS (lv_sub hl [1, 2, 0] rfl)
  · have hw := hw.2 hc
    refine lv_iconst hx hb dX4_readLine_51 ic_0 ?_
    refine lv_goto (tgt := 62) hx hb dX4_readLine_52 (by decide) ?_
    exact b_X4_readLine_62 C _ _ _ _ _ _ _ hw hP hS (lv_sub hl [1, 2, 0] rfl)
set_option maxRecDepth 100000 in
set_option maxHeartbeats 4000000 in
theorem b_X4_readLine_24 {l : Launch} {K : wC} {Q : Mem → Prop} {p : Program} {e : Env} {s : State} {m : MethodId} {args : Array Value} {below : List Frame} {meth : Method} {c : Code} (C : cx 51 K p s m args meth c cX4_readLine 5 wsX4_readLine RX4 none) (v1 : Int32) (s0 : Int32) (M : Mem) (H : Heap) (locs : List Loc) (ls : Array Slot) (hw : f_X4_readLine_24 Q v1 s0 M) (hP : wP shX 51 K M H) (hS : va_S (wA 51 K) s.heap H locs) (hl : lv_has ls 5 [(0, .ref (kb K + 15)), (1, .int v1)]) : W p l e rmX4_readLine s m args below meth c H locs 0 0 (MQ below (va_Qv Q (wE shX 51 K) (wA 51 K)) args s 0 0 (wA 51 K)) (F0 m 24 ls [.int s0]) := by
  obtain ⟨hx, hb, hml, hown, hts, hr, hlk, hK⟩ := id C
  delta f_X4_readLine_24 at hw
  refine lv_istore_n (lv' := [(2, .int s0), (0, .ref (kb K + 15)), (1, .int v1)]) hx hb dX4_readLine_24 rfl hl (by decide) rfl (fun ls hl => ?_)
  refine lv_iload_n hx hb dX4_readLine_25 rfl (lv_at hl 0 rfl) ?_
  refine lv_if_eq (tgt := 39) hx hb dX4_readLine_26 (by decide) (fun hc => ?_) (fun hc => ?_)
  · have hw := hw.1 hc
    refine lv_aload_n hx hb dX4_readLine_39 rfl (lv_at hl 1 rfl) ?_
    refine lv_iconst hx hb dX4_readLine_40 ic_0 ?_
    refine lv_bipush hx hb dX4_readLine_41 bp_20 ?_
    refine c_i (run_v (As := [.int (0 : Int32), .int (20 : Int32)]) (rest := []) C hP hS (c_X4_takeNumber hw) gX4_readLine_X4_takeNumber rfl dsX4_takeNumber rfl ⟨rfl, rfl⟩ ⟨Nat.le_of_ble_eq_true rfl, Nat.le_of_ble_eq_true rfl⟩ (by decide) (sX_15 K _) rfl hl.1 rfl (Nat.le_of_ble_eq_true rfl) dX4_readLine_43 ⟨Nat.le_of_ble_eq_true rfl, Nat.le_of_ble_eq_true rfl⟩) hS (fun r_7 M_6 H locs hw hP hS => ?_)
    exact b_X4_readLine_46 C _ _ _ _ _ _ _ hw hP hS (lv_sub hl [1, 2, 0] rfl)
  · have hw := hw.2 hc
    refine lv_aload_n hx hb dX4_readLine_29 rfl (lv_at hl 1 rfl) ?_
    refine lv_iconst hx hb dX4_readLine_30 ic_1 ?_
    refine lv_bipush hx hb dX4_readLine_31 bp_9 ?_
    refine c_i (run_v (As := [.int (1 : Int32), .int (9 : Int32)]) (rest := []) C hP hS (c_X4_takeNumber hw) gX4_readLine_X4_takeNumber rfl dsX4_takeNumber rfl ⟨rfl, rfl⟩ ⟨Nat.le_of_ble_eq_true rfl, Nat.le_of_ble_eq_true rfl⟩ (by decide) (sX_15 K _) rfl hl.1 rfl (Nat.le_of_ble_eq_true rfl) dX4_readLine_33 ⟨Nat.le_of_ble_eq_true rfl, Nat.le_of_ble_eq_true rfl⟩) hS (fun r_9 M_8 H locs hw hP hS => ?_)
    refine lv_goto (tgt := 46) hx hb dX4_readLine_36 (by decide) ?_
    exact b_X4_readLine_46 C _ _ _ _ _ _ _ hw hP hS (lv_sub hl [1, 2, 0] rfl)
theorem dsX4_readLine : yX4_readLine.cls = RX4 ∧ yX4_readLine.cls ≠ "java/lang/invoke/MethodHandle" ∧ yX4_readLine.cls ≠ "java/lang/invoke/VarHandle" ∧ (parseMethodDescriptor yX4_readLine.desc).map (fun d => d.parameters.length) = some 0 := by decide +kernel
set_option maxRecDepth 100000 in
set_option maxHeartbeats 4000000 in
theorem c_X4_readLine {l : Launch} {K : wC} {M : Mem} {Q : Mem → Prop} (hw : q_X4_readLine M Q) : metV l yX4_readLine wsX4_readLine rmX4_readLine shX 51 K [.ref (kb K + 15)] M Q := by
  refine met_of (cc := cX4_readLine) (maxL := 5) (ret := none) (own := RX4) (by decide) rfl rfl (Nat.le_of_ble_eq_true rfl) ?_
  intro p e s m below meth c ls C hl hP hS
  have hl : lv_has ls 5 [(0, .ref (kb K + 15))] := hl
  obtain ⟨hx, hb, hml, hown, hts, hr, hlk, hK⟩ := id C
  have hP0 := hP
  delta q_X4_readLine at hw
  refine lv_aload_n hx hb dX4_readLine_0 rfl (lv_at hl 0 rfl) ?_
  refine c_i (run_v (As := []) (rest := []) C hP hS (c_X4_wordOfToken hw) gX4_readLine_X4_wordOfToken rfl dsX4_wordOfToken rfl ⟨rfl, rfl⟩ ⟨Nat.le_of_ble_eq_true rfl, Nat.le_of_ble_eq_true rfl⟩ (by decide) (sX_15 K _) rfl hl.1 rfl (Nat.le_of_ble_eq_true rfl) dX4_readLine_1 ⟨Nat.le_of_ble_eq_true rfl, Nat.le_of_ble_eq_true rfl⟩) hS (fun r_2 M_1 H locs hw hP hS => ?_)
  refine lv_istore_n (lv' := [(1, .int r_2), (0, .ref (kb K + 15))]) hx hb dX4_readLine_4 rfl hl (by decide) rfl (fun ls hl => ?_)
  refine lv_aload_n hx hb dX4_readLine_5 rfl (lv_at hl 1 rfl) ?_
  refine lv_aload_n hx hb dX4_readLine_6 rfl (lv_at hl 1 rfl) ?_
  refine lv_iload_n hx hb dX4_readLine_7 rfl (lv_at hl 0 rfl) ?_
  refine c_i (run_v (As := [.int r_2]) (rest := [.ref (kb K + 15)]) C hP hS (c_X4_faultOfWord hw) gX4_readLine_X4_faultOfWord rfl dsX4_faultOfWord rfl ⟨rfl, rfl⟩ ⟨Nat.le_of_ble_eq_true rfl, Nat.le_of_ble_eq_true rfl⟩ (by decide) (sX_15 K _) rfl hl.1 rfl (Nat.le_of_ble_eq_true rfl) dX4_readLine_8 ⟨Nat.le_of_ble_eq_true rfl, Nat.le_of_ble_eq_true rfl⟩) hS (fun r_4 M_3 H locs hw hP hS => ?_)
  refine c_v (run_v (As := [.int r_4]) (rest := []) C hP hS (c_X4_refuse hw) gX4_readLine_X4_refuse rfl dsX4_refuse rfl ⟨rfl, rfl⟩ ⟨Nat.le_of_ble_eq_true rfl, Nat.le_of_ble_eq_true rfl⟩ (by decide) (sX_15 K _) rfl hl.1 rfl (Nat.le_of_ble_eq_true rfl) dX4_readLine_11 ⟨Nat.le_of_ble_eq_true rfl, Nat.le_of_ble_eq_true rfl⟩) hS (fun M_5 H locs hw hP hS => ?_)
  refine lv_iload_n hx hb dX4_readLine_14 rfl (lv_at hl 0 rfl) ?_
  refine lv_iconst hx hb dX4_readLine_15 ic_4 ?_
  refine lv_icmp_ge (tgt := 23) hx hb dX4_readLine_16 (by decide) (fun hc => ?_) (fun hc => ?_)
  · have hw := hw.1 hc
    refine lv_iconst hx hb dX4_readLine_23 ic_0 ?_
    exact b_X4_readLine_24 C _ _ _ _ _ _ hw hP hS (lv_sub hl [1, 0] rfl)
  · have hw := hw.2 hc
    refine lv_iconst hx hb dX4_readLine_19 ic_1 ?_
    refine lv_goto (tgt := 24) hx hb dX4_readLine_20 (by decide) ?_
    exact b_X4_readLine_24 C _ _ _ _ _ _ hw hP hS (lv_sub hl [1, 0] rfl)

theorem kX4_readText_f12 : Cond.fieldLink RX4 12 (TX4 0).1 (TX4 0).2.1 (TX4 0).2.2.1 ∈ wsX4_readText := List.mem_of_getElem? (i := 1) rfl
theorem hX4_readText_X4 : ∀ w ∈ u_ws RX4 TX4 6, w ∈ wsX4_readText := fun _ h => List.mem_cons_of_mem _ (List.mem_append_left _ (List.mem_append_left _ (List.mem_append_right _ (h))))
theorem kX4_readText_f21 : Cond.fieldLink RX4 21 (TX4 1).1 (TX4 1).2.1 (TX4 1).2.2.1 ∈ wsX4_readText := List.mem_of_getElem? (i := 2) rfl
theorem kX4_readText_f25 : Cond.fieldLink RX4 25 (TX4 2).1 (TX4 2).2.1 (TX4 2).2.2.1 ∈ wsX4_readText := List.mem_of_getElem? (i := 3) rfl
theorem kX4_readText_f29 : Cond.fieldLink RX4 29 (TX4 3).1 (TX4 3).2.1 (TX4 3).2.2.1 ∈ wsX4_readText := List.mem_of_getElem? (i := 4) rfl
theorem kX4_readText_f33 : Cond.fieldLink RX4 33 (TX4 4).1 (TX4 4).2.1 (TX4 4).2.2.1 ∈ wsX4_readText := List.mem_of_getElem? (i := 5) rfl
theorem kX4_readText_f36 : Cond.fieldLink RX4 36 (TX4 5).1 (TX4 5).2.1 (TX4 5).2.2.1 ∈ wsX4_readText := List.mem_of_getElem? (i := 6) rfl
theorem kX4_readText_f48 : Cond.fieldLink RX4 48 (TX3 2).1 (TX3 2).2.1 (TX3 2).2.2.1 ∈ wsX4_readText := List.mem_of_getElem? (i := 7) rfl
theorem hX4_readText_X3 : ∀ w ∈ u_ws RX3 TX3 5, w ∈ wsX4_readText := fun _ h => List.mem_cons_of_mem _ (List.mem_append_left _ (List.mem_append_right _ (h)))
abbrev rmX4_readText : Room := { frames := 7, cells := 0, slots := 0, locals := 153 }
abbrev t_X4_readText : Type := (Int32 → Mem → Prop)
def f_X4_readText_36 (Q : Mem → Prop) (r : t_X4_readText) (v1 : Int32) (M : Mem) : Prop := (((160 : Int32) < v1 → Q M) ∧ (¬ (160 : Int32) < v1 → q_X4_advance M (fun M_4 => ((¬ (M_4 15 4) = 0 → Q M_4) ∧ ((M_4 15 4) = 0 → ((¬ (M_4 16 2) = 0 → q_X4_readLine M_4 (fun M_5 => (((M_5 15 4) = 0 → r (v1 + 1) (mU M_5 15 3 ((M_5 15 3) + (1 : Int32)))) ∧ (¬ (M_5 15 4) = 0 → Q M_5)))) ∧ ((M_4 16 2) = 0 → Q M_4)))))))
def p_X4_readText (Q : Mem → Prop) : Nat → t_X4_readText
  | 0 => fun _ _ => False
  | n + 1 => f_X4_readText_36 Q (p_X4_readText Q n)
def e_X4_readText (Q : Mem → Prop) (r : t_X4_readText) (M : Mem) : Prop := q_X3_rewind M (fun M_1 => q_X0_clear 18 M_1 (fun M_2 => ∀ M_3 : Mem, M_3 = mU (mU (mU (mU M_2 15 2 (0 : Int32)) 15 3 (0 : Int32)) 15 4 (0 : Int32)) 15 5 (0 : Int32) → r (0 : Int32) M_3))
def q_X4_readText (M : Mem) (Q : Mem → Prop) : Prop := ∃ n : Nat, e_X4_readText Q (p_X4_readText Q n) M
set_option maxRecDepth 100000 in
set_option maxHeartbeats 4000000 in
theorem b_X4_readText {l : Launch} {K : wC} {Q : Mem → Prop} {p : Program} {e : Env} {s : State} {m : MethodId} {args : Array Value} {below : List Frame} {meth : Method} {c : Code} (C : cx 51 K p s m args meth c cX4_readText 2 wsX4_readText RX4 none) : ∀ n : Nat, (∀ (v1 : Int32) (M : Mem) (H : Heap) (locs : List Loc) (ls : Array Slot), (p_X4_readText Q n) v1 M → wP shX 51 K M H → va_S (wA 51 K) s.heap H locs → lv_has ls 2 [(0, .ref (kb K + 15)), (1, .int v1)] → W p l e rmX4_readText s m args below meth c H locs 0 0 (MQ below (va_Qv Q (wE shX 51 K) (wA 51 K)) args s 0 0 (wA 51 K)) (F0 m 36 ls [])) := by
  obtain ⟨hx, hb, hml, hown, hts, hr, hlk, hK⟩ := id C
  intro n
  induction n with
  | zero => exact fun _ _ _ _ _ hw _ _ _ => False.elim hw
  | succ n ih =>
    intro v1 M H locs ls hw hP hS hl
    have hw : f_X4_readText_36 Q (p_X4_readText Q n) v1 M := hw
    delta f_X4_readText_36 at hw
    refine lv_iload_n hx hb dX4_readText_36 rfl (lv_at hl 1 rfl) ?_
    refine lv_sipush hx hb dX4_readText_37 sp_160 ?_
    refine lv_icmp_gt (tgt := 93) hx hb dX4_readText_40 (by decide) (fun hc => ?_) (fun hc => ?_)
    · have hw := hw.1 hc
      exact r_v C hP hS hw dX4_readText_93
    · have hw := hw.2 hc
      refine lv_aload_n hx hb dX4_readText_43 rfl (lv_at hl 0 rfl) ?_
      refine c_v (run_v (As := []) (rest := []) C hP hS (c_X4_advance hw) gX4_readText_X4_advance rfl dsX4_advance rfl ⟨rfl, rfl⟩ ⟨Nat.le_of_ble_eq_true rfl, Nat.le_of_ble_eq_true rfl⟩ (by decide) (sX_15 K _) rfl hl.1 rfl (Nat.le_of_ble_eq_true rfl) dX4_readText_44 ⟨Nat.le_of_ble_eq_true rfl, Nat.le_of_ble_eq_true rfl⟩) hS (fun M_4 H locs hw hP hS => ?_)
      refine lv_aload_n hx hb dX4_readText_47 rfl (lv_at hl 0 rfl) ?_
      refine g_f C hP (by decide) (sX_15 K _) rfl hX4_readText_X4 4 (by decide) kX4_readText_f33 rfl dX4_readText_48 ?_
      refine lv_if_ne (tgt := 64) hx hb dX4_readText_51 (by decide) (fun hc => ?_) (fun hc => ?_)
      · have hw := hw.1 hc
        exact r_v C hP hS hw dX4_readText_64
      · have hw := hw.2 hc
        refine lv_aload_n hx hb dX4_readText_54 rfl (lv_at hl 0 rfl) ?_
        refine g_f C hP (by decide) (sX_15 K _) rfl hX4_readText_X4 0 (by decide) kX4_readText_f12 rfl dX4_readText_55 ?_
        refine g_f C hP (by decide) (sX_16 K _) rfl hX4_readText_X3 2 (by decide) kX4_readText_f48 rfl dX4_readText_58 ?_
        refine lv_if_ne (tgt := 65) hx hb dX4_readText_61 (by decide) (fun hc => ?_) (fun hc => ?_)
        · have hw := hw.1 hc
          refine lv_aload_n hx hb dX4_readText_65 rfl (lv_at hl 0 rfl) ?_
          refine c_v (run_v (As := []) (rest := []) C hP hS (c_X4_readLine hw) gX4_readText_X4_readLine rfl dsX4_readLine rfl ⟨rfl, rfl⟩ ⟨Nat.le_of_ble_eq_true rfl, Nat.le_of_ble_eq_true rfl⟩ (by decide) (sX_15 K _) rfl hl.1 rfl (Nat.le_of_ble_eq_true rfl) dX4_readText_66 ⟨Nat.le_of_ble_eq_true rfl, Nat.le_of_ble_eq_true rfl⟩) hS (fun M_5 H locs hw hP hS => ?_)
          refine lv_aload_n hx hb dX4_readText_69 rfl (lv_at hl 0 rfl) ?_
          refine g_f C hP (by decide) (sX_15 K _) rfl hX4_readText_X4 4 (by decide) kX4_readText_f33 rfl dX4_readText_70 ?_
          refine lv_if_eq (tgt := 77) hx hb dX4_readText_73 (by decide) (fun hc => ?_) (fun hc => ?_)
          · have hw := hw.1 hc
            refine lv_aload_n hx hb dX4_readText_77 rfl (lv_at hl 0 rfl) ?_
            refine lv_dup hx hb dX4_readText_78 rfl ?_
            refine g_f C hP (by decide) (sX_15 K _) rfl hX4_readText_X4 3 (by decide) kX4_readText_f29 rfl dX4_readText_79 ?_
            refine lv_iconst hx hb dX4_readText_82 ic_1 ?_
            refine lv_iadd hx hb dX4_readText_83 ?_
            refine p_f C hP hS (by decide) (sX_15 K _) (sX_15 K _) rfl hX4_readText_X4 tyX4_ok nmX4 (by decide) kX4_readText_f29 rfl rfl rfl (Nat.le_of_ble_eq_true rfl) dX4_readText_84 (fun H locs hP hS => ?_)
            refine lv_iinc (v := (v1 + 1)) (lv' := [(1, .int (v1 + 1)), (0, .ref (kb K + 15))]) hx hb dX4_readText_87 hl (k := 1) rfl (by rw [ic_1]) (by decide) rfl (fun ls hl => ?_)
            refine lv_goto (tgt := 36) hx hb dX4_readText_90 (by decide) ?_
            exact ih _ _ _ _ _ hw hP hS (lv_sub hl [1, 0] rfl)
          · have hw := hw.2 hc
            exact r_v C hP hS hw dX4_readText_76
        · have hw := hw.2 hc
          exact r_v C hP hS hw dX4_readText_64
theorem dsX4_readText : yX4_readText.cls = RX4 ∧ yX4_readText.cls ≠ "java/lang/invoke/MethodHandle" ∧ yX4_readText.cls ≠ "java/lang/invoke/VarHandle" ∧ (parseMethodDescriptor yX4_readText.desc).map (fun d => d.parameters.length) = some 0 := by decide +kernel
set_option maxRecDepth 100000 in
set_option maxHeartbeats 4000000 in
theorem c_X4_readText {l : Launch} {K : wC} {M : Mem} {Q : Mem → Prop} (hw : q_X4_readText M Q) : metV l yX4_readText wsX4_readText rmX4_readText shX 51 K [.ref (kb K + 15)] M Q := by
  refine met_of (cc := cX4_readText) (maxL := 2) (ret := none) (own := RX4) (by decide) rfl rfl (Nat.le_of_ble_eq_true rfl) ?_
  intro p e s m below meth c ls C hl hP hS
  have hl : lv_has ls 2 [(0, .ref (kb K + 15))] := hl
  obtain ⟨hx, hb, hml, hown, hts, hr, hlk, hK⟩ := id C
  have hP0 := hP
  obtain ⟨n, hw⟩ := hw
  have ih := b_X4_readText (l := l) (e := e) (below := below) (Q := Q) C n
  delta e_X4_readText at hw
  refine lv_aload_n hx hb dX4_readText_0 rfl (lv_at hl 0 rfl) ?_
  refine g_f C hP (by decide) (sX_15 K _) rfl hX4_readText_X4 0 (by decide) kX4_readText_f12 rfl dX4_readText_1 ?_
  refine c_v (run_v (As := []) (rest := []) C hP hS (c_X3_rewind hw) gX4_readText_X3_rewind rfl dsX3_rewind rfl ⟨rfl, rfl⟩ ⟨Nat.le_of_ble_eq_true rfl, Nat.le_of_ble_eq_true rfl⟩ (by decide) (sX_16 K _) rfl hl.1 rfl (Nat.le_of_ble_eq_true rfl) dX4_readText_4 ⟨Nat.le_of_ble_eq_true rfl, Nat.le_of_ble_eq_true rfl⟩) hS (fun M_1 H locs hw hP hS => ?_)
  refine lv_aload_n hx hb dX4_readText_7 rfl (lv_at hl 0 rfl) ?_
  refine g_f C hP (by decide) (sX_15 K _) rfl hX4_readText_X4 1 (by decide) kX4_readText_f21 rfl dX4_readText_8 ?_
  refine c_v (run_v (As := []) (rest := []) C hP hS (c_X0_clear lay_18 hw) gX4_readText_X0_clear rfl dsX0_clear rfl ⟨rfl, rfl⟩ ⟨Nat.le_of_ble_eq_true rfl, Nat.le_of_ble_eq_true rfl⟩ (by decide) (sX_18 K _) rfl hl.1 rfl (Nat.le_of_ble_eq_true rfl) dX4_readText_11 ⟨Nat.le_of_ble_eq_true rfl, Nat.le_of_ble_eq_true rfl⟩) hS (fun M_2 H locs hw hP hS => ?_)
  refine lv_aload_n hx hb dX4_readText_14 rfl (lv_at hl 0 rfl) ?_
  refine lv_iconst hx hb dX4_readText_15 ic_0 ?_
  refine p_f C hP hS (by decide) (sX_15 K _) (sX_15 K _) rfl hX4_readText_X4 tyX4_ok nmX4 (by decide) kX4_readText_f25 rfl (by decide) (by decide) (Nat.le_of_ble_eq_true rfl) dX4_readText_16 (fun H locs hP hS => ?_)
  refine lv_aload_n hx hb dX4_readText_19 rfl (lv_at hl 0 rfl) ?_
  refine lv_iconst hx hb dX4_readText_20 ic_0 ?_
  refine p_f C hP hS (by decide) (sX_15 K _) (sX_15 K _) rfl hX4_readText_X4 tyX4_ok nmX4 (by decide) kX4_readText_f29 rfl rfl rfl (Nat.le_of_ble_eq_true rfl) dX4_readText_21 (fun H locs hP hS => ?_)
  refine lv_aload_n hx hb dX4_readText_24 rfl (lv_at hl 0 rfl) ?_
  refine lv_iconst hx hb dX4_readText_25 ic_0 ?_
  refine p_f C hP hS (by decide) (sX_15 K _) (sX_15 K _) rfl hX4_readText_X4 tyX4_ok nmX4 (by decide) kX4_readText_f33 rfl rfl rfl (Nat.le_of_ble_eq_true rfl) dX4_readText_26 (fun H locs hP hS => ?_)
  refine lv_aload_n hx hb dX4_readText_29 rfl (lv_at hl 0 rfl) ?_
  refine lv_iconst hx hb dX4_readText_30 ic_0 ?_
  refine p_f C hP hS (by decide) (sX_15 K _) (sX_15 K _) rfl hX4_readText_X4 tyX4_ok nmX4 (by decide) kX4_readText_f36 rfl rfl rfl (Nat.le_of_ble_eq_true rfl) dX4_readText_31 (fun H locs hP hS => ?_)
  obtain ⟨M_3, eM_3⟩ : ∃ z : Mem, z = mU (mU (mU (mU M_2 15 2 (0 : Int32)) 15 3 (0 : Int32)) 15 4 (0 : Int32)) 15 5 (0 : Int32) := ⟨_, rfl⟩
  rw [← eM_3] at hP
  have hw := hw M_3 eM_3
  refine lv_iconst hx hb dX4_readText_34 ic_0 ?_
  refine lv_istore_n (lv' := [(1, .int (0 : Int32)), (0, .ref (kb K + 15))]) hx hb dX4_readText_35 rfl hl (by decide) rfl (fun ls hl => ?_)
  exact ih _ _ _ _ _ hw hP hS (lv_sub hl [1, 0] rfl)

theorem kJ6_bitCount_0f7a4_c265 : Cond.constant RJ6 265 (1431655765) ∈ wsJ6_bitCount_0f7a4 := List.mem_of_getElem? (i := 1) rfl
theorem kJ6_bitCount_0f7a4_c266 : Cond.constant RJ6 266 (858993459) ∈ wsJ6_bitCount_0f7a4 := List.mem_of_getElem? (i := 2) rfl
theorem kJ6_bitCount_0f7a4_c267 : Cond.constant RJ6 267 (252645135) ∈ wsJ6_bitCount_0f7a4 := List.mem_of_getElem? (i := 3) rfl
abbrev rmJ6_bitCount_0f7a4 : Room := { frames := 0, cells := 0, slots := 0, locals := 0 }
def q_J6_bitCount_0f7a4 (v0 : Int32) (M : Mem) (Q : Int32 → Mem → Prop) : Prop := ∀ x_1 : Int32, x_1 = (v0 - ((iushr v0 (1 : Int32)) &&& (1431655765 : Int32))) → ∀ x_2 : Int32, x_2 = ((x_1 &&& (858993459 : Int32)) + ((iushr x_1 (2 : Int32)) &&& (858993459 : Int32))) → ∀ x_3 : Int32, x_3 = ((x_2 + (iushr x_2 (4 : Int32))) &&& (252645135 : Int32)) → ∀ x_4 : Int32, x_4 = (x_3 + (iushr x_3 (8 : Int32))) → ∀ x_5 : Int32, x_5 = (x_4 + (iushr x_4 (16 : Int32))) → Q (x_5 &&& (63 : Int32)) M
theorem dsJ6_bitCount_0f7a4 : yJ6_bitCount_0f7a4.cls ≠ "java/lang/invoke/MethodHandle" ∧ yJ6_bitCount_0f7a4.cls ≠ "java/lang/invoke/VarHandle" ∧ (parseMethodDescriptor yJ6_bitCount_0f7a4.desc).map (fun d => d.parameters.length) = some 1 := by decide +kernel
set_option maxRecDepth 100000 in
set_option maxHeartbeats 4000000 in
theorem c_J6_bitCount_0f7a4 {l : Launch} {K : wC} {v0 : Int32} {M : Mem} {Q : Int32 → Mem → Prop} (hw : q_J6_bitCount_0f7a4 v0 M Q) : metI l yJ6_bitCount_0f7a4 wsJ6_bitCount_0f7a4 rmJ6_bitCount_0f7a4 shX 51 K [.int v0] M Q := by
  refine met_of (cc := cJ6_bitCount_0f7a4) (maxL := 1) (ret := (some .int)) (own := RJ6) (by decide) rfl rfl (Nat.le_of_ble_eq_true rfl) ?_
  intro p e s m below meth c ls C hl hP hS
  have hl : lv_has ls 1 [(0, .int v0)] := hl
  obtain ⟨hx, hb, hml, hown, hts, hr, hlk, hK⟩ := id C
  have hP0 := hP
  delta q_J6_bitCount_0f7a4 at hw
  refine lv_iload_n hx hb dJ6_bitCount_0f7a4_0 rfl (lv_at hl 0 rfl) ?_
  refine lv_iload_n hx hb dJ6_bitCount_0f7a4_1 rfl (lv_at hl 0 rfl) ?_
  refine lv_iconst hx hb dJ6_bitCount_0f7a4_2 ic_1 ?_
  refine lv_iushr (v := iushr v0 (1 : Int32)) hx hb dJ6_bitCount_0f7a4_3 rfl ?_
  refine lv_ldcw hx hb hown (hts _ kJ6_bitCount_0f7a4_c265) dJ6_bitCount_0f7a4_4 ?_
  refine lv_iand hx hb dJ6_bitCount_0f7a4_7 ?_
  refine lv_isub hx hb dJ6_bitCount_0f7a4_8 ?_
  refine lv_topi (fun x_1 ex_1 => ?_)
  have hw := hw x_1 ex_1
  refine lv_istore_n (lv' := [(0, .int x_1)]) hx hb dJ6_bitCount_0f7a4_9 rfl hl (by decide) rfl (fun ls hl => ?_)
  refine lv_iload_n hx hb dJ6_bitCount_0f7a4_10 rfl (lv_at hl 0 rfl) ?_
  refine lv_ldcw hx hb hown (hts _ kJ6_bitCount_0f7a4_c266) dJ6_bitCount_0f7a4_11 ?_
  refine lv_iand hx hb dJ6_bitCount_0f7a4_14 ?_
  refine lv_iload_n hx hb dJ6_bitCount_0f7a4_15 rfl (lv_at hl 0 rfl) ?_
  refine lv_iconst hx hb dJ6_bitCount_0f7a4_16 ic_2 ?_
  refine lv_iushr (v := iushr x_1 (2 : Int32)) hx hb dJ6_bitCount_0f7a4_17 rfl ?_
  refine lv_ldcw hx hb hown (hts _ kJ6_bitCount_0f7a4_c266) dJ6_bitCount_0f7a4_18 ?_
  refine lv_iand hx hb dJ6_bitCount_0f7a4_21 ?_
  refine lv_iadd hx hb dJ6_bitCount_0f7a4_22 ?_
  refine lv_topi (fun x_2 ex_2 => ?_)
  have hw := hw x_2 ex_2
  refine lv_istore_n (lv' := [(0, .int x_2)]) hx hb dJ6_bitCount_0f7a4_23 rfl hl (by decide) rfl (fun ls hl => ?_)
  refine lv_iload_n hx hb dJ6_bitCount_0f7a4_24 rfl (lv_at hl 0 rfl) ?_
  refine lv_iload_n hx hb dJ6_bitCount_0f7a4_25 rfl (lv_at hl 0 rfl) ?_
  refine lv_iconst hx hb dJ6_bitCount_0f7a4_26 ic_4 ?_
  refine lv_iushr (v := iushr x_2 (4 : Int32)) hx hb dJ6_bitCount_0f7a4_27 rfl ?_
  refine lv_iadd hx hb dJ6_bitCount_0f7a4_28 ?_
  refine lv_ldcw hx hb hown (hts _ kJ6_bitCount_0f7a4_c267) dJ6_bitCount_0f7a4_29 ?_
  refine lv_iand hx hb dJ6_bitCount_0f7a4_32 ?_
  refine lv_topi (fun x_3 ex_3 => ?_)
  have hw := hw x_3 ex_3
  refine lv_istore_n (lv' := [(0, .int x_3)]) hx hb dJ6_bitCount_0f7a4_33 rfl hl (by decide) rfl (fun ls hl => ?_)
  refine lv_iload_n hx hb dJ6_bitCount_0f7a4_34 rfl (lv_at hl 0 rfl) ?_
  refine lv_iload_n hx hb dJ6_bitCount_0f7a4_35 rfl (lv_at hl 0 rfl) ?_
  refine lv_bipush hx hb dJ6_bitCount_0f7a4_36 bp_8 ?_
  refine lv_iushr (v := iushr x_3 (8 : Int32)) hx hb dJ6_bitCount_0f7a4_38 rfl ?_
  refine lv_iadd hx hb dJ6_bitCount_0f7a4_39 ?_
  refine lv_topi (fun x_4 ex_4 => ?_)
  have hw := hw x_4 ex_4
  refine lv_istore_n (lv' := [(0, .int x_4)]) hx hb dJ6_bitCount_0f7a4_40 rfl hl (by decide) rfl (fun ls hl => ?_)
  refine lv_iload_n hx hb dJ6_bitCount_0f7a4_41 rfl (lv_at hl 0 rfl) ?_
  refine lv_iload_n hx hb dJ6_bitCount_0f7a4_42 rfl (lv_at hl 0 rfl) ?_
  refine lv_bipush hx hb dJ6_bitCount_0f7a4_43 bp_16 ?_
  refine lv_iushr (v := iushr x_4 (16 : Int32)) hx hb dJ6_bitCount_0f7a4_45 rfl ?_
  refine lv_iadd hx hb dJ6_bitCount_0f7a4_46 ?_
  refine lv_topi (fun x_5 ex_5 => ?_)
  have hw := hw x_5 ex_5
  refine lv_istore_n (lv' := [(0, .int x_5)]) hx hb dJ6_bitCount_0f7a4_47 rfl hl (by decide) rfl (fun ls hl => ?_)
  refine lv_iload_n hx hb dJ6_bitCount_0f7a4_48 rfl (lv_at hl 0 rfl) ?_
  refine lv_bipush hx hb dJ6_bitCount_0f7a4_49 bp_63 ?_
  refine lv_iand hx hb dJ6_bitCount_0f7a4_51 ?_
  exact r_i C hP hS hw dJ6_bitCount_0f7a4_52
