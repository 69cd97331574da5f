/-! the law's start: what the tables and the Statement give -/
theorem l_ar {args : Array Value} {s : State} {ty : FieldType} (h : (Cond.arrayClass ty).before args s = true) : ∃ c : ClassId, ArrOfT s c ty ∧ s.vm.findClass ("[" ++ ty.toString) = some c := by
  obtain ⟨c, k, comp, h1, h2, h3⟩ := Cond.arrayClass_spec h
  exact ⟨c, fun n z => ⟨fun k h => (by cases h), k, h2, comp, h3⟩, h1⟩
theorem l_ao {args : Array Value} {s : State} {C : String} (h : (Cond.arrayOver (.object C)).before args s = true) : ∃ c : ClassId, ArrOfT s c (.object C) ∧ va_RA s c (.object C) := by
  obtain ⟨comp, c, k, h1, h2, h3, h4, h5⟩ := Cond.arrayOver_spec h
  exact ⟨c, fun n z => ⟨fun k h => (by cases h), k, h3, comp, h4⟩, k, comp, h3, h4, h1, h5⟩
def lw_F : List Cond := flatC (Jvm.Cond.and given_1 narrow_1)
abbrev tmS (i : Nat) : Term := .string RX4 (sIx.getD i 0)
set_option maxRecDepth 20000 in
theorem lf_1 : ∀ i : Nat, i < 6 → Cond.exactly (tmS i) "java/lang/String" ∈ lw_F := by decide +kernel
set_option maxRecDepth 20000 in
theorem lf_2 : ∀ i : Nat, i < 6 → Cond.eq (.field (tmS i) "java/lang/String" "coder" "B") (.int 0) ∈ lw_F := by decide +kernel
set_option maxRecDepth 20000 in
theorem lf_3 : ∀ i : Nat, i < 6 → Cond.arrayOf (.field (tmS i) "java/lang/String" "value" "[B") .byte ∈ lw_F := by decide +kernel
set_option maxRecDepth 20000 in
theorem lf_4 : ∀ i : Nat, i < 6 → Cond.eq (.length (.field (tmS i) "java/lang/String" "value" "[B")) (.int (Int32.ofNat (sLen.getD i 0))) ∈ lw_F := by decide +kernel
set_option maxRecDepth 20000 in
theorem lf_5 : ∀ i : Nat, i < 6 → ∀ j : Nat, j < sLen.getD i 0 → Cond.eq (.elem (.field (tmS i) "java/lang/String" "value" "[B") (.int (Int32.ofNat j))) (.int ((sByt.getD i []).getD j 0)) ∈ lw_F := by decide +kernel
set_option maxRecDepth 20000 in
theorem lf_6 : ∀ i : Nat, i < 6 → ∀ j : Nat, j < 6 → i ≠ j → (Cond.not (Cond.eq (tmS i) (tmS j)) ∈ lw_F ∨ Cond.not (Cond.eq (tmS j) (tmS i)) ∈ lw_F) := by decide +kernel
set_option maxRecDepth 20000 in
theorem lf_7 : Cond.eq (.static "java/lang/String" "COMPACT_STRINGS" "Z") (.int 1) ∈ lw_F := by decide +kernel
set_option maxRecDepth 20000 in
theorem lf_8 : Cond.isRef (.static "jdk/internal/util/Preconditions" "SIOOBE_FORMATTER" "Ljava/util/function/BiFunction;") ∈ lw_F := by decide +kernel
set_option maxRecDepth 20000 in
theorem lf_9 : ∀ i : Nat, i < 6 → Cond.stringRef RX4 (sIx.getD i 0) (sTx.getD i "") ∈ lw_tbl := by decide +kernel
set_option maxRecDepth 20000 in
theorem lf_10 : ∀ w ∈ [Cond.instantiable RX0 10, .instantiable RX1 3, .instantiable RX2 4, .instantiable RX3 5, .instantiable RX4 6, .instantiable RX5 11, .instantiable RX6 26, .arrayClass .int, .arrayClass .byte, .arrayClass .boolean, .arrayOver (.object RX0), .arrayOver (.object RX1)], w ∈ lw_tbl := by decide +kernel
set_option maxRecDepth 20000 in
theorem lf_11 : ∀ w ∈ [Cond.laysStatic "java/lang/String" "COMPACT_STRINGS" "Z", .laysStatic "jdk/internal/util/Preconditions" "SIOOBE_FORMATTER" "Ljava/util/function/BiFunction;", .initialized "java/lang/String", .initialized "jdk/internal/util/Preconditions", .methodLinkNest RX1 26 yX5_within "WheelAreas", .methodLinkNest RX5 9 yX0_init "WheelAreas", .methodLinkNest RX5 29 yX4_init "WheelAreas", .methodLinkNest RX5 36 yX2_init "WheelAreas", .methodLinkNest RX5 61 yX1_init "WheelAreas", .methodLinkNest RX4 11 yX3_init "WheelAreas", .methodLinkNest RX4 20 yX0_init "WheelAreas"], w ∈ lw_tbl := by decide +kernel
set_option maxHeartbeats 4000000 in
set_option maxRecDepth 20000 in
theorem l_start {s : State} {b : Nat} (hts : ∀ w ∈ lw_tbl, w.before #[Value.ref b] s = true) (hgv : (Jvm.Cond.and given_1 narrow_1).before #[Value.ref b] s = true) : ∃ K : wC, kb K = s.heap.size ∧ wG (aL s) K s ∧ nst s := by
  have hs : ∀ w ∈ lw_F, w.before #[Value.ref b] s = true := flat_of_before _ hgv
  have hA : ∀ a : Nat, a < s.heap.size → ¬ aL s a := fun a h => Nat.not_le.mpr h
  have t1 := fun (w : Cond) h => hts w (lf_10 w h)
  have t2 := fun (w : Cond) h => hts w (lf_11 w h)
  obtain ⟨c0, i0, k0⟩ := u_known (C := RX0) (T := TX0) (N := 10) (n := 10) hts wf_00 (t1 _ (List.mem_of_getElem? (i := 0) rfl))
  obtain ⟨c1, i1, k1⟩ := u_known (C := RX1) (T := TX1) (N := 3) (n := 3) hts wf_10 (t1 _ (List.mem_of_getElem? (i := 1) rfl))
  obtain ⟨c2, i2, k2⟩ := u_known (C := RX2) (T := TX2) (N := 4) (n := 4) hts wf_20 (t1 _ (List.mem_of_getElem? (i := 2) rfl))
  obtain ⟨c3, i3, k3⟩ := u_known (C := RX3) (T := TX3) (N := 5) (n := 5) hts wf_30 (t1 _ (List.mem_of_getElem? (i := 3) rfl))
  obtain ⟨c4, i4, k4⟩ := u_known (C := RX4) (T := TX4) (N := 6) (n := 6) hts wf_40 (t1 _ (List.mem_of_getElem? (i := 4) rfl))
  obtain ⟨c5, i5, k5⟩ := u_known (C := RX5) (T := TX5) (N := 11) (n := 11) hts wf_50 (t1 _ (List.mem_of_getElem? (i := 5) rfl))
  obtain ⟨c6, i6, k6⟩ := u_known (C := RX6) (T := TX6) (N := 26) (n := 26) hts wf_60 (t1 _ (List.mem_of_getElem? (i := 6) rfl))
  obtain ⟨a0, p0, q0⟩ := l_ar (t1 (.arrayClass .int) (List.mem_of_getElem? (i := 7) rfl))
  obtain ⟨a1, p1, q1⟩ := l_ar (t1 (.arrayClass .byte) (List.mem_of_getElem? (i := 8) rfl))
  obtain ⟨a2, p2, q2⟩ := l_ar (t1 (.arrayClass .boolean) (List.mem_of_getElem? (i := 9) rfl))
  obtain ⟨a3, p3, q3⟩ := l_ao (t1 (.arrayOver (.object RX0)) (List.mem_of_getElem? (i := 10) rfl))
  obtain ⟨a4, p4, q4⟩ := l_ao (t1 (.arrayOver (.object RX1)) (List.mem_of_getElem? (i := 11) rfl))
  obtain ⟨adK, adV, hSt, hev⟩ := vk_Sof (N := 6) (tm := tmS) (len := sLen) (byt := sByt) (A := aL s) (by decide +kernel) (fun i hi => hs _ (lf_1 i hi)) (fun i hi => hs _ (lf_2 i hi)) (fun i hi => hs _ (lf_3 i hi)) (fun i hi => hs _ (lf_4 i hi)) (fun i hi j hj => hs _ (lf_5 i hi j hj)) (fun i j hi hj hij => (lf_6 i hi j hj hij).imp (hs _) (hs _)) hA
  refine ⟨((fun k => [c0, c1, c2, c3, c4, c5, c6].getD k c0, fun k => [i0, i1, i2, i3, i4, i5, i6].getD k i0), fun k => [a0, a1, a2, a3, a4].getD k a0, adK, adV, s.heap.size), rfl, ⟨⟨fun k q hq => ?_, fun k q hq => ?_⟩, va_Nw.of rfl (t2 _ (List.mem_of_getElem? (i := 4) rfl)), hSt, fun i hi => vk_R.of (hts _ (lf_9 i hi)) (hev i hi), va_Zof (t2 _ (List.mem_of_getElem? (i := 0) rfl)) (t2 _ (List.mem_of_getElem? (i := 2) rfl)) (va_eqi (hs _ lf_7)) hA, va_Zqof (t2 _ (List.mem_of_getElem? (i := 1) rfl)) (t2 _ (List.mem_of_getElem? (i := 3) rfl)) (hs _ lf_8) hA⟩, ?_⟩
  · match k, hq with
    | 0, hq => cases hq; exact k0
    | 1, hq => cases hq; exact k1
    | 2, hq => cases hq; exact k2
    | 3, hq => cases hq; exact k3
    | 4, hq => cases hq; exact k4
    | 5, hq => cases hq; exact k5
    | 6, hq => cases hq; exact k6
    | k + 7, hq => exact absurd (List.getElem?_eq_some_iff.mp hq).1 (by simp)
  · match k, hq with
    | 0, hq => cases hq; exact ⟨p0, q0⟩
    | 1, hq => cases hq; exact ⟨p1, q1⟩
    | 2, hq => cases hq; exact ⟨p2, q2⟩
    | 3, hq => cases hq; exact ⟨p3, q3⟩
    | 4, hq => cases hq; exact ⟨p4, q4⟩
    | k + 5, hq => exact absurd (List.getElem?_eq_some_iff.mp hq).1 (by simp)
  · exact ⟨va_Nw.of rfl (t2 _ (List.mem_of_getElem? (i := 5) rfl)), va_Nw.of rfl (t2 _ (List.mem_of_getElem? (i := 6) rfl)), va_Nw.of rfl (t2 _ (List.mem_of_getElem? (i := 7) rfl)), va_Nw.of rfl (t2 _ (List.mem_of_getElem? (i := 8) rfl)), va_Nw.of rfl (t2 _ (List.mem_of_getElem? (i := 9) rfl)), va_Nw.of rfl (t2 _ (List.mem_of_getElem? (i := 10) rfl)), va_AO.of (t1 _ (List.mem_of_getElem? (i := 10) rfl)), va_AO.of (t1 _ (List.mem_of_getElem? (i := 11) rfl))⟩
