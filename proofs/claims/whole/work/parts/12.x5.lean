theorem kX5_feed_f30 : Cond.fieldLink RX5 30 (TX5 4).1 (TX5 4).2.1 (TX5 4).2.2.1 ∈ wsX5_feed := List.mem_of_getElem? (i := 1) rfl
theorem hX5_feed_X5 : ∀ w ∈ u_ws RX5 TX5 11, w ∈ wsX5_feed := fun _ h => List.mem_cons_of_mem _ (List.mem_append_left _ (List.mem_append_left _ (List.mem_append_right _ (h))))
theorem kX5_feed_f66 : Cond.fieldLink RX5 66 (TX4 0).1 (TX4 0).2.1 (TX4 0).2.2.1 ∈ wsX5_feed := List.mem_of_getElem? (i := 2) rfl
theorem hX5_feed_X4 : ∀ w ∈ u_ws RX4 TX4 6, w ∈ wsX5_feed := fun _ h => List.mem_cons_of_mem _ (List.mem_append_left _ (List.mem_append_right _ (h)))
theorem kX5_feed_f70 : Cond.fieldLink RX5 70 (TX3 1).1 (TX3 1).2.1 (TX3 1).2.2.1 ∈ wsX5_feed := List.mem_of_getElem? (i := 3) rfl
theorem hX5_feed_X3 : ∀ w ∈ u_ws RX3 TX3 5, w ∈ wsX5_feed := fun _ h => List.mem_cons_of_mem _ (List.mem_append_right _ (h))
abbrev rmX5_feed : Room := { frames := 1, cells := 0, slots := 0, locals := 22 }
def q_X5_feed (v1 : Int32) (M : Mem) (Q : Int32 → Mem → Prop) : Prop := q_X5_within v1 (0 : Int32) (127 : Int32) M (fun r_2 M_1 => ((¬ r_2 = 0 → (((M_1 16 1) < (160 : Int32) → q_X3_append v1 M_1 (fun M_3 => Q (M_3 16 1) M_3)) ∧ (¬ (M_1 16 1) < (160 : Int32) → Q (-3 : Int32) M_1))) ∧ (r_2 = 0 → Q (-1 : Int32) M_1)))
theorem dsX5_feed : yX5_feed.cls = RX5 ∧ yX5_feed.cls ≠ "java/lang/invoke/MethodHandle" ∧ yX5_feed.cls ≠ "java/lang/invoke/VarHandle" ∧ (parseMethodDescriptor yX5_feed.desc).map (fun d => d.parameters.length) = some 1 := by decide +kernel
set_option maxRecDepth 100000 in
set_option maxHeartbeats 4000000 in
theorem c_X5_feed {l : Launch} {K : wC} {v1 : Int32} {M : Mem} {Q : Int32 → Mem → Prop} (hw : q_X5_feed v1 M Q) : metI l yX5_feed wsX5_feed rmX5_feed shX 51 K [.ref (kb K + 0), .int v1] M Q := by
  refine met_of (cc := cX5_feed) (maxL := 2) (ret := (some .int)) (own := RX5) (by decide) rfl rfl (Nat.le_of_ble_eq_true rfl) ?_
  intro p e s m below meth c ls C hl hP hS
  have hl : lv_has ls 2 [(0, .ref (kb K + 0)), (1, .int v1)] := hl
  obtain ⟨hx, hb, hml, hown, hts, hr, hlk, hK⟩ := id C
  have hP0 := hP
  delta q_X5_feed at hw
  refine lv_iload_n hx hb dX5_feed_0 rfl (lv_at hl 1 rfl) ?_
  refine lv_iconst hx hb dX5_feed_1 ic_0 ?_
  refine lv_bipush hx hb dX5_feed_2 bp_127 ?_
  refine c_i (run_s (As := [.int v1, .int (0 : Int32), .int (127 : Int32)]) (rest := []) C hP hS (c_X5_within hw) gX5_feed_X5_within rfl dsX5_within rfl ⟨rfl, rfl⟩ ⟨Nat.le_of_ble_eq_true rfl, Nat.le_of_ble_eq_true rfl⟩ hl.1 rfl (Nat.le_of_ble_eq_true rfl) dX5_feed_4 ⟨Nat.le_of_ble_eq_true rfl, Nat.le_of_ble_eq_true rfl⟩) hS (fun r_2 M_1 H locs hw hP hS => ?_)
  refine lv_if_ne (tgt := 12) hx hb dX5_feed_7 (by decide) (fun hc => ?_) (fun hc => ?_)
  · have hw := hw.1 hc
    refine lv_aload_n hx hb dX5_feed_12 rfl (lv_at hl 0 rfl) ?_
    refine g_f C hP (by decide) (sX_0 K _) rfl hX5_feed_X5 4 (by decide) kX5_feed_f30 rfl dX5_feed_13 ?_
    refine g_f C hP (by decide) (sX_15 K _) rfl hX5_feed_X4 0 (by decide) kX5_feed_f66 rfl dX5_feed_16 ?_
    refine g_f C hP (by decide) (sX_16 K _) rfl hX5_feed_X3 1 (by decide) kX5_feed_f70 rfl dX5_feed_19 ?_
    refine lv_sipush hx hb dX5_feed_22 sp_160 ?_
    refine lv_icmp_lt (tgt := 31) hx hb dX5_feed_25 (by decide) (fun hc => ?_) (fun hc => ?_)
    · have hw := hw.1 hc
      refine lv_aload_n hx hb dX5_feed_31 rfl (lv_at hl 0 rfl) ?_
      refine g_f C hP (by decide) (sX_0 K _) rfl hX5_feed_X5 4 (by decide) kX5_feed_f30 rfl dX5_feed_32 ?_
      refine g_f C hP (by decide) (sX_15 K _) rfl hX5_feed_X4 0 (by decide) kX5_feed_f66 rfl dX5_feed_35 ?_
      refine lv_iload_n hx hb dX5_feed_38 rfl (lv_at hl 1 rfl) ?_
      refine c_v (run_v (As := [.int v1]) (rest := []) C hP hS (c_X3_append hw) gX5_feed_X3_append rfl dsX3_append rfl ⟨rfl, rfl⟩ ⟨Nat.le_of_ble_eq_true rfl, Nat.le_of_ble_eq_true rfl⟩ (by decide) (sX_16 K _) rfl hl.1 rfl (Nat.le_of_ble_eq_true rfl) dX5_feed_39 ⟨Nat.le_of_ble_eq_true rfl, Nat.le_of_ble_eq_true rfl⟩) hS (fun M_3 H locs hw hP hS => ?_)
      refine lv_aload_n hx hb dX5_feed_42 rfl (lv_at hl 0 rfl) ?_
      refine g_f C hP (by decide) (sX_0 K _) rfl hX5_feed_X5 4 (by decide) kX5_feed_f30 rfl dX5_feed_43 ?_
      refine g_f C hP (by decide) (sX_15 K _) rfl hX5_feed_X4 0 (by decide) kX5_feed_f66 rfl dX5_feed_46 ?_
      refine g_f C hP (by decide) (sX_16 K _) rfl hX5_feed_X3 1 (by decide) kX5_feed_f70 rfl dX5_feed_49 ?_
      exact r_i C hP hS hw dX5_feed_52
    · have hw := hw.2 hc
      refine lv_bipush hx hb dX5_feed_28 bp_m3 ?_
      exact r_i C hP hS hw dX5_feed_30
  · have hw := hw.2 hc
    refine lv_iconst hx hb dX5_feed_10 ic_m1 ?_
    exact r_i C hP hS hw dX5_feed_11

theorem kX5_end_f30 : Cond.fieldLink RX5 30 (TX5 4).1 (TX5 4).2.1 (TX5 4).2.2.1 ∈ wsX5_end := List.mem_of_getElem? (i := 1) rfl
theorem hX5_end_X5 : ∀ w ∈ u_ws RX5 TX5 11, w ∈ wsX5_end := fun _ h => List.mem_cons_of_mem _ (List.mem_append_left _ (List.mem_append_left _ (List.mem_append_right _ (h))))
theorem kX5_end_f66 : Cond.fieldLink RX5 66 (TX4 0).1 (TX4 0).2.1 (TX4 0).2.2.1 ∈ wsX5_end := List.mem_of_getElem? (i := 2) rfl
theorem hX5_end_X4 : ∀ w ∈ u_ws RX4 TX4 6, w ∈ wsX5_end := fun _ h => List.mem_cons_of_mem _ (List.mem_append_left _ (List.mem_append_right _ (h)))
theorem kX5_end_f70 : Cond.fieldLink RX5 70 (TX3 1).1 (TX3 1).2.1 (TX3 1).2.2.1 ∈ wsX5_end := List.mem_of_getElem? (i := 3) rfl
theorem hX5_end_X3 : ∀ w ∈ u_ws RX3 TX3 5, w ∈ wsX5_end := fun _ h => List.mem_cons_of_mem _ (List.mem_append_right _ (h))
abbrev rmX5_end : Room := { frames := 1, cells := 0, slots := 0, locals := 22 }
def q_X5_end (v1 : Int32) (M : Mem) (Q : Int32 → Mem → Prop) : Prop := q_X5_within v1 (0 : Int32) (M 16 1) M (fun r_2 M_1 => ((¬ r_2 = 0 → Q (M_1 16 1) (mU M_1 16 1 v1)) ∧ (r_2 = 0 → Q (-1 : Int32) M_1)))
theorem dsX5_end : yX5_end.cls = RX5 ∧ yX5_end.cls ≠ "java/lang/invoke/MethodHandle" ∧ yX5_end.cls ≠ "java/lang/invoke/VarHandle" ∧ (parseMethodDescriptor yX5_end.desc).map (fun d => d.parameters.length) = some 1 := by decide +kernel
set_option maxRecDepth 100000 in
set_option maxHeartbeats 4000000 in
theorem c_X5_end {l : Launch} {K : wC} {v1 : Int32} {M : Mem} {Q : Int32 → Mem → Prop} (hw : q_X5_end v1 M Q) : metI l yX5_end wsX5_end rmX5_end shX 51 K [.ref (kb K + 0), .int v1] M Q := by
  refine met_of (cc := cX5_end) (maxL := 3) (ret := (some .int)) (own := RX5) (by decide) rfl rfl (Nat.le_of_ble_eq_true rfl) ?_
  intro p e s m below meth c ls C hl hP hS
  have hl : lv_has ls 3 [(0, .ref (kb K + 0)), (1, .int v1)] := hl
  obtain ⟨hx, hb, hml, hown, hts, hr, hlk, hK⟩ := id C
  have hP0 := hP
  delta q_X5_end at hw
  refine lv_iload_n hx hb dX5_end_0 rfl (lv_at hl 1 rfl) ?_
  refine lv_iconst hx hb dX5_end_1 ic_0 ?_
  refine lv_aload_n hx hb dX5_end_2 rfl (lv_at hl 0 rfl) ?_
  refine g_f C hP (by decide) (sX_0 K _) rfl hX5_end_X5 4 (by decide) kX5_end_f30 rfl dX5_end_3 ?_
  refine g_f C hP (by decide) (sX_15 K _) rfl hX5_end_X4 0 (by decide) kX5_end_f66 rfl dX5_end_6 ?_
  refine g_f C hP (by decide) (sX_16 K _) rfl hX5_end_X3 1 (by decide) kX5_end_f70 rfl dX5_end_9 ?_
  refine c_i (run_s (As := [.int v1, .int (0 : Int32), .int (M 16 1)]) (rest := []) C hP hS (c_X5_within hw) gX5_end_X5_within rfl dsX5_within rfl ⟨rfl, rfl⟩ ⟨Nat.le_of_ble_eq_true rfl, Nat.le_of_ble_eq_true rfl⟩ hl.1 rfl (Nat.le_of_ble_eq_true rfl) dX5_end_12 ⟨Nat.le_of_ble_eq_true rfl, Nat.le_of_ble_eq_true rfl⟩) hS (fun r_2 M_1 H locs hw hP hS => ?_)
  refine lv_if_ne (tgt := 20) hx hb dX5_end_15 (by decide) (fun hc => ?_) (fun hc => ?_)
  · have hw := hw.1 hc
    refine lv_aload_n hx hb dX5_end_20 rfl (lv_at hl 0 rfl) ?_
    refine g_f C hP (by decide) (sX_0 K _) rfl hX5_end_X5 4 (by decide) kX5_end_f30 rfl dX5_end_21 ?_
    refine g_f C hP (by decide) (sX_15 K _) rfl hX5_end_X4 0 (by decide) kX5_end_f66 rfl dX5_end_24 ?_
    refine g_f C hP (by decide) (sX_16 K _) rfl hX5_end_X3 1 (by decide) kX5_end_f70 rfl dX5_end_27 ?_
    refine lv_istore_n (lv' := [(2, .int (M_1 16 1)), (0, .ref (kb K + 0)), (1, .int v1)]) hx hb dX5_end_30 rfl hl (by decide) rfl (fun ls hl => ?_)
    refine lv_aload_n hx hb dX5_end_31 rfl (lv_at hl 1 rfl) ?_
    refine g_f C hP (by decide) (sX_0 K _) rfl hX5_end_X5 4 (by decide) kX5_end_f30 rfl dX5_end_32 ?_
    refine g_f C hP (by decide) (sX_15 K _) rfl hX5_end_X4 0 (by decide) kX5_end_f66 rfl dX5_end_35 ?_
    refine lv_iload_n hx hb dX5_end_38 rfl (lv_at hl 2 rfl) ?_
    refine p_f C hP hS (by decide) (sX_16 K _) (sX_16 K _) rfl hX5_end_X3 tyX3_ok nmX3 (by decide) kX5_end_f70 rfl rfl rfl (Nat.le_of_ble_eq_true rfl) dX5_end_39 (fun H locs hP hS => ?_)
    refine lv_iload_n hx hb dX5_end_42 rfl (lv_at hl 0 rfl) ?_
    exact r_i C hP hS hw dX5_end_43
  · have hw := hw.2 hc
    refine lv_iconst hx hb dX5_end_18 ic_m1 ?_
    exact r_i C hP hS hw dX5_end_19

theorem kX5_text_f30 : Cond.fieldLink RX5 30 (TX5 4).1 (TX5 4).2.1 (TX5 4).2.2.1 ∈ wsX5_text := List.mem_of_getElem? (i := 1) rfl
theorem hX5_text_X5 : ∀ w ∈ u_ws RX5 TX5 11, w ∈ wsX5_text := fun _ h => List.mem_cons_of_mem _ (List.mem_append_left _ (List.mem_append_left _ (List.mem_append_left _ (List.mem_append_left _ (List.mem_append_right _ (h))))))
theorem kX5_text_f66 : Cond.fieldLink RX5 66 (TX4 0).1 (TX4 0).2.1 (TX4 0).2.2.1 ∈ wsX5_text := List.mem_of_getElem? (i := 2) rfl
theorem hX5_text_X4 : ∀ w ∈ u_ws RX4 TX4 6, w ∈ wsX5_text := fun _ h => List.mem_cons_of_mem _ (List.mem_append_left _ (List.mem_append_left _ (List.mem_append_left _ (List.mem_append_right _ (h)))))
theorem kX5_text_f70 : Cond.fieldLink RX5 70 (TX3 1).1 (TX3 1).2.1 (TX3 1).2.2.1 ∈ wsX5_text := List.mem_of_getElem? (i := 3) rfl
theorem hX5_text_X3 : ∀ w ∈ u_ws RX3 TX3 5, w ∈ wsX5_text := fun _ h => List.mem_cons_of_mem _ (List.mem_append_left _ (List.mem_append_left _ (List.mem_append_right _ (h))))
theorem kX5_text_f82 : Cond.fieldLink RX5 82 (TX4 4).1 (TX4 4).2.1 (TX4 4).2.2.1 ∈ wsX5_text := List.mem_of_getElem? (i := 4) rfl
theorem kX5_text_f54 : Cond.fieldLink RX5 54 (TX5 9).1 (TX5 9).2.1 (TX5 9).2.2.1 ∈ wsX5_text := List.mem_of_getElem? (i := 5) rfl
theorem kX5_text_f10 : Cond.fieldLink RX5 10 (TX5 0).1 (TX5 0).2.1 (TX5 0).2.2.1 ∈ wsX5_text := List.mem_of_getElem? (i := 7) rfl
theorem kX5_text_f88 : Cond.fieldLink RX5 88 (TX4 1).1 (TX4 1).2.1 (TX4 1).2.2.1 ∈ wsX5_text := List.mem_of_getElem? (i := 8) rfl
theorem kX5_text_f37 : Cond.fieldLink RX5 37 (TX5 5).1 (TX5 5).2.1 (TX5 5).2.2.1 ∈ wsX5_text := List.mem_of_getElem? (i := 9) rfl
theorem kX5_text_f95 : Cond.fieldLink RX5 95 (TX2 3).1 (TX2 3).2.1 (TX2 3).2.2.1 ∈ wsX5_text := List.mem_of_getElem? (i := 10) rfl
theorem hX5_text_X2 : ∀ w ∈ u_ws RX2 TX2 4, w ∈ wsX5_text := fun _ h => List.mem_cons_of_mem _ (List.mem_append_left _ (List.mem_append_right _ (h)))
theorem kX5_text_f85 : Cond.fieldLink RX5 85 (TX4 5).1 (TX4 5).2.1 (TX4 5).2.2.1 ∈ wsX5_text := List.mem_of_getElem? (i := 6) rfl
theorem kX5_text_f96 : Cond.fieldLink RX5 96 (TX4 3).1 (TX4 3).2.1 (TX4 3).2.2.1 ∈ wsX5_text := List.mem_of_getElem? (i := 12) rfl
theorem kX5_text_f23 : Cond.fieldLink RX5 23 (TX5 3).1 (TX5 3).2.1 (TX5 3).2.2.1 ∈ wsX5_text := List.mem_of_getElem? (i := 11) rfl
abbrev rmX5_text : Room := { frames := 8, cells := 0, slots := 0, locals := 174 }
abbrev t_X5_text : Type := (Int32 → Mem → Prop)
def f_X5_text_71 (Q : Int32 → Mem → Prop) (r : t_X5_text) (v1 : Int32) (M : Mem) : Prop := (((2 : Int32) ≤ v1 → Q (M 15 3) M) ∧ (¬ (2 : Int32) ≤ v1 → vp_in v1 2 ∧ r (v1 + 1) (mU M 14 v1.toNatClampNeg (0 : Int32))))
def p_X5_text (Q : Int32 → Mem → Prop) : Nat → t_X5_text
  | 0 => fun _ _ => False
  | n + 1 => f_X5_text_71 Q (p_X5_text Q n)
def e_X5_text (Q : Int32 → Mem → Prop) (r : t_X5_text) (M : Mem) : Prop := q_X4_readText M (fun M_1 => ((((mU (mU M_1 16 1 (0 : Int32)) 0 9 ((mU M_1 16 1 (0 : Int32)) 15 4)) 0 9) = 0 → q_X0_copyFrom 1 18 (mU (mU M_1 16 1 (0 : Int32)) 0 9 ((mU M_1 16 1 (0 : Int32)) 15 4)) (fun M_2 => r (0 : Int32) (mU M_2 24 3 (0 : Int32)))) ∧ (¬ ((mU (mU M_1 16 1 (0 : Int32)) 0 9 ((mU M_1 16 1 (0 : Int32)) 15 4)) 0 9) = 0 → Q ((-10 : Int32) - ((mU (mU M_1 16 1 (0 : Int32)) 0 9 ((mU M_1 16 1 (0 : Int32)) 15 4)) 15 5)) (mU (mU M_1 16 1 (0 : Int32)) 0 9 ((mU M_1 16 1 (0 : Int32)) 15 4)))))
def q_X5_text (M : Mem) (Q : Int32 → Mem → Prop) : Prop := ∃ n : Nat, e_X5_text Q (p_X5_text Q n) M
set_option maxRecDepth 100000 in
set_option maxHeartbeats 4000000 in
theorem b_X5_text {l : Launch} {K : wC} {Q : Int32 → Mem → Prop} {p : Program} {e : Env} {s : State} {m : MethodId} {args : Array Value} {below : List Frame} {meth : Method} {c : Code} (C : cx 51 K p s m args meth c cX5_text 2 wsX5_text RX5 (some .int)) : ∀ n : Nat, (∀ (v1 : Int32) (M : Mem) (H : Heap) (locs : List Loc) (ls : Array Slot), (p_X5_text Q n) v1 M → wP shX 51 K M H → va_S (wA 51 K) s.heap H locs → lv_has ls 2 [(0, .ref (kb K + 0)), (1, .int v1)] → W p l e rmX5_text s m args below meth c H locs 0 0 (MQ below (va_Qi Q (wE shX 51 K) (wA 51 K)) args s 0 0 (wA 51 K)) (F0 m 71 ls [])) := by
  obtain ⟨hx, hb, hml, hown, hts, hr, hlk, hK⟩ := id C
  intro n
  induction n with
  | zero => exact fun _ _ _ _ _ hw _ _ _ => False.elim hw
  | succ n ih =>
    intro v1 M H locs ls hw hP hS hl
    have hw : f_X5_text_71 Q (p_X5_text Q n) v1 M := hw
    delta f_X5_text_71 at hw
    refine lv_iload_n hx hb dX5_text_71 rfl (lv_at hl 1 rfl) ?_
    refine lv_iconst hx hb dX5_text_72 ic_2 ?_
    refine lv_icmp_ge (tgt := 89) hx hb dX5_text_73 (by decide) (fun hc => ?_) (fun hc => ?_)
    · have hw := hw.1 hc
      refine lv_aload_n hx hb dX5_text_89 rfl (lv_at hl 0 rfl) ?_
      refine g_f C hP (by decide) (sX_0 K _) rfl hX5_text_X5 4 (by decide) kX5_text_f30 rfl dX5_text_90 ?_
      refine g_f C hP (by decide) (sX_15 K _) rfl hX5_text_X4 3 (by decide) kX5_text_f96 rfl dX5_text_93 ?_
      exact r_i C hP hS hw dX5_text_96
    · have hw := hw.2 hc
      refine lv_aload_n hx hb dX5_text_76 rfl (lv_at hl 0 rfl) ?_
      refine g_f C hP (by decide) (sX_0 K _) rfl hX5_text_X5 3 (by decide) kX5_text_f23 rfl dX5_text_77 ?_
      refine lv_iload_n hx hb dX5_text_80 rfl (lv_at hl 1 rfl) ?_
      refine lv_iconst hx hb dX5_text_81 ic_0 ?_
      have hi_3 := hw.1
      have hw := hw.2
      refine a_zs C hP hS (by decide) (sX_14 K) (by decide) hi_3 rfl dX5_text_82 (fun H locs hP hS => ?_)
      refine lv_iinc (v := (v1 + 1)) (lv' := [(1, .int (v1 + 1)), (0, .ref (kb K + 0))]) hx hb dX5_text_83 hl (k := 1) rfl (by rw [ic_1]) (by decide) rfl (fun ls hl => ?_)
      refine lv_goto (tgt := 71) hx hb dX5_text_86 (by decide) ?_
      exact ih _ _ _ _ _ hw hP hS (lv_sub hl [1, 0] rfl)
theorem dsX5_text : yX5_text.cls = RX5 ∧ yX5_text.cls ≠ "java/lang/invoke/MethodHandle" ∧ yX5_text.cls ≠ "java/lang/invoke/VarHandle" ∧ (parseMethodDescriptor yX5_text.desc).map (fun d => d.parameters.length) = some 0 := by decide +kernel
set_option maxRecDepth 100000 in
set_option maxHeartbeats 4000000 in
theorem c_X5_text {l : Launch} {K : wC} {M : Mem} {Q : Int32 → Mem → Prop} (hw : q_X5_text M Q) : metI l yX5_text wsX5_text rmX5_text shX 51 K [.ref (kb K + 0)] M Q := by
  refine met_of (cc := cX5_text) (maxL := 2) (ret := (some .int)) (own := RX5) (by decide) rfl rfl (Nat.le_of_ble_eq_true rfl) ?_
  intro p e s m below meth c ls C hl hP hS
  have hl : lv_has ls 2 [(0, .ref (kb K + 0))] := hl
  obtain ⟨hx, hb, hml, hown, hts, hr, hlk, hK⟩ := id C
  have hP0 := hP
  obtain ⟨n, hw⟩ := hw
  have ih := b_X5_text (l := l) (e := e) (below := below) (Q := Q) C n
  delta e_X5_text at hw
  refine lv_aload_n hx hb dX5_text_0 rfl (lv_at hl 0 rfl) ?_
  refine g_f C hP (by decide) (sX_0 K _) rfl hX5_text_X5 4 (by decide) kX5_text_f30 rfl dX5_text_1 ?_
  refine c_v (run_v (As := []) (rest := []) C hP hS (c_X4_readText hw) gX5_text_X4_readText rfl dsX4_readText rfl ⟨rfl, rfl⟩ ⟨Nat.le_of_ble_eq_true rfl, Nat.le_of_ble_eq_true rfl⟩ (by decide) (sX_15 K _) rfl hl.1 rfl (Nat.le_of_ble_eq_true rfl) dX5_text_4 ⟨Nat.le_of_ble_eq_true rfl, Nat.le_of_ble_eq_true rfl⟩) hS (fun M_1 H locs hw hP hS => ?_)
  refine lv_aload_n hx hb dX5_text_7 rfl (lv_at hl 0 rfl) ?_
  refine g_f C hP (by decide) (sX_0 K _) rfl hX5_text_X5 4 (by decide) kX5_text_f30 rfl dX5_text_8 ?_
  refine g_f C hP (by decide) (sX_15 K _) rfl hX5_text_X4 0 (by decide) kX5_text_f66 rfl dX5_text_11 ?_
  refine lv_iconst hx hb dX5_text_14 ic_0 ?_
  refine p_f C hP hS (by decide) (sX_16 K _) (sX_16 K _) rfl hX5_text_X3 tyX3_ok nmX3 (by decide) kX5_text_f70 rfl rfl rfl (Nat.le_of_ble_eq_true rfl) dX5_text_15 (fun H locs hP hS => ?_)
  refine lv_aload_n hx hb dX5_text_18 rfl (lv_at hl 0 rfl) ?_
  refine lv_aload_n hx hb dX5_text_19 rfl (lv_at hl 0 rfl) ?_
  refine g_f C hP (by decide) (sX_0 K _) rfl hX5_text_X5 4 (by decide) kX5_text_f30 rfl dX5_text_20 ?_
  refine g_f C hP (by decide) (sX_15 K _) rfl hX5_text_X4 4 (by decide) kX5_text_f82 rfl dX5_text_23 ?_
  refine p_f C hP hS (by decide) (sX_0 K _) (sX_0 K _) rfl hX5_text_X5 tyX5_ok nmX5 (by decide) kX5_text_f54 rfl rfl rfl (Nat.le_of_ble_eq_true rfl) dX5_text_26 (fun H locs hP hS => ?_)
  refine lv_aload_n hx hb dX5_text_29 rfl (lv_at hl 0 rfl) ?_
  refine g_f C hP (by decide) (sX_0 K _) rfl hX5_text_X5 9 (by decide) kX5_text_f54 rfl dX5_text_30 ?_
  refine lv_if_eq (tgt := 47) hx hb dX5_text_33 (by decide) (fun hc => ?_) (fun hc => ?_)
  · have hw := hw.1 hc
    refine lv_aload_n hx hb dX5_text_47 rfl (lv_at hl 0 rfl) ?_
    refine g_f C hP (by decide) (sX_0 K _) rfl hX5_text_X5 0 (by decide) kX5_text_f10 rfl dX5_text_48 ?_
    refine lv_aload_n hx hb dX5_text_51 rfl (lv_at hl 0 rfl) ?_
    refine g_f C hP (by decide) (sX_0 K _) rfl hX5_text_X5 4 (by decide) kX5_text_f30 rfl dX5_text_52 ?_
    refine g_f C hP (by decide) (sX_15 K _) rfl hX5_text_X4 1 (by decide) kX5_text_f88 rfl dX5_text_55 ?_
    refine c_v (run_v (As := [.ref (kb K + 18)]) (rest := []) C hP hS (c_X0_copyFrom lay_1 lay_18 hw) gX5_text_X0_copyFrom rfl dsX0_copyFrom rfl ⟨rfl, rfl⟩ ⟨Nat.le_of_ble_eq_true rfl, Nat.le_of_ble_eq_true rfl⟩ (by decide) (sX_1 K _) rfl hl.1 rfl (Nat.le_of_ble_eq_true rfl) dX5_text_58 ⟨Nat.le_of_ble_eq_true rfl, Nat.le_of_ble_eq_true rfl⟩) hS (fun M_2 H locs hw hP hS => ?_)
    refine lv_aload_n hx hb dX5_text_61 rfl (lv_at hl 0 rfl) ?_
    refine g_f C hP (by decide) (sX_0 K _) rfl hX5_text_X5 5 (by decide) kX5_text_f37 rfl dX5_text_62 ?_
    refine lv_iconst hx hb dX5_text_65 ic_0 ?_
    refine p_f C hP hS (by decide) (sX_24 K _) (sX_24 K _) rfl hX5_text_X2 tyX2_ok nmX2 (by decide) kX5_text_f95 rfl rfl rfl (Nat.le_of_ble_eq_true rfl) dX5_text_66 (fun H locs hP hS => ?_)
    refine lv_iconst hx hb dX5_text_69 ic_0 ?_
    refine lv_istore_n (lv' := [(1, .int (0 : Int32)), (0, .ref (kb K + 0))]) hx hb dX5_text_70 rfl hl (by decide) rfl (fun ls hl => ?_)
    exact ih _ _ _ _ _ hw hP hS (lv_sub hl [1, 0] rfl)
  · have hw := hw.2 hc
    refine lv_bipush hx hb dX5_text_36 bp_m10 ?_
    refine lv_aload_n hx hb dX5_text_38 rfl (lv_at hl 0 rfl) ?_
    refine g_f C hP (by decide) (sX_0 K _) rfl hX5_text_X5 4 (by decide) kX5_text_f30 rfl dX5_text_39 ?_
    refine g_f C hP (by decide) (sX_15 K _) rfl hX5_text_X4 5 (by decide) kX5_text_f85 rfl dX5_text_42 ?_
    refine lv_isub hx hb dX5_text_45 ?_
    exact r_i C hP hS hw dX5_text_46

theorem kX5_fault_f54 : Cond.fieldLink RX5 54 (TX5 9).1 (TX5 9).2.1 (TX5 9).2.2.1 ∈ wsX5_fault := List.mem_of_getElem? (i := 1) rfl
theorem hX5_fault_X5 : ∀ w ∈ u_ws RX5 TX5 11, w ∈ wsX5_fault := fun _ h => List.mem_cons_of_mem _ (List.mem_append_right _ (h))
abbrev rmX5_fault : Room := { frames := 0, cells := 0, slots := 0, locals := 0 }
def q_X5_fault (M : Mem) (Q : Int32 → Mem → Prop) : Prop := Q (M 0 9) M
theorem dsX5_fault : yX5_fault.cls = RX5 ∧ yX5_fault.cls ≠ "java/lang/invoke/MethodHandle" ∧ yX5_fault.cls ≠ "java/lang/invoke/VarHandle" ∧ (parseMethodDescriptor yX5_fault.desc).map (fun d => d.parameters.length) = some 0 := by decide +kernel
set_option maxRecDepth 100000 in
set_option maxHeartbeats 4000000 in
theorem c_X5_fault {l : Launch} {K : wC} {M : Mem} {Q : Int32 → Mem → Prop} (hw : q_X5_fault M Q) : metI l yX5_fault wsX5_fault rmX5_fault shX 51 K [.ref (kb K + 0)] M Q := by
  refine met_of (cc := cX5_fault) (maxL := 1) (ret := (some .int)) (own := RX5) (by decide) rfl rfl (Nat.le_of_ble_eq_true rfl) ?_
  intro p e s m below meth c ls C hl hP hS
  have hl : lv_has ls 1 [(0, .ref (kb K + 0))] := hl
  obtain ⟨hx, hb, hml, hown, hts, hr, hlk, hK⟩ := id C
  have hP0 := hP
  delta q_X5_fault at hw
  refine lv_aload_n hx hb dX5_fault_0 rfl (lv_at hl 0 rfl) ?_
  refine g_f C hP (by decide) (sX_0 K _) rfl hX5_fault_X5 9 (by decide) kX5_fault_f54 rfl dX5_fault_1 ?_
  exact r_i C hP hS hw dX5_fault_4

theorem kX5_rule_f10 : Cond.fieldLink RX5 10 (TX5 0).1 (TX5 0).2.1 (TX5 0).2.2.1 ∈ wsX5_rule := List.mem_of_getElem? (i := 1) rfl
theorem hX5_rule_X5 : ∀ w ∈ u_ws RX5 TX5 11, w ∈ wsX5_rule := fun _ h => List.mem_cons_of_mem _ (List.mem_append_left _ (List.mem_append_right _ (h)))
theorem kX5_rule_f99 : Cond.fieldLink RX5 99 (TX0 2).1 (TX0 2).2.1 (TX0 2).2.2.1 ∈ wsX5_rule := List.mem_of_getElem? (i := 2) rfl
theorem hX5_rule_X0 : ∀ w ∈ u_ws RX0 TX0 10, w ∈ wsX5_rule := fun _ h => List.mem_cons_of_mem _ (List.mem_append_right _ (h))
theorem kX5_rule_f102 : Cond.fieldLink RX5 102 (TX0 6).1 (TX0 6).2.1 (TX0 6).2.2.1 ∈ wsX5_rule := List.mem_of_getElem? (i := 3) rfl
theorem kX5_rule_f105 : Cond.fieldLink RX5 105 (TX0 9).1 (TX0 9).2.1 (TX0 9).2.2.1 ∈ wsX5_rule := List.mem_of_getElem? (i := 4) rfl
theorem kX5_rule_c108 : Cond.constant RX5 108 (100000) ∈ wsX5_rule := List.mem_of_getElem? (i := 5) rfl
theorem kX5_rule_f117 : Cond.fieldLink RX5 117 (TX0 7).1 (TX0 7).2.1 (TX0 7).2.2.1 ∈ wsX5_rule := List.mem_of_getElem? (i := 6) rfl
theorem kX5_rule_f120 : Cond.fieldLink RX5 120 (TX0 8).1 (TX0 8).2.1 (TX0 8).2.2.1 ∈ wsX5_rule := List.mem_of_getElem? (i := 7) rfl
abbrev rmX5_rule : Room := { frames := 2, cells := 0, slots := 0, locals := 48 }
def q_X5_rule (v1 : Int32) (M : Mem) (Q : Int32 → Mem → Prop) : Prop := ((v1 = 0 → Q (M 1 2) M) ∧ (¬ v1 = 0 → ((v1 = 1 → Q (M 1 6) M) ∧ (¬ v1 = 1 → ((v1 = 2 → Q (M 1 9) M) ∧ (¬ v1 = 2 → ((v1 = 3 → q_X0_area 1 M (fun r_2 M_1 => Q ((100000 : Int32) + r_2) M_1)) ∧ (¬ v1 = 3 → ((v1 = 4 → q_X0_edgeAhead 1 (0 : Int32) M (fun r_4 M_3 => Q r_4 M_3)) ∧ (¬ v1 = 4 → ((v1 = 5 → Q (M 1 7) M) ∧ (¬ v1 = 5 → ((v1 = 6 → Q (M 1 8) M) ∧ (¬ v1 = 6 → Q (-1 : Int32) M))))))))))))))
theorem dsX5_rule : yX5_rule.cls = RX5 ∧ yX5_rule.cls ≠ "java/lang/invoke/MethodHandle" ∧ yX5_rule.cls ≠ "java/lang/invoke/VarHandle" ∧ (parseMethodDescriptor yX5_rule.desc).map (fun d => d.parameters.length) = some 1 := by decide +kernel
set_option maxRecDepth 100000 in
set_option maxHeartbeats 4000000 in
theorem c_X5_rule {l : Launch} {K : wC} {v1 : Int32} {M : Mem} {Q : Int32 → Mem → Prop} (hw : q_X5_rule v1 M Q) : metI l yX5_rule wsX5_rule rmX5_rule shX 51 K [.ref (kb K + 0), .int v1] M Q := by
  refine met_of (cc := cX5_rule) (maxL := 2) (ret := (some .int)) (own := RX5) (by decide) rfl rfl (Nat.le_of_ble_eq_true rfl) ?_
  intro p e s m below meth c ls C hl hP hS
  have hl : lv_has ls 2 [(0, .ref (kb K + 0)), (1, .int v1)] := hl
  obtain ⟨hx, hb, hml, hown, hts, hr, hlk, hK⟩ := id C
  have hP0 := hP
  delta q_X5_rule at hw
  refine lv_iload_n hx hb dX5_rule_0 rfl (lv_at hl 1 rfl) ?_
  by_cases hs0 : v1 = 0
  · have hw := hw.1 hs0
    refine lv_tableIn (tgt := 44) hx hb dX5_rule_1 (by rw [hs0]; decide) (by rw [hs0]; decide) (by rw [hs0]; rfl) (by decide) ?_
    refine lv_aload_n hx hb dX5_rule_44 rfl (lv_at hl 0 rfl) ?_
    refine g_f C hP (by decide) (sX_0 K _) rfl hX5_rule_X5 0 (by decide) kX5_rule_f10 rfl dX5_rule_45 ?_
    refine g_f C hP (by decide) (sX_1 K _) rfl hX5_rule_X0 2 (by decide) kX5_rule_f99 rfl dX5_rule_48 ?_
    exact r_i C hP hS hw dX5_rule_51
  · have hw := hw.2 hs0
    by_cases hs1 : v1 = 1
    · have hw := hw.1 hs1
      refine lv_tableIn (tgt := 52) hx hb dX5_rule_1 (by rw [hs1]; decide) (by rw [hs1]; decide) (by rw [hs1]; rfl) (by decide) ?_
      refine lv_aload_n hx hb dX5_rule_52 rfl (lv_at hl 0 rfl) ?_
      refine g_f C hP (by decide) (sX_0 K _) rfl hX5_rule_X5 0 (by decide) kX5_rule_f10 rfl dX5_rule_53 ?_
      refine g_f C hP (by decide) (sX_1 K _) rfl hX5_rule_X0 6 (by decide) kX5_rule_f102 rfl dX5_rule_56 ?_
      exact r_i C hP hS hw dX5_rule_59
    · have hw := hw.2 hs1
      by_cases hs2 : v1 = 2
      · have hw := hw.1 hs2
        refine lv_tableIn (tgt := 60) hx hb dX5_rule_1 (by rw [hs2]; decide) (by rw [hs2]; decide) (by rw [hs2]; rfl) (by decide) ?_
        refine lv_aload_n hx hb dX5_rule_60 rfl (lv_at hl 0 rfl) ?_
        refine g_f C hP (by decide) (sX_0 K _) rfl hX5_rule_X5 0 (by decide) kX5_rule_f10 rfl dX5_rule_61 ?_
        refine g_f C hP (by decide) (sX_1 K _) rfl hX5_rule_X0 9 (by decide) kX5_rule_f105 rfl dX5_rule_64 ?_
        exact r_i C hP hS hw dX5_rule_67
      · have hw := hw.2 hs2
        by_cases hs3 : v1 = 3
        · have hw := hw.1 hs3
          refine lv_tableIn (tgt := 68) hx hb dX5_rule_1 (by rw [hs3]; decide) (by rw [hs3]; decide) (by rw [hs3]; rfl) (by decide) ?_
          refine lv_ldc hx hb hown (hts _ kX5_rule_c108) dX5_rule_68 ?_
          refine lv_aload_n hx hb dX5_rule_70 rfl (lv_at hl 0 rfl) ?_
          refine g_f C hP (by decide) (sX_0 K _) rfl hX5_rule_X5 0 (by decide) kX5_rule_f10 rfl dX5_rule_71 ?_
          refine c_i (run_v (As := []) (rest := [.int (100000 : Int32)]) C hP hS (c_X0_area lay_1 hw) gX5_rule_X0_area rfl dsX0_area rfl ⟨rfl, rfl⟩ ⟨Nat.le_of_ble_eq_true rfl, Nat.le_of_ble_eq_true rfl⟩ (by decide) (sX_1 K _) rfl hl.1 rfl (Nat.le_of_ble_eq_true rfl) dX5_rule_74 ⟨Nat.le_of_ble_eq_true rfl, Nat.le_of_ble_eq_true rfl⟩) hS (fun r_2 M_1 H locs hw hP hS => ?_)
          refine lv_iadd hx hb dX5_rule_77 ?_
          exact r_i C hP hS hw dX5_rule_78
        · have hw := hw.2 hs3
          by_cases hs4 : v1 = 4
          · have hw := hw.1 hs4
            refine lv_tableIn (tgt := 79) hx hb dX5_rule_1 (by rw [hs4]; decide) (by rw [hs4]; decide) (by rw [hs4]; rfl) (by decide) ?_
            refine lv_aload_n hx hb dX5_rule_79 rfl (lv_at hl 0 rfl) ?_
            refine g_f C hP (by decide) (sX_0 K _) rfl hX5_rule_X5 0 (by decide) kX5_rule_f10 rfl dX5_rule_80 ?_
            refine lv_iconst hx hb dX5_rule_83 ic_0 ?_
            refine c_i (run_v (As := [.int (0 : Int32)]) (rest := []) C hP hS (c_X0_edgeAhead lay_1 hw) gX5_rule_X0_edgeAhead rfl dsX0_edgeAhead rfl ⟨rfl, rfl⟩ ⟨Nat.le_of_ble_eq_true rfl, Nat.le_of_ble_eq_true rfl⟩ (by decide) (sX_1 K _) rfl hl.1 rfl (Nat.le_of_ble_eq_true rfl) dX5_rule_84 ⟨Nat.le_of_ble_eq_true rfl, Nat.le_of_ble_eq_true rfl⟩) hS (fun r_4 M_3 H locs hw hP hS => ?_)
            exact r_i C hP hS hw dX5_rule_87
          · have hw := hw.2 hs4
            by_cases hs5 : v1 = 5
            · have hw := hw.1 hs5
              refine lv_tableIn (tgt := 88) hx hb dX5_rule_1 (by rw [hs5]; decide) (by rw [hs5]; decide) (by rw [hs5]; rfl) (by decide) ?_
              refine lv_aload_n hx hb dX5_rule_88 rfl (lv_at hl 0 rfl) ?_
              refine g_f C hP (by decide) (sX_0 K _) rfl hX5_rule_X5 0 (by decide) kX5_rule_f10 rfl dX5_rule_89 ?_
              refine g_f C hP (by decide) (sX_1 K _) rfl hX5_rule_X0 7 (by decide) kX5_rule_f117 rfl dX5_rule_92 ?_
              exact r_i C hP hS hw dX5_rule_95
            · have hw := hw.2 hs5
              by_cases hs6 : v1 = 6
              · have hw := hw.1 hs6
                refine lv_tableIn (tgt := 96) hx hb dX5_rule_1 (by rw [hs6]; decide) (by rw [hs6]; decide) (by rw [hs6]; rfl) (by decide) ?_
                refine lv_aload_n hx hb dX5_rule_96 rfl (lv_at hl 0 rfl) ?_
                refine g_f C hP (by decide) (sX_0 K _) rfl hX5_rule_X5 0 (by decide) kX5_rule_f10 rfl dX5_rule_97 ?_
                refine g_f C hP (by decide) (sX_1 K _) rfl hX5_rule_X0 8 (by decide) kX5_rule_f120 rfl dX5_rule_100 ?_
                exact r_i C hP hS hw dX5_rule_103
              · have hw := hw.2 hs6
                have nhs0 : v1.toInt ≠ 0 := ne_toInt hs0
                have nhs1 : v1.toInt ≠ 1 := ne_toInt hs1
                have nhs2 : v1.toInt ≠ 2 := ne_toInt hs2
                have nhs3 : v1.toInt ≠ 3 := ne_toInt hs3
                have nhs4 : v1.toInt ≠ 4 := ne_toInt hs4
                have nhs5 : v1.toInt ≠ 5 := ne_toInt hs5
                have nhs6 : v1.toInt ≠ 6 := ne_toInt hs6
                refine lv_tableOut (tgt := 104) hx hb dX5_rule_1 (by omega) (by decide) ?_
                refine lv_iconst hx hb dX5_rule_104 ic_m1 ?_
                exact r_i C hP hS hw dX5_rule_105

theorem kX5_hasCorner_f10 : Cond.fieldLink RX5 10 (TX5 0).1 (TX5 0).2.1 (TX5 0).2.2.1 ∈ wsX5_hasCorner := List.mem_of_getElem? (i := 1) rfl
theorem hX5_hasCorner_X5 : ∀ w ∈ u_ws RX5 TX5 11, w ∈ wsX5_hasCorner := fun _ h => List.mem_cons_of_mem _ (List.mem_append_left _ (List.mem_append_right _ (h)))
theorem kX5_hasCorner_f99 : Cond.fieldLink RX5 99 (TX0 2).1 (TX0 2).2.1 (TX0 2).2.2.1 ∈ wsX5_hasCorner := List.mem_of_getElem? (i := 2) rfl
theorem hX5_hasCorner_X0 : ∀ w ∈ u_ws RX0 TX0 10, w ∈ wsX5_hasCorner := fun _ h => List.mem_cons_of_mem _ (List.mem_append_right _ (h))
abbrev rmX5_hasCorner : Room := { frames := 1, cells := 0, slots := 0, locals := 22 }
def q_X5_hasCorner (v1 : Int32) (M : Mem) (Q : Int32 → Mem → Prop) : Prop := q_X5_within v1 (0 : Int32) ((M 1 2) - (1 : Int32)) M (fun r_2 M_1 => narrow .boolean (.int r_2) = .int r_2 ∧ Q r_2 M_1)
theorem dsX5_hasCorner : yX5_hasCorner.cls = RX5 ∧ yX5_hasCorner.cls ≠ "java/lang/invoke/MethodHandle" ∧ yX5_hasCorner.cls ≠ "java/lang/invoke/VarHandle" ∧ (parseMethodDescriptor yX5_hasCorner.desc).map (fun d => d.parameters.length) = some 1 := by decide +kernel
set_option maxRecDepth 100000 in
set_option maxHeartbeats 4000000 in
theorem c_X5_hasCorner {l : Launch} {K : wC} {v1 : Int32} {M : Mem} {Q : Int32 → Mem → Prop} (hw : q_X5_hasCorner v1 M Q) : metI l yX5_hasCorner wsX5_hasCorner rmX5_hasCorner shX 51 K [.ref (kb K + 0), .int v1] M Q := by
  refine met_of (cc := cX5_hasCorner) (maxL := 2) (ret := (some .boolean)) (own := RX5) (by decide) rfl rfl (Nat.le_of_ble_eq_true rfl) ?_
  intro p e s m below meth c ls C hl hP hS
  have hl : lv_has ls 2 [(0, .ref (kb K + 0)), (1, .int v1)] := hl
  obtain ⟨hx, hb, hml, hown, hts, hr, hlk, hK⟩ := id C
  have hP0 := hP
  delta q_X5_hasCorner at hw
  refine lv_iload_n hx hb dX5_hasCorner_0 rfl (lv_at hl 1 rfl) ?_
  refine lv_iconst hx hb dX5_hasCorner_1 ic_0 ?_
  refine lv_aload_n hx hb dX5_hasCorner_2 rfl (lv_at hl 0 rfl) ?_
  refine g_f C hP (by decide) (sX_0 K _) rfl hX5_hasCorner_X5 0 (by decide) kX5_hasCorner_f10 rfl dX5_hasCorner_3 ?_
  refine g_f C hP (by decide) (sX_1 K _) rfl hX5_hasCorner_X0 2 (by decide) kX5_hasCorner_f99 rfl dX5_hasCorner_6 ?_
  refine lv_iconst hx hb dX5_hasCorner_9 ic_1 ?_
  refine lv_isub hx hb dX5_hasCorner_10 ?_
  refine c_i (run_s (As := [.int v1, .int (0 : Int32), .int ((M 1 2) - (1 : Int32))]) (rest := []) C hP hS (c_X5_within hw) gX5_hasCorner_X5_within rfl dsX5_within rfl ⟨rfl, rfl⟩ ⟨Nat.le_of_ble_eq_true rfl, Nat.le_of_ble_eq_true rfl⟩ hl.1 rfl (Nat.le_of_ble_eq_true rfl) dX5_hasCorner_11 ⟨Nat.le_of_ble_eq_true rfl, Nat.le_of_ble_eq_true rfl⟩) hS (fun r_2 M_1 H locs hw hP hS => ?_)
  exact r_z C hw.1 hP hS hw.2 dX5_hasCorner_14

theorem kX5_corner_f10 : Cond.fieldLink RX5 10 (TX5 0).1 (TX5 0).2.1 (TX5 0).2.2.1 ∈ wsX5_corner := List.mem_of_getElem? (i := 1) rfl
theorem hX5_corner_X5 : ∀ w ∈ u_ws RX5 TX5 11, w ∈ wsX5_corner := fun _ h => List.mem_cons_of_mem _ (List.mem_append_left _ (List.mem_append_right _ (h)))
theorem kX5_corner_f127 : Cond.fieldLink RX5 127 (TX0 0).1 (TX0 0).2.1 (TX0 0).2.2.1 ∈ wsX5_corner := List.mem_of_getElem? (i := 2) rfl
theorem hX5_corner_X0 : ∀ w ∈ u_ws RX0 TX0 10, w ∈ wsX5_corner := fun _ h => List.mem_cons_of_mem _ (List.mem_append_right _ (h))
theorem kX5_corner_f130 : Cond.fieldLink RX5 130 (TX0 1).1 (TX0 1).2.1 (TX0 1).2.2.1 ∈ wsX5_corner := List.mem_of_getElem? (i := 3) rfl
abbrev rmX5_corner : Room := { frames := 2, cells := 0, slots := 0, locals := 43 }
def q_X5_corner (v1 : Int32) (v2 : Int32) (M : Mem) (Q : Int32 → Mem → Prop) : Prop := q_X5_hasCorner v1 M (fun r_2 M_1 => ((¬ r_2 = 0 → ((v2 = 0 → vp_in v1 10 ∧ Q (M_1 2 v1.toNatClampNeg) M_1) ∧ (¬ v2 = 0 → ((v2 = 1 → vp_in v1 10 ∧ Q (M_1 3 v1.toNatClampNeg) M_1) ∧ (¬ v2 = 1 → ((v2 = 2 → q_X0_sweepOf 1 v1 M_1 (fun r_6 M_5 => Q ((10000 : Int32) + r_6) M_5)) ∧ (¬ v2 = 2 → Q (-1 : Int32) M_1))))))) ∧ (r_2 = 0 → Q (-1 : Int32) M_1)))
theorem dsX5_corner : yX5_corner.cls = RX5 ∧ yX5_corner.cls ≠ "java/lang/invoke/MethodHandle" ∧ yX5_corner.cls ≠ "java/lang/invoke/VarHandle" ∧ (parseMethodDescriptor yX5_corner.desc).map (fun d => d.parameters.length) = some 2 := by decide +kernel
set_option maxRecDepth 100000 in
set_option maxHeartbeats 4000000 in
theorem c_X5_corner {l : Launch} {K : wC} {v1 : Int32} {v2 : Int32} {M : Mem} {Q : Int32 → Mem → Prop} (hw : q_X5_corner v1 v2 M Q) : metI l yX5_corner wsX5_corner rmX5_corner shX 51 K [.ref (kb K + 0), .int v1, .int v2] M Q := by
  refine met_of (cc := cX5_corner) (maxL := 3) (ret := (some .int)) (own := RX5) (by decide) rfl rfl (Nat.le_of_ble_eq_true rfl) ?_
  intro p e s m below meth c ls C hl hP hS
  have hl : lv_has ls 3 [(0, .ref (kb K + 0)), (1, .int v1), (2, .int v2)] := hl
  obtain ⟨hx, hb, hml, hown, hts, hr, hlk, hK⟩ := id C
  have hP0 := hP
  delta q_X5_corner at hw
  refine lv_aload_n hx hb dX5_corner_0 rfl (lv_at hl 0 rfl) ?_
  refine lv_iload_n hx hb dX5_corner_1 rfl (lv_at hl 1 rfl) ?_
  refine c_i (run_v (As := [.int v1]) (rest := []) C hP hS (c_X5_hasCorner hw) gX5_corner_X5_hasCorner rfl dsX5_hasCorner rfl ⟨rfl, rfl⟩ ⟨Nat.le_of_ble_eq_true rfl, Nat.le_of_ble_eq_true rfl⟩ (by decide) (sX_0 K _) rfl hl.1 rfl (Nat.le_of_ble_eq_true rfl) dX5_corner_2 ⟨Nat.le_of_ble_eq_true rfl, Nat.le_of_ble_eq_true rfl⟩) hS (fun r_2 M_1 H locs hw hP hS => ?_)
  refine lv_if_ne (tgt := 10) hx hb dX5_corner_5 (by decide) (fun hc => ?_) (fun hc => ?_)
  · have hw := hw.1 hc
    refine lv_iload_n hx hb dX5_corner_10 rfl (lv_at hl 2 rfl) ?_
    by_cases hs0 : v2 = 0
    · have hw := hw.1 hs0
      refine lv_tableIn (tgt := 36) hx hb dX5_corner_11 (by rw [hs0]; decide) (by rw [hs0]; decide) (by rw [hs0]; rfl) (by decide) ?_
      refine lv_aload_n hx hb dX5_corner_36 rfl (lv_at hl 0 rfl) ?_
      refine g_f C hP (by decide) (sX_0 K _) rfl hX5_corner_X5 0 (by decide) kX5_corner_f10 rfl dX5_corner_37 ?_
      refine g_f C hP (by decide) (sX_1 K _) rfl hX5_corner_X0 0 (by decide) kX5_corner_f127 rfl dX5_corner_40 ?_
      refine lv_iload_n hx hb dX5_corner_43 rfl (lv_at hl 1 rfl) ?_
      have hi_3 := hw.1
      have hw := hw.2
      refine a_il C hP (by decide) (sX_2 K _) hi_3 rfl dX5_corner_44 ?_
      exact r_i C hP hS hw dX5_corner_45
    · have hw := hw.2 hs0
      by_cases hs1 : v2 = 1
      · have hw := hw.1 hs1
        refine lv_tableIn (tgt := 46) hx hb dX5_corner_11 (by rw [hs1]; decide) (by rw [hs1]; decide) (by rw [hs1]; rfl) (by decide) ?_
        refine lv_aload_n hx hb dX5_corner_46 rfl (lv_at hl 0 rfl) ?_
        refine g_f C hP (by decide) (sX_0 K _) rfl hX5_corner_X5 0 (by decide) kX5_corner_f10 rfl dX5_corner_47 ?_
        refine g_f C hP (by decide) (sX_1 K _) rfl hX5_corner_X0 1 (by decide) kX5_corner_f130 rfl dX5_corner_50 ?_
        refine lv_iload_n hx hb dX5_corner_53 rfl (lv_at hl 1 rfl) ?_
        have hi_4 := hw.1
        have hw := hw.2
        refine a_il C hP (by decide) (sX_3 K _) hi_4 rfl dX5_corner_54 ?_
        exact r_i C hP hS hw dX5_corner_55
      · have hw := hw.2 hs1
        by_cases hs2 : v2 = 2
        · have hw := hw.1 hs2
          refine lv_tableIn (tgt := 56) hx hb dX5_corner_11 (by rw [hs2]; decide) (by rw [hs2]; decide) (by rw [hs2]; rfl) (by decide) ?_
          refine lv_sipush hx hb dX5_corner_56 sp_10000 ?_
          refine lv_aload_n hx hb dX5_corner_59 rfl (lv_at hl 0 rfl) ?_
          refine g_f C hP (by decide) (sX_0 K _) rfl hX5_corner_X5 0 (by decide) kX5_corner_f10 rfl dX5_corner_60 ?_
          refine lv_iload_n hx hb dX5_corner_63 rfl (lv_at hl 1 rfl) ?_
          refine c_i (run_v (As := [.int v1]) (rest := [.int (10000 : Int32)]) C hP hS (c_X0_sweepOf lay_1 hw) gX5_corner_X0_sweepOf rfl dsX0_sweepOf rfl ⟨rfl, rfl⟩ ⟨Nat.le_of_ble_eq_true rfl, Nat.le_of_ble_eq_true rfl⟩ (by decide) (sX_1 K _) rfl hl.1 rfl (Nat.le_of_ble_eq_true rfl) dX5_corner_64 ⟨Nat.le_of_ble_eq_true rfl, Nat.le_of_ble_eq_true rfl⟩) hS (fun r_6 M_5 H locs hw hP hS => ?_)
          refine lv_iadd hx hb dX5_corner_67 ?_
          exact r_i C hP hS hw dX5_corner_68
        · have hw := hw.2 hs2
          have nhs0 : v2.toInt ≠ 0 := ne_toInt hs0
          have nhs1 : v2.toInt ≠ 1 := ne_toInt hs1
          have nhs2 : v2.toInt ≠ 2 := ne_toInt hs2
          refine lv_tableOut (tgt := 69) hx hb dX5_corner_11 (by omega) (by decide) ?_
          refine lv_iconst hx hb dX5_corner_69 ic_m1 ?_
          exact r_i C hP hS hw dX5_corner_70
  · have hw := hw.2 hc
    refine lv_iconst hx hb dX5_corner_8 ic_m1 ?_
    exact r_i C hP hS hw dX5_corner_9

theorem kX5_hasWheel_f10 : Cond.fieldLink RX5 10 (TX5 0).1 (TX5 0).2.1 (TX5 0).2.2.1 ∈ wsX5_hasWheel := List.mem_of_getElem? (i := 1) rfl
theorem hX5_hasWheel_X5 : ∀ w ∈ u_ws RX5 TX5 11, w ∈ wsX5_hasWheel := fun _ h => List.mem_cons_of_mem _ (List.mem_append_left _ (List.mem_append_right _ (h)))
theorem kX5_hasWheel_f102 : Cond.fieldLink RX5 102 (TX0 6).1 (TX0 6).2.1 (TX0 6).2.2.1 ∈ wsX5_hasWheel := List.mem_of_getElem? (i := 2) rfl
theorem hX5_hasWheel_X0 : ∀ w ∈ u_ws RX0 TX0 10, w ∈ wsX5_hasWheel := fun _ h => List.mem_cons_of_mem _ (List.mem_append_right _ (h))
abbrev rmX5_hasWheel : Room := { frames := 1, cells := 0, slots := 0, locals := 22 }
def q_X5_hasWheel (v1 : Int32) (M : Mem) (Q : Int32 → Mem → Prop) : Prop := q_X5_within v1 (0 : Int32) ((M 1 6) - (1 : Int32)) M (fun r_2 M_1 => narrow .boolean (.int r_2) = .int r_2 ∧ Q r_2 M_1)
theorem dsX5_hasWheel : yX5_hasWheel.cls = RX5 ∧ yX5_hasWheel.cls ≠ "java/lang/invoke/MethodHandle" ∧ yX5_hasWheel.cls ≠ "java/lang/invoke/VarHandle" ∧ (parseMethodDescriptor yX5_hasWheel.desc).map (fun d => d.parameters.length) = some 1 := by decide +kernel
set_option maxRecDepth 100000 in
set_option maxHeartbeats 4000000 in
theorem c_X5_hasWheel {l : Launch} {K : wC} {v1 : Int32} {M : Mem} {Q : Int32 → Mem → Prop} (hw : q_X5_hasWheel v1 M Q) : metI l yX5_hasWheel wsX5_hasWheel rmX5_hasWheel shX 51 K [.ref (kb K + 0), .int v1] M Q := by
  refine met_of (cc := cX5_hasWheel) (maxL := 2) (ret := (some .boolean)) (own := RX5) (by decide) rfl rfl (Nat.le_of_ble_eq_true rfl) ?_
  intro p e s m below meth c ls C hl hP hS
  have hl : lv_has ls 2 [(0, .ref (kb K + 0)), (1, .int v1)] := hl
  obtain ⟨hx, hb, hml, hown, hts, hr, hlk, hK⟩ := id C
  have hP0 := hP
  delta q_X5_hasWheel at hw
  refine lv_iload_n hx hb dX5_hasWheel_0 rfl (lv_at hl 1 rfl) ?_
  refine lv_iconst hx hb dX5_hasWheel_1 ic_0 ?_
  refine lv_aload_n hx hb dX5_hasWheel_2 rfl (lv_at hl 0 rfl) ?_
  refine g_f C hP (by decide) (sX_0 K _) rfl hX5_hasWheel_X5 0 (by decide) kX5_hasWheel_f10 rfl dX5_hasWheel_3 ?_
  refine g_f C hP (by decide) (sX_1 K _) rfl hX5_hasWheel_X0 6 (by decide) kX5_hasWheel_f102 rfl dX5_hasWheel_6 ?_
  refine lv_iconst hx hb dX5_hasWheel_9 ic_1 ?_
  refine lv_isub hx hb dX5_hasWheel_10 ?_
  refine c_i (run_s (As := [.int v1, .int (0 : Int32), .int ((M 1 6) - (1 : Int32))]) (rest := []) C hP hS (c_X5_within hw) gX5_hasWheel_X5_within rfl dsX5_within rfl ⟨rfl, rfl⟩ ⟨Nat.le_of_ble_eq_true rfl, Nat.le_of_ble_eq_true rfl⟩ hl.1 rfl (Nat.le_of_ble_eq_true rfl) dX5_hasWheel_11 ⟨Nat.le_of_ble_eq_true rfl, Nat.le_of_ble_eq_true rfl⟩) hS (fun r_2 M_1 H locs hw hP hS => ?_)
  exact r_z C hw.1 hP hS hw.2 dX5_hasWheel_14

theorem kX5_wheel_f10 : Cond.fieldLink RX5 10 (TX5 0).1 (TX5 0).2.1 (TX5 0).2.2.1 ∈ wsX5_wheel := List.mem_of_getElem? (i := 1) rfl
theorem hX5_wheel_X5 : ∀ w ∈ u_ws RX5 TX5 11, w ∈ wsX5_wheel := fun _ h => List.mem_cons_of_mem _ (List.mem_append_left _ (List.mem_append_right _ (h)))
theorem kX5_wheel_f139 : Cond.fieldLink RX5 139 (TX0 3).1 (TX0 3).2.1 (TX0 3).2.2.1 ∈ wsX5_wheel := List.mem_of_getElem? (i := 2) rfl
theorem hX5_wheel_X0 : ∀ w ∈ u_ws RX0 TX0 10, w ∈ wsX5_wheel := fun _ h => List.mem_cons_of_mem _ (List.mem_append_right _ (h))
theorem kX5_wheel_f142 : Cond.fieldLink RX5 142 (TX0 4).1 (TX0 4).2.1 (TX0 4).2.2.1 ∈ wsX5_wheel := List.mem_of_getElem? (i := 3) rfl
theorem kX5_wheel_c145 : Cond.constant RX5 145 (20000000) ∈ wsX5_wheel := List.mem_of_getElem? (i := 4) rfl
theorem kX5_wheel_f146 : Cond.fieldLink RX5 146 (TX0 5).1 (TX0 5).2.1 (TX0 5).2.2.1 ∈ wsX5_wheel := List.mem_of_getElem? (i := 5) rfl
abbrev rmX5_wheel : Room := { frames := 4, cells := 0, slots := 0, locals := 89 }
def q_X5_wheel (v1 : Int32) (v2 : Int32) (M : Mem) (Q : Int32 → Mem → Prop) : Prop := q_X5_hasWheel v1 M (fun r_2 M_1 => ((¬ r_2 = 0 → ((v2 = 0 → vp_in v1 4 ∧ Q (M_1 4 v1.toNatClampNeg) M_1) ∧ (¬ v2 = 0 → ((v2 = 1 → vp_in v1 4 ∧ Q (M_1 5 v1.toNatClampNeg) M_1) ∧ (¬ v2 = 1 → ((v2 = 2 → vp_in v1 4 ∧ Q ((20000000 : Int32) + (M_1 6 v1.toNatClampNeg)) M_1) ∧ (¬ v2 = 2 → ((v2 = 3 → q_X0_shownBy 1 v1 M_1 (fun r_7 M_6 => Q ((20000000 : Int32) + r_7) M_6)) ∧ (¬ v2 = 3 → ((v2 = 4 → q_X0_errorOf 1 v1 M_1 (fun r_9 M_8 => Q r_9 M_8)) ∧ (¬ v2 = 4 → Q (-1 : Int32) M_1))))))))))) ∧ (r_2 = 0 → Q (-1 : Int32) M_1)))
theorem dsX5_wheel : yX5_wheel.cls = RX5 ∧ yX5_wheel.cls ≠ "java/lang/invoke/MethodHandle" ∧ yX5_wheel.cls ≠ "java/lang/invoke/VarHandle" ∧ (parseMethodDescriptor yX5_wheel.desc).map (fun d => d.parameters.length) = some 2 := by decide +kernel
set_option maxRecDepth 100000 in
set_option maxHeartbeats 4000000 in
theorem c_X5_wheel {l : Launch} {K : wC} {v1 : Int32} {v2 : Int32} {M : Mem} {Q : Int32 → Mem → Prop} (hw : q_X5_wheel v1 v2 M Q) : metI l yX5_wheel wsX5_wheel rmX5_wheel shX 51 K [.ref (kb K + 0), .int v1, .int v2] M Q := by
  refine met_of (cc := cX5_wheel) (maxL := 3) (ret := (some .int)) (own := RX5) (by decide) rfl rfl (Nat.le_of_ble_eq_true rfl) ?_
  intro p e s m below meth c ls C hl hP hS
  have hl : lv_has ls 3 [(0, .ref (kb K + 0)), (1, .int v1), (2, .int v2)] := hl
  obtain ⟨hx, hb, hml, hown, hts, hr, hlk, hK⟩ := id C
  have hP0 := hP
  delta q_X5_wheel at hw
  refine lv_aload_n hx hb dX5_wheel_0 rfl (lv_at hl 0 rfl) ?_
  refine lv_iload_n hx hb dX5_wheel_1 rfl (lv_at hl 1 rfl) ?_
  refine c_i (run_v (As := [.int v1]) (rest := []) C hP hS (c_X5_hasWheel hw) gX5_wheel_X5_hasWheel rfl dsX5_hasWheel rfl ⟨rfl, rfl⟩ ⟨Nat.le_of_ble_eq_true rfl, Nat.le_of_ble_eq_true rfl⟩ (by decide) (sX_0 K _) rfl hl.1 rfl (Nat.le_of_ble_eq_true rfl) dX5_wheel_2 ⟨Nat.le_of_ble_eq_true rfl, Nat.le_of_ble_eq_true rfl⟩) hS (fun r_2 M_1 H locs hw hP hS => ?_)
  refine lv_if_ne (tgt := 10) hx hb dX5_wheel_5 (by decide) (fun hc => ?_) (fun hc => ?_)
  · have hw := hw.1 hc
    refine lv_iload_n hx hb dX5_wheel_10 rfl (lv_at hl 2 rfl) ?_
    by_cases hs0 : v2 = 0
    · have hw := hw.1 hs0
      refine lv_tableIn (tgt := 44) hx hb dX5_wheel_11 (by rw [hs0]; decide) (by rw [hs0]; decide) (by rw [hs0]; rfl) (by decide) ?_
      refine lv_aload_n hx hb dX5_wheel_44 rfl (lv_at hl 0 rfl) ?_
      refine g_f C hP (by decide) (sX_0 K _) rfl hX5_wheel_X5 0 (by decide) kX5_wheel_f10 rfl dX5_wheel_45 ?_
      refine g_f C hP (by decide) (sX_1 K _) rfl hX5_wheel_X0 3 (by decide) kX5_wheel_f139 rfl dX5_wheel_48 ?_
      refine lv_iload_n hx hb dX5_wheel_51 rfl (lv_at hl 1 rfl) ?_
      have hi_3 := hw.1
      have hw := hw.2
      refine a_il C hP (by decide) (sX_4 K _) hi_3 rfl dX5_wheel_52 ?_
      exact r_i C hP hS hw dX5_wheel_53
    · have hw := hw.2 hs0
      by_cases hs1 : v2 = 1
      · have hw := hw.1 hs1
        refine lv_tableIn (tgt := 54) hx hb dX5_wheel_11 (by rw [hs1]; decide) (by rw [hs1]; decide) (by rw [hs1]; rfl) (by decide) ?_
        refine lv_aload_n hx hb dX5_wheel_54 rfl (lv_at hl 0 rfl) ?_
        refine g_f C hP (by decide) (sX_0 K _) rfl hX5_wheel_X5 0 (by decide) kX5_wheel_f10 rfl dX5_wheel_55 ?_
        refine g_f C hP (by decide) (sX_1 K _) rfl hX5_wheel_X0 4 (by decide) kX5_wheel_f142 rfl dX5_wheel_58 ?_
        refine lv_iload_n hx hb dX5_wheel_61 rfl (lv_at hl 1 rfl) ?_
        have hi_4 := hw.1
        have hw := hw.2
        refine a_il C hP (by decide) (sX_5 K _) hi_4 rfl dX5_wheel_62 ?_
        exact r_i C hP hS hw dX5_wheel_63
      · have hw := hw.2 hs1
        by_cases hs2 : v2 = 2
        · have hw := hw.1 hs2
          refine lv_tableIn (tgt := 64) hx hb dX5_wheel_11 (by rw [hs2]; decide) (by rw [hs2]; decide) (by rw [hs2]; rfl) (by decide) ?_
          refine lv_ldc hx hb hown (hts _ kX5_wheel_c145) dX5_wheel_64 ?_
          refine lv_aload_n hx hb dX5_wheel_66 rfl (lv_at hl 0 rfl) ?_
          refine g_f C hP (by decide) (sX_0 K _) rfl hX5_wheel_X5 0 (by decide) kX5_wheel_f10 rfl dX5_wheel_67 ?_
          refine g_f C hP (by decide) (sX_1 K _) rfl hX5_wheel_X0 5 (by decide) kX5_wheel_f146 rfl dX5_wheel_70 ?_
          refine lv_iload_n hx hb dX5_wheel_73 rfl (lv_at hl 1 rfl) ?_
          have hi_5 := hw.1
          have hw := hw.2
          refine a_il C hP (by decide) (sX_6 K _) hi_5 rfl dX5_wheel_74 ?_
          refine lv_iadd hx hb dX5_wheel_75 ?_
          exact r_i C hP hS hw dX5_wheel_76
        · have hw := hw.2 hs2
          by_cases hs3 : v2 = 3
          · have hw := hw.1 hs3
            refine lv_tableIn (tgt := 77) hx hb dX5_wheel_11 (by rw [hs3]; decide) (by rw [hs3]; decide) (by rw [hs3]; rfl) (by decide) ?_
            refine lv_ldc hx hb hown (hts _ kX5_wheel_c145) dX5_wheel_77 ?_
            refine lv_aload_n hx hb dX5_wheel_79 rfl (lv_at hl 0 rfl) ?_
            refine g_f C hP (by decide) (sX_0 K _) rfl hX5_wheel_X5 0 (by decide) kX5_wheel_f10 rfl dX5_wheel_80 ?_
            refine lv_iload_n hx hb dX5_wheel_83 rfl (lv_at hl 1 rfl) ?_
            refine c_i (run_v (As := [.int v1]) (rest := [.int (20000000 : Int32)]) C hP hS (c_X0_shownBy lay_1 hw) gX5_wheel_X0_shownBy rfl dsX0_shownBy rfl ⟨rfl, rfl⟩ ⟨Nat.le_of_ble_eq_true rfl, Nat.le_of_ble_eq_true rfl⟩ (by decide) (sX_1 K _) rfl hl.1 rfl (Nat.le_of_ble_eq_true rfl) dX5_wheel_84 ⟨Nat.le_of_ble_eq_true rfl, Nat.le_of_ble_eq_true rfl⟩) hS (fun r_7 M_6 H locs hw hP hS => ?_)
            refine lv_iadd hx hb dX5_wheel_87 ?_
            exact r_i C hP hS hw dX5_wheel_88
          · have hw := hw.2 hs3
            by_cases hs4 : v2 = 4
            · have hw := hw.1 hs4
              refine lv_tableIn (tgt := 89) hx hb dX5_wheel_11 (by rw [hs4]; decide) (by rw [hs4]; decide) (by rw [hs4]; rfl) (by decide) ?_
              refine lv_aload_n hx hb dX5_wheel_89 rfl (lv_at hl 0 rfl) ?_
              refine g_f C hP (by decide) (sX_0 K _) rfl hX5_wheel_X5 0 (by decide) kX5_wheel_f10 rfl dX5_wheel_90 ?_
              refine lv_iload_n hx hb dX5_wheel_93 rfl (lv_at hl 1 rfl) ?_
              refine c_i (run_v (As := [.int v1]) (rest := []) C hP hS (c_X0_errorOf lay_1 hw) gX5_wheel_X0_errorOf rfl dsX0_errorOf rfl ⟨rfl, rfl⟩ ⟨Nat.le_of_ble_eq_true rfl, Nat.le_of_ble_eq_true rfl⟩ (by decide) (sX_1 K _) rfl hl.1 rfl (Nat.le_of_ble_eq_true rfl) dX5_wheel_94 ⟨Nat.le_of_ble_eq_true rfl, Nat.le_of_ble_eq_true rfl⟩) hS (fun r_9 M_8 H locs hw hP hS => ?_)
              exact r_i C hP hS hw dX5_wheel_97
            · have hw := hw.2 hs4
              have nhs0 : v2.toInt ≠ 0 := ne_toInt hs0
              have nhs1 : v2.toInt ≠ 1 := ne_toInt hs1
              have nhs2 : v2.toInt ≠ 2 := ne_toInt hs2
              have nhs3 : v2.toInt ≠ 3 := ne_toInt hs3
              have nhs4 : v2.toInt ≠ 4 := ne_toInt hs4
              refine lv_tableOut (tgt := 98) hx hb dX5_wheel_11 (by omega) (by decide) ?_
              refine lv_iconst hx hb dX5_wheel_98 ic_m1 ?_
              exact r_i C hP hS hw dX5_wheel_99
  · have hw := hw.2 hc
    refine lv_iconst hx hb dX5_wheel_8 ic_m1 ?_
    exact r_i C hP hS hw dX5_wheel_9

abbrev rmX5_isKind : Room := { frames := 1, cells := 0, slots := 0, locals := 22 }
def q_X5_isKind (v0 : Int32) (M : Mem) (Q : Int32 → Mem → Prop) : Prop := q_X5_within v0 (0 : Int32) (3 : Int32) M (fun r_2 M_1 => narrow .boolean (.int r_2) = .int r_2 ∧ Q r_2 M_1)
theorem dsX5_isKind : yX5_isKind.cls ≠ "java/lang/invoke/MethodHandle" ∧ yX5_isKind.cls ≠ "java/lang/invoke/VarHandle" ∧ (parseMethodDescriptor yX5_isKind.desc).map (fun d => d.parameters.length) = some 1 := by decide +kernel
set_option maxRecDepth 100000 in
set_option maxHeartbeats 4000000 in
theorem c_X5_isKind {l : Launch} {K : wC} {v0 : Int32} {M : Mem} {Q : Int32 → Mem → Prop} (hw : q_X5_isKind v0 M Q) : metI l yX5_isKind wsX5_isKind rmX5_isKind shX 51 K [.int v0] M Q := by
  refine met_of (cc := cX5_isKind) (maxL := 1) (ret := (some .boolean)) (own := RX5) (by decide) rfl rfl (Nat.le_of_ble_eq_true rfl) ?_
  intro p e s m below meth c ls C hl hP hS
  have hl : lv_has ls 1 [(0, .int v0)] := hl
  obtain ⟨hx, hb, hml, hown, hts, hr, hlk, hK⟩ := id C
  have hP0 := hP
  delta q_X5_isKind at hw
  refine lv_iload_n hx hb dX5_isKind_0 rfl (lv_at hl 0 rfl) ?_
  refine lv_iconst hx hb dX5_isKind_1 ic_0 ?_
  refine lv_iconst hx hb dX5_isKind_2 ic_3 ?_
  refine c_i (run_s (As := [.int v0, .int (0 : Int32), .int (3 : Int32)]) (rest := []) C hP hS (c_X5_within hw) gX5_isKind_X5_within rfl dsX5_within rfl ⟨rfl, rfl⟩ ⟨Nat.le_of_ble_eq_true rfl, Nat.le_of_ble_eq_true rfl⟩ hl.1 rfl (Nat.le_of_ble_eq_true rfl) dX5_isKind_3 ⟨Nat.le_of_ble_eq_true rfl, Nat.le_of_ble_eq_true rfl⟩) hS (fun r_2 M_1 H locs hw hP hS => ?_)
  exact r_z C hw.1 hP hS hw.2 dX5_isKind_6

abbrev rmX5_isStep : Room := { frames := 1, cells := 0, slots := 0, locals := 22 }
def q_X5_isStep (v0 : Int32) (M : Mem) (Q : Int32 → Mem → Prop) : Prop := q_X5_within v0 (1 : Int32) (9 : Int32) M (fun r_2 M_1 => narrow .boolean (.int r_2) = .int r_2 ∧ Q r_2 M_1)
theorem dsX5_isStep : yX5_isStep.cls ≠ "java/lang/invoke/MethodHandle" ∧ yX5_isStep.cls ≠ "java/lang/invoke/VarHandle" ∧ (parseMethodDescriptor yX5_isStep.desc).map (fun d => d.parameters.length) = some 1 := by decide +kernel
set_option maxRecDepth 100000 in
set_option maxHeartbeats 4000000 in
theorem c_X5_isStep {l : Launch} {K : wC} {v0 : Int32} {M : Mem} {Q : Int32 → Mem → Prop} (hw : q_X5_isStep v0 M Q) : metI l yX5_isStep wsX5_isStep rmX5_isStep shX 51 K [.int v0] M Q := by
  refine met_of (cc := cX5_isStep) (maxL := 1) (ret := (some .boolean)) (own := RX5) (by decide) rfl rfl (Nat.le_of_ble_eq_true rfl) ?_
  intro p e s m below meth c ls C hl hP hS
  have hl : lv_has ls 1 [(0, .int v0)] := hl
  obtain ⟨hx, hb, hml, hown, hts, hr, hlk, hK⟩ := id C
  have hP0 := hP
  delta q_X5_isStep at hw
  refine lv_iload_n hx hb dX5_isStep_0 rfl (lv_at hl 0 rfl) ?_
  refine lv_iconst hx hb dX5_isStep_1 ic_1 ?_
  refine lv_bipush hx hb dX5_isStep_2 bp_9 ?_
  refine c_i (run_s (As := [.int v0, .int (1 : Int32), .int (9 : Int32)]) (rest := []) C hP hS (c_X5_within hw) gX5_isStep_X5_within rfl dsX5_within rfl ⟨rfl, rfl⟩ ⟨Nat.le_of_ble_eq_true rfl, Nat.le_of_ble_eq_true rfl⟩ hl.1 rfl (Nat.le_of_ble_eq_true rfl) dX5_isStep_4 ⟨Nat.le_of_ble_eq_true rfl, Nat.le_of_ble_eq_true rfl⟩) hS (fun r_2 M_1 H locs hw hP hS => ?_)
  exact r_z C hw.1 hP hS hw.2 dX5_isStep_7

theorem kX5_alter_f10 : Cond.fieldLink RX5 10 (TX5 0).1 (TX5 0).2.1 (TX5 0).2.2.1 ∈ wsX5_alter := List.mem_of_getElem? (i := 1) rfl
theorem hX5_alter_X5 : ∀ w ∈ u_ws RX5 TX5 11, w ∈ wsX5_alter := fun _ h => List.mem_cons_of_mem _ (List.mem_append_left _ (List.mem_append_right _ (h)))
theorem kX5_alter_f139 : Cond.fieldLink RX5 139 (TX0 3).1 (TX0 3).2.1 (TX0 3).2.2.1 ∈ wsX5_alter := List.mem_of_getElem? (i := 2) rfl
theorem hX5_alter_X0 : ∀ w ∈ u_ws RX0 TX0 10, w ∈ wsX5_alter := fun _ h => List.mem_cons_of_mem _ (List.mem_append_right _ (h))
theorem kX5_alter_f142 : Cond.fieldLink RX5 142 (TX0 4).1 (TX0 4).2.1 (TX0 4).2.2.1 ∈ wsX5_alter := List.mem_of_getElem? (i := 3) rfl
abbrev rmX5_alter : Room := { frames := 2, cells := 0, slots := 0, locals := 43 }
def f_X5_alter_45 (Q : Int32 → Mem → Prop) (v1 : Int32) (v2 : Int32) (v3 : Int32) (M : Mem) : Prop := ((¬ v2 = (1 : Int32) → Q (-1 : Int32) M) ∧ (v2 = (1 : Int32) → q_X5_isStep v3 M (fun r_8 M_7 => ((r_8 = 0 → Q (-1 : Int32) M_7) ∧ (¬ r_8 = 0 → vp_in v1 4 ∧ vp_in v1 4 ∧ Q (M_7 5 v1.toNatClampNeg) (mU M_7 5 v1.toNatClampNeg v3))))))
def q_X5_alter (v1 : Int32) (v2 : Int32) (v3 : Int32) (M : Mem) (Q : Int32 → Mem → Prop) : Prop := q_X5_hasWheel v1 M (fun r_2 M_1 => ((¬ r_2 = 0 → ((¬ v2 = 0 → f_X5_alter_45 Q v1 v2 v3 M_1) ∧ (v2 = 0 → q_X5_isKind v3 M_1 (fun r_4 M_3 => ((r_4 = 0 → f_X5_alter_45 Q v1 v2 v3 M_3) ∧ (¬ r_4 = 0 → vp_in v1 4 ∧ vp_in v1 4 ∧ Q (M_3 4 v1.toNatClampNeg) (mU M_3 4 v1.toNatClampNeg v3))))))) ∧ (r_2 = 0 → Q (-1 : Int32) M_1)))
set_option maxRecDepth 100000 in
set_option maxHeartbeats 4000000 in
theorem b_X5_alter_45 {l : Launch} {K : wC} {Q : Int32 → Mem → Prop} {p : Program} {e : Env} {s : State} {m : MethodId} {args : Array Value} {below : List Frame} {meth : Method} {c : Code} (C : cx 51 K p s m args meth c cX5_alter 5 wsX5_alter RX5 (some .int)) (v1 : Int32) (v2 : Int32) (v3 : Int32) (M : Mem) (H : Heap) (locs : List Loc) (ls : Array Slot) (hw : f_X5_alter_45 Q v1 v2 v3 M) (hP : wP shX 51 K M H) (hS : va_S (wA 51 K) s.heap H locs) (hl : lv_has ls 5 [(0, .ref (kb K + 0)), (1, .int v1), (2, .int v2), (3, .int v3)]) : W p l e rmX5_alter s m args below meth c H locs 0 0 (MQ below (va_Qi Q (wE shX 51 K) (wA 51 K)) args s 0 0 (wA 51 K)) (F0 m 45 ls []) := by
  obtain ⟨hx, hb, hml, hown, hts, hr, hlk, hK⟩ := id C
  delta f_X5_alter_45 at hw
  refine lv_iload_n hx hb dX5_alter_45 rfl (lv_at hl 2 rfl) ?_
  refine lv_iconst hx hb dX5_alter_46 ic_1 ?_
  refine lv_icmp_ne (tgt := 81) hx hb dX5_alter_47 (by decide) (fun hc => ?_) (fun hc => ?_)
  · have hw := hw.1 hc
    refine lv_iconst hx hb dX5_alter_81 ic_m1 ?_
    exact r_i C hP hS hw dX5_alter_82
  · have hw := hw.2 hc
    refine lv_iload_n hx hb dX5_alter_50 rfl (lv_at hl 3 rfl) ?_
    refine c_i (run_s (As := [.int v3]) (rest := []) C hP hS (c_X5_isStep hw) gX5_alter_X5_isStep rfl dsX5_isStep rfl ⟨rfl, rfl⟩ ⟨Nat.le_of_ble_eq_true rfl, Nat.le_of_ble_eq_true rfl⟩ hl.1 rfl (Nat.le_of_ble_eq_true rfl) dX5_alter_51 ⟨Nat.le_of_ble_eq_true rfl, Nat.le_of_ble_eq_true rfl⟩) hS (fun r_8 M_7 H locs hw hP hS => ?_)
    refine lv_if_eq (tgt := 81) hx hb dX5_alter_54 (by decide) (fun hc => ?_) (fun hc => ?_)
    · have hw := hw.1 hc
      refine lv_iconst hx hb dX5_alter_81 ic_m1 ?_
      exact r_i C hP hS hw dX5_alter_82
    · have hw := hw.2 hc
      refine lv_aload_n hx hb dX5_alter_57 rfl (lv_at hl 0 rfl) ?_
      refine g_f C hP (by decide) (sX_0 K _) rfl hX5_alter_X5 0 (by decide) kX5_alter_f10 rfl dX5_alter_58 ?_
      refine g_f C hP (by decide) (sX_1 K _) rfl hX5_alter_X0 4 (by decide) kX5_alter_f142 rfl dX5_alter_61 ?_
      refine lv_iload_n hx hb dX5_alter_64 rfl (lv_at hl 1 rfl) ?_
      have hi_9 := hw.1
      have hw := hw.2
      refine a_il C hP (by decide) (sX_5 K _) hi_9 rfl dX5_alter_65 ?_
      refine lv_istore (lv' := [(4, .int (M_7 5 v1.toNatClampNeg)), (0, .ref (kb K + 0)), (1, .int v1), (2, .int v2), (3, .int v3)]) hx hb dX5_alter_66 hl (by decide) rfl (fun ls hl => ?_)
      refine lv_aload_n hx hb dX5_alter_68 rfl (lv_at hl 1 rfl) ?_
      refine g_f C hP (by decide) (sX_0 K _) rfl hX5_alter_X5 0 (by decide) kX5_alter_f10 rfl dX5_alter_69 ?_
      refine g_f C hP (by decide) (sX_1 K _) rfl hX5_alter_X0 4 (by decide) kX5_alter_f142 rfl dX5_alter_72 ?_
      refine lv_iload_n hx hb dX5_alter_75 rfl (lv_at hl 2 rfl) ?_
      refine lv_iload_n hx hb dX5_alter_76 rfl (lv_at hl 4 rfl) ?_
      have hi_10 := hw.1
      have hw := hw.2
      refine a_is C hP hS (by decide) (sX_5 K) hi_10 rfl dX5_alter_77 (fun H locs hP hS => ?_)
      refine lv_iload hx hb dX5_alter_78 (lv_at hl 0 rfl) ?_
      exact r_i C hP hS hw dX5_alter_80
theorem dsX5_alter : yX5_alter.cls = RX5 ∧ yX5_alter.cls ≠ "java/lang/invoke/MethodHandle" ∧ yX5_alter.cls ≠ "java/lang/invoke/VarHandle" ∧ (parseMethodDescriptor yX5_alter.desc).map (fun d => d.parameters.length) = some 3 := by decide +kernel
set_option maxRecDepth 100000 in
set_option maxHeartbeats 4000000 in
theorem c_X5_alter {l : Launch} {K : wC} {v1 : Int32} {v2 : Int32} {v3 : Int32} {M : Mem} {Q : Int32 → Mem → Prop} (hw : q_X5_alter v1 v2 v3 M Q) : metI l yX5_alter wsX5_alter rmX5_alter shX 51 K [.ref (kb K + 0), .int v1, .int v2, .int v3] M Q := by
  refine met_of (cc := cX5_alter) (maxL := 5) (ret := (some .int)) (own := RX5) (by decide) rfl rfl (Nat.le_of_ble_eq_true rfl) ?_
  intro p e s m below meth c ls C hl hP hS
  have hl : lv_has ls 5 [(0, .ref (kb K + 0)), (1, .int v1), (2, .int v2), (3, .int v3)] := hl
  obtain ⟨hx, hb, hml, hown, hts, hr, hlk, hK⟩ := id C
  have hP0 := hP
  delta q_X5_alter at hw
  refine lv_aload_n hx hb dX5_alter_0 rfl (lv_at hl 0 rfl) ?_
  refine lv_iload_n hx hb dX5_alter_1 rfl (lv_at hl 1 rfl) ?_
  refine c_i (run_v (As := [.int v1]) (rest := []) C hP hS (c_X5_hasWheel hw) gX5_alter_X5_hasWheel rfl dsX5_hasWheel rfl ⟨rfl, rfl⟩ ⟨Nat.le_of_ble_eq_true rfl, Nat.le_of_ble_eq_true rfl⟩ (by decide) (sX_0 K _) rfl hl.1 rfl (Nat.le_of_ble_eq_true rfl) dX5_alter_2 ⟨Nat.le_of_ble_eq_true rfl, Nat.le_of_ble_eq_true rfl⟩) hS (fun r_2 M_1 H locs hw hP hS => ?_)
  refine lv_if_ne (tgt := 10) hx hb dX5_alter_5 (by decide) (fun hc => ?_) (fun hc => ?_)
  · have hw := hw.1 hc
    refine lv_iload_n hx hb dX5_alter_10 rfl (lv_at hl 2 rfl) ?_
    refine lv_if_ne (tgt := 45) hx hb dX5_alter_11 (by decide) (fun hc => ?_) (fun hc => ?_)
    · have hw := hw.1 hc
      exact b_X5_alter_45 C _ _ _ _ _ _ _ hw hP hS (lv_sub hl [0, 1, 2, 3] rfl)
    · have hw := hw.2 hc
      refine lv_iload_n hx hb dX5_alter_14 rfl (lv_at hl 3 rfl) ?_
      refine c_i (run_s (As := [.int v3]) (rest := []) C hP hS (c_X5_isKind hw) gX5_alter_X5_isKind rfl dsX5_isKind rfl ⟨rfl, rfl⟩ ⟨Nat.le_of_ble_eq_true rfl, Nat.le_of_ble_eq_true rfl⟩ hl.1 rfl (Nat.le_of_ble_eq_true rfl) dX5_alter_15 ⟨Nat.le_of_ble_eq_true rfl, Nat.le_of_ble_eq_true rfl⟩) hS (fun r_4 M_3 H locs hw hP hS => ?_)
      refine lv_if_eq (tgt := 45) hx hb dX5_alter_18 (by decide) (fun hc => ?_) (fun hc => ?_)
      · have hw := hw.1 hc
        exact b_X5_alter_45 C _ _ _ _ _ _ _ hw hP hS (lv_sub hl [0, 1, 2, 3] rfl)
      · have hw := hw.2 hc
        refine lv_aload_n hx hb dX5_alter_21 rfl (lv_at hl 0 rfl) ?_
        refine g_f C hP (by decide) (sX_0 K _) rfl hX5_alter_X5 0 (by decide) kX5_alter_f10 rfl dX5_alter_22 ?_
        refine g_f C hP (by decide) (sX_1 K _) rfl hX5_alter_X0 3 (by decide) kX5_alter_f139 rfl dX5_alter_25 ?_
        refine lv_iload_n hx hb dX5_alter_28 rfl (lv_at hl 1 rfl) ?_
        have hi_5 := hw.1
        have hw := hw.2
        refine a_il C hP (by decide) (sX_4 K _) hi_5 rfl dX5_alter_29 ?_
        refine lv_istore (lv' := [(4, .int (M_3 4 v1.toNatClampNeg)), (0, .ref (kb K + 0)), (1, .int v1), (2, .int v2), (3, .int v3)]) hx hb dX5_alter_30 hl (by decide) rfl (fun ls hl => ?_)
        refine lv_aload_n hx hb dX5_alter_32 rfl (lv_at hl 1 rfl) ?_
        refine g_f C hP (by decide) (sX_0 K _) rfl hX5_alter_X5 0 (by decide) kX5_alter_f10 rfl dX5_alter_33 ?_
        refine g_f C hP (by decide) (sX_1 K _) rfl hX5_alter_X0 3 (by decide) kX5_alter_f139 rfl dX5_alter_36 ?_
        refine lv_iload_n hx hb dX5_alter_39 rfl (lv_at hl 2 rfl) ?_
        refine lv_iload_n hx hb dX5_alter_40 rfl (lv_at hl 4 rfl) ?_
        have hi_6 := hw.1
        have hw := hw.2
        refine a_is C hP hS (by decide) (sX_4 K) hi_6 rfl dX5_alter_41 (fun H locs hP hS => ?_)
        refine lv_iload hx hb dX5_alter_42 (lv_at hl 0 rfl) ?_
        exact r_i C hP hS hw dX5_alter_44
  · have hw := hw.2 hc
    refine lv_iconst hx hb dX5_alter_8 ic_m1 ?_
    exact r_i C hP hS hw dX5_alter_9

theorem kX5_put_f10 : Cond.fieldLink RX5 10 (TX5 0).1 (TX5 0).2.1 (TX5 0).2.2.1 ∈ wsX5_put := List.mem_of_getElem? (i := 1) rfl
theorem hX5_put_X5 : ∀ w ∈ u_ws RX5 TX5 11, w ∈ wsX5_put := fun _ h => List.mem_cons_of_mem _ (List.mem_append_left _ (List.mem_append_right _ (h)))
theorem kX5_put_f102 : Cond.fieldLink RX5 102 (TX0 6).1 (TX0 6).2.1 (TX0 6).2.2.1 ∈ wsX5_put := List.mem_of_getElem? (i := 2) rfl
theorem hX5_put_X0 : ∀ w ∈ u_ws RX0 TX0 10, w ∈ wsX5_put := fun _ h => List.mem_cons_of_mem _ (List.mem_append_right _ (h))
abbrev rmX5_put : Room := { frames := 2, cells := 0, slots := 0, locals := 42 }
def q_X5_put (v1 : Int32) (v2 : Int32) (M : Mem) (Q : Int32 → Mem → Prop) : Prop := q_X5_isKind v1 M (fun r_2 M_1 => ((r_2 = 0 → Q (-1 : Int32) M_1) ∧ (¬ r_2 = 0 → q_X5_isStep v2 M_1 (fun r_4 M_3 => ((¬ r_4 = 0 → (((M_3 1 6) < (4 : Int32) → q_X0_appendWheel 1 v1 v2 M_3 (fun M_5 => Q (M_5 1 6) M_5)) ∧ (¬ (M_3 1 6) < (4 : Int32) → Q (-3 : Int32) M_3))) ∧ (r_4 = 0 → Q (-1 : Int32) M_3))))))
theorem dsX5_put : yX5_put.cls = RX5 ∧ yX5_put.cls ≠ "java/lang/invoke/MethodHandle" ∧ yX5_put.cls ≠ "java/lang/invoke/VarHandle" ∧ (parseMethodDescriptor yX5_put.desc).map (fun d => d.parameters.length) = some 2 := by decide +kernel
set_option maxRecDepth 100000 in
set_option maxHeartbeats 4000000 in
theorem c_X5_put {l : Launch} {K : wC} {v1 : Int32} {v2 : Int32} {M : Mem} {Q : Int32 → Mem → Prop} (hw : q_X5_put v1 v2 M Q) : metI l yX5_put wsX5_put rmX5_put shX 51 K [.ref (kb K + 0), .int v1, .int v2] M Q := by
  refine met_of (cc := cX5_put) (maxL := 3) (ret := (some .int)) (own := RX5) (by decide) rfl rfl (Nat.le_of_ble_eq_true rfl) ?_
  intro p e s m below meth c ls C hl hP hS
  have hl : lv_has ls 3 [(0, .ref (kb K + 0)), (1, .int v1), (2, .int v2)] := hl
  obtain ⟨hx, hb, hml, hown, hts, hr, hlk, hK⟩ := id C
  have hP0 := hP
  delta q_X5_put at hw
  refine lv_iload_n hx hb dX5_put_0 rfl (lv_at hl 1 rfl) ?_
  refine c_i (run_s (As := [.int v1]) (rest := []) C hP hS (c_X5_isKind hw) gX5_put_X5_isKind rfl dsX5_isKind rfl ⟨rfl, rfl⟩ ⟨Nat.le_of_ble_eq_true rfl, Nat.le_of_ble_eq_true rfl⟩ hl.1 rfl (Nat.le_of_ble_eq_true rfl) dX5_put_1 ⟨Nat.le_of_ble_eq_true rfl, Nat.le_of_ble_eq_true rfl⟩) hS (fun r_2 M_1 H locs hw hP hS => ?_)
  refine lv_if_eq (tgt := 14) hx hb dX5_put_4 (by decide) (fun hc => ?_) (fun hc => ?_)
  · have hw := hw.1 hc
    refine lv_iconst hx hb dX5_put_14 ic_m1 ?_
    exact r_i C hP hS hw dX5_put_15
  · have hw := hw.2 hc
    refine lv_iload_n hx hb dX5_put_7 rfl (lv_at hl 2 rfl) ?_
    refine c_i (run_s (As := [.int v2]) (rest := []) C hP hS (c_X5_isStep hw) gX5_put_X5_isStep rfl dsX5_isStep rfl ⟨rfl, rfl⟩ ⟨Nat.le_of_ble_eq_true rfl, Nat.le_of_ble_eq_true rfl⟩ hl.1 rfl (Nat.le_of_ble_eq_true rfl) dX5_put_8 ⟨Nat.le_of_ble_eq_true rfl, Nat.le_of_ble_eq_true rfl⟩) hS (fun r_4 M_3 H locs hw hP hS => ?_)
    refine lv_if_ne (tgt := 16) hx hb dX5_put_11 (by decide) (fun hc => ?_) (fun hc => ?_)
    · have hw := hw.1 hc
      refine lv_aload_n hx hb dX5_put_16 rfl (lv_at hl 0 rfl) ?_
      refine g_f C hP (by decide) (sX_0 K _) rfl hX5_put_X5 0 (by decide) kX5_put_f10 rfl dX5_put_17 ?_
      refine g_f C hP (by decide) (sX_1 K _) rfl hX5_put_X0 6 (by decide) kX5_put_f102 rfl dX5_put_20 ?_
      refine lv_iconst hx hb dX5_put_23 ic_4 ?_
      refine lv_icmp_lt (tgt := 30) hx hb dX5_put_24 (by decide) (fun hc => ?_) (fun hc => ?_)
      · have hw := hw.1 hc
        refine lv_aload_n hx hb dX5_put_30 rfl (lv_at hl 0 rfl) ?_
        refine g_f C hP (by decide) (sX_0 K _) rfl hX5_put_X5 0 (by decide) kX5_put_f10 rfl dX5_put_31 ?_
        refine lv_iload_n hx hb dX5_put_34 rfl (lv_at hl 1 rfl) ?_
        refine lv_iload_n hx hb dX5_put_35 rfl (lv_at hl 2 rfl) ?_
        refine c_v (run_v (As := [.int v1, .int v2]) (rest := []) C hP hS (c_X0_appendWheel lay_1 hw) gX5_put_X0_appendWheel rfl dsX0_appendWheel rfl ⟨rfl, rfl⟩ ⟨Nat.le_of_ble_eq_true rfl, Nat.le_of_ble_eq_true rfl⟩ (by decide) (sX_1 K _) rfl hl.1 rfl (Nat.le_of_ble_eq_true rfl) dX5_put_36 ⟨Nat.le_of_ble_eq_true rfl, Nat.le_of_ble_eq_true rfl⟩) hS (fun M_5 H locs hw hP hS => ?_)
        refine lv_aload_n hx hb dX5_put_39 rfl (lv_at hl 0 rfl) ?_
        refine g_f C hP (by decide) (sX_0 K _) rfl hX5_put_X5 0 (by decide) kX5_put_f10 rfl dX5_put_40 ?_
        refine g_f C hP (by decide) (sX_1 K _) rfl hX5_put_X0 6 (by decide) kX5_put_f102 rfl dX5_put_43 ?_
        exact r_i C hP hS hw dX5_put_46
      · have hw := hw.2 hc
        refine lv_bipush hx hb dX5_put_27 bp_m3 ?_
        exact r_i C hP hS hw dX5_put_29
    · have hw := hw.2 hc
      refine lv_iconst hx hb dX5_put_14 ic_m1 ?_
      exact r_i C hP hS hw dX5_put_15

theorem kX5_cut_f10 : Cond.fieldLink RX5 10 (TX5 0).1 (TX5 0).2.1 (TX5 0).2.2.1 ∈ wsX5_cut := List.mem_of_getElem? (i := 1) rfl
theorem hX5_cut_X5 : ∀ w ∈ u_ws RX5 TX5 11, w ∈ wsX5_cut := fun _ h => List.mem_cons_of_mem _ (List.mem_append_left _ (List.mem_append_right _ (h)))
theorem kX5_cut_f102 : Cond.fieldLink RX5 102 (TX0 6).1 (TX0 6).2.1 (TX0 6).2.2.1 ∈ wsX5_cut := List.mem_of_getElem? (i := 2) rfl
theorem hX5_cut_X0 : ∀ w ∈ u_ws RX0 TX0 10, w ∈ wsX5_cut := fun _ h => List.mem_cons_of_mem _ (List.mem_append_right _ (h))
abbrev rmX5_cut : Room := { frames := 1, cells := 0, slots := 0, locals := 22 }
def q_X5_cut (v1 : Int32) (M : Mem) (Q : Int32 → Mem → Prop) : Prop := q_X5_within v1 (0 : Int32) (M 1 6) M (fun r_2 M_1 => ((¬ r_2 = 0 → Q (M_1 1 6) (mU M_1 1 6 v1)) ∧ (r_2 = 0 → Q (-1 : Int32) M_1)))
theorem dsX5_cut : yX5_cut.cls = RX5 ∧ yX5_cut.cls ≠ "java/lang/invoke/MethodHandle" ∧ yX5_cut.cls ≠ "java/lang/invoke/VarHandle" ∧ (parseMethodDescriptor yX5_cut.desc).map (fun d => d.parameters.length) = some 1 := by decide +kernel
set_option maxRecDepth 100000 in
set_option maxHeartbeats 4000000 in
theorem c_X5_cut {l : Launch} {K : wC} {v1 : Int32} {M : Mem} {Q : Int32 → Mem → Prop} (hw : q_X5_cut v1 M Q) : metI l yX5_cut wsX5_cut rmX5_cut shX 51 K [.ref (kb K + 0), .int v1] M Q := by
  refine met_of (cc := cX5_cut) (maxL := 3) (ret := (some .int)) (own := RX5) (by decide) rfl rfl (Nat.le_of_ble_eq_true rfl) ?_
  intro p e s m below meth c ls C hl hP hS
  have hl : lv_has ls 3 [(0, .ref (kb K + 0)), (1, .int v1)] := hl
  obtain ⟨hx, hb, hml, hown, hts, hr, hlk, hK⟩ := id C
  have hP0 := hP
  delta q_X5_cut at hw
  refine lv_iload_n hx hb dX5_cut_0 rfl (lv_at hl 1 rfl) ?_
  refine lv_iconst hx hb dX5_cut_1 ic_0 ?_
  refine lv_aload_n hx hb dX5_cut_2 rfl (lv_at hl 0 rfl) ?_
  refine g_f C hP (by decide) (sX_0 K _) rfl hX5_cut_X5 0 (by decide) kX5_cut_f10 rfl dX5_cut_3 ?_
  refine g_f C hP (by decide) (sX_1 K _) rfl hX5_cut_X0 6 (by decide) kX5_cut_f102 rfl dX5_cut_6 ?_
  refine c_i (run_s (As := [.int v1, .int (0 : Int32), .int (M 1 6)]) (rest := []) C hP hS (c_X5_within hw) gX5_cut_X5_within rfl dsX5_within rfl ⟨rfl, rfl⟩ ⟨Nat.le_of_ble_eq_true rfl, Nat.le_of_ble_eq_true rfl⟩ hl.1 rfl (Nat.le_of_ble_eq_true rfl) dX5_cut_9 ⟨Nat.le_of_ble_eq_true rfl, Nat.le_of_ble_eq_true rfl⟩) hS (fun r_2 M_1 H locs hw hP hS => ?_)
  refine lv_if_ne (tgt := 17) hx hb dX5_cut_12 (by decide) (fun hc => ?_) (fun hc => ?_)
  · have hw := hw.1 hc
    refine lv_aload_n hx hb dX5_cut_17 rfl (lv_at hl 0 rfl) ?_
    refine g_f C hP (by decide) (sX_0 K _) rfl hX5_cut_X5 0 (by decide) kX5_cut_f10 rfl dX5_cut_18 ?_
    refine g_f C hP (by decide) (sX_1 K _) rfl hX5_cut_X0 6 (by decide) kX5_cut_f102 rfl dX5_cut_21 ?_
    refine lv_istore_n (lv' := [(2, .int (M_1 1 6)), (0, .ref (kb K + 0)), (1, .int v1)]) hx hb dX5_cut_24 rfl hl (by decide) rfl (fun ls hl => ?_)
    refine lv_aload_n hx hb dX5_cut_25 rfl (lv_at hl 1 rfl) ?_
    refine g_f C hP (by decide) (sX_0 K _) rfl hX5_cut_X5 0 (by decide) kX5_cut_f10 rfl dX5_cut_26 ?_
    refine lv_iload_n hx hb dX5_cut_29 rfl (lv_at hl 2 rfl) ?_
    refine p_f C hP hS (by decide) (sX_1 K _) (sX_1 K _) rfl hX5_cut_X0 tyX0_ok nmX0 (by decide) kX5_cut_f102 rfl rfl rfl (Nat.le_of_ble_eq_true rfl) dX5_cut_30 (fun H locs hP hS => ?_)
    refine lv_iload_n hx hb dX5_cut_33 rfl (lv_at hl 0 rfl) ?_
    exact r_i C hP hS hw dX5_cut_34
  · have hw := hw.2 hc
    refine lv_iconst hx hb dX5_cut_15 ic_m1 ?_
    exact r_i C hP hS hw dX5_cut_16

theorem kX5_zero_f10 : Cond.fieldLink RX5 10 (TX5 0).1 (TX5 0).2.1 (TX5 0).2.2.1 ∈ wsX5_zero := List.mem_of_getElem? (i := 1) rfl
theorem hX5_zero_X5 : ∀ w ∈ u_ws RX5 TX5 11, w ∈ wsX5_zero := fun _ h => List.mem_cons_of_mem _ (List.mem_append_left _ (List.mem_append_right _ (h)))
theorem kX5_zero_f146 : Cond.fieldLink RX5 146 (TX0 5).1 (TX0 5).2.1 (TX0 5).2.2.1 ∈ wsX5_zero := List.mem_of_getElem? (i := 2) rfl
theorem hX5_zero_X0 : ∀ w ∈ u_ws RX0 TX0 10, w ∈ wsX5_zero := fun _ h => List.mem_cons_of_mem _ (List.mem_append_right _ (h))
theorem kX5_zero_c145 : Cond.constant RX5 145 (20000000) ∈ wsX5_zero := List.mem_of_getElem? (i := 3) rfl
abbrev rmX5_zero : Room := { frames := 2, cells := 0, slots := 0, locals := 43 }
def q_X5_zero (v1 : Int32) (M : Mem) (Q : Int32 → Mem → Prop) : Prop := q_X5_hasWheel v1 M (fun r_2 M_1 => ((¬ r_2 = 0 → vp_in v1 4 ∧ vp_in v1 4 ∧ Q ((20000000 : Int32) + (M_1 6 v1.toNatClampNeg)) (mU M_1 6 v1.toNatClampNeg (0 : Int32))) ∧ (r_2 = 0 → Q (-1 : Int32) M_1)))
theorem dsX5_zero : yX5_zero.cls = RX5 ∧ yX5_zero.cls ≠ "java/lang/invoke/MethodHandle" ∧ yX5_zero.cls ≠ "java/lang/invoke/VarHandle" ∧ (parseMethodDescriptor yX5_zero.desc).map (fun d => d.parameters.length) = some 1 := by decide +kernel
set_option maxRecDepth 100000 in
set_option maxHeartbeats 4000000 in
theorem c_X5_zero {l : Launch} {K : wC} {v1 : Int32} {M : Mem} {Q : Int32 → Mem → Prop} (hw : q_X5_zero v1 M Q) : metI l yX5_zero wsX5_zero rmX5_zero shX 51 K [.ref (kb K + 0), .int v1] M Q := by
  refine met_of (cc := cX5_zero) (maxL := 3) (ret := (some .int)) (own := RX5) (by decide) rfl rfl (Nat.le_of_ble_eq_true rfl) ?_
  intro p e s m below meth c ls C hl hP hS
  have hl : lv_has ls 3 [(0, .ref (kb K + 0)), (1, .int v1)] := hl
  obtain ⟨hx, hb, hml, hown, hts, hr, hlk, hK⟩ := id C
  have hP0 := hP
  delta q_X5_zero at hw
  refine lv_aload_n hx hb dX5_zero_0 rfl (lv_at hl 0 rfl) ?_
  refine lv_iload_n hx hb dX5_zero_1 rfl (lv_at hl 1 rfl) ?_
  refine c_i (run_v (As := [.int v1]) (rest := []) C hP hS (c_X5_hasWheel hw) gX5_zero_X5_hasWheel rfl dsX5_hasWheel rfl ⟨rfl, rfl⟩ ⟨Nat.le_of_ble_eq_true rfl, Nat.le_of_ble_eq_true rfl⟩ (by decide) (sX_0 K _) rfl hl.1 rfl (Nat.le_of_ble_eq_true rfl) dX5_zero_2 ⟨Nat.le_of_ble_eq_true rfl, Nat.le_of_ble_eq_true rfl⟩) hS (fun r_2 M_1 H locs hw hP hS => ?_)
  refine lv_if_ne (tgt := 10) hx hb dX5_zero_5 (by decide) (fun hc => ?_) (fun hc => ?_)
  · have hw := hw.1 hc
    refine lv_aload_n hx hb dX5_zero_10 rfl (lv_at hl 0 rfl) ?_
    refine g_f C hP (by decide) (sX_0 K _) rfl hX5_zero_X5 0 (by decide) kX5_zero_f10 rfl dX5_zero_11 ?_
    refine g_f C hP (by decide) (sX_1 K _) rfl hX5_zero_X0 5 (by decide) kX5_zero_f146 rfl dX5_zero_14 ?_
    refine lv_iload_n hx hb dX5_zero_17 rfl (lv_at hl 1 rfl) ?_
    have hi_3 := hw.1
    have hw := hw.2
    refine a_il C hP (by decide) (sX_6 K _) hi_3 rfl dX5_zero_18 ?_
    refine lv_istore_n (lv' := [(2, .int (M_1 6 v1.toNatClampNeg)), (0, .ref (kb K + 0)), (1, .int v1)]) hx hb dX5_zero_19 rfl hl (by decide) rfl (fun ls hl => ?_)
    refine lv_aload_n hx hb dX5_zero_20 rfl (lv_at hl 1 rfl) ?_
    refine g_f C hP (by decide) (sX_0 K _) rfl hX5_zero_X5 0 (by decide) kX5_zero_f10 rfl dX5_zero_21 ?_
    refine g_f C hP (by decide) (sX_1 K _) rfl hX5_zero_X0 5 (by decide) kX5_zero_f146 rfl dX5_zero_24 ?_
    refine lv_iload_n hx hb dX5_zero_27 rfl (lv_at hl 2 rfl) ?_
    refine lv_iconst hx hb dX5_zero_28 ic_0 ?_
    have hi_4 := hw.1
    have hw := hw.2
    refine a_is C hP hS (by decide) (sX_6 K) hi_4 rfl dX5_zero_29 (fun H locs hP hS => ?_)
    refine lv_ldc hx hb hown (hts _ kX5_zero_c145) dX5_zero_30 ?_
    refine lv_iload_n hx hb dX5_zero_32 rfl (lv_at hl 0 rfl) ?_
    refine lv_iadd hx hb dX5_zero_33 ?_
    exact r_i C hP hS hw dX5_zero_34
  · have hw := hw.2 hc
    refine lv_iconst hx hb dX5_zero_8 ic_m1 ?_
    exact r_i C hP hS hw dX5_zero_9

abbrev rmX5_isPlace : Room := { frames := 1, cells := 0, slots := 0, locals := 22 }
def q_X5_isPlace (v0 : Int32) (v1 : Int32) (M : Mem) (Q : Int32 → Mem → Prop) : Prop := q_X5_within v0 (0 : Int32) (20 : Int32) M (fun r_2 M_1 => ((r_2 = 0 → Q (0 : Int32) M_1) ∧ (¬ r_2 = 0 → q_X5_within v1 (0 : Int32) (20 : Int32) M_1 (fun r_4 M_3 => ((r_4 = 0 → Q (0 : Int32) M_3) ∧ (¬ r_4 = 0 → Q (1 : Int32) M_3))))))
theorem dsX5_isPlace : yX5_isPlace.cls ≠ "java/lang/invoke/MethodHandle" ∧ yX5_isPlace.cls ≠ "java/lang/invoke/VarHandle" ∧ (parseMethodDescriptor yX5_isPlace.desc).map (fun d => d.parameters.length) = some 2 := by decide +kernel
set_option maxRecDepth 100000 in
set_option maxHeartbeats 4000000 in
theorem c_X5_isPlace {l : Launch} {K : wC} {v0 : Int32} {v1 : Int32} {M : Mem} {Q : Int32 → Mem → Prop} (hw : q_X5_isPlace v0 v1 M Q) : metI l yX5_isPlace wsX5_isPlace rmX5_isPlace shX 51 K [.int v0, .int v1] M Q := by
  refine met_of (cc := cX5_isPlace) (maxL := 2) (ret := (some .boolean)) (own := RX5) (by decide) rfl rfl (Nat.le_of_ble_eq_true rfl) ?_
  intro p e s m below meth c ls C hl hP hS
  have hl : lv_has ls 2 [(0, .int v0), (1, .int v1)] := hl
  obtain ⟨hx, hb, hml, hown, hts, hr, hlk, hK⟩ := id C
  have hP0 := hP
  delta q_X5_isPlace at hw
  refine lv_iload_n hx hb dX5_isPlace_0 rfl (lv_at hl 0 rfl) ?_
  refine lv_iconst hx hb dX5_isPlace_1 ic_0 ?_
  refine lv_bipush hx hb dX5_isPlace_2 bp_20 ?_
  refine c_i (run_s (As := [.int v0, .int (0 : Int32), .int (20 : Int32)]) (rest := []) C hP hS (c_X5_within hw) gX5_isPlace_X5_within rfl dsX5_within rfl ⟨rfl, rfl⟩ ⟨Nat.le_of_ble_eq_true rfl, Nat.le_of_ble_eq_true rfl⟩ hl.1 rfl (Nat.le_of_ble_eq_true rfl) dX5_isPlace_4 ⟨Nat.le_of_ble_eq_true rfl, Nat.le_of_ble_eq_true rfl⟩) hS (fun r_2 M_1 H locs hw hP hS => ?_)
  refine lv_if_eq (tgt := 24) hx hb dX5_isPlace_7 (by decide) (fun hc => ?_) (fun hc => ?_)
  · have hw := hw.1 hc
    refine lv_iconst hx hb dX5_isPlace_24 ic_0 ?_
    exact r_z C (by decide) hP hS hw dX5_isPlace_25
  · have hw := hw.2 hc
    refine lv_iload_n hx hb dX5_isPlace_10 rfl (lv_at hl 1 rfl) ?_
    refine lv_iconst hx hb dX5_isPlace_11 ic_0 ?_
    refine lv_bipush hx hb dX5_isPlace_12 bp_20 ?_
    refine c_i (run_s (As := [.int v1, .int (0 : Int32), .int (20 : Int32)]) (rest := []) C hP hS (c_X5_within hw) gX5_isPlace_X5_within rfl dsX5_within rfl ⟨rfl, rfl⟩ ⟨Nat.le_of_ble_eq_true rfl, Nat.le_of_ble_eq_true rfl⟩ hl.1 rfl (Nat.le_of_ble_eq_true rfl) dX5_isPlace_14 ⟨Nat.le_of_ble_eq_true rfl, Nat.le_of_ble_eq_true rfl⟩) hS (fun r_4 M_3 H locs hw hP hS => ?_)
    refine lv_if_eq (tgt := 24) hx hb dX5_isPlace_17 (by decide) (fun hc => ?_) (fun hc => ?_)
    · have hw := hw.1 hc
      refine lv_iconst hx hb dX5_isPlace_24 ic_0 ?_
      exact r_z C (by decide) hP hS hw dX5_isPlace_25
    · have hw := hw.2 hc
      refine lv_iconst hx hb dX5_isPlace_20 ic_1 ?_
      refine lv_goto (tgt := 25) hx hb dX5_isPlace_21 (by decide) ?_
      exact r_z C (by decide) hP hS hw dX5_isPlace_25

abbrev rmX5_pair : Room := { frames := 0, cells := 0, slots := 0, locals := 0 }
def q_X5_pair (v0 : Int32) (v1 : Int32) (M : Mem) (Q : Int32 → Mem → Prop) : Prop := Q (((100 : Int32) * v0) + v1) M
theorem dsX5_pair : yX5_pair.cls ≠ "java/lang/invoke/MethodHandle" ∧ yX5_pair.cls ≠ "java/lang/invoke/VarHandle" ∧ (parseMethodDescriptor yX5_pair.desc).map (fun d => d.parameters.length) = some 2 := by decide +kernel
set_option maxRecDepth 100000 in
set_option maxHeartbeats 4000000 in
theorem c_X5_pair {l : Launch} {K : wC} {v0 : Int32} {v1 : Int32} {M : Mem} {Q : Int32 → Mem → Prop} (hw : q_X5_pair v0 v1 M Q) : metI l yX5_pair wsX5_pair rmX5_pair shX 51 K [.int v0, .int v1] M Q := by
  refine met_of (cc := cX5_pair) (maxL := 2) (ret := (some .int)) (own := RX5) (by decide) rfl rfl (Nat.le_of_ble_eq_true rfl) ?_
  intro p e s m below meth c ls C hl hP hS
  have hl : lv_has ls 2 [(0, .int v0), (1, .int v1)] := hl
  obtain ⟨hx, hb, hml, hown, hts, hr, hlk, hK⟩ := id C
  have hP0 := hP
  delta q_X5_pair at hw
  refine lv_bipush hx hb dX5_pair_0 bp_100 ?_
  refine lv_iload_n hx hb dX5_pair_2 rfl (lv_at hl 0 rfl) ?_
  refine lv_imul hx hb dX5_pair_3 ?_
  refine lv_iload_n hx hb dX5_pair_4 rfl (lv_at hl 1 rfl) ?_
  refine lv_iadd hx hb dX5_pair_5 ?_
  exact r_i C hP hS hw dX5_pair_6

theorem kX5_shift_f10 : Cond.fieldLink RX5 10 (TX5 0).1 (TX5 0).2.1 (TX5 0).2.2.1 ∈ wsX5_shift := List.mem_of_getElem? (i := 1) rfl
theorem hX5_shift_X5 : ∀ w ∈ u_ws RX5 TX5 11, w ∈ wsX5_shift := fun _ h => List.mem_cons_of_mem _ (List.mem_append_left _ (List.mem_append_right _ (h)))
theorem kX5_shift_f127 : Cond.fieldLink RX5 127 (TX0 0).1 (TX0 0).2.1 (TX0 0).2.2.1 ∈ wsX5_shift := List.mem_of_getElem? (i := 2) rfl
theorem hX5_shift_X0 : ∀ w ∈ u_ws RX0 TX0 10, w ∈ wsX5_shift := fun _ h => List.mem_cons_of_mem _ (List.mem_append_right _ (h))
theorem kX5_shift_f130 : Cond.fieldLink RX5 130 (TX0 1).1 (TX0 1).2.1 (TX0 1).2.2.1 ∈ wsX5_shift := List.mem_of_getElem? (i := 3) rfl
abbrev rmX5_shift : Room := { frames := 2, cells := 0, slots := 0, locals := 43 }
def q_X5_shift (v1 : Int32) (v2 : Int32) (v3 : Int32) (M : Mem) (Q : Int32 → Mem → Prop) : Prop := q_X5_hasCorner v1 M (fun r_2 M_1 => ((r_2 = 0 → Q (-1 : Int32) M_1) ∧ (¬ r_2 = 0 → q_X5_isPlace v2 v3 M_1 (fun r_4 M_3 => ((¬ r_4 = 0 → vp_in v1 10 ∧ vp_in v1 10 ∧ q_X5_pair (M_3 2 v1.toNatClampNeg) (M_3 3 v1.toNatClampNeg) M_3 (fun r_8 M_7 => q_X0_moveCorner 1 v1 v2 v3 M_7 (fun M_9 => Q r_8 M_9))) ∧ (r_4 = 0 → Q (-1 : Int32) M_3))))))
theorem dsX5_shift : yX5_shift.cls = RX5 ∧ yX5_shift.cls ≠ "java/lang/invoke/MethodHandle" ∧ yX5_shift.cls ≠ "java/lang/invoke/VarHandle" ∧ (parseMethodDescriptor yX5_shift.desc).map (fun d => d.parameters.length) = some 3 := by decide +kernel
set_option maxRecDepth 100000 in
set_option maxHeartbeats 4000000 in
theorem c_X5_shift {l : Launch} {K : wC} {v1 : Int32} {v2 : Int32} {v3 : Int32} {M : Mem} {Q : Int32 → Mem → Prop} (hw : q_X5_shift v1 v2 v3 M Q) : metI l yX5_shift wsX5_shift rmX5_shift shX 51 K [.ref (kb K + 0), .int v1, .int v2, .int v3] M Q := by
  refine met_of (cc := cX5_shift) (maxL := 5) (ret := (some .int)) (own := RX5) (by decide) rfl rfl (Nat.le_of_ble_eq_true rfl) ?_
  intro p e s m below meth c ls C hl hP hS
  have hl : lv_has ls 5 [(0, .ref (kb K + 0)), (1, .int v1), (2, .int v2), (3, .int v3)] := hl
  obtain ⟨hx, hb, hml, hown, hts, hr, hlk, hK⟩ := id C
  have hP0 := hP
  delta q_X5_shift at hw
  refine lv_aload_n hx hb dX5_shift_0 rfl (lv_at hl 0 rfl) ?_
  refine lv_iload_n hx hb dX5_shift_1 rfl (lv_at hl 1 rfl) ?_
  refine c_i (run_v (As := [.int v1]) (rest := []) C hP hS (c_X5_hasCorner hw) gX5_shift_X5_hasCorner rfl dsX5_hasCorner rfl ⟨rfl, rfl⟩ ⟨Nat.le_of_ble_eq_true rfl, Nat.le_of_ble_eq_true rfl⟩ (by decide) (sX_0 K _) rfl hl.1 rfl (Nat.le_of_ble_eq_true rfl) dX5_shift_2 ⟨Nat.le_of_ble_eq_true rfl, Nat.le_of_ble_eq_true rfl⟩) hS (fun r_2 M_1 H locs hw hP hS => ?_)
  refine lv_if_eq (tgt := 16) hx hb dX5_shift_5 (by decide) (fun hc => ?_) (fun hc => ?_)
  · have hw := hw.1 hc
    refine lv_iconst hx hb dX5_shift_16 ic_m1 ?_
    exact r_i C hP hS hw dX5_shift_17
  · have hw := hw.2 hc
    refine lv_iload_n hx hb dX5_shift_8 rfl (lv_at hl 2 rfl) ?_
    refine lv_iload_n hx hb dX5_shift_9 rfl (lv_at hl 3 rfl) ?_
    refine c_i (run_s (As := [.int v2, .int v3]) (rest := []) C hP hS (c_X5_isPlace hw) gX5_shift_X5_isPlace rfl dsX5_isPlace rfl ⟨rfl, rfl⟩ ⟨Nat.le_of_ble_eq_true rfl, Nat.le_of_ble_eq_true rfl⟩ hl.1 rfl (Nat.le_of_ble_eq_true rfl) dX5_shift_10 ⟨Nat.le_of_ble_eq_true rfl, Nat.le_of_ble_eq_true rfl⟩) hS (fun r_4 M_3 H locs hw hP hS => ?_)
    refine lv_if_ne (tgt := 18) hx hb dX5_shift_13 (by decide) (fun hc => ?_) (fun hc => ?_)
    · have hw := hw.1 hc
      refine lv_aload_n hx hb dX5_shift_18 rfl (lv_at hl 0 rfl) ?_
      refine g_f C hP (by decide) (sX_0 K _) rfl hX5_shift_X5 0 (by decide) kX5_shift_f10 rfl dX5_shift_19 ?_
      refine g_f C hP (by decide) (sX_1 K _) rfl hX5_shift_X0 0 (by decide) kX5_shift_f127 rfl dX5_shift_22 ?_
      refine lv_iload_n hx hb dX5_shift_25 rfl (lv_at hl 1 rfl) ?_
      have hi_5 := hw.1
      have hw := hw.2
      refine a_il C hP (by decide) (sX_2 K _) hi_5 rfl dX5_shift_26 ?_
      refine lv_aload_n hx hb dX5_shift_27 rfl (lv_at hl 0 rfl) ?_
      refine g_f C hP (by decide) (sX_0 K _) rfl hX5_shift_X5 0 (by decide) kX5_shift_f10 rfl dX5_shift_28 ?_
      refine g_f C hP (by decide) (sX_1 K _) rfl hX5_shift_X0 1 (by decide) kX5_shift_f130 rfl dX5_shift_31 ?_
      refine lv_iload_n hx hb dX5_shift_34 rfl (lv_at hl 1 rfl) ?_
      have hi_6 := hw.1
      have hw := hw.2
      refine a_il C hP (by decide) (sX_3 K _) hi_6 rfl dX5_shift_35 ?_
      refine c_i (run_s (As := [.int (M_3 2 v1.toNatClampNeg), .int (M_3 3 v1.toNatClampNeg)]) (rest := []) C hP hS (c_X5_pair hw) gX5_shift_X5_pair rfl dsX5_pair rfl ⟨rfl, rfl⟩ ⟨Nat.le_of_ble_eq_true rfl, Nat.le_of_ble_eq_true rfl⟩ hl.1 rfl (Nat.le_of_ble_eq_true rfl) dX5_shift_36 ⟨Nat.le_of_ble_eq_true rfl, Nat.le_of_ble_eq_true rfl⟩) hS (fun r_8 M_7 H locs hw hP hS => ?_)
      refine lv_istore (lv' := [(4, .int r_8), (0, .ref (kb K + 0)), (1, .int v1), (2, .int v2), (3, .int v3)]) hx hb dX5_shift_39 hl (by decide) rfl (fun ls hl => ?_)
      refine lv_aload_n hx hb dX5_shift_41 rfl (lv_at hl 1 rfl) ?_
      refine g_f C hP (by decide) (sX_0 K _) rfl hX5_shift_X5 0 (by decide) kX5_shift_f10 rfl dX5_shift_42 ?_
      refine lv_iload_n hx hb dX5_shift_45 rfl (lv_at hl 2 rfl) ?_
      refine lv_iload_n hx hb dX5_shift_46 rfl (lv_at hl 3 rfl) ?_
      refine lv_iload_n hx hb dX5_shift_47 rfl (lv_at hl 4 rfl) ?_
      refine c_v (run_v (As := [.int v1, .int v2, .int v3]) (rest := []) C hP hS (c_X0_moveCorner lay_1 hw) gX5_shift_X0_moveCorner rfl dsX0_moveCorner rfl ⟨rfl, rfl⟩ ⟨Nat.le_of_ble_eq_true rfl, Nat.le_of_ble_eq_true rfl⟩ (by decide) (sX_1 K _) rfl hl.1 rfl (Nat.le_of_ble_eq_true rfl) dX5_shift_48 ⟨Nat.le_of_ble_eq_true rfl, Nat.le_of_ble_eq_true rfl⟩) hS (fun M_9 H locs hw hP hS => ?_)
      refine lv_iload hx hb dX5_shift_51 (lv_at hl 0 rfl) ?_
      exact r_i C hP hS hw dX5_shift_53
    · have hw := hw.2 hc
      refine lv_iconst hx hb dX5_shift_16 ic_m1 ?_
      exact r_i C hP hS hw dX5_shift_17

theorem kX5_refusalOfCorner_f99 : Cond.fieldLink RX5 99 (TX0 2).1 (TX0 2).2.1 (TX0 2).2.2.1 ∈ wsX5_refusalOfCorner := List.mem_of_getElem? (i := 1) rfl
theorem hX5_refusalOfCorner_X0 : ∀ w ∈ u_ws RX0 TX0 10, w ∈ wsX5_refusalOfCorner := fun _ h => List.mem_cons_of_mem _ (List.mem_append_right _ (h))
abbrev rmX5_refusalOfCorner : Room := { frames := 2, cells := 0, slots := 0, locals := 43 }
def q_X5_refusalOfCorner (o0 : Nat) (v1 : Int32) (v2 : Int32) (M : Mem) (Q : Int32 → Mem → Prop) : Prop := q_X5_isPlace v1 v2 M (fun r_2 M_1 => ((¬ r_2 = 0 → (((M_1 o0 2) < (10 : Int32) → Q (0 : Int32) M_1) ∧ (¬ (M_1 o0 2) < (10 : Int32) → Q (-3 : Int32) M_1))) ∧ (r_2 = 0 → Q (-1 : Int32) M_1)))
theorem dsX5_refusalOfCorner : yX5_refusalOfCorner.cls ≠ "java/lang/invoke/MethodHandle" ∧ yX5_refusalOfCorner.cls ≠ "java/lang/invoke/VarHandle" ∧ (parseMethodDescriptor yX5_refusalOfCorner.desc).map (fun d => d.parameters.length) = some 3 := by decide +kernel
set_option maxRecDepth 100000 in
set_option maxHeartbeats 4000000 in
theorem c_X5_refusalOfCorner {l : Launch} {K : wC} {o0 : Nat} {v1 : Int32} {v2 : Int32} {M : Mem} {Q : Int32 → Mem → Prop} (ho0 : isLay o0) (hw : q_X5_refusalOfCorner o0 v1 v2 M Q) : metI l yX5_refusalOfCorner wsX5_refusalOfCorner rmX5_refusalOfCorner shX 51 K [.ref (kb K + o0), .int v1, .int v2] M Q := by
  refine met_of (cc := cX5_refusalOfCorner) (maxL := 3) (ret := (some .int)) (own := RX5) (by decide) rfl rfl (Nat.le_of_ble_eq_true rfl) ?_
  intro p e s m below meth c ls C hl hP hS
  have hl : lv_has ls 3 [(0, .ref (kb K + o0)), (1, .int v1), (2, .int v2)] := hl
  obtain ⟨hx, hb, hml, hown, hts, hr, hlk, hK⟩ := id C
  have hP0 := hP
  delta q_X5_refusalOfCorner at hw
  refine lv_iload_n hx hb dX5_refusalOfCorner_0 rfl (lv_at hl 1 rfl) ?_
  refine lv_iload_n hx hb dX5_refusalOfCorner_1 rfl (lv_at hl 2 rfl) ?_
  refine c_i (run_s (As := [.int v1, .int v2]) (rest := []) C hP hS (c_X5_isPlace hw) gX5_refusalOfCorner_X5_isPlace rfl dsX5_isPlace rfl ⟨rfl, rfl⟩ ⟨Nat.le_of_ble_eq_true rfl, Nat.le_of_ble_eq_true rfl⟩ hl.1 rfl (Nat.le_of_ble_eq_true rfl) dX5_refusalOfCorner_2 ⟨Nat.le_of_ble_eq_true rfl, Nat.le_of_ble_eq_true rfl⟩) hS (fun r_2 M_1 H locs hw hP hS => ?_)
  refine lv_if_ne (tgt := 10) hx hb dX5_refusalOfCorner_5 (by decide) (fun hc => ?_) (fun hc => ?_)
  · have hw := hw.1 hc
    refine lv_aload_n hx hb dX5_refusalOfCorner_10 rfl (lv_at hl 0 rfl) ?_
    refine g_f C hP (layb0 ho0) (lay0 ho0 K _) rfl hX5_refusalOfCorner_X0 2 (by decide) kX5_refusalOfCorner_f99 rfl dX5_refusalOfCorner_11 ?_
    refine lv_bipush hx hb dX5_refusalOfCorner_14 bp_10 ?_
    refine lv_icmp_lt (tgt := 24) hx hb dX5_refusalOfCorner_16 (by decide) (fun hc => ?_) (fun hc => ?_)
    · have hw := hw.1 hc
      refine lv_iconst hx hb dX5_refusalOfCorner_24 ic_0 ?_
      exact r_i C hP hS hw dX5_refusalOfCorner_25
    · have hw := hw.2 hc
      refine lv_bipush hx hb dX5_refusalOfCorner_19 bp_m3 ?_
      refine lv_goto (tgt := 25) hx hb dX5_refusalOfCorner_21 (by decide) ?_
      exact r_i C hP hS hw dX5_refusalOfCorner_25
  · have hw := hw.2 hc
    refine lv_iconst hx hb dX5_refusalOfCorner_8 ic_m1 ?_
    exact r_i C hP hS hw dX5_refusalOfCorner_9

theorem kX5_add_f10 : Cond.fieldLink RX5 10 (TX5 0).1 (TX5 0).2.1 (TX5 0).2.2.1 ∈ wsX5_add := List.mem_of_getElem? (i := 1) rfl
theorem hX5_add_X5 : ∀ w ∈ u_ws RX5 TX5 11, w ∈ wsX5_add := fun _ h => List.mem_cons_of_mem _ (List.mem_append_left _ (List.mem_append_right _ (h)))
theorem kX5_add_f99 : Cond.fieldLink RX5 99 (TX0 2).1 (TX0 2).2.1 (TX0 2).2.2.1 ∈ wsX5_add := List.mem_of_getElem? (i := 2) rfl
theorem hX5_add_X0 : ∀ w ∈ u_ws RX0 TX0 10, w ∈ wsX5_add := fun _ h => List.mem_cons_of_mem _ (List.mem_append_right _ (h))
abbrev rmX5_add : Room := { frames := 3, cells := 0, slots := 0, locals := 65 }
def q_X5_add (v1 : Int32) (v2 : Int32) (M : Mem) (Q : Int32 → Mem → Prop) : Prop := q_X5_refusalOfCorner 1 v1 v2 M (fun r_2 M_1 => ((r_2 = 0 → q_X0_appendCorner 1 v1 v2 M_1 (fun M_3 => Q (M_3 1 2) M_3)) ∧ (¬ r_2 = 0 → Q r_2 M_1)))
theorem dsX5_add : yX5_add.cls = RX5 ∧ yX5_add.cls ≠ "java/lang/invoke/MethodHandle" ∧ yX5_add.cls ≠ "java/lang/invoke/VarHandle" ∧ (parseMethodDescriptor yX5_add.desc).map (fun d => d.parameters.length) = some 2 := by decide +kernel
set_option maxRecDepth 100000 in
set_option maxHeartbeats 4000000 in
theorem c_X5_add {l : Launch} {K : wC} {v1 : Int32} {v2 : Int32} {M : Mem} {Q : Int32 → Mem → Prop} (hw : q_X5_add v1 v2 M Q) : metI l yX5_add wsX5_add rmX5_add shX 51 K [.ref (kb K + 0), .int v1, .int v2] M Q := by
  refine met_of (cc := cX5_add) (maxL := 4) (ret := (some .int)) (own := RX5) (by decide) rfl rfl (Nat.le_of_ble_eq_true rfl) ?_
  intro p e s m below meth c ls C hl hP hS
  have hl : lv_has ls 4 [(0, .ref (kb K + 0)), (1, .int v1), (2, .int v2)] := hl
  obtain ⟨hx, hb, hml, hown, hts, hr, hlk, hK⟩ := id C
  have hP0 := hP
  delta q_X5_add at hw
  refine lv_aload_n hx hb dX5_add_0 rfl (lv_at hl 0 rfl) ?_
  refine g_f C hP (by decide) (sX_0 K _) rfl hX5_add_X5 0 (by decide) kX5_add_f10 rfl dX5_add_1 ?_
  refine lv_iload_n hx hb dX5_add_4 rfl (lv_at hl 1 rfl) ?_
  refine lv_iload_n hx hb dX5_add_5 rfl (lv_at hl 2 rfl) ?_
  refine c_i (run_s (As := [.ref (kb K + 1), .int v1, .int v2]) (rest := []) C hP hS (c_X5_refusalOfCorner lay_1 hw) gX5_add_X5_refusalOfCorner rfl dsX5_refusalOfCorner rfl ⟨rfl, rfl⟩ ⟨Nat.le_of_ble_eq_true rfl, Nat.le_of_ble_eq_true rfl⟩ hl.1 rfl (Nat.le_of_ble_eq_true rfl) dX5_add_6 ⟨Nat.le_of_ble_eq_true rfl, Nat.le_of_ble_eq_true rfl⟩) hS (fun r_2 M_1 H locs hw hP hS => ?_)
  refine lv_istore_n (lv' := [(3, .int r_2), (0, .ref (kb K + 0)), (1, .int v1), (2, .int v2)]) hx hb dX5_add_9 rfl hl (by decide) rfl (fun ls hl => ?_)
  refine lv_iload_n hx hb dX5_add_10 rfl (lv_at hl 0 rfl) ?_
  refine lv_if_eq (tgt := 16) hx hb dX5_add_11 (by decide) (fun hc => ?_) (fun hc => ?_)
  · have hw := hw.1 hc
    refine lv_aload_n hx hb dX5_add_16 rfl (lv_at hl 1 rfl) ?_
    refine g_f C hP (by decide) (sX_0 K _) rfl hX5_add_X5 0 (by decide) kX5_add_f10 rfl dX5_add_17 ?_
    refine lv_iload_n hx hb dX5_add_20 rfl (lv_at hl 2 rfl) ?_
    refine lv_iload_n hx hb dX5_add_21 rfl (lv_at hl 3 rfl) ?_
    refine c_v (run_v (As := [.int v1, .int v2]) (rest := []) C hP hS (c_X0_appendCorner lay_1 hw) gX5_add_X0_appendCorner rfl dsX0_appendCorner rfl ⟨rfl, rfl⟩ ⟨Nat.le_of_ble_eq_true rfl, Nat.le_of_ble_eq_true rfl⟩ (by decide) (sX_1 K _) rfl hl.1 rfl (Nat.le_of_ble_eq_true rfl) dX5_add_22 ⟨Nat.le_of_ble_eq_true rfl, Nat.le_of_ble_eq_true rfl⟩) hS (fun M_3 H locs hw hP hS => ?_)
    refine lv_aload_n hx hb dX5_add_25 rfl (lv_at hl 1 rfl) ?_
    refine g_f C hP (by decide) (sX_0 K _) rfl hX5_add_X5 0 (by decide) kX5_add_f10 rfl dX5_add_26 ?_
    refine g_f C hP (by decide) (sX_1 K _) rfl hX5_add_X0 2 (by decide) kX5_add_f99 rfl dX5_add_29 ?_
    exact r_i C hP hS hw dX5_add_32
  · have hw := hw.2 hc
    refine lv_iload_n hx hb dX5_add_14 rfl (lv_at hl 0 rfl) ?_
    exact r_i C hP hS hw dX5_add_15

theorem kX5_drop_f10 : Cond.fieldLink RX5 10 (TX5 0).1 (TX5 0).2.1 (TX5 0).2.2.1 ∈ wsX5_drop := List.mem_of_getElem? (i := 1) rfl
theorem hX5_drop_X5 : ∀ w ∈ u_ws RX5 TX5 11, w ∈ wsX5_drop := fun _ h => List.mem_cons_of_mem _ (List.mem_append_left _ (List.mem_append_right _ (h)))
theorem kX5_drop_f99 : Cond.fieldLink RX5 99 (TX0 2).1 (TX0 2).2.1 (TX0 2).2.2.1 ∈ wsX5_drop := List.mem_of_getElem? (i := 2) rfl
theorem hX5_drop_X0 : ∀ w ∈ u_ws RX0 TX0 10, w ∈ wsX5_drop := fun _ h => List.mem_cons_of_mem _ (List.mem_append_right _ (h))
abbrev rmX5_drop : Room := { frames := 1, cells := 0, slots := 0, locals := 22 }
def q_X5_drop (v1 : Int32) (M : Mem) (Q : Int32 → Mem → Prop) : Prop := q_X5_within v1 (0 : Int32) (M 1 2) M (fun r_2 M_1 => ((¬ r_2 = 0 → Q (M_1 1 2) (mU M_1 1 2 v1)) ∧ (r_2 = 0 → Q (-1 : Int32) M_1)))
theorem dsX5_drop : yX5_drop.cls = RX5 ∧ yX5_drop.cls ≠ "java/lang/invoke/MethodHandle" ∧ yX5_drop.cls ≠ "java/lang/invoke/VarHandle" ∧ (parseMethodDescriptor yX5_drop.desc).map (fun d => d.parameters.length) = some 1 := by decide +kernel
set_option maxRecDepth 100000 in
set_option maxHeartbeats 4000000 in
theorem c_X5_drop {l : Launch} {K : wC} {v1 : Int32} {M : Mem} {Q : Int32 → Mem → Prop} (hw : q_X5_drop v1 M Q) : metI l yX5_drop wsX5_drop rmX5_drop shX 51 K [.ref (kb K + 0), .int v1] M Q := by
  refine met_of (cc := cX5_drop) (maxL := 3) (ret := (some .int)) (own := RX5) (by decide) rfl rfl (Nat.le_of_ble_eq_true rfl) ?_
  intro p e s m below meth c ls C hl hP hS
  have hl : lv_has ls 3 [(0, .ref (kb K + 0)), (1, .int v1)] := hl
  obtain ⟨hx, hb, hml, hown, hts, hr, hlk, hK⟩ := id C
  have hP0 := hP
  delta q_X5_drop at hw
  refine lv_iload_n hx hb dX5_drop_0 rfl (lv_at hl 1 rfl) ?_
  refine lv_iconst hx hb dX5_drop_1 ic_0 ?_
  refine lv_aload_n hx hb dX5_drop_2 rfl (lv_at hl 0 rfl) ?_
  refine g_f C hP (by decide) (sX_0 K _) rfl hX5_drop_X5 0 (by decide) kX5_drop_f10 rfl dX5_drop_3 ?_
  refine g_f C hP (by decide) (sX_1 K _) rfl hX5_drop_X0 2 (by decide) kX5_drop_f99 rfl dX5_drop_6 ?_
  refine c_i (run_s (As := [.int v1, .int (0 : Int32), .int (M 1 2)]) (rest := []) C hP hS (c_X5_within hw) gX5_drop_X5_within rfl dsX5_within rfl ⟨rfl, rfl⟩ ⟨Nat.le_of_ble_eq_true rfl, Nat.le_of_ble_eq_true rfl⟩ hl.1 rfl (Nat.le_of_ble_eq_true rfl) dX5_drop_9 ⟨Nat.le_of_ble_eq_true rfl, Nat.le_of_ble_eq_true rfl⟩) hS (fun r_2 M_1 H locs hw hP hS => ?_)
  refine lv_if_ne (tgt := 17) hx hb dX5_drop_12 (by decide) (fun hc => ?_) (fun hc => ?_)
  · have hw := hw.1 hc
    refine lv_aload_n hx hb dX5_drop_17 rfl (lv_at hl 0 rfl) ?_
    refine g_f C hP (by decide) (sX_0 K _) rfl hX5_drop_X5 0 (by decide) kX5_drop_f10 rfl dX5_drop_18 ?_
    refine g_f C hP (by decide) (sX_1 K _) rfl hX5_drop_X0 2 (by decide) kX5_drop_f99 rfl dX5_drop_21 ?_
    refine lv_istore_n (lv' := [(2, .int (M_1 1 2)), (0, .ref (kb K + 0)), (1, .int v1)]) hx hb dX5_drop_24 rfl hl (by decide) rfl (fun ls hl => ?_)
    refine lv_aload_n hx hb dX5_drop_25 rfl (lv_at hl 1 rfl) ?_
    refine g_f C hP (by decide) (sX_0 K _) rfl hX5_drop_X5 0 (by decide) kX5_drop_f10 rfl dX5_drop_26 ?_
    refine lv_iload_n hx hb dX5_drop_29 rfl (lv_at hl 2 rfl) ?_
    refine p_f C hP hS (by decide) (sX_1 K _) (sX_1 K _) rfl hX5_drop_X0 tyX0_ok nmX0 (by decide) kX5_drop_f99 rfl rfl rfl (Nat.le_of_ble_eq_true rfl) dX5_drop_30 (fun H locs hP hS => ?_)
    refine lv_iload_n hx hb dX5_drop_33 rfl (lv_at hl 0 rfl) ?_
    exact r_i C hP hS hw dX5_drop_34
  · have hw := hw.2 hc
    refine lv_iconst hx hb dX5_drop_15 ic_m1 ?_
    exact r_i C hP hS hw dX5_drop_16

theorem kX5_pole_f10 : Cond.fieldLink RX5 10 (TX5 0).1 (TX5 0).2.1 (TX5 0).2.2.1 ∈ wsX5_pole := List.mem_of_getElem? (i := 1) rfl
theorem hX5_pole_X5 : ∀ w ∈ u_ws RX5 TX5 11, w ∈ wsX5_pole := fun _ h => List.mem_cons_of_mem _ (List.mem_append_left _ (List.mem_append_right _ (h)))
theorem kX5_pole_f117 : Cond.fieldLink RX5 117 (TX0 7).1 (TX0 7).2.1 (TX0 7).2.2.1 ∈ wsX5_pole := List.mem_of_getElem? (i := 2) rfl
theorem hX5_pole_X0 : ∀ w ∈ u_ws RX0 TX0 10, w ∈ wsX5_pole := fun _ h => List.mem_cons_of_mem _ (List.mem_append_right _ (h))
theorem kX5_pole_f120 : Cond.fieldLink RX5 120 (TX0 8).1 (TX0 8).2.1 (TX0 8).2.2.1 ∈ wsX5_pole := List.mem_of_getElem? (i := 3) rfl
abbrev rmX5_pole : Room := { frames := 2, cells := 0, slots := 0, locals := 43 }
def q_X5_pole (v1 : Int32) (v2 : Int32) (M : Mem) (Q : Int32 → Mem → Prop) : Prop := q_X5_isPlace v1 v2 M (fun r_2 M_1 => ((¬ r_2 = 0 → q_X5_pair (M_1 1 7) (M_1 1 8) M_1 (fun r_4 M_3 => q_X0_movePole 1 v1 v2 M_3 (fun M_5 => Q r_4 M_5))) ∧ (r_2 = 0 → Q (-1 : Int32) M_1)))
theorem dsX5_pole : yX5_pole.cls = RX5 ∧ yX5_pole.cls ≠ "java/lang/invoke/MethodHandle" ∧ yX5_pole.cls ≠ "java/lang/invoke/VarHandle" ∧ (parseMethodDescriptor yX5_pole.desc).map (fun d => d.parameters.length) = some 2 := by decide +kernel
set_option maxRecDepth 100000 in
set_option maxHeartbeats 4000000 in
theorem c_X5_pole {l : Launch} {K : wC} {v1 : Int32} {v2 : Int32} {M : Mem} {Q : Int32 → Mem → Prop} (hw : q_X5_pole v1 v2 M Q) : metI l yX5_pole wsX5_pole rmX5_pole shX 51 K [.ref (kb K + 0), .int v1, .int v2] M Q := by
  refine met_of (cc := cX5_pole) (maxL := 4) (ret := (some .int)) (own := RX5) (by decide) rfl rfl (Nat.le_of_ble_eq_true rfl) ?_
  intro p e s m below meth c ls C hl hP hS
  have hl : lv_has ls 4 [(0, .ref (kb K + 0)), (1, .int v1), (2, .int v2)] := hl
  obtain ⟨hx, hb, hml, hown, hts, hr, hlk, hK⟩ := id C
  have hP0 := hP
  delta q_X5_pole at hw
  refine lv_iload_n hx hb dX5_pole_0 rfl (lv_at hl 1 rfl) ?_
  refine lv_iload_n hx hb dX5_pole_1 rfl (lv_at hl 2 rfl) ?_
  refine c_i (run_s (As := [.int v1, .int v2]) (rest := []) C hP hS (c_X5_isPlace hw) gX5_pole_X5_isPlace rfl dsX5_isPlace rfl ⟨rfl, rfl⟩ ⟨Nat.le_of_ble_eq_true rfl, Nat.le_of_ble_eq_true rfl⟩ hl.1 rfl (Nat.le_of_ble_eq_true rfl) dX5_pole_2 ⟨Nat.le_of_ble_eq_true rfl, Nat.le_of_ble_eq_true rfl⟩) hS (fun r_2 M_1 H locs hw hP hS => ?_)
  refine lv_if_ne (tgt := 10) hx hb dX5_pole_5 (by decide) (fun hc => ?_) (fun hc => ?_)
  · have hw := hw.1 hc
    refine lv_aload_n hx hb dX5_pole_10 rfl (lv_at hl 0 rfl) ?_
    refine g_f C hP (by decide) (sX_0 K _) rfl hX5_pole_X5 0 (by decide) kX5_pole_f10 rfl dX5_pole_11 ?_
    refine g_f C hP (by decide) (sX_1 K _) rfl hX5_pole_X0 7 (by decide) kX5_pole_f117 rfl dX5_pole_14 ?_
    refine lv_aload_n hx hb dX5_pole_17 rfl (lv_at hl 0 rfl) ?_
    refine g_f C hP (by decide) (sX_0 K _) rfl hX5_pole_X5 0 (by decide) kX5_pole_f10 rfl dX5_pole_18 ?_
    refine g_f C hP (by decide) (sX_1 K _) rfl hX5_pole_X0 8 (by decide) kX5_pole_f120 rfl dX5_pole_21 ?_
    refine c_i (run_s (As := [.int (M_1 1 7), .int (M_1 1 8)]) (rest := []) C hP hS (c_X5_pair hw) gX5_pole_X5_pair rfl dsX5_pair rfl ⟨rfl, rfl⟩ ⟨Nat.le_of_ble_eq_true rfl, Nat.le_of_ble_eq_true rfl⟩ hl.1 rfl (Nat.le_of_ble_eq_true rfl) dX5_pole_24 ⟨Nat.le_of_ble_eq_true rfl, Nat.le_of_ble_eq_true rfl⟩) hS (fun r_4 M_3 H locs hw hP hS => ?_)
    refine lv_istore_n (lv' := [(3, .int r_4), (0, .ref (kb K + 0)), (1, .int v1), (2, .int v2)]) hx hb dX5_pole_27 rfl hl (by decide) rfl (fun ls hl => ?_)
    refine lv_aload_n hx hb dX5_pole_28 rfl (lv_at hl 1 rfl) ?_
    refine g_f C hP (by decide) (sX_0 K _) rfl hX5_pole_X5 0 (by decide) kX5_pole_f10 rfl dX5_pole_29 ?_
    refine lv_iload_n hx hb dX5_pole_32 rfl (lv_at hl 2 rfl) ?_
    refine lv_iload_n hx hb dX5_pole_33 rfl (lv_at hl 3 rfl) ?_
    refine c_v (run_v (As := [.int v1, .int v2]) (rest := []) C hP hS (c_X0_movePole lay_1 hw) gX5_pole_X0_movePole rfl dsX0_movePole rfl ⟨rfl, rfl⟩ ⟨Nat.le_of_ble_eq_true rfl, Nat.le_of_ble_eq_true rfl⟩ (by decide) (sX_1 K _) rfl hl.1 rfl (Nat.le_of_ble_eq_true rfl) dX5_pole_34 ⟨Nat.le_of_ble_eq_true rfl, Nat.le_of_ble_eq_true rfl⟩) hS (fun M_5 H locs hw hP hS => ?_)
    refine lv_iload_n hx hb dX5_pole_37 rfl (lv_at hl 0 rfl) ?_
    exact r_i C hP hS hw dX5_pole_38
  · have hw := hw.2 hc
    refine lv_iconst hx hb dX5_pole_8 ic_m1 ?_
    exact r_i C hP hS hw dX5_pole_9

theorem kX5_trace_f10 : Cond.fieldLink RX5 10 (TX5 0).1 (TX5 0).2.1 (TX5 0).2.2.1 ∈ wsX5_trace := List.mem_of_getElem? (i := 1) rfl
theorem hX5_trace_X5 : ∀ w ∈ u_ws RX5 TX5 11, w ∈ wsX5_trace := fun _ h => List.mem_cons_of_mem _ (List.mem_append_left _ (List.mem_append_right _ (h)))
theorem kX5_trace_f105 : Cond.fieldLink RX5 105 (TX0 9).1 (TX0 9).2.1 (TX0 9).2.2.1 ∈ wsX5_trace := List.mem_of_getElem? (i := 2) rfl
theorem hX5_trace_X0 : ∀ w ∈ u_ws RX0 TX0 10, w ∈ wsX5_trace := fun _ h => List.mem_cons_of_mem _ (List.mem_append_right _ (h))
abbrev rmX5_trace : Room := { frames := 5, cells := 0, slots := 0, locals := 110 }
abbrev t_X5_trace : Type := (Int32 → Int32 → Int32 → Mem → Prop)
def f_X5_trace_34 (Q : Int32 → Mem → Prop) (r : t_X5_trace) (v1 : Int32) (v2 : Int32) (v3 : Int32) (M : Mem) : Prop := ((v1 ≤ v3 → Q v2 M) ∧ (¬ v1 ≤ v3 → q_X0_sweepAhead 1 (0 : Int32) M (fun r_4 M_3 => q_X0_rollAll 1 r_4 M_3 (fun r_6 M_5 => r v1 (v2 + r_6) (v3 + 1) (mU M_5 1 9 ((M_5 1 9) + (1 : Int32)))))))
def p_X5_trace (Q : Int32 → Mem → Prop) : Nat → t_X5_trace
  | 0 => fun _ _ _ _ => False
  | n + 1 => f_X5_trace_34 Q (p_X5_trace Q n)
def e_X5_trace (v1 : Int32) (Q : Int32 → Mem → Prop) (r : t_X5_trace) (M : Mem) : Prop := q_X5_within v1 (0 : Int32) (100 : Int32) M (fun r_2 M_1 => ((¬ r_2 = 0 → ((((M_1 1 9) + v1) < (10000 : Int32) → r v1 (0 : Int32) (0 : Int32) M_1) ∧ (¬ ((M_1 1 9) + v1) < (10000 : Int32) → Q (-3 : Int32) M_1))) ∧ (r_2 = 0 → Q (-1 : Int32) M_1)))
def q_X5_trace (v1 : Int32) (M : Mem) (Q : Int32 → Mem → Prop) : Prop := ∃ n : Nat, e_X5_trace v1 Q (p_X5_trace Q n) M
set_option maxRecDepth 100000 in
set_option maxHeartbeats 4000000 in
theorem b_X5_trace {l : Launch} {K : wC} {Q : Int32 → Mem → Prop} {p : Program} {e : Env} {s : State} {m : MethodId} {args : Array Value} {below : List Frame} {meth : Method} {c : Code} (C : cx 51 K p s m args meth c cX5_trace 4 wsX5_trace RX5 (some .int)) : ∀ n : Nat, (∀ (v1 : Int32) (v2 : Int32) (v3 : Int32) (M : Mem) (H : Heap) (locs : List Loc) (ls : Array Slot), (p_X5_trace Q n) v1 v2 v3 M → wP shX 51 K M H → va_S (wA 51 K) s.heap H locs → lv_has ls 4 [(0, .ref (kb K + 0)), (1, .int v1), (2, .int v2), (3, .int v3)] → W p l e rmX5_trace s m args below meth c H locs 0 0 (MQ below (va_Qi Q (wE shX 51 K) (wA 51 K)) args s 0 0 (wA 51 K)) (F0 m 34 ls [])) := by
  obtain ⟨hx, hb, hml, hown, hts, hr, hlk, hK⟩ := id C
  intro n
  induction n with
  | zero => exact fun _ _ _ _ _ _ _ hw _ _ _ => False.elim hw
  | succ n ih =>
    intro v1 v2 v3 M H locs ls hw hP hS hl
    have hw : f_X5_trace_34 Q (p_X5_trace Q n) v1 v2 v3 M := hw
    delta f_X5_trace_34 at hw
    refine lv_iload_n hx hb dX5_trace_34 rfl (lv_at hl 3 rfl) ?_
    refine lv_iload_n hx hb dX5_trace_35 rfl (lv_at hl 1 rfl) ?_
    refine lv_icmp_ge (tgt := 76) hx hb dX5_trace_36 (by decide) (fun hc => ?_) (fun hc => ?_)
    · have hw := hw.1 hc
      refine lv_iload_n hx hb dX5_trace_76 rfl (lv_at hl 2 rfl) ?_
      exact r_i C hP hS hw dX5_trace_77
    · have hw := hw.2 hc
      refine lv_iload_n hx hb dX5_trace_39 rfl (lv_at hl 2 rfl) ?_
      refine lv_aload_n hx hb dX5_trace_40 rfl (lv_at hl 0 rfl) ?_
      refine g_f C hP (by decide) (sX_0 K _) rfl hX5_trace_X5 0 (by decide) kX5_trace_f10 rfl dX5_trace_41 ?_
      refine lv_aload_n hx hb dX5_trace_44 rfl (lv_at hl 0 rfl) ?_
      refine g_f C hP (by decide) (sX_0 K _) rfl hX5_trace_X5 0 (by decide) kX5_trace_f10 rfl dX5_trace_45 ?_
      refine lv_iconst hx hb dX5_trace_48 ic_0 ?_
      refine c_i (run_v (As := [.int (0 : Int32)]) (rest := [.ref (kb K + 1), .int v2]) C hP hS (c_X0_sweepAhead lay_1 hw) gX5_trace_X0_sweepAhead rfl dsX0_sweepAhead rfl ⟨rfl, rfl⟩ ⟨Nat.le_of_ble_eq_true rfl, Nat.le_of_ble_eq_true rfl⟩ (by decide) (sX_1 K _) rfl hl.1 rfl (Nat.le_of_ble_eq_true rfl) dX5_trace_49 ⟨Nat.le_of_ble_eq_true rfl, Nat.le_of_ble_eq_true rfl⟩) hS (fun r_4 M_3 H locs hw hP hS => ?_)
      refine c_i (run_v (As := [.int r_4]) (rest := [.int v2]) C hP hS (c_X0_rollAll lay_1 hw) gX5_trace_X0_rollAll rfl dsX0_rollAll rfl ⟨rfl, rfl⟩ ⟨Nat.le_of_ble_eq_true rfl, Nat.le_of_ble_eq_true rfl⟩ (by decide) (sX_1 K _) rfl hl.1 rfl (Nat.le_of_ble_eq_true rfl) dX5_trace_52 ⟨Nat.le_of_ble_eq_true rfl, Nat.le_of_ble_eq_true rfl⟩) hS (fun r_6 M_5 H locs hw hP hS => ?_)
      refine lv_iadd hx hb dX5_trace_55 ?_
      refine lv_istore_n (lv' := [(2, .int (v2 + r_6)), (0, .ref (kb K + 0)), (1, .int v1), (3, .int v3)]) hx hb dX5_trace_56 rfl hl (by decide) rfl (fun ls hl => ?_)
      refine lv_aload_n hx hb dX5_trace_57 rfl (lv_at hl 1 rfl) ?_
      refine g_f C hP (by decide) (sX_0 K _) rfl hX5_trace_X5 0 (by decide) kX5_trace_f10 rfl dX5_trace_58 ?_
      refine lv_dup hx hb dX5_trace_61 rfl ?_
      refine g_f C hP (by decide) (sX_1 K _) rfl hX5_trace_X0 9 (by decide) kX5_trace_f105 rfl dX5_trace_62 ?_
      refine lv_iconst hx hb dX5_trace_65 ic_1 ?_
      refine lv_iadd hx hb dX5_trace_66 ?_
      refine p_f C hP hS (by decide) (sX_1 K _) (sX_1 K _) rfl hX5_trace_X0 tyX0_ok nmX0 (by decide) kX5_trace_f105 rfl rfl rfl (Nat.le_of_ble_eq_true rfl) dX5_trace_67 (fun H locs hP hS => ?_)
      refine lv_iinc (v := (v3 + 1)) (lv' := [(3, .int (v3 + 1)), (2, .int (v2 + r_6)), (0, .ref (kb K + 0)), (1, .int v1)]) hx hb dX5_trace_70 hl (k := 3) rfl (by rw [ic_1]) (by decide) rfl (fun ls hl => ?_)
      refine lv_goto (tgt := 34) hx hb dX5_trace_73 (by decide) ?_
      exact ih _ _ _ _ _ _ _ hw hP hS (lv_sub hl [2, 3, 1, 0] rfl)
theorem dsX5_trace : yX5_trace.cls = RX5 ∧ yX5_trace.cls ≠ "java/lang/invoke/MethodHandle" ∧ yX5_trace.cls ≠ "java/lang/invoke/VarHandle" ∧ (parseMethodDescriptor yX5_trace.desc).map (fun d => d.parameters.length) = some 1 := by decide +kernel
set_option maxRecDepth 100000 in
set_option maxHeartbeats 4000000 in
theorem c_X5_trace {l : Launch} {K : wC} {v1 : Int32} {M : Mem} {Q : Int32 → Mem → Prop} (hw : q_X5_trace v1 M Q) : metI l yX5_trace wsX5_trace rmX5_trace shX 51 K [.ref (kb K + 0), .int v1] M Q := by
  refine met_of (cc := cX5_trace) (maxL := 4) (ret := (some .int)) (own := RX5) (by decide) rfl rfl (Nat.le_of_ble_eq_true rfl) ?_
  intro p e s m below meth c ls C hl hP hS
  have hl : lv_has ls 4 [(0, .ref (kb K + 0)), (1, .int v1)] := hl
  obtain ⟨hx, hb, hml, hown, hts, hr, hlk, hK⟩ := id C
  have hP0 := hP
  obtain ⟨n, hw⟩ := hw
  have ih := b_X5_trace (l := l) (e := e) (below := below) (Q := Q) C n
  delta e_X5_trace at hw
  refine lv_iload_n hx hb dX5_trace_0 rfl (lv_at hl 1 rfl) ?_
  refine lv_iconst hx hb dX5_trace_1 ic_0 ?_
  refine lv_bipush hx hb dX5_trace_2 bp_100 ?_
  refine c_i (run_s (As := [.int v1, .int (0 : Int32), .int (100 : Int32)]) (rest := []) C hP hS (c_X5_within hw) gX5_trace_X5_within rfl dsX5_within rfl ⟨rfl, rfl⟩ ⟨Nat.le_of_ble_eq_true rfl, Nat.le_of_ble_eq_true rfl⟩ hl.1 rfl (Nat.le_of_ble_eq_true rfl) dX5_trace_4 ⟨Nat.le_of_ble_eq_true rfl, Nat.le_of_ble_eq_true rfl⟩) hS (fun r_2 M_1 H locs hw hP hS => ?_)
  refine lv_if_ne (tgt := 12) hx hb dX5_trace_7 (by decide) (fun hc => ?_) (fun hc => ?_)
  · have hw := hw.1 hc
    refine lv_aload_n hx hb dX5_trace_12 rfl (lv_at hl 0 rfl) ?_
    refine g_f C hP (by decide) (sX_0 K _) rfl hX5_trace_X5 0 (by decide) kX5_trace_f10 rfl dX5_trace_13 ?_
    refine g_f C hP (by decide) (sX_1 K _) rfl hX5_trace_X0 9 (by decide) kX5_trace_f105 rfl dX5_trace_16 ?_
    refine lv_iload_n hx hb dX5_trace_19 rfl (lv_at hl 1 rfl) ?_
    refine lv_iadd hx hb dX5_trace_20 ?_
    refine lv_sipush hx hb dX5_trace_21 sp_10000 ?_
    refine lv_icmp_lt (tgt := 30) hx hb dX5_trace_24 (by decide) (fun hc => ?_) (fun hc => ?_)
    · have hw := hw.1 hc
      refine lv_iconst hx hb dX5_trace_30 ic_0 ?_
      refine lv_istore_n (lv' := [(2, .int (0 : Int32)), (0, .ref (kb K + 0)), (1, .int v1)]) hx hb dX5_trace_31 rfl hl (by decide) rfl (fun ls hl => ?_)
      refine lv_iconst hx hb dX5_trace_32 ic_0 ?_
      refine lv_istore_n (lv' := [(3, .int (0 : Int32)), (2, .int (0 : Int32)), (0, .ref (kb K + 0)), (1, .int v1)]) hx hb dX5_trace_33 rfl hl (by decide) rfl (fun ls hl => ?_)
      exact ih _ _ _ _ _ _ _ hw hP hS (lv_sub hl [2, 3, 1, 0] rfl)
    · have hw := hw.2 hc
      refine lv_bipush hx hb dX5_trace_27 bp_m3 ?_
      exact r_i C hP hS hw dX5_trace_29
  · have hw := hw.2 hc
    refine lv_iconst hx hb dX5_trace_10 ic_m1 ?_
    exact r_i C hP hS hw dX5_trace_11

theorem kX5_rolledAhead_f10 : Cond.fieldLink RX5 10 (TX5 0).1 (TX5 0).2.1 (TX5 0).2.2.1 ∈ wsX5_rolledAhead := List.mem_of_getElem? (i := 1) rfl
theorem hX5_rolledAhead_X5 : ∀ w ∈ u_ws RX5 TX5 11, w ∈ wsX5_rolledAhead := fun _ h => List.mem_cons_of_mem _ (List.mem_append_left _ (List.mem_append_right _ (h)))
abbrev rmX5_rolledAhead : Room := { frames := 4, cells := 0, slots := 0, locals := 88 }
abbrev t_X5_rolledAhead : Type := (Int32 → Int32 → Int32 → Mem → Prop)
def f_X5_rolledAhead_4 (Q : Int32 → Mem → Prop) (r : t_X5_rolledAhead) (v1 : Int32) (v2 : Int32) (v3 : Int32) (M : Mem) : Prop := ((v1 ≤ v3 → Q v2 M) ∧ (¬ v1 ≤ v3 → q_X0_sweepAhead 1 v3 M (fun r_2 M_1 => q_X0_rolledByAll 1 r_2 M_1 (fun r_4 M_3 => r v1 (v2 + r_4) (v3 + 1) M_3))))
def p_X5_rolledAhead (Q : Int32 → Mem → Prop) : Nat → t_X5_rolledAhead
  | 0 => fun _ _ _ _ => False
  | n + 1 => f_X5_rolledAhead_4 Q (p_X5_rolledAhead Q n)
def e_X5_rolledAhead (v1 : Int32) (Q : Int32 → Mem → Prop) (r : t_X5_rolledAhead) (M : Mem) : Prop := r v1 (0 : Int32) (0 : Int32) M
def q_X5_rolledAhead (v1 : Int32) (M : Mem) (Q : Int32 → Mem → Prop) : Prop := ∃ n : Nat, e_X5_rolledAhead v1 Q (p_X5_rolledAhead Q n) M
set_option maxRecDepth 100000 in
set_option maxHeartbeats 4000000 in
theorem b_X5_rolledAhead {l : Launch} {K : wC} {Q : Int32 → Mem → Prop} {p : Program} {e : Env} {s : State} {m : MethodId} {args : Array Value} {below : List Frame} {meth : Method} {c : Code} (C : cx 51 K p s m args meth c cX5_rolledAhead 4 wsX5_rolledAhead RX5 (some .int)) : ∀ n : Nat, (∀ (v1 : Int32) (v2 : Int32) (v3 : Int32) (M : Mem) (H : Heap) (locs : List Loc) (ls : Array Slot), (p_X5_rolledAhead Q n) v1 v2 v3 M → wP shX 51 K M H → va_S (wA 51 K) s.heap H locs → lv_has ls 4 [(0, .ref (kb K + 0)), (1, .int v1), (2, .int v2), (3, .int v3)] → W p l e rmX5_rolledAhead s m args below meth c H locs 0 0 (MQ below (va_Qi Q (wE shX 51 K) (wA 51 K)) args s 0 0 (wA 51 K)) (F0 m 4 ls [])) := by
  obtain ⟨hx, hb, hml, hown, hts, hr, hlk, hK⟩ := id C
  intro n
  induction n with
  | zero => exact fun _ _ _ _ _ _ _ hw _ _ _ => False.elim hw
  | succ n ih =>
    intro v1 v2 v3 M H locs ls hw hP hS hl
    have hw : f_X5_rolledAhead_4 Q (p_X5_rolledAhead Q n) v1 v2 v3 M := hw
    delta f_X5_rolledAhead_4 at hw
    refine lv_iload_n hx hb dX5_rolledAhead_4 rfl (lv_at hl 3 rfl) ?_
    refine lv_iload_n hx hb dX5_rolledAhead_5 rfl (lv_at hl 1 rfl) ?_
    refine lv_icmp_ge (tgt := 33) hx hb dX5_rolledAhead_6 (by decide) (fun hc => ?_) (fun hc => ?_)
    · have hw := hw.1 hc
      refine lv_iload_n hx hb dX5_rolledAhead_33 rfl (lv_at hl 2 rfl) ?_
      exact r_i C hP hS hw dX5_rolledAhead_34
    · have hw := hw.2 hc
      refine lv_iload_n hx hb dX5_rolledAhead_9 rfl (lv_at hl 2 rfl) ?_
      refine lv_aload_n hx hb dX5_rolledAhead_10 rfl (lv_at hl 0 rfl) ?_
      refine g_f C hP (by decide) (sX_0 K _) rfl hX5_rolledAhead_X5 0 (by decide) kX5_rolledAhead_f10 rfl dX5_rolledAhead_11 ?_
      refine lv_aload_n hx hb dX5_rolledAhead_14 rfl (lv_at hl 0 rfl) ?_
      refine g_f C hP (by decide) (sX_0 K _) rfl hX5_rolledAhead_X5 0 (by decide) kX5_rolledAhead_f10 rfl dX5_rolledAhead_15 ?_
      refine lv_iload_n hx hb dX5_rolledAhead_18 rfl (lv_at hl 3 rfl) ?_
      refine c_i (run_v (As := [.int v3]) (rest := [.ref (kb K + 1), .int v2]) C hP hS (c_X0_sweepAhead lay_1 hw) gX5_rolledAhead_X0_sweepAhead rfl dsX0_sweepAhead rfl ⟨rfl, rfl⟩ ⟨Nat.le_of_ble_eq_true rfl, Nat.le_of_ble_eq_true rfl⟩ (by decide) (sX_1 K _) rfl hl.1 rfl (Nat.le_of_ble_eq_true rfl) dX5_rolledAhead_19 ⟨Nat.le_of_ble_eq_true rfl, Nat.le_of_ble_eq_true rfl⟩) hS (fun r_2 M_1 H locs hw hP hS => ?_)
      refine c_i (run_v (As := [.int r_2]) (rest := [.int v2]) C hP hS (c_X0_rolledByAll lay_1 hw) gX5_rolledAhead_X0_rolledByAll rfl dsX0_rolledByAll rfl ⟨rfl, rfl⟩ ⟨Nat.le_of_ble_eq_true rfl, Nat.le_of_ble_eq_true rfl⟩ (by decide) (sX_1 K _) rfl hl.1 rfl (Nat.le_of_ble_eq_true rfl) dX5_rolledAhead_22 ⟨Nat.le_of_ble_eq_true rfl, Nat.le_of_ble_eq_true rfl⟩) hS (fun r_4 M_3 H locs hw hP hS => ?_)
      refine lv_iadd hx hb dX5_rolledAhead_25 ?_
      refine lv_istore_n (lv' := [(2, .int (v2 + r_4)), (0, .ref (kb K + 0)), (1, .int v1), (3, .int v3)]) hx hb dX5_rolledAhead_26 rfl hl (by decide) rfl (fun ls hl => ?_)
      refine lv_iinc (v := (v3 + 1)) (lv' := [(3, .int (v3 + 1)), (2, .int (v2 + r_4)), (0, .ref (kb K + 0)), (1, .int v1)]) hx hb dX5_rolledAhead_27 hl (k := 3) rfl (by rw [ic_1]) (by decide) rfl (fun ls hl => ?_)
      refine lv_goto (tgt := 4) hx hb dX5_rolledAhead_30 (by decide) ?_
      exact ih _ _ _ _ _ _ _ hw hP hS (lv_sub hl [2, 3, 1, 0] rfl)
theorem dsX5_rolledAhead : yX5_rolledAhead.cls = RX5 ∧ yX5_rolledAhead.cls ≠ "java/lang/invoke/MethodHandle" ∧ yX5_rolledAhead.cls ≠ "java/lang/invoke/VarHandle" ∧ (parseMethodDescriptor yX5_rolledAhead.desc).map (fun d => d.parameters.length) = some 1 := by decide +kernel
set_option maxRecDepth 100000 in
set_option maxHeartbeats 4000000 in
theorem c_X5_rolledAhead {l : Launch} {K : wC} {v1 : Int32} {M : Mem} {Q : Int32 → Mem → Prop} (hw : q_X5_rolledAhead v1 M Q) : metI l yX5_rolledAhead wsX5_rolledAhead rmX5_rolledAhead shX 51 K [.ref (kb K + 0), .int v1] M Q := by
  refine met_of (cc := cX5_rolledAhead) (maxL := 4) (ret := (some .int)) (own := RX5) (by decide) rfl rfl (Nat.le_of_ble_eq_true rfl) ?_
  intro p e s m below meth c ls C hl hP hS
  have hl : lv_has ls 4 [(0, .ref (kb K + 0)), (1, .int v1)] := hl
  obtain ⟨hx, hb, hml, hown, hts, hr, hlk, hK⟩ := id C
  have hP0 := hP
  obtain ⟨n, hw⟩ := hw
  have ih := b_X5_rolledAhead (l := l) (e := e) (below := below) (Q := Q) C n
  delta e_X5_rolledAhead at hw
  refine lv_iconst hx hb dX5_rolledAhead_0 ic_0 ?_
  refine lv_istore_n (lv' := [(2, .int (0 : Int32)), (0, .ref (kb K + 0)), (1, .int v1)]) hx hb dX5_rolledAhead_1 rfl hl (by decide) rfl (fun ls hl => ?_)
  refine lv_iconst hx hb dX5_rolledAhead_2 ic_0 ?_
  refine lv_istore_n (lv' := [(3, .int (0 : Int32)), (2, .int (0 : Int32)), (0, .ref (kb K + 0)), (1, .int v1)]) hx hb dX5_rolledAhead_3 rfl hl (by decide) rfl (fun ls hl => ?_)
  exact ih _ _ _ _ _ _ _ hw hP hS (lv_sub hl [2, 3, 1, 0] rfl)

theorem kX5_idleAhead_f10 : Cond.fieldLink RX5 10 (TX5 0).1 (TX5 0).2.1 (TX5 0).2.2.1 ∈ wsX5_idleAhead := List.mem_of_getElem? (i := 1) rfl
theorem hX5_idleAhead_X5 : ∀ w ∈ u_ws RX5 TX5 11, w ∈ wsX5_idleAhead := fun _ h => List.mem_cons_of_mem _ (List.mem_append_left _ (List.mem_append_right _ (h)))
theorem kX5_idleAhead_f99 : Cond.fieldLink RX5 99 (TX0 2).1 (TX0 2).2.1 (TX0 2).2.2.1 ∈ wsX5_idleAhead := List.mem_of_getElem? (i := 2) rfl
theorem hX5_idleAhead_X0 : ∀ w ∈ u_ws RX0 TX0 10, w ∈ wsX5_idleAhead := fun _ h => List.mem_cons_of_mem _ (List.mem_append_right _ (h))
abbrev rmX5_idleAhead : Room := { frames := 4, cells := 0, slots := 0, locals := 87 }
abbrev t_X5_idleAhead : Type := (Int32 → Int32 → Int32 → Mem → Prop) × (Int32 → Int32 → Int32 → Mem → Prop)
def f_X5_idleAhead_16 (Q : Int32 → Mem → Prop) (r : t_X5_idleAhead) (v1 : Int32) (v2 : Int32) (v3 : Int32) (M : Mem) : Prop := ((v1 ≤ v3 → Q v2 M) ∧ (¬ v1 ≤ v3 → q_X0_sweepAhead 1 v3 M (fun r_2 M_1 => q_X0_someWheelRests 1 r_2 M_1 (fun r_4 M_3 => ((r_4 = 0 → r.2 v1 v2 v3 M_3) ∧ (¬ r_4 = 0 → r.2 v1 (v2 + 1) v3 M_3))))))
def f_X5_idleAhead_42 (Q : Int32 → Mem → Prop) (r : t_X5_idleAhead) (v1 : Int32) (v2 : Int32) (v3 : Int32) (M : Mem) : Prop := r.1 v1 v2 (v3 + 1) M
def p_X5_idleAhead (Q : Int32 → Mem → Prop) : Nat → t_X5_idleAhead
  | 0 => (fun _ _ _ _ => False, fun _ _ _ _ => False)
  | n + 1 => (f_X5_idleAhead_16 Q (p_X5_idleAhead Q n), f_X5_idleAhead_42 Q (p_X5_idleAhead Q n))
def e_X5_idleAhead (v1 : Int32) (Q : Int32 → Mem → Prop) (r : t_X5_idleAhead) (M : Mem) : Prop := ((¬ (M 1 2) = 0 → r.1 v1 (0 : Int32) (0 : Int32) M) ∧ ((M 1 2) = 0 → Q (0 : Int32) M))
def q_X5_idleAhead (v1 : Int32) (M : Mem) (Q : Int32 → Mem → Prop) : Prop := ∃ n : Nat, e_X5_idleAhead v1 Q (p_X5_idleAhead Q n) M
set_option maxRecDepth 100000 in
set_option maxHeartbeats 4000000 in
theorem b_X5_idleAhead {l : Launch} {K : wC} {Q : Int32 → Mem → Prop} {p : Program} {e : Env} {s : State} {m : MethodId} {args : Array Value} {below : List Frame} {meth : Method} {c : Code} (C : cx 51 K p s m args meth c cX5_idleAhead 4 wsX5_idleAhead RX5 (some .int)) : ∀ n : Nat, (∀ (v1 : Int32) (v2 : Int32) (v3 : Int32) (M : Mem) (H : Heap) (locs : List Loc) (ls : Array Slot), (p_X5_idleAhead Q n).1 v1 v2 v3 M → wP shX 51 K M H → va_S (wA 51 K) s.heap H locs → lv_has ls 4 [(0, .ref (kb K + 0)), (1, .int v1), (2, .int v2), (3, .int v3)] → W p l e rmX5_idleAhead s m args below meth c H locs 0 0 (MQ below (va_Qi Q (wE shX 51 K) (wA 51 K)) args s 0 0 (wA 51 K)) (F0 m 16 ls [])) ∧ (∀ (v1 : Int32) (v2 : Int32) (v3 : Int32) (M : Mem) (H : Heap) (locs : List Loc) (ls : Array Slot), (p_X5_idleAhead Q n).2 v1 v2 v3 M → wP shX 51 K M H → va_S (wA 51 K) s.heap H locs → lv_has ls 4 [(0, .ref (kb K + 0)), (1, .int v1), (2, .int v2), (3, .int v3)] → W p l e rmX5_idleAhead s m args below meth c H locs 0 0 (MQ below (va_Qi Q (wE shX 51 K) (wA 51 K)) args s 0 0 (wA 51 K)) (F0 m 42 ls [])) := by
  obtain ⟨hx, hb, hml, hown, hts, hr, hlk, hK⟩ := id C
  intro n
  induction n with
  | zero => exact ⟨fun _ _ _ _ _ _ _ hw _ _ _ => False.elim hw, fun _ _ _ _ _ _ _ hw _ _ _ => False.elim hw⟩
  | succ n ih =>
    refine ⟨?_, ?_⟩
    · intro v1 v2 v3 M H locs ls hw hP hS hl
      have hw : f_X5_idleAhead_16 Q (p_X5_idleAhead Q n) v1 v2 v3 M := hw
      delta f_X5_idleAhead_16 at hw
      refine lv_iload_n hx hb dX5_idleAhead_16 rfl (lv_at hl 3 rfl) ?_
      refine lv_iload_n hx hb dX5_idleAhead_17 rfl (lv_at hl 1 rfl) ?_
      refine lv_icmp_ge (tgt := 48) hx hb dX5_idleAhead_18 (by decide) (fun hc => ?_) (fun hc => ?_)
      · have hw := hw.1 hc
        refine lv_iload_n hx hb dX5_idleAhead_48 rfl (lv_at hl 2 rfl) ?_
        exact r_i C hP hS hw dX5_idleAhead_49
      · have hw := hw.2 hc
        refine lv_aload_n hx hb dX5_idleAhead_21 rfl (lv_at hl 0 rfl) ?_
        refine g_f C hP (by decide) (sX_0 K _) rfl hX5_idleAhead_X5 0 (by decide) kX5_idleAhead_f10 rfl dX5_idleAhead_22 ?_
        refine lv_aload_n hx hb dX5_idleAhead_25 rfl (lv_at hl 0 rfl) ?_
        refine g_f C hP (by decide) (sX_0 K _) rfl hX5_idleAhead_X5 0 (by decide) kX5_idleAhead_f10 rfl dX5_idleAhead_26 ?_
        refine lv_iload_n hx hb dX5_idleAhead_29 rfl (lv_at hl 3 rfl) ?_
        refine c_i (run_v (As := [.int v3]) (rest := [.ref (kb K + 1)]) C hP hS (c_X0_sweepAhead lay_1 hw) gX5_idleAhead_X0_sweepAhead rfl dsX0_sweepAhead rfl ⟨rfl, rfl⟩ ⟨Nat.le_of_ble_eq_true rfl, Nat.le_of_ble_eq_true rfl⟩ (by decide) (sX_1 K _) rfl hl.1 rfl (Nat.le_of_ble_eq_true rfl) dX5_idleAhead_30 ⟨Nat.le_of_ble_eq_true rfl, Nat.le_of_ble_eq_true rfl⟩) hS (fun r_2 M_1 H locs hw hP hS => ?_)
        refine c_i (run_v (As := [.int r_2]) (rest := []) C hP hS (c_X0_someWheelRests lay_1 hw) gX5_idleAhead_X0_someWheelRests rfl dsX0_someWheelRests rfl ⟨rfl, rfl⟩ ⟨Nat.le_of_ble_eq_true rfl, Nat.le_of_ble_eq_true rfl⟩ (by decide) (sX_1 K _) rfl hl.1 rfl (Nat.le_of_ble_eq_true rfl) dX5_idleAhead_33 ⟨Nat.le_of_ble_eq_true rfl, Nat.le_of_ble_eq_true rfl⟩) hS (fun r_4 M_3 H locs hw hP hS => ?_)
        refine lv_if_eq (tgt := 42) hx hb dX5_idleAhead_36 (by decide) (fun hc => ?_) (fun hc => ?_)
        · have hw := hw.1 hc
          exact ih.2 _ _ _ _ _ _ _ hw hP hS (lv_sub hl [0, 1, 2, 3] rfl)
        · have hw := hw.2 hc
          refine lv_iinc (v := (v2 + 1)) (lv' := [(2, .int (v2 + 1)), (0, .ref (kb K + 0)), (1, .int v1), (3, .int v3)]) hx hb dX5_idleAhead_39 hl (k := 2) rfl (by rw [ic_1]) (by decide) rfl (fun ls hl => ?_)
          exact ih.2 _ _ _ _ _ _ _ hw hP hS (lv_sub hl [1, 2, 0, 3] rfl)
    · intro v1 v2 v3 M H locs ls hw hP hS hl
      have hw : f_X5_idleAhead_42 Q (p_X5_idleAhead Q n) v1 v2 v3 M := hw
      delta f_X5_idleAhead_42 at hw
      refine lv_iinc (v := (v3 + 1)) (lv' := [(3, .int (v3 + 1)), (0, .ref (kb K + 0)), (1, .int v1), (2, .int v2)]) hx hb dX5_idleAhead_42 hl (k := 3) rfl (by rw [ic_1]) (by decide) rfl (fun ls hl => ?_)
      refine lv_goto (tgt := 16) hx hb dX5_idleAhead_45 (by decide) ?_
      exact ih.1 _ _ _ _ _ _ _ hw hP hS (lv_sub hl [1, 2, 3, 0] rfl)
theorem dsX5_idleAhead : yX5_idleAhead.cls = RX5 ∧ yX5_idleAhead.cls ≠ "java/lang/invoke/MethodHandle" ∧ yX5_idleAhead.cls ≠ "java/lang/invoke/VarHandle" ∧ (parseMethodDescriptor yX5_idleAhead.desc).map (fun d => d.parameters.length) = some 1 := by decide +kernel
set_option maxRecDepth 100000 in
set_option maxHeartbeats 4000000 in
theorem c_X5_idleAhead {l : Launch} {K : wC} {v1 : Int32} {M : Mem} {Q : Int32 → Mem → Prop} (hw : q_X5_idleAhead v1 M Q) : metI l yX5_idleAhead wsX5_idleAhead rmX5_idleAhead shX 51 K [.ref (kb K + 0), .int v1] M Q := by
  refine met_of (cc := cX5_idleAhead) (maxL := 4) (ret := (some .int)) (own := RX5) (by decide) rfl rfl (Nat.le_of_ble_eq_true rfl) ?_
  intro p e s m below meth c ls C hl hP hS
  have hl : lv_has ls 4 [(0, .ref (kb K + 0)), (1, .int v1)] := hl
  obtain ⟨hx, hb, hml, hown, hts, hr, hlk, hK⟩ := id C
  have hP0 := hP
  obtain ⟨n, hw⟩ := hw
  have ih := b_X5_idleAhead (l := l) (e := e) (below := below) (Q := Q) C n
  delta e_X5_idleAhead at hw
  refine lv_aload_n hx hb dX5_idleAhead_0 rfl (lv_at hl 0 rfl) ?_
  refine g_f C hP (by decide) (sX_0 K _) rfl hX5_idleAhead_X5 0 (by decide) kX5_idleAhead_f10 rfl dX5_idleAhead_1 ?_
  refine g_f C hP (by decide) (sX_1 K _) rfl hX5_idleAhead_X0 2 (by decide) kX5_idleAhead_f99 rfl dX5_idleAhead_4 ?_
  refine lv_if_ne (tgt := 12) hx hb dX5_idleAhead_7 (by decide) (fun hc => ?_) (fun hc => ?_)
  · have hw := hw.1 hc
    refine lv_iconst hx hb dX5_idleAhead_12 ic_0 ?_
    refine lv_istore_n (lv' := [(2, .int (0 : Int32)), (0, .ref (kb K + 0)), (1, .int v1)]) hx hb dX5_idleAhead_13 rfl hl (by decide) rfl (fun ls hl => ?_)
    refine lv_iconst hx hb dX5_idleAhead_14 ic_0 ?_
    refine lv_istore_n (lv' := [(3, .int (0 : Int32)), (2, .int (0 : Int32)), (0, .ref (kb K + 0)), (1, .int v1)]) hx hb dX5_idleAhead_15 rfl hl (by decide) rfl (fun ls hl => ?_)
    exact ih.1 _ _ _ _ _ _ _ hw hP hS (lv_sub hl [2, 3, 1, 0] rfl)
  · have hw := hw.2 hc
    refine lv_iconst hx hb dX5_idleAhead_10 ic_0 ?_
    exact r_i C hP hS hw dX5_idleAhead_11

theorem kX5_greatestSweepAhead_f10 : Cond.fieldLink RX5 10 (TX5 0).1 (TX5 0).2.1 (TX5 0).2.2.1 ∈ wsX5_greatestSweepAhead := List.mem_of_getElem? (i := 1) rfl
theorem hX5_greatestSweepAhead_X5 : ∀ w ∈ u_ws RX5 TX5 11, w ∈ wsX5_greatestSweepAhead := fun _ h => List.mem_cons_of_mem _ (List.mem_append_left _ (List.mem_append_right _ (h)))
theorem kX5_greatestSweepAhead_f99 : Cond.fieldLink RX5 99 (TX0 2).1 (TX0 2).2.1 (TX0 2).2.2.1 ∈ wsX5_greatestSweepAhead := List.mem_of_getElem? (i := 2) rfl
theorem hX5_greatestSweepAhead_X0 : ∀ w ∈ u_ws RX0 TX0 10, w ∈ wsX5_greatestSweepAhead := fun _ h => List.mem_cons_of_mem _ (List.mem_append_right _ (h))
theorem kX5_greatestSweepAhead_m317 : Cond.methodLink RX5 317 Lib.Math.max.name ∈ wsX5_greatestSweepAhead := List.mem_of_getElem? (i := 3) rfl
theorem kX5_greatestSweepAhead_mx1 : Cond.static Lib.Math.max.name ∈ wsX5_greatestSweepAhead := List.mem_of_getElem? (i := 4) rfl
theorem kX5_greatestSweepAhead_mx2 : Cond.initialized "java/lang/Math" ∈ wsX5_greatestSweepAhead := List.mem_of_getElem? (i := 5) rfl
theorem kX5_greatestSweepAhead_mx3 : Cond.code Lib.Math.max.name Lib.Math.max.code 2 (some .int) ∈ wsX5_greatestSweepAhead := List.mem_of_getElem? (i := 6) rfl
abbrev rmX5_greatestSweepAhead : Room := { frames := 2, cells := 0, slots := 0, locals := 48 }
abbrev t_X5_greatestSweepAhead : Type := (Int32 → Int32 → Int32 → Mem → Prop)
def f_X5_greatestSweepAhead_28 (Q : Int32 → Mem → Prop) (r : t_X5_greatestSweepAhead) (v1 : Int32) (v2 : Int32) (v3 : Int32) (M : Mem) : Prop := ((v1 ≤ v3 → Q ((10000 : Int32) + v2) M) ∧ (¬ v1 ≤ v3 → q_X0_sweepAhead 1 v3 M (fun r_4 M_3 => r v1 (imax v2 r_4) (v3 + 1) M_3)))
def p_X5_greatestSweepAhead (Q : Int32 → Mem → Prop) : Nat → t_X5_greatestSweepAhead
  | 0 => fun _ _ _ _ => False
  | n + 1 => f_X5_greatestSweepAhead_28 Q (p_X5_greatestSweepAhead Q n)
def e_X5_greatestSweepAhead (v1 : Int32) (Q : Int32 → Mem → Prop) (r : t_X5_greatestSweepAhead) (M : Mem) : Prop := ((v1 = 0 → Q (-4 : Int32) M) ∧ (¬ v1 = 0 → ((¬ (M 1 2) = 0 → q_X0_sweepAhead 1 (0 : Int32) M (fun r_2 M_1 => r v1 r_2 (1 : Int32) M_1)) ∧ ((M 1 2) = 0 → Q (-4 : Int32) M))))
def q_X5_greatestSweepAhead (v1 : Int32) (M : Mem) (Q : Int32 → Mem → Prop) : Prop := ∃ n : Nat, e_X5_greatestSweepAhead v1 Q (p_X5_greatestSweepAhead Q n) M
set_option maxRecDepth 100000 in
set_option maxHeartbeats 4000000 in
theorem b_X5_greatestSweepAhead {l : Launch} {K : wC} {Q : Int32 → Mem → Prop} {p : Program} {e : Env} {s : State} {m : MethodId} {args : Array Value} {below : List Frame} {meth : Method} {c : Code} (C : cx 51 K p s m args meth c cX5_greatestSweepAhead 4 wsX5_greatestSweepAhead RX5 (some .int)) : ∀ n : Nat, (∀ (v1 : Int32) (v2 : Int32) (v3 : Int32) (M : Mem) (H : Heap) (locs : List Loc) (ls : Array Slot), (p_X5_greatestSweepAhead Q n) v1 v2 v3 M → wP shX 51 K M H → va_S (wA 51 K) s.heap H locs → lv_has ls 4 [(0, .ref (kb K + 0)), (1, .int v1), (2, .int v2), (3, .int v3)] → W p l e rmX5_greatestSweepAhead s m args below meth c H locs 0 0 (MQ below (va_Qi Q (wE shX 51 K) (wA 51 K)) args s 0 0 (wA 51 K)) (F0 m 28 ls [])) := by
  obtain ⟨hx, hb, hml, hown, hts, hr, hlk, hK⟩ := id C
  intro n
  induction n with
  | zero => exact fun _ _ _ _ _ _ _ hw _ _ _ => False.elim hw
  | succ n ih =>
    intro v1 v2 v3 M H locs ls hw hP hS hl
    have hw : f_X5_greatestSweepAhead_28 Q (p_X5_greatestSweepAhead Q n) v1 v2 v3 M := hw
    delta f_X5_greatestSweepAhead_28 at hw
    refine lv_iload_n hx hb dX5_greatestSweepAhead_28 rfl (lv_at hl 3 rfl) ?_
    refine lv_iload_n hx hb dX5_greatestSweepAhead_29 rfl (lv_at hl 1 rfl) ?_
    refine lv_icmp_ge (tgt := 52) hx hb dX5_greatestSweepAhead_30 (by decide) (fun hc => ?_) (fun hc => ?_)
    · have hw := hw.1 hc
      refine lv_sipush hx hb dX5_greatestSweepAhead_52 sp_10000 ?_
      refine lv_iload_n hx hb dX5_greatestSweepAhead_55 rfl (lv_at hl 2 rfl) ?_
      refine lv_iadd hx hb dX5_greatestSweepAhead_56 ?_
      exact r_i C hP hS hw dX5_greatestSweepAhead_57
    · have hw := hw.2 hc
      refine lv_iload_n hx hb dX5_greatestSweepAhead_33 rfl (lv_at hl 2 rfl) ?_
      refine lv_aload_n hx hb dX5_greatestSweepAhead_34 rfl (lv_at hl 0 rfl) ?_
      refine g_f C hP (by decide) (sX_0 K _) rfl hX5_greatestSweepAhead_X5 0 (by decide) kX5_greatestSweepAhead_f10 rfl dX5_greatestSweepAhead_35 ?_
      refine lv_iload_n hx hb dX5_greatestSweepAhead_38 rfl (lv_at hl 3 rfl) ?_
      refine c_i (run_v (As := [.int v3]) (rest := [.int v2]) C hP hS (c_X0_sweepAhead lay_1 hw) gX5_greatestSweepAhead_X0_sweepAhead rfl dsX0_sweepAhead rfl ⟨rfl, rfl⟩ ⟨Nat.le_of_ble_eq_true rfl, Nat.le_of_ble_eq_true rfl⟩ (by decide) (sX_1 K _) rfl hl.1 rfl (Nat.le_of_ble_eq_true rfl) dX5_greatestSweepAhead_39 ⟨Nat.le_of_ble_eq_true rfl, Nat.le_of_ble_eq_true rfl⟩) hS (fun r_4 M_3 H locs hw hP hS => ?_)
      refine m_max C hl.1 kX5_greatestSweepAhead_m317 kX5_greatestSweepAhead_mx1 kX5_greatestSweepAhead_mx2 kX5_greatestSweepAhead_mx3 (Nat.le_of_ble_eq_true rfl) (Nat.le_of_ble_eq_true rfl) (Nat.le_of_ble_eq_true rfl) (Nat.le_of_ble_eq_true rfl) dX5_greatestSweepAhead_42 ?_
      refine lv_istore_n (lv' := [(2, .int (imax v2 r_4)), (0, .ref (kb K + 0)), (1, .int v1), (3, .int v3)]) hx hb dX5_greatestSweepAhead_45 rfl hl (by decide) rfl (fun ls hl => ?_)
      refine lv_iinc (v := (v3 + 1)) (lv' := [(3, .int (v3 + 1)), (2, .int (imax v2 r_4)), (0, .ref (kb K + 0)), (1, .int v1)]) hx hb dX5_greatestSweepAhead_46 hl (k := 3) rfl (by rw [ic_1]) (by decide) rfl (fun ls hl => ?_)
      refine lv_goto (tgt := 28) hx hb dX5_greatestSweepAhead_49 (by decide) ?_
      exact ih _ _ _ _ _ _ _ hw hP hS (lv_sub hl [2, 3, 1, 0] rfl)
theorem dsX5_greatestSweepAhead : yX5_greatestSweepAhead.cls = RX5 ∧ yX5_greatestSweepAhead.cls ≠ "java/lang/invoke/MethodHandle" ∧ yX5_greatestSweepAhead.cls ≠ "java/lang/invoke/VarHandle" ∧ (parseMethodDescriptor yX5_greatestSweepAhead.desc).map (fun d => d.parameters.length) = some 1 := by decide +kernel
set_option maxRecDepth 100000 in
set_option maxHeartbeats 4000000 in
theorem c_X5_greatestSweepAhead {l : Launch} {K : wC} {v1 : Int32} {M : Mem} {Q : Int32 → Mem → Prop} (hw : q_X5_greatestSweepAhead v1 M Q) : metI l yX5_greatestSweepAhead wsX5_greatestSweepAhead rmX5_greatestSweepAhead shX 51 K [.ref (kb K + 0), .int v1] M Q := by
  refine met_of (cc := cX5_greatestSweepAhead) (maxL := 4) (ret := (some .int)) (own := RX5) (by decide) rfl rfl (Nat.le_of_ble_eq_true rfl) ?_
  intro p e s m below meth c ls C hl hP hS
  have hl : lv_has ls 4 [(0, .ref (kb K + 0)), (1, .int v1)] := hl
  obtain ⟨hx, hb, hml, hown, hts, hr, hlk, hK⟩ := id C
  have hP0 := hP
  obtain ⟨n, hw⟩ := hw
  have ih := b_X5_greatestSweepAhead (l := l) (e := e) (below := below) (Q := Q) C n
  delta e_X5_greatestSweepAhead at hw
  refine lv_iload_n hx hb dX5_greatestSweepAhead_0 rfl (lv_at hl 1 rfl) ?_
  refine lv_if_eq (tgt := 14) hx hb dX5_greatestSweepAhead_1 (by decide) (fun hc => ?_) (fun hc => ?_)
  · have hw := hw.1 hc
    refine lv_bipush hx hb dX5_greatestSweepAhead_14 bp_m4 ?_
    exact r_i C hP hS hw dX5_greatestSweepAhead_16
  · have hw := hw.2 hc
    refine lv_aload_n hx hb dX5_greatestSweepAhead_4 rfl (lv_at hl 0 rfl) ?_
    refine g_f C hP (by decide) (sX_0 K _) rfl hX5_greatestSweepAhead_X5 0 (by decide) kX5_greatestSweepAhead_f10 rfl dX5_greatestSweepAhead_5 ?_
    refine g_f C hP (by decide) (sX_1 K _) rfl hX5_greatestSweepAhead_X0 2 (by decide) kX5_greatestSweepAhead_f99 rfl dX5_greatestSweepAhead_8 ?_
    refine lv_if_ne (tgt := 17) hx hb dX5_greatestSweepAhead_11 (by decide) (fun hc => ?_) (fun hc => ?_)
    · have hw := hw.1 hc
      refine lv_aload_n hx hb dX5_greatestSweepAhead_17 rfl (lv_at hl 0 rfl) ?_
      refine g_f C hP (by decide) (sX_0 K _) rfl hX5_greatestSweepAhead_X5 0 (by decide) kX5_greatestSweepAhead_f10 rfl dX5_greatestSweepAhead_18 ?_
      refine lv_iconst hx hb dX5_greatestSweepAhead_21 ic_0 ?_
      refine c_i (run_v (As := [.int (0 : Int32)]) (rest := []) C hP hS (c_X0_sweepAhead lay_1 hw) gX5_greatestSweepAhead_X0_sweepAhead rfl dsX0_sweepAhead rfl ⟨rfl, rfl⟩ ⟨Nat.le_of_ble_eq_true rfl, Nat.le_of_ble_eq_true rfl⟩ (by decide) (sX_1 K _) rfl hl.1 rfl (Nat.le_of_ble_eq_true rfl) dX5_greatestSweepAhead_22 ⟨Nat.le_of_ble_eq_true rfl, Nat.le_of_ble_eq_true rfl⟩) hS (fun r_2 M_1 H locs hw hP hS => ?_)
      refine lv_istore_n (lv' := [(2, .int r_2), (0, .ref (kb K + 0)), (1, .int v1)]) hx hb dX5_greatestSweepAhead_25 rfl hl (by decide) rfl (fun ls hl => ?_)
      refine lv_iconst hx hb dX5_greatestSweepAhead_26 ic_1 ?_
      refine lv_istore_n (lv' := [(3, .int (1 : Int32)), (2, .int r_2), (0, .ref (kb K + 0)), (1, .int v1)]) hx hb dX5_greatestSweepAhead_27 rfl hl (by decide) rfl (fun ls hl => ?_)
      exact ih _ _ _ _ _ _ _ hw hP hS (lv_sub hl [2, 3, 1, 0] rfl)
    · have hw := hw.2 hc
      refine lv_bipush hx hb dX5_greatestSweepAhead_14 bp_m4 ?_
      exact r_i C hP hS hw dX5_greatestSweepAhead_16

abbrev rmX5_runs : Room := { frames := 5, cells := 0, slots := 0, locals := 111 }
def q_X5_runs (v1 : Int32) (v2 : Int32) (M : Mem) (Q : Int32 → Mem → Prop) : Prop := q_X5_within v1 (0 : Int32) (200 : Int32) M (fun r_2 M_1 => ((¬ r_2 = 0 → ((v2 = 0 → q_X5_rolledAhead v1 M_1 (fun r_4 M_3 => Q r_4 M_3)) ∧ (¬ v2 = 0 → ((v2 = 1 → q_X5_idleAhead v1 M_1 (fun r_6 M_5 => Q r_6 M_5)) ∧ (¬ v2 = 1 → ((v2 = 2 → q_X5_greatestSweepAhead v1 M_1 (fun r_8 M_7 => Q r_8 M_7)) ∧ (¬ v2 = 2 → Q (-1 : Int32) M_1))))))) ∧ (r_2 = 0 → Q (-1 : Int32) M_1)))
theorem dsX5_runs : yX5_runs.cls = RX5 ∧ yX5_runs.cls ≠ "java/lang/invoke/MethodHandle" ∧ yX5_runs.cls ≠ "java/lang/invoke/VarHandle" ∧ (parseMethodDescriptor yX5_runs.desc).map (fun d => d.parameters.length) = some 2 := by decide +kernel
set_option maxRecDepth 100000 in
set_option maxHeartbeats 4000000 in
theorem c_X5_runs {l : Launch} {K : wC} {v1 : Int32} {v2 : Int32} {M : Mem} {Q : Int32 → Mem → Prop} (hw : q_X5_runs v1 v2 M Q) : metI l yX5_runs wsX5_runs rmX5_runs shX 51 K [.ref (kb K + 0), .int v1, .int v2] M Q := by
  refine met_of (cc := cX5_runs) (maxL := 3) (ret := (some .int)) (own := RX5) (by decide) rfl rfl (Nat.le_of_ble_eq_true rfl) ?_
  intro p e s m below meth c ls C hl hP hS
  have hl : lv_has ls 3 [(0, .ref (kb K + 0)), (1, .int v1), (2, .int v2)] := hl
  obtain ⟨hx, hb, hml, hown, hts, hr, hlk, hK⟩ := id C
  have hP0 := hP
  delta q_X5_runs at hw
  refine lv_iload_n hx hb dX5_runs_0 rfl (lv_at hl 1 rfl) ?_
  refine lv_iconst hx hb dX5_runs_1 ic_0 ?_
  refine lv_sipush hx hb dX5_runs_2 sp_200 ?_
  refine c_i (run_s (As := [.int v1, .int (0 : Int32), .int (200 : Int32)]) (rest := []) C hP hS (c_X5_within hw) gX5_runs_X5_within rfl dsX5_within rfl ⟨rfl, rfl⟩ ⟨Nat.le_of_ble_eq_true rfl, Nat.le_of_ble_eq_true rfl⟩ hl.1 rfl (Nat.le_of_ble_eq_true rfl) dX5_runs_5 ⟨Nat.le_of_ble_eq_true rfl, Nat.le_of_ble_eq_true rfl⟩) hS (fun r_2 M_1 H locs hw hP hS => ?_)
  refine lv_if_ne (tgt := 13) hx hb dX5_runs_8 (by decide) (fun hc => ?_) (fun hc => ?_)
  · have hw := hw.1 hc
    refine lv_iload_n hx hb dX5_runs_13 rfl (lv_at hl 2 rfl) ?_
    by_cases hs0 : v2 = 0
    · have hw := hw.1 hs0
      refine lv_tableIn (tgt := 40) hx hb dX5_runs_14 (by rw [hs0]; decide) (by rw [hs0]; decide) (by rw [hs0]; rfl) (by decide) ?_
      refine lv_aload_n hx hb dX5_runs_40 rfl (lv_at hl 0 rfl) ?_
      refine lv_iload_n hx hb dX5_runs_41 rfl (lv_at hl 1 rfl) ?_
      refine c_i (run_v (As := [.int v1]) (rest := []) C hP hS (c_X5_rolledAhead hw) gX5_runs_X5_rolledAhead rfl dsX5_rolledAhead rfl ⟨rfl, rfl⟩ ⟨Nat.le_of_ble_eq_true rfl, Nat.le_of_ble_eq_true rfl⟩ (by decide) (sX_0 K _) rfl hl.1 rfl (Nat.le_of_ble_eq_true rfl) dX5_runs_42 ⟨Nat.le_of_ble_eq_true rfl, Nat.le_of_ble_eq_true rfl⟩) hS (fun r_4 M_3 H locs hw hP hS => ?_)
      exact r_i C hP hS hw dX5_runs_45
    · have hw := hw.2 hs0
      by_cases hs1 : v2 = 1
      · have hw := hw.1 hs1
        refine lv_tableIn (tgt := 46) hx hb dX5_runs_14 (by rw [hs1]; decide) (by rw [hs1]; decide) (by rw [hs1]; rfl) (by decide) ?_
        refine lv_aload_n hx hb dX5_runs_46 rfl (lv_at hl 0 rfl) ?_
        refine lv_iload_n hx hb dX5_runs_47 rfl (lv_at hl 1 rfl) ?_
        refine c_i (run_v (As := [.int v1]) (rest := []) C hP hS (c_X5_idleAhead hw) gX5_runs_X5_idleAhead rfl dsX5_idleAhead rfl ⟨rfl, rfl⟩ ⟨Nat.le_of_ble_eq_true rfl, Nat.le_of_ble_eq_true rfl⟩ (by decide) (sX_0 K _) rfl hl.1 rfl (Nat.le_of_ble_eq_true rfl) dX5_runs_48 ⟨Nat.le_of_ble_eq_true rfl, Nat.le_of_ble_eq_true rfl⟩) hS (fun r_6 M_5 H locs hw hP hS => ?_)
        exact r_i C hP hS hw dX5_runs_51
      · have hw := hw.2 hs1
        by_cases hs2 : v2 = 2
        · have hw := hw.1 hs2
          refine lv_tableIn (tgt := 52) hx hb dX5_runs_14 (by rw [hs2]; decide) (by rw [hs2]; decide) (by rw [hs2]; rfl) (by decide) ?_
          refine lv_aload_n hx hb dX5_runs_52 rfl (lv_at hl 0 rfl) ?_
          refine lv_iload_n hx hb dX5_runs_53 rfl (lv_at hl 1 rfl) ?_
          refine c_i (run_v (As := [.int v1]) (rest := []) C hP hS (c_X5_greatestSweepAhead hw) gX5_runs_X5_greatestSweepAhead rfl dsX5_greatestSweepAhead rfl ⟨rfl, rfl⟩ ⟨Nat.le_of_ble_eq_true rfl, Nat.le_of_ble_eq_true rfl⟩ (by decide) (sX_0 K _) rfl hl.1 rfl (Nat.le_of_ble_eq_true rfl) dX5_runs_54 ⟨Nat.le_of_ble_eq_true rfl, Nat.le_of_ble_eq_true rfl⟩) hS (fun r_8 M_7 H locs hw hP hS => ?_)
          exact r_i C hP hS hw dX5_runs_57
        · have hw := hw.2 hs2
          have nhs0 : v2.toInt ≠ 0 := ne_toInt hs0
          have nhs1 : v2.toInt ≠ 1 := ne_toInt hs1
          have nhs2 : v2.toInt ≠ 2 := ne_toInt hs2
          refine lv_tableOut (tgt := 58) hx hb dX5_runs_14 (by omega) (by decide) ?_
          refine lv_iconst hx hb dX5_runs_58 ic_m1 ?_
          exact r_i C hP hS hw dX5_runs_59
  · have hw := hw.2 hc
    refine lv_iconst hx hb dX5_runs_11 ic_m1 ?_
    exact r_i C hP hS hw dX5_runs_12

theorem kX5_ahead_c145 : Cond.constant RX5 145 (20000000) ∈ wsX5_ahead := List.mem_of_getElem? (i := 1) rfl
theorem kX5_ahead_f10 : Cond.fieldLink RX5 10 (TX5 0).1 (TX5 0).2.1 (TX5 0).2.2.1 ∈ wsX5_ahead := List.mem_of_getElem? (i := 2) rfl
theorem hX5_ahead_X5 : ∀ w ∈ u_ws RX5 TX5 11, w ∈ wsX5_ahead := fun _ h => List.mem_cons_of_mem _ (List.mem_append_left _ (List.mem_append_right _ (h)))
abbrev rmX5_ahead : Room := { frames := 4, cells := 0, slots := 0, locals := 89 }
def q_X5_ahead (v1 : Int32) (v2 : Int32) (M : Mem) (Q : Int32 → Mem → Prop) : Prop := q_X5_hasWheel v1 M (fun r_2 M_1 => ((r_2 = 0 → Q (-1 : Int32) M_1) ∧ (¬ r_2 = 0 → q_X5_within v2 (0 : Int32) (200 : Int32) M_1 (fun r_4 M_3 => ((¬ r_4 = 0 → q_X0_readsAhead 1 v1 v2 M_3 (fun r_6 M_5 => Q ((20000000 : Int32) + r_6) M_5)) ∧ (r_4 = 0 → Q (-1 : Int32) M_3))))))
theorem dsX5_ahead : yX5_ahead.cls = RX5 ∧ yX5_ahead.cls ≠ "java/lang/invoke/MethodHandle" ∧ yX5_ahead.cls ≠ "java/lang/invoke/VarHandle" ∧ (parseMethodDescriptor yX5_ahead.desc).map (fun d => d.parameters.length) = some 2 := by decide +kernel
set_option maxRecDepth 100000 in
set_option maxHeartbeats 4000000 in
theorem c_X5_ahead {l : Launch} {K : wC} {v1 : Int32} {v2 : Int32} {M : Mem} {Q : Int32 → Mem → Prop} (hw : q_X5_ahead v1 v2 M Q) : metI l yX5_ahead wsX5_ahead rmX5_ahead shX 51 K [.ref (kb K + 0), .int v1, .int v2] M Q := by
  refine met_of (cc := cX5_ahead) (maxL := 3) (ret := (some .int)) (own := RX5) (by decide) rfl rfl (Nat.le_of_ble_eq_true rfl) ?_
  intro p e s m below meth c ls C hl hP hS
  have hl : lv_has ls 3 [(0, .ref (kb K + 0)), (1, .int v1), (2, .int v2)] := hl
  obtain ⟨hx, hb, hml, hown, hts, hr, hlk, hK⟩ := id C
  have hP0 := hP
  delta q_X5_ahead at hw
  refine lv_aload_n hx hb dX5_ahead_0 rfl (lv_at hl 0 rfl) ?_
  refine lv_iload_n hx hb dX5_ahead_1 rfl (lv_at hl 1 rfl) ?_
  refine c_i (run_v (As := [.int v1]) (rest := []) C hP hS (c_X5_hasWheel hw) gX5_ahead_X5_hasWheel rfl dsX5_hasWheel rfl ⟨rfl, rfl⟩ ⟨Nat.le_of_ble_eq_true rfl, Nat.le_of_ble_eq_true rfl⟩ (by decide) (sX_0 K _) rfl hl.1 rfl (Nat.le_of_ble_eq_true rfl) dX5_ahead_2 ⟨Nat.le_of_ble_eq_true rfl, Nat.le_of_ble_eq_true rfl⟩) hS (fun r_2 M_1 H locs hw hP hS => ?_)
  refine lv_if_eq (tgt := 19) hx hb dX5_ahead_5 (by decide) (fun hc => ?_) (fun hc => ?_)
  · have hw := hw.1 hc
    refine lv_iconst hx hb dX5_ahead_19 ic_m1 ?_
    exact r_i C hP hS hw dX5_ahead_20
  · have hw := hw.2 hc
    refine lv_iload_n hx hb dX5_ahead_8 rfl (lv_at hl 2 rfl) ?_
    refine lv_iconst hx hb dX5_ahead_9 ic_0 ?_
    refine lv_sipush hx hb dX5_ahead_10 sp_200 ?_
    refine c_i (run_s (As := [.int v2, .int (0 : Int32), .int (200 : Int32)]) (rest := []) C hP hS (c_X5_within hw) gX5_ahead_X5_within rfl dsX5_within rfl ⟨rfl, rfl⟩ ⟨Nat.le_of_ble_eq_true rfl, Nat.le_of_ble_eq_true rfl⟩ hl.1 rfl (Nat.le_of_ble_eq_true rfl) dX5_ahead_13 ⟨Nat.le_of_ble_eq_true rfl, Nat.le_of_ble_eq_true rfl⟩) hS (fun r_4 M_3 H locs hw hP hS => ?_)
    refine lv_if_ne (tgt := 21) hx hb dX5_ahead_16 (by decide) (fun hc => ?_) (fun hc => ?_)
    · have hw := hw.1 hc
      refine lv_ldc hx hb hown (hts _ kX5_ahead_c145) dX5_ahead_21 ?_
      refine lv_aload_n hx hb dX5_ahead_23 rfl (lv_at hl 0 rfl) ?_
      refine g_f C hP (by decide) (sX_0 K _) rfl hX5_ahead_X5 0 (by decide) kX5_ahead_f10 rfl dX5_ahead_24 ?_
      refine lv_iload_n hx hb dX5_ahead_27 rfl (lv_at hl 1 rfl) ?_
      refine lv_iload_n hx hb dX5_ahead_28 rfl (lv_at hl 2 rfl) ?_
      refine c_i (run_v (As := [.int v1, .int v2]) (rest := [.int (20000000 : Int32)]) C hP hS (c_X0_readsAhead lay_1 hw) gX5_ahead_X0_readsAhead rfl dsX0_readsAhead rfl ⟨rfl, rfl⟩ ⟨Nat.le_of_ble_eq_true rfl, Nat.le_of_ble_eq_true rfl⟩ (by decide) (sX_1 K _) rfl hl.1 rfl (Nat.le_of_ble_eq_true rfl) dX5_ahead_29 ⟨Nat.le_of_ble_eq_true rfl, Nat.le_of_ble_eq_true rfl⟩) hS (fun r_6 M_5 H locs hw hP hS => ?_)
      refine lv_iadd hx hb dX5_ahead_32 ?_
      exact r_i C hP hS hw dX5_ahead_33
    · have hw := hw.2 hc
      refine lv_iconst hx hb dX5_ahead_19 ic_m1 ?_
      exact r_i C hP hS hw dX5_ahead_20

theorem kX5_isTold_c309 : Cond.constant RX5 309 (10000000) ∈ wsX5_isTold := List.mem_of_getElem? (i := 1) rfl
theorem kX5_isTold_c310 : Cond.constant RX5 310 (30000000) ∈ wsX5_isTold := List.mem_of_getElem? (i := 2) rfl
abbrev rmX5_isTold : Room := { frames := 1, cells := 0, slots := 0, locals := 22 }
def q_X5_isTold (v0 : Int32) (M : Mem) (Q : Int32 → Mem → Prop) : Prop := q_X5_within v0 (10000000 : Int32) (30000000 : Int32) M (fun r_2 M_1 => narrow .boolean (.int r_2) = .int r_2 ∧ Q r_2 M_1)
theorem dsX5_isTold : yX5_isTold.cls ≠ "java/lang/invoke/MethodHandle" ∧ yX5_isTold.cls ≠ "java/lang/invoke/VarHandle" ∧ (parseMethodDescriptor yX5_isTold.desc).map (fun d => d.parameters.length) = some 1 := by decide +kernel
set_option maxRecDepth 100000 in
set_option maxHeartbeats 4000000 in
theorem c_X5_isTold {l : Launch} {K : wC} {v0 : Int32} {M : Mem} {Q : Int32 → Mem → Prop} (hw : q_X5_isTold v0 M Q) : metI l yX5_isTold wsX5_isTold rmX5_isTold shX 51 K [.int v0] M Q := by
  refine met_of (cc := cX5_isTold) (maxL := 1) (ret := (some .boolean)) (own := RX5) (by decide) rfl rfl (Nat.le_of_ble_eq_true rfl) ?_
  intro p e s m below meth c ls C hl hP hS
  have hl : lv_has ls 1 [(0, .int v0)] := hl
  obtain ⟨hx, hb, hml, hown, hts, hr, hlk, hK⟩ := id C
  have hP0 := hP
  delta q_X5_isTold at hw
  refine lv_iload_n hx hb dX5_isTold_0 rfl (lv_at hl 0 rfl) ?_
  refine lv_ldcw hx hb hown (hts _ kX5_isTold_c309) dX5_isTold_1 ?_
  refine lv_ldcw hx hb hown (hts _ kX5_isTold_c310) dX5_isTold_4 ?_
  refine c_i (run_s (As := [.int v0, .int (10000000 : Int32), .int (30000000 : Int32)]) (rest := []) C hP hS (c_X5_within hw) gX5_isTold_X5_within rfl dsX5_within rfl ⟨rfl, rfl⟩ ⟨Nat.le_of_ble_eq_true rfl, Nat.le_of_ble_eq_true rfl⟩ hl.1 rfl (Nat.le_of_ble_eq_true rfl) dX5_isTold_7 ⟨Nat.le_of_ble_eq_true rfl, Nat.le_of_ble_eq_true rfl⟩) hS (fun r_2 M_1 H locs hw hP hS => ?_)
  exact r_z C hw.1 hP hS hw.2 dX5_isTold_10

theorem kX5_when_c145 : Cond.constant RX5 145 (20000000) ∈ wsX5_when := List.mem_of_getElem? (i := 1) rfl
theorem kX5_when_f10 : Cond.fieldLink RX5 10 (TX5 0).1 (TX5 0).2.1 (TX5 0).2.2.1 ∈ wsX5_when := List.mem_of_getElem? (i := 2) rfl
theorem hX5_when_X5 : ∀ w ∈ u_ws RX5 TX5 11, w ∈ wsX5_when := fun _ h => List.mem_cons_of_mem _ (List.mem_append_left _ (List.mem_append_right _ (h)))
theorem kX5_when_f146 : Cond.fieldLink RX5 146 (TX0 5).1 (TX0 5).2.1 (TX0 5).2.2.1 ∈ wsX5_when := List.mem_of_getElem? (i := 3) rfl
theorem hX5_when_X0 : ∀ w ∈ u_ws RX0 TX0 10, w ∈ wsX5_when := fun _ h => List.mem_cons_of_mem _ (List.mem_append_right _ (h))
abbrev rmX5_when : Room := { frames := 3, cells := 0, slots := 0, locals := 65 }
abbrev t_X5_when : Type := (Int32 → Int32 → Int32 → Int32 → Mem → Prop)
def f_X5_when_36 (Q : Int32 → Mem → Prop) (r : t_X5_when) (v1 : Int32) (v3 : Int32) (v4 : Int32) (v5 : Int32) (M : Mem) : Prop := (((200 : Int32) < v5 → Q (-4 : Int32) M) ∧ (¬ (200 : Int32) < v5 → ((v4 < v3 → q_X0_sweepAhead 1 v5 M (fun r_8 M_7 => q_X0_rollOf 1 v1 r_8 M_7 (fun r_10 M_9 => r v1 v3 (v4 + r_10) (v5 + 1) M_9))) ∧ (¬ v4 < v3 → Q v5 M))))
def p_X5_when (Q : Int32 → Mem → Prop) : Nat → t_X5_when
  | 0 => fun _ _ _ _ _ => False
  | n + 1 => f_X5_when_36 Q (p_X5_when Q n)
def e_X5_when (v1 : Int32) (v2 : Int32) (Q : Int32 → Mem → Prop) (r : t_X5_when) (M : Mem) : Prop := q_X5_hasWheel v1 M (fun r_2 M_1 => ((r_2 = 0 → Q (-1 : Int32) M_1) ∧ (¬ r_2 = 0 → q_X5_isTold v2 M_1 (fun r_4 M_3 => ((¬ r_4 = 0 → ∀ x_5 : Int32, x_5 = (v2 - (20000000 : Int32)) → vp_in v1 4 ∧ r v1 x_5 (M_3 6 v1.toNatClampNeg) (0 : Int32) M_3) ∧ (r_4 = 0 → Q (-1 : Int32) M_3))))))
def q_X5_when (v1 : Int32) (v2 : Int32) (M : Mem) (Q : Int32 → Mem → Prop) : Prop := ∃ n : Nat, e_X5_when v1 v2 Q (p_X5_when Q n) M
set_option maxRecDepth 100000 in
set_option maxHeartbeats 4000000 in
theorem b_X5_when {l : Launch} {K : wC} {Q : Int32 → Mem → Prop} {p : Program} {e : Env} {s : State} {m : MethodId} {args : Array Value} {below : List Frame} {meth : Method} {c : Code} (C : cx 51 K p s m args meth c cX5_when 6 wsX5_when RX5 (some .int)) : ∀ n : Nat, (∀ (v1 : Int32) (v3 : Int32) (v4 : Int32) (v5 : Int32) (M : Mem) (H : Heap) (locs : List Loc) (ls : Array Slot), (p_X5_when Q n) v1 v3 v4 v5 M → wP shX 51 K M H → va_S (wA 51 K) s.heap H locs → lv_has ls 6 [(0, .ref (kb K + 0)), (1, .int v1), (3, .int v3), (4, .int v4), (5, .int v5)] → W p l e rmX5_when s m args below meth c H locs 0 0 (MQ below (va_Qi Q (wE shX 51 K) (wA 51 K)) args s 0 0 (wA 51 K)) (F0 m 36 ls [])) := by
  obtain ⟨hx, hb, hml, hown, hts, hr, hlk, hK⟩ := id C
  intro n
  induction n with
  | zero => exact fun _ _ _ _ _ _ _ _ hw _ _ _ => False.elim hw
  | succ n ih =>
    intro v1 v3 v4 v5 M H locs ls hw hP hS hl
    have hw : f_X5_when_36 Q (p_X5_when Q n) v1 v3 v4 v5 M := hw
    delta f_X5_when_36 at hw
    refine lv_iload hx hb dX5_when_36 (lv_at hl 4 rfl) ?_
    refine lv_sipush hx hb dX5_when_38 sp_200 ?_
    refine lv_icmp_gt (tgt := 81) hx hb dX5_when_41 (by decide) (fun hc => ?_) (fun hc => ?_)
    · have hw := hw.1 hc
      refine lv_bipush hx hb dX5_when_81 bp_m4 ?_
      exact r_i C hP hS hw dX5_when_83
    · have hw := hw.2 hc
      refine lv_iload hx hb dX5_when_44 (lv_at hl 3 rfl) ?_
      refine lv_iload_n hx hb dX5_when_46 rfl (lv_at hl 2 rfl) ?_
      refine lv_icmp_lt (tgt := 53) hx hb dX5_when_47 (by decide) (fun hc => ?_) (fun hc => ?_)
      · have hw := hw.1 hc
        refine lv_iload hx hb dX5_when_53 (lv_at hl 3 rfl) ?_
        refine lv_aload_n hx hb dX5_when_55 rfl (lv_at hl 0 rfl) ?_
        refine g_f C hP (by decide) (sX_0 K _) rfl hX5_when_X5 0 (by decide) kX5_when_f10 rfl dX5_when_56 ?_
        refine lv_iload_n hx hb dX5_when_59 rfl (lv_at hl 1 rfl) ?_
        refine lv_aload_n hx hb dX5_when_60 rfl (lv_at hl 0 rfl) ?_
        refine g_f C hP (by decide) (sX_0 K _) rfl hX5_when_X5 0 (by decide) kX5_when_f10 rfl dX5_when_61 ?_
        refine lv_iload hx hb dX5_when_64 (lv_at hl 4 rfl) ?_
        refine c_i (run_v (As := [.int v5]) (rest := [.int v1, .ref (kb K + 1), .int v4]) C hP hS (c_X0_sweepAhead lay_1 hw) gX5_when_X0_sweepAhead rfl dsX0_sweepAhead rfl ⟨rfl, rfl⟩ ⟨Nat.le_of_ble_eq_true rfl, Nat.le_of_ble_eq_true rfl⟩ (by decide) (sX_1 K _) rfl hl.1 rfl (Nat.le_of_ble_eq_true rfl) dX5_when_66 ⟨Nat.le_of_ble_eq_true rfl, Nat.le_of_ble_eq_true rfl⟩) hS (fun r_8 M_7 H locs hw hP hS => ?_)
        refine c_i (run_v (As := [.int v1, .int r_8]) (rest := [.int v4]) C hP hS (c_X0_rollOf lay_1 hw) gX5_when_X0_rollOf rfl dsX0_rollOf rfl ⟨rfl, rfl⟩ ⟨Nat.le_of_ble_eq_true rfl, Nat.le_of_ble_eq_true rfl⟩ (by decide) (sX_1 K _) rfl hl.1 rfl (Nat.le_of_ble_eq_true rfl) dX5_when_69 ⟨Nat.le_of_ble_eq_true rfl, Nat.le_of_ble_eq_true rfl⟩) hS (fun r_10 M_9 H locs hw hP hS => ?_)
        refine lv_iadd hx hb dX5_when_72 ?_
        refine lv_istore (lv' := [(4, .int (v4 + r_10)), (0, .ref (kb K + 0)), (1, .int v1), (3, .int v3), (5, .int v5)]) hx hb dX5_when_73 hl (by decide) rfl (fun ls hl => ?_)
        refine lv_iinc (v := (v5 + 1)) (lv' := [(5, .int (v5 + 1)), (4, .int (v4 + r_10)), (0, .ref (kb K + 0)), (1, .int v1), (3, .int v3)]) hx hb dX5_when_75 hl (k := 4) rfl (by rw [ic_1]) (by decide) rfl (fun ls hl => ?_)
        refine lv_goto (tgt := 36) hx hb dX5_when_78 (by decide) ?_
        exact ih _ _ _ _ _ _ _ _ hw hP hS (lv_sub hl [2, 3, 4, 1, 0] rfl)
      · have hw := hw.2 hc
        refine lv_iload hx hb dX5_when_50 (lv_at hl 4 rfl) ?_
        exact r_i C hP hS hw dX5_when_52
theorem dsX5_when : yX5_when.cls = RX5 ∧ yX5_when.cls ≠ "java/lang/invoke/MethodHandle" ∧ yX5_when.cls ≠ "java/lang/invoke/VarHandle" ∧ (parseMethodDescriptor yX5_when.desc).map (fun d => d.parameters.length) = some 2 := by decide +kernel
set_option maxRecDepth 100000 in
set_option maxHeartbeats 4000000 in
theorem c_X5_when {l : Launch} {K : wC} {v1 : Int32} {v2 : Int32} {M : Mem} {Q : Int32 → Mem → Prop} (hw : q_X5_when v1 v2 M Q) : metI l yX5_when wsX5_when rmX5_when shX 51 K [.ref (kb K + 0), .int v1, .int v2] M Q := by
  refine met_of (cc := cX5_when) (maxL := 6) (ret := (some .int)) (own := RX5) (by decide) rfl rfl (Nat.le_of_ble_eq_true rfl) ?_
  intro p e s m below meth c ls C hl hP hS
  have hl : lv_has ls 6 [(0, .ref (kb K + 0)), (1, .int v1), (2, .int v2)] := hl
  obtain ⟨hx, hb, hml, hown, hts, hr, hlk, hK⟩ := id C
  have hP0 := hP
  obtain ⟨n, hw⟩ := hw
  have ih := b_X5_when (l := l) (e := e) (below := below) (Q := Q) C n
  delta e_X5_when at hw
  refine lv_aload_n hx hb dX5_when_0 rfl (lv_at hl 0 rfl) ?_
  refine lv_iload_n hx hb dX5_when_1 rfl (lv_at hl 1 rfl) ?_
  refine c_i (run_v (As := [.int v1]) (rest := []) C hP hS (c_X5_hasWheel hw) gX5_when_X5_hasWheel rfl dsX5_hasWheel rfl ⟨rfl, rfl⟩ ⟨Nat.le_of_ble_eq_true rfl, Nat.le_of_ble_eq_true rfl⟩ (by decide) (sX_0 K _) rfl hl.1 rfl (Nat.le_of_ble_eq_true rfl) dX5_when_2 ⟨Nat.le_of_ble_eq_true rfl, Nat.le_of_ble_eq_true rfl⟩) hS (fun r_2 M_1 H locs hw hP hS => ?_)
  refine lv_if_eq (tgt := 15) hx hb dX5_when_5 (by decide) (fun hc => ?_) (fun hc => ?_)
  · have hw := hw.1 hc
    refine lv_iconst hx hb dX5_when_15 ic_m1 ?_
    exact r_i C hP hS hw dX5_when_16
  · have hw := hw.2 hc
    refine lv_iload_n hx hb dX5_when_8 rfl (lv_at hl 2 rfl) ?_
    refine c_i (run_s (As := [.int v2]) (rest := []) C hP hS (c_X5_isTold hw) gX5_when_X5_isTold rfl dsX5_isTold rfl ⟨rfl, rfl⟩ ⟨Nat.le_of_ble_eq_true rfl, Nat.le_of_ble_eq_true rfl⟩ hl.1 rfl (Nat.le_of_ble_eq_true rfl) dX5_when_9 ⟨Nat.le_of_ble_eq_true rfl, Nat.le_of_ble_eq_true rfl⟩) hS (fun r_4 M_3 H locs hw hP hS => ?_)
    refine lv_if_ne (tgt := 17) hx hb dX5_when_12 (by decide) (fun hc => ?_) (fun hc => ?_)
    · have hw := hw.1 hc
      refine lv_iload_n hx hb dX5_when_17 rfl (lv_at hl 2 rfl) ?_
      refine lv_ldc hx hb hown (hts _ kX5_when_c145) dX5_when_18 ?_
      refine lv_isub hx hb dX5_when_20 ?_
      refine lv_topi (fun x_5 ex_5 => ?_)
      have hw := hw x_5 ex_5
      refine lv_istore_n (lv' := [(3, .int x_5), (0, .ref (kb K + 0)), (1, .int v1), (2, .int v2)]) hx hb dX5_when_21 rfl hl (by decide) rfl (fun ls hl => ?_)
      refine lv_aload_n hx hb dX5_when_22 rfl (lv_at hl 1 rfl) ?_
      refine g_f C hP (by decide) (sX_0 K _) rfl hX5_when_X5 0 (by decide) kX5_when_f10 rfl dX5_when_23 ?_
      refine g_f C hP (by decide) (sX_1 K _) rfl hX5_when_X0 5 (by decide) kX5_when_f146 rfl dX5_when_26 ?_
      refine lv_iload_n hx hb dX5_when_29 rfl (lv_at hl 2 rfl) ?_
      have hi_6 := hw.1
      have hw := hw.2
      refine a_il C hP (by decide) (sX_6 K _) hi_6 rfl dX5_when_30 ?_
      refine lv_istore (lv' := [(4, .int (M_3 6 v1.toNatClampNeg)), (3, .int x_5), (0, .ref (kb K + 0)), (1, .int v1), (2, .int v2)]) hx hb dX5_when_31 hl (by decide) rfl (fun ls hl => ?_)
      refine lv_iconst hx hb dX5_when_33 ic_0 ?_
      refine lv_istore (lv' := [(5, .int (0 : Int32)), (4, .int (M_3 6 v1.toNatClampNeg)), (3, .int x_5), (0, .ref (kb K + 0)), (1, .int v1), (2, .int v2)]) hx hb dX5_when_34 hl (by decide) rfl (fun ls hl => ?_)
      exact ih _ _ _ _ _ _ _ _ hw hP hS (lv_sub hl [3, 4, 2, 1, 0] rfl)
    · have hw := hw.2 hc
      refine lv_iconst hx hb dX5_when_15 ic_m1 ?_
      exact r_i C hP hS hw dX5_when_16

abbrev rmX5_isEither : Room := { frames := 1, cells := 0, slots := 0, locals := 22 }
def q_X5_isEither (v0 : Int32) (M : Mem) (Q : Int32 → Mem → Prop) : Prop := q_X5_within v0 (0 : Int32) (1 : Int32) M (fun r_2 M_1 => narrow .boolean (.int r_2) = .int r_2 ∧ Q r_2 M_1)
theorem dsX5_isEither : yX5_isEither.cls ≠ "java/lang/invoke/MethodHandle" ∧ yX5_isEither.cls ≠ "java/lang/invoke/VarHandle" ∧ (parseMethodDescriptor yX5_isEither.desc).map (fun d => d.parameters.length) = some 1 := by decide +kernel
set_option maxRecDepth 100000 in
set_option maxHeartbeats 4000000 in
theorem c_X5_isEither {l : Launch} {K : wC} {v0 : Int32} {M : Mem} {Q : Int32 → Mem → Prop} (hw : q_X5_isEither v0 M Q) : metI l yX5_isEither wsX5_isEither rmX5_isEither shX 51 K [.int v0] M Q := by
  refine met_of (cc := cX5_isEither) (maxL := 1) (ret := (some .boolean)) (own := RX5) (by decide) rfl rfl (Nat.le_of_ble_eq_true rfl) ?_
  intro p e s m below meth c ls C hl hP hS
  have hl : lv_has ls 1 [(0, .int v0)] := hl
  obtain ⟨hx, hb, hml, hown, hts, hr, hlk, hK⟩ := id C
  have hP0 := hP
  delta q_X5_isEither at hw
  refine lv_iload_n hx hb dX5_isEither_0 rfl (lv_at hl 0 rfl) ?_
  refine lv_iconst hx hb dX5_isEither_1 ic_0 ?_
  refine lv_iconst hx hb dX5_isEither_2 ic_1 ?_
  refine c_i (run_s (As := [.int v0, .int (0 : Int32), .int (1 : Int32)]) (rest := []) C hP hS (c_X5_within hw) gX5_isEither_X5_within rfl dsX5_within rfl ⟨rfl, rfl⟩ ⟨Nat.le_of_ble_eq_true rfl, Nat.le_of_ble_eq_true rfl⟩ hl.1 rfl (Nat.le_of_ble_eq_true rfl) dX5_isEither_3 ⟨Nat.le_of_ble_eq_true rfl, Nat.le_of_ble_eq_true rfl⟩) hS (fun r_2 M_1 H locs hw hP hS => ?_)
  exact r_z C hw.1 hP hS hw.2 dX5_isEither_6

theorem kX5_best_f16 : Cond.fieldLink RX5 16 (TX5 1).1 (TX5 1).2.1 (TX5 1).2.2.1 ∈ wsX5_best := List.mem_of_getElem? (i := 1) rfl
theorem hX5_best_X5 : ∀ w ∈ u_ws RX5 TX5 11, w ∈ wsX5_best := fun _ h => List.mem_cons_of_mem _ (List.mem_append_left _ (List.mem_append_right _ (h)))
theorem kX5_best_f10 : Cond.fieldLink RX5 10 (TX5 0).1 (TX5 0).2.1 (TX5 0).2.2.1 ∈ wsX5_best := List.mem_of_getElem? (i := 2) rfl
theorem kX5_best_c214 : Cond.constant RX5 214 (1000000) ∈ wsX5_best := List.mem_of_getElem? (i := 3) rfl
abbrev rmX5_best : Room := { frames := 4, cells := 0, slots := 0, locals := 89 }
abbrev t_X5_best : Type := (Int32 → Int32 → Int32 → Int32 → Int32 → Mem → Prop) × (Int32 → Int32 → Int32 → Int32 → Int32 → Int32 → Mem → Prop) × (Int32 → Int32 → Int32 → Int32 → Int32 → Int32 → Mem → Prop)
def f_X5_best_37 (Q : Int32 → Mem → Prop) (r : t_X5_best) (v1 : Int32) (v2 : Int32) (v3 : Int32) (v4 : Int32) (v5 : Int32) (M : Mem) : Prop := (((20 : Int32) < v5 → ((¬ v2 = 0 → Q v3 M) ∧ (v2 = 0 → Q v4 M))) ∧ (¬ (20 : Int32) < v5 → r.2.1 v1 v2 v3 v4 v5 (0 : Int32) M))
def f_X5_best_47 (Q : Int32 → Mem → Prop) (r : t_X5_best) (v1 : Int32) (v2 : Int32) (v3 : Int32) (v4 : Int32) (v5 : Int32) (v6 : Int32) (M : Mem) : Prop := (((20 : Int32) < v6 → r.1 v1 v2 v3 v4 (v5 + 1) M) ∧ (¬ (20 : Int32) < v6 → q_X0_movePole 7 v5 v6 M (fun M_6 => q_X0_errorOf 7 v1 M_6 (fun r_8 M_7 => ((v3 ≤ r_8 → r.2.2 v1 v2 v3 v4 v5 v6 M_7) ∧ (¬ v3 ≤ r_8 → q_X5_pair v5 v6 M_7 (fun r_10 M_9 => r.2.2 v1 v2 r_8 r_10 v5 v6 M_9)))))))
def f_X5_best_93 (Q : Int32 → Mem → Prop) (r : t_X5_best) (v1 : Int32) (v2 : Int32) (v3 : Int32) (v4 : Int32) (v5 : Int32) (v6 : Int32) (M : Mem) : Prop := r.2.1 v1 v2 v3 v4 v5 (v6 + 1) M
def p_X5_best (Q : Int32 → Mem → Prop) : Nat → t_X5_best
  | 0 => (fun _ _ _ _ _ _ => False, fun _ _ _ _ _ _ _ => False, fun _ _ _ _ _ _ _ => False)
  | n + 1 => (f_X5_best_37 Q (p_X5_best Q n), f_X5_best_47 Q (p_X5_best Q n), f_X5_best_93 Q (p_X5_best Q n))
def e_X5_best (v1 : Int32) (v2 : Int32) (Q : Int32 → Mem → Prop) (r : t_X5_best) (M : Mem) : Prop := q_X5_hasWheel v1 M (fun r_2 M_1 => ((r_2 = 0 → Q (-1 : Int32) M_1) ∧ (¬ r_2 = 0 → q_X5_isEither v2 M_1 (fun r_4 M_3 => ((¬ r_4 = 0 → q_X0_copyFrom 7 1 M_3 (fun M_5 => r.1 v1 v2 (1000000 : Int32) (0 : Int32) (0 : Int32) M_5)) ∧ (r_4 = 0 → Q (-1 : Int32) M_3))))))
def q_X5_best (v1 : Int32) (v2 : Int32) (M : Mem) (Q : Int32 → Mem → Prop) : Prop := ∃ n : Nat, e_X5_best v1 v2 Q (p_X5_best Q n) M
set_option maxRecDepth 100000 in
set_option maxHeartbeats 4000000 in
theorem b_X5_best {l : Launch} {K : wC} {Q : Int32 → Mem → Prop} {p : Program} {e : Env} {s : State} {m : MethodId} {args : Array Value} {below : List Frame} {meth : Method} {c : Code} (C : cx 51 K p s m args meth c cX5_best 8 wsX5_best RX5 (some .int)) : ∀ n : Nat, (∀ (v1 : Int32) (v2 : Int32) (v3 : Int32) (v4 : Int32) (v5 : Int32) (M : Mem) (H : Heap) (locs : List Loc) (ls : Array Slot), (p_X5_best Q n).1 v1 v2 v3 v4 v5 M → wP shX 51 K M H → va_S (wA 51 K) s.heap H locs → lv_has ls 8 [(0, .ref (kb K + 0)), (1, .int v1), (2, .int v2), (3, .int v3), (4, .int v4), (5, .int v5)] → W p l e rmX5_best s m args below meth c H locs 0 0 (MQ below (va_Qi Q (wE shX 51 K) (wA 51 K)) args s 0 0 (wA 51 K)) (F0 m 37 ls [])) ∧ (∀ (v1 : Int32) (v2 : Int32) (v3 : Int32) (v4 : Int32) (v5 : Int32) (v6 : Int32) (M : Mem) (H : Heap) (locs : List Loc) (ls : Array Slot), (p_X5_best Q n).2.1 v1 v2 v3 v4 v5 v6 M → wP shX 51 K M H → va_S (wA 51 K) s.heap H locs → lv_has ls 8 [(0, .ref (kb K + 0)), (1, .int v1), (2, .int v2), (3, .int v3), (4, .int v4), (5, .int v5), (6, .int v6)] → W p l e rmX5_best s m args below meth c H locs 0 0 (MQ below (va_Qi Q (wE shX 51 K) (wA 51 K)) args s 0 0 (wA 51 K)) (F0 m 47 ls [])) ∧ (∀ (v1 : Int32) (v2 : Int32) (v3 : Int32) (v4 : Int32) (v5 : Int32) (v6 : Int32) (M : Mem) (H : Heap) (locs : List Loc) (ls : Array Slot), (p_X5_best Q n).2.2 v1 v2 v3 v4 v5 v6 M → wP shX 51 K M H → va_S (wA 51 K) s.heap H locs → lv_has ls 8 [(0, .ref (kb K + 0)), (1, .int v1), (2, .int v2), (3, .int v3), (4, .int v4), (5, .int v5), (6, .int v6)] → W p l e rmX5_best s m args below meth c H locs 0 0 (MQ below (va_Qi Q (wE shX 51 K) (wA 51 K)) args s 0 0 (wA 51 K)) (F0 m 93 ls [])) := by
  obtain ⟨hx, hb, hml, hown, hts, hr, hlk, hK⟩ := id C
  intro n
  induction n with
  | zero => exact ⟨fun _ _ _ _ _ _ _ _ _ hw _ _ _ => False.elim hw, fun _ _ _ _ _ _ _ _ _ _ hw _ _ _ => False.elim hw, fun _ _ _ _ _ _ _ _ _ _ hw _ _ _ => False.elim hw⟩
  | succ n ih =>
    refine ⟨?_, ?_, ?_⟩
    · intro v1 v2 v3 v4 v5 M H locs ls hw hP hS hl
      have hw : f_X5_best_37 Q (p_X5_best Q n) v1 v2 v3 v4 v5 M := hw
      delta f_X5_best_37 at hw
      refine lv_iload hx hb dX5_best_37 (lv_at hl 5 rfl) ?_
      refine lv_bipush hx hb dX5_best_39 bp_20 ?_
      refine lv_icmp_gt (tgt := 105) hx hb dX5_best_41 (by decide) (fun hc => ?_) (fun hc => ?_)
      · have hw := hw.1 hc
        refine lv_iload_n hx hb dX5_best_105 rfl (lv_at hl 2 rfl) ?_
        refine lv_if_ne (tgt := 114) hx hb dX5_best_106 (by decide) (fun hc => ?_) (fun hc => ?_)
        · have hw := hw.1 hc
          refine lv_iload_n hx hb dX5_best_114 rfl (lv_at hl 3 rfl) ?_
          exact r_i C hP hS hw dX5_best_115
        · have hw := hw.2 hc
          refine lv_iload hx hb dX5_best_109 (lv_at hl 4 rfl) ?_
          refine lv_goto (tgt := 115) hx hb dX5_best_111 (by decide) ?_
          exact r_i C hP hS hw dX5_best_115
      · have hw := hw.2 hc
        refine lv_iconst hx hb dX5_best_44 ic_0 ?_
        refine lv_istore (lv' := [(6, .int (0 : Int32)), (0, .ref (kb K + 0)), (1, .int v1), (2, .int v2), (3, .int v3), (4, .int v4), (5, .int v5)]) hx hb dX5_best_45 hl (by decide) rfl (fun ls hl => ?_)
        exact ih.2.1 _ _ _ _ _ _ _ _ _ _ hw hP hS (lv_sub hl [1, 2, 3, 4, 5, 6, 0] rfl)
    · intro v1 v2 v3 v4 v5 v6 M H locs ls hw hP hS hl
      have hw : f_X5_best_47 Q (p_X5_best Q n) v1 v2 v3 v4 v5 v6 M := hw
      delta f_X5_best_47 at hw
      refine lv_iload hx hb dX5_best_47 (lv_at hl 6 rfl) ?_
      refine lv_bipush hx hb dX5_best_49 bp_20 ?_
      refine lv_icmp_gt (tgt := 99) hx hb dX5_best_51 (by decide) (fun hc => ?_) (fun hc => ?_)
      · have hw := hw.1 hc
        refine lv_iinc (v := (v5 + 1)) (lv' := [(5, .int (v5 + 1)), (0, .ref (kb K + 0)), (1, .int v1), (2, .int v2), (3, .int v3), (4, .int v4), (6, .int v6)]) hx hb dX5_best_99 hl (k := 5) rfl (by rw [ic_1]) (by decide) rfl (fun ls hl => ?_)
        refine lv_goto (tgt := 37) hx hb dX5_best_102 (by decide) ?_
        exact ih.1 _ _ _ _ _ _ _ _ _ hw hP hS (lv_sub hl [1, 2, 3, 4, 5, 0] rfl)
      · have hw := hw.2 hc
        refine lv_aload_n hx hb dX5_best_54 rfl (lv_at hl 0 rfl) ?_
        refine g_f C hP (by decide) (sX_0 K _) rfl hX5_best_X5 1 (by decide) kX5_best_f16 rfl dX5_best_55 ?_
        refine lv_iload hx hb dX5_best_58 (lv_at hl 5 rfl) ?_
        refine lv_iload hx hb dX5_best_60 (lv_at hl 6 rfl) ?_
        refine c_v (run_v (As := [.int v5, .int v6]) (rest := []) C hP hS (c_X0_movePole lay_7 hw) gX5_best_X0_movePole rfl dsX0_movePole rfl ⟨rfl, rfl⟩ ⟨Nat.le_of_ble_eq_true rfl, Nat.le_of_ble_eq_true rfl⟩ (by decide) (sX_7 K _) rfl hl.1 rfl (Nat.le_of_ble_eq_true rfl) dX5_best_62 ⟨Nat.le_of_ble_eq_true rfl, Nat.le_of_ble_eq_true rfl⟩) hS (fun M_6 H locs hw hP hS => ?_)
        refine lv_aload_n hx hb dX5_best_65 rfl (lv_at hl 0 rfl) ?_
        refine g_f C hP (by decide) (sX_0 K _) rfl hX5_best_X5 1 (by decide) kX5_best_f16 rfl dX5_best_66 ?_
        refine lv_iload_n hx hb dX5_best_69 rfl (lv_at hl 1 rfl) ?_
        refine c_i (run_v (As := [.int v1]) (rest := []) C hP hS (c_X0_errorOf lay_7 hw) gX5_best_X0_errorOf rfl dsX0_errorOf rfl ⟨rfl, rfl⟩ ⟨Nat.le_of_ble_eq_true rfl, Nat.le_of_ble_eq_true rfl⟩ (by decide) (sX_7 K _) rfl hl.1 rfl (Nat.le_of_ble_eq_true rfl) dX5_best_70 ⟨Nat.le_of_ble_eq_true rfl, Nat.le_of_ble_eq_true rfl⟩) hS (fun r_8 M_7 H locs hw hP hS => ?_)
        refine lv_istore (lv' := [(7, .int r_8), (0, .ref (kb K + 0)), (1, .int v1), (2, .int v2), (3, .int v3), (4, .int v4), (5, .int v5), (6, .int v6)]) hx hb dX5_best_73 hl (by decide) rfl (fun ls hl => ?_)
        refine lv_iload hx hb dX5_best_75 (lv_at hl 0 rfl) ?_
        refine lv_iload_n hx hb dX5_best_77 rfl (lv_at hl 4 rfl) ?_
        refine lv_icmp_ge (tgt := 93) hx hb dX5_best_78 (by decide) (fun hc => ?_) (fun hc => ?_)
        · have hw := hw.1 hc
          exact ih.2.2 _ _ _ _ _ _ _ _ _ _ hw hP hS (lv_sub hl [1, 2, 3, 4, 5, 6, 7] rfl)
        · have hw := hw.2 hc
          refine lv_iload hx hb dX5_best_81 (lv_at hl 0 rfl) ?_
          refine lv_istore_n (lv' := [(3, .int r_8), (7, .int r_8), (0, .ref (kb K + 0)), (1, .int v1), (2, .int v2), (4, .int v4), (5, .int v5), (6, .int v6)]) hx hb dX5_best_83 rfl hl (by decide) rfl (fun ls hl => ?_)
          refine lv_iload hx hb dX5_best_84 (lv_at hl 6 rfl) ?_
          refine lv_iload hx hb dX5_best_86 (lv_at hl 7 rfl) ?_
          refine c_i (run_s (As := [.int v5, .int v6]) (rest := []) C hP hS (c_X5_pair hw) gX5_best_X5_pair rfl dsX5_pair rfl ⟨rfl, rfl⟩ ⟨Nat.le_of_ble_eq_true rfl, Nat.le_of_ble_eq_true rfl⟩ hl.1 rfl (Nat.le_of_ble_eq_true rfl) dX5_best_88 ⟨Nat.le_of_ble_eq_true rfl, Nat.le_of_ble_eq_true rfl⟩) hS (fun r_10 M_9 H locs hw hP hS => ?_)
          refine lv_istore (lv' := [(4, .int r_10), (3, .int r_8), (7, .int r_8), (0, .ref (kb K + 0)), (1, .int v1), (2, .int v2), (5, .int v5), (6, .int v6)]) hx hb dX5_best_91 hl (by decide) rfl (fun ls hl => ?_)
          exact ih.2.2 _ _ _ _ _ _ _ _ _ _ hw hP hS (lv_sub hl [3, 4, 5, 1, 0, 6, 7] rfl)
    · intro v1 v2 v3 v4 v5 v6 M H locs ls hw hP hS hl
      have hw : f_X5_best_93 Q (p_X5_best Q n) v1 v2 v3 v4 v5 v6 M := hw
      delta f_X5_best_93 at hw
      refine lv_iinc (v := (v6 + 1)) (lv' := [(6, .int (v6 + 1)), (0, .ref (kb K + 0)), (1, .int v1), (2, .int v2), (3, .int v3), (4, .int v4), (5, .int v5)]) hx hb dX5_best_93 hl (k := 6) rfl (by rw [ic_1]) (by decide) rfl (fun ls hl => ?_)
      refine lv_goto (tgt := 47) hx hb dX5_best_96 (by decide) ?_
      exact ih.2.1 _ _ _ _ _ _ _ _ _ _ hw hP hS (lv_sub hl [1, 2, 3, 4, 5, 6, 0] rfl)
theorem dsX5_best : yX5_best.cls = RX5 ∧ yX5_best.cls ≠ "java/lang/invoke/MethodHandle" ∧ yX5_best.cls ≠ "java/lang/invoke/VarHandle" ∧ (parseMethodDescriptor yX5_best.desc).map (fun d => d.parameters.length) = some 2 := by decide +kernel
set_option maxRecDepth 100000 in
set_option maxHeartbeats 4000000 in
theorem c_X5_best {l : Launch} {K : wC} {v1 : Int32} {v2 : Int32} {M : Mem} {Q : Int32 → Mem → Prop} (hw : q_X5_best v1 v2 M Q) : metI l yX5_best wsX5_best rmX5_best shX 51 K [.ref (kb K + 0), .int v1, .int v2] M Q := by
  refine met_of (cc := cX5_best) (maxL := 8) (ret := (some .int)) (own := RX5) (by decide) rfl rfl (Nat.le_of_ble_eq_true rfl) ?_
  intro p e s m below meth c ls C hl hP hS
  have hl : lv_has ls 8 [(0, .ref (kb K + 0)), (1, .int v1), (2, .int v2)] := hl
  obtain ⟨hx, hb, hml, hown, hts, hr, hlk, hK⟩ := id C
  have hP0 := hP
  obtain ⟨n, hw⟩ := hw
  have ih := b_X5_best (l := l) (e := e) (below := below) (Q := Q) C n
  delta e_X5_best at hw
  refine lv_aload_n hx hb dX5_best_0 rfl (lv_at hl 0 rfl) ?_
  refine lv_iload_n hx hb dX5_best_1 rfl (lv_at hl 1 rfl) ?_
  refine c_i (run_v (As := [.int v1]) (rest := []) C hP hS (c_X5_hasWheel hw) gX5_best_X5_hasWheel rfl dsX5_hasWheel rfl ⟨rfl, rfl⟩ ⟨Nat.le_of_ble_eq_true rfl, Nat.le_of_ble_eq_true rfl⟩ (by decide) (sX_0 K _) rfl hl.1 rfl (Nat.le_of_ble_eq_true rfl) dX5_best_2 ⟨Nat.le_of_ble_eq_true rfl, Nat.le_of_ble_eq_true rfl⟩) hS (fun r_2 M_1 H locs hw hP hS => ?_)
  refine lv_if_eq (tgt := 15) hx hb dX5_best_5 (by decide) (fun hc => ?_) (fun hc => ?_)
  · have hw := hw.1 hc
    refine lv_iconst hx hb dX5_best_15 ic_m1 ?_
    exact r_i C hP hS hw dX5_best_16
  · have hw := hw.2 hc
    refine lv_iload_n hx hb dX5_best_8 rfl (lv_at hl 2 rfl) ?_
    refine c_i (run_s (As := [.int v2]) (rest := []) C hP hS (c_X5_isEither hw) gX5_best_X5_isEither rfl dsX5_isEither rfl ⟨rfl, rfl⟩ ⟨Nat.le_of_ble_eq_true rfl, Nat.le_of_ble_eq_true rfl⟩ hl.1 rfl (Nat.le_of_ble_eq_true rfl) dX5_best_9 ⟨Nat.le_of_ble_eq_true rfl, Nat.le_of_ble_eq_true rfl⟩) hS (fun r_4 M_3 H locs hw hP hS => ?_)
    refine lv_if_ne (tgt := 17) hx hb dX5_best_12 (by decide) (fun hc => ?_) (fun hc => ?_)
    · have hw := hw.1 hc
      refine lv_aload_n hx hb dX5_best_17 rfl (lv_at hl 0 rfl) ?_
      refine g_f C hP (by decide) (sX_0 K _) rfl hX5_best_X5 1 (by decide) kX5_best_f16 rfl dX5_best_18 ?_
      refine lv_aload_n hx hb dX5_best_21 rfl (lv_at hl 0 rfl) ?_
      refine g_f C hP (by decide) (sX_0 K _) rfl hX5_best_X5 0 (by decide) kX5_best_f10 rfl dX5_best_22 ?_
      refine c_v (run_v (As := [.ref (kb K + 1)]) (rest := []) C hP hS (c_X0_copyFrom lay_7 lay_1 hw) gX5_best_X0_copyFrom rfl dsX0_copyFrom rfl ⟨rfl, rfl⟩ ⟨Nat.le_of_ble_eq_true rfl, Nat.le_of_ble_eq_true rfl⟩ (by decide) (sX_7 K _) rfl hl.1 rfl (Nat.le_of_ble_eq_true rfl) dX5_best_25 ⟨Nat.le_of_ble_eq_true rfl, Nat.le_of_ble_eq_true rfl⟩) hS (fun M_5 H locs hw hP hS => ?_)
      refine lv_ldc hx hb hown (hts _ kX5_best_c214) dX5_best_28 ?_
      refine lv_istore_n (lv' := [(3, .int (1000000 : Int32)), (0, .ref (kb K + 0)), (1, .int v1), (2, .int v2)]) hx hb dX5_best_30 rfl hl (by decide) rfl (fun ls hl => ?_)
      refine lv_iconst hx hb dX5_best_31 ic_0 ?_
      refine lv_istore (lv' := [(4, .int (0 : Int32)), (3, .int (1000000 : Int32)), (0, .ref (kb K + 0)), (1, .int v1), (2, .int v2)]) hx hb dX5_best_32 hl (by decide) rfl (fun ls hl => ?_)
      refine lv_iconst hx hb dX5_best_34 ic_0 ?_
      refine lv_istore (lv' := [(5, .int (0 : Int32)), (4, .int (0 : Int32)), (3, .int (1000000 : Int32)), (0, .ref (kb K + 0)), (1, .int v1), (2, .int v2)]) hx hb dX5_best_35 hl (by decide) rfl (fun ls hl => ?_)
      exact ih.1 _ _ _ _ _ _ _ _ _ hw hP hS (lv_sub hl [3, 4, 5, 2, 1, 0] rfl)
    · have hw := hw.2 hc
      refine lv_iconst hx hb dX5_best_15 ic_m1 ?_
      exact r_i C hP hS hw dX5_best_16

theorem kX5_step_f16 : Cond.fieldLink RX5 16 (TX5 1).1 (TX5 1).2.1 (TX5 1).2.2.1 ∈ wsX5_step := List.mem_of_getElem? (i := 1) rfl
theorem hX5_step_X5 : ∀ w ∈ u_ws RX5 TX5 11, w ∈ wsX5_step := fun _ h => List.mem_cons_of_mem _ (List.mem_append_left _ (List.mem_append_right _ (h)))
theorem kX5_step_f10 : Cond.fieldLink RX5 10 (TX5 0).1 (TX5 0).2.1 (TX5 0).2.2.1 ∈ wsX5_step := List.mem_of_getElem? (i := 2) rfl
theorem kX5_step_c214 : Cond.constant RX5 214 (1000000) ∈ wsX5_step := List.mem_of_getElem? (i := 3) rfl
theorem kX5_step_f142 : Cond.fieldLink RX5 142 (TX0 4).1 (TX0 4).2.1 (TX0 4).2.2.1 ∈ wsX5_step := List.mem_of_getElem? (i := 4) rfl
theorem hX5_step_X0 : ∀ w ∈ u_ws RX0 TX0 10, w ∈ wsX5_step := fun _ h => List.mem_cons_of_mem _ (List.mem_append_right _ (h))
abbrev rmX5_step : Room := { frames := 4, cells := 0, slots := 0, locals := 89 }
abbrev t_X5_step : Type := (Int32 → Int32 → Int32 → Int32 → Int32 → Mem → Prop) × (Int32 → Int32 → Int32 → Int32 → Int32 → Mem → Prop)
def f_X5_step_37 (Q : Int32 → Mem → Prop) (r : t_X5_step) (v1 : Int32) (v2 : Int32) (v3 : Int32) (v4 : Int32) (v5 : Int32) (M : Mem) : Prop := (((9 : Int32) < v5 → ((¬ v2 = 0 → Q v3 M) ∧ (v2 = 0 → Q v4 M))) ∧ (¬ (9 : Int32) < v5 → vp_in v1 4 ∧ q_X0_errorOf 7 v1 (mU M 11 v1.toNatClampNeg v5) (fun r_8 M_7 => ((v3 < r_8 → r.2 v1 v2 v3 v4 v5 M_7) ∧ (¬ v3 < r_8 → r.2 v1 v2 r_8 v5 v5 M_7)))))
def f_X5_step_78 (Q : Int32 → Mem → Prop) (r : t_X5_step) (v1 : Int32) (v2 : Int32) (v3 : Int32) (v4 : Int32) (v5 : Int32) (M : Mem) : Prop := r.1 v1 v2 v3 v4 (v5 + 1) M
def p_X5_step (Q : Int32 → Mem → Prop) : Nat → t_X5_step
  | 0 => (fun _ _ _ _ _ _ => False, fun _ _ _ _ _ _ => False)
  | n + 1 => (f_X5_step_37 Q (p_X5_step Q n), f_X5_step_78 Q (p_X5_step Q n))
def e_X5_step (v1 : Int32) (v2 : Int32) (Q : Int32 → Mem → Prop) (r : t_X5_step) (M : Mem) : Prop := q_X5_hasWheel v1 M (fun r_2 M_1 => ((r_2 = 0 → Q (-1 : Int32) M_1) ∧ (¬ r_2 = 0 → q_X5_isEither v2 M_1 (fun r_4 M_3 => ((¬ r_4 = 0 → q_X0_copyFrom 7 1 M_3 (fun M_5 => r.1 v1 v2 (1000000 : Int32) (0 : Int32) (1 : Int32) M_5)) ∧ (r_4 = 0 → Q (-1 : Int32) M_3))))))
def q_X5_step (v1 : Int32) (v2 : Int32) (M : Mem) (Q : Int32 → Mem → Prop) : Prop := ∃ n : Nat, e_X5_step v1 v2 Q (p_X5_step Q n) M
set_option maxRecDepth 100000 in
set_option maxHeartbeats 4000000 in
theorem b_X5_step {l : Launch} {K : wC} {Q : Int32 → Mem → Prop} {p : Program} {e : Env} {s : State} {m : MethodId} {args : Array Value} {below : List Frame} {meth : Method} {c : Code} (C : cx 51 K p s m args meth c cX5_step 7 wsX5_step RX5 (some .int)) : ∀ n : Nat, (∀ (v1 : Int32) (v2 : Int32) (v3 : Int32) (v4 : Int32) (v5 : Int32) (M : Mem) (H : Heap) (locs : List Loc) (ls : Array Slot), (p_X5_step Q n).1 v1 v2 v3 v4 v5 M → wP shX 51 K M H → va_S (wA 51 K) s.heap H locs → lv_has ls 7 [(0, .ref (kb K + 0)), (1, .int v1), (2, .int v2), (3, .int v3), (4, .int v4), (5, .int v5)] → W p l e rmX5_step s m args below meth c H locs 0 0 (MQ below (va_Qi Q (wE shX 51 K) (wA 51 K)) args s 0 0 (wA 51 K)) (F0 m 37 ls [])) ∧ (∀ (v1 : Int32) (v2 : Int32) (v3 : Int32) (v4 : Int32) (v5 : Int32) (M : Mem) (H : Heap) (locs : List Loc) (ls : Array Slot), (p_X5_step Q n).2 v1 v2 v3 v4 v5 M → wP shX 51 K M H → va_S (wA 51 K) s.heap H locs → lv_has ls 7 [(0, .ref (kb K + 0)), (1, .int v1), (2, .int v2), (3, .int v3), (4, .int v4), (5, .int v5)] → W p l e rmX5_step s m args below meth c H locs 0 0 (MQ below (va_Qi Q (wE shX 51 K) (wA 51 K)) args s 0 0 (wA 51 K)) (F0 m 78 ls [])) := by
  obtain ⟨hx, hb, hml, hown, hts, hr, hlk, hK⟩ := id C
  intro n
  induction n with
  | zero => exact ⟨fun _ _ _ _ _ _ _ _ _ hw _ _ _ => False.elim hw, fun _ _ _ _ _ _ _ _ _ hw _ _ _ => False.elim hw⟩
  | succ n ih =>
    refine ⟨?_, ?_⟩
    · intro v1 v2 v3 v4 v5 M H locs ls hw hP hS hl
      have hw : f_X5_step_37 Q (p_X5_step Q n) v1 v2 v3 v4 v5 M := hw
      delta f_X5_step_37 at hw
      refine lv_iload hx hb dX5_step_37 (lv_at hl 5 rfl) ?_
      refine lv_bipush hx hb dX5_step_39 bp_9 ?_
      refine lv_icmp_gt (tgt := 84) hx hb dX5_step_41 (by decide) (fun hc => ?_) (fun hc => ?_)
      · have hw := hw.1 hc
        refine lv_iload_n hx hb dX5_step_84 rfl (lv_at hl 2 rfl) ?_
        refine lv_if_ne (tgt := 93) hx hb dX5_step_85 (by decide) (fun hc => ?_) (fun hc => ?_)
        · have hw := hw.1 hc
          refine lv_iload_n hx hb dX5_step_93 rfl (lv_at hl 3 rfl) ?_
          exact r_i C hP hS hw dX5_step_94
        · have hw := hw.2 hc
          refine lv_iload hx hb dX5_step_88 (lv_at hl 4 rfl) ?_
          refine lv_goto (tgt := 94) hx hb dX5_step_90 (by decide) ?_
          exact r_i C hP hS hw dX5_step_94
      · have hw := hw.2 hc
        refine lv_aload_n hx hb dX5_step_44 rfl (lv_at hl 0 rfl) ?_
        refine g_f C hP (by decide) (sX_0 K _) rfl hX5_step_X5 1 (by decide) kX5_step_f16 rfl dX5_step_45 ?_
        refine g_f C hP (by decide) (sX_7 K _) rfl hX5_step_X0 4 (by decide) kX5_step_f142 rfl dX5_step_48 ?_
        refine lv_iload_n hx hb dX5_step_51 rfl (lv_at hl 1 rfl) ?_
        refine lv_iload hx hb dX5_step_52 (lv_at hl 5 rfl) ?_
        have hi_6 := hw.1
        have hw := hw.2
        refine a_is C hP hS (by decide) (sX_11 K) hi_6 rfl dX5_step_54 (fun H locs hP hS => ?_)
        refine lv_aload_n hx hb dX5_step_55 rfl (lv_at hl 0 rfl) ?_
        refine g_f C hP (by decide) (sX_0 K _) rfl hX5_step_X5 1 (by decide) kX5_step_f16 rfl dX5_step_56 ?_
        refine lv_iload_n hx hb dX5_step_59 rfl (lv_at hl 1 rfl) ?_
        refine c_i (run_v (As := [.int v1]) (rest := []) C hP hS (c_X0_errorOf lay_7 hw) gX5_step_X0_errorOf rfl dsX0_errorOf rfl ⟨rfl, rfl⟩ ⟨Nat.le_of_ble_eq_true rfl, Nat.le_of_ble_eq_true rfl⟩ (by decide) (sX_7 K _) rfl hl.1 rfl (Nat.le_of_ble_eq_true rfl) dX5_step_60 ⟨Nat.le_of_ble_eq_true rfl, Nat.le_of_ble_eq_true rfl⟩) hS (fun r_8 M_7 H locs hw hP hS => ?_)
        refine lv_istore (lv' := [(6, .int r_8), (0, .ref (kb K + 0)), (1, .int v1), (2, .int v2), (3, .int v3), (4, .int v4), (5, .int v5)]) hx hb dX5_step_63 hl (by decide) rfl (fun ls hl => ?_)
        refine lv_iload hx hb dX5_step_65 (lv_at hl 0 rfl) ?_
        refine lv_iload_n hx hb dX5_step_67 rfl (lv_at hl 4 rfl) ?_
        refine lv_icmp_gt (tgt := 78) hx hb dX5_step_68 (by decide) (fun hc => ?_) (fun hc => ?_)
        · have hw := hw.1 hc
          exact ih.2 _ _ _ _ _ _ _ _ _ hw hP hS (lv_sub hl [1, 2, 3, 4, 5, 6] rfl)
        · have hw := hw.2 hc
          refine lv_iload hx hb dX5_step_71 (lv_at hl 0 rfl) ?_
          refine lv_istore_n (lv' := [(3, .int r_8), (6, .int r_8), (0, .ref (kb K + 0)), (1, .int v1), (2, .int v2), (4, .int v4), (5, .int v5)]) hx hb dX5_step_73 rfl hl (by decide) rfl (fun ls hl => ?_)
          refine lv_iload hx hb dX5_step_74 (lv_at hl 6 rfl) ?_
          refine lv_istore (lv' := [(4, .int v5), (3, .int r_8), (6, .int r_8), (0, .ref (kb K + 0)), (1, .int v1), (2, .int v2), (5, .int v5)]) hx hb dX5_step_76 hl (by decide) rfl (fun ls hl => ?_)
          exact ih.2 _ _ _ _ _ _ _ _ _ hw hP hS (lv_sub hl [3, 4, 5, 1, 0, 6] rfl)
    · intro v1 v2 v3 v4 v5 M H locs ls hw hP hS hl
      have hw : f_X5_step_78 Q (p_X5_step Q n) v1 v2 v3 v4 v5 M := hw
      delta f_X5_step_78 at hw
      refine lv_iinc (v := (v5 + 1)) (lv' := [(5, .int (v5 + 1)), (0, .ref (kb K + 0)), (1, .int v1), (2, .int v2), (3, .int v3), (4, .int v4)]) hx hb dX5_step_78 hl (k := 5) rfl (by rw [ic_1]) (by decide) rfl (fun ls hl => ?_)
      refine lv_goto (tgt := 37) hx hb dX5_step_81 (by decide) ?_
      exact ih.1 _ _ _ _ _ _ _ _ _ hw hP hS (lv_sub hl [1, 2, 3, 4, 5, 0] rfl)
theorem dsX5_step : yX5_step.cls = RX5 ∧ yX5_step.cls ≠ "java/lang/invoke/MethodHandle" ∧ yX5_step.cls ≠ "java/lang/invoke/VarHandle" ∧ (parseMethodDescriptor yX5_step.desc).map (fun d => d.parameters.length) = some 2 := by decide +kernel
set_option maxRecDepth 100000 in
set_option maxHeartbeats 4000000 in
theorem c_X5_step {l : Launch} {K : wC} {v1 : Int32} {v2 : Int32} {M : Mem} {Q : Int32 → Mem → Prop} (hw : q_X5_step v1 v2 M Q) : metI l yX5_step wsX5_step rmX5_step shX 51 K [.ref (kb K + 0), .int v1, .int v2] M Q := by
  refine met_of (cc := cX5_step) (maxL := 7) (ret := (some .int)) (own := RX5) (by decide) rfl rfl (Nat.le_of_ble_eq_true rfl) ?_
  intro p e s m below meth c ls C hl hP hS
  have hl : lv_has ls 7 [(0, .ref (kb K + 0)), (1, .int v1), (2, .int v2)] := hl
  obtain ⟨hx, hb, hml, hown, hts, hr, hlk, hK⟩ := id C
  have hP0 := hP
  obtain ⟨n, hw⟩ := hw
  have ih := b_X5_step (l := l) (e := e) (below := below) (Q := Q) C n
  delta e_X5_step at hw
  refine lv_aload_n hx hb dX5_step_0 rfl (lv_at hl 0 rfl) ?_
  refine lv_iload_n hx hb dX5_step_1 rfl (lv_at hl 1 rfl) ?_
  refine c_i (run_v (As := [.int v1]) (rest := []) C hP hS (c_X5_hasWheel hw) gX5_step_X5_hasWheel rfl dsX5_hasWheel rfl ⟨rfl, rfl⟩ ⟨Nat.le_of_ble_eq_true rfl, Nat.le_of_ble_eq_true rfl⟩ (by decide) (sX_0 K _) rfl hl.1 rfl (Nat.le_of_ble_eq_true rfl) dX5_step_2 ⟨Nat.le_of_ble_eq_true rfl, Nat.le_of_ble_eq_true rfl⟩) hS (fun r_2 M_1 H locs hw hP hS => ?_)
  refine lv_if_eq (tgt := 15) hx hb dX5_step_5 (by decide) (fun hc => ?_) (fun hc => ?_)
  · have hw := hw.1 hc
    refine lv_iconst hx hb dX5_step_15 ic_m1 ?_
    exact r_i C hP hS hw dX5_step_16
  · have hw := hw.2 hc
    refine lv_iload_n hx hb dX5_step_8 rfl (lv_at hl 2 rfl) ?_
    refine c_i (run_s (As := [.int v2]) (rest := []) C hP hS (c_X5_isEither hw) gX5_step_X5_isEither rfl dsX5_isEither rfl ⟨rfl, rfl⟩ ⟨Nat.le_of_ble_eq_true rfl, Nat.le_of_ble_eq_true rfl⟩ hl.1 rfl (Nat.le_of_ble_eq_true rfl) dX5_step_9 ⟨Nat.le_of_ble_eq_true rfl, Nat.le_of_ble_eq_true rfl⟩) hS (fun r_4 M_3 H locs hw hP hS => ?_)
    refine lv_if_ne (tgt := 17) hx hb dX5_step_12 (by decide) (fun hc => ?_) (fun hc => ?_)
    · have hw := hw.1 hc
      refine lv_aload_n hx hb dX5_step_17 rfl (lv_at hl 0 rfl) ?_
      refine g_f C hP (by decide) (sX_0 K _) rfl hX5_step_X5 1 (by decide) kX5_step_f16 rfl dX5_step_18 ?_
      refine lv_aload_n hx hb dX5_step_21 rfl (lv_at hl 0 rfl) ?_
      refine g_f C hP (by decide) (sX_0 K _) rfl hX5_step_X5 0 (by decide) kX5_step_f10 rfl dX5_step_22 ?_
      refine c_v (run_v (As := [.ref (kb K + 1)]) (rest := []) C hP hS (c_X0_copyFrom lay_7 lay_1 hw) gX5_step_X0_copyFrom rfl dsX0_copyFrom rfl ⟨rfl, rfl⟩ ⟨Nat.le_of_ble_eq_true rfl, Nat.le_of_ble_eq_true rfl⟩ (by decide) (sX_7 K _) rfl hl.1 rfl (Nat.le_of_ble_eq_true rfl) dX5_step_25 ⟨Nat.le_of_ble_eq_true rfl, Nat.le_of_ble_eq_true rfl⟩) hS (fun M_5 H locs hw hP hS => ?_)
      refine lv_ldc hx hb hown (hts _ kX5_step_c214) dX5_step_28 ?_
      refine lv_istore_n (lv' := [(3, .int (1000000 : Int32)), (0, .ref (kb K + 0)), (1, .int v1), (2, .int v2)]) hx hb dX5_step_30 rfl hl (by decide) rfl (fun ls hl => ?_)
      refine lv_iconst hx hb dX5_step_31 ic_0 ?_
      refine lv_istore (lv' := [(4, .int (0 : Int32)), (3, .int (1000000 : Int32)), (0, .ref (kb K + 0)), (1, .int v1), (2, .int v2)]) hx hb dX5_step_32 hl (by decide) rfl (fun ls hl => ?_)
      refine lv_iconst hx hb dX5_step_34 ic_1 ?_
      refine lv_istore (lv' := [(5, .int (1 : Int32)), (4, .int (0 : Int32)), (3, .int (1000000 : Int32)), (0, .ref (kb K + 0)), (1, .int v1), (2, .int v2)]) hx hb dX5_step_35 hl (by decide) rfl (fun ls hl => ?_)
      exact ih.1 _ _ _ _ _ _ _ _ _ hw hP hS (lv_sub hl [3, 4, 5, 2, 1, 0] rfl)
    · have hw := hw.2 hc
      refine lv_iconst hx hb dX5_step_15 ic_m1 ?_
      exact r_i C hP hS hw dX5_step_16

theorem kX5_kind_f16 : Cond.fieldLink RX5 16 (TX5 1).1 (TX5 1).2.1 (TX5 1).2.2.1 ∈ wsX5_kind := List.mem_of_getElem? (i := 1) rfl
theorem hX5_kind_X5 : ∀ w ∈ u_ws RX5 TX5 11, w ∈ wsX5_kind := fun _ h => List.mem_cons_of_mem _ (List.mem_append_left _ (List.mem_append_right _ (h)))
theorem kX5_kind_f10 : Cond.fieldLink RX5 10 (TX5 0).1 (TX5 0).2.1 (TX5 0).2.2.1 ∈ wsX5_kind := List.mem_of_getElem? (i := 2) rfl
theorem kX5_kind_c214 : Cond.constant RX5 214 (1000000) ∈ wsX5_kind := List.mem_of_getElem? (i := 3) rfl
theorem kX5_kind_f139 : Cond.fieldLink RX5 139 (TX0 3).1 (TX0 3).2.1 (TX0 3).2.2.1 ∈ wsX5_kind := List.mem_of_getElem? (i := 4) rfl
theorem hX5_kind_X0 : ∀ w ∈ u_ws RX0 TX0 10, w ∈ wsX5_kind := fun _ h => List.mem_cons_of_mem _ (List.mem_append_right _ (h))
abbrev rmX5_kind : Room := { frames := 4, cells := 0, slots := 0, locals := 89 }
abbrev t_X5_kind : Type := (Int32 → Int32 → Int32 → Int32 → Int32 → Mem → Prop) × (Int32 → Int32 → Int32 → Int32 → Int32 → Mem → Prop)
def f_X5_kind_37 (Q : Int32 → Mem → Prop) (r : t_X5_kind) (v1 : Int32) (v2 : Int32) (v3 : Int32) (v4 : Int32) (v5 : Int32) (M : Mem) : Prop := (((4 : Int32) ≤ v5 → ((¬ v2 = 0 → Q v3 M) ∧ (v2 = 0 → Q v4 M))) ∧ (¬ (4 : Int32) ≤ v5 → vp_in v1 4 ∧ q_X0_errorOf 7 v1 (mU M 10 v1.toNatClampNeg v5) (fun r_8 M_7 => ((v3 ≤ r_8 → r.2 v1 v2 v3 v4 v5 M_7) ∧ (¬ v3 ≤ r_8 → r.2 v1 v2 r_8 v5 v5 M_7)))))
def f_X5_kind_77 (Q : Int32 → Mem → Prop) (r : t_X5_kind) (v1 : Int32) (v2 : Int32) (v3 : Int32) (v4 : Int32) (v5 : Int32) (M : Mem) : Prop := r.1 v1 v2 v3 v4 (v5 + 1) M
def p_X5_kind (Q : Int32 → Mem → Prop) : Nat → t_X5_kind
  | 0 => (fun _ _ _ _ _ _ => False, fun _ _ _ _ _ _ => False)
  | n + 1 => (f_X5_kind_37 Q (p_X5_kind Q n), f_X5_kind_77 Q (p_X5_kind Q n))
def e_X5_kind (v1 : Int32) (v2 : Int32) (Q : Int32 → Mem → Prop) (r : t_X5_kind) (M : Mem) : Prop := q_X5_hasWheel v1 M (fun r_2 M_1 => ((r_2 = 0 → Q (-1 : Int32) M_1) ∧ (¬ r_2 = 0 → q_X5_isEither v2 M_1 (fun r_4 M_3 => ((¬ r_4 = 0 → q_X0_copyFrom 7 1 M_3 (fun M_5 => r.1 v1 v2 (1000000 : Int32) (0 : Int32) (0 : Int32) M_5)) ∧ (r_4 = 0 → Q (-1 : Int32) M_3))))))
def q_X5_kind (v1 : Int32) (v2 : Int32) (M : Mem) (Q : Int32 → Mem → Prop) : Prop := ∃ n : Nat, e_X5_kind v1 v2 Q (p_X5_kind Q n) M
set_option maxRecDepth 100000 in
set_option maxHeartbeats 4000000 in
theorem b_X5_kind {l : Launch} {K : wC} {Q : Int32 → Mem → Prop} {p : Program} {e : Env} {s : State} {m : MethodId} {args : Array Value} {below : List Frame} {meth : Method} {c : Code} (C : cx 51 K p s m args meth c cX5_kind 7 wsX5_kind RX5 (some .int)) : ∀ n : Nat, (∀ (v1 : Int32) (v2 : Int32) (v3 : Int32) (v4 : Int32) (v5 : Int32) (M : Mem) (H : Heap) (locs : List Loc) (ls : Array Slot), (p_X5_kind Q n).1 v1 v2 v3 v4 v5 M → wP shX 51 K M H → va_S (wA 51 K) s.heap H locs → lv_has ls 7 [(0, .ref (kb K + 0)), (1, .int v1), (2, .int v2), (3, .int v3), (4, .int v4), (5, .int v5)] → W p l e rmX5_kind s m args below meth c H locs 0 0 (MQ below (va_Qi Q (wE shX 51 K) (wA 51 K)) args s 0 0 (wA 51 K)) (F0 m 37 ls [])) ∧ (∀ (v1 : Int32) (v2 : Int32) (v3 : Int32) (v4 : Int32) (v5 : Int32) (M : Mem) (H : Heap) (locs : List Loc) (ls : Array Slot), (p_X5_kind Q n).2 v1 v2 v3 v4 v5 M → wP shX 51 K M H → va_S (wA 51 K) s.heap H locs → lv_has ls 7 [(0, .ref (kb K + 0)), (1, .int v1), (2, .int v2), (3, .int v3), (4, .int v4), (5, .int v5)] → W p l e rmX5_kind s m args below meth c H locs 0 0 (MQ below (va_Qi Q (wE shX 51 K) (wA 51 K)) args s 0 0 (wA 51 K)) (F0 m 77 ls [])) := by
  obtain ⟨hx, hb, hml, hown, hts, hr, hlk, hK⟩ := id C
  intro n
  induction n with
  | zero => exact ⟨fun _ _ _ _ _ _ _ _ _ hw _ _ _ => False.elim hw, fun _ _ _ _ _ _ _ _ _ hw _ _ _ => False.elim hw⟩
  | succ n ih =>
    refine ⟨?_, ?_⟩
    · intro v1 v2 v3 v4 v5 M H locs ls hw hP hS hl
      have hw : f_X5_kind_37 Q (p_X5_kind Q n) v1 v2 v3 v4 v5 M := hw
      delta f_X5_kind_37 at hw
      refine lv_iload hx hb dX5_kind_37 (lv_at hl 5 rfl) ?_
      refine lv_iconst hx hb dX5_kind_39 ic_4 ?_
      refine lv_icmp_ge (tgt := 83) hx hb dX5_kind_40 (by decide) (fun hc => ?_) (fun hc => ?_)
      · have hw := hw.1 hc
        refine lv_iload_n hx hb dX5_kind_83 rfl (lv_at hl 2 rfl) ?_
        refine lv_if_ne (tgt := 92) hx hb dX5_kind_84 (by decide) (fun hc => ?_) (fun hc => ?_)
        · have hw := hw.1 hc
          refine lv_iload_n hx hb dX5_kind_92 rfl (lv_at hl 3 rfl) ?_
          exact r_i C hP hS hw dX5_kind_93
        · have hw := hw.2 hc
          refine lv_iload hx hb dX5_kind_87 (lv_at hl 4 rfl) ?_
          refine lv_goto (tgt := 93) hx hb dX5_kind_89 (by decide) ?_
          exact r_i C hP hS hw dX5_kind_93
      · have hw := hw.2 hc
        refine lv_aload_n hx hb dX5_kind_43 rfl (lv_at hl 0 rfl) ?_
        refine g_f C hP (by decide) (sX_0 K _) rfl hX5_kind_X5 1 (by decide) kX5_kind_f16 rfl dX5_kind_44 ?_
        refine g_f C hP (by decide) (sX_7 K _) rfl hX5_kind_X0 3 (by decide) kX5_kind_f139 rfl dX5_kind_47 ?_
        refine lv_iload_n hx hb dX5_kind_50 rfl (lv_at hl 1 rfl) ?_
        refine lv_iload hx hb dX5_kind_51 (lv_at hl 5 rfl) ?_
        have hi_6 := hw.1
        have hw := hw.2
        refine a_is C hP hS (by decide) (sX_10 K) hi_6 rfl dX5_kind_53 (fun H locs hP hS => ?_)
        refine lv_aload_n hx hb dX5_kind_54 rfl (lv_at hl 0 rfl) ?_
        refine g_f C hP (by decide) (sX_0 K _) rfl hX5_kind_X5 1 (by decide) kX5_kind_f16 rfl dX5_kind_55 ?_
        refine lv_iload_n hx hb dX5_kind_58 rfl (lv_at hl 1 rfl) ?_
        refine c_i (run_v (As := [.int v1]) (rest := []) C hP hS (c_X0_errorOf lay_7 hw) gX5_kind_X0_errorOf rfl dsX0_errorOf rfl ⟨rfl, rfl⟩ ⟨Nat.le_of_ble_eq_true rfl, Nat.le_of_ble_eq_true rfl⟩ (by decide) (sX_7 K _) rfl hl.1 rfl (Nat.le_of_ble_eq_true rfl) dX5_kind_59 ⟨Nat.le_of_ble_eq_true rfl, Nat.le_of_ble_eq_true rfl⟩) hS (fun r_8 M_7 H locs hw hP hS => ?_)
        refine lv_istore (lv' := [(6, .int r_8), (0, .ref (kb K + 0)), (1, .int v1), (2, .int v2), (3, .int v3), (4, .int v4), (5, .int v5)]) hx hb dX5_kind_62 hl (by decide) rfl (fun ls hl => ?_)
        refine lv_iload hx hb dX5_kind_64 (lv_at hl 0 rfl) ?_
        refine lv_iload_n hx hb dX5_kind_66 rfl (lv_at hl 4 rfl) ?_
        refine lv_icmp_ge (tgt := 77) hx hb dX5_kind_67 (by decide) (fun hc => ?_) (fun hc => ?_)
        · have hw := hw.1 hc
          exact ih.2 _ _ _ _ _ _ _ _ _ hw hP hS (lv_sub hl [1, 2, 3, 4, 5, 6] rfl)
        · have hw := hw.2 hc
          refine lv_iload hx hb dX5_kind_70 (lv_at hl 0 rfl) ?_
          refine lv_istore_n (lv' := [(3, .int r_8), (6, .int r_8), (0, .ref (kb K + 0)), (1, .int v1), (2, .int v2), (4, .int v4), (5, .int v5)]) hx hb dX5_kind_72 rfl hl (by decide) rfl (fun ls hl => ?_)
          refine lv_iload hx hb dX5_kind_73 (lv_at hl 6 rfl) ?_
          refine lv_istore (lv' := [(4, .int v5), (3, .int r_8), (6, .int r_8), (0, .ref (kb K + 0)), (1, .int v1), (2, .int v2), (5, .int v5)]) hx hb dX5_kind_75 hl (by decide) rfl (fun ls hl => ?_)
          exact ih.2 _ _ _ _ _ _ _ _ _ hw hP hS (lv_sub hl [3, 4, 5, 1, 0, 6] rfl)
    · intro v1 v2 v3 v4 v5 M H locs ls hw hP hS hl
      have hw : f_X5_kind_77 Q (p_X5_kind Q n) v1 v2 v3 v4 v5 M := hw
      delta f_X5_kind_77 at hw
      refine lv_iinc (v := (v5 + 1)) (lv' := [(5, .int (v5 + 1)), (0, .ref (kb K + 0)), (1, .int v1), (2, .int v2), (3, .int v3), (4, .int v4)]) hx hb dX5_kind_77 hl (k := 5) rfl (by rw [ic_1]) (by decide) rfl (fun ls hl => ?_)
      refine lv_goto (tgt := 37) hx hb dX5_kind_80 (by decide) ?_
      exact ih.1 _ _ _ _ _ _ _ _ _ hw hP hS (lv_sub hl [1, 2, 3, 4, 5, 0] rfl)
theorem dsX5_kind : yX5_kind.cls = RX5 ∧ yX5_kind.cls ≠ "java/lang/invoke/MethodHandle" ∧ yX5_kind.cls ≠ "java/lang/invoke/VarHandle" ∧ (parseMethodDescriptor yX5_kind.desc).map (fun d => d.parameters.length) = some 2 := by decide +kernel
set_option maxRecDepth 100000 in
set_option maxHeartbeats 4000000 in
theorem c_X5_kind {l : Launch} {K : wC} {v1 : Int32} {v2 : Int32} {M : Mem} {Q : Int32 → Mem → Prop} (hw : q_X5_kind v1 v2 M Q) : metI l yX5_kind wsX5_kind rmX5_kind shX 51 K [.ref (kb K + 0), .int v1, .int v2] M Q := by
  refine met_of (cc := cX5_kind) (maxL := 7) (ret := (some .int)) (own := RX5) (by decide) rfl rfl (Nat.le_of_ble_eq_true rfl) ?_
  intro p e s m below meth c ls C hl hP hS
  have hl : lv_has ls 7 [(0, .ref (kb K + 0)), (1, .int v1), (2, .int v2)] := hl
  obtain ⟨hx, hb, hml, hown, hts, hr, hlk, hK⟩ := id C
  have hP0 := hP
  obtain ⟨n, hw⟩ := hw
  have ih := b_X5_kind (l := l) (e := e) (below := below) (Q := Q) C n
  delta e_X5_kind at hw
  refine lv_aload_n hx hb dX5_kind_0 rfl (lv_at hl 0 rfl) ?_
  refine lv_iload_n hx hb dX5_kind_1 rfl (lv_at hl 1 rfl) ?_
  refine c_i (run_v (As := [.int v1]) (rest := []) C hP hS (c_X5_hasWheel hw) gX5_kind_X5_hasWheel rfl dsX5_hasWheel rfl ⟨rfl, rfl⟩ ⟨Nat.le_of_ble_eq_true rfl, Nat.le_of_ble_eq_true rfl⟩ (by decide) (sX_0 K _) rfl hl.1 rfl (Nat.le_of_ble_eq_true rfl) dX5_kind_2 ⟨Nat.le_of_ble_eq_true rfl, Nat.le_of_ble_eq_true rfl⟩) hS (fun r_2 M_1 H locs hw hP hS => ?_)
  refine lv_if_eq (tgt := 15) hx hb dX5_kind_5 (by decide) (fun hc => ?_) (fun hc => ?_)
  · have hw := hw.1 hc
    refine lv_iconst hx hb dX5_kind_15 ic_m1 ?_
    exact r_i C hP hS hw dX5_kind_16
  · have hw := hw.2 hc
    refine lv_iload_n hx hb dX5_kind_8 rfl (lv_at hl 2 rfl) ?_
    refine c_i (run_s (As := [.int v2]) (rest := []) C hP hS (c_X5_isEither hw) gX5_kind_X5_isEither rfl dsX5_isEither rfl ⟨rfl, rfl⟩ ⟨Nat.le_of_ble_eq_true rfl, Nat.le_of_ble_eq_true rfl⟩ hl.1 rfl (Nat.le_of_ble_eq_true rfl) dX5_kind_9 ⟨Nat.le_of_ble_eq_true rfl, Nat.le_of_ble_eq_true rfl⟩) hS (fun r_4 M_3 H locs hw hP hS => ?_)
    refine lv_if_ne (tgt := 17) hx hb dX5_kind_12 (by decide) (fun hc => ?_) (fun hc => ?_)
    · have hw := hw.1 hc
      refine lv_aload_n hx hb dX5_kind_17 rfl (lv_at hl 0 rfl) ?_
      refine g_f C hP (by decide) (sX_0 K _) rfl hX5_kind_X5 1 (by decide) kX5_kind_f16 rfl dX5_kind_18 ?_
      refine lv_aload_n hx hb dX5_kind_21 rfl (lv_at hl 0 rfl) ?_
      refine g_f C hP (by decide) (sX_0 K _) rfl hX5_kind_X5 0 (by decide) kX5_kind_f10 rfl dX5_kind_22 ?_
      refine c_v (run_v (As := [.ref (kb K + 1)]) (rest := []) C hP hS (c_X0_copyFrom lay_7 lay_1 hw) gX5_kind_X0_copyFrom rfl dsX0_copyFrom rfl ⟨rfl, rfl⟩ ⟨Nat.le_of_ble_eq_true rfl, Nat.le_of_ble_eq_true rfl⟩ (by decide) (sX_7 K _) rfl hl.1 rfl (Nat.le_of_ble_eq_true rfl) dX5_kind_25 ⟨Nat.le_of_ble_eq_true rfl, Nat.le_of_ble_eq_true rfl⟩) hS (fun M_5 H locs hw hP hS => ?_)
      refine lv_ldc hx hb hown (hts _ kX5_kind_c214) dX5_kind_28 ?_
      refine lv_istore_n (lv' := [(3, .int (1000000 : Int32)), (0, .ref (kb K + 0)), (1, .int v1), (2, .int v2)]) hx hb dX5_kind_30 rfl hl (by decide) rfl (fun ls hl => ?_)
      refine lv_iconst hx hb dX5_kind_31 ic_0 ?_
      refine lv_istore (lv' := [(4, .int (0 : Int32)), (3, .int (1000000 : Int32)), (0, .ref (kb K + 0)), (1, .int v1), (2, .int v2)]) hx hb dX5_kind_32 hl (by decide) rfl (fun ls hl => ?_)
      refine lv_iconst hx hb dX5_kind_34 ic_0 ?_
      refine lv_istore (lv' := [(5, .int (0 : Int32)), (4, .int (0 : Int32)), (3, .int (1000000 : Int32)), (0, .ref (kb K + 0)), (1, .int v1), (2, .int v2)]) hx hb dX5_kind_35 hl (by decide) rfl (fun ls hl => ?_)
      exact ih.1 _ _ _ _ _ _ _ _ _ hw hP hS (lv_sub hl [3, 4, 5, 2, 1, 0] rfl)
    · have hw := hw.2 hc
      refine lv_iconst hx hb dX5_kind_15 ic_m1 ?_
      exact r_i C hP hS hw dX5_kind_16

theorem kX5_place_f16 : Cond.fieldLink RX5 16 (TX5 1).1 (TX5 1).2.1 (TX5 1).2.2.1 ∈ wsX5_place := List.mem_of_getElem? (i := 1) rfl
theorem hX5_place_X5 : ∀ w ∈ u_ws RX5 TX5 11, w ∈ wsX5_place := fun _ h => List.mem_cons_of_mem _ (List.mem_append_left _ (List.mem_append_right _ (h)))
theorem kX5_place_f10 : Cond.fieldLink RX5 10 (TX5 0).1 (TX5 0).2.1 (TX5 0).2.2.1 ∈ wsX5_place := List.mem_of_getElem? (i := 2) rfl
abbrev rmX5_place : Room := { frames := 3, cells := 0, slots := 0, locals := 68 }
abbrev t_X5_place : Type := (Int32 → Int32 → Int32 → Int32 → Int32 → Mem → Prop) × (Int32 → Int32 → Int32 → Int32 → Int32 → Int32 → Mem → Prop) × (Int32 → Int32 → Int32 → Int32 → Int32 → Int32 → Mem → Prop)
def f_X5_place_36 (Q : Int32 → Mem → Prop) (r : t_X5_place) (v1 : Int32) (v2 : Int32) (v3 : Int32) (v4 : Int32) (v5 : Int32) (M : Mem) : Prop := (((20 : Int32) < v5 → ((¬ v2 = 0 → Q v3 M) ∧ (v2 = 0 → Q v4 M))) ∧ (¬ (20 : Int32) < v5 → r.2.1 v1 v2 v3 v4 v5 (0 : Int32) M))
def f_X5_place_46 (Q : Int32 → Mem → Prop) (r : t_X5_place) (v1 : Int32) (v2 : Int32) (v3 : Int32) (v4 : Int32) (v5 : Int32) (v6 : Int32) (M : Mem) : Prop := (((20 : Int32) < v6 → r.1 v1 v2 v3 v4 (v5 + 1) M) ∧ (¬ (20 : Int32) < v6 → q_X0_moveCorner 7 v1 v5 v6 M (fun M_6 => q_X0_areaUnsigned 7 M_6 (fun r_8 M_7 => ((r_8 ≤ v3 → r.2.2 v1 v2 v3 v4 v5 v6 M_7) ∧ (¬ r_8 ≤ v3 → q_X5_pair v5 v6 M_7 (fun r_10 M_9 => r.2.2 v1 v2 r_8 r_10 v5 v6 M_9)))))))
def f_X5_place_92 (Q : Int32 → Mem → Prop) (r : t_X5_place) (v1 : Int32) (v2 : Int32) (v3 : Int32) (v4 : Int32) (v5 : Int32) (v6 : Int32) (M : Mem) : Prop := r.2.1 v1 v2 v3 v4 v5 (v6 + 1) M
def p_X5_place (Q : Int32 → Mem → Prop) : Nat → t_X5_place
  | 0 => (fun _ _ _ _ _ _ => False, fun _ _ _ _ _ _ _ => False, fun _ _ _ _ _ _ _ => False)
  | n + 1 => (f_X5_place_36 Q (p_X5_place Q n), f_X5_place_46 Q (p_X5_place Q n), f_X5_place_92 Q (p_X5_place Q n))
def e_X5_place (v1 : Int32) (v2 : Int32) (Q : Int32 → Mem → Prop) (r : t_X5_place) (M : Mem) : Prop := q_X5_hasCorner v1 M (fun r_2 M_1 => ((r_2 = 0 → Q (-1 : Int32) M_1) ∧ (¬ r_2 = 0 → q_X5_isEither v2 M_1 (fun r_4 M_3 => ((¬ r_4 = 0 → q_X0_copyFrom 7 1 M_3 (fun M_5 => r.1 v1 v2 (-1 : Int32) (0 : Int32) (0 : Int32) M_5)) ∧ (r_4 = 0 → Q (-1 : Int32) M_3))))))
def q_X5_place (v1 : Int32) (v2 : Int32) (M : Mem) (Q : Int32 → Mem → Prop) : Prop := ∃ n : Nat, e_X5_place v1 v2 Q (p_X5_place Q n) M
set_option maxRecDepth 100000 in
set_option maxHeartbeats 4000000 in
theorem b_X5_place {l : Launch} {K : wC} {Q : Int32 → Mem → Prop} {p : Program} {e : Env} {s : State} {m : MethodId} {args : Array Value} {below : List Frame} {meth : Method} {c : Code} (C : cx 51 K p s m args meth c cX5_place 8 wsX5_place RX5 (some .int)) : ∀ n : Nat, (∀ (v1 : Int32) (v2 : Int32) (v3 : Int32) (v4 : Int32) (v5 : Int32) (M : Mem) (H : Heap) (locs : List Loc) (ls : Array Slot), (p_X5_place Q n).1 v1 v2 v3 v4 v5 M → wP shX 51 K M H → va_S (wA 51 K) s.heap H locs → lv_has ls 8 [(0, .ref (kb K + 0)), (1, .int v1), (2, .int v2), (3, .int v3), (4, .int v4), (5, .int v5)] → W p l e rmX5_place s m args below meth c H locs 0 0 (MQ below (va_Qi Q (wE shX 51 K) (wA 51 K)) args s 0 0 (wA 51 K)) (F0 m 36 ls [])) ∧ (∀ (v1 : Int32) (v2 : Int32) (v3 : Int32) (v4 : Int32) (v5 : Int32) (v6 : Int32) (M : Mem) (H : Heap) (locs : List Loc) (ls : Array Slot), (p_X5_place Q n).2.1 v1 v2 v3 v4 v5 v6 M → wP shX 51 K M H → va_S (wA 51 K) s.heap H locs → lv_has ls 8 [(0, .ref (kb K + 0)), (1, .int v1), (2, .int v2), (3, .int v3), (4, .int v4), (5, .int v5), (6, .int v6)] → W p l e rmX5_place s m args below meth c H locs 0 0 (MQ below (va_Qi Q (wE shX 51 K) (wA 51 K)) args s 0 0 (wA 51 K)) (F0 m 46 ls [])) ∧ (∀ (v1 : Int32) (v2 : Int32) (v3 : Int32) (v4 : Int32) (v5 : Int32) (v6 : Int32) (M : Mem) (H : Heap) (locs : List Loc) (ls : Array Slot), (p_X5_place Q n).2.2 v1 v2 v3 v4 v5 v6 M → wP shX 51 K M H → va_S (wA 51 K) s.heap H locs → lv_has ls 8 [(0, .ref (kb K + 0)), (1, .int v1), (2, .int v2), (3, .int v3), (4, .int v4), (5, .int v5), (6, .int v6)] → W p l e rmX5_place s m args below meth c H locs 0 0 (MQ below (va_Qi Q (wE shX 51 K) (wA 51 K)) args s 0 0 (wA 51 K)) (F0 m 92 ls [])) := by
  obtain ⟨hx, hb, hml, hown, hts, hr, hlk, hK⟩ := id C
  intro n
  induction n with
  | zero => exact ⟨fun _ _ _ _ _ _ _ _ _ hw _ _ _ => False.elim hw, fun _ _ _ _ _ _ _ _ _ _ hw _ _ _ => False.elim hw, fun _ _ _ _ _ _ _ _ _ _ hw _ _ _ => False.elim hw⟩
  | succ n ih =>
    refine ⟨?_, ?_, ?_⟩
    · intro v1 v2 v3 v4 v5 M H locs ls hw hP hS hl
      have hw : f_X5_place_36 Q (p_X5_place Q n) v1 v2 v3 v4 v5 M := hw
      delta f_X5_place_36 at hw
      refine lv_iload hx hb dX5_place_36 (lv_at hl 5 rfl) ?_
      refine lv_bipush hx hb dX5_place_38 bp_20 ?_
      refine lv_icmp_gt (tgt := 104) hx hb dX5_place_40 (by decide) (fun hc => ?_) (fun hc => ?_)
      · have hw := hw.1 hc
        refine lv_iload_n hx hb dX5_place_104 rfl (lv_at hl 2 rfl) ?_
        refine lv_if_ne (tgt := 113) hx hb dX5_place_105 (by decide) (fun hc => ?_) (fun hc => ?_)
        · have hw := hw.1 hc
          refine lv_iload_n hx hb dX5_place_113 rfl (lv_at hl 3 rfl) ?_
          exact r_i C hP hS hw dX5_place_114
        · have hw := hw.2 hc
          refine lv_iload hx hb dX5_place_108 (lv_at hl 4 rfl) ?_
          refine lv_goto (tgt := 114) hx hb dX5_place_110 (by decide) ?_
          exact r_i C hP hS hw dX5_place_114
      · have hw := hw.2 hc
        refine lv_iconst hx hb dX5_place_43 ic_0 ?_
        refine lv_istore (lv' := [(6, .int (0 : Int32)), (0, .ref (kb K + 0)), (1, .int v1), (2, .int v2), (3, .int v3), (4, .int v4), (5, .int v5)]) hx hb dX5_place_44 hl (by decide) rfl (fun ls hl => ?_)
        exact ih.2.1 _ _ _ _ _ _ _ _ _ _ hw hP hS (lv_sub hl [1, 2, 3, 4, 5, 6, 0] rfl)
    · intro v1 v2 v3 v4 v5 v6 M H locs ls hw hP hS hl
      have hw : f_X5_place_46 Q (p_X5_place Q n) v1 v2 v3 v4 v5 v6 M := hw
      delta f_X5_place_46 at hw
      refine lv_iload hx hb dX5_place_46 (lv_at hl 6 rfl) ?_
      refine lv_bipush hx hb dX5_place_48 bp_20 ?_
      refine lv_icmp_gt (tgt := 98) hx hb dX5_place_50 (by decide) (fun hc => ?_) (fun hc => ?_)
      · have hw := hw.1 hc
        refine lv_iinc (v := (v5 + 1)) (lv' := [(5, .int (v5 + 1)), (0, .ref (kb K + 0)), (1, .int v1), (2, .int v2), (3, .int v3), (4, .int v4), (6, .int v6)]) hx hb dX5_place_98 hl (k := 5) rfl (by rw [ic_1]) (by decide) rfl (fun ls hl => ?_)
        refine lv_goto (tgt := 36) hx hb dX5_place_101 (by decide) ?_
        exact ih.1 _ _ _ _ _ _ _ _ _ hw hP hS (lv_sub hl [1, 2, 3, 4, 5, 0] rfl)
      · have hw := hw.2 hc
        refine lv_aload_n hx hb dX5_place_53 rfl (lv_at hl 0 rfl) ?_
        refine g_f C hP (by decide) (sX_0 K _) rfl hX5_place_X5 1 (by decide) kX5_place_f16 rfl dX5_place_54 ?_
        refine lv_iload_n hx hb dX5_place_57 rfl (lv_at hl 1 rfl) ?_
        refine lv_iload hx hb dX5_place_58 (lv_at hl 5 rfl) ?_
        refine lv_iload hx hb dX5_place_60 (lv_at hl 6 rfl) ?_
        refine c_v (run_v (As := [.int v1, .int v5, .int v6]) (rest := []) C hP hS (c_X0_moveCorner lay_7 hw) gX5_place_X0_moveCorner rfl dsX0_moveCorner rfl ⟨rfl, rfl⟩ ⟨Nat.le_of_ble_eq_true rfl, Nat.le_of_ble_eq_true rfl⟩ (by decide) (sX_7 K _) rfl hl.1 rfl (Nat.le_of_ble_eq_true rfl) dX5_place_62 ⟨Nat.le_of_ble_eq_true rfl, Nat.le_of_ble_eq_true rfl⟩) hS (fun M_6 H locs hw hP hS => ?_)
        refine lv_aload_n hx hb dX5_place_65 rfl (lv_at hl 0 rfl) ?_
        refine g_f C hP (by decide) (sX_0 K _) rfl hX5_place_X5 1 (by decide) kX5_place_f16 rfl dX5_place_66 ?_
        refine c_i (run_v (As := []) (rest := []) C hP hS (c_X0_areaUnsigned lay_7 hw) gX5_place_X0_areaUnsigned rfl dsX0_areaUnsigned rfl ⟨rfl, rfl⟩ ⟨Nat.le_of_ble_eq_true rfl, Nat.le_of_ble_eq_true rfl⟩ (by decide) (sX_7 K _) rfl hl.1 rfl (Nat.le_of_ble_eq_true rfl) dX5_place_69 ⟨Nat.le_of_ble_eq_true rfl, Nat.le_of_ble_eq_true rfl⟩) hS (fun r_8 M_7 H locs hw hP hS => ?_)
        refine lv_istore (lv' := [(7, .int r_8), (0, .ref (kb K + 0)), (1, .int v1), (2, .int v2), (3, .int v3), (4, .int v4), (5, .int v5), (6, .int v6)]) hx hb dX5_place_72 hl (by decide) rfl (fun ls hl => ?_)
        refine lv_iload hx hb dX5_place_74 (lv_at hl 0 rfl) ?_
        refine lv_iload_n hx hb dX5_place_76 rfl (lv_at hl 4 rfl) ?_
        refine lv_icmp_le (tgt := 92) hx hb dX5_place_77 (by decide) (fun hc => ?_) (fun hc => ?_)
        · have hw := hw.1 hc
          exact ih.2.2 _ _ _ _ _ _ _ _ _ _ hw hP hS (lv_sub hl [1, 2, 3, 4, 5, 6, 7] rfl)
        · have hw := hw.2 hc
          refine lv_iload hx hb dX5_place_80 (lv_at hl 0 rfl) ?_
          refine lv_istore_n (lv' := [(3, .int r_8), (7, .int r_8), (0, .ref (kb K + 0)), (1, .int v1), (2, .int v2), (4, .int v4), (5, .int v5), (6, .int v6)]) hx hb dX5_place_82 rfl hl (by decide) rfl (fun ls hl => ?_)
          refine lv_iload hx hb dX5_place_83 (lv_at hl 6 rfl) ?_
          refine lv_iload hx hb dX5_place_85 (lv_at hl 7 rfl) ?_
          refine c_i (run_s (As := [.int v5, .int v6]) (rest := []) C hP hS (c_X5_pair hw) gX5_place_X5_pair rfl dsX5_pair rfl ⟨rfl, rfl⟩ ⟨Nat.le_of_ble_eq_true rfl, Nat.le_of_ble_eq_true rfl⟩ hl.1 rfl (Nat.le_of_ble_eq_true rfl) dX5_place_87 ⟨Nat.le_of_ble_eq_true rfl, Nat.le_of_ble_eq_true rfl⟩) hS (fun r_10 M_9 H locs hw hP hS => ?_)
          refine lv_istore (lv' := [(4, .int r_10), (3, .int r_8), (7, .int r_8), (0, .ref (kb K + 0)), (1, .int v1), (2, .int v2), (5, .int v5), (6, .int v6)]) hx hb dX5_place_90 hl (by decide) rfl (fun ls hl => ?_)
          exact ih.2.2 _ _ _ _ _ _ _ _ _ _ hw hP hS (lv_sub hl [3, 4, 5, 1, 0, 6, 7] rfl)
    · intro v1 v2 v3 v4 v5 v6 M H locs ls hw hP hS hl
      have hw : f_X5_place_92 Q (p_X5_place Q n) v1 v2 v3 v4 v5 v6 M := hw
      delta f_X5_place_92 at hw
      refine lv_iinc (v := (v6 + 1)) (lv' := [(6, .int (v6 + 1)), (0, .ref (kb K + 0)), (1, .int v1), (2, .int v2), (3, .int v3), (4, .int v4), (5, .int v5)]) hx hb dX5_place_92 hl (k := 6) rfl (by rw [ic_1]) (by decide) rfl (fun ls hl => ?_)
      refine lv_goto (tgt := 46) hx hb dX5_place_95 (by decide) ?_
      exact ih.2.1 _ _ _ _ _ _ _ _ _ _ hw hP hS (lv_sub hl [1, 2, 3, 4, 5, 6, 0] rfl)
theorem dsX5_place : yX5_place.cls = RX5 ∧ yX5_place.cls ≠ "java/lang/invoke/MethodHandle" ∧ yX5_place.cls ≠ "java/lang/invoke/VarHandle" ∧ (parseMethodDescriptor yX5_place.desc).map (fun d => d.parameters.length) = some 2 := by decide +kernel
set_option maxRecDepth 100000 in
set_option maxHeartbeats 4000000 in
theorem c_X5_place {l : Launch} {K : wC} {v1 : Int32} {v2 : Int32} {M : Mem} {Q : Int32 → Mem → Prop} (hw : q_X5_place v1 v2 M Q) : metI l yX5_place wsX5_place rmX5_place shX 51 K [.ref (kb K + 0), .int v1, .int v2] M Q := by
  refine met_of (cc := cX5_place) (maxL := 8) (ret := (some .int)) (own := RX5) (by decide) rfl rfl (Nat.le_of_ble_eq_true rfl) ?_
  intro p e s m below meth c ls C hl hP hS
  have hl : lv_has ls 8 [(0, .ref (kb K + 0)), (1, .int v1), (2, .int v2)] := hl
  obtain ⟨hx, hb, hml, hown, hts, hr, hlk, hK⟩ := id C
  have hP0 := hP
  obtain ⟨n, hw⟩ := hw
  have ih := b_X5_place (l := l) (e := e) (below := below) (Q := Q) C n
  delta e_X5_place at hw
  refine lv_aload_n hx hb dX5_place_0 rfl (lv_at hl 0 rfl) ?_
  refine lv_iload_n hx hb dX5_place_1 rfl (lv_at hl 1 rfl) ?_
  refine c_i (run_v (As := [.int v1]) (rest := []) C hP hS (c_X5_hasCorner hw) gX5_place_X5_hasCorner rfl dsX5_hasCorner rfl ⟨rfl, rfl⟩ ⟨Nat.le_of_ble_eq_true rfl, Nat.le_of_ble_eq_true rfl⟩ (by decide) (sX_0 K _) rfl hl.1 rfl (Nat.le_of_ble_eq_true rfl) dX5_place_2 ⟨Nat.le_of_ble_eq_true rfl, Nat.le_of_ble_eq_true rfl⟩) hS (fun r_2 M_1 H locs hw hP hS => ?_)
  refine lv_if_eq (tgt := 15) hx hb dX5_place_5 (by decide) (fun hc => ?_) (fun hc => ?_)
  · have hw := hw.1 hc
    refine lv_iconst hx hb dX5_place_15 ic_m1 ?_
    exact r_i C hP hS hw dX5_place_16
  · have hw := hw.2 hc
    refine lv_iload_n hx hb dX5_place_8 rfl (lv_at hl 2 rfl) ?_
    refine c_i (run_s (As := [.int v2]) (rest := []) C hP hS (c_X5_isEither hw) gX5_place_X5_isEither rfl dsX5_isEither rfl ⟨rfl, rfl⟩ ⟨Nat.le_of_ble_eq_true rfl, Nat.le_of_ble_eq_true rfl⟩ hl.1 rfl (Nat.le_of_ble_eq_true rfl) dX5_place_9 ⟨Nat.le_of_ble_eq_true rfl, Nat.le_of_ble_eq_true rfl⟩) hS (fun r_4 M_3 H locs hw hP hS => ?_)
    refine lv_if_ne (tgt := 17) hx hb dX5_place_12 (by decide) (fun hc => ?_) (fun hc => ?_)
    · have hw := hw.1 hc
      refine lv_aload_n hx hb dX5_place_17 rfl (lv_at hl 0 rfl) ?_
      refine g_f C hP (by decide) (sX_0 K _) rfl hX5_place_X5 1 (by decide) kX5_place_f16 rfl dX5_place_18 ?_
      refine lv_aload_n hx hb dX5_place_21 rfl (lv_at hl 0 rfl) ?_
      refine g_f C hP (by decide) (sX_0 K _) rfl hX5_place_X5 0 (by decide) kX5_place_f10 rfl dX5_place_22 ?_
      refine c_v (run_v (As := [.ref (kb K + 1)]) (rest := []) C hP hS (c_X0_copyFrom lay_7 lay_1 hw) gX5_place_X0_copyFrom rfl dsX0_copyFrom rfl ⟨rfl, rfl⟩ ⟨Nat.le_of_ble_eq_true rfl, Nat.le_of_ble_eq_true rfl⟩ (by decide) (sX_7 K _) rfl hl.1 rfl (Nat.le_of_ble_eq_true rfl) dX5_place_25 ⟨Nat.le_of_ble_eq_true rfl, Nat.le_of_ble_eq_true rfl⟩) hS (fun M_5 H locs hw hP hS => ?_)
      refine lv_iconst hx hb dX5_place_28 ic_m1 ?_
      refine lv_istore_n (lv' := [(3, .int (-1 : Int32)), (0, .ref (kb K + 0)), (1, .int v1), (2, .int v2)]) hx hb dX5_place_29 rfl hl (by decide) rfl (fun ls hl => ?_)
      refine lv_iconst hx hb dX5_place_30 ic_0 ?_
      refine lv_istore (lv' := [(4, .int (0 : Int32)), (3, .int (-1 : Int32)), (0, .ref (kb K + 0)), (1, .int v1), (2, .int v2)]) hx hb dX5_place_31 hl (by decide) rfl (fun ls hl => ?_)
      refine lv_iconst hx hb dX5_place_33 ic_0 ?_
      refine lv_istore (lv' := [(5, .int (0 : Int32)), (4, .int (0 : Int32)), (3, .int (-1 : Int32)), (0, .ref (kb K + 0)), (1, .int v1), (2, .int v2)]) hx hb dX5_place_34 hl (by decide) rfl (fun ls hl => ?_)
      exact ih.1 _ _ _ _ _ _ _ _ _ hw hP hS (lv_sub hl [3, 4, 5, 2, 1, 0] rfl)
    · have hw := hw.2 hc
      refine lv_iconst hx hb dX5_place_15 ic_m1 ?_
      exact r_i C hP hS hw dX5_place_16

theorem kX5_swap_f16 : Cond.fieldLink RX5 16 (TX5 1).1 (TX5 1).2.1 (TX5 1).2.2.1 ∈ wsX5_swap := List.mem_of_getElem? (i := 1) rfl
theorem hX5_swap_X5 : ∀ w ∈ u_ws RX5 TX5 11, w ∈ wsX5_swap := fun _ h => List.mem_cons_of_mem _ (List.mem_append_left _ (List.mem_append_right _ (h)))
theorem kX5_swap_f10 : Cond.fieldLink RX5 10 (TX5 0).1 (TX5 0).2.1 (TX5 0).2.2.1 ∈ wsX5_swap := List.mem_of_getElem? (i := 2) rfl
theorem kX5_swap_f99 : Cond.fieldLink RX5 99 (TX0 2).1 (TX0 2).2.1 (TX0 2).2.2.1 ∈ wsX5_swap := List.mem_of_getElem? (i := 3) rfl
theorem hX5_swap_X0 : ∀ w ∈ u_ws RX0 TX0 10, w ∈ wsX5_swap := fun _ h => List.mem_cons_of_mem _ (List.mem_append_right _ (h))
abbrev rmX5_swap : Room := { frames := 3, cells := 0, slots := 0, locals := 68 }
abbrev t_X5_swap : Type := (Int32 → Int32 → Int32 → Int32 → Mem → Prop) × (Int32 → Int32 → Int32 → Int32 → Int32 → Mem → Prop) × (Int32 → Int32 → Int32 → Int32 → Int32 → Mem → Prop) × (Int32 → Mem → Prop)
def f_X5_swap_34 (Q : Int32 → Mem → Prop) (r : t_X5_swap) (v1 : Int32) (v2 : Int32) (v3 : Int32) (v4 : Int32) (M : Mem) : Prop := (((M 1 2) ≤ v4 → ((v3 = (-4 : Int32) → r.2.2.2 v3 M) ∧ (¬ v3 = (-4 : Int32) → ((¬ v1 = 0 → Q v2 M) ∧ (v1 = 0 → r.2.2.2 v3 M))))) ∧ (¬ (M 1 2) ≤ v4 → r.2.1 v1 v2 v3 v4 (v4 + (1 : Int32)) M))
def f_X5_swap_52 (Q : Int32 → Mem → Prop) (r : t_X5_swap) (v1 : Int32) (v2 : Int32) (v3 : Int32) (v4 : Int32) (v5 : Int32) (M : Mem) : Prop := (((M 1 2) ≤ v5 → r.1 v1 v2 v3 (v4 + 1) M) ∧ (¬ (M 1 2) ≤ v5 → q_X0_exchangeCorners 7 v4 v5 M (fun M_6 => q_X0_areaUnsigned 7 M_6 (fun r_8 M_7 => q_X0_exchangeCorners 7 v4 v5 M_7 (fun M_9 => ((r_8 ≤ v2 → r.2.2.1 v1 v2 v3 v4 v5 M_9) ∧ (¬ r_8 ≤ v2 → ∀ x_10 : Int32, x_10 = (((10 : Int32) * v4) + v5) → r.2.2.1 v1 r_8 x_10 v4 v5 M_9)))))))
def f_X5_swap_113 (Q : Int32 → Mem → Prop) (r : t_X5_swap) (v1 : Int32) (v2 : Int32) (v3 : Int32) (v4 : Int32) (v5 : Int32) (M : Mem) : Prop := r.2.1 v1 v2 v3 v4 (v5 + 1) M
def f_X5_swap_135 (Q : Int32 → Mem → Prop) (r : t_X5_swap) (v3 : Int32) (M : Mem) : Prop := Q v3 M
def p_X5_swap (Q : Int32 → Mem → Prop) : Nat → t_X5_swap
  | 0 => (fun _ _ _ _ _ => False, fun _ _ _ _ _ _ => False, fun _ _ _ _ _ _ => False, fun _ _ => False)
  | n + 1 => (f_X5_swap_34 Q (p_X5_swap Q n), f_X5_swap_52 Q (p_X5_swap Q n), f_X5_swap_113 Q (p_X5_swap Q n), f_X5_swap_135 Q (p_X5_swap Q n))
def e_X5_swap (v1 : Int32) (Q : Int32 → Mem → Prop) (r : t_X5_swap) (M : Mem) : Prop := q_X5_isEither v1 M (fun r_2 M_1 => ((¬ r_2 = 0 → q_X0_copyFrom 7 1 M_1 (fun M_3 => q_X0_areaUnsigned 1 M_3 (fun r_5 M_4 => r.1 v1 r_5 (-4 : Int32) (0 : Int32) M_4))) ∧ (r_2 = 0 → Q (-1 : Int32) M_1)))
def q_X5_swap (v1 : Int32) (M : Mem) (Q : Int32 → Mem → Prop) : Prop := ∃ n : Nat, e_X5_swap v1 Q (p_X5_swap Q n) M
set_option maxRecDepth 100000 in
set_option maxHeartbeats 4000000 in
theorem b_X5_swap {l : Launch} {K : wC} {Q : Int32 → Mem → Prop} {p : Program} {e : Env} {s : State} {m : MethodId} {args : Array Value} {below : List Frame} {meth : Method} {c : Code} (C : cx 51 K p s m args meth c cX5_swap 7 wsX5_swap RX5 (some .int)) : ∀ n : Nat, (∀ (v1 : Int32) (v2 : Int32) (v3 : Int32) (v4 : Int32) (M : Mem) (H : Heap) (locs : List Loc) (ls : Array Slot), (p_X5_swap Q n).1 v1 v2 v3 v4 M → wP shX 51 K M H → va_S (wA 51 K) s.heap H locs → lv_has ls 7 [(0, .ref (kb K + 0)), (1, .int v1), (2, .int v2), (3, .int v3), (4, .int v4)] → W p l e rmX5_swap s m args below meth c H locs 0 0 (MQ below (va_Qi Q (wE shX 51 K) (wA 51 K)) args s 0 0 (wA 51 K)) (F0 m 34 ls [])) ∧ (∀ (v1 : Int32) (v2 : Int32) (v3 : Int32) (v4 : Int32) (v5 : Int32) (M : Mem) (H : Heap) (locs : List Loc) (ls : Array Slot), (p_X5_swap Q n).2.1 v1 v2 v3 v4 v5 M → wP shX 51 K M H → va_S (wA 51 K) s.heap H locs → lv_has ls 7 [(0, .ref (kb K + 0)), (1, .int v1), (2, .int v2), (3, .int v3), (4, .int v4), (5, .int v5)] → W p l e rmX5_swap s m args below meth c H locs 0 0 (MQ below (va_Qi Q (wE shX 51 K) (wA 51 K)) args s 0 0 (wA 51 K)) (F0 m 52 ls [])) ∧ (∀ (v1 : Int32) (v2 : Int32) (v3 : Int32) (v4 : Int32) (v5 : Int32) (M : Mem) (H : Heap) (locs : List Loc) (ls : Array Slot), (p_X5_swap Q n).2.2.1 v1 v2 v3 v4 v5 M → wP shX 51 K M H → va_S (wA 51 K) s.heap H locs → lv_has ls 7 [(0, .ref (kb K + 0)), (1, .int v1), (2, .int v2), (3, .int v3), (4, .int v4), (5, .int v5)] → W p l e rmX5_swap s m args below meth c H locs 0 0 (MQ below (va_Qi Q (wE shX 51 K) (wA 51 K)) args s 0 0 (wA 51 K)) (F0 m 113 ls [])) ∧ (∀ (v3 : Int32) (M : Mem) (H : Heap) (locs : List Loc) (ls : Array Slot), (p_X5_swap Q n).2.2.2 v3 M → wP shX 51 K M H → va_S (wA 51 K) s.heap H locs → lv_has ls 7 [(3, .int v3)] → W p l e rmX5_swap s m args below meth c H locs 0 0 (MQ below (va_Qi Q (wE shX 51 K) (wA 51 K)) args s 0 0 (wA 51 K)) (F0 m 135 ls [])) := by
  obtain ⟨hx, hb, hml, hown, hts, hr, hlk, hK⟩ := id C
  intro n
  induction n with
  | zero => exact ⟨fun _ _ _ _ _ _ _ _ hw _ _ _ => False.elim hw, fun _ _ _ _ _ _ _ _ _ hw _ _ _ => False.elim hw, fun _ _ _ _ _ _ _ _ _ hw _ _ _ => False.elim hw, fun _ _ _ _ _ hw _ _ _ => False.elim hw⟩
  | succ n ih =>
    refine ⟨?_, ?_, ?_, ?_⟩
    · intro v1 v2 v3 v4 M H locs ls hw hP hS hl
      have hw : f_X5_swap_34 Q (p_X5_swap Q n) v1 v2 v3 v4 M := hw
      delta f_X5_swap_34 at hw
      refine lv_iload hx hb dX5_swap_34 (lv_at hl 4 rfl) ?_
      refine lv_aload_n hx hb dX5_swap_36 rfl (lv_at hl 0 rfl) ?_
      refine g_f C hP (by decide) (sX_0 K _) rfl hX5_swap_X5 0 (by decide) kX5_swap_f10 rfl dX5_swap_37 ?_
      refine g_f C hP (by decide) (sX_1 K _) rfl hX5_swap_X0 2 (by decide) kX5_swap_f99 rfl dX5_swap_40 ?_
      refine lv_icmp_ge (tgt := 125) hx hb dX5_swap_43 (by decide) (fun hc => ?_) (fun hc => ?_)
      · have hw := hw.1 hc
        refine lv_iload_n hx hb dX5_swap_125 rfl (lv_at hl 3 rfl) ?_
        refine lv_bipush hx hb dX5_swap_126 bp_m4 ?_
        refine lv_icmp_eq (tgt := 135) hx hb dX5_swap_128 (by decide) (fun hc => ?_) (fun hc => ?_)
        · have hw := hw.1 hc
          exact ih.2.2.2 _ _ _ _ _ hw hP hS (lv_sub hl [3] rfl)
        · have hw := hw.2 hc
          refine lv_iload_n hx hb dX5_swap_131 rfl (lv_at hl 1 rfl) ?_
          refine lv_if_ne (tgt := 139) hx hb dX5_swap_132 (by decide) (fun hc => ?_) (fun hc => ?_)
          · have hw := hw.1 hc
            refine lv_iload_n hx hb dX5_swap_139 rfl (lv_at hl 2 rfl) ?_
            exact r_i C hP hS hw dX5_swap_140
          · have hw := hw.2 hc
            exact ih.2.2.2 _ _ _ _ _ hw hP hS (lv_sub hl [3] rfl)
      · have hw := hw.2 hc
        refine lv_iload hx hb dX5_swap_46 (lv_at hl 4 rfl) ?_
        refine lv_iconst hx hb dX5_swap_48 ic_1 ?_
        refine lv_iadd hx hb dX5_swap_49 ?_
        refine lv_istore (lv' := [(5, .int (v4 + (1 : Int32))), (0, .ref (kb K + 0)), (1, .int v1), (2, .int v2), (3, .int v3), (4, .int v4)]) hx hb dX5_swap_50 hl (by decide) rfl (fun ls hl => ?_)
        exact ih.2.1 _ _ _ _ _ _ _ _ _ hw hP hS (lv_sub hl [1, 2, 3, 4, 5, 0] rfl)
    · intro v1 v2 v3 v4 v5 M H locs ls hw hP hS hl
      have hw : f_X5_swap_52 Q (p_X5_swap Q n) v1 v2 v3 v4 v5 M := hw
      delta f_X5_swap_52 at hw
      refine lv_iload hx hb dX5_swap_52 (lv_at hl 5 rfl) ?_
      refine lv_aload_n hx hb dX5_swap_54 rfl (lv_at hl 0 rfl) ?_
      refine g_f C hP (by decide) (sX_0 K _) rfl hX5_swap_X5 0 (by decide) kX5_swap_f10 rfl dX5_swap_55 ?_
      refine g_f C hP (by decide) (sX_1 K _) rfl hX5_swap_X0 2 (by decide) kX5_swap_f99 rfl dX5_swap_58 ?_
      refine lv_icmp_ge (tgt := 119) hx hb dX5_swap_61 (by decide) (fun hc => ?_) (fun hc => ?_)
      · have hw := hw.1 hc
        refine lv_iinc (v := (v4 + 1)) (lv' := [(4, .int (v4 + 1)), (0, .ref (kb K + 0)), (1, .int v1), (2, .int v2), (3, .int v3), (5, .int v5)]) hx hb dX5_swap_119 hl (k := 4) rfl (by rw [ic_1]) (by decide) rfl (fun ls hl => ?_)
        refine lv_goto (tgt := 34) hx hb dX5_swap_122 (by decide) ?_
        exact ih.1 _ _ _ _ _ _ _ _ hw hP hS (lv_sub hl [1, 2, 3, 4, 0] rfl)
      · have hw := hw.2 hc
        refine lv_aload_n hx hb dX5_swap_64 rfl (lv_at hl 0 rfl) ?_
        refine g_f C hP (by decide) (sX_0 K _) rfl hX5_swap_X5 1 (by decide) kX5_swap_f16 rfl dX5_swap_65 ?_
        refine lv_iload hx hb dX5_swap_68 (lv_at hl 4 rfl) ?_
        refine lv_iload hx hb dX5_swap_70 (lv_at hl 5 rfl) ?_
        refine c_v (run_v (As := [.int v4, .int v5]) (rest := []) C hP hS (c_X0_exchangeCorners lay_7 hw) gX5_swap_X0_exchangeCorners rfl dsX0_exchangeCorners rfl ⟨rfl, rfl⟩ ⟨Nat.le_of_ble_eq_true rfl, Nat.le_of_ble_eq_true rfl⟩ (by decide) (sX_7 K _) rfl hl.1 rfl (Nat.le_of_ble_eq_true rfl) dX5_swap_72 ⟨Nat.le_of_ble_eq_true rfl, Nat.le_of_ble_eq_true rfl⟩) hS (fun M_6 H locs hw hP hS => ?_)
        refine lv_aload_n hx hb dX5_swap_75 rfl (lv_at hl 0 rfl) ?_
        refine g_f C hP (by decide) (sX_0 K _) rfl hX5_swap_X5 1 (by decide) kX5_swap_f16 rfl dX5_swap_76 ?_
        refine c_i (run_v (As := []) (rest := []) C hP hS (c_X0_areaUnsigned lay_7 hw) gX5_swap_X0_areaUnsigned rfl dsX0_areaUnsigned rfl ⟨rfl, rfl⟩ ⟨Nat.le_of_ble_eq_true rfl, Nat.le_of_ble_eq_true rfl⟩ (by decide) (sX_7 K _) rfl hl.1 rfl (Nat.le_of_ble_eq_true rfl) dX5_swap_79 ⟨Nat.le_of_ble_eq_true rfl, Nat.le_of_ble_eq_true rfl⟩) hS (fun r_8 M_7 H locs hw hP hS => ?_)
        refine lv_istore (lv' := [(6, .int r_8), (0, .ref (kb K + 0)), (1, .int v1), (2, .int v2), (3, .int v3), (4, .int v4), (5, .int v5)]) hx hb dX5_swap_82 hl (by decide) rfl (fun ls hl => ?_)
        refine lv_aload_n hx hb dX5_swap_84 rfl (lv_at hl 1 rfl) ?_
        refine g_f C hP (by decide) (sX_0 K _) rfl hX5_swap_X5 1 (by decide) kX5_swap_f16 rfl dX5_swap_85 ?_
        refine lv_iload hx hb dX5_swap_88 (lv_at hl 5 rfl) ?_
        refine lv_iload hx hb dX5_swap_90 (lv_at hl 6 rfl) ?_
        refine c_v (run_v (As := [.int v4, .int v5]) (rest := []) C hP hS (c_X0_exchangeCorners lay_7 hw) gX5_swap_X0_exchangeCorners rfl dsX0_exchangeCorners rfl ⟨rfl, rfl⟩ ⟨Nat.le_of_ble_eq_true rfl, Nat.le_of_ble_eq_true rfl⟩ (by decide) (sX_7 K _) rfl hl.1 rfl (Nat.le_of_ble_eq_true rfl) dX5_swap_92 ⟨Nat.le_of_ble_eq_true rfl, Nat.le_of_ble_eq_true rfl⟩) hS (fun M_9 H locs hw hP hS => ?_)
        refine lv_iload hx hb dX5_swap_95 (lv_at hl 0 rfl) ?_
        refine lv_iload_n hx hb dX5_swap_97 rfl (lv_at hl 3 rfl) ?_
        refine lv_icmp_le (tgt := 113) hx hb dX5_swap_98 (by decide) (fun hc => ?_) (fun hc => ?_)
        · have hw := hw.1 hc
          exact ih.2.2.1 _ _ _ _ _ _ _ _ _ hw hP hS (lv_sub hl [1, 2, 3, 4, 5, 6] rfl)
        · have hw := hw.2 hc
          refine lv_iload hx hb dX5_swap_101 (lv_at hl 0 rfl) ?_
          refine lv_istore_n (lv' := [(2, .int r_8), (6, .int r_8), (0, .ref (kb K + 0)), (1, .int v1), (3, .int v3), (4, .int v4), (5, .int v5)]) hx hb dX5_swap_103 rfl hl (by decide) rfl (fun ls hl => ?_)
          refine lv_bipush hx hb dX5_swap_104 bp_10 ?_
          refine lv_iload hx hb dX5_swap_106 (lv_at hl 5 rfl) ?_
          refine lv_imul hx hb dX5_swap_108 ?_
          refine lv_iload hx hb dX5_swap_109 (lv_at hl 6 rfl) ?_
          refine lv_iadd hx hb dX5_swap_111 ?_
          refine lv_topi (fun x_10 ex_10 => ?_)
          have hw := hw x_10 ex_10
          refine lv_istore_n (lv' := [(3, .int x_10), (2, .int r_8), (6, .int r_8), (0, .ref (kb K + 0)), (1, .int v1), (4, .int v4), (5, .int v5)]) hx hb dX5_swap_112 rfl hl (by decide) rfl (fun ls hl => ?_)
          exact ih.2.2.1 _ _ _ _ _ _ _ _ _ hw hP hS (lv_sub hl [3, 4, 1, 0, 5, 6] rfl)
    · intro v1 v2 v3 v4 v5 M H locs ls hw hP hS hl
      have hw : f_X5_swap_113 Q (p_X5_swap Q n) v1 v2 v3 v4 v5 M := hw
      delta f_X5_swap_113 at hw
      refine lv_iinc (v := (v5 + 1)) (lv' := [(5, .int (v5 + 1)), (0, .ref (kb K + 0)), (1, .int v1), (2, .int v2), (3, .int v3), (4, .int v4)]) hx hb dX5_swap_113 hl (k := 5) rfl (by rw [ic_1]) (by decide) rfl (fun ls hl => ?_)
      refine lv_goto (tgt := 52) hx hb dX5_swap_116 (by decide) ?_
      exact ih.2.1 _ _ _ _ _ _ _ _ _ hw hP hS (lv_sub hl [1, 2, 3, 4, 5, 0] rfl)
    · intro v3 M H locs ls hw hP hS hl
      have hw : f_X5_swap_135 Q (p_X5_swap Q n) v3 M := hw
      delta f_X5_swap_135 at hw
      refine lv_iload_n hx hb dX5_swap_135 rfl (lv_at hl 0 rfl) ?_
      refine lv_goto (tgt := 140) hx hb dX5_swap_136 (by decide) ?_
      exact r_i C hP hS hw dX5_swap_140
theorem dsX5_swap : yX5_swap.cls = RX5 ∧ yX5_swap.cls ≠ "java/lang/invoke/MethodHandle" ∧ yX5_swap.cls ≠ "java/lang/invoke/VarHandle" ∧ (parseMethodDescriptor yX5_swap.desc).map (fun d => d.parameters.length) = some 1 := by decide +kernel
set_option maxRecDepth 100000 in
set_option maxHeartbeats 4000000 in
theorem c_X5_swap {l : Launch} {K : wC} {v1 : Int32} {M : Mem} {Q : Int32 → Mem → Prop} (hw : q_X5_swap v1 M Q) : metI l yX5_swap wsX5_swap rmX5_swap shX 51 K [.ref (kb K + 0), .int v1] M Q := by
  refine met_of (cc := cX5_swap) (maxL := 7) (ret := (some .int)) (own := RX5) (by decide) rfl rfl (Nat.le_of_ble_eq_true rfl) ?_
  intro p e s m below meth c ls C hl hP hS
  have hl : lv_has ls 7 [(0, .ref (kb K + 0)), (1, .int v1)] := hl
  obtain ⟨hx, hb, hml, hown, hts, hr, hlk, hK⟩ := id C
  have hP0 := hP
  obtain ⟨n, hw⟩ := hw
  have ih := b_X5_swap (l := l) (e := e) (below := below) (Q := Q) C n
  delta e_X5_swap at hw
  refine lv_iload_n hx hb dX5_swap_0 rfl (lv_at hl 1 rfl) ?_
  refine c_i (run_s (As := [.int v1]) (rest := []) C hP hS (c_X5_isEither hw) gX5_swap_X5_isEither rfl dsX5_isEither rfl ⟨rfl, rfl⟩ ⟨Nat.le_of_ble_eq_true rfl, Nat.le_of_ble_eq_true rfl⟩ hl.1 rfl (Nat.le_of_ble_eq_true rfl) dX5_swap_1 ⟨Nat.le_of_ble_eq_true rfl, Nat.le_of_ble_eq_true rfl⟩) hS (fun r_2 M_1 H locs hw hP hS => ?_)
  refine lv_if_ne (tgt := 9) hx hb dX5_swap_4 (by decide) (fun hc => ?_) (fun hc => ?_)
  · have hw := hw.1 hc
    refine lv_aload_n hx hb dX5_swap_9 rfl (lv_at hl 0 rfl) ?_
    refine g_f C hP (by decide) (sX_0 K _) rfl hX5_swap_X5 1 (by decide) kX5_swap_f16 rfl dX5_swap_10 ?_
    refine lv_aload_n hx hb dX5_swap_13 rfl (lv_at hl 0 rfl) ?_
    refine g_f C hP (by decide) (sX_0 K _) rfl hX5_swap_X5 0 (by decide) kX5_swap_f10 rfl dX5_swap_14 ?_
    refine c_v (run_v (As := [.ref (kb K + 1)]) (rest := []) C hP hS (c_X0_copyFrom lay_7 lay_1 hw) gX5_swap_X0_copyFrom rfl dsX0_copyFrom rfl ⟨rfl, rfl⟩ ⟨Nat.le_of_ble_eq_true rfl, Nat.le_of_ble_eq_true rfl⟩ (by decide) (sX_7 K _) rfl hl.1 rfl (Nat.le_of_ble_eq_true rfl) dX5_swap_17 ⟨Nat.le_of_ble_eq_true rfl, Nat.le_of_ble_eq_true rfl⟩) hS (fun M_3 H locs hw hP hS => ?_)
    refine lv_aload_n hx hb dX5_swap_20 rfl (lv_at hl 0 rfl) ?_
    refine g_f C hP (by decide) (sX_0 K _) rfl hX5_swap_X5 0 (by decide) kX5_swap_f10 rfl dX5_swap_21 ?_
    refine c_i (run_v (As := []) (rest := []) C hP hS (c_X0_areaUnsigned lay_1 hw) gX5_swap_X0_areaUnsigned rfl dsX0_areaUnsigned rfl ⟨rfl, rfl⟩ ⟨Nat.le_of_ble_eq_true rfl, Nat.le_of_ble_eq_true rfl⟩ (by decide) (sX_1 K _) rfl hl.1 rfl (Nat.le_of_ble_eq_true rfl) dX5_swap_24 ⟨Nat.le_of_ble_eq_true rfl, Nat.le_of_ble_eq_true rfl⟩) hS (fun r_5 M_4 H locs hw hP hS => ?_)
    refine lv_istore_n (lv' := [(2, .int r_5), (0, .ref (kb K + 0)), (1, .int v1)]) hx hb dX5_swap_27 rfl hl (by decide) rfl (fun ls hl => ?_)
    refine lv_bipush hx hb dX5_swap_28 bp_m4 ?_
    refine lv_istore_n (lv' := [(3, .int (-4 : Int32)), (2, .int r_5), (0, .ref (kb K + 0)), (1, .int v1)]) hx hb dX5_swap_30 rfl hl (by decide) rfl (fun ls hl => ?_)
    refine lv_iconst hx hb dX5_swap_31 ic_0 ?_
    refine lv_istore (lv' := [(4, .int (0 : Int32)), (3, .int (-4 : Int32)), (2, .int r_5), (0, .ref (kb K + 0)), (1, .int v1)]) hx hb dX5_swap_32 hl (by decide) rfl (fun ls hl => ?_)
    exact ih.1 _ _ _ _ _ _ _ _ hw hP hS (lv_sub hl [3, 4, 2, 1, 0] rfl)
  · have hw := hw.2 hc
    refine lv_iconst hx hb dX5_swap_7 ic_m1 ?_
    exact r_i C hP hS hw dX5_swap_8

theorem kX5_out_f10 : Cond.fieldLink RX5 10 (TX5 0).1 (TX5 0).2.1 (TX5 0).2.2.1 ∈ wsX5_out := List.mem_of_getElem? (i := 1) rfl
theorem hX5_out_X5 : ∀ w ∈ u_ws RX5 TX5 11, w ∈ wsX5_out := fun _ h => List.mem_cons_of_mem _ (List.mem_append_left _ (List.mem_append_right _ (h)))
theorem kX5_out_f99 : Cond.fieldLink RX5 99 (TX0 2).1 (TX0 2).2.1 (TX0 2).2.2.1 ∈ wsX5_out := List.mem_of_getElem? (i := 2) rfl
theorem hX5_out_X0 : ∀ w ∈ u_ws RX0 TX0 10, w ∈ wsX5_out := fun _ h => List.mem_cons_of_mem _ (List.mem_append_right _ (h))
theorem kX5_out_f16 : Cond.fieldLink RX5 16 (TX5 1).1 (TX5 1).2.1 (TX5 1).2.2.1 ∈ wsX5_out := List.mem_of_getElem? (i := 3) rfl
abbrev rmX5_out : Room := { frames := 3, cells := 0, slots := 0, locals := 68 }
abbrev t_X5_out : Type := (Int32 → Int32 → Int32 → Int32 → Mem → Prop) × (Int32 → Int32 → Int32 → Int32 → Mem → Prop) × (Int32 → Mem → Prop)
def f_X5_out_23 (Q : Int32 → Mem → Prop) (r : t_X5_out) (v1 : Int32) (v2 : Int32) (v3 : Int32) (v4 : Int32) (M : Mem) : Prop := (((M 1 2) ≤ v4 → ((v3 = (-4 : Int32) → r.2.2 v3 M) ∧ (¬ v3 = (-4 : Int32) → ((¬ v1 = 0 → Q v2 M) ∧ (v1 = 0 → r.2.2 v3 M))))) ∧ (¬ (M 1 2) ≤ v4 → q_X0_copyFrom 7 1 M (fun M_5 => q_X0_removeCorner 7 v4 M_5 (fun M_6 => q_X0_areaUnsigned 7 M_6 (fun r_8 M_7 => ((r_8 ≤ v2 → r.2.1 v1 v2 v3 v4 M_7) ∧ (¬ r_8 ≤ v2 → r.2.1 v1 r_8 v4 v4 M_7)))))))
def f_X5_out_76 (Q : Int32 → Mem → Prop) (r : t_X5_out) (v1 : Int32) (v2 : Int32) (v3 : Int32) (v4 : Int32) (M : Mem) : Prop := r.1 v1 v2 v3 (v4 + 1) M
def f_X5_out_92 (Q : Int32 → Mem → Prop) (r : t_X5_out) (v3 : Int32) (M : Mem) : Prop := Q v3 M
def p_X5_out (Q : Int32 → Mem → Prop) : Nat → t_X5_out
  | 0 => (fun _ _ _ _ _ => False, fun _ _ _ _ _ => False, fun _ _ => False)
  | n + 1 => (f_X5_out_23 Q (p_X5_out Q n), f_X5_out_76 Q (p_X5_out Q n), f_X5_out_92 Q (p_X5_out Q n))
def e_X5_out (v1 : Int32) (Q : Int32 → Mem → Prop) (r : t_X5_out) (M : Mem) : Prop := q_X5_isEither v1 M (fun r_2 M_1 => ((¬ r_2 = 0 → q_X0_areaUnsigned 1 M_1 (fun r_4 M_3 => r.1 v1 r_4 (-4 : Int32) (0 : Int32) M_3)) ∧ (r_2 = 0 → Q (-1 : Int32) M_1)))
def q_X5_out (v1 : Int32) (M : Mem) (Q : Int32 → Mem → Prop) : Prop := ∃ n : Nat, e_X5_out v1 Q (p_X5_out Q n) M
set_option maxRecDepth 100000 in
set_option maxHeartbeats 4000000 in
theorem b_X5_out {l : Launch} {K : wC} {Q : Int32 → Mem → Prop} {p : Program} {e : Env} {s : State} {m : MethodId} {args : Array Value} {below : List Frame} {meth : Method} {c : Code} (C : cx 51 K p s m args meth c cX5_out 6 wsX5_out RX5 (some .int)) : ∀ n : Nat, (∀ (v1 : Int32) (v2 : Int32) (v3 : Int32) (v4 : Int32) (M : Mem) (H : Heap) (locs : List Loc) (ls : Array Slot), (p_X5_out Q n).1 v1 v2 v3 v4 M → wP shX 51 K M H → va_S (wA 51 K) s.heap H locs → lv_has ls 6 [(0, .ref (kb K + 0)), (1, .int v1), (2, .int v2), (3, .int v3), (4, .int v4)] → W p l e rmX5_out s m args below meth c H locs 0 0 (MQ below (va_Qi Q (wE shX 51 K) (wA 51 K)) args s 0 0 (wA 51 K)) (F0 m 23 ls [])) ∧ (∀ (v1 : Int32) (v2 : Int32) (v3 : Int32) (v4 : Int32) (M : Mem) (H : Heap) (locs : List Loc) (ls : Array Slot), (p_X5_out Q n).2.1 v1 v2 v3 v4 M → wP shX 51 K M H → va_S (wA 51 K) s.heap H locs → lv_has ls 6 [(0, .ref (kb K + 0)), (1, .int v1), (2, .int v2), (3, .int v3), (4, .int v4)] → W p l e rmX5_out s m args below meth c H locs 0 0 (MQ below (va_Qi Q (wE shX 51 K) (wA 51 K)) args s 0 0 (wA 51 K)) (F0 m 76 ls [])) ∧ (∀ (v3 : Int32) (M : Mem) (H : Heap) (locs : List Loc) (ls : Array Slot), (p_X5_out Q n).2.2 v3 M → wP shX 51 K M H → va_S (wA 51 K) s.heap H locs → lv_has ls 6 [(3, .int v3)] → W p l e rmX5_out s m args below meth c H locs 0 0 (MQ below (va_Qi Q (wE shX 51 K) (wA 51 K)) args s 0 0 (wA 51 K)) (F0 m 92 ls [])) := by
  obtain ⟨hx, hb, hml, hown, hts, hr, hlk, hK⟩ := id C
  intro n
  induction n with
  | zero => exact ⟨fun _ _ _ _ _ _ _ _ hw _ _ _ => False.elim hw, fun _ _ _ _ _ _ _ _ hw _ _ _ => False.elim hw, fun _ _ _ _ _ hw _ _ _ => False.elim hw⟩
  | succ n ih =>
    refine ⟨?_, ?_, ?_⟩
    · intro v1 v2 v3 v4 M H locs ls hw hP hS hl
      have hw : f_X5_out_23 Q (p_X5_out Q n) v1 v2 v3 v4 M := hw
      delta f_X5_out_23 at hw
      refine lv_iload hx hb dX5_out_23 (lv_at hl 4 rfl) ?_
      refine lv_aload_n hx hb dX5_out_25 rfl (lv_at hl 0 rfl) ?_
      refine g_f C hP (by decide) (sX_0 K _) rfl hX5_out_X5 0 (by decide) kX5_out_f10 rfl dX5_out_26 ?_
      refine g_f C hP (by decide) (sX_1 K _) rfl hX5_out_X0 2 (by decide) kX5_out_f99 rfl dX5_out_29 ?_
      refine lv_icmp_ge (tgt := 82) hx hb dX5_out_32 (by decide) (fun hc => ?_) (fun hc => ?_)
      · have hw := hw.1 hc
        refine lv_iload_n hx hb dX5_out_82 rfl (lv_at hl 3 rfl) ?_
        refine lv_bipush hx hb dX5_out_83 bp_m4 ?_
        refine lv_icmp_eq (tgt := 92) hx hb dX5_out_85 (by decide) (fun hc => ?_) (fun hc => ?_)
        · have hw := hw.1 hc
          exact ih.2.2 _ _ _ _ _ hw hP hS (lv_sub hl [3] rfl)
        · have hw := hw.2 hc
          refine lv_iload_n hx hb dX5_out_88 rfl (lv_at hl 1 rfl) ?_
          refine lv_if_ne (tgt := 96) hx hb dX5_out_89 (by decide) (fun hc => ?_) (fun hc => ?_)
          · have hw := hw.1 hc
            refine lv_iload_n hx hb dX5_out_96 rfl (lv_at hl 2 rfl) ?_
            exact r_i C hP hS hw dX5_out_97
          · have hw := hw.2 hc
            exact ih.2.2 _ _ _ _ _ hw hP hS (lv_sub hl [3] rfl)
      · have hw := hw.2 hc
        refine lv_aload_n hx hb dX5_out_35 rfl (lv_at hl 0 rfl) ?_
        refine g_f C hP (by decide) (sX_0 K _) rfl hX5_out_X5 1 (by decide) kX5_out_f16 rfl dX5_out_36 ?_
        refine lv_aload_n hx hb dX5_out_39 rfl (lv_at hl 0 rfl) ?_
        refine g_f C hP (by decide) (sX_0 K _) rfl hX5_out_X5 0 (by decide) kX5_out_f10 rfl dX5_out_40 ?_
        refine c_v (run_v (As := [.ref (kb K + 1)]) (rest := []) C hP hS (c_X0_copyFrom lay_7 lay_1 hw) gX5_out_X0_copyFrom rfl dsX0_copyFrom rfl ⟨rfl, rfl⟩ ⟨Nat.le_of_ble_eq_true rfl, Nat.le_of_ble_eq_true rfl⟩ (by decide) (sX_7 K _) rfl hl.1 rfl (Nat.le_of_ble_eq_true rfl) dX5_out_43 ⟨Nat.le_of_ble_eq_true rfl, Nat.le_of_ble_eq_true rfl⟩) hS (fun M_5 H locs hw hP hS => ?_)
        refine lv_aload_n hx hb dX5_out_46 rfl (lv_at hl 0 rfl) ?_
        refine g_f C hP (by decide) (sX_0 K _) rfl hX5_out_X5 1 (by decide) kX5_out_f16 rfl dX5_out_47 ?_
        refine lv_iload hx hb dX5_out_50 (lv_at hl 4 rfl) ?_
        refine c_v (run_v (As := [.int v4]) (rest := []) C hP hS (c_X0_removeCorner lay_7 hw) gX5_out_X0_removeCorner rfl dsX0_removeCorner rfl ⟨rfl, rfl⟩ ⟨Nat.le_of_ble_eq_true rfl, Nat.le_of_ble_eq_true rfl⟩ (by decide) (sX_7 K _) rfl hl.1 rfl (Nat.le_of_ble_eq_true rfl) dX5_out_52 ⟨Nat.le_of_ble_eq_true rfl, Nat.le_of_ble_eq_true rfl⟩) hS (fun M_6 H locs hw hP hS => ?_)
        refine lv_aload_n hx hb dX5_out_55 rfl (lv_at hl 0 rfl) ?_
        refine g_f C hP (by decide) (sX_0 K _) rfl hX5_out_X5 1 (by decide) kX5_out_f16 rfl dX5_out_56 ?_
        refine c_i (run_v (As := []) (rest := []) C hP hS (c_X0_areaUnsigned lay_7 hw) gX5_out_X0_areaUnsigned rfl dsX0_areaUnsigned rfl ⟨rfl, rfl⟩ ⟨Nat.le_of_ble_eq_true rfl, Nat.le_of_ble_eq_true rfl⟩ (by decide) (sX_7 K _) rfl hl.1 rfl (Nat.le_of_ble_eq_true rfl) dX5_out_59 ⟨Nat.le_of_ble_eq_true rfl, Nat.le_of_ble_eq_true rfl⟩) hS (fun r_8 M_7 H locs hw hP hS => ?_)
        refine lv_istore (lv' := [(5, .int r_8), (0, .ref (kb K + 0)), (1, .int v1), (2, .int v2), (3, .int v3), (4, .int v4)]) hx hb dX5_out_62 hl (by decide) rfl (fun ls hl => ?_)
        refine lv_iload hx hb dX5_out_64 (lv_at hl 0 rfl) ?_
        refine lv_iload_n hx hb dX5_out_66 rfl (lv_at hl 3 rfl) ?_
        refine lv_icmp_le (tgt := 76) hx hb dX5_out_67 (by decide) (fun hc => ?_) (fun hc => ?_)
        · have hw := hw.1 hc
          exact ih.2.1 _ _ _ _ _ _ _ _ hw hP hS (lv_sub hl [1, 2, 3, 4, 5] rfl)
        · have hw := hw.2 hc
          refine lv_iload hx hb dX5_out_70 (lv_at hl 0 rfl) ?_
          refine lv_istore_n (lv' := [(2, .int r_8), (5, .int r_8), (0, .ref (kb K + 0)), (1, .int v1), (3, .int v3), (4, .int v4)]) hx hb dX5_out_72 rfl hl (by decide) rfl (fun ls hl => ?_)
          refine lv_iload hx hb dX5_out_73 (lv_at hl 5 rfl) ?_
          refine lv_istore_n (lv' := [(3, .int v4), (2, .int r_8), (5, .int r_8), (0, .ref (kb K + 0)), (1, .int v1), (4, .int v4)]) hx hb dX5_out_75 rfl hl (by decide) rfl (fun ls hl => ?_)
          exact ih.2.1 _ _ _ _ _ _ _ _ hw hP hS (lv_sub hl [3, 4, 1, 0, 5] rfl)
    · intro v1 v2 v3 v4 M H locs ls hw hP hS hl
      have hw : f_X5_out_76 Q (p_X5_out Q n) v1 v2 v3 v4 M := hw
      delta f_X5_out_76 at hw
      refine lv_iinc (v := (v4 + 1)) (lv' := [(4, .int (v4 + 1)), (0, .ref (kb K + 0)), (1, .int v1), (2, .int v2), (3, .int v3)]) hx hb dX5_out_76 hl (k := 4) rfl (by rw [ic_1]) (by decide) rfl (fun ls hl => ?_)
      refine lv_goto (tgt := 23) hx hb dX5_out_79 (by decide) ?_
      exact ih.1 _ _ _ _ _ _ _ _ hw hP hS (lv_sub hl [1, 2, 3, 4, 0] rfl)
    · intro v3 M H locs ls hw hP hS hl
      have hw : f_X5_out_92 Q (p_X5_out Q n) v3 M := hw
      delta f_X5_out_92 at hw
      refine lv_iload_n hx hb dX5_out_92 rfl (lv_at hl 0 rfl) ?_
      refine lv_goto (tgt := 97) hx hb dX5_out_93 (by decide) ?_
      exact r_i C hP hS hw dX5_out_97
theorem dsX5_out : yX5_out.cls = RX5 ∧ yX5_out.cls ≠ "java/lang/invoke/MethodHandle" ∧ yX5_out.cls ≠ "java/lang/invoke/VarHandle" ∧ (parseMethodDescriptor yX5_out.desc).map (fun d => d.parameters.length) = some 1 := by decide +kernel
set_option maxRecDepth 100000 in
set_option maxHeartbeats 4000000 in
theorem c_X5_out {l : Launch} {K : wC} {v1 : Int32} {M : Mem} {Q : Int32 → Mem → Prop} (hw : q_X5_out v1 M Q) : metI l yX5_out wsX5_out rmX5_out shX 51 K [.ref (kb K + 0), .int v1] M Q := by
  refine met_of (cc := cX5_out) (maxL := 6) (ret := (some .int)) (own := RX5) (by decide) rfl rfl (Nat.le_of_ble_eq_true rfl) ?_
  intro p e s m below meth c ls C hl hP hS
  have hl : lv_has ls 6 [(0, .ref (kb K + 0)), (1, .int v1)] := hl
  obtain ⟨hx, hb, hml, hown, hts, hr, hlk, hK⟩ := id C
  have hP0 := hP
  obtain ⟨n, hw⟩ := hw
  have ih := b_X5_out (l := l) (e := e) (below := below) (Q := Q) C n
  delta e_X5_out at hw
  refine lv_iload_n hx hb dX5_out_0 rfl (lv_at hl 1 rfl) ?_
  refine c_i (run_s (As := [.int v1]) (rest := []) C hP hS (c_X5_isEither hw) gX5_out_X5_isEither rfl dsX5_isEither rfl ⟨rfl, rfl⟩ ⟨Nat.le_of_ble_eq_true rfl, Nat.le_of_ble_eq_true rfl⟩ hl.1 rfl (Nat.le_of_ble_eq_true rfl) dX5_out_1 ⟨Nat.le_of_ble_eq_true rfl, Nat.le_of_ble_eq_true rfl⟩) hS (fun r_2 M_1 H locs hw hP hS => ?_)
  refine lv_if_ne (tgt := 9) hx hb dX5_out_4 (by decide) (fun hc => ?_) (fun hc => ?_)
  · have hw := hw.1 hc
    refine lv_aload_n hx hb dX5_out_9 rfl (lv_at hl 0 rfl) ?_
    refine g_f C hP (by decide) (sX_0 K _) rfl hX5_out_X5 0 (by decide) kX5_out_f10 rfl dX5_out_10 ?_
    refine c_i (run_v (As := []) (rest := []) C hP hS (c_X0_areaUnsigned lay_1 hw) gX5_out_X0_areaUnsigned rfl dsX0_areaUnsigned rfl ⟨rfl, rfl⟩ ⟨Nat.le_of_ble_eq_true rfl, Nat.le_of_ble_eq_true rfl⟩ (by decide) (sX_1 K _) rfl hl.1 rfl (Nat.le_of_ble_eq_true rfl) dX5_out_13 ⟨Nat.le_of_ble_eq_true rfl, Nat.le_of_ble_eq_true rfl⟩) hS (fun r_4 M_3 H locs hw hP hS => ?_)
    refine lv_istore_n (lv' := [(2, .int r_4), (0, .ref (kb K + 0)), (1, .int v1)]) hx hb dX5_out_16 rfl hl (by decide) rfl (fun ls hl => ?_)
    refine lv_bipush hx hb dX5_out_17 bp_m4 ?_
    refine lv_istore_n (lv' := [(3, .int (-4 : Int32)), (2, .int r_4), (0, .ref (kb K + 0)), (1, .int v1)]) hx hb dX5_out_19 rfl hl (by decide) rfl (fun ls hl => ?_)
    refine lv_iconst hx hb dX5_out_20 ic_0 ?_
    refine lv_istore (lv' := [(4, .int (0 : Int32)), (3, .int (-4 : Int32)), (2, .int r_4), (0, .ref (kb K + 0)), (1, .int v1)]) hx hb dX5_out_21 hl (by decide) rfl (fun ls hl => ?_)
    exact ih.1 _ _ _ _ _ _ _ _ hw hP hS (lv_sub hl [3, 4, 2, 1, 0] rfl)
  · have hw := hw.2 hc
    refine lv_iconst hx hb dX5_out_7 ic_m1 ?_
    exact r_i C hP hS hw dX5_out_8

abbrev rmX5_isMissing : Room := { frames := 2, cells := 0, slots := 0, locals := 43 }
def q_X5_isMissing (v1 : Int32) (v2 : Int32) (v3 : Int32) (M : Mem) (Q : Int32 → Mem → Prop) : Prop := q_X5_within v1 (0 : Int32) (10 : Int32) M (fun r_2 M_1 => ((r_2 = 0 → Q (0 : Int32) M_1) ∧ (¬ r_2 = 0 → q_X5_hasWheel v2 M_1 (fun r_4 M_3 => ((r_4 = 0 → Q (0 : Int32) M_3) ∧ (¬ r_4 = 0 → q_X5_within v3 (0 : Int32) (8 : Int32) M_3 (fun r_6 M_5 => ((r_6 = 0 → Q (0 : Int32) M_5) ∧ (¬ r_6 = 0 → Q (1 : Int32) M_5)))))))))
theorem dsX5_isMissing : yX5_isMissing.cls = RX5 ∧ yX5_isMissing.cls ≠ "java/lang/invoke/MethodHandle" ∧ yX5_isMissing.cls ≠ "java/lang/invoke/VarHandle" ∧ (parseMethodDescriptor yX5_isMissing.desc).map (fun d => d.parameters.length) = some 3 := by decide +kernel
set_option maxRecDepth 100000 in
set_option maxHeartbeats 4000000 in
theorem c_X5_isMissing {l : Launch} {K : wC} {v1 : Int32} {v2 : Int32} {v3 : Int32} {M : Mem} {Q : Int32 → Mem → Prop} (hw : q_X5_isMissing v1 v2 v3 M Q) : metI l yX5_isMissing wsX5_isMissing rmX5_isMissing shX 51 K [.ref (kb K + 0), .int v1, .int v2, .int v3] M Q := by
  refine met_of (cc := cX5_isMissing) (maxL := 4) (ret := (some .boolean)) (own := RX5) (by decide) rfl rfl (Nat.le_of_ble_eq_true rfl) ?_
  intro p e s m below meth c ls C hl hP hS
  have hl : lv_has ls 4 [(0, .ref (kb K + 0)), (1, .int v1), (2, .int v2), (3, .int v3)] := hl
  obtain ⟨hx, hb, hml, hown, hts, hr, hlk, hK⟩ := id C
  have hP0 := hP
  delta q_X5_isMissing at hw
  refine lv_iload_n hx hb dX5_isMissing_0 rfl (lv_at hl 1 rfl) ?_
  refine lv_iconst hx hb dX5_isMissing_1 ic_0 ?_
  refine lv_bipush hx hb dX5_isMissing_2 bp_10 ?_
  refine c_i (run_s (As := [.int v1, .int (0 : Int32), .int (10 : Int32)]) (rest := []) C hP hS (c_X5_within hw) gX5_isMissing_X5_within rfl dsX5_within rfl ⟨rfl, rfl⟩ ⟨Nat.le_of_ble_eq_true rfl, Nat.le_of_ble_eq_true rfl⟩ hl.1 rfl (Nat.le_of_ble_eq_true rfl) dX5_isMissing_4 ⟨Nat.le_of_ble_eq_true rfl, Nat.le_of_ble_eq_true rfl⟩) hS (fun r_2 M_1 H locs hw hP hS => ?_)
  refine lv_if_eq (tgt := 32) hx hb dX5_isMissing_7 (by decide) (fun hc => ?_) (fun hc => ?_)
  · have hw := hw.1 hc
    refine lv_iconst hx hb dX5_isMissing_32 ic_0 ?_
    exact r_z C (by decide) hP hS hw dX5_isMissing_33
  · have hw := hw.2 hc
    refine lv_aload_n hx hb dX5_isMissing_10 rfl (lv_at hl 0 rfl) ?_
    refine lv_iload_n hx hb dX5_isMissing_11 rfl (lv_at hl 2 rfl) ?_
    refine c_i (run_v (As := [.int v2]) (rest := []) C hP hS (c_X5_hasWheel hw) gX5_isMissing_X5_hasWheel rfl dsX5_hasWheel rfl ⟨rfl, rfl⟩ ⟨Nat.le_of_ble_eq_true rfl, Nat.le_of_ble_eq_true rfl⟩ (by decide) (sX_0 K _) rfl hl.1 rfl (Nat.le_of_ble_eq_true rfl) dX5_isMissing_12 ⟨Nat.le_of_ble_eq_true rfl, Nat.le_of_ble_eq_true rfl⟩) hS (fun r_4 M_3 H locs hw hP hS => ?_)
    refine lv_if_eq (tgt := 32) hx hb dX5_isMissing_15 (by decide) (fun hc => ?_) (fun hc => ?_)
    · have hw := hw.1 hc
      refine lv_iconst hx hb dX5_isMissing_32 ic_0 ?_
      exact r_z C (by decide) hP hS hw dX5_isMissing_33
    · have hw := hw.2 hc
      refine lv_iload_n hx hb dX5_isMissing_18 rfl (lv_at hl 3 rfl) ?_
      refine lv_iconst hx hb dX5_isMissing_19 ic_0 ?_
      refine lv_bipush hx hb dX5_isMissing_20 bp_8 ?_
      refine c_i (run_s (As := [.int v3, .int (0 : Int32), .int (8 : Int32)]) (rest := []) C hP hS (c_X5_within hw) gX5_isMissing_X5_within rfl dsX5_within rfl ⟨rfl, rfl⟩ ⟨Nat.le_of_ble_eq_true rfl, Nat.le_of_ble_eq_true rfl⟩ hl.1 rfl (Nat.le_of_ble_eq_true rfl) dX5_isMissing_22 ⟨Nat.le_of_ble_eq_true rfl, Nat.le_of_ble_eq_true rfl⟩) hS (fun r_6 M_5 H locs hw hP hS => ?_)
      refine lv_if_eq (tgt := 32) hx hb dX5_isMissing_25 (by decide) (fun hc => ?_) (fun hc => ?_)
      · have hw := hw.1 hc
        refine lv_iconst hx hb dX5_isMissing_32 ic_0 ?_
        exact r_z C (by decide) hP hS hw dX5_isMissing_33
      · have hw := hw.2 hc
        refine lv_iconst hx hb dX5_isMissing_28 ic_1 ?_
        refine lv_goto (tgt := 33) hx hb dX5_isMissing_29 (by decide) ?_
        exact r_z C (by decide) hP hS hw dX5_isMissing_33

theorem kX5_setEdgeRolls_f47 : Cond.fieldLink RX5 47 (TX5 7).1 (TX5 7).2.1 (TX5 7).2.2.1 ∈ wsX5_setEdgeRolls := List.mem_of_getElem? (i := 1) rfl
theorem hX5_setEdgeRolls_X5 : ∀ w ∈ u_ws RX5 TX5 11, w ∈ wsX5_setEdgeRolls := fun _ h => List.mem_cons_of_mem _ (List.mem_append_left _ (List.mem_append_right _ (h)))
theorem kX5_setEdgeRolls_f10 : Cond.fieldLink RX5 10 (TX5 0).1 (TX5 0).2.1 (TX5 0).2.2.1 ∈ wsX5_setEdgeRolls := List.mem_of_getElem? (i := 2) rfl
abbrev rmX5_setEdgeRolls : Room := { frames := 3, cells := 0, slots := 0, locals := 65 }
abbrev t_X5_setEdgeRolls : Type := (Int32 → Int32 → Int32 → Mem → Prop)
def f_X5_setEdgeRolls_2 (Q : Mem → Prop) (r : t_X5_setEdgeRolls) (v1 : Int32) (v2 : Int32) (v3 : Int32) (M : Mem) : Prop := ((v2 ≤ v3 → Q M) ∧ (¬ v2 ≤ v3 → q_X0_sweepAhead 1 v3 M (fun r_2 M_1 => q_X0_rollOf 1 v1 r_2 M_1 (fun r_4 M_3 => vp_in v3 8 ∧ r v1 v2 (v3 + 1) (mU M_3 29 v3.toNatClampNeg r_4)))))
def p_X5_setEdgeRolls (Q : Mem → Prop) : Nat → t_X5_setEdgeRolls
  | 0 => fun _ _ _ _ => False
  | n + 1 => f_X5_setEdgeRolls_2 Q (p_X5_setEdgeRolls Q n)
def e_X5_setEdgeRolls (v1 : Int32) (v2 : Int32) (Q : Mem → Prop) (r : t_X5_setEdgeRolls) (M : Mem) : Prop := r v1 v2 (0 : Int32) M
def q_X5_setEdgeRolls (v1 : Int32) (v2 : Int32) (M : Mem) (Q : Mem → Prop) : Prop := ∃ n : Nat, e_X5_setEdgeRolls v1 v2 Q (p_X5_setEdgeRolls Q n) M
set_option maxRecDepth 100000 in
set_option maxHeartbeats 4000000 in
theorem b_X5_setEdgeRolls {l : Launch} {K : wC} {Q : Mem → Prop} {p : Program} {e : Env} {s : State} {m : MethodId} {args : Array Value} {below : List Frame} {meth : Method} {c : Code} (C : cx 51 K p s m args meth c cX5_setEdgeRolls 4 wsX5_setEdgeRolls RX5 none) : ∀ n : Nat, (∀ (v1 : Int32) (v2 : Int32) (v3 : Int32) (M : Mem) (H : Heap) (locs : List Loc) (ls : Array Slot), (p_X5_setEdgeRolls Q n) v1 v2 v3 M → wP shX 51 K M H → va_S (wA 51 K) s.heap H locs → lv_has ls 4 [(0, .ref (kb K + 0)), (1, .int v1), (2, .int v2), (3, .int v3)] → W p l e rmX5_setEdgeRolls s m args below meth c H locs 0 0 (MQ below (va_Qv Q (wE shX 51 K) (wA 51 K)) args s 0 0 (wA 51 K)) (F0 m 2 ls [])) := by
  obtain ⟨hx, hb, hml, hown, hts, hr, hlk, hK⟩ := id C
  intro n
  induction n with
  | zero => exact fun _ _ _ _ _ _ _ hw _ _ _ => False.elim hw
  | succ n ih =>
    intro v1 v2 v3 M H locs ls hw hP hS hl
    have hw : f_X5_setEdgeRolls_2 Q (p_X5_setEdgeRolls Q n) v1 v2 v3 M := hw
    delta f_X5_setEdgeRolls_2 at hw
    refine lv_iload_n hx hb dX5_setEdgeRolls_2 rfl (lv_at hl 3 rfl) ?_
    refine lv_iload_n hx hb dX5_setEdgeRolls_3 rfl (lv_at hl 2 rfl) ?_
    refine lv_icmp_ge (tgt := 35) hx hb dX5_setEdgeRolls_4 (by decide) (fun hc => ?_) (fun hc => ?_)
    · have hw := hw.1 hc
      exact r_v C hP hS hw dX5_setEdgeRolls_35
    · have hw := hw.2 hc
      refine lv_aload_n hx hb dX5_setEdgeRolls_7 rfl (lv_at hl 0 rfl) ?_
      refine g_f C hP (by decide) (sX_0 K _) rfl hX5_setEdgeRolls_X5 7 (by decide) kX5_setEdgeRolls_f47 rfl dX5_setEdgeRolls_8 ?_
      refine lv_iload_n hx hb dX5_setEdgeRolls_11 rfl (lv_at hl 3 rfl) ?_
      refine lv_aload_n hx hb dX5_setEdgeRolls_12 rfl (lv_at hl 0 rfl) ?_
      refine g_f C hP (by decide) (sX_0 K _) rfl hX5_setEdgeRolls_X5 0 (by decide) kX5_setEdgeRolls_f10 rfl dX5_setEdgeRolls_13 ?_
      refine lv_iload_n hx hb dX5_setEdgeRolls_16 rfl (lv_at hl 1 rfl) ?_
      refine lv_aload_n hx hb dX5_setEdgeRolls_17 rfl (lv_at hl 0 rfl) ?_
      refine g_f C hP (by decide) (sX_0 K _) rfl hX5_setEdgeRolls_X5 0 (by decide) kX5_setEdgeRolls_f10 rfl dX5_setEdgeRolls_18 ?_
      refine lv_iload_n hx hb dX5_setEdgeRolls_21 rfl (lv_at hl 3 rfl) ?_
      refine c_i (run_v (As := [.int v3]) (rest := [.int v1, .ref (kb K + 1), .int v3, .ref (kb K + 29)]) C hP hS (c_X0_sweepAhead lay_1 hw) gX5_setEdgeRolls_X0_sweepAhead rfl dsX0_sweepAhead rfl ⟨rfl, rfl⟩ ⟨Nat.le_of_ble_eq_true rfl, Nat.le_of_ble_eq_true rfl⟩ (by decide) (sX_1 K _) rfl hl.1 rfl (Nat.le_of_ble_eq_true rfl) dX5_setEdgeRolls_22 ⟨Nat.le_of_ble_eq_true rfl, Nat.le_of_ble_eq_true rfl⟩) hS (fun r_2 M_1 H locs hw hP hS => ?_)
      refine c_i (run_v (As := [.int v1, .int r_2]) (rest := [.int v3, .ref (kb K + 29)]) C hP hS (c_X0_rollOf lay_1 hw) gX5_setEdgeRolls_X0_rollOf rfl dsX0_rollOf rfl ⟨rfl, rfl⟩ ⟨Nat.le_of_ble_eq_true rfl, Nat.le_of_ble_eq_true rfl⟩ (by decide) (sX_1 K _) rfl hl.1 rfl (Nat.le_of_ble_eq_true rfl) dX5_setEdgeRolls_25 ⟨Nat.le_of_ble_eq_true rfl, Nat.le_of_ble_eq_true rfl⟩) hS (fun r_4 M_3 H locs hw hP hS => ?_)
      have hi_5 := hw.1
      have hw := hw.2
      refine a_is C hP hS (by decide) (sX_29 K) hi_5 rfl dX5_setEdgeRolls_28 (fun H locs hP hS => ?_)
      refine lv_iinc (v := (v3 + 1)) (lv' := [(3, .int (v3 + 1)), (0, .ref (kb K + 0)), (1, .int v1), (2, .int v2)]) hx hb dX5_setEdgeRolls_29 hl (k := 3) rfl (by rw [ic_1]) (by decide) rfl (fun ls hl => ?_)
      refine lv_goto (tgt := 2) hx hb dX5_setEdgeRolls_32 (by decide) ?_
      exact ih _ _ _ _ _ _ _ hw hP hS (lv_sub hl [1, 2, 3, 0] rfl)
theorem dsX5_setEdgeRolls : yX5_setEdgeRolls.cls = RX5 ∧ yX5_setEdgeRolls.cls ≠ "java/lang/invoke/MethodHandle" ∧ yX5_setEdgeRolls.cls ≠ "java/lang/invoke/VarHandle" ∧ (parseMethodDescriptor yX5_setEdgeRolls.desc).map (fun d => d.parameters.length) = some 2 := by decide +kernel
set_option maxRecDepth 100000 in
set_option maxHeartbeats 4000000 in
theorem c_X5_setEdgeRolls {l : Launch} {K : wC} {v1 : Int32} {v2 : Int32} {M : Mem} {Q : Mem → Prop} (hw : q_X5_setEdgeRolls v1 v2 M Q) : metV l yX5_setEdgeRolls wsX5_setEdgeRolls rmX5_setEdgeRolls shX 51 K [.ref (kb K + 0), .int v1, .int v2] M Q := by
  refine met_of (cc := cX5_setEdgeRolls) (maxL := 4) (ret := none) (own := RX5) (by decide) rfl rfl (Nat.le_of_ble_eq_true rfl) ?_
  intro p e s m below meth c ls C hl hP hS
  have hl : lv_has ls 4 [(0, .ref (kb K + 0)), (1, .int v1), (2, .int v2)] := hl
  obtain ⟨hx, hb, hml, hown, hts, hr, hlk, hK⟩ := id C
  have hP0 := hP
  obtain ⟨n, hw⟩ := hw
  have ih := b_X5_setEdgeRolls (l := l) (e := e) (below := below) (Q := Q) C n
  delta e_X5_setEdgeRolls at hw
  refine lv_iconst hx hb dX5_setEdgeRolls_0 ic_0 ?_
  refine lv_istore_n (lv' := [(3, .int (0 : Int32)), (0, .ref (kb K + 0)), (1, .int v1), (2, .int v2)]) hx hb dX5_setEdgeRolls_1 rfl hl (by decide) rfl (fun ls hl => ?_)
  exact ih _ _ _ _ _ _ _ hw hP hS (lv_sub hl [1, 2, 3, 0] rfl)

theorem kX5_readsByTraced_f10 : Cond.fieldLink RX5 10 (TX5 0).1 (TX5 0).2.1 (TX5 0).2.2.1 ∈ wsX5_readsByTraced := List.mem_of_getElem? (i := 1) rfl
theorem hX5_readsByTraced_X5 : ∀ w ∈ u_ws RX5 TX5 11, w ∈ wsX5_readsByTraced := fun _ h => List.mem_cons_of_mem _ (List.mem_append_left _ (List.mem_append_right _ (h)))
theorem kX5_readsByTraced_f146 : Cond.fieldLink RX5 146 (TX0 5).1 (TX0 5).2.1 (TX0 5).2.2.1 ∈ wsX5_readsByTraced := List.mem_of_getElem? (i := 2) rfl
theorem hX5_readsByTraced_X0 : ∀ w ∈ u_ws RX0 TX0 10, w ∈ wsX5_readsByTraced := fun _ h => List.mem_cons_of_mem _ (List.mem_append_right _ (h))
theorem kX5_readsByTraced_f47 : Cond.fieldLink RX5 47 (TX5 7).1 (TX5 7).2.1 (TX5 7).2.2.1 ∈ wsX5_readsByTraced := List.mem_of_getElem? (i := 3) rfl
abbrev rmX5_readsByTraced : Room := { frames := 0, cells := 0, slots := 0, locals := 0 }
abbrev t_X5_readsByTraced : Type := (Int32 → Int32 → Int32 → Int32 → Mem → Prop) × (Int32 → Int32 → Int32 → Int32 → Mem → Prop)
def f_X5_readsByTraced_14 (Q : Int32 → Mem → Prop) (r : t_X5_readsByTraced) (v2 : Int32) (v3 : Int32) (v4 : Int32) (v5 : Int32) (M : Mem) : Prop := ((v2 ≤ v5 → Q v4 M) ∧ (¬ v2 ≤ v5 → ((((v3 >>> (v5 &&& 31)) &&& (1 : Int32)) = 0 → r.2 v2 v3 v4 v5 M) ∧ (¬ ((v3 >>> (v5 &&& 31)) &&& (1 : Int32)) = 0 → vp_in v5 8 ∧ (∀ x_3 : Int32, x_3 = (v4 + (M 29 v5.toNatClampNeg)) → r.2 v2 v3 x_3 v5 M)))))
def f_X5_readsByTraced_41 (Q : Int32 → Mem → Prop) (r : t_X5_readsByTraced) (v2 : Int32) (v3 : Int32) (v4 : Int32) (v5 : Int32) (M : Mem) : Prop := r.1 v2 v3 v4 (v5 + 1) M
def p_X5_readsByTraced (Q : Int32 → Mem → Prop) : Nat → t_X5_readsByTraced
  | 0 => (fun _ _ _ _ _ => False, fun _ _ _ _ _ => False)
  | n + 1 => (f_X5_readsByTraced_14 Q (p_X5_readsByTraced Q n), f_X5_readsByTraced_41 Q (p_X5_readsByTraced Q n))
def e_X5_readsByTraced (v1 : Int32) (v2 : Int32) (v3 : Int32) (Q : Int32 → Mem → Prop) (r : t_X5_readsByTraced) (M : Mem) : Prop := vp_in v1 4 ∧ r.1 v2 v3 (M 6 v1.toNatClampNeg) (0 : Int32) M
def q_X5_readsByTraced (v1 : Int32) (v2 : Int32) (v3 : Int32) (M : Mem) (Q : Int32 → Mem → Prop) : Prop := ∃ n : Nat, e_X5_readsByTraced v1 v2 v3 Q (p_X5_readsByTraced Q n) M
set_option maxRecDepth 100000 in
set_option maxHeartbeats 4000000 in
theorem b_X5_readsByTraced {l : Launch} {K : wC} {Q : Int32 → Mem → Prop} {p : Program} {e : Env} {s : State} {m : MethodId} {args : Array Value} {below : List Frame} {meth : Method} {c : Code} (C : cx 51 K p s m args meth c cX5_readsByTraced 6 wsX5_readsByTraced RX5 (some .int)) : ∀ n : Nat, (∀ (v2 : Int32) (v3 : Int32) (v4 : Int32) (v5 : Int32) (M : Mem) (H : Heap) (locs : List Loc) (ls : Array Slot), (p_X5_readsByTraced Q n).1 v2 v3 v4 v5 M → wP shX 51 K M H → va_S (wA 51 K) s.heap H locs → lv_has ls 6 [(0, .ref (kb K + 0)), (2, .int v2), (3, .int v3), (4, .int v4), (5, .int v5)] → W p l e rmX5_readsByTraced s m args below meth c H locs 0 0 (MQ below (va_Qi Q (wE shX 51 K) (wA 51 K)) args s 0 0 (wA 51 K)) (F0 m 14 ls [])) ∧ (∀ (v2 : Int32) (v3 : Int32) (v4 : Int32) (v5 : Int32) (M : Mem) (H : Heap) (locs : List Loc) (ls : Array Slot), (p_X5_readsByTraced Q n).2 v2 v3 v4 v5 M → wP shX 51 K M H → va_S (wA 51 K) s.heap H locs → lv_has ls 6 [(0, .ref (kb K + 0)), (2, .int v2), (3, .int v3), (4, .int v4), (5, .int v5)] → W p l e rmX5_readsByTraced s m args below meth c H locs 0 0 (MQ below (va_Qi Q (wE shX 51 K) (wA 51 K)) args s 0 0 (wA 51 K)) (F0 m 41 ls [])) := by
  obtain ⟨hx, hb, hml, hown, hts, hr, hlk, hK⟩ := id C
  intro n
  induction n with
  | zero => exact ⟨fun _ _ _ _ _ _ _ _ hw _ _ _ => False.elim hw, fun _ _ _ _ _ _ _ _ hw _ _ _ => False.elim hw⟩
  | succ n ih =>
    refine ⟨?_, ?_⟩
    · intro v2 v3 v4 v5 M H locs ls hw hP hS hl
      have hw : f_X5_readsByTraced_14 Q (p_X5_readsByTraced Q n) v2 v3 v4 v5 M := hw
      delta f_X5_readsByTraced_14 at hw
      refine lv_iload hx hb dX5_readsByTraced_14 (lv_at hl 4 rfl) ?_
      refine lv_iload_n hx hb dX5_readsByTraced_16 rfl (lv_at hl 1 rfl) ?_
      refine lv_icmp_ge (tgt := 47) hx hb dX5_readsByTraced_17 (by decide) (fun hc => ?_) (fun hc => ?_)
      · have hw := hw.1 hc
        refine lv_iload hx hb dX5_readsByTraced_47 (lv_at hl 3 rfl) ?_
        exact r_i C hP hS hw dX5_readsByTraced_49
      · have hw := hw.2 hc
        refine lv_iload_n hx hb dX5_readsByTraced_20 rfl (lv_at hl 2 rfl) ?_
        refine lv_iload hx hb dX5_readsByTraced_21 (lv_at hl 4 rfl) ?_
        refine lv_ishr hx hb dX5_readsByTraced_23 ?_
        refine lv_iconst hx hb dX5_readsByTraced_24 ic_1 ?_
        refine lv_iand hx hb dX5_readsByTraced_25 ?_
        refine lv_if_eq (tgt := 41) hx hb dX5_readsByTraced_26 (by decide) (fun hc => ?_) (fun hc => ?_)
        · have hw := hw.1 hc
          exact ih.2 _ _ _ _ _ _ _ _ hw hP hS (lv_sub hl [0, 1, 2, 3, 4] rfl)
        · have hw := hw.2 hc
          refine lv_iload hx hb dX5_readsByTraced_29 (lv_at hl 3 rfl) ?_
          refine lv_aload_n hx hb dX5_readsByTraced_31 rfl (lv_at hl 0 rfl) ?_
          refine g_f C hP (by decide) (sX_0 K _) rfl hX5_readsByTraced_X5 7 (by decide) kX5_readsByTraced_f47 rfl dX5_readsByTraced_32 ?_
          refine lv_iload hx hb dX5_readsByTraced_35 (lv_at hl 4 rfl) ?_
          have hi_2 := hw.1
          have hw := hw.2
          refine a_il C hP (by decide) (sX_29 K _) hi_2 rfl dX5_readsByTraced_37 ?_
          refine lv_iadd hx hb dX5_readsByTraced_38 ?_
          refine lv_topi (fun x_3 ex_3 => ?_)
          have hw := hw x_3 ex_3
          refine lv_istore (lv' := [(4, .int x_3), (0, .ref (kb K + 0)), (2, .int v2), (3, .int v3), (5, .int v5)]) hx hb dX5_readsByTraced_39 hl (by decide) rfl (fun ls hl => ?_)
          exact ih.2 _ _ _ _ _ _ _ _ hw hP hS (lv_sub hl [1, 2, 3, 0, 4] rfl)
    · intro v2 v3 v4 v5 M H locs ls hw hP hS hl
      have hw : f_X5_readsByTraced_41 Q (p_X5_readsByTraced Q n) v2 v3 v4 v5 M := hw
      delta f_X5_readsByTraced_41 at hw
      refine lv_iinc (v := (v5 + 1)) (lv' := [(5, .int (v5 + 1)), (0, .ref (kb K + 0)), (2, .int v2), (3, .int v3), (4, .int v4)]) hx hb dX5_readsByTraced_41 hl (k := 4) rfl (by rw [ic_1]) (by decide) rfl (fun ls hl => ?_)
      refine lv_goto (tgt := 14) hx hb dX5_readsByTraced_44 (by decide) ?_
      exact ih.1 _ _ _ _ _ _ _ _ hw hP hS (lv_sub hl [1, 2, 3, 4, 0] rfl)
theorem dsX5_readsByTraced : yX5_readsByTraced.cls = RX5 ∧ yX5_readsByTraced.cls ≠ "java/lang/invoke/MethodHandle" ∧ yX5_readsByTraced.cls ≠ "java/lang/invoke/VarHandle" ∧ (parseMethodDescriptor yX5_readsByTraced.desc).map (fun d => d.parameters.length) = some 3 := by decide +kernel
set_option maxRecDepth 100000 in
set_option maxHeartbeats 4000000 in
theorem c_X5_readsByTraced {l : Launch} {K : wC} {v1 : Int32} {v2 : Int32} {v3 : Int32} {M : Mem} {Q : Int32 → Mem → Prop} (hw : q_X5_readsByTraced v1 v2 v3 M Q) : metI l yX5_readsByTraced wsX5_readsByTraced rmX5_readsByTraced shX 51 K [.ref (kb K + 0), .int v1, .int v2, .int v3] M Q := by
  refine met_of (cc := cX5_readsByTraced) (maxL := 6) (ret := (some .int)) (own := RX5) (by decide) rfl rfl (Nat.le_of_ble_eq_true rfl) ?_
  intro p e s m below meth c ls C hl hP hS
  have hl : lv_has ls 6 [(0, .ref (kb K + 0)), (1, .int v1), (2, .int v2), (3, .int v3)] := hl
  obtain ⟨hx, hb, hml, hown, hts, hr, hlk, hK⟩ := id C
  have hP0 := hP
  obtain ⟨n, hw⟩ := hw
  have ih := b_X5_readsByTraced (l := l) (e := e) (below := below) (Q := Q) C n
  delta e_X5_readsByTraced at hw
  refine lv_aload_n hx hb dX5_readsByTraced_0 rfl (lv_at hl 0 rfl) ?_
  refine g_f C hP (by decide) (sX_0 K _) rfl hX5_readsByTraced_X5 0 (by decide) kX5_readsByTraced_f10 rfl dX5_readsByTraced_1 ?_
  refine g_f C hP (by decide) (sX_1 K _) rfl hX5_readsByTraced_X0 5 (by decide) kX5_readsByTraced_f146 rfl dX5_readsByTraced_4 ?_
  refine lv_iload_n hx hb dX5_readsByTraced_7 rfl (lv_at hl 1 rfl) ?_
  have hi_1 := hw.1
  have hw := hw.2
  refine a_il C hP (by decide) (sX_6 K _) hi_1 rfl dX5_readsByTraced_8 ?_
  refine lv_istore (lv' := [(4, .int (M 6 v1.toNatClampNeg)), (0, .ref (kb K + 0)), (1, .int v1), (2, .int v2), (3, .int v3)]) hx hb dX5_readsByTraced_9 hl (by decide) rfl (fun ls hl => ?_)
  refine lv_iconst hx hb dX5_readsByTraced_11 ic_0 ?_
  refine lv_istore (lv' := [(5, .int (0 : Int32)), (4, .int (M 6 v1.toNatClampNeg)), (0, .ref (kb K + 0)), (1, .int v1), (2, .int v2), (3, .int v3)]) hx hb dX5_readsByTraced_12 hl (by decide) rfl (fun ls hl => ?_)
  exact ih.1 _ _ _ _ _ _ _ _ hw hP hS (lv_sub hl [2, 4, 5, 1, 0] rfl)

abbrev rmX5_chancesOf : Room := { frames := 0, cells := 0, slots := 0, locals := 0 }
abbrev t_X5_chancesOf : Type := (Int32 → Int32 → Int32 → Int64 → Int32 → Mem → Prop) × (Int32 → Int32 → Int32 → Int32 → Int64 → Int64 → Mem → Prop)
def f_X5_chancesOf_5 (Q : Int64 → Mem → Prop) (r : t_X5_chancesOf) (v0 : Int32) (v1 : Int32) (v2 : Int32) (v3 : Int64) (v5 : Int32) (M : Mem) : Prop := ((v1 ≤ v5 → Q v3 M) ∧ (¬ v1 ≤ v5 → ((((v2 >>> (v5 &&& 31)) &&& (1 : Int32)) = 0 → r.2 v0 v1 v2 v5 v0.toInt64 v3 M) ∧ (¬ ((v2 >>> (v5 &&& 31)) &&& (1 : Int32)) = 0 → r.2 v0 v1 v2 v5 ((10 : Int32) - v0).toInt64 v3 M))))
def f_X5_chancesOf_31 (Q : Int64 → Mem → Prop) (r : t_X5_chancesOf) (v0 : Int32) (v1 : Int32) (v2 : Int32) (v5 : Int32) (s0 : Int64) (s1 : Int64) (M : Mem) : Prop := r.1 v0 v1 v2 (s1 * s0) (v5 + 1) M
def p_X5_chancesOf (Q : Int64 → Mem → Prop) : Nat → t_X5_chancesOf
  | 0 => (fun _ _ _ _ _ _ => False, fun _ _ _ _ _ _ _ => False)
  | n + 1 => (f_X5_chancesOf_5 Q (p_X5_chancesOf Q n), f_X5_chancesOf_31 Q (p_X5_chancesOf Q n))
def e_X5_chancesOf (v0 : Int32) (v1 : Int32) (v2 : Int32) (Q : Int64 → Mem → Prop) (r : t_X5_chancesOf) (M : Mem) : Prop := r.1 v0 v1 v2 (1 : Int64) (0 : Int32) M
def q_X5_chancesOf (v0 : Int32) (v1 : Int32) (v2 : Int32) (M : Mem) (Q : Int64 → Mem → Prop) : Prop := ∃ n : Nat, e_X5_chancesOf v0 v1 v2 Q (p_X5_chancesOf Q n) M
set_option maxRecDepth 100000 in
set_option maxHeartbeats 4000000 in
theorem b_X5_chancesOf {l : Launch} {K : wC} {Q : Int64 → Mem → Prop} {p : Program} {e : Env} {s : State} {m : MethodId} {args : Array Value} {below : List Frame} {meth : Method} {c : Code} (C : cx 51 K p s m args meth c cX5_chancesOf 6 wsX5_chancesOf RX5 (some .long)) : ∀ n : Nat, (∀ (v0 : Int32) (v1 : Int32) (v2 : Int32) (v3 : Int64) (v5 : Int32) (M : Mem) (H : Heap) (locs : List Loc) (ls : Array Slot), (p_X5_chancesOf Q n).1 v0 v1 v2 v3 v5 M → wP shX 51 K M H → va_S (wA 51 K) s.heap H locs → lv_has ls 6 [(0, .int v0), (1, .int v1), (2, .int v2), (3, .long v3), (5, .int v5)] → W p l e rmX5_chancesOf s m args below meth c H locs 0 0 (MQ below (va_Ql Q (wE shX 51 K) (wA 51 K)) args s 0 0 (wA 51 K)) (F0 m 5 ls [])) ∧ (∀ (v0 : Int32) (v1 : Int32) (v2 : Int32) (v5 : Int32) (s0 : Int64) (s1 : Int64) (M : Mem) (H : Heap) (locs : List Loc) (ls : Array Slot), (p_X5_chancesOf Q n).2 v0 v1 v2 v5 s0 s1 M → wP shX 51 K M H → va_S (wA 51 K) s.heap H locs → lv_has ls 6 [(0, .int v0), (1, .int v1), (2, .int v2), (5, .int v5)] → W p l e rmX5_chancesOf s m args below meth c H locs 0 0 (MQ below (va_Ql Q (wE shX 51 K) (wA 51 K)) args s 0 0 (wA 51 K)) (F0 m 31 ls [.long s0, .long s1])) := by
  obtain ⟨hx, hb, hml, hown, hts, hr, hlk, hK⟩ := id C
  intro n
  induction n with
  | zero => exact ⟨fun _ _ _ _ _ _ _ _ _ hw _ _ _ => False.elim hw, fun _ _ _ _ _ _ _ _ _ _ hw _ _ _ => False.elim hw⟩
  | succ n ih =>
    refine ⟨?_, ?_⟩
    · intro v0 v1 v2 v3 v5 M H locs ls hw hP hS hl
      have hw : f_X5_chancesOf_5 Q (p_X5_chancesOf Q n) v0 v1 v2 v3 v5 M := hw
      delta f_X5_chancesOf_5 at hw
      refine lv_iload hx hb dX5_chancesOf_5 (lv_at hl 4 rfl) ?_
      refine lv_iload_n hx hb dX5_chancesOf_7 rfl (lv_at hl 1 rfl) ?_
      refine lv_icmp_ge (tgt := 39) hx hb dX5_chancesOf_8 (by decide) (fun hc => ?_) (fun hc => ?_)
      · have hw := hw.1 hc
        refine lv_lload_n hx hb dX5_chancesOf_39 rfl (lv_at hl 3 rfl) ?_
        exact r_l C hP hS hw dX5_chancesOf_40
      · have hw := hw.2 hc
        refine lv_lload_n hx hb dX5_chancesOf_11 rfl (lv_at hl 3 rfl) ?_
        refine lv_iload_n hx hb dX5_chancesOf_12 rfl (lv_at hl 2 rfl) ?_
        refine lv_iload hx hb dX5_chancesOf_13 (lv_at hl 4 rfl) ?_
        refine lv_ishr hx hb dX5_chancesOf_15 ?_
        refine lv_iconst hx hb dX5_chancesOf_16 ic_1 ?_
        refine lv_iand hx hb dX5_chancesOf_17 ?_
        refine lv_if_eq (tgt := 29) hx hb dX5_chancesOf_18 (by decide) (fun hc => ?_) (fun hc => ?_)
        · have hw := hw.1 hc
          refine lv_iload_n hx hb dX5_chancesOf_29 rfl (lv_at hl 0 rfl) ?_
          refine lv_i2l hx hb dX5_chancesOf_30 rfl ?_
          exact ih.2 _ _ _ _ _ _ _ _ _ _ hw hP hS (lv_sub hl [0, 1, 2, 4] rfl)
        · have hw := hw.2 hc
          refine lv_bipush hx hb dX5_chancesOf_21 bp_10 ?_
          refine lv_iload_n hx hb dX5_chancesOf_23 rfl (lv_at hl 0 rfl) ?_
          refine lv_isub hx hb dX5_chancesOf_24 ?_
          refine lv_i2l hx hb dX5_chancesOf_25 rfl ?_
          refine lv_goto (tgt := 31) hx hb dX5_chancesOf_26 (by decide) ?_
          exact ih.2 _ _ _ _ _ _ _ _ _ _ hw hP hS (lv_sub hl [0, 1, 2, 4] rfl)
    · intro v0 v1 v2 v5 s0 s1 M H locs ls hw hP hS hl
      have hw : f_X5_chancesOf_31 Q (p_X5_chancesOf Q n) v0 v1 v2 v5 s0 s1 M := hw
      delta f_X5_chancesOf_31 at hw
      refine lv_lmul hx hb dX5_chancesOf_31 ?_
      refine lv_lstore_n (lv' := [(3, .long (s1 * s0)), (0, .int v0), (1, .int v1), (2, .int v2), (5, .int v5)]) hx hb dX5_chancesOf_32 rfl hl (by decide) rfl (fun ls hl => ?_)
      refine lv_iinc (v := (v5 + 1)) (lv' := [(5, .int (v5 + 1)), (3, .long (s1 * s0)), (0, .int v0), (1, .int v1), (2, .int v2)]) hx hb dX5_chancesOf_33 hl (k := 4) rfl (by rw [ic_1]) (by decide) rfl (fun ls hl => ?_)
      refine lv_goto (tgt := 5) hx hb dX5_chancesOf_36 (by decide) ?_
      exact ih.1 _ _ _ _ _ _ _ _ _ hw hP hS (lv_sub hl [2, 3, 4, 1, 0] rfl)
theorem dsX5_chancesOf : yX5_chancesOf.cls ≠ "java/lang/invoke/MethodHandle" ∧ yX5_chancesOf.cls ≠ "java/lang/invoke/VarHandle" ∧ (parseMethodDescriptor yX5_chancesOf.desc).map (fun d => d.parameters.length) = some 3 := by decide +kernel
set_option maxRecDepth 100000 in
set_option maxHeartbeats 4000000 in
theorem c_X5_chancesOf {l : Launch} {K : wC} {v0 : Int32} {v1 : Int32} {v2 : Int32} {M : Mem} {Q : Int64 → Mem → Prop} (hw : q_X5_chancesOf v0 v1 v2 M Q) : metL l yX5_chancesOf wsX5_chancesOf rmX5_chancesOf shX 51 K [.int v0, .int v1, .int v2] M Q := by
  refine met_of (cc := cX5_chancesOf) (maxL := 6) (ret := (some .long)) (own := RX5) (by decide) rfl rfl (Nat.le_of_ble_eq_true rfl) ?_
  intro p e s m below meth c ls C hl hP hS
  have hl : lv_has ls 6 [(0, .int v0), (1, .int v1), (2, .int v2)] := hl
  obtain ⟨hx, hb, hml, hown, hts, hr, hlk, hK⟩ := id C
  have hP0 := hP
  obtain ⟨n, hw⟩ := hw
  have ih := b_X5_chancesOf (l := l) (e := e) (below := below) (Q := Q) C n
  delta e_X5_chancesOf at hw
  refine lv_lconst hx hb dX5_chancesOf_0 lc_1 ?_
  refine lv_lstore_n (lv' := [(3, .long (1 : Int64)), (0, .int v0), (1, .int v1), (2, .int v2)]) hx hb dX5_chancesOf_1 rfl hl (by decide) rfl (fun ls hl => ?_)
  refine lv_iconst hx hb dX5_chancesOf_2 ic_0 ?_
  refine lv_istore (lv' := [(5, .int (0 : Int32)), (3, .long (1 : Int64)), (0, .int v0), (1, .int v1), (2, .int v2)]) hx hb dX5_chancesOf_3 hl (by decide) rfl (fun ls hl => ?_)
  exact ih.1 _ _ _ _ _ _ _ _ _ hw hP hS (lv_sub hl [2, 3, 4, 1, 0] rfl)

theorem kX5_tenTimes_c320 : Cond.constantLong RX5 320 (10) ∈ wsX5_tenTimes := List.mem_of_getElem? (i := 1) rfl
abbrev rmX5_tenTimes : Room := { frames := 0, cells := 0, slots := 0, locals := 0 }
abbrev t_X5_tenTimes : Type := (Int32 → Int64 → Int32 → Mem → Prop)
def f_X5_tenTimes_4 (Q : Int64 → Mem → Prop) (r : t_X5_tenTimes) (v0 : Int32) (v1 : Int64) (v3 : Int32) (M : Mem) : Prop := ((v0 ≤ v3 → Q v1 M) ∧ (¬ v0 ≤ v3 → r v0 (v1 * (10 : Int64)) (v3 + 1) M))
def p_X5_tenTimes (Q : Int64 → Mem → Prop) : Nat → t_X5_tenTimes
  | 0 => fun _ _ _ _ => False
  | n + 1 => f_X5_tenTimes_4 Q (p_X5_tenTimes Q n)
def e_X5_tenTimes (v0 : Int32) (Q : Int64 → Mem → Prop) (r : t_X5_tenTimes) (M : Mem) : Prop := r v0 (1 : Int64) (0 : Int32) M
def q_X5_tenTimes (v0 : Int32) (M : Mem) (Q : Int64 → Mem → Prop) : Prop := ∃ n : Nat, e_X5_tenTimes v0 Q (p_X5_tenTimes Q n) M
set_option maxRecDepth 100000 in
set_option maxHeartbeats 4000000 in
theorem b_X5_tenTimes {l : Launch} {K : wC} {Q : Int64 → Mem → Prop} {p : Program} {e : Env} {s : State} {m : MethodId} {args : Array Value} {below : List Frame} {meth : Method} {c : Code} (C : cx 51 K p s m args meth c cX5_tenTimes 4 wsX5_tenTimes RX5 (some .long)) : ∀ n : Nat, (∀ (v0 : Int32) (v1 : Int64) (v3 : Int32) (M : Mem) (H : Heap) (locs : List Loc) (ls : Array Slot), (p_X5_tenTimes Q n) v0 v1 v3 M → wP shX 51 K M H → va_S (wA 51 K) s.heap H locs → lv_has ls 4 [(0, .int v0), (1, .long v1), (3, .int v3)] → W p l e rmX5_tenTimes s m args below meth c H locs 0 0 (MQ below (va_Ql Q (wE shX 51 K) (wA 51 K)) args s 0 0 (wA 51 K)) (F0 m 4 ls [])) := by
  obtain ⟨hx, hb, hml, hown, hts, hr, hlk, hK⟩ := id C
  intro n
  induction n with
  | zero => exact fun _ _ _ _ _ _ _ hw _ _ _ => False.elim hw
  | succ n ih =>
    intro v0 v1 v3 M H locs ls hw hP hS hl
    have hw : f_X5_tenTimes_4 Q (p_X5_tenTimes Q n) v0 v1 v3 M := hw
    delta f_X5_tenTimes_4 at hw
    refine lv_iload_n hx hb dX5_tenTimes_4 rfl (lv_at hl 2 rfl) ?_
    refine lv_iload_n hx hb dX5_tenTimes_5 rfl (lv_at hl 0 rfl) ?_
    refine lv_icmp_ge (tgt := 21) hx hb dX5_tenTimes_6 (by decide) (fun hc => ?_) (fun hc => ?_)
    · have hw := hw.1 hc
      refine lv_lload_n hx hb dX5_tenTimes_21 rfl (lv_at hl 1 rfl) ?_
      exact r_l C hP hS hw dX5_tenTimes_22
    · have hw := hw.2 hc
      refine lv_lload_n hx hb dX5_tenTimes_9 rfl (lv_at hl 1 rfl) ?_
      refine lv_ldc2 hx hb hown (hts _ kX5_tenTimes_c320) dX5_tenTimes_10 ?_
      refine lv_lmul hx hb dX5_tenTimes_13 ?_
      refine lv_lstore_n (lv' := [(1, .long (v1 * (10 : Int64))), (0, .int v0), (3, .int v3)]) hx hb dX5_tenTimes_14 rfl hl (by decide) rfl (fun ls hl => ?_)
      refine lv_iinc (v := (v3 + 1)) (lv' := [(3, .int (v3 + 1)), (1, .long (v1 * (10 : Int64))), (0, .int v0)]) hx hb dX5_tenTimes_15 hl (k := 2) rfl (by rw [ic_1]) (by decide) rfl (fun ls hl => ?_)
      refine lv_goto (tgt := 4) hx hb dX5_tenTimes_18 (by decide) ?_
      exact ih _ _ _ _ _ _ _ hw hP hS (lv_sub hl [2, 1, 0] rfl)
theorem dsX5_tenTimes : yX5_tenTimes.cls ≠ "java/lang/invoke/MethodHandle" ∧ yX5_tenTimes.cls ≠ "java/lang/invoke/VarHandle" ∧ (parseMethodDescriptor yX5_tenTimes.desc).map (fun d => d.parameters.length) = some 1 := by decide +kernel
set_option maxRecDepth 100000 in
set_option maxHeartbeats 4000000 in
theorem c_X5_tenTimes {l : Launch} {K : wC} {v0 : Int32} {M : Mem} {Q : Int64 → Mem → Prop} (hw : q_X5_tenTimes v0 M Q) : metL l yX5_tenTimes wsX5_tenTimes rmX5_tenTimes shX 51 K [.int v0] M Q := by
  refine met_of (cc := cX5_tenTimes) (maxL := 4) (ret := (some .long)) (own := RX5) (by decide) rfl rfl (Nat.le_of_ble_eq_true rfl) ?_
  intro p e s m below meth c ls C hl hP hS
  have hl : lv_has ls 4 [(0, .int v0)] := hl
  obtain ⟨hx, hb, hml, hown, hts, hr, hlk, hK⟩ := id C
  have hP0 := hP
  obtain ⟨n, hw⟩ := hw
  have ih := b_X5_tenTimes (l := l) (e := e) (below := below) (Q := Q) C n
  delta e_X5_tenTimes at hw
  refine lv_lconst hx hb dX5_tenTimes_0 lc_1 ?_
  refine lv_lstore_n (lv' := [(1, .long (1 : Int64)), (0, .int v0)]) hx hb dX5_tenTimes_1 rfl hl (by decide) rfl (fun ls hl => ?_)
  refine lv_iconst hx hb dX5_tenTimes_2 ic_0 ?_
  refine lv_istore_n (lv' := [(3, .int (0 : Int32)), (1, .long (1 : Int64)), (0, .int v0)]) hx hb dX5_tenTimes_3 rfl hl (by decide) rfl (fun ls hl => ?_)
  exact ih _ _ _ _ _ _ _ hw hP hS (lv_sub hl [2, 1, 0] rfl)

abbrev rmX5_commonDivisor : Room := { frames := 0, cells := 0, slots := 0, locals := 0 }
abbrev t_X5_commonDivisor : Type := (Int64 → Int64 → Int32 → Mem → Prop)
def f_X5_commonDivisor_9 (Q : Int64 → Mem → Prop) (r : t_X5_commonDivisor) (v4 : Int64) (v6 : Int64) (v8 : Int32) (M : Mem) : Prop := (((100 : Int32) ≤ v8 → Q v4 M) ∧ (¬ (100 : Int32) ≤ v8 → (((lg_cmp v6 (0 : Int64)) = 0 → Q v4 M) ∧ (¬ (lg_cmp v6 (0 : Int64)) = 0 → (¬ v6 = 0) ∧ r v6 (v4 - v4 / v6 * v6) (v8 + 1) M))))
def p_X5_commonDivisor (Q : Int64 → Mem → Prop) : Nat → t_X5_commonDivisor
  | 0 => fun _ _ _ _ => False
  | n + 1 => f_X5_commonDivisor_9 Q (p_X5_commonDivisor Q n)
def e_X5_commonDivisor (v0 : Int64) (v2 : Int64) (Q : Int64 → Mem → Prop) (r : t_X5_commonDivisor) (M : Mem) : Prop := r v0 v2 (0 : Int32) M
def q_X5_commonDivisor (v0 : Int64) (v2 : Int64) (M : Mem) (Q : Int64 → Mem → Prop) : Prop := ∃ n : Nat, e_X5_commonDivisor v0 v2 Q (p_X5_commonDivisor Q n) M
set_option maxRecDepth 100000 in
set_option maxHeartbeats 4000000 in
theorem b_X5_commonDivisor {l : Launch} {K : wC} {Q : Int64 → Mem → Prop} {p : Program} {e : Env} {s : State} {m : MethodId} {args : Array Value} {below : List Frame} {meth : Method} {c : Code} (C : cx 51 K p s m args meth c cX5_commonDivisor 11 wsX5_commonDivisor RX5 (some .long)) : ∀ n : Nat, (∀ (v4 : Int64) (v6 : Int64) (v8 : Int32) (M : Mem) (H : Heap) (locs : List Loc) (ls : Array Slot), (p_X5_commonDivisor Q n) v4 v6 v8 M → wP shX 51 K M H → va_S (wA 51 K) s.heap H locs → lv_has ls 11 [(4, .long v4), (6, .long v6), (8, .int v8)] → W p l e rmX5_commonDivisor s m args below meth c H locs 0 0 (MQ below (va_Ql Q (wE shX 51 K) (wA 51 K)) args s 0 0 (wA 51 K)) (F0 m 9 ls [])) := by
  obtain ⟨hx, hb, hml, hown, hts, hr, hlk, hK⟩ := id C
  intro n
  induction n with
  | zero => exact fun _ _ _ _ _ _ _ hw _ _ _ => False.elim hw
  | succ n ih =>
    intro v4 v6 v8 M H locs ls hw hP hS hl
    have hw : f_X5_commonDivisor_9 Q (p_X5_commonDivisor Q n) v4 v6 v8 M := hw
    delta f_X5_commonDivisor_9 at hw
    refine lv_iload hx hb dX5_commonDivisor_9 (lv_at hl 2 rfl) ?_
    refine lv_bipush hx hb dX5_commonDivisor_11 bp_100 ?_
    refine lv_icmp_ge (tgt := 44) hx hb dX5_commonDivisor_13 (by decide) (fun hc => ?_) (fun hc => ?_)
    · have hw := hw.1 hc
      refine lv_lload hx hb dX5_commonDivisor_44 (lv_at hl 0 rfl) ?_
      exact r_l C hP hS hw dX5_commonDivisor_46
    · have hw := hw.2 hc
      refine lv_lload hx hb dX5_commonDivisor_16 (lv_at hl 1 rfl) ?_
      refine lv_lconst hx hb dX5_commonDivisor_18 lc_0 ?_
      refine W.lcmp hx hb dX5_commonDivisor_19 ?_
      refine lv_if_eq (tgt := 44) hx hb dX5_commonDivisor_20 (by decide) (fun hc => ?_) (fun hc => ?_)
      · have hw := hw.1 hc
        refine lv_lload hx hb dX5_commonDivisor_44 (lv_at hl 0 rfl) ?_
        exact r_l C hP hS hw dX5_commonDivisor_46
      · have hw := hw.2 hc
        refine lv_lload hx hb dX5_commonDivisor_23 (lv_at hl 0 rfl) ?_
        refine lv_lload hx hb dX5_commonDivisor_25 (lv_at hl 1 rfl) ?_
        have hz_1 := hw.1
        have hw := hw.2
        refine lv_lrem hx hb dX5_commonDivisor_27 hz_1 ?_
        refine lv_lstore (lv' := [(9, .long (v4 - v4 / v6 * v6)), (4, .long v4), (6, .long v6), (8, .int v8)]) hx hb dX5_commonDivisor_28 hl (by decide) rfl (fun ls hl => ?_)
        refine lv_lload hx hb dX5_commonDivisor_30 (lv_at hl 2 rfl) ?_
        refine lv_lstore (lv' := [(4, .long v6), (9, .long (v4 - v4 / v6 * v6)), (6, .long v6), (8, .int v8)]) hx hb dX5_commonDivisor_32 hl (by decide) rfl (fun ls hl => ?_)
        refine lv_lload hx hb dX5_commonDivisor_34 (lv_at hl 1 rfl) ?_
        refine lv_lstore (lv' := [(6, .long (v4 - v4 / v6 * v6)), (4, .long v6), (9, .long (v4 - v4 / v6 * v6)), (8, .int v8)]) hx hb dX5_commonDivisor_36 hl (by decide) rfl (fun ls hl => ?_)
        refine lv_iinc (v := (v8 + 1)) (lv' := [(8, .int (v8 + 1)), (6, .long (v4 - v4 / v6 * v6)), (4, .long v6), (9, .long (v4 - v4 / v6 * v6))]) hx hb dX5_commonDivisor_38 hl (k := 3) rfl (by rw [ic_1]) (by decide) rfl (fun ls hl => ?_)
        refine lv_goto (tgt := 9) hx hb dX5_commonDivisor_41 (by decide) ?_
        exact ih _ _ _ _ _ _ _ hw hP hS (lv_sub hl [2, 1, 0] rfl)
theorem dsX5_commonDivisor : yX5_commonDivisor.cls ≠ "java/lang/invoke/MethodHandle" ∧ yX5_commonDivisor.cls ≠ "java/lang/invoke/VarHandle" ∧ (parseMethodDescriptor yX5_commonDivisor.desc).map (fun d => d.parameters.length) = some 2 := by decide +kernel
set_option maxRecDepth 100000 in
set_option maxHeartbeats 4000000 in
theorem c_X5_commonDivisor {l : Launch} {K : wC} {v0 : Int64} {v2 : Int64} {M : Mem} {Q : Int64 → Mem → Prop} (hw : q_X5_commonDivisor v0 v2 M Q) : metL l yX5_commonDivisor wsX5_commonDivisor rmX5_commonDivisor shX 51 K [.long v0, .long v2] M Q := by
  refine met_of (cc := cX5_commonDivisor) (maxL := 11) (ret := (some .long)) (own := RX5) (by decide) rfl rfl (Nat.le_of_ble_eq_true rfl) ?_
  intro p e s m below meth c ls C hl hP hS
  have hl : lv_has ls 11 [(0, .long v0), (2, .long v2)] := hl
  obtain ⟨hx, hb, hml, hown, hts, hr, hlk, hK⟩ := id C
  have hP0 := hP
  obtain ⟨n, hw⟩ := hw
  have ih := b_X5_commonDivisor (l := l) (e := e) (below := below) (Q := Q) C n
  delta e_X5_commonDivisor at hw
  refine lv_lload_n hx hb dX5_commonDivisor_0 rfl (lv_at hl 0 rfl) ?_
  refine lv_lstore (lv' := [(4, .long v0), (0, .long v0), (2, .long v2)]) hx hb dX5_commonDivisor_1 hl (by decide) rfl (fun ls hl => ?_)
  refine lv_lload_n hx hb dX5_commonDivisor_3 rfl (lv_at hl 2 rfl) ?_
  refine lv_lstore (lv' := [(6, .long v2), (4, .long v0), (0, .long v0), (2, .long v2)]) hx hb dX5_commonDivisor_4 hl (by decide) rfl (fun ls hl => ?_)
  refine lv_iconst hx hb dX5_commonDivisor_6 ic_0 ?_
  refine lv_istore (lv' := [(8, .int (0 : Int32)), (6, .long v2), (4, .long v0), (0, .long v0), (2, .long v2)]) hx hb dX5_commonDivisor_7 hl (by decide) rfl (fun ls hl => ?_)
  exact ih _ _ _ _ _ _ _ hw hP hS (lv_sub hl [2, 1, 0] rfl)

theorem kX5_partOfFraction_c227 : Cond.constantLong RX5 227 (-1) ∈ wsX5_partOfFraction := List.mem_of_getElem? (i := 1) rfl
abbrev rmX5_partOfFraction : Room := { frames := 1, cells := 0, slots := 0, locals := 30 }
def f_X5_partOfFraction_28 (Q : Int64 → Mem → Prop) (v5 : Int64) (s0 : Int64) (M : Mem) : Prop := (¬ v5 = 0) ∧ Q (s0 / v5) M
def q_X5_partOfFraction (v0 : Int64) (v2 : Int64) (v4 : Int32) (M : Mem) (Q : Int64 → Mem → Prop) : Prop := q_X5_commonDivisor v0 v2 M (fun r_2 M_1 => ((0 < (lg_cmp r_2 (0 : Int64)) → ((¬ v4 = 0 → f_X5_partOfFraction_28 Q r_2 v2 M_1) ∧ (v4 = 0 → f_X5_partOfFraction_28 Q r_2 v0 M_1))) ∧ (¬ 0 < (lg_cmp r_2 (0 : Int64)) → Q (-1 : Int64) M_1)))
set_option maxRecDepth 100000 in
set_option maxHeartbeats 4000000 in
theorem b_X5_partOfFraction_28 {l : Launch} {K : wC} {Q : Int64 → Mem → Prop} {p : Program} {e : Env} {s : State} {m : MethodId} {args : Array Value} {below : List Frame} {meth : Method} {c : Code} (C : cx 51 K p s m args meth c cX5_partOfFraction 7 wsX5_partOfFraction RX5 (some .long)) (v5 : Int64) (s0 : Int64) (M : Mem) (H : Heap) (locs : List Loc) (ls : Array Slot) (hw : f_X5_partOfFraction_28 Q v5 s0 M) (hP : wP shX 51 K M H) (hS : va_S (wA 51 K) s.heap H locs) (hl : lv_has ls 7 [(5, .long v5)]) : W p l e rmX5_partOfFraction s m args below meth c H locs 0 0 (MQ below (va_Ql Q (wE shX 51 K) (wA 51 K)) args s 0 0 (wA 51 K)) (F0 m 28 ls [.long s0]) := by
  obtain ⟨hx, hb, hml, hown, hts, hr, hlk, hK⟩ := id C
  delta f_X5_partOfFraction_28 at hw
  refine lv_lload hx hb dX5_partOfFraction_28 (lv_at hl 0 rfl) ?_
  have hz_3 := hw.1
  have hw := hw.2
  refine lv_ldiv hx hb dX5_partOfFraction_30 hz_3 ?_
  exact r_l C hP hS hw dX5_partOfFraction_31
theorem dsX5_partOfFraction : yX5_partOfFraction.cls ≠ "java/lang/invoke/MethodHandle" ∧ yX5_partOfFraction.cls ≠ "java/lang/invoke/VarHandle" ∧ (parseMethodDescriptor yX5_partOfFraction.desc).map (fun d => d.parameters.length) = some 3 := by decide +kernel
set_option maxRecDepth 100000 in
set_option maxHeartbeats 4000000 in
theorem c_X5_partOfFraction {l : Launch} {K : wC} {v0 : Int64} {v2 : Int64} {v4 : Int32} {M : Mem} {Q : Int64 → Mem → Prop} (hw : q_X5_partOfFraction v0 v2 v4 M Q) : metL l yX5_partOfFraction wsX5_partOfFraction rmX5_partOfFraction shX 51 K [.long v0, .long v2, .int v4] M Q := by
  refine met_of (cc := cX5_partOfFraction) (maxL := 7) (ret := (some .long)) (own := RX5) (by decide) rfl rfl (Nat.le_of_ble_eq_true rfl) ?_
  intro p e s m below meth c ls C hl hP hS
  have hl : lv_has ls 7 [(0, .long v0), (2, .long v2), (4, .int v4)] := hl
  obtain ⟨hx, hb, hml, hown, hts, hr, hlk, hK⟩ := id C
  have hP0 := hP
  delta q_X5_partOfFraction at hw
  refine lv_lload_n hx hb dX5_partOfFraction_0 rfl (lv_at hl 0 rfl) ?_
  refine lv_lload_n hx hb dX5_partOfFraction_1 rfl (lv_at hl 1 rfl) ?_
  refine c_l (run_s (As := [.long v0, .long v2]) (rest := []) C hP hS (c_X5_commonDivisor hw) gX5_partOfFraction_X5_commonDivisor rfl dsX5_commonDivisor rfl ⟨rfl, rfl⟩ ⟨Nat.le_of_ble_eq_true rfl, Nat.le_of_ble_eq_true rfl⟩ hl.1 rfl (Nat.le_of_ble_eq_true rfl) dX5_partOfFraction_2 ⟨Nat.le_of_ble_eq_true rfl, Nat.le_of_ble_eq_true rfl⟩) hS (fun r_2 M_1 H locs hw hP hS => ?_)
  refine lv_lstore (lv' := [(5, .long r_2), (0, .long v0), (2, .long v2), (4, .int v4)]) hx hb dX5_partOfFraction_5 hl (by decide) rfl (fun ls hl => ?_)
  refine lv_lload hx hb dX5_partOfFraction_7 (lv_at hl 0 rfl) ?_
  refine lv_lconst hx hb dX5_partOfFraction_9 lc_0 ?_
  refine W.lcmp hx hb dX5_partOfFraction_10 ?_
  refine lv_if_gt (tgt := 18) hx hb dX5_partOfFraction_11 (by decide) (fun hc => ?_) (fun hc => ?_)
  · have hw := hw.1 hc
    refine lv_iload hx hb dX5_partOfFraction_18 (lv_at hl 3 rfl) ?_
    refine lv_if_ne (tgt := 27) hx hb dX5_partOfFraction_20 (by decide) (fun hc => ?_) (fun hc => ?_)
    · have hw := hw.1 hc
      refine lv_lload_n hx hb dX5_partOfFraction_27 rfl (lv_at hl 2 rfl) ?_
      exact b_X5_partOfFraction_28 C _ _ _ _ _ _ hw hP hS (lv_sub hl [0] rfl)
    · have hw := hw.2 hc
      refine lv_lload_n hx hb dX5_partOfFraction_23 rfl (lv_at hl 1 rfl) ?_
      refine lv_goto (tgt := 28) hx hb dX5_partOfFraction_24 (by decide) ?_
      exact b_X5_partOfFraction_28 C _ _ _ _ _ _ hw hP hS (lv_sub hl [0] rfl)
  · have hw := hw.2 hc
    refine lv_ldc2 hx hb hown (hts _ kX5_partOfFraction_c227) dX5_partOfFraction_14 ?_
    exact r_l C hP hS hw dX5_partOfFraction_17

theorem kX5_luck_c145 : Cond.constant RX5 145 (20000000) ∈ wsX5_luck := List.mem_of_getElem? (i := 2) rfl
theorem kX5_luck_c227 : Cond.constantLong RX5 227 (-1) ∈ wsX5_luck := List.mem_of_getElem? (i := 1) rfl
abbrev rmX5_luck : Room := { frames := 4, cells := 0, slots := 0, locals := 88 }
abbrev t_X5_luck : Type := (Mem → Prop) × (Int32 → Int32 → Int32 → Int32 → Int32 → Int64 → Int32 → Mem → Prop) × (Int32 → Int32 → Int32 → Int32 → Int32 → Int64 → Int32 → Mem → Prop)
def f_X5_luck_26 (Q : Int64 → Mem → Prop) (r : t_X5_luck) (M : Mem) : Prop := Q (-1 : Int64) M
def f_X5_luck_49 (Q : Int64 → Mem → Prop) (r : t_X5_luck) (v1 : Int32) (v2 : Int32) (v4 : Int32) (v5 : Int32) (v6 : Int32) (v7 : Int64) (v9 : Int32) (M : Mem) : Prop := ((((1 : Int32) <<< (v4 &&& 31)) ≤ v9 → q_X5_tenTimes v4 M (fun r_10 M_9 => q_X5_partOfFraction v7 r_10 v5 M_9 (fun r_12 M_11 => Q r_12 M_11))) ∧ (¬ ((1 : Int32) <<< (v4 &&& 31)) ≤ v9 → q_X5_readsByTraced v2 v4 v9 M (fun r_14 M_13 => ((r_14 < v6 → r.2.2 v1 v2 v4 v5 v6 v7 v9 M_13) ∧ (¬ r_14 < v6 → q_X5_chancesOf v1 v4 v9 M_13 (fun r_16 M_15 => r.2.2 v1 v2 v4 v5 v6 (v7 + r_16) v9 M_15))))))
def f_X5_luck_85 (Q : Int64 → Mem → Prop) (r : t_X5_luck) (v1 : Int32) (v2 : Int32) (v4 : Int32) (v5 : Int32) (v6 : Int32) (v7 : Int64) (v9 : Int32) (M : Mem) : Prop := r.2.1 v1 v2 v4 v5 v6 v7 (v9 + 1) M
def p_X5_luck (Q : Int64 → Mem → Prop) : Nat → t_X5_luck
  | 0 => (fun _ => False, fun _ _ _ _ _ _ _ _ => False, fun _ _ _ _ _ _ _ _ => False)
  | n + 1 => (f_X5_luck_26 Q (p_X5_luck Q n), f_X5_luck_49 Q (p_X5_luck Q n), f_X5_luck_85 Q (p_X5_luck Q n))
def e_X5_luck (v1 : Int32) (v2 : Int32) (v3 : Int32) (v4 : Int32) (v5 : Int32) (Q : Int64 → Mem → Prop) (r : t_X5_luck) (M : Mem) : Prop := q_X5_isTold v3 M (fun r_2 M_1 => ((r_2 = 0 → r.1 M_1) ∧ (¬ r_2 = 0 → q_X5_isMissing v1 v2 v4 M_1 (fun r_4 M_3 => ((r_4 = 0 → r.1 M_3) ∧ (¬ r_4 = 0 → q_X5_isEither v5 M_3 (fun r_6 M_5 => ((¬ r_6 = 0 → q_X5_setEdgeRolls v2 v4 M_5 (fun M_7 => ∀ x_8 : Int32, x_8 = (v3 - (20000000 : Int32)) → r.2.1 v1 v2 v4 v5 x_8 (0 : Int64) (0 : Int32) M_7)) ∧ (r_6 = 0 → r.1 M_5)))))))))
def q_X5_luck (v1 : Int32) (v2 : Int32) (v3 : Int32) (v4 : Int32) (v5 : Int32) (M : Mem) (Q : Int64 → Mem → Prop) : Prop := ∃ n : Nat, e_X5_luck v1 v2 v3 v4 v5 Q (p_X5_luck Q n) M
set_option maxRecDepth 100000 in
set_option maxHeartbeats 4000000 in
theorem b_X5_luck {l : Launch} {K : wC} {Q : Int64 → Mem → Prop} {p : Program} {e : Env} {s : State} {m : MethodId} {args : Array Value} {below : List Frame} {meth : Method} {c : Code} (C : cx 51 K p s m args meth c cX5_luck 10 wsX5_luck RX5 (some .long)) : ∀ n : Nat, (∀ (M : Mem) (H : Heap) (locs : List Loc) (ls : Array Slot), (p_X5_luck Q n).1 M → wP shX 51 K M H → va_S (wA 51 K) s.heap H locs → lv_has ls 10 [] → W p l e rmX5_luck s m args below meth c H locs 0 0 (MQ below (va_Ql Q (wE shX 51 K) (wA 51 K)) args s 0 0 (wA 51 K)) (F0 m 26 ls [])) ∧ (∀ (v1 : Int32) (v2 : Int32) (v4 : Int32) (v5 : Int32) (v6 : Int32) (v7 : Int64) (v9 : Int32) (M : Mem) (H : Heap) (locs : List Loc) (ls : Array Slot), (p_X5_luck Q n).2.1 v1 v2 v4 v5 v6 v7 v9 M → wP shX 51 K M H → va_S (wA 51 K) s.heap H locs → lv_has ls 10 [(0, .ref (kb K + 0)), (1, .int v1), (2, .int v2), (4, .int v4), (5, .int v5), (6, .int v6), (7, .long v7), (9, .int v9)] → W p l e rmX5_luck s m args below meth c H locs 0 0 (MQ below (va_Ql Q (wE shX 51 K) (wA 51 K)) args s 0 0 (wA 51 K)) (F0 m 49 ls [])) ∧ (∀ (v1 : Int32) (v2 : Int32) (v4 : Int32) (v5 : Int32) (v6 : Int32) (v7 : Int64) (v9 : Int32) (M : Mem) (H : Heap) (locs : List Loc) (ls : Array Slot), (p_X5_luck Q n).2.2 v1 v2 v4 v5 v6 v7 v9 M → wP shX 51 K M H → va_S (wA 51 K) s.heap H locs → lv_has ls 10 [(0, .ref (kb K + 0)), (1, .int v1), (2, .int v2), (4, .int v4), (5, .int v5), (6, .int v6), (7, .long v7), (9, .int v9)] → W p l e rmX5_luck s m args below meth c H locs 0 0 (MQ below (va_Ql Q (wE shX 51 K) (wA 51 K)) args s 0 0 (wA 51 K)) (F0 m 85 ls [])) := by
  obtain ⟨hx, hb, hml, hown, hts, hr, hlk, hK⟩ := id C
  intro n
  induction n with
  | zero => exact ⟨fun _ _ _ _ hw _ _ _ => False.elim hw, fun _ _ _ _ _ _ _ _ _ _ _ hw _ _ _ => False.elim hw, fun _ _ _ _ _ _ _ _ _ _ _ hw _ _ _ => False.elim hw⟩
  | succ n ih =>
    refine ⟨?_, ?_, ?_⟩
    · intro  M H locs ls hw hP hS hl
      have hw : f_X5_luck_26 Q (p_X5_luck Q n) M := hw
      delta f_X5_luck_26 at hw
      refine lv_ldc2 hx hb hown (hts _ kX5_luck_c227) dX5_luck_26 ?_
      exact r_l C hP hS hw dX5_luck_29
    · intro v1 v2 v4 v5 v6 v7 v9 M H locs ls hw hP hS hl
      have hw : f_X5_luck_49 Q (p_X5_luck Q n) v1 v2 v4 v5 v6 v7 v9 M := hw
      delta f_X5_luck_49 at hw
      refine lv_iload hx hb dX5_luck_49 (lv_at hl 7 rfl) ?_
      refine lv_iconst hx hb dX5_luck_51 ic_1 ?_
      refine lv_iload hx hb dX5_luck_52 (lv_at hl 3 rfl) ?_
      refine lv_ishl hx hb dX5_luck_54 ?_
      refine lv_icmp_ge (tgt := 91) hx hb dX5_luck_55 (by decide) (fun hc => ?_) (fun hc => ?_)
      · have hw := hw.1 hc
        refine lv_lload hx hb dX5_luck_91 (lv_at hl 6 rfl) ?_
        refine lv_iload hx hb dX5_luck_93 (lv_at hl 3 rfl) ?_
        refine c_l (run_s (As := [.int v4]) (rest := [.long v7]) C hP hS (c_X5_tenTimes hw) gX5_luck_X5_tenTimes rfl dsX5_tenTimes rfl ⟨rfl, rfl⟩ ⟨Nat.le_of_ble_eq_true rfl, Nat.le_of_ble_eq_true rfl⟩ hl.1 rfl (Nat.le_of_ble_eq_true rfl) dX5_luck_95 ⟨Nat.le_of_ble_eq_true rfl, Nat.le_of_ble_eq_true rfl⟩) hS (fun r_10 M_9 H locs hw hP hS => ?_)
        refine lv_iload hx hb dX5_luck_98 (lv_at hl 4 rfl) ?_
        refine c_l (run_s (As := [.long v7, .long r_10, .int v5]) (rest := []) C hP hS (c_X5_partOfFraction hw) gX5_luck_X5_partOfFraction rfl dsX5_partOfFraction rfl ⟨rfl, rfl⟩ ⟨Nat.le_of_ble_eq_true rfl, Nat.le_of_ble_eq_true rfl⟩ hl.1 rfl (Nat.le_of_ble_eq_true rfl) dX5_luck_100 ⟨Nat.le_of_ble_eq_true rfl, Nat.le_of_ble_eq_true rfl⟩) hS (fun r_12 M_11 H locs hw hP hS => ?_)
        exact r_l C hP hS hw dX5_luck_103
      · have hw := hw.2 hc
        refine lv_aload_n hx hb dX5_luck_58 rfl (lv_at hl 0 rfl) ?_
        refine lv_iload_n hx hb dX5_luck_59 rfl (lv_at hl 2 rfl) ?_
        refine lv_iload hx hb dX5_luck_60 (lv_at hl 3 rfl) ?_
        refine lv_iload hx hb dX5_luck_62 (lv_at hl 7 rfl) ?_
        refine c_i (run_v (As := [.int v2, .int v4, .int v9]) (rest := []) C hP hS (c_X5_readsByTraced hw) gX5_luck_X5_readsByTraced rfl dsX5_readsByTraced rfl ⟨rfl, rfl⟩ ⟨Nat.le_of_ble_eq_true rfl, Nat.le_of_ble_eq_true rfl⟩ (by decide) (sX_0 K _) rfl hl.1 rfl (Nat.le_of_ble_eq_true rfl) dX5_luck_64 ⟨Nat.le_of_ble_eq_true rfl, Nat.le_of_ble_eq_true rfl⟩) hS (fun r_14 M_13 H locs hw hP hS => ?_)
        refine lv_iload hx hb dX5_luck_67 (lv_at hl 5 rfl) ?_
        refine lv_icmp_lt (tgt := 85) hx hb dX5_luck_69 (by decide) (fun hc => ?_) (fun hc => ?_)
        · have hw := hw.1 hc
          exact ih.2.2 _ _ _ _ _ _ _ _ _ _ _ hw hP hS (lv_sub hl [0, 1, 2, 3, 4, 5, 6, 7] rfl)
        · have hw := hw.2 hc
          refine lv_lload hx hb dX5_luck_72 (lv_at hl 6 rfl) ?_
          refine lv_iload_n hx hb dX5_luck_74 rfl (lv_at hl 1 rfl) ?_
          refine lv_iload hx hb dX5_luck_75 (lv_at hl 3 rfl) ?_
          refine lv_iload hx hb dX5_luck_77 (lv_at hl 7 rfl) ?_
          refine c_l (run_s (As := [.int v1, .int v4, .int v9]) (rest := [.long v7]) C hP hS (c_X5_chancesOf hw) gX5_luck_X5_chancesOf rfl dsX5_chancesOf rfl ⟨rfl, rfl⟩ ⟨Nat.le_of_ble_eq_true rfl, Nat.le_of_ble_eq_true rfl⟩ hl.1 rfl (Nat.le_of_ble_eq_true rfl) dX5_luck_79 ⟨Nat.le_of_ble_eq_true rfl, Nat.le_of_ble_eq_true rfl⟩) hS (fun r_16 M_15 H locs hw hP hS => ?_)
          refine lv_ladd hx hb dX5_luck_82 ?_
          refine lv_lstore (lv' := [(7, .long (v7 + r_16)), (0, .ref (kb K + 0)), (1, .int v1), (2, .int v2), (4, .int v4), (5, .int v5), (6, .int v6), (9, .int v9)]) hx hb dX5_luck_83 hl (by decide) rfl (fun ls hl => ?_)
          exact ih.2.2 _ _ _ _ _ _ _ _ _ _ _ hw hP hS (lv_sub hl [1, 2, 3, 4, 5, 6, 0, 7] rfl)
    · intro v1 v2 v4 v5 v6 v7 v9 M H locs ls hw hP hS hl
      have hw : f_X5_luck_85 Q (p_X5_luck Q n) v1 v2 v4 v5 v6 v7 v9 M := hw
      delta f_X5_luck_85 at hw
      refine lv_iinc (v := (v9 + 1)) (lv' := [(9, .int (v9 + 1)), (0, .ref (kb K + 0)), (1, .int v1), (2, .int v2), (4, .int v4), (5, .int v5), (6, .int v6), (7, .long v7)]) hx hb dX5_luck_85 hl (k := 7) rfl (by rw [ic_1]) (by decide) rfl (fun ls hl => ?_)
      refine lv_goto (tgt := 49) hx hb dX5_luck_88 (by decide) ?_
      exact ih.2.1 _ _ _ _ _ _ _ _ _ _ _ hw hP hS (lv_sub hl [1, 2, 3, 4, 5, 6, 7, 0] rfl)
theorem dsX5_luck : yX5_luck.cls = RX5 ∧ yX5_luck.cls ≠ "java/lang/invoke/MethodHandle" ∧ yX5_luck.cls ≠ "java/lang/invoke/VarHandle" ∧ (parseMethodDescriptor yX5_luck.desc).map (fun d => d.parameters.length) = some 5 := by decide +kernel
set_option maxRecDepth 100000 in
set_option maxHeartbeats 4000000 in
theorem c_X5_luck {l : Launch} {K : wC} {v1 : Int32} {v2 : Int32} {v3 : Int32} {v4 : Int32} {v5 : Int32} {M : Mem} {Q : Int64 → Mem → Prop} (hw : q_X5_luck v1 v2 v3 v4 v5 M Q) : metL l yX5_luck wsX5_luck rmX5_luck shX 51 K [.ref (kb K + 0), .int v1, .int v2, .int v3, .int v4, .int v5] M Q := by
  refine met_of (cc := cX5_luck) (maxL := 10) (ret := (some .long)) (own := RX5) (by decide) rfl rfl (Nat.le_of_ble_eq_true rfl) ?_
  intro p e s m below meth c ls C hl hP hS
  have hl : lv_has ls 10 [(0, .ref (kb K + 0)), (1, .int v1), (2, .int v2), (3, .int v3), (4, .int v4), (5, .int v5)] := hl
  obtain ⟨hx, hb, hml, hown, hts, hr, hlk, hK⟩ := id C
  have hP0 := hP
  obtain ⟨n, hw⟩ := hw
  have ih := b_X5_luck (l := l) (e := e) (below := below) (Q := Q) C n
  delta e_X5_luck at hw
  refine lv_iload_n hx hb dX5_luck_0 rfl (lv_at hl 3 rfl) ?_
  refine c_i (run_s (As := [.int v3]) (rest := []) C hP hS (c_X5_isTold hw) gX5_luck_X5_isTold rfl dsX5_isTold rfl ⟨rfl, rfl⟩ ⟨Nat.le_of_ble_eq_true rfl, Nat.le_of_ble_eq_true rfl⟩ hl.1 rfl (Nat.le_of_ble_eq_true rfl) dX5_luck_1 ⟨Nat.le_of_ble_eq_true rfl, Nat.le_of_ble_eq_true rfl⟩) hS (fun r_2 M_1 H locs hw hP hS => ?_)
  refine lv_if_eq (tgt := 26) hx hb dX5_luck_4 (by decide) (fun hc => ?_) (fun hc => ?_)
  · have hw := hw.1 hc
    exact ih.1 _ _ _ _ hw hP hS (lv_sub hl [] rfl)
  · have hw := hw.2 hc
    refine lv_aload_n hx hb dX5_luck_7 rfl (lv_at hl 0 rfl) ?_
    refine lv_iload_n hx hb dX5_luck_8 rfl (lv_at hl 1 rfl) ?_
    refine lv_iload_n hx hb dX5_luck_9 rfl (lv_at hl 2 rfl) ?_
    refine lv_iload hx hb dX5_luck_10 (lv_at hl 4 rfl) ?_
    refine c_i (run_v (As := [.int v1, .int v2, .int v4]) (rest := []) C hP hS (c_X5_isMissing hw) gX5_luck_X5_isMissing rfl dsX5_isMissing rfl ⟨rfl, rfl⟩ ⟨Nat.le_of_ble_eq_true rfl, Nat.le_of_ble_eq_true rfl⟩ (by decide) (sX_0 K _) rfl hl.1 rfl (Nat.le_of_ble_eq_true rfl) dX5_luck_12 ⟨Nat.le_of_ble_eq_true rfl, Nat.le_of_ble_eq_true rfl⟩) hS (fun r_4 M_3 H locs hw hP hS => ?_)
    refine lv_if_eq (tgt := 26) hx hb dX5_luck_15 (by decide) (fun hc => ?_) (fun hc => ?_)
    · have hw := hw.1 hc
      exact ih.1 _ _ _ _ hw hP hS (lv_sub hl [] rfl)
    · have hw := hw.2 hc
      refine lv_iload hx hb dX5_luck_18 (lv_at hl 5 rfl) ?_
      refine c_i (run_s (As := [.int v5]) (rest := []) C hP hS (c_X5_isEither hw) gX5_luck_X5_isEither rfl dsX5_isEither rfl ⟨rfl, rfl⟩ ⟨Nat.le_of_ble_eq_true rfl, Nat.le_of_ble_eq_true rfl⟩ hl.1 rfl (Nat.le_of_ble_eq_true rfl) dX5_luck_20 ⟨Nat.le_of_ble_eq_true rfl, Nat.le_of_ble_eq_true rfl⟩) hS (fun r_6 M_5 H locs hw hP hS => ?_)
      refine lv_if_ne (tgt := 30) hx hb dX5_luck_23 (by decide) (fun hc => ?_) (fun hc => ?_)
      · have hw := hw.1 hc
        refine lv_aload_n hx hb dX5_luck_30 rfl (lv_at hl 0 rfl) ?_
        refine lv_iload_n hx hb dX5_luck_31 rfl (lv_at hl 2 rfl) ?_
        refine lv_iload hx hb dX5_luck_32 (lv_at hl 4 rfl) ?_
        refine c_v (run_v (As := [.int v2, .int v4]) (rest := []) C hP hS (c_X5_setEdgeRolls hw) gX5_luck_X5_setEdgeRolls rfl dsX5_setEdgeRolls rfl ⟨rfl, rfl⟩ ⟨Nat.le_of_ble_eq_true rfl, Nat.le_of_ble_eq_true rfl⟩ (by decide) (sX_0 K _) rfl hl.1 rfl (Nat.le_of_ble_eq_true rfl) dX5_luck_34 ⟨Nat.le_of_ble_eq_true rfl, Nat.le_of_ble_eq_true rfl⟩) hS (fun M_7 H locs hw hP hS => ?_)
        refine lv_iload_n hx hb dX5_luck_37 rfl (lv_at hl 3 rfl) ?_
        refine lv_ldc hx hb hown (hts _ kX5_luck_c145) dX5_luck_38 ?_
        refine lv_isub hx hb dX5_luck_40 ?_
        refine lv_topi (fun x_8 ex_8 => ?_)
        have hw := hw x_8 ex_8
        refine lv_istore (lv' := [(6, .int x_8), (0, .ref (kb K + 0)), (1, .int v1), (2, .int v2), (3, .int v3), (4, .int v4), (5, .int v5)]) hx hb dX5_luck_41 hl (by decide) rfl (fun ls hl => ?_)
        refine lv_lconst hx hb dX5_luck_43 lc_0 ?_
        refine lv_lstore (lv' := [(7, .long (0 : Int64)), (6, .int x_8), (0, .ref (kb K + 0)), (1, .int v1), (2, .int v2), (3, .int v3), (4, .int v4), (5, .int v5)]) hx hb dX5_luck_44 hl (by decide) rfl (fun ls hl => ?_)
        refine lv_iconst hx hb dX5_luck_46 ic_0 ?_
        refine lv_istore (lv' := [(9, .int (0 : Int32)), (7, .long (0 : Int64)), (6, .int x_8), (0, .ref (kb K + 0)), (1, .int v1), (2, .int v2), (3, .int v3), (4, .int v4), (5, .int v5)]) hx hb dX5_luck_47 hl (by decide) rfl (fun ls hl => ?_)
        exact ih.2.1 _ _ _ _ _ _ _ _ _ _ _ hw hP hS (lv_sub hl [3, 4, 5, 7, 8, 2, 1, 0] rfl)
      · have hw := hw.2 hc
        exact ih.1 _ _ _ _ hw hP hS (lv_sub hl [] rfl)

theorem kX5_mean_c227 : Cond.constantLong RX5 227 (-1) ∈ wsX5_mean := List.mem_of_getElem? (i := 1) rfl
theorem kX5_mean_m248 : Cond.methodLink RX5 248 Lib.Math.abs.name ∈ wsX5_mean := List.mem_of_getElem? (i := 2) rfl
theorem kX5_mean_ma1 : Cond.static Lib.Math.abs.name ∈ wsX5_mean := List.mem_of_getElem? (i := 3) rfl
theorem kX5_mean_ma2 : Cond.initialized "java/lang/Math" ∈ wsX5_mean := List.mem_of_getElem? (i := 4) rfl
theorem kX5_mean_ma3 : Cond.code Lib.Math.abs.name Lib.Math.abs.code 1 (some .int) ∈ wsX5_mean := List.mem_of_getElem? (i := 5) rfl
abbrev rmX5_mean : Room := { frames := 4, cells := 0, slots := 0, locals := 88 }
abbrev t_X5_mean : Type := (Mem → Prop) × (Int32 → Int32 → Int32 → Int32 → Int64 → Int32 → Mem → Prop)
def f_X5_mean_18 (Q : Int64 → Mem → Prop) (r : t_X5_mean) (M : Mem) : Prop := Q (-1 : Int64) M
def f_X5_mean_34 (Q : Int64 → Mem → Prop) (r : t_X5_mean) (v1 : Int32) (v2 : Int32) (v3 : Int32) (v4 : Int32) (v5 : Int64) (v7 : Int32) (M : Mem) : Prop := ((((1 : Int32) <<< (v3 &&& 31)) ≤ v7 → q_X5_tenTimes v3 M (fun r_7 M_6 => q_X5_partOfFraction v5 r_7 v4 M_6 (fun r_9 M_8 => Q r_9 M_8))) ∧ (¬ ((1 : Int32) <<< (v3 &&& 31)) ≤ v7 → q_X5_chancesOf v1 v3 v7 M (fun r_11 M_10 => q_X5_readsByTraced v2 v3 v7 M_10 (fun r_13 M_12 => ∀ x_14 : Int64, x_14 = (v5 + (r_11 * (iabs r_13).toInt64)) → r.2 v1 v2 v3 v4 x_14 (v7 + 1) M_12))))
def p_X5_mean (Q : Int64 → Mem → Prop) : Nat → t_X5_mean
  | 0 => (fun _ => False, fun _ _ _ _ _ _ _ => False)
  | n + 1 => (f_X5_mean_18 Q (p_X5_mean Q n), f_X5_mean_34 Q (p_X5_mean Q n))
def e_X5_mean (v1 : Int32) (v2 : Int32) (v3 : Int32) (v4 : Int32) (Q : Int64 → Mem → Prop) (r : t_X5_mean) (M : Mem) : Prop := q_X5_isMissing v1 v2 v3 M (fun r_2 M_1 => ((r_2 = 0 → r.1 M_1) ∧ (¬ r_2 = 0 → q_X5_isEither v4 M_1 (fun r_4 M_3 => ((¬ r_4 = 0 → q_X5_setEdgeRolls v2 v3 M_3 (fun M_5 => r.2 v1 v2 v3 v4 (0 : Int64) (0 : Int32) M_5)) ∧ (r_4 = 0 → r.1 M_3))))))
def q_X5_mean (v1 : Int32) (v2 : Int32) (v3 : Int32) (v4 : Int32) (M : Mem) (Q : Int64 → Mem → Prop) : Prop := ∃ n : Nat, e_X5_mean v1 v2 v3 v4 Q (p_X5_mean Q n) M
set_option maxRecDepth 100000 in
set_option maxHeartbeats 4000000 in
theorem b_X5_mean {l : Launch} {K : wC} {Q : Int64 → Mem → Prop} {p : Program} {e : Env} {s : State} {m : MethodId} {args : Array Value} {below : List Frame} {meth : Method} {c : Code} (C : cx 51 K p s m args meth c cX5_mean 8 wsX5_mean RX5 (some .long)) : ∀ n : Nat, (∀ (M : Mem) (H : Heap) (locs : List Loc) (ls : Array Slot), (p_X5_mean Q n).1 M → wP shX 51 K M H → va_S (wA 51 K) s.heap H locs → lv_has ls 8 [] → W p l e rmX5_mean s m args below meth c H locs 0 0 (MQ below (va_Ql Q (wE shX 51 K) (wA 51 K)) args s 0 0 (wA 51 K)) (F0 m 18 ls [])) ∧ (∀ (v1 : Int32) (v2 : Int32) (v3 : Int32) (v4 : Int32) (v5 : Int64) (v7 : Int32) (M : Mem) (H : Heap) (locs : List Loc) (ls : Array Slot), (p_X5_mean Q n).2 v1 v2 v3 v4 v5 v7 M → wP shX 51 K M H → va_S (wA 51 K) s.heap H locs → lv_has ls 8 [(0, .ref (kb K + 0)), (1, .int v1), (2, .int v2), (3, .int v3), (4, .int v4), (5, .long v5), (7, .int v7)] → W p l e rmX5_mean s m args below meth c H locs 0 0 (MQ below (va_Ql Q (wE shX 51 K) (wA 51 K)) args s 0 0 (wA 51 K)) (F0 m 34 ls [])) := by
  obtain ⟨hx, hb, hml, hown, hts, hr, hlk, hK⟩ := id C
  intro n
  induction n with
  | zero => exact ⟨fun _ _ _ _ hw _ _ _ => False.elim hw, fun _ _ _ _ _ _ _ _ _ _ hw _ _ _ => False.elim hw⟩
  | succ n ih =>
    refine ⟨?_, ?_⟩
    · intro  M H locs ls hw hP hS hl
      have hw : f_X5_mean_18 Q (p_X5_mean Q n) M := hw
      delta f_X5_mean_18 at hw
      refine lv_ldc2 hx hb hown (hts _ kX5_mean_c227) dX5_mean_18 ?_
      exact r_l C hP hS hw dX5_mean_21
    · intro v1 v2 v3 v4 v5 v7 M H locs ls hw hP hS hl
      have hw : f_X5_mean_34 Q (p_X5_mean Q n) v1 v2 v3 v4 v5 v7 M := hw
      delta f_X5_mean_34 at hw
      refine lv_iload hx hb dX5_mean_34 (lv_at hl 6 rfl) ?_
      refine lv_iconst hx hb dX5_mean_36 ic_1 ?_
      refine lv_iload_n hx hb dX5_mean_37 rfl (lv_at hl 3 rfl) ?_
      refine lv_ishl hx hb dX5_mean_38 ?_
      refine lv_icmp_ge (tgt := 73) hx hb dX5_mean_39 (by decide) (fun hc => ?_) (fun hc => ?_)
      · have hw := hw.1 hc
        refine lv_lload hx hb dX5_mean_73 (lv_at hl 5 rfl) ?_
        refine lv_iload_n hx hb dX5_mean_75 rfl (lv_at hl 3 rfl) ?_
        refine c_l (run_s (As := [.int v3]) (rest := [.long v5]) C hP hS (c_X5_tenTimes hw) gX5_mean_X5_tenTimes rfl dsX5_tenTimes rfl ⟨rfl, rfl⟩ ⟨Nat.le_of_ble_eq_true rfl, Nat.le_of_ble_eq_true rfl⟩ hl.1 rfl (Nat.le_of_ble_eq_true rfl) dX5_mean_76 ⟨Nat.le_of_ble_eq_true rfl, Nat.le_of_ble_eq_true rfl⟩) hS (fun r_7 M_6 H locs hw hP hS => ?_)
        refine lv_iload hx hb dX5_mean_79 (lv_at hl 4 rfl) ?_
        refine c_l (run_s (As := [.long v5, .long r_7, .int v4]) (rest := []) C hP hS (c_X5_partOfFraction hw) gX5_mean_X5_partOfFraction rfl dsX5_partOfFraction rfl ⟨rfl, rfl⟩ ⟨Nat.le_of_ble_eq_true rfl, Nat.le_of_ble_eq_true rfl⟩ hl.1 rfl (Nat.le_of_ble_eq_true rfl) dX5_mean_81 ⟨Nat.le_of_ble_eq_true rfl, Nat.le_of_ble_eq_true rfl⟩) hS (fun r_9 M_8 H locs hw hP hS => ?_)
        exact r_l C hP hS hw dX5_mean_84
      · have hw := hw.2 hc
        refine lv_lload hx hb dX5_mean_42 (lv_at hl 5 rfl) ?_
        refine lv_iload_n hx hb dX5_mean_44 rfl (lv_at hl 1 rfl) ?_
        refine lv_iload_n hx hb dX5_mean_45 rfl (lv_at hl 3 rfl) ?_
        refine lv_iload hx hb dX5_mean_46 (lv_at hl 6 rfl) ?_
        refine c_l (run_s (As := [.int v1, .int v3, .int v7]) (rest := [.long v5]) C hP hS (c_X5_chancesOf hw) gX5_mean_X5_chancesOf rfl dsX5_chancesOf rfl ⟨rfl, rfl⟩ ⟨Nat.le_of_ble_eq_true rfl, Nat.le_of_ble_eq_true rfl⟩ hl.1 rfl (Nat.le_of_ble_eq_true rfl) dX5_mean_48 ⟨Nat.le_of_ble_eq_true rfl, Nat.le_of_ble_eq_true rfl⟩) hS (fun r_11 M_10 H locs hw hP hS => ?_)
        refine lv_aload_n hx hb dX5_mean_51 rfl (lv_at hl 0 rfl) ?_
        refine lv_iload_n hx hb dX5_mean_52 rfl (lv_at hl 2 rfl) ?_
        refine lv_iload_n hx hb dX5_mean_53 rfl (lv_at hl 3 rfl) ?_
        refine lv_iload hx hb dX5_mean_54 (lv_at hl 6 rfl) ?_
        refine c_i (run_v (As := [.int v2, .int v3, .int v7]) (rest := [.long r_11, .long v5]) C hP hS (c_X5_readsByTraced hw) gX5_mean_X5_readsByTraced rfl dsX5_readsByTraced rfl ⟨rfl, rfl⟩ ⟨Nat.le_of_ble_eq_true rfl, Nat.le_of_ble_eq_true rfl⟩ (by decide) (sX_0 K _) rfl hl.1 rfl (Nat.le_of_ble_eq_true rfl) dX5_mean_56 ⟨Nat.le_of_ble_eq_true rfl, Nat.le_of_ble_eq_true rfl⟩) hS (fun r_13 M_12 H locs hw hP hS => ?_)
        refine m_abs C hl.1 kX5_mean_m248 kX5_mean_ma1 kX5_mean_ma2 kX5_mean_ma3 (Nat.le_of_ble_eq_true rfl) (Nat.le_of_ble_eq_true rfl) (Nat.le_of_ble_eq_true rfl) (Nat.le_of_ble_eq_true rfl) dX5_mean_59 ?_
        refine lv_i2l hx hb dX5_mean_62 rfl ?_
        refine lv_lmul hx hb dX5_mean_63 ?_
        refine lv_ladd hx hb dX5_mean_64 ?_
        refine lv_topl (fun x_14 ex_14 => ?_)
        have hw := hw x_14 ex_14
        refine lv_lstore (lv' := [(5, .long x_14), (0, .ref (kb K + 0)), (1, .int v1), (2, .int v2), (3, .int v3), (4, .int v4), (7, .int v7)]) hx hb dX5_mean_65 hl (by decide) rfl (fun ls hl => ?_)
        refine lv_iinc (v := (v7 + 1)) (lv' := [(7, .int (v7 + 1)), (5, .long x_14), (0, .ref (kb K + 0)), (1, .int v1), (2, .int v2), (3, .int v3), (4, .int v4)]) hx hb dX5_mean_67 hl (k := 6) rfl (by rw [ic_1]) (by decide) rfl (fun ls hl => ?_)
        refine lv_goto (tgt := 34) hx hb dX5_mean_70 (by decide) ?_
        exact ih.2 _ _ _ _ _ _ _ _ _ _ hw hP hS (lv_sub hl [2, 3, 4, 5, 6, 1, 0] rfl)
theorem dsX5_mean : yX5_mean.cls = RX5 ∧ yX5_mean.cls ≠ "java/lang/invoke/MethodHandle" ∧ yX5_mean.cls ≠ "java/lang/invoke/VarHandle" ∧ (parseMethodDescriptor yX5_mean.desc).map (fun d => d.parameters.length) = some 4 := by decide +kernel
set_option maxRecDepth 100000 in
set_option maxHeartbeats 4000000 in
theorem c_X5_mean {l : Launch} {K : wC} {v1 : Int32} {v2 : Int32} {v3 : Int32} {v4 : Int32} {M : Mem} {Q : Int64 → Mem → Prop} (hw : q_X5_mean v1 v2 v3 v4 M Q) : metL l yX5_mean wsX5_mean rmX5_mean shX 51 K [.ref (kb K + 0), .int v1, .int v2, .int v3, .int v4] M Q := by
  refine met_of (cc := cX5_mean) (maxL := 8) (ret := (some .long)) (own := RX5) (by decide) rfl rfl (Nat.le_of_ble_eq_true rfl) ?_
  intro p e s m below meth c ls C hl hP hS
  have hl : lv_has ls 8 [(0, .ref (kb K + 0)), (1, .int v1), (2, .int v2), (3, .int v3), (4, .int v4)] := hl
  obtain ⟨hx, hb, hml, hown, hts, hr, hlk, hK⟩ := id C
  have hP0 := hP
  obtain ⟨n, hw⟩ := hw
  have ih := b_X5_mean (l := l) (e := e) (below := below) (Q := Q) C n
  delta e_X5_mean at hw
  refine lv_aload_n hx hb dX5_mean_0 rfl (lv_at hl 0 rfl) ?_
  refine lv_iload_n hx hb dX5_mean_1 rfl (lv_at hl 1 rfl) ?_
  refine lv_iload_n hx hb dX5_mean_2 rfl (lv_at hl 2 rfl) ?_
  refine lv_iload_n hx hb dX5_mean_3 rfl (lv_at hl 3 rfl) ?_
  refine c_i (run_v (As := [.int v1, .int v2, .int v3]) (rest := []) C hP hS (c_X5_isMissing hw) gX5_mean_X5_isMissing rfl dsX5_isMissing rfl ⟨rfl, rfl⟩ ⟨Nat.le_of_ble_eq_true rfl, Nat.le_of_ble_eq_true rfl⟩ (by decide) (sX_0 K _) rfl hl.1 rfl (Nat.le_of_ble_eq_true rfl) dX5_mean_4 ⟨Nat.le_of_ble_eq_true rfl, Nat.le_of_ble_eq_true rfl⟩) hS (fun r_2 M_1 H locs hw hP hS => ?_)
  refine lv_if_eq (tgt := 18) hx hb dX5_mean_7 (by decide) (fun hc => ?_) (fun hc => ?_)
  · have hw := hw.1 hc
    exact ih.1 _ _ _ _ hw hP hS (lv_sub hl [] rfl)
  · have hw := hw.2 hc
    refine lv_iload hx hb dX5_mean_10 (lv_at hl 4 rfl) ?_
    refine c_i (run_s (As := [.int v4]) (rest := []) C hP hS (c_X5_isEither hw) gX5_mean_X5_isEither rfl dsX5_isEither rfl ⟨rfl, rfl⟩ ⟨Nat.le_of_ble_eq_true rfl, Nat.le_of_ble_eq_true rfl⟩ hl.1 rfl (Nat.le_of_ble_eq_true rfl) dX5_mean_12 ⟨Nat.le_of_ble_eq_true rfl, Nat.le_of_ble_eq_true rfl⟩) hS (fun r_4 M_3 H locs hw hP hS => ?_)
    refine lv_if_ne (tgt := 22) hx hb dX5_mean_15 (by decide) (fun hc => ?_) (fun hc => ?_)
    · have hw := hw.1 hc
      refine lv_aload_n hx hb dX5_mean_22 rfl (lv_at hl 0 rfl) ?_
      refine lv_iload_n hx hb dX5_mean_23 rfl (lv_at hl 2 rfl) ?_
      refine lv_iload_n hx hb dX5_mean_24 rfl (lv_at hl 3 rfl) ?_
      refine c_v (run_v (As := [.int v2, .int v3]) (rest := []) C hP hS (c_X5_setEdgeRolls hw) gX5_mean_X5_setEdgeRolls rfl dsX5_setEdgeRolls rfl ⟨rfl, rfl⟩ ⟨Nat.le_of_ble_eq_true rfl, Nat.le_of_ble_eq_true rfl⟩ (by decide) (sX_0 K _) rfl hl.1 rfl (Nat.le_of_ble_eq_true rfl) dX5_mean_25 ⟨Nat.le_of_ble_eq_true rfl, Nat.le_of_ble_eq_true rfl⟩) hS (fun M_5 H locs hw hP hS => ?_)
      refine lv_lconst hx hb dX5_mean_28 lc_0 ?_
      refine lv_lstore (lv' := [(5, .long (0 : Int64)), (0, .ref (kb K + 0)), (1, .int v1), (2, .int v2), (3, .int v3), (4, .int v4)]) hx hb dX5_mean_29 hl (by decide) rfl (fun ls hl => ?_)
      refine lv_iconst hx hb dX5_mean_31 ic_0 ?_
      refine lv_istore (lv' := [(7, .int (0 : Int32)), (5, .long (0 : Int64)), (0, .ref (kb K + 0)), (1, .int v1), (2, .int v2), (3, .int v3), (4, .int v4)]) hx hb dX5_mean_32 hl (by decide) rfl (fun ls hl => ?_)
      exact ih.2 _ _ _ _ _ _ _ _ _ _ hw hP hS (lv_sub hl [2, 3, 4, 5, 6, 1, 0] rfl)
    · have hw := hw.2 hc
      exact ih.1 _ _ _ _ hw hP hS (lv_sub hl [] rfl)

theorem kX5_see_f37 : Cond.fieldLink RX5 37 (TX5 5).1 (TX5 5).2.1 (TX5 5).2.2.1 ∈ wsX5_see := List.mem_of_getElem? (i := 1) rfl
theorem hX5_see_X5 : ∀ w ∈ u_ws RX5 TX5 11, w ∈ wsX5_see := fun _ h => List.mem_cons_of_mem _ (List.mem_append_left _ (List.mem_append_left _ (List.mem_append_right _ (h))))
theorem kX5_see_f95 : Cond.fieldLink RX5 95 (TX2 3).1 (TX2 3).2.1 (TX2 3).2.2.1 ∈ wsX5_see := List.mem_of_getElem? (i := 2) rfl
theorem hX5_see_X2 : ∀ w ∈ u_ws RX2 TX2 4, w ∈ wsX5_see := fun _ h => List.mem_cons_of_mem _ (List.mem_append_left _ (List.mem_append_right _ (h)))
theorem kX5_see_c145 : Cond.constant RX5 145 (20000000) ∈ wsX5_see := List.mem_of_getElem? (i := 3) rfl
abbrev rmX5_see : Room := { frames := 2, cells := 0, slots := 0, locals := 43 }
def q_X5_see (v1 : Int32) (v2 : Int32) (v3 : Int32) (M : Mem) (Q : Int32 → Mem → Prop) : Prop := q_X5_within v1 (0 : Int32) (40 : Int32) M (fun r_2 M_1 => ((r_2 = 0 → Q (-1 : Int32) M_1) ∧ (¬ r_2 = 0 → q_X5_hasWheel v2 M_1 (fun r_4 M_3 => ((r_4 = 0 → Q (-1 : Int32) M_3) ∧ (¬ r_4 = 0 → q_X5_isTold v3 M_3 (fun r_6 M_5 => ((¬ r_6 = 0 → (((M_5 24 3) < (6 : Int32) → q_X2_append v1 v2 (v3 - (20000000 : Int32)) M_5 (fun M_7 => Q (M_7 24 3) M_7)) ∧ (¬ (M_5 24 3) < (6 : Int32) → Q (-3 : Int32) M_5))) ∧ (r_6 = 0 → Q (-1 : Int32) M_5)))))))))
theorem dsX5_see : yX5_see.cls = RX5 ∧ yX5_see.cls ≠ "java/lang/invoke/MethodHandle" ∧ yX5_see.cls ≠ "java/lang/invoke/VarHandle" ∧ (parseMethodDescriptor yX5_see.desc).map (fun d => d.parameters.length) = some 3 := by decide +kernel
set_option maxRecDepth 100000 in
set_option maxHeartbeats 4000000 in
theorem c_X5_see {l : Launch} {K : wC} {v1 : Int32} {v2 : Int32} {v3 : Int32} {M : Mem} {Q : Int32 → Mem → Prop} (hw : q_X5_see v1 v2 v3 M Q) : metI l yX5_see wsX5_see rmX5_see shX 51 K [.ref (kb K + 0), .int v1, .int v2, .int v3] M Q := by
  refine met_of (cc := cX5_see) (maxL := 4) (ret := (some .int)) (own := RX5) (by decide) rfl rfl (Nat.le_of_ble_eq_true rfl) ?_
  intro p e s m below meth c ls C hl hP hS
  have hl : lv_has ls 4 [(0, .ref (kb K + 0)), (1, .int v1), (2, .int v2), (3, .int v3)] := hl
  obtain ⟨hx, hb, hml, hown, hts, hr, hlk, hK⟩ := id C
  have hP0 := hP
  delta q_X5_see at hw
  refine lv_iload_n hx hb dX5_see_0 rfl (lv_at hl 1 rfl) ?_
  refine lv_iconst hx hb dX5_see_1 ic_0 ?_
  refine lv_bipush hx hb dX5_see_2 bp_40 ?_
  refine c_i (run_s (As := [.int v1, .int (0 : Int32), .int (40 : Int32)]) (rest := []) C hP hS (c_X5_within hw) gX5_see_X5_within rfl dsX5_within rfl ⟨rfl, rfl⟩ ⟨Nat.le_of_ble_eq_true rfl, Nat.le_of_ble_eq_true rfl⟩ hl.1 rfl (Nat.le_of_ble_eq_true rfl) dX5_see_4 ⟨Nat.le_of_ble_eq_true rfl, Nat.le_of_ble_eq_true rfl⟩) hS (fun r_2 M_1 H locs hw hP hS => ?_)
  refine lv_if_eq (tgt := 25) hx hb dX5_see_7 (by decide) (fun hc => ?_) (fun hc => ?_)
  · have hw := hw.1 hc
    refine lv_iconst hx hb dX5_see_25 ic_m1 ?_
    exact r_i C hP hS hw dX5_see_26
  · have hw := hw.2 hc
    refine lv_aload_n hx hb dX5_see_10 rfl (lv_at hl 0 rfl) ?_
    refine lv_iload_n hx hb dX5_see_11 rfl (lv_at hl 2 rfl) ?_
    refine c_i (run_v (As := [.int v2]) (rest := []) C hP hS (c_X5_hasWheel hw) gX5_see_X5_hasWheel rfl dsX5_hasWheel rfl ⟨rfl, rfl⟩ ⟨Nat.le_of_ble_eq_true rfl, Nat.le_of_ble_eq_true rfl⟩ (by decide) (sX_0 K _) rfl hl.1 rfl (Nat.le_of_ble_eq_true rfl) dX5_see_12 ⟨Nat.le_of_ble_eq_true rfl, Nat.le_of_ble_eq_true rfl⟩) hS (fun r_4 M_3 H locs hw hP hS => ?_)
    refine lv_if_eq (tgt := 25) hx hb dX5_see_15 (by decide) (fun hc => ?_) (fun hc => ?_)
    · have hw := hw.1 hc
      refine lv_iconst hx hb dX5_see_25 ic_m1 ?_
      exact r_i C hP hS hw dX5_see_26
    · have hw := hw.2 hc
      refine lv_iload_n hx hb dX5_see_18 rfl (lv_at hl 3 rfl) ?_
      refine c_i (run_s (As := [.int v3]) (rest := []) C hP hS (c_X5_isTold hw) gX5_see_X5_isTold rfl dsX5_isTold rfl ⟨rfl, rfl⟩ ⟨Nat.le_of_ble_eq_true rfl, Nat.le_of_ble_eq_true rfl⟩ hl.1 rfl (Nat.le_of_ble_eq_true rfl) dX5_see_19 ⟨Nat.le_of_ble_eq_true rfl, Nat.le_of_ble_eq_true rfl⟩) hS (fun r_6 M_5 H locs hw hP hS => ?_)
      refine lv_if_ne (tgt := 27) hx hb dX5_see_22 (by decide) (fun hc => ?_) (fun hc => ?_)
      · have hw := hw.1 hc
        refine lv_aload_n hx hb dX5_see_27 rfl (lv_at hl 0 rfl) ?_
        refine g_f C hP (by decide) (sX_0 K _) rfl hX5_see_X5 5 (by decide) kX5_see_f37 rfl dX5_see_28 ?_
        refine g_f C hP (by decide) (sX_24 K _) rfl hX5_see_X2 3 (by decide) kX5_see_f95 rfl dX5_see_31 ?_
        refine lv_bipush hx hb dX5_see_34 bp_6 ?_
        refine lv_icmp_lt (tgt := 42) hx hb dX5_see_36 (by decide) (fun hc => ?_) (fun hc => ?_)
        · have hw := hw.1 hc
          refine lv_aload_n hx hb dX5_see_42 rfl (lv_at hl 0 rfl) ?_
          refine g_f C hP (by decide) (sX_0 K _) rfl hX5_see_X5 5 (by decide) kX5_see_f37 rfl dX5_see_43 ?_
          refine lv_iload_n hx hb dX5_see_46 rfl (lv_at hl 1 rfl) ?_
          refine lv_iload_n hx hb dX5_see_47 rfl (lv_at hl 2 rfl) ?_
          refine lv_iload_n hx hb dX5_see_48 rfl (lv_at hl 3 rfl) ?_
          refine lv_ldc hx hb hown (hts _ kX5_see_c145) dX5_see_49 ?_
          refine lv_isub hx hb dX5_see_51 ?_
          refine c_v (run_v (As := [.int v1, .int v2, .int (v3 - (20000000 : Int32))]) (rest := []) C hP hS (c_X2_append hw) gX5_see_X2_append rfl dsX2_append rfl ⟨rfl, rfl⟩ ⟨Nat.le_of_ble_eq_true rfl, Nat.le_of_ble_eq_true rfl⟩ (by decide) (sX_24 K _) rfl hl.1 rfl (Nat.le_of_ble_eq_true rfl) dX5_see_52 ⟨Nat.le_of_ble_eq_true rfl, Nat.le_of_ble_eq_true rfl⟩) hS (fun M_7 H locs hw hP hS => ?_)
          refine lv_aload_n hx hb dX5_see_55 rfl (lv_at hl 0 rfl) ?_
          refine g_f C hP (by decide) (sX_0 K _) rfl hX5_see_X5 5 (by decide) kX5_see_f37 rfl dX5_see_56 ?_
          refine g_f C hP (by decide) (sX_24 K _) rfl hX5_see_X2 3 (by decide) kX5_see_f95 rfl dX5_see_59 ?_
          exact r_i C hP hS hw dX5_see_62
        · have hw := hw.2 hc
          refine lv_bipush hx hb dX5_see_39 bp_m3 ?_
          exact r_i C hP hS hw dX5_see_41
      · have hw := hw.2 hc
        refine lv_iconst hx hb dX5_see_25 ic_m1 ?_
        exact r_i C hP hS hw dX5_see_26

theorem kX5_forget_f37 : Cond.fieldLink RX5 37 (TX5 5).1 (TX5 5).2.1 (TX5 5).2.2.1 ∈ wsX5_forget := List.mem_of_getElem? (i := 1) rfl
theorem hX5_forget_X5 : ∀ w ∈ u_ws RX5 TX5 11, w ∈ wsX5_forget := fun _ h => List.mem_cons_of_mem _ (List.mem_append_left _ (List.mem_append_right _ (h)))
theorem kX5_forget_f95 : Cond.fieldLink RX5 95 (TX2 3).1 (TX2 3).2.1 (TX2 3).2.2.1 ∈ wsX5_forget := List.mem_of_getElem? (i := 2) rfl
theorem hX5_forget_X2 : ∀ w ∈ u_ws RX2 TX2 4, w ∈ wsX5_forget := fun _ h => List.mem_cons_of_mem _ (List.mem_append_right _ (h))
abbrev rmX5_forget : Room := { frames := 1, cells := 0, slots := 0, locals := 22 }
def q_X5_forget (v1 : Int32) (M : Mem) (Q : Int32 → Mem → Prop) : Prop := q_X5_within v1 (0 : Int32) (M 24 3) M (fun r_2 M_1 => ((¬ r_2 = 0 → Q (M_1 24 3) (mU M_1 24 3 v1)) ∧ (r_2 = 0 → Q (-1 : Int32) M_1)))
theorem dsX5_forget : yX5_forget.cls = RX5 ∧ yX5_forget.cls ≠ "java/lang/invoke/MethodHandle" ∧ yX5_forget.cls ≠ "java/lang/invoke/VarHandle" ∧ (parseMethodDescriptor yX5_forget.desc).map (fun d => d.parameters.length) = some 1 := by decide +kernel
set_option maxRecDepth 100000 in
set_option maxHeartbeats 4000000 in
theorem c_X5_forget {l : Launch} {K : wC} {v1 : Int32} {M : Mem} {Q : Int32 → Mem → Prop} (hw : q_X5_forget v1 M Q) : metI l yX5_forget wsX5_forget rmX5_forget shX 51 K [.ref (kb K + 0), .int v1] M Q := by
  refine met_of (cc := cX5_forget) (maxL := 3) (ret := (some .int)) (own := RX5) (by decide) rfl rfl (Nat.le_of_ble_eq_true rfl) ?_
  intro p e s m below meth c ls C hl hP hS
  have hl : lv_has ls 3 [(0, .ref (kb K + 0)), (1, .int v1)] := hl
  obtain ⟨hx, hb, hml, hown, hts, hr, hlk, hK⟩ := id C
  have hP0 := hP
  delta q_X5_forget at hw
  refine lv_iload_n hx hb dX5_forget_0 rfl (lv_at hl 1 rfl) ?_
  refine lv_iconst hx hb dX5_forget_1 ic_0 ?_
  refine lv_aload_n hx hb dX5_forget_2 rfl (lv_at hl 0 rfl) ?_
  refine g_f C hP (by decide) (sX_0 K _) rfl hX5_forget_X5 5 (by decide) kX5_forget_f37 rfl dX5_forget_3 ?_
  refine g_f C hP (by decide) (sX_24 K _) rfl hX5_forget_X2 3 (by decide) kX5_forget_f95 rfl dX5_forget_6 ?_
  refine c_i (run_s (As := [.int v1, .int (0 : Int32), .int (M 24 3)]) (rest := []) C hP hS (c_X5_within hw) gX5_forget_X5_within rfl dsX5_within rfl ⟨rfl, rfl⟩ ⟨Nat.le_of_ble_eq_true rfl, Nat.le_of_ble_eq_true rfl⟩ hl.1 rfl (Nat.le_of_ble_eq_true rfl) dX5_forget_9 ⟨Nat.le_of_ble_eq_true rfl, Nat.le_of_ble_eq_true rfl⟩) hS (fun r_2 M_1 H locs hw hP hS => ?_)
  refine lv_if_ne (tgt := 17) hx hb dX5_forget_12 (by decide) (fun hc => ?_) (fun hc => ?_)
  · have hw := hw.1 hc
    refine lv_aload_n hx hb dX5_forget_17 rfl (lv_at hl 0 rfl) ?_
    refine g_f C hP (by decide) (sX_0 K _) rfl hX5_forget_X5 5 (by decide) kX5_forget_f37 rfl dX5_forget_18 ?_
    refine g_f C hP (by decide) (sX_24 K _) rfl hX5_forget_X2 3 (by decide) kX5_forget_f95 rfl dX5_forget_21 ?_
    refine lv_istore_n (lv' := [(2, .int (M_1 24 3)), (0, .ref (kb K + 0)), (1, .int v1)]) hx hb dX5_forget_24 rfl hl (by decide) rfl (fun ls hl => ?_)
    refine lv_aload_n hx hb dX5_forget_25 rfl (lv_at hl 1 rfl) ?_
    refine g_f C hP (by decide) (sX_0 K _) rfl hX5_forget_X5 5 (by decide) kX5_forget_f37 rfl dX5_forget_26 ?_
    refine lv_iload_n hx hb dX5_forget_29 rfl (lv_at hl 2 rfl) ?_
    refine p_f C hP hS (by decide) (sX_24 K _) (sX_24 K _) rfl hX5_forget_X2 tyX2_ok nmX2 (by decide) kX5_forget_f95 rfl rfl rfl (Nat.le_of_ble_eq_true rfl) dX5_forget_30 (fun H locs hP hS => ?_)
    refine lv_iload_n hx hb dX5_forget_33 rfl (lv_at hl 0 rfl) ?_
    exact r_i C hP hS hw dX5_forget_34
  · have hw := hw.2 hc
    refine lv_iconst hx hb dX5_forget_15 ic_m1 ?_
    exact r_i C hP hS hw dX5_forget_16

theorem kX5_kinds_f16 : Cond.fieldLink RX5 16 (TX5 1).1 (TX5 1).2.1 (TX5 1).2.2.1 ∈ wsX5_kinds := List.mem_of_getElem? (i := 1) rfl
theorem hX5_kinds_X5 : ∀ w ∈ u_ws RX5 TX5 11, w ∈ wsX5_kinds := fun _ h => List.mem_cons_of_mem _ (List.mem_append_left _ (List.mem_append_left _ (List.mem_append_right _ (h))))
theorem kX5_kinds_f10 : Cond.fieldLink RX5 10 (TX5 0).1 (TX5 0).2.1 (TX5 0).2.2.1 ∈ wsX5_kinds := List.mem_of_getElem? (i := 2) rfl
theorem kX5_kinds_f139 : Cond.fieldLink RX5 139 (TX0 3).1 (TX0 3).2.1 (TX0 3).2.2.1 ∈ wsX5_kinds := List.mem_of_getElem? (i := 3) rfl
theorem hX5_kinds_X0 : ∀ w ∈ u_ws RX0 TX0 10, w ∈ wsX5_kinds := fun _ h => List.mem_cons_of_mem _ (List.mem_append_left _ (List.mem_append_right _ (h)))
theorem kX5_kinds_f37 : Cond.fieldLink RX5 37 (TX5 5).1 (TX5 5).2.1 (TX5 5).2.2.1 ∈ wsX5_kinds := List.mem_of_getElem? (i := 4) rfl
abbrev rmX5_kinds : Room := { frames := 5, cells := 0, slots := 0, locals := 111 }
abbrev t_X5_kinds : Type := (Int32 → Int32 → Int32 → Mem → Prop) × (Int32 → Int32 → Int32 → Mem → Prop)
def f_X5_kinds_25 (Q : Int32 → Mem → Prop) (r : t_X5_kinds) (v1 : Int32) (v2 : Int32) (v3 : Int32) (M : Mem) : Prop := (((4 : Int32) ≤ v3 → Q v2 M) ∧ (¬ (4 : Int32) ≤ v3 → vp_in v1 4 ∧ q_X2_agreeWith 7 (mU M 10 v1.toNatClampNeg v3) (fun r_6 M_5 => ((r_6 = 0 → r.2 v1 v2 v3 M_5) ∧ (¬ r_6 = 0 → ∀ x_7 : Int32, x_7 = (v2 ||| ((1 : Int32) <<< (v3 &&& 31))) → r.2 v1 x_7 v3 M_5)))))
def f_X5_kinds_60 (Q : Int32 → Mem → Prop) (r : t_X5_kinds) (v1 : Int32) (v2 : Int32) (v3 : Int32) (M : Mem) : Prop := r.1 v1 v2 (v3 + 1) M
def p_X5_kinds (Q : Int32 → Mem → Prop) : Nat → t_X5_kinds
  | 0 => (fun _ _ _ _ => False, fun _ _ _ _ => False)
  | n + 1 => (f_X5_kinds_25 Q (p_X5_kinds Q n), f_X5_kinds_60 Q (p_X5_kinds Q n))
def e_X5_kinds (v1 : Int32) (Q : Int32 → Mem → Prop) (r : t_X5_kinds) (M : Mem) : Prop := q_X5_hasWheel v1 M (fun r_2 M_1 => ((¬ r_2 = 0 → q_X0_copyFrom 7 1 M_1 (fun M_3 => r.1 v1 (0 : Int32) (0 : Int32) M_3)) ∧ (r_2 = 0 → Q (-1 : Int32) M_1)))
def q_X5_kinds (v1 : Int32) (M : Mem) (Q : Int32 → Mem → Prop) : Prop := ∃ n : Nat, e_X5_kinds v1 Q (p_X5_kinds Q n) M
set_option maxRecDepth 100000 in
set_option maxHeartbeats 4000000 in
theorem b_X5_kinds {l : Launch} {K : wC} {Q : Int32 → Mem → Prop} {p : Program} {e : Env} {s : State} {m : MethodId} {args : Array Value} {below : List Frame} {meth : Method} {c : Code} (C : cx 51 K p s m args meth c cX5_kinds 4 wsX5_kinds RX5 (some .int)) : ∀ n : Nat, (∀ (v1 : Int32) (v2 : Int32) (v3 : Int32) (M : Mem) (H : Heap) (locs : List Loc) (ls : Array Slot), (p_X5_kinds Q n).1 v1 v2 v3 M → wP shX 51 K M H → va_S (wA 51 K) s.heap H locs → lv_has ls 4 [(0, .ref (kb K + 0)), (1, .int v1), (2, .int v2), (3, .int v3)] → W p l e rmX5_kinds s m args below meth c H locs 0 0 (MQ below (va_Qi Q (wE shX 51 K) (wA 51 K)) args s 0 0 (wA 51 K)) (F0 m 25 ls [])) ∧ (∀ (v1 : Int32) (v2 : Int32) (v3 : Int32) (M : Mem) (H : Heap) (locs : List Loc) (ls : Array Slot), (p_X5_kinds Q n).2 v1 v2 v3 M → wP shX 51 K M H → va_S (wA 51 K) s.heap H locs → lv_has ls 4 [(0, .ref (kb K + 0)), (1, .int v1), (2, .int v2), (3, .int v3)] → W p l e rmX5_kinds s m args below meth c H locs 0 0 (MQ below (va_Qi Q (wE shX 51 K) (wA 51 K)) args s 0 0 (wA 51 K)) (F0 m 60 ls [])) := by
  obtain ⟨hx, hb, hml, hown, hts, hr, hlk, hK⟩ := id C
  intro n
  induction n with
  | zero => exact ⟨fun _ _ _ _ _ _ _ hw _ _ _ => False.elim hw, fun _ _ _ _ _ _ _ hw _ _ _ => False.elim hw⟩
  | succ n ih =>
    refine ⟨?_, ?_⟩
    · intro v1 v2 v3 M H locs ls hw hP hS hl
      have hw : f_X5_kinds_25 Q (p_X5_kinds Q n) v1 v2 v3 M := hw
      delta f_X5_kinds_25 at hw
      refine lv_iload_n hx hb dX5_kinds_25 rfl (lv_at hl 3 rfl) ?_
      refine lv_iconst hx hb dX5_kinds_26 ic_4 ?_
      refine lv_icmp_ge (tgt := 66) hx hb dX5_kinds_27 (by decide) (fun hc => ?_) (fun hc => ?_)
      · have hw := hw.1 hc
        refine lv_iload_n hx hb dX5_kinds_66 rfl (lv_at hl 2 rfl) ?_
        exact r_i C hP hS hw dX5_kinds_67
      · have hw := hw.2 hc
        refine lv_aload_n hx hb dX5_kinds_30 rfl (lv_at hl 0 rfl) ?_
        refine g_f C hP (by decide) (sX_0 K _) rfl hX5_kinds_X5 1 (by decide) kX5_kinds_f16 rfl dX5_kinds_31 ?_
        refine g_f C hP (by decide) (sX_7 K _) rfl hX5_kinds_X0 3 (by decide) kX5_kinds_f139 rfl dX5_kinds_34 ?_
        refine lv_iload_n hx hb dX5_kinds_37 rfl (lv_at hl 1 rfl) ?_
        refine lv_iload_n hx hb dX5_kinds_38 rfl (lv_at hl 3 rfl) ?_
        have hi_4 := hw.1
        have hw := hw.2
        refine a_is C hP hS (by decide) (sX_10 K) hi_4 rfl dX5_kinds_39 (fun H locs hP hS => ?_)
        refine lv_aload_n hx hb dX5_kinds_40 rfl (lv_at hl 0 rfl) ?_
        refine g_f C hP (by decide) (sX_0 K _) rfl hX5_kinds_X5 5 (by decide) kX5_kinds_f37 rfl dX5_kinds_41 ?_
        refine lv_aload_n hx hb dX5_kinds_44 rfl (lv_at hl 0 rfl) ?_
        refine g_f C hP (by decide) (sX_0 K _) rfl hX5_kinds_X5 1 (by decide) kX5_kinds_f16 rfl dX5_kinds_45 ?_
        refine c_i (run_v (As := [.ref (kb K + 7)]) (rest := []) C hP hS (c_X2_agreeWith lay_7 hw) gX5_kinds_X2_agreeWith rfl dsX2_agreeWith rfl ⟨rfl, rfl⟩ ⟨Nat.le_of_ble_eq_true rfl, Nat.le_of_ble_eq_true rfl⟩ (by decide) (sX_24 K _) rfl hl.1 rfl (Nat.le_of_ble_eq_true rfl) dX5_kinds_48 ⟨Nat.le_of_ble_eq_true rfl, Nat.le_of_ble_eq_true rfl⟩) hS (fun r_6 M_5 H locs hw hP hS => ?_)
        refine lv_if_eq (tgt := 60) hx hb dX5_kinds_51 (by decide) (fun hc => ?_) (fun hc => ?_)
        · have hw := hw.1 hc
          exact ih.2 _ _ _ _ _ _ _ hw hP hS (lv_sub hl [0, 1, 2, 3] rfl)
        · have hw := hw.2 hc
          refine lv_iload_n hx hb dX5_kinds_54 rfl (lv_at hl 2 rfl) ?_
          refine lv_iconst hx hb dX5_kinds_55 ic_1 ?_
          refine lv_iload_n hx hb dX5_kinds_56 rfl (lv_at hl 3 rfl) ?_
          refine lv_ishl hx hb dX5_kinds_57 ?_
          refine lv_ior hx hb dX5_kinds_58 ?_
          refine lv_topi (fun x_7 ex_7 => ?_)
          have hw := hw x_7 ex_7
          refine lv_istore_n (lv' := [(2, .int x_7), (0, .ref (kb K + 0)), (1, .int v1), (3, .int v3)]) hx hb dX5_kinds_59 rfl hl (by decide) rfl (fun ls hl => ?_)
          exact ih.2 _ _ _ _ _ _ _ hw hP hS (lv_sub hl [1, 2, 0, 3] rfl)
    · intro v1 v2 v3 M H locs ls hw hP hS hl
      have hw : f_X5_kinds_60 Q (p_X5_kinds Q n) v1 v2 v3 M := hw
      delta f_X5_kinds_60 at hw
      refine lv_iinc (v := (v3 + 1)) (lv' := [(3, .int (v3 + 1)), (0, .ref (kb K + 0)), (1, .int v1), (2, .int v2)]) hx hb dX5_kinds_60 hl (k := 3) rfl (by rw [ic_1]) (by decide) rfl (fun ls hl => ?_)
      refine lv_goto (tgt := 25) hx hb dX5_kinds_63 (by decide) ?_
      exact ih.1 _ _ _ _ _ _ _ hw hP hS (lv_sub hl [1, 2, 3, 0] rfl)
theorem dsX5_kinds : yX5_kinds.cls = RX5 ∧ yX5_kinds.cls ≠ "java/lang/invoke/MethodHandle" ∧ yX5_kinds.cls ≠ "java/lang/invoke/VarHandle" ∧ (parseMethodDescriptor yX5_kinds.desc).map (fun d => d.parameters.length) = some 1 := by decide +kernel
set_option maxRecDepth 100000 in
set_option maxHeartbeats 4000000 in
theorem c_X5_kinds {l : Launch} {K : wC} {v1 : Int32} {M : Mem} {Q : Int32 → Mem → Prop} (hw : q_X5_kinds v1 M Q) : metI l yX5_kinds wsX5_kinds rmX5_kinds shX 51 K [.ref (kb K + 0), .int v1] M Q := by
  refine met_of (cc := cX5_kinds) (maxL := 4) (ret := (some .int)) (own := RX5) (by decide) rfl rfl (Nat.le_of_ble_eq_true rfl) ?_
  intro p e s m below meth c ls C hl hP hS
  have hl : lv_has ls 4 [(0, .ref (kb K + 0)), (1, .int v1)] := hl
  obtain ⟨hx, hb, hml, hown, hts, hr, hlk, hK⟩ := id C
  have hP0 := hP
  obtain ⟨n, hw⟩ := hw
  have ih := b_X5_kinds (l := l) (e := e) (below := below) (Q := Q) C n
  delta e_X5_kinds at hw
  refine lv_aload_n hx hb dX5_kinds_0 rfl (lv_at hl 0 rfl) ?_
  refine lv_iload_n hx hb dX5_kinds_1 rfl (lv_at hl 1 rfl) ?_
  refine c_i (run_v (As := [.int v1]) (rest := []) C hP hS (c_X5_hasWheel hw) gX5_kinds_X5_hasWheel rfl dsX5_hasWheel rfl ⟨rfl, rfl⟩ ⟨Nat.le_of_ble_eq_true rfl, Nat.le_of_ble_eq_true rfl⟩ (by decide) (sX_0 K _) rfl hl.1 rfl (Nat.le_of_ble_eq_true rfl) dX5_kinds_2 ⟨Nat.le_of_ble_eq_true rfl, Nat.le_of_ble_eq_true rfl⟩) hS (fun r_2 M_1 H locs hw hP hS => ?_)
  refine lv_if_ne (tgt := 10) hx hb dX5_kinds_5 (by decide) (fun hc => ?_) (fun hc => ?_)
  · have hw := hw.1 hc
    refine lv_aload_n hx hb dX5_kinds_10 rfl (lv_at hl 0 rfl) ?_
    refine g_f C hP (by decide) (sX_0 K _) rfl hX5_kinds_X5 1 (by decide) kX5_kinds_f16 rfl dX5_kinds_11 ?_
    refine lv_aload_n hx hb dX5_kinds_14 rfl (lv_at hl 0 rfl) ?_
    refine g_f C hP (by decide) (sX_0 K _) rfl hX5_kinds_X5 0 (by decide) kX5_kinds_f10 rfl dX5_kinds_15 ?_
    refine c_v (run_v (As := [.ref (kb K + 1)]) (rest := []) C hP hS (c_X0_copyFrom lay_7 lay_1 hw) gX5_kinds_X0_copyFrom rfl dsX0_copyFrom rfl ⟨rfl, rfl⟩ ⟨Nat.le_of_ble_eq_true rfl, Nat.le_of_ble_eq_true rfl⟩ (by decide) (sX_7 K _) rfl hl.1 rfl (Nat.le_of_ble_eq_true rfl) dX5_kinds_18 ⟨Nat.le_of_ble_eq_true rfl, Nat.le_of_ble_eq_true rfl⟩) hS (fun M_3 H locs hw hP hS => ?_)
    refine lv_iconst hx hb dX5_kinds_21 ic_0 ?_
    refine lv_istore_n (lv' := [(2, .int (0 : Int32)), (0, .ref (kb K + 0)), (1, .int v1)]) hx hb dX5_kinds_22 rfl hl (by decide) rfl (fun ls hl => ?_)
    refine lv_iconst hx hb dX5_kinds_23 ic_0 ?_
    refine lv_istore_n (lv' := [(3, .int (0 : Int32)), (2, .int (0 : Int32)), (0, .ref (kb K + 0)), (1, .int v1)]) hx hb dX5_kinds_24 rfl hl (by decide) rfl (fun ls hl => ?_)
    exact ih.1 _ _ _ _ _ _ _ hw hP hS (lv_sub hl [2, 3, 1, 0] rfl)
  · have hw := hw.2 hc
    refine lv_iconst hx hb dX5_kinds_8 ic_m1 ?_
    exact r_i C hP hS hw dX5_kinds_9

theorem kX5_stepsAsSeen_f16 : Cond.fieldLink RX5 16 (TX5 1).1 (TX5 1).2.1 (TX5 1).2.2.1 ∈ wsX5_stepsAsSeen := List.mem_of_getElem? (i := 1) rfl
theorem hX5_stepsAsSeen_X5 : ∀ w ∈ u_ws RX5 TX5 11, w ∈ wsX5_stepsAsSeen := fun _ h => List.mem_cons_of_mem _ (List.mem_append_left _ (List.mem_append_left _ (List.mem_append_right _ (h))))
theorem kX5_stepsAsSeen_f10 : Cond.fieldLink RX5 10 (TX5 0).1 (TX5 0).2.1 (TX5 0).2.2.1 ∈ wsX5_stepsAsSeen := List.mem_of_getElem? (i := 2) rfl
theorem kX5_stepsAsSeen_f142 : Cond.fieldLink RX5 142 (TX0 4).1 (TX0 4).2.1 (TX0 4).2.2.1 ∈ wsX5_stepsAsSeen := List.mem_of_getElem? (i := 3) rfl
theorem hX5_stepsAsSeen_X0 : ∀ w ∈ u_ws RX0 TX0 10, w ∈ wsX5_stepsAsSeen := fun _ h => List.mem_cons_of_mem _ (List.mem_append_left _ (List.mem_append_right _ (h)))
theorem kX5_stepsAsSeen_f37 : Cond.fieldLink RX5 37 (TX5 5).1 (TX5 5).2.1 (TX5 5).2.2.1 ∈ wsX5_stepsAsSeen := List.mem_of_getElem? (i := 4) rfl
abbrev rmX5_stepsAsSeen : Room := { frames := 5, cells := 0, slots := 0, locals := 111 }
abbrev t_X5_stepsAsSeen : Type := (Int32 → Int32 → Int32 → Mem → Prop) × (Int32 → Int32 → Int32 → Mem → Prop)
def f_X5_stepsAsSeen_15 (Q : Int32 → Mem → Prop) (r : t_X5_stepsAsSeen) (v1 : Int32) (v2 : Int32) (v3 : Int32) (M : Mem) : Prop := (((9 : Int32) < v3 → Q v2 M) ∧ (¬ (9 : Int32) < v3 → vp_in v1 4 ∧ q_X2_agreeWith 7 (mU M 11 v1.toNatClampNeg v3) (fun r_4 M_3 => ((r_4 = 0 → r.2 v1 v2 v3 M_3) ∧ (¬ r_4 = 0 → ∀ x_5 : Int32, x_5 = (v2 ||| ((1 : Int32) <<< (v3 &&& 31))) → r.2 v1 x_5 v3 M_3)))))
def f_X5_stepsAsSeen_51 (Q : Int32 → Mem → Prop) (r : t_X5_stepsAsSeen) (v1 : Int32) (v2 : Int32) (v3 : Int32) (M : Mem) : Prop := r.1 v1 v2 (v3 + 1) M
def p_X5_stepsAsSeen (Q : Int32 → Mem → Prop) : Nat → t_X5_stepsAsSeen
  | 0 => (fun _ _ _ _ => False, fun _ _ _ _ => False)
  | n + 1 => (f_X5_stepsAsSeen_15 Q (p_X5_stepsAsSeen Q n), f_X5_stepsAsSeen_51 Q (p_X5_stepsAsSeen Q n))
def e_X5_stepsAsSeen (v1 : Int32) (Q : Int32 → Mem → Prop) (r : t_X5_stepsAsSeen) (M : Mem) : Prop := q_X0_copyFrom 7 1 M (fun M_1 => r.1 v1 (0 : Int32) (1 : Int32) M_1)
def q_X5_stepsAsSeen (v1 : Int32) (M : Mem) (Q : Int32 → Mem → Prop) : Prop := ∃ n : Nat, e_X5_stepsAsSeen v1 Q (p_X5_stepsAsSeen Q n) M
set_option maxRecDepth 100000 in
set_option maxHeartbeats 4000000 in
theorem b_X5_stepsAsSeen {l : Launch} {K : wC} {Q : Int32 → Mem → Prop} {p : Program} {e : Env} {s : State} {m : MethodId} {args : Array Value} {below : List Frame} {meth : Method} {c : Code} (C : cx 51 K p s m args meth c cX5_stepsAsSeen 4 wsX5_stepsAsSeen RX5 (some .int)) : ∀ n : Nat, (∀ (v1 : Int32) (v2 : Int32) (v3 : Int32) (M : Mem) (H : Heap) (locs : List Loc) (ls : Array Slot), (p_X5_stepsAsSeen Q n).1 v1 v2 v3 M → wP shX 51 K M H → va_S (wA 51 K) s.heap H locs → lv_has ls 4 [(0, .ref (kb K + 0)), (1, .int v1), (2, .int v2), (3, .int v3)] → W p l e rmX5_stepsAsSeen s m args below meth c H locs 0 0 (MQ below (va_Qi Q (wE shX 51 K) (wA 51 K)) args s 0 0 (wA 51 K)) (F0 m 15 ls [])) ∧ (∀ (v1 : Int32) (v2 : Int32) (v3 : Int32) (M : Mem) (H : Heap) (locs : List Loc) (ls : Array Slot), (p_X5_stepsAsSeen Q n).2 v1 v2 v3 M → wP shX 51 K M H → va_S (wA 51 K) s.heap H locs → lv_has ls 4 [(0, .ref (kb K + 0)), (1, .int v1), (2, .int v2), (3, .int v3)] → W p l e rmX5_stepsAsSeen s m args below meth c H locs 0 0 (MQ below (va_Qi Q (wE shX 51 K) (wA 51 K)) args s 0 0 (wA 51 K)) (F0 m 51 ls [])) := by
  obtain ⟨hx, hb, hml, hown, hts, hr, hlk, hK⟩ := id C
  intro n
  induction n with
  | zero => exact ⟨fun _ _ _ _ _ _ _ hw _ _ _ => False.elim hw, fun _ _ _ _ _ _ _ hw _ _ _ => False.elim hw⟩
  | succ n ih =>
    refine ⟨?_, ?_⟩
    · intro v1 v2 v3 M H locs ls hw hP hS hl
      have hw : f_X5_stepsAsSeen_15 Q (p_X5_stepsAsSeen Q n) v1 v2 v3 M := hw
      delta f_X5_stepsAsSeen_15 at hw
      refine lv_iload_n hx hb dX5_stepsAsSeen_15 rfl (lv_at hl 3 rfl) ?_
      refine lv_bipush hx hb dX5_stepsAsSeen_16 bp_9 ?_
      refine lv_icmp_gt (tgt := 57) hx hb dX5_stepsAsSeen_18 (by decide) (fun hc => ?_) (fun hc => ?_)
      · have hw := hw.1 hc
        refine lv_iload_n hx hb dX5_stepsAsSeen_57 rfl (lv_at hl 2 rfl) ?_
        exact r_i C hP hS hw dX5_stepsAsSeen_58
      · have hw := hw.2 hc
        refine lv_aload_n hx hb dX5_stepsAsSeen_21 rfl (lv_at hl 0 rfl) ?_
        refine g_f C hP (by decide) (sX_0 K _) rfl hX5_stepsAsSeen_X5 1 (by decide) kX5_stepsAsSeen_f16 rfl dX5_stepsAsSeen_22 ?_
        refine g_f C hP (by decide) (sX_7 K _) rfl hX5_stepsAsSeen_X0 4 (by decide) kX5_stepsAsSeen_f142 rfl dX5_stepsAsSeen_25 ?_
        refine lv_iload_n hx hb dX5_stepsAsSeen_28 rfl (lv_at hl 1 rfl) ?_
        refine lv_iload_n hx hb dX5_stepsAsSeen_29 rfl (lv_at hl 3 rfl) ?_
        have hi_2 := hw.1
        have hw := hw.2
        refine a_is C hP hS (by decide) (sX_11 K) hi_2 rfl dX5_stepsAsSeen_30 (fun H locs hP hS => ?_)
        refine lv_aload_n hx hb dX5_stepsAsSeen_31 rfl (lv_at hl 0 rfl) ?_
        refine g_f C hP (by decide) (sX_0 K _) rfl hX5_stepsAsSeen_X5 5 (by decide) kX5_stepsAsSeen_f37 rfl dX5_stepsAsSeen_32 ?_
        refine lv_aload_n hx hb dX5_stepsAsSeen_35 rfl (lv_at hl 0 rfl) ?_
        refine g_f C hP (by decide) (sX_0 K _) rfl hX5_stepsAsSeen_X5 1 (by decide) kX5_stepsAsSeen_f16 rfl dX5_stepsAsSeen_36 ?_
        refine c_i (run_v (As := [.ref (kb K + 7)]) (rest := []) C hP hS (c_X2_agreeWith lay_7 hw) gX5_stepsAsSeen_X2_agreeWith rfl dsX2_agreeWith rfl ⟨rfl, rfl⟩ ⟨Nat.le_of_ble_eq_true rfl, Nat.le_of_ble_eq_true rfl⟩ (by decide) (sX_24 K _) rfl hl.1 rfl (Nat.le_of_ble_eq_true rfl) dX5_stepsAsSeen_39 ⟨Nat.le_of_ble_eq_true rfl, Nat.le_of_ble_eq_true rfl⟩) hS (fun r_4 M_3 H locs hw hP hS => ?_)
        refine lv_if_eq (tgt := 51) hx hb dX5_stepsAsSeen_42 (by decide) (fun hc => ?_) (fun hc => ?_)
        · have hw := hw.1 hc
          exact ih.2 _ _ _ _ _ _ _ hw hP hS (lv_sub hl [0, 1, 2, 3] rfl)
        · have hw := hw.2 hc
          refine lv_iload_n hx hb dX5_stepsAsSeen_45 rfl (lv_at hl 2 rfl) ?_
          refine lv_iconst hx hb dX5_stepsAsSeen_46 ic_1 ?_
          refine lv_iload_n hx hb dX5_stepsAsSeen_47 rfl (lv_at hl 3 rfl) ?_
          refine lv_ishl hx hb dX5_stepsAsSeen_48 ?_
          refine lv_ior hx hb dX5_stepsAsSeen_49 ?_
          refine lv_topi (fun x_5 ex_5 => ?_)
          have hw := hw x_5 ex_5
          refine lv_istore_n (lv' := [(2, .int x_5), (0, .ref (kb K + 0)), (1, .int v1), (3, .int v3)]) hx hb dX5_stepsAsSeen_50 rfl hl (by decide) rfl (fun ls hl => ?_)
          exact ih.2 _ _ _ _ _ _ _ hw hP hS (lv_sub hl [1, 2, 0, 3] rfl)
    · intro v1 v2 v3 M H locs ls hw hP hS hl
      have hw : f_X5_stepsAsSeen_51 Q (p_X5_stepsAsSeen Q n) v1 v2 v3 M := hw
      delta f_X5_stepsAsSeen_51 at hw
      refine lv_iinc (v := (v3 + 1)) (lv' := [(3, .int (v3 + 1)), (0, .ref (kb K + 0)), (1, .int v1), (2, .int v2)]) hx hb dX5_stepsAsSeen_51 hl (k := 3) rfl (by rw [ic_1]) (by decide) rfl (fun ls hl => ?_)
      refine lv_goto (tgt := 15) hx hb dX5_stepsAsSeen_54 (by decide) ?_
      exact ih.1 _ _ _ _ _ _ _ hw hP hS (lv_sub hl [1, 2, 3, 0] rfl)
theorem dsX5_stepsAsSeen : yX5_stepsAsSeen.cls = RX5 ∧ yX5_stepsAsSeen.cls ≠ "java/lang/invoke/MethodHandle" ∧ yX5_stepsAsSeen.cls ≠ "java/lang/invoke/VarHandle" ∧ (parseMethodDescriptor yX5_stepsAsSeen.desc).map (fun d => d.parameters.length) = some 1 := by decide +kernel
set_option maxRecDepth 100000 in
set_option maxHeartbeats 4000000 in
theorem c_X5_stepsAsSeen {l : Launch} {K : wC} {v1 : Int32} {M : Mem} {Q : Int32 → Mem → Prop} (hw : q_X5_stepsAsSeen v1 M Q) : metI l yX5_stepsAsSeen wsX5_stepsAsSeen rmX5_stepsAsSeen shX 51 K [.ref (kb K + 0), .int v1] M Q := by
  refine met_of (cc := cX5_stepsAsSeen) (maxL := 4) (ret := (some .int)) (own := RX5) (by decide) rfl rfl (Nat.le_of_ble_eq_true rfl) ?_
  intro p e s m below meth c ls C hl hP hS
  have hl : lv_has ls 4 [(0, .ref (kb K + 0)), (1, .int v1)] := hl
  obtain ⟨hx, hb, hml, hown, hts, hr, hlk, hK⟩ := id C
  have hP0 := hP
  obtain ⟨n, hw⟩ := hw
  have ih := b_X5_stepsAsSeen (l := l) (e := e) (below := below) (Q := Q) C n
  delta e_X5_stepsAsSeen at hw
  refine lv_aload_n hx hb dX5_stepsAsSeen_0 rfl (lv_at hl 0 rfl) ?_
  refine g_f C hP (by decide) (sX_0 K _) rfl hX5_stepsAsSeen_X5 1 (by decide) kX5_stepsAsSeen_f16 rfl dX5_stepsAsSeen_1 ?_
  refine lv_aload_n hx hb dX5_stepsAsSeen_4 rfl (lv_at hl 0 rfl) ?_
  refine g_f C hP (by decide) (sX_0 K _) rfl hX5_stepsAsSeen_X5 0 (by decide) kX5_stepsAsSeen_f10 rfl dX5_stepsAsSeen_5 ?_
  refine c_v (run_v (As := [.ref (kb K + 1)]) (rest := []) C hP hS (c_X0_copyFrom lay_7 lay_1 hw) gX5_stepsAsSeen_X0_copyFrom rfl dsX0_copyFrom rfl ⟨rfl, rfl⟩ ⟨Nat.le_of_ble_eq_true rfl, Nat.le_of_ble_eq_true rfl⟩ (by decide) (sX_7 K _) rfl hl.1 rfl (Nat.le_of_ble_eq_true rfl) dX5_stepsAsSeen_8 ⟨Nat.le_of_ble_eq_true rfl, Nat.le_of_ble_eq_true rfl⟩) hS (fun M_1 H locs hw hP hS => ?_)
  refine lv_iconst hx hb dX5_stepsAsSeen_11 ic_0 ?_
  refine lv_istore_n (lv' := [(2, .int (0 : Int32)), (0, .ref (kb K + 0)), (1, .int v1)]) hx hb dX5_stepsAsSeen_12 rfl hl (by decide) rfl (fun ls hl => ?_)
  refine lv_iconst hx hb dX5_stepsAsSeen_13 ic_1 ?_
  refine lv_istore_n (lv' := [(3, .int (1 : Int32)), (2, .int (0 : Int32)), (0, .ref (kb K + 0)), (1, .int v1)]) hx hb dX5_stepsAsSeen_14 rfl hl (by decide) rfl (fun ls hl => ?_)
  exact ih.1 _ _ _ _ _ _ _ hw hP hS (lv_sub hl [2, 3, 1, 0] rfl)

abbrev rmX5_steps : Room := { frames := 6, cells := 0, slots := 0, locals := 134 }
def q_X5_steps (v1 : Int32) (M : Mem) (Q : Int32 → Mem → Prop) : Prop := q_X5_hasWheel v1 M (fun r_2 M_1 => ((r_2 = 0 → Q (-1 : Int32) M_1) ∧ (¬ r_2 = 0 → q_X5_stepsAsSeen v1 M_1 (fun r_4 M_3 => Q r_4 M_3))))
theorem dsX5_steps : yX5_steps.cls = RX5 ∧ yX5_steps.cls ≠ "java/lang/invoke/MethodHandle" ∧ yX5_steps.cls ≠ "java/lang/invoke/VarHandle" ∧ (parseMethodDescriptor yX5_steps.desc).map (fun d => d.parameters.length) = some 1 := by decide +kernel
set_option maxRecDepth 100000 in
set_option maxHeartbeats 4000000 in
theorem c_X5_steps {l : Launch} {K : wC} {v1 : Int32} {M : Mem} {Q : Int32 → Mem → Prop} (hw : q_X5_steps v1 M Q) : metI l yX5_steps wsX5_steps rmX5_steps shX 51 K [.ref (kb K + 0), .int v1] M Q := by
  refine met_of (cc := cX5_steps) (maxL := 2) (ret := (some .int)) (own := RX5) (by decide) rfl rfl (Nat.le_of_ble_eq_true rfl) ?_
  intro p e s m below meth c ls C hl hP hS
  have hl : lv_has ls 2 [(0, .ref (kb K + 0)), (1, .int v1)] := hl
  obtain ⟨hx, hb, hml, hown, hts, hr, hlk, hK⟩ := id C
  have hP0 := hP
  delta q_X5_steps at hw
  refine lv_aload_n hx hb dX5_steps_0 rfl (lv_at hl 0 rfl) ?_
  refine lv_iload_n hx hb dX5_steps_1 rfl (lv_at hl 1 rfl) ?_
  refine c_i (run_v (As := [.int v1]) (rest := []) C hP hS (c_X5_hasWheel hw) gX5_steps_X5_hasWheel rfl dsX5_hasWheel rfl ⟨rfl, rfl⟩ ⟨Nat.le_of_ble_eq_true rfl, Nat.le_of_ble_eq_true rfl⟩ (by decide) (sX_0 K _) rfl hl.1 rfl (Nat.le_of_ble_eq_true rfl) dX5_steps_2 ⟨Nat.le_of_ble_eq_true rfl, Nat.le_of_ble_eq_true rfl⟩) hS (fun r_2 M_1 H locs hw hP hS => ?_)
  refine lv_if_eq (tgt := 16) hx hb dX5_steps_5 (by decide) (fun hc => ?_) (fun hc => ?_)
  · have hw := hw.1 hc
    refine lv_iconst hx hb dX5_steps_16 ic_m1 ?_
    exact r_i C hP hS hw dX5_steps_17
  · have hw := hw.2 hc
    refine lv_aload_n hx hb dX5_steps_8 rfl (lv_at hl 0 rfl) ?_
    refine lv_iload_n hx hb dX5_steps_9 rfl (lv_at hl 1 rfl) ?_
    refine c_i (run_v (As := [.int v1]) (rest := []) C hP hS (c_X5_stepsAsSeen hw) gX5_steps_X5_stepsAsSeen rfl dsX5_stepsAsSeen rfl ⟨rfl, rfl⟩ ⟨Nat.le_of_ble_eq_true rfl, Nat.le_of_ble_eq_true rfl⟩ (by decide) (sX_0 K _) rfl hl.1 rfl (Nat.le_of_ble_eq_true rfl) dX5_steps_10 ⟨Nat.le_of_ble_eq_true rfl, Nat.le_of_ble_eq_true rfl⟩) hS (fun r_4 M_3 H locs hw hP hS => ?_)
    refine lv_goto (tgt := 17) hx hb dX5_steps_13 (by decide) ?_
    exact r_i C hP hS hw dX5_steps_17

theorem kX5_countAlike_f51 : Cond.fieldLink RX5 51 (TX5 8).1 (TX5 8).2.1 (TX5 8).2.2.1 ∈ wsX5_countAlike := List.mem_of_getElem? (i := 1) rfl
theorem hX5_countAlike_X5 : ∀ w ∈ u_ws RX5 TX5 11, w ∈ wsX5_countAlike := fun _ h => List.mem_cons_of_mem _ (List.mem_append_right _ (h))
abbrev rmX5_countAlike : Room := { frames := 0, cells := 0, slots := 0, locals := 0 }
abbrev t_X5_countAlike : Type := (Int32 → Int32 → Int32 → Int32 → Mem → Prop) × (Int32 → Int32 → Int32 → Int32 → Mem → Prop)
def f_X5_countAlike_5 (Q : Int32 → Mem → Prop) (r : t_X5_countAlike) (v1 : Int32) (v2 : Int32) (v3 : Int32) (v4 : Int32) (M : Mem) : Prop := (((9 : Int32) < v4 → Q v3 M) ∧ (¬ (9 : Int32) < v4 → ((((v1 >>> (v4 &&& 31)) &&& (1 : Int32)) = 0 → r.2 v1 v2 v3 v4 M) ∧ (¬ ((v1 >>> (v4 &&& 31)) &&& (1 : Int32)) = 0 → vp_in v4 10 ∧ ((¬ (M 30 v4.toNatClampNeg) = v2 → r.2 v1 v2 v3 v4 M) ∧ ((M 30 v4.toNatClampNeg) = v2 → r.2 v1 v2 (v3 + 1) v4 M))))))
def f_X5_countAlike_35 (Q : Int32 → Mem → Prop) (r : t_X5_countAlike) (v1 : Int32) (v2 : Int32) (v3 : Int32) (v4 : Int32) (M : Mem) : Prop := r.1 v1 v2 v3 (v4 + 1) M
def p_X5_countAlike (Q : Int32 → Mem → Prop) : Nat → t_X5_countAlike
  | 0 => (fun _ _ _ _ _ => False, fun _ _ _ _ _ => False)
  | n + 1 => (f_X5_countAlike_5 Q (p_X5_countAlike Q n), f_X5_countAlike_35 Q (p_X5_countAlike Q n))
def e_X5_countAlike (v1 : Int32) (v2 : Int32) (Q : Int32 → Mem → Prop) (r : t_X5_countAlike) (M : Mem) : Prop := r.1 v1 v2 (0 : Int32) (1 : Int32) M
def q_X5_countAlike (v1 : Int32) (v2 : Int32) (M : Mem) (Q : Int32 → Mem → Prop) : Prop := ∃ n : Nat, e_X5_countAlike v1 v2 Q (p_X5_countAlike Q n) M
set_option maxRecDepth 100000 in
set_option maxHeartbeats 4000000 in
theorem b_X5_countAlike {l : Launch} {K : wC} {Q : Int32 → Mem → Prop} {p : Program} {e : Env} {s : State} {m : MethodId} {args : Array Value} {below : List Frame} {meth : Method} {c : Code} (C : cx 51 K p s m args meth c cX5_countAlike 5 wsX5_countAlike RX5 (some .int)) : ∀ n : Nat, (∀ (v1 : Int32) (v2 : Int32) (v3 : Int32) (v4 : Int32) (M : Mem) (H : Heap) (locs : List Loc) (ls : Array Slot), (p_X5_countAlike Q n).1 v1 v2 v3 v4 M → wP shX 51 K M H → va_S (wA 51 K) s.heap H locs → lv_has ls 5 [(0, .ref (kb K + 0)), (1, .int v1), (2, .int v2), (3, .int v3), (4, .int v4)] → W p l e rmX5_countAlike s m args below meth c H locs 0 0 (MQ below (va_Qi Q (wE shX 51 K) (wA 51 K)) args s 0 0 (wA 51 K)) (F0 m 5 ls [])) ∧ (∀ (v1 : Int32) (v2 : Int32) (v3 : Int32) (v4 : Int32) (M : Mem) (H : Heap) (locs : List Loc) (ls : Array Slot), (p_X5_countAlike Q n).2 v1 v2 v3 v4 M → wP shX 51 K M H → va_S (wA 51 K) s.heap H locs → lv_has ls 5 [(0, .ref (kb K + 0)), (1, .int v1), (2, .int v2), (3, .int v3), (4, .int v4)] → W p l e rmX5_countAlike s m args below meth c H locs 0 0 (MQ below (va_Qi Q (wE shX 51 K) (wA 51 K)) args s 0 0 (wA 51 K)) (F0 m 35 ls [])) := by
  obtain ⟨hx, hb, hml, hown, hts, hr, hlk, hK⟩ := id C
  intro n
  induction n with
  | zero => exact ⟨fun _ _ _ _ _ _ _ _ hw _ _ _ => False.elim hw, fun _ _ _ _ _ _ _ _ hw _ _ _ => False.elim hw⟩
  | succ n ih =>
    refine ⟨?_, ?_⟩
    · intro v1 v2 v3 v4 M H locs ls hw hP hS hl
      have hw : f_X5_countAlike_5 Q (p_X5_countAlike Q n) v1 v2 v3 v4 M := hw
      delta f_X5_countAlike_5 at hw
      refine lv_iload hx hb dX5_countAlike_5 (lv_at hl 4 rfl) ?_
      refine lv_bipush hx hb dX5_countAlike_7 bp_9 ?_
      refine lv_icmp_gt (tgt := 41) hx hb dX5_countAlike_9 (by decide) (fun hc => ?_) (fun hc => ?_)
      · have hw := hw.1 hc
        refine lv_iload_n hx hb dX5_countAlike_41 rfl (lv_at hl 3 rfl) ?_
        exact r_i C hP hS hw dX5_countAlike_42
      · have hw := hw.2 hc
        refine lv_iload_n hx hb dX5_countAlike_12 rfl (lv_at hl 1 rfl) ?_
        refine lv_iload hx hb dX5_countAlike_13 (lv_at hl 4 rfl) ?_
        refine lv_ishr hx hb dX5_countAlike_15 ?_
        refine lv_iconst hx hb dX5_countAlike_16 ic_1 ?_
        refine lv_iand hx hb dX5_countAlike_17 ?_
        refine lv_if_eq (tgt := 35) hx hb dX5_countAlike_18 (by decide) (fun hc => ?_) (fun hc => ?_)
        · have hw := hw.1 hc
          exact ih.2 _ _ _ _ _ _ _ _ hw hP hS (lv_sub hl [0, 1, 2, 3, 4] rfl)
        · have hw := hw.2 hc
          refine lv_aload_n hx hb dX5_countAlike_21 rfl (lv_at hl 0 rfl) ?_
          refine g_f C hP (by decide) (sX_0 K _) rfl hX5_countAlike_X5 8 (by decide) kX5_countAlike_f51 rfl dX5_countAlike_22 ?_
          refine lv_iload hx hb dX5_countAlike_25 (lv_at hl 4 rfl) ?_
          have hi_1 := hw.1
          have hw := hw.2
          refine a_il C hP (by decide) (sX_30 K _) hi_1 rfl dX5_countAlike_27 ?_
          refine lv_iload_n hx hb dX5_countAlike_28 rfl (lv_at hl 2 rfl) ?_
          refine lv_icmp_ne (tgt := 35) hx hb dX5_countAlike_29 (by decide) (fun hc => ?_) (fun hc => ?_)
          · have hw := hw.1 hc
            exact ih.2 _ _ _ _ _ _ _ _ hw hP hS (lv_sub hl [0, 1, 2, 3, 4] rfl)
          · have hw := hw.2 hc
            refine lv_iinc (v := (v3 + 1)) (lv' := [(3, .int (v3 + 1)), (0, .ref (kb K + 0)), (1, .int v1), (2, .int v2), (4, .int v4)]) hx hb dX5_countAlike_32 hl (k := 3) rfl (by rw [ic_1]) (by decide) rfl (fun ls hl => ?_)
            exact ih.2 _ _ _ _ _ _ _ _ hw hP hS (lv_sub hl [1, 2, 3, 0, 4] rfl)
    · intro v1 v2 v3 v4 M H locs ls hw hP hS hl
      have hw : f_X5_countAlike_35 Q (p_X5_countAlike Q n) v1 v2 v3 v4 M := hw
      delta f_X5_countAlike_35 at hw
      refine lv_iinc (v := (v4 + 1)) (lv' := [(4, .int (v4 + 1)), (0, .ref (kb K + 0)), (1, .int v1), (2, .int v2), (3, .int v3)]) hx hb dX5_countAlike_35 hl (k := 4) rfl (by rw [ic_1]) (by decide) rfl (fun ls hl => ?_)
      refine lv_goto (tgt := 5) hx hb dX5_countAlike_38 (by decide) ?_
      exact ih.1 _ _ _ _ _ _ _ _ hw hP hS (lv_sub hl [1, 2, 3, 4, 0] rfl)
theorem dsX5_countAlike : yX5_countAlike.cls = RX5 ∧ yX5_countAlike.cls ≠ "java/lang/invoke/MethodHandle" ∧ yX5_countAlike.cls ≠ "java/lang/invoke/VarHandle" ∧ (parseMethodDescriptor yX5_countAlike.desc).map (fun d => d.parameters.length) = some 2 := by decide +kernel
set_option maxRecDepth 100000 in
set_option maxHeartbeats 4000000 in
theorem c_X5_countAlike {l : Launch} {K : wC} {v1 : Int32} {v2 : Int32} {M : Mem} {Q : Int32 → Mem → Prop} (hw : q_X5_countAlike v1 v2 M Q) : metI l yX5_countAlike wsX5_countAlike rmX5_countAlike shX 51 K [.ref (kb K + 0), .int v1, .int v2] M Q := by
  refine met_of (cc := cX5_countAlike) (maxL := 5) (ret := (some .int)) (own := RX5) (by decide) rfl rfl (Nat.le_of_ble_eq_true rfl) ?_
  intro p e s m below meth c ls C hl hP hS
  have hl : lv_has ls 5 [(0, .ref (kb K + 0)), (1, .int v1), (2, .int v2)] := hl
  obtain ⟨hx, hb, hml, hown, hts, hr, hlk, hK⟩ := id C
  have hP0 := hP
  obtain ⟨n, hw⟩ := hw
  have ih := b_X5_countAlike (l := l) (e := e) (below := below) (Q := Q) C n
  delta e_X5_countAlike at hw
  refine lv_iconst hx hb dX5_countAlike_0 ic_0 ?_
  refine lv_istore_n (lv' := [(3, .int (0 : Int32)), (0, .ref (kb K + 0)), (1, .int v1), (2, .int v2)]) hx hb dX5_countAlike_1 rfl hl (by decide) rfl (fun ls hl => ?_)
  refine lv_iconst hx hb dX5_countAlike_2 ic_1 ?_
  refine lv_istore (lv' := [(4, .int (1 : Int32)), (3, .int (0 : Int32)), (0, .ref (kb K + 0)), (1, .int v1), (2, .int v2)]) hx hb dX5_countAlike_3 hl (by decide) rfl (fun ls hl => ?_)
  exact ih.1 _ _ _ _ _ _ _ _ hw hP hS (lv_sub hl [2, 3, 4, 1, 0] rfl)

theorem kX5_mostAlike_f51 : Cond.fieldLink RX5 51 (TX5 8).1 (TX5 8).2.1 (TX5 8).2.2.1 ∈ wsX5_mostAlike := List.mem_of_getElem? (i := 1) rfl
theorem hX5_mostAlike_X5 : ∀ w ∈ u_ws RX5 TX5 11, w ∈ wsX5_mostAlike := fun _ h => List.mem_cons_of_mem _ (List.mem_append_right _ (h))
theorem kX5_mostAlike_m317 : Cond.methodLink RX5 317 Lib.Math.max.name ∈ wsX5_mostAlike := List.mem_of_getElem? (i := 2) rfl
theorem kX5_mostAlike_mx1 : Cond.static Lib.Math.max.name ∈ wsX5_mostAlike := List.mem_of_getElem? (i := 3) rfl
theorem kX5_mostAlike_mx2 : Cond.initialized "java/lang/Math" ∈ wsX5_mostAlike := List.mem_of_getElem? (i := 4) rfl
theorem kX5_mostAlike_mx3 : Cond.code Lib.Math.max.name Lib.Math.max.code 2 (some .int) ∈ wsX5_mostAlike := List.mem_of_getElem? (i := 5) rfl
abbrev rmX5_mostAlike : Room := { frames := 1, cells := 0, slots := 0, locals := 24 }
abbrev t_X5_mostAlike : Type := (Int32 → Int32 → Int32 → Mem → Prop) × (Int32 → Int32 → Int32 → Mem → Prop)
def f_X5_mostAlike_4 (Q : Int32 → Mem → Prop) (r : t_X5_mostAlike) (v1 : Int32) (v2 : Int32) (v3 : Int32) (M : Mem) : Prop := (((9 : Int32) < v3 → Q v2 M) ∧ (¬ (9 : Int32) < v3 → ((((v1 >>> (v3 &&& 31)) &&& (1 : Int32)) = 0 → r.2 v1 v2 v3 M) ∧ (¬ ((v1 >>> (v3 &&& 31)) &&& (1 : Int32)) = 0 → vp_in v3 10 ∧ q_X5_countAlike v1 (M 30 v3.toNatClampNeg) M (fun r_3 M_2 => r.2 v1 (imax v2 r_3) v3 M_2)))))
def f_X5_mostAlike_34 (Q : Int32 → Mem → Prop) (r : t_X5_mostAlike) (v1 : Int32) (v2 : Int32) (v3 : Int32) (M : Mem) : Prop := r.1 v1 v2 (v3 + 1) M
def p_X5_mostAlike (Q : Int32 → Mem → Prop) : Nat → t_X5_mostAlike
  | 0 => (fun _ _ _ _ => False, fun _ _ _ _ => False)
  | n + 1 => (f_X5_mostAlike_4 Q (p_X5_mostAlike Q n), f_X5_mostAlike_34 Q (p_X5_mostAlike Q n))
def e_X5_mostAlike (v1 : Int32) (Q : Int32 → Mem → Prop) (r : t_X5_mostAlike) (M : Mem) : Prop := r.1 v1 (0 : Int32) (1 : Int32) M
def q_X5_mostAlike (v1 : Int32) (M : Mem) (Q : Int32 → Mem → Prop) : Prop := ∃ n : Nat, e_X5_mostAlike v1 Q (p_X5_mostAlike Q n) M
set_option maxRecDepth 100000 in
set_option maxHeartbeats 4000000 in
theorem b_X5_mostAlike {l : Launch} {K : wC} {Q : Int32 → Mem → Prop} {p : Program} {e : Env} {s : State} {m : MethodId} {args : Array Value} {below : List Frame} {meth : Method} {c : Code} (C : cx 51 K p s m args meth c cX5_mostAlike 4 wsX5_mostAlike RX5 (some .int)) : ∀ n : Nat, (∀ (v1 : Int32) (v2 : Int32) (v3 : Int32) (M : Mem) (H : Heap) (locs : List Loc) (ls : Array Slot), (p_X5_mostAlike Q n).1 v1 v2 v3 M → wP shX 51 K M H → va_S (wA 51 K) s.heap H locs → lv_has ls 4 [(0, .ref (kb K + 0)), (1, .int v1), (2, .int v2), (3, .int v3)] → W p l e rmX5_mostAlike s m args below meth c H locs 0 0 (MQ below (va_Qi Q (wE shX 51 K) (wA 51 K)) args s 0 0 (wA 51 K)) (F0 m 4 ls [])) ∧ (∀ (v1 : Int32) (v2 : Int32) (v3 : Int32) (M : Mem) (H : Heap) (locs : List Loc) (ls : Array Slot), (p_X5_mostAlike Q n).2 v1 v2 v3 M → wP shX 51 K M H → va_S (wA 51 K) s.heap H locs → lv_has ls 4 [(0, .ref (kb K + 0)), (1, .int v1), (2, .int v2), (3, .int v3)] → W p l e rmX5_mostAlike s m args below meth c H locs 0 0 (MQ below (va_Qi Q (wE shX 51 K) (wA 51 K)) args s 0 0 (wA 51 K)) (F0 m 34 ls [])) := by
  obtain ⟨hx, hb, hml, hown, hts, hr, hlk, hK⟩ := id C
  intro n
  induction n with
  | zero => exact ⟨fun _ _ _ _ _ _ _ hw _ _ _ => False.elim hw, fun _ _ _ _ _ _ _ hw _ _ _ => False.elim hw⟩
  | succ n ih =>
    refine ⟨?_, ?_⟩
    · intro v1 v2 v3 M H locs ls hw hP hS hl
      have hw : f_X5_mostAlike_4 Q (p_X5_mostAlike Q n) v1 v2 v3 M := hw
      delta f_X5_mostAlike_4 at hw
      refine lv_iload_n hx hb dX5_mostAlike_4 rfl (lv_at hl 3 rfl) ?_
      refine lv_bipush hx hb dX5_mostAlike_5 bp_9 ?_
      refine lv_icmp_gt (tgt := 40) hx hb dX5_mostAlike_7 (by decide) (fun hc => ?_) (fun hc => ?_)
      · have hw := hw.1 hc
        refine lv_iload_n hx hb dX5_mostAlike_40 rfl (lv_at hl 2 rfl) ?_
        exact r_i C hP hS hw dX5_mostAlike_41
      · have hw := hw.2 hc
        refine lv_iload_n hx hb dX5_mostAlike_10 rfl (lv_at hl 1 rfl) ?_
        refine lv_iload_n hx hb dX5_mostAlike_11 rfl (lv_at hl 3 rfl) ?_
        refine lv_ishr hx hb dX5_mostAlike_12 ?_
        refine lv_iconst hx hb dX5_mostAlike_13 ic_1 ?_
        refine lv_iand hx hb dX5_mostAlike_14 ?_
        refine lv_if_eq (tgt := 34) hx hb dX5_mostAlike_15 (by decide) (fun hc => ?_) (fun hc => ?_)
        · have hw := hw.1 hc
          exact ih.2 _ _ _ _ _ _ _ hw hP hS (lv_sub hl [0, 1, 2, 3] rfl)
        · have hw := hw.2 hc
          refine lv_iload_n hx hb dX5_mostAlike_18 rfl (lv_at hl 2 rfl) ?_
          refine lv_aload_n hx hb dX5_mostAlike_19 rfl (lv_at hl 0 rfl) ?_
          refine lv_iload_n hx hb dX5_mostAlike_20 rfl (lv_at hl 1 rfl) ?_
          refine lv_aload_n hx hb dX5_mostAlike_21 rfl (lv_at hl 0 rfl) ?_
          refine g_f C hP (by decide) (sX_0 K _) rfl hX5_mostAlike_X5 8 (by decide) kX5_mostAlike_f51 rfl dX5_mostAlike_22 ?_
          refine lv_iload_n hx hb dX5_mostAlike_25 rfl (lv_at hl 3 rfl) ?_
          have hi_1 := hw.1
          have hw := hw.2
          refine a_il C hP (by decide) (sX_30 K _) hi_1 rfl dX5_mostAlike_26 ?_
          refine c_i (run_v (As := [.int v1, .int (M 30 v3.toNatClampNeg)]) (rest := [.int v2]) C hP hS (c_X5_countAlike hw) gX5_mostAlike_X5_countAlike rfl dsX5_countAlike rfl ⟨rfl, rfl⟩ ⟨Nat.le_of_ble_eq_true rfl, Nat.le_of_ble_eq_true rfl⟩ (by decide) (sX_0 K _) rfl hl.1 rfl (Nat.le_of_ble_eq_true rfl) dX5_mostAlike_27 ⟨Nat.le_of_ble_eq_true rfl, Nat.le_of_ble_eq_true rfl⟩) hS (fun r_3 M_2 H locs hw hP hS => ?_)
          refine m_max C hl.1 kX5_mostAlike_m317 kX5_mostAlike_mx1 kX5_mostAlike_mx2 kX5_mostAlike_mx3 (Nat.le_of_ble_eq_true rfl) (Nat.le_of_ble_eq_true rfl) (Nat.le_of_ble_eq_true rfl) (Nat.le_of_ble_eq_true rfl) dX5_mostAlike_30 ?_
          refine lv_istore_n (lv' := [(2, .int (imax v2 r_3)), (0, .ref (kb K + 0)), (1, .int v1), (3, .int v3)]) hx hb dX5_mostAlike_33 rfl hl (by decide) rfl (fun ls hl => ?_)
          exact ih.2 _ _ _ _ _ _ _ hw hP hS (lv_sub hl [1, 2, 0, 3] rfl)
    · intro v1 v2 v3 M H locs ls hw hP hS hl
      have hw : f_X5_mostAlike_34 Q (p_X5_mostAlike Q n) v1 v2 v3 M := hw
      delta f_X5_mostAlike_34 at hw
      refine lv_iinc (v := (v3 + 1)) (lv' := [(3, .int (v3 + 1)), (0, .ref (kb K + 0)), (1, .int v1), (2, .int v2)]) hx hb dX5_mostAlike_34 hl (k := 3) rfl (by rw [ic_1]) (by decide) rfl (fun ls hl => ?_)
      refine lv_goto (tgt := 4) hx hb dX5_mostAlike_37 (by decide) ?_
      exact ih.1 _ _ _ _ _ _ _ hw hP hS (lv_sub hl [1, 2, 3, 0] rfl)
theorem dsX5_mostAlike : yX5_mostAlike.cls = RX5 ∧ yX5_mostAlike.cls ≠ "java/lang/invoke/MethodHandle" ∧ yX5_mostAlike.cls ≠ "java/lang/invoke/VarHandle" ∧ (parseMethodDescriptor yX5_mostAlike.desc).map (fun d => d.parameters.length) = some 1 := by decide +kernel
set_option maxRecDepth 100000 in
set_option maxHeartbeats 4000000 in
theorem c_X5_mostAlike {l : Launch} {K : wC} {v1 : Int32} {M : Mem} {Q : Int32 → Mem → Prop} (hw : q_X5_mostAlike v1 M Q) : metI l yX5_mostAlike wsX5_mostAlike rmX5_mostAlike shX 51 K [.ref (kb K + 0), .int v1] M Q := by
  refine met_of (cc := cX5_mostAlike) (maxL := 4) (ret := (some .int)) (own := RX5) (by decide) rfl rfl (Nat.le_of_ble_eq_true rfl) ?_
  intro p e s m below meth c ls C hl hP hS
  have hl : lv_has ls 4 [(0, .ref (kb K + 0)), (1, .int v1)] := hl
  obtain ⟨hx, hb, hml, hown, hts, hr, hlk, hK⟩ := id C
  have hP0 := hP
  obtain ⟨n, hw⟩ := hw
  have ih := b_X5_mostAlike (l := l) (e := e) (below := below) (Q := Q) C n
  delta e_X5_mostAlike at hw
  refine lv_iconst hx hb dX5_mostAlike_0 ic_0 ?_
  refine lv_istore_n (lv' := [(2, .int (0 : Int32)), (0, .ref (kb K + 0)), (1, .int v1)]) hx hb dX5_mostAlike_1 rfl hl (by decide) rfl (fun ls hl => ?_)
  refine lv_iconst hx hb dX5_mostAlike_2 ic_1 ?_
  refine lv_istore_n (lv' := [(3, .int (1 : Int32)), (2, .int (0 : Int32)), (0, .ref (kb K + 0)), (1, .int v1)]) hx hb dX5_mostAlike_3 rfl hl (by decide) rfl (fun ls hl => ?_)
  exact ih.1 _ _ _ _ _ _ _ hw hP hS (lv_sub hl [2, 3, 1, 0] rfl)

theorem kX5_rollEachStep_f51 : Cond.fieldLink RX5 51 (TX5 8).1 (TX5 8).2.1 (TX5 8).2.2.1 ∈ wsX5_rollEachStep := List.mem_of_getElem? (i := 1) rfl
theorem hX5_rollEachStep_X5 : ∀ w ∈ u_ws RX5 TX5 11, w ∈ wsX5_rollEachStep := fun _ h => List.mem_cons_of_mem _ (List.mem_append_right _ (h))
abbrev rmX5_rollEachStep : Room := { frames := 2, cells := 0, slots := 0, locals := 43 }
abbrev t_X5_rollEachStep : Type := (Int32 → Int32 → Int32 → Mem → Prop)
def f_X5_rollEachStep_2 (Q : Mem → Prop) (r : t_X5_rollEachStep) (v1 : Int32) (v2 : Int32) (v3 : Int32) (M : Mem) : Prop := (((9 : Int32) < v3 → Q M) ∧ (¬ (9 : Int32) < v3 → vp_in v3 10 ∧ q_X0_roll v1 v3 v2 M (fun r_3 M_2 => vp_in v3 10 ∧ r v1 v2 (v3 + 1) (mU M_2 30 v3.toNatClampNeg ((M 30 v3.toNatClampNeg) + r_3)))))
def p_X5_rollEachStep (Q : Mem → Prop) : Nat → t_X5_rollEachStep
  | 0 => fun _ _ _ _ => False
  | n + 1 => f_X5_rollEachStep_2 Q (p_X5_rollEachStep Q n)
def e_X5_rollEachStep (v1 : Int32) (v2 : Int32) (Q : Mem → Prop) (r : t_X5_rollEachStep) (M : Mem) : Prop := r v1 v2 (1 : Int32) M
def q_X5_rollEachStep (v1 : Int32) (v2 : Int32) (M : Mem) (Q : Mem → Prop) : Prop := ∃ n : Nat, e_X5_rollEachStep v1 v2 Q (p_X5_rollEachStep Q n) M
set_option maxRecDepth 100000 in
set_option maxHeartbeats 4000000 in
theorem b_X5_rollEachStep {l : Launch} {K : wC} {Q : Mem → Prop} {p : Program} {e : Env} {s : State} {m : MethodId} {args : Array Value} {below : List Frame} {meth : Method} {c : Code} (C : cx 51 K p s m args meth c cX5_rollEachStep 4 wsX5_rollEachStep RX5 none) : ∀ n : Nat, (∀ (v1 : Int32) (v2 : Int32) (v3 : Int32) (M : Mem) (H : Heap) (locs : List Loc) (ls : Array Slot), (p_X5_rollEachStep Q n) v1 v2 v3 M → wP shX 51 K M H → va_S (wA 51 K) s.heap H locs → lv_has ls 4 [(0, .ref (kb K + 0)), (1, .int v1), (2, .int v2), (3, .int v3)] → W p l e rmX5_rollEachStep s m args below meth c H locs 0 0 (MQ below (va_Qv Q (wE shX 51 K) (wA 51 K)) args s 0 0 (wA 51 K)) (F0 m 2 ls [])) := by
  obtain ⟨hx, hb, hml, hown, hts, hr, hlk, hK⟩ := id C
  intro n
  induction n with
  | zero => exact fun _ _ _ _ _ _ _ hw _ _ _ => False.elim hw
  | succ n ih =>
    intro v1 v2 v3 M H locs ls hw hP hS hl
    have hw : f_X5_rollEachStep_2 Q (p_X5_rollEachStep Q n) v1 v2 v3 M := hw
    delta f_X5_rollEachStep_2 at hw
    refine lv_iload_n hx hb dX5_rollEachStep_2 rfl (lv_at hl 3 rfl) ?_
    refine lv_bipush hx hb dX5_rollEachStep_3 bp_9 ?_
    refine lv_icmp_gt (tgt := 29) hx hb dX5_rollEachStep_5 (by decide) (fun hc => ?_) (fun hc => ?_)
    · have hw := hw.1 hc
      exact r_v C hP hS hw dX5_rollEachStep_29
    · have hw := hw.2 hc
      refine lv_aload_n hx hb dX5_rollEachStep_8 rfl (lv_at hl 0 rfl) ?_
      refine g_f C hP (by decide) (sX_0 K _) rfl hX5_rollEachStep_X5 8 (by decide) kX5_rollEachStep_f51 rfl dX5_rollEachStep_9 ?_
      refine lv_iload_n hx hb dX5_rollEachStep_12 rfl (lv_at hl 3 rfl) ?_
      refine lv_dup2_11 hx hb dX5_rollEachStep_13 rfl rfl ?_
      have hi_1 := hw.1
      have hw := hw.2
      refine a_il C hP (by decide) (sX_30 K _) hi_1 rfl dX5_rollEachStep_14 ?_
      refine lv_iload_n hx hb dX5_rollEachStep_15 rfl (lv_at hl 1 rfl) ?_
      refine lv_iload_n hx hb dX5_rollEachStep_16 rfl (lv_at hl 3 rfl) ?_
      refine lv_iload_n hx hb dX5_rollEachStep_17 rfl (lv_at hl 2 rfl) ?_
      refine c_i (run_s (As := [.int v1, .int v3, .int v2]) (rest := [.int (M 30 v3.toNatClampNeg), .int v3, .ref (kb K + 30)]) C hP hS (c_X0_roll hw) gX5_rollEachStep_X0_roll rfl dsX0_roll rfl ⟨rfl, rfl⟩ ⟨Nat.le_of_ble_eq_true rfl, Nat.le_of_ble_eq_true rfl⟩ hl.1 rfl (Nat.le_of_ble_eq_true rfl) dX5_rollEachStep_18 ⟨Nat.le_of_ble_eq_true rfl, Nat.le_of_ble_eq_true rfl⟩) hS (fun r_3 M_2 H locs hw hP hS => ?_)
      refine lv_iadd hx hb dX5_rollEachStep_21 ?_
      have hi_4 := hw.1
      have hw := hw.2
      refine a_is C hP hS (by decide) (sX_30 K) hi_4 rfl dX5_rollEachStep_22 (fun H locs hP hS => ?_)
      refine lv_iinc (v := (v3 + 1)) (lv' := [(3, .int (v3 + 1)), (0, .ref (kb K + 0)), (1, .int v1), (2, .int v2)]) hx hb dX5_rollEachStep_23 hl (k := 3) rfl (by rw [ic_1]) (by decide) rfl (fun ls hl => ?_)
      refine lv_goto (tgt := 2) hx hb dX5_rollEachStep_26 (by decide) ?_
      exact ih _ _ _ _ _ _ _ hw hP hS (lv_sub hl [1, 2, 3, 0] rfl)
theorem dsX5_rollEachStep : yX5_rollEachStep.cls = RX5 ∧ yX5_rollEachStep.cls ≠ "java/lang/invoke/MethodHandle" ∧ yX5_rollEachStep.cls ≠ "java/lang/invoke/VarHandle" ∧ (parseMethodDescriptor yX5_rollEachStep.desc).map (fun d => d.parameters.length) = some 2 := by decide +kernel
set_option maxRecDepth 100000 in
set_option maxHeartbeats 4000000 in
theorem c_X5_rollEachStep {l : Launch} {K : wC} {v1 : Int32} {v2 : Int32} {M : Mem} {Q : Mem → Prop} (hw : q_X5_rollEachStep v1 v2 M Q) : metV l yX5_rollEachStep wsX5_rollEachStep rmX5_rollEachStep shX 51 K [.ref (kb K + 0), .int v1, .int v2] M Q := by
  refine met_of (cc := cX5_rollEachStep) (maxL := 4) (ret := none) (own := RX5) (by decide) rfl rfl (Nat.le_of_ble_eq_true rfl) ?_
  intro p e s m below meth c ls C hl hP hS
  have hl : lv_has ls 4 [(0, .ref (kb K + 0)), (1, .int v1), (2, .int v2)] := hl
  obtain ⟨hx, hb, hml, hown, hts, hr, hlk, hK⟩ := id C
  have hP0 := hP
  obtain ⟨n, hw⟩ := hw
  have ih := b_X5_rollEachStep (l := l) (e := e) (below := below) (Q := Q) C n
  delta e_X5_rollEachStep at hw
  refine lv_iconst hx hb dX5_rollEachStep_0 ic_1 ?_
  refine lv_istore_n (lv' := [(3, .int (1 : Int32)), (0, .ref (kb K + 0)), (1, .int v1), (2, .int v2)]) hx hb dX5_rollEachStep_1 rfl hl (by decide) rfl (fun ls hl => ?_)
  exact ih _ _ _ _ _ _ _ hw hP hS (lv_sub hl [1, 2, 3, 0] rfl)

theorem kX5_ask_f51 : Cond.fieldLink RX5 51 (TX5 8).1 (TX5 8).2.1 (TX5 8).2.2.1 ∈ wsX5_ask := List.mem_of_getElem? (i := 1) rfl
theorem hX5_ask_X5 : ∀ w ∈ u_ws RX5 TX5 11, w ∈ wsX5_ask := fun _ h => List.mem_cons_of_mem _ (List.mem_append_left _ (List.mem_append_left _ (List.mem_append_right _ (h))))
theorem kX5_ask_f10 : Cond.fieldLink RX5 10 (TX5 0).1 (TX5 0).2.1 (TX5 0).2.2.1 ∈ wsX5_ask := List.mem_of_getElem? (i := 2) rfl
theorem kX5_ask_f146 : Cond.fieldLink RX5 146 (TX0 5).1 (TX0 5).2.1 (TX0 5).2.2.1 ∈ wsX5_ask := List.mem_of_getElem? (i := 3) rfl
theorem hX5_ask_X0 : ∀ w ∈ u_ws RX0 TX0 10, w ∈ wsX5_ask := fun _ h => List.mem_cons_of_mem _ (List.mem_append_left _ (List.mem_append_right _ (h)))
theorem kX5_ask_f139 : Cond.fieldLink RX5 139 (TX0 3).1 (TX0 3).2.1 (TX0 3).2.2.1 ∈ wsX5_ask := List.mem_of_getElem? (i := 4) rfl
abbrev rmX5_ask : Room := { frames := 6, cells := 0, slots := 0, locals := 134 }
abbrev t_X5_ask : Type := (Int32 → Int32 → Int32 → Int32 → Int32 → Int32 → Mem → Prop) × (Int32 → Int32 → Int32 → Int32 → Int32 → Int32 → Mem → Prop) × (Int32 → Int32 → Int32 → Int32 → Int32 → Int32 → Mem → Prop) × (Int32 → Mem → Prop)
def f_X5_ask_36 (Q : Int32 → Mem → Prop) (r : t_X5_ask) (v1 : Int32) (v2 : Int32) (v3 : Int32) (v4 : Int32) (v5 : Int32) (v6 : Int32) (M : Mem) : Prop := (((9 : Int32) < v6 → r.2.1 v1 v2 v3 v4 v5 (0 : Int32) M) ∧ (¬ (9 : Int32) < v6 → vp_in v1 4 ∧ vp_in v6 10 ∧ r.1 v1 v2 v3 v4 v5 (v6 + 1) (mU M 30 v6.toNatClampNeg (M 6 v1.toNatClampNeg))))
def f_X5_ask_68 (Q : Int32 → Mem → Prop) (r : t_X5_ask) (v1 : Int32) (v2 : Int32) (v3 : Int32) (v4 : Int32) (v5 : Int32) (v6 : Int32) (M : Mem) : Prop := (((40 : Int32) < v6 → ((v5 = (-4 : Int32) → r.2.2.2 v5 M) ∧ (¬ v5 = (-4 : Int32) → ((¬ v2 = 0 → Q v4 M) ∧ (v2 = 0 → r.2.2.2 v5 M))))) ∧ (¬ (40 : Int32) < v6 → q_X5_mostAlike v3 M (fun r_12 M_11 => ((v4 ≤ r_12 → r.2.2.1 v1 v2 v3 v4 v5 v6 M_11) ∧ (¬ v4 ≤ r_12 → r.2.2.1 v1 v2 v3 r_12 v6 v6 M_11)))))
def f_X5_ask_97 (Q : Int32 → Mem → Prop) (r : t_X5_ask) (v1 : Int32) (v2 : Int32) (v3 : Int32) (v4 : Int32) (v5 : Int32) (v6 : Int32) (M : Mem) : Prop := vp_in v1 4 ∧ q_X0_sweepAhead 1 v6 M (fun r_15 M_14 => q_X5_rollEachStep (M 4 v1.toNatClampNeg) r_15 M_14 (fun M_16 => r.2.1 v1 v2 v3 v4 v5 (v6 + 1) M_16))
def f_X5_ask_136 (Q : Int32 → Mem → Prop) (r : t_X5_ask) (v5 : Int32) (M : Mem) : Prop := Q v5 M
def p_X5_ask (Q : Int32 → Mem → Prop) : Nat → t_X5_ask
  | 0 => (fun _ _ _ _ _ _ _ => False, fun _ _ _ _ _ _ _ => False, fun _ _ _ _ _ _ _ => False, fun _ _ => False)
  | n + 1 => (f_X5_ask_36 Q (p_X5_ask Q n), f_X5_ask_68 Q (p_X5_ask Q n), f_X5_ask_97 Q (p_X5_ask Q n), f_X5_ask_136 Q (p_X5_ask Q n))
def e_X5_ask (v1 : Int32) (v2 : Int32) (Q : Int32 → Mem → Prop) (r : t_X5_ask) (M : Mem) : Prop := q_X5_hasWheel v1 M (fun r_2 M_1 => ((r_2 = 0 → Q (-1 : Int32) M_1) ∧ (¬ r_2 = 0 → q_X5_isEither v2 M_1 (fun r_4 M_3 => ((¬ r_4 = 0 → q_X5_stepsAsSeen v1 M_3 (fun r_6 M_5 => q_J6_bitCount_0f7a4 r_6 M_5 (fun r_8 M_7 => r.1 v1 v2 r_6 r_8 (-4 : Int32) (1 : Int32) M_7))) ∧ (r_4 = 0 → Q (-1 : Int32) M_3))))))
def q_X5_ask (v1 : Int32) (v2 : Int32) (M : Mem) (Q : Int32 → Mem → Prop) : Prop := ∃ n : Nat, e_X5_ask v1 v2 Q (p_X5_ask Q n) M
set_option maxRecDepth 100000 in
set_option maxHeartbeats 4000000 in
theorem b_X5_ask {l : Launch} {K : wC} {Q : Int32 → Mem → Prop} {p : Program} {e : Env} {s : State} {m : MethodId} {args : Array Value} {below : List Frame} {meth : Method} {c : Code} (C : cx 51 K p s m args meth c cX5_ask 8 wsX5_ask RX5 (some .int)) : ∀ n : Nat, (∀ (v1 : Int32) (v2 : Int32) (v3 : Int32) (v4 : Int32) (v5 : Int32) (v6 : Int32) (M : Mem) (H : Heap) (locs : List Loc) (ls : Array Slot), (p_X5_ask Q n).1 v1 v2 v3 v4 v5 v6 M → wP shX 51 K M H → va_S (wA 51 K) s.heap H locs → lv_has ls 8 [(0, .ref (kb K + 0)), (1, .int v1), (2, .int v2), (3, .int v3), (4, .int v4), (5, .int v5), (6, .int v6)] → W p l e rmX5_ask s m args below meth c H locs 0 0 (MQ below (va_Qi Q (wE shX 51 K) (wA 51 K)) args s 0 0 (wA 51 K)) (F0 m 36 ls [])) ∧ (∀ (v1 : Int32) (v2 : Int32) (v3 : Int32) (v4 : Int32) (v5 : Int32) (v6 : Int32) (M : Mem) (H : Heap) (locs : List Loc) (ls : Array Slot), (p_X5_ask Q n).2.1 v1 v2 v3 v4 v5 v6 M → wP shX 51 K M H → va_S (wA 51 K) s.heap H locs → lv_has ls 8 [(0, .ref (kb K + 0)), (1, .int v1), (2, .int v2), (3, .int v3), (4, .int v4), (5, .int v5), (6, .int v6)] → W p l e rmX5_ask s m args below meth c H locs 0 0 (MQ below (va_Qi Q (wE shX 51 K) (wA 51 K)) args s 0 0 (wA 51 K)) (F0 m 68 ls [])) ∧ (∀ (v1 : Int32) (v2 : Int32) (v3 : Int32) (v4 : Int32) (v5 : Int32) (v6 : Int32) (M : Mem) (H : Heap) (locs : List Loc) (ls : Array Slot), (p_X5_ask Q n).2.2.1 v1 v2 v3 v4 v5 v6 M → wP shX 51 K M H → va_S (wA 51 K) s.heap H locs → lv_has ls 8 [(0, .ref (kb K + 0)), (1, .int v1), (2, .int v2), (3, .int v3), (4, .int v4), (5, .int v5), (6, .int v6)] → W p l e rmX5_ask s m args below meth c H locs 0 0 (MQ below (va_Qi Q (wE shX 51 K) (wA 51 K)) args s 0 0 (wA 51 K)) (F0 m 97 ls [])) ∧ (∀ (v5 : Int32) (M : Mem) (H : Heap) (locs : List Loc) (ls : Array Slot), (p_X5_ask Q n).2.2.2 v5 M → wP shX 51 K M H → va_S (wA 51 K) s.heap H locs → lv_has ls 8 [(5, .int v5)] → W p l e rmX5_ask s m args below meth c H locs 0 0 (MQ below (va_Qi Q (wE shX 51 K) (wA 51 K)) args s 0 0 (wA 51 K)) (F0 m 136 ls [])) := by
  obtain ⟨hx, hb, hml, hown, hts, hr, hlk, hK⟩ := id C
  intro n
  induction n with
  | zero => exact ⟨fun _ _ _ _ _ _ _ _ _ _ hw _ _ _ => False.elim hw, fun _ _ _ _ _ _ _ _ _ _ hw _ _ _ => False.elim hw, fun _ _ _ _ _ _ _ _ _ _ hw _ _ _ => False.elim hw, fun _ _ _ _ _ hw _ _ _ => False.elim hw⟩
  | succ n ih =>
    refine ⟨?_, ?_, ?_, ?_⟩
    · intro v1 v2 v3 v4 v5 v6 M H locs ls hw hP hS hl
      have hw : f_X5_ask_36 Q (p_X5_ask Q n) v1 v2 v3 v4 v5 v6 M := hw
      delta f_X5_ask_36 at hw
      refine lv_iload hx hb dX5_ask_36 (lv_at hl 6 rfl) ?_
      refine lv_bipush hx hb dX5_ask_38 bp_9 ?_
      refine lv_icmp_gt (tgt := 65) hx hb dX5_ask_40 (by decide) (fun hc => ?_) (fun hc => ?_)
      · have hw := hw.1 hc
        refine lv_iconst hx hb dX5_ask_65 ic_0 ?_
        refine lv_istore (lv' := [(6, .int (0 : Int32)), (0, .ref (kb K + 0)), (1, .int v1), (2, .int v2), (3, .int v3), (4, .int v4), (5, .int v5)]) hx hb dX5_ask_66 hl (by decide) rfl (fun ls hl => ?_)
        exact ih.2.1 _ _ _ _ _ _ _ _ _ _ hw hP hS (lv_sub hl [1, 2, 3, 4, 5, 6, 0] rfl)
      · have hw := hw.2 hc
        refine lv_aload_n hx hb dX5_ask_43 rfl (lv_at hl 0 rfl) ?_
        refine g_f C hP (by decide) (sX_0 K _) rfl hX5_ask_X5 8 (by decide) kX5_ask_f51 rfl dX5_ask_44 ?_
        refine lv_iload hx hb dX5_ask_47 (lv_at hl 6 rfl) ?_
        refine lv_aload_n hx hb dX5_ask_49 rfl (lv_at hl 0 rfl) ?_
        refine g_f C hP (by decide) (sX_0 K _) rfl hX5_ask_X5 0 (by decide) kX5_ask_f10 rfl dX5_ask_50 ?_
        refine g_f C hP (by decide) (sX_1 K _) rfl hX5_ask_X0 5 (by decide) kX5_ask_f146 rfl dX5_ask_53 ?_
        refine lv_iload_n hx hb dX5_ask_56 rfl (lv_at hl 1 rfl) ?_
        have hi_9 := hw.1
        have hw := hw.2
        refine a_il C hP (by decide) (sX_6 K _) hi_9 rfl dX5_ask_57 ?_
        have hi_10 := hw.1
        have hw := hw.2
        refine a_is C hP hS (by decide) (sX_30 K) hi_10 rfl dX5_ask_58 (fun H locs hP hS => ?_)
        refine lv_iinc (v := (v6 + 1)) (lv' := [(6, .int (v6 + 1)), (0, .ref (kb K + 0)), (1, .int v1), (2, .int v2), (3, .int v3), (4, .int v4), (5, .int v5)]) hx hb dX5_ask_59 hl (k := 6) rfl (by rw [ic_1]) (by decide) rfl (fun ls hl => ?_)
        refine lv_goto (tgt := 36) hx hb dX5_ask_62 (by decide) ?_
        exact ih.1 _ _ _ _ _ _ _ _ _ _ hw hP hS (lv_sub hl [1, 2, 3, 4, 5, 6, 0] rfl)
    · intro v1 v2 v3 v4 v5 v6 M H locs ls hw hP hS hl
      have hw : f_X5_ask_68 Q (p_X5_ask Q n) v1 v2 v3 v4 v5 v6 M := hw
      delta f_X5_ask_68 at hw
      refine lv_iload hx hb dX5_ask_68 (lv_at hl 6 rfl) ?_
      refine lv_bipush hx hb dX5_ask_70 bp_40 ?_
      refine lv_icmp_gt (tgt := 125) hx hb dX5_ask_72 (by decide) (fun hc => ?_) (fun hc => ?_)
      · have hw := hw.1 hc
        refine lv_iload hx hb dX5_ask_125 (lv_at hl 5 rfl) ?_
        refine lv_bipush hx hb dX5_ask_127 bp_m4 ?_
        refine lv_icmp_eq (tgt := 136) hx hb dX5_ask_129 (by decide) (fun hc => ?_) (fun hc => ?_)
        · have hw := hw.1 hc
          exact ih.2.2.2 _ _ _ _ _ hw hP hS (lv_sub hl [5] rfl)
        · have hw := hw.2 hc
          refine lv_iload_n hx hb dX5_ask_132 rfl (lv_at hl 2 rfl) ?_
          refine lv_if_ne (tgt := 141) hx hb dX5_ask_133 (by decide) (fun hc => ?_) (fun hc => ?_)
          · have hw := hw.1 hc
            refine lv_iload hx hb dX5_ask_141 (lv_at hl 4 rfl) ?_
            exact r_i C hP hS hw dX5_ask_143
          · have hw := hw.2 hc
            exact ih.2.2.2 _ _ _ _ _ hw hP hS (lv_sub hl [5] rfl)
      · have hw := hw.2 hc
        refine lv_aload_n hx hb dX5_ask_75 rfl (lv_at hl 0 rfl) ?_
        refine lv_iload_n hx hb dX5_ask_76 rfl (lv_at hl 3 rfl) ?_
        refine c_i (run_v (As := [.int v3]) (rest := []) C hP hS (c_X5_mostAlike hw) gX5_ask_X5_mostAlike rfl dsX5_mostAlike rfl ⟨rfl, rfl⟩ ⟨Nat.le_of_ble_eq_true rfl, Nat.le_of_ble_eq_true rfl⟩ (by decide) (sX_0 K _) rfl hl.1 rfl (Nat.le_of_ble_eq_true rfl) dX5_ask_77 ⟨Nat.le_of_ble_eq_true rfl, Nat.le_of_ble_eq_true rfl⟩) hS (fun r_12 M_11 H locs hw hP hS => ?_)
        refine lv_istore (lv' := [(7, .int r_12), (0, .ref (kb K + 0)), (1, .int v1), (2, .int v2), (3, .int v3), (4, .int v4), (5, .int v5), (6, .int v6)]) hx hb dX5_ask_80 hl (by decide) rfl (fun ls hl => ?_)
        refine lv_iload hx hb dX5_ask_82 (lv_at hl 0 rfl) ?_
        refine lv_iload hx hb dX5_ask_84 (lv_at hl 5 rfl) ?_
        refine lv_icmp_ge (tgt := 97) hx hb dX5_ask_86 (by decide) (fun hc => ?_) (fun hc => ?_)
        · have hw := hw.1 hc
          exact ih.2.2.1 _ _ _ _ _ _ _ _ _ _ hw hP hS (lv_sub hl [1, 2, 3, 4, 5, 6, 7] rfl)
        · have hw := hw.2 hc
          refine lv_iload hx hb dX5_ask_89 (lv_at hl 0 rfl) ?_
          refine lv_istore (lv' := [(4, .int r_12), (7, .int r_12), (0, .ref (kb K + 0)), (1, .int v1), (2, .int v2), (3, .int v3), (5, .int v5), (6, .int v6)]) hx hb dX5_ask_91 hl (by decide) rfl (fun ls hl => ?_)
          refine lv_iload hx hb dX5_ask_93 (lv_at hl 7 rfl) ?_
          refine lv_istore (lv' := [(5, .int v6), (4, .int r_12), (7, .int r_12), (0, .ref (kb K + 0)), (1, .int v1), (2, .int v2), (3, .int v3), (6, .int v6)]) hx hb dX5_ask_95 hl (by decide) rfl (fun ls hl => ?_)
          exact ih.2.2.1 _ _ _ _ _ _ _ _ _ _ hw hP hS (lv_sub hl [3, 4, 5, 6, 1, 0, 7] rfl)
    · intro v1 v2 v3 v4 v5 v6 M H locs ls hw hP hS hl
      have hw : f_X5_ask_97 Q (p_X5_ask Q n) v1 v2 v3 v4 v5 v6 M := hw
      delta f_X5_ask_97 at hw
      refine lv_aload_n hx hb dX5_ask_97 rfl (lv_at hl 0 rfl) ?_
      refine lv_aload_n hx hb dX5_ask_98 rfl (lv_at hl 0 rfl) ?_
      refine g_f C hP (by decide) (sX_0 K _) rfl hX5_ask_X5 0 (by decide) kX5_ask_f10 rfl dX5_ask_99 ?_
      refine g_f C hP (by decide) (sX_1 K _) rfl hX5_ask_X0 3 (by decide) kX5_ask_f139 rfl dX5_ask_102 ?_
      refine lv_iload_n hx hb dX5_ask_105 rfl (lv_at hl 1 rfl) ?_
      have hi_13 := hw.1
      have hw := hw.2
      refine a_il C hP (by decide) (sX_4 K _) hi_13 rfl dX5_ask_106 ?_
      refine lv_aload_n hx hb dX5_ask_107 rfl (lv_at hl 0 rfl) ?_
      refine g_f C hP (by decide) (sX_0 K _) rfl hX5_ask_X5 0 (by decide) kX5_ask_f10 rfl dX5_ask_108 ?_
      refine lv_iload hx hb dX5_ask_111 (lv_at hl 6 rfl) ?_
      refine c_i (run_v (As := [.int v6]) (rest := [.int (M 4 v1.toNatClampNeg), .ref (kb K + 0)]) C hP hS (c_X0_sweepAhead lay_1 hw) gX5_ask_X0_sweepAhead rfl dsX0_sweepAhead rfl ⟨rfl, rfl⟩ ⟨Nat.le_of_ble_eq_true rfl, Nat.le_of_ble_eq_true rfl⟩ (by decide) (sX_1 K _) rfl hl.1 rfl (Nat.le_of_ble_eq_true rfl) dX5_ask_113 ⟨Nat.le_of_ble_eq_true rfl, Nat.le_of_ble_eq_true rfl⟩) hS (fun r_15 M_14 H locs hw hP hS => ?_)
      refine c_v (run_v (As := [.int (M 4 v1.toNatClampNeg), .int r_15]) (rest := []) C hP hS (c_X5_rollEachStep hw) gX5_ask_X5_rollEachStep rfl dsX5_rollEachStep rfl ⟨rfl, rfl⟩ ⟨Nat.le_of_ble_eq_true rfl, Nat.le_of_ble_eq_true rfl⟩ (by decide) (sX_0 K _) rfl hl.1 rfl (Nat.le_of_ble_eq_true rfl) dX5_ask_116 ⟨Nat.le_of_ble_eq_true rfl, Nat.le_of_ble_eq_true rfl⟩) hS (fun M_16 H locs hw hP hS => ?_)
      refine lv_iinc (v := (v6 + 1)) (lv' := [(6, .int (v6 + 1)), (0, .ref (kb K + 0)), (1, .int v1), (2, .int v2), (3, .int v3), (4, .int v4), (5, .int v5)]) hx hb dX5_ask_119 hl (k := 6) rfl (by rw [ic_1]) (by decide) rfl (fun ls hl => ?_)
      refine lv_goto (tgt := 68) hx hb dX5_ask_122 (by decide) ?_
      exact ih.2.1 _ _ _ _ _ _ _ _ _ _ hw hP hS (lv_sub hl [1, 2, 3, 4, 5, 6, 0] rfl)
    · intro v5 M H locs ls hw hP hS hl
      have hw : f_X5_ask_136 Q (p_X5_ask Q n) v5 M := hw
      delta f_X5_ask_136 at hw
      refine lv_iload hx hb dX5_ask_136 (lv_at hl 0 rfl) ?_
      refine lv_goto (tgt := 143) hx hb dX5_ask_138 (by decide) ?_
      exact r_i C hP hS hw dX5_ask_143
theorem dsX5_ask : yX5_ask.cls = RX5 ∧ yX5_ask.cls ≠ "java/lang/invoke/MethodHandle" ∧ yX5_ask.cls ≠ "java/lang/invoke/VarHandle" ∧ (parseMethodDescriptor yX5_ask.desc).map (fun d => d.parameters.length) = some 2 := by decide +kernel
set_option maxRecDepth 100000 in
set_option maxHeartbeats 4000000 in
theorem c_X5_ask {l : Launch} {K : wC} {v1 : Int32} {v2 : Int32} {M : Mem} {Q : Int32 → Mem → Prop} (hw : q_X5_ask v1 v2 M Q) : metI l yX5_ask wsX5_ask rmX5_ask shX 51 K [.ref (kb K + 0), .int v1, .int v2] M Q := by
  refine met_of (cc := cX5_ask) (maxL := 8) (ret := (some .int)) (own := RX5) (by decide) rfl rfl (Nat.le_of_ble_eq_true rfl) ?_
  intro p e s m below meth c ls C hl hP hS
  have hl : lv_has ls 8 [(0, .ref (kb K + 0)), (1, .int v1), (2, .int v2)] := hl
  obtain ⟨hx, hb, hml, hown, hts, hr, hlk, hK⟩ := id C
  have hP0 := hP
  obtain ⟨n, hw⟩ := hw
  have ih := b_X5_ask (l := l) (e := e) (below := below) (Q := Q) C n
  delta e_X5_ask at hw
  refine lv_aload_n hx hb dX5_ask_0 rfl (lv_at hl 0 rfl) ?_
  refine lv_iload_n hx hb dX5_ask_1 rfl (lv_at hl 1 rfl) ?_
  refine c_i (run_v (As := [.int v1]) (rest := []) C hP hS (c_X5_hasWheel hw) gX5_ask_X5_hasWheel rfl dsX5_hasWheel rfl ⟨rfl, rfl⟩ ⟨Nat.le_of_ble_eq_true rfl, Nat.le_of_ble_eq_true rfl⟩ (by decide) (sX_0 K _) rfl hl.1 rfl (Nat.le_of_ble_eq_true rfl) dX5_ask_2 ⟨Nat.le_of_ble_eq_true rfl, Nat.le_of_ble_eq_true rfl⟩) hS (fun r_2 M_1 H locs hw hP hS => ?_)
  refine lv_if_eq (tgt := 15) hx hb dX5_ask_5 (by decide) (fun hc => ?_) (fun hc => ?_)
  · have hw := hw.1 hc
    refine lv_iconst hx hb dX5_ask_15 ic_m1 ?_
    exact r_i C hP hS hw dX5_ask_16
  · have hw := hw.2 hc
    refine lv_iload_n hx hb dX5_ask_8 rfl (lv_at hl 2 rfl) ?_
    refine c_i (run_s (As := [.int v2]) (rest := []) C hP hS (c_X5_isEither hw) gX5_ask_X5_isEither rfl dsX5_isEither rfl ⟨rfl, rfl⟩ ⟨Nat.le_of_ble_eq_true rfl, Nat.le_of_ble_eq_true rfl⟩ hl.1 rfl (Nat.le_of_ble_eq_true rfl) dX5_ask_9 ⟨Nat.le_of_ble_eq_true rfl, Nat.le_of_ble_eq_true rfl⟩) hS (fun r_4 M_3 H locs hw hP hS => ?_)
    refine lv_if_ne (tgt := 17) hx hb dX5_ask_12 (by decide) (fun hc => ?_) (fun hc => ?_)
    · have hw := hw.1 hc
      refine lv_aload_n hx hb dX5_ask_17 rfl (lv_at hl 0 rfl) ?_
      refine lv_iload_n hx hb dX5_ask_18 rfl (lv_at hl 1 rfl) ?_
      refine c_i (run_v (As := [.int v1]) (rest := []) C hP hS (c_X5_stepsAsSeen hw) gX5_ask_X5_stepsAsSeen rfl dsX5_stepsAsSeen rfl ⟨rfl, rfl⟩ ⟨Nat.le_of_ble_eq_true rfl, Nat.le_of_ble_eq_true rfl⟩ (by decide) (sX_0 K _) rfl hl.1 rfl (Nat.le_of_ble_eq_true rfl) dX5_ask_19 ⟨Nat.le_of_ble_eq_true rfl, Nat.le_of_ble_eq_true rfl⟩) hS (fun r_6 M_5 H locs hw hP hS => ?_)
      refine lv_istore_n (lv' := [(3, .int r_6), (0, .ref (kb K + 0)), (1, .int v1), (2, .int v2)]) hx hb dX5_ask_22 rfl hl (by decide) rfl (fun ls hl => ?_)
      refine lv_iload_n hx hb dX5_ask_23 rfl (lv_at hl 0 rfl) ?_
      refine c_i (run_s (As := [.int r_6]) (rest := []) C hP hS (c_J6_bitCount_0f7a4 hw) gX5_ask_J6_bitCount_0f7a4 rfl dsJ6_bitCount_0f7a4 rfl ⟨rfl, rfl⟩ ⟨Nat.le_of_ble_eq_true rfl, Nat.le_of_ble_eq_true rfl⟩ hl.1 rfl (Nat.le_of_ble_eq_true rfl) dX5_ask_24 ⟨Nat.le_of_ble_eq_true rfl, Nat.le_of_ble_eq_true rfl⟩) hS (fun r_8 M_7 H locs hw hP hS => ?_)
      refine lv_istore (lv' := [(4, .int r_8), (3, .int r_6), (0, .ref (kb K + 0)), (1, .int v1), (2, .int v2)]) hx hb dX5_ask_27 hl (by decide) rfl (fun ls hl => ?_)
      refine lv_bipush hx hb dX5_ask_29 bp_m4 ?_
      refine lv_istore (lv' := [(5, .int (-4 : Int32)), (4, .int r_8), (3, .int r_6), (0, .ref (kb K + 0)), (1, .int v1), (2, .int v2)]) hx hb dX5_ask_31 hl (by decide) rfl (fun ls hl => ?_)
      refine lv_iconst hx hb dX5_ask_33 ic_1 ?_
      refine lv_istore (lv' := [(6, .int (1 : Int32)), (5, .int (-4 : Int32)), (4, .int r_8), (3, .int r_6), (0, .ref (kb K + 0)), (1, .int v1), (2, .int v2)]) hx hb dX5_ask_34 hl (by decide) rfl (fun ls hl => ?_)
      exact ih.1 _ _ _ _ _ _ _ _ _ _ hw hP hS (lv_sub hl [4, 5, 6, 3, 2, 1, 0] rfl)
    · have hw := hw.2 hc
      refine lv_iconst hx hb dX5_ask_15 ic_m1 ?_
      exact r_i C hP hS hw dX5_ask_16

theorem kX5_drift_f10 : Cond.fieldLink RX5 10 (TX5 0).1 (TX5 0).2.1 (TX5 0).2.2.1 ∈ wsX5_drift := List.mem_of_getElem? (i := 1) rfl
theorem hX5_drift_X5 : ∀ w ∈ u_ws RX5 TX5 11, w ∈ wsX5_drift := fun _ h => List.mem_cons_of_mem _ (List.mem_append_left _ (List.mem_append_right _ (h)))
theorem kX5_drift_f99 : Cond.fieldLink RX5 99 (TX0 2).1 (TX0 2).2.1 (TX0 2).2.2.1 ∈ wsX5_drift := List.mem_of_getElem? (i := 2) rfl
theorem hX5_drift_X0 : ∀ w ∈ u_ws RX0 TX0 10, w ∈ wsX5_drift := fun _ h => List.mem_cons_of_mem _ (List.mem_append_right _ (h))
theorem kX5_drift_f102 : Cond.fieldLink RX5 102 (TX0 6).1 (TX0 6).2.1 (TX0 6).2.2.1 ∈ wsX5_drift := List.mem_of_getElem? (i := 3) rfl
theorem kX5_drift_f16 : Cond.fieldLink RX5 16 (TX5 1).1 (TX5 1).2.1 (TX5 1).2.2.1 ∈ wsX5_drift := List.mem_of_getElem? (i := 4) rfl
theorem kX5_drift_c145 : Cond.constant RX5 145 (20000000) ∈ wsX5_drift := List.mem_of_getElem? (i := 6) rfl
theorem kX5_drift_f146 : Cond.fieldLink RX5 146 (TX0 5).1 (TX0 5).2.1 (TX0 5).2.2.1 ∈ wsX5_drift := List.mem_of_getElem? (i := 7) rfl
theorem kX5_drift_c273 : Cond.constant RX5 273 (1103515245) ∈ wsX5_drift := List.mem_of_getElem? (i := 5) rfl
abbrev rmX5_drift : Room := { frames := 5, cells := 0, slots := 0, locals := 110 }
abbrev t_X5_drift : Type := (Int32 → Int32 → Int32 → Int32 → Int32 → Int32 → Mem → Prop)
def f_X5_drift_67 (Q : Int32 → Mem → Prop) (r : t_X5_drift) (v2 : Int32) (v3 : Int32) (v4 : Int32) (v5 : Int32) (v6 : Int32) (v7 : Int32) (M : Mem) : Prop := ((v2 ≤ v7 → ((¬ v3 = 0 → Q v6 M) ∧ (v3 = 0 → Q ((20000000 : Int32) + (M 12 0)) M))) ∧ (¬ v2 ≤ v7 → ∀ x_6 : Int32, x_6 = ((v5 * (1103515245 : Int32)) + (12345 : Int32)) → ∀ x_7 : Int32, x_7 = ((iushr x_6 (16 : Int32)) &&& (32767 : Int32)) → (¬ v4 = 0) ∧ q_X0_sweepOf 7 (x_7 - x_7 / v4 * v4) M (fun r_10 M_9 => q_X0_rollAll 7 r_10 M_9 (fun r_12 M_11 => r v2 v3 v4 x_6 (v6 + r_12) (v7 + 1) M_11))))
def p_X5_drift (Q : Int32 → Mem → Prop) : Nat → t_X5_drift
  | 0 => fun _ _ _ _ _ _ _ => False
  | n + 1 => f_X5_drift_67 Q (p_X5_drift Q n)
def e_X5_drift (v1 : Int32) (v2 : Int32) (v3 : Int32) (Q : Int32 → Mem → Prop) (r : t_X5_drift) (M : Mem) : Prop := q_X5_within v2 (1 : Int32) (200 : Int32) M (fun r_2 M_1 => ((r_2 = 0 → Q (-1 : Int32) M_1) ∧ (¬ r_2 = 0 → q_X5_isEither v3 M_1 (fun r_4 M_3 => ((¬ r_4 = 0 → (((M_3 1 6) = 0 → Q (-2 : Int32) M_3) ∧ (¬ (M_3 1 6) = 0 → ((¬ (M_3 1 2) = 0 → q_X0_copyFrom 7 1 M_3 (fun M_5 => r v2 v3 (M_3 1 2) v1 (0 : Int32) (0 : Int32) M_5)) ∧ ((M_3 1 2) = 0 → Q (-2 : Int32) M_3))))) ∧ (r_4 = 0 → Q (-1 : Int32) M_3))))))
def q_X5_drift (v1 : Int32) (v2 : Int32) (v3 : Int32) (M : Mem) (Q : Int32 → Mem → Prop) : Prop := ∃ n : Nat, e_X5_drift v1 v2 v3 Q (p_X5_drift Q n) M
set_option maxRecDepth 100000 in
set_option maxHeartbeats 4000000 in
theorem b_X5_drift {l : Launch} {K : wC} {Q : Int32 → Mem → Prop} {p : Program} {e : Env} {s : State} {m : MethodId} {args : Array Value} {below : List Frame} {meth : Method} {c : Code} (C : cx 51 K p s m args meth c cX5_drift 9 wsX5_drift RX5 (some .int)) : ∀ n : Nat, (∀ (v2 : Int32) (v3 : Int32) (v4 : Int32) (v5 : Int32) (v6 : Int32) (v7 : Int32) (M : Mem) (H : Heap) (locs : List Loc) (ls : Array Slot), (p_X5_drift Q n) v2 v3 v4 v5 v6 v7 M → wP shX 51 K M H → va_S (wA 51 K) s.heap H locs → lv_has ls 9 [(0, .ref (kb K + 0)), (2, .int v2), (3, .int v3), (4, .int v4), (5, .int v5), (6, .int v6), (7, .int v7)] → W p l e rmX5_drift s m args below meth c H locs 0 0 (MQ below (va_Qi Q (wE shX 51 K) (wA 51 K)) args s 0 0 (wA 51 K)) (F0 m 67 ls [])) := by
  obtain ⟨hx, hb, hml, hown, hts, hr, hlk, hK⟩ := id C
  intro n
  induction n with
  | zero => exact fun _ _ _ _ _ _ _ _ _ _ hw _ _ _ => False.elim hw
  | succ n ih =>
    intro v2 v3 v4 v5 v6 v7 M H locs ls hw hP hS hl
    have hw : f_X5_drift_67 Q (p_X5_drift Q n) v2 v3 v4 v5 v6 v7 M := hw
    delta f_X5_drift_67 at hw
    refine lv_iload hx hb dX5_drift_67 (lv_at hl 6 rfl) ?_
    refine lv_iload_n hx hb dX5_drift_69 rfl (lv_at hl 1 rfl) ?_
    refine lv_icmp_ge (tgt := 126) hx hb dX5_drift_70 (by decide) (fun hc => ?_) (fun hc => ?_)
    · have hw := hw.1 hc
      refine lv_iload_n hx hb dX5_drift_126 rfl (lv_at hl 2 rfl) ?_
      refine lv_if_ne (tgt := 145) hx hb dX5_drift_127 (by decide) (fun hc => ?_) (fun hc => ?_)
      · have hw := hw.1 hc
        refine lv_iload hx hb dX5_drift_145 (lv_at hl 5 rfl) ?_
        exact r_i C hP hS hw dX5_drift_147
      · have hw := hw.2 hc
        refine lv_ldc hx hb hown (hts _ kX5_drift_c145) dX5_drift_130 ?_
        refine lv_aload_n hx hb dX5_drift_132 rfl (lv_at hl 0 rfl) ?_
        refine g_f C hP (by decide) (sX_0 K _) rfl hX5_drift_X5 1 (by decide) kX5_drift_f16 rfl dX5_drift_133 ?_
        refine g_f C hP (by decide) (sX_7 K _) rfl hX5_drift_X0 5 (by decide) kX5_drift_f146 rfl dX5_drift_136 ?_
        refine lv_iconst hx hb dX5_drift_139 ic_0 ?_
        refine a_il C hP (by decide) (sX_12 K _) vi_0_4 ti_0 dX5_drift_140 ?_
        refine lv_iadd hx hb dX5_drift_141 ?_
        refine lv_goto (tgt := 147) hx hb dX5_drift_142 (by decide) ?_
        exact r_i C hP hS hw dX5_drift_147
    · have hw := hw.2 hc
      refine lv_iload hx hb dX5_drift_73 (lv_at hl 4 rfl) ?_
      refine lv_ldcw hx hb hown (hts _ kX5_drift_c273) dX5_drift_75 ?_
      refine lv_imul hx hb dX5_drift_78 ?_
      refine lv_sipush hx hb dX5_drift_79 sp_12345 ?_
      refine lv_iadd hx hb dX5_drift_82 ?_
      refine lv_topi (fun x_6 ex_6 => ?_)
      have hw := hw x_6 ex_6
      refine lv_istore (lv' := [(5, .int x_6), (0, .ref (kb K + 0)), (2, .int v2), (3, .int v3), (4, .int v4), (6, .int v6), (7, .int v7)]) hx hb dX5_drift_83 hl (by decide) rfl (fun ls hl => ?_)
      refine lv_iload hx hb dX5_drift_85 (lv_at hl 0 rfl) ?_
      refine lv_bipush hx hb dX5_drift_87 bp_16 ?_
      refine lv_iushr (v := iushr x_6 (16 : Int32)) hx hb dX5_drift_89 rfl ?_
      refine lv_sipush hx hb dX5_drift_90 sp_32767 ?_
      refine lv_iand hx hb dX5_drift_93 ?_
      refine lv_topi (fun x_7 ex_7 => ?_)
      have hw := hw x_7 ex_7
      refine lv_istore (lv' := [(8, .int x_7), (5, .int x_6), (0, .ref (kb K + 0)), (2, .int v2), (3, .int v3), (4, .int v4), (6, .int v6), (7, .int v7)]) hx hb dX5_drift_94 hl (by decide) rfl (fun ls hl => ?_)
      refine lv_iload hx hb dX5_drift_96 (lv_at hl 6 rfl) ?_
      refine lv_aload_n hx hb dX5_drift_98 rfl (lv_at hl 2 rfl) ?_
      refine g_f C hP (by decide) (sX_0 K _) rfl hX5_drift_X5 1 (by decide) kX5_drift_f16 rfl dX5_drift_99 ?_
      refine lv_aload_n hx hb dX5_drift_102 rfl (lv_at hl 2 rfl) ?_
      refine g_f C hP (by decide) (sX_0 K _) rfl hX5_drift_X5 1 (by decide) kX5_drift_f16 rfl dX5_drift_103 ?_
      refine lv_iload hx hb dX5_drift_106 (lv_at hl 0 rfl) ?_
      refine lv_iload hx hb dX5_drift_108 (lv_at hl 5 rfl) ?_
      have hz_8 := hw.1
      have hw := hw.2
      refine lv_irem hx hb dX5_drift_110 hz_8 ?_
      refine c_i (run_v (As := [.int (x_7 - x_7 / v4 * v4)]) (rest := [.ref (kb K + 7), .int v6]) C hP hS (c_X0_sweepOf lay_7 hw) gX5_drift_X0_sweepOf rfl dsX0_sweepOf rfl ⟨rfl, rfl⟩ ⟨Nat.le_of_ble_eq_true rfl, Nat.le_of_ble_eq_true rfl⟩ (by decide) (sX_7 K _) rfl hl.1 rfl (Nat.le_of_ble_eq_true rfl) dX5_drift_111 ⟨Nat.le_of_ble_eq_true rfl, Nat.le_of_ble_eq_true rfl⟩) hS (fun r_10 M_9 H locs hw hP hS => ?_)
      refine c_i (run_v (As := [.int r_10]) (rest := [.int v6]) C hP hS (c_X0_rollAll lay_7 hw) gX5_drift_X0_rollAll rfl dsX0_rollAll rfl ⟨rfl, rfl⟩ ⟨Nat.le_of_ble_eq_true rfl, Nat.le_of_ble_eq_true rfl⟩ (by decide) (sX_7 K _) rfl hl.1 rfl (Nat.le_of_ble_eq_true rfl) dX5_drift_114 ⟨Nat.le_of_ble_eq_true rfl, Nat.le_of_ble_eq_true rfl⟩) hS (fun r_12 M_11 H locs hw hP hS => ?_)
      refine lv_iadd hx hb dX5_drift_117 ?_
      refine lv_istore (lv' := [(6, .int (v6 + r_12)), (8, .int x_7), (5, .int x_6), (0, .ref (kb K + 0)), (2, .int v2), (3, .int v3), (4, .int v4), (7, .int v7)]) hx hb dX5_drift_118 hl (by decide) rfl (fun ls hl => ?_)
      refine lv_iinc (v := (v7 + 1)) (lv' := [(7, .int (v7 + 1)), (6, .int (v6 + r_12)), (8, .int x_7), (5, .int x_6), (0, .ref (kb K + 0)), (2, .int v2), (3, .int v3), (4, .int v4)]) hx hb dX5_drift_120 hl (k := 7) rfl (by rw [ic_1]) (by decide) rfl (fun ls hl => ?_)
      refine lv_goto (tgt := 67) hx hb dX5_drift_123 (by decide) ?_
      exact ih _ _ _ _ _ _ _ _ _ _ hw hP hS (lv_sub hl [4, 5, 6, 7, 3, 1, 0] rfl)
theorem dsX5_drift : yX5_drift.cls = RX5 ∧ yX5_drift.cls ≠ "java/lang/invoke/MethodHandle" ∧ yX5_drift.cls ≠ "java/lang/invoke/VarHandle" ∧ (parseMethodDescriptor yX5_drift.desc).map (fun d => d.parameters.length) = some 3 := by decide +kernel
set_option maxRecDepth 100000 in
set_option maxHeartbeats 4000000 in
theorem c_X5_drift {l : Launch} {K : wC} {v1 : Int32} {v2 : Int32} {v3 : Int32} {M : Mem} {Q : Int32 → Mem → Prop} (hw : q_X5_drift v1 v2 v3 M Q) : metI l yX5_drift wsX5_drift rmX5_drift shX 51 K [.ref (kb K + 0), .int v1, .int v2, .int v3] M Q := by
  refine met_of (cc := cX5_drift) (maxL := 9) (ret := (some .int)) (own := RX5) (by decide) rfl rfl (Nat.le_of_ble_eq_true rfl) ?_
  intro p e s m below meth c ls C hl hP hS
  have hl : lv_has ls 9 [(0, .ref (kb K + 0)), (1, .int v1), (2, .int v2), (3, .int v3)] := hl
  obtain ⟨hx, hb, hml, hown, hts, hr, hlk, hK⟩ := id C
  have hP0 := hP
  obtain ⟨n, hw⟩ := hw
  have ih := b_X5_drift (l := l) (e := e) (below := below) (Q := Q) C n
  delta e_X5_drift at hw
  refine lv_iload_n hx hb dX5_drift_0 rfl (lv_at hl 2 rfl) ?_
  refine lv_iconst hx hb dX5_drift_1 ic_1 ?_
  refine lv_sipush hx hb dX5_drift_2 sp_200 ?_
  refine c_i (run_s (As := [.int v2, .int (1 : Int32), .int (200 : Int32)]) (rest := []) C hP hS (c_X5_within hw) gX5_drift_X5_within rfl dsX5_within rfl ⟨rfl, rfl⟩ ⟨Nat.le_of_ble_eq_true rfl, Nat.le_of_ble_eq_true rfl⟩ hl.1 rfl (Nat.le_of_ble_eq_true rfl) dX5_drift_5 ⟨Nat.le_of_ble_eq_true rfl, Nat.le_of_ble_eq_true rfl⟩) hS (fun r_2 M_1 H locs hw hP hS => ?_)
  refine lv_if_eq (tgt := 18) hx hb dX5_drift_8 (by decide) (fun hc => ?_) (fun hc => ?_)
  · have hw := hw.1 hc
    refine lv_iconst hx hb dX5_drift_18 ic_m1 ?_
    exact r_i C hP hS hw dX5_drift_19
  · have hw := hw.2 hc
    refine lv_iload_n hx hb dX5_drift_11 rfl (lv_at hl 3 rfl) ?_
    refine c_i (run_s (As := [.int v3]) (rest := []) C hP hS (c_X5_isEither hw) gX5_drift_X5_isEither rfl dsX5_isEither rfl ⟨rfl, rfl⟩ ⟨Nat.le_of_ble_eq_true rfl, Nat.le_of_ble_eq_true rfl⟩ hl.1 rfl (Nat.le_of_ble_eq_true rfl) dX5_drift_12 ⟨Nat.le_of_ble_eq_true rfl, Nat.le_of_ble_eq_true rfl⟩) hS (fun r_4 M_3 H locs hw hP hS => ?_)
    refine lv_if_ne (tgt := 20) hx hb dX5_drift_15 (by decide) (fun hc => ?_) (fun hc => ?_)
    · have hw := hw.1 hc
      refine lv_aload_n hx hb dX5_drift_20 rfl (lv_at hl 0 rfl) ?_
      refine g_f C hP (by decide) (sX_0 K _) rfl hX5_drift_X5 0 (by decide) kX5_drift_f10 rfl dX5_drift_21 ?_
      refine g_f C hP (by decide) (sX_1 K _) rfl hX5_drift_X0 2 (by decide) kX5_drift_f99 rfl dX5_drift_24 ?_
      refine lv_istore (lv' := [(4, .int (M_3 1 2)), (0, .ref (kb K + 0)), (1, .int v1), (2, .int v2), (3, .int v3)]) hx hb dX5_drift_27 hl (by decide) rfl (fun ls hl => ?_)
      refine lv_aload_n hx hb dX5_drift_29 rfl (lv_at hl 1 rfl) ?_
      refine g_f C hP (by decide) (sX_0 K _) rfl hX5_drift_X5 0 (by decide) kX5_drift_f10 rfl dX5_drift_30 ?_
      refine g_f C hP (by decide) (sX_1 K _) rfl hX5_drift_X0 6 (by decide) kX5_drift_f102 rfl dX5_drift_33 ?_
      refine lv_if_eq (tgt := 44) hx hb dX5_drift_36 (by decide) (fun hc => ?_) (fun hc => ?_)
      · have hw := hw.1 hc
        refine lv_bipush hx hb dX5_drift_44 bp_m2 ?_
        exact r_i C hP hS hw dX5_drift_46
      · have hw := hw.2 hc
        refine lv_iload hx hb dX5_drift_39 (lv_at hl 0 rfl) ?_
        refine lv_if_ne (tgt := 47) hx hb dX5_drift_41 (by decide) (fun hc => ?_) (fun hc => ?_)
        · have hw := hw.1 hc
          refine lv_aload_n hx hb dX5_drift_47 rfl (lv_at hl 1 rfl) ?_
          refine g_f C hP (by decide) (sX_0 K _) rfl hX5_drift_X5 1 (by decide) kX5_drift_f16 rfl dX5_drift_48 ?_
          refine lv_aload_n hx hb dX5_drift_51 rfl (lv_at hl 1 rfl) ?_
          refine g_f C hP (by decide) (sX_0 K _) rfl hX5_drift_X5 0 (by decide) kX5_drift_f10 rfl dX5_drift_52 ?_
          refine c_v (run_v (As := [.ref (kb K + 1)]) (rest := []) C hP hS (c_X0_copyFrom lay_7 lay_1 hw) gX5_drift_X0_copyFrom rfl dsX0_copyFrom rfl ⟨rfl, rfl⟩ ⟨Nat.le_of_ble_eq_true rfl, Nat.le_of_ble_eq_true rfl⟩ (by decide) (sX_7 K _) rfl hl.1 rfl (Nat.le_of_ble_eq_true rfl) dX5_drift_55 ⟨Nat.le_of_ble_eq_true rfl, Nat.le_of_ble_eq_true rfl⟩) hS (fun M_5 H locs hw hP hS => ?_)
          refine lv_iload_n hx hb dX5_drift_58 rfl (lv_at hl 2 rfl) ?_
          refine lv_istore (lv' := [(5, .int v1), (4, .int (M_3 1 2)), (0, .ref (kb K + 0)), (1, .int v1), (2, .int v2), (3, .int v3)]) hx hb dX5_drift_59 hl (by decide) rfl (fun ls hl => ?_)
          refine lv_iconst hx hb dX5_drift_61 ic_0 ?_
          refine lv_istore (lv' := [(6, .int (0 : Int32)), (5, .int v1), (4, .int (M_3 1 2)), (0, .ref (kb K + 0)), (1, .int v1), (2, .int v2), (3, .int v3)]) hx hb dX5_drift_62 hl (by decide) rfl (fun ls hl => ?_)
          refine lv_iconst hx hb dX5_drift_64 ic_0 ?_
          refine lv_istore (lv' := [(7, .int (0 : Int32)), (6, .int (0 : Int32)), (5, .int v1), (4, .int (M_3 1 2)), (0, .ref (kb K + 0)), (1, .int v1), (2, .int v2), (3, .int v3)]) hx hb dX5_drift_65 hl (by decide) rfl (fun ls hl => ?_)
          exact ih _ _ _ _ _ _ _ _ _ _ hw hP hS (lv_sub hl [4, 6, 7, 3, 2, 1, 0] rfl)
        · have hw := hw.2 hc
          refine lv_bipush hx hb dX5_drift_44 bp_m2 ?_
          exact r_i C hP hS hw dX5_drift_46
    · have hw := hw.2 hc
      refine lv_iconst hx hb dX5_drift_18 ic_m1 ?_
      exact r_i C hP hS hw dX5_drift_19

theorem kX5_keep_f23 : Cond.fieldLink RX5 23 (TX5 3).1 (TX5 3).2.1 (TX5 3).2.2.1 ∈ wsX5_keep := List.mem_of_getElem? (i := 1) rfl
theorem hX5_keep_X5 : ∀ w ∈ u_ws RX5 TX5 11, w ∈ wsX5_keep := fun _ h => List.mem_cons_of_mem _ (List.mem_append_left _ (List.mem_append_right _ (h)))
theorem kX5_keep_f19 : Cond.fieldLink RX5 19 (TX5 2).1 (TX5 2).2.1 (TX5 2).2.2.1 ∈ wsX5_keep := List.mem_of_getElem? (i := 2) rfl
theorem kX5_keep_f10 : Cond.fieldLink RX5 10 (TX5 0).1 (TX5 0).2.1 (TX5 0).2.2.1 ∈ wsX5_keep := List.mem_of_getElem? (i := 3) rfl
abbrev rmX5_keep : Room := { frames := 2, cells := 0, slots := 0, locals := 61 }
def f_X5_keep_25 (Q : Int32 → Mem → Prop) (v1 : Int32) (s0 : Int32) (M : Mem) : Prop := vp_in v1 2 ∧ isLay (31 + 6 * v1.toNatClampNeg) ∧ q_X0_copyFrom (31 + 6 * v1.toNatClampNeg) 1 M (fun M_6 => vp_in v1 2 ∧ Q s0 (mU M_6 14 v1.toNatClampNeg (1 : Int32)))
def q_X5_keep (v1 : Int32) (M : Mem) (Q : Int32 → Mem → Prop) : Prop := q_X5_within v1 (0 : Int32) (1 : Int32) M (fun r_2 M_1 => ((¬ r_2 = 0 → vp_in v1 2 ∧ (((M_1 14 v1.toNatClampNeg) = 0 → f_X5_keep_25 Q v1 (0 : Int32) M_1) ∧ (¬ (M_1 14 v1.toNatClampNeg) = 0 → f_X5_keep_25 Q v1 (1 : Int32) M_1))) ∧ (r_2 = 0 → Q (-1 : Int32) M_1)))
set_option maxRecDepth 100000 in
set_option maxHeartbeats 4000000 in
theorem b_X5_keep_25 {l : Launch} {K : wC} {Q : Int32 → Mem → Prop} {p : Program} {e : Env} {s : State} {m : MethodId} {args : Array Value} {below : List Frame} {meth : Method} {c : Code} (C : cx 51 K p s m args meth c cX5_keep 3 wsX5_keep RX5 (some .int)) (v1 : Int32) (s0 : Int32) (M : Mem) (H : Heap) (locs : List Loc) (ls : Array Slot) (hw : f_X5_keep_25 Q v1 s0 M) (hP : wP shX 51 K M H) (hS : va_S (wA 51 K) s.heap H locs) (hl : lv_has ls 3 [(0, .ref (kb K + 0)), (1, .int v1)]) : W p l e rmX5_keep s m args below meth c H locs 0 0 (MQ below (va_Qi Q (wE shX 51 K) (wA 51 K)) args s 0 0 (wA 51 K)) (F0 m 25 ls [.int s0]) := by
  obtain ⟨hx, hb, hml, hown, hts, hr, hlk, hK⟩ := id C
  delta f_X5_keep_25 at hw
  refine lv_istore_n (lv' := [(2, .int s0), (0, .ref (kb K + 0)), (1, .int v1)]) hx hb dX5_keep_25 rfl hl (by decide) rfl (fun ls hl => ?_)
  refine lv_aload_n hx hb dX5_keep_26 rfl (lv_at hl 1 rfl) ?_
  refine g_f C hP (by decide) (sX_0 K _) rfl hX5_keep_X5 2 (by decide) kX5_keep_f19 rfl dX5_keep_27 ?_
  refine lv_iload_n hx hb dX5_keep_30 rfl (lv_at hl 2 rfl) ?_
  have hi_4 := hw.1
  have hq_5 := hw.2.1
  have hw := hw.2.2
  refine a_ql C hP (by decide) (sX_13 K _) (t0 := 3) rfl hi_4 rfl dX5_keep_31 ?_
  refine lv_aload_n hx hb dX5_keep_32 rfl (lv_at hl 1 rfl) ?_
  refine g_f C hP (by decide) (sX_0 K _) rfl hX5_keep_X5 0 (by decide) kX5_keep_f10 rfl dX5_keep_33 ?_
  refine c_v (run_v (As := [.ref (kb K + 1)]) (rest := []) C hP hS (c_X0_copyFrom hq_5 lay_1 hw) gX5_keep_X0_copyFrom rfl dsX0_copyFrom rfl ⟨rfl, rfl⟩ ⟨Nat.le_of_ble_eq_true rfl, Nat.le_of_ble_eq_true rfl⟩ (layb0 hq_5) (lay0 hq_5 K _) rfl hl.1 rfl (Nat.le_of_ble_eq_true rfl) dX5_keep_36 ⟨Nat.le_of_ble_eq_true rfl, Nat.le_of_ble_eq_true rfl⟩) hS (fun M_6 H locs hw hP hS => ?_)
  refine lv_aload_n hx hb dX5_keep_39 rfl (lv_at hl 1 rfl) ?_
  refine g_f C hP (by decide) (sX_0 K _) rfl hX5_keep_X5 3 (by decide) kX5_keep_f23 rfl dX5_keep_40 ?_
  refine lv_iload_n hx hb dX5_keep_43 rfl (lv_at hl 2 rfl) ?_
  refine lv_iconst hx hb dX5_keep_44 ic_1 ?_
  have hi_7 := hw.1
  have hw := hw.2
  refine a_zs C hP hS (by decide) (sX_14 K) (by decide) hi_7 rfl dX5_keep_45 (fun H locs hP hS => ?_)
  refine lv_iload_n hx hb dX5_keep_46 rfl (lv_at hl 0 rfl) ?_
  exact r_i C hP hS hw dX5_keep_47
theorem dsX5_keep : yX5_keep.cls = RX5 ∧ yX5_keep.cls ≠ "java/lang/invoke/MethodHandle" ∧ yX5_keep.cls ≠ "java/lang/invoke/VarHandle" ∧ (parseMethodDescriptor yX5_keep.desc).map (fun d => d.parameters.length) = some 1 := by decide +kernel
set_option maxRecDepth 100000 in
set_option maxHeartbeats 4000000 in
theorem c_X5_keep {l : Launch} {K : wC} {v1 : Int32} {M : Mem} {Q : Int32 → Mem → Prop} (hw : q_X5_keep v1 M Q) : metI l yX5_keep wsX5_keep rmX5_keep shX 51 K [.ref (kb K + 0), .int v1] M Q := by
  refine met_of (cc := cX5_keep) (maxL := 3) (ret := (some .int)) (own := RX5) (by decide) rfl rfl (Nat.le_of_ble_eq_true rfl) ?_
  intro p e s m below meth c ls C hl hP hS
  have hl : lv_has ls 3 [(0, .ref (kb K + 0)), (1, .int v1)] := hl
  obtain ⟨hx, hb, hml, hown, hts, hr, hlk, hK⟩ := id C
  have hP0 := hP
  delta q_X5_keep at hw
  refine lv_iload_n hx hb dX5_keep_0 rfl (lv_at hl 1 rfl) ?_
  refine lv_iconst hx hb dX5_keep_1 ic_0 ?_
  refine lv_iconst hx hb dX5_keep_2 ic_1 ?_
  refine c_i (run_s (As := [.int v1, .int (0 : Int32), .int (1 : Int32)]) (rest := []) C hP hS (c_X5_within hw) gX5_keep_X5_within rfl dsX5_within rfl ⟨rfl, rfl⟩ ⟨Nat.le_of_ble_eq_true rfl, Nat.le_of_ble_eq_true rfl⟩ hl.1 rfl (Nat.le_of_ble_eq_true rfl) dX5_keep_3 ⟨Nat.le_of_ble_eq_true rfl, Nat.le_of_ble_eq_true rfl⟩) hS (fun r_2 M_1 H locs hw hP hS => ?_)
  refine lv_if_ne (tgt := 11) hx hb dX5_keep_6 (by decide) (fun hc => ?_) (fun hc => ?_)
  · have hw := hw.1 hc
    refine lv_aload_n hx hb dX5_keep_11 rfl (lv_at hl 0 rfl) ?_
    refine g_f C hP (by decide) (sX_0 K _) rfl hX5_keep_X5 3 (by decide) kX5_keep_f23 rfl dX5_keep_12 ?_
    refine lv_iload_n hx hb dX5_keep_15 rfl (lv_at hl 1 rfl) ?_
    have hi_3 := hw.1
    have hw := hw.2
    refine a_zl C hP (by decide) (sX_14 K _) hi_3 rfl dX5_keep_16 ?_
    refine lv_if_eq (tgt := 24) hx hb dX5_keep_17 (by decide) (fun hc => ?_) (fun hc => ?_)
    · have hw := hw.1 hc
      refine lv_iconst hx hb dX5_keep_24 ic_0 ?_
      exact b_X5_keep_25 C _ _ _ _ _ _ hw hP hS (lv_sub hl [0, 1] rfl)
    · have hw := hw.2 hc
      refine lv_iconst hx hb dX5_keep_20 ic_1 ?_
      refine lv_goto (tgt := 25) hx hb dX5_keep_21 (by decide) ?_
      exact b_X5_keep_25 C _ _ _ _ _ _ hw hP hS (lv_sub hl [0, 1] rfl)
  · have hw := hw.2 hc
    refine lv_iconst hx hb dX5_keep_9 ic_m1 ?_
    exact r_i C hP hS hw dX5_keep_10

theorem kX5_back_f23 : Cond.fieldLink RX5 23 (TX5 3).1 (TX5 3).2.1 (TX5 3).2.2.1 ∈ wsX5_back := List.mem_of_getElem? (i := 1) rfl
theorem hX5_back_X5 : ∀ w ∈ u_ws RX5 TX5 11, w ∈ wsX5_back := fun _ h => List.mem_cons_of_mem _ (List.mem_append_left _ (List.mem_append_right _ (h)))
theorem kX5_back_f10 : Cond.fieldLink RX5 10 (TX5 0).1 (TX5 0).2.1 (TX5 0).2.2.1 ∈ wsX5_back := List.mem_of_getElem? (i := 2) rfl
theorem kX5_back_f19 : Cond.fieldLink RX5 19 (TX5 2).1 (TX5 2).2.1 (TX5 2).2.2.1 ∈ wsX5_back := List.mem_of_getElem? (i := 3) rfl
theorem kX5_back_f105 : Cond.fieldLink RX5 105 (TX0 9).1 (TX0 9).2.1 (TX0 9).2.2.1 ∈ wsX5_back := List.mem_of_getElem? (i := 4) rfl
theorem hX5_back_X0 : ∀ w ∈ u_ws RX0 TX0 10, w ∈ wsX5_back := fun _ h => List.mem_cons_of_mem _ (List.mem_append_right _ (h))
abbrev rmX5_back : Room := { frames := 2, cells := 0, slots := 0, locals := 61 }
def q_X5_back (v1 : Int32) (M : Mem) (Q : Int32 → Mem → Prop) : Prop := q_X5_within v1 (0 : Int32) (1 : Int32) M (fun r_2 M_1 => ((¬ r_2 = 0 → vp_in v1 2 ∧ ((¬ (M_1 14 v1.toNatClampNeg) = 0 → vp_in v1 2 ∧ isLay (31 + 6 * v1.toNatClampNeg) ∧ q_X0_copyFrom 1 (31 + 6 * v1.toNatClampNeg) M_1 (fun M_6 => Q (M_6 1 9) M_6)) ∧ ((M_1 14 v1.toNatClampNeg) = 0 → Q (-2 : Int32) M_1))) ∧ (r_2 = 0 → Q (-1 : Int32) M_1)))
theorem dsX5_back : yX5_back.cls = RX5 ∧ yX5_back.cls ≠ "java/lang/invoke/MethodHandle" ∧ yX5_back.cls ≠ "java/lang/invoke/VarHandle" ∧ (parseMethodDescriptor yX5_back.desc).map (fun d => d.parameters.length) = some 1 := by decide +kernel
set_option maxRecDepth 100000 in
set_option maxHeartbeats 4000000 in
theorem c_X5_back {l : Launch} {K : wC} {v1 : Int32} {M : Mem} {Q : Int32 → Mem → Prop} (hw : q_X5_back v1 M Q) : metI l yX5_back wsX5_back rmX5_back shX 51 K [.ref (kb K + 0), .int v1] M Q := by
  refine met_of (cc := cX5_back) (maxL := 2) (ret := (some .int)) (own := RX5) (by decide) rfl rfl (Nat.le_of_ble_eq_true rfl) ?_
  intro p e s m below meth c ls C hl hP hS
  have hl : lv_has ls 2 [(0, .ref (kb K + 0)), (1, .int v1)] := hl
  obtain ⟨hx, hb, hml, hown, hts, hr, hlk, hK⟩ := id C
  have hP0 := hP
  delta q_X5_back at hw
  refine lv_iload_n hx hb dX5_back_0 rfl (lv_at hl 1 rfl) ?_
  refine lv_iconst hx hb dX5_back_1 ic_0 ?_
  refine lv_iconst hx hb dX5_back_2 ic_1 ?_
  refine c_i (run_s (As := [.int v1, .int (0 : Int32), .int (1 : Int32)]) (rest := []) C hP hS (c_X5_within hw) gX5_back_X5_within rfl dsX5_within rfl ⟨rfl, rfl⟩ ⟨Nat.le_of_ble_eq_true rfl, Nat.le_of_ble_eq_true rfl⟩ hl.1 rfl (Nat.le_of_ble_eq_true rfl) dX5_back_3 ⟨Nat.le_of_ble_eq_true rfl, Nat.le_of_ble_eq_true rfl⟩) hS (fun r_2 M_1 H locs hw hP hS => ?_)
  refine lv_if_ne (tgt := 11) hx hb dX5_back_6 (by decide) (fun hc => ?_) (fun hc => ?_)
  · have hw := hw.1 hc
    refine lv_aload_n hx hb dX5_back_11 rfl (lv_at hl 0 rfl) ?_
    refine g_f C hP (by decide) (sX_0 K _) rfl hX5_back_X5 3 (by decide) kX5_back_f23 rfl dX5_back_12 ?_
    refine lv_iload_n hx hb dX5_back_15 rfl (lv_at hl 1 rfl) ?_
    have hi_3 := hw.1
    have hw := hw.2
    refine a_zl C hP (by decide) (sX_14 K _) hi_3 rfl dX5_back_16 ?_
    refine lv_if_ne (tgt := 23) hx hb dX5_back_17 (by decide) (fun hc => ?_) (fun hc => ?_)
    · have hw := hw.1 hc
      refine lv_aload_n hx hb dX5_back_23 rfl (lv_at hl 0 rfl) ?_
      refine g_f C hP (by decide) (sX_0 K _) rfl hX5_back_X5 0 (by decide) kX5_back_f10 rfl dX5_back_24 ?_
      refine lv_aload_n hx hb dX5_back_27 rfl (lv_at hl 0 rfl) ?_
      refine g_f C hP (by decide) (sX_0 K _) rfl hX5_back_X5 2 (by decide) kX5_back_f19 rfl dX5_back_28 ?_
      refine lv_iload_n hx hb dX5_back_31 rfl (lv_at hl 1 rfl) ?_
      have hi_4 := hw.1
      have hq_5 := hw.2.1
      have hw := hw.2.2
      refine a_ql C hP (by decide) (sX_13 K _) (t0 := 3) rfl hi_4 rfl dX5_back_32 ?_
      refine c_v (run_v (As := [.ref (kb K + (31 + 6 * v1.toNatClampNeg))]) (rest := []) C hP hS (c_X0_copyFrom lay_1 hq_5 hw) gX5_back_X0_copyFrom rfl dsX0_copyFrom rfl ⟨rfl, rfl⟩ ⟨Nat.le_of_ble_eq_true rfl, Nat.le_of_ble_eq_true rfl⟩ (by decide) (sX_1 K _) rfl hl.1 rfl (Nat.le_of_ble_eq_true rfl) dX5_back_33 ⟨Nat.le_of_ble_eq_true rfl, Nat.le_of_ble_eq_true rfl⟩) hS (fun M_6 H locs hw hP hS => ?_)
      refine lv_aload_n hx hb dX5_back_36 rfl (lv_at hl 0 rfl) ?_
      refine g_f C hP (by decide) (sX_0 K _) rfl hX5_back_X5 0 (by decide) kX5_back_f10 rfl dX5_back_37 ?_
      refine g_f C hP (by decide) (sX_1 K _) rfl hX5_back_X0 9 (by decide) kX5_back_f105 rfl dX5_back_40 ?_
      exact r_i C hP hS hw dX5_back_43
    · have hw := hw.2 hc
      refine lv_bipush hx hb dX5_back_20 bp_m2 ?_
      exact r_i C hP hS hw dX5_back_22
  · have hw := hw.2 hc
    refine lv_iconst hx hb dX5_back_9 ic_m1 ?_
    exact r_i C hP hS hw dX5_back_10

abbrev rmX5_isSheet : Room := { frames := 1, cells := 0, slots := 0, locals := 22 }
def q_X5_isSheet (v0 : Int32) (M : Mem) (Q : Int32 → Mem → Prop) : Prop := q_X5_within v0 (0 : Int32) (3 : Int32) M (fun r_2 M_1 => narrow .boolean (.int r_2) = .int r_2 ∧ Q r_2 M_1)
theorem dsX5_isSheet : yX5_isSheet.cls ≠ "java/lang/invoke/MethodHandle" ∧ yX5_isSheet.cls ≠ "java/lang/invoke/VarHandle" ∧ (parseMethodDescriptor yX5_isSheet.desc).map (fun d => d.parameters.length) = some 1 := by decide +kernel
set_option maxRecDepth 100000 in
set_option maxHeartbeats 4000000 in
theorem c_X5_isSheet {l : Launch} {K : wC} {v0 : Int32} {M : Mem} {Q : Int32 → Mem → Prop} (hw : q_X5_isSheet v0 M Q) : metI l yX5_isSheet wsX5_isSheet rmX5_isSheet shX 51 K [.int v0] M Q := by
  refine met_of (cc := cX5_isSheet) (maxL := 1) (ret := (some .boolean)) (own := RX5) (by decide) rfl rfl (Nat.le_of_ble_eq_true rfl) ?_
  intro p e s m below meth c ls C hl hP hS
  have hl : lv_has ls 1 [(0, .int v0)] := hl
  obtain ⟨hx, hb, hml, hown, hts, hr, hlk, hK⟩ := id C
  have hP0 := hP
  delta q_X5_isSheet at hw
  refine lv_iload_n hx hb dX5_isSheet_0 rfl (lv_at hl 0 rfl) ?_
  refine lv_iconst hx hb dX5_isSheet_1 ic_0 ?_
  refine lv_iconst hx hb dX5_isSheet_2 ic_3 ?_
  refine c_i (run_s (As := [.int v0, .int (0 : Int32), .int (3 : Int32)]) (rest := []) C hP hS (c_X5_within hw) gX5_isSheet_X5_within rfl dsX5_within rfl ⟨rfl, rfl⟩ ⟨Nat.le_of_ble_eq_true rfl, Nat.le_of_ble_eq_true rfl⟩ hl.1 rfl (Nat.le_of_ble_eq_true rfl) dX5_isSheet_3 ⟨Nat.le_of_ble_eq_true rfl, Nat.le_of_ble_eq_true rfl⟩) hS (fun r_2 M_1 H locs hw hP hS => ?_)
  exact r_z C hw.1 hP hS hw.2 dX5_isSheet_6

abbrev rmX5_isLane : Room := { frames := 1, cells := 0, slots := 0, locals := 22 }
def q_X5_isLane (v0 : Int32) (M : Mem) (Q : Int32 → Mem → Prop) : Prop := q_X5_within v0 (0 : Int32) (2 : Int32) M (fun r_2 M_1 => narrow .boolean (.int r_2) = .int r_2 ∧ Q r_2 M_1)
theorem dsX5_isLane : yX5_isLane.cls ≠ "java/lang/invoke/MethodHandle" ∧ yX5_isLane.cls ≠ "java/lang/invoke/VarHandle" ∧ (parseMethodDescriptor yX5_isLane.desc).map (fun d => d.parameters.length) = some 1 := by decide +kernel
set_option maxRecDepth 100000 in
set_option maxHeartbeats 4000000 in
theorem c_X5_isLane {l : Launch} {K : wC} {v0 : Int32} {M : Mem} {Q : Int32 → Mem → Prop} (hw : q_X5_isLane v0 M Q) : metI l yX5_isLane wsX5_isLane rmX5_isLane shX 51 K [.int v0] M Q := by
  refine met_of (cc := cX5_isLane) (maxL := 1) (ret := (some .boolean)) (own := RX5) (by decide) rfl rfl (Nat.le_of_ble_eq_true rfl) ?_
  intro p e s m below meth c ls C hl hP hS
  have hl : lv_has ls 1 [(0, .int v0)] := hl
  obtain ⟨hx, hb, hml, hown, hts, hr, hlk, hK⟩ := id C
  have hP0 := hP
  delta q_X5_isLane at hw
  refine lv_iload_n hx hb dX5_isLane_0 rfl (lv_at hl 0 rfl) ?_
  refine lv_iconst hx hb dX5_isLane_1 ic_0 ?_
  refine lv_iconst hx hb dX5_isLane_2 ic_2 ?_
  refine c_i (run_s (As := [.int v0, .int (0 : Int32), .int (2 : Int32)]) (rest := []) C hP hS (c_X5_within hw) gX5_isLane_X5_within rfl dsX5_within rfl ⟨rfl, rfl⟩ ⟨Nat.le_of_ble_eq_true rfl, Nat.le_of_ble_eq_true rfl⟩ hl.1 rfl (Nat.le_of_ble_eq_true rfl) dX5_isLane_3 ⟨Nat.le_of_ble_eq_true rfl, Nat.le_of_ble_eq_true rfl⟩) hS (fun r_2 M_1 H locs hw hP hS => ?_)
  exact r_z C hw.1 hP hS hw.2 dX5_isLane_6

theorem kX5_sheet_f43 : Cond.fieldLink RX5 43 (TX5 6).1 (TX5 6).2.1 (TX5 6).2.2.1 ∈ wsX5_sheet := List.mem_of_getElem? (i := 1) rfl
theorem hX5_sheet_X5 : ∀ w ∈ u_ws RX5 TX5 11, w ∈ wsX5_sheet := fun _ h => List.mem_cons_of_mem _ (List.mem_append_left _ (List.mem_append_right _ (h)))
abbrev rmX5_sheet : Room := { frames := 2, cells := 0, slots := 0, locals := 42 }
def q_X5_sheet (v1 : Int32) (v2 : Int32) (v3 : Int32) (M : Mem) (Q : Int32 → Mem → Prop) : Prop := q_X5_isSheet v1 M (fun r_2 M_1 => ((r_2 = 0 → Q (-1 : Int32) M_1) ∧ (¬ r_2 = 0 → q_X5_isLane v2 M_1 (fun r_4 M_3 => ((r_4 = 0 → Q (-1 : Int32) M_3) ∧ (¬ r_4 = 0 → ((v3 ≤ (40 : Int32) → ((0 ≤ v3 → vp_in v1 4 ∧ isSh (43 + 2 * v1.toNatClampNeg) ∧ q_X1_renew (43 + 2 * v1.toNatClampNeg) v2 v3 M_3 (fun M_7 => Q (1 : Int32) M_7)) ∧ (¬ 0 ≤ v3 → Q (-14 : Int32) M_3))) ∧ (¬ v3 ≤ (40 : Int32) → Q (-1 : Int32) M_3))))))))
theorem dsX5_sheet : yX5_sheet.cls = RX5 ∧ yX5_sheet.cls ≠ "java/lang/invoke/MethodHandle" ∧ yX5_sheet.cls ≠ "java/lang/invoke/VarHandle" ∧ (parseMethodDescriptor yX5_sheet.desc).map (fun d => d.parameters.length) = some 3 := by decide +kernel
set_option maxRecDepth 100000 in
set_option maxHeartbeats 4000000 in
theorem c_X5_sheet {l : Launch} {K : wC} {v1 : Int32} {v2 : Int32} {v3 : Int32} {M : Mem} {Q : Int32 → Mem → Prop} (hw : q_X5_sheet v1 v2 v3 M Q) : metI l yX5_sheet wsX5_sheet rmX5_sheet shX 51 K [.ref (kb K + 0), .int v1, .int v2, .int v3] M Q := by
  refine met_of (cc := cX5_sheet) (maxL := 4) (ret := (some .int)) (own := RX5) (by decide) rfl rfl (Nat.le_of_ble_eq_true rfl) ?_
  intro p e s m below meth c ls C hl hP hS
  have hl : lv_has ls 4 [(0, .ref (kb K + 0)), (1, .int v1), (2, .int v2), (3, .int v3)] := hl
  obtain ⟨hx, hb, hml, hown, hts, hr, hlk, hK⟩ := id C
  have hP0 := hP
  delta q_X5_sheet at hw
  refine lv_iload_n hx hb dX5_sheet_0 rfl (lv_at hl 1 rfl) ?_
  refine c_i (run_s (As := [.int v1]) (rest := []) C hP hS (c_X5_isSheet hw) gX5_sheet_X5_isSheet rfl dsX5_isSheet rfl ⟨rfl, rfl⟩ ⟨Nat.le_of_ble_eq_true rfl, Nat.le_of_ble_eq_true rfl⟩ hl.1 rfl (Nat.le_of_ble_eq_true rfl) dX5_sheet_1 ⟨Nat.le_of_ble_eq_true rfl, Nat.le_of_ble_eq_true rfl⟩) hS (fun r_2 M_1 H locs hw hP hS => ?_)
  refine lv_if_eq (tgt := 20) hx hb dX5_sheet_4 (by decide) (fun hc => ?_) (fun hc => ?_)
  · have hw := hw.1 hc
    refine lv_iconst hx hb dX5_sheet_20 ic_m1 ?_
    exact r_i C hP hS hw dX5_sheet_21
  · have hw := hw.2 hc
    refine lv_iload_n hx hb dX5_sheet_7 rfl (lv_at hl 2 rfl) ?_
    refine c_i (run_s (As := [.int v2]) (rest := []) C hP hS (c_X5_isLane hw) gX5_sheet_X5_isLane rfl dsX5_isLane rfl ⟨rfl, rfl⟩ ⟨Nat.le_of_ble_eq_true rfl, Nat.le_of_ble_eq_true rfl⟩ hl.1 rfl (Nat.le_of_ble_eq_true rfl) dX5_sheet_8 ⟨Nat.le_of_ble_eq_true rfl, Nat.le_of_ble_eq_true rfl⟩) hS (fun r_4 M_3 H locs hw hP hS => ?_)
    refine lv_if_eq (tgt := 20) hx hb dX5_sheet_11 (by decide) (fun hc => ?_) (fun hc => ?_)
    · have hw := hw.1 hc
      refine lv_iconst hx hb dX5_sheet_20 ic_m1 ?_
      exact r_i C hP hS hw dX5_sheet_21
    · have hw := hw.2 hc
      refine lv_iload_n hx hb dX5_sheet_14 rfl (lv_at hl 3 rfl) ?_
      refine lv_bipush hx hb dX5_sheet_15 bp_40 ?_
      refine lv_icmp_le (tgt := 22) hx hb dX5_sheet_17 (by decide) (fun hc => ?_) (fun hc => ?_)
      · have hw := hw.1 hc
        refine lv_iload_n hx hb dX5_sheet_22 rfl (lv_at hl 3 rfl) ?_
        refine lv_if_ge (tgt := 29) hx hb dX5_sheet_23 (by decide) (fun hc => ?_) (fun hc => ?_)
        · have hw := hw.1 hc
          refine lv_aload_n hx hb dX5_sheet_29 rfl (lv_at hl 0 rfl) ?_
          refine g_f C hP (by decide) (sX_0 K _) rfl hX5_sheet_X5 6 (by decide) kX5_sheet_f43 rfl dX5_sheet_30 ?_
          refine lv_iload_n hx hb dX5_sheet_33 rfl (lv_at hl 1 rfl) ?_
          have hi_5 := hw.1
          have hq_6 := hw.2.1
          have hw := hw.2.2
          refine a_ql C hP (by decide) (sX_28 K _) (t0 := 4) rfl hi_5 rfl dX5_sheet_34 ?_
          refine lv_iload_n hx hb dX5_sheet_35 rfl (lv_at hl 2 rfl) ?_
          refine lv_iload_n hx hb dX5_sheet_36 rfl (lv_at hl 3 rfl) ?_
          refine c_v (run_v (As := [.int v2, .int v3]) (rest := []) C hP hS (c_X1_renew hq_6 hw) gX5_sheet_X1_renew rfl dsX1_renew rfl ⟨rfl, rfl⟩ ⟨Nat.le_of_ble_eq_true rfl, Nat.le_of_ble_eq_true rfl⟩ (shb0 hq_6) (sh0 hq_6 K _) rfl hl.1 rfl (Nat.le_of_ble_eq_true rfl) dX5_sheet_37 ⟨Nat.le_of_ble_eq_true rfl, Nat.le_of_ble_eq_true rfl⟩) hS (fun M_7 H locs hw hP hS => ?_)
          refine lv_iconst hx hb dX5_sheet_40 ic_1 ?_
          exact r_i C hP hS hw dX5_sheet_41
        · have hw := hw.2 hc
          refine lv_bipush hx hb dX5_sheet_26 bp_m14 ?_
          exact r_i C hP hS hw dX5_sheet_28
      · have hw := hw.2 hc
        refine lv_iconst hx hb dX5_sheet_20 ic_m1 ?_
        exact r_i C hP hS hw dX5_sheet_21

theorem kX5_lay_f43 : Cond.fieldLink RX5 43 (TX5 6).1 (TX5 6).2.1 (TX5 6).2.2.1 ∈ wsX5_lay := List.mem_of_getElem? (i := 1) rfl
theorem hX5_lay_X5 : ∀ w ∈ u_ws RX5 TX5 11, w ∈ wsX5_lay := fun _ h => List.mem_cons_of_mem _ (List.mem_append_left _ (List.mem_append_right _ (h)))
theorem kX5_lay_f283 : Cond.fieldLink RX5 283 (TX1 1).1 (TX1 1).2.1 (TX1 1).2.2.1 ∈ wsX5_lay := List.mem_of_getElem? (i := 2) rfl
theorem hX5_lay_X1 : ∀ w ∈ u_ws RX1 TX1 3, w ∈ wsX5_lay := fun _ h => List.mem_cons_of_mem _ (List.mem_append_right _ (h))
abbrev rmX5_lay : Room := { frames := 2, cells := 0, slots := 0, locals := 44 }
def q_X5_lay (v1 : Int32) (v2 : Int32) (v3 : Int32) (M : Mem) (Q : Int32 → Mem → Prop) : Prop := q_X5_isSheet v1 M (fun r_2 M_1 => ((¬ r_2 = 0 → vp_in v1 4 ∧ isSh (43 + 2 * v1.toNatClampNeg) ∧ q_X1_faultAt (43 + 2 * v1.toNatClampNeg) (M_1 (43 + 2 * v1.toNatClampNeg) 1) v2 M_1 (fun r_6 M_5 => ((r_6 = 0 → q_X1_layCell (43 + 2 * v1.toNatClampNeg) v2 v3 M_5 (fun M_7 => Q (1 : Int32) M_7)) ∧ (¬ r_6 = 0 → Q ((-10 : Int32) - r_6) M_5)))) ∧ (r_2 = 0 → Q (-1 : Int32) M_1)))
theorem dsX5_lay : yX5_lay.cls = RX5 ∧ yX5_lay.cls ≠ "java/lang/invoke/MethodHandle" ∧ yX5_lay.cls ≠ "java/lang/invoke/VarHandle" ∧ (parseMethodDescriptor yX5_lay.desc).map (fun d => d.parameters.length) = some 3 := by decide +kernel
set_option maxRecDepth 100000 in
set_option maxHeartbeats 4000000 in
theorem c_X5_lay {l : Launch} {K : wC} {v1 : Int32} {v2 : Int32} {v3 : Int32} {M : Mem} {Q : Int32 → Mem → Prop} (hw : q_X5_lay v1 v2 v3 M Q) : metI l yX5_lay wsX5_lay rmX5_lay shX 51 K [.ref (kb K + 0), .int v1, .int v2, .int v3] M Q := by
  refine met_of (cc := cX5_lay) (maxL := 6) (ret := (some .int)) (own := RX5) (by decide) rfl rfl (Nat.le_of_ble_eq_true rfl) ?_
  intro p e s m below meth c ls C hl hP hS
  have hl : lv_has ls 6 [(0, .ref (kb K + 0)), (1, .int v1), (2, .int v2), (3, .int v3)] := hl
  obtain ⟨hx, hb, hml, hown, hts, hr, hlk, hK⟩ := id C
  have hP0 := hP
  delta q_X5_lay at hw
  refine lv_iload_n hx hb dX5_lay_0 rfl (lv_at hl 1 rfl) ?_
  refine c_i (run_s (As := [.int v1]) (rest := []) C hP hS (c_X5_isSheet hw) gX5_lay_X5_isSheet rfl dsX5_isSheet rfl ⟨rfl, rfl⟩ ⟨Nat.le_of_ble_eq_true rfl, Nat.le_of_ble_eq_true rfl⟩ hl.1 rfl (Nat.le_of_ble_eq_true rfl) dX5_lay_1 ⟨Nat.le_of_ble_eq_true rfl, Nat.le_of_ble_eq_true rfl⟩) hS (fun r_2 M_1 H locs hw hP hS => ?_)
  refine lv_if_ne (tgt := 9) hx hb dX5_lay_4 (by decide) (fun hc => ?_) (fun hc => ?_)
  · have hw := hw.1 hc
    refine lv_aload_n hx hb dX5_lay_9 rfl (lv_at hl 0 rfl) ?_
    refine g_f C hP (by decide) (sX_0 K _) rfl hX5_lay_X5 6 (by decide) kX5_lay_f43 rfl dX5_lay_10 ?_
    refine lv_iload_n hx hb dX5_lay_13 rfl (lv_at hl 1 rfl) ?_
    have hi_3 := hw.1
    have hq_4 := hw.2.1
    have hw := hw.2.2
    refine a_ql C hP (by decide) (sX_28 K _) (t0 := 4) rfl hi_3 rfl dX5_lay_14 ?_
    refine lv_astore (lv' := [(4, .ref (kb K + (43 + 2 * v1.toNatClampNeg))), (0, .ref (kb K + 0)), (1, .int v1), (2, .int v2), (3, .int v3)]) hx hb dX5_lay_15 hl (by decide) rfl (fun ls hl => ?_)
    refine lv_aload hx hb dX5_lay_17 (lv_at hl 0 rfl) ?_
    refine lv_aload hx hb dX5_lay_19 (lv_at hl 0 rfl) ?_
    refine g_f C hP (shb0 hq_4) (sh0 hq_4 K _) rfl hX5_lay_X1 1 (by decide) kX5_lay_f283 rfl dX5_lay_21 ?_
    refine lv_iload_n hx hb dX5_lay_24 rfl (lv_at hl 3 rfl) ?_
    refine c_i (run_v (As := [.int (M_1 (43 + 2 * v1.toNatClampNeg) 1), .int v2]) (rest := []) C hP hS (c_X1_faultAt hq_4 hw) gX5_lay_X1_faultAt rfl dsX1_faultAt rfl ⟨rfl, rfl⟩ ⟨Nat.le_of_ble_eq_true rfl, Nat.le_of_ble_eq_true rfl⟩ (shb0 hq_4) (sh0 hq_4 K _) rfl hl.1 rfl (Nat.le_of_ble_eq_true rfl) dX5_lay_25 ⟨Nat.le_of_ble_eq_true rfl, Nat.le_of_ble_eq_true rfl⟩) hS (fun r_6 M_5 H locs hw hP hS => ?_)
    refine lv_istore (lv' := [(5, .int r_6), (4, .ref (kb K + (43 + 2 * v1.toNatClampNeg))), (0, .ref (kb K + 0)), (1, .int v1), (2, .int v2), (3, .int v3)]) hx hb dX5_lay_28 hl (by decide) rfl (fun ls hl => ?_)
    refine lv_iload hx hb dX5_lay_30 (lv_at hl 0 rfl) ?_
    refine lv_if_eq (tgt := 41) hx hb dX5_lay_32 (by decide) (fun hc => ?_) (fun hc => ?_)
    · have hw := hw.1 hc
      refine lv_aload hx hb dX5_lay_41 (lv_at hl 1 rfl) ?_
      refine lv_iload_n hx hb dX5_lay_43 rfl (lv_at hl 4 rfl) ?_
      refine lv_iload_n hx hb dX5_lay_44 rfl (lv_at hl 5 rfl) ?_
      refine c_v (run_v (As := [.int v2, .int v3]) (rest := []) C hP hS (c_X1_layCell hq_4 hw) gX5_lay_X1_layCell rfl dsX1_layCell rfl ⟨rfl, rfl⟩ ⟨Nat.le_of_ble_eq_true rfl, Nat.le_of_ble_eq_true rfl⟩ (shb0 hq_4) (sh0 hq_4 K _) rfl hl.1 rfl (Nat.le_of_ble_eq_true rfl) dX5_lay_45 ⟨Nat.le_of_ble_eq_true rfl, Nat.le_of_ble_eq_true rfl⟩) hS (fun M_7 H locs hw hP hS => ?_)
      refine lv_iconst hx hb dX5_lay_48 ic_1 ?_
      exact r_i C hP hS hw dX5_lay_49
    · have hw := hw.2 hc
      refine lv_bipush hx hb dX5_lay_35 bp_m10 ?_
      refine lv_iload hx hb dX5_lay_37 (lv_at hl 0 rfl) ?_
      refine lv_isub hx hb dX5_lay_39 ?_
      exact r_i C hP hS hw dX5_lay_40
  · have hw := hw.2 hc
    refine lv_iconst hx hb dX5_lay_7 ic_m1 ?_
    exact r_i C hP hS hw dX5_lay_8

theorem kX5_read_f43 : Cond.fieldLink RX5 43 (TX5 6).1 (TX5 6).2.1 (TX5 6).2.2.1 ∈ wsX5_read := List.mem_of_getElem? (i := 1) rfl
theorem hX5_read_X5 : ∀ w ∈ u_ws RX5 TX5 11, w ∈ wsX5_read := fun _ h => List.mem_cons_of_mem _ (List.mem_append_left _ (List.mem_append_left _ (List.mem_append_right _ (h))))
theorem kX5_read_f16 : Cond.fieldLink RX5 16 (TX5 1).1 (TX5 1).2.1 (TX5 1).2.2.1 ∈ wsX5_read := List.mem_of_getElem? (i := 2) rfl
theorem kX5_read_f10 : Cond.fieldLink RX5 10 (TX5 0).1 (TX5 0).2.1 (TX5 0).2.2.1 ∈ wsX5_read := List.mem_of_getElem? (i := 3) rfl
theorem kX5_read_f295 : Cond.fieldLink RX5 295 (TX1 0).1 (TX1 0).2.1 (TX1 0).2.2.1 ∈ wsX5_read := List.mem_of_getElem? (i := 4) rfl
theorem hX5_read_X1 : ∀ w ∈ u_ws RX1 TX1 3, w ∈ wsX5_read := fun _ h => List.mem_cons_of_mem _ (List.mem_append_left _ (List.mem_append_right _ (h)))
theorem kX5_read_f99 : Cond.fieldLink RX5 99 (TX0 2).1 (TX0 2).2.1 (TX0 2).2.2.1 ∈ wsX5_read := List.mem_of_getElem? (i := 5) rfl
theorem hX5_read_X0 : ∀ w ∈ u_ws RX0 TX0 10, w ∈ wsX5_read := fun _ h => List.mem_cons_of_mem _ (List.mem_append_right _ (h))
theorem kX5_read_f58 : Cond.fieldLink RX5 58 (TX5 10).1 (TX5 10).2.1 (TX5 10).2.2.1 ∈ wsX5_read := List.mem_of_getElem? (i := 6) rfl
abbrev rmX5_read : Room := { frames := 3, cells := 0, slots := 0, locals := 67 }
abbrev t_X5_read : Type := (Int32 → Int32 → Int32 → Nat → Int32 → Int32 → Mem → Prop) × (Int32 → Int32 → Int32 → Nat → Int32 → Int32 → Mem → Prop) × (Int32 → Mem → Prop)
def f_X5_read_52 (Q : Int32 → Mem → Prop) (r : t_X5_read) (v2 : Int32) (v3 : Int32) (v4 : Int32) (o5 : Nat) (v6 : Int32) (v7 : Int32) (M : Mem) : Prop := isSh o5 ∧ ((v4 ≤ v7 → r.2.2 v6 M) ∧ (¬ v4 ≤ v7 → ((¬ v6 = 0 → r.2.2 v6 M) ∧ (v6 = 0 → ∀ x_10 : Int32, x_10 = (v3 + ((2 : Int32) * v7)) → q_X1_faultAtPair o5 v2 x_10 M (fun r_12 M_11 => ((¬ r_12 = 0 → r.2.1 v2 v3 v4 o5 r_12 v7 M_11) ∧ (r_12 = 0 → vp_in x_10 40 ∧ (∀ x_14 : Int32, x_14 = (M_11 (o5 + 1) x_10.toNatClampNeg) → vp_in (x_10 + (1 : Int32)) 40 ∧ (∀ x_16 : Int32, x_16 = (M_11 (o5 + 1) (x_10 + (1 : Int32)).toNatClampNeg) → q_X5_refusalOfCorner 7 x_14 x_16 M_11 (fun r_18 M_17 => ((r_18 = 0 → q_X0_appendCorner 7 x_14 x_16 M_17 (fun M_19 => r.2.1 v2 v3 v4 o5 r_12 v7 M_19)) ∧ (¬ r_18 = 0 → Q ((-20 : Int32) - v7) M_17))))))))))))
def f_X5_read_140 (Q : Int32 → Mem → Prop) (r : t_X5_read) (v2 : Int32) (v3 : Int32) (v4 : Int32) (o5 : Nat) (v6 : Int32) (v7 : Int32) (M : Mem) : Prop := isSh o5 ∧ r.1 v2 v3 v4 o5 v6 (v7 + 1) M
def f_X5_read_146 (Q : Int32 → Mem → Prop) (r : t_X5_read) (v6 : Int32) (M : Mem) : Prop := q_X0_copyFrom 1 7 M (fun M_20 => Q ((M 7 2) - (M 1 2)) (mU M_20 0 10 v6))
def p_X5_read (Q : Int32 → Mem → Prop) : Nat → t_X5_read
  | 0 => (fun _ _ _ _ _ _ _ => False, fun _ _ _ _ _ _ _ => False, fun _ _ => False)
  | n + 1 => (f_X5_read_52 Q (p_X5_read Q n), f_X5_read_140 Q (p_X5_read Q n), f_X5_read_146 Q (p_X5_read Q n))
def e_X5_read (v1 : Int32) (v2 : Int32) (v3 : Int32) (v4 : Int32) (Q : Int32 → Mem → Prop) (r : t_X5_read) (M : Mem) : Prop := q_X5_isSheet v1 M (fun r_2 M_1 => ((r_2 = 0 → Q (-1 : Int32) M_1) ∧ (¬ r_2 = 0 → q_X5_isLane v2 M_1 (fun r_4 M_3 => ((r_4 = 0 → Q (-1 : Int32) M_3) ∧ (¬ r_4 = 0 → q_X5_within v4 (0 : Int32) (20 : Int32) M_3 (fun r_6 M_5 => ((¬ r_6 = 0 → vp_in v1 4 ∧ isSh (43 + 2 * v1.toNatClampNeg) ∧ q_X0_copyFrom 7 1 M_5 (fun M_9 => r.1 v2 v3 v4 (43 + 2 * v1.toNatClampNeg) (0 : Int32) (0 : Int32) M_9)) ∧ (r_6 = 0 → Q (-1 : Int32) M_5)))))))))
def q_X5_read (v1 : Int32) (v2 : Int32) (v3 : Int32) (v4 : Int32) (M : Mem) (Q : Int32 → Mem → Prop) : Prop := ∃ n : Nat, e_X5_read v1 v2 v3 v4 Q (p_X5_read Q n) M
set_option maxRecDepth 100000 in
set_option maxHeartbeats 4000000 in
theorem b_X5_read {l : Launch} {K : wC} {Q : Int32 → Mem → Prop} {p : Program} {e : Env} {s : State} {m : MethodId} {args : Array Value} {below : List Frame} {meth : Method} {c : Code} (C : cx 51 K p s m args meth c cX5_read 11 wsX5_read RX5 (some .int)) : ∀ n : Nat, (∀ (v2 : Int32) (v3 : Int32) (v4 : Int32) (o5 : Nat) (v6 : Int32) (v7 : Int32) (M : Mem) (H : Heap) (locs : List Loc) (ls : Array Slot), (p_X5_read Q n).1 v2 v3 v4 o5 v6 v7 M → wP shX 51 K M H → va_S (wA 51 K) s.heap H locs → lv_has ls 11 [(0, .ref (kb K + 0)), (2, .int v2), (3, .int v3), (4, .int v4), (5, .ref (kb K + o5)), (6, .int v6), (7, .int v7)] → W p l e rmX5_read s m args below meth c H locs 0 0 (MQ below (va_Qi Q (wE shX 51 K) (wA 51 K)) args s 0 0 (wA 51 K)) (F0 m 52 ls [])) ∧ (∀ (v2 : Int32) (v3 : Int32) (v4 : Int32) (o5 : Nat) (v6 : Int32) (v7 : Int32) (M : Mem) (H : Heap) (locs : List Loc) (ls : Array Slot), (p_X5_read Q n).2.1 v2 v3 v4 o5 v6 v7 M → wP shX 51 K M H → va_S (wA 51 K) s.heap H locs → lv_has ls 11 [(0, .ref (kb K + 0)), (2, .int v2), (3, .int v3), (4, .int v4), (5, .ref (kb K + o5)), (6, .int v6), (7, .int v7)] → W p l e rmX5_read s m args below meth c H locs 0 0 (MQ below (va_Qi Q (wE shX 51 K) (wA 51 K)) args s 0 0 (wA 51 K)) (F0 m 140 ls [])) ∧ (∀ (v6 : Int32) (M : Mem) (H : Heap) (locs : List Loc) (ls : Array Slot), (p_X5_read Q n).2.2 v6 M → wP shX 51 K M H → va_S (wA 51 K) s.heap H locs → lv_has ls 11 [(0, .ref (kb K + 0)), (6, .int v6)] → W p l e rmX5_read s m args below meth c H locs 0 0 (MQ below (va_Qi Q (wE shX 51 K) (wA 51 K)) args s 0 0 (wA 51 K)) (F0 m 146 ls [])) := by
  obtain ⟨hx, hb, hml, hown, hts, hr, hlk, hK⟩ := id C
  intro n
  induction n with
  | zero => exact ⟨fun _ _ _ _ _ _ _ _ _ _ hw _ _ _ => False.elim hw, fun _ _ _ _ _ _ _ _ _ _ hw _ _ _ => False.elim hw, fun _ _ _ _ _ hw _ _ _ => False.elim hw⟩
  | succ n ih =>
    refine ⟨?_, ?_, ?_⟩
    · intro v2 v3 v4 o5 v6 v7 M H locs ls hw hP hS hl
      have hw : f_X5_read_52 Q (p_X5_read Q n) v2 v3 v4 o5 v6 v7 M := hw
      delta f_X5_read_52 at hw
      have ho5 := hw.1
      have hw := hw.2
      refine lv_iload hx hb dX5_read_52 (lv_at hl 6 rfl) ?_
      refine lv_iload hx hb dX5_read_54 (lv_at hl 3 rfl) ?_
      refine lv_icmp_ge (tgt := 146) hx hb dX5_read_56 (by decide) (fun hc => ?_) (fun hc => ?_)
      · have hw := hw.1 hc
        exact ih.2.2 _ _ _ _ _ hw hP hS (lv_sub hl [0, 5] rfl)
      · have hw := hw.2 hc
        refine lv_iload hx hb dX5_read_59 (lv_at hl 5 rfl) ?_
        refine lv_if_ne (tgt := 146) hx hb dX5_read_61 (by decide) (fun hc => ?_) (fun hc => ?_)
        · have hw := hw.1 hc
          exact ih.2.2 _ _ _ _ _ hw hP hS (lv_sub hl [0, 5] rfl)
        · have hw := hw.2 hc
          refine lv_iload_n hx hb dX5_read_64 rfl (lv_at hl 2 rfl) ?_
          refine lv_iconst hx hb dX5_read_65 ic_2 ?_
          refine lv_iload hx hb dX5_read_66 (lv_at hl 6 rfl) ?_
          refine lv_imul hx hb dX5_read_68 ?_
          refine lv_iadd hx hb dX5_read_69 ?_
          refine lv_topi (fun x_10 ex_10 => ?_)
          have hw := hw x_10 ex_10
          refine lv_istore (lv' := [(8, .int x_10), (0, .ref (kb K + 0)), (2, .int v2), (3, .int v3), (4, .int v4), (5, .ref (kb K + o5)), (6, .int v6), (7, .int v7)]) hx hb dX5_read_70 hl (by decide) rfl (fun ls hl => ?_)
          refine lv_aload hx hb dX5_read_72 (lv_at hl 5 rfl) ?_
          refine lv_iload_n hx hb dX5_read_74 rfl (lv_at hl 2 rfl) ?_
          refine lv_iload hx hb dX5_read_75 (lv_at hl 0 rfl) ?_
          refine c_i (run_v (As := [.int v2, .int x_10]) (rest := []) C hP hS (c_X1_faultAtPair ho5 hw) gX5_read_X1_faultAtPair rfl dsX1_faultAtPair rfl ⟨rfl, rfl⟩ ⟨Nat.le_of_ble_eq_true rfl, Nat.le_of_ble_eq_true rfl⟩ (shb0 ho5) (sh0 ho5 K _) rfl hl.1 rfl (Nat.le_of_ble_eq_true rfl) dX5_read_77 ⟨Nat.le_of_ble_eq_true rfl, Nat.le_of_ble_eq_true rfl⟩) hS (fun r_12 M_11 H locs hw hP hS => ?_)
          refine lv_istore (lv' := [(6, .int r_12), (8, .int x_10), (0, .ref (kb K + 0)), (2, .int v2), (3, .int v3), (4, .int v4), (5, .ref (kb K + o5)), (7, .int v7)]) hx hb dX5_read_80 hl (by decide) rfl (fun ls hl => ?_)
          refine lv_iload hx hb dX5_read_82 (lv_at hl 0 rfl) ?_
          refine lv_if_ne (tgt := 140) hx hb dX5_read_84 (by decide) (fun hc => ?_) (fun hc => ?_)
          · have hw := hw.1 hc
            exact ih.2.1 _ _ _ _ _ _ _ _ _ _ hw hP hS (lv_sub hl [2, 3, 4, 5, 6, 0, 7] rfl)
          · have hw := hw.2 hc
            refine lv_aload hx hb dX5_read_87 (lv_at hl 6 rfl) ?_
            refine g_f C hP (shb0 ho5) (sh0 ho5 K _) rfl hX5_read_X1 0 (by decide) kX5_read_f295 rfl dX5_read_89 ?_
            refine lv_iload hx hb dX5_read_92 (lv_at hl 1 rfl) ?_
            have hi_13 := hw.1
            have hw := hw.2
            refine a_il C hP (shb ho5 1 (by decide)) (sh1 ho5 K _) hi_13 rfl dX5_read_94 ?_
            refine lv_topi (fun x_14 ex_14 => ?_)
            have hw := hw x_14 ex_14
            refine lv_istore (lv' := [(9, .int x_14), (6, .int r_12), (8, .int x_10), (0, .ref (kb K + 0)), (2, .int v2), (3, .int v3), (4, .int v4), (5, .ref (kb K + o5)), (7, .int v7)]) hx hb dX5_read_95 hl (by decide) rfl (fun ls hl => ?_)
            refine lv_aload hx hb dX5_read_97 (lv_at hl 7 rfl) ?_
            refine g_f C hP (shb0 ho5) (sh0 ho5 K _) rfl hX5_read_X1 0 (by decide) kX5_read_f295 rfl dX5_read_99 ?_
            refine lv_iload hx hb dX5_read_102 (lv_at hl 2 rfl) ?_
            refine lv_iconst hx hb dX5_read_104 ic_1 ?_
            refine lv_iadd hx hb dX5_read_105 ?_
            have hi_15 := hw.1
            have hw := hw.2
            refine a_il C hP (shb ho5 1 (by decide)) (sh1 ho5 K _) hi_15 rfl dX5_read_106 ?_
            refine lv_topi (fun x_16 ex_16 => ?_)
            have hw := hw x_16 ex_16
            refine lv_istore (lv' := [(10, .int x_16), (9, .int x_14), (6, .int r_12), (8, .int x_10), (0, .ref (kb K + 0)), (2, .int v2), (3, .int v3), (4, .int v4), (5, .ref (kb K + o5)), (7, .int v7)]) hx hb dX5_read_107 hl (by decide) rfl (fun ls hl => ?_)
            refine lv_aload_n hx hb dX5_read_109 rfl (lv_at hl 4 rfl) ?_
            refine g_f C hP (by decide) (sX_0 K _) rfl hX5_read_X5 1 (by decide) kX5_read_f16 rfl dX5_read_110 ?_
            refine lv_iload hx hb dX5_read_113 (lv_at hl 1 rfl) ?_
            refine lv_iload hx hb dX5_read_115 (lv_at hl 0 rfl) ?_
            refine c_i (run_s (As := [.ref (kb K + 7), .int x_14, .int x_16]) (rest := []) C hP hS (c_X5_refusalOfCorner lay_7 hw) gX5_read_X5_refusalOfCorner rfl dsX5_refusalOfCorner rfl ⟨rfl, rfl⟩ ⟨Nat.le_of_ble_eq_true rfl, Nat.le_of_ble_eq_true rfl⟩ hl.1 rfl (Nat.le_of_ble_eq_true rfl) dX5_read_117 ⟨Nat.le_of_ble_eq_true rfl, Nat.le_of_ble_eq_true rfl⟩) hS (fun r_18 M_17 H locs hw hP hS => ?_)
            refine lv_if_eq (tgt := 129) hx hb dX5_read_120 (by decide) (fun hc => ?_) (fun hc => ?_)
            · have hw := hw.1 hc
              refine lv_aload_n hx hb dX5_read_129 rfl (lv_at hl 4 rfl) ?_
              refine g_f C hP (by decide) (sX_0 K _) rfl hX5_read_X5 1 (by decide) kX5_read_f16 rfl dX5_read_130 ?_
              refine lv_iload hx hb dX5_read_133 (lv_at hl 1 rfl) ?_
              refine lv_iload hx hb dX5_read_135 (lv_at hl 0 rfl) ?_
              refine c_v (run_v (As := [.int x_14, .int x_16]) (rest := []) C hP hS (c_X0_appendCorner lay_7 hw) gX5_read_X0_appendCorner rfl dsX0_appendCorner rfl ⟨rfl, rfl⟩ ⟨Nat.le_of_ble_eq_true rfl, Nat.le_of_ble_eq_true rfl⟩ (by decide) (sX_7 K _) rfl hl.1 rfl (Nat.le_of_ble_eq_true rfl) dX5_read_137 ⟨Nat.le_of_ble_eq_true rfl, Nat.le_of_ble_eq_true rfl⟩) hS (fun M_19 H locs hw hP hS => ?_)
              exact ih.2.1 _ _ _ _ _ _ _ _ _ _ hw hP hS (lv_sub hl [4, 5, 6, 7, 8, 2, 9] rfl)
            · have hw := hw.2 hc
              refine lv_bipush hx hb dX5_read_123 bp_m20 ?_
              refine lv_iload hx hb dX5_read_125 (lv_at hl 9 rfl) ?_
              refine lv_isub hx hb dX5_read_127 ?_
              exact r_i C hP hS hw dX5_read_128
    · intro v2 v3 v4 o5 v6 v7 M H locs ls hw hP hS hl
      have hw : f_X5_read_140 Q (p_X5_read Q n) v2 v3 v4 o5 v6 v7 M := hw
      delta f_X5_read_140 at hw
      have ho5 := hw.1
      have hw := hw.2
      refine lv_iinc (v := (v7 + 1)) (lv' := [(7, .int (v7 + 1)), (0, .ref (kb K + 0)), (2, .int v2), (3, .int v3), (4, .int v4), (5, .ref (kb K + o5)), (6, .int v6)]) hx hb dX5_read_140 hl (k := 6) rfl (by rw [ic_1]) (by decide) rfl (fun ls hl => ?_)
      refine lv_goto (tgt := 52) hx hb dX5_read_143 (by decide) ?_
      exact ih.1 _ _ _ _ _ _ _ _ _ _ hw hP hS (lv_sub hl [1, 2, 3, 4, 5, 6, 0] rfl)
    · intro v6 M H locs ls hw hP hS hl
      have hw : f_X5_read_146 Q (p_X5_read Q n) v6 M := hw
      delta f_X5_read_146 at hw
      refine lv_aload_n hx hb dX5_read_146 rfl (lv_at hl 0 rfl) ?_
      refine g_f C hP (by decide) (sX_0 K _) rfl hX5_read_X5 1 (by decide) kX5_read_f16 rfl dX5_read_147 ?_
      refine g_f C hP (by decide) (sX_7 K _) rfl hX5_read_X0 2 (by decide) kX5_read_f99 rfl dX5_read_150 ?_
      refine lv_aload_n hx hb dX5_read_153 rfl (lv_at hl 0 rfl) ?_
      refine g_f C hP (by decide) (sX_0 K _) rfl hX5_read_X5 0 (by decide) kX5_read_f10 rfl dX5_read_154 ?_
      refine g_f C hP (by decide) (sX_1 K _) rfl hX5_read_X0 2 (by decide) kX5_read_f99 rfl dX5_read_157 ?_
      refine lv_isub hx hb dX5_read_160 ?_
      refine lv_istore (lv' := [(7, .int ((M 7 2) - (M 1 2))), (0, .ref (kb K + 0)), (6, .int v6)]) hx hb dX5_read_161 hl (by decide) rfl (fun ls hl => ?_)
      refine lv_aload_n hx hb dX5_read_163 rfl (lv_at hl 1 rfl) ?_
      refine g_f C hP (by decide) (sX_0 K _) rfl hX5_read_X5 0 (by decide) kX5_read_f10 rfl dX5_read_164 ?_
      refine lv_aload_n hx hb dX5_read_167 rfl (lv_at hl 1 rfl) ?_
      refine g_f C hP (by decide) (sX_0 K _) rfl hX5_read_X5 1 (by decide) kX5_read_f16 rfl dX5_read_168 ?_
      refine c_v (run_v (As := [.ref (kb K + 7)]) (rest := []) C hP hS (c_X0_copyFrom lay_1 lay_7 hw) gX5_read_X0_copyFrom rfl dsX0_copyFrom rfl ⟨rfl, rfl⟩ ⟨Nat.le_of_ble_eq_true rfl, Nat.le_of_ble_eq_true rfl⟩ (by decide) (sX_1 K _) rfl hl.1 rfl (Nat.le_of_ble_eq_true rfl) dX5_read_171 ⟨Nat.le_of_ble_eq_true rfl, Nat.le_of_ble_eq_true rfl⟩) hS (fun M_20 H locs hw hP hS => ?_)
      refine lv_aload_n hx hb dX5_read_174 rfl (lv_at hl 1 rfl) ?_
      refine lv_iload hx hb dX5_read_175 (lv_at hl 2 rfl) ?_
      refine p_f C hP hS (by decide) (sX_0 K _) (sX_0 K _) rfl hX5_read_X5 tyX5_ok nmX5 (by decide) kX5_read_f58 rfl rfl rfl (Nat.le_of_ble_eq_true rfl) dX5_read_177 (fun H locs hP hS => ?_)
      refine lv_iload hx hb dX5_read_180 (lv_at hl 0 rfl) ?_
      exact r_i C hP hS hw dX5_read_182
theorem dsX5_read : yX5_read.cls = RX5 ∧ yX5_read.cls ≠ "java/lang/invoke/MethodHandle" ∧ yX5_read.cls ≠ "java/lang/invoke/VarHandle" ∧ (parseMethodDescriptor yX5_read.desc).map (fun d => d.parameters.length) = some 4 := by decide +kernel
set_option maxRecDepth 100000 in
set_option maxHeartbeats 4000000 in
theorem c_X5_read {l : Launch} {K : wC} {v1 : Int32} {v2 : Int32} {v3 : Int32} {v4 : Int32} {M : Mem} {Q : Int32 → Mem → Prop} (hw : q_X5_read v1 v2 v3 v4 M Q) : metI l yX5_read wsX5_read rmX5_read shX 51 K [.ref (kb K + 0), .int v1, .int v2, .int v3, .int v4] M Q := by
  refine met_of (cc := cX5_read) (maxL := 11) (ret := (some .int)) (own := RX5) (by decide) rfl rfl (Nat.le_of_ble_eq_true rfl) ?_
  intro p e s m below meth c ls C hl hP hS
  have hl : lv_has ls 11 [(0, .ref (kb K + 0)), (1, .int v1), (2, .int v2), (3, .int v3), (4, .int v4)] := hl
  obtain ⟨hx, hb, hml, hown, hts, hr, hlk, hK⟩ := id C
  have hP0 := hP
  obtain ⟨n, hw⟩ := hw
  have ih := b_X5_read (l := l) (e := e) (below := below) (Q := Q) C n
  delta e_X5_read at hw
  refine lv_iload_n hx hb dX5_read_0 rfl (lv_at hl 1 rfl) ?_
  refine c_i (run_s (As := [.int v1]) (rest := []) C hP hS (c_X5_isSheet hw) gX5_read_X5_isSheet rfl dsX5_isSheet rfl ⟨rfl, rfl⟩ ⟨Nat.le_of_ble_eq_true rfl, Nat.le_of_ble_eq_true rfl⟩ hl.1 rfl (Nat.le_of_ble_eq_true rfl) dX5_read_1 ⟨Nat.le_of_ble_eq_true rfl, Nat.le_of_ble_eq_true rfl⟩) hS (fun r_2 M_1 H locs hw hP hS => ?_)
  refine lv_if_eq (tgt := 25) hx hb dX5_read_4 (by decide) (fun hc => ?_) (fun hc => ?_)
  · have hw := hw.1 hc
    refine lv_iconst hx hb dX5_read_25 ic_m1 ?_
    exact r_i C hP hS hw dX5_read_26
  · have hw := hw.2 hc
    refine lv_iload_n hx hb dX5_read_7 rfl (lv_at hl 2 rfl) ?_
    refine c_i (run_s (As := [.int v2]) (rest := []) C hP hS (c_X5_isLane hw) gX5_read_X5_isLane rfl dsX5_isLane rfl ⟨rfl, rfl⟩ ⟨Nat.le_of_ble_eq_true rfl, Nat.le_of_ble_eq_true rfl⟩ hl.1 rfl (Nat.le_of_ble_eq_true rfl) dX5_read_8 ⟨Nat.le_of_ble_eq_true rfl, Nat.le_of_ble_eq_true rfl⟩) hS (fun r_4 M_3 H locs hw hP hS => ?_)
    refine lv_if_eq (tgt := 25) hx hb dX5_read_11 (by decide) (fun hc => ?_) (fun hc => ?_)
    · have hw := hw.1 hc
      refine lv_iconst hx hb dX5_read_25 ic_m1 ?_
      exact r_i C hP hS hw dX5_read_26
    · have hw := hw.2 hc
      refine lv_iload hx hb dX5_read_14 (lv_at hl 4 rfl) ?_
      refine lv_iconst hx hb dX5_read_16 ic_0 ?_
      refine lv_bipush hx hb dX5_read_17 bp_20 ?_
      refine c_i (run_s (As := [.int v4, .int (0 : Int32), .int (20 : Int32)]) (rest := []) C hP hS (c_X5_within hw) gX5_read_X5_within rfl dsX5_within rfl ⟨rfl, rfl⟩ ⟨Nat.le_of_ble_eq_true rfl, Nat.le_of_ble_eq_true rfl⟩ hl.1 rfl (Nat.le_of_ble_eq_true rfl) dX5_read_19 ⟨Nat.le_of_ble_eq_true rfl, Nat.le_of_ble_eq_true rfl⟩) hS (fun r_6 M_5 H locs hw hP hS => ?_)
      refine lv_if_ne (tgt := 27) hx hb dX5_read_22 (by decide) (fun hc => ?_) (fun hc => ?_)
      · have hw := hw.1 hc
        refine lv_aload_n hx hb dX5_read_27 rfl (lv_at hl 0 rfl) ?_
        refine g_f C hP (by decide) (sX_0 K _) rfl hX5_read_X5 6 (by decide) kX5_read_f43 rfl dX5_read_28 ?_
        refine lv_iload_n hx hb dX5_read_31 rfl (lv_at hl 1 rfl) ?_
        have hi_7 := hw.1
        have hq_8 := hw.2.1
        have hw := hw.2.2
        refine a_ql C hP (by decide) (sX_28 K _) (t0 := 4) rfl hi_7 rfl dX5_read_32 ?_
        refine lv_astore (lv' := [(5, .ref (kb K + (43 + 2 * v1.toNatClampNeg))), (0, .ref (kb K + 0)), (1, .int v1), (2, .int v2), (3, .int v3), (4, .int v4)]) hx hb dX5_read_33 hl (by decide) rfl (fun ls hl => ?_)
        refine lv_aload_n hx hb dX5_read_35 rfl (lv_at hl 1 rfl) ?_
        refine g_f C hP (by decide) (sX_0 K _) rfl hX5_read_X5 1 (by decide) kX5_read_f16 rfl dX5_read_36 ?_
        refine lv_aload_n hx hb dX5_read_39 rfl (lv_at hl 1 rfl) ?_
        refine g_f C hP (by decide) (sX_0 K _) rfl hX5_read_X5 0 (by decide) kX5_read_f10 rfl dX5_read_40 ?_
        refine c_v (run_v (As := [.ref (kb K + 1)]) (rest := []) C hP hS (c_X0_copyFrom lay_7 lay_1 hw) gX5_read_X0_copyFrom rfl dsX0_copyFrom rfl ⟨rfl, rfl⟩ ⟨Nat.le_of_ble_eq_true rfl, Nat.le_of_ble_eq_true rfl⟩ (by decide) (sX_7 K _) rfl hl.1 rfl (Nat.le_of_ble_eq_true rfl) dX5_read_43 ⟨Nat.le_of_ble_eq_true rfl, Nat.le_of_ble_eq_true rfl⟩) hS (fun M_9 H locs hw hP hS => ?_)
        refine lv_iconst hx hb dX5_read_46 ic_0 ?_
        refine lv_istore (lv' := [(6, .int (0 : Int32)), (5, .ref (kb K + (43 + 2 * v1.toNatClampNeg))), (0, .ref (kb K + 0)), (1, .int v1), (2, .int v2), (3, .int v3), (4, .int v4)]) hx hb dX5_read_47 hl (by decide) rfl (fun ls hl => ?_)
        refine lv_iconst hx hb dX5_read_49 ic_0 ?_
        refine lv_istore (lv' := [(7, .int (0 : Int32)), (6, .int (0 : Int32)), (5, .ref (kb K + (43 + 2 * v1.toNatClampNeg))), (0, .ref (kb K + 0)), (1, .int v1), (2, .int v2), (3, .int v3), (4, .int v4)]) hx hb dX5_read_50 hl (by decide) rfl (fun ls hl => ?_)
        exact ih.1 _ _ _ _ _ _ _ _ _ _ hw hP hS (lv_sub hl [3, 5, 6, 7, 2, 1, 0] rfl)
      · have hw := hw.2 hc
        refine lv_iconst hx hb dX5_read_25 ic_m1 ?_
        exact r_i C hP hS hw dX5_read_26

theorem kX5_torn_f58 : Cond.fieldLink RX5 58 (TX5 10).1 (TX5 10).2.1 (TX5 10).2.2.1 ∈ wsX5_torn := List.mem_of_getElem? (i := 1) rfl
theorem hX5_torn_X5 : ∀ w ∈ u_ws RX5 TX5 11, w ∈ wsX5_torn := fun _ h => List.mem_cons_of_mem _ (List.mem_append_right _ (h))
abbrev rmX5_torn : Room := { frames := 0, cells := 0, slots := 0, locals := 0 }
def q_X5_torn (M : Mem) (Q : Int32 → Mem → Prop) : Prop := Q (M 0 10) M
theorem dsX5_torn : yX5_torn.cls = RX5 ∧ yX5_torn.cls ≠ "java/lang/invoke/MethodHandle" ∧ yX5_torn.cls ≠ "java/lang/invoke/VarHandle" ∧ (parseMethodDescriptor yX5_torn.desc).map (fun d => d.parameters.length) = some 0 := by decide +kernel
set_option maxRecDepth 100000 in
set_option maxHeartbeats 4000000 in
theorem c_X5_torn {l : Launch} {K : wC} {M : Mem} {Q : Int32 → Mem → Prop} (hw : q_X5_torn M Q) : metI l yX5_torn wsX5_torn rmX5_torn shX 51 K [.ref (kb K + 0)] M Q := by
  refine met_of (cc := cX5_torn) (maxL := 1) (ret := (some .int)) (own := RX5) (by decide) rfl rfl (Nat.le_of_ble_eq_true rfl) ?_
  intro p e s m below meth c ls C hl hP hS
  have hl : lv_has ls 1 [(0, .ref (kb K + 0))] := hl
  obtain ⟨hx, hb, hml, hown, hts, hr, hlk, hK⟩ := id C
  have hP0 := hP
  delta q_X5_torn at hw
  refine lv_aload_n hx hb dX5_torn_0 rfl (lv_at hl 0 rfl) ?_
  refine g_f C hP (by decide) (sX_0 K _) rfl hX5_torn_X5 10 (by decide) kX5_torn_f58 rfl dX5_torn_1 ?_
  exact r_i C hP hS hw dX5_torn_4

theorem kX5_count_f37 : Cond.fieldLink RX5 37 (TX5 5).1 (TX5 5).2.1 (TX5 5).2.2.1 ∈ wsX5_count := List.mem_of_getElem? (i := 1) rfl
theorem hX5_count_X5 : ∀ w ∈ u_ws RX5 TX5 11, w ∈ wsX5_count := fun _ h => List.mem_cons_of_mem _ (List.mem_append_left _ (List.mem_append_left _ (List.mem_append_left _ (List.mem_append_left _ (List.mem_append_left _ (List.mem_append_right _ (h)))))))
theorem kX5_count_f95 : Cond.fieldLink RX5 95 (TX2 3).1 (TX2 3).2.1 (TX2 3).2.2.1 ∈ wsX5_count := List.mem_of_getElem? (i := 2) rfl
theorem hX5_count_X2 : ∀ w ∈ u_ws RX2 TX2 4, w ∈ wsX5_count := fun _ h => List.mem_cons_of_mem _ (List.mem_append_left _ (List.mem_append_left _ (List.mem_append_left _ (List.mem_append_left _ (List.mem_append_right _ (h))))))
theorem kX5_count_f23 : Cond.fieldLink RX5 23 (TX5 3).1 (TX5 3).2.1 (TX5 3).2.2.1 ∈ wsX5_count := List.mem_of_getElem? (i := 3) rfl
theorem kX5_count_f30 : Cond.fieldLink RX5 30 (TX5 4).1 (TX5 4).2.1 (TX5 4).2.2.1 ∈ wsX5_count := List.mem_of_getElem? (i := 4) rfl
theorem kX5_count_f66 : Cond.fieldLink RX5 66 (TX4 0).1 (TX4 0).2.1 (TX4 0).2.2.1 ∈ wsX5_count := List.mem_of_getElem? (i := 5) rfl
theorem hX5_count_X4 : ∀ w ∈ u_ws RX4 TX4 6, w ∈ wsX5_count := fun _ h => List.mem_cons_of_mem _ (List.mem_append_left _ (List.mem_append_left _ (List.mem_append_left _ (List.mem_append_right _ (h)))))
theorem kX5_count_f70 : Cond.fieldLink RX5 70 (TX3 1).1 (TX3 1).2.1 (TX3 1).2.2.1 ∈ wsX5_count := List.mem_of_getElem? (i := 6) rfl
theorem hX5_count_X3 : ∀ w ∈ u_ws RX3 TX3 5, w ∈ wsX5_count := fun _ h => List.mem_cons_of_mem _ (List.mem_append_left _ (List.mem_append_left _ (List.mem_append_right _ (h))))
theorem kX5_count_f43 : Cond.fieldLink RX5 43 (TX5 6).1 (TX5 6).2.1 (TX5 6).2.2.1 ∈ wsX5_count := List.mem_of_getElem? (i := 7) rfl
theorem kX5_count_f302 : Cond.fieldLink RX5 302 (TX1 2).1 (TX1 2).2.1 (TX1 2).2.2.1 ∈ wsX5_count := List.mem_of_getElem? (i := 8) rfl
theorem hX5_count_X1 : ∀ w ∈ u_ws RX1 TX1 3, w ∈ wsX5_count := fun _ h => List.mem_cons_of_mem _ (List.mem_append_left _ (List.mem_append_right _ (h)))
theorem kX5_count_f10 : Cond.fieldLink RX5 10 (TX5 0).1 (TX5 0).2.1 (TX5 0).2.2.1 ∈ wsX5_count := List.mem_of_getElem? (i := 9) rfl
abbrev rmX5_count : Room := { frames := 1, cells := 0, slots := 0, locals := 22 }
def f_X5_count_76 (Q : Int32 → Mem → Prop) (s0 : Int32) (s1 : Int32) (M : Mem) : Prop := Q (s1 + s0) M
def f_X5_count_62 (Q : Int32 → Mem → Prop) (s0 : Int32) (M : Mem) : Prop := (((M 14 1) = 0 → f_X5_count_76 Q (0 : Int32) s0 M) ∧ (¬ (M 14 1) = 0 → f_X5_count_76 Q (1 : Int32) s0 M))
def q_X5_count (v1 : Int32) (M : Mem) (Q : Int32 → Mem → Prop) : Prop := ((v1 = 0 → Q (M 24 3) M) ∧ (¬ v1 = 0 → ((v1 = 1 → (((M 14 0) = 0 → f_X5_count_62 Q (0 : Int32) M) ∧ (¬ (M 14 0) = 0 → f_X5_count_62 Q (1 : Int32) M))) ∧ (¬ v1 = 1 → ((v1 = 2 → Q (M 16 1) M) ∧ (¬ v1 = 2 → ((v1 = 3 → q_X1_isNothing 43 M (fun r_2 M_1 => ((r_2 = 0 → Q (M_1 43 2) M_1) ∧ (¬ r_2 = 0 → Q (-4 : Int32) M_1)))) ∧ (¬ v1 = 3 → ((v1 = 4 → q_X0_sumOfSteps 1 M (fun r_4 M_3 => Q r_4 M_3)) ∧ (¬ v1 = 4 → ((v1 = 5 → q_X0_sumOfPlaces 1 M (fun r_6 M_5 => Q r_6 M_5)) ∧ (¬ v1 = 5 → Q (-1 : Int32) M))))))))))))
set_option maxRecDepth 100000 in
set_option maxHeartbeats 4000000 in
theorem b_X5_count_76 {l : Launch} {K : wC} {Q : Int32 → Mem → Prop} {p : Program} {e : Env} {s : State} {m : MethodId} {args : Array Value} {below : List Frame} {meth : Method} {c : Code} (C : cx 51 K p s m args meth c cX5_count 2 wsX5_count RX5 (some .int)) (s0 : Int32) (s1 : Int32) (M : Mem) (H : Heap) (locs : List Loc) (ls : Array Slot) (hw : f_X5_count_76 Q s0 s1 M) (hP : wP shX 51 K M H) (hS : va_S (wA 51 K) s.heap H locs) (hl : lv_has ls 2 []) : W p l e rmX5_count s m args below meth c H locs 0 0 (MQ below (va_Qi Q (wE shX 51 K) (wA 51 K)) args s 0 0 (wA 51 K)) (F0 m 76 ls [.int s0, .int s1]) := by
  obtain ⟨hx, hb, hml, hown, hts, hr, hlk, hK⟩ := id C
  delta f_X5_count_76 at hw
  refine lv_iadd hx hb dX5_count_76 ?_
  exact r_i C hP hS hw dX5_count_77
set_option maxRecDepth 100000 in
set_option maxHeartbeats 4000000 in
theorem b_X5_count_62 {l : Launch} {K : wC} {Q : Int32 → Mem → Prop} {p : Program} {e : Env} {s : State} {m : MethodId} {args : Array Value} {below : List Frame} {meth : Method} {c : Code} (C : cx 51 K p s m args meth c cX5_count 2 wsX5_count RX5 (some .int)) (s0 : Int32) (M : Mem) (H : Heap) (locs : List Loc) (ls : Array Slot) (hw : f_X5_count_62 Q s0 M) (hP : wP shX 51 K M H) (hS : va_S (wA 51 K) s.heap H locs) (hl : lv_has ls 2 [(0, .ref (kb K + 0))]) : W p l e rmX5_count s m args below meth c H locs 0 0 (MQ below (va_Qi Q (wE shX 51 K) (wA 51 K)) args s 0 0 (wA 51 K)) (F0 m 62 ls [.int s0]) := by
  obtain ⟨hx, hb, hml, hown, hts, hr, hlk, hK⟩ := id C
  delta f_X5_count_62 at hw
  refine lv_aload_n hx hb dX5_count_62 rfl (lv_at hl 0 rfl) ?_
  refine g_f C hP (by decide) (sX_0 K _) rfl hX5_count_X5 3 (by decide) kX5_count_f23 rfl dX5_count_63 ?_
  refine lv_iconst hx hb dX5_count_66 ic_1 ?_
  refine a_zl C hP (by decide) (sX_14 K _) vi_1_2 ti_1 dX5_count_67 ?_
  refine lv_if_eq (tgt := 75) hx hb dX5_count_68 (by decide) (fun hc => ?_) (fun hc => ?_)
  · have hw := hw.1 hc
    refine lv_iconst hx hb dX5_count_75 ic_0 ?_
    exact b_X5_count_76 C _ _ _ _ _ _ hw hP hS (lv_sub hl [] rfl)
  · have hw := hw.2 hc
    refine lv_iconst hx hb dX5_count_71 ic_1 ?_
    refine lv_goto (tgt := 76) hx hb dX5_count_72 (by decide) ?_
    exact b_X5_count_76 C _ _ _ _ _ _ hw hP hS (lv_sub hl [] rfl)
theorem dsX5_count : yX5_count.cls = RX5 ∧ yX5_count.cls ≠ "java/lang/invoke/MethodHandle" ∧ yX5_count.cls ≠ "java/lang/invoke/VarHandle" ∧ (parseMethodDescriptor yX5_count.desc).map (fun d => d.parameters.length) = some 1 := by decide +kernel
set_option maxRecDepth 100000 in
set_option maxHeartbeats 4000000 in
theorem c_X5_count {l : Launch} {K : wC} {v1 : Int32} {M : Mem} {Q : Int32 → Mem → Prop} (hw : q_X5_count v1 M Q) : metI l yX5_count wsX5_count rmX5_count shX 51 K [.ref (kb K + 0), .int v1] M Q := by
  refine met_of (cc := cX5_count) (maxL := 2) (ret := (some .int)) (own := RX5) (by decide) rfl rfl (Nat.le_of_ble_eq_true rfl) ?_
  intro p e s m below meth c ls C hl hP hS
  have hl : lv_has ls 2 [(0, .ref (kb K + 0)), (1, .int v1)] := hl
  obtain ⟨hx, hb, hml, hown, hts, hr, hlk, hK⟩ := id C
  have hP0 := hP
  delta q_X5_count at hw
  refine lv_iload_n hx hb dX5_count_0 rfl (lv_at hl 1 rfl) ?_
  by_cases hs0 : v1 = 0
  · have hw := hw.1 hs0
    refine lv_tableIn (tgt := 40) hx hb dX5_count_1 (by rw [hs0]; decide) (by rw [hs0]; decide) (by rw [hs0]; rfl) (by decide) ?_
    refine lv_aload_n hx hb dX5_count_40 rfl (lv_at hl 0 rfl) ?_
    refine g_f C hP (by decide) (sX_0 K _) rfl hX5_count_X5 5 (by decide) kX5_count_f37 rfl dX5_count_41 ?_
    refine g_f C hP (by decide) (sX_24 K _) rfl hX5_count_X2 3 (by decide) kX5_count_f95 rfl dX5_count_44 ?_
    exact r_i C hP hS hw dX5_count_47
  · have hw := hw.2 hs0
    by_cases hs1 : v1 = 1
    · have hw := hw.1 hs1
      refine lv_tableIn (tgt := 48) hx hb dX5_count_1 (by rw [hs1]; decide) (by rw [hs1]; decide) (by rw [hs1]; rfl) (by decide) ?_
      refine lv_aload_n hx hb dX5_count_48 rfl (lv_at hl 0 rfl) ?_
      refine g_f C hP (by decide) (sX_0 K _) rfl hX5_count_X5 3 (by decide) kX5_count_f23 rfl dX5_count_49 ?_
      refine lv_iconst hx hb dX5_count_52 ic_0 ?_
      refine a_zl C hP (by decide) (sX_14 K _) vi_0_2 ti_0 dX5_count_53 ?_
      refine lv_if_eq (tgt := 61) hx hb dX5_count_54 (by decide) (fun hc => ?_) (fun hc => ?_)
      · have hw := hw.1 hc
        refine lv_iconst hx hb dX5_count_61 ic_0 ?_
        exact b_X5_count_62 C _ _ _ _ _ hw hP hS (lv_sub hl [0] rfl)
      · have hw := hw.2 hc
        refine lv_iconst hx hb dX5_count_57 ic_1 ?_
        refine lv_goto (tgt := 62) hx hb dX5_count_58 (by decide) ?_
        exact b_X5_count_62 C _ _ _ _ _ hw hP hS (lv_sub hl [0] rfl)
    · have hw := hw.2 hs1
      by_cases hs2 : v1 = 2
      · have hw := hw.1 hs2
        refine lv_tableIn (tgt := 78) hx hb dX5_count_1 (by rw [hs2]; decide) (by rw [hs2]; decide) (by rw [hs2]; rfl) (by decide) ?_
        refine lv_aload_n hx hb dX5_count_78 rfl (lv_at hl 0 rfl) ?_
        refine g_f C hP (by decide) (sX_0 K _) rfl hX5_count_X5 4 (by decide) kX5_count_f30 rfl dX5_count_79 ?_
        refine g_f C hP (by decide) (sX_15 K _) rfl hX5_count_X4 0 (by decide) kX5_count_f66 rfl dX5_count_82 ?_
        refine g_f C hP (by decide) (sX_16 K _) rfl hX5_count_X3 1 (by decide) kX5_count_f70 rfl dX5_count_85 ?_
        exact r_i C hP hS hw dX5_count_88
      · have hw := hw.2 hs2
        by_cases hs3 : v1 = 3
        · have hw := hw.1 hs3
          refine lv_tableIn (tgt := 89) hx hb dX5_count_1 (by rw [hs3]; decide) (by rw [hs3]; decide) (by rw [hs3]; rfl) (by decide) ?_
          refine lv_aload_n hx hb dX5_count_89 rfl (lv_at hl 0 rfl) ?_
          refine g_f C hP (by decide) (sX_0 K _) rfl hX5_count_X5 6 (by decide) kX5_count_f43 rfl dX5_count_90 ?_
          refine lv_iconst hx hb dX5_count_93 ic_0 ?_
          refine a_ql C hP (by decide) (sX_28 K _) (t0 := 4) rfl vi_0_4 (a := kb K + 43) rfl dX5_count_94 ?_
          refine c_i (run_v (As := []) (rest := []) C hP hS (c_X1_isNothing sh_43 hw) gX5_count_X1_isNothing rfl dsX1_isNothing rfl ⟨rfl, rfl⟩ ⟨Nat.le_of_ble_eq_true rfl, Nat.le_of_ble_eq_true rfl⟩ (by decide) (sX_43 K _) rfl hl.1 rfl (Nat.le_of_ble_eq_true rfl) dX5_count_95 ⟨Nat.le_of_ble_eq_true rfl, Nat.le_of_ble_eq_true rfl⟩) hS (fun r_2 M_1 H locs hw hP hS => ?_)
          refine lv_if_eq (tgt := 106) hx hb dX5_count_98 (by decide) (fun hc => ?_) (fun hc => ?_)
          · have hw := hw.1 hc
            refine lv_aload_n hx hb dX5_count_106 rfl (lv_at hl 0 rfl) ?_
            refine g_f C hP (by decide) (sX_0 K _) rfl hX5_count_X5 6 (by decide) kX5_count_f43 rfl dX5_count_107 ?_
            refine lv_iconst hx hb dX5_count_110 ic_0 ?_
            refine a_ql C hP (by decide) (sX_28 K _) (t0 := 4) rfl vi_0_4 (a := kb K + 43) rfl dX5_count_111 ?_
            refine g_f C hP (by decide) (sX_43 K _) rfl hX5_count_X1 2 (by decide) kX5_count_f302 rfl dX5_count_112 ?_
            exact r_i C hP hS hw dX5_count_115
          · have hw := hw.2 hc
            refine lv_bipush hx hb dX5_count_101 bp_m4 ?_
            refine lv_goto (tgt := 115) hx hb dX5_count_103 (by decide) ?_
            exact r_i C hP hS hw dX5_count_115
        · have hw := hw.2 hs3
          by_cases hs4 : v1 = 4
          · have hw := hw.1 hs4
            refine lv_tableIn (tgt := 116) hx hb dX5_count_1 (by rw [hs4]; decide) (by rw [hs4]; decide) (by rw [hs4]; rfl) (by decide) ?_
            refine lv_aload_n hx hb dX5_count_116 rfl (lv_at hl 0 rfl) ?_
            refine g_f C hP (by decide) (sX_0 K _) rfl hX5_count_X5 0 (by decide) kX5_count_f10 rfl dX5_count_117 ?_
            refine c_i (run_v (As := []) (rest := []) C hP hS (c_X0_sumOfSteps lay_1 hw) gX5_count_X0_sumOfSteps rfl dsX0_sumOfSteps rfl ⟨rfl, rfl⟩ ⟨Nat.le_of_ble_eq_true rfl, Nat.le_of_ble_eq_true rfl⟩ (by decide) (sX_1 K _) rfl hl.1 rfl (Nat.le_of_ble_eq_true rfl) dX5_count_120 ⟨Nat.le_of_ble_eq_true rfl, Nat.le_of_ble_eq_true rfl⟩) hS (fun r_4 M_3 H locs hw hP hS => ?_)
            exact r_i C hP hS hw dX5_count_123
          · have hw := hw.2 hs4
            by_cases hs5 : v1 = 5
            · have hw := hw.1 hs5
              refine lv_tableIn (tgt := 124) hx hb dX5_count_1 (by rw [hs5]; decide) (by rw [hs5]; decide) (by rw [hs5]; rfl) (by decide) ?_
              refine lv_aload_n hx hb dX5_count_124 rfl (lv_at hl 0 rfl) ?_
              refine g_f C hP (by decide) (sX_0 K _) rfl hX5_count_X5 0 (by decide) kX5_count_f10 rfl dX5_count_125 ?_
              refine c_i (run_v (As := []) (rest := []) C hP hS (c_X0_sumOfPlaces lay_1 hw) gX5_count_X0_sumOfPlaces rfl dsX0_sumOfPlaces rfl ⟨rfl, rfl⟩ ⟨Nat.le_of_ble_eq_true rfl, Nat.le_of_ble_eq_true rfl⟩ (by decide) (sX_1 K _) rfl hl.1 rfl (Nat.le_of_ble_eq_true rfl) dX5_count_128 ⟨Nat.le_of_ble_eq_true rfl, Nat.le_of_ble_eq_true rfl⟩) hS (fun r_6 M_5 H locs hw hP hS => ?_)
              exact r_i C hP hS hw dX5_count_131
            · have hw := hw.2 hs5
              have nhs0 : v1.toInt ≠ 0 := ne_toInt hs0
              have nhs1 : v1.toInt ≠ 1 := ne_toInt hs1
              have nhs2 : v1.toInt ≠ 2 := ne_toInt hs2
              have nhs3 : v1.toInt ≠ 3 := ne_toInt hs3
              have nhs4 : v1.toInt ≠ 4 := ne_toInt hs4
              have nhs5 : v1.toInt ≠ 5 := ne_toInt hs5
              refine lv_tableOut (tgt := 132) hx hb dX5_count_1 (by omega) (by decide) ?_
              refine lv_iconst hx hb dX5_count_132 ic_m1 ?_
              exact r_i C hP hS hw dX5_count_133
