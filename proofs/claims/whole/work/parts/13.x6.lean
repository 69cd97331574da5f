abbrev rmX6_in : Room := { frames := 0, cells := 0, slots := 0, locals := 0 }
def q_X6_in (v0 : Int64) (v2 : Int64) (v4 : Int64) (M : Mem) (Q : Int32 → Mem → Prop) : Prop := (((lg_cmp v0 v2) < 0 → Q (0 : Int32) M) ∧ (¬ (lg_cmp v0 v2) < 0 → ((0 < (lg_cmp v0 v4) → Q (0 : Int32) M) ∧ (¬ 0 < (lg_cmp v0 v4) → Q (1 : Int32) M))))
theorem dsX6_in : yX6_in.cls ≠ "java/lang/invoke/MethodHandle" ∧ yX6_in.cls ≠ "java/lang/invoke/VarHandle" ∧ (parseMethodDescriptor yX6_in.desc).map (fun d => d.parameters.length) = some 3 := by decide +kernel
set_option maxRecDepth 100000 in
set_option maxHeartbeats 4000000 in
theorem c_X6_in {l : Launch} {K : wC} {v0 : Int64} {v2 : Int64} {v4 : Int64} {M : Mem} {Q : Int32 → Mem → Prop} (hw : q_X6_in v0 v2 v4 M Q) : metI l yX6_in wsX6_in rmX6_in shM 12 K [.long v0, .long v2, .long v4] M Q := by
  refine met_of (cc := cX6_in) (maxL := 6) (ret := (some .boolean)) (own := RX6) (by decide) rfl rfl (Nat.le_of_ble_eq_true rfl) ?_
  intro p e s m below meth c ls C hl hP hS
  have hl : lv_has ls 6 [(0, .long v0), (2, .long v2), (4, .long v4)] := hl
  obtain ⟨hx, hb, hml, hown, hts, hr, hlk, hK⟩ := id C
  have hP0 := hP
  delta q_X6_in at hw
  refine lv_lload_n hx hb dX6_in_0 rfl (lv_at hl 0 rfl) ?_
  refine lv_lload_n hx hb dX6_in_1 rfl (lv_at hl 1 rfl) ?_
  refine W.lcmp hx hb dX6_in_2 ?_
  refine lv_if_lt (tgt := 17) hx hb dX6_in_3 (by decide) (fun hc => ?_) (fun hc => ?_)
  · have hw := hw.1 hc
    refine lv_iconst hx hb dX6_in_17 ic_0 ?_
    exact r_z C (by decide) hP hS hw dX6_in_18
  · have hw := hw.2 hc
    refine lv_lload_n hx hb dX6_in_6 rfl (lv_at hl 0 rfl) ?_
    refine lv_lload hx hb dX6_in_7 (lv_at hl 2 rfl) ?_
    refine W.lcmp hx hb dX6_in_9 ?_
    refine lv_if_gt (tgt := 17) hx hb dX6_in_10 (by decide) (fun hc => ?_) (fun hc => ?_)
    · have hw := hw.1 hc
      refine lv_iconst hx hb dX6_in_17 ic_0 ?_
      exact r_z C (by decide) hP hS hw dX6_in_18
    · have hw := hw.2 hc
      refine lv_iconst hx hb dX6_in_13 ic_1 ?_
      refine lv_goto (tgt := 18) hx hb dX6_in_14 (by decide) ?_
      exact r_z C (by decide) hP hS hw dX6_in_18

abbrev rmX6_amount : Room := { frames := 0, cells := 0, slots := 0, locals := 0 }
def q_X6_amount (v0 : Int32) (M : Mem) (Q : Int32 → Mem → Prop) : Prop := ((0 ≤ v0 → Q v0 M) ∧ (¬ 0 ≤ v0 → Q (-v0) M))
theorem dsX6_amount : yX6_amount.cls ≠ "java/lang/invoke/MethodHandle" ∧ yX6_amount.cls ≠ "java/lang/invoke/VarHandle" ∧ (parseMethodDescriptor yX6_amount.desc).map (fun d => d.parameters.length) = some 1 := by decide +kernel
set_option maxRecDepth 100000 in
set_option maxHeartbeats 4000000 in
theorem c_X6_amount {l : Launch} {K : wC} {v0 : Int32} {M : Mem} {Q : Int32 → Mem → Prop} (hw : q_X6_amount v0 M Q) : metI l yX6_amount wsX6_amount rmX6_amount shM 12 K [.int v0] M Q := by
  refine met_of (cc := cX6_amount) (maxL := 1) (ret := (some .int)) (own := RX6) (by decide) rfl rfl (Nat.le_of_ble_eq_true rfl) ?_
  intro p e s m below meth c ls C hl hP hS
  have hl : lv_has ls 1 [(0, .int v0)] := hl
  obtain ⟨hx, hb, hml, hown, hts, hr, hlk, hK⟩ := id C
  have hP0 := hP
  delta q_X6_amount at hw
  refine lv_iload_n hx hb dX6_amount_0 rfl (lv_at hl 0 rfl) ?_
  refine lv_if_ge (tgt := 9) hx hb dX6_amount_1 (by decide) (fun hc => ?_) (fun hc => ?_)
  · have hw := hw.1 hc
    refine lv_iload_n hx hb dX6_amount_9 rfl (lv_at hl 0 rfl) ?_
    exact r_i C hP hS hw dX6_amount_10
  · have hw := hw.2 hc
    refine lv_iload_n hx hb dX6_amount_4 rfl (lv_at hl 0 rfl) ?_
    refine lv_ineg hx hb dX6_amount_5 ?_
    refine lv_goto (tgt := 10) hx hb dX6_amount_6 (by decide) ?_
    exact r_i C hP hS hw dX6_amount_10

theorem kX6_feed_c48 : Cond.constantLong RX6 48 (127) ∈ wsX6_feed := List.mem_of_getElem? (i := 1) rfl
theorem kX6_feed_f54 : Cond.fieldLink RX6 54 (TX6 4).1 (TX6 4).2.1 (TX6 4).2.2.1 ∈ wsX6_feed := List.mem_of_getElem? (i := 2) rfl
theorem hX6_feed_X6 : ∀ w ∈ u_ws RX6 TX6 26, w ∈ wsX6_feed := fun _ h => List.mem_cons_of_mem _ (List.mem_append_right _ (h))
theorem kX6_feed_f16 : Cond.fieldLink RX6 16 (TX6 3).1 (TX6 3).2.1 (TX6 3).2.2.1 ∈ wsX6_feed := List.mem_of_getElem? (i := 3) rfl
abbrev rmX6_feed : Room := { frames := 1, cells := 0, slots := 0, locals := 25 }
def q_X6_feed (v1 : Int32) (M : Mem) (Q : Int32 → Mem → Prop) : Prop := q_X6_in v1.toInt64 (0 : Int64) (127 : Int64) M (fun r_2 M_1 => ((¬ r_2 = 0 → ((¬ (M_1 0 4) = (160 : Int32) → vp_in (M_1 0 4) 160 ∧ (∀ M_4 : Mem, M_4 = mU (mU M_1 3 (M_1 0 4).toNatClampNeg v1) 0 4 (((mU M_1 3 (M_1 0 4).toNatClampNeg v1) 0 4) + (1 : Int32)) → Q (M_4 0 4) M_4)) ∧ ((M_1 0 4) = (160 : Int32) → Q (-3 : Int32) M_1))) ∧ (r_2 = 0 → Q (-1 : Int32) M_1)))
theorem dsX6_feed : yX6_feed.cls = RX6 ∧ yX6_feed.cls ≠ "java/lang/invoke/MethodHandle" ∧ yX6_feed.cls ≠ "java/lang/invoke/VarHandle" ∧ (parseMethodDescriptor yX6_feed.desc).map (fun d => d.parameters.length) = some 1 := by decide +kernel
set_option maxRecDepth 100000 in
set_option maxHeartbeats 4000000 in
theorem c_X6_feed {l : Launch} {K : wC} {v1 : Int32} {M : Mem} {Q : Int32 → Mem → Prop} (hw : q_X6_feed v1 M Q) : metI l yX6_feed wsX6_feed rmX6_feed shM 12 K [.ref (kb K + 0), .int v1] M Q := by
  refine met_of (cc := cX6_feed) (maxL := 2) (ret := (some .int)) (own := RX6) (by decide) rfl rfl (Nat.le_of_ble_eq_true rfl) ?_
  intro p e s m below meth c ls C hl hP hS
  have hl : lv_has ls 2 [(0, .ref (kb K + 0)), (1, .int v1)] := hl
  obtain ⟨hx, hb, hml, hown, hts, hr, hlk, hK⟩ := id C
  have hP0 := hP
  delta q_X6_feed at hw
  refine lv_iload_n hx hb dX6_feed_0 rfl (lv_at hl 1 rfl) ?_
  refine lv_i2l hx hb dX6_feed_1 rfl ?_
  refine lv_lconst hx hb dX6_feed_2 lc_0 ?_
  refine lv_ldc2 hx hb hown (hts _ kX6_feed_c48) dX6_feed_3 ?_
  refine c_i (run_s (As := [.long v1.toInt64, .long (0 : Int64), .long (127 : Int64)]) (rest := []) C hP hS (c_X6_in hw) gX6_feed_X6_in rfl dsX6_in rfl ⟨rfl, rfl⟩ ⟨Nat.le_of_ble_eq_true rfl, Nat.le_of_ble_eq_true rfl⟩ hl.1 rfl (Nat.le_of_ble_eq_true rfl) dX6_feed_6 ⟨Nat.le_of_ble_eq_true rfl, Nat.le_of_ble_eq_true rfl⟩) hS (fun r_2 M_1 H locs hw hP hS => ?_)
  refine lv_if_ne (tgt := 14) hx hb dX6_feed_9 (by decide) (fun hc => ?_) (fun hc => ?_)
  · have hw := hw.1 hc
    refine lv_aload_n hx hb dX6_feed_14 rfl (lv_at hl 0 rfl) ?_
    refine g_f C hP (by decide) (sM_0 K _) rfl hX6_feed_X6 4 (by decide) kX6_feed_f54 rfl dX6_feed_15 ?_
    refine lv_sipush hx hb dX6_feed_18 sp_160 ?_
    refine lv_icmp_ne (tgt := 27) hx hb dX6_feed_21 (by decide) (fun hc => ?_) (fun hc => ?_)
    · have hw := hw.1 hc
      refine lv_aload_n hx hb dX6_feed_27 rfl (lv_at hl 0 rfl) ?_
      refine g_f C hP (by decide) (sM_0 K _) rfl hX6_feed_X6 3 (by decide) kX6_feed_f16 rfl dX6_feed_28 ?_
      refine lv_aload_n hx hb dX6_feed_31 rfl (lv_at hl 0 rfl) ?_
      refine g_f C hP (by decide) (sM_0 K _) rfl hX6_feed_X6 4 (by decide) kX6_feed_f54 rfl dX6_feed_32 ?_
      refine lv_iload_n hx hb dX6_feed_35 rfl (lv_at hl 1 rfl) ?_
      have hi_3 := hw.1
      have hw := hw.2
      refine a_is C hP hS (by decide) (sM_3 K) hi_3 rfl dX6_feed_36 (fun H locs hP hS => ?_)
      refine lv_aload_n hx hb dX6_feed_37 rfl (lv_at hl 0 rfl) ?_
      refine lv_dup hx hb dX6_feed_38 rfl ?_
      refine g_f C hP (by decide) (sM_0 K _) rfl hX6_feed_X6 4 (by decide) kX6_feed_f54 rfl dX6_feed_39 ?_
      refine lv_iconst hx hb dX6_feed_42 ic_1 ?_
      refine lv_iadd hx hb dX6_feed_43 ?_
      refine p_f C hP hS (by decide) (sM_0 K _) (sM_0 K _) rfl hX6_feed_X6 tyX6_ok nmX6 (by decide) kX6_feed_f54 rfl rfl rfl (Nat.le_of_ble_eq_true rfl) dX6_feed_44 (fun H locs hP hS => ?_)
      obtain ⟨M_4, eM_4⟩ : ∃ z : Mem, z = mU (mU M_1 3 (M_1 0 4).toNatClampNeg v1) 0 4 (((mU M_1 3 (M_1 0 4).toNatClampNeg v1) 0 4) + (1 : Int32)) := ⟨_, rfl⟩
      rw [← eM_4] at hP
      have hw := hw M_4 eM_4
      refine lv_aload_n hx hb dX6_feed_47 rfl (lv_at hl 0 rfl) ?_
      refine g_f C hP (by decide) (sM_0 K _) rfl hX6_feed_X6 4 (by decide) kX6_feed_f54 rfl dX6_feed_48 ?_
      exact r_i C hP hS hw dX6_feed_51
    · have hw := hw.2 hc
      refine lv_bipush hx hb dX6_feed_24 bp_m3 ?_
      exact r_i C hP hS hw dX6_feed_26
  · have hw := hw.2 hc
    refine lv_iconst hx hb dX6_feed_12 ic_m1 ?_
    exact r_i C hP hS hw dX6_feed_13

theorem kX6_end_f54 : Cond.fieldLink RX6 54 (TX6 4).1 (TX6 4).2.1 (TX6 4).2.2.1 ∈ wsX6_end := List.mem_of_getElem? (i := 1) rfl
theorem hX6_end_X6 : ∀ w ∈ u_ws RX6 TX6 26, w ∈ wsX6_end := fun _ h => List.mem_cons_of_mem _ (List.mem_append_right _ (h))
abbrev rmX6_end : Room := { frames := 1, cells := 0, slots := 0, locals := 25 }
def q_X6_end (v1 : Int32) (M : Mem) (Q : Int32 → Mem → Prop) : Prop := q_X6_in v1.toInt64 (0 : Int64) (M 0 4).toInt64 M (fun r_2 M_1 => ((¬ r_2 = 0 → Q (M_1 0 4) (mU M_1 0 4 v1)) ∧ (r_2 = 0 → Q (-1 : Int32) M_1)))
theorem dsX6_end : yX6_end.cls = RX6 ∧ yX6_end.cls ≠ "java/lang/invoke/MethodHandle" ∧ yX6_end.cls ≠ "java/lang/invoke/VarHandle" ∧ (parseMethodDescriptor yX6_end.desc).map (fun d => d.parameters.length) = some 1 := by decide +kernel
set_option maxRecDepth 100000 in
set_option maxHeartbeats 4000000 in
theorem c_X6_end {l : Launch} {K : wC} {v1 : Int32} {M : Mem} {Q : Int32 → Mem → Prop} (hw : q_X6_end v1 M Q) : metI l yX6_end wsX6_end rmX6_end shM 12 K [.ref (kb K + 0), .int v1] M Q := by
  refine met_of (cc := cX6_end) (maxL := 3) (ret := (some .int)) (own := RX6) (by decide) rfl rfl (Nat.le_of_ble_eq_true rfl) ?_
  intro p e s m below meth c ls C hl hP hS
  have hl : lv_has ls 3 [(0, .ref (kb K + 0)), (1, .int v1)] := hl
  obtain ⟨hx, hb, hml, hown, hts, hr, hlk, hK⟩ := id C
  have hP0 := hP
  delta q_X6_end at hw
  refine lv_iload_n hx hb dX6_end_0 rfl (lv_at hl 1 rfl) ?_
  refine lv_i2l hx hb dX6_end_1 rfl ?_
  refine lv_lconst hx hb dX6_end_2 lc_0 ?_
  refine lv_aload_n hx hb dX6_end_3 rfl (lv_at hl 0 rfl) ?_
  refine g_f C hP (by decide) (sM_0 K _) rfl hX6_end_X6 4 (by decide) kX6_end_f54 rfl dX6_end_4 ?_
  refine lv_i2l hx hb dX6_end_7 rfl ?_
  refine c_i (run_s (As := [.long v1.toInt64, .long (0 : Int64), .long (M 0 4).toInt64]) (rest := []) C hP hS (c_X6_in hw) gX6_end_X6_in rfl dsX6_in rfl ⟨rfl, rfl⟩ ⟨Nat.le_of_ble_eq_true rfl, Nat.le_of_ble_eq_true rfl⟩ hl.1 rfl (Nat.le_of_ble_eq_true rfl) dX6_end_8 ⟨Nat.le_of_ble_eq_true rfl, Nat.le_of_ble_eq_true rfl⟩) hS (fun r_2 M_1 H locs hw hP hS => ?_)
  refine lv_if_ne (tgt := 16) hx hb dX6_end_11 (by decide) (fun hc => ?_) (fun hc => ?_)
  · have hw := hw.1 hc
    refine lv_aload_n hx hb dX6_end_16 rfl (lv_at hl 0 rfl) ?_
    refine g_f C hP (by decide) (sM_0 K _) rfl hX6_end_X6 4 (by decide) kX6_end_f54 rfl dX6_end_17 ?_
    refine lv_istore_n (lv' := [(2, .int (M_1 0 4)), (0, .ref (kb K + 0)), (1, .int v1)]) hx hb dX6_end_20 rfl hl (by decide) rfl (fun ls hl => ?_)
    refine lv_aload_n hx hb dX6_end_21 rfl (lv_at hl 1 rfl) ?_
    refine lv_iload_n hx hb dX6_end_22 rfl (lv_at hl 2 rfl) ?_
    refine p_f C hP hS (by decide) (sM_0 K _) (sM_0 K _) rfl hX6_end_X6 tyX6_ok nmX6 (by decide) kX6_end_f54 rfl rfl rfl (Nat.le_of_ble_eq_true rfl) dX6_end_23 (fun H locs hP hS => ?_)
    refine lv_iload_n hx hb dX6_end_26 rfl (lv_at hl 0 rfl) ?_
    exact r_i C hP hS hw dX6_end_27
  · have hw := hw.2 hc
    refine lv_iconst hx hb dX6_end_14 ic_m1 ?_
    exact r_i C hP hS hw dX6_end_15

theorem kX6_byteAt_f54 : Cond.fieldLink RX6 54 (TX6 4).1 (TX6 4).2.1 (TX6 4).2.2.1 ∈ wsX6_byteAt := List.mem_of_getElem? (i := 1) rfl
theorem hX6_byteAt_X6 : ∀ w ∈ u_ws RX6 TX6 26, w ∈ wsX6_byteAt := fun _ h => List.mem_cons_of_mem _ (List.mem_append_right _ (h))
theorem kX6_byteAt_f16 : Cond.fieldLink RX6 16 (TX6 3).1 (TX6 3).2.1 (TX6 3).2.2.1 ∈ wsX6_byteAt := List.mem_of_getElem? (i := 2) rfl
abbrev rmX6_byteAt : Room := { frames := 0, cells := 0, slots := 0, locals := 0 }
def q_X6_byteAt (v1 : Int32) (M : Mem) (Q : Int32 → Mem → Prop) : Prop := (((M 0 4) ≤ v1 → Q (-4 : Int32) M) ∧ (¬ (M 0 4) ≤ v1 → vp_in v1 160 ∧ Q (M 3 v1.toNatClampNeg) M))
theorem dsX6_byteAt : yX6_byteAt.cls = RX6 ∧ yX6_byteAt.cls ≠ "java/lang/invoke/MethodHandle" ∧ yX6_byteAt.cls ≠ "java/lang/invoke/VarHandle" ∧ (parseMethodDescriptor yX6_byteAt.desc).map (fun d => d.parameters.length) = some 1 := by decide +kernel
set_option maxRecDepth 100000 in
set_option maxHeartbeats 4000000 in
theorem c_X6_byteAt {l : Launch} {K : wC} {v1 : Int32} {M : Mem} {Q : Int32 → Mem → Prop} (hw : q_X6_byteAt v1 M Q) : metI l yX6_byteAt wsX6_byteAt rmX6_byteAt shM 12 K [.ref (kb K + 0), .int v1] M Q := by
  refine met_of (cc := cX6_byteAt) (maxL := 2) (ret := (some .int)) (own := RX6) (by decide) rfl rfl (Nat.le_of_ble_eq_true rfl) ?_
  intro p e s m below meth c ls C hl hP hS
  have hl : lv_has ls 2 [(0, .ref (kb K + 0)), (1, .int v1)] := hl
  obtain ⟨hx, hb, hml, hown, hts, hr, hlk, hK⟩ := id C
  have hP0 := hP
  delta q_X6_byteAt at hw
  refine lv_iload_n hx hb dX6_byteAt_0 rfl (lv_at hl 1 rfl) ?_
  refine lv_aload_n hx hb dX6_byteAt_1 rfl (lv_at hl 0 rfl) ?_
  refine g_f C hP (by decide) (sM_0 K _) rfl hX6_byteAt_X6 4 (by decide) kX6_byteAt_f54 rfl dX6_byteAt_2 ?_
  refine lv_icmp_ge (tgt := 17) hx hb dX6_byteAt_5 (by decide) (fun hc => ?_) (fun hc => ?_)
  · have hw := hw.1 hc
    refine lv_bipush hx hb dX6_byteAt_17 bp_m4 ?_
    exact r_i C hP hS hw dX6_byteAt_19
  · have hw := hw.2 hc
    refine lv_aload_n hx hb dX6_byteAt_8 rfl (lv_at hl 0 rfl) ?_
    refine g_f C hP (by decide) (sM_0 K _) rfl hX6_byteAt_X6 3 (by decide) kX6_byteAt_f16 rfl dX6_byteAt_9 ?_
    refine lv_iload_n hx hb dX6_byteAt_12 rfl (lv_at hl 1 rfl) ?_
    have hi_1 := hw.1
    have hw := hw.2
    refine a_il C hP (by decide) (sM_3 K _) hi_1 rfl dX6_byteAt_13 ?_
    refine lv_goto (tgt := 19) hx hb dX6_byteAt_14 (by decide) ?_
    exact r_i C hP hS hw dX6_byteAt_19

theorem kX6_fails_f57 : Cond.fieldLink RX6 57 (TX6 6).1 (TX6 6).2.1 (TX6 6).2.2.1 ∈ wsX6_fails := List.mem_of_getElem? (i := 1) rfl
theorem hX6_fails_X6 : ∀ w ∈ u_ws RX6 TX6 26, w ∈ wsX6_fails := fun _ h => List.mem_cons_of_mem _ (List.mem_append_right _ (h))
theorem kX6_fails_f60 : Cond.fieldLink RX6 60 (TX6 9).1 (TX6 9).2.1 (TX6 9).2.2.1 ∈ wsX6_fails := List.mem_of_getElem? (i := 2) rfl
theorem kX6_fails_f63 : Cond.fieldLink RX6 63 (TX6 7).1 (TX6 7).2.1 (TX6 7).2.2.1 ∈ wsX6_fails := List.mem_of_getElem? (i := 3) rfl
abbrev rmX6_fails : Room := { frames := 0, cells := 0, slots := 0, locals := 0 }
def q_X6_fails (v1 : Int32) (M : Mem) (Q : Mem → Prop) : Prop := ((¬ (M 0 6) = 0 → Q M) ∧ ((M 0 6) = 0 → Q (mU (mU M 0 6 v1) 0 7 ((mU M 0 6 v1) 0 9))))
theorem dsX6_fails : yX6_fails.cls = RX6 ∧ yX6_fails.cls ≠ "java/lang/invoke/MethodHandle" ∧ yX6_fails.cls ≠ "java/lang/invoke/VarHandle" ∧ (parseMethodDescriptor yX6_fails.desc).map (fun d => d.parameters.length) = some 1 := by decide +kernel
set_option maxRecDepth 100000 in
set_option maxHeartbeats 4000000 in
theorem c_X6_fails {l : Launch} {K : wC} {v1 : Int32} {M : Mem} {Q : Mem → Prop} (hw : q_X6_fails v1 M Q) : metV l yX6_fails wsX6_fails rmX6_fails shM 12 K [.ref (kb K + 0), .int v1] M Q := by
  refine met_of (cc := cX6_fails) (maxL := 2) (ret := none) (own := RX6) (by decide) rfl rfl (Nat.le_of_ble_eq_true rfl) ?_
  intro p e s m below meth c ls C hl hP hS
  have hl : lv_has ls 2 [(0, .ref (kb K + 0)), (1, .int v1)] := hl
  obtain ⟨hx, hb, hml, hown, hts, hr, hlk, hK⟩ := id C
  have hP0 := hP
  delta q_X6_fails at hw
  refine lv_aload_n hx hb dX6_fails_0 rfl (lv_at hl 0 rfl) ?_
  refine g_f C hP (by decide) (sM_0 K _) rfl hX6_fails_X6 6 (by decide) kX6_fails_f57 rfl dX6_fails_1 ?_
  refine lv_if_ne (tgt := 20) hx hb dX6_fails_4 (by decide) (fun hc => ?_) (fun hc => ?_)
  · have hw := hw.1 hc
    exact r_v C hP hS hw dX6_fails_20
  · have hw := hw.2 hc
    refine lv_aload_n hx hb dX6_fails_7 rfl (lv_at hl 0 rfl) ?_
    refine lv_iload_n hx hb dX6_fails_8 rfl (lv_at hl 1 rfl) ?_
    refine p_f C hP hS (by decide) (sM_0 K _) (sM_0 K _) rfl hX6_fails_X6 tyX6_ok nmX6 (by decide) kX6_fails_f57 rfl rfl rfl (Nat.le_of_ble_eq_true rfl) dX6_fails_9 (fun H locs hP hS => ?_)
    refine lv_aload_n hx hb dX6_fails_12 rfl (lv_at hl 0 rfl) ?_
    refine lv_aload_n hx hb dX6_fails_13 rfl (lv_at hl 0 rfl) ?_
    refine g_f C hP (by decide) (sM_0 K _) rfl hX6_fails_X6 9 (by decide) kX6_fails_f60 rfl dX6_fails_14 ?_
    refine p_f C hP hS (by decide) (sM_0 K _) (sM_0 K _) rfl hX6_fails_X6 tyX6_ok nmX6 (by decide) kX6_fails_f63 rfl rfl rfl (Nat.le_of_ble_eq_true rfl) dX6_fails_17 (fun H locs hP hS => ?_)
    exact r_v C hP hS hw dX6_fails_20

theorem kX6_nameHere_f66 : Cond.fieldLink RX6 66 (TX6 10).1 (TX6 10).2.1 (TX6 10).2.2.1 ∈ wsX6_nameHere := List.mem_of_getElem? (i := 1) rfl
theorem hX6_nameHere_X6 : ∀ w ∈ u_ws RX6 TX6 26, w ∈ wsX6_nameHere := fun _ h => List.mem_cons_of_mem _ (List.mem_append_right _ (h))
theorem kX6_nameHere_f69 : Cond.fieldLink RX6 69 (TX6 8).1 (TX6 8).2.1 (TX6 8).2.2.1 ∈ wsX6_nameHere := List.mem_of_getElem? (i := 2) rfl
theorem kX6_nameHere_f60 : Cond.fieldLink RX6 60 (TX6 9).1 (TX6 9).2.1 (TX6 9).2.2.1 ∈ wsX6_nameHere := List.mem_of_getElem? (i := 3) rfl
theorem kX6_nameHere_f19 : Cond.fieldLink RX6 19 (TX6 12).1 (TX6 12).2.1 (TX6 12).2.2.1 ∈ wsX6_nameHere := List.mem_of_getElem? (i := 4) rfl
theorem kX6_nameHere_f22 : Cond.fieldLink RX6 22 (TX6 13).1 (TX6 13).2.1 (TX6 13).2.2.1 ∈ wsX6_nameHere := List.mem_of_getElem? (i := 5) rfl
abbrev rmX6_nameHere : Room := { frames := 1, cells := 0, slots := 0, locals := 21 }
abbrev t_X6_nameHere : Type := (Int32 → Mem → Prop) × (Int32 → Int32 → Mem → Prop) × (Int32 → Int32 → Int32 → Mem → Prop) × (Int32 → Int32 → Int32 → Mem → Prop) × (Int32 → Int32 → Mem → Prop)
def f_X6_nameHere_2 (Q : Int32 → Mem → Prop) (r : t_X6_nameHere) (v1 : Int32) (M : Mem) : Prop := (((6 : Int32) ≤ v1 → Q (-4 : Int32) M) ∧ (¬ (6 : Int32) ≤ v1 → ((¬ (M 0 10) = (1 : Int32) → Q (-4 : Int32) M) ∧ ((M 0 10) = (1 : Int32) → vp_in (v1 + (1 : Int32)) 7 ∧ vp_in v1 7 ∧ ((¬ ((M 0 8) - (M 0 9)) = ((M 4 (v1 + (1 : Int32)).toNatClampNeg) - (M 4 v1.toNatClampNeg)) → r.2.1 v1 (0 : Int32) M) ∧ (((M 0 8) - (M 0 9)) = ((M 4 (v1 + (1 : Int32)).toNatClampNeg) - (M 4 v1.toNatClampNeg)) → r.2.1 v1 (1 : Int32) M))))))
def f_X6_nameHere_48 (Q : Int32 → Mem → Prop) (r : t_X6_nameHere) (v1 : Int32) (s0 : Int32) (M : Mem) : Prop := r.2.2.1 v1 s0 (0 : Int32) M
def f_X6_nameHere_51 (Q : Int32 → Mem → Prop) (r : t_X6_nameHere) (v1 : Int32) (v2 : Int32) (v3 : Int32) (M : Mem) : Prop := ((v2 = 0 → r.2.2.2.2 v1 v2 M) ∧ (¬ v2 = 0 → ((((M 0 8) - (M 0 9)) ≤ v3 → r.2.2.2.2 v1 v2 M) ∧ (¬ ((M 0 8) - (M 0 9)) ≤ v3 → q_X6_byteAt ((M 0 9) + v3) M (fun r_4 M_3 => vp_in v1 7 ∧ vp_in ((M_3 4 v1.toNatClampNeg) + v3) 26 ∧ ((¬ r_4 = (M_3 5 ((M_3 4 v1.toNatClampNeg) + v3).toNatClampNeg) → r.2.2.2.1 v1 v3 (0 : Int32) M_3) ∧ (r_4 = (M_3 5 ((M_3 4 v1.toNatClampNeg) + v3).toNatClampNeg) → r.2.2.2.1 v1 v3 (1 : Int32) M_3)))))))
def f_X6_nameHere_99 (Q : Int32 → Mem → Prop) (r : t_X6_nameHere) (v1 : Int32) (v3 : Int32) (s0 : Int32) (M : Mem) : Prop := r.2.2.1 v1 s0 (v3 + 1) M
def f_X6_nameHere_106 (Q : Int32 → Mem → Prop) (r : t_X6_nameHere) (v1 : Int32) (v2 : Int32) (M : Mem) : Prop := ((v2 = 0 → r.1 (v1 + 1) M) ∧ (¬ v2 = 0 → Q v1 M))
def p_X6_nameHere (Q : Int32 → Mem → Prop) : Nat → t_X6_nameHere
  | 0 => (fun _ _ => False, fun _ _ _ => False, fun _ _ _ _ => False, fun _ _ _ _ => False, fun _ _ _ => False)
  | n + 1 => (f_X6_nameHere_2 Q (p_X6_nameHere Q n), f_X6_nameHere_48 Q (p_X6_nameHere Q n), f_X6_nameHere_51 Q (p_X6_nameHere Q n), f_X6_nameHere_99 Q (p_X6_nameHere Q n), f_X6_nameHere_106 Q (p_X6_nameHere Q n))
def e_X6_nameHere (Q : Int32 → Mem → Prop) (r : t_X6_nameHere) (M : Mem) : Prop := r.1 (0 : Int32) M
def q_X6_nameHere (M : Mem) (Q : Int32 → Mem → Prop) : Prop := ∃ n : Nat, e_X6_nameHere Q (p_X6_nameHere Q n) M
set_option maxRecDepth 100000 in
set_option maxHeartbeats 4000000 in
theorem b_X6_nameHere {l : Launch} {K : wC} {Q : Int32 → Mem → Prop} {p : Program} {e : Env} {s : State} {m : MethodId} {args : Array Value} {below : List Frame} {meth : Method} {c : Code} (C : cx 12 K p s m args meth c cX6_nameHere 4 wsX6_nameHere RX6 (some .int)) : ∀ n : Nat, (∀ (v1 : Int32) (M : Mem) (H : Heap) (locs : List Loc) (ls : Array Slot), (p_X6_nameHere Q n).1 v1 M → wP shM 12 K M H → va_S (wA 12 K) s.heap H locs → lv_has ls 4 [(0, .ref (kb K + 0)), (1, .int v1)] → W p l e rmX6_nameHere s m args below meth c H locs 0 0 (MQ below (va_Qi Q (wE shM 12 K) (wA 12 K)) args s 0 0 (wA 12 K)) (F0 m 2 ls [])) ∧ (∀ (v1 : Int32) (s0 : Int32) (M : Mem) (H : Heap) (locs : List Loc) (ls : Array Slot), (p_X6_nameHere Q n).2.1 v1 s0 M → wP shM 12 K M H → va_S (wA 12 K) s.heap H locs → lv_has ls 4 [(0, .ref (kb K + 0)), (1, .int v1)] → W p l e rmX6_nameHere s m args below meth c H locs 0 0 (MQ below (va_Qi Q (wE shM 12 K) (wA 12 K)) args s 0 0 (wA 12 K)) (F0 m 48 ls [.int s0])) ∧ (∀ (v1 : Int32) (v2 : Int32) (v3 : Int32) (M : Mem) (H : Heap) (locs : List Loc) (ls : Array Slot), (p_X6_nameHere Q n).2.2.1 v1 v2 v3 M → wP shM 12 K M H → va_S (wA 12 K) s.heap H locs → lv_has ls 4 [(0, .ref (kb K + 0)), (1, .int v1), (2, .int v2), (3, .int v3)] → W p l e rmX6_nameHere s m args below meth c H locs 0 0 (MQ below (va_Qi Q (wE shM 12 K) (wA 12 K)) args s 0 0 (wA 12 K)) (F0 m 51 ls [])) ∧ (∀ (v1 : Int32) (v3 : Int32) (s0 : Int32) (M : Mem) (H : Heap) (locs : List Loc) (ls : Array Slot), (p_X6_nameHere Q n).2.2.2.1 v1 v3 s0 M → wP shM 12 K M H → va_S (wA 12 K) s.heap H locs → lv_has ls 4 [(0, .ref (kb K + 0)), (1, .int v1), (3, .int v3)] → W p l e rmX6_nameHere s m args below meth c H locs 0 0 (MQ below (va_Qi Q (wE shM 12 K) (wA 12 K)) args s 0 0 (wA 12 K)) (F0 m 99 ls [.int s0])) ∧ (∀ (v1 : Int32) (v2 : Int32) (M : Mem) (H : Heap) (locs : List Loc) (ls : Array Slot), (p_X6_nameHere Q n).2.2.2.2 v1 v2 M → wP shM 12 K M H → va_S (wA 12 K) s.heap H locs → lv_has ls 4 [(0, .ref (kb K + 0)), (1, .int v1), (2, .int v2)] → W p l e rmX6_nameHere s m args below meth c H locs 0 0 (MQ below (va_Qi Q (wE shM 12 K) (wA 12 K)) args s 0 0 (wA 12 K)) (F0 m 106 ls [])) := by
  obtain ⟨hx, hb, hml, hown, hts, hr, hlk, hK⟩ := id C
  intro n
  induction n with
  | zero => exact ⟨fun _ _ _ _ _ hw _ _ _ => False.elim hw, fun _ _ _ _ _ _ hw _ _ _ => False.elim hw, fun _ _ _ _ _ _ _ hw _ _ _ => False.elim hw, fun _ _ _ _ _ _ _ hw _ _ _ => False.elim hw, fun _ _ _ _ _ _ hw _ _ _ => False.elim hw⟩
  | succ n ih =>
    refine ⟨?_, ?_, ?_, ?_, ?_⟩
    · intro v1 M H locs ls hw hP hS hl
      have hw : f_X6_nameHere_2 Q (p_X6_nameHere Q n) v1 M := hw
      delta f_X6_nameHere_2 at hw
      refine lv_iload_n hx hb dX6_nameHere_2 rfl (lv_at hl 1 rfl) ?_
      refine lv_bipush hx hb dX6_nameHere_3 bp_6 ?_
      refine lv_icmp_ge (tgt := 118) hx hb dX6_nameHere_5 (by decide) (fun hc => ?_) (fun hc => ?_)
      · have hw := hw.1 hc
        refine lv_bipush hx hb dX6_nameHere_118 bp_m4 ?_
        exact r_i C hP hS hw dX6_nameHere_120
      · have hw := hw.2 hc
        refine lv_aload_n hx hb dX6_nameHere_8 rfl (lv_at hl 0 rfl) ?_
        refine g_f C hP (by decide) (sM_0 K _) rfl hX6_nameHere_X6 10 (by decide) kX6_nameHere_f66 rfl dX6_nameHere_9 ?_
        refine lv_iconst hx hb dX6_nameHere_12 ic_1 ?_
        refine lv_icmp_ne (tgt := 118) hx hb dX6_nameHere_13 (by decide) (fun hc => ?_) (fun hc => ?_)
        · have hw := hw.1 hc
          refine lv_bipush hx hb dX6_nameHere_118 bp_m4 ?_
          exact r_i C hP hS hw dX6_nameHere_120
        · have hw := hw.2 hc
          refine lv_aload_n hx hb dX6_nameHere_16 rfl (lv_at hl 0 rfl) ?_
          refine g_f C hP (by decide) (sM_0 K _) rfl hX6_nameHere_X6 8 (by decide) kX6_nameHere_f69 rfl dX6_nameHere_17 ?_
          refine lv_aload_n hx hb dX6_nameHere_20 rfl (lv_at hl 0 rfl) ?_
          refine g_f C hP (by decide) (sM_0 K _) rfl hX6_nameHere_X6 9 (by decide) kX6_nameHere_f60 rfl dX6_nameHere_21 ?_
          refine lv_isub hx hb dX6_nameHere_24 ?_
          refine lv_aload_n hx hb dX6_nameHere_25 rfl (lv_at hl 0 rfl) ?_
          refine g_f C hP (by decide) (sM_0 K _) rfl hX6_nameHere_X6 12 (by decide) kX6_nameHere_f19 rfl dX6_nameHere_26 ?_
          refine lv_iload_n hx hb dX6_nameHere_29 rfl (lv_at hl 1 rfl) ?_
          refine lv_iconst hx hb dX6_nameHere_30 ic_1 ?_
          refine lv_iadd hx hb dX6_nameHere_31 ?_
          have hi_1 := hw.1
          have hw := hw.2
          refine a_il C hP (by decide) (sM_4 K _) hi_1 rfl dX6_nameHere_32 ?_
          refine lv_aload_n hx hb dX6_nameHere_33 rfl (lv_at hl 0 rfl) ?_
          refine g_f C hP (by decide) (sM_0 K _) rfl hX6_nameHere_X6 12 (by decide) kX6_nameHere_f19 rfl dX6_nameHere_34 ?_
          refine lv_iload_n hx hb dX6_nameHere_37 rfl (lv_at hl 1 rfl) ?_
          have hi_2 := hw.1
          have hw := hw.2
          refine a_il C hP (by decide) (sM_4 K _) hi_2 rfl dX6_nameHere_38 ?_
          refine lv_isub hx hb dX6_nameHere_39 ?_
          refine lv_icmp_ne (tgt := 47) hx hb dX6_nameHere_40 (by decide) (fun hc => ?_) (fun hc => ?_)
          · have hw := hw.1 hc
            refine lv_iconst hx hb dX6_nameHere_47 ic_0 ?_
            exact ih.2.1 _ _ _ _ _ _ hw hP hS (lv_sub hl [0, 1] rfl)
          · have hw := hw.2 hc
            refine lv_iconst hx hb dX6_nameHere_43 ic_1 ?_
            refine lv_goto (tgt := 48) hx hb dX6_nameHere_44 (by decide) ?_
            exact ih.2.1 _ _ _ _ _ _ hw hP hS (lv_sub hl [0, 1] rfl)
    · intro v1 s0 M H locs ls hw hP hS hl
      have hw : f_X6_nameHere_48 Q (p_X6_nameHere Q n) v1 s0 M := hw
      delta f_X6_nameHere_48 at hw
      refine lv_istore_n (lv' := [(2, .int s0), (0, .ref (kb K + 0)), (1, .int v1)]) hx hb dX6_nameHere_48 rfl hl (by decide) rfl (fun ls hl => ?_)
      refine lv_iconst hx hb dX6_nameHere_49 ic_0 ?_
      refine lv_istore_n (lv' := [(3, .int (0 : Int32)), (2, .int s0), (0, .ref (kb K + 0)), (1, .int v1)]) hx hb dX6_nameHere_50 rfl hl (by decide) rfl (fun ls hl => ?_)
      exact ih.2.2.1 _ _ _ _ _ _ _ hw hP hS (lv_sub hl [2, 3, 1, 0] rfl)
    · intro v1 v2 v3 M H locs ls hw hP hS hl
      have hw : f_X6_nameHere_51 Q (p_X6_nameHere Q n) v1 v2 v3 M := hw
      delta f_X6_nameHere_51 at hw
      refine lv_iload_n hx hb dX6_nameHere_51 rfl (lv_at hl 2 rfl) ?_
      refine lv_if_eq (tgt := 106) hx hb dX6_nameHere_52 (by decide) (fun hc => ?_) (fun hc => ?_)
      · have hw := hw.1 hc
        exact ih.2.2.2.2 _ _ _ _ _ _ hw hP hS (lv_sub hl [0, 1, 2] rfl)
      · have hw := hw.2 hc
        refine lv_iload_n hx hb dX6_nameHere_55 rfl (lv_at hl 3 rfl) ?_
        refine lv_aload_n hx hb dX6_nameHere_56 rfl (lv_at hl 0 rfl) ?_
        refine g_f C hP (by decide) (sM_0 K _) rfl hX6_nameHere_X6 8 (by decide) kX6_nameHere_f69 rfl dX6_nameHere_57 ?_
        refine lv_aload_n hx hb dX6_nameHere_60 rfl (lv_at hl 0 rfl) ?_
        refine g_f C hP (by decide) (sM_0 K _) rfl hX6_nameHere_X6 9 (by decide) kX6_nameHere_f60 rfl dX6_nameHere_61 ?_
        refine lv_isub hx hb dX6_nameHere_64 ?_
        refine lv_icmp_ge (tgt := 106) hx hb dX6_nameHere_65 (by decide) (fun hc => ?_) (fun hc => ?_)
        · have hw := hw.1 hc
          exact ih.2.2.2.2 _ _ _ _ _ _ hw hP hS (lv_sub hl [0, 1, 2] rfl)
        · have hw := hw.2 hc
          refine lv_aload_n hx hb dX6_nameHere_68 rfl (lv_at hl 0 rfl) ?_
          refine lv_aload_n hx hb dX6_nameHere_69 rfl (lv_at hl 0 rfl) ?_
          refine g_f C hP (by decide) (sM_0 K _) rfl hX6_nameHere_X6 9 (by decide) kX6_nameHere_f60 rfl dX6_nameHere_70 ?_
          refine lv_iload_n hx hb dX6_nameHere_73 rfl (lv_at hl 3 rfl) ?_
          refine lv_iadd hx hb dX6_nameHere_74 ?_
          refine c_i (run_v (As := [.int ((M 0 9) + v3)]) (rest := []) C hP hS (c_X6_byteAt hw) gX6_nameHere_X6_byteAt rfl dsX6_byteAt rfl ⟨rfl, rfl⟩ ⟨Nat.le_of_ble_eq_true rfl, Nat.le_of_ble_eq_true rfl⟩ (by decide) (sM_0 K _) rfl hl.1 rfl (Nat.le_of_ble_eq_true rfl) dX6_nameHere_75 ⟨Nat.le_of_ble_eq_true rfl, Nat.le_of_ble_eq_true rfl⟩) hS (fun r_4 M_3 H locs hw hP hS => ?_)
          refine lv_aload_n hx hb dX6_nameHere_78 rfl (lv_at hl 0 rfl) ?_
          refine g_f C hP (by decide) (sM_0 K _) rfl hX6_nameHere_X6 13 (by decide) kX6_nameHere_f22 rfl dX6_nameHere_79 ?_
          refine lv_aload_n hx hb dX6_nameHere_82 rfl (lv_at hl 0 rfl) ?_
          refine g_f C hP (by decide) (sM_0 K _) rfl hX6_nameHere_X6 12 (by decide) kX6_nameHere_f19 rfl dX6_nameHere_83 ?_
          refine lv_iload_n hx hb dX6_nameHere_86 rfl (lv_at hl 1 rfl) ?_
          have hi_5 := hw.1
          have hw := hw.2
          refine a_il C hP (by decide) (sM_4 K _) hi_5 rfl dX6_nameHere_87 ?_
          refine lv_iload_n hx hb dX6_nameHere_88 rfl (lv_at hl 3 rfl) ?_
          refine lv_iadd hx hb dX6_nameHere_89 ?_
          have hi_6 := hw.1
          have hw := hw.2
          refine a_il C hP (by decide) (sM_5 K _) hi_6 rfl dX6_nameHere_90 ?_
          refine lv_icmp_ne (tgt := 98) hx hb dX6_nameHere_91 (by decide) (fun hc => ?_) (fun hc => ?_)
          · have hw := hw.1 hc
            refine lv_iconst hx hb dX6_nameHere_98 ic_0 ?_
            exact ih.2.2.2.1 _ _ _ _ _ _ _ hw hP hS (lv_sub hl [0, 1, 3] rfl)
          · have hw := hw.2 hc
            refine lv_iconst hx hb dX6_nameHere_94 ic_1 ?_
            refine lv_goto (tgt := 99) hx hb dX6_nameHere_95 (by decide) ?_
            exact ih.2.2.2.1 _ _ _ _ _ _ _ hw hP hS (lv_sub hl [0, 1, 3] rfl)
    · intro v1 v3 s0 M H locs ls hw hP hS hl
      have hw : f_X6_nameHere_99 Q (p_X6_nameHere Q n) v1 v3 s0 M := hw
      delta f_X6_nameHere_99 at hw
      refine lv_istore_n (lv' := [(2, .int s0), (0, .ref (kb K + 0)), (1, .int v1), (3, .int v3)]) hx hb dX6_nameHere_99 rfl hl (by decide) rfl (fun ls hl => ?_)
      refine lv_iinc (v := (v3 + 1)) (lv' := [(3, .int (v3 + 1)), (2, .int s0), (0, .ref (kb K + 0)), (1, .int v1)]) hx hb dX6_nameHere_100 hl (k := 3) rfl (by rw [ic_1]) (by decide) rfl (fun ls hl => ?_)
      refine lv_goto (tgt := 51) hx hb dX6_nameHere_103 (by decide) ?_
      exact ih.2.2.1 _ _ _ _ _ _ _ hw hP hS (lv_sub hl [2, 3, 1, 0] rfl)
    · intro v1 v2 M H locs ls hw hP hS hl
      have hw : f_X6_nameHere_106 Q (p_X6_nameHere Q n) v1 v2 M := hw
      delta f_X6_nameHere_106 at hw
      refine lv_iload_n hx hb dX6_nameHere_106 rfl (lv_at hl 2 rfl) ?_
      refine lv_if_eq (tgt := 112) hx hb dX6_nameHere_107 (by decide) (fun hc => ?_) (fun hc => ?_)
      · have hw := hw.1 hc
        refine lv_iinc (v := (v1 + 1)) (lv' := [(1, .int (v1 + 1)), (0, .ref (kb K + 0)), (2, .int v2)]) hx hb dX6_nameHere_112 hl (k := 1) rfl (by rw [ic_1]) (by decide) rfl (fun ls hl => ?_)
        refine lv_goto (tgt := 2) hx hb dX6_nameHere_115 (by decide) ?_
        exact ih.1 _ _ _ _ _ hw hP hS (lv_sub hl [1, 0] rfl)
      · have hw := hw.2 hc
        refine lv_iload_n hx hb dX6_nameHere_110 rfl (lv_at hl 1 rfl) ?_
        exact r_i C hP hS hw dX6_nameHere_111
theorem dsX6_nameHere : yX6_nameHere.cls = RX6 ∧ yX6_nameHere.cls ≠ "java/lang/invoke/MethodHandle" ∧ yX6_nameHere.cls ≠ "java/lang/invoke/VarHandle" ∧ (parseMethodDescriptor yX6_nameHere.desc).map (fun d => d.parameters.length) = some 0 := by decide +kernel
set_option maxRecDepth 100000 in
set_option maxHeartbeats 4000000 in
theorem c_X6_nameHere {l : Launch} {K : wC} {M : Mem} {Q : Int32 → Mem → Prop} (hw : q_X6_nameHere M Q) : metI l yX6_nameHere wsX6_nameHere rmX6_nameHere shM 12 K [.ref (kb K + 0)] M Q := by
  refine met_of (cc := cX6_nameHere) (maxL := 4) (ret := (some .int)) (own := RX6) (by decide) rfl rfl (Nat.le_of_ble_eq_true rfl) ?_
  intro p e s m below meth c ls C hl hP hS
  have hl : lv_has ls 4 [(0, .ref (kb K + 0))] := hl
  obtain ⟨hx, hb, hml, hown, hts, hr, hlk, hK⟩ := id C
  have hP0 := hP
  obtain ⟨n, hw⟩ := hw
  have ih := b_X6_nameHere (l := l) (e := e) (below := below) (Q := Q) C n
  delta e_X6_nameHere at hw
  refine lv_iconst hx hb dX6_nameHere_0 ic_0 ?_
  refine lv_istore_n (lv' := [(1, .int (0 : Int32)), (0, .ref (kb K + 0))]) hx hb dX6_nameHere_1 rfl hl (by decide) rfl (fun ls hl => ?_)
  exact ih.1 _ _ _ _ _ hw hP hS (lv_sub hl [1, 0] rfl)

theorem kX6_readsOn_f57 : Cond.fieldLink RX6 57 (TX6 6).1 (TX6 6).2.1 (TX6 6).2.2.1 ∈ wsX6_readsOn := List.mem_of_getElem? (i := 1) rfl
theorem hX6_readsOn_X6 : ∀ w ∈ u_ws RX6 TX6 26, w ∈ wsX6_readsOn := fun _ h => List.mem_cons_of_mem _ (List.mem_append_right _ (h))
theorem kX6_readsOn_f69 : Cond.fieldLink RX6 69 (TX6 8).1 (TX6 8).2.1 (TX6 8).2.2.1 ∈ wsX6_readsOn := List.mem_of_getElem? (i := 2) rfl
theorem kX6_readsOn_f60 : Cond.fieldLink RX6 60 (TX6 9).1 (TX6 9).2.1 (TX6 9).2.2.1 ∈ wsX6_readsOn := List.mem_of_getElem? (i := 3) rfl
theorem kX6_readsOn_f76 : Cond.fieldLink RX6 76 (TX6 11).1 (TX6 11).2.1 (TX6 11).2.2.1 ∈ wsX6_readsOn := List.mem_of_getElem? (i := 4) rfl
theorem kX6_readsOn_c79 : Cond.constantLong RX6 79 (97) ∈ wsX6_readsOn := List.mem_of_getElem? (i := 6) rfl
theorem kX6_readsOn_c81 : Cond.constantLong RX6 81 (122) ∈ wsX6_readsOn := List.mem_of_getElem? (i := 7) rfl
theorem kX6_readsOn_c83 : Cond.constantLong RX6 83 (48) ∈ wsX6_readsOn := List.mem_of_getElem? (i := 8) rfl
theorem kX6_readsOn_c85 : Cond.constantLong RX6 85 (57) ∈ wsX6_readsOn := List.mem_of_getElem? (i := 9) rfl
theorem kX6_readsOn_f66 : Cond.fieldLink RX6 66 (TX6 10).1 (TX6 10).2.1 (TX6 10).2.2.1 ∈ wsX6_readsOn := List.mem_of_getElem? (i := 5) rfl
abbrev rmX6_readsOn : Room := { frames := 1, cells := 0, slots := 0, locals := 25 }
abbrev t_X6_readsOn : Type := (Mem → Prop) × (Mem → Prop) × (Mem → Prop) × (Int32 → Mem → Prop)
def f_X6_readsOn_8 (Q : Mem → Prop) (r : t_X6_readsOn) (M : Mem) : Prop := q_X6_byteAt (M 0 8) M (fun r_2 M_1 => ((¬ r_2 = (32 : Int32) → q_X6_byteAt ((mU M_1 0 9 (M_1 0 8)) 0 8) (mU M_1 0 9 (M_1 0 8)) (fun r_4 M_3 => ((¬ r_4 = (-4 : Int32) → q_X6_in r_4.toInt64 (97 : Int64) (122 : Int64) (mU M_3 0 11 (0 : Int32)) (fun r_6 M_5 => ((r_6 = 0 → q_X6_in r_4.toInt64 (48 : Int64) (57 : Int64) M_5 (fun r_8 M_7 => ((r_8 = 0 → ∀ M_9 : Mem, M_9 = mU (mU M_7 0 10 (3 : Int32)) 0 8 (((mU M_7 0 10 (3 : Int32)) 0 8) + (1 : Int32)) → ((r_4 = (59 : Int32) → Q M_9) ∧ (¬ r_4 = (59 : Int32) → q_X6_fails (1 : Int32) M_9 (fun M_10 => Q M_10)))) ∧ (¬ r_8 = 0 → r.2.2.1 M_7)))) ∧ (¬ r_6 = 0 → r.2.1 M_5)))) ∧ (r_4 = (-4 : Int32) → Q (mU (mU M_3 0 11 (0 : Int32)) 0 10 (0 : Int32)))))) ∧ (r_2 = (32 : Int32) → r.1 (mU M_1 0 8 ((M_1 0 8) + (1 : Int32))))))
def f_X6_readsOn_84 (Q : Mem → Prop) (r : t_X6_readsOn) (M : Mem) : Prop := q_X6_byteAt (M 0 8) M (fun r_12 M_11 => q_X6_in r_12.toInt64 (97 : Int64) (122 : Int64) M_11 (fun r_14 M_13 => ((r_14 = 0 → Q (mU M_13 0 10 (1 : Int32))) ∧ (¬ r_14 = 0 → r.2.1 (mU M_13 0 8 ((M_13 0 8) + (1 : Int32)))))))
def f_X6_readsOn_140 (Q : Mem → Prop) (r : t_X6_readsOn) (M : Mem) : Prop := q_X6_byteAt (M 0 8) M (fun r_16 M_15 => q_X6_in r_16.toInt64 (48 : Int64) (57 : Int64) M_15 (fun r_18 M_17 => ((r_18 = 0 → (((((mU M_17 0 10 (2 : Int32)) 0 8) - ((mU M_17 0 10 (2 : Int32)) 0 9)) ≤ (2 : Int32) → Q (mU M_17 0 10 (2 : Int32))) ∧ (¬ (((mU M_17 0 10 (2 : Int32)) 0 8) - ((mU M_17 0 10 (2 : Int32)) 0 9)) ≤ (2 : Int32) → q_X6_fails (1 : Int32) (mU M_17 0 10 (2 : Int32)) (fun M_19 => Q M_19)))) ∧ (¬ r_18 = 0 → (((2 : Int32) ≤ ((M_17 0 8) - (M_17 0 9)) → r.2.2.2 (M_17 0 11) M_17) ∧ (¬ (2 : Int32) ≤ ((M_17 0 8) - (M_17 0 9)) → q_X6_byteAt (M_17 0 8) M_17 (fun r_21 M_20 => r.2.2.2 ((((10 : Int32) * (M_17 0 11)) + r_21) - (48 : Int32)) M_20)))))))
def f_X6_readsOn_201 (Q : Mem → Prop) (r : t_X6_readsOn) (s0 : Int32) (M : Mem) : Prop := r.2.2.1 (mU (mU M 0 11 s0) 0 8 (((mU M 0 11 s0) 0 8) + (1 : Int32)))
def p_X6_readsOn (Q : Mem → Prop) : Nat → t_X6_readsOn
  | 0 => (fun _ => False, fun _ => False, fun _ => False, fun _ _ => False)
  | n + 1 => (f_X6_readsOn_8 Q (p_X6_readsOn Q n), f_X6_readsOn_84 Q (p_X6_readsOn Q n), f_X6_readsOn_140 Q (p_X6_readsOn Q n), f_X6_readsOn_201 Q (p_X6_readsOn Q n))
def e_X6_readsOn (Q : Mem → Prop) (r : t_X6_readsOn) (M : Mem) : Prop := (((M 0 6) ≤ 0 → r.1 M) ∧ (¬ (M 0 6) ≤ 0 → Q M))
def q_X6_readsOn (M : Mem) (Q : Mem → Prop) : Prop := ∃ n : Nat, e_X6_readsOn Q (p_X6_readsOn Q n) M
set_option maxRecDepth 100000 in
set_option maxHeartbeats 4000000 in
theorem b_X6_readsOn {l : Launch} {K : wC} {Q : Mem → Prop} {p : Program} {e : Env} {s : State} {m : MethodId} {args : Array Value} {below : List Frame} {meth : Method} {c : Code} (C : cx 12 K p s m args meth c cX6_readsOn 2 wsX6_readsOn RX6 none) : ∀ n : Nat, (∀ (M : Mem) (H : Heap) (locs : List Loc) (ls : Array Slot), (p_X6_readsOn Q n).1 M → wP shM 12 K M H → va_S (wA 12 K) s.heap H locs → lv_has ls 2 [(0, .ref (kb K + 0))] → W p l e rmX6_readsOn s m args below meth c H locs 0 0 (MQ below (va_Qv Q (wE shM 12 K) (wA 12 K)) args s 0 0 (wA 12 K)) (F0 m 8 ls [])) ∧ (∀ (M : Mem) (H : Heap) (locs : List Loc) (ls : Array Slot), (p_X6_readsOn Q n).2.1 M → wP shM 12 K M H → va_S (wA 12 K) s.heap H locs → lv_has ls 2 [(0, .ref (kb K + 0))] → W p l e rmX6_readsOn s m args below meth c H locs 0 0 (MQ below (va_Qv Q (wE shM 12 K) (wA 12 K)) args s 0 0 (wA 12 K)) (F0 m 84 ls [])) ∧ (∀ (M : Mem) (H : Heap) (locs : List Loc) (ls : Array Slot), (p_X6_readsOn Q n).2.2.1 M → wP shM 12 K M H → va_S (wA 12 K) s.heap H locs → lv_has ls 2 [(0, .ref (kb K + 0))] → W p l e rmX6_readsOn s m args below meth c H locs 0 0 (MQ below (va_Qv Q (wE shM 12 K) (wA 12 K)) args s 0 0 (wA 12 K)) (F0 m 140 ls [])) ∧ (∀ (s0 : Int32) (M : Mem) (H : Heap) (locs : List Loc) (ls : Array Slot), (p_X6_readsOn Q n).2.2.2 s0 M → wP shM 12 K M H → va_S (wA 12 K) s.heap H locs → lv_has ls 2 [(0, .ref (kb K + 0))] → W p l e rmX6_readsOn s m args below meth c H locs 0 0 (MQ below (va_Qv Q (wE shM 12 K) (wA 12 K)) args s 0 0 (wA 12 K)) (F0 m 201 ls [.int s0, .ref (kb K + 0)])) := by
  obtain ⟨hx, hb, hml, hown, hts, hr, hlk, hK⟩ := id C
  intro n
  induction n with
  | zero => exact ⟨fun _ _ _ _ hw _ _ _ => False.elim hw, fun _ _ _ _ hw _ _ _ => False.elim hw, fun _ _ _ _ hw _ _ _ => False.elim hw, fun _ _ _ _ _ hw _ _ _ => False.elim hw⟩
  | succ n ih =>
    refine ⟨?_, ?_, ?_, ?_⟩
    · intro  M H locs ls hw hP hS hl
      have hw : f_X6_readsOn_8 Q (p_X6_readsOn Q n) M := hw
      delta f_X6_readsOn_8 at hw
      refine lv_aload_n hx hb dX6_readsOn_8 rfl (lv_at hl 0 rfl) ?_
      refine lv_aload_n hx hb dX6_readsOn_9 rfl (lv_at hl 0 rfl) ?_
      refine g_f C hP (by decide) (sM_0 K _) rfl hX6_readsOn_X6 8 (by decide) kX6_readsOn_f69 rfl dX6_readsOn_10 ?_
      refine c_i (run_v (As := [.int (M 0 8)]) (rest := []) C hP hS (c_X6_byteAt hw) gX6_readsOn_X6_byteAt rfl dsX6_byteAt rfl ⟨rfl, rfl⟩ ⟨Nat.le_of_ble_eq_true rfl, Nat.le_of_ble_eq_true rfl⟩ (by decide) (sM_0 K _) rfl hl.1 rfl (Nat.le_of_ble_eq_true rfl) dX6_readsOn_13 ⟨Nat.le_of_ble_eq_true rfl, Nat.le_of_ble_eq_true rfl⟩) hS (fun r_2 M_1 H locs hw hP hS => ?_)
      refine lv_bipush hx hb dX6_readsOn_16 bp_32 ?_
      refine lv_icmp_ne (tgt := 34) hx hb dX6_readsOn_18 (by decide) (fun hc => ?_) (fun hc => ?_)
      · have hw := hw.1 hc
        refine lv_aload_n hx hb dX6_readsOn_34 rfl (lv_at hl 0 rfl) ?_
        refine lv_aload_n hx hb dX6_readsOn_35 rfl (lv_at hl 0 rfl) ?_
        refine g_f C hP (by decide) (sM_0 K _) rfl hX6_readsOn_X6 8 (by decide) kX6_readsOn_f69 rfl dX6_readsOn_36 ?_
        refine p_f C hP hS (by decide) (sM_0 K _) (sM_0 K _) rfl hX6_readsOn_X6 tyX6_ok nmX6 (by decide) kX6_readsOn_f60 rfl rfl rfl (Nat.le_of_ble_eq_true rfl) dX6_readsOn_39 (fun H locs hP hS => ?_)
        refine lv_aload_n hx hb dX6_readsOn_42 rfl (lv_at hl 0 rfl) ?_
        refine lv_aload_n hx hb dX6_readsOn_43 rfl (lv_at hl 0 rfl) ?_
        refine g_f C hP (by decide) (sM_0 K _) rfl hX6_readsOn_X6 8 (by decide) kX6_readsOn_f69 rfl dX6_readsOn_44 ?_
        refine c_i (run_v (As := [.int ((mU M_1 0 9 (M_1 0 8)) 0 8)]) (rest := []) C hP hS (c_X6_byteAt hw) gX6_readsOn_X6_byteAt rfl dsX6_byteAt rfl ⟨rfl, rfl⟩ ⟨Nat.le_of_ble_eq_true rfl, Nat.le_of_ble_eq_true rfl⟩ (by decide) (sM_0 K _) rfl hl.1 rfl (Nat.le_of_ble_eq_true rfl) dX6_readsOn_47 ⟨Nat.le_of_ble_eq_true rfl, Nat.le_of_ble_eq_true rfl⟩) hS (fun r_4 M_3 H locs hw hP hS => ?_)
        refine lv_istore_n (lv' := [(1, .int r_4), (0, .ref (kb K + 0))]) hx hb dX6_readsOn_50 rfl hl (by decide) rfl (fun ls hl => ?_)
        refine lv_aload_n hx hb dX6_readsOn_51 rfl (lv_at hl 1 rfl) ?_
        refine lv_iconst hx hb dX6_readsOn_52 ic_0 ?_
        refine p_f C hP hS (by decide) (sM_0 K _) (sM_0 K _) rfl hX6_readsOn_X6 tyX6_ok nmX6 (by decide) kX6_readsOn_f76 rfl rfl rfl (Nat.le_of_ble_eq_true rfl) dX6_readsOn_53 (fun H locs hP hS => ?_)
        refine lv_iload_n hx hb dX6_readsOn_56 rfl (lv_at hl 0 rfl) ?_
        refine lv_bipush hx hb dX6_readsOn_57 bp_m4 ?_
        refine lv_icmp_ne (tgt := 70) hx hb dX6_readsOn_59 (by decide) (fun hc => ?_) (fun hc => ?_)
        · have hw := hw.1 hc
          refine lv_iload_n hx hb dX6_readsOn_70 rfl (lv_at hl 0 rfl) ?_
          refine lv_i2l hx hb dX6_readsOn_71 rfl ?_
          refine lv_ldc2 hx hb hown (hts _ kX6_readsOn_c79) dX6_readsOn_72 ?_
          refine lv_ldc2 hx hb hown (hts _ kX6_readsOn_c81) dX6_readsOn_75 ?_
          refine c_i (run_s (As := [.long r_4.toInt64, .long (97 : Int64), .long (122 : Int64)]) (rest := []) C hP hS (c_X6_in hw) gX6_readsOn_X6_in rfl dsX6_in rfl ⟨rfl, rfl⟩ ⟨Nat.le_of_ble_eq_true rfl, Nat.le_of_ble_eq_true rfl⟩ hl.1 rfl (Nat.le_of_ble_eq_true rfl) dX6_readsOn_78 ⟨Nat.le_of_ble_eq_true rfl, Nat.le_of_ble_eq_true rfl⟩) hS (fun r_6 M_5 H locs hw hP hS => ?_)
          refine lv_if_eq (tgt := 126) hx hb dX6_readsOn_81 (by decide) (fun hc => ?_) (fun hc => ?_)
          · have hw := hw.1 hc
            refine lv_iload_n hx hb dX6_readsOn_126 rfl (lv_at hl 0 rfl) ?_
            refine lv_i2l hx hb dX6_readsOn_127 rfl ?_
            refine lv_ldc2 hx hb hown (hts _ kX6_readsOn_c83) dX6_readsOn_128 ?_
            refine lv_ldc2 hx hb hown (hts _ kX6_readsOn_c85) dX6_readsOn_131 ?_
            refine c_i (run_s (As := [.long r_4.toInt64, .long (48 : Int64), .long (57 : Int64)]) (rest := []) C hP hS (c_X6_in hw) gX6_readsOn_X6_in rfl dsX6_in rfl ⟨rfl, rfl⟩ ⟨Nat.le_of_ble_eq_true rfl, Nat.le_of_ble_eq_true rfl⟩ hl.1 rfl (Nat.le_of_ble_eq_true rfl) dX6_readsOn_134 ⟨Nat.le_of_ble_eq_true rfl, Nat.le_of_ble_eq_true rfl⟩) hS (fun r_8 M_7 H locs hw hP hS => ?_)
            refine lv_if_eq (tgt := 243) hx hb dX6_readsOn_137 (by decide) (fun hc => ?_) (fun hc => ?_)
            · have hw := hw.1 hc
              refine lv_aload_n hx hb dX6_readsOn_243 rfl (lv_at hl 1 rfl) ?_
              refine lv_iconst hx hb dX6_readsOn_244 ic_3 ?_
              refine p_f C hP hS (by decide) (sM_0 K _) (sM_0 K _) rfl hX6_readsOn_X6 tyX6_ok nmX6 (by decide) kX6_readsOn_f66 rfl rfl rfl (Nat.le_of_ble_eq_true rfl) dX6_readsOn_245 (fun H locs hP hS => ?_)
              refine lv_aload_n hx hb dX6_readsOn_248 rfl (lv_at hl 1 rfl) ?_
              refine lv_dup hx hb dX6_readsOn_249 rfl ?_
              refine g_f C hP (by decide) (sM_0 K _) rfl hX6_readsOn_X6 8 (by decide) kX6_readsOn_f69 rfl dX6_readsOn_250 ?_
              refine lv_iconst hx hb dX6_readsOn_253 ic_1 ?_
              refine lv_iadd hx hb dX6_readsOn_254 ?_
              refine p_f C hP hS (by decide) (sM_0 K _) (sM_0 K _) rfl hX6_readsOn_X6 tyX6_ok nmX6 (by decide) kX6_readsOn_f69 rfl rfl rfl (Nat.le_of_ble_eq_true rfl) dX6_readsOn_255 (fun H locs hP hS => ?_)
              obtain ⟨M_9, eM_9⟩ : ∃ z : Mem, z = mU (mU M_7 0 10 (3 : Int32)) 0 8 (((mU M_7 0 10 (3 : Int32)) 0 8) + (1 : Int32)) := ⟨_, rfl⟩
              rw [← eM_9] at hP
              have hw := hw M_9 eM_9
              refine lv_iload_n hx hb dX6_readsOn_258 rfl (lv_at hl 0 rfl) ?_
              refine lv_bipush hx hb dX6_readsOn_259 bp_59 ?_
              refine lv_icmp_eq (tgt := 269) hx hb dX6_readsOn_261 (by decide) (fun hc => ?_) (fun hc => ?_)
              · have hw := hw.1 hc
                exact r_v C hP hS hw dX6_readsOn_269
              · have hw := hw.2 hc
                refine lv_aload_n hx hb dX6_readsOn_264 rfl (lv_at hl 1 rfl) ?_
                refine lv_iconst hx hb dX6_readsOn_265 ic_1 ?_
                refine c_v (run_v (As := [.int (1 : Int32)]) (rest := []) C hP hS (c_X6_fails hw) gX6_readsOn_X6_fails rfl dsX6_fails rfl ⟨rfl, rfl⟩ ⟨Nat.le_of_ble_eq_true rfl, Nat.le_of_ble_eq_true rfl⟩ (by decide) (sM_0 K _) rfl hl.1 rfl (Nat.le_of_ble_eq_true rfl) dX6_readsOn_266 ⟨Nat.le_of_ble_eq_true rfl, Nat.le_of_ble_eq_true rfl⟩) hS (fun M_10 H locs hw hP hS => ?_)
                exact r_v C hP hS hw dX6_readsOn_269
            · have hw := hw.2 hc
              exact ih.2.2.1 _ _ _ _ hw hP hS (lv_sub hl [1] rfl)
          · have hw := hw.2 hc
            exact ih.2.1 _ _ _ _ hw hP hS (lv_sub hl [1] rfl)
        · have hw := hw.2 hc
          refine lv_aload_n hx hb dX6_readsOn_62 rfl (lv_at hl 1 rfl) ?_
          refine lv_iconst hx hb dX6_readsOn_63 ic_0 ?_
          refine p_f C hP hS (by decide) (sM_0 K _) (sM_0 K _) rfl hX6_readsOn_X6 tyX6_ok nmX6 (by decide) kX6_readsOn_f66 rfl rfl rfl (Nat.le_of_ble_eq_true rfl) dX6_readsOn_64 (fun H locs hP hS => ?_)
          refine lv_goto (tgt := 269) hx hb dX6_readsOn_67 (by decide) ?_
          exact r_v C hP hS hw dX6_readsOn_269
      · have hw := hw.2 hc
        refine lv_aload_n hx hb dX6_readsOn_21 rfl (lv_at hl 0 rfl) ?_
        refine lv_dup hx hb dX6_readsOn_22 rfl ?_
        refine g_f C hP (by decide) (sM_0 K _) rfl hX6_readsOn_X6 8 (by decide) kX6_readsOn_f69 rfl dX6_readsOn_23 ?_
        refine lv_iconst hx hb dX6_readsOn_26 ic_1 ?_
        refine lv_iadd hx hb dX6_readsOn_27 ?_
        refine p_f C hP hS (by decide) (sM_0 K _) (sM_0 K _) rfl hX6_readsOn_X6 tyX6_ok nmX6 (by decide) kX6_readsOn_f69 rfl rfl rfl (Nat.le_of_ble_eq_true rfl) dX6_readsOn_28 (fun H locs hP hS => ?_)
        refine lv_goto (tgt := 8) hx hb dX6_readsOn_31 (by decide) ?_
        exact ih.1 _ _ _ _ hw hP hS (lv_sub hl [0] rfl)
    · intro  M H locs ls hw hP hS hl
      have hw : f_X6_readsOn_84 Q (p_X6_readsOn Q n) M := hw
      delta f_X6_readsOn_84 at hw
      refine lv_aload_n hx hb dX6_readsOn_84 rfl (lv_at hl 0 rfl) ?_
      refine lv_aload_n hx hb dX6_readsOn_85 rfl (lv_at hl 0 rfl) ?_
      refine g_f C hP (by decide) (sM_0 K _) rfl hX6_readsOn_X6 8 (by decide) kX6_readsOn_f69 rfl dX6_readsOn_86 ?_
      refine c_i (run_v (As := [.int (M 0 8)]) (rest := []) C hP hS (c_X6_byteAt hw) gX6_readsOn_X6_byteAt rfl dsX6_byteAt rfl ⟨rfl, rfl⟩ ⟨Nat.le_of_ble_eq_true rfl, Nat.le_of_ble_eq_true rfl⟩ (by decide) (sM_0 K _) rfl hl.1 rfl (Nat.le_of_ble_eq_true rfl) dX6_readsOn_89 ⟨Nat.le_of_ble_eq_true rfl, Nat.le_of_ble_eq_true rfl⟩) hS (fun r_12 M_11 H locs hw hP hS => ?_)
      refine lv_i2l hx hb dX6_readsOn_92 rfl ?_
      refine lv_ldc2 hx hb hown (hts _ kX6_readsOn_c79) dX6_readsOn_93 ?_
      refine lv_ldc2 hx hb hown (hts _ kX6_readsOn_c81) dX6_readsOn_96 ?_
      refine c_i (run_s (As := [.long r_12.toInt64, .long (97 : Int64), .long (122 : Int64)]) (rest := []) C hP hS (c_X6_in hw) gX6_readsOn_X6_in rfl dsX6_in rfl ⟨rfl, rfl⟩ ⟨Nat.le_of_ble_eq_true rfl, Nat.le_of_ble_eq_true rfl⟩ hl.1 rfl (Nat.le_of_ble_eq_true rfl) dX6_readsOn_99 ⟨Nat.le_of_ble_eq_true rfl, Nat.le_of_ble_eq_true rfl⟩) hS (fun r_14 M_13 H locs hw hP hS => ?_)
      refine lv_if_eq (tgt := 118) hx hb dX6_readsOn_102 (by decide) (fun hc => ?_) (fun hc => ?_)
      · have hw := hw.1 hc
        refine lv_aload_n hx hb dX6_readsOn_118 rfl (lv_at hl 0 rfl) ?_
        refine lv_iconst hx hb dX6_readsOn_119 ic_1 ?_
        refine p_f C hP hS (by decide) (sM_0 K _) (sM_0 K _) rfl hX6_readsOn_X6 tyX6_ok nmX6 (by decide) kX6_readsOn_f66 rfl rfl rfl (Nat.le_of_ble_eq_true rfl) dX6_readsOn_120 (fun H locs hP hS => ?_)
        refine lv_goto (tgt := 269) hx hb dX6_readsOn_123 (by decide) ?_
        exact r_v C hP hS hw dX6_readsOn_269
      · have hw := hw.2 hc
        refine lv_aload_n hx hb dX6_readsOn_105 rfl (lv_at hl 0 rfl) ?_
        refine lv_dup hx hb dX6_readsOn_106 rfl ?_
        refine g_f C hP (by decide) (sM_0 K _) rfl hX6_readsOn_X6 8 (by decide) kX6_readsOn_f69 rfl dX6_readsOn_107 ?_
        refine lv_iconst hx hb dX6_readsOn_110 ic_1 ?_
        refine lv_iadd hx hb dX6_readsOn_111 ?_
        refine p_f C hP hS (by decide) (sM_0 K _) (sM_0 K _) rfl hX6_readsOn_X6 tyX6_ok nmX6 (by decide) kX6_readsOn_f69 rfl rfl rfl (Nat.le_of_ble_eq_true rfl) dX6_readsOn_112 (fun H locs hP hS => ?_)
        refine lv_goto (tgt := 84) hx hb dX6_readsOn_115 (by decide) ?_
        exact ih.2.1 _ _ _ _ hw hP hS (lv_sub hl [0] rfl)
    · intro  M H locs ls hw hP hS hl
      have hw : f_X6_readsOn_140 Q (p_X6_readsOn Q n) M := hw
      delta f_X6_readsOn_140 at hw
      refine lv_aload_n hx hb dX6_readsOn_140 rfl (lv_at hl 0 rfl) ?_
      refine lv_aload_n hx hb dX6_readsOn_141 rfl (lv_at hl 0 rfl) ?_
      refine g_f C hP (by decide) (sM_0 K _) rfl hX6_readsOn_X6 8 (by decide) kX6_readsOn_f69 rfl dX6_readsOn_142 ?_
      refine c_i (run_v (As := [.int (M 0 8)]) (rest := []) C hP hS (c_X6_byteAt hw) gX6_readsOn_X6_byteAt rfl dsX6_byteAt rfl ⟨rfl, rfl⟩ ⟨Nat.le_of_ble_eq_true rfl, Nat.le_of_ble_eq_true rfl⟩ (by decide) (sM_0 K _) rfl hl.1 rfl (Nat.le_of_ble_eq_true rfl) dX6_readsOn_145 ⟨Nat.le_of_ble_eq_true rfl, Nat.le_of_ble_eq_true rfl⟩) hS (fun r_16 M_15 H locs hw hP hS => ?_)
      refine lv_i2l hx hb dX6_readsOn_148 rfl ?_
      refine lv_ldc2 hx hb hown (hts _ kX6_readsOn_c83) dX6_readsOn_149 ?_
      refine lv_ldc2 hx hb hown (hts _ kX6_readsOn_c85) dX6_readsOn_152 ?_
      refine c_i (run_s (As := [.long r_16.toInt64, .long (48 : Int64), .long (57 : Int64)]) (rest := []) C hP hS (c_X6_in hw) gX6_readsOn_X6_in rfl dsX6_in rfl ⟨rfl, rfl⟩ ⟨Nat.le_of_ble_eq_true rfl, Nat.le_of_ble_eq_true rfl⟩ hl.1 rfl (Nat.le_of_ble_eq_true rfl) dX6_readsOn_155 ⟨Nat.le_of_ble_eq_true rfl, Nat.le_of_ble_eq_true rfl⟩) hS (fun r_18 M_17 H locs hw hP hS => ?_)
      refine lv_if_eq (tgt := 217) hx hb dX6_readsOn_158 (by decide) (fun hc => ?_) (fun hc => ?_)
      · have hw := hw.1 hc
        refine lv_aload_n hx hb dX6_readsOn_217 rfl (lv_at hl 0 rfl) ?_
        refine lv_iconst hx hb dX6_readsOn_218 ic_2 ?_
        refine p_f C hP hS (by decide) (sM_0 K _) (sM_0 K _) rfl hX6_readsOn_X6 tyX6_ok nmX6 (by decide) kX6_readsOn_f66 rfl rfl rfl (Nat.le_of_ble_eq_true rfl) dX6_readsOn_219 (fun H locs hP hS => ?_)
        refine lv_aload_n hx hb dX6_readsOn_222 rfl (lv_at hl 0 rfl) ?_
        refine g_f C hP (by decide) (sM_0 K _) rfl hX6_readsOn_X6 8 (by decide) kX6_readsOn_f69 rfl dX6_readsOn_223 ?_
        refine lv_aload_n hx hb dX6_readsOn_226 rfl (lv_at hl 0 rfl) ?_
        refine g_f C hP (by decide) (sM_0 K _) rfl hX6_readsOn_X6 9 (by decide) kX6_readsOn_f60 rfl dX6_readsOn_227 ?_
        refine lv_isub hx hb dX6_readsOn_230 ?_
        refine lv_iconst hx hb dX6_readsOn_231 ic_2 ?_
        refine lv_icmp_le (tgt := 269) hx hb dX6_readsOn_232 (by decide) (fun hc => ?_) (fun hc => ?_)
        · have hw := hw.1 hc
          exact r_v C hP hS hw dX6_readsOn_269
        · have hw := hw.2 hc
          refine lv_aload_n hx hb dX6_readsOn_235 rfl (lv_at hl 0 rfl) ?_
          refine lv_iconst hx hb dX6_readsOn_236 ic_1 ?_
          refine c_v (run_v (As := [.int (1 : Int32)]) (rest := []) C hP hS (c_X6_fails hw) gX6_readsOn_X6_fails rfl dsX6_fails rfl ⟨rfl, rfl⟩ ⟨Nat.le_of_ble_eq_true rfl, Nat.le_of_ble_eq_true rfl⟩ (by decide) (sM_0 K _) rfl hl.1 rfl (Nat.le_of_ble_eq_true rfl) dX6_readsOn_237 ⟨Nat.le_of_ble_eq_true rfl, Nat.le_of_ble_eq_true rfl⟩) hS (fun M_19 H locs hw hP hS => ?_)
          refine lv_goto (tgt := 269) hx hb dX6_readsOn_240 (by decide) ?_
          exact r_v C hP hS hw dX6_readsOn_269
      · have hw := hw.2 hc
        refine lv_aload_n hx hb dX6_readsOn_161 rfl (lv_at hl 0 rfl) ?_
        refine lv_aload_n hx hb dX6_readsOn_162 rfl (lv_at hl 0 rfl) ?_
        refine g_f C hP (by decide) (sM_0 K _) rfl hX6_readsOn_X6 8 (by decide) kX6_readsOn_f69 rfl dX6_readsOn_163 ?_
        refine lv_aload_n hx hb dX6_readsOn_166 rfl (lv_at hl 0 rfl) ?_
        refine g_f C hP (by decide) (sM_0 K _) rfl hX6_readsOn_X6 9 (by decide) kX6_readsOn_f60 rfl dX6_readsOn_167 ?_
        refine lv_isub hx hb dX6_readsOn_170 ?_
        refine lv_iconst hx hb dX6_readsOn_171 ic_2 ?_
        refine lv_icmp_ge (tgt := 197) hx hb dX6_readsOn_172 (by decide) (fun hc => ?_) (fun hc => ?_)
        · have hw := hw.1 hc
          refine lv_aload_n hx hb dX6_readsOn_197 rfl (lv_at hl 0 rfl) ?_
          refine g_f C hP (by decide) (sM_0 K _) rfl hX6_readsOn_X6 11 (by decide) kX6_readsOn_f76 rfl dX6_readsOn_198 ?_
          exact ih.2.2.2 _ _ _ _ _ hw hP hS (lv_sub hl [0] rfl)
        · have hw := hw.2 hc
          refine lv_bipush hx hb dX6_readsOn_175 bp_10 ?_
          refine lv_aload_n hx hb dX6_readsOn_177 rfl (lv_at hl 0 rfl) ?_
          refine g_f C hP (by decide) (sM_0 K _) rfl hX6_readsOn_X6 11 (by decide) kX6_readsOn_f76 rfl dX6_readsOn_178 ?_
          refine lv_imul hx hb dX6_readsOn_181 ?_
          refine lv_aload_n hx hb dX6_readsOn_182 rfl (lv_at hl 0 rfl) ?_
          refine lv_aload_n hx hb dX6_readsOn_183 rfl (lv_at hl 0 rfl) ?_
          refine g_f C hP (by decide) (sM_0 K _) rfl hX6_readsOn_X6 8 (by decide) kX6_readsOn_f69 rfl dX6_readsOn_184 ?_
          refine c_i (run_v (As := [.int (M_17 0 8)]) (rest := [.int ((10 : Int32) * (M_17 0 11)), .ref (kb K + 0)]) C hP hS (c_X6_byteAt hw) gX6_readsOn_X6_byteAt rfl dsX6_byteAt rfl ⟨rfl, rfl⟩ ⟨Nat.le_of_ble_eq_true rfl, Nat.le_of_ble_eq_true rfl⟩ (by decide) (sM_0 K _) rfl hl.1 rfl (Nat.le_of_ble_eq_true rfl) dX6_readsOn_187 ⟨Nat.le_of_ble_eq_true rfl, Nat.le_of_ble_eq_true rfl⟩) hS (fun r_21 M_20 H locs hw hP hS => ?_)
          refine lv_iadd hx hb dX6_readsOn_190 ?_
          refine lv_bipush hx hb dX6_readsOn_191 bp_48 ?_
          refine lv_isub hx hb dX6_readsOn_193 ?_
          refine lv_goto (tgt := 201) hx hb dX6_readsOn_194 (by decide) ?_
          exact ih.2.2.2 _ _ _ _ _ hw hP hS (lv_sub hl [0] rfl)
    · intro s0 M H locs ls hw hP hS hl
      have hw : f_X6_readsOn_201 Q (p_X6_readsOn Q n) s0 M := hw
      delta f_X6_readsOn_201 at hw
      refine p_f C hP hS (by decide) (sM_0 K _) (sM_0 K _) rfl hX6_readsOn_X6 tyX6_ok nmX6 (by decide) kX6_readsOn_f76 rfl rfl rfl (Nat.le_of_ble_eq_true rfl) dX6_readsOn_201 (fun H locs hP hS => ?_)
      refine lv_aload_n hx hb dX6_readsOn_204 rfl (lv_at hl 0 rfl) ?_
      refine lv_dup hx hb dX6_readsOn_205 rfl ?_
      refine g_f C hP (by decide) (sM_0 K _) rfl hX6_readsOn_X6 8 (by decide) kX6_readsOn_f69 rfl dX6_readsOn_206 ?_
      refine lv_iconst hx hb dX6_readsOn_209 ic_1 ?_
      refine lv_iadd hx hb dX6_readsOn_210 ?_
      refine p_f C hP hS (by decide) (sM_0 K _) (sM_0 K _) rfl hX6_readsOn_X6 tyX6_ok nmX6 (by decide) kX6_readsOn_f69 rfl rfl rfl (Nat.le_of_ble_eq_true rfl) dX6_readsOn_211 (fun H locs hP hS => ?_)
      refine lv_goto (tgt := 140) hx hb dX6_readsOn_214 (by decide) ?_
      exact ih.2.2.1 _ _ _ _ hw hP hS (lv_sub hl [0] rfl)
theorem dsX6_readsOn : yX6_readsOn.cls = RX6 ∧ yX6_readsOn.cls ≠ "java/lang/invoke/MethodHandle" ∧ yX6_readsOn.cls ≠ "java/lang/invoke/VarHandle" ∧ (parseMethodDescriptor yX6_readsOn.desc).map (fun d => d.parameters.length) = some 0 := by decide +kernel
set_option maxRecDepth 100000 in
set_option maxHeartbeats 4000000 in
theorem c_X6_readsOn {l : Launch} {K : wC} {M : Mem} {Q : Mem → Prop} (hw : q_X6_readsOn M Q) : metV l yX6_readsOn wsX6_readsOn rmX6_readsOn shM 12 K [.ref (kb K + 0)] M Q := by
  refine met_of (cc := cX6_readsOn) (maxL := 2) (ret := none) (own := RX6) (by decide) rfl rfl (Nat.le_of_ble_eq_true rfl) ?_
  intro p e s m below meth c ls C hl hP hS
  have hl : lv_has ls 2 [(0, .ref (kb K + 0))] := hl
  obtain ⟨hx, hb, hml, hown, hts, hr, hlk, hK⟩ := id C
  have hP0 := hP
  obtain ⟨n, hw⟩ := hw
  have ih := b_X6_readsOn (l := l) (e := e) (below := below) (Q := Q) C n
  delta e_X6_readsOn at hw
  refine lv_aload_n hx hb dX6_readsOn_0 rfl (lv_at hl 0 rfl) ?_
  refine g_f C hP (by decide) (sM_0 K _) rfl hX6_readsOn_X6 6 (by decide) kX6_readsOn_f57 rfl dX6_readsOn_1 ?_
  refine lv_if_le (tgt := 8) hx hb dX6_readsOn_4 (by decide) (fun hc => ?_) (fun hc => ?_)
  · have hw := hw.1 hc
    exact ih.1 _ _ _ _ hw hP hS (lv_sub hl [0] rfl)
  · have hw := hw.2 hc
    exact r_v C hP hS hw dX6_readsOn_7

theorem kX6_number_f57 : Cond.fieldLink RX6 57 (TX6 6).1 (TX6 6).2.1 (TX6 6).2.2.1 ∈ wsX6_number := List.mem_of_getElem? (i := 1) rfl
theorem hX6_number_X6 : ∀ w ∈ u_ws RX6 TX6 26, w ∈ wsX6_number := fun _ h => List.mem_cons_of_mem _ (List.mem_append_right _ (h))
theorem kX6_number_f66 : Cond.fieldLink RX6 66 (TX6 10).1 (TX6 10).2.1 (TX6 10).2.2.1 ∈ wsX6_number := List.mem_of_getElem? (i := 2) rfl
theorem kX6_number_f76 : Cond.fieldLink RX6 76 (TX6 11).1 (TX6 11).2.1 (TX6 11).2.2.1 ∈ wsX6_number := List.mem_of_getElem? (i := 3) rfl
abbrev rmX6_number : Room := { frames := 2, cells := 0, slots := 0, locals := 46 }
def f_X6_number_62 (Q : Int32 → Mem → Prop) (s0 : Int32) (M : Mem) : Prop := q_X6_readsOn M (fun M_5 => Q s0 M_5)
def f_X6_number_47 (Q : Int32 → Mem → Prop) (v1 : Int32) (M : Mem) : Prop := ((¬ (M 0 6) = 0 → f_X6_number_62 Q v1 M) ∧ ((M 0 6) = 0 → f_X6_number_62 Q (M 0 11) M))
def f_X6_number_20 (Q : Int32 → Mem → Prop) (v1 : Int32) (v2 : Int32) (M : Mem) : Prop := ((¬ (M 0 6) = 0 → f_X6_number_47 Q v1 M) ∧ ((M 0 6) = 0 → q_X6_in (M 0 11).toInt64 v1.toInt64 v2.toInt64 M (fun r_3 M_2 => ((¬ r_3 = 0 → f_X6_number_47 Q v1 M_2) ∧ (r_3 = 0 → q_X6_fails (3 : Int32) M_2 (fun M_4 => f_X6_number_47 Q v1 M_4))))))
def q_X6_number (v1 : Int32) (v2 : Int32) (M : Mem) (Q : Int32 → Mem → Prop) : Prop := ((¬ (M 0 6) = 0 → f_X6_number_20 Q v1 v2 M) ∧ ((M 0 6) = 0 → (((M 0 10) = (2 : Int32) → f_X6_number_20 Q v1 v2 M) ∧ (¬ (M 0 10) = (2 : Int32) → q_X6_fails (2 : Int32) M (fun M_1 => f_X6_number_20 Q v1 v2 M_1)))))
set_option maxRecDepth 100000 in
set_option maxHeartbeats 4000000 in
theorem b_X6_number_62 {l : Launch} {K : wC} {Q : Int32 → Mem → Prop} {p : Program} {e : Env} {s : State} {m : MethodId} {args : Array Value} {below : List Frame} {meth : Method} {c : Code} (C : cx 12 K p s m args meth c cX6_number 4 wsX6_number RX6 (some .int)) (s0 : Int32) (M : Mem) (H : Heap) (locs : List Loc) (ls : Array Slot) (hw : f_X6_number_62 Q s0 M) (hP : wP shM 12 K M H) (hS : va_S (wA 12 K) s.heap H locs) (hl : lv_has ls 4 [(0, .ref (kb K + 0))]) : W p l e rmX6_number s m args below meth c H locs 0 0 (MQ below (va_Qi Q (wE shM 12 K) (wA 12 K)) args s 0 0 (wA 12 K)) (F0 m 62 ls [.int s0]) := by
  obtain ⟨hx, hb, hml, hown, hts, hr, hlk, hK⟩ := id C
  delta f_X6_number_62 at hw
  refine lv_istore_n (lv' := [(3, .int s0), (0, .ref (kb K + 0))]) hx hb dX6_number_62 rfl hl (by decide) rfl (fun ls hl => ?_)
  refine lv_aload_n hx hb dX6_number_63 rfl (lv_at hl 1 rfl) ?_
  refine c_v (run_v (As := []) (rest := []) C hP hS (c_X6_readsOn hw) gX6_number_X6_readsOn rfl dsX6_readsOn rfl ⟨rfl, rfl⟩ ⟨Nat.le_of_ble_eq_true rfl, Nat.le_of_ble_eq_true rfl⟩ (by decide) (sM_0 K _) rfl hl.1 rfl (Nat.le_of_ble_eq_true rfl) dX6_number_64 ⟨Nat.le_of_ble_eq_true rfl, Nat.le_of_ble_eq_true rfl⟩) hS (fun M_5 H locs hw hP hS => ?_)
  refine lv_iload_n hx hb dX6_number_67 rfl (lv_at hl 0 rfl) ?_
  exact r_i C hP hS hw dX6_number_68
set_option maxRecDepth 100000 in
set_option maxHeartbeats 4000000 in
theorem b_X6_number_47 {l : Launch} {K : wC} {Q : Int32 → Mem → Prop} {p : Program} {e : Env} {s : State} {m : MethodId} {args : Array Value} {below : List Frame} {meth : Method} {c : Code} (C : cx 12 K p s m args meth c cX6_number 4 wsX6_number RX6 (some .int)) (v1 : Int32) (M : Mem) (H : Heap) (locs : List Loc) (ls : Array Slot) (hw : f_X6_number_47 Q v1 M) (hP : wP shM 12 K M H) (hS : va_S (wA 12 K) s.heap H locs) (hl : lv_has ls 4 [(0, .ref (kb K + 0)), (1, .int v1)]) : W p l e rmX6_number s m args below meth c H locs 0 0 (MQ below (va_Qi Q (wE shM 12 K) (wA 12 K)) args s 0 0 (wA 12 K)) (F0 m 47 ls []) := by
  obtain ⟨hx, hb, hml, hown, hts, hr, hlk, hK⟩ := id C
  delta f_X6_number_47 at hw
  refine lv_aload_n hx hb dX6_number_47 rfl (lv_at hl 0 rfl) ?_
  refine g_f C hP (by decide) (sM_0 K _) rfl hX6_number_X6 6 (by decide) kX6_number_f57 rfl dX6_number_48 ?_
  refine lv_if_ne (tgt := 61) hx hb dX6_number_51 (by decide) (fun hc => ?_) (fun hc => ?_)
  · have hw := hw.1 hc
    refine lv_iload_n hx hb dX6_number_61 rfl (lv_at hl 1 rfl) ?_
    exact b_X6_number_62 C _ _ _ _ _ hw hP hS (lv_sub hl [0] rfl)
  · have hw := hw.2 hc
    refine lv_aload_n hx hb dX6_number_54 rfl (lv_at hl 0 rfl) ?_
    refine g_f C hP (by decide) (sM_0 K _) rfl hX6_number_X6 11 (by decide) kX6_number_f76 rfl dX6_number_55 ?_
    refine lv_goto (tgt := 62) hx hb dX6_number_58 (by decide) ?_
    exact b_X6_number_62 C _ _ _ _ _ hw hP hS (lv_sub hl [0] rfl)
set_option maxRecDepth 100000 in
set_option maxHeartbeats 4000000 in
theorem b_X6_number_20 {l : Launch} {K : wC} {Q : Int32 → Mem → Prop} {p : Program} {e : Env} {s : State} {m : MethodId} {args : Array Value} {below : List Frame} {meth : Method} {c : Code} (C : cx 12 K p s m args meth c cX6_number 4 wsX6_number RX6 (some .int)) (v1 : Int32) (v2 : Int32) (M : Mem) (H : Heap) (locs : List Loc) (ls : Array Slot) (hw : f_X6_number_20 Q v1 v2 M) (hP : wP shM 12 K M H) (hS : va_S (wA 12 K) s.heap H locs) (hl : lv_has ls 4 [(0, .ref (kb K + 0)), (1, .int v1), (2, .int v2)]) : W p l e rmX6_number s m args below meth c H locs 0 0 (MQ below (va_Qi Q (wE shM 12 K) (wA 12 K)) args s 0 0 (wA 12 K)) (F0 m 20 ls []) := by
  obtain ⟨hx, hb, hml, hown, hts, hr, hlk, hK⟩ := id C
  delta f_X6_number_20 at hw
  refine lv_aload_n hx hb dX6_number_20 rfl (lv_at hl 0 rfl) ?_
  refine g_f C hP (by decide) (sM_0 K _) rfl hX6_number_X6 6 (by decide) kX6_number_f57 rfl dX6_number_21 ?_
  refine lv_if_ne (tgt := 47) hx hb dX6_number_24 (by decide) (fun hc => ?_) (fun hc => ?_)
  · have hw := hw.1 hc
    exact b_X6_number_47 C _ _ _ _ _ hw hP hS (lv_sub hl [0, 1] rfl)
  · have hw := hw.2 hc
    refine lv_aload_n hx hb dX6_number_27 rfl (lv_at hl 0 rfl) ?_
    refine g_f C hP (by decide) (sM_0 K _) rfl hX6_number_X6 11 (by decide) kX6_number_f76 rfl dX6_number_28 ?_
    refine lv_i2l hx hb dX6_number_31 rfl ?_
    refine lv_iload_n hx hb dX6_number_32 rfl (lv_at hl 1 rfl) ?_
    refine lv_i2l hx hb dX6_number_33 rfl ?_
    refine lv_iload_n hx hb dX6_number_34 rfl (lv_at hl 2 rfl) ?_
    refine lv_i2l hx hb dX6_number_35 rfl ?_
    refine c_i (run_s (As := [.long (M 0 11).toInt64, .long v1.toInt64, .long v2.toInt64]) (rest := []) C hP hS (c_X6_in hw) gX6_number_X6_in rfl dsX6_in rfl ⟨rfl, rfl⟩ ⟨Nat.le_of_ble_eq_true rfl, Nat.le_of_ble_eq_true rfl⟩ hl.1 rfl (Nat.le_of_ble_eq_true rfl) dX6_number_36 ⟨Nat.le_of_ble_eq_true rfl, Nat.le_of_ble_eq_true rfl⟩) hS (fun r_3 M_2 H locs hw hP hS => ?_)
    refine lv_if_ne (tgt := 47) hx hb dX6_number_39 (by decide) (fun hc => ?_) (fun hc => ?_)
    · have hw := hw.1 hc
      exact b_X6_number_47 C _ _ _ _ _ hw hP hS (lv_sub hl [0, 1] rfl)
    · have hw := hw.2 hc
      refine lv_aload_n hx hb dX6_number_42 rfl (lv_at hl 0 rfl) ?_
      refine lv_iconst hx hb dX6_number_43 ic_3 ?_
      refine c_v (run_v (As := [.int (3 : Int32)]) (rest := []) C hP hS (c_X6_fails hw) gX6_number_X6_fails rfl dsX6_fails rfl ⟨rfl, rfl⟩ ⟨Nat.le_of_ble_eq_true rfl, Nat.le_of_ble_eq_true rfl⟩ (by decide) (sM_0 K _) rfl hl.1 rfl (Nat.le_of_ble_eq_true rfl) dX6_number_44 ⟨Nat.le_of_ble_eq_true rfl, Nat.le_of_ble_eq_true rfl⟩) hS (fun M_4 H locs hw hP hS => ?_)
      exact b_X6_number_47 C _ _ _ _ _ hw hP hS (lv_sub hl [0, 1] rfl)
theorem dsX6_number : yX6_number.cls = RX6 ∧ yX6_number.cls ≠ "java/lang/invoke/MethodHandle" ∧ yX6_number.cls ≠ "java/lang/invoke/VarHandle" ∧ (parseMethodDescriptor yX6_number.desc).map (fun d => d.parameters.length) = some 2 := by decide +kernel
set_option maxRecDepth 100000 in
set_option maxHeartbeats 4000000 in
theorem c_X6_number {l : Launch} {K : wC} {v1 : Int32} {v2 : Int32} {M : Mem} {Q : Int32 → Mem → Prop} (hw : q_X6_number v1 v2 M Q) : metI l yX6_number wsX6_number rmX6_number shM 12 K [.ref (kb K + 0), .int v1, .int v2] M Q := by
  refine met_of (cc := cX6_number) (maxL := 4) (ret := (some .int)) (own := RX6) (by decide) rfl rfl (Nat.le_of_ble_eq_true rfl) ?_
  intro p e s m below meth c ls C hl hP hS
  have hl : lv_has ls 4 [(0, .ref (kb K + 0)), (1, .int v1), (2, .int v2)] := hl
  obtain ⟨hx, hb, hml, hown, hts, hr, hlk, hK⟩ := id C
  have hP0 := hP
  delta q_X6_number at hw
  refine lv_aload_n hx hb dX6_number_0 rfl (lv_at hl 0 rfl) ?_
  refine g_f C hP (by decide) (sM_0 K _) rfl hX6_number_X6 6 (by decide) kX6_number_f57 rfl dX6_number_1 ?_
  refine lv_if_ne (tgt := 20) hx hb dX6_number_4 (by decide) (fun hc => ?_) (fun hc => ?_)
  · have hw := hw.1 hc
    exact b_X6_number_20 C _ _ _ _ _ _ hw hP hS (lv_sub hl [0, 1, 2] rfl)
  · have hw := hw.2 hc
    refine lv_aload_n hx hb dX6_number_7 rfl (lv_at hl 0 rfl) ?_
    refine g_f C hP (by decide) (sM_0 K _) rfl hX6_number_X6 10 (by decide) kX6_number_f66 rfl dX6_number_8 ?_
    refine lv_iconst hx hb dX6_number_11 ic_2 ?_
    refine lv_icmp_eq (tgt := 20) hx hb dX6_number_12 (by decide) (fun hc => ?_) (fun hc => ?_)
    · have hw := hw.1 hc
      exact b_X6_number_20 C _ _ _ _ _ _ hw hP hS (lv_sub hl [0, 1, 2] rfl)
    · have hw := hw.2 hc
      refine lv_aload_n hx hb dX6_number_15 rfl (lv_at hl 0 rfl) ?_
      refine lv_iconst hx hb dX6_number_16 ic_2 ?_
      refine c_v (run_v (As := [.int (2 : Int32)]) (rest := []) C hP hS (c_X6_fails hw) gX6_number_X6_fails rfl dsX6_fails rfl ⟨rfl, rfl⟩ ⟨Nat.le_of_ble_eq_true rfl, Nat.le_of_ble_eq_true rfl⟩ (by decide) (sM_0 K _) rfl hl.1 rfl (Nat.le_of_ble_eq_true rfl) dX6_number_17 ⟨Nat.le_of_ble_eq_true rfl, Nat.le_of_ble_eq_true rfl⟩) hS (fun M_1 H locs hw hP hS => ?_)
      exact b_X6_number_20 C _ _ _ _ _ _ hw hP hS (lv_sub hl [0, 1, 2] rfl)

theorem kX6_readMore_f13 : Cond.fieldLink RX6 13 (TX6 1).1 (TX6 1).2.1 (TX6 1).2.2.1 ∈ wsX6_readMore := List.mem_of_getElem? (i := 1) rfl
theorem hX6_readMore_X6 : ∀ w ∈ u_ws RX6 TX6 26, w ∈ wsX6_readMore := fun _ h => List.mem_cons_of_mem _ (List.mem_append_right _ (h))
abbrev rmX6_readMore : Room := { frames := 3, cells := 0, slots := 0, locals := 69 }
def q_X6_readMore (v1 : Int32) (M : Mem) (Q : Mem → Prop) : Prop := (((3 : Int32) < v1 → ((¬ v1 = (4 : Int32) → q_X6_number (0 : Int32) (20 : Int32) M (fun r_2 M_1 => q_X6_number (0 : Int32) (20 : Int32) (mU M_1 2 21 r_2) (fun r_4 M_3 => Q (mU M_3 2 22 r_4)))) ∧ (v1 = (4 : Int32) → q_X6_number (0 : Int32) (20 : Int32) M (fun r_6 M_5 => vp_in (M 2 20) 37 ∧ q_X6_number (0 : Int32) (20 : Int32) (mU M_5 2 (M 2 20).toNatClampNeg r_6) (fun r_9 M_8 => vp_in ((10 : Int32) + (M 2 20)) 37 ∧ (∀ M_11 : Mem, M_11 = mU (mU M_8 2 ((10 : Int32) + (M 2 20)).toNatClampNeg r_9) 2 20 (((mU M_8 2 ((10 : Int32) + (M 2 20)).toNatClampNeg r_9) 2 20) + (1 : Int32)) → Q M_11)))))) ∧ (¬ (3 : Int32) < v1 → vp_in ((23 : Int32) + (M 2 35)) 37 ∧ q_X6_number (1 : Int32) (9 : Int32) (mU M 2 ((23 : Int32) + (M 2 35)).toNatClampNeg v1) (fun r_14 M_13 => vp_in ((27 : Int32) + (M 2 35)) 37 ∧ (∀ M_16 : Mem, M_16 = mU (mU M_13 2 ((27 : Int32) + (M 2 35)).toNatClampNeg r_14) 2 35 (((mU M_13 2 ((27 : Int32) + (M 2 35)).toNatClampNeg r_14) 2 35) + (1 : Int32)) → Q M_16))))
theorem dsX6_readMore : yX6_readMore.cls = RX6 ∧ yX6_readMore.cls ≠ "java/lang/invoke/MethodHandle" ∧ yX6_readMore.cls ≠ "java/lang/invoke/VarHandle" ∧ (parseMethodDescriptor yX6_readMore.desc).map (fun d => d.parameters.length) = some 1 := by decide +kernel
set_option maxRecDepth 100000 in
set_option maxHeartbeats 4000000 in
theorem c_X6_readMore {l : Launch} {K : wC} {v1 : Int32} {M : Mem} {Q : Mem → Prop} (hw : q_X6_readMore v1 M Q) : metV l yX6_readMore wsX6_readMore rmX6_readMore shM 12 K [.ref (kb K + 0), .int v1] M Q := by
  refine met_of (cc := cX6_readMore) (maxL := 3) (ret := none) (own := RX6) (by decide) rfl rfl (Nat.le_of_ble_eq_true rfl) ?_
  intro p e s m below meth c ls C hl hP hS
  have hl : lv_has ls 3 [(0, .ref (kb K + 0)), (1, .int v1)] := hl
  obtain ⟨hx, hb, hml, hown, hts, hr, hlk, hK⟩ := id C
  have hP0 := hP
  delta q_X6_readMore at hw
  refine lv_iload_n hx hb dX6_readMore_0 rfl (lv_at hl 1 rfl) ?_
  refine lv_iconst hx hb dX6_readMore_1 ic_3 ?_
  refine lv_icmp_gt (tgt := 53) hx hb dX6_readMore_2 (by decide) (fun hc => ?_) (fun hc => ?_)
  · have hw := hw.1 hc
    refine lv_iload_n hx hb dX6_readMore_53 rfl (lv_at hl 1 rfl) ?_
    refine lv_iconst hx hb dX6_readMore_54 ic_4 ?_
    refine lv_icmp_ne (tgt := 109) hx hb dX6_readMore_55 (by decide) (fun hc => ?_) (fun hc => ?_)
    · have hw := hw.1 hc
      refine lv_aload_n hx hb dX6_readMore_109 rfl (lv_at hl 0 rfl) ?_
      refine g_f C hP (by decide) (sM_0 K _) rfl hX6_readMore_X6 1 (by decide) kX6_readMore_f13 rfl dX6_readMore_110 ?_
      refine lv_bipush hx hb dX6_readMore_113 bp_21 ?_
      refine lv_aload_n hx hb dX6_readMore_115 rfl (lv_at hl 0 rfl) ?_
      refine lv_iconst hx hb dX6_readMore_116 ic_0 ?_
      refine lv_bipush hx hb dX6_readMore_117 bp_20 ?_
      refine c_i (run_v (As := [.int (0 : Int32), .int (20 : Int32)]) (rest := [.int (21 : Int32), .ref (kb K + 2)]) C hP hS (c_X6_number hw) gX6_readMore_X6_number rfl dsX6_number rfl ⟨rfl, rfl⟩ ⟨Nat.le_of_ble_eq_true rfl, Nat.le_of_ble_eq_true rfl⟩ (by decide) (sM_0 K _) rfl hl.1 rfl (Nat.le_of_ble_eq_true rfl) dX6_readMore_119 ⟨Nat.le_of_ble_eq_true rfl, Nat.le_of_ble_eq_true rfl⟩) hS (fun r_2 M_1 H locs hw hP hS => ?_)
      refine a_is C hP hS (by decide) (sM_2 K) vi_21_37 ti_21 dX6_readMore_122 (fun H locs hP hS => ?_)
      refine lv_aload_n hx hb dX6_readMore_123 rfl (lv_at hl 0 rfl) ?_
      refine g_f C hP (by decide) (sM_0 K _) rfl hX6_readMore_X6 1 (by decide) kX6_readMore_f13 rfl dX6_readMore_124 ?_
      refine lv_bipush hx hb dX6_readMore_127 bp_22 ?_
      refine lv_aload_n hx hb dX6_readMore_129 rfl (lv_at hl 0 rfl) ?_
      refine lv_iconst hx hb dX6_readMore_130 ic_0 ?_
      refine lv_bipush hx hb dX6_readMore_131 bp_20 ?_
      refine c_i (run_v (As := [.int (0 : Int32), .int (20 : Int32)]) (rest := [.int (22 : Int32), .ref (kb K + 2)]) C hP hS (c_X6_number hw) gX6_readMore_X6_number rfl dsX6_number rfl ⟨rfl, rfl⟩ ⟨Nat.le_of_ble_eq_true rfl, Nat.le_of_ble_eq_true rfl⟩ (by decide) (sM_0 K _) rfl hl.1 rfl (Nat.le_of_ble_eq_true rfl) dX6_readMore_133 ⟨Nat.le_of_ble_eq_true rfl, Nat.le_of_ble_eq_true rfl⟩) hS (fun r_4 M_3 H locs hw hP hS => ?_)
      refine a_is C hP hS (by decide) (sM_2 K) vi_22_37 ti_22 dX6_readMore_136 (fun H locs hP hS => ?_)
      exact r_v C hP hS hw dX6_readMore_137
    · have hw := hw.2 hc
      refine lv_aload_n hx hb dX6_readMore_58 rfl (lv_at hl 0 rfl) ?_
      refine g_f C hP (by decide) (sM_0 K _) rfl hX6_readMore_X6 1 (by decide) kX6_readMore_f13 rfl dX6_readMore_59 ?_
      refine lv_bipush hx hb dX6_readMore_62 bp_20 ?_
      refine a_il C hP (by decide) (sM_2 K _) vi_20_37 ti_20 dX6_readMore_64 ?_
      refine lv_istore_n (lv' := [(2, .int (M 2 20)), (0, .ref (kb K + 0)), (1, .int v1)]) hx hb dX6_readMore_65 rfl hl (by decide) rfl (fun ls hl => ?_)
      refine lv_aload_n hx hb dX6_readMore_66 rfl (lv_at hl 1 rfl) ?_
      refine g_f C hP (by decide) (sM_0 K _) rfl hX6_readMore_X6 1 (by decide) kX6_readMore_f13 rfl dX6_readMore_67 ?_
      refine lv_iload_n hx hb dX6_readMore_70 rfl (lv_at hl 0 rfl) ?_
      refine lv_aload_n hx hb dX6_readMore_71 rfl (lv_at hl 1 rfl) ?_
      refine lv_iconst hx hb dX6_readMore_72 ic_0 ?_
      refine lv_bipush hx hb dX6_readMore_73 bp_20 ?_
      refine c_i (run_v (As := [.int (0 : Int32), .int (20 : Int32)]) (rest := [.int (M 2 20), .ref (kb K + 2)]) C hP hS (c_X6_number hw) gX6_readMore_X6_number rfl dsX6_number rfl ⟨rfl, rfl⟩ ⟨Nat.le_of_ble_eq_true rfl, Nat.le_of_ble_eq_true rfl⟩ (by decide) (sM_0 K _) rfl hl.1 rfl (Nat.le_of_ble_eq_true rfl) dX6_readMore_75 ⟨Nat.le_of_ble_eq_true rfl, Nat.le_of_ble_eq_true rfl⟩) hS (fun r_6 M_5 H locs hw hP hS => ?_)
      have hi_7 := hw.1
      have hw := hw.2
      refine a_is C hP hS (by decide) (sM_2 K) hi_7 rfl dX6_readMore_78 (fun H locs hP hS => ?_)
      refine lv_aload_n hx hb dX6_readMore_79 rfl (lv_at hl 1 rfl) ?_
      refine g_f C hP (by decide) (sM_0 K _) rfl hX6_readMore_X6 1 (by decide) kX6_readMore_f13 rfl dX6_readMore_80 ?_
      refine lv_bipush hx hb dX6_readMore_83 bp_10 ?_
      refine lv_iload_n hx hb dX6_readMore_85 rfl (lv_at hl 0 rfl) ?_
      refine lv_iadd hx hb dX6_readMore_86 ?_
      refine lv_aload_n hx hb dX6_readMore_87 rfl (lv_at hl 1 rfl) ?_
      refine lv_iconst hx hb dX6_readMore_88 ic_0 ?_
      refine lv_bipush hx hb dX6_readMore_89 bp_20 ?_
      refine c_i (run_v (As := [.int (0 : Int32), .int (20 : Int32)]) (rest := [.int ((10 : Int32) + (M 2 20)), .ref (kb K + 2)]) C hP hS (c_X6_number hw) gX6_readMore_X6_number rfl dsX6_number rfl ⟨rfl, rfl⟩ ⟨Nat.le_of_ble_eq_true rfl, Nat.le_of_ble_eq_true rfl⟩ (by decide) (sM_0 K _) rfl hl.1 rfl (Nat.le_of_ble_eq_true rfl) dX6_readMore_91 ⟨Nat.le_of_ble_eq_true rfl, Nat.le_of_ble_eq_true rfl⟩) hS (fun r_9 M_8 H locs hw hP hS => ?_)
      have hi_10 := hw.1
      have hw := hw.2
      refine a_is C hP hS (by decide) (sM_2 K) hi_10 rfl dX6_readMore_94 (fun H locs hP hS => ?_)
      refine lv_aload_n hx hb dX6_readMore_95 rfl (lv_at hl 1 rfl) ?_
      refine g_f C hP (by decide) (sM_0 K _) rfl hX6_readMore_X6 1 (by decide) kX6_readMore_f13 rfl dX6_readMore_96 ?_
      refine lv_bipush hx hb dX6_readMore_99 bp_20 ?_
      refine lv_dup2_11 hx hb dX6_readMore_101 rfl rfl ?_
      refine a_il C hP (by decide) (sM_2 K _) vi_20_37 ti_20 dX6_readMore_102 ?_
      refine lv_iconst hx hb dX6_readMore_103 ic_1 ?_
      refine lv_iadd hx hb dX6_readMore_104 ?_
      refine a_is C hP hS (by decide) (sM_2 K) vi_20_37 ti_20 dX6_readMore_105 (fun H locs hP hS => ?_)
      obtain ⟨M_11, eM_11⟩ : ∃ z : Mem, z = mU (mU M_8 2 ((10 : Int32) + (M 2 20)).toNatClampNeg r_9) 2 20 (((mU M_8 2 ((10 : Int32) + (M 2 20)).toNatClampNeg r_9) 2 20) + (1 : Int32)) := ⟨_, rfl⟩
      rw [← eM_11] at hP
      have hw := hw M_11 eM_11
      refine lv_goto (tgt := 137) hx hb dX6_readMore_106 (by decide) ?_
      exact r_v C hP hS hw dX6_readMore_137
  · have hw := hw.2 hc
    refine lv_aload_n hx hb dX6_readMore_5 rfl (lv_at hl 0 rfl) ?_
    refine g_f C hP (by decide) (sM_0 K _) rfl hX6_readMore_X6 1 (by decide) kX6_readMore_f13 rfl dX6_readMore_6 ?_
    refine lv_bipush hx hb dX6_readMore_9 bp_35 ?_
    refine a_il C hP (by decide) (sM_2 K _) vi_35_37 ti_35 dX6_readMore_11 ?_
    refine lv_istore_n (lv' := [(2, .int (M 2 35)), (0, .ref (kb K + 0)), (1, .int v1)]) hx hb dX6_readMore_12 rfl hl (by decide) rfl (fun ls hl => ?_)
    refine lv_aload_n hx hb dX6_readMore_13 rfl (lv_at hl 1 rfl) ?_
    refine g_f C hP (by decide) (sM_0 K _) rfl hX6_readMore_X6 1 (by decide) kX6_readMore_f13 rfl dX6_readMore_14 ?_
    refine lv_bipush hx hb dX6_readMore_17 bp_23 ?_
    refine lv_iload_n hx hb dX6_readMore_19 rfl (lv_at hl 0 rfl) ?_
    refine lv_iadd hx hb dX6_readMore_20 ?_
    refine lv_iload_n hx hb dX6_readMore_21 rfl (lv_at hl 2 rfl) ?_
    have hi_12 := hw.1
    have hw := hw.2
    refine a_is C hP hS (by decide) (sM_2 K) hi_12 rfl dX6_readMore_22 (fun H locs hP hS => ?_)
    refine lv_aload_n hx hb dX6_readMore_23 rfl (lv_at hl 1 rfl) ?_
    refine g_f C hP (by decide) (sM_0 K _) rfl hX6_readMore_X6 1 (by decide) kX6_readMore_f13 rfl dX6_readMore_24 ?_
    refine lv_bipush hx hb dX6_readMore_27 bp_27 ?_
    refine lv_iload_n hx hb dX6_readMore_29 rfl (lv_at hl 0 rfl) ?_
    refine lv_iadd hx hb dX6_readMore_30 ?_
    refine lv_aload_n hx hb dX6_readMore_31 rfl (lv_at hl 1 rfl) ?_
    refine lv_iconst hx hb dX6_readMore_32 ic_1 ?_
    refine lv_bipush hx hb dX6_readMore_33 bp_9 ?_
    refine c_i (run_v (As := [.int (1 : Int32), .int (9 : Int32)]) (rest := [.int ((27 : Int32) + (M 2 35)), .ref (kb K + 2)]) C hP hS (c_X6_number hw) gX6_readMore_X6_number rfl dsX6_number rfl ⟨rfl, rfl⟩ ⟨Nat.le_of_ble_eq_true rfl, Nat.le_of_ble_eq_true rfl⟩ (by decide) (sM_0 K _) rfl hl.1 rfl (Nat.le_of_ble_eq_true rfl) dX6_readMore_35 ⟨Nat.le_of_ble_eq_true rfl, Nat.le_of_ble_eq_true rfl⟩) hS (fun r_14 M_13 H locs hw hP hS => ?_)
    have hi_15 := hw.1
    have hw := hw.2
    refine a_is C hP hS (by decide) (sM_2 K) hi_15 rfl dX6_readMore_38 (fun H locs hP hS => ?_)
    refine lv_aload_n hx hb dX6_readMore_39 rfl (lv_at hl 1 rfl) ?_
    refine g_f C hP (by decide) (sM_0 K _) rfl hX6_readMore_X6 1 (by decide) kX6_readMore_f13 rfl dX6_readMore_40 ?_
    refine lv_bipush hx hb dX6_readMore_43 bp_35 ?_
    refine lv_dup2_11 hx hb dX6_readMore_45 rfl rfl ?_
    refine a_il C hP (by decide) (sM_2 K _) vi_35_37 ti_35 dX6_readMore_46 ?_
    refine lv_iconst hx hb dX6_readMore_47 ic_1 ?_
    refine lv_iadd hx hb dX6_readMore_48 ?_
    refine a_is C hP hS (by decide) (sM_2 K) vi_35_37 ti_35 dX6_readMore_49 (fun H locs hP hS => ?_)
    obtain ⟨M_16, eM_16⟩ : ∃ z : Mem, z = mU (mU M_13 2 ((27 : Int32) + (M 2 35)).toNatClampNeg r_14) 2 35 (((mU M_13 2 ((27 : Int32) + (M 2 35)).toNatClampNeg r_14) 2 35) + (1 : Int32)) := ⟨_, rfl⟩
    rw [← eM_16] at hP
    have hw := hw M_16 eM_16
    refine lv_goto (tgt := 137) hx hb dX6_readMore_50 (by decide) ?_
    exact r_v C hP hS hw dX6_readMore_137

theorem kX6_readLine_c102 : Cond.constantLong RX6 102 (5) ∈ wsX6_readLine := List.mem_of_getElem? (i := 1) rfl
theorem kX6_readLine_f13 : Cond.fieldLink RX6 13 (TX6 1).1 (TX6 1).2.1 (TX6 1).2.2.1 ∈ wsX6_readLine := List.mem_of_getElem? (i := 2) rfl
theorem hX6_readLine_X6 : ∀ w ∈ u_ws RX6 TX6 26, w ∈ wsX6_readLine := fun _ h => List.mem_cons_of_mem _ (List.mem_append_right _ (h))
theorem kX6_readLine_f104 : Cond.fieldLink RX6 104 (TX6 2).1 (TX6 2).2.1 (TX6 2).2.2.1 ∈ wsX6_readLine := List.mem_of_getElem? (i := 3) rfl
theorem kX6_readLine_f57 : Cond.fieldLink RX6 57 (TX6 6).1 (TX6 6).2.1 (TX6 6).2.2.1 ∈ wsX6_readLine := List.mem_of_getElem? (i := 4) rfl
theorem kX6_readLine_f66 : Cond.fieldLink RX6 66 (TX6 10).1 (TX6 10).2.1 (TX6 10).2.2.1 ∈ wsX6_readLine := List.mem_of_getElem? (i := 5) rfl
abbrev rmX6_readLine : Room := { frames := 4, cells := 0, slots := 0, locals := 91 }
def f_X6_readLine_136 (Q : Mem → Prop) (M : Mem) : Prop := q_X6_readsOn M (fun M_12 => Q M_12)
def f_X6_readLine_96 (Q : Mem → Prop) (v1 : Int32) (s0 : Int32) (M : Mem) : Prop := isZ s0 ∧ q_X6_readsOn (mU M 0 2 s0) (fun M_9 => (((M_9 0 6) ≤ 0 → q_X6_readMore v1 M_9 (fun M_10 => ((¬ (M_10 0 6) = 0 → f_X6_readLine_136 Q M_10) ∧ ((M_10 0 6) = 0 → (((M_10 0 10) = (3 : Int32) → f_X6_readLine_136 Q M_10) ∧ (¬ (M_10 0 10) = (3 : Int32) → q_X6_fails (2 : Int32) M_10 (fun M_11 => f_X6_readLine_136 Q M_11))))))) ∧ (¬ (M_9 0 6) ≤ 0 → Q M_9)))
def f_X6_readLine_91 (Q : Mem → Prop) (v1 : Int32) (M : Mem) : Prop := f_X6_readLine_96 Q v1 (1 : Int32) M
def f_X6_readLine_78 (Q : Mem → Prop) (v1 : Int32) (M : Mem) : Prop := ((¬ (M 0 2) = 0 → f_X6_readLine_91 Q v1 M) ∧ ((M 0 2) = 0 → ((¬ v1 = (5 : Int32) → f_X6_readLine_96 Q v1 (0 : Int32) M) ∧ (v1 = (5 : Int32) → f_X6_readLine_91 Q v1 M))))
def f_X6_readLine_61 (Q : Mem → Prop) (v1 : Int32) (M : Mem) : Prop := ((¬ v1 = (5 : Int32) → f_X6_readLine_78 Q v1 M) ∧ (v1 = (5 : Int32) → (((M 0 2) = 0 → f_X6_readLine_78 Q v1 M) ∧ (¬ (M 0 2) = 0 → q_X6_fails (4 : Int32) M (fun M_7 => f_X6_readLine_78 Q v1 M_7)))))
def f_X6_readLine_56 (Q : Mem → Prop) (v1 : Int32) (M : Mem) : Prop := q_X6_fails (5 : Int32) M (fun M_6 => f_X6_readLine_61 Q v1 M_6)
def f_X6_readLine_39 (Q : Mem → Prop) (v1 : Int32) (M : Mem) : Prop := ((¬ v1 = (4 : Int32) → f_X6_readLine_61 Q v1 M) ∧ (v1 = (4 : Int32) → ((¬ (M 2 20) = (10 : Int32) → f_X6_readLine_61 Q v1 M) ∧ ((M 2 20) = (10 : Int32) → f_X6_readLine_56 Q v1 M))))
def q_X6_readLine (M : Mem) (Q : Mem → Prop) : Prop := q_X6_nameHere M (fun r_2 M_1 => q_X6_in r_2.toInt64 (0 : Int64) (5 : Int64) M_1 (fun r_4 M_3 => ((¬ r_4 = 0 → (((3 : Int32) < r_2 → f_X6_readLine_39 Q r_2 M_3) ∧ (¬ (3 : Int32) < r_2 → (((M_3 2 35) = (4 : Int32) → f_X6_readLine_56 Q r_2 M_3) ∧ (¬ (M_3 2 35) = (4 : Int32) → f_X6_readLine_39 Q r_2 M_3))))) ∧ (r_4 = 0 → q_X6_fails (2 : Int32) M_3 (fun M_5 => Q M_5)))))
set_option maxRecDepth 100000 in
set_option maxHeartbeats 4000000 in
theorem b_X6_readLine_136 {l : Launch} {K : wC} {Q : Mem → Prop} {p : Program} {e : Env} {s : State} {m : MethodId} {args : Array Value} {below : List Frame} {meth : Method} {c : Code} (C : cx 12 K p s m args meth c cX6_readLine 2 wsX6_readLine RX6 none) (M : Mem) (H : Heap) (locs : List Loc) (ls : Array Slot) (hw : f_X6_readLine_136 Q M) (hP : wP shM 12 K M H) (hS : va_S (wA 12 K) s.heap H locs) (hl : lv_has ls 2 [(0, .ref (kb K + 0))]) : W p l e rmX6_readLine s m args below meth c H locs 0 0 (MQ below (va_Qv Q (wE shM 12 K) (wA 12 K)) args s 0 0 (wA 12 K)) (F0 m 136 ls []) := by
  obtain ⟨hx, hb, hml, hown, hts, hr, hlk, hK⟩ := id C
  delta f_X6_readLine_136 at hw
  refine lv_aload_n hx hb dX6_readLine_136 rfl (lv_at hl 0 rfl) ?_
  refine c_v (run_v (As := []) (rest := []) C hP hS (c_X6_readsOn hw) gX6_readLine_X6_readsOn rfl dsX6_readsOn rfl ⟨rfl, rfl⟩ ⟨Nat.le_of_ble_eq_true rfl, Nat.le_of_ble_eq_true rfl⟩ (by decide) (sM_0 K _) rfl hl.1 rfl (Nat.le_of_ble_eq_true rfl) dX6_readLine_137 ⟨Nat.le_of_ble_eq_true rfl, Nat.le_of_ble_eq_true rfl⟩) hS (fun M_12 H locs hw hP hS => ?_)
  exact r_v C hP hS hw dX6_readLine_140
set_option maxRecDepth 100000 in
set_option maxHeartbeats 4000000 in
theorem b_X6_readLine_96 {l : Launch} {K : wC} {Q : Mem → Prop} {p : Program} {e : Env} {s : State} {m : MethodId} {args : Array Value} {below : List Frame} {meth : Method} {c : Code} (C : cx 12 K p s m args meth c cX6_readLine 2 wsX6_readLine RX6 none) (v1 : Int32) (s0 : Int32) (M : Mem) (H : Heap) (locs : List Loc) (ls : Array Slot) (hw : f_X6_readLine_96 Q v1 s0 M) (hP : wP shM 12 K M H) (hS : va_S (wA 12 K) s.heap H locs) (hl : lv_has ls 2 [(0, .ref (kb K + 0)), (1, .int v1)]) : W p l e rmX6_readLine s m args below meth c H locs 0 0 (MQ below (va_Qv Q (wE shM 12 K) (wA 12 K)) args s 0 0 (wA 12 K)) (F0 m 96 ls [.int s0, .ref (kb K + 0)]) := by
  obtain ⟨hx, hb, hml, hown, hts, hr, hlk, hK⟩ := id C
  delta f_X6_readLine_96 at hw
  have hz_8 := hw.1
  have hw := hw.2
  refine p_f C hP hS (by decide) (sM_0 K _) (sM_0 K _) rfl hX6_readLine_X6 tyX6_ok nmX6 (by decide) kX6_readLine_f104 rfl hz_8.1 hz_8.2 (Nat.le_of_ble_eq_true rfl) dX6_readLine_96 (fun H locs hP hS => ?_)
  refine lv_aload_n hx hb dX6_readLine_99 rfl (lv_at hl 0 rfl) ?_
  refine c_v (run_v (As := []) (rest := []) C hP hS (c_X6_readsOn hw) gX6_readLine_X6_readsOn rfl dsX6_readsOn rfl ⟨rfl, rfl⟩ ⟨Nat.le_of_ble_eq_true rfl, Nat.le_of_ble_eq_true rfl⟩ (by decide) (sM_0 K _) rfl hl.1 rfl (Nat.le_of_ble_eq_true rfl) dX6_readLine_100 ⟨Nat.le_of_ble_eq_true rfl, Nat.le_of_ble_eq_true rfl⟩) hS (fun M_9 H locs hw hP hS => ?_)
  refine lv_aload_n hx hb dX6_readLine_103 rfl (lv_at hl 0 rfl) ?_
  refine g_f C hP (by decide) (sM_0 K _) rfl hX6_readLine_X6 6 (by decide) kX6_readLine_f57 rfl dX6_readLine_104 ?_
  refine lv_if_le (tgt := 111) hx hb dX6_readLine_107 (by decide) (fun hc => ?_) (fun hc => ?_)
  · have hw := hw.1 hc
    refine lv_aload_n hx hb dX6_readLine_111 rfl (lv_at hl 0 rfl) ?_
    refine lv_iload_n hx hb dX6_readLine_112 rfl (lv_at hl 1 rfl) ?_
    refine c_v (run_v (As := [.int v1]) (rest := []) C hP hS (c_X6_readMore hw) gX6_readLine_X6_readMore rfl dsX6_readMore rfl ⟨rfl, rfl⟩ ⟨Nat.le_of_ble_eq_true rfl, Nat.le_of_ble_eq_true rfl⟩ (by decide) (sM_0 K _) rfl hl.1 rfl (Nat.le_of_ble_eq_true rfl) dX6_readLine_113 ⟨Nat.le_of_ble_eq_true rfl, Nat.le_of_ble_eq_true rfl⟩) hS (fun M_10 H locs hw hP hS => ?_)
    refine lv_aload_n hx hb dX6_readLine_116 rfl (lv_at hl 0 rfl) ?_
    refine g_f C hP (by decide) (sM_0 K _) rfl hX6_readLine_X6 6 (by decide) kX6_readLine_f57 rfl dX6_readLine_117 ?_
    refine lv_if_ne (tgt := 136) hx hb dX6_readLine_120 (by decide) (fun hc => ?_) (fun hc => ?_)
    · have hw := hw.1 hc
      exact b_X6_readLine_136 C _ _ _ _ hw hP hS (lv_sub hl [0] rfl)
    · have hw := hw.2 hc
      refine lv_aload_n hx hb dX6_readLine_123 rfl (lv_at hl 0 rfl) ?_
      refine g_f C hP (by decide) (sM_0 K _) rfl hX6_readLine_X6 10 (by decide) kX6_readLine_f66 rfl dX6_readLine_124 ?_
      refine lv_iconst hx hb dX6_readLine_127 ic_3 ?_
      refine lv_icmp_eq (tgt := 136) hx hb dX6_readLine_128 (by decide) (fun hc => ?_) (fun hc => ?_)
      · have hw := hw.1 hc
        exact b_X6_readLine_136 C _ _ _ _ hw hP hS (lv_sub hl [0] rfl)
      · have hw := hw.2 hc
        refine lv_aload_n hx hb dX6_readLine_131 rfl (lv_at hl 0 rfl) ?_
        refine lv_iconst hx hb dX6_readLine_132 ic_2 ?_
        refine c_v (run_v (As := [.int (2 : Int32)]) (rest := []) C hP hS (c_X6_fails hw) gX6_readLine_X6_fails rfl dsX6_fails rfl ⟨rfl, rfl⟩ ⟨Nat.le_of_ble_eq_true rfl, Nat.le_of_ble_eq_true rfl⟩ (by decide) (sM_0 K _) rfl hl.1 rfl (Nat.le_of_ble_eq_true rfl) dX6_readLine_133 ⟨Nat.le_of_ble_eq_true rfl, Nat.le_of_ble_eq_true rfl⟩) hS (fun M_11 H locs hw hP hS => ?_)
        exact b_X6_readLine_136 C _ _ _ _ hw hP hS (lv_sub hl [0] rfl)
  · have hw := hw.2 hc
    exact r_v C hP hS hw dX6_readLine_110
set_option maxRecDepth 100000 in
set_option maxHeartbeats 4000000 in
theorem b_X6_readLine_91 {l : Launch} {K : wC} {Q : Mem → Prop} {p : Program} {e : Env} {s : State} {m : MethodId} {args : Array Value} {below : List Frame} {meth : Method} {c : Code} (C : cx 12 K p s m args meth c cX6_readLine 2 wsX6_readLine RX6 none) (v1 : Int32) (M : Mem) (H : Heap) (locs : List Loc) (ls : Array Slot) (hw : f_X6_readLine_91 Q v1 M) (hP : wP shM 12 K M H) (hS : va_S (wA 12 K) s.heap H locs) (hl : lv_has ls 2 [(0, .ref (kb K + 0)), (1, .int v1)]) : W p l e rmX6_readLine s m args below meth c H locs 0 0 (MQ below (va_Qv Q (wE shM 12 K) (wA 12 K)) args s 0 0 (wA 12 K)) (F0 m 91 ls [.ref (kb K + 0)]) := by
  obtain ⟨hx, hb, hml, hown, hts, hr, hlk, hK⟩ := id C
  delta f_X6_readLine_91 at hw
  refine lv_iconst hx hb dX6_readLine_91 ic_1 ?_
  refine lv_goto (tgt := 96) hx hb dX6_readLine_92 (by decide) ?_
  exact b_X6_readLine_96 C _ _ _ _ _ _ hw hP hS (lv_sub hl [0, 1] rfl)
set_option maxRecDepth 100000 in
set_option maxHeartbeats 4000000 in
theorem b_X6_readLine_78 {l : Launch} {K : wC} {Q : Mem → Prop} {p : Program} {e : Env} {s : State} {m : MethodId} {args : Array Value} {below : List Frame} {meth : Method} {c : Code} (C : cx 12 K p s m args meth c cX6_readLine 2 wsX6_readLine RX6 none) (v1 : Int32) (M : Mem) (H : Heap) (locs : List Loc) (ls : Array Slot) (hw : f_X6_readLine_78 Q v1 M) (hP : wP shM 12 K M H) (hS : va_S (wA 12 K) s.heap H locs) (hl : lv_has ls 2 [(0, .ref (kb K + 0)), (1, .int v1)]) : W p l e rmX6_readLine s m args below meth c H locs 0 0 (MQ below (va_Qv Q (wE shM 12 K) (wA 12 K)) args s 0 0 (wA 12 K)) (F0 m 78 ls []) := by
  obtain ⟨hx, hb, hml, hown, hts, hr, hlk, hK⟩ := id C
  delta f_X6_readLine_78 at hw
  refine lv_aload_n hx hb dX6_readLine_78 rfl (lv_at hl 0 rfl) ?_
  refine lv_aload_n hx hb dX6_readLine_79 rfl (lv_at hl 0 rfl) ?_
  refine g_f C hP (by decide) (sM_0 K _) rfl hX6_readLine_X6 2 (by decide) kX6_readLine_f104 rfl dX6_readLine_80 ?_
  refine lv_if_ne (tgt := 91) hx hb dX6_readLine_83 (by decide) (fun hc => ?_) (fun hc => ?_)
  · have hw := hw.1 hc
    exact b_X6_readLine_91 C _ _ _ _ _ hw hP hS (lv_sub hl [0, 1] rfl)
  · have hw := hw.2 hc
    refine lv_iload_n hx hb dX6_readLine_86 rfl (lv_at hl 1 rfl) ?_
    refine lv_iconst hx hb dX6_readLine_87 ic_5 ?_
    refine lv_icmp_ne (tgt := 95) hx hb dX6_readLine_88 (by decide) (fun hc => ?_) (fun hc => ?_)
    · have hw := hw.1 hc
      refine lv_iconst hx hb dX6_readLine_95 ic_0 ?_
      exact b_X6_readLine_96 C _ _ _ _ _ _ hw hP hS (lv_sub hl [0, 1] rfl)
    · have hw := hw.2 hc
      exact b_X6_readLine_91 C _ _ _ _ _ hw hP hS (lv_sub hl [0, 1] rfl)
set_option maxRecDepth 100000 in
set_option maxHeartbeats 4000000 in
theorem b_X6_readLine_61 {l : Launch} {K : wC} {Q : Mem → Prop} {p : Program} {e : Env} {s : State} {m : MethodId} {args : Array Value} {below : List Frame} {meth : Method} {c : Code} (C : cx 12 K p s m args meth c cX6_readLine 2 wsX6_readLine RX6 none) (v1 : Int32) (M : Mem) (H : Heap) (locs : List Loc) (ls : Array Slot) (hw : f_X6_readLine_61 Q v1 M) (hP : wP shM 12 K M H) (hS : va_S (wA 12 K) s.heap H locs) (hl : lv_has ls 2 [(0, .ref (kb K + 0)), (1, .int v1)]) : W p l e rmX6_readLine s m args below meth c H locs 0 0 (MQ below (va_Qv Q (wE shM 12 K) (wA 12 K)) args s 0 0 (wA 12 K)) (F0 m 61 ls []) := by
  obtain ⟨hx, hb, hml, hown, hts, hr, hlk, hK⟩ := id C
  delta f_X6_readLine_61 at hw
  refine lv_iload_n hx hb dX6_readLine_61 rfl (lv_at hl 1 rfl) ?_
  refine lv_iconst hx hb dX6_readLine_62 ic_5 ?_
  refine lv_icmp_ne (tgt := 78) hx hb dX6_readLine_63 (by decide) (fun hc => ?_) (fun hc => ?_)
  · have hw := hw.1 hc
    exact b_X6_readLine_78 C _ _ _ _ _ hw hP hS (lv_sub hl [0, 1] rfl)
  · have hw := hw.2 hc
    refine lv_aload_n hx hb dX6_readLine_66 rfl (lv_at hl 0 rfl) ?_
    refine g_f C hP (by decide) (sM_0 K _) rfl hX6_readLine_X6 2 (by decide) kX6_readLine_f104 rfl dX6_readLine_67 ?_
    refine lv_if_eq (tgt := 78) hx hb dX6_readLine_70 (by decide) (fun hc => ?_) (fun hc => ?_)
    · have hw := hw.1 hc
      exact b_X6_readLine_78 C _ _ _ _ _ hw hP hS (lv_sub hl [0, 1] rfl)
    · have hw := hw.2 hc
      refine lv_aload_n hx hb dX6_readLine_73 rfl (lv_at hl 0 rfl) ?_
      refine lv_iconst hx hb dX6_readLine_74 ic_4 ?_
      refine c_v (run_v (As := [.int (4 : Int32)]) (rest := []) C hP hS (c_X6_fails hw) gX6_readLine_X6_fails rfl dsX6_fails rfl ⟨rfl, rfl⟩ ⟨Nat.le_of_ble_eq_true rfl, Nat.le_of_ble_eq_true rfl⟩ (by decide) (sM_0 K _) rfl hl.1 rfl (Nat.le_of_ble_eq_true rfl) dX6_readLine_75 ⟨Nat.le_of_ble_eq_true rfl, Nat.le_of_ble_eq_true rfl⟩) hS (fun M_7 H locs hw hP hS => ?_)
      exact b_X6_readLine_78 C _ _ _ _ _ hw hP hS (lv_sub hl [0, 1] rfl)
set_option maxRecDepth 100000 in
set_option maxHeartbeats 4000000 in
theorem b_X6_readLine_56 {l : Launch} {K : wC} {Q : Mem → Prop} {p : Program} {e : Env} {s : State} {m : MethodId} {args : Array Value} {below : List Frame} {meth : Method} {c : Code} (C : cx 12 K p s m args meth c cX6_readLine 2 wsX6_readLine RX6 none) (v1 : Int32) (M : Mem) (H : Heap) (locs : List Loc) (ls : Array Slot) (hw : f_X6_readLine_56 Q v1 M) (hP : wP shM 12 K M H) (hS : va_S (wA 12 K) s.heap H locs) (hl : lv_has ls 2 [(0, .ref (kb K + 0)), (1, .int v1)]) : W p l e rmX6_readLine s m args below meth c H locs 0 0 (MQ below (va_Qv Q (wE shM 12 K) (wA 12 K)) args s 0 0 (wA 12 K)) (F0 m 56 ls []) := by
  obtain ⟨hx, hb, hml, hown, hts, hr, hlk, hK⟩ := id C
  delta f_X6_readLine_56 at hw
  refine lv_aload_n hx hb dX6_readLine_56 rfl (lv_at hl 0 rfl) ?_
  refine lv_iconst hx hb dX6_readLine_57 ic_5 ?_
  refine c_v (run_v (As := [.int (5 : Int32)]) (rest := []) C hP hS (c_X6_fails hw) gX6_readLine_X6_fails rfl dsX6_fails rfl ⟨rfl, rfl⟩ ⟨Nat.le_of_ble_eq_true rfl, Nat.le_of_ble_eq_true rfl⟩ (by decide) (sM_0 K _) rfl hl.1 rfl (Nat.le_of_ble_eq_true rfl) dX6_readLine_58 ⟨Nat.le_of_ble_eq_true rfl, Nat.le_of_ble_eq_true rfl⟩) hS (fun M_6 H locs hw hP hS => ?_)
  exact b_X6_readLine_61 C _ _ _ _ _ hw hP hS (lv_sub hl [0, 1] rfl)
set_option maxRecDepth 100000 in
set_option maxHeartbeats 4000000 in
theorem b_X6_readLine_39 {l : Launch} {K : wC} {Q : Mem → Prop} {p : Program} {e : Env} {s : State} {m : MethodId} {args : Array Value} {below : List Frame} {meth : Method} {c : Code} (C : cx 12 K p s m args meth c cX6_readLine 2 wsX6_readLine RX6 none) (v1 : Int32) (M : Mem) (H : Heap) (locs : List Loc) (ls : Array Slot) (hw : f_X6_readLine_39 Q v1 M) (hP : wP shM 12 K M H) (hS : va_S (wA 12 K) s.heap H locs) (hl : lv_has ls 2 [(0, .ref (kb K + 0)), (1, .int v1)]) : W p l e rmX6_readLine s m args below meth c H locs 0 0 (MQ below (va_Qv Q (wE shM 12 K) (wA 12 K)) args s 0 0 (wA 12 K)) (F0 m 39 ls []) := by
  obtain ⟨hx, hb, hml, hown, hts, hr, hlk, hK⟩ := id C
  delta f_X6_readLine_39 at hw
  refine lv_iload_n hx hb dX6_readLine_39 rfl (lv_at hl 1 rfl) ?_
  refine lv_iconst hx hb dX6_readLine_40 ic_4 ?_
  refine lv_icmp_ne (tgt := 61) hx hb dX6_readLine_41 (by decide) (fun hc => ?_) (fun hc => ?_)
  · have hw := hw.1 hc
    exact b_X6_readLine_61 C _ _ _ _ _ hw hP hS (lv_sub hl [0, 1] rfl)
  · have hw := hw.2 hc
    refine lv_aload_n hx hb dX6_readLine_44 rfl (lv_at hl 0 rfl) ?_
    refine g_f C hP (by decide) (sM_0 K _) rfl hX6_readLine_X6 1 (by decide) kX6_readLine_f13 rfl dX6_readLine_45 ?_
    refine lv_bipush hx hb dX6_readLine_48 bp_20 ?_
    refine a_il C hP (by decide) (sM_2 K _) vi_20_37 ti_20 dX6_readLine_50 ?_
    refine lv_bipush hx hb dX6_readLine_51 bp_10 ?_
    refine lv_icmp_ne (tgt := 61) hx hb dX6_readLine_53 (by decide) (fun hc => ?_) (fun hc => ?_)
    · have hw := hw.1 hc
      exact b_X6_readLine_61 C _ _ _ _ _ hw hP hS (lv_sub hl [0, 1] rfl)
    · have hw := hw.2 hc
      exact b_X6_readLine_56 C _ _ _ _ _ hw hP hS (lv_sub hl [0, 1] rfl)
theorem dsX6_readLine : yX6_readLine.cls = RX6 ∧ yX6_readLine.cls ≠ "java/lang/invoke/MethodHandle" ∧ yX6_readLine.cls ≠ "java/lang/invoke/VarHandle" ∧ (parseMethodDescriptor yX6_readLine.desc).map (fun d => d.parameters.length) = some 0 := by decide +kernel
set_option maxRecDepth 100000 in
set_option maxHeartbeats 4000000 in
theorem c_X6_readLine {l : Launch} {K : wC} {M : Mem} {Q : Mem → Prop} (hw : q_X6_readLine M Q) : metV l yX6_readLine wsX6_readLine rmX6_readLine shM 12 K [.ref (kb K + 0)] M Q := by
  refine met_of (cc := cX6_readLine) (maxL := 2) (ret := none) (own := RX6) (by decide) rfl rfl (Nat.le_of_ble_eq_true rfl) ?_
  intro p e s m below meth c ls C hl hP hS
  have hl : lv_has ls 2 [(0, .ref (kb K + 0))] := hl
  obtain ⟨hx, hb, hml, hown, hts, hr, hlk, hK⟩ := id C
  have hP0 := hP
  delta q_X6_readLine at hw
  refine lv_aload_n hx hb dX6_readLine_0 rfl (lv_at hl 0 rfl) ?_
  refine c_i (run_v (As := []) (rest := []) C hP hS (c_X6_nameHere hw) gX6_readLine_X6_nameHere rfl dsX6_nameHere rfl ⟨rfl, rfl⟩ ⟨Nat.le_of_ble_eq_true rfl, Nat.le_of_ble_eq_true rfl⟩ (by decide) (sM_0 K _) rfl hl.1 rfl (Nat.le_of_ble_eq_true rfl) dX6_readLine_1 ⟨Nat.le_of_ble_eq_true rfl, Nat.le_of_ble_eq_true rfl⟩) hS (fun r_2 M_1 H locs hw hP hS => ?_)
  refine lv_istore_n (lv' := [(1, .int r_2), (0, .ref (kb K + 0))]) hx hb dX6_readLine_4 rfl hl (by decide) rfl (fun ls hl => ?_)
  refine lv_iload_n hx hb dX6_readLine_5 rfl (lv_at hl 0 rfl) ?_
  refine lv_i2l hx hb dX6_readLine_6 rfl ?_
  refine lv_lconst hx hb dX6_readLine_7 lc_0 ?_
  refine lv_ldc2 hx hb hown (hts _ kX6_readLine_c102) dX6_readLine_8 ?_
  refine c_i (run_s (As := [.long r_2.toInt64, .long (0 : Int64), .long (5 : Int64)]) (rest := []) C hP hS (c_X6_in hw) gX6_readLine_X6_in rfl dsX6_in rfl ⟨rfl, rfl⟩ ⟨Nat.le_of_ble_eq_true rfl, Nat.le_of_ble_eq_true rfl⟩ hl.1 rfl (Nat.le_of_ble_eq_true rfl) dX6_readLine_11 ⟨Nat.le_of_ble_eq_true rfl, Nat.le_of_ble_eq_true rfl⟩) hS (fun r_4 M_3 H locs hw hP hS => ?_)
  refine lv_if_ne (tgt := 23) hx hb dX6_readLine_14 (by decide) (fun hc => ?_) (fun hc => ?_)
  · have hw := hw.1 hc
    refine lv_iload_n hx hb dX6_readLine_23 rfl (lv_at hl 0 rfl) ?_
    refine lv_iconst hx hb dX6_readLine_24 ic_3 ?_
    refine lv_icmp_gt (tgt := 39) hx hb dX6_readLine_25 (by decide) (fun hc => ?_) (fun hc => ?_)
    · have hw := hw.1 hc
      exact b_X6_readLine_39 C _ _ _ _ _ hw hP hS (lv_sub hl [1, 0] rfl)
    · have hw := hw.2 hc
      refine lv_aload_n hx hb dX6_readLine_28 rfl (lv_at hl 1 rfl) ?_
      refine g_f C hP (by decide) (sM_0 K _) rfl hX6_readLine_X6 1 (by decide) kX6_readLine_f13 rfl dX6_readLine_29 ?_
      refine lv_bipush hx hb dX6_readLine_32 bp_35 ?_
      refine a_il C hP (by decide) (sM_2 K _) vi_35_37 ti_35 dX6_readLine_34 ?_
      refine lv_iconst hx hb dX6_readLine_35 ic_4 ?_
      refine lv_icmp_eq (tgt := 56) hx hb dX6_readLine_36 (by decide) (fun hc => ?_) (fun hc => ?_)
      · have hw := hw.1 hc
        exact b_X6_readLine_56 C _ _ _ _ _ hw hP hS (lv_sub hl [1, 0] rfl)
      · have hw := hw.2 hc
        exact b_X6_readLine_39 C _ _ _ _ _ hw hP hS (lv_sub hl [1, 0] rfl)
  · have hw := hw.2 hc
    refine lv_aload_n hx hb dX6_readLine_17 rfl (lv_at hl 1 rfl) ?_
    refine lv_iconst hx hb dX6_readLine_18 ic_2 ?_
    refine c_v (run_v (As := [.int (2 : Int32)]) (rest := []) C hP hS (c_X6_fails hw) gX6_readLine_X6_fails rfl dsX6_fails rfl ⟨rfl, rfl⟩ ⟨Nat.le_of_ble_eq_true rfl, Nat.le_of_ble_eq_true rfl⟩ (by decide) (sM_0 K _) rfl hl.1 rfl (Nat.le_of_ble_eq_true rfl) dX6_readLine_19 ⟨Nat.le_of_ble_eq_true rfl, Nat.le_of_ble_eq_true rfl⟩) hS (fun M_5 H locs hw hP hS => ?_)
    exact r_v C hP hS hw dX6_readLine_22

theorem kX6_text_f57 : Cond.fieldLink RX6 57 (TX6 6).1 (TX6 6).2.1 (TX6 6).2.2.1 ∈ wsX6_text := List.mem_of_getElem? (i := 1) rfl
theorem hX6_text_X6 : ∀ w ∈ u_ws RX6 TX6 26, w ∈ wsX6_text := fun _ h => List.mem_cons_of_mem _ (List.mem_append_right _ (h))
theorem kX6_text_f69 : Cond.fieldLink RX6 69 (TX6 8).1 (TX6 8).2.1 (TX6 8).2.2.1 ∈ wsX6_text := List.mem_of_getElem? (i := 2) rfl
theorem kX6_text_f104 : Cond.fieldLink RX6 104 (TX6 2).1 (TX6 2).2.1 (TX6 2).2.2.1 ∈ wsX6_text := List.mem_of_getElem? (i := 3) rfl
theorem kX6_text_f13 : Cond.fieldLink RX6 13 (TX6 1).1 (TX6 1).2.1 (TX6 1).2.2.1 ∈ wsX6_text := List.mem_of_getElem? (i := 4) rfl
theorem kX6_text_f66 : Cond.fieldLink RX6 66 (TX6 10).1 (TX6 10).2.1 (TX6 10).2.2.1 ∈ wsX6_text := List.mem_of_getElem? (i := 5) rfl
theorem kX6_text_f54 : Cond.fieldLink RX6 54 (TX6 4).1 (TX6 4).2.1 (TX6 4).2.2.1 ∈ wsX6_text := List.mem_of_getElem? (i := 6) rfl
theorem kX6_text_f114 : Cond.fieldLink RX6 114 (TX6 5).1 (TX6 5).2.1 (TX6 5).2.2.1 ∈ wsX6_text := List.mem_of_getElem? (i := 7) rfl
theorem kX6_text_f63 : Cond.fieldLink RX6 63 (TX6 7).1 (TX6 7).2.1 (TX6 7).2.2.1 ∈ wsX6_text := List.mem_of_getElem? (i := 8) rfl
theorem kX6_text_f117 : Cond.fieldLink RX6 117 (TX6 19).1 (TX6 19).2.1 (TX6 19).2.2.1 ∈ wsX6_text := List.mem_of_getElem? (i := 10) rfl
theorem kX6_text_f35 : Cond.fieldLink RX6 35 (TX6 21).1 (TX6 21).2.1 (TX6 21).2.2.1 ∈ wsX6_text := List.mem_of_getElem? (i := 11) rfl
theorem kX6_text_f7 : Cond.fieldLink RX6 7 (TX6 0).1 (TX6 0).2.1 (TX6 0).2.2.1 ∈ wsX6_text := List.mem_of_getElem? (i := 9) rfl
abbrev rmX6_text : Room := { frames := 5, cells := 0, slots := 0, locals := 112 }
abbrev t_X6_text : Type := (Int32 → Int32 → Mem → Prop) × (Int32 → Mem → Prop) × (Int32 → Mem → Prop) × (Int32 → Int32 → Mem → Prop)
def f_X6_text_19 (Q : Int32 → Mem → Prop) (r : t_X6_text) (v1 : Int32) (v2 : Int32) (M : Mem) : Prop := (((37 : Int32) ≤ v2 → q_X6_readsOn M (fun M_1 => r.2.1 v1 M_1)) ∧ (¬ (37 : Int32) ≤ v2 → vp_in v2 37 ∧ r.1 v1 (v2 + 1) (mU M 2 v2.toNatClampNeg (0 : Int32))))
def f_X6_text_42 (Q : Int32 → Mem → Prop) (r : t_X6_text) (v1 : Int32) (M : Mem) : Prop := ((¬ (M 0 6) = 0 → r.2.2.1 v1 M) ∧ ((M 0 6) = 0 → (((M 0 10) = 0 → r.2.2.1 v1 M) ∧ (¬ (M 0 10) = 0 → q_X6_readLine M (fun M_3 => r.2.1 (v1 + 1) M_3)))))
def f_X6_text_66 (Q : Int32 → Mem → Prop) (r : t_X6_text) (v1 : Int32) (M : Mem) : Prop := ((((mU (mU M 0 4 (0 : Int32)) 0 5 ((mU M 0 4 (0 : Int32)) 0 6)) 0 6) ≤ 0 → r.2.2.2 v1 (0 : Int32) (mU (mU M 0 4 (0 : Int32)) 0 5 ((mU M 0 4 (0 : Int32)) 0 6))) ∧ (¬ ((mU (mU M 0 4 (0 : Int32)) 0 5 ((mU M 0 4 (0 : Int32)) 0 6)) 0 6) ≤ 0 → Q ((-10 : Int32) - ((mU (mU M 0 4 (0 : Int32)) 0 5 ((mU M 0 4 (0 : Int32)) 0 6)) 0 7)) (mU (mU M 0 4 (0 : Int32)) 0 5 ((mU M 0 4 (0 : Int32)) 0 6))))
def f_X6_text_96 (Q : Int32 → Mem → Prop) (r : t_X6_text) (v1 : Int32) (v2 : Int32) (M : Mem) : Prop := (((37 : Int32) ≤ v2 → Q v1 (mU (mU (mU M 0 19 (0 : Int32)) 8 0 (0 : Int32)) 8 1 (0 : Int32))) ∧ (¬ (37 : Int32) ≤ v2 → vp_in v2 37 ∧ vp_in v2 222 ∧ r.2.2.2 v1 (v2 + 1) (mU M 1 v2.toNatClampNeg (M 2 v2.toNatClampNeg))))
def p_X6_text (Q : Int32 → Mem → Prop) : Nat → t_X6_text
  | 0 => (fun _ _ _ => False, fun _ _ => False, fun _ _ => False, fun _ _ _ => False)
  | n + 1 => (f_X6_text_19 Q (p_X6_text Q n), f_X6_text_42 Q (p_X6_text Q n), f_X6_text_66 Q (p_X6_text Q n), f_X6_text_96 Q (p_X6_text Q n))
def e_X6_text (Q : Int32 → Mem → Prop) (r : t_X6_text) (M : Mem) : Prop := r.1 (0 : Int32) (0 : Int32) (mU (mU (mU M 0 6 (0 : Int32)) 0 8 (0 : Int32)) 0 2 (0 : Int32))
def q_X6_text (M : Mem) (Q : Int32 → Mem → Prop) : Prop := ∃ n : Nat, e_X6_text Q (p_X6_text Q n) M
set_option maxRecDepth 100000 in
set_option maxHeartbeats 4000000 in
theorem b_X6_text {l : Launch} {K : wC} {Q : Int32 → Mem → Prop} {p : Program} {e : Env} {s : State} {m : MethodId} {args : Array Value} {below : List Frame} {meth : Method} {c : Code} (C : cx 12 K p s m args meth c cX6_text 3 wsX6_text RX6 (some .int)) : ∀ n : Nat, (∀ (v1 : Int32) (v2 : Int32) (M : Mem) (H : Heap) (locs : List Loc) (ls : Array Slot), (p_X6_text Q n).1 v1 v2 M → wP shM 12 K M H → va_S (wA 12 K) s.heap H locs → lv_has ls 3 [(0, .ref (kb K + 0)), (1, .int v1), (2, .int v2)] → W p l e rmX6_text s m args below meth c H locs 0 0 (MQ below (va_Qi Q (wE shM 12 K) (wA 12 K)) args s 0 0 (wA 12 K)) (F0 m 19 ls [])) ∧ (∀ (v1 : Int32) (M : Mem) (H : Heap) (locs : List Loc) (ls : Array Slot), (p_X6_text Q n).2.1 v1 M → wP shM 12 K M H → va_S (wA 12 K) s.heap H locs → lv_has ls 3 [(0, .ref (kb K + 0)), (1, .int v1)] → W p l e rmX6_text s m args below meth c H locs 0 0 (MQ below (va_Qi Q (wE shM 12 K) (wA 12 K)) args s 0 0 (wA 12 K)) (F0 m 42 ls [])) ∧ (∀ (v1 : Int32) (M : Mem) (H : Heap) (locs : List Loc) (ls : Array Slot), (p_X6_text Q n).2.2.1 v1 M → wP shM 12 K M H → va_S (wA 12 K) s.heap H locs → lv_has ls 3 [(0, .ref (kb K + 0)), (1, .int v1)] → W p l e rmX6_text s m args below meth c H locs 0 0 (MQ below (va_Qi Q (wE shM 12 K) (wA 12 K)) args s 0 0 (wA 12 K)) (F0 m 66 ls [])) ∧ (∀ (v1 : Int32) (v2 : Int32) (M : Mem) (H : Heap) (locs : List Loc) (ls : Array Slot), (p_X6_text Q n).2.2.2 v1 v2 M → wP shM 12 K M H → va_S (wA 12 K) s.heap H locs → lv_has ls 3 [(0, .ref (kb K + 0)), (1, .int v1), (2, .int v2)] → W p l e rmX6_text s m args below meth c H locs 0 0 (MQ below (va_Qi Q (wE shM 12 K) (wA 12 K)) args s 0 0 (wA 12 K)) (F0 m 96 ls [])) := by
  obtain ⟨hx, hb, hml, hown, hts, hr, hlk, hK⟩ := id C
  intro n
  induction n with
  | zero => exact ⟨fun _ _ _ _ _ _ hw _ _ _ => False.elim hw, fun _ _ _ _ _ hw _ _ _ => False.elim hw, fun _ _ _ _ _ hw _ _ _ => False.elim hw, fun _ _ _ _ _ _ hw _ _ _ => False.elim hw⟩
  | succ n ih =>
    refine ⟨?_, ?_, ?_, ?_⟩
    · intro v1 v2 M H locs ls hw hP hS hl
      have hw : f_X6_text_19 Q (p_X6_text Q n) v1 v2 M := hw
      delta f_X6_text_19 at hw
      refine lv_iload_n hx hb dX6_text_19 rfl (lv_at hl 2 rfl) ?_
      refine lv_bipush hx hb dX6_text_20 bp_37 ?_
      refine lv_icmp_ge (tgt := 38) hx hb dX6_text_22 (by decide) (fun hc => ?_) (fun hc => ?_)
      · have hw := hw.1 hc
        refine lv_aload_n hx hb dX6_text_38 rfl (lv_at hl 0 rfl) ?_
        refine c_v (run_v (As := []) (rest := []) C hP hS (c_X6_readsOn hw) gX6_text_X6_readsOn rfl dsX6_readsOn rfl ⟨rfl, rfl⟩ ⟨Nat.le_of_ble_eq_true rfl, Nat.le_of_ble_eq_true rfl⟩ (by decide) (sM_0 K _) rfl hl.1 rfl (Nat.le_of_ble_eq_true rfl) dX6_text_39 ⟨Nat.le_of_ble_eq_true rfl, Nat.le_of_ble_eq_true rfl⟩) hS (fun M_1 H locs hw hP hS => ?_)
        exact ih.2.1 _ _ _ _ _ hw hP hS (lv_sub hl [0, 1] rfl)
      · have hw := hw.2 hc
        refine lv_aload_n hx hb dX6_text_25 rfl (lv_at hl 0 rfl) ?_
        refine g_f C hP (by decide) (sM_0 K _) rfl hX6_text_X6 1 (by decide) kX6_text_f13 rfl dX6_text_26 ?_
        refine lv_iload_n hx hb dX6_text_29 rfl (lv_at hl 2 rfl) ?_
        refine lv_iconst hx hb dX6_text_30 ic_0 ?_
        have hi_2 := hw.1
        have hw := hw.2
        refine a_is C hP hS (by decide) (sM_2 K) hi_2 rfl dX6_text_31 (fun H locs hP hS => ?_)
        refine lv_iinc (v := (v2 + 1)) (lv' := [(2, .int (v2 + 1)), (0, .ref (kb K + 0)), (1, .int v1)]) hx hb dX6_text_32 hl (k := 2) rfl (by rw [ic_1]) (by decide) rfl (fun ls hl => ?_)
        refine lv_goto (tgt := 19) hx hb dX6_text_35 (by decide) ?_
        exact ih.1 _ _ _ _ _ _ hw hP hS (lv_sub hl [1, 2, 0] rfl)
    · intro v1 M H locs ls hw hP hS hl
      have hw : f_X6_text_42 Q (p_X6_text Q n) v1 M := hw
      delta f_X6_text_42 at hw
      refine lv_aload_n hx hb dX6_text_42 rfl (lv_at hl 0 rfl) ?_
      refine g_f C hP (by decide) (sM_0 K _) rfl hX6_text_X6 6 (by decide) kX6_text_f57 rfl dX6_text_43 ?_
      refine lv_if_ne (tgt := 66) hx hb dX6_text_46 (by decide) (fun hc => ?_) (fun hc => ?_)
      · have hw := hw.1 hc
        exact ih.2.2.1 _ _ _ _ _ hw hP hS (lv_sub hl [0, 1] rfl)
      · have hw := hw.2 hc
        refine lv_aload_n hx hb dX6_text_49 rfl (lv_at hl 0 rfl) ?_
        refine g_f C hP (by decide) (sM_0 K _) rfl hX6_text_X6 10 (by decide) kX6_text_f66 rfl dX6_text_50 ?_
        refine lv_if_eq (tgt := 66) hx hb dX6_text_53 (by decide) (fun hc => ?_) (fun hc => ?_)
        · have hw := hw.1 hc
          exact ih.2.2.1 _ _ _ _ _ hw hP hS (lv_sub hl [0, 1] rfl)
        · have hw := hw.2 hc
          refine lv_aload_n hx hb dX6_text_56 rfl (lv_at hl 0 rfl) ?_
          refine c_v (run_v (As := []) (rest := []) C hP hS (c_X6_readLine hw) gX6_text_X6_readLine rfl dsX6_readLine rfl ⟨rfl, rfl⟩ ⟨Nat.le_of_ble_eq_true rfl, Nat.le_of_ble_eq_true rfl⟩ (by decide) (sM_0 K _) rfl hl.1 rfl (Nat.le_of_ble_eq_true rfl) dX6_text_57 ⟨Nat.le_of_ble_eq_true rfl, Nat.le_of_ble_eq_true rfl⟩) hS (fun M_3 H locs hw hP hS => ?_)
          refine lv_iinc (v := (v1 + 1)) (lv' := [(1, .int (v1 + 1)), (0, .ref (kb K + 0))]) hx hb dX6_text_60 hl (k := 1) rfl (by rw [ic_1]) (by decide) rfl (fun ls hl => ?_)
          refine lv_goto (tgt := 42) hx hb dX6_text_63 (by decide) ?_
          exact ih.2.1 _ _ _ _ _ hw hP hS (lv_sub hl [1, 0] rfl)
    · intro v1 M H locs ls hw hP hS hl
      have hw : f_X6_text_66 Q (p_X6_text Q n) v1 M := hw
      delta f_X6_text_66 at hw
      refine lv_aload_n hx hb dX6_text_66 rfl (lv_at hl 0 rfl) ?_
      refine lv_iconst hx hb dX6_text_67 ic_0 ?_
      refine p_f C hP hS (by decide) (sM_0 K _) (sM_0 K _) rfl hX6_text_X6 tyX6_ok nmX6 (by decide) kX6_text_f54 rfl rfl rfl (Nat.le_of_ble_eq_true rfl) dX6_text_68 (fun H locs hP hS => ?_)
      refine lv_aload_n hx hb dX6_text_71 rfl (lv_at hl 0 rfl) ?_
      refine lv_aload_n hx hb dX6_text_72 rfl (lv_at hl 0 rfl) ?_
      refine g_f C hP (by decide) (sM_0 K _) rfl hX6_text_X6 6 (by decide) kX6_text_f57 rfl dX6_text_73 ?_
      refine p_f C hP hS (by decide) (sM_0 K _) (sM_0 K _) rfl hX6_text_X6 tyX6_ok nmX6 (by decide) kX6_text_f114 rfl rfl rfl (Nat.le_of_ble_eq_true rfl) dX6_text_76 (fun H locs hP hS => ?_)
      refine lv_aload_n hx hb dX6_text_79 rfl (lv_at hl 0 rfl) ?_
      refine g_f C hP (by decide) (sM_0 K _) rfl hX6_text_X6 6 (by decide) kX6_text_f57 rfl dX6_text_80 ?_
      refine lv_if_le (tgt := 94) hx hb dX6_text_83 (by decide) (fun hc => ?_) (fun hc => ?_)
      · have hw := hw.1 hc
        refine lv_iconst hx hb dX6_text_94 ic_0 ?_
        refine lv_istore_n (lv' := [(2, .int (0 : Int32)), (0, .ref (kb K + 0)), (1, .int v1)]) hx hb dX6_text_95 rfl hl (by decide) rfl (fun ls hl => ?_)
        exact ih.2.2.2 _ _ _ _ _ _ hw hP hS (lv_sub hl [1, 2, 0] rfl)
      · have hw := hw.2 hc
        refine lv_bipush hx hb dX6_text_86 bp_m10 ?_
        refine lv_aload_n hx hb dX6_text_88 rfl (lv_at hl 0 rfl) ?_
        refine g_f C hP (by decide) (sM_0 K _) rfl hX6_text_X6 7 (by decide) kX6_text_f63 rfl dX6_text_89 ?_
        refine lv_isub hx hb dX6_text_92 ?_
        exact r_i C hP hS hw dX6_text_93
    · intro v1 v2 M H locs ls hw hP hS hl
      have hw : f_X6_text_96 Q (p_X6_text Q n) v1 v2 M := hw
      delta f_X6_text_96 at hw
      refine lv_iload_n hx hb dX6_text_96 rfl (lv_at hl 2 rfl) ?_
      refine lv_bipush hx hb dX6_text_97 bp_37 ?_
      refine lv_icmp_ge (tgt := 120) hx hb dX6_text_99 (by decide) (fun hc => ?_) (fun hc => ?_)
      · have hw := hw.1 hc
        refine lv_aload_n hx hb dX6_text_120 rfl (lv_at hl 0 rfl) ?_
        refine lv_iconst hx hb dX6_text_121 ic_0 ?_
        refine p_f C hP hS (by decide) (sM_0 K _) (sM_0 K _) rfl hX6_text_X6 tyX6_ok nmX6 (by decide) kX6_text_f117 rfl rfl rfl (Nat.le_of_ble_eq_true rfl) dX6_text_122 (fun H locs hP hS => ?_)
        refine lv_aload_n hx hb dX6_text_125 rfl (lv_at hl 0 rfl) ?_
        refine g_f C hP (by decide) (sM_0 K _) rfl hX6_text_X6 21 (by decide) kX6_text_f35 rfl dX6_text_126 ?_
        refine lv_iconst hx hb dX6_text_129 ic_0 ?_
        refine lv_iconst hx hb dX6_text_130 ic_0 ?_
        refine a_zs C hP hS (by decide) (sM_8 K) (by decide) vi_0_2 ti_0 dX6_text_131 (fun H locs hP hS => ?_)
        refine lv_aload_n hx hb dX6_text_132 rfl (lv_at hl 0 rfl) ?_
        refine g_f C hP (by decide) (sM_0 K _) rfl hX6_text_X6 21 (by decide) kX6_text_f35 rfl dX6_text_133 ?_
        refine lv_iconst hx hb dX6_text_136 ic_1 ?_
        refine lv_iconst hx hb dX6_text_137 ic_0 ?_
        refine a_zs C hP hS (by decide) (sM_8 K) (by decide) vi_1_2 ti_1 dX6_text_138 (fun H locs hP hS => ?_)
        refine lv_iload_n hx hb dX6_text_139 rfl (lv_at hl 1 rfl) ?_
        exact r_i C hP hS hw dX6_text_140
      · have hw := hw.2 hc
        refine lv_aload_n hx hb dX6_text_102 rfl (lv_at hl 0 rfl) ?_
        refine g_f C hP (by decide) (sM_0 K _) rfl hX6_text_X6 0 (by decide) kX6_text_f7 rfl dX6_text_103 ?_
        refine lv_iload_n hx hb dX6_text_106 rfl (lv_at hl 2 rfl) ?_
        refine lv_aload_n hx hb dX6_text_107 rfl (lv_at hl 0 rfl) ?_
        refine g_f C hP (by decide) (sM_0 K _) rfl hX6_text_X6 1 (by decide) kX6_text_f13 rfl dX6_text_108 ?_
        refine lv_iload_n hx hb dX6_text_111 rfl (lv_at hl 2 rfl) ?_
        have hi_4 := hw.1
        have hw := hw.2
        refine a_il C hP (by decide) (sM_2 K _) hi_4 rfl dX6_text_112 ?_
        have hi_5 := hw.1
        have hw := hw.2
        refine a_is C hP hS (by decide) (sM_1 K) hi_5 rfl dX6_text_113 (fun H locs hP hS => ?_)
        refine lv_iinc (v := (v2 + 1)) (lv' := [(2, .int (v2 + 1)), (0, .ref (kb K + 0)), (1, .int v1)]) hx hb dX6_text_114 hl (k := 2) rfl (by rw [ic_1]) (by decide) rfl (fun ls hl => ?_)
        refine lv_goto (tgt := 96) hx hb dX6_text_117 (by decide) ?_
        exact ih.2.2.2 _ _ _ _ _ _ hw hP hS (lv_sub hl [1, 2, 0] rfl)
theorem dsX6_text : yX6_text.cls = RX6 ∧ yX6_text.cls ≠ "java/lang/invoke/MethodHandle" ∧ yX6_text.cls ≠ "java/lang/invoke/VarHandle" ∧ (parseMethodDescriptor yX6_text.desc).map (fun d => d.parameters.length) = some 0 := by decide +kernel
set_option maxRecDepth 100000 in
set_option maxHeartbeats 4000000 in
theorem c_X6_text {l : Launch} {K : wC} {M : Mem} {Q : Int32 → Mem → Prop} (hw : q_X6_text M Q) : metI l yX6_text wsX6_text rmX6_text shM 12 K [.ref (kb K + 0)] M Q := by
  refine met_of (cc := cX6_text) (maxL := 3) (ret := (some .int)) (own := RX6) (by decide) rfl rfl (Nat.le_of_ble_eq_true rfl) ?_
  intro p e s m below meth c ls C hl hP hS
  have hl : lv_has ls 3 [(0, .ref (kb K + 0))] := hl
  obtain ⟨hx, hb, hml, hown, hts, hr, hlk, hK⟩ := id C
  have hP0 := hP
  obtain ⟨n, hw⟩ := hw
  have ih := b_X6_text (l := l) (e := e) (below := below) (Q := Q) C n
  delta e_X6_text at hw
  refine lv_aload_n hx hb dX6_text_0 rfl (lv_at hl 0 rfl) ?_
  refine lv_iconst hx hb dX6_text_1 ic_0 ?_
  refine p_f C hP hS (by decide) (sM_0 K _) (sM_0 K _) rfl hX6_text_X6 tyX6_ok nmX6 (by decide) kX6_text_f57 rfl rfl rfl (Nat.le_of_ble_eq_true rfl) dX6_text_2 (fun H locs hP hS => ?_)
  refine lv_aload_n hx hb dX6_text_5 rfl (lv_at hl 0 rfl) ?_
  refine lv_iconst hx hb dX6_text_6 ic_0 ?_
  refine p_f C hP hS (by decide) (sM_0 K _) (sM_0 K _) rfl hX6_text_X6 tyX6_ok nmX6 (by decide) kX6_text_f69 rfl rfl rfl (Nat.le_of_ble_eq_true rfl) dX6_text_7 (fun H locs hP hS => ?_)
  refine lv_aload_n hx hb dX6_text_10 rfl (lv_at hl 0 rfl) ?_
  refine lv_iconst hx hb dX6_text_11 ic_0 ?_
  refine p_f C hP hS (by decide) (sM_0 K _) (sM_0 K _) rfl hX6_text_X6 tyX6_ok nmX6 (by decide) kX6_text_f104 rfl (by decide) (by decide) (Nat.le_of_ble_eq_true rfl) dX6_text_12 (fun H locs hP hS => ?_)
  refine lv_iconst hx hb dX6_text_15 ic_0 ?_
  refine lv_istore_n (lv' := [(1, .int (0 : Int32)), (0, .ref (kb K + 0))]) hx hb dX6_text_16 rfl hl (by decide) rfl (fun ls hl => ?_)
  refine lv_iconst hx hb dX6_text_17 ic_0 ?_
  refine lv_istore_n (lv' := [(2, .int (0 : Int32)), (1, .int (0 : Int32)), (0, .ref (kb K + 0))]) hx hb dX6_text_18 rfl hl (by decide) rfl (fun ls hl => ?_)
  exact ih.1 _ _ _ _ _ _ hw hP hS (lv_sub hl [2, 1, 0] rfl)

theorem kX6_fault_f114 : Cond.fieldLink RX6 114 (TX6 5).1 (TX6 5).2.1 (TX6 5).2.2.1 ∈ wsX6_fault := List.mem_of_getElem? (i := 1) rfl
theorem hX6_fault_X6 : ∀ w ∈ u_ws RX6 TX6 26, w ∈ wsX6_fault := fun _ h => List.mem_cons_of_mem _ (List.mem_append_right _ (h))
abbrev rmX6_fault : Room := { frames := 0, cells := 0, slots := 0, locals := 0 }
def q_X6_fault (M : Mem) (Q : Int32 → Mem → Prop) : Prop := Q (M 0 5) M
theorem dsX6_fault : yX6_fault.cls = RX6 ∧ yX6_fault.cls ≠ "java/lang/invoke/MethodHandle" ∧ yX6_fault.cls ≠ "java/lang/invoke/VarHandle" ∧ (parseMethodDescriptor yX6_fault.desc).map (fun d => d.parameters.length) = some 0 := by decide +kernel
set_option maxRecDepth 100000 in
set_option maxHeartbeats 4000000 in
theorem c_X6_fault {l : Launch} {K : wC} {M : Mem} {Q : Int32 → Mem → Prop} (hw : q_X6_fault M Q) : metI l yX6_fault wsX6_fault rmX6_fault shM 12 K [.ref (kb K + 0)] M Q := by
  refine met_of (cc := cX6_fault) (maxL := 1) (ret := (some .int)) (own := RX6) (by decide) rfl rfl (Nat.le_of_ble_eq_true rfl) ?_
  intro p e s m below meth c ls C hl hP hS
  have hl : lv_has ls 1 [(0, .ref (kb K + 0))] := hl
  obtain ⟨hx, hb, hml, hown, hts, hr, hlk, hK⟩ := id C
  have hP0 := hP
  delta q_X6_fault at hw
  refine lv_aload_n hx hb dX6_fault_0 rfl (lv_at hl 0 rfl) ?_
  refine g_f C hP (by decide) (sM_0 K _) rfl hX6_fault_X6 5 (by decide) kX6_fault_f114 rfl dX6_fault_1 ?_
  exact r_i C hP hS hw dX6_fault_4

theorem kX6_isCorner_f7 : Cond.fieldLink RX6 7 (TX6 0).1 (TX6 0).2.1 (TX6 0).2.2.1 ∈ wsX6_isCorner := List.mem_of_getElem? (i := 1) rfl
theorem hX6_isCorner_X6 : ∀ w ∈ u_ws RX6 TX6 26, w ∈ wsX6_isCorner := fun _ h => List.mem_cons_of_mem _ (List.mem_append_right _ (h))
abbrev rmX6_isCorner : Room := { frames := 1, cells := 0, slots := 0, locals := 25 }
def q_X6_isCorner (v1 : Int32) (M : Mem) (Q : Int32 → Mem → Prop) : Prop := q_X6_in v1.toInt64 (0 : Int64) ((M 1 20) - (1 : Int32)).toInt64 M (fun r_2 M_1 => narrow .boolean (.int r_2) = .int r_2 ∧ Q r_2 M_1)
theorem dsX6_isCorner : yX6_isCorner.cls = RX6 ∧ yX6_isCorner.cls ≠ "java/lang/invoke/MethodHandle" ∧ yX6_isCorner.cls ≠ "java/lang/invoke/VarHandle" ∧ (parseMethodDescriptor yX6_isCorner.desc).map (fun d => d.parameters.length) = some 1 := by decide +kernel
set_option maxRecDepth 100000 in
set_option maxHeartbeats 4000000 in
theorem c_X6_isCorner {l : Launch} {K : wC} {v1 : Int32} {M : Mem} {Q : Int32 → Mem → Prop} (hw : q_X6_isCorner v1 M Q) : metI l yX6_isCorner wsX6_isCorner rmX6_isCorner shM 12 K [.ref (kb K + 0), .int v1] M Q := by
  refine met_of (cc := cX6_isCorner) (maxL := 2) (ret := (some .boolean)) (own := RX6) (by decide) rfl rfl (Nat.le_of_ble_eq_true rfl) ?_
  intro p e s m below meth c ls C hl hP hS
  have hl : lv_has ls 2 [(0, .ref (kb K + 0)), (1, .int v1)] := hl
  obtain ⟨hx, hb, hml, hown, hts, hr, hlk, hK⟩ := id C
  have hP0 := hP
  delta q_X6_isCorner at hw
  refine lv_iload_n hx hb dX6_isCorner_0 rfl (lv_at hl 1 rfl) ?_
  refine lv_i2l hx hb dX6_isCorner_1 rfl ?_
  refine lv_lconst hx hb dX6_isCorner_2 lc_0 ?_
  refine lv_aload_n hx hb dX6_isCorner_3 rfl (lv_at hl 0 rfl) ?_
  refine g_f C hP (by decide) (sM_0 K _) rfl hX6_isCorner_X6 0 (by decide) kX6_isCorner_f7 rfl dX6_isCorner_4 ?_
  refine lv_bipush hx hb dX6_isCorner_7 bp_20 ?_
  refine a_il C hP (by decide) (sM_1 K _) vi_20_222 ti_20 dX6_isCorner_9 ?_
  refine lv_iconst hx hb dX6_isCorner_10 ic_1 ?_
  refine lv_isub hx hb dX6_isCorner_11 ?_
  refine lv_i2l hx hb dX6_isCorner_12 rfl ?_
  refine c_i (run_s (As := [.long v1.toInt64, .long (0 : Int64), .long ((M 1 20) - (1 : Int32)).toInt64]) (rest := []) C hP hS (c_X6_in hw) gX6_isCorner_X6_in rfl dsX6_in rfl ⟨rfl, rfl⟩ ⟨Nat.le_of_ble_eq_true rfl, Nat.le_of_ble_eq_true rfl⟩ hl.1 rfl (Nat.le_of_ble_eq_true rfl) dX6_isCorner_13 ⟨Nat.le_of_ble_eq_true rfl, Nat.le_of_ble_eq_true rfl⟩) hS (fun r_2 M_1 H locs hw hP hS => ?_)
  exact r_z C hw.1 hP hS hw.2 dX6_isCorner_16

theorem kX6_isWheel_f7 : Cond.fieldLink RX6 7 (TX6 0).1 (TX6 0).2.1 (TX6 0).2.2.1 ∈ wsX6_isWheel := List.mem_of_getElem? (i := 1) rfl
theorem hX6_isWheel_X6 : ∀ w ∈ u_ws RX6 TX6 26, w ∈ wsX6_isWheel := fun _ h => List.mem_cons_of_mem _ (List.mem_append_right _ (h))
abbrev rmX6_isWheel : Room := { frames := 1, cells := 0, slots := 0, locals := 25 }
def q_X6_isWheel (v1 : Int32) (M : Mem) (Q : Int32 → Mem → Prop) : Prop := q_X6_in v1.toInt64 (0 : Int64) ((M 1 35) - (1 : Int32)).toInt64 M (fun r_2 M_1 => narrow .boolean (.int r_2) = .int r_2 ∧ Q r_2 M_1)
theorem dsX6_isWheel : yX6_isWheel.cls = RX6 ∧ yX6_isWheel.cls ≠ "java/lang/invoke/MethodHandle" ∧ yX6_isWheel.cls ≠ "java/lang/invoke/VarHandle" ∧ (parseMethodDescriptor yX6_isWheel.desc).map (fun d => d.parameters.length) = some 1 := by decide +kernel
set_option maxRecDepth 100000 in
set_option maxHeartbeats 4000000 in
theorem c_X6_isWheel {l : Launch} {K : wC} {v1 : Int32} {M : Mem} {Q : Int32 → Mem → Prop} (hw : q_X6_isWheel v1 M Q) : metI l yX6_isWheel wsX6_isWheel rmX6_isWheel shM 12 K [.ref (kb K + 0), .int v1] M Q := by
  refine met_of (cc := cX6_isWheel) (maxL := 2) (ret := (some .boolean)) (own := RX6) (by decide) rfl rfl (Nat.le_of_ble_eq_true rfl) ?_
  intro p e s m below meth c ls C hl hP hS
  have hl : lv_has ls 2 [(0, .ref (kb K + 0)), (1, .int v1)] := hl
  obtain ⟨hx, hb, hml, hown, hts, hr, hlk, hK⟩ := id C
  have hP0 := hP
  delta q_X6_isWheel at hw
  refine lv_iload_n hx hb dX6_isWheel_0 rfl (lv_at hl 1 rfl) ?_
  refine lv_i2l hx hb dX6_isWheel_1 rfl ?_
  refine lv_lconst hx hb dX6_isWheel_2 lc_0 ?_
  refine lv_aload_n hx hb dX6_isWheel_3 rfl (lv_at hl 0 rfl) ?_
  refine g_f C hP (by decide) (sM_0 K _) rfl hX6_isWheel_X6 0 (by decide) kX6_isWheel_f7 rfl dX6_isWheel_4 ?_
  refine lv_bipush hx hb dX6_isWheel_7 bp_35 ?_
  refine a_il C hP (by decide) (sM_1 K _) vi_35_222 ti_35 dX6_isWheel_9 ?_
  refine lv_iconst hx hb dX6_isWheel_10 ic_1 ?_
  refine lv_isub hx hb dX6_isWheel_11 ?_
  refine lv_i2l hx hb dX6_isWheel_12 rfl ?_
  refine c_i (run_s (As := [.long v1.toInt64, .long (0 : Int64), .long ((M 1 35) - (1 : Int32)).toInt64]) (rest := []) C hP hS (c_X6_in hw) gX6_isWheel_X6_in rfl dsX6_in rfl ⟨rfl, rfl⟩ ⟨Nat.le_of_ble_eq_true rfl, Nat.le_of_ble_eq_true rfl⟩ hl.1 rfl (Nat.le_of_ble_eq_true rfl) dX6_isWheel_13 ⟨Nat.le_of_ble_eq_true rfl, Nat.le_of_ble_eq_true rfl⟩) hS (fun r_2 M_1 H locs hw hP hS => ?_)
  exact r_z C hw.1 hP hS hw.2 dX6_isWheel_16

theorem kX6_isPoint_c120 : Cond.constantLong RX6 120 (20) ∈ wsX6_isPoint := List.mem_of_getElem? (i := 1) rfl
abbrev rmX6_isPoint : Room := { frames := 1, cells := 0, slots := 0, locals := 25 }
def q_X6_isPoint (v0 : Int32) (v1 : Int32) (M : Mem) (Q : Int32 → Mem → Prop) : Prop := q_X6_in v0.toInt64 (0 : Int64) (20 : Int64) M (fun r_2 M_1 => ((r_2 = 0 → Q (0 : Int32) M_1) ∧ (¬ r_2 = 0 → q_X6_in v1.toInt64 (0 : Int64) (20 : Int64) M_1 (fun r_4 M_3 => ((r_4 = 0 → Q (0 : Int32) M_3) ∧ (¬ r_4 = 0 → Q (1 : Int32) M_3))))))
theorem dsX6_isPoint : yX6_isPoint.cls ≠ "java/lang/invoke/MethodHandle" ∧ yX6_isPoint.cls ≠ "java/lang/invoke/VarHandle" ∧ (parseMethodDescriptor yX6_isPoint.desc).map (fun d => d.parameters.length) = some 2 := by decide +kernel
set_option maxRecDepth 100000 in
set_option maxHeartbeats 4000000 in
theorem c_X6_isPoint {l : Launch} {K : wC} {v0 : Int32} {v1 : Int32} {M : Mem} {Q : Int32 → Mem → Prop} (hw : q_X6_isPoint v0 v1 M Q) : metI l yX6_isPoint wsX6_isPoint rmX6_isPoint shM 12 K [.int v0, .int v1] M Q := by
  refine met_of (cc := cX6_isPoint) (maxL := 2) (ret := (some .boolean)) (own := RX6) (by decide) rfl rfl (Nat.le_of_ble_eq_true rfl) ?_
  intro p e s m below meth c ls C hl hP hS
  have hl : lv_has ls 2 [(0, .int v0), (1, .int v1)] := hl
  obtain ⟨hx, hb, hml, hown, hts, hr, hlk, hK⟩ := id C
  have hP0 := hP
  delta q_X6_isPoint at hw
  refine lv_iload_n hx hb dX6_isPoint_0 rfl (lv_at hl 0 rfl) ?_
  refine lv_i2l hx hb dX6_isPoint_1 rfl ?_
  refine lv_lconst hx hb dX6_isPoint_2 lc_0 ?_
  refine lv_ldc2 hx hb hown (hts _ kX6_isPoint_c120) dX6_isPoint_3 ?_
  refine c_i (run_s (As := [.long v0.toInt64, .long (0 : Int64), .long (20 : Int64)]) (rest := []) C hP hS (c_X6_in hw) gX6_isPoint_X6_in rfl dsX6_in rfl ⟨rfl, rfl⟩ ⟨Nat.le_of_ble_eq_true rfl, Nat.le_of_ble_eq_true rfl⟩ hl.1 rfl (Nat.le_of_ble_eq_true rfl) dX6_isPoint_6 ⟨Nat.le_of_ble_eq_true rfl, Nat.le_of_ble_eq_true rfl⟩) hS (fun r_2 M_1 H locs hw hP hS => ?_)
  refine lv_if_eq (tgt := 28) hx hb dX6_isPoint_9 (by decide) (fun hc => ?_) (fun hc => ?_)
  · have hw := hw.1 hc
    refine lv_iconst hx hb dX6_isPoint_28 ic_0 ?_
    exact r_z C (by decide) hP hS hw dX6_isPoint_29
  · have hw := hw.2 hc
    refine lv_iload_n hx hb dX6_isPoint_12 rfl (lv_at hl 1 rfl) ?_
    refine lv_i2l hx hb dX6_isPoint_13 rfl ?_
    refine lv_lconst hx hb dX6_isPoint_14 lc_0 ?_
    refine lv_ldc2 hx hb hown (hts _ kX6_isPoint_c120) dX6_isPoint_15 ?_
    refine c_i (run_s (As := [.long v1.toInt64, .long (0 : Int64), .long (20 : Int64)]) (rest := []) C hP hS (c_X6_in hw) gX6_isPoint_X6_in rfl dsX6_in rfl ⟨rfl, rfl⟩ ⟨Nat.le_of_ble_eq_true rfl, Nat.le_of_ble_eq_true rfl⟩ hl.1 rfl (Nat.le_of_ble_eq_true rfl) dX6_isPoint_18 ⟨Nat.le_of_ble_eq_true rfl, Nat.le_of_ble_eq_true rfl⟩) hS (fun r_4 M_3 H locs hw hP hS => ?_)
    refine lv_if_eq (tgt := 28) hx hb dX6_isPoint_21 (by decide) (fun hc => ?_) (fun hc => ?_)
    · have hw := hw.1 hc
      refine lv_iconst hx hb dX6_isPoint_28 ic_0 ?_
      exact r_z C (by decide) hP hS hw dX6_isPoint_29
    · have hw := hw.2 hc
      refine lv_iconst hx hb dX6_isPoint_24 ic_1 ?_
      refine lv_goto (tgt := 29) hx hb dX6_isPoint_25 (by decide) ?_
      exact r_z C (by decide) hP hS hw dX6_isPoint_29

theorem kX6_isLong_c122 : Cond.constantLong RX6 122 (200) ∈ wsX6_isLong := List.mem_of_getElem? (i := 1) rfl
abbrev rmX6_isLong : Room := { frames := 1, cells := 0, slots := 0, locals := 25 }
def q_X6_isLong (v0 : Int32) (M : Mem) (Q : Int32 → Mem → Prop) : Prop := q_X6_in v0.toInt64 (0 : Int64) (200 : Int64) M (fun r_2 M_1 => narrow .boolean (.int r_2) = .int r_2 ∧ Q r_2 M_1)
theorem dsX6_isLong : yX6_isLong.cls ≠ "java/lang/invoke/MethodHandle" ∧ yX6_isLong.cls ≠ "java/lang/invoke/VarHandle" ∧ (parseMethodDescriptor yX6_isLong.desc).map (fun d => d.parameters.length) = some 1 := by decide +kernel
set_option maxRecDepth 100000 in
set_option maxHeartbeats 4000000 in
theorem c_X6_isLong {l : Launch} {K : wC} {v0 : Int32} {M : Mem} {Q : Int32 → Mem → Prop} (hw : q_X6_isLong v0 M Q) : metI l yX6_isLong wsX6_isLong rmX6_isLong shM 12 K [.int v0] M Q := by
  refine met_of (cc := cX6_isLong) (maxL := 1) (ret := (some .boolean)) (own := RX6) (by decide) rfl rfl (Nat.le_of_ble_eq_true rfl) ?_
  intro p e s m below meth c ls C hl hP hS
  have hl : lv_has ls 1 [(0, .int v0)] := hl
  obtain ⟨hx, hb, hml, hown, hts, hr, hlk, hK⟩ := id C
  have hP0 := hP
  delta q_X6_isLong at hw
  refine lv_iload_n hx hb dX6_isLong_0 rfl (lv_at hl 0 rfl) ?_
  refine lv_i2l hx hb dX6_isLong_1 rfl ?_
  refine lv_lconst hx hb dX6_isLong_2 lc_0 ?_
  refine lv_ldc2 hx hb hown (hts _ kX6_isLong_c122) dX6_isLong_3 ?_
  refine c_i (run_s (As := [.long v0.toInt64, .long (0 : Int64), .long (200 : Int64)]) (rest := []) C hP hS (c_X6_in hw) gX6_isLong_X6_in rfl dsX6_in rfl ⟨rfl, rfl⟩ ⟨Nat.le_of_ble_eq_true rfl, Nat.le_of_ble_eq_true rfl⟩ hl.1 rfl (Nat.le_of_ble_eq_true rfl) dX6_isLong_6 ⟨Nat.le_of_ble_eq_true rfl, Nat.le_of_ble_eq_true rfl⟩) hS (fun r_2 M_1 H locs hw hP hS => ?_)
  exact r_z C hw.1 hP hS hw.2 dX6_isLong_9

theorem kX6_isReading_c124 : Cond.constantLong RX6 124 (10000000) ∈ wsX6_isReading := List.mem_of_getElem? (i := 1) rfl
theorem kX6_isReading_c126 : Cond.constantLong RX6 126 (30000000) ∈ wsX6_isReading := List.mem_of_getElem? (i := 2) rfl
abbrev rmX6_isReading : Room := { frames := 1, cells := 0, slots := 0, locals := 25 }
def q_X6_isReading (v0 : Int32) (M : Mem) (Q : Int32 → Mem → Prop) : Prop := q_X6_in v0.toInt64 (10000000 : Int64) (30000000 : Int64) M (fun r_2 M_1 => narrow .boolean (.int r_2) = .int r_2 ∧ Q r_2 M_1)
theorem dsX6_isReading : yX6_isReading.cls ≠ "java/lang/invoke/MethodHandle" ∧ yX6_isReading.cls ≠ "java/lang/invoke/VarHandle" ∧ (parseMethodDescriptor yX6_isReading.desc).map (fun d => d.parameters.length) = some 1 := by decide +kernel
set_option maxRecDepth 100000 in
set_option maxHeartbeats 4000000 in
theorem c_X6_isReading {l : Launch} {K : wC} {v0 : Int32} {M : Mem} {Q : Int32 → Mem → Prop} (hw : q_X6_isReading v0 M Q) : metI l yX6_isReading wsX6_isReading rmX6_isReading shM 12 K [.int v0] M Q := by
  refine met_of (cc := cX6_isReading) (maxL := 1) (ret := (some .boolean)) (own := RX6) (by decide) rfl rfl (Nat.le_of_ble_eq_true rfl) ?_
  intro p e s m below meth c ls C hl hP hS
  have hl : lv_has ls 1 [(0, .int v0)] := hl
  obtain ⟨hx, hb, hml, hown, hts, hr, hlk, hK⟩ := id C
  have hP0 := hP
  delta q_X6_isReading at hw
  refine lv_iload_n hx hb dX6_isReading_0 rfl (lv_at hl 0 rfl) ?_
  refine lv_i2l hx hb dX6_isReading_1 rfl ?_
  refine lv_ldc2 hx hb hown (hts _ kX6_isReading_c124) dX6_isReading_2 ?_
  refine lv_ldc2 hx hb hown (hts _ kX6_isReading_c126) dX6_isReading_5 ?_
  refine c_i (run_s (As := [.long v0.toInt64, .long (10000000 : Int64), .long (30000000 : Int64)]) (rest := []) C hP hS (c_X6_in hw) gX6_isReading_X6_in rfl dsX6_in rfl ⟨rfl, rfl⟩ ⟨Nat.le_of_ble_eq_true rfl, Nat.le_of_ble_eq_true rfl⟩ hl.1 rfl (Nat.le_of_ble_eq_true rfl) dX6_isReading_8 ⟨Nat.le_of_ble_eq_true rfl, Nat.le_of_ble_eq_true rfl⟩) hS (fun r_2 M_1 H locs hw hP hS => ?_)
  exact r_z C hw.1 hP hS hw.2 dX6_isReading_11

theorem kX6_sweepOn_f7 : Cond.fieldLink RX6 7 (TX6 0).1 (TX6 0).2.1 (TX6 0).2.2.1 ∈ wsX6_sweepOn := List.mem_of_getElem? (i := 1) rfl
theorem hX6_sweepOn_X6 : ∀ w ∈ u_ws RX6 TX6 26, w ∈ wsX6_sweepOn := fun _ h => List.mem_cons_of_mem _ (List.mem_append_right _ (h))
abbrev rmX6_sweepOn : Room := { frames := 0, cells := 0, slots := 0, locals := 0 }
def q_X6_sweepOn (v1 : Int32) (v2 : Int32) (v3 : Int32) (M : Mem) (Q : Int32 → Mem → Prop) : Prop := vp_in (v1 + (21 : Int32)) 222 ∧ (∀ x_2 : Int32, x_2 = (M 1 (v1 + (21 : Int32)).toNatClampNeg) → vp_in ((v1 + (21 : Int32)) + (1 : Int32)) 222 ∧ (∀ x_4 : Int32, x_4 = (M 1 ((v1 + (21 : Int32)) + (1 : Int32)).toNatClampNeg) → vp_in (v1 + v2) 222 ∧ vp_in ((v1 + (10 : Int32)) + v3) 222 ∧ vp_in (v1 + v3) 222 ∧ vp_in ((v1 + (10 : Int32)) + v2) 222 ∧ Q ((((M 1 (v1 + v2).toNatClampNeg) - x_2) * ((M 1 ((v1 + (10 : Int32)) + v3).toNatClampNeg) - x_4)) - (((M 1 (v1 + v3).toNatClampNeg) - x_2) * ((M 1 ((v1 + (10 : Int32)) + v2).toNatClampNeg) - x_4))) M))
theorem dsX6_sweepOn : yX6_sweepOn.cls = RX6 ∧ yX6_sweepOn.cls ≠ "java/lang/invoke/MethodHandle" ∧ yX6_sweepOn.cls ≠ "java/lang/invoke/VarHandle" ∧ (parseMethodDescriptor yX6_sweepOn.desc).map (fun d => d.parameters.length) = some 3 := by decide +kernel
set_option maxRecDepth 100000 in
set_option maxHeartbeats 4000000 in
theorem c_X6_sweepOn {l : Launch} {K : wC} {v1 : Int32} {v2 : Int32} {v3 : Int32} {M : Mem} {Q : Int32 → Mem → Prop} (hw : q_X6_sweepOn v1 v2 v3 M Q) : metI l yX6_sweepOn wsX6_sweepOn rmX6_sweepOn shM 12 K [.ref (kb K + 0), .int v1, .int v2, .int v3] M Q := by
  refine met_of (cc := cX6_sweepOn) (maxL := 6) (ret := (some .int)) (own := RX6) (by decide) rfl rfl (Nat.le_of_ble_eq_true rfl) ?_
  intro p e s m below meth c ls C hl hP hS
  have hl : lv_has ls 6 [(0, .ref (kb K + 0)), (1, .int v1), (2, .int v2), (3, .int v3)] := hl
  obtain ⟨hx, hb, hml, hown, hts, hr, hlk, hK⟩ := id C
  have hP0 := hP
  delta q_X6_sweepOn at hw
  refine lv_aload_n hx hb dX6_sweepOn_0 rfl (lv_at hl 0 rfl) ?_
  refine g_f C hP (by decide) (sM_0 K _) rfl hX6_sweepOn_X6 0 (by decide) kX6_sweepOn_f7 rfl dX6_sweepOn_1 ?_
  refine lv_iload_n hx hb dX6_sweepOn_4 rfl (lv_at hl 1 rfl) ?_
  refine lv_bipush hx hb dX6_sweepOn_5 bp_21 ?_
  refine lv_iadd hx hb dX6_sweepOn_7 ?_
  have hi_1 := hw.1
  have hw := hw.2
  refine a_il C hP (by decide) (sM_1 K _) hi_1 rfl dX6_sweepOn_8 ?_
  refine lv_topi (fun x_2 ex_2 => ?_)
  have hw := hw x_2 ex_2
  refine lv_istore (lv' := [(4, .int x_2), (0, .ref (kb K + 0)), (1, .int v1), (2, .int v2), (3, .int v3)]) hx hb dX6_sweepOn_9 hl (by decide) rfl (fun ls hl => ?_)
  refine lv_aload_n hx hb dX6_sweepOn_11 rfl (lv_at hl 1 rfl) ?_
  refine g_f C hP (by decide) (sM_0 K _) rfl hX6_sweepOn_X6 0 (by decide) kX6_sweepOn_f7 rfl dX6_sweepOn_12 ?_
  refine lv_iload_n hx hb dX6_sweepOn_15 rfl (lv_at hl 2 rfl) ?_
  refine lv_bipush hx hb dX6_sweepOn_16 bp_21 ?_
  refine lv_iadd hx hb dX6_sweepOn_18 ?_
  refine lv_iconst hx hb dX6_sweepOn_19 ic_1 ?_
  refine lv_iadd hx hb dX6_sweepOn_20 ?_
  have hi_3 := hw.1
  have hw := hw.2
  refine a_il C hP (by decide) (sM_1 K _) hi_3 rfl dX6_sweepOn_21 ?_
  refine lv_topi (fun x_4 ex_4 => ?_)
  have hw := hw x_4 ex_4
  refine lv_istore (lv' := [(5, .int x_4), (4, .int x_2), (0, .ref (kb K + 0)), (1, .int v1), (2, .int v2), (3, .int v3)]) hx hb dX6_sweepOn_22 hl (by decide) rfl (fun ls hl => ?_)
  refine lv_aload_n hx hb dX6_sweepOn_24 rfl (lv_at hl 2 rfl) ?_
  refine g_f C hP (by decide) (sM_0 K _) rfl hX6_sweepOn_X6 0 (by decide) kX6_sweepOn_f7 rfl dX6_sweepOn_25 ?_
  refine lv_iload_n hx hb dX6_sweepOn_28 rfl (lv_at hl 3 rfl) ?_
  refine lv_iload_n hx hb dX6_sweepOn_29 rfl (lv_at hl 4 rfl) ?_
  refine lv_iadd hx hb dX6_sweepOn_30 ?_
  have hi_5 := hw.1
  have hw := hw.2
  refine a_il C hP (by decide) (sM_1 K _) hi_5 rfl dX6_sweepOn_31 ?_
  refine lv_iload hx hb dX6_sweepOn_32 (lv_at hl 1 rfl) ?_
  refine lv_isub hx hb dX6_sweepOn_34 ?_
  refine lv_aload_n hx hb dX6_sweepOn_35 rfl (lv_at hl 2 rfl) ?_
  refine g_f C hP (by decide) (sM_0 K _) rfl hX6_sweepOn_X6 0 (by decide) kX6_sweepOn_f7 rfl dX6_sweepOn_36 ?_
  refine lv_iload_n hx hb dX6_sweepOn_39 rfl (lv_at hl 3 rfl) ?_
  refine lv_bipush hx hb dX6_sweepOn_40 bp_10 ?_
  refine lv_iadd hx hb dX6_sweepOn_42 ?_
  refine lv_iload_n hx hb dX6_sweepOn_43 rfl (lv_at hl 5 rfl) ?_
  refine lv_iadd hx hb dX6_sweepOn_44 ?_
  have hi_6 := hw.1
  have hw := hw.2
  refine a_il C hP (by decide) (sM_1 K _) hi_6 rfl dX6_sweepOn_45 ?_
  refine lv_iload hx hb dX6_sweepOn_46 (lv_at hl 0 rfl) ?_
  refine lv_isub hx hb dX6_sweepOn_48 ?_
  refine lv_imul hx hb dX6_sweepOn_49 ?_
  refine lv_aload_n hx hb dX6_sweepOn_50 rfl (lv_at hl 2 rfl) ?_
  refine g_f C hP (by decide) (sM_0 K _) rfl hX6_sweepOn_X6 0 (by decide) kX6_sweepOn_f7 rfl dX6_sweepOn_51 ?_
  refine lv_iload_n hx hb dX6_sweepOn_54 rfl (lv_at hl 3 rfl) ?_
  refine lv_iload_n hx hb dX6_sweepOn_55 rfl (lv_at hl 5 rfl) ?_
  refine lv_iadd hx hb dX6_sweepOn_56 ?_
  have hi_7 := hw.1
  have hw := hw.2
  refine a_il C hP (by decide) (sM_1 K _) hi_7 rfl dX6_sweepOn_57 ?_
  refine lv_iload hx hb dX6_sweepOn_58 (lv_at hl 1 rfl) ?_
  refine lv_isub hx hb dX6_sweepOn_60 ?_
  refine lv_aload_n hx hb dX6_sweepOn_61 rfl (lv_at hl 2 rfl) ?_
  refine g_f C hP (by decide) (sM_0 K _) rfl hX6_sweepOn_X6 0 (by decide) kX6_sweepOn_f7 rfl dX6_sweepOn_62 ?_
  refine lv_iload_n hx hb dX6_sweepOn_65 rfl (lv_at hl 3 rfl) ?_
  refine lv_bipush hx hb dX6_sweepOn_66 bp_10 ?_
  refine lv_iadd hx hb dX6_sweepOn_68 ?_
  refine lv_iload_n hx hb dX6_sweepOn_69 rfl (lv_at hl 4 rfl) ?_
  refine lv_iadd hx hb dX6_sweepOn_70 ?_
  have hi_8 := hw.1
  have hw := hw.2
  refine a_il C hP (by decide) (sM_1 K _) hi_8 rfl dX6_sweepOn_71 ?_
  refine lv_iload hx hb dX6_sweepOn_72 (lv_at hl 0 rfl) ?_
  refine lv_isub hx hb dX6_sweepOn_74 ?_
  refine lv_imul hx hb dX6_sweepOn_75 ?_
  refine lv_isub hx hb dX6_sweepOn_76 ?_
  exact r_i C hP hS hw dX6_sweepOn_77

theorem kX6_behindOn_f7 : Cond.fieldLink RX6 7 (TX6 0).1 (TX6 0).2.1 (TX6 0).2.2.1 ∈ wsX6_behindOn := List.mem_of_getElem? (i := 1) rfl
theorem hX6_behindOn_X6 : ∀ w ∈ u_ws RX6 TX6 26, w ∈ wsX6_behindOn := fun _ h => List.mem_cons_of_mem _ (List.mem_append_right _ (h))
abbrev rmX6_behindOn : Room := { frames := 0, cells := 0, slots := 0, locals := 0 }
def q_X6_behindOn (v1 : Int32) (v2 : Int32) (M : Mem) (Q : Int32 → Mem → Prop) : Prop := vp_in (v1 + (20 : Int32)) 222 ∧ (¬ (M 1 (v1 + (20 : Int32)).toNatClampNeg) = 0) ∧ Q ((v2 + (1 : Int32)) - (v2 + (1 : Int32)) / (M 1 (v1 + (20 : Int32)).toNatClampNeg) * (M 1 (v1 + (20 : Int32)).toNatClampNeg)) M
theorem dsX6_behindOn : yX6_behindOn.cls = RX6 ∧ yX6_behindOn.cls ≠ "java/lang/invoke/MethodHandle" ∧ yX6_behindOn.cls ≠ "java/lang/invoke/VarHandle" ∧ (parseMethodDescriptor yX6_behindOn.desc).map (fun d => d.parameters.length) = some 2 := by decide +kernel
set_option maxRecDepth 100000 in
set_option maxHeartbeats 4000000 in
theorem c_X6_behindOn {l : Launch} {K : wC} {v1 : Int32} {v2 : Int32} {M : Mem} {Q : Int32 → Mem → Prop} (hw : q_X6_behindOn v1 v2 M Q) : metI l yX6_behindOn wsX6_behindOn rmX6_behindOn shM 12 K [.ref (kb K + 0), .int v1, .int v2] M Q := by
  refine met_of (cc := cX6_behindOn) (maxL := 3) (ret := (some .int)) (own := RX6) (by decide) rfl rfl (Nat.le_of_ble_eq_true rfl) ?_
  intro p e s m below meth c ls C hl hP hS
  have hl : lv_has ls 3 [(0, .ref (kb K + 0)), (1, .int v1), (2, .int v2)] := hl
  obtain ⟨hx, hb, hml, hown, hts, hr, hlk, hK⟩ := id C
  have hP0 := hP
  delta q_X6_behindOn at hw
  refine lv_iload_n hx hb dX6_behindOn_0 rfl (lv_at hl 2 rfl) ?_
  refine lv_iconst hx hb dX6_behindOn_1 ic_1 ?_
  refine lv_iadd hx hb dX6_behindOn_2 ?_
  refine lv_aload_n hx hb dX6_behindOn_3 rfl (lv_at hl 0 rfl) ?_
  refine g_f C hP (by decide) (sM_0 K _) rfl hX6_behindOn_X6 0 (by decide) kX6_behindOn_f7 rfl dX6_behindOn_4 ?_
  refine lv_iload_n hx hb dX6_behindOn_7 rfl (lv_at hl 1 rfl) ?_
  refine lv_bipush hx hb dX6_behindOn_8 bp_20 ?_
  refine lv_iadd hx hb dX6_behindOn_10 ?_
  have hi_1 := hw.1
  have hw := hw.2
  refine a_il C hP (by decide) (sM_1 K _) hi_1 rfl dX6_behindOn_11 ?_
  have hz_2 := hw.1
  have hw := hw.2
  refine lv_irem hx hb dX6_behindOn_12 hz_2 ?_
  exact r_i C hP hS hw dX6_behindOn_13

theorem kX6_areaOn_f7 : Cond.fieldLink RX6 7 (TX6 0).1 (TX6 0).2.1 (TX6 0).2.2.1 ∈ wsX6_areaOn := List.mem_of_getElem? (i := 1) rfl
theorem hX6_areaOn_X6 : ∀ w ∈ u_ws RX6 TX6 26, w ∈ wsX6_areaOn := fun _ h => List.mem_cons_of_mem _ (List.mem_append_right _ (h))
theorem kX6_areaOn_f25 : Cond.fieldLink RX6 25 (TX6 14).1 (TX6 14).2.1 (TX6 14).2.2.1 ∈ wsX6_areaOn := List.mem_of_getElem? (i := 2) rfl
abbrev rmX6_areaOn : Room := { frames := 1, cells := 0, slots := 0, locals := 25 }
abbrev t_X6_areaOn : Type := (Int32 → Int32 → Int32 → Mem → Prop) × (Int32 → Int32 → Int32 → Int32 → Mem → Prop) × (Int32 → Int32 → Int32 → Mem → Prop)
def f_X6_areaOn_4 (Q : Int32 → Mem → Prop) (r : t_X6_areaOn) (v1 : Int32) (v2 : Int32) (v3 : Int32) (M : Mem) : Prop := vp_in (v1 + (20 : Int32)) 222 ∧ (((M 1 (v1 + (20 : Int32)).toNatClampNeg) ≤ v3 → Q v2 M) ∧ (¬ (M 1 (v1 + (20 : Int32)).toNatClampNeg) ≤ v3 → ((v3 = (M 0 14) → r.2.2 v1 v2 v3 M) ∧ (¬ v3 = (M 0 14) → q_X6_behindOn v1 v3 M (fun r_3 M_2 => ((¬ r_3 = (M_2 0 14) → r.2.1 v1 v2 v3 r_3 M_2) ∧ (r_3 = (M_2 0 14) → q_X6_behindOn v1 r_3 M_2 (fun r_5 M_4 => r.2.1 v1 v2 v3 r_5 M_4))))))))
def f_X6_areaOn_54 (Q : Int32 → Mem → Prop) (r : t_X6_areaOn) (v1 : Int32) (v2 : Int32) (v3 : Int32) (s0 : Int32) (M : Mem) : Prop := q_X6_sweepOn v1 v3 s0 M (fun r_7 M_6 => r.2.2 v1 (v2 + r_7) v3 M_6)
def f_X6_areaOn_67 (Q : Int32 → Mem → Prop) (r : t_X6_areaOn) (v1 : Int32) (v2 : Int32) (v3 : Int32) (M : Mem) : Prop := r.1 v1 v2 (v3 + 1) M
def p_X6_areaOn (Q : Int32 → Mem → Prop) : Nat → t_X6_areaOn
  | 0 => (fun _ _ _ _ => False, fun _ _ _ _ _ => False, fun _ _ _ _ => False)
  | n + 1 => (f_X6_areaOn_4 Q (p_X6_areaOn Q n), f_X6_areaOn_54 Q (p_X6_areaOn Q n), f_X6_areaOn_67 Q (p_X6_areaOn Q n))
def e_X6_areaOn (v1 : Int32) (Q : Int32 → Mem → Prop) (r : t_X6_areaOn) (M : Mem) : Prop := r.1 v1 (0 : Int32) (0 : Int32) M
def q_X6_areaOn (v1 : Int32) (M : Mem) (Q : Int32 → Mem → Prop) : Prop := ∃ n : Nat, e_X6_areaOn v1 Q (p_X6_areaOn Q n) M
set_option maxRecDepth 100000 in
set_option maxHeartbeats 4000000 in
theorem b_X6_areaOn {l : Launch} {K : wC} {Q : Int32 → Mem → Prop} {p : Program} {e : Env} {s : State} {m : MethodId} {args : Array Value} {below : List Frame} {meth : Method} {c : Code} (C : cx 12 K p s m args meth c cX6_areaOn 5 wsX6_areaOn RX6 (some .int)) : ∀ n : Nat, (∀ (v1 : Int32) (v2 : Int32) (v3 : Int32) (M : Mem) (H : Heap) (locs : List Loc) (ls : Array Slot), (p_X6_areaOn Q n).1 v1 v2 v3 M → wP shM 12 K M H → va_S (wA 12 K) s.heap H locs → lv_has ls 5 [(0, .ref (kb K + 0)), (1, .int v1), (2, .int v2), (3, .int v3)] → W p l e rmX6_areaOn s m args below meth c H locs 0 0 (MQ below (va_Qi Q (wE shM 12 K) (wA 12 K)) args s 0 0 (wA 12 K)) (F0 m 4 ls [])) ∧ (∀ (v1 : Int32) (v2 : Int32) (v3 : Int32) (s0 : Int32) (M : Mem) (H : Heap) (locs : List Loc) (ls : Array Slot), (p_X6_areaOn Q n).2.1 v1 v2 v3 s0 M → wP shM 12 K M H → va_S (wA 12 K) s.heap H locs → lv_has ls 5 [(0, .ref (kb K + 0)), (1, .int v1), (2, .int v2), (3, .int v3)] → W p l e rmX6_areaOn s m args below meth c H locs 0 0 (MQ below (va_Qi Q (wE shM 12 K) (wA 12 K)) args s 0 0 (wA 12 K)) (F0 m 54 ls [.int s0])) ∧ (∀ (v1 : Int32) (v2 : Int32) (v3 : Int32) (M : Mem) (H : Heap) (locs : List Loc) (ls : Array Slot), (p_X6_areaOn Q n).2.2 v1 v2 v3 M → wP shM 12 K M H → va_S (wA 12 K) s.heap H locs → lv_has ls 5 [(0, .ref (kb K + 0)), (1, .int v1), (2, .int v2), (3, .int v3)] → W p l e rmX6_areaOn s m args below meth c H locs 0 0 (MQ below (va_Qi Q (wE shM 12 K) (wA 12 K)) args s 0 0 (wA 12 K)) (F0 m 67 ls [])) := by
  obtain ⟨hx, hb, hml, hown, hts, hr, hlk, hK⟩ := id C
  intro n
  induction n with
  | zero => exact ⟨fun _ _ _ _ _ _ _ hw _ _ _ => False.elim hw, fun _ _ _ _ _ _ _ _ hw _ _ _ => False.elim hw, fun _ _ _ _ _ _ _ hw _ _ _ => False.elim hw⟩
  | succ n ih =>
    refine ⟨?_, ?_, ?_⟩
    · intro v1 v2 v3 M H locs ls hw hP hS hl
      have hw : f_X6_areaOn_4 Q (p_X6_areaOn Q n) v1 v2 v3 M := hw
      delta f_X6_areaOn_4 at hw
      refine lv_iload_n hx hb dX6_areaOn_4 rfl (lv_at hl 3 rfl) ?_
      refine lv_aload_n hx hb dX6_areaOn_5 rfl (lv_at hl 0 rfl) ?_
      refine g_f C hP (by decide) (sM_0 K _) rfl hX6_areaOn_X6 0 (by decide) kX6_areaOn_f7 rfl dX6_areaOn_6 ?_
      refine lv_iload_n hx hb dX6_areaOn_9 rfl (lv_at hl 1 rfl) ?_
      refine lv_bipush hx hb dX6_areaOn_10 bp_20 ?_
      refine lv_iadd hx hb dX6_areaOn_12 ?_
      have hi_1 := hw.1
      have hw := hw.2
      refine a_il C hP (by decide) (sM_1 K _) hi_1 rfl dX6_areaOn_13 ?_
      refine lv_icmp_ge (tgt := 73) hx hb dX6_areaOn_14 (by decide) (fun hc => ?_) (fun hc => ?_)
      · have hw := hw.1 hc
        refine lv_iload_n hx hb dX6_areaOn_73 rfl (lv_at hl 2 rfl) ?_
        exact r_i C hP hS hw dX6_areaOn_74
      · have hw := hw.2 hc
        refine lv_iload_n hx hb dX6_areaOn_17 rfl (lv_at hl 3 rfl) ?_
        refine lv_aload_n hx hb dX6_areaOn_18 rfl (lv_at hl 0 rfl) ?_
        refine g_f C hP (by decide) (sM_0 K _) rfl hX6_areaOn_X6 14 (by decide) kX6_areaOn_f25 rfl dX6_areaOn_19 ?_
        refine lv_icmp_eq (tgt := 67) hx hb dX6_areaOn_22 (by decide) (fun hc => ?_) (fun hc => ?_)
        · have hw := hw.1 hc
          exact ih.2.2 _ _ _ _ _ _ _ hw hP hS (lv_sub hl [0, 1, 2, 3] rfl)
        · have hw := hw.2 hc
          refine lv_aload_n hx hb dX6_areaOn_25 rfl (lv_at hl 0 rfl) ?_
          refine lv_iload_n hx hb dX6_areaOn_26 rfl (lv_at hl 1 rfl) ?_
          refine lv_iload_n hx hb dX6_areaOn_27 rfl (lv_at hl 3 rfl) ?_
          refine c_i (run_v (As := [.int v1, .int v3]) (rest := []) C hP hS (c_X6_behindOn hw) gX6_areaOn_X6_behindOn rfl dsX6_behindOn rfl ⟨rfl, rfl⟩ ⟨Nat.le_of_ble_eq_true rfl, Nat.le_of_ble_eq_true rfl⟩ (by decide) (sM_0 K _) rfl hl.1 rfl (Nat.le_of_ble_eq_true rfl) dX6_areaOn_28 ⟨Nat.le_of_ble_eq_true rfl, Nat.le_of_ble_eq_true rfl⟩) hS (fun r_3 M_2 H locs hw hP hS => ?_)
          refine lv_istore (lv' := [(4, .int r_3), (0, .ref (kb K + 0)), (1, .int v1), (2, .int v2), (3, .int v3)]) hx hb dX6_areaOn_31 hl (by decide) rfl (fun ls hl => ?_)
          refine lv_iload hx hb dX6_areaOn_33 (lv_at hl 0 rfl) ?_
          refine lv_aload_n hx hb dX6_areaOn_35 rfl (lv_at hl 1 rfl) ?_
          refine g_f C hP (by decide) (sM_0 K _) rfl hX6_areaOn_X6 14 (by decide) kX6_areaOn_f25 rfl dX6_areaOn_36 ?_
          refine lv_icmp_ne (tgt := 52) hx hb dX6_areaOn_39 (by decide) (fun hc => ?_) (fun hc => ?_)
          · have hw := hw.1 hc
            refine lv_iload hx hb dX6_areaOn_52 (lv_at hl 0 rfl) ?_
            exact ih.2.1 _ _ _ _ _ _ _ _ hw hP hS (lv_sub hl [1, 2, 3, 4] rfl)
          · have hw := hw.2 hc
            refine lv_aload_n hx hb dX6_areaOn_42 rfl (lv_at hl 1 rfl) ?_
            refine lv_iload_n hx hb dX6_areaOn_43 rfl (lv_at hl 2 rfl) ?_
            refine lv_iload hx hb dX6_areaOn_44 (lv_at hl 0 rfl) ?_
            refine c_i (run_v (As := [.int v1, .int r_3]) (rest := []) C hP hS (c_X6_behindOn hw) gX6_areaOn_X6_behindOn rfl dsX6_behindOn rfl ⟨rfl, rfl⟩ ⟨Nat.le_of_ble_eq_true rfl, Nat.le_of_ble_eq_true rfl⟩ (by decide) (sM_0 K _) rfl hl.1 rfl (Nat.le_of_ble_eq_true rfl) dX6_areaOn_46 ⟨Nat.le_of_ble_eq_true rfl, Nat.le_of_ble_eq_true rfl⟩) hS (fun r_5 M_4 H locs hw hP hS => ?_)
            refine lv_goto (tgt := 54) hx hb dX6_areaOn_49 (by decide) ?_
            exact ih.2.1 _ _ _ _ _ _ _ _ hw hP hS (lv_sub hl [1, 2, 3, 4] rfl)
    · intro v1 v2 v3 s0 M H locs ls hw hP hS hl
      have hw : f_X6_areaOn_54 Q (p_X6_areaOn Q n) v1 v2 v3 s0 M := hw
      delta f_X6_areaOn_54 at hw
      refine lv_istore (lv' := [(4, .int s0), (0, .ref (kb K + 0)), (1, .int v1), (2, .int v2), (3, .int v3)]) hx hb dX6_areaOn_54 hl (by decide) rfl (fun ls hl => ?_)
      refine lv_iload_n hx hb dX6_areaOn_56 rfl (lv_at hl 3 rfl) ?_
      refine lv_aload_n hx hb dX6_areaOn_57 rfl (lv_at hl 1 rfl) ?_
      refine lv_iload_n hx hb dX6_areaOn_58 rfl (lv_at hl 2 rfl) ?_
      refine lv_iload_n hx hb dX6_areaOn_59 rfl (lv_at hl 4 rfl) ?_
      refine lv_iload hx hb dX6_areaOn_60 (lv_at hl 0 rfl) ?_
      refine c_i (run_v (As := [.int v1, .int v3, .int s0]) (rest := [.int v2]) C hP hS (c_X6_sweepOn hw) gX6_areaOn_X6_sweepOn rfl dsX6_sweepOn rfl ⟨rfl, rfl⟩ ⟨Nat.le_of_ble_eq_true rfl, Nat.le_of_ble_eq_true rfl⟩ (by decide) (sM_0 K _) rfl hl.1 rfl (Nat.le_of_ble_eq_true rfl) dX6_areaOn_62 ⟨Nat.le_of_ble_eq_true rfl, Nat.le_of_ble_eq_true rfl⟩) hS (fun r_7 M_6 H locs hw hP hS => ?_)
      refine lv_iadd hx hb dX6_areaOn_65 ?_
      refine lv_istore_n (lv' := [(2, .int (v2 + r_7)), (4, .int s0), (0, .ref (kb K + 0)), (1, .int v1), (3, .int v3)]) hx hb dX6_areaOn_66 rfl hl (by decide) rfl (fun ls hl => ?_)
      exact ih.2.2 _ _ _ _ _ _ _ hw hP hS (lv_sub hl [2, 3, 0, 4] rfl)
    · intro v1 v2 v3 M H locs ls hw hP hS hl
      have hw : f_X6_areaOn_67 Q (p_X6_areaOn Q n) v1 v2 v3 M := hw
      delta f_X6_areaOn_67 at hw
      refine lv_iinc (v := (v3 + 1)) (lv' := [(3, .int (v3 + 1)), (0, .ref (kb K + 0)), (1, .int v1), (2, .int v2)]) hx hb dX6_areaOn_67 hl (k := 3) rfl (by rw [ic_1]) (by decide) rfl (fun ls hl => ?_)
      refine lv_goto (tgt := 4) hx hb dX6_areaOn_70 (by decide) ?_
      exact ih.1 _ _ _ _ _ _ _ hw hP hS (lv_sub hl [1, 2, 3, 0] rfl)
theorem dsX6_areaOn : yX6_areaOn.cls = RX6 ∧ yX6_areaOn.cls ≠ "java/lang/invoke/MethodHandle" ∧ yX6_areaOn.cls ≠ "java/lang/invoke/VarHandle" ∧ (parseMethodDescriptor yX6_areaOn.desc).map (fun d => d.parameters.length) = some 1 := by decide +kernel
set_option maxRecDepth 100000 in
set_option maxHeartbeats 4000000 in
theorem c_X6_areaOn {l : Launch} {K : wC} {v1 : Int32} {M : Mem} {Q : Int32 → Mem → Prop} (hw : q_X6_areaOn v1 M Q) : metI l yX6_areaOn wsX6_areaOn rmX6_areaOn shM 12 K [.ref (kb K + 0), .int v1] M Q := by
  refine met_of (cc := cX6_areaOn) (maxL := 5) (ret := (some .int)) (own := RX6) (by decide) rfl rfl (Nat.le_of_ble_eq_true rfl) ?_
  intro p e s m below meth c ls C hl hP hS
  have hl : lv_has ls 5 [(0, .ref (kb K + 0)), (1, .int v1)] := hl
  obtain ⟨hx, hb, hml, hown, hts, hr, hlk, hK⟩ := id C
  have hP0 := hP
  obtain ⟨n, hw⟩ := hw
  have ih := b_X6_areaOn (l := l) (e := e) (below := below) (Q := Q) C n
  delta e_X6_areaOn at hw
  refine lv_iconst hx hb dX6_areaOn_0 ic_0 ?_
  refine lv_istore_n (lv' := [(2, .int (0 : Int32)), (0, .ref (kb K + 0)), (1, .int v1)]) hx hb dX6_areaOn_1 rfl hl (by decide) rfl (fun ls hl => ?_)
  refine lv_iconst hx hb dX6_areaOn_2 ic_0 ?_
  refine lv_istore_n (lv' := [(3, .int (0 : Int32)), (2, .int (0 : Int32)), (0, .ref (kb K + 0)), (1, .int v1)]) hx hb dX6_areaOn_3 rfl hl (by decide) rfl (fun ls hl => ?_)
  exact ih.1 _ _ _ _ _ _ _ hw hP hS (lv_sub hl [2, 3, 1, 0] rfl)

theorem kX6_rollsOn_f7 : Cond.fieldLink RX6 7 (TX6 0).1 (TX6 0).2.1 (TX6 0).2.2.1 ∈ wsX6_rollsOn := List.mem_of_getElem? (i := 1) rfl
theorem hX6_rollsOn_X6 : ∀ w ∈ u_ws RX6 TX6 26, w ∈ wsX6_rollsOn := fun _ h => List.mem_cons_of_mem _ (List.mem_append_right _ (h))
abbrev rmX6_rollsOn : Room := { frames := 1, cells := 0, slots := 0, locals := 20 }
def f_X6_rollsOn_70 (Q : Int32 → Mem → Prop) (v3 : Int32) (s0 : Int32) (M : Mem) : Prop := ((s0 = 0 → Q v3 M) ∧ (¬ s0 = 0 → Q (0 : Int32) M))
def f_X6_rollsOn_69 (Q : Int32 → Mem → Prop) (v3 : Int32) (M : Mem) : Prop := f_X6_rollsOn_70 Q v3 (0 : Int32) M
def f_X6_rollsOn_65 (Q : Int32 → Mem → Prop) (v3 : Int32) (M : Mem) : Prop := f_X6_rollsOn_70 Q v3 (1 : Int32) M
def f_X6_rollsOn_55 (Q : Int32 → Mem → Prop) (v3 : Int32) (v4 : Int32) (M : Mem) : Prop := ((¬ v4 = (3 : Int32) → f_X6_rollsOn_69 Q v3 M) ∧ (v4 = (3 : Int32) → ((0 ≤ v3 → f_X6_rollsOn_69 Q v3 M) ∧ (¬ 0 ≤ v3 → f_X6_rollsOn_65 Q v3 M))))
def q_X6_rollsOn (v1 : Int32) (v2 : Int32) (v3 : Int32) (M : Mem) (Q : Int32 → Mem → Prop) : Prop := vp_in ((v1 + (23 : Int32)) + v2) 222 ∧ (∀ x_2 : Int32, x_2 = (M 1 ((v1 + (23 : Int32)) + v2).toNatClampNeg) → vp_in ((v1 + (27 : Int32)) + v2) 222 ∧ (∀ x_4 : Int32, x_4 = (M 1 ((v1 + (27 : Int32)) + v2).toNatClampNeg) → ((¬ x_2 = (1 : Int32) → ((x_2 ≤ (1 : Int32) → f_X6_rollsOn_55 Q v3 x_2 M) ∧ (¬ x_2 ≤ (1 : Int32) → q_X6_amount v3 M (fun r_6 M_5 => ((r_6 < x_4 → f_X6_rollsOn_65 Q v3 M_5) ∧ (¬ r_6 < x_4 → f_X6_rollsOn_55 Q v3 x_2 M_5)))))) ∧ (x_2 = (1 : Int32) → (¬ x_4 = 0) ∧ Q ((v3 / x_4) * x_4) M))))
set_option maxRecDepth 100000 in
set_option maxHeartbeats 4000000 in
theorem b_X6_rollsOn_70 {l : Launch} {K : wC} {Q : Int32 → Mem → Prop} {p : Program} {e : Env} {s : State} {m : MethodId} {args : Array Value} {below : List Frame} {meth : Method} {c : Code} (C : cx 12 K p s m args meth c cX6_rollsOn 7 wsX6_rollsOn RX6 (some .int)) (v3 : Int32) (s0 : Int32) (M : Mem) (H : Heap) (locs : List Loc) (ls : Array Slot) (hw : f_X6_rollsOn_70 Q v3 s0 M) (hP : wP shM 12 K M H) (hS : va_S (wA 12 K) s.heap H locs) (hl : lv_has ls 7 [(3, .int v3)]) : W p l e rmX6_rollsOn s m args below meth c H locs 0 0 (MQ below (va_Qi Q (wE shM 12 K) (wA 12 K)) args s 0 0 (wA 12 K)) (F0 m 70 ls [.int s0]) := by
  obtain ⟨hx, hb, hml, hown, hts, hr, hlk, hK⟩ := id C
  delta f_X6_rollsOn_70 at hw
  refine lv_istore (lv' := [(6, .int s0), (3, .int v3)]) hx hb dX6_rollsOn_70 hl (by decide) rfl (fun ls hl => ?_)
  refine lv_iload hx hb dX6_rollsOn_72 (lv_at hl 0 rfl) ?_
  refine lv_if_eq (tgt := 81) hx hb dX6_rollsOn_74 (by decide) (fun hc => ?_) (fun hc => ?_)
  · have hw := hw.1 hc
    refine lv_iload_n hx hb dX6_rollsOn_81 rfl (lv_at hl 1 rfl) ?_
    exact r_i C hP hS hw dX6_rollsOn_82
  · have hw := hw.2 hc
    refine lv_iconst hx hb dX6_rollsOn_77 ic_0 ?_
    refine lv_goto (tgt := 82) hx hb dX6_rollsOn_78 (by decide) ?_
    exact r_i C hP hS hw dX6_rollsOn_82
set_option maxRecDepth 100000 in
set_option maxHeartbeats 4000000 in
theorem b_X6_rollsOn_69 {l : Launch} {K : wC} {Q : Int32 → Mem → Prop} {p : Program} {e : Env} {s : State} {m : MethodId} {args : Array Value} {below : List Frame} {meth : Method} {c : Code} (C : cx 12 K p s m args meth c cX6_rollsOn 7 wsX6_rollsOn RX6 (some .int)) (v3 : Int32) (M : Mem) (H : Heap) (locs : List Loc) (ls : Array Slot) (hw : f_X6_rollsOn_69 Q v3 M) (hP : wP shM 12 K M H) (hS : va_S (wA 12 K) s.heap H locs) (hl : lv_has ls 7 [(3, .int v3)]) : W p l e rmX6_rollsOn s m args below meth c H locs 0 0 (MQ below (va_Qi Q (wE shM 12 K) (wA 12 K)) args s 0 0 (wA 12 K)) (F0 m 69 ls []) := by
  obtain ⟨hx, hb, hml, hown, hts, hr, hlk, hK⟩ := id C
  delta f_X6_rollsOn_69 at hw
  refine lv_iconst hx hb dX6_rollsOn_69 ic_0 ?_
  exact b_X6_rollsOn_70 C _ _ _ _ _ _ hw hP hS (lv_sub hl [0] rfl)
set_option maxRecDepth 100000 in
set_option maxHeartbeats 4000000 in
theorem b_X6_rollsOn_65 {l : Launch} {K : wC} {Q : Int32 → Mem → Prop} {p : Program} {e : Env} {s : State} {m : MethodId} {args : Array Value} {below : List Frame} {meth : Method} {c : Code} (C : cx 12 K p s m args meth c cX6_rollsOn 7 wsX6_rollsOn RX6 (some .int)) (v3 : Int32) (M : Mem) (H : Heap) (locs : List Loc) (ls : Array Slot) (hw : f_X6_rollsOn_65 Q v3 M) (hP : wP shM 12 K M H) (hS : va_S (wA 12 K) s.heap H locs) (hl : lv_has ls 7 [(3, .int v3)]) : W p l e rmX6_rollsOn s m args below meth c H locs 0 0 (MQ below (va_Qi Q (wE shM 12 K) (wA 12 K)) args s 0 0 (wA 12 K)) (F0 m 65 ls []) := by
  obtain ⟨hx, hb, hml, hown, hts, hr, hlk, hK⟩ := id C
  delta f_X6_rollsOn_65 at hw
  refine lv_iconst hx hb dX6_rollsOn_65 ic_1 ?_
  refine lv_goto (tgt := 70) hx hb dX6_rollsOn_66 (by decide) ?_
  exact b_X6_rollsOn_70 C _ _ _ _ _ _ hw hP hS (lv_sub hl [0] rfl)
set_option maxRecDepth 100000 in
set_option maxHeartbeats 4000000 in
theorem b_X6_rollsOn_55 {l : Launch} {K : wC} {Q : Int32 → Mem → Prop} {p : Program} {e : Env} {s : State} {m : MethodId} {args : Array Value} {below : List Frame} {meth : Method} {c : Code} (C : cx 12 K p s m args meth c cX6_rollsOn 7 wsX6_rollsOn RX6 (some .int)) (v3 : Int32) (v4 : Int32) (M : Mem) (H : Heap) (locs : List Loc) (ls : Array Slot) (hw : f_X6_rollsOn_55 Q v3 v4 M) (hP : wP shM 12 K M H) (hS : va_S (wA 12 K) s.heap H locs) (hl : lv_has ls 7 [(3, .int v3), (4, .int v4)]) : W p l e rmX6_rollsOn s m args below meth c H locs 0 0 (MQ below (va_Qi Q (wE shM 12 K) (wA 12 K)) args s 0 0 (wA 12 K)) (F0 m 55 ls []) := by
  obtain ⟨hx, hb, hml, hown, hts, hr, hlk, hK⟩ := id C
  delta f_X6_rollsOn_55 at hw
  refine lv_iload hx hb dX6_rollsOn_55 (lv_at hl 1 rfl) ?_
  refine lv_iconst hx hb dX6_rollsOn_57 ic_3 ?_
  refine lv_icmp_ne (tgt := 69) hx hb dX6_rollsOn_58 (by decide) (fun hc => ?_) (fun hc => ?_)
  · have hw := hw.1 hc
    exact b_X6_rollsOn_69 C _ _ _ _ _ hw hP hS (lv_sub hl [0] rfl)
  · have hw := hw.2 hc
    refine lv_iload_n hx hb dX6_rollsOn_61 rfl (lv_at hl 0 rfl) ?_
    refine lv_if_ge (tgt := 69) hx hb dX6_rollsOn_62 (by decide) (fun hc => ?_) (fun hc => ?_)
    · have hw := hw.1 hc
      exact b_X6_rollsOn_69 C _ _ _ _ _ hw hP hS (lv_sub hl [0] rfl)
    · have hw := hw.2 hc
      exact b_X6_rollsOn_65 C _ _ _ _ _ hw hP hS (lv_sub hl [0] rfl)
theorem dsX6_rollsOn : yX6_rollsOn.cls = RX6 ∧ yX6_rollsOn.cls ≠ "java/lang/invoke/MethodHandle" ∧ yX6_rollsOn.cls ≠ "java/lang/invoke/VarHandle" ∧ (parseMethodDescriptor yX6_rollsOn.desc).map (fun d => d.parameters.length) = some 3 := by decide +kernel
set_option maxRecDepth 100000 in
set_option maxHeartbeats 4000000 in
theorem c_X6_rollsOn {l : Launch} {K : wC} {v1 : Int32} {v2 : Int32} {v3 : Int32} {M : Mem} {Q : Int32 → Mem → Prop} (hw : q_X6_rollsOn v1 v2 v3 M Q) : metI l yX6_rollsOn wsX6_rollsOn rmX6_rollsOn shM 12 K [.ref (kb K + 0), .int v1, .int v2, .int v3] M Q := by
  refine met_of (cc := cX6_rollsOn) (maxL := 7) (ret := (some .int)) (own := RX6) (by decide) rfl rfl (Nat.le_of_ble_eq_true rfl) ?_
  intro p e s m below meth c ls C hl hP hS
  have hl : lv_has ls 7 [(0, .ref (kb K + 0)), (1, .int v1), (2, .int v2), (3, .int v3)] := hl
  obtain ⟨hx, hb, hml, hown, hts, hr, hlk, hK⟩ := id C
  have hP0 := hP
  delta q_X6_rollsOn at hw
  refine lv_aload_n hx hb dX6_rollsOn_0 rfl (lv_at hl 0 rfl) ?_
  refine g_f C hP (by decide) (sM_0 K _) rfl hX6_rollsOn_X6 0 (by decide) kX6_rollsOn_f7 rfl dX6_rollsOn_1 ?_
  refine lv_iload_n hx hb dX6_rollsOn_4 rfl (lv_at hl 1 rfl) ?_
  refine lv_bipush hx hb dX6_rollsOn_5 bp_23 ?_
  refine lv_iadd hx hb dX6_rollsOn_7 ?_
  refine lv_iload_n hx hb dX6_rollsOn_8 rfl (lv_at hl 2 rfl) ?_
  refine lv_iadd hx hb dX6_rollsOn_9 ?_
  have hi_1 := hw.1
  have hw := hw.2
  refine a_il C hP (by decide) (sM_1 K _) hi_1 rfl dX6_rollsOn_10 ?_
  refine lv_topi (fun x_2 ex_2 => ?_)
  have hw := hw x_2 ex_2
  refine lv_istore (lv' := [(4, .int x_2), (0, .ref (kb K + 0)), (1, .int v1), (2, .int v2), (3, .int v3)]) hx hb dX6_rollsOn_11 hl (by decide) rfl (fun ls hl => ?_)
  refine lv_aload_n hx hb dX6_rollsOn_13 rfl (lv_at hl 1 rfl) ?_
  refine g_f C hP (by decide) (sM_0 K _) rfl hX6_rollsOn_X6 0 (by decide) kX6_rollsOn_f7 rfl dX6_rollsOn_14 ?_
  refine lv_iload_n hx hb dX6_rollsOn_17 rfl (lv_at hl 2 rfl) ?_
  refine lv_bipush hx hb dX6_rollsOn_18 bp_27 ?_
  refine lv_iadd hx hb dX6_rollsOn_20 ?_
  refine lv_iload_n hx hb dX6_rollsOn_21 rfl (lv_at hl 3 rfl) ?_
  refine lv_iadd hx hb dX6_rollsOn_22 ?_
  have hi_3 := hw.1
  have hw := hw.2
  refine a_il C hP (by decide) (sM_1 K _) hi_3 rfl dX6_rollsOn_23 ?_
  refine lv_topi (fun x_4 ex_4 => ?_)
  have hw := hw x_4 ex_4
  refine lv_istore (lv' := [(5, .int x_4), (4, .int x_2), (0, .ref (kb K + 0)), (1, .int v1), (2, .int v2), (3, .int v3)]) hx hb dX6_rollsOn_24 hl (by decide) rfl (fun ls hl => ?_)
  refine lv_iload hx hb dX6_rollsOn_26 (lv_at hl 1 rfl) ?_
  refine lv_iconst hx hb dX6_rollsOn_28 ic_1 ?_
  refine lv_icmp_ne (tgt := 40) hx hb dX6_rollsOn_29 (by decide) (fun hc => ?_) (fun hc => ?_)
  · have hw := hw.1 hc
    refine lv_iload hx hb dX6_rollsOn_40 (lv_at hl 1 rfl) ?_
    refine lv_iconst hx hb dX6_rollsOn_42 ic_1 ?_
    refine lv_icmp_le (tgt := 55) hx hb dX6_rollsOn_43 (by decide) (fun hc => ?_) (fun hc => ?_)
    · have hw := hw.1 hc
      exact b_X6_rollsOn_55 C _ _ _ _ _ _ hw hP hS (lv_sub hl [5, 1] rfl)
    · have hw := hw.2 hc
      refine lv_iload_n hx hb dX6_rollsOn_46 rfl (lv_at hl 5 rfl) ?_
      refine c_i (run_s (As := [.int v3]) (rest := []) C hP hS (c_X6_amount hw) gX6_rollsOn_X6_amount rfl dsX6_amount rfl ⟨rfl, rfl⟩ ⟨Nat.le_of_ble_eq_true rfl, Nat.le_of_ble_eq_true rfl⟩ hl.1 rfl (Nat.le_of_ble_eq_true rfl) dX6_rollsOn_47 ⟨Nat.le_of_ble_eq_true rfl, Nat.le_of_ble_eq_true rfl⟩) hS (fun r_6 M_5 H locs hw hP hS => ?_)
      refine lv_iload hx hb dX6_rollsOn_50 (lv_at hl 0 rfl) ?_
      refine lv_icmp_lt (tgt := 65) hx hb dX6_rollsOn_52 (by decide) (fun hc => ?_) (fun hc => ?_)
      · have hw := hw.1 hc
        exact b_X6_rollsOn_65 C _ _ _ _ _ hw hP hS (lv_sub hl [5] rfl)
      · have hw := hw.2 hc
        exact b_X6_rollsOn_55 C _ _ _ _ _ _ hw hP hS (lv_sub hl [5, 1] rfl)
  · have hw := hw.2 hc
    refine lv_iload_n hx hb dX6_rollsOn_32 rfl (lv_at hl 5 rfl) ?_
    refine lv_iload hx hb dX6_rollsOn_33 (lv_at hl 0 rfl) ?_
    have hz_7 := hw.1
    have hw := hw.2
    refine lv_idiv hx hb dX6_rollsOn_35 hz_7 ?_
    refine lv_iload hx hb dX6_rollsOn_36 (lv_at hl 0 rfl) ?_
    refine lv_imul hx hb dX6_rollsOn_38 ?_
    exact r_i C hP hS hw dX6_rollsOn_39

theorem kX6_errorOn_f7 : Cond.fieldLink RX6 7 (TX6 0).1 (TX6 0).2.1 (TX6 0).2.2.1 ∈ wsX6_errorOn := List.mem_of_getElem? (i := 1) rfl
theorem hX6_errorOn_X6 : ∀ w ∈ u_ws RX6 TX6 26, w ∈ wsX6_errorOn := fun _ h => List.mem_cons_of_mem _ (List.mem_append_right _ (h))
abbrev rmX6_errorOn : Room := { frames := 2, cells := 0, slots := 0, locals := 49 }
abbrev t_X6_errorOn : Type := (Int32 → Int32 → Int32 → Int32 → Mem → Prop)
def f_X6_errorOn_5 (Q : Int32 → Mem → Prop) (r : t_X6_errorOn) (v1 : Int32) (v2 : Int32) (v3 : Int32) (v4 : Int32) (M : Mem) : Prop := vp_in (v1 + (20 : Int32)) 222 ∧ (((M 1 (v1 + (20 : Int32)).toNatClampNeg) ≤ v4 → q_X6_areaOn v1 M (fun r_3 M_2 => q_X6_amount (v3 - r_3) M_2 (fun r_5 M_4 => Q r_5 M_4))) ∧ (¬ (M 1 (v1 + (20 : Int32)).toNatClampNeg) ≤ v4 → q_X6_behindOn v1 v4 M (fun r_7 M_6 => q_X6_sweepOn v1 v4 r_7 M_6 (fun r_9 M_8 => q_X6_rollsOn v1 v2 r_9 M_8 (fun r_11 M_10 => r v1 v2 (v3 + r_11) (v4 + 1) M_10)))))
def p_X6_errorOn (Q : Int32 → Mem → Prop) : Nat → t_X6_errorOn
  | 0 => fun _ _ _ _ _ => False
  | n + 1 => f_X6_errorOn_5 Q (p_X6_errorOn Q n)
def e_X6_errorOn (v1 : Int32) (v2 : Int32) (Q : Int32 → Mem → Prop) (r : t_X6_errorOn) (M : Mem) : Prop := r v1 v2 (0 : Int32) (0 : Int32) M
def q_X6_errorOn (v1 : Int32) (v2 : Int32) (M : Mem) (Q : Int32 → Mem → Prop) : Prop := ∃ n : Nat, e_X6_errorOn v1 v2 Q (p_X6_errorOn Q n) M
set_option maxRecDepth 100000 in
set_option maxHeartbeats 4000000 in
theorem b_X6_errorOn {l : Launch} {K : wC} {Q : Int32 → Mem → Prop} {p : Program} {e : Env} {s : State} {m : MethodId} {args : Array Value} {below : List Frame} {meth : Method} {c : Code} (C : cx 12 K p s m args meth c cX6_errorOn 5 wsX6_errorOn RX6 (some .int)) : ∀ n : Nat, (∀ (v1 : Int32) (v2 : Int32) (v3 : Int32) (v4 : Int32) (M : Mem) (H : Heap) (locs : List Loc) (ls : Array Slot), (p_X6_errorOn Q n) v1 v2 v3 v4 M → wP shM 12 K M H → va_S (wA 12 K) s.heap H locs → lv_has ls 5 [(0, .ref (kb K + 0)), (1, .int v1), (2, .int v2), (3, .int v3), (4, .int v4)] → W p l e rmX6_errorOn s m args below meth c H locs 0 0 (MQ below (va_Qi Q (wE shM 12 K) (wA 12 K)) args s 0 0 (wA 12 K)) (F0 m 5 ls [])) := by
  obtain ⟨hx, hb, hml, hown, hts, hr, hlk, hK⟩ := id C
  intro n
  induction n with
  | zero => exact fun _ _ _ _ _ _ _ _ hw _ _ _ => False.elim hw
  | succ n ih =>
    intro v1 v2 v3 v4 M H locs ls hw hP hS hl
    have hw : f_X6_errorOn_5 Q (p_X6_errorOn Q n) v1 v2 v3 v4 M := hw
    delta f_X6_errorOn_5 at hw
    refine lv_iload hx hb dX6_errorOn_5 (lv_at hl 4 rfl) ?_
    refine lv_aload_n hx hb dX6_errorOn_7 rfl (lv_at hl 0 rfl) ?_
    refine g_f C hP (by decide) (sM_0 K _) rfl hX6_errorOn_X6 0 (by decide) kX6_errorOn_f7 rfl dX6_errorOn_8 ?_
    refine lv_iload_n hx hb dX6_errorOn_11 rfl (lv_at hl 1 rfl) ?_
    refine lv_bipush hx hb dX6_errorOn_12 bp_20 ?_
    refine lv_iadd hx hb dX6_errorOn_14 ?_
    have hi_1 := hw.1
    have hw := hw.2
    refine a_il C hP (by decide) (sM_1 K _) hi_1 rfl dX6_errorOn_15 ?_
    refine lv_icmp_ge (tgt := 48) hx hb dX6_errorOn_16 (by decide) (fun hc => ?_) (fun hc => ?_)
    · have hw := hw.1 hc
      refine lv_iload_n hx hb dX6_errorOn_48 rfl (lv_at hl 3 rfl) ?_
      refine lv_aload_n hx hb dX6_errorOn_49 rfl (lv_at hl 0 rfl) ?_
      refine lv_iload_n hx hb dX6_errorOn_50 rfl (lv_at hl 1 rfl) ?_
      refine c_i (run_v (As := [.int v1]) (rest := [.int v3]) C hP hS (c_X6_areaOn hw) gX6_errorOn_X6_areaOn rfl dsX6_areaOn rfl ⟨rfl, rfl⟩ ⟨Nat.le_of_ble_eq_true rfl, Nat.le_of_ble_eq_true rfl⟩ (by decide) (sM_0 K _) rfl hl.1 rfl (Nat.le_of_ble_eq_true rfl) dX6_errorOn_51 ⟨Nat.le_of_ble_eq_true rfl, Nat.le_of_ble_eq_true rfl⟩) hS (fun r_3 M_2 H locs hw hP hS => ?_)
      refine lv_isub hx hb dX6_errorOn_54 ?_
      refine c_i (run_s (As := [.int (v3 - r_3)]) (rest := []) C hP hS (c_X6_amount hw) gX6_errorOn_X6_amount rfl dsX6_amount rfl ⟨rfl, rfl⟩ ⟨Nat.le_of_ble_eq_true rfl, Nat.le_of_ble_eq_true rfl⟩ hl.1 rfl (Nat.le_of_ble_eq_true rfl) dX6_errorOn_55 ⟨Nat.le_of_ble_eq_true rfl, Nat.le_of_ble_eq_true rfl⟩) hS (fun r_5 M_4 H locs hw hP hS => ?_)
      exact r_i C hP hS hw dX6_errorOn_58
    · have hw := hw.2 hc
      refine lv_iload_n hx hb dX6_errorOn_19 rfl (lv_at hl 3 rfl) ?_
      refine lv_aload_n hx hb dX6_errorOn_20 rfl (lv_at hl 0 rfl) ?_
      refine lv_iload_n hx hb dX6_errorOn_21 rfl (lv_at hl 1 rfl) ?_
      refine lv_iload_n hx hb dX6_errorOn_22 rfl (lv_at hl 2 rfl) ?_
      refine lv_aload_n hx hb dX6_errorOn_23 rfl (lv_at hl 0 rfl) ?_
      refine lv_iload_n hx hb dX6_errorOn_24 rfl (lv_at hl 1 rfl) ?_
      refine lv_iload hx hb dX6_errorOn_25 (lv_at hl 4 rfl) ?_
      refine lv_aload_n hx hb dX6_errorOn_27 rfl (lv_at hl 0 rfl) ?_
      refine lv_iload_n hx hb dX6_errorOn_28 rfl (lv_at hl 1 rfl) ?_
      refine lv_iload hx hb dX6_errorOn_29 (lv_at hl 4 rfl) ?_
      refine c_i (run_v (As := [.int v1, .int v4]) (rest := [.int v4, .int v1, .ref (kb K + 0), .int v2, .int v1, .ref (kb K + 0), .int v3]) C hP hS (c_X6_behindOn hw) gX6_errorOn_X6_behindOn rfl dsX6_behindOn rfl ⟨rfl, rfl⟩ ⟨Nat.le_of_ble_eq_true rfl, Nat.le_of_ble_eq_true rfl⟩ (by decide) (sM_0 K _) rfl hl.1 rfl (Nat.le_of_ble_eq_true rfl) dX6_errorOn_31 ⟨Nat.le_of_ble_eq_true rfl, Nat.le_of_ble_eq_true rfl⟩) hS (fun r_7 M_6 H locs hw hP hS => ?_)
      refine c_i (run_v (As := [.int v1, .int v4, .int r_7]) (rest := [.int v2, .int v1, .ref (kb K + 0), .int v3]) C hP hS (c_X6_sweepOn hw) gX6_errorOn_X6_sweepOn rfl dsX6_sweepOn rfl ⟨rfl, rfl⟩ ⟨Nat.le_of_ble_eq_true rfl, Nat.le_of_ble_eq_true rfl⟩ (by decide) (sM_0 K _) rfl hl.1 rfl (Nat.le_of_ble_eq_true rfl) dX6_errorOn_34 ⟨Nat.le_of_ble_eq_true rfl, Nat.le_of_ble_eq_true rfl⟩) hS (fun r_9 M_8 H locs hw hP hS => ?_)
      refine c_i (run_v (As := [.int v1, .int v2, .int r_9]) (rest := [.int v3]) C hP hS (c_X6_rollsOn hw) gX6_errorOn_X6_rollsOn rfl dsX6_rollsOn rfl ⟨rfl, rfl⟩ ⟨Nat.le_of_ble_eq_true rfl, Nat.le_of_ble_eq_true rfl⟩ (by decide) (sM_0 K _) rfl hl.1 rfl (Nat.le_of_ble_eq_true rfl) dX6_errorOn_37 ⟨Nat.le_of_ble_eq_true rfl, Nat.le_of_ble_eq_true rfl⟩) hS (fun r_11 M_10 H locs hw hP hS => ?_)
      refine lv_iadd hx hb dX6_errorOn_40 ?_
      refine lv_istore_n (lv' := [(3, .int (v3 + r_11)), (0, .ref (kb K + 0)), (1, .int v1), (2, .int v2), (4, .int v4)]) hx hb dX6_errorOn_41 rfl hl (by decide) rfl (fun ls hl => ?_)
      refine lv_iinc (v := (v4 + 1)) (lv' := [(4, .int (v4 + 1)), (3, .int (v3 + r_11)), (0, .ref (kb K + 0)), (1, .int v1), (2, .int v2)]) hx hb dX6_errorOn_42 hl (k := 4) rfl (by rw [ic_1]) (by decide) rfl (fun ls hl => ?_)
      refine lv_goto (tgt := 5) hx hb dX6_errorOn_45 (by decide) ?_
      exact ih _ _ _ _ _ _ _ _ hw hP hS (lv_sub hl [2, 3, 4, 1, 0] rfl)
theorem dsX6_errorOn : yX6_errorOn.cls = RX6 ∧ yX6_errorOn.cls ≠ "java/lang/invoke/MethodHandle" ∧ yX6_errorOn.cls ≠ "java/lang/invoke/VarHandle" ∧ (parseMethodDescriptor yX6_errorOn.desc).map (fun d => d.parameters.length) = some 2 := by decide +kernel
set_option maxRecDepth 100000 in
set_option maxHeartbeats 4000000 in
theorem c_X6_errorOn {l : Launch} {K : wC} {v1 : Int32} {v2 : Int32} {M : Mem} {Q : Int32 → Mem → Prop} (hw : q_X6_errorOn v1 v2 M Q) : metI l yX6_errorOn wsX6_errorOn rmX6_errorOn shM 12 K [.ref (kb K + 0), .int v1, .int v2] M Q := by
  refine met_of (cc := cX6_errorOn) (maxL := 5) (ret := (some .int)) (own := RX6) (by decide) rfl rfl (Nat.le_of_ble_eq_true rfl) ?_
  intro p e s m below meth c ls C hl hP hS
  have hl : lv_has ls 5 [(0, .ref (kb K + 0)), (1, .int v1), (2, .int v2)] := hl
  obtain ⟨hx, hb, hml, hown, hts, hr, hlk, hK⟩ := id C
  have hP0 := hP
  obtain ⟨n, hw⟩ := hw
  have ih := b_X6_errorOn (l := l) (e := e) (below := below) (Q := Q) C n
  delta e_X6_errorOn at hw
  refine lv_iconst hx hb dX6_errorOn_0 ic_0 ?_
  refine lv_istore_n (lv' := [(3, .int (0 : Int32)), (0, .ref (kb K + 0)), (1, .int v1), (2, .int v2)]) hx hb dX6_errorOn_1 rfl hl (by decide) rfl (fun ls hl => ?_)
  refine lv_iconst hx hb dX6_errorOn_2 ic_0 ?_
  refine lv_istore (lv' := [(4, .int (0 : Int32)), (3, .int (0 : Int32)), (0, .ref (kb K + 0)), (1, .int v1), (2, .int v2)]) hx hb dX6_errorOn_3 hl (by decide) rfl (fun ls hl => ?_)
  exact ih _ _ _ _ _ _ _ _ hw hP hS (lv_sub hl [2, 3, 4, 1, 0] rfl)

theorem kX6_starts_f144 : Cond.fieldLink RX6 144 (TX6 15).1 (TX6 15).2.1 (TX6 15).2.2.1 ∈ wsX6_starts := List.mem_of_getElem? (i := 1) rfl
theorem hX6_starts_X6 : ∀ w ∈ u_ws RX6 TX6 26, w ∈ wsX6_starts := fun _ h => List.mem_cons_of_mem _ (List.mem_append_right _ (h))
theorem kX6_starts_f147 : Cond.fieldLink RX6 147 (TX6 16).1 (TX6 16).2.1 (TX6 16).2.2.1 ∈ wsX6_starts := List.mem_of_getElem? (i := 2) rfl
theorem kX6_starts_c150 : Cond.constant RX6 150 (-1000000) ∈ wsX6_starts := List.mem_of_getElem? (i := 3) rfl
theorem kX6_starts_f151 : Cond.fieldLink RX6 151 (TX6 17).1 (TX6 17).2.1 (TX6 17).2.2.1 ∈ wsX6_starts := List.mem_of_getElem? (i := 4) rfl
abbrev rmX6_starts : Room := { frames := 0, cells := 0, slots := 0, locals := 0 }
def q_X6_starts (M : Mem) (Q : Mem → Prop) : Prop := ∀ M_1 : Mem, M_1 = mU (mU (mU M 0 15 (0 : Int32)) 0 16 (0 : Int32)) 0 17 (-1000000 : Int32) → Q M_1
theorem dsX6_starts : yX6_starts.cls = RX6 ∧ yX6_starts.cls ≠ "java/lang/invoke/MethodHandle" ∧ yX6_starts.cls ≠ "java/lang/invoke/VarHandle" ∧ (parseMethodDescriptor yX6_starts.desc).map (fun d => d.parameters.length) = some 0 := by decide +kernel
set_option maxRecDepth 100000 in
set_option maxHeartbeats 4000000 in
theorem c_X6_starts {l : Launch} {K : wC} {M : Mem} {Q : Mem → Prop} (hw : q_X6_starts M Q) : metV l yX6_starts wsX6_starts rmX6_starts shM 12 K [.ref (kb K + 0)] M Q := by
  refine met_of (cc := cX6_starts) (maxL := 1) (ret := none) (own := RX6) (by decide) rfl rfl (Nat.le_of_ble_eq_true rfl) ?_
  intro p e s m below meth c ls C hl hP hS
  have hl : lv_has ls 1 [(0, .ref (kb K + 0))] := hl
  obtain ⟨hx, hb, hml, hown, hts, hr, hlk, hK⟩ := id C
  have hP0 := hP
  delta q_X6_starts at hw
  refine lv_aload_n hx hb dX6_starts_0 rfl (lv_at hl 0 rfl) ?_
  refine lv_iconst hx hb dX6_starts_1 ic_0 ?_
  refine p_f C hP hS (by decide) (sM_0 K _) (sM_0 K _) rfl hX6_starts_X6 tyX6_ok nmX6 (by decide) kX6_starts_f144 rfl rfl rfl (Nat.le_of_ble_eq_true rfl) dX6_starts_2 (fun H locs hP hS => ?_)
  refine lv_aload_n hx hb dX6_starts_5 rfl (lv_at hl 0 rfl) ?_
  refine lv_iconst hx hb dX6_starts_6 ic_0 ?_
  refine p_f C hP hS (by decide) (sM_0 K _) (sM_0 K _) rfl hX6_starts_X6 tyX6_ok nmX6 (by decide) kX6_starts_f147 rfl rfl rfl (Nat.le_of_ble_eq_true rfl) dX6_starts_7 (fun H locs hP hS => ?_)
  refine lv_aload_n hx hb dX6_starts_10 rfl (lv_at hl 0 rfl) ?_
  refine lv_ldc hx hb hown (hts _ kX6_starts_c150) dX6_starts_11 ?_
  refine p_f C hP hS (by decide) (sM_0 K _) (sM_0 K _) rfl hX6_starts_X6 tyX6_ok nmX6 (by decide) kX6_starts_f151 rfl rfl rfl (Nat.le_of_ble_eq_true rfl) dX6_starts_13 (fun H locs hP hS => ?_)
  obtain ⟨M_1, eM_1⟩ : ∃ z : Mem, z = mU (mU (mU M 0 15 (0 : Int32)) 0 16 (0 : Int32)) 0 17 (-1000000 : Int32) := ⟨_, rfl⟩
  rw [← eM_1] at hP
  have hw := hw M_1 eM_1
  exact r_v C hP hS hw dX6_starts_16

theorem kX6_edgeOn_f7 : Cond.fieldLink RX6 7 (TX6 0).1 (TX6 0).2.1 (TX6 0).2.2.1 ∈ wsX6_edgeOn := List.mem_of_getElem? (i := 1) rfl
theorem hX6_edgeOn_X6 : ∀ w ∈ u_ws RX6 TX6 26, w ∈ wsX6_edgeOn := fun _ h => List.mem_cons_of_mem _ (List.mem_append_right _ (h))
theorem kX6_edgeOn_f147 : Cond.fieldLink RX6 147 (TX6 16).1 (TX6 16).2.1 (TX6 16).2.2.1 ∈ wsX6_edgeOn := List.mem_of_getElem? (i := 3) rfl
theorem kX6_edgeOn_f144 : Cond.fieldLink RX6 144 (TX6 15).1 (TX6 15).2.1 (TX6 15).2.2.1 ∈ wsX6_edgeOn := List.mem_of_getElem? (i := 2) rfl
theorem kX6_edgeOn_f151 : Cond.fieldLink RX6 151 (TX6 17).1 (TX6 17).2.1 (TX6 17).2.2.1 ∈ wsX6_edgeOn := List.mem_of_getElem? (i := 4) rfl
abbrev rmX6_edgeOn : Room := { frames := 2, cells := 0, slots := 0, locals := 46 }
abbrev t_X6_edgeOn : Type := (Int32 → Int32 → Int32 → Int32 → Mem → Prop) × (Int32 → Int32 → Int32 → Mem → Prop) × (Int32 → Int32 → Int32 → Int32 → Mem → Prop) × (Int32 → Int32 → Int32 → Mem → Prop) × (Int32 → Mem → Prop)
def f_X6_edgeOn_19 (Q : Mem → Prop) (r : t_X6_edgeOn) (v1 : Int32) (v3 : Int32) (v4 : Int32) (v5 : Int32) (M : Mem) : Prop := vp_in (v1 + (35 : Int32)) 222 ∧ (((M 1 (v1 + (35 : Int32)).toNatClampNeg) ≤ v5 → ((v4 = 0 → r.2.2.2.1 v3 (0 : Int32) (M 0 16) M) ∧ (¬ v4 = 0 → r.2.2.2.1 v3 (1 : Int32) (M 0 16) M))) ∧ (¬ (M 1 (v1 + (35 : Int32)).toNatClampNeg) ≤ v5 → q_X6_rollsOn v1 v5 v3 M (fun r_7 M_6 => vp_in ((v1 + (31 : Int32)) + v5) 222 ∧ vp_in ((v1 + (31 : Int32)) + v5) 222 ∧ (∀ M_10 : Mem, M_10 = mU M_6 1 ((v1 + (31 : Int32)) + v5).toNatClampNeg ((M_6 1 ((v1 + (31 : Int32)) + v5).toNatClampNeg) + r_7) → q_X6_amount r_7 M_10 (fun r_12 M_11 => ((¬ v4 = 0 → r.2.1 v1 v3 v5 (mU M_11 0 15 ((M_10 0 15) + r_12))) ∧ (v4 = 0 → ((¬ r_7 = 0 → r.2.2.1 v1 v3 v5 (0 : Int32) (mU M_11 0 15 ((M_10 0 15) + r_12))) ∧ (r_7 = 0 → r.2.1 v1 v3 v5 (mU M_11 0 15 ((M_10 0 15) + r_12)))))))))))
def f_X6_edgeOn_84 (Q : Mem → Prop) (r : t_X6_edgeOn) (v1 : Int32) (v3 : Int32) (v5 : Int32) (M : Mem) : Prop := r.2.2.1 v1 v3 v5 (1 : Int32) M
def f_X6_edgeOn_89 (Q : Mem → Prop) (r : t_X6_edgeOn) (v1 : Int32) (v3 : Int32) (v5 : Int32) (s0 : Int32) (M : Mem) : Prop := r.1 v1 v3 s0 (v5 + 1) M
def f_X6_edgeOn_112 (Q : Mem → Prop) (r : t_X6_edgeOn) (v3 : Int32) (s0 : Int32) (s1 : Int32) (M : Mem) : Prop := ((v3 ≤ ((mU M 0 16 (s1 + s0)) 0 17) → r.2.2.2.2 ((mU M 0 16 (s1 + s0)) 0 17) (mU M 0 16 (s1 + s0))) ∧ (¬ v3 ≤ ((mU M 0 16 (s1 + s0)) 0 17) → r.2.2.2.2 v3 (mU M 0 16 (s1 + s0))))
def f_X6_edgeOn_133 (Q : Mem → Prop) (r : t_X6_edgeOn) (s0 : Int32) (M : Mem) : Prop := Q (mU M 0 17 s0)
def p_X6_edgeOn (Q : Mem → Prop) : Nat → t_X6_edgeOn
  | 0 => (fun _ _ _ _ _ => False, fun _ _ _ _ => False, fun _ _ _ _ _ => False, fun _ _ _ _ => False, fun _ _ => False)
  | n + 1 => (f_X6_edgeOn_19 Q (p_X6_edgeOn Q n), f_X6_edgeOn_84 Q (p_X6_edgeOn Q n), f_X6_edgeOn_89 Q (p_X6_edgeOn Q n), f_X6_edgeOn_112 Q (p_X6_edgeOn Q n), f_X6_edgeOn_133 Q (p_X6_edgeOn Q n))
def e_X6_edgeOn (v1 : Int32) (v2 : Int32) (Q : Mem → Prop) (r : t_X6_edgeOn) (M : Mem) : Prop := q_X6_behindOn v1 v2 M (fun r_2 M_1 => q_X6_sweepOn v1 v2 r_2 M_1 (fun r_4 M_3 => r.1 v1 r_4 (0 : Int32) (0 : Int32) M_3))
def q_X6_edgeOn (v1 : Int32) (v2 : Int32) (M : Mem) (Q : Mem → Prop) : Prop := ∃ n : Nat, e_X6_edgeOn v1 v2 Q (p_X6_edgeOn Q n) M
set_option maxRecDepth 100000 in
set_option maxHeartbeats 4000000 in
theorem b_X6_edgeOn {l : Launch} {K : wC} {Q : Mem → Prop} {p : Program} {e : Env} {s : State} {m : MethodId} {args : Array Value} {below : List Frame} {meth : Method} {c : Code} (C : cx 12 K p s m args meth c cX6_edgeOn 7 wsX6_edgeOn RX6 none) : ∀ n : Nat, (∀ (v1 : Int32) (v3 : Int32) (v4 : Int32) (v5 : Int32) (M : Mem) (H : Heap) (locs : List Loc) (ls : Array Slot), (p_X6_edgeOn Q n).1 v1 v3 v4 v5 M → wP shM 12 K M H → va_S (wA 12 K) s.heap H locs → lv_has ls 7 [(0, .ref (kb K + 0)), (1, .int v1), (3, .int v3), (4, .int v4), (5, .int v5)] → W p l e rmX6_edgeOn s m args below meth c H locs 0 0 (MQ below (va_Qv Q (wE shM 12 K) (wA 12 K)) args s 0 0 (wA 12 K)) (F0 m 19 ls [])) ∧ (∀ (v1 : Int32) (v3 : Int32) (v5 : Int32) (M : Mem) (H : Heap) (locs : List Loc) (ls : Array Slot), (p_X6_edgeOn Q n).2.1 v1 v3 v5 M → wP shM 12 K M H → va_S (wA 12 K) s.heap H locs → lv_has ls 7 [(0, .ref (kb K + 0)), (1, .int v1), (3, .int v3), (5, .int v5)] → W p l e rmX6_edgeOn s m args below meth c H locs 0 0 (MQ below (va_Qv Q (wE shM 12 K) (wA 12 K)) args s 0 0 (wA 12 K)) (F0 m 84 ls [])) ∧ (∀ (v1 : Int32) (v3 : Int32) (v5 : Int32) (s0 : Int32) (M : Mem) (H : Heap) (locs : List Loc) (ls : Array Slot), (p_X6_edgeOn Q n).2.2.1 v1 v3 v5 s0 M → wP shM 12 K M H → va_S (wA 12 K) s.heap H locs → lv_has ls 7 [(0, .ref (kb K + 0)), (1, .int v1), (3, .int v3), (5, .int v5)] → W p l e rmX6_edgeOn s m args below meth c H locs 0 0 (MQ below (va_Qv Q (wE shM 12 K) (wA 12 K)) args s 0 0 (wA 12 K)) (F0 m 89 ls [.int s0])) ∧ (∀ (v3 : Int32) (s0 : Int32) (s1 : Int32) (M : Mem) (H : Heap) (locs : List Loc) (ls : Array Slot), (p_X6_edgeOn Q n).2.2.2.1 v3 s0 s1 M → wP shM 12 K M H → va_S (wA 12 K) s.heap H locs → lv_has ls 7 [(0, .ref (kb K + 0)), (3, .int v3)] → W p l e rmX6_edgeOn s m args below meth c H locs 0 0 (MQ below (va_Qv Q (wE shM 12 K) (wA 12 K)) args s 0 0 (wA 12 K)) (F0 m 112 ls [.int s0, .int s1, .ref (kb K + 0)])) ∧ (∀ (s0 : Int32) (M : Mem) (H : Heap) (locs : List Loc) (ls : Array Slot), (p_X6_edgeOn Q n).2.2.2.2 s0 M → wP shM 12 K M H → va_S (wA 12 K) s.heap H locs → lv_has ls 7 [] → W p l e rmX6_edgeOn s m args below meth c H locs 0 0 (MQ below (va_Qv Q (wE shM 12 K) (wA 12 K)) args s 0 0 (wA 12 K)) (F0 m 133 ls [.int s0, .ref (kb K + 0)])) := by
  obtain ⟨hx, hb, hml, hown, hts, hr, hlk, hK⟩ := id C
  intro n
  induction n with
  | zero => exact ⟨fun _ _ _ _ _ _ _ _ hw _ _ _ => False.elim hw, fun _ _ _ _ _ _ _ hw _ _ _ => False.elim hw, fun _ _ _ _ _ _ _ _ hw _ _ _ => False.elim hw, fun _ _ _ _ _ _ _ hw _ _ _ => False.elim hw, fun _ _ _ _ _ hw _ _ _ => False.elim hw⟩
  | succ n ih =>
    refine ⟨?_, ?_, ?_, ?_, ?_⟩
    · intro v1 v3 v4 v5 M H locs ls hw hP hS hl
      have hw : f_X6_edgeOn_19 Q (p_X6_edgeOn Q n) v1 v3 v4 v5 M := hw
      delta f_X6_edgeOn_19 at hw
      refine lv_iload hx hb dX6_edgeOn_19 (lv_at hl 4 rfl) ?_
      refine lv_aload_n hx hb dX6_edgeOn_21 rfl (lv_at hl 0 rfl) ?_
      refine g_f C hP (by decide) (sM_0 K _) rfl hX6_edgeOn_X6 0 (by decide) kX6_edgeOn_f7 rfl dX6_edgeOn_22 ?_
      refine lv_iload_n hx hb dX6_edgeOn_25 rfl (lv_at hl 1 rfl) ?_
      refine lv_bipush hx hb dX6_edgeOn_26 bp_35 ?_
      refine lv_iadd hx hb dX6_edgeOn_28 ?_
      have hi_5 := hw.1
      have hw := hw.2
      refine a_il C hP (by decide) (sM_1 K _) hi_5 rfl dX6_edgeOn_29 ?_
      refine lv_icmp_ge (tgt := 97) hx hb dX6_edgeOn_30 (by decide) (fun hc => ?_) (fun hc => ?_)
      · have hw := hw.1 hc
        refine lv_aload_n hx hb dX6_edgeOn_97 rfl (lv_at hl 0 rfl) ?_
        refine lv_dup hx hb dX6_edgeOn_98 rfl ?_
        refine g_f C hP (by decide) (sM_0 K _) rfl hX6_edgeOn_X6 16 (by decide) kX6_edgeOn_f147 rfl dX6_edgeOn_99 ?_
        refine lv_iload hx hb dX6_edgeOn_102 (lv_at hl 3 rfl) ?_
        refine lv_if_eq (tgt := 111) hx hb dX6_edgeOn_104 (by decide) (fun hc => ?_) (fun hc => ?_)
        · have hw := hw.1 hc
          refine lv_iconst hx hb dX6_edgeOn_111 ic_0 ?_
          exact ih.2.2.2.1 _ _ _ _ _ _ _ hw hP hS (lv_sub hl [0, 2] rfl)
        · have hw := hw.2 hc
          refine lv_iconst hx hb dX6_edgeOn_107 ic_1 ?_
          refine lv_goto (tgt := 112) hx hb dX6_edgeOn_108 (by decide) ?_
          exact ih.2.2.2.1 _ _ _ _ _ _ _ hw hP hS (lv_sub hl [0, 2] rfl)
      · have hw := hw.2 hc
        refine lv_aload_n hx hb dX6_edgeOn_33 rfl (lv_at hl 0 rfl) ?_
        refine lv_iload_n hx hb dX6_edgeOn_34 rfl (lv_at hl 1 rfl) ?_
        refine lv_iload hx hb dX6_edgeOn_35 (lv_at hl 4 rfl) ?_
        refine lv_iload_n hx hb dX6_edgeOn_37 rfl (lv_at hl 2 rfl) ?_
        refine c_i (run_v (As := [.int v1, .int v5, .int v3]) (rest := []) C hP hS (c_X6_rollsOn hw) gX6_edgeOn_X6_rollsOn rfl dsX6_rollsOn rfl ⟨rfl, rfl⟩ ⟨Nat.le_of_ble_eq_true rfl, Nat.le_of_ble_eq_true rfl⟩ (by decide) (sM_0 K _) rfl hl.1 rfl (Nat.le_of_ble_eq_true rfl) dX6_edgeOn_38 ⟨Nat.le_of_ble_eq_true rfl, Nat.le_of_ble_eq_true rfl⟩) hS (fun r_7 M_6 H locs hw hP hS => ?_)
        refine lv_istore (lv' := [(6, .int r_7), (0, .ref (kb K + 0)), (1, .int v1), (3, .int v3), (4, .int v4), (5, .int v5)]) hx hb dX6_edgeOn_41 hl (by decide) rfl (fun ls hl => ?_)
        refine lv_aload_n hx hb dX6_edgeOn_43 rfl (lv_at hl 1 rfl) ?_
        refine g_f C hP (by decide) (sM_0 K _) rfl hX6_edgeOn_X6 0 (by decide) kX6_edgeOn_f7 rfl dX6_edgeOn_44 ?_
        refine lv_iload_n hx hb dX6_edgeOn_47 rfl (lv_at hl 2 rfl) ?_
        refine lv_bipush hx hb dX6_edgeOn_48 bp_31 ?_
        refine lv_iadd hx hb dX6_edgeOn_50 ?_
        refine lv_iload hx hb dX6_edgeOn_51 (lv_at hl 5 rfl) ?_
        refine lv_iadd hx hb dX6_edgeOn_53 ?_
        refine lv_dup2_11 hx hb dX6_edgeOn_54 rfl rfl ?_
        have hi_8 := hw.1
        have hw := hw.2
        refine a_il C hP (by decide) (sM_1 K _) hi_8 rfl dX6_edgeOn_55 ?_
        refine lv_iload hx hb dX6_edgeOn_56 (lv_at hl 0 rfl) ?_
        refine lv_iadd hx hb dX6_edgeOn_58 ?_
        have hi_9 := hw.1
        have hw := hw.2
        refine a_is C hP hS (by decide) (sM_1 K) hi_9 rfl dX6_edgeOn_59 (fun H locs hP hS => ?_)
        obtain ⟨M_10, eM_10⟩ : ∃ z : Mem, z = mU M_6 1 ((v1 + (31 : Int32)) + v5).toNatClampNeg ((M_6 1 ((v1 + (31 : Int32)) + v5).toNatClampNeg) + r_7) := ⟨_, rfl⟩
        rw [← eM_10] at hP
        have hw := hw M_10 eM_10
        refine lv_aload_n hx hb dX6_edgeOn_60 rfl (lv_at hl 1 rfl) ?_
        refine lv_dup hx hb dX6_edgeOn_61 rfl ?_
        refine g_f C hP (by decide) (sM_0 K _) rfl hX6_edgeOn_X6 15 (by decide) kX6_edgeOn_f144 rfl dX6_edgeOn_62 ?_
        refine lv_iload hx hb dX6_edgeOn_65 (lv_at hl 0 rfl) ?_
        refine c_i (run_s (As := [.int r_7]) (rest := [.int (M_10 0 15), .ref (kb K + 0)]) C hP hS (c_X6_amount hw) gX6_edgeOn_X6_amount rfl dsX6_amount rfl ⟨rfl, rfl⟩ ⟨Nat.le_of_ble_eq_true rfl, Nat.le_of_ble_eq_true rfl⟩ hl.1 rfl (Nat.le_of_ble_eq_true rfl) dX6_edgeOn_67 ⟨Nat.le_of_ble_eq_true rfl, Nat.le_of_ble_eq_true rfl⟩) hS (fun r_12 M_11 H locs hw hP hS => ?_)
        refine lv_iadd hx hb dX6_edgeOn_70 ?_
        refine p_f C hP hS (by decide) (sM_0 K _) (sM_0 K _) rfl hX6_edgeOn_X6 tyX6_ok nmX6 (by decide) kX6_edgeOn_f144 rfl rfl rfl (Nat.le_of_ble_eq_true rfl) dX6_edgeOn_71 (fun H locs hP hS => ?_)
        refine lv_iload hx hb dX6_edgeOn_74 (lv_at hl 4 rfl) ?_
        refine lv_if_ne (tgt := 84) hx hb dX6_edgeOn_76 (by decide) (fun hc => ?_) (fun hc => ?_)
        · have hw := hw.1 hc
          exact ih.2.1 _ _ _ _ _ _ _ hw hP hS (lv_sub hl [1, 2, 3, 5] rfl)
        · have hw := hw.2 hc
          refine lv_iload hx hb dX6_edgeOn_79 (lv_at hl 0 rfl) ?_
          refine lv_if_ne (tgt := 88) hx hb dX6_edgeOn_81 (by decide) (fun hc => ?_) (fun hc => ?_)
          · have hw := hw.1 hc
            refine lv_iconst hx hb dX6_edgeOn_88 ic_0 ?_
            exact ih.2.2.1 _ _ _ _ _ _ _ _ hw hP hS (lv_sub hl [1, 2, 3, 5] rfl)
          · have hw := hw.2 hc
            exact ih.2.1 _ _ _ _ _ _ _ hw hP hS (lv_sub hl [1, 2, 3, 5] rfl)
    · intro v1 v3 v5 M H locs ls hw hP hS hl
      have hw : f_X6_edgeOn_84 Q (p_X6_edgeOn Q n) v1 v3 v5 M := hw
      delta f_X6_edgeOn_84 at hw
      refine lv_iconst hx hb dX6_edgeOn_84 ic_1 ?_
      refine lv_goto (tgt := 89) hx hb dX6_edgeOn_85 (by decide) ?_
      exact ih.2.2.1 _ _ _ _ _ _ _ _ hw hP hS (lv_sub hl [0, 1, 2, 3] rfl)
    · intro v1 v3 v5 s0 M H locs ls hw hP hS hl
      have hw : f_X6_edgeOn_89 Q (p_X6_edgeOn Q n) v1 v3 v5 s0 M := hw
      delta f_X6_edgeOn_89 at hw
      refine lv_istore (lv' := [(4, .int s0), (0, .ref (kb K + 0)), (1, .int v1), (3, .int v3), (5, .int v5)]) hx hb dX6_edgeOn_89 hl (by decide) rfl (fun ls hl => ?_)
      refine lv_iinc (v := (v5 + 1)) (lv' := [(5, .int (v5 + 1)), (4, .int s0), (0, .ref (kb K + 0)), (1, .int v1), (3, .int v3)]) hx hb dX6_edgeOn_91 hl (k := 4) rfl (by rw [ic_1]) (by decide) rfl (fun ls hl => ?_)
      refine lv_goto (tgt := 19) hx hb dX6_edgeOn_94 (by decide) ?_
      exact ih.1 _ _ _ _ _ _ _ _ hw hP hS (lv_sub hl [2, 3, 4, 1, 0] rfl)
    · intro v3 s0 s1 M H locs ls hw hP hS hl
      have hw : f_X6_edgeOn_112 Q (p_X6_edgeOn Q n) v3 s0 s1 M := hw
      delta f_X6_edgeOn_112 at hw
      refine lv_iadd hx hb dX6_edgeOn_112 ?_
      refine p_f C hP hS (by decide) (sM_0 K _) (sM_0 K _) rfl hX6_edgeOn_X6 tyX6_ok nmX6 (by decide) kX6_edgeOn_f147 rfl rfl rfl (Nat.le_of_ble_eq_true rfl) dX6_edgeOn_113 (fun H locs hP hS => ?_)
      refine lv_aload_n hx hb dX6_edgeOn_116 rfl (lv_at hl 0 rfl) ?_
      refine lv_iload_n hx hb dX6_edgeOn_117 rfl (lv_at hl 1 rfl) ?_
      refine lv_aload_n hx hb dX6_edgeOn_118 rfl (lv_at hl 0 rfl) ?_
      refine g_f C hP (by decide) (sM_0 K _) rfl hX6_edgeOn_X6 17 (by decide) kX6_edgeOn_f151 rfl dX6_edgeOn_119 ?_
      refine lv_icmp_le (tgt := 129) hx hb dX6_edgeOn_122 (by decide) (fun hc => ?_) (fun hc => ?_)
      · have hw := hw.1 hc
        refine lv_aload_n hx hb dX6_edgeOn_129 rfl (lv_at hl 0 rfl) ?_
        refine g_f C hP (by decide) (sM_0 K _) rfl hX6_edgeOn_X6 17 (by decide) kX6_edgeOn_f151 rfl dX6_edgeOn_130 ?_
        exact ih.2.2.2.2 _ _ _ _ _ hw hP hS (lv_sub hl [] rfl)
      · have hw := hw.2 hc
        refine lv_iload_n hx hb dX6_edgeOn_125 rfl (lv_at hl 1 rfl) ?_
        refine lv_goto (tgt := 133) hx hb dX6_edgeOn_126 (by decide) ?_
        exact ih.2.2.2.2 _ _ _ _ _ hw hP hS (lv_sub hl [] rfl)
    · intro s0 M H locs ls hw hP hS hl
      have hw : f_X6_edgeOn_133 Q (p_X6_edgeOn Q n) s0 M := hw
      delta f_X6_edgeOn_133 at hw
      refine p_f C hP hS (by decide) (sM_0 K _) (sM_0 K _) rfl hX6_edgeOn_X6 tyX6_ok nmX6 (by decide) kX6_edgeOn_f151 rfl rfl rfl (Nat.le_of_ble_eq_true rfl) dX6_edgeOn_133 (fun H locs hP hS => ?_)
      exact r_v C hP hS hw dX6_edgeOn_136
theorem dsX6_edgeOn : yX6_edgeOn.cls = RX6 ∧ yX6_edgeOn.cls ≠ "java/lang/invoke/MethodHandle" ∧ yX6_edgeOn.cls ≠ "java/lang/invoke/VarHandle" ∧ (parseMethodDescriptor yX6_edgeOn.desc).map (fun d => d.parameters.length) = some 2 := by decide +kernel
set_option maxRecDepth 100000 in
set_option maxHeartbeats 4000000 in
theorem c_X6_edgeOn {l : Launch} {K : wC} {v1 : Int32} {v2 : Int32} {M : Mem} {Q : Mem → Prop} (hw : q_X6_edgeOn v1 v2 M Q) : metV l yX6_edgeOn wsX6_edgeOn rmX6_edgeOn shM 12 K [.ref (kb K + 0), .int v1, .int v2] M Q := by
  refine met_of (cc := cX6_edgeOn) (maxL := 7) (ret := none) (own := RX6) (by decide) rfl rfl (Nat.le_of_ble_eq_true rfl) ?_
  intro p e s m below meth c ls C hl hP hS
  have hl : lv_has ls 7 [(0, .ref (kb K + 0)), (1, .int v1), (2, .int v2)] := hl
  obtain ⟨hx, hb, hml, hown, hts, hr, hlk, hK⟩ := id C
  have hP0 := hP
  obtain ⟨n, hw⟩ := hw
  have ih := b_X6_edgeOn (l := l) (e := e) (below := below) (Q := Q) C n
  delta e_X6_edgeOn at hw
  refine lv_aload_n hx hb dX6_edgeOn_0 rfl (lv_at hl 0 rfl) ?_
  refine lv_iload_n hx hb dX6_edgeOn_1 rfl (lv_at hl 1 rfl) ?_
  refine lv_iload_n hx hb dX6_edgeOn_2 rfl (lv_at hl 2 rfl) ?_
  refine lv_aload_n hx hb dX6_edgeOn_3 rfl (lv_at hl 0 rfl) ?_
  refine lv_iload_n hx hb dX6_edgeOn_4 rfl (lv_at hl 1 rfl) ?_
  refine lv_iload_n hx hb dX6_edgeOn_5 rfl (lv_at hl 2 rfl) ?_
  refine c_i (run_v (As := [.int v1, .int v2]) (rest := [.int v2, .int v1, .ref (kb K + 0)]) C hP hS (c_X6_behindOn hw) gX6_edgeOn_X6_behindOn rfl dsX6_behindOn rfl ⟨rfl, rfl⟩ ⟨Nat.le_of_ble_eq_true rfl, Nat.le_of_ble_eq_true rfl⟩ (by decide) (sM_0 K _) rfl hl.1 rfl (Nat.le_of_ble_eq_true rfl) dX6_edgeOn_6 ⟨Nat.le_of_ble_eq_true rfl, Nat.le_of_ble_eq_true rfl⟩) hS (fun r_2 M_1 H locs hw hP hS => ?_)
  refine c_i (run_v (As := [.int v1, .int v2, .int r_2]) (rest := []) C hP hS (c_X6_sweepOn hw) gX6_edgeOn_X6_sweepOn rfl dsX6_sweepOn rfl ⟨rfl, rfl⟩ ⟨Nat.le_of_ble_eq_true rfl, Nat.le_of_ble_eq_true rfl⟩ (by decide) (sM_0 K _) rfl hl.1 rfl (Nat.le_of_ble_eq_true rfl) dX6_edgeOn_9 ⟨Nat.le_of_ble_eq_true rfl, Nat.le_of_ble_eq_true rfl⟩) hS (fun r_4 M_3 H locs hw hP hS => ?_)
  refine lv_istore_n (lv' := [(3, .int r_4), (0, .ref (kb K + 0)), (1, .int v1), (2, .int v2)]) hx hb dX6_edgeOn_12 rfl hl (by decide) rfl (fun ls hl => ?_)
  refine lv_iconst hx hb dX6_edgeOn_13 ic_0 ?_
  refine lv_istore (lv' := [(4, .int (0 : Int32)), (3, .int r_4), (0, .ref (kb K + 0)), (1, .int v1), (2, .int v2)]) hx hb dX6_edgeOn_14 hl (by decide) rfl (fun ls hl => ?_)
  refine lv_iconst hx hb dX6_edgeOn_16 ic_0 ?_
  refine lv_istore (lv' := [(5, .int (0 : Int32)), (4, .int (0 : Int32)), (3, .int r_4), (0, .ref (kb K + 0)), (1, .int v1), (2, .int v2)]) hx hb dX6_edgeOn_17 hl (by decide) rfl (fun ls hl => ?_)
  exact ih.1 _ _ _ _ _ _ _ _ hw hP hS (lv_sub hl [3, 4, 2, 1, 0] rfl)

theorem kX6_tracesOn_f7 : Cond.fieldLink RX6 7 (TX6 0).1 (TX6 0).2.1 (TX6 0).2.2.1 ∈ wsX6_tracesOn := List.mem_of_getElem? (i := 1) rfl
theorem hX6_tracesOn_X6 : ∀ w ∈ u_ws RX6 TX6 26, w ∈ wsX6_tracesOn := fun _ h => List.mem_cons_of_mem _ (List.mem_append_right _ (h))
abbrev rmX6_tracesOn : Room := { frames := 3, cells := 0, slots := 0, locals := 72 }
def f_X6_tracesOn_34 (Q : Mem → Prop) (v1 : Int32) (M : Mem) : Prop := vp_in (v1 + (36 : Int32)) 222 ∧ vp_in (v1 + (36 : Int32)) 222 ∧ (∀ M_8 : Mem, M_8 = mU M 1 (v1 + (36 : Int32)).toNatClampNeg ((M 1 (v1 + (36 : Int32)).toNatClampNeg) + (1 : Int32)) → Q M_8)
def q_X6_tracesOn (v1 : Int32) (v2 : Int32) (M : Mem) (Q : Mem → Prop) : Prop := vp_in (v1 + (20 : Int32)) 222 ∧ (∀ x_2 : Int32, x_2 = (M 1 (v1 + (20 : Int32)).toNatClampNeg) → ((x_2 ≤ 0 → f_X6_tracesOn_34 Q v1 M) ∧ (¬ x_2 ≤ 0 → ((¬ v2 = 0 → f_X6_tracesOn_34 Q v1 M) ∧ (v2 = 0 → vp_in (v1 + (36 : Int32)) 222 ∧ (¬ x_2 = 0) ∧ q_X6_edgeOn v1 ((M 1 (v1 + (36 : Int32)).toNatClampNeg) - (M 1 (v1 + (36 : Int32)).toNatClampNeg) / x_2 * x_2) M (fun M_5 => f_X6_tracesOn_34 Q v1 M_5))))))
set_option maxRecDepth 100000 in
set_option maxHeartbeats 4000000 in
theorem b_X6_tracesOn_34 {l : Launch} {K : wC} {Q : Mem → Prop} {p : Program} {e : Env} {s : State} {m : MethodId} {args : Array Value} {below : List Frame} {meth : Method} {c : Code} (C : cx 12 K p s m args meth c cX6_tracesOn 4 wsX6_tracesOn RX6 none) (v1 : Int32) (M : Mem) (H : Heap) (locs : List Loc) (ls : Array Slot) (hw : f_X6_tracesOn_34 Q v1 M) (hP : wP shM 12 K M H) (hS : va_S (wA 12 K) s.heap H locs) (hl : lv_has ls 4 [(0, .ref (kb K + 0)), (1, .int v1)]) : W p l e rmX6_tracesOn s m args below meth c H locs 0 0 (MQ below (va_Qv Q (wE shM 12 K) (wA 12 K)) args s 0 0 (wA 12 K)) (F0 m 34 ls []) := by
  obtain ⟨hx, hb, hml, hown, hts, hr, hlk, hK⟩ := id C
  delta f_X6_tracesOn_34 at hw
  refine lv_aload_n hx hb dX6_tracesOn_34 rfl (lv_at hl 0 rfl) ?_
  refine g_f C hP (by decide) (sM_0 K _) rfl hX6_tracesOn_X6 0 (by decide) kX6_tracesOn_f7 rfl dX6_tracesOn_35 ?_
  refine lv_iload_n hx hb dX6_tracesOn_38 rfl (lv_at hl 1 rfl) ?_
  refine lv_bipush hx hb dX6_tracesOn_39 bp_36 ?_
  refine lv_iadd hx hb dX6_tracesOn_41 ?_
  refine lv_dup2_11 hx hb dX6_tracesOn_42 rfl rfl ?_
  have hi_6 := hw.1
  have hw := hw.2
  refine a_il C hP (by decide) (sM_1 K _) hi_6 rfl dX6_tracesOn_43 ?_
  refine lv_iconst hx hb dX6_tracesOn_44 ic_1 ?_
  refine lv_iadd hx hb dX6_tracesOn_45 ?_
  have hi_7 := hw.1
  have hw := hw.2
  refine a_is C hP hS (by decide) (sM_1 K) hi_7 rfl dX6_tracesOn_46 (fun H locs hP hS => ?_)
  obtain ⟨M_8, eM_8⟩ : ∃ z : Mem, z = mU M 1 (v1 + (36 : Int32)).toNatClampNeg ((M 1 (v1 + (36 : Int32)).toNatClampNeg) + (1 : Int32)) := ⟨_, rfl⟩
  rw [← eM_8] at hP
  have hw := hw M_8 eM_8
  exact r_v C hP hS hw dX6_tracesOn_47
theorem dsX6_tracesOn : yX6_tracesOn.cls = RX6 ∧ yX6_tracesOn.cls ≠ "java/lang/invoke/MethodHandle" ∧ yX6_tracesOn.cls ≠ "java/lang/invoke/VarHandle" ∧ (parseMethodDescriptor yX6_tracesOn.desc).map (fun d => d.parameters.length) = some 2 := by decide +kernel
set_option maxRecDepth 100000 in
set_option maxHeartbeats 4000000 in
theorem c_X6_tracesOn {l : Launch} {K : wC} {v1 : Int32} {v2 : Int32} {M : Mem} {Q : Mem → Prop} (hw : q_X6_tracesOn v1 v2 M Q) : metV l yX6_tracesOn wsX6_tracesOn rmX6_tracesOn shM 12 K [.ref (kb K + 0), .int v1, .int v2] M Q := by
  refine met_of (cc := cX6_tracesOn) (maxL := 4) (ret := none) (own := RX6) (by decide) rfl rfl (Nat.le_of_ble_eq_true rfl) ?_
  intro p e s m below meth c ls C hl hP hS
  have hl : lv_has ls 4 [(0, .ref (kb K + 0)), (1, .int v1), (2, .int v2)] := hl
  obtain ⟨hx, hb, hml, hown, hts, hr, hlk, hK⟩ := id C
  have hP0 := hP
  delta q_X6_tracesOn at hw
  refine lv_aload_n hx hb dX6_tracesOn_0 rfl (lv_at hl 0 rfl) ?_
  refine g_f C hP (by decide) (sM_0 K _) rfl hX6_tracesOn_X6 0 (by decide) kX6_tracesOn_f7 rfl dX6_tracesOn_1 ?_
  refine lv_iload_n hx hb dX6_tracesOn_4 rfl (lv_at hl 1 rfl) ?_
  refine lv_bipush hx hb dX6_tracesOn_5 bp_20 ?_
  refine lv_iadd hx hb dX6_tracesOn_7 ?_
  have hi_1 := hw.1
  have hw := hw.2
  refine a_il C hP (by decide) (sM_1 K _) hi_1 rfl dX6_tracesOn_8 ?_
  refine lv_topi (fun x_2 ex_2 => ?_)
  have hw := hw x_2 ex_2
  refine lv_istore_n (lv' := [(3, .int x_2), (0, .ref (kb K + 0)), (1, .int v1), (2, .int v2)]) hx hb dX6_tracesOn_9 rfl hl (by decide) rfl (fun ls hl => ?_)
  refine lv_iload_n hx hb dX6_tracesOn_10 rfl (lv_at hl 0 rfl) ?_
  refine lv_if_le (tgt := 34) hx hb dX6_tracesOn_11 (by decide) (fun hc => ?_) (fun hc => ?_)
  · have hw := hw.1 hc
    exact b_X6_tracesOn_34 C _ _ _ _ _ hw hP hS (lv_sub hl [1, 2] rfl)
  · have hw := hw.2 hc
    refine lv_iload_n hx hb dX6_tracesOn_14 rfl (lv_at hl 3 rfl) ?_
    refine lv_if_ne (tgt := 34) hx hb dX6_tracesOn_15 (by decide) (fun hc => ?_) (fun hc => ?_)
    · have hw := hw.1 hc
      exact b_X6_tracesOn_34 C _ _ _ _ _ hw hP hS (lv_sub hl [1, 2] rfl)
    · have hw := hw.2 hc
      refine lv_aload_n hx hb dX6_tracesOn_18 rfl (lv_at hl 1 rfl) ?_
      refine lv_iload_n hx hb dX6_tracesOn_19 rfl (lv_at hl 2 rfl) ?_
      refine lv_aload_n hx hb dX6_tracesOn_20 rfl (lv_at hl 1 rfl) ?_
      refine g_f C hP (by decide) (sM_0 K _) rfl hX6_tracesOn_X6 0 (by decide) kX6_tracesOn_f7 rfl dX6_tracesOn_21 ?_
      refine lv_iload_n hx hb dX6_tracesOn_24 rfl (lv_at hl 2 rfl) ?_
      refine lv_bipush hx hb dX6_tracesOn_25 bp_36 ?_
      refine lv_iadd hx hb dX6_tracesOn_27 ?_
      have hi_3 := hw.1
      have hw := hw.2
      refine a_il C hP (by decide) (sM_1 K _) hi_3 rfl dX6_tracesOn_28 ?_
      refine lv_iload_n hx hb dX6_tracesOn_29 rfl (lv_at hl 0 rfl) ?_
      have hz_4 := hw.1
      have hw := hw.2
      refine lv_irem hx hb dX6_tracesOn_30 hz_4 ?_
      refine c_v (run_v (As := [.int v1, .int ((M 1 (v1 + (36 : Int32)).toNatClampNeg) - (M 1 (v1 + (36 : Int32)).toNatClampNeg) / x_2 * x_2)]) (rest := []) C hP hS (c_X6_edgeOn hw) gX6_tracesOn_X6_edgeOn rfl dsX6_edgeOn rfl ⟨rfl, rfl⟩ ⟨Nat.le_of_ble_eq_true rfl, Nat.le_of_ble_eq_true rfl⟩ (by decide) (sM_0 K _) rfl hl.1 rfl (Nat.le_of_ble_eq_true rfl) dX6_tracesOn_31 ⟨Nat.le_of_ble_eq_true rfl, Nat.le_of_ble_eq_true rfl⟩) hS (fun M_5 H locs hw hP hS => ?_)
      exact b_X6_tracesOn_34 C _ _ _ _ _ hw hP hS (lv_sub hl [1, 2] rfl)

theorem kX6_rule_f7 : Cond.fieldLink RX6 7 (TX6 0).1 (TX6 0).2.1 (TX6 0).2.2.1 ∈ wsX6_rule := List.mem_of_getElem? (i := 1) rfl
theorem hX6_rule_X6 : ∀ w ∈ u_ws RX6 TX6 26, w ∈ wsX6_rule := fun _ h => List.mem_cons_of_mem _ (List.mem_append_right _ (h))
theorem kX6_rule_c158 : Cond.constant RX6 158 (100000) ∈ wsX6_rule := List.mem_of_getElem? (i := 2) rfl
abbrev rmX6_rule : Room := { frames := 2, cells := 0, slots := 0, locals := 49 }
def q_X6_rule (v1 : Int32) (M : Mem) (Q : Int32 → Mem → Prop) : Prop := ((v1 = 0 → Q (M 1 20) M) ∧ (¬ v1 = 0 → ((v1 = 1 → Q (M 1 35) M) ∧ (¬ v1 = 1 → ((v1 = 2 → Q (M 1 36) M) ∧ (¬ v1 = 2 → ((v1 = 3 → q_X6_areaOn (0 : Int32) M (fun r_2 M_1 => Q ((100000 : Int32) + r_2) M_1)) ∧ (¬ v1 = 3 → ((v1 = 4 → ((¬ (M 1 20) = 0 → (¬ (M 1 20) = 0) ∧ Q ((M 1 36) - (M 1 36) / (M 1 20) * (M 1 20)) M) ∧ ((M 1 20) = 0 → Q (-4 : Int32) M))) ∧ (¬ v1 = 4 → ((v1 = 5 → Q (M 1 21) M) ∧ (¬ v1 = 5 → ((v1 = 6 → Q (M 1 22) M) ∧ (¬ v1 = 6 → Q (-1 : Int32) M))))))))))))))
theorem dsX6_rule : yX6_rule.cls = RX6 ∧ yX6_rule.cls ≠ "java/lang/invoke/MethodHandle" ∧ yX6_rule.cls ≠ "java/lang/invoke/VarHandle" ∧ (parseMethodDescriptor yX6_rule.desc).map (fun d => d.parameters.length) = some 1 := by decide +kernel
set_option maxRecDepth 100000 in
set_option maxHeartbeats 4000000 in
theorem c_X6_rule {l : Launch} {K : wC} {v1 : Int32} {M : Mem} {Q : Int32 → Mem → Prop} (hw : q_X6_rule v1 M Q) : metI l yX6_rule wsX6_rule rmX6_rule shM 12 K [.ref (kb K + 0), .int v1] M Q := by
  refine met_of (cc := cX6_rule) (maxL := 3) (ret := (some .int)) (own := RX6) (by decide) rfl rfl (Nat.le_of_ble_eq_true rfl) ?_
  intro p e s m below meth c ls C hl hP hS
  have hl : lv_has ls 3 [(0, .ref (kb K + 0)), (1, .int v1)] := hl
  obtain ⟨hx, hb, hml, hown, hts, hr, hlk, hK⟩ := id C
  have hP0 := hP
  delta q_X6_rule at hw
  refine lv_aload_n hx hb dX6_rule_0 rfl (lv_at hl 0 rfl) ?_
  refine g_f C hP (by decide) (sM_0 K _) rfl hX6_rule_X6 0 (by decide) kX6_rule_f7 rfl dX6_rule_1 ?_
  refine lv_bipush hx hb dX6_rule_4 bp_20 ?_
  refine a_il C hP (by decide) (sM_1 K _) vi_20_222 ti_20 dX6_rule_6 ?_
  refine lv_istore_n (lv' := [(2, .int (M 1 20)), (0, .ref (kb K + 0)), (1, .int v1)]) hx hb dX6_rule_7 rfl hl (by decide) rfl (fun ls hl => ?_)
  refine lv_iload_n hx hb dX6_rule_8 rfl (lv_at hl 2 rfl) ?_
  by_cases hs0 : v1 = 0
  · have hw := hw.1 hs0
    refine lv_tableIn (tgt := 52) hx hb dX6_rule_9 (by rw [hs0]; decide) (by rw [hs0]; decide) (by rw [hs0]; rfl) (by decide) ?_
    refine lv_iload_n hx hb dX6_rule_52 rfl (lv_at hl 0 rfl) ?_
    exact r_i C hP hS hw dX6_rule_53
  · have hw := hw.2 hs0
    by_cases hs1 : v1 = 1
    · have hw := hw.1 hs1
      refine lv_tableIn (tgt := 54) hx hb dX6_rule_9 (by rw [hs1]; decide) (by rw [hs1]; decide) (by rw [hs1]; rfl) (by decide) ?_
      refine lv_aload_n hx hb dX6_rule_54 rfl (lv_at hl 1 rfl) ?_
      refine g_f C hP (by decide) (sM_0 K _) rfl hX6_rule_X6 0 (by decide) kX6_rule_f7 rfl dX6_rule_55 ?_
      refine lv_bipush hx hb dX6_rule_58 bp_35 ?_
      refine a_il C hP (by decide) (sM_1 K _) vi_35_222 ti_35 dX6_rule_60 ?_
      exact r_i C hP hS hw dX6_rule_61
    · have hw := hw.2 hs1
      by_cases hs2 : v1 = 2
      · have hw := hw.1 hs2
        refine lv_tableIn (tgt := 62) hx hb dX6_rule_9 (by rw [hs2]; decide) (by rw [hs2]; decide) (by rw [hs2]; rfl) (by decide) ?_
        refine lv_aload_n hx hb dX6_rule_62 rfl (lv_at hl 1 rfl) ?_
        refine g_f C hP (by decide) (sM_0 K _) rfl hX6_rule_X6 0 (by decide) kX6_rule_f7 rfl dX6_rule_63 ?_
        refine lv_bipush hx hb dX6_rule_66 bp_36 ?_
        refine a_il C hP (by decide) (sM_1 K _) vi_36_222 ti_36 dX6_rule_68 ?_
        exact r_i C hP hS hw dX6_rule_69
      · have hw := hw.2 hs2
        by_cases hs3 : v1 = 3
        · have hw := hw.1 hs3
          refine lv_tableIn (tgt := 70) hx hb dX6_rule_9 (by rw [hs3]; decide) (by rw [hs3]; decide) (by rw [hs3]; rfl) (by decide) ?_
          refine lv_ldc hx hb hown (hts _ kX6_rule_c158) dX6_rule_70 ?_
          refine lv_aload_n hx hb dX6_rule_72 rfl (lv_at hl 1 rfl) ?_
          refine lv_iconst hx hb dX6_rule_73 ic_0 ?_
          refine c_i (run_v (As := [.int (0 : Int32)]) (rest := [.int (100000 : Int32)]) C hP hS (c_X6_areaOn hw) gX6_rule_X6_areaOn rfl dsX6_areaOn rfl ⟨rfl, rfl⟩ ⟨Nat.le_of_ble_eq_true rfl, Nat.le_of_ble_eq_true rfl⟩ (by decide) (sM_0 K _) rfl hl.1 rfl (Nat.le_of_ble_eq_true rfl) dX6_rule_74 ⟨Nat.le_of_ble_eq_true rfl, Nat.le_of_ble_eq_true rfl⟩) hS (fun r_2 M_1 H locs hw hP hS => ?_)
          refine lv_iadd hx hb dX6_rule_77 ?_
          exact r_i C hP hS hw dX6_rule_78
        · have hw := hw.2 hs3
          by_cases hs4 : v1 = 4
          · have hw := hw.1 hs4
            refine lv_tableIn (tgt := 79) hx hb dX6_rule_9 (by rw [hs4]; decide) (by rw [hs4]; decide) (by rw [hs4]; rfl) (by decide) ?_
            refine lv_iload_n hx hb dX6_rule_79 rfl (lv_at hl 0 rfl) ?_
            refine lv_if_ne (tgt := 88) hx hb dX6_rule_80 (by decide) (fun hc => ?_) (fun hc => ?_)
            · have hw := hw.1 hc
              refine lv_aload_n hx hb dX6_rule_88 rfl (lv_at hl 1 rfl) ?_
              refine g_f C hP (by decide) (sM_0 K _) rfl hX6_rule_X6 0 (by decide) kX6_rule_f7 rfl dX6_rule_89 ?_
              refine lv_bipush hx hb dX6_rule_92 bp_36 ?_
              refine a_il C hP (by decide) (sM_1 K _) vi_36_222 ti_36 dX6_rule_94 ?_
              refine lv_iload_n hx hb dX6_rule_95 rfl (lv_at hl 0 rfl) ?_
              have hz_3 := hw.1
              have hw := hw.2
              refine lv_irem hx hb dX6_rule_96 hz_3 ?_
              exact r_i C hP hS hw dX6_rule_97
            · have hw := hw.2 hc
              refine lv_bipush hx hb dX6_rule_83 bp_m4 ?_
              refine lv_goto (tgt := 97) hx hb dX6_rule_85 (by decide) ?_
              exact r_i C hP hS hw dX6_rule_97
          · have hw := hw.2 hs4
            by_cases hs5 : v1 = 5
            · have hw := hw.1 hs5
              refine lv_tableIn (tgt := 98) hx hb dX6_rule_9 (by rw [hs5]; decide) (by rw [hs5]; decide) (by rw [hs5]; rfl) (by decide) ?_
              refine lv_aload_n hx hb dX6_rule_98 rfl (lv_at hl 1 rfl) ?_
              refine g_f C hP (by decide) (sM_0 K _) rfl hX6_rule_X6 0 (by decide) kX6_rule_f7 rfl dX6_rule_99 ?_
              refine lv_bipush hx hb dX6_rule_102 bp_21 ?_
              refine a_il C hP (by decide) (sM_1 K _) vi_21_222 ti_21 dX6_rule_104 ?_
              exact r_i C hP hS hw dX6_rule_105
            · have hw := hw.2 hs5
              by_cases hs6 : v1 = 6
              · have hw := hw.1 hs6
                refine lv_tableIn (tgt := 106) hx hb dX6_rule_9 (by rw [hs6]; decide) (by rw [hs6]; decide) (by rw [hs6]; rfl) (by decide) ?_
                refine lv_aload_n hx hb dX6_rule_106 rfl (lv_at hl 1 rfl) ?_
                refine g_f C hP (by decide) (sM_0 K _) rfl hX6_rule_X6 0 (by decide) kX6_rule_f7 rfl dX6_rule_107 ?_
                refine lv_bipush hx hb dX6_rule_110 bp_22 ?_
                refine a_il C hP (by decide) (sM_1 K _) vi_22_222 ti_22 dX6_rule_112 ?_
                exact r_i C hP hS hw dX6_rule_113
              · have hw := hw.2 hs6
                have nhs0 : v1.toInt ≠ 0 := ne_toInt hs0
                have nhs1 : v1.toInt ≠ 1 := ne_toInt hs1
                have nhs2 : v1.toInt ≠ 2 := ne_toInt hs2
                have nhs3 : v1.toInt ≠ 3 := ne_toInt hs3
                have nhs4 : v1.toInt ≠ 4 := ne_toInt hs4
                have nhs5 : v1.toInt ≠ 5 := ne_toInt hs5
                have nhs6 : v1.toInt ≠ 6 := ne_toInt hs6
                refine lv_tableOut (tgt := 114) hx hb dX6_rule_9 (by omega) (by decide) ?_
                refine lv_iconst hx hb dX6_rule_114 ic_m1 ?_
                exact r_i C hP hS hw dX6_rule_115

theorem kX6_corner_c163 : Cond.constantLong RX6 163 (2) ∈ wsX6_corner := List.mem_of_getElem? (i := 1) rfl
theorem kX6_corner_f7 : Cond.fieldLink RX6 7 (TX6 0).1 (TX6 0).2.1 (TX6 0).2.2.1 ∈ wsX6_corner := List.mem_of_getElem? (i := 2) rfl
theorem hX6_corner_X6 : ∀ w ∈ u_ws RX6 TX6 26, w ∈ wsX6_corner := fun _ h => List.mem_cons_of_mem _ (List.mem_append_right _ (h))
abbrev rmX6_corner : Room := { frames := 2, cells := 0, slots := 0, locals := 46 }
def q_X6_corner (v1 : Int32) (v2 : Int32) (M : Mem) (Q : Int32 → Mem → Prop) : Prop := q_X6_isCorner v1 M (fun r_2 M_1 => ((r_2 = 0 → Q (-1 : Int32) M_1) ∧ (¬ r_2 = 0 → q_X6_in v2.toInt64 (0 : Int64) (2 : Int64) M_1 (fun r_4 M_3 => ((¬ r_4 = 0 → (((2 : Int32) ≤ v2 → q_X6_behindOn (0 : Int32) v1 M_3 (fun r_6 M_5 => q_X6_sweepOn (0 : Int32) v1 r_6 M_5 (fun r_8 M_7 => Q ((10000 : Int32) + r_8) M_7))) ∧ (¬ (2 : Int32) ≤ v2 → vp_in (((10 : Int32) * v2) + v1) 222 ∧ Q (M_3 1 (((10 : Int32) * v2) + v1).toNatClampNeg) M_3))) ∧ (r_4 = 0 → Q (-1 : Int32) M_3))))))
theorem dsX6_corner : yX6_corner.cls = RX6 ∧ yX6_corner.cls ≠ "java/lang/invoke/MethodHandle" ∧ yX6_corner.cls ≠ "java/lang/invoke/VarHandle" ∧ (parseMethodDescriptor yX6_corner.desc).map (fun d => d.parameters.length) = some 2 := by decide +kernel
set_option maxRecDepth 100000 in
set_option maxHeartbeats 4000000 in
theorem c_X6_corner {l : Launch} {K : wC} {v1 : Int32} {v2 : Int32} {M : Mem} {Q : Int32 → Mem → Prop} (hw : q_X6_corner v1 v2 M Q) : metI l yX6_corner wsX6_corner rmX6_corner shM 12 K [.ref (kb K + 0), .int v1, .int v2] M Q := by
  refine met_of (cc := cX6_corner) (maxL := 3) (ret := (some .int)) (own := RX6) (by decide) rfl rfl (Nat.le_of_ble_eq_true rfl) ?_
  intro p e s m below meth c ls C hl hP hS
  have hl : lv_has ls 3 [(0, .ref (kb K + 0)), (1, .int v1), (2, .int v2)] := hl
  obtain ⟨hx, hb, hml, hown, hts, hr, hlk, hK⟩ := id C
  have hP0 := hP
  delta q_X6_corner at hw
  refine lv_aload_n hx hb dX6_corner_0 rfl (lv_at hl 0 rfl) ?_
  refine lv_iload_n hx hb dX6_corner_1 rfl (lv_at hl 1 rfl) ?_
  refine c_i (run_v (As := [.int v1]) (rest := []) C hP hS (c_X6_isCorner hw) gX6_corner_X6_isCorner rfl dsX6_isCorner rfl ⟨rfl, rfl⟩ ⟨Nat.le_of_ble_eq_true rfl, Nat.le_of_ble_eq_true rfl⟩ (by decide) (sM_0 K _) rfl hl.1 rfl (Nat.le_of_ble_eq_true rfl) dX6_corner_2 ⟨Nat.le_of_ble_eq_true rfl, Nat.le_of_ble_eq_true rfl⟩) hS (fun r_2 M_1 H locs hw hP hS => ?_)
  refine lv_if_eq (tgt := 20) hx hb dX6_corner_5 (by decide) (fun hc => ?_) (fun hc => ?_)
  · have hw := hw.1 hc
    refine lv_iconst hx hb dX6_corner_20 ic_m1 ?_
    exact r_i C hP hS hw dX6_corner_21
  · have hw := hw.2 hc
    refine lv_iload_n hx hb dX6_corner_8 rfl (lv_at hl 2 rfl) ?_
    refine lv_i2l hx hb dX6_corner_9 rfl ?_
    refine lv_lconst hx hb dX6_corner_10 lc_0 ?_
    refine lv_ldc2 hx hb hown (hts _ kX6_corner_c163) dX6_corner_11 ?_
    refine c_i (run_s (As := [.long v2.toInt64, .long (0 : Int64), .long (2 : Int64)]) (rest := []) C hP hS (c_X6_in hw) gX6_corner_X6_in rfl dsX6_in rfl ⟨rfl, rfl⟩ ⟨Nat.le_of_ble_eq_true rfl, Nat.le_of_ble_eq_true rfl⟩ hl.1 rfl (Nat.le_of_ble_eq_true rfl) dX6_corner_14 ⟨Nat.le_of_ble_eq_true rfl, Nat.le_of_ble_eq_true rfl⟩) hS (fun r_4 M_3 H locs hw hP hS => ?_)
    refine lv_if_ne (tgt := 22) hx hb dX6_corner_17 (by decide) (fun hc => ?_) (fun hc => ?_)
    · have hw := hw.1 hc
      refine lv_iload_n hx hb dX6_corner_22 rfl (lv_at hl 2 rfl) ?_
      refine lv_iconst hx hb dX6_corner_23 ic_2 ?_
      refine lv_icmp_ge (tgt := 41) hx hb dX6_corner_24 (by decide) (fun hc => ?_) (fun hc => ?_)
      · have hw := hw.1 hc
        refine lv_sipush hx hb dX6_corner_41 sp_10000 ?_
        refine lv_aload_n hx hb dX6_corner_44 rfl (lv_at hl 0 rfl) ?_
        refine lv_iconst hx hb dX6_corner_45 ic_0 ?_
        refine lv_iload_n hx hb dX6_corner_46 rfl (lv_at hl 1 rfl) ?_
        refine lv_aload_n hx hb dX6_corner_47 rfl (lv_at hl 0 rfl) ?_
        refine lv_iconst hx hb dX6_corner_48 ic_0 ?_
        refine lv_iload_n hx hb dX6_corner_49 rfl (lv_at hl 1 rfl) ?_
        refine c_i (run_v (As := [.int (0 : Int32), .int v1]) (rest := [.int v1, .int (0 : Int32), .ref (kb K + 0), .int (10000 : Int32)]) C hP hS (c_X6_behindOn hw) gX6_corner_X6_behindOn rfl dsX6_behindOn rfl ⟨rfl, rfl⟩ ⟨Nat.le_of_ble_eq_true rfl, Nat.le_of_ble_eq_true rfl⟩ (by decide) (sM_0 K _) rfl hl.1 rfl (Nat.le_of_ble_eq_true rfl) dX6_corner_50 ⟨Nat.le_of_ble_eq_true rfl, Nat.le_of_ble_eq_true rfl⟩) hS (fun r_6 M_5 H locs hw hP hS => ?_)
        refine c_i (run_v (As := [.int (0 : Int32), .int v1, .int r_6]) (rest := [.int (10000 : Int32)]) C hP hS (c_X6_sweepOn hw) gX6_corner_X6_sweepOn rfl dsX6_sweepOn rfl ⟨rfl, rfl⟩ ⟨Nat.le_of_ble_eq_true rfl, Nat.le_of_ble_eq_true rfl⟩ (by decide) (sM_0 K _) rfl hl.1 rfl (Nat.le_of_ble_eq_true rfl) dX6_corner_53 ⟨Nat.le_of_ble_eq_true rfl, Nat.le_of_ble_eq_true rfl⟩) hS (fun r_8 M_7 H locs hw hP hS => ?_)
        refine lv_iadd hx hb dX6_corner_56 ?_
        exact r_i C hP hS hw dX6_corner_57
      · have hw := hw.2 hc
        refine lv_aload_n hx hb dX6_corner_27 rfl (lv_at hl 0 rfl) ?_
        refine g_f C hP (by decide) (sM_0 K _) rfl hX6_corner_X6 0 (by decide) kX6_corner_f7 rfl dX6_corner_28 ?_
        refine lv_bipush hx hb dX6_corner_31 bp_10 ?_
        refine lv_iload_n hx hb dX6_corner_33 rfl (lv_at hl 2 rfl) ?_
        refine lv_imul hx hb dX6_corner_34 ?_
        refine lv_iload_n hx hb dX6_corner_35 rfl (lv_at hl 1 rfl) ?_
        refine lv_iadd hx hb dX6_corner_36 ?_
        have hi_9 := hw.1
        have hw := hw.2
        refine a_il C hP (by decide) (sM_1 K _) hi_9 rfl dX6_corner_37 ?_
        refine lv_goto (tgt := 57) hx hb dX6_corner_38 (by decide) ?_
        exact r_i C hP hS hw dX6_corner_57
    · have hw := hw.2 hc
      refine lv_iconst hx hb dX6_corner_20 ic_m1 ?_
      exact r_i C hP hS hw dX6_corner_21

theorem kX6_showsOn_f7 : Cond.fieldLink RX6 7 (TX6 0).1 (TX6 0).2.1 (TX6 0).2.2.1 ∈ wsX6_showsOn := List.mem_of_getElem? (i := 1) rfl
theorem hX6_showsOn_X6 : ∀ w ∈ u_ws RX6 TX6 26, w ∈ wsX6_showsOn := fun _ h => List.mem_cons_of_mem _ (List.mem_append_right _ (h))
abbrev rmX6_showsOn : Room := { frames := 0, cells := 0, slots := 0, locals := 0 }
def q_X6_showsOn (v1 : Int32) (v2 : Int32) (M : Mem) (Q : Int32 → Mem → Prop) : Prop := vp_in ((v1 + (23 : Int32)) + v2) 222 ∧ (∀ x_2 : Int32, x_2 = (M 1 ((v1 + (23 : Int32)) + v2).toNatClampNeg) → vp_in ((v1 + (31 : Int32)) + v2) 222 ∧ (∀ x_4 : Int32, x_4 = (M 1 ((v1 + (31 : Int32)) + v2).toNatClampNeg) → ((¬ x_2 = (1 : Int32) → ((¬ x_2 = (3 : Int32) → Q x_4 M) ∧ (x_2 = (3 : Int32) → Q ((2 : Int32) * x_4) M))) ∧ (x_2 = (1 : Int32) → vp_in ((v1 + (27 : Int32)) + v2) 222 ∧ (¬ (M 1 ((v1 + (27 : Int32)) + v2).toNatClampNeg) = 0) ∧ Q (x_4 / (M 1 ((v1 + (27 : Int32)) + v2).toNatClampNeg)) M))))
theorem dsX6_showsOn : yX6_showsOn.cls = RX6 ∧ yX6_showsOn.cls ≠ "java/lang/invoke/MethodHandle" ∧ yX6_showsOn.cls ≠ "java/lang/invoke/VarHandle" ∧ (parseMethodDescriptor yX6_showsOn.desc).map (fun d => d.parameters.length) = some 2 := by decide +kernel
set_option maxRecDepth 100000 in
set_option maxHeartbeats 4000000 in
theorem c_X6_showsOn {l : Launch} {K : wC} {v1 : Int32} {v2 : Int32} {M : Mem} {Q : Int32 → Mem → Prop} (hw : q_X6_showsOn v1 v2 M Q) : metI l yX6_showsOn wsX6_showsOn rmX6_showsOn shM 12 K [.ref (kb K + 0), .int v1, .int v2] M Q := by
  refine met_of (cc := cX6_showsOn) (maxL := 5) (ret := (some .int)) (own := RX6) (by decide) rfl rfl (Nat.le_of_ble_eq_true rfl) ?_
  intro p e s m below meth c ls C hl hP hS
  have hl : lv_has ls 5 [(0, .ref (kb K + 0)), (1, .int v1), (2, .int v2)] := hl
  obtain ⟨hx, hb, hml, hown, hts, hr, hlk, hK⟩ := id C
  have hP0 := hP
  delta q_X6_showsOn at hw
  refine lv_aload_n hx hb dX6_showsOn_0 rfl (lv_at hl 0 rfl) ?_
  refine g_f C hP (by decide) (sM_0 K _) rfl hX6_showsOn_X6 0 (by decide) kX6_showsOn_f7 rfl dX6_showsOn_1 ?_
  refine lv_iload_n hx hb dX6_showsOn_4 rfl (lv_at hl 1 rfl) ?_
  refine lv_bipush hx hb dX6_showsOn_5 bp_23 ?_
  refine lv_iadd hx hb dX6_showsOn_7 ?_
  refine lv_iload_n hx hb dX6_showsOn_8 rfl (lv_at hl 2 rfl) ?_
  refine lv_iadd hx hb dX6_showsOn_9 ?_
  have hi_1 := hw.1
  have hw := hw.2
  refine a_il C hP (by decide) (sM_1 K _) hi_1 rfl dX6_showsOn_10 ?_
  refine lv_topi (fun x_2 ex_2 => ?_)
  have hw := hw x_2 ex_2
  refine lv_istore_n (lv' := [(3, .int x_2), (0, .ref (kb K + 0)), (1, .int v1), (2, .int v2)]) hx hb dX6_showsOn_11 rfl hl (by decide) rfl (fun ls hl => ?_)
  refine lv_aload_n hx hb dX6_showsOn_12 rfl (lv_at hl 1 rfl) ?_
  refine g_f C hP (by decide) (sM_0 K _) rfl hX6_showsOn_X6 0 (by decide) kX6_showsOn_f7 rfl dX6_showsOn_13 ?_
  refine lv_iload_n hx hb dX6_showsOn_16 rfl (lv_at hl 2 rfl) ?_
  refine lv_bipush hx hb dX6_showsOn_17 bp_31 ?_
  refine lv_iadd hx hb dX6_showsOn_19 ?_
  refine lv_iload_n hx hb dX6_showsOn_20 rfl (lv_at hl 3 rfl) ?_
  refine lv_iadd hx hb dX6_showsOn_21 ?_
  have hi_3 := hw.1
  have hw := hw.2
  refine a_il C hP (by decide) (sM_1 K _) hi_3 rfl dX6_showsOn_22 ?_
  refine lv_topi (fun x_4 ex_4 => ?_)
  have hw := hw x_4 ex_4
  refine lv_istore (lv' := [(4, .int x_4), (3, .int x_2), (0, .ref (kb K + 0)), (1, .int v1), (2, .int v2)]) hx hb dX6_showsOn_23 hl (by decide) rfl (fun ls hl => ?_)
  refine lv_iload_n hx hb dX6_showsOn_25 rfl (lv_at hl 1 rfl) ?_
  refine lv_iconst hx hb dX6_showsOn_26 ic_1 ?_
  refine lv_icmp_ne (tgt := 47) hx hb dX6_showsOn_27 (by decide) (fun hc => ?_) (fun hc => ?_)
  · have hw := hw.1 hc
    refine lv_iload_n hx hb dX6_showsOn_47 rfl (lv_at hl 1 rfl) ?_
    refine lv_iconst hx hb dX6_showsOn_48 ic_3 ?_
    refine lv_icmp_ne (tgt := 59) hx hb dX6_showsOn_49 (by decide) (fun hc => ?_) (fun hc => ?_)
    · have hw := hw.1 hc
      refine lv_iload hx hb dX6_showsOn_59 (lv_at hl 0 rfl) ?_
      exact r_i C hP hS hw dX6_showsOn_61
    · have hw := hw.2 hc
      refine lv_iconst hx hb dX6_showsOn_52 ic_2 ?_
      refine lv_iload hx hb dX6_showsOn_53 (lv_at hl 0 rfl) ?_
      refine lv_imul hx hb dX6_showsOn_55 ?_
      refine lv_goto (tgt := 61) hx hb dX6_showsOn_56 (by decide) ?_
      exact r_i C hP hS hw dX6_showsOn_61
  · have hw := hw.2 hc
    refine lv_iload hx hb dX6_showsOn_30 (lv_at hl 0 rfl) ?_
    refine lv_aload_n hx hb dX6_showsOn_32 rfl (lv_at hl 2 rfl) ?_
    refine g_f C hP (by decide) (sM_0 K _) rfl hX6_showsOn_X6 0 (by decide) kX6_showsOn_f7 rfl dX6_showsOn_33 ?_
    refine lv_iload_n hx hb dX6_showsOn_36 rfl (lv_at hl 3 rfl) ?_
    refine lv_bipush hx hb dX6_showsOn_37 bp_27 ?_
    refine lv_iadd hx hb dX6_showsOn_39 ?_
    refine lv_iload_n hx hb dX6_showsOn_40 rfl (lv_at hl 4 rfl) ?_
    refine lv_iadd hx hb dX6_showsOn_41 ?_
    have hi_5 := hw.1
    have hw := hw.2
    refine a_il C hP (by decide) (sM_1 K _) hi_5 rfl dX6_showsOn_42 ?_
    have hz_6 := hw.1
    have hw := hw.2
    refine lv_idiv hx hb dX6_showsOn_43 hz_6 ?_
    refine lv_goto (tgt := 61) hx hb dX6_showsOn_44 (by decide) ?_
    exact r_i C hP hS hw dX6_showsOn_61

theorem kX6_wheel_f7 : Cond.fieldLink RX6 7 (TX6 0).1 (TX6 0).2.1 (TX6 0).2.2.1 ∈ wsX6_wheel := List.mem_of_getElem? (i := 1) rfl
theorem hX6_wheel_X6 : ∀ w ∈ u_ws RX6 TX6 26, w ∈ wsX6_wheel := fun _ h => List.mem_cons_of_mem _ (List.mem_append_right _ (h))
theorem kX6_wheel_c168 : Cond.constant RX6 168 (20000000) ∈ wsX6_wheel := List.mem_of_getElem? (i := 2) rfl
abbrev rmX6_wheel : Room := { frames := 3, cells := 0, slots := 0, locals := 73 }
def q_X6_wheel (v1 : Int32) (v2 : Int32) (M : Mem) (Q : Int32 → Mem → Prop) : Prop := q_X6_isWheel v1 M (fun r_2 M_1 => ((¬ r_2 = 0 → ((v2 = 0 → vp_in ((23 : Int32) + v1) 222 ∧ Q (M_1 1 ((23 : Int32) + v1).toNatClampNeg) M_1) ∧ (¬ v2 = 0 → ((v2 = 1 → vp_in ((27 : Int32) + v1) 222 ∧ Q (M_1 1 ((27 : Int32) + v1).toNatClampNeg) M_1) ∧ (¬ v2 = 1 → ((v2 = 2 → vp_in ((31 : Int32) + v1) 222 ∧ Q ((20000000 : Int32) + (M_1 1 ((31 : Int32) + v1).toNatClampNeg)) M_1) ∧ (¬ v2 = 2 → ((v2 = 3 → q_X6_showsOn (0 : Int32) v1 M_1 (fun r_7 M_6 => Q ((20000000 : Int32) + r_7) M_6)) ∧ (¬ v2 = 3 → ((v2 = 4 → q_X6_errorOn (0 : Int32) v1 M_1 (fun r_9 M_8 => Q r_9 M_8)) ∧ (¬ v2 = 4 → Q (-1 : Int32) M_1))))))))))) ∧ (r_2 = 0 → Q (-1 : Int32) M_1)))
theorem dsX6_wheel : yX6_wheel.cls = RX6 ∧ yX6_wheel.cls ≠ "java/lang/invoke/MethodHandle" ∧ yX6_wheel.cls ≠ "java/lang/invoke/VarHandle" ∧ (parseMethodDescriptor yX6_wheel.desc).map (fun d => d.parameters.length) = some 2 := by decide +kernel
set_option maxRecDepth 100000 in
set_option maxHeartbeats 4000000 in
theorem c_X6_wheel {l : Launch} {K : wC} {v1 : Int32} {v2 : Int32} {M : Mem} {Q : Int32 → Mem → Prop} (hw : q_X6_wheel v1 v2 M Q) : metI l yX6_wheel wsX6_wheel rmX6_wheel shM 12 K [.ref (kb K + 0), .int v1, .int v2] M Q := by
  refine met_of (cc := cX6_wheel) (maxL := 3) (ret := (some .int)) (own := RX6) (by decide) rfl rfl (Nat.le_of_ble_eq_true rfl) ?_
  intro p e s m below meth c ls C hl hP hS
  have hl : lv_has ls 3 [(0, .ref (kb K + 0)), (1, .int v1), (2, .int v2)] := hl
  obtain ⟨hx, hb, hml, hown, hts, hr, hlk, hK⟩ := id C
  have hP0 := hP
  delta q_X6_wheel at hw
  refine lv_aload_n hx hb dX6_wheel_0 rfl (lv_at hl 0 rfl) ?_
  refine lv_iload_n hx hb dX6_wheel_1 rfl (lv_at hl 1 rfl) ?_
  refine c_i (run_v (As := [.int v1]) (rest := []) C hP hS (c_X6_isWheel hw) gX6_wheel_X6_isWheel rfl dsX6_isWheel rfl ⟨rfl, rfl⟩ ⟨Nat.le_of_ble_eq_true rfl, Nat.le_of_ble_eq_true rfl⟩ (by decide) (sM_0 K _) rfl hl.1 rfl (Nat.le_of_ble_eq_true rfl) dX6_wheel_2 ⟨Nat.le_of_ble_eq_true rfl, Nat.le_of_ble_eq_true rfl⟩) hS (fun r_2 M_1 H locs hw hP hS => ?_)
  refine lv_if_ne (tgt := 10) hx hb dX6_wheel_5 (by decide) (fun hc => ?_) (fun hc => ?_)
  · have hw := hw.1 hc
    refine lv_iload_n hx hb dX6_wheel_10 rfl (lv_at hl 2 rfl) ?_
    by_cases hs0 : v2 = 0
    · have hw := hw.1 hs0
      refine lv_tableIn (tgt := 44) hx hb dX6_wheel_11 (by rw [hs0]; decide) (by rw [hs0]; decide) (by rw [hs0]; rfl) (by decide) ?_
      refine lv_aload_n hx hb dX6_wheel_44 rfl (lv_at hl 0 rfl) ?_
      refine g_f C hP (by decide) (sM_0 K _) rfl hX6_wheel_X6 0 (by decide) kX6_wheel_f7 rfl dX6_wheel_45 ?_
      refine lv_bipush hx hb dX6_wheel_48 bp_23 ?_
      refine lv_iload_n hx hb dX6_wheel_50 rfl (lv_at hl 1 rfl) ?_
      refine lv_iadd hx hb dX6_wheel_51 ?_
      have hi_3 := hw.1
      have hw := hw.2
      refine a_il C hP (by decide) (sM_1 K _) hi_3 rfl dX6_wheel_52 ?_
      exact r_i C hP hS hw dX6_wheel_53
    · have hw := hw.2 hs0
      by_cases hs1 : v2 = 1
      · have hw := hw.1 hs1
        refine lv_tableIn (tgt := 54) hx hb dX6_wheel_11 (by rw [hs1]; decide) (by rw [hs1]; decide) (by rw [hs1]; rfl) (by decide) ?_
        refine lv_aload_n hx hb dX6_wheel_54 rfl (lv_at hl 0 rfl) ?_
        refine g_f C hP (by decide) (sM_0 K _) rfl hX6_wheel_X6 0 (by decide) kX6_wheel_f7 rfl dX6_wheel_55 ?_
        refine lv_bipush hx hb dX6_wheel_58 bp_27 ?_
        refine lv_iload_n hx hb dX6_wheel_60 rfl (lv_at hl 1 rfl) ?_
        refine lv_iadd hx hb dX6_wheel_61 ?_
        have hi_4 := hw.1
        have hw := hw.2
        refine a_il C hP (by decide) (sM_1 K _) hi_4 rfl dX6_wheel_62 ?_
        exact r_i C hP hS hw dX6_wheel_63
      · have hw := hw.2 hs1
        by_cases hs2 : v2 = 2
        · have hw := hw.1 hs2
          refine lv_tableIn (tgt := 64) hx hb dX6_wheel_11 (by rw [hs2]; decide) (by rw [hs2]; decide) (by rw [hs2]; rfl) (by decide) ?_
          refine lv_ldc hx hb hown (hts _ kX6_wheel_c168) dX6_wheel_64 ?_
          refine lv_aload_n hx hb dX6_wheel_66 rfl (lv_at hl 0 rfl) ?_
          refine g_f C hP (by decide) (sM_0 K _) rfl hX6_wheel_X6 0 (by decide) kX6_wheel_f7 rfl dX6_wheel_67 ?_
          refine lv_bipush hx hb dX6_wheel_70 bp_31 ?_
          refine lv_iload_n hx hb dX6_wheel_72 rfl (lv_at hl 1 rfl) ?_
          refine lv_iadd hx hb dX6_wheel_73 ?_
          have hi_5 := hw.1
          have hw := hw.2
          refine a_il C hP (by decide) (sM_1 K _) hi_5 rfl dX6_wheel_74 ?_
          refine lv_iadd hx hb dX6_wheel_75 ?_
          exact r_i C hP hS hw dX6_wheel_76
        · have hw := hw.2 hs2
          by_cases hs3 : v2 = 3
          · have hw := hw.1 hs3
            refine lv_tableIn (tgt := 77) hx hb dX6_wheel_11 (by rw [hs3]; decide) (by rw [hs3]; decide) (by rw [hs3]; rfl) (by decide) ?_
            refine lv_ldc hx hb hown (hts _ kX6_wheel_c168) dX6_wheel_77 ?_
            refine lv_aload_n hx hb dX6_wheel_79 rfl (lv_at hl 0 rfl) ?_
            refine lv_iconst hx hb dX6_wheel_80 ic_0 ?_
            refine lv_iload_n hx hb dX6_wheel_81 rfl (lv_at hl 1 rfl) ?_
            refine c_i (run_v (As := [.int (0 : Int32), .int v1]) (rest := [.int (20000000 : Int32)]) C hP hS (c_X6_showsOn hw) gX6_wheel_X6_showsOn rfl dsX6_showsOn rfl ⟨rfl, rfl⟩ ⟨Nat.le_of_ble_eq_true rfl, Nat.le_of_ble_eq_true rfl⟩ (by decide) (sM_0 K _) rfl hl.1 rfl (Nat.le_of_ble_eq_true rfl) dX6_wheel_82 ⟨Nat.le_of_ble_eq_true rfl, Nat.le_of_ble_eq_true rfl⟩) hS (fun r_7 M_6 H locs hw hP hS => ?_)
            refine lv_iadd hx hb dX6_wheel_85 ?_
            exact r_i C hP hS hw dX6_wheel_86
          · have hw := hw.2 hs3
            by_cases hs4 : v2 = 4
            · have hw := hw.1 hs4
              refine lv_tableIn (tgt := 87) hx hb dX6_wheel_11 (by rw [hs4]; decide) (by rw [hs4]; decide) (by rw [hs4]; rfl) (by decide) ?_
              refine lv_aload_n hx hb dX6_wheel_87 rfl (lv_at hl 0 rfl) ?_
              refine lv_iconst hx hb dX6_wheel_88 ic_0 ?_
              refine lv_iload_n hx hb dX6_wheel_89 rfl (lv_at hl 1 rfl) ?_
              refine c_i (run_v (As := [.int (0 : Int32), .int v1]) (rest := []) C hP hS (c_X6_errorOn hw) gX6_wheel_X6_errorOn rfl dsX6_errorOn rfl ⟨rfl, rfl⟩ ⟨Nat.le_of_ble_eq_true rfl, Nat.le_of_ble_eq_true rfl⟩ (by decide) (sM_0 K _) rfl hl.1 rfl (Nat.le_of_ble_eq_true rfl) dX6_wheel_90 ⟨Nat.le_of_ble_eq_true rfl, Nat.le_of_ble_eq_true rfl⟩) hS (fun r_9 M_8 H locs hw hP hS => ?_)
              exact r_i C hP hS hw dX6_wheel_93
            · have hw := hw.2 hs4
              have nhs0 : v2.toInt ≠ 0 := ne_toInt hs0
              have nhs1 : v2.toInt ≠ 1 := ne_toInt hs1
              have nhs2 : v2.toInt ≠ 2 := ne_toInt hs2
              have nhs3 : v2.toInt ≠ 3 := ne_toInt hs3
              have nhs4 : v2.toInt ≠ 4 := ne_toInt hs4
              refine lv_tableOut (tgt := 94) hx hb dX6_wheel_11 (by omega) (by decide) ?_
              refine lv_iconst hx hb dX6_wheel_94 ic_m1 ?_
              exact r_i C hP hS hw dX6_wheel_95
  · have hw := hw.2 hc
    refine lv_iconst hx hb dX6_wheel_8 ic_m1 ?_
    exact r_i C hP hS hw dX6_wheel_9

theorem kX6_puts_f7 : Cond.fieldLink RX6 7 (TX6 0).1 (TX6 0).2.1 (TX6 0).2.2.1 ∈ wsX6_puts := List.mem_of_getElem? (i := 1) rfl
theorem hX6_puts_X6 : ∀ w ∈ u_ws RX6 TX6 26, w ∈ wsX6_puts := fun _ h => List.mem_cons_of_mem _ (List.mem_append_right _ (h))
abbrev rmX6_puts : Room := { frames := 0, cells := 0, slots := 0, locals := 0 }
def q_X6_puts (v1 : Int32) (v2 : Int32) (v3 : Int32) (M : Mem) (Q : Int32 → Mem → Prop) : Prop := ((¬ v1 = 0 → vp_in v2 222 ∧ vp_in v2 222 ∧ Q (M 1 v2.toNatClampNeg) (mU M 1 v2.toNatClampNeg v3)) ∧ (v1 = 0 → Q (-1 : Int32) M))
theorem dsX6_puts : yX6_puts.cls = RX6 ∧ yX6_puts.cls ≠ "java/lang/invoke/MethodHandle" ∧ yX6_puts.cls ≠ "java/lang/invoke/VarHandle" ∧ (parseMethodDescriptor yX6_puts.desc).map (fun d => d.parameters.length) = some 3 := by decide +kernel
set_option maxRecDepth 100000 in
set_option maxHeartbeats 4000000 in
theorem c_X6_puts {l : Launch} {K : wC} {v1 : Int32} {v2 : Int32} {v3 : Int32} {M : Mem} {Q : Int32 → Mem → Prop} (hw : q_X6_puts v1 v2 v3 M Q) : metI l yX6_puts wsX6_puts rmX6_puts shM 12 K [.ref (kb K + 0), .int v1, .int v2, .int v3] M Q := by
  refine met_of (cc := cX6_puts) (maxL := 5) (ret := (some .int)) (own := RX6) (by decide) rfl rfl (Nat.le_of_ble_eq_true rfl) ?_
  intro p e s m below meth c ls C hl hP hS
  have hl : lv_has ls 5 [(0, .ref (kb K + 0)), (1, .int v1), (2, .int v2), (3, .int v3)] := hl
  obtain ⟨hx, hb, hml, hown, hts, hr, hlk, hK⟩ := id C
  have hP0 := hP
  delta q_X6_puts at hw
  refine lv_iload_n hx hb dX6_puts_0 rfl (lv_at hl 1 rfl) ?_
  refine lv_if_ne (tgt := 6) hx hb dX6_puts_1 (by decide) (fun hc => ?_) (fun hc => ?_)
  · have hw := hw.1 hc
    refine lv_aload_n hx hb dX6_puts_6 rfl (lv_at hl 0 rfl) ?_
    refine g_f C hP (by decide) (sM_0 K _) rfl hX6_puts_X6 0 (by decide) kX6_puts_f7 rfl dX6_puts_7 ?_
    refine lv_iload_n hx hb dX6_puts_10 rfl (lv_at hl 2 rfl) ?_
    have hi_1 := hw.1
    have hw := hw.2
    refine a_il C hP (by decide) (sM_1 K _) hi_1 rfl dX6_puts_11 ?_
    refine lv_istore (lv' := [(4, .int (M 1 v2.toNatClampNeg)), (0, .ref (kb K + 0)), (1, .int v1), (2, .int v2), (3, .int v3)]) hx hb dX6_puts_12 hl (by decide) rfl (fun ls hl => ?_)
    refine lv_aload_n hx hb dX6_puts_14 rfl (lv_at hl 1 rfl) ?_
    refine g_f C hP (by decide) (sM_0 K _) rfl hX6_puts_X6 0 (by decide) kX6_puts_f7 rfl dX6_puts_15 ?_
    refine lv_iload_n hx hb dX6_puts_18 rfl (lv_at hl 3 rfl) ?_
    refine lv_iload_n hx hb dX6_puts_19 rfl (lv_at hl 4 rfl) ?_
    have hi_2 := hw.1
    have hw := hw.2
    refine a_is C hP hS (by decide) (sM_1 K) hi_2 rfl dX6_puts_20 (fun H locs hP hS => ?_)
    refine lv_iload hx hb dX6_puts_21 (lv_at hl 0 rfl) ?_
    exact r_i C hP hS hw dX6_puts_23
  · have hw := hw.2 hc
    refine lv_iconst hx hb dX6_puts_4 ic_m1 ?_
    exact r_i C hP hS hw dX6_puts_5

theorem kX6_alter_c177 : Cond.constantLong RX6 177 (9) ∈ wsX6_alter := List.mem_of_getElem? (i := 2) rfl
theorem kX6_alter_c175 : Cond.constantLong RX6 175 (3) ∈ wsX6_alter := List.mem_of_getElem? (i := 1) rfl
abbrev rmX6_alter : Room := { frames := 2, cells := 0, slots := 0, locals := 46 }
def f_X6_alter_59 (Q : Int32 → Mem → Prop) (v1 : Int32) (v2 : Int32) (v3 : Int32) (s0 : Int32) (M : Mem) : Prop := q_X6_puts s0 (((23 : Int32) + ((4 : Int32) * v2)) + v1) v3 M (fun r_8 M_7 => Q r_8 M_7)
def f_X6_alter_58 (Q : Int32 → Mem → Prop) (v1 : Int32) (v2 : Int32) (v3 : Int32) (M : Mem) : Prop := f_X6_alter_59 Q v1 v2 v3 (0 : Int32) M
def f_X6_alter_38 (Q : Int32 → Mem → Prop) (v1 : Int32) (v2 : Int32) (v3 : Int32) (s0 : Int32) (M : Mem) : Prop := q_X6_isWheel v1 M (fun r_6 M_5 => ((r_6 = 0 → f_X6_alter_58 Q v1 v2 v3 M_5) ∧ (¬ r_6 = 0 → ((s0 = 0 → f_X6_alter_58 Q v1 v2 v3 M_5) ∧ (¬ s0 = 0 → f_X6_alter_59 Q v1 v2 v3 (1 : Int32) M_5)))))
def f_X6_alter_37 (Q : Int32 → Mem → Prop) (v1 : Int32) (v2 : Int32) (v3 : Int32) (M : Mem) : Prop := f_X6_alter_38 Q v1 v2 v3 (0 : Int32) M
def q_X6_alter (v1 : Int32) (v2 : Int32) (v3 : Int32) (M : Mem) (Q : Int32 → Mem → Prop) : Prop := ((¬ v2 = 0 → ((¬ v2 = (1 : Int32) → f_X6_alter_37 Q v1 v2 v3 M) ∧ (v2 = (1 : Int32) → q_X6_in v3.toInt64 (1 : Int64) (9 : Int64) M (fun r_2 M_1 => ((r_2 = 0 → f_X6_alter_37 Q v1 v2 v3 M_1) ∧ (¬ r_2 = 0 → f_X6_alter_38 Q v1 v2 v3 (1 : Int32) M_1)))))) ∧ (v2 = 0 → q_X6_in v3.toInt64 (0 : Int64) (3 : Int64) M (fun r_4 M_3 => f_X6_alter_38 Q v1 v2 v3 r_4 M_3)))
set_option maxRecDepth 100000 in
set_option maxHeartbeats 4000000 in
theorem b_X6_alter_59 {l : Launch} {K : wC} {Q : Int32 → Mem → Prop} {p : Program} {e : Env} {s : State} {m : MethodId} {args : Array Value} {below : List Frame} {meth : Method} {c : Code} (C : cx 12 K p s m args meth c cX6_alter 5 wsX6_alter RX6 (some .int)) (v1 : Int32) (v2 : Int32) (v3 : Int32) (s0 : Int32) (M : Mem) (H : Heap) (locs : List Loc) (ls : Array Slot) (hw : f_X6_alter_59 Q v1 v2 v3 s0 M) (hP : wP shM 12 K M H) (hS : va_S (wA 12 K) s.heap H locs) (hl : lv_has ls 5 [(1, .int v1), (2, .int v2), (3, .int v3)]) : W p l e rmX6_alter s m args below meth c H locs 0 0 (MQ below (va_Qi Q (wE shM 12 K) (wA 12 K)) args s 0 0 (wA 12 K)) (F0 m 59 ls [.int s0, .ref (kb K + 0)]) := by
  obtain ⟨hx, hb, hml, hown, hts, hr, hlk, hK⟩ := id C
  delta f_X6_alter_59 at hw
  refine lv_bipush hx hb dX6_alter_59 bp_23 ?_
  refine lv_iconst hx hb dX6_alter_61 ic_4 ?_
  refine lv_iload_n hx hb dX6_alter_62 rfl (lv_at hl 1 rfl) ?_
  refine lv_imul hx hb dX6_alter_63 ?_
  refine lv_iadd hx hb dX6_alter_64 ?_
  refine lv_iload_n hx hb dX6_alter_65 rfl (lv_at hl 0 rfl) ?_
  refine lv_iadd hx hb dX6_alter_66 ?_
  refine lv_iload_n hx hb dX6_alter_67 rfl (lv_at hl 2 rfl) ?_
  refine c_i (run_v (As := [.int s0, .int (((23 : Int32) + ((4 : Int32) * v2)) + v1), .int v3]) (rest := []) C hP hS (c_X6_puts hw) gX6_alter_X6_puts rfl dsX6_puts rfl ⟨rfl, rfl⟩ ⟨Nat.le_of_ble_eq_true rfl, Nat.le_of_ble_eq_true rfl⟩ (by decide) (sM_0 K _) rfl hl.1 rfl (Nat.le_of_ble_eq_true rfl) dX6_alter_68 ⟨Nat.le_of_ble_eq_true rfl, Nat.le_of_ble_eq_true rfl⟩) hS (fun r_8 M_7 H locs hw hP hS => ?_)
  exact r_i C hP hS hw dX6_alter_71
set_option maxRecDepth 100000 in
set_option maxHeartbeats 4000000 in
theorem b_X6_alter_58 {l : Launch} {K : wC} {Q : Int32 → Mem → Prop} {p : Program} {e : Env} {s : State} {m : MethodId} {args : Array Value} {below : List Frame} {meth : Method} {c : Code} (C : cx 12 K p s m args meth c cX6_alter 5 wsX6_alter RX6 (some .int)) (v1 : Int32) (v2 : Int32) (v3 : Int32) (M : Mem) (H : Heap) (locs : List Loc) (ls : Array Slot) (hw : f_X6_alter_58 Q v1 v2 v3 M) (hP : wP shM 12 K M H) (hS : va_S (wA 12 K) s.heap H locs) (hl : lv_has ls 5 [(1, .int v1), (2, .int v2), (3, .int v3)]) : W p l e rmX6_alter s m args below meth c H locs 0 0 (MQ below (va_Qi Q (wE shM 12 K) (wA 12 K)) args s 0 0 (wA 12 K)) (F0 m 58 ls [.ref (kb K + 0)]) := by
  obtain ⟨hx, hb, hml, hown, hts, hr, hlk, hK⟩ := id C
  delta f_X6_alter_58 at hw
  refine lv_iconst hx hb dX6_alter_58 ic_0 ?_
  exact b_X6_alter_59 C _ _ _ _ _ _ _ _ hw hP hS (lv_sub hl [0, 1, 2] rfl)
set_option maxRecDepth 100000 in
set_option maxHeartbeats 4000000 in
theorem b_X6_alter_38 {l : Launch} {K : wC} {Q : Int32 → Mem → Prop} {p : Program} {e : Env} {s : State} {m : MethodId} {args : Array Value} {below : List Frame} {meth : Method} {c : Code} (C : cx 12 K p s m args meth c cX6_alter 5 wsX6_alter RX6 (some .int)) (v1 : Int32) (v2 : Int32) (v3 : Int32) (s0 : Int32) (M : Mem) (H : Heap) (locs : List Loc) (ls : Array Slot) (hw : f_X6_alter_38 Q v1 v2 v3 s0 M) (hP : wP shM 12 K M H) (hS : va_S (wA 12 K) s.heap H locs) (hl : lv_has ls 5 [(0, .ref (kb K + 0)), (1, .int v1), (2, .int v2), (3, .int v3)]) : W p l e rmX6_alter s m args below meth c H locs 0 0 (MQ below (va_Qi Q (wE shM 12 K) (wA 12 K)) args s 0 0 (wA 12 K)) (F0 m 38 ls [.int s0]) := by
  obtain ⟨hx, hb, hml, hown, hts, hr, hlk, hK⟩ := id C
  delta f_X6_alter_38 at hw
  refine lv_istore (lv' := [(4, .int s0), (0, .ref (kb K + 0)), (1, .int v1), (2, .int v2), (3, .int v3)]) hx hb dX6_alter_38 hl (by decide) rfl (fun ls hl => ?_)
  refine lv_aload_n hx hb dX6_alter_40 rfl (lv_at hl 1 rfl) ?_
  refine lv_aload_n hx hb dX6_alter_41 rfl (lv_at hl 1 rfl) ?_
  refine lv_iload_n hx hb dX6_alter_42 rfl (lv_at hl 2 rfl) ?_
  refine c_i (run_v (As := [.int v1]) (rest := [.ref (kb K + 0)]) C hP hS (c_X6_isWheel hw) gX6_alter_X6_isWheel rfl dsX6_isWheel rfl ⟨rfl, rfl⟩ ⟨Nat.le_of_ble_eq_true rfl, Nat.le_of_ble_eq_true rfl⟩ (by decide) (sM_0 K _) rfl hl.1 rfl (Nat.le_of_ble_eq_true rfl) dX6_alter_43 ⟨Nat.le_of_ble_eq_true rfl, Nat.le_of_ble_eq_true rfl⟩) hS (fun r_6 M_5 H locs hw hP hS => ?_)
  refine lv_if_eq (tgt := 58) hx hb dX6_alter_46 (by decide) (fun hc => ?_) (fun hc => ?_)
  · have hw := hw.1 hc
    exact b_X6_alter_58 C _ _ _ _ _ _ _ hw hP hS (lv_sub hl [2, 3, 4] rfl)
  · have hw := hw.2 hc
    refine lv_iload hx hb dX6_alter_49 (lv_at hl 0 rfl) ?_
    refine lv_if_eq (tgt := 58) hx hb dX6_alter_51 (by decide) (fun hc => ?_) (fun hc => ?_)
    · have hw := hw.1 hc
      exact b_X6_alter_58 C _ _ _ _ _ _ _ hw hP hS (lv_sub hl [2, 3, 4] rfl)
    · have hw := hw.2 hc
      refine lv_iconst hx hb dX6_alter_54 ic_1 ?_
      refine lv_goto (tgt := 59) hx hb dX6_alter_55 (by decide) ?_
      exact b_X6_alter_59 C _ _ _ _ _ _ _ _ hw hP hS (lv_sub hl [2, 3, 4] rfl)
set_option maxRecDepth 100000 in
set_option maxHeartbeats 4000000 in
theorem b_X6_alter_37 {l : Launch} {K : wC} {Q : Int32 → Mem → Prop} {p : Program} {e : Env} {s : State} {m : MethodId} {args : Array Value} {below : List Frame} {meth : Method} {c : Code} (C : cx 12 K p s m args meth c cX6_alter 5 wsX6_alter RX6 (some .int)) (v1 : Int32) (v2 : Int32) (v3 : Int32) (M : Mem) (H : Heap) (locs : List Loc) (ls : Array Slot) (hw : f_X6_alter_37 Q v1 v2 v3 M) (hP : wP shM 12 K M H) (hS : va_S (wA 12 K) s.heap H locs) (hl : lv_has ls 5 [(0, .ref (kb K + 0)), (1, .int v1), (2, .int v2), (3, .int v3)]) : W p l e rmX6_alter s m args below meth c H locs 0 0 (MQ below (va_Qi Q (wE shM 12 K) (wA 12 K)) args s 0 0 (wA 12 K)) (F0 m 37 ls []) := by
  obtain ⟨hx, hb, hml, hown, hts, hr, hlk, hK⟩ := id C
  delta f_X6_alter_37 at hw
  refine lv_iconst hx hb dX6_alter_37 ic_0 ?_
  exact b_X6_alter_38 C _ _ _ _ _ _ _ _ hw hP hS (lv_sub hl [0, 1, 2, 3] rfl)
theorem dsX6_alter : yX6_alter.cls = RX6 ∧ yX6_alter.cls ≠ "java/lang/invoke/MethodHandle" ∧ yX6_alter.cls ≠ "java/lang/invoke/VarHandle" ∧ (parseMethodDescriptor yX6_alter.desc).map (fun d => d.parameters.length) = some 3 := by decide +kernel
set_option maxRecDepth 100000 in
set_option maxHeartbeats 4000000 in
theorem c_X6_alter {l : Launch} {K : wC} {v1 : Int32} {v2 : Int32} {v3 : Int32} {M : Mem} {Q : Int32 → Mem → Prop} (hw : q_X6_alter v1 v2 v3 M Q) : metI l yX6_alter wsX6_alter rmX6_alter shM 12 K [.ref (kb K + 0), .int v1, .int v2, .int v3] M Q := by
  refine met_of (cc := cX6_alter) (maxL := 5) (ret := (some .int)) (own := RX6) (by decide) rfl rfl (Nat.le_of_ble_eq_true rfl) ?_
  intro p e s m below meth c ls C hl hP hS
  have hl : lv_has ls 5 [(0, .ref (kb K + 0)), (1, .int v1), (2, .int v2), (3, .int v3)] := hl
  obtain ⟨hx, hb, hml, hown, hts, hr, hlk, hK⟩ := id C
  have hP0 := hP
  delta q_X6_alter at hw
  refine lv_iload_n hx hb dX6_alter_0 rfl (lv_at hl 2 rfl) ?_
  refine lv_if_ne (tgt := 16) hx hb dX6_alter_1 (by decide) (fun hc => ?_) (fun hc => ?_)
  · have hw := hw.1 hc
    refine lv_iload_n hx hb dX6_alter_16 rfl (lv_at hl 2 rfl) ?_
    refine lv_iconst hx hb dX6_alter_17 ic_1 ?_
    refine lv_icmp_ne (tgt := 37) hx hb dX6_alter_18 (by decide) (fun hc => ?_) (fun hc => ?_)
    · have hw := hw.1 hc
      exact b_X6_alter_37 C _ _ _ _ _ _ _ hw hP hS (lv_sub hl [0, 1, 2, 3] rfl)
    · have hw := hw.2 hc
      refine lv_iload_n hx hb dX6_alter_21 rfl (lv_at hl 3 rfl) ?_
      refine lv_i2l hx hb dX6_alter_22 rfl ?_
      refine lv_lconst hx hb dX6_alter_23 lc_1 ?_
      refine lv_ldc2 hx hb hown (hts _ kX6_alter_c177) dX6_alter_24 ?_
      refine c_i (run_s (As := [.long v3.toInt64, .long (1 : Int64), .long (9 : Int64)]) (rest := []) C hP hS (c_X6_in hw) gX6_alter_X6_in rfl dsX6_in rfl ⟨rfl, rfl⟩ ⟨Nat.le_of_ble_eq_true rfl, Nat.le_of_ble_eq_true rfl⟩ hl.1 rfl (Nat.le_of_ble_eq_true rfl) dX6_alter_27 ⟨Nat.le_of_ble_eq_true rfl, Nat.le_of_ble_eq_true rfl⟩) hS (fun r_2 M_1 H locs hw hP hS => ?_)
      refine lv_if_eq (tgt := 37) hx hb dX6_alter_30 (by decide) (fun hc => ?_) (fun hc => ?_)
      · have hw := hw.1 hc
        exact b_X6_alter_37 C _ _ _ _ _ _ _ hw hP hS (lv_sub hl [0, 1, 2, 3] rfl)
      · have hw := hw.2 hc
        refine lv_iconst hx hb dX6_alter_33 ic_1 ?_
        refine lv_goto (tgt := 38) hx hb dX6_alter_34 (by decide) ?_
        exact b_X6_alter_38 C _ _ _ _ _ _ _ _ hw hP hS (lv_sub hl [0, 1, 2, 3] rfl)
  · have hw := hw.2 hc
    refine lv_iload_n hx hb dX6_alter_4 rfl (lv_at hl 3 rfl) ?_
    refine lv_i2l hx hb dX6_alter_5 rfl ?_
    refine lv_lconst hx hb dX6_alter_6 lc_0 ?_
    refine lv_ldc2 hx hb hown (hts _ kX6_alter_c175) dX6_alter_7 ?_
    refine c_i (run_s (As := [.long v3.toInt64, .long (0 : Int64), .long (3 : Int64)]) (rest := []) C hP hS (c_X6_in hw) gX6_alter_X6_in rfl dsX6_in rfl ⟨rfl, rfl⟩ ⟨Nat.le_of_ble_eq_true rfl, Nat.le_of_ble_eq_true rfl⟩ hl.1 rfl (Nat.le_of_ble_eq_true rfl) dX6_alter_10 ⟨Nat.le_of_ble_eq_true rfl, Nat.le_of_ble_eq_true rfl⟩) hS (fun r_4 M_3 H locs hw hP hS => ?_)
    refine lv_goto (tgt := 38) hx hb dX6_alter_13 (by decide) ?_
    exact b_X6_alter_38 C _ _ _ _ _ _ _ _ hw hP hS (lv_sub hl [0, 1, 2, 3] rfl)

theorem kX6_put_c175 : Cond.constantLong RX6 175 (3) ∈ wsX6_put := List.mem_of_getElem? (i := 1) rfl
theorem kX6_put_c177 : Cond.constantLong RX6 177 (9) ∈ wsX6_put := List.mem_of_getElem? (i := 2) rfl
theorem kX6_put_f7 : Cond.fieldLink RX6 7 (TX6 0).1 (TX6 0).2.1 (TX6 0).2.2.1 ∈ wsX6_put := List.mem_of_getElem? (i := 3) rfl
theorem hX6_put_X6 : ∀ w ∈ u_ws RX6 TX6 26, w ∈ wsX6_put := fun _ h => List.mem_cons_of_mem _ (List.mem_append_right _ (h))
abbrev rmX6_put : Room := { frames := 1, cells := 0, slots := 0, locals := 25 }
def q_X6_put (v1 : Int32) (v2 : Int32) (M : Mem) (Q : Int32 → Mem → Prop) : Prop := q_X6_in v1.toInt64 (0 : Int64) (3 : Int64) M (fun r_2 M_1 => ((r_2 = 0 → Q (-1 : Int32) M_1) ∧ (¬ r_2 = 0 → q_X6_in v2.toInt64 (1 : Int64) (9 : Int64) M_1 (fun r_4 M_3 => ((¬ r_4 = 0 → ((¬ (M_3 1 35) = (4 : Int32) → vp_in ((23 : Int32) + (M_3 1 35)) 222 ∧ vp_in ((27 : Int32) + (M_3 1 35)) 222 ∧ (∀ M_7 : Mem, M_7 = mU (mU M_3 1 ((23 : Int32) + (M_3 1 35)).toNatClampNeg v1) 1 ((27 : Int32) + (M_3 1 35)).toNatClampNeg v2 → vp_in ((31 : Int32) + (M_3 1 35)) 222 ∧ (∀ M_9 : Mem, M_9 = mU (mU M_7 1 ((31 : Int32) + (M_3 1 35)).toNatClampNeg (0 : Int32)) 1 35 (((mU M_7 1 ((31 : Int32) + (M_3 1 35)).toNatClampNeg (0 : Int32)) 1 35) + (1 : Int32)) → Q (M_9 1 35) M_9))) ∧ ((M_3 1 35) = (4 : Int32) → Q (-3 : Int32) M_3))) ∧ (r_4 = 0 → Q (-1 : Int32) M_3))))))
theorem dsX6_put : yX6_put.cls = RX6 ∧ yX6_put.cls ≠ "java/lang/invoke/MethodHandle" ∧ yX6_put.cls ≠ "java/lang/invoke/VarHandle" ∧ (parseMethodDescriptor yX6_put.desc).map (fun d => d.parameters.length) = some 2 := by decide +kernel
set_option maxRecDepth 100000 in
set_option maxHeartbeats 4000000 in
theorem c_X6_put {l : Launch} {K : wC} {v1 : Int32} {v2 : Int32} {M : Mem} {Q : Int32 → Mem → Prop} (hw : q_X6_put v1 v2 M Q) : metI l yX6_put wsX6_put rmX6_put shM 12 K [.ref (kb K + 0), .int v1, .int v2] M Q := by
  refine met_of (cc := cX6_put) (maxL := 4) (ret := (some .int)) (own := RX6) (by decide) rfl rfl (Nat.le_of_ble_eq_true rfl) ?_
  intro p e s m below meth c ls C hl hP hS
  have hl : lv_has ls 4 [(0, .ref (kb K + 0)), (1, .int v1), (2, .int v2)] := hl
  obtain ⟨hx, hb, hml, hown, hts, hr, hlk, hK⟩ := id C
  have hP0 := hP
  delta q_X6_put at hw
  refine lv_iload_n hx hb dX6_put_0 rfl (lv_at hl 1 rfl) ?_
  refine lv_i2l hx hb dX6_put_1 rfl ?_
  refine lv_lconst hx hb dX6_put_2 lc_0 ?_
  refine lv_ldc2 hx hb hown (hts _ kX6_put_c175) dX6_put_3 ?_
  refine c_i (run_s (As := [.long v1.toInt64, .long (0 : Int64), .long (3 : Int64)]) (rest := []) C hP hS (c_X6_in hw) gX6_put_X6_in rfl dsX6_in rfl ⟨rfl, rfl⟩ ⟨Nat.le_of_ble_eq_true rfl, Nat.le_of_ble_eq_true rfl⟩ hl.1 rfl (Nat.le_of_ble_eq_true rfl) dX6_put_6 ⟨Nat.le_of_ble_eq_true rfl, Nat.le_of_ble_eq_true rfl⟩) hS (fun r_2 M_1 H locs hw hP hS => ?_)
  refine lv_if_eq (tgt := 24) hx hb dX6_put_9 (by decide) (fun hc => ?_) (fun hc => ?_)
  · have hw := hw.1 hc
    refine lv_iconst hx hb dX6_put_24 ic_m1 ?_
    exact r_i C hP hS hw dX6_put_25
  · have hw := hw.2 hc
    refine lv_iload_n hx hb dX6_put_12 rfl (lv_at hl 2 rfl) ?_
    refine lv_i2l hx hb dX6_put_13 rfl ?_
    refine lv_lconst hx hb dX6_put_14 lc_1 ?_
    refine lv_ldc2 hx hb hown (hts _ kX6_put_c177) dX6_put_15 ?_
    refine c_i (run_s (As := [.long v2.toInt64, .long (1 : Int64), .long (9 : Int64)]) (rest := []) C hP hS (c_X6_in hw) gX6_put_X6_in rfl dsX6_in rfl ⟨rfl, rfl⟩ ⟨Nat.le_of_ble_eq_true rfl, Nat.le_of_ble_eq_true rfl⟩ hl.1 rfl (Nat.le_of_ble_eq_true rfl) dX6_put_18 ⟨Nat.le_of_ble_eq_true rfl, Nat.le_of_ble_eq_true rfl⟩) hS (fun r_4 M_3 H locs hw hP hS => ?_)
    refine lv_if_ne (tgt := 26) hx hb dX6_put_21 (by decide) (fun hc => ?_) (fun hc => ?_)
    · have hw := hw.1 hc
      refine lv_aload_n hx hb dX6_put_26 rfl (lv_at hl 0 rfl) ?_
      refine g_f C hP (by decide) (sM_0 K _) rfl hX6_put_X6 0 (by decide) kX6_put_f7 rfl dX6_put_27 ?_
      refine lv_bipush hx hb dX6_put_30 bp_35 ?_
      refine a_il C hP (by decide) (sM_1 K _) vi_35_222 ti_35 dX6_put_32 ?_
      refine lv_istore_n (lv' := [(3, .int (M_3 1 35)), (0, .ref (kb K + 0)), (1, .int v1), (2, .int v2)]) hx hb dX6_put_33 rfl hl (by decide) rfl (fun ls hl => ?_)
      refine lv_iload_n hx hb dX6_put_34 rfl (lv_at hl 0 rfl) ?_
      refine lv_iconst hx hb dX6_put_35 ic_4 ?_
      refine lv_icmp_ne (tgt := 42) hx hb dX6_put_36 (by decide) (fun hc => ?_) (fun hc => ?_)
      · have hw := hw.1 hc
        refine lv_aload_n hx hb dX6_put_42 rfl (lv_at hl 1 rfl) ?_
        refine g_f C hP (by decide) (sM_0 K _) rfl hX6_put_X6 0 (by decide) kX6_put_f7 rfl dX6_put_43 ?_
        refine lv_bipush hx hb dX6_put_46 bp_23 ?_
        refine lv_iload_n hx hb dX6_put_48 rfl (lv_at hl 0 rfl) ?_
        refine lv_iadd hx hb dX6_put_49 ?_
        refine lv_iload_n hx hb dX6_put_50 rfl (lv_at hl 2 rfl) ?_
        have hi_5 := hw.1
        have hw := hw.2
        refine a_is C hP hS (by decide) (sM_1 K) hi_5 rfl dX6_put_51 (fun H locs hP hS => ?_)
        refine lv_aload_n hx hb dX6_put_52 rfl (lv_at hl 1 rfl) ?_
        refine g_f C hP (by decide) (sM_0 K _) rfl hX6_put_X6 0 (by decide) kX6_put_f7 rfl dX6_put_53 ?_
        refine lv_bipush hx hb dX6_put_56 bp_27 ?_
        refine lv_iload_n hx hb dX6_put_58 rfl (lv_at hl 0 rfl) ?_
        refine lv_iadd hx hb dX6_put_59 ?_
        refine lv_iload_n hx hb dX6_put_60 rfl (lv_at hl 3 rfl) ?_
        have hi_6 := hw.1
        have hw := hw.2
        refine a_is C hP hS (by decide) (sM_1 K) hi_6 rfl dX6_put_61 (fun H locs hP hS => ?_)
        obtain ⟨M_7, eM_7⟩ : ∃ z : Mem, z = mU (mU M_3 1 ((23 : Int32) + (M_3 1 35)).toNatClampNeg v1) 1 ((27 : Int32) + (M_3 1 35)).toNatClampNeg v2 := ⟨_, rfl⟩
        rw [← eM_7] at hP
        have hw := hw M_7 eM_7
        refine lv_aload_n hx hb dX6_put_62 rfl (lv_at hl 1 rfl) ?_
        refine g_f C hP (by decide) (sM_0 K _) rfl hX6_put_X6 0 (by decide) kX6_put_f7 rfl dX6_put_63 ?_
        refine lv_bipush hx hb dX6_put_66 bp_31 ?_
        refine lv_iload_n hx hb dX6_put_68 rfl (lv_at hl 0 rfl) ?_
        refine lv_iadd hx hb dX6_put_69 ?_
        refine lv_iconst hx hb dX6_put_70 ic_0 ?_
        have hi_8 := hw.1
        have hw := hw.2
        refine a_is C hP hS (by decide) (sM_1 K) hi_8 rfl dX6_put_71 (fun H locs hP hS => ?_)
        refine lv_aload_n hx hb dX6_put_72 rfl (lv_at hl 1 rfl) ?_
        refine g_f C hP (by decide) (sM_0 K _) rfl hX6_put_X6 0 (by decide) kX6_put_f7 rfl dX6_put_73 ?_
        refine lv_bipush hx hb dX6_put_76 bp_35 ?_
        refine lv_dup2_11 hx hb dX6_put_78 rfl rfl ?_
        refine a_il C hP (by decide) (sM_1 K _) vi_35_222 ti_35 dX6_put_79 ?_
        refine lv_iconst hx hb dX6_put_80 ic_1 ?_
        refine lv_iadd hx hb dX6_put_81 ?_
        refine a_is C hP hS (by decide) (sM_1 K) vi_35_222 ti_35 dX6_put_82 (fun H locs hP hS => ?_)
        obtain ⟨M_9, eM_9⟩ : ∃ z : Mem, z = mU (mU M_7 1 ((31 : Int32) + (M_3 1 35)).toNatClampNeg (0 : Int32)) 1 35 (((mU M_7 1 ((31 : Int32) + (M_3 1 35)).toNatClampNeg (0 : Int32)) 1 35) + (1 : Int32)) := ⟨_, rfl⟩
        rw [← eM_9] at hP
        have hw := hw M_9 eM_9
        refine lv_aload_n hx hb dX6_put_83 rfl (lv_at hl 1 rfl) ?_
        refine g_f C hP (by decide) (sM_0 K _) rfl hX6_put_X6 0 (by decide) kX6_put_f7 rfl dX6_put_84 ?_
        refine lv_bipush hx hb dX6_put_87 bp_35 ?_
        refine a_il C hP (by decide) (sM_1 K _) vi_35_222 ti_35 dX6_put_89 ?_
        exact r_i C hP hS hw dX6_put_90
      · have hw := hw.2 hc
        refine lv_bipush hx hb dX6_put_39 bp_m3 ?_
        exact r_i C hP hS hw dX6_put_41
    · have hw := hw.2 hc
      refine lv_iconst hx hb dX6_put_24 ic_m1 ?_
      exact r_i C hP hS hw dX6_put_25

theorem kX6_cut_f7 : Cond.fieldLink RX6 7 (TX6 0).1 (TX6 0).2.1 (TX6 0).2.2.1 ∈ wsX6_cut := List.mem_of_getElem? (i := 1) rfl
theorem hX6_cut_X6 : ∀ w ∈ u_ws RX6 TX6 26, w ∈ wsX6_cut := fun _ h => List.mem_cons_of_mem _ (List.mem_append_right _ (h))
abbrev rmX6_cut : Room := { frames := 1, cells := 0, slots := 0, locals := 25 }
def q_X6_cut (v1 : Int32) (M : Mem) (Q : Int32 → Mem → Prop) : Prop := q_X6_in v1.toInt64 (0 : Int64) (M 1 35).toInt64 M (fun r_2 M_1 => q_X6_puts r_2 (35 : Int32) v1 M_1 (fun r_4 M_3 => Q r_4 M_3))
theorem dsX6_cut : yX6_cut.cls = RX6 ∧ yX6_cut.cls ≠ "java/lang/invoke/MethodHandle" ∧ yX6_cut.cls ≠ "java/lang/invoke/VarHandle" ∧ (parseMethodDescriptor yX6_cut.desc).map (fun d => d.parameters.length) = some 1 := by decide +kernel
set_option maxRecDepth 100000 in
set_option maxHeartbeats 4000000 in
theorem c_X6_cut {l : Launch} {K : wC} {v1 : Int32} {M : Mem} {Q : Int32 → Mem → Prop} (hw : q_X6_cut v1 M Q) : metI l yX6_cut wsX6_cut rmX6_cut shM 12 K [.ref (kb K + 0), .int v1] M Q := by
  refine met_of (cc := cX6_cut) (maxL := 2) (ret := (some .int)) (own := RX6) (by decide) rfl rfl (Nat.le_of_ble_eq_true rfl) ?_
  intro p e s m below meth c ls C hl hP hS
  have hl : lv_has ls 2 [(0, .ref (kb K + 0)), (1, .int v1)] := hl
  obtain ⟨hx, hb, hml, hown, hts, hr, hlk, hK⟩ := id C
  have hP0 := hP
  delta q_X6_cut at hw
  refine lv_aload_n hx hb dX6_cut_0 rfl (lv_at hl 0 rfl) ?_
  refine lv_iload_n hx hb dX6_cut_1 rfl (lv_at hl 1 rfl) ?_
  refine lv_i2l hx hb dX6_cut_2 rfl ?_
  refine lv_lconst hx hb dX6_cut_3 lc_0 ?_
  refine lv_aload_n hx hb dX6_cut_4 rfl (lv_at hl 0 rfl) ?_
  refine g_f C hP (by decide) (sM_0 K _) rfl hX6_cut_X6 0 (by decide) kX6_cut_f7 rfl dX6_cut_5 ?_
  refine lv_bipush hx hb dX6_cut_8 bp_35 ?_
  refine a_il C hP (by decide) (sM_1 K _) vi_35_222 ti_35 dX6_cut_10 ?_
  refine lv_i2l hx hb dX6_cut_11 rfl ?_
  refine c_i (run_s (As := [.long v1.toInt64, .long (0 : Int64), .long (M 1 35).toInt64]) (rest := [.ref (kb K + 0)]) C hP hS (c_X6_in hw) gX6_cut_X6_in rfl dsX6_in rfl ⟨rfl, rfl⟩ ⟨Nat.le_of_ble_eq_true rfl, Nat.le_of_ble_eq_true rfl⟩ hl.1 rfl (Nat.le_of_ble_eq_true rfl) dX6_cut_12 ⟨Nat.le_of_ble_eq_true rfl, Nat.le_of_ble_eq_true rfl⟩) hS (fun r_2 M_1 H locs hw hP hS => ?_)
  refine lv_bipush hx hb dX6_cut_15 bp_35 ?_
  refine lv_iload_n hx hb dX6_cut_17 rfl (lv_at hl 1 rfl) ?_
  refine c_i (run_v (As := [.int r_2, .int (35 : Int32), .int v1]) (rest := []) C hP hS (c_X6_puts hw) gX6_cut_X6_puts rfl dsX6_puts rfl ⟨rfl, rfl⟩ ⟨Nat.le_of_ble_eq_true rfl, Nat.le_of_ble_eq_true rfl⟩ (by decide) (sM_0 K _) rfl hl.1 rfl (Nat.le_of_ble_eq_true rfl) dX6_cut_18 ⟨Nat.le_of_ble_eq_true rfl, Nat.le_of_ble_eq_true rfl⟩) hS (fun r_4 M_3 H locs hw hP hS => ?_)
  exact r_i C hP hS hw dX6_cut_21

theorem kX6_zero_c168 : Cond.constant RX6 168 (20000000) ∈ wsX6_zero := List.mem_of_getElem? (i := 1) rfl
abbrev rmX6_zero : Room := { frames := 2, cells := 0, slots := 0, locals := 46 }
def q_X6_zero (v1 : Int32) (M : Mem) (Q : Int32 → Mem → Prop) : Prop := q_X6_isWheel v1 M (fun r_2 M_1 => ((r_2 = 0 → Q (-1 : Int32) M_1) ∧ (¬ r_2 = 0 → q_X6_puts (1 : Int32) ((31 : Int32) + v1) (0 : Int32) M_1 (fun r_4 M_3 => Q ((20000000 : Int32) + r_4) M_3))))
theorem dsX6_zero : yX6_zero.cls = RX6 ∧ yX6_zero.cls ≠ "java/lang/invoke/MethodHandle" ∧ yX6_zero.cls ≠ "java/lang/invoke/VarHandle" ∧ (parseMethodDescriptor yX6_zero.desc).map (fun d => d.parameters.length) = some 1 := by decide +kernel
set_option maxRecDepth 100000 in
set_option maxHeartbeats 4000000 in
theorem c_X6_zero {l : Launch} {K : wC} {v1 : Int32} {M : Mem} {Q : Int32 → Mem → Prop} (hw : q_X6_zero v1 M Q) : metI l yX6_zero wsX6_zero rmX6_zero shM 12 K [.ref (kb K + 0), .int v1] M Q := by
  refine met_of (cc := cX6_zero) (maxL := 2) (ret := (some .int)) (own := RX6) (by decide) rfl rfl (Nat.le_of_ble_eq_true rfl) ?_
  intro p e s m below meth c ls C hl hP hS
  have hl : lv_has ls 2 [(0, .ref (kb K + 0)), (1, .int v1)] := hl
  obtain ⟨hx, hb, hml, hown, hts, hr, hlk, hK⟩ := id C
  have hP0 := hP
  delta q_X6_zero at hw
  refine lv_aload_n hx hb dX6_zero_0 rfl (lv_at hl 0 rfl) ?_
  refine lv_iload_n hx hb dX6_zero_1 rfl (lv_at hl 1 rfl) ?_
  refine c_i (run_v (As := [.int v1]) (rest := []) C hP hS (c_X6_isWheel hw) gX6_zero_X6_isWheel rfl dsX6_isWheel rfl ⟨rfl, rfl⟩ ⟨Nat.le_of_ble_eq_true rfl, Nat.le_of_ble_eq_true rfl⟩ (by decide) (sM_0 K _) rfl hl.1 rfl (Nat.le_of_ble_eq_true rfl) dX6_zero_2 ⟨Nat.le_of_ble_eq_true rfl, Nat.le_of_ble_eq_true rfl⟩) hS (fun r_2 M_1 H locs hw hP hS => ?_)
  refine lv_if_eq (tgt := 24) hx hb dX6_zero_5 (by decide) (fun hc => ?_) (fun hc => ?_)
  · have hw := hw.1 hc
    refine lv_iconst hx hb dX6_zero_24 ic_m1 ?_
    exact r_i C hP hS hw dX6_zero_25
  · have hw := hw.2 hc
    refine lv_ldc hx hb hown (hts _ kX6_zero_c168) dX6_zero_8 ?_
    refine lv_aload_n hx hb dX6_zero_10 rfl (lv_at hl 0 rfl) ?_
    refine lv_iconst hx hb dX6_zero_11 ic_1 ?_
    refine lv_bipush hx hb dX6_zero_12 bp_31 ?_
    refine lv_iload_n hx hb dX6_zero_14 rfl (lv_at hl 1 rfl) ?_
    refine lv_iadd hx hb dX6_zero_15 ?_
    refine lv_iconst hx hb dX6_zero_16 ic_0 ?_
    refine c_i (run_v (As := [.int (1 : Int32), .int ((31 : Int32) + v1), .int (0 : Int32)]) (rest := [.int (20000000 : Int32)]) C hP hS (c_X6_puts hw) gX6_zero_X6_puts rfl dsX6_puts rfl ⟨rfl, rfl⟩ ⟨Nat.le_of_ble_eq_true rfl, Nat.le_of_ble_eq_true rfl⟩ (by decide) (sM_0 K _) rfl hl.1 rfl (Nat.le_of_ble_eq_true rfl) dX6_zero_17 ⟨Nat.le_of_ble_eq_true rfl, Nat.le_of_ble_eq_true rfl⟩) hS (fun r_4 M_3 H locs hw hP hS => ?_)
    refine lv_iadd hx hb dX6_zero_20 ?_
    refine lv_goto (tgt := 25) hx hb dX6_zero_21 (by decide) ?_
    exact r_i C hP hS hw dX6_zero_25

theorem kX6_movesTo_f7 : Cond.fieldLink RX6 7 (TX6 0).1 (TX6 0).2.1 (TX6 0).2.2.1 ∈ wsX6_movesTo := List.mem_of_getElem? (i := 1) rfl
theorem hX6_movesTo_X6 : ∀ w ∈ u_ws RX6 TX6 26, w ∈ wsX6_movesTo := fun _ h => List.mem_cons_of_mem _ (List.mem_append_right _ (h))
abbrev rmX6_movesTo : Room := { frames := 0, cells := 0, slots := 0, locals := 0 }
def q_X6_movesTo (v1 : Int32) (v2 : Int32) (v3 : Int32) (v4 : Int32) (M : Mem) (Q : Int32 → Mem → Prop) : Prop := vp_in v1 222 ∧ vp_in v2 222 ∧ (∀ x_3 : Int32, x_3 = (((100 : Int32) * (M 1 v1.toNatClampNeg)) + (M 1 v2.toNatClampNeg)) → vp_in v1 222 ∧ vp_in v2 222 ∧ Q x_3 (mU (mU M 1 v1.toNatClampNeg v3) 1 v2.toNatClampNeg v4))
theorem dsX6_movesTo : yX6_movesTo.cls = RX6 ∧ yX6_movesTo.cls ≠ "java/lang/invoke/MethodHandle" ∧ yX6_movesTo.cls ≠ "java/lang/invoke/VarHandle" ∧ (parseMethodDescriptor yX6_movesTo.desc).map (fun d => d.parameters.length) = some 4 := by decide +kernel
set_option maxRecDepth 100000 in
set_option maxHeartbeats 4000000 in
theorem c_X6_movesTo {l : Launch} {K : wC} {v1 : Int32} {v2 : Int32} {v3 : Int32} {v4 : Int32} {M : Mem} {Q : Int32 → Mem → Prop} (hw : q_X6_movesTo v1 v2 v3 v4 M Q) : metI l yX6_movesTo wsX6_movesTo rmX6_movesTo shM 12 K [.ref (kb K + 0), .int v1, .int v2, .int v3, .int v4] M Q := by
  refine met_of (cc := cX6_movesTo) (maxL := 6) (ret := (some .int)) (own := RX6) (by decide) rfl rfl (Nat.le_of_ble_eq_true rfl) ?_
  intro p e s m below meth c ls C hl hP hS
  have hl : lv_has ls 6 [(0, .ref (kb K + 0)), (1, .int v1), (2, .int v2), (3, .int v3), (4, .int v4)] := hl
  obtain ⟨hx, hb, hml, hown, hts, hr, hlk, hK⟩ := id C
  have hP0 := hP
  delta q_X6_movesTo at hw
  refine lv_bipush hx hb dX6_movesTo_0 bp_100 ?_
  refine lv_aload_n hx hb dX6_movesTo_2 rfl (lv_at hl 0 rfl) ?_
  refine g_f C hP (by decide) (sM_0 K _) rfl hX6_movesTo_X6 0 (by decide) kX6_movesTo_f7 rfl dX6_movesTo_3 ?_
  refine lv_iload_n hx hb dX6_movesTo_6 rfl (lv_at hl 1 rfl) ?_
  have hi_1 := hw.1
  have hw := hw.2
  refine a_il C hP (by decide) (sM_1 K _) hi_1 rfl dX6_movesTo_7 ?_
  refine lv_imul hx hb dX6_movesTo_8 ?_
  refine lv_aload_n hx hb dX6_movesTo_9 rfl (lv_at hl 0 rfl) ?_
  refine g_f C hP (by decide) (sM_0 K _) rfl hX6_movesTo_X6 0 (by decide) kX6_movesTo_f7 rfl dX6_movesTo_10 ?_
  refine lv_iload_n hx hb dX6_movesTo_13 rfl (lv_at hl 2 rfl) ?_
  have hi_2 := hw.1
  have hw := hw.2
  refine a_il C hP (by decide) (sM_1 K _) hi_2 rfl dX6_movesTo_14 ?_
  refine lv_iadd hx hb dX6_movesTo_15 ?_
  refine lv_topi (fun x_3 ex_3 => ?_)
  have hw := hw x_3 ex_3
  refine lv_istore (lv' := [(5, .int x_3), (0, .ref (kb K + 0)), (1, .int v1), (2, .int v2), (3, .int v3), (4, .int v4)]) hx hb dX6_movesTo_16 hl (by decide) rfl (fun ls hl => ?_)
  refine lv_aload_n hx hb dX6_movesTo_18 rfl (lv_at hl 1 rfl) ?_
  refine g_f C hP (by decide) (sM_0 K _) rfl hX6_movesTo_X6 0 (by decide) kX6_movesTo_f7 rfl dX6_movesTo_19 ?_
  refine lv_iload_n hx hb dX6_movesTo_22 rfl (lv_at hl 2 rfl) ?_
  refine lv_iload_n hx hb dX6_movesTo_23 rfl (lv_at hl 4 rfl) ?_
  have hi_4 := hw.1
  have hw := hw.2
  refine a_is C hP hS (by decide) (sM_1 K) hi_4 rfl dX6_movesTo_24 (fun H locs hP hS => ?_)
  refine lv_aload_n hx hb dX6_movesTo_25 rfl (lv_at hl 1 rfl) ?_
  refine g_f C hP (by decide) (sM_0 K _) rfl hX6_movesTo_X6 0 (by decide) kX6_movesTo_f7 rfl dX6_movesTo_26 ?_
  refine lv_iload_n hx hb dX6_movesTo_29 rfl (lv_at hl 3 rfl) ?_
  refine lv_iload hx hb dX6_movesTo_30 (lv_at hl 5 rfl) ?_
  have hi_5 := hw.1
  have hw := hw.2
  refine a_is C hP hS (by decide) (sM_1 K) hi_5 rfl dX6_movesTo_32 (fun H locs hP hS => ?_)
  refine lv_iload hx hb dX6_movesTo_33 (lv_at hl 0 rfl) ?_
  exact r_i C hP hS hw dX6_movesTo_35

abbrev rmX6_shift : Room := { frames := 2, cells := 0, slots := 0, locals := 46 }
def q_X6_shift (v1 : Int32) (v2 : Int32) (v3 : Int32) (M : Mem) (Q : Int32 → Mem → Prop) : Prop := q_X6_isCorner v1 M (fun r_2 M_1 => ((r_2 = 0 → Q (-1 : Int32) M_1) ∧ (¬ r_2 = 0 → q_X6_isPoint v2 v3 M_1 (fun r_4 M_3 => ((r_4 = 0 → Q (-1 : Int32) M_3) ∧ (¬ r_4 = 0 → q_X6_movesTo v1 ((10 : Int32) + v1) v2 v3 M_3 (fun r_6 M_5 => Q r_6 M_5)))))))
theorem dsX6_shift : yX6_shift.cls = RX6 ∧ yX6_shift.cls ≠ "java/lang/invoke/MethodHandle" ∧ yX6_shift.cls ≠ "java/lang/invoke/VarHandle" ∧ (parseMethodDescriptor yX6_shift.desc).map (fun d => d.parameters.length) = some 3 := by decide +kernel
set_option maxRecDepth 100000 in
set_option maxHeartbeats 4000000 in
theorem c_X6_shift {l : Launch} {K : wC} {v1 : Int32} {v2 : Int32} {v3 : Int32} {M : Mem} {Q : Int32 → Mem → Prop} (hw : q_X6_shift v1 v2 v3 M Q) : metI l yX6_shift wsX6_shift rmX6_shift shM 12 K [.ref (kb K + 0), .int v1, .int v2, .int v3] M Q := by
  refine met_of (cc := cX6_shift) (maxL := 4) (ret := (some .int)) (own := RX6) (by decide) rfl rfl (Nat.le_of_ble_eq_true rfl) ?_
  intro p e s m below meth c ls C hl hP hS
  have hl : lv_has ls 4 [(0, .ref (kb K + 0)), (1, .int v1), (2, .int v2), (3, .int v3)] := hl
  obtain ⟨hx, hb, hml, hown, hts, hr, hlk, hK⟩ := id C
  have hP0 := hP
  delta q_X6_shift at hw
  refine lv_aload_n hx hb dX6_shift_0 rfl (lv_at hl 0 rfl) ?_
  refine lv_iload_n hx hb dX6_shift_1 rfl (lv_at hl 1 rfl) ?_
  refine c_i (run_v (As := [.int v1]) (rest := []) C hP hS (c_X6_isCorner hw) gX6_shift_X6_isCorner rfl dsX6_isCorner rfl ⟨rfl, rfl⟩ ⟨Nat.le_of_ble_eq_true rfl, Nat.le_of_ble_eq_true rfl⟩ (by decide) (sM_0 K _) rfl hl.1 rfl (Nat.le_of_ble_eq_true rfl) dX6_shift_2 ⟨Nat.le_of_ble_eq_true rfl, Nat.le_of_ble_eq_true rfl⟩) hS (fun r_2 M_1 H locs hw hP hS => ?_)
  refine lv_if_eq (tgt := 30) hx hb dX6_shift_5 (by decide) (fun hc => ?_) (fun hc => ?_)
  · have hw := hw.1 hc
    refine lv_iconst hx hb dX6_shift_30 ic_m1 ?_
    exact r_i C hP hS hw dX6_shift_31
  · have hw := hw.2 hc
    refine lv_iload_n hx hb dX6_shift_8 rfl (lv_at hl 2 rfl) ?_
    refine lv_iload_n hx hb dX6_shift_9 rfl (lv_at hl 3 rfl) ?_
    refine c_i (run_s (As := [.int v2, .int v3]) (rest := []) C hP hS (c_X6_isPoint hw) gX6_shift_X6_isPoint rfl dsX6_isPoint rfl ⟨rfl, rfl⟩ ⟨Nat.le_of_ble_eq_true rfl, Nat.le_of_ble_eq_true rfl⟩ hl.1 rfl (Nat.le_of_ble_eq_true rfl) dX6_shift_10 ⟨Nat.le_of_ble_eq_true rfl, Nat.le_of_ble_eq_true rfl⟩) hS (fun r_4 M_3 H locs hw hP hS => ?_)
    refine lv_if_eq (tgt := 30) hx hb dX6_shift_13 (by decide) (fun hc => ?_) (fun hc => ?_)
    · have hw := hw.1 hc
      refine lv_iconst hx hb dX6_shift_30 ic_m1 ?_
      exact r_i C hP hS hw dX6_shift_31
    · have hw := hw.2 hc
      refine lv_aload_n hx hb dX6_shift_16 rfl (lv_at hl 0 rfl) ?_
      refine lv_iload_n hx hb dX6_shift_17 rfl (lv_at hl 1 rfl) ?_
      refine lv_bipush hx hb dX6_shift_18 bp_10 ?_
      refine lv_iload_n hx hb dX6_shift_20 rfl (lv_at hl 1 rfl) ?_
      refine lv_iadd hx hb dX6_shift_21 ?_
      refine lv_iload_n hx hb dX6_shift_22 rfl (lv_at hl 2 rfl) ?_
      refine lv_iload_n hx hb dX6_shift_23 rfl (lv_at hl 3 rfl) ?_
      refine c_i (run_v (As := [.int v1, .int ((10 : Int32) + v1), .int v2, .int v3]) (rest := []) C hP hS (c_X6_movesTo hw) gX6_shift_X6_movesTo rfl dsX6_movesTo rfl ⟨rfl, rfl⟩ ⟨Nat.le_of_ble_eq_true rfl, Nat.le_of_ble_eq_true rfl⟩ (by decide) (sM_0 K _) rfl hl.1 rfl (Nat.le_of_ble_eq_true rfl) dX6_shift_24 ⟨Nat.le_of_ble_eq_true rfl, Nat.le_of_ble_eq_true rfl⟩) hS (fun r_6 M_5 H locs hw hP hS => ?_)
      refine lv_goto (tgt := 31) hx hb dX6_shift_27 (by decide) ?_
      exact r_i C hP hS hw dX6_shift_31

theorem kX6_adds_f7 : Cond.fieldLink RX6 7 (TX6 0).1 (TX6 0).2.1 (TX6 0).2.2.1 ∈ wsX6_adds := List.mem_of_getElem? (i := 1) rfl
theorem hX6_adds_X6 : ∀ w ∈ u_ws RX6 TX6 26, w ∈ wsX6_adds := fun _ h => List.mem_cons_of_mem _ (List.mem_append_right _ (h))
abbrev rmX6_adds : Room := { frames := 2, cells := 0, slots := 0, locals := 46 }
def q_X6_adds (v1 : Int32) (v2 : Int32) (M : Mem) (Q : Int32 → Mem → Prop) : Prop := q_X6_isPoint v1 v2 M (fun r_2 M_1 => ((¬ r_2 = 0 → ((¬ (M_1 1 20) = (10 : Int32) → vp_in (M_1 1 20) 222 ∧ vp_in ((10 : Int32) + (M_1 1 20)) 222 ∧ (∀ M_5 : Mem, M_5 = mU (mU M_1 1 (M_1 1 20).toNatClampNeg v1) 1 ((10 : Int32) + (M_1 1 20)).toNatClampNeg v2 → Q ((mU M_5 1 20 ((M_5 1 20) + (1 : Int32))) 1 20) (mU M_5 1 20 ((M_5 1 20) + (1 : Int32))))) ∧ ((M_1 1 20) = (10 : Int32) → Q (-3 : Int32) M_1))) ∧ (r_2 = 0 → Q (-1 : Int32) M_1)))
theorem dsX6_adds : yX6_adds.cls = RX6 ∧ yX6_adds.cls ≠ "java/lang/invoke/MethodHandle" ∧ yX6_adds.cls ≠ "java/lang/invoke/VarHandle" ∧ (parseMethodDescriptor yX6_adds.desc).map (fun d => d.parameters.length) = some 2 := by decide +kernel
set_option maxRecDepth 100000 in
set_option maxHeartbeats 4000000 in
theorem c_X6_adds {l : Launch} {K : wC} {v1 : Int32} {v2 : Int32} {M : Mem} {Q : Int32 → Mem → Prop} (hw : q_X6_adds v1 v2 M Q) : metI l yX6_adds wsX6_adds rmX6_adds shM 12 K [.ref (kb K + 0), .int v1, .int v2] M Q := by
  refine met_of (cc := cX6_adds) (maxL := 4) (ret := (some .int)) (own := RX6) (by decide) rfl rfl (Nat.le_of_ble_eq_true rfl) ?_
  intro p e s m below meth c ls C hl hP hS
  have hl : lv_has ls 4 [(0, .ref (kb K + 0)), (1, .int v1), (2, .int v2)] := hl
  obtain ⟨hx, hb, hml, hown, hts, hr, hlk, hK⟩ := id C
  have hP0 := hP
  delta q_X6_adds at hw
  refine lv_iload_n hx hb dX6_adds_0 rfl (lv_at hl 1 rfl) ?_
  refine lv_iload_n hx hb dX6_adds_1 rfl (lv_at hl 2 rfl) ?_
  refine c_i (run_s (As := [.int v1, .int v2]) (rest := []) C hP hS (c_X6_isPoint hw) gX6_adds_X6_isPoint rfl dsX6_isPoint rfl ⟨rfl, rfl⟩ ⟨Nat.le_of_ble_eq_true rfl, Nat.le_of_ble_eq_true rfl⟩ hl.1 rfl (Nat.le_of_ble_eq_true rfl) dX6_adds_2 ⟨Nat.le_of_ble_eq_true rfl, Nat.le_of_ble_eq_true rfl⟩) hS (fun r_2 M_1 H locs hw hP hS => ?_)
  refine lv_if_ne (tgt := 10) hx hb dX6_adds_5 (by decide) (fun hc => ?_) (fun hc => ?_)
  · have hw := hw.1 hc
    refine lv_aload_n hx hb dX6_adds_10 rfl (lv_at hl 0 rfl) ?_
    refine g_f C hP (by decide) (sM_0 K _) rfl hX6_adds_X6 0 (by decide) kX6_adds_f7 rfl dX6_adds_11 ?_
    refine lv_bipush hx hb dX6_adds_14 bp_20 ?_
    refine a_il C hP (by decide) (sM_1 K _) vi_20_222 ti_20 dX6_adds_16 ?_
    refine lv_istore_n (lv' := [(3, .int (M_1 1 20)), (0, .ref (kb K + 0)), (1, .int v1), (2, .int v2)]) hx hb dX6_adds_17 rfl hl (by decide) rfl (fun ls hl => ?_)
    refine lv_iload_n hx hb dX6_adds_18 rfl (lv_at hl 0 rfl) ?_
    refine lv_bipush hx hb dX6_adds_19 bp_10 ?_
    refine lv_icmp_ne (tgt := 27) hx hb dX6_adds_21 (by decide) (fun hc => ?_) (fun hc => ?_)
    · have hw := hw.1 hc
      refine lv_aload_n hx hb dX6_adds_27 rfl (lv_at hl 1 rfl) ?_
      refine g_f C hP (by decide) (sM_0 K _) rfl hX6_adds_X6 0 (by decide) kX6_adds_f7 rfl dX6_adds_28 ?_
      refine lv_iload_n hx hb dX6_adds_31 rfl (lv_at hl 0 rfl) ?_
      refine lv_iload_n hx hb dX6_adds_32 rfl (lv_at hl 2 rfl) ?_
      have hi_3 := hw.1
      have hw := hw.2
      refine a_is C hP hS (by decide) (sM_1 K) hi_3 rfl dX6_adds_33 (fun H locs hP hS => ?_)
      refine lv_aload_n hx hb dX6_adds_34 rfl (lv_at hl 1 rfl) ?_
      refine g_f C hP (by decide) (sM_0 K _) rfl hX6_adds_X6 0 (by decide) kX6_adds_f7 rfl dX6_adds_35 ?_
      refine lv_bipush hx hb dX6_adds_38 bp_10 ?_
      refine lv_iload_n hx hb dX6_adds_40 rfl (lv_at hl 0 rfl) ?_
      refine lv_iadd hx hb dX6_adds_41 ?_
      refine lv_iload_n hx hb dX6_adds_42 rfl (lv_at hl 3 rfl) ?_
      have hi_4 := hw.1
      have hw := hw.2
      refine a_is C hP hS (by decide) (sM_1 K) hi_4 rfl dX6_adds_43 (fun H locs hP hS => ?_)
      obtain ⟨M_5, eM_5⟩ : ∃ z : Mem, z = mU (mU M_1 1 (M_1 1 20).toNatClampNeg v1) 1 ((10 : Int32) + (M_1 1 20)).toNatClampNeg v2 := ⟨_, rfl⟩
      rw [← eM_5] at hP
      have hw := hw M_5 eM_5
      refine lv_aload_n hx hb dX6_adds_44 rfl (lv_at hl 1 rfl) ?_
      refine g_f C hP (by decide) (sM_0 K _) rfl hX6_adds_X6 0 (by decide) kX6_adds_f7 rfl dX6_adds_45 ?_
      refine lv_bipush hx hb dX6_adds_48 bp_20 ?_
      refine lv_dup2_11 hx hb dX6_adds_50 rfl rfl ?_
      refine a_il C hP (by decide) (sM_1 K _) vi_20_222 ti_20 dX6_adds_51 ?_
      refine lv_iconst hx hb dX6_adds_52 ic_1 ?_
      refine lv_iadd hx hb dX6_adds_53 ?_
      refine a_is C hP hS (by decide) (sM_1 K) vi_20_222 ti_20 dX6_adds_54 (fun H locs hP hS => ?_)
      refine lv_aload_n hx hb dX6_adds_55 rfl (lv_at hl 1 rfl) ?_
      refine g_f C hP (by decide) (sM_0 K _) rfl hX6_adds_X6 0 (by decide) kX6_adds_f7 rfl dX6_adds_56 ?_
      refine lv_bipush hx hb dX6_adds_59 bp_20 ?_
      refine a_il C hP (by decide) (sM_1 K _) vi_20_222 ti_20 dX6_adds_61 ?_
      exact r_i C hP hS hw dX6_adds_62
    · have hw := hw.2 hc
      refine lv_bipush hx hb dX6_adds_24 bp_m3 ?_
      exact r_i C hP hS hw dX6_adds_26
  · have hw := hw.2 hc
    refine lv_iconst hx hb dX6_adds_8 ic_m1 ?_
    exact r_i C hP hS hw dX6_adds_9

abbrev rmX6_add : Room := { frames := 3, cells := 0, slots := 0, locals := 69 }
def q_X6_add (v1 : Int32) (v2 : Int32) (M : Mem) (Q : Int32 → Mem → Prop) : Prop := q_X6_adds v1 v2 M (fun r_2 M_1 => Q r_2 M_1)
theorem dsX6_add : yX6_add.cls = RX6 ∧ yX6_add.cls ≠ "java/lang/invoke/MethodHandle" ∧ yX6_add.cls ≠ "java/lang/invoke/VarHandle" ∧ (parseMethodDescriptor yX6_add.desc).map (fun d => d.parameters.length) = some 2 := by decide +kernel
set_option maxRecDepth 100000 in
set_option maxHeartbeats 4000000 in
theorem c_X6_add {l : Launch} {K : wC} {v1 : Int32} {v2 : Int32} {M : Mem} {Q : Int32 → Mem → Prop} (hw : q_X6_add v1 v2 M Q) : metI l yX6_add wsX6_add rmX6_add shM 12 K [.ref (kb K + 0), .int v1, .int v2] M Q := by
  refine met_of (cc := cX6_add) (maxL := 3) (ret := (some .int)) (own := RX6) (by decide) rfl rfl (Nat.le_of_ble_eq_true rfl) ?_
  intro p e s m below meth c ls C hl hP hS
  have hl : lv_has ls 3 [(0, .ref (kb K + 0)), (1, .int v1), (2, .int v2)] := hl
  obtain ⟨hx, hb, hml, hown, hts, hr, hlk, hK⟩ := id C
  have hP0 := hP
  delta q_X6_add at hw
  refine lv_aload_n hx hb dX6_add_0 rfl (lv_at hl 0 rfl) ?_
  refine lv_iload_n hx hb dX6_add_1 rfl (lv_at hl 1 rfl) ?_
  refine lv_iload_n hx hb dX6_add_2 rfl (lv_at hl 2 rfl) ?_
  refine c_i (run_v (As := [.int v1, .int v2]) (rest := []) C hP hS (c_X6_adds hw) gX6_add_X6_adds rfl dsX6_adds rfl ⟨rfl, rfl⟩ ⟨Nat.le_of_ble_eq_true rfl, Nat.le_of_ble_eq_true rfl⟩ (by decide) (sM_0 K _) rfl hl.1 rfl (Nat.le_of_ble_eq_true rfl) dX6_add_3 ⟨Nat.le_of_ble_eq_true rfl, Nat.le_of_ble_eq_true rfl⟩) hS (fun r_2 M_1 H locs hw hP hS => ?_)
  exact r_i C hP hS hw dX6_add_6

theorem kX6_drop_f7 : Cond.fieldLink RX6 7 (TX6 0).1 (TX6 0).2.1 (TX6 0).2.2.1 ∈ wsX6_drop := List.mem_of_getElem? (i := 1) rfl
theorem hX6_drop_X6 : ∀ w ∈ u_ws RX6 TX6 26, w ∈ wsX6_drop := fun _ h => List.mem_cons_of_mem _ (List.mem_append_right _ (h))
abbrev rmX6_drop : Room := { frames := 1, cells := 0, slots := 0, locals := 25 }
def q_X6_drop (v1 : Int32) (M : Mem) (Q : Int32 → Mem → Prop) : Prop := q_X6_in v1.toInt64 (0 : Int64) (M 1 20).toInt64 M (fun r_2 M_1 => q_X6_puts r_2 (20 : Int32) v1 M_1 (fun r_4 M_3 => Q r_4 M_3))
theorem dsX6_drop : yX6_drop.cls = RX6 ∧ yX6_drop.cls ≠ "java/lang/invoke/MethodHandle" ∧ yX6_drop.cls ≠ "java/lang/invoke/VarHandle" ∧ (parseMethodDescriptor yX6_drop.desc).map (fun d => d.parameters.length) = some 1 := by decide +kernel
set_option maxRecDepth 100000 in
set_option maxHeartbeats 4000000 in
theorem c_X6_drop {l : Launch} {K : wC} {v1 : Int32} {M : Mem} {Q : Int32 → Mem → Prop} (hw : q_X6_drop v1 M Q) : metI l yX6_drop wsX6_drop rmX6_drop shM 12 K [.ref (kb K + 0), .int v1] M Q := by
  refine met_of (cc := cX6_drop) (maxL := 2) (ret := (some .int)) (own := RX6) (by decide) rfl rfl (Nat.le_of_ble_eq_true rfl) ?_
  intro p e s m below meth c ls C hl hP hS
  have hl : lv_has ls 2 [(0, .ref (kb K + 0)), (1, .int v1)] := hl
  obtain ⟨hx, hb, hml, hown, hts, hr, hlk, hK⟩ := id C
  have hP0 := hP
  delta q_X6_drop at hw
  refine lv_aload_n hx hb dX6_drop_0 rfl (lv_at hl 0 rfl) ?_
  refine lv_iload_n hx hb dX6_drop_1 rfl (lv_at hl 1 rfl) ?_
  refine lv_i2l hx hb dX6_drop_2 rfl ?_
  refine lv_lconst hx hb dX6_drop_3 lc_0 ?_
  refine lv_aload_n hx hb dX6_drop_4 rfl (lv_at hl 0 rfl) ?_
  refine g_f C hP (by decide) (sM_0 K _) rfl hX6_drop_X6 0 (by decide) kX6_drop_f7 rfl dX6_drop_5 ?_
  refine lv_bipush hx hb dX6_drop_8 bp_20 ?_
  refine a_il C hP (by decide) (sM_1 K _) vi_20_222 ti_20 dX6_drop_10 ?_
  refine lv_i2l hx hb dX6_drop_11 rfl ?_
  refine c_i (run_s (As := [.long v1.toInt64, .long (0 : Int64), .long (M 1 20).toInt64]) (rest := [.ref (kb K + 0)]) C hP hS (c_X6_in hw) gX6_drop_X6_in rfl dsX6_in rfl ⟨rfl, rfl⟩ ⟨Nat.le_of_ble_eq_true rfl, Nat.le_of_ble_eq_true rfl⟩ hl.1 rfl (Nat.le_of_ble_eq_true rfl) dX6_drop_12 ⟨Nat.le_of_ble_eq_true rfl, Nat.le_of_ble_eq_true rfl⟩) hS (fun r_2 M_1 H locs hw hP hS => ?_)
  refine lv_bipush hx hb dX6_drop_15 bp_20 ?_
  refine lv_iload_n hx hb dX6_drop_17 rfl (lv_at hl 1 rfl) ?_
  refine c_i (run_v (As := [.int r_2, .int (20 : Int32), .int v1]) (rest := []) C hP hS (c_X6_puts hw) gX6_drop_X6_puts rfl dsX6_puts rfl ⟨rfl, rfl⟩ ⟨Nat.le_of_ble_eq_true rfl, Nat.le_of_ble_eq_true rfl⟩ (by decide) (sM_0 K _) rfl hl.1 rfl (Nat.le_of_ble_eq_true rfl) dX6_drop_18 ⟨Nat.le_of_ble_eq_true rfl, Nat.le_of_ble_eq_true rfl⟩) hS (fun r_4 M_3 H locs hw hP hS => ?_)
  exact r_i C hP hS hw dX6_drop_21

abbrev rmX6_pole : Room := { frames := 2, cells := 0, slots := 0, locals := 46 }
def q_X6_pole (v1 : Int32) (v2 : Int32) (M : Mem) (Q : Int32 → Mem → Prop) : Prop := q_X6_isPoint v1 v2 M (fun r_2 M_1 => ((r_2 = 0 → Q (-1 : Int32) M_1) ∧ (¬ r_2 = 0 → q_X6_movesTo (21 : Int32) (22 : Int32) v1 v2 M_1 (fun r_4 M_3 => Q r_4 M_3))))
theorem dsX6_pole : yX6_pole.cls = RX6 ∧ yX6_pole.cls ≠ "java/lang/invoke/MethodHandle" ∧ yX6_pole.cls ≠ "java/lang/invoke/VarHandle" ∧ (parseMethodDescriptor yX6_pole.desc).map (fun d => d.parameters.length) = some 2 := by decide +kernel
set_option maxRecDepth 100000 in
set_option maxHeartbeats 4000000 in
theorem c_X6_pole {l : Launch} {K : wC} {v1 : Int32} {v2 : Int32} {M : Mem} {Q : Int32 → Mem → Prop} (hw : q_X6_pole v1 v2 M Q) : metI l yX6_pole wsX6_pole rmX6_pole shM 12 K [.ref (kb K + 0), .int v1, .int v2] M Q := by
  refine met_of (cc := cX6_pole) (maxL := 3) (ret := (some .int)) (own := RX6) (by decide) rfl rfl (Nat.le_of_ble_eq_true rfl) ?_
  intro p e s m below meth c ls C hl hP hS
  have hl : lv_has ls 3 [(0, .ref (kb K + 0)), (1, .int v1), (2, .int v2)] := hl
  obtain ⟨hx, hb, hml, hown, hts, hr, hlk, hK⟩ := id C
  have hP0 := hP
  delta q_X6_pole at hw
  refine lv_iload_n hx hb dX6_pole_0 rfl (lv_at hl 1 rfl) ?_
  refine lv_iload_n hx hb dX6_pole_1 rfl (lv_at hl 2 rfl) ?_
  refine c_i (run_s (As := [.int v1, .int v2]) (rest := []) C hP hS (c_X6_isPoint hw) gX6_pole_X6_isPoint rfl dsX6_isPoint rfl ⟨rfl, rfl⟩ ⟨Nat.le_of_ble_eq_true rfl, Nat.le_of_ble_eq_true rfl⟩ hl.1 rfl (Nat.le_of_ble_eq_true rfl) dX6_pole_2 ⟨Nat.le_of_ble_eq_true rfl, Nat.le_of_ble_eq_true rfl⟩) hS (fun r_2 M_1 H locs hw hP hS => ?_)
  refine lv_if_eq (tgt := 21) hx hb dX6_pole_5 (by decide) (fun hc => ?_) (fun hc => ?_)
  · have hw := hw.1 hc
    refine lv_iconst hx hb dX6_pole_21 ic_m1 ?_
    exact r_i C hP hS hw dX6_pole_22
  · have hw := hw.2 hc
    refine lv_aload_n hx hb dX6_pole_8 rfl (lv_at hl 0 rfl) ?_
    refine lv_bipush hx hb dX6_pole_9 bp_21 ?_
    refine lv_bipush hx hb dX6_pole_11 bp_22 ?_
    refine lv_iload_n hx hb dX6_pole_13 rfl (lv_at hl 1 rfl) ?_
    refine lv_iload_n hx hb dX6_pole_14 rfl (lv_at hl 2 rfl) ?_
    refine c_i (run_v (As := [.int (21 : Int32), .int (22 : Int32), .int v1, .int v2]) (rest := []) C hP hS (c_X6_movesTo hw) gX6_pole_X6_movesTo rfl dsX6_movesTo rfl ⟨rfl, rfl⟩ ⟨Nat.le_of_ble_eq_true rfl, Nat.le_of_ble_eq_true rfl⟩ (by decide) (sM_0 K _) rfl hl.1 rfl (Nat.le_of_ble_eq_true rfl) dX6_pole_15 ⟨Nat.le_of_ble_eq_true rfl, Nat.le_of_ble_eq_true rfl⟩) hS (fun r_4 M_3 H locs hw hP hS => ?_)
    refine lv_goto (tgt := 22) hx hb dX6_pole_18 (by decide) ?_
    exact r_i C hP hS hw dX6_pole_22

theorem kX6_trace_c194 : Cond.constantLong RX6 194 (100) ∈ wsX6_trace := List.mem_of_getElem? (i := 1) rfl
theorem kX6_trace_f7 : Cond.fieldLink RX6 7 (TX6 0).1 (TX6 0).2.1 (TX6 0).2.2.1 ∈ wsX6_trace := List.mem_of_getElem? (i := 2) rfl
theorem hX6_trace_X6 : ∀ w ∈ u_ws RX6 TX6 26, w ∈ wsX6_trace := fun _ h => List.mem_cons_of_mem _ (List.mem_append_right _ (h))
theorem kX6_trace_f144 : Cond.fieldLink RX6 144 (TX6 15).1 (TX6 15).2.1 (TX6 15).2.2.1 ∈ wsX6_trace := List.mem_of_getElem? (i := 3) rfl
abbrev rmX6_trace : Room := { frames := 4, cells := 0, slots := 0, locals := 95 }
abbrev t_X6_trace : Type := (Int32 → Int32 → Mem → Prop)
def f_X6_trace_38 (Q : Int32 → Mem → Prop) (r : t_X6_trace) (v1 : Int32) (v2 : Int32) (M : Mem) : Prop := ((v1 ≤ v2 → Q (M 0 15) M) ∧ (¬ v1 ≤ v2 → q_X6_tracesOn (0 : Int32) (0 : Int32) M (fun M_4 => r v1 (v2 + 1) M_4)))
def p_X6_trace (Q : Int32 → Mem → Prop) : Nat → t_X6_trace
  | 0 => fun _ _ _ => False
  | n + 1 => f_X6_trace_38 Q (p_X6_trace Q n)
def e_X6_trace (v1 : Int32) (Q : Int32 → Mem → Prop) (r : t_X6_trace) (M : Mem) : Prop := q_X6_in v1.toInt64 (0 : Int64) (100 : Int64) M (fun r_2 M_1 => ((¬ r_2 = 0 → ((((M_1 1 36) + v1) ≤ (9999 : Int32) → q_X6_starts M_1 (fun M_3 => r v1 (0 : Int32) M_3)) ∧ (¬ ((M_1 1 36) + v1) ≤ (9999 : Int32) → Q (-3 : Int32) M_1))) ∧ (r_2 = 0 → Q (-1 : Int32) M_1)))
def q_X6_trace (v1 : Int32) (M : Mem) (Q : Int32 → Mem → Prop) : Prop := ∃ n : Nat, e_X6_trace v1 Q (p_X6_trace Q n) M
set_option maxRecDepth 100000 in
set_option maxHeartbeats 4000000 in
theorem b_X6_trace {l : Launch} {K : wC} {Q : Int32 → Mem → Prop} {p : Program} {e : Env} {s : State} {m : MethodId} {args : Array Value} {below : List Frame} {meth : Method} {c : Code} (C : cx 12 K p s m args meth c cX6_trace 3 wsX6_trace RX6 (some .int)) : ∀ n : Nat, (∀ (v1 : Int32) (v2 : Int32) (M : Mem) (H : Heap) (locs : List Loc) (ls : Array Slot), (p_X6_trace Q n) v1 v2 M → wP shM 12 K M H → va_S (wA 12 K) s.heap H locs → lv_has ls 3 [(0, .ref (kb K + 0)), (1, .int v1), (2, .int v2)] → W p l e rmX6_trace s m args below meth c H locs 0 0 (MQ below (va_Qi Q (wE shM 12 K) (wA 12 K)) args s 0 0 (wA 12 K)) (F0 m 38 ls [])) := by
  obtain ⟨hx, hb, hml, hown, hts, hr, hlk, hK⟩ := id C
  intro n
  induction n with
  | zero => exact fun _ _ _ _ _ _ hw _ _ _ => False.elim hw
  | succ n ih =>
    intro v1 v2 M H locs ls hw hP hS hl
    have hw : f_X6_trace_38 Q (p_X6_trace Q n) v1 v2 M := hw
    delta f_X6_trace_38 at hw
    refine lv_iload_n hx hb dX6_trace_38 rfl (lv_at hl 2 rfl) ?_
    refine lv_iload_n hx hb dX6_trace_39 rfl (lv_at hl 1 rfl) ?_
    refine lv_icmp_ge (tgt := 55) hx hb dX6_trace_40 (by decide) (fun hc => ?_) (fun hc => ?_)
    · have hw := hw.1 hc
      refine lv_aload_n hx hb dX6_trace_55 rfl (lv_at hl 0 rfl) ?_
      refine g_f C hP (by decide) (sM_0 K _) rfl hX6_trace_X6 15 (by decide) kX6_trace_f144 rfl dX6_trace_56 ?_
      exact r_i C hP hS hw dX6_trace_59
    · have hw := hw.2 hc
      refine lv_aload_n hx hb dX6_trace_43 rfl (lv_at hl 0 rfl) ?_
      refine lv_iconst hx hb dX6_trace_44 ic_0 ?_
      refine lv_iconst hx hb dX6_trace_45 ic_0 ?_
      refine c_v (run_v (As := [.int (0 : Int32), .int (0 : Int32)]) (rest := []) C hP hS (c_X6_tracesOn hw) gX6_trace_X6_tracesOn rfl dsX6_tracesOn rfl ⟨rfl, rfl⟩ ⟨Nat.le_of_ble_eq_true rfl, Nat.le_of_ble_eq_true rfl⟩ (by decide) (sM_0 K _) rfl hl.1 rfl (Nat.le_of_ble_eq_true rfl) dX6_trace_46 ⟨Nat.le_of_ble_eq_true rfl, Nat.le_of_ble_eq_true rfl⟩) hS (fun M_4 H locs hw hP hS => ?_)
      refine lv_iinc (v := (v2 + 1)) (lv' := [(2, .int (v2 + 1)), (0, .ref (kb K + 0)), (1, .int v1)]) hx hb dX6_trace_49 hl (k := 2) rfl (by rw [ic_1]) (by decide) rfl (fun ls hl => ?_)
      refine lv_goto (tgt := 38) hx hb dX6_trace_52 (by decide) ?_
      exact ih _ _ _ _ _ _ hw hP hS (lv_sub hl [1, 2, 0] rfl)
theorem dsX6_trace : yX6_trace.cls = RX6 ∧ yX6_trace.cls ≠ "java/lang/invoke/MethodHandle" ∧ yX6_trace.cls ≠ "java/lang/invoke/VarHandle" ∧ (parseMethodDescriptor yX6_trace.desc).map (fun d => d.parameters.length) = some 1 := by decide +kernel
set_option maxRecDepth 100000 in
set_option maxHeartbeats 4000000 in
theorem c_X6_trace {l : Launch} {K : wC} {v1 : Int32} {M : Mem} {Q : Int32 → Mem → Prop} (hw : q_X6_trace v1 M Q) : metI l yX6_trace wsX6_trace rmX6_trace shM 12 K [.ref (kb K + 0), .int v1] M Q := by
  refine met_of (cc := cX6_trace) (maxL := 3) (ret := (some .int)) (own := RX6) (by decide) rfl rfl (Nat.le_of_ble_eq_true rfl) ?_
  intro p e s m below meth c ls C hl hP hS
  have hl : lv_has ls 3 [(0, .ref (kb K + 0)), (1, .int v1)] := hl
  obtain ⟨hx, hb, hml, hown, hts, hr, hlk, hK⟩ := id C
  have hP0 := hP
  obtain ⟨n, hw⟩ := hw
  have ih := b_X6_trace (l := l) (e := e) (below := below) (Q := Q) C n
  delta e_X6_trace at hw
  refine lv_iload_n hx hb dX6_trace_0 rfl (lv_at hl 1 rfl) ?_
  refine lv_i2l hx hb dX6_trace_1 rfl ?_
  refine lv_lconst hx hb dX6_trace_2 lc_0 ?_
  refine lv_ldc2 hx hb hown (hts _ kX6_trace_c194) dX6_trace_3 ?_
  refine c_i (run_s (As := [.long v1.toInt64, .long (0 : Int64), .long (100 : Int64)]) (rest := []) C hP hS (c_X6_in hw) gX6_trace_X6_in rfl dsX6_in rfl ⟨rfl, rfl⟩ ⟨Nat.le_of_ble_eq_true rfl, Nat.le_of_ble_eq_true rfl⟩ hl.1 rfl (Nat.le_of_ble_eq_true rfl) dX6_trace_6 ⟨Nat.le_of_ble_eq_true rfl, Nat.le_of_ble_eq_true rfl⟩) hS (fun r_2 M_1 H locs hw hP hS => ?_)
  refine lv_if_ne (tgt := 14) hx hb dX6_trace_9 (by decide) (fun hc => ?_) (fun hc => ?_)
  · have hw := hw.1 hc
    refine lv_aload_n hx hb dX6_trace_14 rfl (lv_at hl 0 rfl) ?_
    refine g_f C hP (by decide) (sM_0 K _) rfl hX6_trace_X6 0 (by decide) kX6_trace_f7 rfl dX6_trace_15 ?_
    refine lv_bipush hx hb dX6_trace_18 bp_36 ?_
    refine a_il C hP (by decide) (sM_1 K _) vi_36_222 ti_36 dX6_trace_20 ?_
    refine lv_iload_n hx hb dX6_trace_21 rfl (lv_at hl 1 rfl) ?_
    refine lv_iadd hx hb dX6_trace_22 ?_
    refine lv_sipush hx hb dX6_trace_23 sp_9999 ?_
    refine lv_icmp_le (tgt := 32) hx hb dX6_trace_26 (by decide) (fun hc => ?_) (fun hc => ?_)
    · have hw := hw.1 hc
      refine lv_aload_n hx hb dX6_trace_32 rfl (lv_at hl 0 rfl) ?_
      refine c_v (run_v (As := []) (rest := []) C hP hS (c_X6_starts hw) gX6_trace_X6_starts rfl dsX6_starts rfl ⟨rfl, rfl⟩ ⟨Nat.le_of_ble_eq_true rfl, Nat.le_of_ble_eq_true rfl⟩ (by decide) (sM_0 K _) rfl hl.1 rfl (Nat.le_of_ble_eq_true rfl) dX6_trace_33 ⟨Nat.le_of_ble_eq_true rfl, Nat.le_of_ble_eq_true rfl⟩) hS (fun M_3 H locs hw hP hS => ?_)
      refine lv_iconst hx hb dX6_trace_36 ic_0 ?_
      refine lv_istore_n (lv' := [(2, .int (0 : Int32)), (0, .ref (kb K + 0)), (1, .int v1)]) hx hb dX6_trace_37 rfl hl (by decide) rfl (fun ls hl => ?_)
      exact ih _ _ _ _ _ _ hw hP hS (lv_sub hl [1, 2, 0] rfl)
    · have hw := hw.2 hc
      refine lv_bipush hx hb dX6_trace_29 bp_m3 ?_
      exact r_i C hP hS hw dX6_trace_31
  · have hw := hw.2 hc
    refine lv_iconst hx hb dX6_trace_12 ic_m1 ?_
    exact r_i C hP hS hw dX6_trace_13

theorem kX6_copies_f7 : Cond.fieldLink RX6 7 (TX6 0).1 (TX6 0).2.1 (TX6 0).2.2.1 ∈ wsX6_copies := List.mem_of_getElem? (i := 1) rfl
theorem hX6_copies_X6 : ∀ w ∈ u_ws RX6 TX6 26, w ∈ wsX6_copies := fun _ h => List.mem_cons_of_mem _ (List.mem_append_right _ (h))
abbrev rmX6_copies : Room := { frames := 0, cells := 0, slots := 0, locals := 0 }
abbrev t_X6_copies : Type := (Int32 → Int32 → Int32 → Mem → Prop)
def f_X6_copies_2 (Q : Mem → Prop) (r : t_X6_copies) (v1 : Int32) (v2 : Int32) (v3 : Int32) (M : Mem) : Prop := (((37 : Int32) ≤ v3 → Q M) ∧ (¬ (37 : Int32) ≤ v3 → vp_in (v1 + v3) 222 ∧ vp_in (v2 + v3) 222 ∧ r v1 v2 (v3 + 1) (mU M 1 (v2 + v3).toNatClampNeg (M 1 (v1 + v3).toNatClampNeg))))
def p_X6_copies (Q : Mem → Prop) : Nat → t_X6_copies
  | 0 => fun _ _ _ _ => False
  | n + 1 => f_X6_copies_2 Q (p_X6_copies Q n)
def e_X6_copies (v1 : Int32) (v2 : Int32) (Q : Mem → Prop) (r : t_X6_copies) (M : Mem) : Prop := r v1 v2 (0 : Int32) M
def q_X6_copies (v1 : Int32) (v2 : Int32) (M : Mem) (Q : Mem → Prop) : Prop := ∃ n : Nat, e_X6_copies v1 v2 Q (p_X6_copies Q n) M
set_option maxRecDepth 100000 in
set_option maxHeartbeats 4000000 in
theorem b_X6_copies {l : Launch} {K : wC} {Q : Mem → Prop} {p : Program} {e : Env} {s : State} {m : MethodId} {args : Array Value} {below : List Frame} {meth : Method} {c : Code} (C : cx 12 K p s m args meth c cX6_copies 4 wsX6_copies RX6 none) : ∀ n : Nat, (∀ (v1 : Int32) (v2 : Int32) (v3 : Int32) (M : Mem) (H : Heap) (locs : List Loc) (ls : Array Slot), (p_X6_copies Q n) v1 v2 v3 M → wP shM 12 K M H → va_S (wA 12 K) s.heap H locs → lv_has ls 4 [(0, .ref (kb K + 0)), (1, .int v1), (2, .int v2), (3, .int v3)] → W p l e rmX6_copies s m args below meth c H locs 0 0 (MQ below (va_Qv Q (wE shM 12 K) (wA 12 K)) args s 0 0 (wA 12 K)) (F0 m 2 ls [])) := by
  obtain ⟨hx, hb, hml, hown, hts, hr, hlk, hK⟩ := id C
  intro n
  induction n with
  | zero => exact fun _ _ _ _ _ _ _ hw _ _ _ => False.elim hw
  | succ n ih =>
    intro v1 v2 v3 M H locs ls hw hP hS hl
    have hw : f_X6_copies_2 Q (p_X6_copies Q n) v1 v2 v3 M := hw
    delta f_X6_copies_2 at hw
    refine lv_iload_n hx hb dX6_copies_2 rfl (lv_at hl 3 rfl) ?_
    refine lv_bipush hx hb dX6_copies_3 bp_37 ?_
    refine lv_icmp_ge (tgt := 30) hx hb dX6_copies_5 (by decide) (fun hc => ?_) (fun hc => ?_)
    · have hw := hw.1 hc
      exact r_v C hP hS hw dX6_copies_30
    · have hw := hw.2 hc
      refine lv_aload_n hx hb dX6_copies_8 rfl (lv_at hl 0 rfl) ?_
      refine g_f C hP (by decide) (sM_0 K _) rfl hX6_copies_X6 0 (by decide) kX6_copies_f7 rfl dX6_copies_9 ?_
      refine lv_iload_n hx hb dX6_copies_12 rfl (lv_at hl 2 rfl) ?_
      refine lv_iload_n hx hb dX6_copies_13 rfl (lv_at hl 3 rfl) ?_
      refine lv_iadd hx hb dX6_copies_14 ?_
      refine lv_aload_n hx hb dX6_copies_15 rfl (lv_at hl 0 rfl) ?_
      refine g_f C hP (by decide) (sM_0 K _) rfl hX6_copies_X6 0 (by decide) kX6_copies_f7 rfl dX6_copies_16 ?_
      refine lv_iload_n hx hb dX6_copies_19 rfl (lv_at hl 1 rfl) ?_
      refine lv_iload_n hx hb dX6_copies_20 rfl (lv_at hl 3 rfl) ?_
      refine lv_iadd hx hb dX6_copies_21 ?_
      have hi_1 := hw.1
      have hw := hw.2
      refine a_il C hP (by decide) (sM_1 K _) hi_1 rfl dX6_copies_22 ?_
      have hi_2 := hw.1
      have hw := hw.2
      refine a_is C hP hS (by decide) (sM_1 K) hi_2 rfl dX6_copies_23 (fun H locs hP hS => ?_)
      refine lv_iinc (v := (v3 + 1)) (lv' := [(3, .int (v3 + 1)), (0, .ref (kb K + 0)), (1, .int v1), (2, .int v2)]) hx hb dX6_copies_24 hl (k := 3) rfl (by rw [ic_1]) (by decide) rfl (fun ls hl => ?_)
      refine lv_goto (tgt := 2) hx hb dX6_copies_27 (by decide) ?_
      exact ih _ _ _ _ _ _ _ hw hP hS (lv_sub hl [1, 2, 3, 0] rfl)
theorem dsX6_copies : yX6_copies.cls = RX6 ∧ yX6_copies.cls ≠ "java/lang/invoke/MethodHandle" ∧ yX6_copies.cls ≠ "java/lang/invoke/VarHandle" ∧ (parseMethodDescriptor yX6_copies.desc).map (fun d => d.parameters.length) = some 2 := by decide +kernel
set_option maxRecDepth 100000 in
set_option maxHeartbeats 4000000 in
theorem c_X6_copies {l : Launch} {K : wC} {v1 : Int32} {v2 : Int32} {M : Mem} {Q : Mem → Prop} (hw : q_X6_copies v1 v2 M Q) : metV l yX6_copies wsX6_copies rmX6_copies shM 12 K [.ref (kb K + 0), .int v1, .int v2] M Q := by
  refine met_of (cc := cX6_copies) (maxL := 4) (ret := none) (own := RX6) (by decide) rfl rfl (Nat.le_of_ble_eq_true rfl) ?_
  intro p e s m below meth c ls C hl hP hS
  have hl : lv_has ls 4 [(0, .ref (kb K + 0)), (1, .int v1), (2, .int v2)] := hl
  obtain ⟨hx, hb, hml, hown, hts, hr, hlk, hK⟩ := id C
  have hP0 := hP
  obtain ⟨n, hw⟩ := hw
  have ih := b_X6_copies (l := l) (e := e) (below := below) (Q := Q) C n
  delta e_X6_copies at hw
  refine lv_iconst hx hb dX6_copies_0 ic_0 ?_
  refine lv_istore_n (lv' := [(3, .int (0 : Int32)), (0, .ref (kb K + 0)), (1, .int v1), (2, .int v2)]) hx hb dX6_copies_1 rfl hl (by decide) rfl (fun ls hl => ?_)
  exact ih _ _ _ _ _ _ _ hw hP hS (lv_sub hl [1, 2, 3, 0] rfl)

abbrev rmX6_edgesGo : Room := { frames := 4, cells := 0, slots := 0, locals := 95 }
abbrev t_X6_edgesGo : Type := (Int32 → Int32 → Mem → Prop)
def f_X6_edgesGo_14 (Q : Mem → Prop) (r : t_X6_edgesGo) (v1 : Int32) (v2 : Int32) (M : Mem) : Prop := ((v1 ≤ v2 → Q M) ∧ (¬ v1 ≤ v2 → q_X6_tracesOn (148 : Int32) (0 : Int32) M (fun M_3 => r v1 (v2 + 1) M_3)))
def p_X6_edgesGo (Q : Mem → Prop) : Nat → t_X6_edgesGo
  | 0 => fun _ _ _ => False
  | n + 1 => f_X6_edgesGo_14 Q (p_X6_edgesGo Q n)
def e_X6_edgesGo (v1 : Int32) (Q : Mem → Prop) (r : t_X6_edgesGo) (M : Mem) : Prop := q_X6_copies (0 : Int32) (148 : Int32) M (fun M_1 => q_X6_starts M_1 (fun M_2 => r v1 (0 : Int32) M_2))
def q_X6_edgesGo (v1 : Int32) (M : Mem) (Q : Mem → Prop) : Prop := ∃ n : Nat, e_X6_edgesGo v1 Q (p_X6_edgesGo Q n) M
set_option maxRecDepth 100000 in
set_option maxHeartbeats 4000000 in
theorem b_X6_edgesGo {l : Launch} {K : wC} {Q : Mem → Prop} {p : Program} {e : Env} {s : State} {m : MethodId} {args : Array Value} {below : List Frame} {meth : Method} {c : Code} (C : cx 12 K p s m args meth c cX6_edgesGo 3 wsX6_edgesGo RX6 none) : ∀ n : Nat, (∀ (v1 : Int32) (v2 : Int32) (M : Mem) (H : Heap) (locs : List Loc) (ls : Array Slot), (p_X6_edgesGo Q n) v1 v2 M → wP shM 12 K M H → va_S (wA 12 K) s.heap H locs → lv_has ls 3 [(0, .ref (kb K + 0)), (1, .int v1), (2, .int v2)] → W p l e rmX6_edgesGo s m args below meth c H locs 0 0 (MQ below (va_Qv Q (wE shM 12 K) (wA 12 K)) args s 0 0 (wA 12 K)) (F0 m 14 ls [])) := by
  obtain ⟨hx, hb, hml, hown, hts, hr, hlk, hK⟩ := id C
  intro n
  induction n with
  | zero => exact fun _ _ _ _ _ _ hw _ _ _ => False.elim hw
  | succ n ih =>
    intro v1 v2 M H locs ls hw hP hS hl
    have hw : f_X6_edgesGo_14 Q (p_X6_edgesGo Q n) v1 v2 M := hw
    delta f_X6_edgesGo_14 at hw
    refine lv_iload_n hx hb dX6_edgesGo_14 rfl (lv_at hl 2 rfl) ?_
    refine lv_iload_n hx hb dX6_edgesGo_15 rfl (lv_at hl 1 rfl) ?_
    refine lv_icmp_ge (tgt := 33) hx hb dX6_edgesGo_16 (by decide) (fun hc => ?_) (fun hc => ?_)
    · have hw := hw.1 hc
      exact r_v C hP hS hw dX6_edgesGo_33
    · have hw := hw.2 hc
      refine lv_aload_n hx hb dX6_edgesGo_19 rfl (lv_at hl 0 rfl) ?_
      refine lv_sipush hx hb dX6_edgesGo_20 sp_148 ?_
      refine lv_iconst hx hb dX6_edgesGo_23 ic_0 ?_
      refine c_v (run_v (As := [.int (148 : Int32), .int (0 : Int32)]) (rest := []) C hP hS (c_X6_tracesOn hw) gX6_edgesGo_X6_tracesOn rfl dsX6_tracesOn rfl ⟨rfl, rfl⟩ ⟨Nat.le_of_ble_eq_true rfl, Nat.le_of_ble_eq_true rfl⟩ (by decide) (sM_0 K _) rfl hl.1 rfl (Nat.le_of_ble_eq_true rfl) dX6_edgesGo_24 ⟨Nat.le_of_ble_eq_true rfl, Nat.le_of_ble_eq_true rfl⟩) hS (fun M_3 H locs hw hP hS => ?_)
      refine lv_iinc (v := (v2 + 1)) (lv' := [(2, .int (v2 + 1)), (0, .ref (kb K + 0)), (1, .int v1)]) hx hb dX6_edgesGo_27 hl (k := 2) rfl (by rw [ic_1]) (by decide) rfl (fun ls hl => ?_)
      refine lv_goto (tgt := 14) hx hb dX6_edgesGo_30 (by decide) ?_
      exact ih _ _ _ _ _ _ hw hP hS (lv_sub hl [1, 2, 0] rfl)
theorem dsX6_edgesGo : yX6_edgesGo.cls = RX6 ∧ yX6_edgesGo.cls ≠ "java/lang/invoke/MethodHandle" ∧ yX6_edgesGo.cls ≠ "java/lang/invoke/VarHandle" ∧ (parseMethodDescriptor yX6_edgesGo.desc).map (fun d => d.parameters.length) = some 1 := by decide +kernel
set_option maxRecDepth 100000 in
set_option maxHeartbeats 4000000 in
theorem c_X6_edgesGo {l : Launch} {K : wC} {v1 : Int32} {M : Mem} {Q : Mem → Prop} (hw : q_X6_edgesGo v1 M Q) : metV l yX6_edgesGo wsX6_edgesGo rmX6_edgesGo shM 12 K [.ref (kb K + 0), .int v1] M Q := by
  refine met_of (cc := cX6_edgesGo) (maxL := 3) (ret := none) (own := RX6) (by decide) rfl rfl (Nat.le_of_ble_eq_true rfl) ?_
  intro p e s m below meth c ls C hl hP hS
  have hl : lv_has ls 3 [(0, .ref (kb K + 0)), (1, .int v1)] := hl
  obtain ⟨hx, hb, hml, hown, hts, hr, hlk, hK⟩ := id C
  have hP0 := hP
  obtain ⟨n, hw⟩ := hw
  have ih := b_X6_edgesGo (l := l) (e := e) (below := below) (Q := Q) C n
  delta e_X6_edgesGo at hw
  refine lv_aload_n hx hb dX6_edgesGo_0 rfl (lv_at hl 0 rfl) ?_
  refine lv_iconst hx hb dX6_edgesGo_1 ic_0 ?_
  refine lv_sipush hx hb dX6_edgesGo_2 sp_148 ?_
  refine c_v (run_v (As := [.int (0 : Int32), .int (148 : Int32)]) (rest := []) C hP hS (c_X6_copies hw) gX6_edgesGo_X6_copies rfl dsX6_copies rfl ⟨rfl, rfl⟩ ⟨Nat.le_of_ble_eq_true rfl, Nat.le_of_ble_eq_true rfl⟩ (by decide) (sM_0 K _) rfl hl.1 rfl (Nat.le_of_ble_eq_true rfl) dX6_edgesGo_5 ⟨Nat.le_of_ble_eq_true rfl, Nat.le_of_ble_eq_true rfl⟩) hS (fun M_1 H locs hw hP hS => ?_)
  refine lv_aload_n hx hb dX6_edgesGo_8 rfl (lv_at hl 0 rfl) ?_
  refine c_v (run_v (As := []) (rest := []) C hP hS (c_X6_starts hw) gX6_edgesGo_X6_starts rfl dsX6_starts rfl ⟨rfl, rfl⟩ ⟨Nat.le_of_ble_eq_true rfl, Nat.le_of_ble_eq_true rfl⟩ (by decide) (sM_0 K _) rfl hl.1 rfl (Nat.le_of_ble_eq_true rfl) dX6_edgesGo_9 ⟨Nat.le_of_ble_eq_true rfl, Nat.le_of_ble_eq_true rfl⟩) hS (fun M_2 H locs hw hP hS => ?_)
  refine lv_iconst hx hb dX6_edgesGo_12 ic_0 ?_
  refine lv_istore_n (lv' := [(2, .int (0 : Int32)), (0, .ref (kb K + 0)), (1, .int v1)]) hx hb dX6_edgesGo_13 rfl hl (by decide) rfl (fun ls hl => ?_)
  exact ih _ _ _ _ _ _ hw hP hS (lv_sub hl [1, 2, 0] rfl)

theorem kX6_runs_c163 : Cond.constantLong RX6 163 (2) ∈ wsX6_runs := List.mem_of_getElem? (i := 1) rfl
theorem kX6_runs_f147 : Cond.fieldLink RX6 147 (TX6 16).1 (TX6 16).2.1 (TX6 16).2.2.1 ∈ wsX6_runs := List.mem_of_getElem? (i := 5) rfl
theorem hX6_runs_X6 : ∀ w ∈ u_ws RX6 TX6 26, w ∈ wsX6_runs := fun _ h => List.mem_cons_of_mem _ (List.mem_append_right _ (h))
theorem kX6_runs_f144 : Cond.fieldLink RX6 144 (TX6 15).1 (TX6 15).2.1 (TX6 15).2.2.1 ∈ wsX6_runs := List.mem_of_getElem? (i := 4) rfl
theorem kX6_runs_f7 : Cond.fieldLink RX6 7 (TX6 0).1 (TX6 0).2.1 (TX6 0).2.2.1 ∈ wsX6_runs := List.mem_of_getElem? (i := 2) rfl
theorem kX6_runs_f151 : Cond.fieldLink RX6 151 (TX6 17).1 (TX6 17).2.1 (TX6 17).2.2.1 ∈ wsX6_runs := List.mem_of_getElem? (i := 3) rfl
abbrev rmX6_runs : Room := { frames := 5, cells := 0, slots := 0, locals := 117 }
def f_X6_runs_45 (Q : Int32 → Mem → Prop) (M : Mem) : Prop := Q (-4 : Int32) M
def q_X6_runs (v1 : Int32) (v2 : Int32) (M : Mem) (Q : Int32 → Mem → Prop) : Prop := q_X6_isLong v1 M (fun r_2 M_1 => ((r_2 = 0 → Q (-1 : Int32) M_1) ∧ (¬ r_2 = 0 → q_X6_in v2.toInt64 (0 : Int64) (2 : Int64) M_1 (fun r_4 M_3 => ((¬ r_4 = 0 → q_X6_edgesGo v1 M_3 (fun M_5 => ((¬ v2 = (2 : Int32) → ((¬ v2 = 0 → Q (M_5 0 16) M_5) ∧ (v2 = 0 → Q (M_5 0 15) M_5))) ∧ (v2 = (2 : Int32) → ((v1 = 0 → f_X6_runs_45 Q M_5) ∧ (¬ v1 = 0 → ((¬ (M_5 1 20) = 0 → Q ((10000 : Int32) + (M_5 0 17)) M_5) ∧ ((M_5 1 20) = 0 → f_X6_runs_45 Q M_5)))))))) ∧ (r_4 = 0 → Q (-1 : Int32) M_3))))))
set_option maxRecDepth 100000 in
set_option maxHeartbeats 4000000 in
theorem b_X6_runs_45 {l : Launch} {K : wC} {Q : Int32 → Mem → Prop} {p : Program} {e : Env} {s : State} {m : MethodId} {args : Array Value} {below : List Frame} {meth : Method} {c : Code} (C : cx 12 K p s m args meth c cX6_runs 3 wsX6_runs RX6 (some .int)) (M : Mem) (H : Heap) (locs : List Loc) (ls : Array Slot) (hw : f_X6_runs_45 Q M) (hP : wP shM 12 K M H) (hS : va_S (wA 12 K) s.heap H locs) (hl : lv_has ls 3 []) : W p l e rmX6_runs s m args below meth c H locs 0 0 (MQ below (va_Qi Q (wE shM 12 K) (wA 12 K)) args s 0 0 (wA 12 K)) (F0 m 45 ls []) := by
  obtain ⟨hx, hb, hml, hown, hts, hr, hlk, hK⟩ := id C
  delta f_X6_runs_45 at hw
  refine lv_bipush hx hb dX6_runs_45 bp_m4 ?_
  refine lv_goto (tgt := 58) hx hb dX6_runs_47 (by decide) ?_
  exact r_i C hP hS hw dX6_runs_58
theorem dsX6_runs : yX6_runs.cls = RX6 ∧ yX6_runs.cls ≠ "java/lang/invoke/MethodHandle" ∧ yX6_runs.cls ≠ "java/lang/invoke/VarHandle" ∧ (parseMethodDescriptor yX6_runs.desc).map (fun d => d.parameters.length) = some 2 := by decide +kernel
set_option maxRecDepth 100000 in
set_option maxHeartbeats 4000000 in
theorem c_X6_runs {l : Launch} {K : wC} {v1 : Int32} {v2 : Int32} {M : Mem} {Q : Int32 → Mem → Prop} (hw : q_X6_runs v1 v2 M Q) : metI l yX6_runs wsX6_runs rmX6_runs shM 12 K [.ref (kb K + 0), .int v1, .int v2] M Q := by
  refine met_of (cc := cX6_runs) (maxL := 3) (ret := (some .int)) (own := RX6) (by decide) rfl rfl (Nat.le_of_ble_eq_true rfl) ?_
  intro p e s m below meth c ls C hl hP hS
  have hl : lv_has ls 3 [(0, .ref (kb K + 0)), (1, .int v1), (2, .int v2)] := hl
  obtain ⟨hx, hb, hml, hown, hts, hr, hlk, hK⟩ := id C
  have hP0 := hP
  delta q_X6_runs at hw
  refine lv_iload_n hx hb dX6_runs_0 rfl (lv_at hl 1 rfl) ?_
  refine c_i (run_s (As := [.int v1]) (rest := []) C hP hS (c_X6_isLong hw) gX6_runs_X6_isLong rfl dsX6_isLong rfl ⟨rfl, rfl⟩ ⟨Nat.le_of_ble_eq_true rfl, Nat.le_of_ble_eq_true rfl⟩ hl.1 rfl (Nat.le_of_ble_eq_true rfl) dX6_runs_1 ⟨Nat.le_of_ble_eq_true rfl, Nat.le_of_ble_eq_true rfl⟩) hS (fun r_2 M_1 H locs hw hP hS => ?_)
  refine lv_if_eq (tgt := 19) hx hb dX6_runs_4 (by decide) (fun hc => ?_) (fun hc => ?_)
  · have hw := hw.1 hc
    refine lv_iconst hx hb dX6_runs_19 ic_m1 ?_
    exact r_i C hP hS hw dX6_runs_20
  · have hw := hw.2 hc
    refine lv_iload_n hx hb dX6_runs_7 rfl (lv_at hl 2 rfl) ?_
    refine lv_i2l hx hb dX6_runs_8 rfl ?_
    refine lv_lconst hx hb dX6_runs_9 lc_0 ?_
    refine lv_ldc2 hx hb hown (hts _ kX6_runs_c163) dX6_runs_10 ?_
    refine c_i (run_s (As := [.long v2.toInt64, .long (0 : Int64), .long (2 : Int64)]) (rest := []) C hP hS (c_X6_in hw) gX6_runs_X6_in rfl dsX6_in rfl ⟨rfl, rfl⟩ ⟨Nat.le_of_ble_eq_true rfl, Nat.le_of_ble_eq_true rfl⟩ hl.1 rfl (Nat.le_of_ble_eq_true rfl) dX6_runs_13 ⟨Nat.le_of_ble_eq_true rfl, Nat.le_of_ble_eq_true rfl⟩) hS (fun r_4 M_3 H locs hw hP hS => ?_)
    refine lv_if_ne (tgt := 21) hx hb dX6_runs_16 (by decide) (fun hc => ?_) (fun hc => ?_)
    · have hw := hw.1 hc
      refine lv_aload_n hx hb dX6_runs_21 rfl (lv_at hl 0 rfl) ?_
      refine lv_iload_n hx hb dX6_runs_22 rfl (lv_at hl 1 rfl) ?_
      refine c_v (run_v (As := [.int v1]) (rest := []) C hP hS (c_X6_edgesGo hw) gX6_runs_X6_edgesGo rfl dsX6_edgesGo rfl ⟨rfl, rfl⟩ ⟨Nat.le_of_ble_eq_true rfl, Nat.le_of_ble_eq_true rfl⟩ (by decide) (sM_0 K _) rfl hl.1 rfl (Nat.le_of_ble_eq_true rfl) dX6_runs_23 ⟨Nat.le_of_ble_eq_true rfl, Nat.le_of_ble_eq_true rfl⟩) hS (fun M_5 H locs hw hP hS => ?_)
      refine lv_iload_n hx hb dX6_runs_26 rfl (lv_at hl 2 rfl) ?_
      refine lv_iconst hx hb dX6_runs_27 ic_2 ?_
      refine lv_icmp_ne (tgt := 59) hx hb dX6_runs_28 (by decide) (fun hc => ?_) (fun hc => ?_)
      · have hw := hw.1 hc
        refine lv_iload_n hx hb dX6_runs_59 rfl (lv_at hl 2 rfl) ?_
        refine lv_if_ne (tgt := 70) hx hb dX6_runs_60 (by decide) (fun hc => ?_) (fun hc => ?_)
        · have hw := hw.1 hc
          refine lv_aload_n hx hb dX6_runs_70 rfl (lv_at hl 0 rfl) ?_
          refine g_f C hP (by decide) (sM_0 K _) rfl hX6_runs_X6 16 (by decide) kX6_runs_f147 rfl dX6_runs_71 ?_
          exact r_i C hP hS hw dX6_runs_74
        · have hw := hw.2 hc
          refine lv_aload_n hx hb dX6_runs_63 rfl (lv_at hl 0 rfl) ?_
          refine g_f C hP (by decide) (sM_0 K _) rfl hX6_runs_X6 15 (by decide) kX6_runs_f144 rfl dX6_runs_64 ?_
          refine lv_goto (tgt := 74) hx hb dX6_runs_67 (by decide) ?_
          exact r_i C hP hS hw dX6_runs_74
      · have hw := hw.2 hc
        refine lv_iload_n hx hb dX6_runs_31 rfl (lv_at hl 1 rfl) ?_
        refine lv_if_eq (tgt := 45) hx hb dX6_runs_32 (by decide) (fun hc => ?_) (fun hc => ?_)
        · have hw := hw.1 hc
          exact b_X6_runs_45 C _ _ _ _ hw hP hS (lv_sub hl [] rfl)
        · have hw := hw.2 hc
          refine lv_aload_n hx hb dX6_runs_35 rfl (lv_at hl 0 rfl) ?_
          refine g_f C hP (by decide) (sM_0 K _) rfl hX6_runs_X6 0 (by decide) kX6_runs_f7 rfl dX6_runs_36 ?_
          refine lv_bipush hx hb dX6_runs_39 bp_20 ?_
          refine a_il C hP (by decide) (sM_1 K _) vi_20_222 ti_20 dX6_runs_41 ?_
          refine lv_if_ne (tgt := 50) hx hb dX6_runs_42 (by decide) (fun hc => ?_) (fun hc => ?_)
          · have hw := hw.1 hc
            refine lv_sipush hx hb dX6_runs_50 sp_10000 ?_
            refine lv_aload_n hx hb dX6_runs_53 rfl (lv_at hl 0 rfl) ?_
            refine g_f C hP (by decide) (sM_0 K _) rfl hX6_runs_X6 17 (by decide) kX6_runs_f151 rfl dX6_runs_54 ?_
            refine lv_iadd hx hb dX6_runs_57 ?_
            exact r_i C hP hS hw dX6_runs_58
          · have hw := hw.2 hc
            exact b_X6_runs_45 C _ _ _ _ hw hP hS (lv_sub hl [] rfl)
    · have hw := hw.2 hc
      refine lv_iconst hx hb dX6_runs_19 ic_m1 ?_
      exact r_i C hP hS hw dX6_runs_20

theorem kX6_ahead_c168 : Cond.constant RX6 168 (20000000) ∈ wsX6_ahead := List.mem_of_getElem? (i := 1) rfl
theorem kX6_ahead_f7 : Cond.fieldLink RX6 7 (TX6 0).1 (TX6 0).2.1 (TX6 0).2.2.1 ∈ wsX6_ahead := List.mem_of_getElem? (i := 2) rfl
theorem hX6_ahead_X6 : ∀ w ∈ u_ws RX6 TX6 26, w ∈ wsX6_ahead := fun _ h => List.mem_cons_of_mem _ (List.mem_append_right _ (h))
abbrev rmX6_ahead : Room := { frames := 5, cells := 0, slots := 0, locals := 117 }
def q_X6_ahead (v1 : Int32) (v2 : Int32) (M : Mem) (Q : Int32 → Mem → Prop) : Prop := q_X6_isWheel v1 M (fun r_2 M_1 => ((r_2 = 0 → Q (-1 : Int32) M_1) ∧ (¬ r_2 = 0 → q_X6_isLong v2 M_1 (fun r_4 M_3 => ((¬ r_4 = 0 → q_X6_edgesGo v2 M_3 (fun M_5 => vp_in ((179 : Int32) + v1) 222 ∧ Q ((20000000 : Int32) + (M_5 1 ((179 : Int32) + v1).toNatClampNeg)) M_5)) ∧ (r_4 = 0 → Q (-1 : Int32) M_3))))))
theorem dsX6_ahead : yX6_ahead.cls = RX6 ∧ yX6_ahead.cls ≠ "java/lang/invoke/MethodHandle" ∧ yX6_ahead.cls ≠ "java/lang/invoke/VarHandle" ∧ (parseMethodDescriptor yX6_ahead.desc).map (fun d => d.parameters.length) = some 2 := by decide +kernel
set_option maxRecDepth 100000 in
set_option maxHeartbeats 4000000 in
theorem c_X6_ahead {l : Launch} {K : wC} {v1 : Int32} {v2 : Int32} {M : Mem} {Q : Int32 → Mem → Prop} (hw : q_X6_ahead v1 v2 M Q) : metI l yX6_ahead wsX6_ahead rmX6_ahead shM 12 K [.ref (kb K + 0), .int v1, .int v2] M Q := by
  refine met_of (cc := cX6_ahead) (maxL := 3) (ret := (some .int)) (own := RX6) (by decide) rfl rfl (Nat.le_of_ble_eq_true rfl) ?_
  intro p e s m below meth c ls C hl hP hS
  have hl : lv_has ls 3 [(0, .ref (kb K + 0)), (1, .int v1), (2, .int v2)] := hl
  obtain ⟨hx, hb, hml, hown, hts, hr, hlk, hK⟩ := id C
  have hP0 := hP
  delta q_X6_ahead at hw
  refine lv_aload_n hx hb dX6_ahead_0 rfl (lv_at hl 0 rfl) ?_
  refine lv_iload_n hx hb dX6_ahead_1 rfl (lv_at hl 1 rfl) ?_
  refine c_i (run_v (As := [.int v1]) (rest := []) C hP hS (c_X6_isWheel hw) gX6_ahead_X6_isWheel rfl dsX6_isWheel rfl ⟨rfl, rfl⟩ ⟨Nat.le_of_ble_eq_true rfl, Nat.le_of_ble_eq_true rfl⟩ (by decide) (sM_0 K _) rfl hl.1 rfl (Nat.le_of_ble_eq_true rfl) dX6_ahead_2 ⟨Nat.le_of_ble_eq_true rfl, Nat.le_of_ble_eq_true rfl⟩) hS (fun r_2 M_1 H locs hw hP hS => ?_)
  refine lv_if_eq (tgt := 15) hx hb dX6_ahead_5 (by decide) (fun hc => ?_) (fun hc => ?_)
  · have hw := hw.1 hc
    refine lv_iconst hx hb dX6_ahead_15 ic_m1 ?_
    exact r_i C hP hS hw dX6_ahead_16
  · have hw := hw.2 hc
    refine lv_iload_n hx hb dX6_ahead_8 rfl (lv_at hl 2 rfl) ?_
    refine c_i (run_s (As := [.int v2]) (rest := []) C hP hS (c_X6_isLong hw) gX6_ahead_X6_isLong rfl dsX6_isLong rfl ⟨rfl, rfl⟩ ⟨Nat.le_of_ble_eq_true rfl, Nat.le_of_ble_eq_true rfl⟩ hl.1 rfl (Nat.le_of_ble_eq_true rfl) dX6_ahead_9 ⟨Nat.le_of_ble_eq_true rfl, Nat.le_of_ble_eq_true rfl⟩) hS (fun r_4 M_3 H locs hw hP hS => ?_)
    refine lv_if_ne (tgt := 17) hx hb dX6_ahead_12 (by decide) (fun hc => ?_) (fun hc => ?_)
    · have hw := hw.1 hc
      refine lv_aload_n hx hb dX6_ahead_17 rfl (lv_at hl 0 rfl) ?_
      refine lv_iload_n hx hb dX6_ahead_18 rfl (lv_at hl 2 rfl) ?_
      refine c_v (run_v (As := [.int v2]) (rest := []) C hP hS (c_X6_edgesGo hw) gX6_ahead_X6_edgesGo rfl dsX6_edgesGo rfl ⟨rfl, rfl⟩ ⟨Nat.le_of_ble_eq_true rfl, Nat.le_of_ble_eq_true rfl⟩ (by decide) (sM_0 K _) rfl hl.1 rfl (Nat.le_of_ble_eq_true rfl) dX6_ahead_19 ⟨Nat.le_of_ble_eq_true rfl, Nat.le_of_ble_eq_true rfl⟩) hS (fun M_5 H locs hw hP hS => ?_)
      refine lv_ldc hx hb hown (hts _ kX6_ahead_c168) dX6_ahead_22 ?_
      refine lv_aload_n hx hb dX6_ahead_24 rfl (lv_at hl 0 rfl) ?_
      refine g_f C hP (by decide) (sM_0 K _) rfl hX6_ahead_X6 0 (by decide) kX6_ahead_f7 rfl dX6_ahead_25 ?_
      refine lv_sipush hx hb dX6_ahead_28 sp_179 ?_
      refine lv_iload_n hx hb dX6_ahead_31 rfl (lv_at hl 1 rfl) ?_
      refine lv_iadd hx hb dX6_ahead_32 ?_
      have hi_6 := hw.1
      have hw := hw.2
      refine a_il C hP (by decide) (sM_1 K _) hi_6 rfl dX6_ahead_33 ?_
      refine lv_iadd hx hb dX6_ahead_34 ?_
      exact r_i C hP hS hw dX6_ahead_35
    · have hw := hw.2 hc
      refine lv_iconst hx hb dX6_ahead_15 ic_m1 ?_
      exact r_i C hP hS hw dX6_ahead_16

theorem kX6_when_f7 : Cond.fieldLink RX6 7 (TX6 0).1 (TX6 0).2.1 (TX6 0).2.2.1 ∈ wsX6_when := List.mem_of_getElem? (i := 1) rfl
theorem hX6_when_X6 : ∀ w ∈ u_ws RX6 TX6 26, w ∈ wsX6_when := fun _ h => List.mem_cons_of_mem _ (List.mem_append_right _ (h))
theorem kX6_when_c168 : Cond.constant RX6 168 (20000000) ∈ wsX6_when := List.mem_of_getElem? (i := 2) rfl
abbrev rmX6_when : Room := { frames := 5, cells := 0, slots := 0, locals := 117 }
abbrev t_X6_when : Type := (Int32 → Int32 → Int32 → Mem → Prop)
def f_X6_when_24 (Q : Int32 → Mem → Prop) (r : t_X6_when) (v1 : Int32) (v2 : Int32) (v3 : Int32) (M : Mem) : Prop := (((200 : Int32) < v3 → Q (-4 : Int32) M) ∧ (¬ (200 : Int32) < v3 → vp_in ((179 : Int32) + v1) 222 ∧ (((M 1 ((179 : Int32) + v1).toNatClampNeg) < (v2 - (20000000 : Int32)) → q_X6_tracesOn (148 : Int32) (0 : Int32) M (fun M_7 => r v1 v2 (v3 + 1) M_7)) ∧ (¬ (M 1 ((179 : Int32) + v1).toNatClampNeg) < (v2 - (20000000 : Int32)) → Q v3 M))))
def p_X6_when (Q : Int32 → Mem → Prop) : Nat → t_X6_when
  | 0 => fun _ _ _ _ => False
  | n + 1 => f_X6_when_24 Q (p_X6_when Q n)
def e_X6_when (v1 : Int32) (v2 : Int32) (Q : Int32 → Mem → Prop) (r : t_X6_when) (M : Mem) : Prop := q_X6_isWheel v1 M (fun r_2 M_1 => ((r_2 = 0 → Q (-1 : Int32) M_1) ∧ (¬ r_2 = 0 → q_X6_isReading v2 M_1 (fun r_4 M_3 => ((¬ r_4 = 0 → q_X6_edgesGo (0 : Int32) M_3 (fun M_5 => r v1 v2 (0 : Int32) M_5)) ∧ (r_4 = 0 → Q (-1 : Int32) M_3))))))
def q_X6_when (v1 : Int32) (v2 : Int32) (M : Mem) (Q : Int32 → Mem → Prop) : Prop := ∃ n : Nat, e_X6_when v1 v2 Q (p_X6_when Q n) M
set_option maxRecDepth 100000 in
set_option maxHeartbeats 4000000 in
theorem b_X6_when {l : Launch} {K : wC} {Q : Int32 → Mem → Prop} {p : Program} {e : Env} {s : State} {m : MethodId} {args : Array Value} {below : List Frame} {meth : Method} {c : Code} (C : cx 12 K p s m args meth c cX6_when 4 wsX6_when RX6 (some .int)) : ∀ n : Nat, (∀ (v1 : Int32) (v2 : Int32) (v3 : Int32) (M : Mem) (H : Heap) (locs : List Loc) (ls : Array Slot), (p_X6_when Q n) v1 v2 v3 M → wP shM 12 K M H → va_S (wA 12 K) s.heap H locs → lv_has ls 4 [(0, .ref (kb K + 0)), (1, .int v1), (2, .int v2), (3, .int v3)] → W p l e rmX6_when s m args below meth c H locs 0 0 (MQ below (va_Qi Q (wE shM 12 K) (wA 12 K)) args s 0 0 (wA 12 K)) (F0 m 24 ls [])) := by
  obtain ⟨hx, hb, hml, hown, hts, hr, hlk, hK⟩ := id C
  intro n
  induction n with
  | zero => exact fun _ _ _ _ _ _ _ hw _ _ _ => False.elim hw
  | succ n ih =>
    intro v1 v2 v3 M H locs ls hw hP hS hl
    have hw : f_X6_when_24 Q (p_X6_when Q n) v1 v2 v3 M := hw
    delta f_X6_when_24 at hw
    refine lv_iload_n hx hb dX6_when_24 rfl (lv_at hl 3 rfl) ?_
    refine lv_sipush hx hb dX6_when_25 sp_200 ?_
    refine lv_icmp_gt (tgt := 64) hx hb dX6_when_28 (by decide) (fun hc => ?_) (fun hc => ?_)
    · have hw := hw.1 hc
      refine lv_bipush hx hb dX6_when_64 bp_m4 ?_
      exact r_i C hP hS hw dX6_when_66
    · have hw := hw.2 hc
      refine lv_aload_n hx hb dX6_when_31 rfl (lv_at hl 0 rfl) ?_
      refine g_f C hP (by decide) (sM_0 K _) rfl hX6_when_X6 0 (by decide) kX6_when_f7 rfl dX6_when_32 ?_
      refine lv_sipush hx hb dX6_when_35 sp_179 ?_
      refine lv_iload_n hx hb dX6_when_38 rfl (lv_at hl 1 rfl) ?_
      refine lv_iadd hx hb dX6_when_39 ?_
      have hi_6 := hw.1
      have hw := hw.2
      refine a_il C hP (by decide) (sM_1 K _) hi_6 rfl dX6_when_40 ?_
      refine lv_iload_n hx hb dX6_when_41 rfl (lv_at hl 2 rfl) ?_
      refine lv_ldc hx hb hown (hts _ kX6_when_c168) dX6_when_42 ?_
      refine lv_isub hx hb dX6_when_44 ?_
      refine lv_icmp_lt (tgt := 50) hx hb dX6_when_45 (by decide) (fun hc => ?_) (fun hc => ?_)
      · have hw := hw.1 hc
        refine lv_aload_n hx hb dX6_when_50 rfl (lv_at hl 0 rfl) ?_
        refine lv_sipush hx hb dX6_when_51 sp_148 ?_
        refine lv_iconst hx hb dX6_when_54 ic_0 ?_
        refine c_v (run_v (As := [.int (148 : Int32), .int (0 : Int32)]) (rest := []) C hP hS (c_X6_tracesOn hw) gX6_when_X6_tracesOn rfl dsX6_tracesOn rfl ⟨rfl, rfl⟩ ⟨Nat.le_of_ble_eq_true rfl, Nat.le_of_ble_eq_true rfl⟩ (by decide) (sM_0 K _) rfl hl.1 rfl (Nat.le_of_ble_eq_true rfl) dX6_when_55 ⟨Nat.le_of_ble_eq_true rfl, Nat.le_of_ble_eq_true rfl⟩) hS (fun M_7 H locs hw hP hS => ?_)
        refine lv_iinc (v := (v3 + 1)) (lv' := [(3, .int (v3 + 1)), (0, .ref (kb K + 0)), (1, .int v1), (2, .int v2)]) hx hb dX6_when_58 hl (k := 3) rfl (by rw [ic_1]) (by decide) rfl (fun ls hl => ?_)
        refine lv_goto (tgt := 24) hx hb dX6_when_61 (by decide) ?_
        exact ih _ _ _ _ _ _ _ hw hP hS (lv_sub hl [1, 2, 3, 0] rfl)
      · have hw := hw.2 hc
        refine lv_iload_n hx hb dX6_when_48 rfl (lv_at hl 3 rfl) ?_
        exact r_i C hP hS hw dX6_when_49
theorem dsX6_when : yX6_when.cls = RX6 ∧ yX6_when.cls ≠ "java/lang/invoke/MethodHandle" ∧ yX6_when.cls ≠ "java/lang/invoke/VarHandle" ∧ (parseMethodDescriptor yX6_when.desc).map (fun d => d.parameters.length) = some 2 := by decide +kernel
set_option maxRecDepth 100000 in
set_option maxHeartbeats 4000000 in
theorem c_X6_when {l : Launch} {K : wC} {v1 : Int32} {v2 : Int32} {M : Mem} {Q : Int32 → Mem → Prop} (hw : q_X6_when v1 v2 M Q) : metI l yX6_when wsX6_when rmX6_when shM 12 K [.ref (kb K + 0), .int v1, .int v2] M Q := by
  refine met_of (cc := cX6_when) (maxL := 4) (ret := (some .int)) (own := RX6) (by decide) rfl rfl (Nat.le_of_ble_eq_true rfl) ?_
  intro p e s m below meth c ls C hl hP hS
  have hl : lv_has ls 4 [(0, .ref (kb K + 0)), (1, .int v1), (2, .int v2)] := hl
  obtain ⟨hx, hb, hml, hown, hts, hr, hlk, hK⟩ := id C
  have hP0 := hP
  obtain ⟨n, hw⟩ := hw
  have ih := b_X6_when (l := l) (e := e) (below := below) (Q := Q) C n
  delta e_X6_when at hw
  refine lv_aload_n hx hb dX6_when_0 rfl (lv_at hl 0 rfl) ?_
  refine lv_iload_n hx hb dX6_when_1 rfl (lv_at hl 1 rfl) ?_
  refine c_i (run_v (As := [.int v1]) (rest := []) C hP hS (c_X6_isWheel hw) gX6_when_X6_isWheel rfl dsX6_isWheel rfl ⟨rfl, rfl⟩ ⟨Nat.le_of_ble_eq_true rfl, Nat.le_of_ble_eq_true rfl⟩ (by decide) (sM_0 K _) rfl hl.1 rfl (Nat.le_of_ble_eq_true rfl) dX6_when_2 ⟨Nat.le_of_ble_eq_true rfl, Nat.le_of_ble_eq_true rfl⟩) hS (fun r_2 M_1 H locs hw hP hS => ?_)
  refine lv_if_eq (tgt := 15) hx hb dX6_when_5 (by decide) (fun hc => ?_) (fun hc => ?_)
  · have hw := hw.1 hc
    refine lv_iconst hx hb dX6_when_15 ic_m1 ?_
    exact r_i C hP hS hw dX6_when_16
  · have hw := hw.2 hc
    refine lv_iload_n hx hb dX6_when_8 rfl (lv_at hl 2 rfl) ?_
    refine c_i (run_s (As := [.int v2]) (rest := []) C hP hS (c_X6_isReading hw) gX6_when_X6_isReading rfl dsX6_isReading rfl ⟨rfl, rfl⟩ ⟨Nat.le_of_ble_eq_true rfl, Nat.le_of_ble_eq_true rfl⟩ hl.1 rfl (Nat.le_of_ble_eq_true rfl) dX6_when_9 ⟨Nat.le_of_ble_eq_true rfl, Nat.le_of_ble_eq_true rfl⟩) hS (fun r_4 M_3 H locs hw hP hS => ?_)
    refine lv_if_ne (tgt := 17) hx hb dX6_when_12 (by decide) (fun hc => ?_) (fun hc => ?_)
    · have hw := hw.1 hc
      refine lv_aload_n hx hb dX6_when_17 rfl (lv_at hl 0 rfl) ?_
      refine lv_iconst hx hb dX6_when_18 ic_0 ?_
      refine c_v (run_v (As := [.int (0 : Int32)]) (rest := []) C hP hS (c_X6_edgesGo hw) gX6_when_X6_edgesGo rfl dsX6_edgesGo rfl ⟨rfl, rfl⟩ ⟨Nat.le_of_ble_eq_true rfl, Nat.le_of_ble_eq_true rfl⟩ (by decide) (sM_0 K _) rfl hl.1 rfl (Nat.le_of_ble_eq_true rfl) dX6_when_19 ⟨Nat.le_of_ble_eq_true rfl, Nat.le_of_ble_eq_true rfl⟩) hS (fun M_5 H locs hw hP hS => ?_)
      refine lv_iconst hx hb dX6_when_22 ic_0 ?_
      refine lv_istore_n (lv' := [(3, .int (0 : Int32)), (0, .ref (kb K + 0)), (1, .int v1), (2, .int v2)]) hx hb dX6_when_23 rfl hl (by decide) rfl (fun ls hl => ?_)
      exact ih _ _ _ _ _ _ _ hw hP hS (lv_sub hl [1, 2, 3, 0] rfl)
    · have hw := hw.2 hc
      refine lv_iconst hx hb dX6_when_15 ic_m1 ?_
      exact r_i C hP hS hw dX6_when_16

theorem kX6_best_c215 : Cond.constant RX6 215 (1000000) ∈ wsX6_best := List.mem_of_getElem? (i := 1) rfl
theorem kX6_best_f7 : Cond.fieldLink RX6 7 (TX6 0).1 (TX6 0).2.1 (TX6 0).2.2.1 ∈ wsX6_best := List.mem_of_getElem? (i := 2) rfl
theorem hX6_best_X6 : ∀ w ∈ u_ws RX6 TX6 26, w ∈ wsX6_best := fun _ h => List.mem_cons_of_mem _ (List.mem_append_right _ (h))
abbrev rmX6_best : Room := { frames := 3, cells := 0, slots := 0, locals := 73 }
abbrev t_X6_best : Type := (Int32 → Int32 → Int32 → Int32 → Int32 → Mem → Prop) × (Int32 → Int32 → Int32 → Int32 → Int32 → Int32 → Mem → Prop) × (Int32 → Int32 → Int32 → Int32 → Int32 → Int32 → Int32 → Mem → Prop) × (Int32 → Int32 → Int32 → Int32 → Int32 → Int32 → Mem → Prop)
def f_X6_best_37 (Q : Int32 → Mem → Prop) (r : t_X6_best) (v1 : Int32) (v2 : Int32) (v3 : Int32) (v4 : Int32) (v5 : Int32) (M : Mem) : Prop := (((20 : Int32) < v5 → ((¬ v2 = 0 → Q v3 M) ∧ (v2 = 0 → Q v4 M))) ∧ (¬ (20 : Int32) < v5 → r.2.1 v1 v2 v3 v4 v5 (0 : Int32) M))
def f_X6_best_47 (Q : Int32 → Mem → Prop) (r : t_X6_best) (v1 : Int32) (v2 : Int32) (v3 : Int32) (v4 : Int32) (v5 : Int32) (v6 : Int32) (M : Mem) : Prop := (((20 : Int32) < v6 → r.1 v1 v2 v3 v4 (v5 + 1) M) ∧ (¬ (20 : Int32) < v6 → q_X6_errorOn (185 : Int32) v1 (mU (mU M 1 206 v5) 1 207 v6) (fun r_7 M_6 => ((v3 ≤ r_7 → r.2.2.1 v1 v2 v3 v5 v6 r_7 v4 M_6) ∧ (¬ v3 ≤ r_7 → r.2.2.1 v1 v2 v3 v5 v6 r_7 (((100 : Int32) * v5) + v6) M_6)))))
def f_X6_best_103 (Q : Int32 → Mem → Prop) (r : t_X6_best) (v1 : Int32) (v2 : Int32) (v3 : Int32) (v5 : Int32) (v6 : Int32) (v7 : Int32) (s0 : Int32) (M : Mem) : Prop := ((v3 ≤ v7 → r.2.2.2 v1 v2 s0 v5 v6 v3 M) ∧ (¬ v3 ≤ v7 → r.2.2.2 v1 v2 s0 v5 v6 v7 M))
def f_X6_best_117 (Q : Int32 → Mem → Prop) (r : t_X6_best) (v1 : Int32) (v2 : Int32) (v4 : Int32) (v5 : Int32) (v6 : Int32) (s0 : Int32) (M : Mem) : Prop := r.2.1 v1 v2 s0 v4 v5 (v6 + 1) M
def p_X6_best (Q : Int32 → Mem → Prop) : Nat → t_X6_best
  | 0 => (fun _ _ _ _ _ _ => False, fun _ _ _ _ _ _ _ => False, fun _ _ _ _ _ _ _ _ => False, fun _ _ _ _ _ _ _ => False)
  | n + 1 => (f_X6_best_37 Q (p_X6_best Q n), f_X6_best_47 Q (p_X6_best Q n), f_X6_best_103 Q (p_X6_best Q n), f_X6_best_117 Q (p_X6_best Q n))
def e_X6_best (v1 : Int32) (v2 : Int32) (Q : Int32 → Mem → Prop) (r : t_X6_best) (M : Mem) : Prop := q_X6_isWheel v1 M (fun r_2 M_1 => ((r_2 = 0 → Q (-1 : Int32) M_1) ∧ (¬ r_2 = 0 → q_X6_in v2.toInt64 (0 : Int64) (1 : Int64) M_1 (fun r_4 M_3 => ((¬ r_4 = 0 → q_X6_copies (0 : Int32) (185 : Int32) M_3 (fun M_5 => r.1 v1 v2 (1000000 : Int32) (0 : Int32) (0 : Int32) M_5)) ∧ (r_4 = 0 → Q (-1 : Int32) M_3))))))
def q_X6_best (v1 : Int32) (v2 : Int32) (M : Mem) (Q : Int32 → Mem → Prop) : Prop := ∃ n : Nat, e_X6_best v1 v2 Q (p_X6_best Q n) M
set_option maxRecDepth 100000 in
set_option maxHeartbeats 4000000 in
theorem b_X6_best {l : Launch} {K : wC} {Q : Int32 → Mem → Prop} {p : Program} {e : Env} {s : State} {m : MethodId} {args : Array Value} {below : List Frame} {meth : Method} {c : Code} (C : cx 12 K p s m args meth c cX6_best 8 wsX6_best RX6 (some .int)) : ∀ n : Nat, (∀ (v1 : Int32) (v2 : Int32) (v3 : Int32) (v4 : Int32) (v5 : Int32) (M : Mem) (H : Heap) (locs : List Loc) (ls : Array Slot), (p_X6_best Q n).1 v1 v2 v3 v4 v5 M → wP shM 12 K M H → va_S (wA 12 K) s.heap H locs → lv_has ls 8 [(0, .ref (kb K + 0)), (1, .int v1), (2, .int v2), (3, .int v3), (4, .int v4), (5, .int v5)] → W p l e rmX6_best s m args below meth c H locs 0 0 (MQ below (va_Qi Q (wE shM 12 K) (wA 12 K)) args s 0 0 (wA 12 K)) (F0 m 37 ls [])) ∧ (∀ (v1 : Int32) (v2 : Int32) (v3 : Int32) (v4 : Int32) (v5 : Int32) (v6 : Int32) (M : Mem) (H : Heap) (locs : List Loc) (ls : Array Slot), (p_X6_best Q n).2.1 v1 v2 v3 v4 v5 v6 M → wP shM 12 K M H → va_S (wA 12 K) s.heap H locs → lv_has ls 8 [(0, .ref (kb K + 0)), (1, .int v1), (2, .int v2), (3, .int v3), (4, .int v4), (5, .int v5), (6, .int v6)] → W p l e rmX6_best s m args below meth c H locs 0 0 (MQ below (va_Qi Q (wE shM 12 K) (wA 12 K)) args s 0 0 (wA 12 K)) (F0 m 47 ls [])) ∧ (∀ (v1 : Int32) (v2 : Int32) (v3 : Int32) (v5 : Int32) (v6 : Int32) (v7 : Int32) (s0 : Int32) (M : Mem) (H : Heap) (locs : List Loc) (ls : Array Slot), (p_X6_best Q n).2.2.1 v1 v2 v3 v5 v6 v7 s0 M → wP shM 12 K M H → va_S (wA 12 K) s.heap H locs → lv_has ls 8 [(0, .ref (kb K + 0)), (1, .int v1), (2, .int v2), (3, .int v3), (5, .int v5), (6, .int v6), (7, .int v7)] → W p l e rmX6_best s m args below meth c H locs 0 0 (MQ below (va_Qi Q (wE shM 12 K) (wA 12 K)) args s 0 0 (wA 12 K)) (F0 m 103 ls [.int s0])) ∧ (∀ (v1 : Int32) (v2 : Int32) (v4 : Int32) (v5 : Int32) (v6 : Int32) (s0 : Int32) (M : Mem) (H : Heap) (locs : List Loc) (ls : Array Slot), (p_X6_best Q n).2.2.2 v1 v2 v4 v5 v6 s0 M → wP shM 12 K M H → va_S (wA 12 K) s.heap H locs → lv_has ls 8 [(0, .ref (kb K + 0)), (1, .int v1), (2, .int v2), (4, .int v4), (5, .int v5), (6, .int v6)] → W p l e rmX6_best s m args below meth c H locs 0 0 (MQ below (va_Qi Q (wE shM 12 K) (wA 12 K)) args s 0 0 (wA 12 K)) (F0 m 117 ls [.int s0])) := by
  obtain ⟨hx, hb, hml, hown, hts, hr, hlk, hK⟩ := id C
  intro n
  induction n with
  | zero => exact ⟨fun _ _ _ _ _ _ _ _ _ hw _ _ _ => False.elim hw, fun _ _ _ _ _ _ _ _ _ _ hw _ _ _ => False.elim hw, fun _ _ _ _ _ _ _ _ _ _ _ hw _ _ _ => False.elim hw, fun _ _ _ _ _ _ _ _ _ _ hw _ _ _ => False.elim hw⟩
  | succ n ih =>
    refine ⟨?_, ?_, ?_, ?_⟩
    · intro v1 v2 v3 v4 v5 M H locs ls hw hP hS hl
      have hw : f_X6_best_37 Q (p_X6_best Q n) v1 v2 v3 v4 v5 M := hw
      delta f_X6_best_37 at hw
      refine lv_iload hx hb dX6_best_37 (lv_at hl 5 rfl) ?_
      refine lv_bipush hx hb dX6_best_39 bp_20 ?_
      refine lv_icmp_gt (tgt := 130) hx hb dX6_best_41 (by decide) (fun hc => ?_) (fun hc => ?_)
      · have hw := hw.1 hc
        refine lv_iload_n hx hb dX6_best_130 rfl (lv_at hl 2 rfl) ?_
        refine lv_if_ne (tgt := 139) hx hb dX6_best_131 (by decide) (fun hc => ?_) (fun hc => ?_)
        · have hw := hw.1 hc
          refine lv_iload_n hx hb dX6_best_139 rfl (lv_at hl 3 rfl) ?_
          exact r_i C hP hS hw dX6_best_140
        · have hw := hw.2 hc
          refine lv_iload hx hb dX6_best_134 (lv_at hl 4 rfl) ?_
          refine lv_goto (tgt := 140) hx hb dX6_best_136 (by decide) ?_
          exact r_i C hP hS hw dX6_best_140
      · have hw := hw.2 hc
        refine lv_iconst hx hb dX6_best_44 ic_0 ?_
        refine lv_istore (lv' := [(6, .int (0 : Int32)), (0, .ref (kb K + 0)), (1, .int v1), (2, .int v2), (3, .int v3), (4, .int v4), (5, .int v5)]) hx hb dX6_best_45 hl (by decide) rfl (fun ls hl => ?_)
        exact ih.2.1 _ _ _ _ _ _ _ _ _ _ hw hP hS (lv_sub hl [1, 2, 3, 4, 5, 6, 0] rfl)
    · intro v1 v2 v3 v4 v5 v6 M H locs ls hw hP hS hl
      have hw : f_X6_best_47 Q (p_X6_best Q n) v1 v2 v3 v4 v5 v6 M := hw
      delta f_X6_best_47 at hw
      refine lv_iload hx hb dX6_best_47 (lv_at hl 6 rfl) ?_
      refine lv_bipush hx hb dX6_best_49 bp_20 ?_
      refine lv_icmp_gt (tgt := 124) hx hb dX6_best_51 (by decide) (fun hc => ?_) (fun hc => ?_)
      · have hw := hw.1 hc
        refine lv_iinc (v := (v5 + 1)) (lv' := [(5, .int (v5 + 1)), (0, .ref (kb K + 0)), (1, .int v1), (2, .int v2), (3, .int v3), (4, .int v4), (6, .int v6)]) hx hb dX6_best_124 hl (k := 5) rfl (by rw [ic_1]) (by decide) rfl (fun ls hl => ?_)
        refine lv_goto (tgt := 37) hx hb dX6_best_127 (by decide) ?_
        exact ih.1 _ _ _ _ _ _ _ _ _ hw hP hS (lv_sub hl [1, 2, 3, 4, 5, 0] rfl)
      · have hw := hw.2 hc
        refine lv_aload_n hx hb dX6_best_54 rfl (lv_at hl 0 rfl) ?_
        refine g_f C hP (by decide) (sM_0 K _) rfl hX6_best_X6 0 (by decide) kX6_best_f7 rfl dX6_best_55 ?_
        refine lv_sipush hx hb dX6_best_58 sp_206 ?_
        refine lv_iload hx hb dX6_best_61 (lv_at hl 5 rfl) ?_
        refine a_is C hP hS (by decide) (sM_1 K) vi_206_222 ti_206 dX6_best_63 (fun H locs hP hS => ?_)
        refine lv_aload_n hx hb dX6_best_64 rfl (lv_at hl 0 rfl) ?_
        refine g_f C hP (by decide) (sM_0 K _) rfl hX6_best_X6 0 (by decide) kX6_best_f7 rfl dX6_best_65 ?_
        refine lv_sipush hx hb dX6_best_68 sp_207 ?_
        refine lv_iload hx hb dX6_best_71 (lv_at hl 6 rfl) ?_
        refine a_is C hP hS (by decide) (sM_1 K) vi_207_222 ti_207 dX6_best_73 (fun H locs hP hS => ?_)
        refine lv_aload_n hx hb dX6_best_74 rfl (lv_at hl 0 rfl) ?_
        refine lv_sipush hx hb dX6_best_75 sp_185 ?_
        refine lv_iload_n hx hb dX6_best_78 rfl (lv_at hl 1 rfl) ?_
        refine c_i (run_v (As := [.int (185 : Int32), .int v1]) (rest := []) C hP hS (c_X6_errorOn hw) gX6_best_X6_errorOn rfl dsX6_errorOn rfl ⟨rfl, rfl⟩ ⟨Nat.le_of_ble_eq_true rfl, Nat.le_of_ble_eq_true rfl⟩ (by decide) (sM_0 K _) rfl hl.1 rfl (Nat.le_of_ble_eq_true rfl) dX6_best_79 ⟨Nat.le_of_ble_eq_true rfl, Nat.le_of_ble_eq_true rfl⟩) hS (fun r_7 M_6 H locs hw hP hS => ?_)
        refine lv_istore (lv' := [(7, .int r_7), (0, .ref (kb K + 0)), (1, .int v1), (2, .int v2), (3, .int v3), (4, .int v4), (5, .int v5), (6, .int v6)]) hx hb dX6_best_82 hl (by decide) rfl (fun ls hl => ?_)
        refine lv_iload hx hb dX6_best_84 (lv_at hl 0 rfl) ?_
        refine lv_iload_n hx hb dX6_best_86 rfl (lv_at hl 4 rfl) ?_
        refine lv_icmp_ge (tgt := 101) hx hb dX6_best_87 (by decide) (fun hc => ?_) (fun hc => ?_)
        · have hw := hw.1 hc
          refine lv_iload hx hb dX6_best_101 (lv_at hl 5 rfl) ?_
          exact ih.2.2.1 _ _ _ _ _ _ _ _ _ _ _ hw hP hS (lv_sub hl [1, 2, 3, 4, 6, 7, 0] rfl)
        · have hw := hw.2 hc
          refine lv_bipush hx hb dX6_best_90 bp_100 ?_
          refine lv_iload hx hb dX6_best_92 (lv_at hl 6 rfl) ?_
          refine lv_imul hx hb dX6_best_94 ?_
          refine lv_iload hx hb dX6_best_95 (lv_at hl 7 rfl) ?_
          refine lv_iadd hx hb dX6_best_97 ?_
          refine lv_goto (tgt := 103) hx hb dX6_best_98 (by decide) ?_
          exact ih.2.2.1 _ _ _ _ _ _ _ _ _ _ _ hw hP hS (lv_sub hl [1, 2, 3, 4, 6, 7, 0] rfl)
    · intro v1 v2 v3 v5 v6 v7 s0 M H locs ls hw hP hS hl
      have hw : f_X6_best_103 Q (p_X6_best Q n) v1 v2 v3 v5 v6 v7 s0 M := hw
      delta f_X6_best_103 at hw
      refine lv_istore (lv' := [(4, .int s0), (0, .ref (kb K + 0)), (1, .int v1), (2, .int v2), (3, .int v3), (5, .int v5), (6, .int v6), (7, .int v7)]) hx hb dX6_best_103 hl (by decide) rfl (fun ls hl => ?_)
      refine lv_iload hx hb dX6_best_105 (lv_at hl 7 rfl) ?_
      refine lv_iload_n hx hb dX6_best_107 rfl (lv_at hl 4 rfl) ?_
      refine lv_icmp_ge (tgt := 116) hx hb dX6_best_108 (by decide) (fun hc => ?_) (fun hc => ?_)
      · have hw := hw.1 hc
        refine lv_iload_n hx hb dX6_best_116 rfl (lv_at hl 4 rfl) ?_
        exact ih.2.2.2 _ _ _ _ _ _ _ _ _ _ hw hP hS (lv_sub hl [1, 2, 3, 0, 5, 6] rfl)
      · have hw := hw.2 hc
        refine lv_iload hx hb dX6_best_111 (lv_at hl 7 rfl) ?_
        refine lv_goto (tgt := 117) hx hb dX6_best_113 (by decide) ?_
        exact ih.2.2.2 _ _ _ _ _ _ _ _ _ _ hw hP hS (lv_sub hl [1, 2, 3, 0, 5, 6] rfl)
    · intro v1 v2 v4 v5 v6 s0 M H locs ls hw hP hS hl
      have hw : f_X6_best_117 Q (p_X6_best Q n) v1 v2 v4 v5 v6 s0 M := hw
      delta f_X6_best_117 at hw
      refine lv_istore_n (lv' := [(3, .int s0), (0, .ref (kb K + 0)), (1, .int v1), (2, .int v2), (4, .int v4), (5, .int v5), (6, .int v6)]) hx hb dX6_best_117 rfl hl (by decide) rfl (fun ls hl => ?_)
      refine lv_iinc (v := (v6 + 1)) (lv' := [(6, .int (v6 + 1)), (3, .int s0), (0, .ref (kb K + 0)), (1, .int v1), (2, .int v2), (4, .int v4), (5, .int v5)]) hx hb dX6_best_118 hl (k := 6) rfl (by rw [ic_1]) (by decide) rfl (fun ls hl => ?_)
      refine lv_goto (tgt := 47) hx hb dX6_best_121 (by decide) ?_
      exact ih.2.1 _ _ _ _ _ _ _ _ _ _ hw hP hS (lv_sub hl [2, 3, 4, 1, 5, 6, 0] rfl)
theorem dsX6_best : yX6_best.cls = RX6 ∧ yX6_best.cls ≠ "java/lang/invoke/MethodHandle" ∧ yX6_best.cls ≠ "java/lang/invoke/VarHandle" ∧ (parseMethodDescriptor yX6_best.desc).map (fun d => d.parameters.length) = some 2 := by decide +kernel
set_option maxRecDepth 100000 in
set_option maxHeartbeats 4000000 in
theorem c_X6_best {l : Launch} {K : wC} {v1 : Int32} {v2 : Int32} {M : Mem} {Q : Int32 → Mem → Prop} (hw : q_X6_best v1 v2 M Q) : metI l yX6_best wsX6_best rmX6_best shM 12 K [.ref (kb K + 0), .int v1, .int v2] M Q := by
  refine met_of (cc := cX6_best) (maxL := 8) (ret := (some .int)) (own := RX6) (by decide) rfl rfl (Nat.le_of_ble_eq_true rfl) ?_
  intro p e s m below meth c ls C hl hP hS
  have hl : lv_has ls 8 [(0, .ref (kb K + 0)), (1, .int v1), (2, .int v2)] := hl
  obtain ⟨hx, hb, hml, hown, hts, hr, hlk, hK⟩ := id C
  have hP0 := hP
  obtain ⟨n, hw⟩ := hw
  have ih := b_X6_best (l := l) (e := e) (below := below) (Q := Q) C n
  delta e_X6_best at hw
  refine lv_aload_n hx hb dX6_best_0 rfl (lv_at hl 0 rfl) ?_
  refine lv_iload_n hx hb dX6_best_1 rfl (lv_at hl 1 rfl) ?_
  refine c_i (run_v (As := [.int v1]) (rest := []) C hP hS (c_X6_isWheel hw) gX6_best_X6_isWheel rfl dsX6_isWheel rfl ⟨rfl, rfl⟩ ⟨Nat.le_of_ble_eq_true rfl, Nat.le_of_ble_eq_true rfl⟩ (by decide) (sM_0 K _) rfl hl.1 rfl (Nat.le_of_ble_eq_true rfl) dX6_best_2 ⟨Nat.le_of_ble_eq_true rfl, Nat.le_of_ble_eq_true rfl⟩) hS (fun r_2 M_1 H locs hw hP hS => ?_)
  refine lv_if_eq (tgt := 18) hx hb dX6_best_5 (by decide) (fun hc => ?_) (fun hc => ?_)
  · have hw := hw.1 hc
    refine lv_iconst hx hb dX6_best_18 ic_m1 ?_
    exact r_i C hP hS hw dX6_best_19
  · have hw := hw.2 hc
    refine lv_iload_n hx hb dX6_best_8 rfl (lv_at hl 2 rfl) ?_
    refine lv_i2l hx hb dX6_best_9 rfl ?_
    refine lv_lconst hx hb dX6_best_10 lc_0 ?_
    refine lv_lconst hx hb dX6_best_11 lc_1 ?_
    refine c_i (run_s (As := [.long v2.toInt64, .long (0 : Int64), .long (1 : Int64)]) (rest := []) C hP hS (c_X6_in hw) gX6_best_X6_in rfl dsX6_in rfl ⟨rfl, rfl⟩ ⟨Nat.le_of_ble_eq_true rfl, Nat.le_of_ble_eq_true rfl⟩ hl.1 rfl (Nat.le_of_ble_eq_true rfl) dX6_best_12 ⟨Nat.le_of_ble_eq_true rfl, Nat.le_of_ble_eq_true rfl⟩) hS (fun r_4 M_3 H locs hw hP hS => ?_)
    refine lv_if_ne (tgt := 20) hx hb dX6_best_15 (by decide) (fun hc => ?_) (fun hc => ?_)
    · have hw := hw.1 hc
      refine lv_ldc hx hb hown (hts _ kX6_best_c215) dX6_best_20 ?_
      refine lv_istore_n (lv' := [(3, .int (1000000 : Int32)), (0, .ref (kb K + 0)), (1, .int v1), (2, .int v2)]) hx hb dX6_best_22 rfl hl (by decide) rfl (fun ls hl => ?_)
      refine lv_iconst hx hb dX6_best_23 ic_0 ?_
      refine lv_istore (lv' := [(4, .int (0 : Int32)), (3, .int (1000000 : Int32)), (0, .ref (kb K + 0)), (1, .int v1), (2, .int v2)]) hx hb dX6_best_24 hl (by decide) rfl (fun ls hl => ?_)
      refine lv_aload_n hx hb dX6_best_26 rfl (lv_at hl 2 rfl) ?_
      refine lv_iconst hx hb dX6_best_27 ic_0 ?_
      refine lv_sipush hx hb dX6_best_28 sp_185 ?_
      refine c_v (run_v (As := [.int (0 : Int32), .int (185 : Int32)]) (rest := []) C hP hS (c_X6_copies hw) gX6_best_X6_copies rfl dsX6_copies rfl ⟨rfl, rfl⟩ ⟨Nat.le_of_ble_eq_true rfl, Nat.le_of_ble_eq_true rfl⟩ (by decide) (sM_0 K _) rfl hl.1 rfl (Nat.le_of_ble_eq_true rfl) dX6_best_31 ⟨Nat.le_of_ble_eq_true rfl, Nat.le_of_ble_eq_true rfl⟩) hS (fun M_5 H locs hw hP hS => ?_)
      refine lv_iconst hx hb dX6_best_34 ic_0 ?_
      refine lv_istore (lv' := [(5, .int (0 : Int32)), (4, .int (0 : Int32)), (3, .int (1000000 : Int32)), (0, .ref (kb K + 0)), (1, .int v1), (2, .int v2)]) hx hb dX6_best_35 hl (by decide) rfl (fun ls hl => ?_)
      exact ih.1 _ _ _ _ _ _ _ _ _ hw hP hS (lv_sub hl [3, 4, 5, 2, 1, 0] rfl)
    · have hw := hw.2 hc
      refine lv_iconst hx hb dX6_best_18 ic_m1 ?_
      exact r_i C hP hS hw dX6_best_19

theorem kX6_step_c215 : Cond.constant RX6 215 (1000000) ∈ wsX6_step := List.mem_of_getElem? (i := 1) rfl
theorem kX6_step_f7 : Cond.fieldLink RX6 7 (TX6 0).1 (TX6 0).2.1 (TX6 0).2.2.1 ∈ wsX6_step := List.mem_of_getElem? (i := 2) rfl
theorem hX6_step_X6 : ∀ w ∈ u_ws RX6 TX6 26, w ∈ wsX6_step := fun _ h => List.mem_cons_of_mem _ (List.mem_append_right _ (h))
abbrev rmX6_step : Room := { frames := 3, cells := 0, slots := 0, locals := 73 }
abbrev t_X6_step : Type := (Int32 → Int32 → Int32 → Int32 → Int32 → Mem → Prop) × (Int32 → Int32 → Int32 → Int32 → Int32 → Int32 → Mem → Prop) × (Int32 → Int32 → Int32 → Int32 → Int32 → Mem → Prop)
def f_X6_step_38 (Q : Int32 → Mem → Prop) (r : t_X6_step) (v1 : Int32) (v2 : Int32) (v3 : Int32) (v4 : Int32) (v5 : Int32) (M : Mem) : Prop := ((v5 ≤ 0 → ((¬ v2 = 0 → Q v3 M) ∧ (v2 = 0 → Q v4 M))) ∧ (¬ v5 ≤ 0 → vp_in ((212 : Int32) + v1) 222 ∧ q_X6_errorOn (185 : Int32) v1 (mU M 1 ((212 : Int32) + v1).toNatClampNeg v5) (fun r_8 M_7 => ((v3 ≤ r_8 → r.2.1 v1 v2 v3 v5 r_8 v4 M_7) ∧ (¬ v3 ≤ r_8 → r.2.1 v1 v2 v3 v5 r_8 v5 M_7)))))
def f_X6_step_78 (Q : Int32 → Mem → Prop) (r : t_X6_step) (v1 : Int32) (v2 : Int32) (v3 : Int32) (v5 : Int32) (v6 : Int32) (s0 : Int32) (M : Mem) : Prop := ((v3 ≤ v6 → r.2.2 v1 v2 s0 v5 v3 M) ∧ (¬ v3 ≤ v6 → r.2.2 v1 v2 s0 v5 v6 M))
def f_X6_step_92 (Q : Int32 → Mem → Prop) (r : t_X6_step) (v1 : Int32) (v2 : Int32) (v4 : Int32) (v5 : Int32) (s0 : Int32) (M : Mem) : Prop := r.1 v1 v2 s0 v4 (v5 + (-1)) M
def p_X6_step (Q : Int32 → Mem → Prop) : Nat → t_X6_step
  | 0 => (fun _ _ _ _ _ _ => False, fun _ _ _ _ _ _ _ => False, fun _ _ _ _ _ _ => False)
  | n + 1 => (f_X6_step_38 Q (p_X6_step Q n), f_X6_step_78 Q (p_X6_step Q n), f_X6_step_92 Q (p_X6_step Q n))
def e_X6_step (v1 : Int32) (v2 : Int32) (Q : Int32 → Mem → Prop) (r : t_X6_step) (M : Mem) : Prop := q_X6_isWheel v1 M (fun r_2 M_1 => ((r_2 = 0 → Q (-1 : Int32) M_1) ∧ (¬ r_2 = 0 → q_X6_in v2.toInt64 (0 : Int64) (1 : Int64) M_1 (fun r_4 M_3 => ((¬ r_4 = 0 → q_X6_copies (0 : Int32) (185 : Int32) M_3 (fun M_5 => r.1 v1 v2 (1000000 : Int32) (0 : Int32) (9 : Int32) M_5)) ∧ (r_4 = 0 → Q (-1 : Int32) M_3))))))
def q_X6_step (v1 : Int32) (v2 : Int32) (M : Mem) (Q : Int32 → Mem → Prop) : Prop := ∃ n : Nat, e_X6_step v1 v2 Q (p_X6_step Q n) M
set_option maxRecDepth 100000 in
set_option maxHeartbeats 4000000 in
theorem b_X6_step {l : Launch} {K : wC} {Q : Int32 → Mem → Prop} {p : Program} {e : Env} {s : State} {m : MethodId} {args : Array Value} {below : List Frame} {meth : Method} {c : Code} (C : cx 12 K p s m args meth c cX6_step 7 wsX6_step RX6 (some .int)) : ∀ n : Nat, (∀ (v1 : Int32) (v2 : Int32) (v3 : Int32) (v4 : Int32) (v5 : Int32) (M : Mem) (H : Heap) (locs : List Loc) (ls : Array Slot), (p_X6_step Q n).1 v1 v2 v3 v4 v5 M → wP shM 12 K M H → va_S (wA 12 K) s.heap H locs → lv_has ls 7 [(0, .ref (kb K + 0)), (1, .int v1), (2, .int v2), (3, .int v3), (4, .int v4), (5, .int v5)] → W p l e rmX6_step s m args below meth c H locs 0 0 (MQ below (va_Qi Q (wE shM 12 K) (wA 12 K)) args s 0 0 (wA 12 K)) (F0 m 38 ls [])) ∧ (∀ (v1 : Int32) (v2 : Int32) (v3 : Int32) (v5 : Int32) (v6 : Int32) (s0 : Int32) (M : Mem) (H : Heap) (locs : List Loc) (ls : Array Slot), (p_X6_step Q n).2.1 v1 v2 v3 v5 v6 s0 M → wP shM 12 K M H → va_S (wA 12 K) s.heap H locs → lv_has ls 7 [(0, .ref (kb K + 0)), (1, .int v1), (2, .int v2), (3, .int v3), (5, .int v5), (6, .int v6)] → W p l e rmX6_step s m args below meth c H locs 0 0 (MQ below (va_Qi Q (wE shM 12 K) (wA 12 K)) args s 0 0 (wA 12 K)) (F0 m 78 ls [.int s0])) ∧ (∀ (v1 : Int32) (v2 : Int32) (v4 : Int32) (v5 : Int32) (s0 : Int32) (M : Mem) (H : Heap) (locs : List Loc) (ls : Array Slot), (p_X6_step Q n).2.2 v1 v2 v4 v5 s0 M → wP shM 12 K M H → va_S (wA 12 K) s.heap H locs → lv_has ls 7 [(0, .ref (kb K + 0)), (1, .int v1), (2, .int v2), (4, .int v4), (5, .int v5)] → W p l e rmX6_step s m args below meth c H locs 0 0 (MQ below (va_Qi Q (wE shM 12 K) (wA 12 K)) args s 0 0 (wA 12 K)) (F0 m 92 ls [.int s0])) := by
  obtain ⟨hx, hb, hml, hown, hts, hr, hlk, hK⟩ := id C
  intro n
  induction n with
  | zero => exact ⟨fun _ _ _ _ _ _ _ _ _ hw _ _ _ => False.elim hw, fun _ _ _ _ _ _ _ _ _ _ hw _ _ _ => False.elim hw, fun _ _ _ _ _ _ _ _ _ hw _ _ _ => False.elim hw⟩
  | succ n ih =>
    refine ⟨?_, ?_, ?_⟩
    · intro v1 v2 v3 v4 v5 M H locs ls hw hP hS hl
      have hw : f_X6_step_38 Q (p_X6_step Q n) v1 v2 v3 v4 v5 M := hw
      delta f_X6_step_38 at hw
      refine lv_iload hx hb dX6_step_38 (lv_at hl 5 rfl) ?_
      refine lv_if_le (tgt := 99) hx hb dX6_step_40 (by decide) (fun hc => ?_) (fun hc => ?_)
      · have hw := hw.1 hc
        refine lv_iload_n hx hb dX6_step_99 rfl (lv_at hl 2 rfl) ?_
        refine lv_if_ne (tgt := 108) hx hb dX6_step_100 (by decide) (fun hc => ?_) (fun hc => ?_)
        · have hw := hw.1 hc
          refine lv_iload_n hx hb dX6_step_108 rfl (lv_at hl 3 rfl) ?_
          exact r_i C hP hS hw dX6_step_109
        · have hw := hw.2 hc
          refine lv_iload hx hb dX6_step_103 (lv_at hl 4 rfl) ?_
          refine lv_goto (tgt := 109) hx hb dX6_step_105 (by decide) ?_
          exact r_i C hP hS hw dX6_step_109
      · have hw := hw.2 hc
        refine lv_aload_n hx hb dX6_step_43 rfl (lv_at hl 0 rfl) ?_
        refine g_f C hP (by decide) (sM_0 K _) rfl hX6_step_X6 0 (by decide) kX6_step_f7 rfl dX6_step_44 ?_
        refine lv_sipush hx hb dX6_step_47 sp_212 ?_
        refine lv_iload_n hx hb dX6_step_50 rfl (lv_at hl 1 rfl) ?_
        refine lv_iadd hx hb dX6_step_51 ?_
        refine lv_iload hx hb dX6_step_52 (lv_at hl 5 rfl) ?_
        have hi_6 := hw.1
        have hw := hw.2
        refine a_is C hP hS (by decide) (sM_1 K) hi_6 rfl dX6_step_54 (fun H locs hP hS => ?_)
        refine lv_aload_n hx hb dX6_step_55 rfl (lv_at hl 0 rfl) ?_
        refine lv_sipush hx hb dX6_step_56 sp_185 ?_
        refine lv_iload_n hx hb dX6_step_59 rfl (lv_at hl 1 rfl) ?_
        refine c_i (run_v (As := [.int (185 : Int32), .int v1]) (rest := []) C hP hS (c_X6_errorOn hw) gX6_step_X6_errorOn rfl dsX6_errorOn rfl ⟨rfl, rfl⟩ ⟨Nat.le_of_ble_eq_true rfl, Nat.le_of_ble_eq_true rfl⟩ (by decide) (sM_0 K _) rfl hl.1 rfl (Nat.le_of_ble_eq_true rfl) dX6_step_60 ⟨Nat.le_of_ble_eq_true rfl, Nat.le_of_ble_eq_true rfl⟩) hS (fun r_8 M_7 H locs hw hP hS => ?_)
        refine lv_istore (lv' := [(6, .int r_8), (0, .ref (kb K + 0)), (1, .int v1), (2, .int v2), (3, .int v3), (4, .int v4), (5, .int v5)]) hx hb dX6_step_63 hl (by decide) rfl (fun ls hl => ?_)
        refine lv_iload hx hb dX6_step_65 (lv_at hl 0 rfl) ?_
        refine lv_iload_n hx hb dX6_step_67 rfl (lv_at hl 4 rfl) ?_
        refine lv_icmp_ge (tgt := 76) hx hb dX6_step_68 (by decide) (fun hc => ?_) (fun hc => ?_)
        · have hw := hw.1 hc
          refine lv_iload hx hb dX6_step_76 (lv_at hl 5 rfl) ?_
          exact ih.2.1 _ _ _ _ _ _ _ _ _ _ hw hP hS (lv_sub hl [1, 2, 3, 4, 6, 0] rfl)
        · have hw := hw.2 hc
          refine lv_iload hx hb dX6_step_71 (lv_at hl 6 rfl) ?_
          refine lv_goto (tgt := 78) hx hb dX6_step_73 (by decide) ?_
          exact ih.2.1 _ _ _ _ _ _ _ _ _ _ hw hP hS (lv_sub hl [1, 2, 3, 4, 6, 0] rfl)
    · intro v1 v2 v3 v5 v6 s0 M H locs ls hw hP hS hl
      have hw : f_X6_step_78 Q (p_X6_step Q n) v1 v2 v3 v5 v6 s0 M := hw
      delta f_X6_step_78 at hw
      refine lv_istore (lv' := [(4, .int s0), (0, .ref (kb K + 0)), (1, .int v1), (2, .int v2), (3, .int v3), (5, .int v5), (6, .int v6)]) hx hb dX6_step_78 hl (by decide) rfl (fun ls hl => ?_)
      refine lv_iload hx hb dX6_step_80 (lv_at hl 6 rfl) ?_
      refine lv_iload_n hx hb dX6_step_82 rfl (lv_at hl 4 rfl) ?_
      refine lv_icmp_ge (tgt := 91) hx hb dX6_step_83 (by decide) (fun hc => ?_) (fun hc => ?_)
      · have hw := hw.1 hc
        refine lv_iload_n hx hb dX6_step_91 rfl (lv_at hl 4 rfl) ?_
        exact ih.2.2 _ _ _ _ _ _ _ _ _ hw hP hS (lv_sub hl [1, 2, 3, 0, 5] rfl)
      · have hw := hw.2 hc
        refine lv_iload hx hb dX6_step_86 (lv_at hl 6 rfl) ?_
        refine lv_goto (tgt := 92) hx hb dX6_step_88 (by decide) ?_
        exact ih.2.2 _ _ _ _ _ _ _ _ _ hw hP hS (lv_sub hl [1, 2, 3, 0, 5] rfl)
    · intro v1 v2 v4 v5 s0 M H locs ls hw hP hS hl
      have hw : f_X6_step_92 Q (p_X6_step Q n) v1 v2 v4 v5 s0 M := hw
      delta f_X6_step_92 at hw
      refine lv_istore_n (lv' := [(3, .int s0), (0, .ref (kb K + 0)), (1, .int v1), (2, .int v2), (4, .int v4), (5, .int v5)]) hx hb dX6_step_92 rfl hl (by decide) rfl (fun ls hl => ?_)
      refine lv_iinc (v := (v5 + (-1))) (lv' := [(5, .int (v5 + (-1))), (3, .int s0), (0, .ref (kb K + 0)), (1, .int v1), (2, .int v2), (4, .int v4)]) hx hb dX6_step_93 hl (k := 5) rfl (by rw [ic_m1]) (by decide) rfl (fun ls hl => ?_)
      refine lv_goto (tgt := 38) hx hb dX6_step_96 (by decide) ?_
      exact ih.1 _ _ _ _ _ _ _ _ _ hw hP hS (lv_sub hl [2, 3, 4, 1, 5, 0] rfl)
theorem dsX6_step : yX6_step.cls = RX6 ∧ yX6_step.cls ≠ "java/lang/invoke/MethodHandle" ∧ yX6_step.cls ≠ "java/lang/invoke/VarHandle" ∧ (parseMethodDescriptor yX6_step.desc).map (fun d => d.parameters.length) = some 2 := by decide +kernel
set_option maxRecDepth 100000 in
set_option maxHeartbeats 4000000 in
theorem c_X6_step {l : Launch} {K : wC} {v1 : Int32} {v2 : Int32} {M : Mem} {Q : Int32 → Mem → Prop} (hw : q_X6_step v1 v2 M Q) : metI l yX6_step wsX6_step rmX6_step shM 12 K [.ref (kb K + 0), .int v1, .int v2] M Q := by
  refine met_of (cc := cX6_step) (maxL := 7) (ret := (some .int)) (own := RX6) (by decide) rfl rfl (Nat.le_of_ble_eq_true rfl) ?_
  intro p e s m below meth c ls C hl hP hS
  have hl : lv_has ls 7 [(0, .ref (kb K + 0)), (1, .int v1), (2, .int v2)] := hl
  obtain ⟨hx, hb, hml, hown, hts, hr, hlk, hK⟩ := id C
  have hP0 := hP
  obtain ⟨n, hw⟩ := hw
  have ih := b_X6_step (l := l) (e := e) (below := below) (Q := Q) C n
  delta e_X6_step at hw
  refine lv_aload_n hx hb dX6_step_0 rfl (lv_at hl 0 rfl) ?_
  refine lv_iload_n hx hb dX6_step_1 rfl (lv_at hl 1 rfl) ?_
  refine c_i (run_v (As := [.int v1]) (rest := []) C hP hS (c_X6_isWheel hw) gX6_step_X6_isWheel rfl dsX6_isWheel rfl ⟨rfl, rfl⟩ ⟨Nat.le_of_ble_eq_true rfl, Nat.le_of_ble_eq_true rfl⟩ (by decide) (sM_0 K _) rfl hl.1 rfl (Nat.le_of_ble_eq_true rfl) dX6_step_2 ⟨Nat.le_of_ble_eq_true rfl, Nat.le_of_ble_eq_true rfl⟩) hS (fun r_2 M_1 H locs hw hP hS => ?_)
  refine lv_if_eq (tgt := 18) hx hb dX6_step_5 (by decide) (fun hc => ?_) (fun hc => ?_)
  · have hw := hw.1 hc
    refine lv_iconst hx hb dX6_step_18 ic_m1 ?_
    exact r_i C hP hS hw dX6_step_19
  · have hw := hw.2 hc
    refine lv_iload_n hx hb dX6_step_8 rfl (lv_at hl 2 rfl) ?_
    refine lv_i2l hx hb dX6_step_9 rfl ?_
    refine lv_lconst hx hb dX6_step_10 lc_0 ?_
    refine lv_lconst hx hb dX6_step_11 lc_1 ?_
    refine c_i (run_s (As := [.long v2.toInt64, .long (0 : Int64), .long (1 : Int64)]) (rest := []) C hP hS (c_X6_in hw) gX6_step_X6_in rfl dsX6_in rfl ⟨rfl, rfl⟩ ⟨Nat.le_of_ble_eq_true rfl, Nat.le_of_ble_eq_true rfl⟩ hl.1 rfl (Nat.le_of_ble_eq_true rfl) dX6_step_12 ⟨Nat.le_of_ble_eq_true rfl, Nat.le_of_ble_eq_true rfl⟩) hS (fun r_4 M_3 H locs hw hP hS => ?_)
    refine lv_if_ne (tgt := 20) hx hb dX6_step_15 (by decide) (fun hc => ?_) (fun hc => ?_)
    · have hw := hw.1 hc
      refine lv_ldc hx hb hown (hts _ kX6_step_c215) dX6_step_20 ?_
      refine lv_istore_n (lv' := [(3, .int (1000000 : Int32)), (0, .ref (kb K + 0)), (1, .int v1), (2, .int v2)]) hx hb dX6_step_22 rfl hl (by decide) rfl (fun ls hl => ?_)
      refine lv_iconst hx hb dX6_step_23 ic_0 ?_
      refine lv_istore (lv' := [(4, .int (0 : Int32)), (3, .int (1000000 : Int32)), (0, .ref (kb K + 0)), (1, .int v1), (2, .int v2)]) hx hb dX6_step_24 hl (by decide) rfl (fun ls hl => ?_)
      refine lv_aload_n hx hb dX6_step_26 rfl (lv_at hl 2 rfl) ?_
      refine lv_iconst hx hb dX6_step_27 ic_0 ?_
      refine lv_sipush hx hb dX6_step_28 sp_185 ?_
      refine c_v (run_v (As := [.int (0 : Int32), .int (185 : Int32)]) (rest := []) C hP hS (c_X6_copies hw) gX6_step_X6_copies rfl dsX6_copies rfl ⟨rfl, rfl⟩ ⟨Nat.le_of_ble_eq_true rfl, Nat.le_of_ble_eq_true rfl⟩ (by decide) (sM_0 K _) rfl hl.1 rfl (Nat.le_of_ble_eq_true rfl) dX6_step_31 ⟨Nat.le_of_ble_eq_true rfl, Nat.le_of_ble_eq_true rfl⟩) hS (fun M_5 H locs hw hP hS => ?_)
      refine lv_bipush hx hb dX6_step_34 bp_9 ?_
      refine lv_istore (lv' := [(5, .int (9 : Int32)), (4, .int (0 : Int32)), (3, .int (1000000 : Int32)), (0, .ref (kb K + 0)), (1, .int v1), (2, .int v2)]) hx hb dX6_step_36 hl (by decide) rfl (fun ls hl => ?_)
      exact ih.1 _ _ _ _ _ _ _ _ _ hw hP hS (lv_sub hl [3, 4, 5, 2, 1, 0] rfl)
    · have hw := hw.2 hc
      refine lv_iconst hx hb dX6_step_18 ic_m1 ?_
      exact r_i C hP hS hw dX6_step_19

theorem kX6_kind_c215 : Cond.constant RX6 215 (1000000) ∈ wsX6_kind := List.mem_of_getElem? (i := 1) rfl
theorem kX6_kind_f7 : Cond.fieldLink RX6 7 (TX6 0).1 (TX6 0).2.1 (TX6 0).2.2.1 ∈ wsX6_kind := List.mem_of_getElem? (i := 2) rfl
theorem hX6_kind_X6 : ∀ w ∈ u_ws RX6 TX6 26, w ∈ wsX6_kind := fun _ h => List.mem_cons_of_mem _ (List.mem_append_right _ (h))
abbrev rmX6_kind : Room := { frames := 3, cells := 0, slots := 0, locals := 73 }
abbrev t_X6_kind : Type := (Int32 → Int32 → Int32 → Int32 → Int32 → Mem → Prop) × (Int32 → Int32 → Int32 → Int32 → Int32 → Int32 → Mem → Prop) × (Int32 → Int32 → Int32 → Int32 → Int32 → Mem → Prop)
def f_X6_kind_37 (Q : Int32 → Mem → Prop) (r : t_X6_kind) (v1 : Int32) (v2 : Int32) (v3 : Int32) (v4 : Int32) (v5 : Int32) (M : Mem) : Prop := (((4 : Int32) ≤ v5 → ((¬ v2 = 0 → Q v3 M) ∧ (v2 = 0 → Q v4 M))) ∧ (¬ (4 : Int32) ≤ v5 → vp_in ((208 : Int32) + v1) 222 ∧ q_X6_errorOn (185 : Int32) v1 (mU M 1 ((208 : Int32) + v1).toNatClampNeg v5) (fun r_8 M_7 => ((v3 ≤ r_8 → r.2.1 v1 v2 v3 v5 r_8 v4 M_7) ∧ (¬ v3 ≤ r_8 → r.2.1 v1 v2 v3 v5 r_8 v5 M_7)))))
def f_X6_kind_78 (Q : Int32 → Mem → Prop) (r : t_X6_kind) (v1 : Int32) (v2 : Int32) (v3 : Int32) (v5 : Int32) (v6 : Int32) (s0 : Int32) (M : Mem) : Prop := ((v3 ≤ v6 → r.2.2 v1 v2 s0 v5 v3 M) ∧ (¬ v3 ≤ v6 → r.2.2 v1 v2 s0 v5 v6 M))
def f_X6_kind_92 (Q : Int32 → Mem → Prop) (r : t_X6_kind) (v1 : Int32) (v2 : Int32) (v4 : Int32) (v5 : Int32) (s0 : Int32) (M : Mem) : Prop := r.1 v1 v2 s0 v4 (v5 + 1) M
def p_X6_kind (Q : Int32 → Mem → Prop) : Nat → t_X6_kind
  | 0 => (fun _ _ _ _ _ _ => False, fun _ _ _ _ _ _ _ => False, fun _ _ _ _ _ _ => False)
  | n + 1 => (f_X6_kind_37 Q (p_X6_kind Q n), f_X6_kind_78 Q (p_X6_kind Q n), f_X6_kind_92 Q (p_X6_kind Q n))
def e_X6_kind (v1 : Int32) (v2 : Int32) (Q : Int32 → Mem → Prop) (r : t_X6_kind) (M : Mem) : Prop := q_X6_isWheel v1 M (fun r_2 M_1 => ((r_2 = 0 → Q (-1 : Int32) M_1) ∧ (¬ r_2 = 0 → q_X6_in v2.toInt64 (0 : Int64) (1 : Int64) M_1 (fun r_4 M_3 => ((¬ r_4 = 0 → q_X6_copies (0 : Int32) (185 : Int32) M_3 (fun M_5 => r.1 v1 v2 (1000000 : Int32) (0 : Int32) (0 : Int32) M_5)) ∧ (r_4 = 0 → Q (-1 : Int32) M_3))))))
def q_X6_kind (v1 : Int32) (v2 : Int32) (M : Mem) (Q : Int32 → Mem → Prop) : Prop := ∃ n : Nat, e_X6_kind v1 v2 Q (p_X6_kind Q n) M
set_option maxRecDepth 100000 in
set_option maxHeartbeats 4000000 in
theorem b_X6_kind {l : Launch} {K : wC} {Q : Int32 → Mem → Prop} {p : Program} {e : Env} {s : State} {m : MethodId} {args : Array Value} {below : List Frame} {meth : Method} {c : Code} (C : cx 12 K p s m args meth c cX6_kind 7 wsX6_kind RX6 (some .int)) : ∀ n : Nat, (∀ (v1 : Int32) (v2 : Int32) (v3 : Int32) (v4 : Int32) (v5 : Int32) (M : Mem) (H : Heap) (locs : List Loc) (ls : Array Slot), (p_X6_kind Q n).1 v1 v2 v3 v4 v5 M → wP shM 12 K M H → va_S (wA 12 K) s.heap H locs → lv_has ls 7 [(0, .ref (kb K + 0)), (1, .int v1), (2, .int v2), (3, .int v3), (4, .int v4), (5, .int v5)] → W p l e rmX6_kind s m args below meth c H locs 0 0 (MQ below (va_Qi Q (wE shM 12 K) (wA 12 K)) args s 0 0 (wA 12 K)) (F0 m 37 ls [])) ∧ (∀ (v1 : Int32) (v2 : Int32) (v3 : Int32) (v5 : Int32) (v6 : Int32) (s0 : Int32) (M : Mem) (H : Heap) (locs : List Loc) (ls : Array Slot), (p_X6_kind Q n).2.1 v1 v2 v3 v5 v6 s0 M → wP shM 12 K M H → va_S (wA 12 K) s.heap H locs → lv_has ls 7 [(0, .ref (kb K + 0)), (1, .int v1), (2, .int v2), (3, .int v3), (5, .int v5), (6, .int v6)] → W p l e rmX6_kind s m args below meth c H locs 0 0 (MQ below (va_Qi Q (wE shM 12 K) (wA 12 K)) args s 0 0 (wA 12 K)) (F0 m 78 ls [.int s0])) ∧ (∀ (v1 : Int32) (v2 : Int32) (v4 : Int32) (v5 : Int32) (s0 : Int32) (M : Mem) (H : Heap) (locs : List Loc) (ls : Array Slot), (p_X6_kind Q n).2.2 v1 v2 v4 v5 s0 M → wP shM 12 K M H → va_S (wA 12 K) s.heap H locs → lv_has ls 7 [(0, .ref (kb K + 0)), (1, .int v1), (2, .int v2), (4, .int v4), (5, .int v5)] → W p l e rmX6_kind s m args below meth c H locs 0 0 (MQ below (va_Qi Q (wE shM 12 K) (wA 12 K)) args s 0 0 (wA 12 K)) (F0 m 92 ls [.int s0])) := by
  obtain ⟨hx, hb, hml, hown, hts, hr, hlk, hK⟩ := id C
  intro n
  induction n with
  | zero => exact ⟨fun _ _ _ _ _ _ _ _ _ hw _ _ _ => False.elim hw, fun _ _ _ _ _ _ _ _ _ _ hw _ _ _ => False.elim hw, fun _ _ _ _ _ _ _ _ _ hw _ _ _ => False.elim hw⟩
  | succ n ih =>
    refine ⟨?_, ?_, ?_⟩
    · intro v1 v2 v3 v4 v5 M H locs ls hw hP hS hl
      have hw : f_X6_kind_37 Q (p_X6_kind Q n) v1 v2 v3 v4 v5 M := hw
      delta f_X6_kind_37 at hw
      refine lv_iload hx hb dX6_kind_37 (lv_at hl 5 rfl) ?_
      refine lv_iconst hx hb dX6_kind_39 ic_4 ?_
      refine lv_icmp_ge (tgt := 99) hx hb dX6_kind_40 (by decide) (fun hc => ?_) (fun hc => ?_)
      · have hw := hw.1 hc
        refine lv_iload_n hx hb dX6_kind_99 rfl (lv_at hl 2 rfl) ?_
        refine lv_if_ne (tgt := 108) hx hb dX6_kind_100 (by decide) (fun hc => ?_) (fun hc => ?_)
        · have hw := hw.1 hc
          refine lv_iload_n hx hb dX6_kind_108 rfl (lv_at hl 3 rfl) ?_
          exact r_i C hP hS hw dX6_kind_109
        · have hw := hw.2 hc
          refine lv_iload hx hb dX6_kind_103 (lv_at hl 4 rfl) ?_
          refine lv_goto (tgt := 109) hx hb dX6_kind_105 (by decide) ?_
          exact r_i C hP hS hw dX6_kind_109
      · have hw := hw.2 hc
        refine lv_aload_n hx hb dX6_kind_43 rfl (lv_at hl 0 rfl) ?_
        refine g_f C hP (by decide) (sM_0 K _) rfl hX6_kind_X6 0 (by decide) kX6_kind_f7 rfl dX6_kind_44 ?_
        refine lv_sipush hx hb dX6_kind_47 sp_208 ?_
        refine lv_iload_n hx hb dX6_kind_50 rfl (lv_at hl 1 rfl) ?_
        refine lv_iadd hx hb dX6_kind_51 ?_
        refine lv_iload hx hb dX6_kind_52 (lv_at hl 5 rfl) ?_
        have hi_6 := hw.1
        have hw := hw.2
        refine a_is C hP hS (by decide) (sM_1 K) hi_6 rfl dX6_kind_54 (fun H locs hP hS => ?_)
        refine lv_aload_n hx hb dX6_kind_55 rfl (lv_at hl 0 rfl) ?_
        refine lv_sipush hx hb dX6_kind_56 sp_185 ?_
        refine lv_iload_n hx hb dX6_kind_59 rfl (lv_at hl 1 rfl) ?_
        refine c_i (run_v (As := [.int (185 : Int32), .int v1]) (rest := []) C hP hS (c_X6_errorOn hw) gX6_kind_X6_errorOn rfl dsX6_errorOn rfl ⟨rfl, rfl⟩ ⟨Nat.le_of_ble_eq_true rfl, Nat.le_of_ble_eq_true rfl⟩ (by decide) (sM_0 K _) rfl hl.1 rfl (Nat.le_of_ble_eq_true rfl) dX6_kind_60 ⟨Nat.le_of_ble_eq_true rfl, Nat.le_of_ble_eq_true rfl⟩) hS (fun r_8 M_7 H locs hw hP hS => ?_)
        refine lv_istore (lv' := [(6, .int r_8), (0, .ref (kb K + 0)), (1, .int v1), (2, .int v2), (3, .int v3), (4, .int v4), (5, .int v5)]) hx hb dX6_kind_63 hl (by decide) rfl (fun ls hl => ?_)
        refine lv_iload hx hb dX6_kind_65 (lv_at hl 0 rfl) ?_
        refine lv_iload_n hx hb dX6_kind_67 rfl (lv_at hl 4 rfl) ?_
        refine lv_icmp_ge (tgt := 76) hx hb dX6_kind_68 (by decide) (fun hc => ?_) (fun hc => ?_)
        · have hw := hw.1 hc
          refine lv_iload hx hb dX6_kind_76 (lv_at hl 5 rfl) ?_
          exact ih.2.1 _ _ _ _ _ _ _ _ _ _ hw hP hS (lv_sub hl [1, 2, 3, 4, 6, 0] rfl)
        · have hw := hw.2 hc
          refine lv_iload hx hb dX6_kind_71 (lv_at hl 6 rfl) ?_
          refine lv_goto (tgt := 78) hx hb dX6_kind_73 (by decide) ?_
          exact ih.2.1 _ _ _ _ _ _ _ _ _ _ hw hP hS (lv_sub hl [1, 2, 3, 4, 6, 0] rfl)
    · intro v1 v2 v3 v5 v6 s0 M H locs ls hw hP hS hl
      have hw : f_X6_kind_78 Q (p_X6_kind Q n) v1 v2 v3 v5 v6 s0 M := hw
      delta f_X6_kind_78 at hw
      refine lv_istore (lv' := [(4, .int s0), (0, .ref (kb K + 0)), (1, .int v1), (2, .int v2), (3, .int v3), (5, .int v5), (6, .int v6)]) hx hb dX6_kind_78 hl (by decide) rfl (fun ls hl => ?_)
      refine lv_iload hx hb dX6_kind_80 (lv_at hl 6 rfl) ?_
      refine lv_iload_n hx hb dX6_kind_82 rfl (lv_at hl 4 rfl) ?_
      refine lv_icmp_ge (tgt := 91) hx hb dX6_kind_83 (by decide) (fun hc => ?_) (fun hc => ?_)
      · have hw := hw.1 hc
        refine lv_iload_n hx hb dX6_kind_91 rfl (lv_at hl 4 rfl) ?_
        exact ih.2.2 _ _ _ _ _ _ _ _ _ hw hP hS (lv_sub hl [1, 2, 3, 0, 5] rfl)
      · have hw := hw.2 hc
        refine lv_iload hx hb dX6_kind_86 (lv_at hl 6 rfl) ?_
        refine lv_goto (tgt := 92) hx hb dX6_kind_88 (by decide) ?_
        exact ih.2.2 _ _ _ _ _ _ _ _ _ hw hP hS (lv_sub hl [1, 2, 3, 0, 5] rfl)
    · intro v1 v2 v4 v5 s0 M H locs ls hw hP hS hl
      have hw : f_X6_kind_92 Q (p_X6_kind Q n) v1 v2 v4 v5 s0 M := hw
      delta f_X6_kind_92 at hw
      refine lv_istore_n (lv' := [(3, .int s0), (0, .ref (kb K + 0)), (1, .int v1), (2, .int v2), (4, .int v4), (5, .int v5)]) hx hb dX6_kind_92 rfl hl (by decide) rfl (fun ls hl => ?_)
      refine lv_iinc (v := (v5 + 1)) (lv' := [(5, .int (v5 + 1)), (3, .int s0), (0, .ref (kb K + 0)), (1, .int v1), (2, .int v2), (4, .int v4)]) hx hb dX6_kind_93 hl (k := 5) rfl (by rw [ic_1]) (by decide) rfl (fun ls hl => ?_)
      refine lv_goto (tgt := 37) hx hb dX6_kind_96 (by decide) ?_
      exact ih.1 _ _ _ _ _ _ _ _ _ hw hP hS (lv_sub hl [2, 3, 4, 1, 5, 0] rfl)
theorem dsX6_kind : yX6_kind.cls = RX6 ∧ yX6_kind.cls ≠ "java/lang/invoke/MethodHandle" ∧ yX6_kind.cls ≠ "java/lang/invoke/VarHandle" ∧ (parseMethodDescriptor yX6_kind.desc).map (fun d => d.parameters.length) = some 2 := by decide +kernel
set_option maxRecDepth 100000 in
set_option maxHeartbeats 4000000 in
theorem c_X6_kind {l : Launch} {K : wC} {v1 : Int32} {v2 : Int32} {M : Mem} {Q : Int32 → Mem → Prop} (hw : q_X6_kind v1 v2 M Q) : metI l yX6_kind wsX6_kind rmX6_kind shM 12 K [.ref (kb K + 0), .int v1, .int v2] M Q := by
  refine met_of (cc := cX6_kind) (maxL := 7) (ret := (some .int)) (own := RX6) (by decide) rfl rfl (Nat.le_of_ble_eq_true rfl) ?_
  intro p e s m below meth c ls C hl hP hS
  have hl : lv_has ls 7 [(0, .ref (kb K + 0)), (1, .int v1), (2, .int v2)] := hl
  obtain ⟨hx, hb, hml, hown, hts, hr, hlk, hK⟩ := id C
  have hP0 := hP
  obtain ⟨n, hw⟩ := hw
  have ih := b_X6_kind (l := l) (e := e) (below := below) (Q := Q) C n
  delta e_X6_kind at hw
  refine lv_aload_n hx hb dX6_kind_0 rfl (lv_at hl 0 rfl) ?_
  refine lv_iload_n hx hb dX6_kind_1 rfl (lv_at hl 1 rfl) ?_
  refine c_i (run_v (As := [.int v1]) (rest := []) C hP hS (c_X6_isWheel hw) gX6_kind_X6_isWheel rfl dsX6_isWheel rfl ⟨rfl, rfl⟩ ⟨Nat.le_of_ble_eq_true rfl, Nat.le_of_ble_eq_true rfl⟩ (by decide) (sM_0 K _) rfl hl.1 rfl (Nat.le_of_ble_eq_true rfl) dX6_kind_2 ⟨Nat.le_of_ble_eq_true rfl, Nat.le_of_ble_eq_true rfl⟩) hS (fun r_2 M_1 H locs hw hP hS => ?_)
  refine lv_if_eq (tgt := 18) hx hb dX6_kind_5 (by decide) (fun hc => ?_) (fun hc => ?_)
  · have hw := hw.1 hc
    refine lv_iconst hx hb dX6_kind_18 ic_m1 ?_
    exact r_i C hP hS hw dX6_kind_19
  · have hw := hw.2 hc
    refine lv_iload_n hx hb dX6_kind_8 rfl (lv_at hl 2 rfl) ?_
    refine lv_i2l hx hb dX6_kind_9 rfl ?_
    refine lv_lconst hx hb dX6_kind_10 lc_0 ?_
    refine lv_lconst hx hb dX6_kind_11 lc_1 ?_
    refine c_i (run_s (As := [.long v2.toInt64, .long (0 : Int64), .long (1 : Int64)]) (rest := []) C hP hS (c_X6_in hw) gX6_kind_X6_in rfl dsX6_in rfl ⟨rfl, rfl⟩ ⟨Nat.le_of_ble_eq_true rfl, Nat.le_of_ble_eq_true rfl⟩ hl.1 rfl (Nat.le_of_ble_eq_true rfl) dX6_kind_12 ⟨Nat.le_of_ble_eq_true rfl, Nat.le_of_ble_eq_true rfl⟩) hS (fun r_4 M_3 H locs hw hP hS => ?_)
    refine lv_if_ne (tgt := 20) hx hb dX6_kind_15 (by decide) (fun hc => ?_) (fun hc => ?_)
    · have hw := hw.1 hc
      refine lv_ldc hx hb hown (hts _ kX6_kind_c215) dX6_kind_20 ?_
      refine lv_istore_n (lv' := [(3, .int (1000000 : Int32)), (0, .ref (kb K + 0)), (1, .int v1), (2, .int v2)]) hx hb dX6_kind_22 rfl hl (by decide) rfl (fun ls hl => ?_)
      refine lv_iconst hx hb dX6_kind_23 ic_0 ?_
      refine lv_istore (lv' := [(4, .int (0 : Int32)), (3, .int (1000000 : Int32)), (0, .ref (kb K + 0)), (1, .int v1), (2, .int v2)]) hx hb dX6_kind_24 hl (by decide) rfl (fun ls hl => ?_)
      refine lv_aload_n hx hb dX6_kind_26 rfl (lv_at hl 2 rfl) ?_
      refine lv_iconst hx hb dX6_kind_27 ic_0 ?_
      refine lv_sipush hx hb dX6_kind_28 sp_185 ?_
      refine c_v (run_v (As := [.int (0 : Int32), .int (185 : Int32)]) (rest := []) C hP hS (c_X6_copies hw) gX6_kind_X6_copies rfl dsX6_copies rfl ⟨rfl, rfl⟩ ⟨Nat.le_of_ble_eq_true rfl, Nat.le_of_ble_eq_true rfl⟩ (by decide) (sM_0 K _) rfl hl.1 rfl (Nat.le_of_ble_eq_true rfl) dX6_kind_31 ⟨Nat.le_of_ble_eq_true rfl, Nat.le_of_ble_eq_true rfl⟩) hS (fun M_5 H locs hw hP hS => ?_)
      refine lv_iconst hx hb dX6_kind_34 ic_0 ?_
      refine lv_istore (lv' := [(5, .int (0 : Int32)), (4, .int (0 : Int32)), (3, .int (1000000 : Int32)), (0, .ref (kb K + 0)), (1, .int v1), (2, .int v2)]) hx hb dX6_kind_35 hl (by decide) rfl (fun ls hl => ?_)
      exact ih.1 _ _ _ _ _ _ _ _ _ hw hP hS (lv_sub hl [3, 4, 5, 2, 1, 0] rfl)
    · have hw := hw.2 hc
      refine lv_iconst hx hb dX6_kind_18 ic_m1 ?_
      exact r_i C hP hS hw dX6_kind_19

theorem kX6_place_f7 : Cond.fieldLink RX6 7 (TX6 0).1 (TX6 0).2.1 (TX6 0).2.2.1 ∈ wsX6_place := List.mem_of_getElem? (i := 1) rfl
theorem hX6_place_X6 : ∀ w ∈ u_ws RX6 TX6 26, w ∈ wsX6_place := fun _ h => List.mem_cons_of_mem _ (List.mem_append_right _ (h))
abbrev rmX6_place : Room := { frames := 2, cells := 0, slots := 0, locals := 49 }
abbrev t_X6_place : Type := (Int32 → Int32 → Int32 → Int32 → Int32 → Mem → Prop) × (Int32 → Int32 → Int32 → Int32 → Int32 → Int32 → Mem → Prop) × (Int32 → Int32 → Int32 → Int32 → Int32 → Int32 → Int32 → Mem → Prop) × (Int32 → Int32 → Int32 → Int32 → Int32 → Int32 → Mem → Prop)
def f_X6_place_36 (Q : Int32 → Mem → Prop) (r : t_X6_place) (v1 : Int32) (v2 : Int32) (v3 : Int32) (v4 : Int32) (v5 : Int32) (M : Mem) : Prop := (((20 : Int32) < v5 → ((¬ v2 = 0 → Q v3 M) ∧ (v2 = 0 → Q v4 M))) ∧ (¬ (20 : Int32) < v5 → r.2.1 v1 v2 v3 v4 v5 (0 : Int32) M))
def f_X6_place_46 (Q : Int32 → Mem → Prop) (r : t_X6_place) (v1 : Int32) (v2 : Int32) (v3 : Int32) (v4 : Int32) (v5 : Int32) (v6 : Int32) (M : Mem) : Prop := (((20 : Int32) < v6 → r.1 v1 v2 v3 v4 (v5 + 1) M) ∧ (¬ (20 : Int32) < v6 → vp_in ((185 : Int32) + v1) 222 ∧ vp_in ((195 : Int32) + v1) 222 ∧ (∀ M_8 : Mem, M_8 = mU (mU M 1 ((185 : Int32) + v1).toNatClampNeg v5) 1 ((195 : Int32) + v1).toNatClampNeg v6 → q_X6_areaOn (185 : Int32) M_8 (fun r_10 M_9 => q_X6_amount r_10 M_9 (fun r_12 M_11 => ((r_12 ≤ v3 → r.2.2.1 v1 v2 v3 v5 v6 r_12 v4 M_11) ∧ (¬ r_12 ≤ v3 → r.2.2.1 v1 v2 v3 v5 v6 r_12 (((100 : Int32) * v5) + v6) M_11)))))))
def f_X6_place_108 (Q : Int32 → Mem → Prop) (r : t_X6_place) (v1 : Int32) (v2 : Int32) (v3 : Int32) (v5 : Int32) (v6 : Int32) (v7 : Int32) (s0 : Int32) (M : Mem) : Prop := ((v7 ≤ v3 → r.2.2.2 v1 v2 s0 v5 v6 v3 M) ∧ (¬ v7 ≤ v3 → r.2.2.2 v1 v2 s0 v5 v6 v7 M))
def f_X6_place_122 (Q : Int32 → Mem → Prop) (r : t_X6_place) (v1 : Int32) (v2 : Int32) (v4 : Int32) (v5 : Int32) (v6 : Int32) (s0 : Int32) (M : Mem) : Prop := r.2.1 v1 v2 s0 v4 v5 (v6 + 1) M
def p_X6_place (Q : Int32 → Mem → Prop) : Nat → t_X6_place
  | 0 => (fun _ _ _ _ _ _ => False, fun _ _ _ _ _ _ _ => False, fun _ _ _ _ _ _ _ _ => False, fun _ _ _ _ _ _ _ => False)
  | n + 1 => (f_X6_place_36 Q (p_X6_place Q n), f_X6_place_46 Q (p_X6_place Q n), f_X6_place_108 Q (p_X6_place Q n), f_X6_place_122 Q (p_X6_place Q n))
def e_X6_place (v1 : Int32) (v2 : Int32) (Q : Int32 → Mem → Prop) (r : t_X6_place) (M : Mem) : Prop := q_X6_isCorner v1 M (fun r_2 M_1 => ((r_2 = 0 → Q (-1 : Int32) M_1) ∧ (¬ r_2 = 0 → q_X6_in v2.toInt64 (0 : Int64) (1 : Int64) M_1 (fun r_4 M_3 => ((¬ r_4 = 0 → q_X6_copies (0 : Int32) (185 : Int32) M_3 (fun M_5 => r.1 v1 v2 (-1 : Int32) (0 : Int32) (0 : Int32) M_5)) ∧ (r_4 = 0 → Q (-1 : Int32) M_3))))))
def q_X6_place (v1 : Int32) (v2 : Int32) (M : Mem) (Q : Int32 → Mem → Prop) : Prop := ∃ n : Nat, e_X6_place v1 v2 Q (p_X6_place Q n) M
set_option maxRecDepth 100000 in
set_option maxHeartbeats 4000000 in
theorem b_X6_place {l : Launch} {K : wC} {Q : Int32 → Mem → Prop} {p : Program} {e : Env} {s : State} {m : MethodId} {args : Array Value} {below : List Frame} {meth : Method} {c : Code} (C : cx 12 K p s m args meth c cX6_place 8 wsX6_place RX6 (some .int)) : ∀ n : Nat, (∀ (v1 : Int32) (v2 : Int32) (v3 : Int32) (v4 : Int32) (v5 : Int32) (M : Mem) (H : Heap) (locs : List Loc) (ls : Array Slot), (p_X6_place Q n).1 v1 v2 v3 v4 v5 M → wP shM 12 K M H → va_S (wA 12 K) s.heap H locs → lv_has ls 8 [(0, .ref (kb K + 0)), (1, .int v1), (2, .int v2), (3, .int v3), (4, .int v4), (5, .int v5)] → W p l e rmX6_place s m args below meth c H locs 0 0 (MQ below (va_Qi Q (wE shM 12 K) (wA 12 K)) args s 0 0 (wA 12 K)) (F0 m 36 ls [])) ∧ (∀ (v1 : Int32) (v2 : Int32) (v3 : Int32) (v4 : Int32) (v5 : Int32) (v6 : Int32) (M : Mem) (H : Heap) (locs : List Loc) (ls : Array Slot), (p_X6_place Q n).2.1 v1 v2 v3 v4 v5 v6 M → wP shM 12 K M H → va_S (wA 12 K) s.heap H locs → lv_has ls 8 [(0, .ref (kb K + 0)), (1, .int v1), (2, .int v2), (3, .int v3), (4, .int v4), (5, .int v5), (6, .int v6)] → W p l e rmX6_place s m args below meth c H locs 0 0 (MQ below (va_Qi Q (wE shM 12 K) (wA 12 K)) args s 0 0 (wA 12 K)) (F0 m 46 ls [])) ∧ (∀ (v1 : Int32) (v2 : Int32) (v3 : Int32) (v5 : Int32) (v6 : Int32) (v7 : Int32) (s0 : Int32) (M : Mem) (H : Heap) (locs : List Loc) (ls : Array Slot), (p_X6_place Q n).2.2.1 v1 v2 v3 v5 v6 v7 s0 M → wP shM 12 K M H → va_S (wA 12 K) s.heap H locs → lv_has ls 8 [(0, .ref (kb K + 0)), (1, .int v1), (2, .int v2), (3, .int v3), (5, .int v5), (6, .int v6), (7, .int v7)] → W p l e rmX6_place s m args below meth c H locs 0 0 (MQ below (va_Qi Q (wE shM 12 K) (wA 12 K)) args s 0 0 (wA 12 K)) (F0 m 108 ls [.int s0])) ∧ (∀ (v1 : Int32) (v2 : Int32) (v4 : Int32) (v5 : Int32) (v6 : Int32) (s0 : Int32) (M : Mem) (H : Heap) (locs : List Loc) (ls : Array Slot), (p_X6_place Q n).2.2.2 v1 v2 v4 v5 v6 s0 M → wP shM 12 K M H → va_S (wA 12 K) s.heap H locs → lv_has ls 8 [(0, .ref (kb K + 0)), (1, .int v1), (2, .int v2), (4, .int v4), (5, .int v5), (6, .int v6)] → W p l e rmX6_place s m args below meth c H locs 0 0 (MQ below (va_Qi Q (wE shM 12 K) (wA 12 K)) args s 0 0 (wA 12 K)) (F0 m 122 ls [.int s0])) := by
  obtain ⟨hx, hb, hml, hown, hts, hr, hlk, hK⟩ := id C
  intro n
  induction n with
  | zero => exact ⟨fun _ _ _ _ _ _ _ _ _ hw _ _ _ => False.elim hw, fun _ _ _ _ _ _ _ _ _ _ hw _ _ _ => False.elim hw, fun _ _ _ _ _ _ _ _ _ _ _ hw _ _ _ => False.elim hw, fun _ _ _ _ _ _ _ _ _ _ hw _ _ _ => False.elim hw⟩
  | succ n ih =>
    refine ⟨?_, ?_, ?_, ?_⟩
    · intro v1 v2 v3 v4 v5 M H locs ls hw hP hS hl
      have hw : f_X6_place_36 Q (p_X6_place Q n) v1 v2 v3 v4 v5 M := hw
      delta f_X6_place_36 at hw
      refine lv_iload hx hb dX6_place_36 (lv_at hl 5 rfl) ?_
      refine lv_bipush hx hb dX6_place_38 bp_20 ?_
      refine lv_icmp_gt (tgt := 135) hx hb dX6_place_40 (by decide) (fun hc => ?_) (fun hc => ?_)
      · have hw := hw.1 hc
        refine lv_iload_n hx hb dX6_place_135 rfl (lv_at hl 2 rfl) ?_
        refine lv_if_ne (tgt := 144) hx hb dX6_place_136 (by decide) (fun hc => ?_) (fun hc => ?_)
        · have hw := hw.1 hc
          refine lv_iload_n hx hb dX6_place_144 rfl (lv_at hl 3 rfl) ?_
          exact r_i C hP hS hw dX6_place_145
        · have hw := hw.2 hc
          refine lv_iload hx hb dX6_place_139 (lv_at hl 4 rfl) ?_
          refine lv_goto (tgt := 145) hx hb dX6_place_141 (by decide) ?_
          exact r_i C hP hS hw dX6_place_145
      · have hw := hw.2 hc
        refine lv_iconst hx hb dX6_place_43 ic_0 ?_
        refine lv_istore (lv' := [(6, .int (0 : Int32)), (0, .ref (kb K + 0)), (1, .int v1), (2, .int v2), (3, .int v3), (4, .int v4), (5, .int v5)]) hx hb dX6_place_44 hl (by decide) rfl (fun ls hl => ?_)
        exact ih.2.1 _ _ _ _ _ _ _ _ _ _ hw hP hS (lv_sub hl [1, 2, 3, 4, 5, 6, 0] rfl)
    · intro v1 v2 v3 v4 v5 v6 M H locs ls hw hP hS hl
      have hw : f_X6_place_46 Q (p_X6_place Q n) v1 v2 v3 v4 v5 v6 M := hw
      delta f_X6_place_46 at hw
      refine lv_iload hx hb dX6_place_46 (lv_at hl 6 rfl) ?_
      refine lv_bipush hx hb dX6_place_48 bp_20 ?_
      refine lv_icmp_gt (tgt := 129) hx hb dX6_place_50 (by decide) (fun hc => ?_) (fun hc => ?_)
      · have hw := hw.1 hc
        refine lv_iinc (v := (v5 + 1)) (lv' := [(5, .int (v5 + 1)), (0, .ref (kb K + 0)), (1, .int v1), (2, .int v2), (3, .int v3), (4, .int v4), (6, .int v6)]) hx hb dX6_place_129 hl (k := 5) rfl (by rw [ic_1]) (by decide) rfl (fun ls hl => ?_)
        refine lv_goto (tgt := 36) hx hb dX6_place_132 (by decide) ?_
        exact ih.1 _ _ _ _ _ _ _ _ _ hw hP hS (lv_sub hl [1, 2, 3, 4, 5, 0] rfl)
      · have hw := hw.2 hc
        refine lv_aload_n hx hb dX6_place_53 rfl (lv_at hl 0 rfl) ?_
        refine g_f C hP (by decide) (sM_0 K _) rfl hX6_place_X6 0 (by decide) kX6_place_f7 rfl dX6_place_54 ?_
        refine lv_sipush hx hb dX6_place_57 sp_185 ?_
        refine lv_iload_n hx hb dX6_place_60 rfl (lv_at hl 1 rfl) ?_
        refine lv_iadd hx hb dX6_place_61 ?_
        refine lv_iload hx hb dX6_place_62 (lv_at hl 5 rfl) ?_
        have hi_6 := hw.1
        have hw := hw.2
        refine a_is C hP hS (by decide) (sM_1 K) hi_6 rfl dX6_place_64 (fun H locs hP hS => ?_)
        refine lv_aload_n hx hb dX6_place_65 rfl (lv_at hl 0 rfl) ?_
        refine g_f C hP (by decide) (sM_0 K _) rfl hX6_place_X6 0 (by decide) kX6_place_f7 rfl dX6_place_66 ?_
        refine lv_sipush hx hb dX6_place_69 sp_195 ?_
        refine lv_iload_n hx hb dX6_place_72 rfl (lv_at hl 1 rfl) ?_
        refine lv_iadd hx hb dX6_place_73 ?_
        refine lv_iload hx hb dX6_place_74 (lv_at hl 6 rfl) ?_
        have hi_7 := hw.1
        have hw := hw.2
        refine a_is C hP hS (by decide) (sM_1 K) hi_7 rfl dX6_place_76 (fun H locs hP hS => ?_)
        obtain ⟨M_8, eM_8⟩ : ∃ z : Mem, z = mU (mU M 1 ((185 : Int32) + v1).toNatClampNeg v5) 1 ((195 : Int32) + v1).toNatClampNeg v6 := ⟨_, rfl⟩
        rw [← eM_8] at hP
        have hw := hw M_8 eM_8
        refine lv_aload_n hx hb dX6_place_77 rfl (lv_at hl 0 rfl) ?_
        refine lv_sipush hx hb dX6_place_78 sp_185 ?_
        refine c_i (run_v (As := [.int (185 : Int32)]) (rest := []) C hP hS (c_X6_areaOn hw) gX6_place_X6_areaOn rfl dsX6_areaOn rfl ⟨rfl, rfl⟩ ⟨Nat.le_of_ble_eq_true rfl, Nat.le_of_ble_eq_true rfl⟩ (by decide) (sM_0 K _) rfl hl.1 rfl (Nat.le_of_ble_eq_true rfl) dX6_place_81 ⟨Nat.le_of_ble_eq_true rfl, Nat.le_of_ble_eq_true rfl⟩) hS (fun r_10 M_9 H locs hw hP hS => ?_)
        refine c_i (run_s (As := [.int r_10]) (rest := []) C hP hS (c_X6_amount hw) gX6_place_X6_amount rfl dsX6_amount rfl ⟨rfl, rfl⟩ ⟨Nat.le_of_ble_eq_true rfl, Nat.le_of_ble_eq_true rfl⟩ hl.1 rfl (Nat.le_of_ble_eq_true rfl) dX6_place_84 ⟨Nat.le_of_ble_eq_true rfl, Nat.le_of_ble_eq_true rfl⟩) hS (fun r_12 M_11 H locs hw hP hS => ?_)
        refine lv_istore (lv' := [(7, .int r_12), (0, .ref (kb K + 0)), (1, .int v1), (2, .int v2), (3, .int v3), (4, .int v4), (5, .int v5), (6, .int v6)]) hx hb dX6_place_87 hl (by decide) rfl (fun ls hl => ?_)
        refine lv_iload hx hb dX6_place_89 (lv_at hl 0 rfl) ?_
        refine lv_iload_n hx hb dX6_place_91 rfl (lv_at hl 4 rfl) ?_
        refine lv_icmp_le (tgt := 106) hx hb dX6_place_92 (by decide) (fun hc => ?_) (fun hc => ?_)
        · have hw := hw.1 hc
          refine lv_iload hx hb dX6_place_106 (lv_at hl 5 rfl) ?_
          exact ih.2.2.1 _ _ _ _ _ _ _ _ _ _ _ hw hP hS (lv_sub hl [1, 2, 3, 4, 6, 7, 0] rfl)
        · have hw := hw.2 hc
          refine lv_bipush hx hb dX6_place_95 bp_100 ?_
          refine lv_iload hx hb dX6_place_97 (lv_at hl 6 rfl) ?_
          refine lv_imul hx hb dX6_place_99 ?_
          refine lv_iload hx hb dX6_place_100 (lv_at hl 7 rfl) ?_
          refine lv_iadd hx hb dX6_place_102 ?_
          refine lv_goto (tgt := 108) hx hb dX6_place_103 (by decide) ?_
          exact ih.2.2.1 _ _ _ _ _ _ _ _ _ _ _ hw hP hS (lv_sub hl [1, 2, 3, 4, 6, 7, 0] rfl)
    · intro v1 v2 v3 v5 v6 v7 s0 M H locs ls hw hP hS hl
      have hw : f_X6_place_108 Q (p_X6_place Q n) v1 v2 v3 v5 v6 v7 s0 M := hw
      delta f_X6_place_108 at hw
      refine lv_istore (lv' := [(4, .int s0), (0, .ref (kb K + 0)), (1, .int v1), (2, .int v2), (3, .int v3), (5, .int v5), (6, .int v6), (7, .int v7)]) hx hb dX6_place_108 hl (by decide) rfl (fun ls hl => ?_)
      refine lv_iload hx hb dX6_place_110 (lv_at hl 7 rfl) ?_
      refine lv_iload_n hx hb dX6_place_112 rfl (lv_at hl 4 rfl) ?_
      refine lv_icmp_le (tgt := 121) hx hb dX6_place_113 (by decide) (fun hc => ?_) (fun hc => ?_)
      · have hw := hw.1 hc
        refine lv_iload_n hx hb dX6_place_121 rfl (lv_at hl 4 rfl) ?_
        exact ih.2.2.2 _ _ _ _ _ _ _ _ _ _ hw hP hS (lv_sub hl [1, 2, 3, 0, 5, 6] rfl)
      · have hw := hw.2 hc
        refine lv_iload hx hb dX6_place_116 (lv_at hl 7 rfl) ?_
        refine lv_goto (tgt := 122) hx hb dX6_place_118 (by decide) ?_
        exact ih.2.2.2 _ _ _ _ _ _ _ _ _ _ hw hP hS (lv_sub hl [1, 2, 3, 0, 5, 6] rfl)
    · intro v1 v2 v4 v5 v6 s0 M H locs ls hw hP hS hl
      have hw : f_X6_place_122 Q (p_X6_place Q n) v1 v2 v4 v5 v6 s0 M := hw
      delta f_X6_place_122 at hw
      refine lv_istore_n (lv' := [(3, .int s0), (0, .ref (kb K + 0)), (1, .int v1), (2, .int v2), (4, .int v4), (5, .int v5), (6, .int v6)]) hx hb dX6_place_122 rfl hl (by decide) rfl (fun ls hl => ?_)
      refine lv_iinc (v := (v6 + 1)) (lv' := [(6, .int (v6 + 1)), (3, .int s0), (0, .ref (kb K + 0)), (1, .int v1), (2, .int v2), (4, .int v4), (5, .int v5)]) hx hb dX6_place_123 hl (k := 6) rfl (by rw [ic_1]) (by decide) rfl (fun ls hl => ?_)
      refine lv_goto (tgt := 46) hx hb dX6_place_126 (by decide) ?_
      exact ih.2.1 _ _ _ _ _ _ _ _ _ _ hw hP hS (lv_sub hl [2, 3, 4, 1, 5, 6, 0] rfl)
theorem dsX6_place : yX6_place.cls = RX6 ∧ yX6_place.cls ≠ "java/lang/invoke/MethodHandle" ∧ yX6_place.cls ≠ "java/lang/invoke/VarHandle" ∧ (parseMethodDescriptor yX6_place.desc).map (fun d => d.parameters.length) = some 2 := by decide +kernel
set_option maxRecDepth 100000 in
set_option maxHeartbeats 4000000 in
theorem c_X6_place {l : Launch} {K : wC} {v1 : Int32} {v2 : Int32} {M : Mem} {Q : Int32 → Mem → Prop} (hw : q_X6_place v1 v2 M Q) : metI l yX6_place wsX6_place rmX6_place shM 12 K [.ref (kb K + 0), .int v1, .int v2] M Q := by
  refine met_of (cc := cX6_place) (maxL := 8) (ret := (some .int)) (own := RX6) (by decide) rfl rfl (Nat.le_of_ble_eq_true rfl) ?_
  intro p e s m below meth c ls C hl hP hS
  have hl : lv_has ls 8 [(0, .ref (kb K + 0)), (1, .int v1), (2, .int v2)] := hl
  obtain ⟨hx, hb, hml, hown, hts, hr, hlk, hK⟩ := id C
  have hP0 := hP
  obtain ⟨n, hw⟩ := hw
  have ih := b_X6_place (l := l) (e := e) (below := below) (Q := Q) C n
  delta e_X6_place at hw
  refine lv_aload_n hx hb dX6_place_0 rfl (lv_at hl 0 rfl) ?_
  refine lv_iload_n hx hb dX6_place_1 rfl (lv_at hl 1 rfl) ?_
  refine c_i (run_v (As := [.int v1]) (rest := []) C hP hS (c_X6_isCorner hw) gX6_place_X6_isCorner rfl dsX6_isCorner rfl ⟨rfl, rfl⟩ ⟨Nat.le_of_ble_eq_true rfl, Nat.le_of_ble_eq_true rfl⟩ (by decide) (sM_0 K _) rfl hl.1 rfl (Nat.le_of_ble_eq_true rfl) dX6_place_2 ⟨Nat.le_of_ble_eq_true rfl, Nat.le_of_ble_eq_true rfl⟩) hS (fun r_2 M_1 H locs hw hP hS => ?_)
  refine lv_if_eq (tgt := 18) hx hb dX6_place_5 (by decide) (fun hc => ?_) (fun hc => ?_)
  · have hw := hw.1 hc
    refine lv_iconst hx hb dX6_place_18 ic_m1 ?_
    exact r_i C hP hS hw dX6_place_19
  · have hw := hw.2 hc
    refine lv_iload_n hx hb dX6_place_8 rfl (lv_at hl 2 rfl) ?_
    refine lv_i2l hx hb dX6_place_9 rfl ?_
    refine lv_lconst hx hb dX6_place_10 lc_0 ?_
    refine lv_lconst hx hb dX6_place_11 lc_1 ?_
    refine c_i (run_s (As := [.long v2.toInt64, .long (0 : Int64), .long (1 : Int64)]) (rest := []) C hP hS (c_X6_in hw) gX6_place_X6_in rfl dsX6_in rfl ⟨rfl, rfl⟩ ⟨Nat.le_of_ble_eq_true rfl, Nat.le_of_ble_eq_true rfl⟩ hl.1 rfl (Nat.le_of_ble_eq_true rfl) dX6_place_12 ⟨Nat.le_of_ble_eq_true rfl, Nat.le_of_ble_eq_true rfl⟩) hS (fun r_4 M_3 H locs hw hP hS => ?_)
    refine lv_if_ne (tgt := 20) hx hb dX6_place_15 (by decide) (fun hc => ?_) (fun hc => ?_)
    · have hw := hw.1 hc
      refine lv_iconst hx hb dX6_place_20 ic_m1 ?_
      refine lv_istore_n (lv' := [(3, .int (-1 : Int32)), (0, .ref (kb K + 0)), (1, .int v1), (2, .int v2)]) hx hb dX6_place_21 rfl hl (by decide) rfl (fun ls hl => ?_)
      refine lv_iconst hx hb dX6_place_22 ic_0 ?_
      refine lv_istore (lv' := [(4, .int (0 : Int32)), (3, .int (-1 : Int32)), (0, .ref (kb K + 0)), (1, .int v1), (2, .int v2)]) hx hb dX6_place_23 hl (by decide) rfl (fun ls hl => ?_)
      refine lv_aload_n hx hb dX6_place_25 rfl (lv_at hl 2 rfl) ?_
      refine lv_iconst hx hb dX6_place_26 ic_0 ?_
      refine lv_sipush hx hb dX6_place_27 sp_185 ?_
      refine c_v (run_v (As := [.int (0 : Int32), .int (185 : Int32)]) (rest := []) C hP hS (c_X6_copies hw) gX6_place_X6_copies rfl dsX6_copies rfl ⟨rfl, rfl⟩ ⟨Nat.le_of_ble_eq_true rfl, Nat.le_of_ble_eq_true rfl⟩ (by decide) (sM_0 K _) rfl hl.1 rfl (Nat.le_of_ble_eq_true rfl) dX6_place_30 ⟨Nat.le_of_ble_eq_true rfl, Nat.le_of_ble_eq_true rfl⟩) hS (fun M_5 H locs hw hP hS => ?_)
      refine lv_iconst hx hb dX6_place_33 ic_0 ?_
      refine lv_istore (lv' := [(5, .int (0 : Int32)), (4, .int (0 : Int32)), (3, .int (-1 : Int32)), (0, .ref (kb K + 0)), (1, .int v1), (2, .int v2)]) hx hb dX6_place_34 hl (by decide) rfl (fun ls hl => ?_)
      exact ih.1 _ _ _ _ _ _ _ _ _ hw hP hS (lv_sub hl [3, 4, 5, 2, 1, 0] rfl)
    · have hw := hw.2 hc
      refine lv_iconst hx hb dX6_place_18 ic_m1 ?_
      exact r_i C hP hS hw dX6_place_19

theorem kX6_swap_f7 : Cond.fieldLink RX6 7 (TX6 0).1 (TX6 0).2.1 (TX6 0).2.2.1 ∈ wsX6_swap := List.mem_of_getElem? (i := 1) rfl
theorem hX6_swap_X6 : ∀ w ∈ u_ws RX6 TX6 26, w ∈ wsX6_swap := fun _ h => List.mem_cons_of_mem _ (List.mem_append_right _ (h))
abbrev rmX6_swap : Room := { frames := 2, cells := 0, slots := 0, locals := 49 }
abbrev t_X6_swap : Type := (Int32 → Int32 → Int32 → Int32 → Mem → Prop) × (Int32 → Int32 → Int32 → Int32 → Int32 → Mem → Prop) × (Int32 → Int32 → Int32 → Int32 → Int32 → Int32 → Mem → Prop) × (Int32 → Int32 → Int32 → Int32 → Int32 → Mem → Prop) × (Int32 → Mem → Prop)
def f_X6_swap_27 (Q : Int32 → Mem → Prop) (r : t_X6_swap) (v1 : Int32) (v2 : Int32) (v3 : Int32) (v4 : Int32) (M : Mem) : Prop := (((M 1 20) ≤ v4 → ((v3 = (-4 : Int32) → r.2.2.2.2 v3 M) ∧ (¬ v3 = (-4 : Int32) → ((¬ v1 = 0 → Q v2 M) ∧ (v1 = 0 → r.2.2.2.2 v3 M))))) ∧ (¬ (M 1 20) ≤ v4 → r.2.1 v1 v2 v3 v4 (v4 + (1 : Int32)) M))
def f_X6_swap_45 (Q : Int32 → Mem → Prop) (r : t_X6_swap) (v1 : Int32) (v2 : Int32) (v3 : Int32) (v4 : Int32) (v5 : Int32) (M : Mem) : Prop := (((M 1 20) ≤ v5 → r.1 v1 v2 v3 (v4 + 1) M) ∧ (¬ (M 1 20) ≤ v5 → q_X6_copies (0 : Int32) (185 : Int32) M (fun M_7 => vp_in v5 222 ∧ vp_in ((185 : Int32) + v4) 222 ∧ vp_in v4 222 ∧ vp_in ((185 : Int32) + v5) 222 ∧ (∀ M_12 : Mem, M_12 = mU (mU M_7 1 ((185 : Int32) + v4).toNatClampNeg (M_7 1 v5.toNatClampNeg)) 1 ((185 : Int32) + v5).toNatClampNeg ((mU M_7 1 ((185 : Int32) + v4).toNatClampNeg (M_7 1 v5.toNatClampNeg)) 1 v4.toNatClampNeg) → vp_in ((10 : Int32) + v5) 222 ∧ vp_in ((195 : Int32) + v4) 222 ∧ (∀ M_15 : Mem, M_15 = mU M_12 1 ((195 : Int32) + v4).toNatClampNeg (M_12 1 ((10 : Int32) + v5).toNatClampNeg) → vp_in ((10 : Int32) + v4) 222 ∧ vp_in ((195 : Int32) + v5) 222 ∧ (∀ M_18 : Mem, M_18 = mU M_15 1 ((195 : Int32) + v5).toNatClampNeg (M_15 1 ((10 : Int32) + v4).toNatClampNeg) → q_X6_areaOn (185 : Int32) M_18 (fun r_20 M_19 => q_X6_amount r_20 M_19 (fun r_22 M_21 => ((r_22 ≤ v2 → r.2.2.1 v1 v2 v4 v5 r_22 v3 M_21) ∧ (¬ r_22 ≤ v2 → r.2.2.1 v1 v2 v4 v5 r_22 (((10 : Int32) * v4) + v5) M_21))))))))))
def f_X6_swap_173 (Q : Int32 → Mem → Prop) (r : t_X6_swap) (v1 : Int32) (v2 : Int32) (v4 : Int32) (v5 : Int32) (v6 : Int32) (s0 : Int32) (M : Mem) : Prop := ((v6 ≤ v2 → r.2.2.2.1 v1 s0 v4 v5 v2 M) ∧ (¬ v6 ≤ v2 → r.2.2.2.1 v1 s0 v4 v5 v6 M))
def f_X6_swap_186 (Q : Int32 → Mem → Prop) (r : t_X6_swap) (v1 : Int32) (v3 : Int32) (v4 : Int32) (v5 : Int32) (s0 : Int32) (M : Mem) : Prop := r.2.1 v1 s0 v3 v4 (v5 + 1) M
def f_X6_swap_209 (Q : Int32 → Mem → Prop) (r : t_X6_swap) (v3 : Int32) (M : Mem) : Prop := Q v3 M
def p_X6_swap (Q : Int32 → Mem → Prop) : Nat → t_X6_swap
  | 0 => (fun _ _ _ _ _ => False, fun _ _ _ _ _ _ => False, fun _ _ _ _ _ _ _ => False, fun _ _ _ _ _ _ => False, fun _ _ => False)
  | n + 1 => (f_X6_swap_27 Q (p_X6_swap Q n), f_X6_swap_45 Q (p_X6_swap Q n), f_X6_swap_173 Q (p_X6_swap Q n), f_X6_swap_186 Q (p_X6_swap Q n), f_X6_swap_209 Q (p_X6_swap Q n))
def e_X6_swap (v1 : Int32) (Q : Int32 → Mem → Prop) (r : t_X6_swap) (M : Mem) : Prop := q_X6_in v1.toInt64 (0 : Int64) (1 : Int64) M (fun r_2 M_1 => ((¬ r_2 = 0 → q_X6_areaOn (0 : Int32) M_1 (fun r_4 M_3 => q_X6_amount r_4 M_3 (fun r_6 M_5 => r.1 v1 r_6 (-4 : Int32) (0 : Int32) M_5))) ∧ (r_2 = 0 → Q (-1 : Int32) M_1)))
def q_X6_swap (v1 : Int32) (M : Mem) (Q : Int32 → Mem → Prop) : Prop := ∃ n : Nat, e_X6_swap v1 Q (p_X6_swap Q n) M
set_option maxRecDepth 100000 in
set_option maxHeartbeats 4000000 in
theorem b_X6_swap {l : Launch} {K : wC} {Q : Int32 → Mem → Prop} {p : Program} {e : Env} {s : State} {m : MethodId} {args : Array Value} {below : List Frame} {meth : Method} {c : Code} (C : cx 12 K p s m args meth c cX6_swap 7 wsX6_swap RX6 (some .int)) : ∀ n : Nat, (∀ (v1 : Int32) (v2 : Int32) (v3 : Int32) (v4 : Int32) (M : Mem) (H : Heap) (locs : List Loc) (ls : Array Slot), (p_X6_swap Q n).1 v1 v2 v3 v4 M → wP shM 12 K M H → va_S (wA 12 K) s.heap H locs → lv_has ls 7 [(0, .ref (kb K + 0)), (1, .int v1), (2, .int v2), (3, .int v3), (4, .int v4)] → W p l e rmX6_swap s m args below meth c H locs 0 0 (MQ below (va_Qi Q (wE shM 12 K) (wA 12 K)) args s 0 0 (wA 12 K)) (F0 m 27 ls [])) ∧ (∀ (v1 : Int32) (v2 : Int32) (v3 : Int32) (v4 : Int32) (v5 : Int32) (M : Mem) (H : Heap) (locs : List Loc) (ls : Array Slot), (p_X6_swap Q n).2.1 v1 v2 v3 v4 v5 M → wP shM 12 K M H → va_S (wA 12 K) s.heap H locs → lv_has ls 7 [(0, .ref (kb K + 0)), (1, .int v1), (2, .int v2), (3, .int v3), (4, .int v4), (5, .int v5)] → W p l e rmX6_swap s m args below meth c H locs 0 0 (MQ below (va_Qi Q (wE shM 12 K) (wA 12 K)) args s 0 0 (wA 12 K)) (F0 m 45 ls [])) ∧ (∀ (v1 : Int32) (v2 : Int32) (v4 : Int32) (v5 : Int32) (v6 : Int32) (s0 : Int32) (M : Mem) (H : Heap) (locs : List Loc) (ls : Array Slot), (p_X6_swap Q n).2.2.1 v1 v2 v4 v5 v6 s0 M → wP shM 12 K M H → va_S (wA 12 K) s.heap H locs → lv_has ls 7 [(0, .ref (kb K + 0)), (1, .int v1), (2, .int v2), (4, .int v4), (5, .int v5), (6, .int v6)] → W p l e rmX6_swap s m args below meth c H locs 0 0 (MQ below (va_Qi Q (wE shM 12 K) (wA 12 K)) args s 0 0 (wA 12 K)) (F0 m 173 ls [.int s0])) ∧ (∀ (v1 : Int32) (v3 : Int32) (v4 : Int32) (v5 : Int32) (s0 : Int32) (M : Mem) (H : Heap) (locs : List Loc) (ls : Array Slot), (p_X6_swap Q n).2.2.2.1 v1 v3 v4 v5 s0 M → wP shM 12 K M H → va_S (wA 12 K) s.heap H locs → lv_has ls 7 [(0, .ref (kb K + 0)), (1, .int v1), (3, .int v3), (4, .int v4), (5, .int v5)] → W p l e rmX6_swap s m args below meth c H locs 0 0 (MQ below (va_Qi Q (wE shM 12 K) (wA 12 K)) args s 0 0 (wA 12 K)) (F0 m 186 ls [.int s0])) ∧ (∀ (v3 : Int32) (M : Mem) (H : Heap) (locs : List Loc) (ls : Array Slot), (p_X6_swap Q n).2.2.2.2 v3 M → wP shM 12 K M H → va_S (wA 12 K) s.heap H locs → lv_has ls 7 [(3, .int v3)] → W p l e rmX6_swap s m args below meth c H locs 0 0 (MQ below (va_Qi Q (wE shM 12 K) (wA 12 K)) args s 0 0 (wA 12 K)) (F0 m 209 ls [])) := by
  obtain ⟨hx, hb, hml, hown, hts, hr, hlk, hK⟩ := id C
  intro n
  induction n with
  | zero => exact ⟨fun _ _ _ _ _ _ _ _ hw _ _ _ => False.elim hw, fun _ _ _ _ _ _ _ _ _ hw _ _ _ => False.elim hw, fun _ _ _ _ _ _ _ _ _ _ hw _ _ _ => False.elim hw, fun _ _ _ _ _ _ _ _ _ hw _ _ _ => False.elim hw, fun _ _ _ _ _ hw _ _ _ => False.elim hw⟩
  | succ n ih =>
    refine ⟨?_, ?_, ?_, ?_, ?_⟩
    · intro v1 v2 v3 v4 M H locs ls hw hP hS hl
      have hw : f_X6_swap_27 Q (p_X6_swap Q n) v1 v2 v3 v4 M := hw
      delta f_X6_swap_27 at hw
      refine lv_iload hx hb dX6_swap_27 (lv_at hl 4 rfl) ?_
      refine lv_aload_n hx hb dX6_swap_29 rfl (lv_at hl 0 rfl) ?_
      refine g_f C hP (by decide) (sM_0 K _) rfl hX6_swap_X6 0 (by decide) kX6_swap_f7 rfl dX6_swap_30 ?_
      refine lv_bipush hx hb dX6_swap_33 bp_20 ?_
      refine a_il C hP (by decide) (sM_1 K _) vi_20_222 ti_20 dX6_swap_35 ?_
      refine lv_icmp_ge (tgt := 199) hx hb dX6_swap_36 (by decide) (fun hc => ?_) (fun hc => ?_)
      · have hw := hw.1 hc
        refine lv_iload_n hx hb dX6_swap_199 rfl (lv_at hl 3 rfl) ?_
        refine lv_bipush hx hb dX6_swap_200 bp_m4 ?_
        refine lv_icmp_eq (tgt := 209) hx hb dX6_swap_202 (by decide) (fun hc => ?_) (fun hc => ?_)
        · have hw := hw.1 hc
          exact ih.2.2.2.2 _ _ _ _ _ hw hP hS (lv_sub hl [3] rfl)
        · have hw := hw.2 hc
          refine lv_iload_n hx hb dX6_swap_205 rfl (lv_at hl 1 rfl) ?_
          refine lv_if_ne (tgt := 213) hx hb dX6_swap_206 (by decide) (fun hc => ?_) (fun hc => ?_)
          · have hw := hw.1 hc
            refine lv_iload_n hx hb dX6_swap_213 rfl (lv_at hl 2 rfl) ?_
            exact r_i C hP hS hw dX6_swap_214
          · have hw := hw.2 hc
            exact ih.2.2.2.2 _ _ _ _ _ hw hP hS (lv_sub hl [3] rfl)
      · have hw := hw.2 hc
        refine lv_iload hx hb dX6_swap_39 (lv_at hl 4 rfl) ?_
        refine lv_iconst hx hb dX6_swap_41 ic_1 ?_
        refine lv_iadd hx hb dX6_swap_42 ?_
        refine lv_istore (lv' := [(5, .int (v4 + (1 : Int32))), (0, .ref (kb K + 0)), (1, .int v1), (2, .int v2), (3, .int v3), (4, .int v4)]) hx hb dX6_swap_43 hl (by decide) rfl (fun ls hl => ?_)
        exact ih.2.1 _ _ _ _ _ _ _ _ _ hw hP hS (lv_sub hl [1, 2, 3, 4, 5, 0] rfl)
    · intro v1 v2 v3 v4 v5 M H locs ls hw hP hS hl
      have hw : f_X6_swap_45 Q (p_X6_swap Q n) v1 v2 v3 v4 v5 M := hw
      delta f_X6_swap_45 at hw
      refine lv_iload hx hb dX6_swap_45 (lv_at hl 5 rfl) ?_
      refine lv_aload_n hx hb dX6_swap_47 rfl (lv_at hl 0 rfl) ?_
      refine g_f C hP (by decide) (sM_0 K _) rfl hX6_swap_X6 0 (by decide) kX6_swap_f7 rfl dX6_swap_48 ?_
      refine lv_bipush hx hb dX6_swap_51 bp_20 ?_
      refine a_il C hP (by decide) (sM_1 K _) vi_20_222 ti_20 dX6_swap_53 ?_
      refine lv_icmp_ge (tgt := 193) hx hb dX6_swap_54 (by decide) (fun hc => ?_) (fun hc => ?_)
      · have hw := hw.1 hc
        refine lv_iinc (v := (v4 + 1)) (lv' := [(4, .int (v4 + 1)), (0, .ref (kb K + 0)), (1, .int v1), (2, .int v2), (3, .int v3), (5, .int v5)]) hx hb dX6_swap_193 hl (k := 4) rfl (by rw [ic_1]) (by decide) rfl (fun ls hl => ?_)
        refine lv_goto (tgt := 27) hx hb dX6_swap_196 (by decide) ?_
        exact ih.1 _ _ _ _ _ _ _ _ hw hP hS (lv_sub hl [1, 2, 3, 4, 0] rfl)
      · have hw := hw.2 hc
        refine lv_aload_n hx hb dX6_swap_57 rfl (lv_at hl 0 rfl) ?_
        refine lv_iconst hx hb dX6_swap_58 ic_0 ?_
        refine lv_sipush hx hb dX6_swap_59 sp_185 ?_
        refine c_v (run_v (As := [.int (0 : Int32), .int (185 : Int32)]) (rest := []) C hP hS (c_X6_copies hw) gX6_swap_X6_copies rfl dsX6_copies rfl ⟨rfl, rfl⟩ ⟨Nat.le_of_ble_eq_true rfl, Nat.le_of_ble_eq_true rfl⟩ (by decide) (sM_0 K _) rfl hl.1 rfl (Nat.le_of_ble_eq_true rfl) dX6_swap_62 ⟨Nat.le_of_ble_eq_true rfl, Nat.le_of_ble_eq_true rfl⟩) hS (fun M_7 H locs hw hP hS => ?_)
        refine lv_aload_n hx hb dX6_swap_65 rfl (lv_at hl 0 rfl) ?_
        refine g_f C hP (by decide) (sM_0 K _) rfl hX6_swap_X6 0 (by decide) kX6_swap_f7 rfl dX6_swap_66 ?_
        refine lv_sipush hx hb dX6_swap_69 sp_185 ?_
        refine lv_iload hx hb dX6_swap_72 (lv_at hl 4 rfl) ?_
        refine lv_iadd hx hb dX6_swap_74 ?_
        refine lv_aload_n hx hb dX6_swap_75 rfl (lv_at hl 0 rfl) ?_
        refine g_f C hP (by decide) (sM_0 K _) rfl hX6_swap_X6 0 (by decide) kX6_swap_f7 rfl dX6_swap_76 ?_
        refine lv_iload hx hb dX6_swap_79 (lv_at hl 5 rfl) ?_
        have hi_8 := hw.1
        have hw := hw.2
        refine a_il C hP (by decide) (sM_1 K _) hi_8 rfl dX6_swap_81 ?_
        have hi_9 := hw.1
        have hw := hw.2
        refine a_is C hP hS (by decide) (sM_1 K) hi_9 rfl dX6_swap_82 (fun H locs hP hS => ?_)
        refine lv_aload_n hx hb dX6_swap_83 rfl (lv_at hl 0 rfl) ?_
        refine g_f C hP (by decide) (sM_0 K _) rfl hX6_swap_X6 0 (by decide) kX6_swap_f7 rfl dX6_swap_84 ?_
        refine lv_sipush hx hb dX6_swap_87 sp_185 ?_
        refine lv_iload hx hb dX6_swap_90 (lv_at hl 5 rfl) ?_
        refine lv_iadd hx hb dX6_swap_92 ?_
        refine lv_aload_n hx hb dX6_swap_93 rfl (lv_at hl 0 rfl) ?_
        refine g_f C hP (by decide) (sM_0 K _) rfl hX6_swap_X6 0 (by decide) kX6_swap_f7 rfl dX6_swap_94 ?_
        refine lv_iload hx hb dX6_swap_97 (lv_at hl 4 rfl) ?_
        have hi_10 := hw.1
        have hw := hw.2
        refine a_il C hP (by decide) (sM_1 K _) hi_10 rfl dX6_swap_99 ?_
        have hi_11 := hw.1
        have hw := hw.2
        refine a_is C hP hS (by decide) (sM_1 K) hi_11 rfl dX6_swap_100 (fun H locs hP hS => ?_)
        obtain ⟨M_12, eM_12⟩ : ∃ z : Mem, z = mU (mU M_7 1 ((185 : Int32) + v4).toNatClampNeg (M_7 1 v5.toNatClampNeg)) 1 ((185 : Int32) + v5).toNatClampNeg ((mU M_7 1 ((185 : Int32) + v4).toNatClampNeg (M_7 1 v5.toNatClampNeg)) 1 v4.toNatClampNeg) := ⟨_, rfl⟩
        rw [← eM_12] at hP
        have hw := hw M_12 eM_12
        refine lv_aload_n hx hb dX6_swap_101 rfl (lv_at hl 0 rfl) ?_
        refine g_f C hP (by decide) (sM_0 K _) rfl hX6_swap_X6 0 (by decide) kX6_swap_f7 rfl dX6_swap_102 ?_
        refine lv_sipush hx hb dX6_swap_105 sp_195 ?_
        refine lv_iload hx hb dX6_swap_108 (lv_at hl 4 rfl) ?_
        refine lv_iadd hx hb dX6_swap_110 ?_
        refine lv_aload_n hx hb dX6_swap_111 rfl (lv_at hl 0 rfl) ?_
        refine g_f C hP (by decide) (sM_0 K _) rfl hX6_swap_X6 0 (by decide) kX6_swap_f7 rfl dX6_swap_112 ?_
        refine lv_bipush hx hb dX6_swap_115 bp_10 ?_
        refine lv_iload hx hb dX6_swap_117 (lv_at hl 5 rfl) ?_
        refine lv_iadd hx hb dX6_swap_119 ?_
        have hi_13 := hw.1
        have hw := hw.2
        refine a_il C hP (by decide) (sM_1 K _) hi_13 rfl dX6_swap_120 ?_
        have hi_14 := hw.1
        have hw := hw.2
        refine a_is C hP hS (by decide) (sM_1 K) hi_14 rfl dX6_swap_121 (fun H locs hP hS => ?_)
        obtain ⟨M_15, eM_15⟩ : ∃ z : Mem, z = mU M_12 1 ((195 : Int32) + v4).toNatClampNeg (M_12 1 ((10 : Int32) + v5).toNatClampNeg) := ⟨_, rfl⟩
        rw [← eM_15] at hP
        have hw := hw M_15 eM_15
        refine lv_aload_n hx hb dX6_swap_122 rfl (lv_at hl 0 rfl) ?_
        refine g_f C hP (by decide) (sM_0 K _) rfl hX6_swap_X6 0 (by decide) kX6_swap_f7 rfl dX6_swap_123 ?_
        refine lv_sipush hx hb dX6_swap_126 sp_195 ?_
        refine lv_iload hx hb dX6_swap_129 (lv_at hl 5 rfl) ?_
        refine lv_iadd hx hb dX6_swap_131 ?_
        refine lv_aload_n hx hb dX6_swap_132 rfl (lv_at hl 0 rfl) ?_
        refine g_f C hP (by decide) (sM_0 K _) rfl hX6_swap_X6 0 (by decide) kX6_swap_f7 rfl dX6_swap_133 ?_
        refine lv_bipush hx hb dX6_swap_136 bp_10 ?_
        refine lv_iload hx hb dX6_swap_138 (lv_at hl 4 rfl) ?_
        refine lv_iadd hx hb dX6_swap_140 ?_
        have hi_16 := hw.1
        have hw := hw.2
        refine a_il C hP (by decide) (sM_1 K _) hi_16 rfl dX6_swap_141 ?_
        have hi_17 := hw.1
        have hw := hw.2
        refine a_is C hP hS (by decide) (sM_1 K) hi_17 rfl dX6_swap_142 (fun H locs hP hS => ?_)
        obtain ⟨M_18, eM_18⟩ : ∃ z : Mem, z = mU M_15 1 ((195 : Int32) + v5).toNatClampNeg (M_15 1 ((10 : Int32) + v4).toNatClampNeg) := ⟨_, rfl⟩
        rw [← eM_18] at hP
        have hw := hw M_18 eM_18
        refine lv_aload_n hx hb dX6_swap_143 rfl (lv_at hl 0 rfl) ?_
        refine lv_sipush hx hb dX6_swap_144 sp_185 ?_
        refine c_i (run_v (As := [.int (185 : Int32)]) (rest := []) C hP hS (c_X6_areaOn hw) gX6_swap_X6_areaOn rfl dsX6_areaOn rfl ⟨rfl, rfl⟩ ⟨Nat.le_of_ble_eq_true rfl, Nat.le_of_ble_eq_true rfl⟩ (by decide) (sM_0 K _) rfl hl.1 rfl (Nat.le_of_ble_eq_true rfl) dX6_swap_147 ⟨Nat.le_of_ble_eq_true rfl, Nat.le_of_ble_eq_true rfl⟩) hS (fun r_20 M_19 H locs hw hP hS => ?_)
        refine c_i (run_s (As := [.int r_20]) (rest := []) C hP hS (c_X6_amount hw) gX6_swap_X6_amount rfl dsX6_amount rfl ⟨rfl, rfl⟩ ⟨Nat.le_of_ble_eq_true rfl, Nat.le_of_ble_eq_true rfl⟩ hl.1 rfl (Nat.le_of_ble_eq_true rfl) dX6_swap_150 ⟨Nat.le_of_ble_eq_true rfl, Nat.le_of_ble_eq_true rfl⟩) hS (fun r_22 M_21 H locs hw hP hS => ?_)
        refine lv_istore (lv' := [(6, .int r_22), (0, .ref (kb K + 0)), (1, .int v1), (2, .int v2), (3, .int v3), (4, .int v4), (5, .int v5)]) hx hb dX6_swap_153 hl (by decide) rfl (fun ls hl => ?_)
        refine lv_iload hx hb dX6_swap_155 (lv_at hl 0 rfl) ?_
        refine lv_iload_n hx hb dX6_swap_157 rfl (lv_at hl 3 rfl) ?_
        refine lv_icmp_le (tgt := 172) hx hb dX6_swap_158 (by decide) (fun hc => ?_) (fun hc => ?_)
        · have hw := hw.1 hc
          refine lv_iload_n hx hb dX6_swap_172 rfl (lv_at hl 4 rfl) ?_
          exact ih.2.2.1 _ _ _ _ _ _ _ _ _ _ hw hP hS (lv_sub hl [1, 2, 3, 5, 6, 0] rfl)
        · have hw := hw.2 hc
          refine lv_bipush hx hb dX6_swap_161 bp_10 ?_
          refine lv_iload hx hb dX6_swap_163 (lv_at hl 5 rfl) ?_
          refine lv_imul hx hb dX6_swap_165 ?_
          refine lv_iload hx hb dX6_swap_166 (lv_at hl 6 rfl) ?_
          refine lv_iadd hx hb dX6_swap_168 ?_
          refine lv_goto (tgt := 173) hx hb dX6_swap_169 (by decide) ?_
          exact ih.2.2.1 _ _ _ _ _ _ _ _ _ _ hw hP hS (lv_sub hl [1, 2, 3, 5, 6, 0] rfl)
    · intro v1 v2 v4 v5 v6 s0 M H locs ls hw hP hS hl
      have hw : f_X6_swap_173 Q (p_X6_swap Q n) v1 v2 v4 v5 v6 s0 M := hw
      delta f_X6_swap_173 at hw
      refine lv_istore_n (lv' := [(3, .int s0), (0, .ref (kb K + 0)), (1, .int v1), (2, .int v2), (4, .int v4), (5, .int v5), (6, .int v6)]) hx hb dX6_swap_173 rfl hl (by decide) rfl (fun ls hl => ?_)
      refine lv_iload hx hb dX6_swap_174 (lv_at hl 6 rfl) ?_
      refine lv_iload_n hx hb dX6_swap_176 rfl (lv_at hl 3 rfl) ?_
      refine lv_icmp_le (tgt := 185) hx hb dX6_swap_177 (by decide) (fun hc => ?_) (fun hc => ?_)
      · have hw := hw.1 hc
        refine lv_iload_n hx hb dX6_swap_185 rfl (lv_at hl 3 rfl) ?_
        exact ih.2.2.2.1 _ _ _ _ _ _ _ _ _ hw hP hS (lv_sub hl [1, 2, 0, 4, 5] rfl)
      · have hw := hw.2 hc
        refine lv_iload hx hb dX6_swap_180 (lv_at hl 6 rfl) ?_
        refine lv_goto (tgt := 186) hx hb dX6_swap_182 (by decide) ?_
        exact ih.2.2.2.1 _ _ _ _ _ _ _ _ _ hw hP hS (lv_sub hl [1, 2, 0, 4, 5] rfl)
    · intro v1 v3 v4 v5 s0 M H locs ls hw hP hS hl
      have hw : f_X6_swap_186 Q (p_X6_swap Q n) v1 v3 v4 v5 s0 M := hw
      delta f_X6_swap_186 at hw
      refine lv_istore_n (lv' := [(2, .int s0), (0, .ref (kb K + 0)), (1, .int v1), (3, .int v3), (4, .int v4), (5, .int v5)]) hx hb dX6_swap_186 rfl hl (by decide) rfl (fun ls hl => ?_)
      refine lv_iinc (v := (v5 + 1)) (lv' := [(5, .int (v5 + 1)), (2, .int s0), (0, .ref (kb K + 0)), (1, .int v1), (3, .int v3), (4, .int v4)]) hx hb dX6_swap_187 hl (k := 5) rfl (by rw [ic_1]) (by decide) rfl (fun ls hl => ?_)
      refine lv_goto (tgt := 45) hx hb dX6_swap_190 (by decide) ?_
      exact ih.2.1 _ _ _ _ _ _ _ _ _ hw hP hS (lv_sub hl [2, 3, 1, 4, 5, 0] rfl)
    · intro v3 M H locs ls hw hP hS hl
      have hw : f_X6_swap_209 Q (p_X6_swap Q n) v3 M := hw
      delta f_X6_swap_209 at hw
      refine lv_iload_n hx hb dX6_swap_209 rfl (lv_at hl 0 rfl) ?_
      refine lv_goto (tgt := 214) hx hb dX6_swap_210 (by decide) ?_
      exact r_i C hP hS hw dX6_swap_214
theorem dsX6_swap : yX6_swap.cls = RX6 ∧ yX6_swap.cls ≠ "java/lang/invoke/MethodHandle" ∧ yX6_swap.cls ≠ "java/lang/invoke/VarHandle" ∧ (parseMethodDescriptor yX6_swap.desc).map (fun d => d.parameters.length) = some 1 := by decide +kernel
set_option maxRecDepth 100000 in
set_option maxHeartbeats 4000000 in
theorem c_X6_swap {l : Launch} {K : wC} {v1 : Int32} {M : Mem} {Q : Int32 → Mem → Prop} (hw : q_X6_swap v1 M Q) : metI l yX6_swap wsX6_swap rmX6_swap shM 12 K [.ref (kb K + 0), .int v1] M Q := by
  refine met_of (cc := cX6_swap) (maxL := 7) (ret := (some .int)) (own := RX6) (by decide) rfl rfl (Nat.le_of_ble_eq_true rfl) ?_
  intro p e s m below meth c ls C hl hP hS
  have hl : lv_has ls 7 [(0, .ref (kb K + 0)), (1, .int v1)] := hl
  obtain ⟨hx, hb, hml, hown, hts, hr, hlk, hK⟩ := id C
  have hP0 := hP
  obtain ⟨n, hw⟩ := hw
  have ih := b_X6_swap (l := l) (e := e) (below := below) (Q := Q) C n
  delta e_X6_swap at hw
  refine lv_iload_n hx hb dX6_swap_0 rfl (lv_at hl 1 rfl) ?_
  refine lv_i2l hx hb dX6_swap_1 rfl ?_
  refine lv_lconst hx hb dX6_swap_2 lc_0 ?_
  refine lv_lconst hx hb dX6_swap_3 lc_1 ?_
  refine c_i (run_s (As := [.long v1.toInt64, .long (0 : Int64), .long (1 : Int64)]) (rest := []) C hP hS (c_X6_in hw) gX6_swap_X6_in rfl dsX6_in rfl ⟨rfl, rfl⟩ ⟨Nat.le_of_ble_eq_true rfl, Nat.le_of_ble_eq_true rfl⟩ hl.1 rfl (Nat.le_of_ble_eq_true rfl) dX6_swap_4 ⟨Nat.le_of_ble_eq_true rfl, Nat.le_of_ble_eq_true rfl⟩) hS (fun r_2 M_1 H locs hw hP hS => ?_)
  refine lv_if_ne (tgt := 12) hx hb dX6_swap_7 (by decide) (fun hc => ?_) (fun hc => ?_)
  · have hw := hw.1 hc
    refine lv_aload_n hx hb dX6_swap_12 rfl (lv_at hl 0 rfl) ?_
    refine lv_iconst hx hb dX6_swap_13 ic_0 ?_
    refine c_i (run_v (As := [.int (0 : Int32)]) (rest := []) C hP hS (c_X6_areaOn hw) gX6_swap_X6_areaOn rfl dsX6_areaOn rfl ⟨rfl, rfl⟩ ⟨Nat.le_of_ble_eq_true rfl, Nat.le_of_ble_eq_true rfl⟩ (by decide) (sM_0 K _) rfl hl.1 rfl (Nat.le_of_ble_eq_true rfl) dX6_swap_14 ⟨Nat.le_of_ble_eq_true rfl, Nat.le_of_ble_eq_true rfl⟩) hS (fun r_4 M_3 H locs hw hP hS => ?_)
    refine c_i (run_s (As := [.int r_4]) (rest := []) C hP hS (c_X6_amount hw) gX6_swap_X6_amount rfl dsX6_amount rfl ⟨rfl, rfl⟩ ⟨Nat.le_of_ble_eq_true rfl, Nat.le_of_ble_eq_true rfl⟩ hl.1 rfl (Nat.le_of_ble_eq_true rfl) dX6_swap_17 ⟨Nat.le_of_ble_eq_true rfl, Nat.le_of_ble_eq_true rfl⟩) hS (fun r_6 M_5 H locs hw hP hS => ?_)
    refine lv_istore_n (lv' := [(2, .int r_6), (0, .ref (kb K + 0)), (1, .int v1)]) hx hb dX6_swap_20 rfl hl (by decide) rfl (fun ls hl => ?_)
    refine lv_bipush hx hb dX6_swap_21 bp_m4 ?_
    refine lv_istore_n (lv' := [(3, .int (-4 : Int32)), (2, .int r_6), (0, .ref (kb K + 0)), (1, .int v1)]) hx hb dX6_swap_23 rfl hl (by decide) rfl (fun ls hl => ?_)
    refine lv_iconst hx hb dX6_swap_24 ic_0 ?_
    refine lv_istore (lv' := [(4, .int (0 : Int32)), (3, .int (-4 : Int32)), (2, .int r_6), (0, .ref (kb K + 0)), (1, .int v1)]) hx hb dX6_swap_25 hl (by decide) rfl (fun ls hl => ?_)
    exact ih.1 _ _ _ _ _ _ _ _ hw hP hS (lv_sub hl [3, 4, 2, 1, 0] rfl)
  · have hw := hw.2 hc
    refine lv_iconst hx hb dX6_swap_10 ic_m1 ?_
    exact r_i C hP hS hw dX6_swap_11

theorem kX6_out_f7 : Cond.fieldLink RX6 7 (TX6 0).1 (TX6 0).2.1 (TX6 0).2.2.1 ∈ wsX6_out := List.mem_of_getElem? (i := 1) rfl
theorem hX6_out_X6 : ∀ w ∈ u_ws RX6 TX6 26, w ∈ wsX6_out := fun _ h => List.mem_cons_of_mem _ (List.mem_append_right _ (h))
theorem kX6_out_f25 : Cond.fieldLink RX6 25 (TX6 14).1 (TX6 14).2.1 (TX6 14).2.2.1 ∈ wsX6_out := List.mem_of_getElem? (i := 2) rfl
abbrev rmX6_out : Room := { frames := 2, cells := 0, slots := 0, locals := 49 }
abbrev t_X6_out : Type := (Int32 → Int32 → Int32 → Int32 → Mem → Prop) × (Int32 → Int32 → Int32 → Int32 → Int32 → Mem → Prop) × (Int32 → Int32 → Int32 → Int32 → Mem → Prop) × (Int32 → Mem → Prop)
def f_X6_out_27 (Q : Int32 → Mem → Prop) (r : t_X6_out) (v1 : Int32) (v2 : Int32) (v3 : Int32) (v4 : Int32) (M : Mem) : Prop := (((M 1 20) ≤ v4 → ((v3 = (-4 : Int32) → r.2.2.2 v3 M) ∧ (¬ v3 = (-4 : Int32) → ((¬ v1 = 0 → Q v2 M) ∧ (v1 = 0 → r.2.2.2 v3 M))))) ∧ (¬ (M 1 20) ≤ v4 → q_X6_areaOn (0 : Int32) (mU M 0 14 v4) (fun r_8 M_7 => q_X6_amount r_8 M_7 (fun r_10 M_9 => ((r_10 ≤ v2 → r.2.1 v1 v2 v4 r_10 v3 (mU M_9 0 14 (-4 : Int32))) ∧ (¬ r_10 ≤ v2 → r.2.1 v1 v2 v4 r_10 v4 (mU M_9 0 14 (-4 : Int32))))))))
def f_X6_out_73 (Q : Int32 → Mem → Prop) (r : t_X6_out) (v1 : Int32) (v2 : Int32) (v4 : Int32) (v5 : Int32) (s0 : Int32) (M : Mem) : Prop := ((v5 ≤ v2 → r.2.2.1 v1 s0 v4 v2 M) ∧ (¬ v5 ≤ v2 → r.2.2.1 v1 s0 v4 v5 M))
def f_X6_out_86 (Q : Int32 → Mem → Prop) (r : t_X6_out) (v1 : Int32) (v3 : Int32) (v4 : Int32) (s0 : Int32) (M : Mem) : Prop := r.1 v1 s0 v3 (v4 + 1) M
def f_X6_out_103 (Q : Int32 → Mem → Prop) (r : t_X6_out) (v3 : Int32) (M : Mem) : Prop := Q v3 M
def p_X6_out (Q : Int32 → Mem → Prop) : Nat → t_X6_out
  | 0 => (fun _ _ _ _ _ => False, fun _ _ _ _ _ _ => False, fun _ _ _ _ _ => False, fun _ _ => False)
  | n + 1 => (f_X6_out_27 Q (p_X6_out Q n), f_X6_out_73 Q (p_X6_out Q n), f_X6_out_86 Q (p_X6_out Q n), f_X6_out_103 Q (p_X6_out Q n))
def e_X6_out (v1 : Int32) (Q : Int32 → Mem → Prop) (r : t_X6_out) (M : Mem) : Prop := q_X6_in v1.toInt64 (0 : Int64) (1 : Int64) M (fun r_2 M_1 => ((¬ r_2 = 0 → q_X6_areaOn (0 : Int32) M_1 (fun r_4 M_3 => q_X6_amount r_4 M_3 (fun r_6 M_5 => r.1 v1 r_6 (-4 : Int32) (0 : Int32) M_5))) ∧ (r_2 = 0 → Q (-1 : Int32) M_1)))
def q_X6_out (v1 : Int32) (M : Mem) (Q : Int32 → Mem → Prop) : Prop := ∃ n : Nat, e_X6_out v1 Q (p_X6_out Q n) M
set_option maxRecDepth 100000 in
set_option maxHeartbeats 4000000 in
theorem b_X6_out {l : Launch} {K : wC} {Q : Int32 → Mem → Prop} {p : Program} {e : Env} {s : State} {m : MethodId} {args : Array Value} {below : List Frame} {meth : Method} {c : Code} (C : cx 12 K p s m args meth c cX6_out 6 wsX6_out RX6 (some .int)) : ∀ n : Nat, (∀ (v1 : Int32) (v2 : Int32) (v3 : Int32) (v4 : Int32) (M : Mem) (H : Heap) (locs : List Loc) (ls : Array Slot), (p_X6_out Q n).1 v1 v2 v3 v4 M → wP shM 12 K M H → va_S (wA 12 K) s.heap H locs → lv_has ls 6 [(0, .ref (kb K + 0)), (1, .int v1), (2, .int v2), (3, .int v3), (4, .int v4)] → W p l e rmX6_out s m args below meth c H locs 0 0 (MQ below (va_Qi Q (wE shM 12 K) (wA 12 K)) args s 0 0 (wA 12 K)) (F0 m 27 ls [])) ∧ (∀ (v1 : Int32) (v2 : Int32) (v4 : Int32) (v5 : Int32) (s0 : Int32) (M : Mem) (H : Heap) (locs : List Loc) (ls : Array Slot), (p_X6_out Q n).2.1 v1 v2 v4 v5 s0 M → wP shM 12 K M H → va_S (wA 12 K) s.heap H locs → lv_has ls 6 [(0, .ref (kb K + 0)), (1, .int v1), (2, .int v2), (4, .int v4), (5, .int v5)] → W p l e rmX6_out s m args below meth c H locs 0 0 (MQ below (va_Qi Q (wE shM 12 K) (wA 12 K)) args s 0 0 (wA 12 K)) (F0 m 73 ls [.int s0])) ∧ (∀ (v1 : Int32) (v3 : Int32) (v4 : Int32) (s0 : Int32) (M : Mem) (H : Heap) (locs : List Loc) (ls : Array Slot), (p_X6_out Q n).2.2.1 v1 v3 v4 s0 M → wP shM 12 K M H → va_S (wA 12 K) s.heap H locs → lv_has ls 6 [(0, .ref (kb K + 0)), (1, .int v1), (3, .int v3), (4, .int v4)] → W p l e rmX6_out s m args below meth c H locs 0 0 (MQ below (va_Qi Q (wE shM 12 K) (wA 12 K)) args s 0 0 (wA 12 K)) (F0 m 86 ls [.int s0])) ∧ (∀ (v3 : Int32) (M : Mem) (H : Heap) (locs : List Loc) (ls : Array Slot), (p_X6_out Q n).2.2.2 v3 M → wP shM 12 K M H → va_S (wA 12 K) s.heap H locs → lv_has ls 6 [(3, .int v3)] → W p l e rmX6_out s m args below meth c H locs 0 0 (MQ below (va_Qi Q (wE shM 12 K) (wA 12 K)) args s 0 0 (wA 12 K)) (F0 m 103 ls [])) := by
  obtain ⟨hx, hb, hml, hown, hts, hr, hlk, hK⟩ := id C
  intro n
  induction n with
  | zero => exact ⟨fun _ _ _ _ _ _ _ _ hw _ _ _ => False.elim hw, fun _ _ _ _ _ _ _ _ _ hw _ _ _ => False.elim hw, fun _ _ _ _ _ _ _ _ hw _ _ _ => False.elim hw, fun _ _ _ _ _ hw _ _ _ => False.elim hw⟩
  | succ n ih =>
    refine ⟨?_, ?_, ?_, ?_⟩
    · intro v1 v2 v3 v4 M H locs ls hw hP hS hl
      have hw : f_X6_out_27 Q (p_X6_out Q n) v1 v2 v3 v4 M := hw
      delta f_X6_out_27 at hw
      refine lv_iload hx hb dX6_out_27 (lv_at hl 4 rfl) ?_
      refine lv_aload_n hx hb dX6_out_29 rfl (lv_at hl 0 rfl) ?_
      refine g_f C hP (by decide) (sM_0 K _) rfl hX6_out_X6 0 (by decide) kX6_out_f7 rfl dX6_out_30 ?_
      refine lv_bipush hx hb dX6_out_33 bp_20 ?_
      refine a_il C hP (by decide) (sM_1 K _) vi_20_222 ti_20 dX6_out_35 ?_
      refine lv_icmp_ge (tgt := 93) hx hb dX6_out_36 (by decide) (fun hc => ?_) (fun hc => ?_)
      · have hw := hw.1 hc
        refine lv_iload_n hx hb dX6_out_93 rfl (lv_at hl 3 rfl) ?_
        refine lv_bipush hx hb dX6_out_94 bp_m4 ?_
        refine lv_icmp_eq (tgt := 103) hx hb dX6_out_96 (by decide) (fun hc => ?_) (fun hc => ?_)
        · have hw := hw.1 hc
          exact ih.2.2.2 _ _ _ _ _ hw hP hS (lv_sub hl [3] rfl)
        · have hw := hw.2 hc
          refine lv_iload_n hx hb dX6_out_99 rfl (lv_at hl 1 rfl) ?_
          refine lv_if_ne (tgt := 107) hx hb dX6_out_100 (by decide) (fun hc => ?_) (fun hc => ?_)
          · have hw := hw.1 hc
            refine lv_iload_n hx hb dX6_out_107 rfl (lv_at hl 2 rfl) ?_
            exact r_i C hP hS hw dX6_out_108
          · have hw := hw.2 hc
            exact ih.2.2.2 _ _ _ _ _ hw hP hS (lv_sub hl [3] rfl)
      · have hw := hw.2 hc
        refine lv_aload_n hx hb dX6_out_39 rfl (lv_at hl 0 rfl) ?_
        refine lv_iload hx hb dX6_out_40 (lv_at hl 4 rfl) ?_
        refine p_f C hP hS (by decide) (sM_0 K _) (sM_0 K _) rfl hX6_out_X6 tyX6_ok nmX6 (by decide) kX6_out_f25 rfl rfl rfl (Nat.le_of_ble_eq_true rfl) dX6_out_42 (fun H locs hP hS => ?_)
        refine lv_aload_n hx hb dX6_out_45 rfl (lv_at hl 0 rfl) ?_
        refine lv_iconst hx hb dX6_out_46 ic_0 ?_
        refine c_i (run_v (As := [.int (0 : Int32)]) (rest := []) C hP hS (c_X6_areaOn hw) gX6_out_X6_areaOn rfl dsX6_areaOn rfl ⟨rfl, rfl⟩ ⟨Nat.le_of_ble_eq_true rfl, Nat.le_of_ble_eq_true rfl⟩ (by decide) (sM_0 K _) rfl hl.1 rfl (Nat.le_of_ble_eq_true rfl) dX6_out_47 ⟨Nat.le_of_ble_eq_true rfl, Nat.le_of_ble_eq_true rfl⟩) hS (fun r_8 M_7 H locs hw hP hS => ?_)
        refine c_i (run_s (As := [.int r_8]) (rest := []) C hP hS (c_X6_amount hw) gX6_out_X6_amount rfl dsX6_amount rfl ⟨rfl, rfl⟩ ⟨Nat.le_of_ble_eq_true rfl, Nat.le_of_ble_eq_true rfl⟩ hl.1 rfl (Nat.le_of_ble_eq_true rfl) dX6_out_50 ⟨Nat.le_of_ble_eq_true rfl, Nat.le_of_ble_eq_true rfl⟩) hS (fun r_10 M_9 H locs hw hP hS => ?_)
        refine lv_istore (lv' := [(5, .int r_10), (0, .ref (kb K + 0)), (1, .int v1), (2, .int v2), (3, .int v3), (4, .int v4)]) hx hb dX6_out_53 hl (by decide) rfl (fun ls hl => ?_)
        refine lv_aload_n hx hb dX6_out_55 rfl (lv_at hl 1 rfl) ?_
        refine lv_bipush hx hb dX6_out_56 bp_m4 ?_
        refine p_f C hP hS (by decide) (sM_0 K _) (sM_0 K _) rfl hX6_out_X6 tyX6_ok nmX6 (by decide) kX6_out_f25 rfl rfl rfl (Nat.le_of_ble_eq_true rfl) dX6_out_58 (fun H locs hP hS => ?_)
        refine lv_iload hx hb dX6_out_61 (lv_at hl 0 rfl) ?_
        refine lv_iload_n hx hb dX6_out_63 rfl (lv_at hl 3 rfl) ?_
        refine lv_icmp_le (tgt := 72) hx hb dX6_out_64 (by decide) (fun hc => ?_) (fun hc => ?_)
        · have hw := hw.1 hc
          refine lv_iload_n hx hb dX6_out_72 rfl (lv_at hl 4 rfl) ?_
          exact ih.2.1 _ _ _ _ _ _ _ _ _ hw hP hS (lv_sub hl [1, 2, 3, 5, 0] rfl)
        · have hw := hw.2 hc
          refine lv_iload hx hb dX6_out_67 (lv_at hl 5 rfl) ?_
          refine lv_goto (tgt := 73) hx hb dX6_out_69 (by decide) ?_
          exact ih.2.1 _ _ _ _ _ _ _ _ _ hw hP hS (lv_sub hl [1, 2, 3, 5, 0] rfl)
    · intro v1 v2 v4 v5 s0 M H locs ls hw hP hS hl
      have hw : f_X6_out_73 Q (p_X6_out Q n) v1 v2 v4 v5 s0 M := hw
      delta f_X6_out_73 at hw
      refine lv_istore_n (lv' := [(3, .int s0), (0, .ref (kb K + 0)), (1, .int v1), (2, .int v2), (4, .int v4), (5, .int v5)]) hx hb dX6_out_73 rfl hl (by decide) rfl (fun ls hl => ?_)
      refine lv_iload hx hb dX6_out_74 (lv_at hl 5 rfl) ?_
      refine lv_iload_n hx hb dX6_out_76 rfl (lv_at hl 3 rfl) ?_
      refine lv_icmp_le (tgt := 85) hx hb dX6_out_77 (by decide) (fun hc => ?_) (fun hc => ?_)
      · have hw := hw.1 hc
        refine lv_iload_n hx hb dX6_out_85 rfl (lv_at hl 3 rfl) ?_
        exact ih.2.2.1 _ _ _ _ _ _ _ _ hw hP hS (lv_sub hl [1, 2, 0, 4] rfl)
      · have hw := hw.2 hc
        refine lv_iload hx hb dX6_out_80 (lv_at hl 5 rfl) ?_
        refine lv_goto (tgt := 86) hx hb dX6_out_82 (by decide) ?_
        exact ih.2.2.1 _ _ _ _ _ _ _ _ hw hP hS (lv_sub hl [1, 2, 0, 4] rfl)
    · intro v1 v3 v4 s0 M H locs ls hw hP hS hl
      have hw : f_X6_out_86 Q (p_X6_out Q n) v1 v3 v4 s0 M := hw
      delta f_X6_out_86 at hw
      refine lv_istore_n (lv' := [(2, .int s0), (0, .ref (kb K + 0)), (1, .int v1), (3, .int v3), (4, .int v4)]) hx hb dX6_out_86 rfl hl (by decide) rfl (fun ls hl => ?_)
      refine lv_iinc (v := (v4 + 1)) (lv' := [(4, .int (v4 + 1)), (2, .int s0), (0, .ref (kb K + 0)), (1, .int v1), (3, .int v3)]) hx hb dX6_out_87 hl (k := 4) rfl (by rw [ic_1]) (by decide) rfl (fun ls hl => ?_)
      refine lv_goto (tgt := 27) hx hb dX6_out_90 (by decide) ?_
      exact ih.1 _ _ _ _ _ _ _ _ hw hP hS (lv_sub hl [2, 3, 1, 4, 0] rfl)
    · intro v3 M H locs ls hw hP hS hl
      have hw : f_X6_out_103 Q (p_X6_out Q n) v3 M := hw
      delta f_X6_out_103 at hw
      refine lv_iload_n hx hb dX6_out_103 rfl (lv_at hl 0 rfl) ?_
      refine lv_goto (tgt := 108) hx hb dX6_out_104 (by decide) ?_
      exact r_i C hP hS hw dX6_out_108
theorem dsX6_out : yX6_out.cls = RX6 ∧ yX6_out.cls ≠ "java/lang/invoke/MethodHandle" ∧ yX6_out.cls ≠ "java/lang/invoke/VarHandle" ∧ (parseMethodDescriptor yX6_out.desc).map (fun d => d.parameters.length) = some 1 := by decide +kernel
set_option maxRecDepth 100000 in
set_option maxHeartbeats 4000000 in
theorem c_X6_out {l : Launch} {K : wC} {v1 : Int32} {M : Mem} {Q : Int32 → Mem → Prop} (hw : q_X6_out v1 M Q) : metI l yX6_out wsX6_out rmX6_out shM 12 K [.ref (kb K + 0), .int v1] M Q := by
  refine met_of (cc := cX6_out) (maxL := 6) (ret := (some .int)) (own := RX6) (by decide) rfl rfl (Nat.le_of_ble_eq_true rfl) ?_
  intro p e s m below meth c ls C hl hP hS
  have hl : lv_has ls 6 [(0, .ref (kb K + 0)), (1, .int v1)] := hl
  obtain ⟨hx, hb, hml, hown, hts, hr, hlk, hK⟩ := id C
  have hP0 := hP
  obtain ⟨n, hw⟩ := hw
  have ih := b_X6_out (l := l) (e := e) (below := below) (Q := Q) C n
  delta e_X6_out at hw
  refine lv_iload_n hx hb dX6_out_0 rfl (lv_at hl 1 rfl) ?_
  refine lv_i2l hx hb dX6_out_1 rfl ?_
  refine lv_lconst hx hb dX6_out_2 lc_0 ?_
  refine lv_lconst hx hb dX6_out_3 lc_1 ?_
  refine c_i (run_s (As := [.long v1.toInt64, .long (0 : Int64), .long (1 : Int64)]) (rest := []) C hP hS (c_X6_in hw) gX6_out_X6_in rfl dsX6_in rfl ⟨rfl, rfl⟩ ⟨Nat.le_of_ble_eq_true rfl, Nat.le_of_ble_eq_true rfl⟩ hl.1 rfl (Nat.le_of_ble_eq_true rfl) dX6_out_4 ⟨Nat.le_of_ble_eq_true rfl, Nat.le_of_ble_eq_true rfl⟩) hS (fun r_2 M_1 H locs hw hP hS => ?_)
  refine lv_if_ne (tgt := 12) hx hb dX6_out_7 (by decide) (fun hc => ?_) (fun hc => ?_)
  · have hw := hw.1 hc
    refine lv_aload_n hx hb dX6_out_12 rfl (lv_at hl 0 rfl) ?_
    refine lv_iconst hx hb dX6_out_13 ic_0 ?_
    refine c_i (run_v (As := [.int (0 : Int32)]) (rest := []) C hP hS (c_X6_areaOn hw) gX6_out_X6_areaOn rfl dsX6_areaOn rfl ⟨rfl, rfl⟩ ⟨Nat.le_of_ble_eq_true rfl, Nat.le_of_ble_eq_true rfl⟩ (by decide) (sM_0 K _) rfl hl.1 rfl (Nat.le_of_ble_eq_true rfl) dX6_out_14 ⟨Nat.le_of_ble_eq_true rfl, Nat.le_of_ble_eq_true rfl⟩) hS (fun r_4 M_3 H locs hw hP hS => ?_)
    refine c_i (run_s (As := [.int r_4]) (rest := []) C hP hS (c_X6_amount hw) gX6_out_X6_amount rfl dsX6_amount rfl ⟨rfl, rfl⟩ ⟨Nat.le_of_ble_eq_true rfl, Nat.le_of_ble_eq_true rfl⟩ hl.1 rfl (Nat.le_of_ble_eq_true rfl) dX6_out_17 ⟨Nat.le_of_ble_eq_true rfl, Nat.le_of_ble_eq_true rfl⟩) hS (fun r_6 M_5 H locs hw hP hS => ?_)
    refine lv_istore_n (lv' := [(2, .int r_6), (0, .ref (kb K + 0)), (1, .int v1)]) hx hb dX6_out_20 rfl hl (by decide) rfl (fun ls hl => ?_)
    refine lv_bipush hx hb dX6_out_21 bp_m4 ?_
    refine lv_istore_n (lv' := [(3, .int (-4 : Int32)), (2, .int r_6), (0, .ref (kb K + 0)), (1, .int v1)]) hx hb dX6_out_23 rfl hl (by decide) rfl (fun ls hl => ?_)
    refine lv_iconst hx hb dX6_out_24 ic_0 ?_
    refine lv_istore (lv' := [(4, .int (0 : Int32)), (3, .int (-4 : Int32)), (2, .int r_6), (0, .ref (kb K + 0)), (1, .int v1)]) hx hb dX6_out_25 hl (by decide) rfl (fun ls hl => ?_)
    exact ih.1 _ _ _ _ _ _ _ _ hw hP hS (lv_sub hl [3, 4, 2, 1, 0] rfl)
  · have hw := hw.2 hc
    refine lv_iconst hx hb dX6_out_10 ic_m1 ?_
    exact r_i C hP hS hw dX6_out_11

abbrev rmX6_lowest : Room := { frames := 0, cells := 0, slots := 0, locals := 0 }
abbrev t_X6_lowest : Type := (Int64 → Int64 → Int32 → Int64 → Int64 → Mem → Prop) × (Int64 → Int64 → Mem → Prop)
def f_X6_lowest_6 (Q : Int64 → Mem → Prop) (r : t_X6_lowest) (v0 : Int64) (v2 : Int64) (v4 : Int32) (v5 : Int64) (v7 : Int64) (M : Mem) : Prop := (((lg_cmp v7 (0 : Int64)) = 0 → ((¬ v4 = 0 → r.2 v5 v2 M) ∧ (v4 = 0 → r.2 v5 v0 M))) ∧ (¬ (lg_cmp v7 (0 : Int64)) = 0 → (¬ v7 = 0) ∧ r.1 v0 v2 v4 v7 (v5 - v5 / v7 * v7) M))
def f_X6_lowest_41 (Q : Int64 → Mem → Prop) (r : t_X6_lowest) (v5 : Int64) (s0 : Int64) (M : Mem) : Prop := (¬ v5 = 0) ∧ Q (s0 / v5) M
def p_X6_lowest (Q : Int64 → Mem → Prop) : Nat → t_X6_lowest
  | 0 => (fun _ _ _ _ _ _ => False, fun _ _ _ => False)
  | n + 1 => (f_X6_lowest_6 Q (p_X6_lowest Q n), f_X6_lowest_41 Q (p_X6_lowest Q n))
def e_X6_lowest (v0 : Int64) (v2 : Int64) (v4 : Int32) (Q : Int64 → Mem → Prop) (r : t_X6_lowest) (M : Mem) : Prop := r.1 v0 v2 v4 v0 v2 M
def q_X6_lowest (v0 : Int64) (v2 : Int64) (v4 : Int32) (M : Mem) (Q : Int64 → Mem → Prop) : Prop := ∃ n : Nat, e_X6_lowest v0 v2 v4 Q (p_X6_lowest Q n) M
set_option maxRecDepth 100000 in
set_option maxHeartbeats 4000000 in
theorem b_X6_lowest {l : Launch} {K : wC} {Q : Int64 → Mem → Prop} {p : Program} {e : Env} {s : State} {m : MethodId} {args : Array Value} {below : List Frame} {meth : Method} {c : Code} (C : cx 12 K p s m args meth c cX6_lowest 11 wsX6_lowest RX6 (some .long)) : ∀ n : Nat, (∀ (v0 : Int64) (v2 : Int64) (v4 : Int32) (v5 : Int64) (v7 : Int64) (M : Mem) (H : Heap) (locs : List Loc) (ls : Array Slot), (p_X6_lowest Q n).1 v0 v2 v4 v5 v7 M → wP shM 12 K M H → va_S (wA 12 K) s.heap H locs → lv_has ls 11 [(0, .long v0), (2, .long v2), (4, .int v4), (5, .long v5), (7, .long v7)] → W p l e rmX6_lowest s m args below meth c H locs 0 0 (MQ below (va_Ql Q (wE shM 12 K) (wA 12 K)) args s 0 0 (wA 12 K)) (F0 m 6 ls [])) ∧ (∀ (v5 : Int64) (s0 : Int64) (M : Mem) (H : Heap) (locs : List Loc) (ls : Array Slot), (p_X6_lowest Q n).2 v5 s0 M → wP shM 12 K M H → va_S (wA 12 K) s.heap H locs → lv_has ls 11 [(5, .long v5)] → W p l e rmX6_lowest s m args below meth c H locs 0 0 (MQ below (va_Ql Q (wE shM 12 K) (wA 12 K)) args s 0 0 (wA 12 K)) (F0 m 41 ls [.long s0])) := by
  obtain ⟨hx, hb, hml, hown, hts, hr, hlk, hK⟩ := id C
  intro n
  induction n with
  | zero => exact ⟨fun _ _ _ _ _ _ _ _ _ hw _ _ _ => False.elim hw, fun _ _ _ _ _ _ hw _ _ _ => False.elim hw⟩
  | succ n ih =>
    refine ⟨?_, ?_⟩
    · intro v0 v2 v4 v5 v7 M H locs ls hw hP hS hl
      have hw : f_X6_lowest_6 Q (p_X6_lowest Q n) v0 v2 v4 v5 v7 M := hw
      delta f_X6_lowest_6 at hw
      refine lv_lload hx hb dX6_lowest_6 (lv_at hl 4 rfl) ?_
      refine lv_lconst hx hb dX6_lowest_8 lc_0 ?_
      refine W.lcmp hx hb dX6_lowest_9 ?_
      refine lv_if_eq (tgt := 31) hx hb dX6_lowest_10 (by decide) (fun hc => ?_) (fun hc => ?_)
      · have hw := hw.1 hc
        refine lv_iload hx hb dX6_lowest_31 (lv_at hl 2 rfl) ?_
        refine lv_if_ne (tgt := 40) hx hb dX6_lowest_33 (by decide) (fun hc => ?_) (fun hc => ?_)
        · have hw := hw.1 hc
          refine lv_lload_n hx hb dX6_lowest_40 rfl (lv_at hl 1 rfl) ?_
          exact ih.2 _ _ _ _ _ _ hw hP hS (lv_sub hl [3] rfl)
        · have hw := hw.2 hc
          refine lv_lload_n hx hb dX6_lowest_36 rfl (lv_at hl 0 rfl) ?_
          refine lv_goto (tgt := 41) hx hb dX6_lowest_37 (by decide) ?_
          exact ih.2 _ _ _ _ _ _ hw hP hS (lv_sub hl [3] rfl)
      · have hw := hw.2 hc
        refine lv_lload hx hb dX6_lowest_13 (lv_at hl 3 rfl) ?_
        refine lv_lload hx hb dX6_lowest_15 (lv_at hl 4 rfl) ?_
        have hz_1 := hw.1
        have hw := hw.2
        refine lv_lrem hx hb dX6_lowest_17 hz_1 ?_
        refine lv_lstore (lv' := [(9, .long (v5 - v5 / v7 * v7)), (0, .long v0), (2, .long v2), (4, .int v4), (5, .long v5), (7, .long v7)]) hx hb dX6_lowest_18 hl (by decide) rfl (fun ls hl => ?_)
        refine lv_lload hx hb dX6_lowest_20 (lv_at hl 5 rfl) ?_
        refine lv_lstore (lv' := [(5, .long v7), (9, .long (v5 - v5 / v7 * v7)), (0, .long v0), (2, .long v2), (4, .int v4), (7, .long v7)]) hx hb dX6_lowest_22 hl (by decide) rfl (fun ls hl => ?_)
        refine lv_lload hx hb dX6_lowest_24 (lv_at hl 1 rfl) ?_
        refine lv_lstore (lv' := [(7, .long (v5 - v5 / v7 * v7)), (5, .long v7), (9, .long (v5 - v5 / v7 * v7)), (0, .long v0), (2, .long v2), (4, .int v4)]) hx hb dX6_lowest_26 hl (by decide) rfl (fun ls hl => ?_)
        refine lv_goto (tgt := 6) hx hb dX6_lowest_28 (by decide) ?_
        exact ih.1 _ _ _ _ _ _ _ _ _ hw hP hS (lv_sub hl [3, 4, 5, 1, 0] rfl)
    · intro v5 s0 M H locs ls hw hP hS hl
      have hw : f_X6_lowest_41 Q (p_X6_lowest Q n) v5 s0 M := hw
      delta f_X6_lowest_41 at hw
      refine lv_lload hx hb dX6_lowest_41 (lv_at hl 0 rfl) ?_
      have hz_2 := hw.1
      have hw := hw.2
      refine lv_ldiv hx hb dX6_lowest_43 hz_2 ?_
      exact r_l C hP hS hw dX6_lowest_44
theorem dsX6_lowest : yX6_lowest.cls ≠ "java/lang/invoke/MethodHandle" ∧ yX6_lowest.cls ≠ "java/lang/invoke/VarHandle" ∧ (parseMethodDescriptor yX6_lowest.desc).map (fun d => d.parameters.length) = some 3 := by decide +kernel
set_option maxRecDepth 100000 in
set_option maxHeartbeats 4000000 in
theorem c_X6_lowest {l : Launch} {K : wC} {v0 : Int64} {v2 : Int64} {v4 : Int32} {M : Mem} {Q : Int64 → Mem → Prop} (hw : q_X6_lowest v0 v2 v4 M Q) : metL l yX6_lowest wsX6_lowest rmX6_lowest shM 12 K [.long v0, .long v2, .int v4] M Q := by
  refine met_of (cc := cX6_lowest) (maxL := 11) (ret := (some .long)) (own := RX6) (by decide) rfl rfl (Nat.le_of_ble_eq_true rfl) ?_
  intro p e s m below meth c ls C hl hP hS
  have hl : lv_has ls 11 [(0, .long v0), (2, .long v2), (4, .int v4)] := hl
  obtain ⟨hx, hb, hml, hown, hts, hr, hlk, hK⟩ := id C
  have hP0 := hP
  obtain ⟨n, hw⟩ := hw
  have ih := b_X6_lowest (l := l) (e := e) (below := below) (Q := Q) C n
  delta e_X6_lowest at hw
  refine lv_lload_n hx hb dX6_lowest_0 rfl (lv_at hl 0 rfl) ?_
  refine lv_lstore (lv' := [(5, .long v0), (0, .long v0), (2, .long v2), (4, .int v4)]) hx hb dX6_lowest_1 hl (by decide) rfl (fun ls hl => ?_)
  refine lv_lload_n hx hb dX6_lowest_3 rfl (lv_at hl 2 rfl) ?_
  refine lv_lstore (lv' := [(7, .long v2), (5, .long v0), (0, .long v0), (2, .long v2), (4, .int v4)]) hx hb dX6_lowest_4 hl (by decide) rfl (fun ls hl => ?_)
  exact ih.1 _ _ _ _ _ _ _ _ _ hw hP hS (lv_sub hl [2, 3, 4, 1, 0] rfl)

theorem kX6_byMisses_c216 : Cond.constantLong RX6 216 (10) ∈ wsX6_byMisses := List.mem_of_getElem? (i := 1) rfl
theorem kX6_byMisses_f7 : Cond.fieldLink RX6 7 (TX6 0).1 (TX6 0).2.1 (TX6 0).2.2.1 ∈ wsX6_byMisses := List.mem_of_getElem? (i := 2) rfl
theorem hX6_byMisses_X6 : ∀ w ∈ u_ws RX6 TX6 26, w ∈ wsX6_byMisses := fun _ h => List.mem_cons_of_mem _ (List.mem_append_right _ (h))
theorem kX6_byMisses_c168 : Cond.constant RX6 168 (20000000) ∈ wsX6_byMisses := List.mem_of_getElem? (i := 3) rfl
abbrev rmX6_byMisses : Room := { frames := 5, cells := 0, slots := 0, locals := 117 }
abbrev t_X6_byMisses : Type := (Int32 → Int32 → Int32 → Int32 → Int32 → Int64 → Int64 → Int32 → Mem → Prop) × (Int32 → Int32 → Int32 → Int32 → Int32 → Int64 → Int64 → Int32 → Mem → Prop) × (Int32 → Int32 → Int32 → Int32 → Int32 → Int64 → Int64 → Int32 → Int64 → Int32 → Mem → Prop) × (Int32 → Int32 → Int32 → Int32 → Int32 → Int64 → Int64 → Int32 → Int64 → Int32 → Int32 → Mem → Prop) × (Int32 → Int32 → Int32 → Int32 → Int32 → Int64 → Int64 → Int32 → Int32 → Int32 → Int64 → Int64 → Mem → Prop) × (Int32 → Int32 → Int32 → Int32 → Int32 → Int64 → Int32 → Int32 → Int64 → Int64 → Mem → Prop)
def f_X6_byMisses_9 (Q : Int64 → Mem → Prop) (r : t_X6_byMisses) (v1 : Int32) (v2 : Int32) (v3 : Int32) (v4 : Int32) (v5 : Int32) (v6 : Int64) (v8 : Int64) (v10 : Int32) (M : Mem) : Prop := ((v4 ≤ v10 → r.2.1 v1 v2 v3 v4 v5 v6 v8 (0 : Int32) M) ∧ (¬ v4 ≤ v10 → r.1 v1 v2 v3 v4 v5 v6 (v8 * (10 : Int64)) (v10 + 1) M))
def f_X6_byMisses_33 (Q : Int64 → Mem → Prop) (r : t_X6_byMisses) (v1 : Int32) (v2 : Int32) (v3 : Int32) (v4 : Int32) (v5 : Int32) (v6 : Int64) (v8 : Int64) (v10 : Int32) (M : Mem) : Prop := ((((1 : Int32) <<< (v4 &&& 31)) ≤ v10 → q_X6_lowest v6 v8 v5 M (fun r_2 M_1 => Q r_2 M_1)) ∧ (¬ ((1 : Int32) <<< (v4 &&& 31)) ≤ v10 → q_X6_edgesGo (0 : Int32) M (fun M_3 => r.2.2.1 v1 v2 v3 v4 v5 v6 v8 v10 (1 : Int64) (0 : Int32) M_3)))
def f_X6_byMisses_53 (Q : Int64 → Mem → Prop) (r : t_X6_byMisses) (v1 : Int32) (v2 : Int32) (v3 : Int32) (v4 : Int32) (v5 : Int32) (v6 : Int64) (v8 : Int64) (v10 : Int32) (v11 : Int64) (v13 : Int32) (M : Mem) : Prop := ((v4 ≤ v13 → vp_in ((179 : Int32) + v2) 222 ∧ (∀ x_5 : Int32, x_5 = (M 1 ((179 : Int32) + v2).toNatClampNeg) → ((¬ v3 = (-4 : Int32) → ((x_5 < (v3 - (20000000 : Int32)) → r.2.2.2.2.2 v1 v2 v3 v4 v5 v8 v10 (0 : Int32) v11 v6 M) ∧ (¬ x_5 < (v3 - (20000000 : Int32)) → r.2.2.2.2.2 v1 v2 v3 v4 v5 v8 v10 (1 : Int32) v11 v6 M))) ∧ (v3 = (-4 : Int32) → q_X6_amount x_5 M (fun r_7 M_6 => r.2.2.2.2.2 v1 v2 v3 v4 v5 v8 v10 r_7 v11 v6 M_6))))) ∧ (¬ v4 ≤ v13 → ((¬ ((v10 >>> (v13 &&& 31)) &&& (1 : Int32)) = (1 : Int32) → r.2.2.2.1 v1 v2 v3 v4 v5 v6 v8 v10 v11 v13 (0 : Int32) M) ∧ (((v10 >>> (v13 &&& 31)) &&& (1 : Int32)) = (1 : Int32) → r.2.2.2.1 v1 v2 v3 v4 v5 v6 v8 v10 v11 v13 (1 : Int32) M))))
def f_X6_byMisses_76 (Q : Int64 → Mem → Prop) (r : t_X6_byMisses) (v1 : Int32) (v2 : Int32) (v3 : Int32) (v4 : Int32) (v5 : Int32) (v6 : Int64) (v8 : Int64) (v10 : Int32) (v11 : Int64) (v13 : Int32) (s0 : Int32) (M : Mem) : Prop := ((s0 = 0 → r.2.2.2.2.1 v1 v2 v3 v4 v5 v6 v8 v10 v13 s0 ((10 : Int32) - v1).toInt64 v11 M) ∧ (¬ s0 = 0 → r.2.2.2.2.1 v1 v2 v3 v4 v5 v6 v8 v10 v13 s0 v1.toInt64 v11 M))
def f_X6_byMisses_95 (Q : Int64 → Mem → Prop) (r : t_X6_byMisses) (v1 : Int32) (v2 : Int32) (v3 : Int32) (v4 : Int32) (v5 : Int32) (v6 : Int64) (v8 : Int64) (v10 : Int32) (v13 : Int32) (v14 : Int32) (s0 : Int64) (s1 : Int64) (M : Mem) : Prop := q_X6_tracesOn (148 : Int32) v14 M (fun M_8 => r.2.2.1 v1 v2 v3 v4 v5 v6 v8 v10 (s1 * s0) (v13 + 1) M_8)
def f_X6_byMisses_157 (Q : Int64 → Mem → Prop) (r : t_X6_byMisses) (v1 : Int32) (v2 : Int32) (v3 : Int32) (v4 : Int32) (v5 : Int32) (v8 : Int64) (v10 : Int32) (s0 : Int32) (s1 : Int64) (s2 : Int64) (M : Mem) : Prop := r.2.1 v1 v2 v3 v4 v5 (s2 + (s1 * s0.toInt64)) v8 (v10 + 1) M
def p_X6_byMisses (Q : Int64 → Mem → Prop) : Nat → t_X6_byMisses
  | 0 => (fun _ _ _ _ _ _ _ _ _ => False, fun _ _ _ _ _ _ _ _ _ => False, fun _ _ _ _ _ _ _ _ _ _ _ => False, fun _ _ _ _ _ _ _ _ _ _ _ _ => False, fun _ _ _ _ _ _ _ _ _ _ _ _ _ => False, fun _ _ _ _ _ _ _ _ _ _ _ => False)
  | n + 1 => (f_X6_byMisses_9 Q (p_X6_byMisses Q n), f_X6_byMisses_33 Q (p_X6_byMisses Q n), f_X6_byMisses_53 Q (p_X6_byMisses Q n), f_X6_byMisses_76 Q (p_X6_byMisses Q n), f_X6_byMisses_95 Q (p_X6_byMisses Q n), f_X6_byMisses_157 Q (p_X6_byMisses Q n))
def e_X6_byMisses (v1 : Int32) (v2 : Int32) (v3 : Int32) (v4 : Int32) (v5 : Int32) (Q : Int64 → Mem → Prop) (r : t_X6_byMisses) (M : Mem) : Prop := r.1 v1 v2 v3 v4 v5 (0 : Int64) (1 : Int64) (0 : Int32) M
def q_X6_byMisses (v1 : Int32) (v2 : Int32) (v3 : Int32) (v4 : Int32) (v5 : Int32) (M : Mem) (Q : Int64 → Mem → Prop) : Prop := ∃ n : Nat, e_X6_byMisses v1 v2 v3 v4 v5 Q (p_X6_byMisses Q n) M
set_option maxRecDepth 100000 in
set_option maxHeartbeats 4000000 in
theorem b_X6_byMisses {l : Launch} {K : wC} {Q : Int64 → Mem → Prop} {p : Program} {e : Env} {s : State} {m : MethodId} {args : Array Value} {below : List Frame} {meth : Method} {c : Code} (C : cx 12 K p s m args meth c cX6_byMisses 15 wsX6_byMisses RX6 (some .long)) : ∀ n : Nat, (∀ (v1 : Int32) (v2 : Int32) (v3 : Int32) (v4 : Int32) (v5 : Int32) (v6 : Int64) (v8 : Int64) (v10 : Int32) (M : Mem) (H : Heap) (locs : List Loc) (ls : Array Slot), (p_X6_byMisses Q n).1 v1 v2 v3 v4 v5 v6 v8 v10 M → wP shM 12 K M H → va_S (wA 12 K) s.heap H locs → lv_has ls 15 [(0, .ref (kb K + 0)), (1, .int v1), (2, .int v2), (3, .int v3), (4, .int v4), (5, .int v5), (6, .long v6), (8, .long v8), (10, .int v10)] → W p l e rmX6_byMisses s m args below meth c H locs 0 0 (MQ below (va_Ql Q (wE shM 12 K) (wA 12 K)) args s 0 0 (wA 12 K)) (F0 m 9 ls [])) ∧ (∀ (v1 : Int32) (v2 : Int32) (v3 : Int32) (v4 : Int32) (v5 : Int32) (v6 : Int64) (v8 : Int64) (v10 : Int32) (M : Mem) (H : Heap) (locs : List Loc) (ls : Array Slot), (p_X6_byMisses Q n).2.1 v1 v2 v3 v4 v5 v6 v8 v10 M → wP shM 12 K M H → va_S (wA 12 K) s.heap H locs → lv_has ls 15 [(0, .ref (kb K + 0)), (1, .int v1), (2, .int v2), (3, .int v3), (4, .int v4), (5, .int v5), (6, .long v6), (8, .long v8), (10, .int v10)] → W p l e rmX6_byMisses s m args below meth c H locs 0 0 (MQ below (va_Ql Q (wE shM 12 K) (wA 12 K)) args s 0 0 (wA 12 K)) (F0 m 33 ls [])) ∧ (∀ (v1 : Int32) (v2 : Int32) (v3 : Int32) (v4 : Int32) (v5 : Int32) (v6 : Int64) (v8 : Int64) (v10 : Int32) (v11 : Int64) (v13 : Int32) (M : Mem) (H : Heap) (locs : List Loc) (ls : Array Slot), (p_X6_byMisses Q n).2.2.1 v1 v2 v3 v4 v5 v6 v8 v10 v11 v13 M → wP shM 12 K M H → va_S (wA 12 K) s.heap H locs → lv_has ls 15 [(0, .ref (kb K + 0)), (1, .int v1), (2, .int v2), (3, .int v3), (4, .int v4), (5, .int v5), (6, .long v6), (8, .long v8), (10, .int v10), (11, .long v11), (13, .int v13)] → W p l e rmX6_byMisses s m args below meth c H locs 0 0 (MQ below (va_Ql Q (wE shM 12 K) (wA 12 K)) args s 0 0 (wA 12 K)) (F0 m 53 ls [])) ∧ (∀ (v1 : Int32) (v2 : Int32) (v3 : Int32) (v4 : Int32) (v5 : Int32) (v6 : Int64) (v8 : Int64) (v10 : Int32) (v11 : Int64) (v13 : Int32) (s0 : Int32) (M : Mem) (H : Heap) (locs : List Loc) (ls : Array Slot), (p_X6_byMisses Q n).2.2.2.1 v1 v2 v3 v4 v5 v6 v8 v10 v11 v13 s0 M → wP shM 12 K M H → va_S (wA 12 K) s.heap H locs → lv_has ls 15 [(0, .ref (kb K + 0)), (1, .int v1), (2, .int v2), (3, .int v3), (4, .int v4), (5, .int v5), (6, .long v6), (8, .long v8), (10, .int v10), (11, .long v11), (13, .int v13)] → W p l e rmX6_byMisses s m args below meth c H locs 0 0 (MQ below (va_Ql Q (wE shM 12 K) (wA 12 K)) args s 0 0 (wA 12 K)) (F0 m 76 ls [.int s0])) ∧ (∀ (v1 : Int32) (v2 : Int32) (v3 : Int32) (v4 : Int32) (v5 : Int32) (v6 : Int64) (v8 : Int64) (v10 : Int32) (v13 : Int32) (v14 : Int32) (s0 : Int64) (s1 : Int64) (M : Mem) (H : Heap) (locs : List Loc) (ls : Array Slot), (p_X6_byMisses Q n).2.2.2.2.1 v1 v2 v3 v4 v5 v6 v8 v10 v13 v14 s0 s1 M → wP shM 12 K M H → va_S (wA 12 K) s.heap H locs → lv_has ls 15 [(0, .ref (kb K + 0)), (1, .int v1), (2, .int v2), (3, .int v3), (4, .int v4), (5, .int v5), (6, .long v6), (8, .long v8), (10, .int v10), (13, .int v13), (14, .int v14)] → W p l e rmX6_byMisses s m args below meth c H locs 0 0 (MQ below (va_Ql Q (wE shM 12 K) (wA 12 K)) args s 0 0 (wA 12 K)) (F0 m 95 ls [.long s0, .long s1])) ∧ (∀ (v1 : Int32) (v2 : Int32) (v3 : Int32) (v4 : Int32) (v5 : Int32) (v8 : Int64) (v10 : Int32) (s0 : Int32) (s1 : Int64) (s2 : Int64) (M : Mem) (H : Heap) (locs : List Loc) (ls : Array Slot), (p_X6_byMisses Q n).2.2.2.2.2 v1 v2 v3 v4 v5 v8 v10 s0 s1 s2 M → wP shM 12 K M H → va_S (wA 12 K) s.heap H locs → lv_has ls 15 [(0, .ref (kb K + 0)), (1, .int v1), (2, .int v2), (3, .int v3), (4, .int v4), (5, .int v5), (8, .long v8), (10, .int v10)] → W p l e rmX6_byMisses s m args below meth c H locs 0 0 (MQ below (va_Ql Q (wE shM 12 K) (wA 12 K)) args s 0 0 (wA 12 K)) (F0 m 157 ls [.int s0, .long s1, .long s2])) := by
  obtain ⟨hx, hb, hml, hown, hts, hr, hlk, hK⟩ := id C
  intro n
  induction n with
  | zero => exact ⟨fun _ _ _ _ _ _ _ _ _ _ _ _ hw _ _ _ => False.elim hw, fun _ _ _ _ _ _ _ _ _ _ _ _ hw _ _ _ => False.elim hw, fun _ _ _ _ _ _ _ _ _ _ _ _ _ _ hw _ _ _ => False.elim hw, fun _ _ _ _ _ _ _ _ _ _ _ _ _ _ _ hw _ _ _ => False.elim hw, fun _ _ _ _ _ _ _ _ _ _ _ _ _ _ _ _ hw _ _ _ => False.elim hw, fun _ _ _ _ _ _ _ _ _ _ _ _ _ _ hw _ _ _ => False.elim hw⟩
  | succ n ih =>
    refine ⟨?_, ?_, ?_, ?_, ?_, ?_⟩
    · intro v1 v2 v3 v4 v5 v6 v8 v10 M H locs ls hw hP hS hl
      have hw : f_X6_byMisses_9 Q (p_X6_byMisses Q n) v1 v2 v3 v4 v5 v6 v8 v10 M := hw
      delta f_X6_byMisses_9 at hw
      refine lv_iload hx hb dX6_byMisses_9 (lv_at hl 8 rfl) ?_
      refine lv_iload hx hb dX6_byMisses_11 (lv_at hl 4 rfl) ?_
      refine lv_icmp_ge (tgt := 30) hx hb dX6_byMisses_13 (by decide) (fun hc => ?_) (fun hc => ?_)
      · have hw := hw.1 hc
        refine lv_iconst hx hb dX6_byMisses_30 ic_0 ?_
        refine lv_istore (lv' := [(10, .int (0 : Int32)), (0, .ref (kb K + 0)), (1, .int v1), (2, .int v2), (3, .int v3), (4, .int v4), (5, .int v5), (6, .long v6), (8, .long v8)]) hx hb dX6_byMisses_31 hl (by decide) rfl (fun ls hl => ?_)
        exact ih.2.1 _ _ _ _ _ _ _ _ _ _ _ _ hw hP hS (lv_sub hl [1, 2, 3, 4, 5, 6, 7, 8, 0] rfl)
      · have hw := hw.2 hc
        refine lv_lload hx hb dX6_byMisses_16 (lv_at hl 7 rfl) ?_
        refine lv_ldc2 hx hb hown (hts _ kX6_byMisses_c216) dX6_byMisses_18 ?_
        refine lv_lmul hx hb dX6_byMisses_21 ?_
        refine lv_lstore (lv' := [(8, .long (v8 * (10 : Int64))), (0, .ref (kb K + 0)), (1, .int v1), (2, .int v2), (3, .int v3), (4, .int v4), (5, .int v5), (6, .long v6), (10, .int v10)]) hx hb dX6_byMisses_22 hl (by decide) rfl (fun ls hl => ?_)
        refine lv_iinc (v := (v10 + 1)) (lv' := [(10, .int (v10 + 1)), (8, .long (v8 * (10 : Int64))), (0, .ref (kb K + 0)), (1, .int v1), (2, .int v2), (3, .int v3), (4, .int v4), (5, .int v5), (6, .long v6)]) hx hb dX6_byMisses_24 hl (k := 8) rfl (by rw [ic_1]) (by decide) rfl (fun ls hl => ?_)
        refine lv_goto (tgt := 9) hx hb dX6_byMisses_27 (by decide) ?_
        exact ih.1 _ _ _ _ _ _ _ _ _ _ _ _ hw hP hS (lv_sub hl [2, 3, 4, 5, 6, 7, 8, 1, 0] rfl)
    · intro v1 v2 v3 v4 v5 v6 v8 v10 M H locs ls hw hP hS hl
      have hw : f_X6_byMisses_33 Q (p_X6_byMisses Q n) v1 v2 v3 v4 v5 v6 v8 v10 M := hw
      delta f_X6_byMisses_33 at hw
      refine lv_iload hx hb dX6_byMisses_33 (lv_at hl 8 rfl) ?_
      refine lv_iconst hx hb dX6_byMisses_35 ic_1 ?_
      refine lv_iload hx hb dX6_byMisses_36 (lv_at hl 4 rfl) ?_
      refine lv_ishl hx hb dX6_byMisses_38 ?_
      refine lv_icmp_ge (tgt := 168) hx hb dX6_byMisses_39 (by decide) (fun hc => ?_) (fun hc => ?_)
      · have hw := hw.1 hc
        refine lv_lload hx hb dX6_byMisses_168 (lv_at hl 6 rfl) ?_
        refine lv_lload hx hb dX6_byMisses_170 (lv_at hl 7 rfl) ?_
        refine lv_iload hx hb dX6_byMisses_172 (lv_at hl 5 rfl) ?_
        refine c_l (run_s (As := [.long v6, .long v8, .int v5]) (rest := []) C hP hS (c_X6_lowest hw) gX6_byMisses_X6_lowest rfl dsX6_lowest rfl ⟨rfl, rfl⟩ ⟨Nat.le_of_ble_eq_true rfl, Nat.le_of_ble_eq_true rfl⟩ hl.1 rfl (Nat.le_of_ble_eq_true rfl) dX6_byMisses_174 ⟨Nat.le_of_ble_eq_true rfl, Nat.le_of_ble_eq_true rfl⟩) hS (fun r_2 M_1 H locs hw hP hS => ?_)
        exact r_l C hP hS hw dX6_byMisses_177
      · have hw := hw.2 hc
        refine lv_lconst hx hb dX6_byMisses_42 lc_1 ?_
        refine lv_lstore (lv' := [(11, .long (1 : Int64)), (0, .ref (kb K + 0)), (1, .int v1), (2, .int v2), (3, .int v3), (4, .int v4), (5, .int v5), (6, .long v6), (8, .long v8), (10, .int v10)]) hx hb dX6_byMisses_43 hl (by decide) rfl (fun ls hl => ?_)
        refine lv_aload_n hx hb dX6_byMisses_45 rfl (lv_at hl 1 rfl) ?_
        refine lv_iconst hx hb dX6_byMisses_46 ic_0 ?_
        refine c_v (run_v (As := [.int (0 : Int32)]) (rest := []) C hP hS (c_X6_edgesGo hw) gX6_byMisses_X6_edgesGo rfl dsX6_edgesGo rfl ⟨rfl, rfl⟩ ⟨Nat.le_of_ble_eq_true rfl, Nat.le_of_ble_eq_true rfl⟩ (by decide) (sM_0 K _) rfl hl.1 rfl (Nat.le_of_ble_eq_true rfl) dX6_byMisses_47 ⟨Nat.le_of_ble_eq_true rfl, Nat.le_of_ble_eq_true rfl⟩) hS (fun M_3 H locs hw hP hS => ?_)
        refine lv_iconst hx hb dX6_byMisses_50 ic_0 ?_
        refine lv_istore (lv' := [(13, .int (0 : Int32)), (11, .long (1 : Int64)), (0, .ref (kb K + 0)), (1, .int v1), (2, .int v2), (3, .int v3), (4, .int v4), (5, .int v5), (6, .long v6), (8, .long v8), (10, .int v10)]) hx hb dX6_byMisses_51 hl (by decide) rfl (fun ls hl => ?_)
        exact ih.2.2.1 _ _ _ _ _ _ _ _ _ _ _ _ _ _ hw hP hS (lv_sub hl [2, 3, 4, 5, 6, 7, 8, 9, 10, 1, 0] rfl)
    · intro v1 v2 v3 v4 v5 v6 v8 v10 v11 v13 M H locs ls hw hP hS hl
      have hw : f_X6_byMisses_53 Q (p_X6_byMisses Q n) v1 v2 v3 v4 v5 v6 v8 v10 v11 v13 M := hw
      delta f_X6_byMisses_53 at hw
      refine lv_iload hx hb dX6_byMisses_53 (lv_at hl 10 rfl) ?_
      refine lv_iload hx hb dX6_byMisses_55 (lv_at hl 4 rfl) ?_
      refine lv_icmp_ge (tgt := 113) hx hb dX6_byMisses_57 (by decide) (fun hc => ?_) (fun hc => ?_)
      · have hw := hw.1 hc
        refine lv_aload_n hx hb dX6_byMisses_113 rfl (lv_at hl 0 rfl) ?_
        refine g_f C hP (by decide) (sM_0 K _) rfl hX6_byMisses_X6 0 (by decide) kX6_byMisses_f7 rfl dX6_byMisses_114 ?_
        refine lv_sipush hx hb dX6_byMisses_117 sp_179 ?_
        refine lv_iload_n hx hb dX6_byMisses_120 rfl (lv_at hl 2 rfl) ?_
        refine lv_iadd hx hb dX6_byMisses_121 ?_
        have hi_4 := hw.1
        have hw := hw.2
        refine a_il C hP (by decide) (sM_1 K _) hi_4 rfl dX6_byMisses_122 ?_
        refine lv_topi (fun x_5 ex_5 => ?_)
        have hw := hw x_5 ex_5
        refine lv_istore (lv' := [(13, .int x_5), (0, .ref (kb K + 0)), (1, .int v1), (2, .int v2), (3, .int v3), (4, .int v4), (5, .int v5), (6, .long v6), (8, .long v8), (10, .int v10), (11, .long v11)]) hx hb dX6_byMisses_123 hl (by decide) rfl (fun ls hl => ?_)
        refine lv_lload hx hb dX6_byMisses_125 (lv_at hl 7 rfl) ?_
        refine lv_lload hx hb dX6_byMisses_127 (lv_at hl 10 rfl) ?_
        refine lv_iload_n hx hb dX6_byMisses_129 rfl (lv_at hl 4 rfl) ?_
        refine lv_bipush hx hb dX6_byMisses_130 bp_m4 ?_
        refine lv_icmp_ne (tgt := 143) hx hb dX6_byMisses_132 (by decide) (fun hc => ?_) (fun hc => ?_)
        · have hw := hw.1 hc
          refine lv_iload hx hb dX6_byMisses_143 (lv_at hl 0 rfl) ?_
          refine lv_iload_n hx hb dX6_byMisses_145 rfl (lv_at hl 4 rfl) ?_
          refine lv_ldc hx hb hown (hts _ kX6_byMisses_c168) dX6_byMisses_146 ?_
          refine lv_isub hx hb dX6_byMisses_148 ?_
          refine lv_icmp_lt (tgt := 156) hx hb dX6_byMisses_149 (by decide) (fun hc => ?_) (fun hc => ?_)
          · have hw := hw.1 hc
            refine lv_iconst hx hb dX6_byMisses_156 ic_0 ?_
            exact ih.2.2.2.2.2 _ _ _ _ _ _ _ _ _ _ _ _ _ _ hw hP hS (lv_sub hl [1, 2, 3, 4, 5, 6, 8, 9] rfl)
          · have hw := hw.2 hc
            refine lv_iconst hx hb dX6_byMisses_152 ic_1 ?_
            refine lv_goto (tgt := 157) hx hb dX6_byMisses_153 (by decide) ?_
            exact ih.2.2.2.2.2 _ _ _ _ _ _ _ _ _ _ _ _ _ _ hw hP hS (lv_sub hl [1, 2, 3, 4, 5, 6, 8, 9] rfl)
        · have hw := hw.2 hc
          refine lv_iload hx hb dX6_byMisses_135 (lv_at hl 0 rfl) ?_
          refine c_i (run_s (As := [.int x_5]) (rest := [.long v11, .long v6]) C hP hS (c_X6_amount hw) gX6_byMisses_X6_amount rfl dsX6_amount rfl ⟨rfl, rfl⟩ ⟨Nat.le_of_ble_eq_true rfl, Nat.le_of_ble_eq_true rfl⟩ hl.1 rfl (Nat.le_of_ble_eq_true rfl) dX6_byMisses_137 ⟨Nat.le_of_ble_eq_true rfl, Nat.le_of_ble_eq_true rfl⟩) hS (fun r_7 M_6 H locs hw hP hS => ?_)
          refine lv_goto (tgt := 157) hx hb dX6_byMisses_140 (by decide) ?_
          exact ih.2.2.2.2.2 _ _ _ _ _ _ _ _ _ _ _ _ _ _ hw hP hS (lv_sub hl [1, 2, 3, 4, 5, 6, 8, 9] rfl)
      · have hw := hw.2 hc
        refine lv_iload hx hb dX6_byMisses_60 (lv_at hl 8 rfl) ?_
        refine lv_iload hx hb dX6_byMisses_62 (lv_at hl 10 rfl) ?_
        refine lv_ishr hx hb dX6_byMisses_64 ?_
        refine lv_iconst hx hb dX6_byMisses_65 ic_1 ?_
        refine lv_iand hx hb dX6_byMisses_66 ?_
        refine lv_iconst hx hb dX6_byMisses_67 ic_1 ?_
        refine lv_icmp_ne (tgt := 75) hx hb dX6_byMisses_68 (by decide) (fun hc => ?_) (fun hc => ?_)
        · have hw := hw.1 hc
          refine lv_iconst hx hb dX6_byMisses_75 ic_0 ?_
          exact ih.2.2.2.1 _ _ _ _ _ _ _ _ _ _ _ _ _ _ _ hw hP hS (lv_sub hl [0, 1, 2, 3, 4, 5, 6, 7, 8, 9, 10] rfl)
        · have hw := hw.2 hc
          refine lv_iconst hx hb dX6_byMisses_71 ic_1 ?_
          refine lv_goto (tgt := 76) hx hb dX6_byMisses_72 (by decide) ?_
          exact ih.2.2.2.1 _ _ _ _ _ _ _ _ _ _ _ _ _ _ _ hw hP hS (lv_sub hl [0, 1, 2, 3, 4, 5, 6, 7, 8, 9, 10] rfl)
    · intro v1 v2 v3 v4 v5 v6 v8 v10 v11 v13 s0 M H locs ls hw hP hS hl
      have hw : f_X6_byMisses_76 Q (p_X6_byMisses Q n) v1 v2 v3 v4 v5 v6 v8 v10 v11 v13 s0 M := hw
      delta f_X6_byMisses_76 at hw
      refine lv_istore (lv' := [(14, .int s0), (0, .ref (kb K + 0)), (1, .int v1), (2, .int v2), (3, .int v3), (4, .int v4), (5, .int v5), (6, .long v6), (8, .long v8), (10, .int v10), (11, .long v11), (13, .int v13)]) hx hb dX6_byMisses_76 hl (by decide) rfl (fun ls hl => ?_)
      refine lv_lload hx hb dX6_byMisses_78 (lv_at hl 10 rfl) ?_
      refine lv_iload hx hb dX6_byMisses_80 (lv_at hl 0 rfl) ?_
      refine lv_if_eq (tgt := 90) hx hb dX6_byMisses_82 (by decide) (fun hc => ?_) (fun hc => ?_)
      · have hw := hw.1 hc
        refine lv_bipush hx hb dX6_byMisses_90 bp_10 ?_
        refine lv_iload_n hx hb dX6_byMisses_92 rfl (lv_at hl 2 rfl) ?_
        refine lv_isub hx hb dX6_byMisses_93 ?_
        refine lv_i2l hx hb dX6_byMisses_94 rfl ?_
        exact ih.2.2.2.2.1 _ _ _ _ _ _ _ _ _ _ _ _ _ _ _ _ hw hP hS (lv_sub hl [1, 2, 3, 4, 5, 6, 7, 8, 9, 11, 0] rfl)
      · have hw := hw.2 hc
        refine lv_iload_n hx hb dX6_byMisses_85 rfl (lv_at hl 2 rfl) ?_
        refine lv_i2l hx hb dX6_byMisses_86 rfl ?_
        refine lv_goto (tgt := 95) hx hb dX6_byMisses_87 (by decide) ?_
        exact ih.2.2.2.2.1 _ _ _ _ _ _ _ _ _ _ _ _ _ _ _ _ hw hP hS (lv_sub hl [1, 2, 3, 4, 5, 6, 7, 8, 9, 11, 0] rfl)
    · intro v1 v2 v3 v4 v5 v6 v8 v10 v13 v14 s0 s1 M H locs ls hw hP hS hl
      have hw : f_X6_byMisses_95 Q (p_X6_byMisses Q n) v1 v2 v3 v4 v5 v6 v8 v10 v13 v14 s0 s1 M := hw
      delta f_X6_byMisses_95 at hw
      refine lv_lmul hx hb dX6_byMisses_95 ?_
      refine lv_lstore (lv' := [(11, .long (s1 * s0)), (0, .ref (kb K + 0)), (1, .int v1), (2, .int v2), (3, .int v3), (4, .int v4), (5, .int v5), (6, .long v6), (8, .long v8), (10, .int v10), (13, .int v13), (14, .int v14)]) hx hb dX6_byMisses_96 hl (by decide) rfl (fun ls hl => ?_)
      refine lv_aload_n hx hb dX6_byMisses_98 rfl (lv_at hl 1 rfl) ?_
      refine lv_sipush hx hb dX6_byMisses_99 sp_148 ?_
      refine lv_iload hx hb dX6_byMisses_102 (lv_at hl 11 rfl) ?_
      refine c_v (run_v (As := [.int (148 : Int32), .int v14]) (rest := []) C hP hS (c_X6_tracesOn hw) gX6_byMisses_X6_tracesOn rfl dsX6_tracesOn rfl ⟨rfl, rfl⟩ ⟨Nat.le_of_ble_eq_true rfl, Nat.le_of_ble_eq_true rfl⟩ (by decide) (sM_0 K _) rfl hl.1 rfl (Nat.le_of_ble_eq_true rfl) dX6_byMisses_104 ⟨Nat.le_of_ble_eq_true rfl, Nat.le_of_ble_eq_true rfl⟩) hS (fun M_8 H locs hw hP hS => ?_)
      refine lv_iinc (v := (v13 + 1)) (lv' := [(13, .int (v13 + 1)), (11, .long (s1 * s0)), (0, .ref (kb K + 0)), (1, .int v1), (2, .int v2), (3, .int v3), (4, .int v4), (5, .int v5), (6, .long v6), (8, .long v8), (10, .int v10), (14, .int v14)]) hx hb dX6_byMisses_107 hl (k := 10) rfl (by rw [ic_1]) (by decide) rfl (fun ls hl => ?_)
      refine lv_goto (tgt := 53) hx hb dX6_byMisses_110 (by decide) ?_
      exact ih.2.2.1 _ _ _ _ _ _ _ _ _ _ _ _ _ _ hw hP hS (lv_sub hl [2, 3, 4, 5, 6, 7, 8, 9, 10, 1, 0] rfl)
    · intro v1 v2 v3 v4 v5 v8 v10 s0 s1 s2 M H locs ls hw hP hS hl
      have hw : f_X6_byMisses_157 Q (p_X6_byMisses Q n) v1 v2 v3 v4 v5 v8 v10 s0 s1 s2 M := hw
      delta f_X6_byMisses_157 at hw
      refine lv_i2l hx hb dX6_byMisses_157 rfl ?_
      refine lv_lmul hx hb dX6_byMisses_158 ?_
      refine lv_ladd hx hb dX6_byMisses_159 ?_
      refine lv_lstore (lv' := [(6, .long (s2 + (s1 * s0.toInt64))), (0, .ref (kb K + 0)), (1, .int v1), (2, .int v2), (3, .int v3), (4, .int v4), (5, .int v5), (8, .long v8), (10, .int v10)]) hx hb dX6_byMisses_160 hl (by decide) rfl (fun ls hl => ?_)
      refine lv_iinc (v := (v10 + 1)) (lv' := [(10, .int (v10 + 1)), (6, .long (s2 + (s1 * s0.toInt64))), (0, .ref (kb K + 0)), (1, .int v1), (2, .int v2), (3, .int v3), (4, .int v4), (5, .int v5), (8, .long v8)]) hx hb dX6_byMisses_162 hl (k := 8) rfl (by rw [ic_1]) (by decide) rfl (fun ls hl => ?_)
      refine lv_goto (tgt := 33) hx hb dX6_byMisses_165 (by decide) ?_
      exact ih.2.1 _ _ _ _ _ _ _ _ _ _ _ _ hw hP hS (lv_sub hl [2, 3, 4, 5, 6, 7, 1, 8, 0] rfl)
theorem dsX6_byMisses : yX6_byMisses.cls = RX6 ∧ yX6_byMisses.cls ≠ "java/lang/invoke/MethodHandle" ∧ yX6_byMisses.cls ≠ "java/lang/invoke/VarHandle" ∧ (parseMethodDescriptor yX6_byMisses.desc).map (fun d => d.parameters.length) = some 5 := by decide +kernel
set_option maxRecDepth 100000 in
set_option maxHeartbeats 4000000 in
theorem c_X6_byMisses {l : Launch} {K : wC} {v1 : Int32} {v2 : Int32} {v3 : Int32} {v4 : Int32} {v5 : Int32} {M : Mem} {Q : Int64 → Mem → Prop} (hw : q_X6_byMisses v1 v2 v3 v4 v5 M Q) : metL l yX6_byMisses wsX6_byMisses rmX6_byMisses shM 12 K [.ref (kb K + 0), .int v1, .int v2, .int v3, .int v4, .int v5] M Q := by
  refine met_of (cc := cX6_byMisses) (maxL := 15) (ret := (some .long)) (own := RX6) (by decide) rfl rfl (Nat.le_of_ble_eq_true rfl) ?_
  intro p e s m below meth c ls C hl hP hS
  have hl : lv_has ls 15 [(0, .ref (kb K + 0)), (1, .int v1), (2, .int v2), (3, .int v3), (4, .int v4), (5, .int v5)] := hl
  obtain ⟨hx, hb, hml, hown, hts, hr, hlk, hK⟩ := id C
  have hP0 := hP
  obtain ⟨n, hw⟩ := hw
  have ih := b_X6_byMisses (l := l) (e := e) (below := below) (Q := Q) C n
  delta e_X6_byMisses at hw
  refine lv_lconst hx hb dX6_byMisses_0 lc_0 ?_
  refine lv_lstore (lv' := [(6, .long (0 : Int64)), (0, .ref (kb K + 0)), (1, .int v1), (2, .int v2), (3, .int v3), (4, .int v4), (5, .int v5)]) hx hb dX6_byMisses_1 hl (by decide) rfl (fun ls hl => ?_)
  refine lv_lconst hx hb dX6_byMisses_3 lc_1 ?_
  refine lv_lstore (lv' := [(8, .long (1 : Int64)), (6, .long (0 : Int64)), (0, .ref (kb K + 0)), (1, .int v1), (2, .int v2), (3, .int v3), (4, .int v4), (5, .int v5)]) hx hb dX6_byMisses_4 hl (by decide) rfl (fun ls hl => ?_)
  refine lv_iconst hx hb dX6_byMisses_6 ic_0 ?_
  refine lv_istore (lv' := [(10, .int (0 : Int32)), (8, .long (1 : Int64)), (6, .long (0 : Int64)), (0, .ref (kb K + 0)), (1, .int v1), (2, .int v2), (3, .int v3), (4, .int v4), (5, .int v5)]) hx hb dX6_byMisses_7 hl (by decide) rfl (fun ls hl => ?_)
  exact ih.1 _ _ _ _ _ _ _ _ _ _ _ _ hw hP hS (lv_sub hl [3, 4, 5, 6, 7, 8, 2, 1, 0] rfl)

theorem kX6_luck_c216 : Cond.constantLong RX6 216 (10) ∈ wsX6_luck := List.mem_of_getElem? (i := 1) rfl
theorem kX6_luck_c222 : Cond.constantLong RX6 222 (8) ∈ wsX6_luck := List.mem_of_getElem? (i := 2) rfl
theorem kX6_luck_c228 : Cond.constantLong RX6 228 (-1) ∈ wsX6_luck := List.mem_of_getElem? (i := 3) rfl
abbrev rmX6_luck : Room := { frames := 6, cells := 0, slots := 0, locals := 151 }
def f_X6_luck_65 (Q : Int64 → Mem → Prop) (M : Mem) : Prop := Q (-1 : Int64) M
def q_X6_luck (v1 : Int32) (v2 : Int32) (v3 : Int32) (v4 : Int32) (v5 : Int32) (M : Mem) (Q : Int64 → Mem → Prop) : Prop := q_X6_in v1.toInt64 (0 : Int64) (10 : Int64) M (fun r_2 M_1 => ((r_2 = 0 → f_X6_luck_65 Q M_1) ∧ (¬ r_2 = 0 → q_X6_isWheel v2 M_1 (fun r_4 M_3 => ((r_4 = 0 → f_X6_luck_65 Q M_3) ∧ (¬ r_4 = 0 → q_X6_isReading v3 M_3 (fun r_6 M_5 => ((r_6 = 0 → f_X6_luck_65 Q M_5) ∧ (¬ r_6 = 0 → q_X6_in v4.toInt64 (0 : Int64) (8 : Int64) M_5 (fun r_8 M_7 => ((r_8 = 0 → f_X6_luck_65 Q M_7) ∧ (¬ r_8 = 0 → q_X6_in v5.toInt64 (0 : Int64) (1 : Int64) M_7 (fun r_10 M_9 => ((r_10 = 0 → f_X6_luck_65 Q M_9) ∧ (¬ r_10 = 0 → q_X6_byMisses v1 v2 v3 v4 v5 M_9 (fun r_12 M_11 => Q r_12 M_11))))))))))))))))
set_option maxRecDepth 100000 in
set_option maxHeartbeats 4000000 in
theorem b_X6_luck_65 {l : Launch} {K : wC} {Q : Int64 → Mem → Prop} {p : Program} {e : Env} {s : State} {m : MethodId} {args : Array Value} {below : List Frame} {meth : Method} {c : Code} (C : cx 12 K p s m args meth c cX6_luck 6 wsX6_luck RX6 (some .long)) (M : Mem) (H : Heap) (locs : List Loc) (ls : Array Slot) (hw : f_X6_luck_65 Q M) (hP : wP shM 12 K M H) (hS : va_S (wA 12 K) s.heap H locs) (hl : lv_has ls 6 []) : W p l e rmX6_luck s m args below meth c H locs 0 0 (MQ below (va_Ql Q (wE shM 12 K) (wA 12 K)) args s 0 0 (wA 12 K)) (F0 m 65 ls []) := by
  obtain ⟨hx, hb, hml, hown, hts, hr, hlk, hK⟩ := id C
  delta f_X6_luck_65 at hw
  refine lv_ldc2 hx hb hown (hts _ kX6_luck_c228) dX6_luck_65 ?_
  exact r_l C hP hS hw dX6_luck_68
theorem dsX6_luck : yX6_luck.cls = RX6 ∧ yX6_luck.cls ≠ "java/lang/invoke/MethodHandle" ∧ yX6_luck.cls ≠ "java/lang/invoke/VarHandle" ∧ (parseMethodDescriptor yX6_luck.desc).map (fun d => d.parameters.length) = some 5 := by decide +kernel
set_option maxRecDepth 100000 in
set_option maxHeartbeats 4000000 in
theorem c_X6_luck {l : Launch} {K : wC} {v1 : Int32} {v2 : Int32} {v3 : Int32} {v4 : Int32} {v5 : Int32} {M : Mem} {Q : Int64 → Mem → Prop} (hw : q_X6_luck v1 v2 v3 v4 v5 M Q) : metL l yX6_luck wsX6_luck rmX6_luck shM 12 K [.ref (kb K + 0), .int v1, .int v2, .int v3, .int v4, .int v5] M Q := by
  refine met_of (cc := cX6_luck) (maxL := 6) (ret := (some .long)) (own := RX6) (by decide) rfl rfl (Nat.le_of_ble_eq_true rfl) ?_
  intro p e s m below meth c ls C hl hP hS
  have hl : lv_has ls 6 [(0, .ref (kb K + 0)), (1, .int v1), (2, .int v2), (3, .int v3), (4, .int v4), (5, .int v5)] := hl
  obtain ⟨hx, hb, hml, hown, hts, hr, hlk, hK⟩ := id C
  have hP0 := hP
  delta q_X6_luck at hw
  refine lv_iload_n hx hb dX6_luck_0 rfl (lv_at hl 1 rfl) ?_
  refine lv_i2l hx hb dX6_luck_1 rfl ?_
  refine lv_lconst hx hb dX6_luck_2 lc_0 ?_
  refine lv_ldc2 hx hb hown (hts _ kX6_luck_c216) dX6_luck_3 ?_
  refine c_i (run_s (As := [.long v1.toInt64, .long (0 : Int64), .long (10 : Int64)]) (rest := []) C hP hS (c_X6_in hw) gX6_luck_X6_in rfl dsX6_in rfl ⟨rfl, rfl⟩ ⟨Nat.le_of_ble_eq_true rfl, Nat.le_of_ble_eq_true rfl⟩ hl.1 rfl (Nat.le_of_ble_eq_true rfl) dX6_luck_6 ⟨Nat.le_of_ble_eq_true rfl, Nat.le_of_ble_eq_true rfl⟩) hS (fun r_2 M_1 H locs hw hP hS => ?_)
  refine lv_if_eq (tgt := 65) hx hb dX6_luck_9 (by decide) (fun hc => ?_) (fun hc => ?_)
  · have hw := hw.1 hc
    exact b_X6_luck_65 C _ _ _ _ hw hP hS (lv_sub hl [] rfl)
  · have hw := hw.2 hc
    refine lv_aload_n hx hb dX6_luck_12 rfl (lv_at hl 0 rfl) ?_
    refine lv_iload_n hx hb dX6_luck_13 rfl (lv_at hl 2 rfl) ?_
    refine c_i (run_v (As := [.int v2]) (rest := []) C hP hS (c_X6_isWheel hw) gX6_luck_X6_isWheel rfl dsX6_isWheel rfl ⟨rfl, rfl⟩ ⟨Nat.le_of_ble_eq_true rfl, Nat.le_of_ble_eq_true rfl⟩ (by decide) (sM_0 K _) rfl hl.1 rfl (Nat.le_of_ble_eq_true rfl) dX6_luck_14 ⟨Nat.le_of_ble_eq_true rfl, Nat.le_of_ble_eq_true rfl⟩) hS (fun r_4 M_3 H locs hw hP hS => ?_)
    refine lv_if_eq (tgt := 65) hx hb dX6_luck_17 (by decide) (fun hc => ?_) (fun hc => ?_)
    · have hw := hw.1 hc
      exact b_X6_luck_65 C _ _ _ _ hw hP hS (lv_sub hl [] rfl)
    · have hw := hw.2 hc
      refine lv_iload_n hx hb dX6_luck_20 rfl (lv_at hl 3 rfl) ?_
      refine c_i (run_s (As := [.int v3]) (rest := []) C hP hS (c_X6_isReading hw) gX6_luck_X6_isReading rfl dsX6_isReading rfl ⟨rfl, rfl⟩ ⟨Nat.le_of_ble_eq_true rfl, Nat.le_of_ble_eq_true rfl⟩ hl.1 rfl (Nat.le_of_ble_eq_true rfl) dX6_luck_21 ⟨Nat.le_of_ble_eq_true rfl, Nat.le_of_ble_eq_true rfl⟩) hS (fun r_6 M_5 H locs hw hP hS => ?_)
      refine lv_if_eq (tgt := 65) hx hb dX6_luck_24 (by decide) (fun hc => ?_) (fun hc => ?_)
      · have hw := hw.1 hc
        exact b_X6_luck_65 C _ _ _ _ hw hP hS (lv_sub hl [] rfl)
      · have hw := hw.2 hc
        refine lv_iload hx hb dX6_luck_27 (lv_at hl 4 rfl) ?_
        refine lv_i2l hx hb dX6_luck_29 rfl ?_
        refine lv_lconst hx hb dX6_luck_30 lc_0 ?_
        refine lv_ldc2 hx hb hown (hts _ kX6_luck_c222) dX6_luck_31 ?_
        refine c_i (run_s (As := [.long v4.toInt64, .long (0 : Int64), .long (8 : Int64)]) (rest := []) C hP hS (c_X6_in hw) gX6_luck_X6_in rfl dsX6_in rfl ⟨rfl, rfl⟩ ⟨Nat.le_of_ble_eq_true rfl, Nat.le_of_ble_eq_true rfl⟩ hl.1 rfl (Nat.le_of_ble_eq_true rfl) dX6_luck_34 ⟨Nat.le_of_ble_eq_true rfl, Nat.le_of_ble_eq_true rfl⟩) hS (fun r_8 M_7 H locs hw hP hS => ?_)
        refine lv_if_eq (tgt := 65) hx hb dX6_luck_37 (by decide) (fun hc => ?_) (fun hc => ?_)
        · have hw := hw.1 hc
          exact b_X6_luck_65 C _ _ _ _ hw hP hS (lv_sub hl [] rfl)
        · have hw := hw.2 hc
          refine lv_iload hx hb dX6_luck_40 (lv_at hl 5 rfl) ?_
          refine lv_i2l hx hb dX6_luck_42 rfl ?_
          refine lv_lconst hx hb dX6_luck_43 lc_0 ?_
          refine lv_lconst hx hb dX6_luck_44 lc_1 ?_
          refine c_i (run_s (As := [.long v5.toInt64, .long (0 : Int64), .long (1 : Int64)]) (rest := []) C hP hS (c_X6_in hw) gX6_luck_X6_in rfl dsX6_in rfl ⟨rfl, rfl⟩ ⟨Nat.le_of_ble_eq_true rfl, Nat.le_of_ble_eq_true rfl⟩ hl.1 rfl (Nat.le_of_ble_eq_true rfl) dX6_luck_45 ⟨Nat.le_of_ble_eq_true rfl, Nat.le_of_ble_eq_true rfl⟩) hS (fun r_10 M_9 H locs hw hP hS => ?_)
          refine lv_if_eq (tgt := 65) hx hb dX6_luck_48 (by decide) (fun hc => ?_) (fun hc => ?_)
          · have hw := hw.1 hc
            exact b_X6_luck_65 C _ _ _ _ hw hP hS (lv_sub hl [] rfl)
          · have hw := hw.2 hc
            refine lv_aload_n hx hb dX6_luck_51 rfl (lv_at hl 0 rfl) ?_
            refine lv_iload_n hx hb dX6_luck_52 rfl (lv_at hl 1 rfl) ?_
            refine lv_iload_n hx hb dX6_luck_53 rfl (lv_at hl 2 rfl) ?_
            refine lv_iload_n hx hb dX6_luck_54 rfl (lv_at hl 3 rfl) ?_
            refine lv_iload hx hb dX6_luck_55 (lv_at hl 4 rfl) ?_
            refine lv_iload hx hb dX6_luck_57 (lv_at hl 5 rfl) ?_
            refine c_l (run_v (As := [.int v1, .int v2, .int v3, .int v4, .int v5]) (rest := []) C hP hS (c_X6_byMisses hw) gX6_luck_X6_byMisses rfl dsX6_byMisses rfl ⟨rfl, rfl⟩ ⟨Nat.le_of_ble_eq_true rfl, Nat.le_of_ble_eq_true rfl⟩ (by decide) (sM_0 K _) rfl hl.1 rfl (Nat.le_of_ble_eq_true rfl) dX6_luck_59 ⟨Nat.le_of_ble_eq_true rfl, Nat.le_of_ble_eq_true rfl⟩) hS (fun r_12 M_11 H locs hw hP hS => ?_)
            refine lv_goto (tgt := 68) hx hb dX6_luck_62 (by decide) ?_
            exact r_l C hP hS hw dX6_luck_68

theorem kX6_mean_c216 : Cond.constantLong RX6 216 (10) ∈ wsX6_mean := List.mem_of_getElem? (i := 1) rfl
theorem kX6_mean_c222 : Cond.constantLong RX6 222 (8) ∈ wsX6_mean := List.mem_of_getElem? (i := 2) rfl
theorem kX6_mean_c228 : Cond.constantLong RX6 228 (-1) ∈ wsX6_mean := List.mem_of_getElem? (i := 3) rfl
abbrev rmX6_mean : Room := { frames := 6, cells := 0, slots := 0, locals := 151 }
def f_X6_mean_57 (Q : Int64 → Mem → Prop) (M : Mem) : Prop := Q (-1 : Int64) M
def q_X6_mean (v1 : Int32) (v2 : Int32) (v3 : Int32) (v4 : Int32) (M : Mem) (Q : Int64 → Mem → Prop) : Prop := q_X6_in v1.toInt64 (0 : Int64) (10 : Int64) M (fun r_2 M_1 => ((r_2 = 0 → f_X6_mean_57 Q M_1) ∧ (¬ r_2 = 0 → q_X6_isWheel v2 M_1 (fun r_4 M_3 => ((r_4 = 0 → f_X6_mean_57 Q M_3) ∧ (¬ r_4 = 0 → q_X6_in v3.toInt64 (0 : Int64) (8 : Int64) M_3 (fun r_6 M_5 => ((r_6 = 0 → f_X6_mean_57 Q M_5) ∧ (¬ r_6 = 0 → q_X6_in v4.toInt64 (0 : Int64) (1 : Int64) M_5 (fun r_8 M_7 => ((r_8 = 0 → f_X6_mean_57 Q M_7) ∧ (¬ r_8 = 0 → q_X6_byMisses v1 v2 (-4 : Int32) v3 v4 M_7 (fun r_10 M_9 => Q r_10 M_9)))))))))))))
set_option maxRecDepth 100000 in
set_option maxHeartbeats 4000000 in
theorem b_X6_mean_57 {l : Launch} {K : wC} {Q : Int64 → Mem → Prop} {p : Program} {e : Env} {s : State} {m : MethodId} {args : Array Value} {below : List Frame} {meth : Method} {c : Code} (C : cx 12 K p s m args meth c cX6_mean 5 wsX6_mean RX6 (some .long)) (M : Mem) (H : Heap) (locs : List Loc) (ls : Array Slot) (hw : f_X6_mean_57 Q M) (hP : wP shM 12 K M H) (hS : va_S (wA 12 K) s.heap H locs) (hl : lv_has ls 5 []) : W p l e rmX6_mean s m args below meth c H locs 0 0 (MQ below (va_Ql Q (wE shM 12 K) (wA 12 K)) args s 0 0 (wA 12 K)) (F0 m 57 ls []) := by
  obtain ⟨hx, hb, hml, hown, hts, hr, hlk, hK⟩ := id C
  delta f_X6_mean_57 at hw
  refine lv_ldc2 hx hb hown (hts _ kX6_mean_c228) dX6_mean_57 ?_
  exact r_l C hP hS hw dX6_mean_60
theorem dsX6_mean : yX6_mean.cls = RX6 ∧ yX6_mean.cls ≠ "java/lang/invoke/MethodHandle" ∧ yX6_mean.cls ≠ "java/lang/invoke/VarHandle" ∧ (parseMethodDescriptor yX6_mean.desc).map (fun d => d.parameters.length) = some 4 := by decide +kernel
set_option maxRecDepth 100000 in
set_option maxHeartbeats 4000000 in
theorem c_X6_mean {l : Launch} {K : wC} {v1 : Int32} {v2 : Int32} {v3 : Int32} {v4 : Int32} {M : Mem} {Q : Int64 → Mem → Prop} (hw : q_X6_mean v1 v2 v3 v4 M Q) : metL l yX6_mean wsX6_mean rmX6_mean shM 12 K [.ref (kb K + 0), .int v1, .int v2, .int v3, .int v4] M Q := by
  refine met_of (cc := cX6_mean) (maxL := 5) (ret := (some .long)) (own := RX6) (by decide) rfl rfl (Nat.le_of_ble_eq_true rfl) ?_
  intro p e s m below meth c ls C hl hP hS
  have hl : lv_has ls 5 [(0, .ref (kb K + 0)), (1, .int v1), (2, .int v2), (3, .int v3), (4, .int v4)] := hl
  obtain ⟨hx, hb, hml, hown, hts, hr, hlk, hK⟩ := id C
  have hP0 := hP
  delta q_X6_mean at hw
  refine lv_iload_n hx hb dX6_mean_0 rfl (lv_at hl 1 rfl) ?_
  refine lv_i2l hx hb dX6_mean_1 rfl ?_
  refine lv_lconst hx hb dX6_mean_2 lc_0 ?_
  refine lv_ldc2 hx hb hown (hts _ kX6_mean_c216) dX6_mean_3 ?_
  refine c_i (run_s (As := [.long v1.toInt64, .long (0 : Int64), .long (10 : Int64)]) (rest := []) C hP hS (c_X6_in hw) gX6_mean_X6_in rfl dsX6_in rfl ⟨rfl, rfl⟩ ⟨Nat.le_of_ble_eq_true rfl, Nat.le_of_ble_eq_true rfl⟩ hl.1 rfl (Nat.le_of_ble_eq_true rfl) dX6_mean_6 ⟨Nat.le_of_ble_eq_true rfl, Nat.le_of_ble_eq_true rfl⟩) hS (fun r_2 M_1 H locs hw hP hS => ?_)
  refine lv_if_eq (tgt := 57) hx hb dX6_mean_9 (by decide) (fun hc => ?_) (fun hc => ?_)
  · have hw := hw.1 hc
    exact b_X6_mean_57 C _ _ _ _ hw hP hS (lv_sub hl [] rfl)
  · have hw := hw.2 hc
    refine lv_aload_n hx hb dX6_mean_12 rfl (lv_at hl 0 rfl) ?_
    refine lv_iload_n hx hb dX6_mean_13 rfl (lv_at hl 2 rfl) ?_
    refine c_i (run_v (As := [.int v2]) (rest := []) C hP hS (c_X6_isWheel hw) gX6_mean_X6_isWheel rfl dsX6_isWheel rfl ⟨rfl, rfl⟩ ⟨Nat.le_of_ble_eq_true rfl, Nat.le_of_ble_eq_true rfl⟩ (by decide) (sM_0 K _) rfl hl.1 rfl (Nat.le_of_ble_eq_true rfl) dX6_mean_14 ⟨Nat.le_of_ble_eq_true rfl, Nat.le_of_ble_eq_true rfl⟩) hS (fun r_4 M_3 H locs hw hP hS => ?_)
    refine lv_if_eq (tgt := 57) hx hb dX6_mean_17 (by decide) (fun hc => ?_) (fun hc => ?_)
    · have hw := hw.1 hc
      exact b_X6_mean_57 C _ _ _ _ hw hP hS (lv_sub hl [] rfl)
    · have hw := hw.2 hc
      refine lv_iload_n hx hb dX6_mean_20 rfl (lv_at hl 3 rfl) ?_
      refine lv_i2l hx hb dX6_mean_21 rfl ?_
      refine lv_lconst hx hb dX6_mean_22 lc_0 ?_
      refine lv_ldc2 hx hb hown (hts _ kX6_mean_c222) dX6_mean_23 ?_
      refine c_i (run_s (As := [.long v3.toInt64, .long (0 : Int64), .long (8 : Int64)]) (rest := []) C hP hS (c_X6_in hw) gX6_mean_X6_in rfl dsX6_in rfl ⟨rfl, rfl⟩ ⟨Nat.le_of_ble_eq_true rfl, Nat.le_of_ble_eq_true rfl⟩ hl.1 rfl (Nat.le_of_ble_eq_true rfl) dX6_mean_26 ⟨Nat.le_of_ble_eq_true rfl, Nat.le_of_ble_eq_true rfl⟩) hS (fun r_6 M_5 H locs hw hP hS => ?_)
      refine lv_if_eq (tgt := 57) hx hb dX6_mean_29 (by decide) (fun hc => ?_) (fun hc => ?_)
      · have hw := hw.1 hc
        exact b_X6_mean_57 C _ _ _ _ hw hP hS (lv_sub hl [] rfl)
      · have hw := hw.2 hc
        refine lv_iload hx hb dX6_mean_32 (lv_at hl 4 rfl) ?_
        refine lv_i2l hx hb dX6_mean_34 rfl ?_
        refine lv_lconst hx hb dX6_mean_35 lc_0 ?_
        refine lv_lconst hx hb dX6_mean_36 lc_1 ?_
        refine c_i (run_s (As := [.long v4.toInt64, .long (0 : Int64), .long (1 : Int64)]) (rest := []) C hP hS (c_X6_in hw) gX6_mean_X6_in rfl dsX6_in rfl ⟨rfl, rfl⟩ ⟨Nat.le_of_ble_eq_true rfl, Nat.le_of_ble_eq_true rfl⟩ hl.1 rfl (Nat.le_of_ble_eq_true rfl) dX6_mean_37 ⟨Nat.le_of_ble_eq_true rfl, Nat.le_of_ble_eq_true rfl⟩) hS (fun r_8 M_7 H locs hw hP hS => ?_)
        refine lv_if_eq (tgt := 57) hx hb dX6_mean_40 (by decide) (fun hc => ?_) (fun hc => ?_)
        · have hw := hw.1 hc
          exact b_X6_mean_57 C _ _ _ _ hw hP hS (lv_sub hl [] rfl)
        · have hw := hw.2 hc
          refine lv_aload_n hx hb dX6_mean_43 rfl (lv_at hl 0 rfl) ?_
          refine lv_iload_n hx hb dX6_mean_44 rfl (lv_at hl 1 rfl) ?_
          refine lv_iload_n hx hb dX6_mean_45 rfl (lv_at hl 2 rfl) ?_
          refine lv_bipush hx hb dX6_mean_46 bp_m4 ?_
          refine lv_iload_n hx hb dX6_mean_48 rfl (lv_at hl 3 rfl) ?_
          refine lv_iload hx hb dX6_mean_49 (lv_at hl 4 rfl) ?_
          refine c_l (run_v (As := [.int v1, .int v2, .int (-4 : Int32), .int v3, .int v4]) (rest := []) C hP hS (c_X6_byMisses hw) gX6_mean_X6_byMisses rfl dsX6_byMisses rfl ⟨rfl, rfl⟩ ⟨Nat.le_of_ble_eq_true rfl, Nat.le_of_ble_eq_true rfl⟩ (by decide) (sM_0 K _) rfl hl.1 rfl (Nat.le_of_ble_eq_true rfl) dX6_mean_51 ⟨Nat.le_of_ble_eq_true rfl, Nat.le_of_ble_eq_true rfl⟩) hS (fun r_10 M_9 H locs hw hP hS => ?_)
          refine lv_goto (tgt := 60) hx hb dX6_mean_54 (by decide) ?_
          exact r_l C hP hS hw dX6_mean_60

theorem kX6_see_c230 : Cond.constantLong RX6 230 (40) ∈ wsX6_see := List.mem_of_getElem? (i := 1) rfl
theorem kX6_see_f117 : Cond.fieldLink RX6 117 (TX6 19).1 (TX6 19).2.1 (TX6 19).2.2.1 ∈ wsX6_see := List.mem_of_getElem? (i := 2) rfl
theorem hX6_see_X6 : ∀ w ∈ u_ws RX6 TX6 26, w ∈ wsX6_see := fun _ h => List.mem_cons_of_mem _ (List.mem_append_right _ (h))
theorem kX6_see_f29 : Cond.fieldLink RX6 29 (TX6 18).1 (TX6 18).2.1 (TX6 18).2.2.1 ∈ wsX6_see := List.mem_of_getElem? (i := 3) rfl
theorem kX6_see_c168 : Cond.constant RX6 168 (20000000) ∈ wsX6_see := List.mem_of_getElem? (i := 4) rfl
abbrev rmX6_see : Room := { frames := 2, cells := 0, slots := 0, locals := 46 }
def q_X6_see (v1 : Int32) (v2 : Int32) (v3 : Int32) (M : Mem) (Q : Int32 → Mem → Prop) : Prop := q_X6_in v1.toInt64 (0 : Int64) (40 : Int64) M (fun r_2 M_1 => ((r_2 = 0 → Q (-1 : Int32) M_1) ∧ (¬ r_2 = 0 → q_X6_isWheel v2 M_1 (fun r_4 M_3 => ((r_4 = 0 → Q (-1 : Int32) M_3) ∧ (¬ r_4 = 0 → q_X6_isReading v3 M_3 (fun r_6 M_5 => ((¬ r_6 = 0 → ((¬ (M_5 0 19) = (6 : Int32) → vp_in ((3 : Int32) * (M_5 0 19)) 18 ∧ vp_in (((3 : Int32) * ((mU M_5 6 ((3 : Int32) * (M_5 0 19)).toNatClampNeg v1) 0 19)) + (1 : Int32)) 18 ∧ (∀ M_9 : Mem, M_9 = mU (mU M_5 6 ((3 : Int32) * (M_5 0 19)).toNatClampNeg v1) 6 (((3 : Int32) * ((mU M_5 6 ((3 : Int32) * (M_5 0 19)).toNatClampNeg v1) 0 19)) + (1 : Int32)).toNatClampNeg v2 → vp_in (((3 : Int32) * (M_9 0 19)) + (2 : Int32)) 18 ∧ (∀ M_11 : Mem, M_11 = mU M_9 6 (((3 : Int32) * (M_9 0 19)) + (2 : Int32)).toNatClampNeg (v3 - (20000000 : Int32)) → Q ((mU M_11 0 19 ((M_11 0 19) + (1 : Int32))) 0 19) (mU M_11 0 19 ((M_11 0 19) + (1 : Int32)))))) ∧ ((M_5 0 19) = (6 : Int32) → Q (-3 : Int32) M_5))) ∧ (r_6 = 0 → Q (-1 : Int32) M_5)))))))))
theorem dsX6_see : yX6_see.cls = RX6 ∧ yX6_see.cls ≠ "java/lang/invoke/MethodHandle" ∧ yX6_see.cls ≠ "java/lang/invoke/VarHandle" ∧ (parseMethodDescriptor yX6_see.desc).map (fun d => d.parameters.length) = some 3 := by decide +kernel
set_option maxRecDepth 100000 in
set_option maxHeartbeats 4000000 in
theorem c_X6_see {l : Launch} {K : wC} {v1 : Int32} {v2 : Int32} {v3 : Int32} {M : Mem} {Q : Int32 → Mem → Prop} (hw : q_X6_see v1 v2 v3 M Q) : metI l yX6_see wsX6_see rmX6_see shM 12 K [.ref (kb K + 0), .int v1, .int v2, .int v3] M Q := by
  refine met_of (cc := cX6_see) (maxL := 4) (ret := (some .int)) (own := RX6) (by decide) rfl rfl (Nat.le_of_ble_eq_true rfl) ?_
  intro p e s m below meth c ls C hl hP hS
  have hl : lv_has ls 4 [(0, .ref (kb K + 0)), (1, .int v1), (2, .int v2), (3, .int v3)] := hl
  obtain ⟨hx, hb, hml, hown, hts, hr, hlk, hK⟩ := id C
  have hP0 := hP
  delta q_X6_see at hw
  refine lv_iload_n hx hb dX6_see_0 rfl (lv_at hl 1 rfl) ?_
  refine lv_i2l hx hb dX6_see_1 rfl ?_
  refine lv_lconst hx hb dX6_see_2 lc_0 ?_
  refine lv_ldc2 hx hb hown (hts _ kX6_see_c230) dX6_see_3 ?_
  refine c_i (run_s (As := [.long v1.toInt64, .long (0 : Int64), .long (40 : Int64)]) (rest := []) C hP hS (c_X6_in hw) gX6_see_X6_in rfl dsX6_in rfl ⟨rfl, rfl⟩ ⟨Nat.le_of_ble_eq_true rfl, Nat.le_of_ble_eq_true rfl⟩ hl.1 rfl (Nat.le_of_ble_eq_true rfl) dX6_see_6 ⟨Nat.le_of_ble_eq_true rfl, Nat.le_of_ble_eq_true rfl⟩) hS (fun r_2 M_1 H locs hw hP hS => ?_)
  refine lv_if_eq (tgt := 27) hx hb dX6_see_9 (by decide) (fun hc => ?_) (fun hc => ?_)
  · have hw := hw.1 hc
    refine lv_iconst hx hb dX6_see_27 ic_m1 ?_
    exact r_i C hP hS hw dX6_see_28
  · have hw := hw.2 hc
    refine lv_aload_n hx hb dX6_see_12 rfl (lv_at hl 0 rfl) ?_
    refine lv_iload_n hx hb dX6_see_13 rfl (lv_at hl 2 rfl) ?_
    refine c_i (run_v (As := [.int v2]) (rest := []) C hP hS (c_X6_isWheel hw) gX6_see_X6_isWheel rfl dsX6_isWheel rfl ⟨rfl, rfl⟩ ⟨Nat.le_of_ble_eq_true rfl, Nat.le_of_ble_eq_true rfl⟩ (by decide) (sM_0 K _) rfl hl.1 rfl (Nat.le_of_ble_eq_true rfl) dX6_see_14 ⟨Nat.le_of_ble_eq_true rfl, Nat.le_of_ble_eq_true rfl⟩) hS (fun r_4 M_3 H locs hw hP hS => ?_)
    refine lv_if_eq (tgt := 27) hx hb dX6_see_17 (by decide) (fun hc => ?_) (fun hc => ?_)
    · have hw := hw.1 hc
      refine lv_iconst hx hb dX6_see_27 ic_m1 ?_
      exact r_i C hP hS hw dX6_see_28
    · have hw := hw.2 hc
      refine lv_iload_n hx hb dX6_see_20 rfl (lv_at hl 3 rfl) ?_
      refine c_i (run_s (As := [.int v3]) (rest := []) C hP hS (c_X6_isReading hw) gX6_see_X6_isReading rfl dsX6_isReading rfl ⟨rfl, rfl⟩ ⟨Nat.le_of_ble_eq_true rfl, Nat.le_of_ble_eq_true rfl⟩ hl.1 rfl (Nat.le_of_ble_eq_true rfl) dX6_see_21 ⟨Nat.le_of_ble_eq_true rfl, Nat.le_of_ble_eq_true rfl⟩) hS (fun r_6 M_5 H locs hw hP hS => ?_)
      refine lv_if_ne (tgt := 29) hx hb dX6_see_24 (by decide) (fun hc => ?_) (fun hc => ?_)
      · have hw := hw.1 hc
        refine lv_aload_n hx hb dX6_see_29 rfl (lv_at hl 0 rfl) ?_
        refine g_f C hP (by decide) (sM_0 K _) rfl hX6_see_X6 19 (by decide) kX6_see_f117 rfl dX6_see_30 ?_
        refine lv_bipush hx hb dX6_see_33 bp_6 ?_
        refine lv_icmp_ne (tgt := 41) hx hb dX6_see_35 (by decide) (fun hc => ?_) (fun hc => ?_)
        · have hw := hw.1 hc
          refine lv_aload_n hx hb dX6_see_41 rfl (lv_at hl 0 rfl) ?_
          refine g_f C hP (by decide) (sM_0 K _) rfl hX6_see_X6 18 (by decide) kX6_see_f29 rfl dX6_see_42 ?_
          refine lv_iconst hx hb dX6_see_45 ic_3 ?_
          refine lv_aload_n hx hb dX6_see_46 rfl (lv_at hl 0 rfl) ?_
          refine g_f C hP (by decide) (sM_0 K _) rfl hX6_see_X6 19 (by decide) kX6_see_f117 rfl dX6_see_47 ?_
          refine lv_imul hx hb dX6_see_50 ?_
          refine lv_iload_n hx hb dX6_see_51 rfl (lv_at hl 1 rfl) ?_
          have hi_7 := hw.1
          have hw := hw.2
          refine a_is C hP hS (by decide) (sM_6 K) hi_7 rfl dX6_see_52 (fun H locs hP hS => ?_)
          refine lv_aload_n hx hb dX6_see_53 rfl (lv_at hl 0 rfl) ?_
          refine g_f C hP (by decide) (sM_0 K _) rfl hX6_see_X6 18 (by decide) kX6_see_f29 rfl dX6_see_54 ?_
          refine lv_iconst hx hb dX6_see_57 ic_3 ?_
          refine lv_aload_n hx hb dX6_see_58 rfl (lv_at hl 0 rfl) ?_
          refine g_f C hP (by decide) (sM_0 K _) rfl hX6_see_X6 19 (by decide) kX6_see_f117 rfl dX6_see_59 ?_
          refine lv_imul hx hb dX6_see_62 ?_
          refine lv_iconst hx hb dX6_see_63 ic_1 ?_
          refine lv_iadd hx hb dX6_see_64 ?_
          refine lv_iload_n hx hb dX6_see_65 rfl (lv_at hl 2 rfl) ?_
          have hi_8 := hw.1
          have hw := hw.2
          refine a_is C hP hS (by decide) (sM_6 K) hi_8 rfl dX6_see_66 (fun H locs hP hS => ?_)
          obtain ⟨M_9, eM_9⟩ : ∃ z : Mem, z = mU (mU M_5 6 ((3 : Int32) * (M_5 0 19)).toNatClampNeg v1) 6 (((3 : Int32) * ((mU M_5 6 ((3 : Int32) * (M_5 0 19)).toNatClampNeg v1) 0 19)) + (1 : Int32)).toNatClampNeg v2 := ⟨_, rfl⟩
          rw [← eM_9] at hP
          have hw := hw M_9 eM_9
          refine lv_aload_n hx hb dX6_see_67 rfl (lv_at hl 0 rfl) ?_
          refine g_f C hP (by decide) (sM_0 K _) rfl hX6_see_X6 18 (by decide) kX6_see_f29 rfl dX6_see_68 ?_
          refine lv_iconst hx hb dX6_see_71 ic_3 ?_
          refine lv_aload_n hx hb dX6_see_72 rfl (lv_at hl 0 rfl) ?_
          refine g_f C hP (by decide) (sM_0 K _) rfl hX6_see_X6 19 (by decide) kX6_see_f117 rfl dX6_see_73 ?_
          refine lv_imul hx hb dX6_see_76 ?_
          refine lv_iconst hx hb dX6_see_77 ic_2 ?_
          refine lv_iadd hx hb dX6_see_78 ?_
          refine lv_iload_n hx hb dX6_see_79 rfl (lv_at hl 3 rfl) ?_
          refine lv_ldc hx hb hown (hts _ kX6_see_c168) dX6_see_80 ?_
          refine lv_isub hx hb dX6_see_82 ?_
          have hi_10 := hw.1
          have hw := hw.2
          refine a_is C hP hS (by decide) (sM_6 K) hi_10 rfl dX6_see_83 (fun H locs hP hS => ?_)
          obtain ⟨M_11, eM_11⟩ : ∃ z : Mem, z = mU M_9 6 (((3 : Int32) * (M_9 0 19)) + (2 : Int32)).toNatClampNeg (v3 - (20000000 : Int32)) := ⟨_, rfl⟩
          rw [← eM_11] at hP
          have hw := hw M_11 eM_11
          refine lv_aload_n hx hb dX6_see_84 rfl (lv_at hl 0 rfl) ?_
          refine lv_dup hx hb dX6_see_85 rfl ?_
          refine g_f C hP (by decide) (sM_0 K _) rfl hX6_see_X6 19 (by decide) kX6_see_f117 rfl dX6_see_86 ?_
          refine lv_iconst hx hb dX6_see_89 ic_1 ?_
          refine lv_iadd hx hb dX6_see_90 ?_
          refine p_f C hP hS (by decide) (sM_0 K _) (sM_0 K _) rfl hX6_see_X6 tyX6_ok nmX6 (by decide) kX6_see_f117 rfl rfl rfl (Nat.le_of_ble_eq_true rfl) dX6_see_91 (fun H locs hP hS => ?_)
          refine lv_aload_n hx hb dX6_see_94 rfl (lv_at hl 0 rfl) ?_
          refine g_f C hP (by decide) (sM_0 K _) rfl hX6_see_X6 19 (by decide) kX6_see_f117 rfl dX6_see_95 ?_
          exact r_i C hP hS hw dX6_see_98
        · have hw := hw.2 hc
          refine lv_bipush hx hb dX6_see_38 bp_m3 ?_
          exact r_i C hP hS hw dX6_see_40
      · have hw := hw.2 hc
        refine lv_iconst hx hb dX6_see_27 ic_m1 ?_
        exact r_i C hP hS hw dX6_see_28

theorem kX6_forget_f117 : Cond.fieldLink RX6 117 (TX6 19).1 (TX6 19).2.1 (TX6 19).2.2.1 ∈ wsX6_forget := List.mem_of_getElem? (i := 1) rfl
theorem hX6_forget_X6 : ∀ w ∈ u_ws RX6 TX6 26, w ∈ wsX6_forget := fun _ h => List.mem_cons_of_mem _ (List.mem_append_right _ (h))
abbrev rmX6_forget : Room := { frames := 1, cells := 0, slots := 0, locals := 25 }
def q_X6_forget (v1 : Int32) (M : Mem) (Q : Int32 → Mem → Prop) : Prop := q_X6_in v1.toInt64 (0 : Int64) (M 0 19).toInt64 M (fun r_2 M_1 => ((¬ r_2 = 0 → Q (M_1 0 19) (mU M_1 0 19 v1)) ∧ (r_2 = 0 → Q (-1 : Int32) M_1)))
theorem dsX6_forget : yX6_forget.cls = RX6 ∧ yX6_forget.cls ≠ "java/lang/invoke/MethodHandle" ∧ yX6_forget.cls ≠ "java/lang/invoke/VarHandle" ∧ (parseMethodDescriptor yX6_forget.desc).map (fun d => d.parameters.length) = some 1 := by decide +kernel
set_option maxRecDepth 100000 in
set_option maxHeartbeats 4000000 in
theorem c_X6_forget {l : Launch} {K : wC} {v1 : Int32} {M : Mem} {Q : Int32 → Mem → Prop} (hw : q_X6_forget v1 M Q) : metI l yX6_forget wsX6_forget rmX6_forget shM 12 K [.ref (kb K + 0), .int v1] M Q := by
  refine met_of (cc := cX6_forget) (maxL := 3) (ret := (some .int)) (own := RX6) (by decide) rfl rfl (Nat.le_of_ble_eq_true rfl) ?_
  intro p e s m below meth c ls C hl hP hS
  have hl : lv_has ls 3 [(0, .ref (kb K + 0)), (1, .int v1)] := hl
  obtain ⟨hx, hb, hml, hown, hts, hr, hlk, hK⟩ := id C
  have hP0 := hP
  delta q_X6_forget at hw
  refine lv_iload_n hx hb dX6_forget_0 rfl (lv_at hl 1 rfl) ?_
  refine lv_i2l hx hb dX6_forget_1 rfl ?_
  refine lv_lconst hx hb dX6_forget_2 lc_0 ?_
  refine lv_aload_n hx hb dX6_forget_3 rfl (lv_at hl 0 rfl) ?_
  refine g_f C hP (by decide) (sM_0 K _) rfl hX6_forget_X6 19 (by decide) kX6_forget_f117 rfl dX6_forget_4 ?_
  refine lv_i2l hx hb dX6_forget_7 rfl ?_
  refine c_i (run_s (As := [.long v1.toInt64, .long (0 : Int64), .long (M 0 19).toInt64]) (rest := []) C hP hS (c_X6_in hw) gX6_forget_X6_in rfl dsX6_in rfl ⟨rfl, rfl⟩ ⟨Nat.le_of_ble_eq_true rfl, Nat.le_of_ble_eq_true rfl⟩ hl.1 rfl (Nat.le_of_ble_eq_true rfl) dX6_forget_8 ⟨Nat.le_of_ble_eq_true rfl, Nat.le_of_ble_eq_true rfl⟩) hS (fun r_2 M_1 H locs hw hP hS => ?_)
  refine lv_if_ne (tgt := 16) hx hb dX6_forget_11 (by decide) (fun hc => ?_) (fun hc => ?_)
  · have hw := hw.1 hc
    refine lv_aload_n hx hb dX6_forget_16 rfl (lv_at hl 0 rfl) ?_
    refine g_f C hP (by decide) (sM_0 K _) rfl hX6_forget_X6 19 (by decide) kX6_forget_f117 rfl dX6_forget_17 ?_
    refine lv_istore_n (lv' := [(2, .int (M_1 0 19)), (0, .ref (kb K + 0)), (1, .int v1)]) hx hb dX6_forget_20 rfl hl (by decide) rfl (fun ls hl => ?_)
    refine lv_aload_n hx hb dX6_forget_21 rfl (lv_at hl 1 rfl) ?_
    refine lv_iload_n hx hb dX6_forget_22 rfl (lv_at hl 2 rfl) ?_
    refine p_f C hP hS (by decide) (sM_0 K _) (sM_0 K _) rfl hX6_forget_X6 tyX6_ok nmX6 (by decide) kX6_forget_f117 rfl rfl rfl (Nat.le_of_ble_eq_true rfl) dX6_forget_23 (fun H locs hP hS => ?_)
    refine lv_iload_n hx hb dX6_forget_26 rfl (lv_at hl 0 rfl) ?_
    exact r_i C hP hS hw dX6_forget_27
  · have hw := hw.2 hc
    refine lv_iconst hx hb dX6_forget_14 ic_m1 ?_
    exact r_i C hP hS hw dX6_forget_15

theorem kX6_isAsSeen_f32 : Cond.fieldLink RX6 32 (TX6 20).1 (TX6 20).2.1 (TX6 20).2.2.1 ∈ wsX6_isAsSeen := List.mem_of_getElem? (i := 1) rfl
theorem hX6_isAsSeen_X6 : ∀ w ∈ u_ws RX6 TX6 26, w ∈ wsX6_isAsSeen := fun _ h => List.mem_cons_of_mem _ (List.mem_append_right _ (h))
theorem kX6_isAsSeen_f7 : Cond.fieldLink RX6 7 (TX6 0).1 (TX6 0).2.1 (TX6 0).2.2.1 ∈ wsX6_isAsSeen := List.mem_of_getElem? (i := 2) rfl
theorem kX6_isAsSeen_f117 : Cond.fieldLink RX6 117 (TX6 19).1 (TX6 19).2.1 (TX6 19).2.2.1 ∈ wsX6_isAsSeen := List.mem_of_getElem? (i := 3) rfl
theorem kX6_isAsSeen_f29 : Cond.fieldLink RX6 29 (TX6 18).1 (TX6 18).2.1 (TX6 18).2.2.1 ∈ wsX6_isAsSeen := List.mem_of_getElem? (i := 4) rfl
abbrev rmX6_isAsSeen : Room := { frames := 5, cells := 0, slots := 0, locals := 117 }
abbrev t_X6_isAsSeen : Type := (Int32 → Int32 → Int32 → Int32 → Mem → Prop) × (Int32 → Int32 → Int32 → Int32 → Int32 → Mem → Prop) × (Int32 → Int32 → Int32 → Int32 → Int32 → Mem → Prop) × (Int32 → Int32 → Int32 → Int32 → Int32 → Int32 → Mem → Prop) × (Int32 → Int32 → Int32 → Int32 → Mem → Prop) × (Int32 → Int32 → Int32 → Int32 → Mem → Prop) × (Int32 → Int32 → Int32 → Int32 → Int32 → Mem → Prop)
def f_X6_isAsSeen_10 (Q : Int32 → Mem → Prop) (r : t_X6_isAsSeen) (v1 : Int32) (v2 : Int32) (v3 : Int32) (v4 : Int32) (M : Mem) : Prop := (((40 : Int32) < v4 → narrow .boolean (.int v3) = .int v3 ∧ Q v3 M) ∧ (¬ (40 : Int32) < v4 → vp_in ((179 : Int32) + v2) 222 ∧ vp_in (((41 : Int32) * v1) + v4) 410 ∧ (∀ M_4 : Mem, M_4 = mU M 7 (((41 : Int32) * v1) + v4).toNatClampNeg (M 1 ((179 : Int32) + v2).toNatClampNeg) → r.2.1 v1 v2 v3 v4 (0 : Int32) M_4)))
def f_X6_isAsSeen_42 (Q : Int32 → Mem → Prop) (r : t_X6_isAsSeen) (v1 : Int32) (v2 : Int32) (v3 : Int32) (v4 : Int32) (v5 : Int32) (M : Mem) : Prop := (((M 0 19) ≤ v5 → q_X6_tracesOn (148 : Int32) (0 : Int32) M (fun M_5 => r.1 v1 v2 v3 (v4 + 1) M_5)) ∧ (¬ (M 0 19) ≤ v5 → vp_in (((3 : Int32) * v5) + (1 : Int32)) 18 ∧ (∀ x_7 : Int32, x_7 = (M 6 (((3 : Int32) * v5) + (1 : Int32)).toNatClampNeg) → (((M 1 35) ≤ x_7 → r.2.2.1 v1 v2 v3 v4 v5 M) ∧ (¬ (M 1 35) ≤ x_7 → vp_in ((179 : Int32) + x_7) 222 ∧ vp_in (((3 : Int32) * v5) + (2 : Int32)) 18 ∧ ((¬ (M 1 ((179 : Int32) + x_7).toNatClampNeg) = (M 6 (((3 : Int32) * v5) + (2 : Int32)).toNatClampNeg) → r.2.2.1 v1 v2 v3 v4 v5 M) ∧ ((M 1 ((179 : Int32) + x_7).toNatClampNeg) = (M 6 (((3 : Int32) * v5) + (2 : Int32)).toNatClampNeg) → r.2.2.2.1 v1 v2 v3 v4 v5 (1 : Int32) M)))))))
def f_X6_isAsSeen_105 (Q : Int32 → Mem → Prop) (r : t_X6_isAsSeen) (v1 : Int32) (v2 : Int32) (v3 : Int32) (v4 : Int32) (v5 : Int32) (M : Mem) : Prop := r.2.2.2.1 v1 v2 v3 v4 v5 (0 : Int32) M
def f_X6_isAsSeen_106 (Q : Int32 → Mem → Prop) (r : t_X6_isAsSeen) (v1 : Int32) (v2 : Int32) (v3 : Int32) (v4 : Int32) (v5 : Int32) (s0 : Int32) (M : Mem) : Prop := ((v3 = 0 → r.2.2.2.2.2.1 v1 v2 v4 v5 M) ∧ (¬ v3 = 0 → vp_in ((3 : Int32) * v5) 18 ∧ ((¬ (M 6 ((3 : Int32) * v5).toNatClampNeg) = v4 → r.2.2.2.2.1 v1 v2 v4 v5 M) ∧ ((M 6 ((3 : Int32) * v5).toNatClampNeg) = v4 → ((s0 = 0 → r.2.2.2.2.2.1 v1 v2 v4 v5 M) ∧ (¬ s0 = 0 → r.2.2.2.2.1 v1 v2 v4 v5 M))))))
def f_X6_isAsSeen_131 (Q : Int32 → Mem → Prop) (r : t_X6_isAsSeen) (v1 : Int32) (v2 : Int32) (v4 : Int32) (v5 : Int32) (M : Mem) : Prop := r.2.2.2.2.2.2 v1 v2 v4 v5 (1 : Int32) M
def f_X6_isAsSeen_135 (Q : Int32 → Mem → Prop) (r : t_X6_isAsSeen) (v1 : Int32) (v2 : Int32) (v4 : Int32) (v5 : Int32) (M : Mem) : Prop := r.2.2.2.2.2.2 v1 v2 v4 v5 (0 : Int32) M
def f_X6_isAsSeen_136 (Q : Int32 → Mem → Prop) (r : t_X6_isAsSeen) (v1 : Int32) (v2 : Int32) (v4 : Int32) (v5 : Int32) (s0 : Int32) (M : Mem) : Prop := r.2.1 v1 v2 s0 v4 (v5 + 1) M
def p_X6_isAsSeen (Q : Int32 → Mem → Prop) : Nat → t_X6_isAsSeen
  | 0 => (fun _ _ _ _ _ => False, fun _ _ _ _ _ _ => False, fun _ _ _ _ _ _ => False, fun _ _ _ _ _ _ _ => False, fun _ _ _ _ _ => False, fun _ _ _ _ _ => False, fun _ _ _ _ _ _ => False)
  | n + 1 => (f_X6_isAsSeen_10 Q (p_X6_isAsSeen Q n), f_X6_isAsSeen_42 Q (p_X6_isAsSeen Q n), f_X6_isAsSeen_105 Q (p_X6_isAsSeen Q n), f_X6_isAsSeen_106 Q (p_X6_isAsSeen Q n), f_X6_isAsSeen_131 Q (p_X6_isAsSeen Q n), f_X6_isAsSeen_135 Q (p_X6_isAsSeen Q n), f_X6_isAsSeen_136 Q (p_X6_isAsSeen Q n))
def e_X6_isAsSeen (v1 : Int32) (v2 : Int32) (Q : Int32 → Mem → Prop) (r : t_X6_isAsSeen) (M : Mem) : Prop := q_X6_edgesGo (0 : Int32) M (fun M_1 => r.1 v1 v2 (1 : Int32) (0 : Int32) M_1)
def q_X6_isAsSeen (v1 : Int32) (v2 : Int32) (M : Mem) (Q : Int32 → Mem → Prop) : Prop := ∃ n : Nat, e_X6_isAsSeen v1 v2 Q (p_X6_isAsSeen Q n) M
set_option maxRecDepth 100000 in
set_option maxHeartbeats 4000000 in
theorem b_X6_isAsSeen {l : Launch} {K : wC} {Q : Int32 → Mem → Prop} {p : Program} {e : Env} {s : State} {m : MethodId} {args : Array Value} {below : List Frame} {meth : Method} {c : Code} (C : cx 12 K p s m args meth c cX6_isAsSeen 8 wsX6_isAsSeen RX6 (some .boolean)) : ∀ n : Nat, (∀ (v1 : Int32) (v2 : Int32) (v3 : Int32) (v4 : Int32) (M : Mem) (H : Heap) (locs : List Loc) (ls : Array Slot), (p_X6_isAsSeen Q n).1 v1 v2 v3 v4 M → wP shM 12 K M H → va_S (wA 12 K) s.heap H locs → lv_has ls 8 [(0, .ref (kb K + 0)), (1, .int v1), (2, .int v2), (3, .int v3), (4, .int v4)] → W p l e rmX6_isAsSeen s m args below meth c H locs 0 0 (MQ below (va_Qi Q (wE shM 12 K) (wA 12 K)) args s 0 0 (wA 12 K)) (F0 m 10 ls [])) ∧ (∀ (v1 : Int32) (v2 : Int32) (v3 : Int32) (v4 : Int32) (v5 : Int32) (M : Mem) (H : Heap) (locs : List Loc) (ls : Array Slot), (p_X6_isAsSeen Q n).2.1 v1 v2 v3 v4 v5 M → wP shM 12 K M H → va_S (wA 12 K) s.heap H locs → lv_has ls 8 [(0, .ref (kb K + 0)), (1, .int v1), (2, .int v2), (3, .int v3), (4, .int v4), (5, .int v5)] → W p l e rmX6_isAsSeen s m args below meth c H locs 0 0 (MQ below (va_Qi Q (wE shM 12 K) (wA 12 K)) args s 0 0 (wA 12 K)) (F0 m 42 ls [])) ∧ (∀ (v1 : Int32) (v2 : Int32) (v3 : Int32) (v4 : Int32) (v5 : Int32) (M : Mem) (H : Heap) (locs : List Loc) (ls : Array Slot), (p_X6_isAsSeen Q n).2.2.1 v1 v2 v3 v4 v5 M → wP shM 12 K M H → va_S (wA 12 K) s.heap H locs → lv_has ls 8 [(0, .ref (kb K + 0)), (1, .int v1), (2, .int v2), (3, .int v3), (4, .int v4), (5, .int v5)] → W p l e rmX6_isAsSeen s m args below meth c H locs 0 0 (MQ below (va_Qi Q (wE shM 12 K) (wA 12 K)) args s 0 0 (wA 12 K)) (F0 m 105 ls [])) ∧ (∀ (v1 : Int32) (v2 : Int32) (v3 : Int32) (v4 : Int32) (v5 : Int32) (s0 : Int32) (M : Mem) (H : Heap) (locs : List Loc) (ls : Array Slot), (p_X6_isAsSeen Q n).2.2.2.1 v1 v2 v3 v4 v5 s0 M → wP shM 12 K M H → va_S (wA 12 K) s.heap H locs → lv_has ls 8 [(0, .ref (kb K + 0)), (1, .int v1), (2, .int v2), (3, .int v3), (4, .int v4), (5, .int v5)] → W p l e rmX6_isAsSeen s m args below meth c H locs 0 0 (MQ below (va_Qi Q (wE shM 12 K) (wA 12 K)) args s 0 0 (wA 12 K)) (F0 m 106 ls [.int s0])) ∧ (∀ (v1 : Int32) (v2 : Int32) (v4 : Int32) (v5 : Int32) (M : Mem) (H : Heap) (locs : List Loc) (ls : Array Slot), (p_X6_isAsSeen Q n).2.2.2.2.1 v1 v2 v4 v5 M → wP shM 12 K M H → va_S (wA 12 K) s.heap H locs → lv_has ls 8 [(0, .ref (kb K + 0)), (1, .int v1), (2, .int v2), (4, .int v4), (5, .int v5)] → W p l e rmX6_isAsSeen s m args below meth c H locs 0 0 (MQ below (va_Qi Q (wE shM 12 K) (wA 12 K)) args s 0 0 (wA 12 K)) (F0 m 131 ls [])) ∧ (∀ (v1 : Int32) (v2 : Int32) (v4 : Int32) (v5 : Int32) (M : Mem) (H : Heap) (locs : List Loc) (ls : Array Slot), (p_X6_isAsSeen Q n).2.2.2.2.2.1 v1 v2 v4 v5 M → wP shM 12 K M H → va_S (wA 12 K) s.heap H locs → lv_has ls 8 [(0, .ref (kb K + 0)), (1, .int v1), (2, .int v2), (4, .int v4), (5, .int v5)] → W p l e rmX6_isAsSeen s m args below meth c H locs 0 0 (MQ below (va_Qi Q (wE shM 12 K) (wA 12 K)) args s 0 0 (wA 12 K)) (F0 m 135 ls [])) ∧ (∀ (v1 : Int32) (v2 : Int32) (v4 : Int32) (v5 : Int32) (s0 : Int32) (M : Mem) (H : Heap) (locs : List Loc) (ls : Array Slot), (p_X6_isAsSeen Q n).2.2.2.2.2.2 v1 v2 v4 v5 s0 M → wP shM 12 K M H → va_S (wA 12 K) s.heap H locs → lv_has ls 8 [(0, .ref (kb K + 0)), (1, .int v1), (2, .int v2), (4, .int v4), (5, .int v5)] → W p l e rmX6_isAsSeen s m args below meth c H locs 0 0 (MQ below (va_Qi Q (wE shM 12 K) (wA 12 K)) args s 0 0 (wA 12 K)) (F0 m 136 ls [.int s0])) := by
  obtain ⟨hx, hb, hml, hown, hts, hr, hlk, hK⟩ := id C
  intro n
  induction n with
  | zero => exact ⟨fun _ _ _ _ _ _ _ _ hw _ _ _ => False.elim hw, fun _ _ _ _ _ _ _ _ _ hw _ _ _ => False.elim hw, fun _ _ _ _ _ _ _ _ _ hw _ _ _ => False.elim hw, fun _ _ _ _ _ _ _ _ _ _ hw _ _ _ => False.elim hw, fun _ _ _ _ _ _ _ _ hw _ _ _ => False.elim hw, fun _ _ _ _ _ _ _ _ hw _ _ _ => False.elim hw, fun _ _ _ _ _ _ _ _ _ hw _ _ _ => False.elim hw⟩
  | succ n ih =>
    refine ⟨?_, ?_, ?_, ?_, ?_, ?_, ?_⟩
    · intro v1 v2 v3 v4 M H locs ls hw hP hS hl
      have hw : f_X6_isAsSeen_10 Q (p_X6_isAsSeen Q n) v1 v2 v3 v4 M := hw
      delta f_X6_isAsSeen_10 at hw
      refine lv_iload hx hb dX6_isAsSeen_10 (lv_at hl 4 rfl) ?_
      refine lv_bipush hx hb dX6_isAsSeen_12 bp_40 ?_
      refine lv_icmp_gt (tgt := 157) hx hb dX6_isAsSeen_14 (by decide) (fun hc => ?_) (fun hc => ?_)
      · have hw := hw.1 hc
        refine lv_iload_n hx hb dX6_isAsSeen_157 rfl (lv_at hl 3 rfl) ?_
        exact r_z C hw.1 hP hS hw.2 dX6_isAsSeen_158
      · have hw := hw.2 hc
        refine lv_aload_n hx hb dX6_isAsSeen_17 rfl (lv_at hl 0 rfl) ?_
        refine g_f C hP (by decide) (sM_0 K _) rfl hX6_isAsSeen_X6 20 (by decide) kX6_isAsSeen_f32 rfl dX6_isAsSeen_18 ?_
        refine lv_bipush hx hb dX6_isAsSeen_21 bp_41 ?_
        refine lv_iload_n hx hb dX6_isAsSeen_23 rfl (lv_at hl 1 rfl) ?_
        refine lv_imul hx hb dX6_isAsSeen_24 ?_
        refine lv_iload hx hb dX6_isAsSeen_25 (lv_at hl 4 rfl) ?_
        refine lv_iadd hx hb dX6_isAsSeen_27 ?_
        refine lv_aload_n hx hb dX6_isAsSeen_28 rfl (lv_at hl 0 rfl) ?_
        refine g_f C hP (by decide) (sM_0 K _) rfl hX6_isAsSeen_X6 0 (by decide) kX6_isAsSeen_f7 rfl dX6_isAsSeen_29 ?_
        refine lv_sipush hx hb dX6_isAsSeen_32 sp_179 ?_
        refine lv_iload_n hx hb dX6_isAsSeen_35 rfl (lv_at hl 2 rfl) ?_
        refine lv_iadd hx hb dX6_isAsSeen_36 ?_
        have hi_2 := hw.1
        have hw := hw.2
        refine a_il C hP (by decide) (sM_1 K _) hi_2 rfl dX6_isAsSeen_37 ?_
        have hi_3 := hw.1
        have hw := hw.2
        refine a_is C hP hS (by decide) (sM_7 K) hi_3 rfl dX6_isAsSeen_38 (fun H locs hP hS => ?_)
        obtain ⟨M_4, eM_4⟩ : ∃ z : Mem, z = mU M 7 (((41 : Int32) * v1) + v4).toNatClampNeg (M 1 ((179 : Int32) + v2).toNatClampNeg) := ⟨_, rfl⟩
        rw [← eM_4] at hP
        have hw := hw M_4 eM_4
        refine lv_iconst hx hb dX6_isAsSeen_39 ic_0 ?_
        refine lv_istore (lv' := [(5, .int (0 : Int32)), (0, .ref (kb K + 0)), (1, .int v1), (2, .int v2), (3, .int v3), (4, .int v4)]) hx hb dX6_isAsSeen_40 hl (by decide) rfl (fun ls hl => ?_)
        exact ih.2.1 _ _ _ _ _ _ _ _ _ hw hP hS (lv_sub hl [1, 2, 3, 4, 5, 0] rfl)
    · intro v1 v2 v3 v4 v5 M H locs ls hw hP hS hl
      have hw : f_X6_isAsSeen_42 Q (p_X6_isAsSeen Q n) v1 v2 v3 v4 v5 M := hw
      delta f_X6_isAsSeen_42 at hw
      refine lv_iload hx hb dX6_isAsSeen_42 (lv_at hl 5 rfl) ?_
      refine lv_aload_n hx hb dX6_isAsSeen_44 rfl (lv_at hl 0 rfl) ?_
      refine g_f C hP (by decide) (sM_0 K _) rfl hX6_isAsSeen_X6 19 (by decide) kX6_isAsSeen_f117 rfl dX6_isAsSeen_45 ?_
      refine lv_icmp_ge (tgt := 143) hx hb dX6_isAsSeen_48 (by decide) (fun hc => ?_) (fun hc => ?_)
      · have hw := hw.1 hc
        refine lv_aload_n hx hb dX6_isAsSeen_143 rfl (lv_at hl 0 rfl) ?_
        refine lv_sipush hx hb dX6_isAsSeen_144 sp_148 ?_
        refine lv_iconst hx hb dX6_isAsSeen_147 ic_0 ?_
        refine c_v (run_v (As := [.int (148 : Int32), .int (0 : Int32)]) (rest := []) C hP hS (c_X6_tracesOn hw) gX6_isAsSeen_X6_tracesOn rfl dsX6_tracesOn rfl ⟨rfl, rfl⟩ ⟨Nat.le_of_ble_eq_true rfl, Nat.le_of_ble_eq_true rfl⟩ (by decide) (sM_0 K _) rfl hl.1 rfl (Nat.le_of_ble_eq_true rfl) dX6_isAsSeen_148 ⟨Nat.le_of_ble_eq_true rfl, Nat.le_of_ble_eq_true rfl⟩) hS (fun M_5 H locs hw hP hS => ?_)
        refine lv_iinc (v := (v4 + 1)) (lv' := [(4, .int (v4 + 1)), (0, .ref (kb K + 0)), (1, .int v1), (2, .int v2), (3, .int v3), (5, .int v5)]) hx hb dX6_isAsSeen_151 hl (k := 4) rfl (by rw [ic_1]) (by decide) rfl (fun ls hl => ?_)
        refine lv_goto (tgt := 10) hx hb dX6_isAsSeen_154 (by decide) ?_
        exact ih.1 _ _ _ _ _ _ _ _ hw hP hS (lv_sub hl [1, 2, 3, 4, 0] rfl)
      · have hw := hw.2 hc
        refine lv_aload_n hx hb dX6_isAsSeen_51 rfl (lv_at hl 0 rfl) ?_
        refine g_f C hP (by decide) (sM_0 K _) rfl hX6_isAsSeen_X6 18 (by decide) kX6_isAsSeen_f29 rfl dX6_isAsSeen_52 ?_
        refine lv_iconst hx hb dX6_isAsSeen_55 ic_3 ?_
        refine lv_iload hx hb dX6_isAsSeen_56 (lv_at hl 5 rfl) ?_
        refine lv_imul hx hb dX6_isAsSeen_58 ?_
        refine lv_iconst hx hb dX6_isAsSeen_59 ic_1 ?_
        refine lv_iadd hx hb dX6_isAsSeen_60 ?_
        have hi_6 := hw.1
        have hw := hw.2
        refine a_il C hP (by decide) (sM_6 K _) hi_6 rfl dX6_isAsSeen_61 ?_
        refine lv_topi (fun x_7 ex_7 => ?_)
        have hw := hw x_7 ex_7
        refine lv_istore (lv' := [(6, .int x_7), (0, .ref (kb K + 0)), (1, .int v1), (2, .int v2), (3, .int v3), (4, .int v4), (5, .int v5)]) hx hb dX6_isAsSeen_62 hl (by decide) rfl (fun ls hl => ?_)
        refine lv_iload hx hb dX6_isAsSeen_64 (lv_at hl 0 rfl) ?_
        refine lv_aload_n hx hb dX6_isAsSeen_66 rfl (lv_at hl 1 rfl) ?_
        refine g_f C hP (by decide) (sM_0 K _) rfl hX6_isAsSeen_X6 0 (by decide) kX6_isAsSeen_f7 rfl dX6_isAsSeen_67 ?_
        refine lv_bipush hx hb dX6_isAsSeen_70 bp_35 ?_
        refine a_il C hP (by decide) (sM_1 K _) vi_35_222 ti_35 dX6_isAsSeen_72 ?_
        refine lv_icmp_ge (tgt := 105) hx hb dX6_isAsSeen_73 (by decide) (fun hc => ?_) (fun hc => ?_)
        · have hw := hw.1 hc
          exact ih.2.2.1 _ _ _ _ _ _ _ _ _ hw hP hS (lv_sub hl [1, 2, 3, 4, 5, 6] rfl)
        · have hw := hw.2 hc
          refine lv_aload_n hx hb dX6_isAsSeen_76 rfl (lv_at hl 1 rfl) ?_
          refine g_f C hP (by decide) (sM_0 K _) rfl hX6_isAsSeen_X6 0 (by decide) kX6_isAsSeen_f7 rfl dX6_isAsSeen_77 ?_
          refine lv_sipush hx hb dX6_isAsSeen_80 sp_179 ?_
          refine lv_iload hx hb dX6_isAsSeen_83 (lv_at hl 0 rfl) ?_
          refine lv_iadd hx hb dX6_isAsSeen_85 ?_
          have hi_8 := hw.1
          have hw := hw.2
          refine a_il C hP (by decide) (sM_1 K _) hi_8 rfl dX6_isAsSeen_86 ?_
          refine lv_aload_n hx hb dX6_isAsSeen_87 rfl (lv_at hl 1 rfl) ?_
          refine g_f C hP (by decide) (sM_0 K _) rfl hX6_isAsSeen_X6 18 (by decide) kX6_isAsSeen_f29 rfl dX6_isAsSeen_88 ?_
          refine lv_iconst hx hb dX6_isAsSeen_91 ic_3 ?_
          refine lv_iload hx hb dX6_isAsSeen_92 (lv_at hl 6 rfl) ?_
          refine lv_imul hx hb dX6_isAsSeen_94 ?_
          refine lv_iconst hx hb dX6_isAsSeen_95 ic_2 ?_
          refine lv_iadd hx hb dX6_isAsSeen_96 ?_
          have hi_9 := hw.1
          have hw := hw.2
          refine a_il C hP (by decide) (sM_6 K _) hi_9 rfl dX6_isAsSeen_97 ?_
          refine lv_icmp_ne (tgt := 105) hx hb dX6_isAsSeen_98 (by decide) (fun hc => ?_) (fun hc => ?_)
          · have hw := hw.1 hc
            exact ih.2.2.1 _ _ _ _ _ _ _ _ _ hw hP hS (lv_sub hl [1, 2, 3, 4, 5, 6] rfl)
          · have hw := hw.2 hc
            refine lv_iconst hx hb dX6_isAsSeen_101 ic_1 ?_
            refine lv_goto (tgt := 106) hx hb dX6_isAsSeen_102 (by decide) ?_
            exact ih.2.2.2.1 _ _ _ _ _ _ _ _ _ _ hw hP hS (lv_sub hl [1, 2, 3, 4, 5, 6] rfl)
    · intro v1 v2 v3 v4 v5 M H locs ls hw hP hS hl
      have hw : f_X6_isAsSeen_105 Q (p_X6_isAsSeen Q n) v1 v2 v3 v4 v5 M := hw
      delta f_X6_isAsSeen_105 at hw
      refine lv_iconst hx hb dX6_isAsSeen_105 ic_0 ?_
      exact ih.2.2.2.1 _ _ _ _ _ _ _ _ _ _ hw hP hS (lv_sub hl [0, 1, 2, 3, 4, 5] rfl)
    · intro v1 v2 v3 v4 v5 s0 M H locs ls hw hP hS hl
      have hw : f_X6_isAsSeen_106 Q (p_X6_isAsSeen Q n) v1 v2 v3 v4 v5 s0 M := hw
      delta f_X6_isAsSeen_106 at hw
      refine lv_istore (lv' := [(7, .int s0), (0, .ref (kb K + 0)), (1, .int v1), (2, .int v2), (3, .int v3), (4, .int v4), (5, .int v5)]) hx hb dX6_isAsSeen_106 hl (by decide) rfl (fun ls hl => ?_)
      refine lv_iload_n hx hb dX6_isAsSeen_108 rfl (lv_at hl 4 rfl) ?_
      refine lv_if_eq (tgt := 135) hx hb dX6_isAsSeen_109 (by decide) (fun hc => ?_) (fun hc => ?_)
      · have hw := hw.1 hc
        exact ih.2.2.2.2.2.1 _ _ _ _ _ _ _ _ hw hP hS (lv_sub hl [1, 2, 3, 5, 6] rfl)
      · have hw := hw.2 hc
        refine lv_aload_n hx hb dX6_isAsSeen_112 rfl (lv_at hl 1 rfl) ?_
        refine g_f C hP (by decide) (sM_0 K _) rfl hX6_isAsSeen_X6 18 (by decide) kX6_isAsSeen_f29 rfl dX6_isAsSeen_113 ?_
        refine lv_iconst hx hb dX6_isAsSeen_116 ic_3 ?_
        refine lv_iload hx hb dX6_isAsSeen_117 (lv_at hl 6 rfl) ?_
        refine lv_imul hx hb dX6_isAsSeen_119 ?_
        have hi_10 := hw.1
        have hw := hw.2
        refine a_il C hP (by decide) (sM_6 K _) hi_10 rfl dX6_isAsSeen_120 ?_
        refine lv_iload hx hb dX6_isAsSeen_121 (lv_at hl 5 rfl) ?_
        refine lv_icmp_ne (tgt := 131) hx hb dX6_isAsSeen_123 (by decide) (fun hc => ?_) (fun hc => ?_)
        · have hw := hw.1 hc
          exact ih.2.2.2.2.1 _ _ _ _ _ _ _ _ hw hP hS (lv_sub hl [1, 2, 3, 5, 6] rfl)
        · have hw := hw.2 hc
          refine lv_iload hx hb dX6_isAsSeen_126 (lv_at hl 0 rfl) ?_
          refine lv_if_eq (tgt := 135) hx hb dX6_isAsSeen_128 (by decide) (fun hc => ?_) (fun hc => ?_)
          · have hw := hw.1 hc
            exact ih.2.2.2.2.2.1 _ _ _ _ _ _ _ _ hw hP hS (lv_sub hl [1, 2, 3, 5, 6] rfl)
          · have hw := hw.2 hc
            exact ih.2.2.2.2.1 _ _ _ _ _ _ _ _ hw hP hS (lv_sub hl [1, 2, 3, 5, 6] rfl)
    · intro v1 v2 v4 v5 M H locs ls hw hP hS hl
      have hw : f_X6_isAsSeen_131 Q (p_X6_isAsSeen Q n) v1 v2 v4 v5 M := hw
      delta f_X6_isAsSeen_131 at hw
      refine lv_iconst hx hb dX6_isAsSeen_131 ic_1 ?_
      refine lv_goto (tgt := 136) hx hb dX6_isAsSeen_132 (by decide) ?_
      exact ih.2.2.2.2.2.2 _ _ _ _ _ _ _ _ _ hw hP hS (lv_sub hl [0, 1, 2, 3, 4] rfl)
    · intro v1 v2 v4 v5 M H locs ls hw hP hS hl
      have hw : f_X6_isAsSeen_135 Q (p_X6_isAsSeen Q n) v1 v2 v4 v5 M := hw
      delta f_X6_isAsSeen_135 at hw
      refine lv_iconst hx hb dX6_isAsSeen_135 ic_0 ?_
      exact ih.2.2.2.2.2.2 _ _ _ _ _ _ _ _ _ hw hP hS (lv_sub hl [0, 1, 2, 3, 4] rfl)
    · intro v1 v2 v4 v5 s0 M H locs ls hw hP hS hl
      have hw : f_X6_isAsSeen_136 Q (p_X6_isAsSeen Q n) v1 v2 v4 v5 s0 M := hw
      delta f_X6_isAsSeen_136 at hw
      refine lv_istore_n (lv' := [(3, .int s0), (0, .ref (kb K + 0)), (1, .int v1), (2, .int v2), (4, .int v4), (5, .int v5)]) hx hb dX6_isAsSeen_136 rfl hl (by decide) rfl (fun ls hl => ?_)
      refine lv_iinc (v := (v5 + 1)) (lv' := [(5, .int (v5 + 1)), (3, .int s0), (0, .ref (kb K + 0)), (1, .int v1), (2, .int v2), (4, .int v4)]) hx hb dX6_isAsSeen_137 hl (k := 5) rfl (by rw [ic_1]) (by decide) rfl (fun ls hl => ?_)
      refine lv_goto (tgt := 42) hx hb dX6_isAsSeen_140 (by decide) ?_
      exact ih.2.1 _ _ _ _ _ _ _ _ _ hw hP hS (lv_sub hl [2, 3, 4, 1, 5, 0] rfl)
theorem dsX6_isAsSeen : yX6_isAsSeen.cls = RX6 ∧ yX6_isAsSeen.cls ≠ "java/lang/invoke/MethodHandle" ∧ yX6_isAsSeen.cls ≠ "java/lang/invoke/VarHandle" ∧ (parseMethodDescriptor yX6_isAsSeen.desc).map (fun d => d.parameters.length) = some 2 := by decide +kernel
set_option maxRecDepth 100000 in
set_option maxHeartbeats 4000000 in
theorem c_X6_isAsSeen {l : Launch} {K : wC} {v1 : Int32} {v2 : Int32} {M : Mem} {Q : Int32 → Mem → Prop} (hw : q_X6_isAsSeen v1 v2 M Q) : metI l yX6_isAsSeen wsX6_isAsSeen rmX6_isAsSeen shM 12 K [.ref (kb K + 0), .int v1, .int v2] M Q := by
  refine met_of (cc := cX6_isAsSeen) (maxL := 8) (ret := (some .boolean)) (own := RX6) (by decide) rfl rfl (Nat.le_of_ble_eq_true rfl) ?_
  intro p e s m below meth c ls C hl hP hS
  have hl : lv_has ls 8 [(0, .ref (kb K + 0)), (1, .int v1), (2, .int v2)] := hl
  obtain ⟨hx, hb, hml, hown, hts, hr, hlk, hK⟩ := id C
  have hP0 := hP
  obtain ⟨n, hw⟩ := hw
  have ih := b_X6_isAsSeen (l := l) (e := e) (below := below) (Q := Q) C n
  delta e_X6_isAsSeen at hw
  refine lv_aload_n hx hb dX6_isAsSeen_0 rfl (lv_at hl 0 rfl) ?_
  refine lv_iconst hx hb dX6_isAsSeen_1 ic_0 ?_
  refine c_v (run_v (As := [.int (0 : Int32)]) (rest := []) C hP hS (c_X6_edgesGo hw) gX6_isAsSeen_X6_edgesGo rfl dsX6_edgesGo rfl ⟨rfl, rfl⟩ ⟨Nat.le_of_ble_eq_true rfl, Nat.le_of_ble_eq_true rfl⟩ (by decide) (sM_0 K _) rfl hl.1 rfl (Nat.le_of_ble_eq_true rfl) dX6_isAsSeen_2 ⟨Nat.le_of_ble_eq_true rfl, Nat.le_of_ble_eq_true rfl⟩) hS (fun M_1 H locs hw hP hS => ?_)
  refine lv_iconst hx hb dX6_isAsSeen_5 ic_1 ?_
  refine lv_istore_n (lv' := [(3, .int (1 : Int32)), (0, .ref (kb K + 0)), (1, .int v1), (2, .int v2)]) hx hb dX6_isAsSeen_6 rfl hl (by decide) rfl (fun ls hl => ?_)
  refine lv_iconst hx hb dX6_isAsSeen_7 ic_0 ?_
  refine lv_istore (lv' := [(4, .int (0 : Int32)), (3, .int (1 : Int32)), (0, .ref (kb K + 0)), (1, .int v1), (2, .int v2)]) hx hb dX6_isAsSeen_8 hl (by decide) rfl (fun ls hl => ?_)
  exact ih.1 _ _ _ _ _ _ _ _ hw hP hS (lv_sub hl [2, 3, 4, 1, 0] rfl)

theorem kX6_numbersAt_f7 : Cond.fieldLink RX6 7 (TX6 0).1 (TX6 0).2.1 (TX6 0).2.2.1 ∈ wsX6_numbersAt := List.mem_of_getElem? (i := 1) rfl
theorem hX6_numbersAt_X6 : ∀ w ∈ u_ws RX6 TX6 26, w ∈ wsX6_numbersAt := fun _ h => List.mem_cons_of_mem _ (List.mem_append_right _ (h))
abbrev rmX6_numbersAt : Room := { frames := 6, cells := 0, slots := 0, locals := 144 }
abbrev t_X6_numbersAt : Type := (Int32 → Int32 → Int32 → Int32 → Int32 → Int32 → Mem → Prop) × (Int32 → Int32 → Int32 → Int32 → Int32 → Int32 → Int32 → Mem → Prop)
def f_X6_numbersAt_14 (Q : Int32 → Mem → Prop) (r : t_X6_numbersAt) (v1 : Int32) (v2 : Int32) (v4 : Int32) (v5 : Int32) (v6 : Int32) (v7 : Int32) (M : Mem) : Prop := ((v4 < v7 → vp_in v1 222 ∧ Q v6 (mU M 1 v1.toNatClampNeg v5)) ∧ (¬ v4 < v7 → vp_in v1 222 ∧ q_X6_isAsSeen v7 v2 (mU M 1 v1.toNatClampNeg v7) (fun r_5 M_4 => ((r_5 = 0 → r.2 v1 v2 v4 v5 v7 (0 : Int32) v6 M_4) ∧ (¬ r_5 = 0 → r.2 v1 v2 v4 v5 v7 ((1 : Int32) <<< (v7 &&& 31)) v6 M_4)))))
def f_X6_numbersAt_49 (Q : Int32 → Mem → Prop) (r : t_X6_numbersAt) (v1 : Int32) (v2 : Int32) (v4 : Int32) (v5 : Int32) (v7 : Int32) (s0 : Int32) (s1 : Int32) (M : Mem) : Prop := r.1 v1 v2 v4 v5 (s1 ||| s0) (v7 + 1) M
def p_X6_numbersAt (Q : Int32 → Mem → Prop) : Nat → t_X6_numbersAt
  | 0 => (fun _ _ _ _ _ _ _ => False, fun _ _ _ _ _ _ _ _ => False)
  | n + 1 => (f_X6_numbersAt_14 Q (p_X6_numbersAt Q n), f_X6_numbersAt_49 Q (p_X6_numbersAt Q n))
def e_X6_numbersAt (v1 : Int32) (v2 : Int32) (v3 : Int32) (v4 : Int32) (Q : Int32 → Mem → Prop) (r : t_X6_numbersAt) (M : Mem) : Prop := vp_in v1 222 ∧ r.1 v1 v2 v4 (M 1 v1.toNatClampNeg) (0 : Int32) v3 M
def q_X6_numbersAt (v1 : Int32) (v2 : Int32) (v3 : Int32) (v4 : Int32) (M : Mem) (Q : Int32 → Mem → Prop) : Prop := ∃ n : Nat, e_X6_numbersAt v1 v2 v3 v4 Q (p_X6_numbersAt Q n) M
set_option maxRecDepth 100000 in
set_option maxHeartbeats 4000000 in
theorem b_X6_numbersAt {l : Launch} {K : wC} {Q : Int32 → Mem → Prop} {p : Program} {e : Env} {s : State} {m : MethodId} {args : Array Value} {below : List Frame} {meth : Method} {c : Code} (C : cx 12 K p s m args meth c cX6_numbersAt 8 wsX6_numbersAt RX6 (some .int)) : ∀ n : Nat, (∀ (v1 : Int32) (v2 : Int32) (v4 : Int32) (v5 : Int32) (v6 : Int32) (v7 : Int32) (M : Mem) (H : Heap) (locs : List Loc) (ls : Array Slot), (p_X6_numbersAt Q n).1 v1 v2 v4 v5 v6 v7 M → wP shM 12 K M H → va_S (wA 12 K) s.heap H locs → lv_has ls 8 [(0, .ref (kb K + 0)), (1, .int v1), (2, .int v2), (4, .int v4), (5, .int v5), (6, .int v6), (7, .int v7)] → W p l e rmX6_numbersAt s m args below meth c H locs 0 0 (MQ below (va_Qi Q (wE shM 12 K) (wA 12 K)) args s 0 0 (wA 12 K)) (F0 m 14 ls [])) ∧ (∀ (v1 : Int32) (v2 : Int32) (v4 : Int32) (v5 : Int32) (v7 : Int32) (s0 : Int32) (s1 : Int32) (M : Mem) (H : Heap) (locs : List Loc) (ls : Array Slot), (p_X6_numbersAt Q n).2 v1 v2 v4 v5 v7 s0 s1 M → wP shM 12 K M H → va_S (wA 12 K) s.heap H locs → lv_has ls 8 [(0, .ref (kb K + 0)), (1, .int v1), (2, .int v2), (4, .int v4), (5, .int v5), (7, .int v7)] → W p l e rmX6_numbersAt s m args below meth c H locs 0 0 (MQ below (va_Qi Q (wE shM 12 K) (wA 12 K)) args s 0 0 (wA 12 K)) (F0 m 49 ls [.int s0, .int s1])) := by
  obtain ⟨hx, hb, hml, hown, hts, hr, hlk, hK⟩ := id C
  intro n
  induction n with
  | zero => exact ⟨fun _ _ _ _ _ _ _ _ _ _ hw _ _ _ => False.elim hw, fun _ _ _ _ _ _ _ _ _ _ _ hw _ _ _ => False.elim hw⟩
  | succ n ih =>
    refine ⟨?_, ?_⟩
    · intro v1 v2 v4 v5 v6 v7 M H locs ls hw hP hS hl
      have hw : f_X6_numbersAt_14 Q (p_X6_numbersAt Q n) v1 v2 v4 v5 v6 v7 M := hw
      delta f_X6_numbersAt_14 at hw
      refine lv_iload hx hb dX6_numbersAt_14 (lv_at hl 6 rfl) ?_
      refine lv_iload hx hb dX6_numbersAt_16 (lv_at hl 3 rfl) ?_
      refine lv_icmp_gt (tgt := 58) hx hb dX6_numbersAt_18 (by decide) (fun hc => ?_) (fun hc => ?_)
      · have hw := hw.1 hc
        refine lv_aload_n hx hb dX6_numbersAt_58 rfl (lv_at hl 0 rfl) ?_
        refine g_f C hP (by decide) (sM_0 K _) rfl hX6_numbersAt_X6 0 (by decide) kX6_numbersAt_f7 rfl dX6_numbersAt_59 ?_
        refine lv_iload_n hx hb dX6_numbersAt_62 rfl (lv_at hl 1 rfl) ?_
        refine lv_iload hx hb dX6_numbersAt_63 (lv_at hl 4 rfl) ?_
        have hi_2 := hw.1
        have hw := hw.2
        refine a_is C hP hS (by decide) (sM_1 K) hi_2 rfl dX6_numbersAt_65 (fun H locs hP hS => ?_)
        refine lv_iload hx hb dX6_numbersAt_66 (lv_at hl 5 rfl) ?_
        exact r_i C hP hS hw dX6_numbersAt_68
      · have hw := hw.2 hc
        refine lv_aload_n hx hb dX6_numbersAt_21 rfl (lv_at hl 0 rfl) ?_
        refine g_f C hP (by decide) (sM_0 K _) rfl hX6_numbersAt_X6 0 (by decide) kX6_numbersAt_f7 rfl dX6_numbersAt_22 ?_
        refine lv_iload_n hx hb dX6_numbersAt_25 rfl (lv_at hl 1 rfl) ?_
        refine lv_iload hx hb dX6_numbersAt_26 (lv_at hl 6 rfl) ?_
        have hi_3 := hw.1
        have hw := hw.2
        refine a_is C hP hS (by decide) (sM_1 K) hi_3 rfl dX6_numbersAt_28 (fun H locs hP hS => ?_)
        refine lv_iload hx hb dX6_numbersAt_29 (lv_at hl 5 rfl) ?_
        refine lv_aload_n hx hb dX6_numbersAt_31 rfl (lv_at hl 0 rfl) ?_
        refine lv_iload hx hb dX6_numbersAt_32 (lv_at hl 6 rfl) ?_
        refine lv_iload_n hx hb dX6_numbersAt_34 rfl (lv_at hl 2 rfl) ?_
        refine c_i (run_v (As := [.int v7, .int v2]) (rest := [.int v6]) C hP hS (c_X6_isAsSeen hw) gX6_numbersAt_X6_isAsSeen rfl dsX6_isAsSeen rfl ⟨rfl, rfl⟩ ⟨Nat.le_of_ble_eq_true rfl, Nat.le_of_ble_eq_true rfl⟩ (by decide) (sM_0 K _) rfl hl.1 rfl (Nat.le_of_ble_eq_true rfl) dX6_numbersAt_35 ⟨Nat.le_of_ble_eq_true rfl, Nat.le_of_ble_eq_true rfl⟩) hS (fun r_5 M_4 H locs hw hP hS => ?_)
        refine lv_if_eq (tgt := 48) hx hb dX6_numbersAt_38 (by decide) (fun hc => ?_) (fun hc => ?_)
        · have hw := hw.1 hc
          refine lv_iconst hx hb dX6_numbersAt_48 ic_0 ?_
          exact ih.2 _ _ _ _ _ _ _ _ _ _ _ hw hP hS (lv_sub hl [0, 1, 2, 3, 4, 6] rfl)
        · have hw := hw.2 hc
          refine lv_iconst hx hb dX6_numbersAt_41 ic_1 ?_
          refine lv_iload hx hb dX6_numbersAt_42 (lv_at hl 6 rfl) ?_
          refine lv_ishl hx hb dX6_numbersAt_44 ?_
          refine lv_goto (tgt := 49) hx hb dX6_numbersAt_45 (by decide) ?_
          exact ih.2 _ _ _ _ _ _ _ _ _ _ _ hw hP hS (lv_sub hl [0, 1, 2, 3, 4, 6] rfl)
    · intro v1 v2 v4 v5 v7 s0 s1 M H locs ls hw hP hS hl
      have hw : f_X6_numbersAt_49 Q (p_X6_numbersAt Q n) v1 v2 v4 v5 v7 s0 s1 M := hw
      delta f_X6_numbersAt_49 at hw
      refine lv_ior hx hb dX6_numbersAt_49 ?_
      refine lv_istore (lv' := [(6, .int (s1 ||| s0)), (0, .ref (kb K + 0)), (1, .int v1), (2, .int v2), (4, .int v4), (5, .int v5), (7, .int v7)]) hx hb dX6_numbersAt_50 hl (by decide) rfl (fun ls hl => ?_)
      refine lv_iinc (v := (v7 + 1)) (lv' := [(7, .int (v7 + 1)), (6, .int (s1 ||| s0)), (0, .ref (kb K + 0)), (1, .int v1), (2, .int v2), (4, .int v4), (5, .int v5)]) hx hb dX6_numbersAt_52 hl (k := 6) rfl (by rw [ic_1]) (by decide) rfl (fun ls hl => ?_)
      refine lv_goto (tgt := 14) hx hb dX6_numbersAt_55 (by decide) ?_
      exact ih.1 _ _ _ _ _ _ _ _ _ _ hw hP hS (lv_sub hl [2, 3, 4, 5, 6, 1, 0] rfl)
theorem dsX6_numbersAt : yX6_numbersAt.cls = RX6 ∧ yX6_numbersAt.cls ≠ "java/lang/invoke/MethodHandle" ∧ yX6_numbersAt.cls ≠ "java/lang/invoke/VarHandle" ∧ (parseMethodDescriptor yX6_numbersAt.desc).map (fun d => d.parameters.length) = some 4 := by decide +kernel
set_option maxRecDepth 100000 in
set_option maxHeartbeats 4000000 in
theorem c_X6_numbersAt {l : Launch} {K : wC} {v1 : Int32} {v2 : Int32} {v3 : Int32} {v4 : Int32} {M : Mem} {Q : Int32 → Mem → Prop} (hw : q_X6_numbersAt v1 v2 v3 v4 M Q) : metI l yX6_numbersAt wsX6_numbersAt rmX6_numbersAt shM 12 K [.ref (kb K + 0), .int v1, .int v2, .int v3, .int v4] M Q := by
  refine met_of (cc := cX6_numbersAt) (maxL := 8) (ret := (some .int)) (own := RX6) (by decide) rfl rfl (Nat.le_of_ble_eq_true rfl) ?_
  intro p e s m below meth c ls C hl hP hS
  have hl : lv_has ls 8 [(0, .ref (kb K + 0)), (1, .int v1), (2, .int v2), (3, .int v3), (4, .int v4)] := hl
  obtain ⟨hx, hb, hml, hown, hts, hr, hlk, hK⟩ := id C
  have hP0 := hP
  obtain ⟨n, hw⟩ := hw
  have ih := b_X6_numbersAt (l := l) (e := e) (below := below) (Q := Q) C n
  delta e_X6_numbersAt at hw
  refine lv_aload_n hx hb dX6_numbersAt_0 rfl (lv_at hl 0 rfl) ?_
  refine g_f C hP (by decide) (sM_0 K _) rfl hX6_numbersAt_X6 0 (by decide) kX6_numbersAt_f7 rfl dX6_numbersAt_1 ?_
  refine lv_iload_n hx hb dX6_numbersAt_4 rfl (lv_at hl 1 rfl) ?_
  have hi_1 := hw.1
  have hw := hw.2
  refine a_il C hP (by decide) (sM_1 K _) hi_1 rfl dX6_numbersAt_5 ?_
  refine lv_istore (lv' := [(5, .int (M 1 v1.toNatClampNeg)), (0, .ref (kb K + 0)), (1, .int v1), (2, .int v2), (3, .int v3), (4, .int v4)]) hx hb dX6_numbersAt_6 hl (by decide) rfl (fun ls hl => ?_)
  refine lv_iconst hx hb dX6_numbersAt_8 ic_0 ?_
  refine lv_istore (lv' := [(6, .int (0 : Int32)), (5, .int (M 1 v1.toNatClampNeg)), (0, .ref (kb K + 0)), (1, .int v1), (2, .int v2), (3, .int v3), (4, .int v4)]) hx hb dX6_numbersAt_9 hl (by decide) rfl (fun ls hl => ?_)
  refine lv_iload_n hx hb dX6_numbersAt_11 rfl (lv_at hl 5 rfl) ?_
  refine lv_istore (lv' := [(7, .int v3), (6, .int (0 : Int32)), (5, .int (M 1 v1.toNatClampNeg)), (0, .ref (kb K + 0)), (1, .int v1), (2, .int v2), (3, .int v3), (4, .int v4)]) hx hb dX6_numbersAt_12 hl (by decide) rfl (fun ls hl => ?_)
  exact ih.1 _ _ _ _ _ _ _ _ _ _ hw hP hS (lv_sub hl [3, 4, 5, 7, 2, 1, 0] rfl)

abbrev rmX6_kinds : Room := { frames := 7, cells := 0, slots := 0, locals := 171 }
def q_X6_kinds (v1 : Int32) (M : Mem) (Q : Int32 → Mem → Prop) : Prop := q_X6_isWheel v1 M (fun r_2 M_1 => ((r_2 = 0 → Q (-1 : Int32) M_1) ∧ (¬ r_2 = 0 → q_X6_numbersAt ((23 : Int32) + v1) v1 (0 : Int32) (3 : Int32) M_1 (fun r_4 M_3 => Q r_4 M_3))))
theorem dsX6_kinds : yX6_kinds.cls = RX6 ∧ yX6_kinds.cls ≠ "java/lang/invoke/MethodHandle" ∧ yX6_kinds.cls ≠ "java/lang/invoke/VarHandle" ∧ (parseMethodDescriptor yX6_kinds.desc).map (fun d => d.parameters.length) = some 1 := by decide +kernel
set_option maxRecDepth 100000 in
set_option maxHeartbeats 4000000 in
theorem c_X6_kinds {l : Launch} {K : wC} {v1 : Int32} {M : Mem} {Q : Int32 → Mem → Prop} (hw : q_X6_kinds v1 M Q) : metI l yX6_kinds wsX6_kinds rmX6_kinds shM 12 K [.ref (kb K + 0), .int v1] M Q := by
  refine met_of (cc := cX6_kinds) (maxL := 2) (ret := (some .int)) (own := RX6) (by decide) rfl rfl (Nat.le_of_ble_eq_true rfl) ?_
  intro p e s m below meth c ls C hl hP hS
  have hl : lv_has ls 2 [(0, .ref (kb K + 0)), (1, .int v1)] := hl
  obtain ⟨hx, hb, hml, hown, hts, hr, hlk, hK⟩ := id C
  have hP0 := hP
  delta q_X6_kinds at hw
  refine lv_aload_n hx hb dX6_kinds_0 rfl (lv_at hl 0 rfl) ?_
  refine lv_iload_n hx hb dX6_kinds_1 rfl (lv_at hl 1 rfl) ?_
  refine c_i (run_v (As := [.int v1]) (rest := []) C hP hS (c_X6_isWheel hw) gX6_kinds_X6_isWheel rfl dsX6_isWheel rfl ⟨rfl, rfl⟩ ⟨Nat.le_of_ble_eq_true rfl, Nat.le_of_ble_eq_true rfl⟩ (by decide) (sM_0 K _) rfl hl.1 rfl (Nat.le_of_ble_eq_true rfl) dX6_kinds_2 ⟨Nat.le_of_ble_eq_true rfl, Nat.le_of_ble_eq_true rfl⟩) hS (fun r_2 M_1 H locs hw hP hS => ?_)
  refine lv_if_eq (tgt := 22) hx hb dX6_kinds_5 (by decide) (fun hc => ?_) (fun hc => ?_)
  · have hw := hw.1 hc
    refine lv_iconst hx hb dX6_kinds_22 ic_m1 ?_
    exact r_i C hP hS hw dX6_kinds_23
  · have hw := hw.2 hc
    refine lv_aload_n hx hb dX6_kinds_8 rfl (lv_at hl 0 rfl) ?_
    refine lv_bipush hx hb dX6_kinds_9 bp_23 ?_
    refine lv_iload_n hx hb dX6_kinds_11 rfl (lv_at hl 1 rfl) ?_
    refine lv_iadd hx hb dX6_kinds_12 ?_
    refine lv_iload_n hx hb dX6_kinds_13 rfl (lv_at hl 1 rfl) ?_
    refine lv_iconst hx hb dX6_kinds_14 ic_0 ?_
    refine lv_iconst hx hb dX6_kinds_15 ic_3 ?_
    refine c_i (run_v (As := [.int ((23 : Int32) + v1), .int v1, .int (0 : Int32), .int (3 : Int32)]) (rest := []) C hP hS (c_X6_numbersAt hw) gX6_kinds_X6_numbersAt rfl dsX6_numbersAt rfl ⟨rfl, rfl⟩ ⟨Nat.le_of_ble_eq_true rfl, Nat.le_of_ble_eq_true rfl⟩ (by decide) (sM_0 K _) rfl hl.1 rfl (Nat.le_of_ble_eq_true rfl) dX6_kinds_16 ⟨Nat.le_of_ble_eq_true rfl, Nat.le_of_ble_eq_true rfl⟩) hS (fun r_4 M_3 H locs hw hP hS => ?_)
    refine lv_goto (tgt := 23) hx hb dX6_kinds_19 (by decide) ?_
    exact r_i C hP hS hw dX6_kinds_23

abbrev rmX6_steps : Room := { frames := 7, cells := 0, slots := 0, locals := 171 }
def q_X6_steps (v1 : Int32) (M : Mem) (Q : Int32 → Mem → Prop) : Prop := q_X6_isWheel v1 M (fun r_2 M_1 => ((r_2 = 0 → Q (-1 : Int32) M_1) ∧ (¬ r_2 = 0 → q_X6_numbersAt ((27 : Int32) + v1) v1 (1 : Int32) (9 : Int32) M_1 (fun r_4 M_3 => Q r_4 M_3))))
theorem dsX6_steps : yX6_steps.cls = RX6 ∧ yX6_steps.cls ≠ "java/lang/invoke/MethodHandle" ∧ yX6_steps.cls ≠ "java/lang/invoke/VarHandle" ∧ (parseMethodDescriptor yX6_steps.desc).map (fun d => d.parameters.length) = some 1 := by decide +kernel
set_option maxRecDepth 100000 in
set_option maxHeartbeats 4000000 in
theorem c_X6_steps {l : Launch} {K : wC} {v1 : Int32} {M : Mem} {Q : Int32 → Mem → Prop} (hw : q_X6_steps v1 M Q) : metI l yX6_steps wsX6_steps rmX6_steps shM 12 K [.ref (kb K + 0), .int v1] M Q := by
  refine met_of (cc := cX6_steps) (maxL := 2) (ret := (some .int)) (own := RX6) (by decide) rfl rfl (Nat.le_of_ble_eq_true rfl) ?_
  intro p e s m below meth c ls C hl hP hS
  have hl : lv_has ls 2 [(0, .ref (kb K + 0)), (1, .int v1)] := hl
  obtain ⟨hx, hb, hml, hown, hts, hr, hlk, hK⟩ := id C
  have hP0 := hP
  delta q_X6_steps at hw
  refine lv_aload_n hx hb dX6_steps_0 rfl (lv_at hl 0 rfl) ?_
  refine lv_iload_n hx hb dX6_steps_1 rfl (lv_at hl 1 rfl) ?_
  refine c_i (run_v (As := [.int v1]) (rest := []) C hP hS (c_X6_isWheel hw) gX6_steps_X6_isWheel rfl dsX6_isWheel rfl ⟨rfl, rfl⟩ ⟨Nat.le_of_ble_eq_true rfl, Nat.le_of_ble_eq_true rfl⟩ (by decide) (sM_0 K _) rfl hl.1 rfl (Nat.le_of_ble_eq_true rfl) dX6_steps_2 ⟨Nat.le_of_ble_eq_true rfl, Nat.le_of_ble_eq_true rfl⟩) hS (fun r_2 M_1 H locs hw hP hS => ?_)
  refine lv_if_eq (tgt := 23) hx hb dX6_steps_5 (by decide) (fun hc => ?_) (fun hc => ?_)
  · have hw := hw.1 hc
    refine lv_iconst hx hb dX6_steps_23 ic_m1 ?_
    exact r_i C hP hS hw dX6_steps_24
  · have hw := hw.2 hc
    refine lv_aload_n hx hb dX6_steps_8 rfl (lv_at hl 0 rfl) ?_
    refine lv_bipush hx hb dX6_steps_9 bp_27 ?_
    refine lv_iload_n hx hb dX6_steps_11 rfl (lv_at hl 1 rfl) ?_
    refine lv_iadd hx hb dX6_steps_12 ?_
    refine lv_iload_n hx hb dX6_steps_13 rfl (lv_at hl 1 rfl) ?_
    refine lv_iconst hx hb dX6_steps_14 ic_1 ?_
    refine lv_bipush hx hb dX6_steps_15 bp_9 ?_
    refine c_i (run_v (As := [.int ((27 : Int32) + v1), .int v1, .int (1 : Int32), .int (9 : Int32)]) (rest := []) C hP hS (c_X6_numbersAt hw) gX6_steps_X6_numbersAt rfl dsX6_numbersAt rfl ⟨rfl, rfl⟩ ⟨Nat.le_of_ble_eq_true rfl, Nat.le_of_ble_eq_true rfl⟩ (by decide) (sM_0 K _) rfl hl.1 rfl (Nat.le_of_ble_eq_true rfl) dX6_steps_17 ⟨Nat.le_of_ble_eq_true rfl, Nat.le_of_ble_eq_true rfl⟩) hS (fun r_4 M_3 H locs hw hP hS => ?_)
    refine lv_goto (tgt := 24) hx hb dX6_steps_20 (by decide) ?_
    exact r_i C hP hS hw dX6_steps_24

theorem kX6_worstAt_f32 : Cond.fieldLink RX6 32 (TX6 20).1 (TX6 20).2.1 (TX6 20).2.2.1 ∈ wsX6_worstAt := List.mem_of_getElem? (i := 1) rfl
theorem hX6_worstAt_X6 : ∀ w ∈ u_ws RX6 TX6 26, w ∈ wsX6_worstAt := fun _ h => List.mem_cons_of_mem _ (List.mem_append_right _ (h))
abbrev rmX6_worstAt : Room := { frames := 0, cells := 0, slots := 0, locals := 0 }
abbrev t_X6_worstAt : Type := (Int32 → Int32 → Int32 → Int32 → Mem → Prop) × (Int32 → Int32 → Int32 → Int32 → Int32 → Int32 → Mem → Prop) × (Int32 → Int32 → Int32 → Int32 → Int32 → Int32 → Mem → Prop) × (Int32 → Int32 → Int32 → Int32 → Int32 → Int32 → Int32 → Mem → Prop) × (Int32 → Int32 → Int32 → Int32 → Int32 → Mem → Prop) × (Int32 → Int32 → Int32 → Int32 → Mem → Prop)
def f_X6_worstAt_5 (Q : Int32 → Mem → Prop) (r : t_X6_worstAt) (v1 : Int32) (v2 : Int32) (v3 : Int32) (v4 : Int32) (M : Mem) : Prop := (((9 : Int32) < v4 → Q v3 M) ∧ (¬ (9 : Int32) < v4 → r.2.1 v1 v2 v3 v4 (0 : Int32) (1 : Int32) M))
def f_X6_worstAt_18 (Q : Int32 → Mem → Prop) (r : t_X6_worstAt) (v1 : Int32) (v2 : Int32) (v3 : Int32) (v4 : Int32) (v5 : Int32) (v6 : Int32) (M : Mem) : Prop := (((9 : Int32) < v6 → r.2.2.2.2.1 v1 v2 v3 v4 v5 M) ∧ (¬ (9 : Int32) < v6 → ((¬ ((v1 >>> (v4 &&& 31)) &&& (1 : Int32)) = (1 : Int32) → r.2.2.2.2.1 v1 v2 v3 v4 v5 M) ∧ (((v1 >>> (v4 &&& 31)) &&& (1 : Int32)) = (1 : Int32) → ((¬ ((v1 >>> (v6 &&& 31)) &&& (1 : Int32)) = (1 : Int32) → r.2.2.1 v1 v2 v3 v4 v6 v5 M) ∧ (((v1 >>> (v6 &&& 31)) &&& (1 : Int32)) = (1 : Int32) → vp_in (((41 : Int32) * v4) + v2) 410 ∧ vp_in (((41 : Int32) * v6) + v2) 410 ∧ ((¬ (M 7 (((41 : Int32) * v4) + v2).toNatClampNeg) = (M 7 (((41 : Int32) * v6) + v2).toNatClampNeg) → r.2.2.1 v1 v2 v3 v4 v6 v5 M) ∧ ((M 7 (((41 : Int32) * v4) + v2).toNatClampNeg) = (M 7 (((41 : Int32) * v6) + v2).toNatClampNeg) → r.2.2.2.1 v1 v2 v3 v4 v6 (1 : Int32) v5 M))))))))
def f_X6_worstAt_78 (Q : Int32 → Mem → Prop) (r : t_X6_worstAt) (v1 : Int32) (v2 : Int32) (v3 : Int32) (v4 : Int32) (v6 : Int32) (s0 : Int32) (M : Mem) : Prop := r.2.2.2.1 v1 v2 v3 v4 v6 (0 : Int32) s0 M
def f_X6_worstAt_79 (Q : Int32 → Mem → Prop) (r : t_X6_worstAt) (v1 : Int32) (v2 : Int32) (v3 : Int32) (v4 : Int32) (v6 : Int32) (s0 : Int32) (s1 : Int32) (M : Mem) : Prop := r.2.1 v1 v2 v3 v4 (s1 + s0) (v6 + 1) M
def f_X6_worstAt_88 (Q : Int32 → Mem → Prop) (r : t_X6_worstAt) (v1 : Int32) (v2 : Int32) (v3 : Int32) (v4 : Int32) (v5 : Int32) (M : Mem) : Prop := ((v5 ≤ v3 → r.2.2.2.2.2 v1 v2 v4 v3 M) ∧ (¬ v5 ≤ v3 → r.2.2.2.2.2 v1 v2 v4 v5 M))
def f_X6_worstAt_100 (Q : Int32 → Mem → Prop) (r : t_X6_worstAt) (v1 : Int32) (v2 : Int32) (v4 : Int32) (s0 : Int32) (M : Mem) : Prop := r.1 v1 v2 s0 (v4 + 1) M
def p_X6_worstAt (Q : Int32 → Mem → Prop) : Nat → t_X6_worstAt
  | 0 => (fun _ _ _ _ _ => False, fun _ _ _ _ _ _ _ => False, fun _ _ _ _ _ _ _ => False, fun _ _ _ _ _ _ _ _ => False, fun _ _ _ _ _ _ => False, fun _ _ _ _ _ => False)
  | n + 1 => (f_X6_worstAt_5 Q (p_X6_worstAt Q n), f_X6_worstAt_18 Q (p_X6_worstAt Q n), f_X6_worstAt_78 Q (p_X6_worstAt Q n), f_X6_worstAt_79 Q (p_X6_worstAt Q n), f_X6_worstAt_88 Q (p_X6_worstAt Q n), f_X6_worstAt_100 Q (p_X6_worstAt Q n))
def e_X6_worstAt (v1 : Int32) (v2 : Int32) (Q : Int32 → Mem → Prop) (r : t_X6_worstAt) (M : Mem) : Prop := r.1 v1 v2 (0 : Int32) (1 : Int32) M
def q_X6_worstAt (v1 : Int32) (v2 : Int32) (M : Mem) (Q : Int32 → Mem → Prop) : Prop := ∃ n : Nat, e_X6_worstAt v1 v2 Q (p_X6_worstAt Q n) M
set_option maxRecDepth 100000 in
set_option maxHeartbeats 4000000 in
theorem b_X6_worstAt {l : Launch} {K : wC} {Q : Int32 → Mem → Prop} {p : Program} {e : Env} {s : State} {m : MethodId} {args : Array Value} {below : List Frame} {meth : Method} {c : Code} (C : cx 12 K p s m args meth c cX6_worstAt 7 wsX6_worstAt RX6 (some .int)) : ∀ n : Nat, (∀ (v1 : Int32) (v2 : Int32) (v3 : Int32) (v4 : Int32) (M : Mem) (H : Heap) (locs : List Loc) (ls : Array Slot), (p_X6_worstAt Q n).1 v1 v2 v3 v4 M → wP shM 12 K M H → va_S (wA 12 K) s.heap H locs → lv_has ls 7 [(0, .ref (kb K + 0)), (1, .int v1), (2, .int v2), (3, .int v3), (4, .int v4)] → W p l e rmX6_worstAt s m args below meth c H locs 0 0 (MQ below (va_Qi Q (wE shM 12 K) (wA 12 K)) args s 0 0 (wA 12 K)) (F0 m 5 ls [])) ∧ (∀ (v1 : Int32) (v2 : Int32) (v3 : Int32) (v4 : Int32) (v5 : Int32) (v6 : Int32) (M : Mem) (H : Heap) (locs : List Loc) (ls : Array Slot), (p_X6_worstAt Q n).2.1 v1 v2 v3 v4 v5 v6 M → wP shM 12 K M H → va_S (wA 12 K) s.heap H locs → lv_has ls 7 [(0, .ref (kb K + 0)), (1, .int v1), (2, .int v2), (3, .int v3), (4, .int v4), (5, .int v5), (6, .int v6)] → W p l e rmX6_worstAt s m args below meth c H locs 0 0 (MQ below (va_Qi Q (wE shM 12 K) (wA 12 K)) args s 0 0 (wA 12 K)) (F0 m 18 ls [])) ∧ (∀ (v1 : Int32) (v2 : Int32) (v3 : Int32) (v4 : Int32) (v6 : Int32) (s0 : Int32) (M : Mem) (H : Heap) (locs : List Loc) (ls : Array Slot), (p_X6_worstAt Q n).2.2.1 v1 v2 v3 v4 v6 s0 M → wP shM 12 K M H → va_S (wA 12 K) s.heap H locs → lv_has ls 7 [(0, .ref (kb K + 0)), (1, .int v1), (2, .int v2), (3, .int v3), (4, .int v4), (6, .int v6)] → W p l e rmX6_worstAt s m args below meth c H locs 0 0 (MQ below (va_Qi Q (wE shM 12 K) (wA 12 K)) args s 0 0 (wA 12 K)) (F0 m 78 ls [.int s0])) ∧ (∀ (v1 : Int32) (v2 : Int32) (v3 : Int32) (v4 : Int32) (v6 : Int32) (s0 : Int32) (s1 : Int32) (M : Mem) (H : Heap) (locs : List Loc) (ls : Array Slot), (p_X6_worstAt Q n).2.2.2.1 v1 v2 v3 v4 v6 s0 s1 M → wP shM 12 K M H → va_S (wA 12 K) s.heap H locs → lv_has ls 7 [(0, .ref (kb K + 0)), (1, .int v1), (2, .int v2), (3, .int v3), (4, .int v4), (6, .int v6)] → W p l e rmX6_worstAt s m args below meth c H locs 0 0 (MQ below (va_Qi Q (wE shM 12 K) (wA 12 K)) args s 0 0 (wA 12 K)) (F0 m 79 ls [.int s0, .int s1])) ∧ (∀ (v1 : Int32) (v2 : Int32) (v3 : Int32) (v4 : Int32) (v5 : Int32) (M : Mem) (H : Heap) (locs : List Loc) (ls : Array Slot), (p_X6_worstAt Q n).2.2.2.2.1 v1 v2 v3 v4 v5 M → wP shM 12 K M H → va_S (wA 12 K) s.heap H locs → lv_has ls 7 [(0, .ref (kb K + 0)), (1, .int v1), (2, .int v2), (3, .int v3), (4, .int v4), (5, .int v5)] → W p l e rmX6_worstAt s m args below meth c H locs 0 0 (MQ below (va_Qi Q (wE shM 12 K) (wA 12 K)) args s 0 0 (wA 12 K)) (F0 m 88 ls [])) ∧ (∀ (v1 : Int32) (v2 : Int32) (v4 : Int32) (s0 : Int32) (M : Mem) (H : Heap) (locs : List Loc) (ls : Array Slot), (p_X6_worstAt Q n).2.2.2.2.2 v1 v2 v4 s0 M → wP shM 12 K M H → va_S (wA 12 K) s.heap H locs → lv_has ls 7 [(0, .ref (kb K + 0)), (1, .int v1), (2, .int v2), (4, .int v4)] → W p l e rmX6_worstAt s m args below meth c H locs 0 0 (MQ below (va_Qi Q (wE shM 12 K) (wA 12 K)) args s 0 0 (wA 12 K)) (F0 m 100 ls [.int s0])) := by
  obtain ⟨hx, hb, hml, hown, hts, hr, hlk, hK⟩ := id C
  intro n
  induction n with
  | zero => exact ⟨fun _ _ _ _ _ _ _ _ hw _ _ _ => False.elim hw, fun _ _ _ _ _ _ _ _ _ _ hw _ _ _ => False.elim hw, fun _ _ _ _ _ _ _ _ _ _ hw _ _ _ => False.elim hw, fun _ _ _ _ _ _ _ _ _ _ _ hw _ _ _ => False.elim hw, fun _ _ _ _ _ _ _ _ _ hw _ _ _ => False.elim hw, fun _ _ _ _ _ _ _ _ hw _ _ _ => False.elim hw⟩
  | succ n ih =>
    refine ⟨?_, ?_, ?_, ?_, ?_, ?_⟩
    · intro v1 v2 v3 v4 M H locs ls hw hP hS hl
      have hw : f_X6_worstAt_5 Q (p_X6_worstAt Q n) v1 v2 v3 v4 M := hw
      delta f_X6_worstAt_5 at hw
      refine lv_iload hx hb dX6_worstAt_5 (lv_at hl 4 rfl) ?_
      refine lv_bipush hx hb dX6_worstAt_7 bp_9 ?_
      refine lv_icmp_gt (tgt := 107) hx hb dX6_worstAt_9 (by decide) (fun hc => ?_) (fun hc => ?_)
      · have hw := hw.1 hc
        refine lv_iload_n hx hb dX6_worstAt_107 rfl (lv_at hl 3 rfl) ?_
        exact r_i C hP hS hw dX6_worstAt_108
      · have hw := hw.2 hc
        refine lv_iconst hx hb dX6_worstAt_12 ic_0 ?_
        refine lv_istore (lv' := [(5, .int (0 : Int32)), (0, .ref (kb K + 0)), (1, .int v1), (2, .int v2), (3, .int v3), (4, .int v4)]) hx hb dX6_worstAt_13 hl (by decide) rfl (fun ls hl => ?_)
        refine lv_iconst hx hb dX6_worstAt_15 ic_1 ?_
        refine lv_istore (lv' := [(6, .int (1 : Int32)), (5, .int (0 : Int32)), (0, .ref (kb K + 0)), (1, .int v1), (2, .int v2), (3, .int v3), (4, .int v4)]) hx hb dX6_worstAt_16 hl (by decide) rfl (fun ls hl => ?_)
        exact ih.2.1 _ _ _ _ _ _ _ _ _ _ hw hP hS (lv_sub hl [2, 3, 4, 5, 6, 1, 0] rfl)
    · intro v1 v2 v3 v4 v5 v6 M H locs ls hw hP hS hl
      have hw : f_X6_worstAt_18 Q (p_X6_worstAt Q n) v1 v2 v3 v4 v5 v6 M := hw
      delta f_X6_worstAt_18 at hw
      refine lv_iload hx hb dX6_worstAt_18 (lv_at hl 6 rfl) ?_
      refine lv_bipush hx hb dX6_worstAt_20 bp_9 ?_
      refine lv_icmp_gt (tgt := 88) hx hb dX6_worstAt_22 (by decide) (fun hc => ?_) (fun hc => ?_)
      · have hw := hw.1 hc
        exact ih.2.2.2.2.1 _ _ _ _ _ _ _ _ _ hw hP hS (lv_sub hl [0, 1, 2, 3, 4, 5] rfl)
      · have hw := hw.2 hc
        refine lv_iload_n hx hb dX6_worstAt_25 rfl (lv_at hl 1 rfl) ?_
        refine lv_iload hx hb dX6_worstAt_26 (lv_at hl 4 rfl) ?_
        refine lv_ishr hx hb dX6_worstAt_28 ?_
        refine lv_iconst hx hb dX6_worstAt_29 ic_1 ?_
        refine lv_iand hx hb dX6_worstAt_30 ?_
        refine lv_iconst hx hb dX6_worstAt_31 ic_1 ?_
        refine lv_icmp_ne (tgt := 88) hx hb dX6_worstAt_32 (by decide) (fun hc => ?_) (fun hc => ?_)
        · have hw := hw.1 hc
          exact ih.2.2.2.2.1 _ _ _ _ _ _ _ _ _ hw hP hS (lv_sub hl [0, 1, 2, 3, 4, 5] rfl)
        · have hw := hw.2 hc
          refine lv_iload hx hb dX6_worstAt_35 (lv_at hl 5 rfl) ?_
          refine lv_iload_n hx hb dX6_worstAt_37 rfl (lv_at hl 1 rfl) ?_
          refine lv_iload hx hb dX6_worstAt_38 (lv_at hl 6 rfl) ?_
          refine lv_ishr hx hb dX6_worstAt_40 ?_
          refine lv_iconst hx hb dX6_worstAt_41 ic_1 ?_
          refine lv_iand hx hb dX6_worstAt_42 ?_
          refine lv_iconst hx hb dX6_worstAt_43 ic_1 ?_
          refine lv_icmp_ne (tgt := 78) hx hb dX6_worstAt_44 (by decide) (fun hc => ?_) (fun hc => ?_)
          · have hw := hw.1 hc
            exact ih.2.2.1 _ _ _ _ _ _ _ _ _ _ hw hP hS (lv_sub hl [0, 1, 2, 3, 4, 6] rfl)
          · have hw := hw.2 hc
            refine lv_aload_n hx hb dX6_worstAt_47 rfl (lv_at hl 0 rfl) ?_
            refine g_f C hP (by decide) (sM_0 K _) rfl hX6_worstAt_X6 20 (by decide) kX6_worstAt_f32 rfl dX6_worstAt_48 ?_
            refine lv_bipush hx hb dX6_worstAt_51 bp_41 ?_
            refine lv_iload hx hb dX6_worstAt_53 (lv_at hl 4 rfl) ?_
            refine lv_imul hx hb dX6_worstAt_55 ?_
            refine lv_iload_n hx hb dX6_worstAt_56 rfl (lv_at hl 2 rfl) ?_
            refine lv_iadd hx hb dX6_worstAt_57 ?_
            have hi_1 := hw.1
            have hw := hw.2
            refine a_il C hP (by decide) (sM_7 K _) hi_1 rfl dX6_worstAt_58 ?_
            refine lv_aload_n hx hb dX6_worstAt_59 rfl (lv_at hl 0 rfl) ?_
            refine g_f C hP (by decide) (sM_0 K _) rfl hX6_worstAt_X6 20 (by decide) kX6_worstAt_f32 rfl dX6_worstAt_60 ?_
            refine lv_bipush hx hb dX6_worstAt_63 bp_41 ?_
            refine lv_iload hx hb dX6_worstAt_65 (lv_at hl 6 rfl) ?_
            refine lv_imul hx hb dX6_worstAt_67 ?_
            refine lv_iload_n hx hb dX6_worstAt_68 rfl (lv_at hl 2 rfl) ?_
            refine lv_iadd hx hb dX6_worstAt_69 ?_
            have hi_2 := hw.1
            have hw := hw.2
            refine a_il C hP (by decide) (sM_7 K _) hi_2 rfl dX6_worstAt_70 ?_
            refine lv_icmp_ne (tgt := 78) hx hb dX6_worstAt_71 (by decide) (fun hc => ?_) (fun hc => ?_)
            · have hw := hw.1 hc
              exact ih.2.2.1 _ _ _ _ _ _ _ _ _ _ hw hP hS (lv_sub hl [0, 1, 2, 3, 4, 6] rfl)
            · have hw := hw.2 hc
              refine lv_iconst hx hb dX6_worstAt_74 ic_1 ?_
              refine lv_goto (tgt := 79) hx hb dX6_worstAt_75 (by decide) ?_
              exact ih.2.2.2.1 _ _ _ _ _ _ _ _ _ _ _ hw hP hS (lv_sub hl [0, 1, 2, 3, 4, 6] rfl)
    · intro v1 v2 v3 v4 v6 s0 M H locs ls hw hP hS hl
      have hw : f_X6_worstAt_78 Q (p_X6_worstAt Q n) v1 v2 v3 v4 v6 s0 M := hw
      delta f_X6_worstAt_78 at hw
      refine lv_iconst hx hb dX6_worstAt_78 ic_0 ?_
      exact ih.2.2.2.1 _ _ _ _ _ _ _ _ _ _ _ hw hP hS (lv_sub hl [0, 1, 2, 3, 4, 5] rfl)
    · intro v1 v2 v3 v4 v6 s0 s1 M H locs ls hw hP hS hl
      have hw : f_X6_worstAt_79 Q (p_X6_worstAt Q n) v1 v2 v3 v4 v6 s0 s1 M := hw
      delta f_X6_worstAt_79 at hw
      refine lv_iadd hx hb dX6_worstAt_79 ?_
      refine lv_istore (lv' := [(5, .int (s1 + s0)), (0, .ref (kb K + 0)), (1, .int v1), (2, .int v2), (3, .int v3), (4, .int v4), (6, .int v6)]) hx hb dX6_worstAt_80 hl (by decide) rfl (fun ls hl => ?_)
      refine lv_iinc (v := (v6 + 1)) (lv' := [(6, .int (v6 + 1)), (5, .int (s1 + s0)), (0, .ref (kb K + 0)), (1, .int v1), (2, .int v2), (3, .int v3), (4, .int v4)]) hx hb dX6_worstAt_82 hl (k := 6) rfl (by rw [ic_1]) (by decide) rfl (fun ls hl => ?_)
      refine lv_goto (tgt := 18) hx hb dX6_worstAt_85 (by decide) ?_
      exact ih.2.1 _ _ _ _ _ _ _ _ _ _ hw hP hS (lv_sub hl [2, 3, 4, 5, 6, 1, 0] rfl)
    · intro v1 v2 v3 v4 v5 M H locs ls hw hP hS hl
      have hw : f_X6_worstAt_88 Q (p_X6_worstAt Q n) v1 v2 v3 v4 v5 M := hw
      delta f_X6_worstAt_88 at hw
      refine lv_iload hx hb dX6_worstAt_88 (lv_at hl 5 rfl) ?_
      refine lv_iload_n hx hb dX6_worstAt_90 rfl (lv_at hl 3 rfl) ?_
      refine lv_icmp_le (tgt := 99) hx hb dX6_worstAt_91 (by decide) (fun hc => ?_) (fun hc => ?_)
      · have hw := hw.1 hc
        refine lv_iload_n hx hb dX6_worstAt_99 rfl (lv_at hl 3 rfl) ?_
        exact ih.2.2.2.2.2 _ _ _ _ _ _ _ _ hw hP hS (lv_sub hl [0, 1, 2, 4] rfl)
      · have hw := hw.2 hc
        refine lv_iload hx hb dX6_worstAt_94 (lv_at hl 5 rfl) ?_
        refine lv_goto (tgt := 100) hx hb dX6_worstAt_96 (by decide) ?_
        exact ih.2.2.2.2.2 _ _ _ _ _ _ _ _ hw hP hS (lv_sub hl [0, 1, 2, 4] rfl)
    · intro v1 v2 v4 s0 M H locs ls hw hP hS hl
      have hw : f_X6_worstAt_100 Q (p_X6_worstAt Q n) v1 v2 v4 s0 M := hw
      delta f_X6_worstAt_100 at hw
      refine lv_istore_n (lv' := [(3, .int s0), (0, .ref (kb K + 0)), (1, .int v1), (2, .int v2), (4, .int v4)]) hx hb dX6_worstAt_100 rfl hl (by decide) rfl (fun ls hl => ?_)
      refine lv_iinc (v := (v4 + 1)) (lv' := [(4, .int (v4 + 1)), (3, .int s0), (0, .ref (kb K + 0)), (1, .int v1), (2, .int v2)]) hx hb dX6_worstAt_101 hl (k := 4) rfl (by rw [ic_1]) (by decide) rfl (fun ls hl => ?_)
      refine lv_goto (tgt := 5) hx hb dX6_worstAt_104 (by decide) ?_
      exact ih.1 _ _ _ _ _ _ _ _ hw hP hS (lv_sub hl [2, 3, 4, 1, 0] rfl)
theorem dsX6_worstAt : yX6_worstAt.cls = RX6 ∧ yX6_worstAt.cls ≠ "java/lang/invoke/MethodHandle" ∧ yX6_worstAt.cls ≠ "java/lang/invoke/VarHandle" ∧ (parseMethodDescriptor yX6_worstAt.desc).map (fun d => d.parameters.length) = some 2 := by decide +kernel
set_option maxRecDepth 100000 in
set_option maxHeartbeats 4000000 in
theorem c_X6_worstAt {l : Launch} {K : wC} {v1 : Int32} {v2 : Int32} {M : Mem} {Q : Int32 → Mem → Prop} (hw : q_X6_worstAt v1 v2 M Q) : metI l yX6_worstAt wsX6_worstAt rmX6_worstAt shM 12 K [.ref (kb K + 0), .int v1, .int v2] M Q := by
  refine met_of (cc := cX6_worstAt) (maxL := 7) (ret := (some .int)) (own := RX6) (by decide) rfl rfl (Nat.le_of_ble_eq_true rfl) ?_
  intro p e s m below meth c ls C hl hP hS
  have hl : lv_has ls 7 [(0, .ref (kb K + 0)), (1, .int v1), (2, .int v2)] := hl
  obtain ⟨hx, hb, hml, hown, hts, hr, hlk, hK⟩ := id C
  have hP0 := hP
  obtain ⟨n, hw⟩ := hw
  have ih := b_X6_worstAt (l := l) (e := e) (below := below) (Q := Q) C n
  delta e_X6_worstAt at hw
  refine lv_iconst hx hb dX6_worstAt_0 ic_0 ?_
  refine lv_istore_n (lv' := [(3, .int (0 : Int32)), (0, .ref (kb K + 0)), (1, .int v1), (2, .int v2)]) hx hb dX6_worstAt_1 rfl hl (by decide) rfl (fun ls hl => ?_)
  refine lv_iconst hx hb dX6_worstAt_2 ic_1 ?_
  refine lv_istore (lv' := [(4, .int (1 : Int32)), (3, .int (0 : Int32)), (0, .ref (kb K + 0)), (1, .int v1), (2, .int v2)]) hx hb dX6_worstAt_3 hl (by decide) rfl (fun ls hl => ?_)
  exact ih.1 _ _ _ _ _ _ _ _ hw hP hS (lv_sub hl [2, 3, 4, 1, 0] rfl)

abbrev rmX6_ask : Room := { frames := 7, cells := 0, slots := 0, locals := 171 }
abbrev t_X6_ask : Type := (Int32 → Int32 → Int32 → Int32 → Mem → Prop) × (Int32 → Int32 → Int32 → Int32 → Int32 → Mem → Prop) × (Int32 → Int32 → Int32 → Int32 → Int32 → Int32 → Mem → Prop) × (Int32 → Int32 → Int32 → Int32 → Int32 → Mem → Prop) × (Int32 → Mem → Prop)
def f_X6_ask_39 (Q : Int32 → Mem → Prop) (r : t_X6_ask) (v2 : Int32) (v3 : Int32) (v4 : Int32) (v5 : Int32) (M : Mem) : Prop := (((9 : Int32) < v5 → r.2.1 v2 v3 v4 (-4 : Int32) (0 : Int32) M) ∧ (¬ (9 : Int32) < v5 → ∀ x_7 : Int32, x_7 = (v4 + ((v3 >>> (v5 &&& 31)) &&& (1 : Int32))) → r.1 v2 v3 x_7 (v5 + 1) M))
def f_X6_ask_70 (Q : Int32 → Mem → Prop) (r : t_X6_ask) (v2 : Int32) (v3 : Int32) (v4 : Int32) (v5 : Int32) (v6 : Int32) (M : Mem) : Prop := (((40 : Int32) < v6 → ((v5 = (-4 : Int32) → r.2.2.2.2 v5 M) ∧ (¬ v5 = (-4 : Int32) → ((¬ v2 = 0 → Q v4 M) ∧ (v2 = 0 → r.2.2.2.2 v5 M))))) ∧ (¬ (40 : Int32) < v6 → q_X6_worstAt v3 v6 M (fun r_9 M_8 => ((v4 ≤ r_9 → r.2.2.1 v2 v3 v4 v6 r_9 v5 M_8) ∧ (¬ v4 ≤ r_9 → r.2.2.1 v2 v3 v4 v6 r_9 v6 M_8)))))
def f_X6_ask_100 (Q : Int32 → Mem → Prop) (r : t_X6_ask) (v2 : Int32) (v3 : Int32) (v4 : Int32) (v6 : Int32) (v7 : Int32) (s0 : Int32) (M : Mem) : Prop := ((v4 ≤ v7 → r.2.2.2.1 v2 v3 s0 v6 v4 M) ∧ (¬ v4 ≤ v7 → r.2.2.2.1 v2 v3 s0 v6 v7 M))
def f_X6_ask_116 (Q : Int32 → Mem → Prop) (r : t_X6_ask) (v2 : Int32) (v3 : Int32) (v5 : Int32) (v6 : Int32) (s0 : Int32) (M : Mem) : Prop := r.2.1 v2 v3 s0 v5 (v6 + 1) M
def f_X6_ask_135 (Q : Int32 → Mem → Prop) (r : t_X6_ask) (v5 : Int32) (M : Mem) : Prop := Q v5 M
def p_X6_ask (Q : Int32 → Mem → Prop) : Nat → t_X6_ask
  | 0 => (fun _ _ _ _ _ => False, fun _ _ _ _ _ _ => False, fun _ _ _ _ _ _ _ => False, fun _ _ _ _ _ _ => False, fun _ _ => False)
  | n + 1 => (f_X6_ask_39 Q (p_X6_ask Q n), f_X6_ask_70 Q (p_X6_ask Q n), f_X6_ask_100 Q (p_X6_ask Q n), f_X6_ask_116 Q (p_X6_ask Q n), f_X6_ask_135 Q (p_X6_ask Q n))
def e_X6_ask (v1 : Int32) (v2 : Int32) (Q : Int32 → Mem → Prop) (r : t_X6_ask) (M : Mem) : Prop := q_X6_isWheel v1 M (fun r_2 M_1 => ((r_2 = 0 → Q (-1 : Int32) M_1) ∧ (¬ r_2 = 0 → q_X6_in v2.toInt64 (0 : Int64) (1 : Int64) M_1 (fun r_4 M_3 => ((¬ r_4 = 0 → q_X6_numbersAt ((27 : Int32) + v1) v1 (1 : Int32) (9 : Int32) M_3 (fun r_6 M_5 => r.1 v2 r_6 (0 : Int32) (1 : Int32) M_5)) ∧ (r_4 = 0 → Q (-1 : Int32) M_3))))))
def q_X6_ask (v1 : Int32) (v2 : Int32) (M : Mem) (Q : Int32 → Mem → Prop) : Prop := ∃ n : Nat, e_X6_ask v1 v2 Q (p_X6_ask Q n) M
set_option maxRecDepth 100000 in
set_option maxHeartbeats 4000000 in
theorem b_X6_ask {l : Launch} {K : wC} {Q : Int32 → Mem → Prop} {p : Program} {e : Env} {s : State} {m : MethodId} {args : Array Value} {below : List Frame} {meth : Method} {c : Code} (C : cx 12 K p s m args meth c cX6_ask 8 wsX6_ask RX6 (some .int)) : ∀ n : Nat, (∀ (v2 : Int32) (v3 : Int32) (v4 : Int32) (v5 : Int32) (M : Mem) (H : Heap) (locs : List Loc) (ls : Array Slot), (p_X6_ask Q n).1 v2 v3 v4 v5 M → wP shM 12 K M H → va_S (wA 12 K) s.heap H locs → lv_has ls 8 [(0, .ref (kb K + 0)), (2, .int v2), (3, .int v3), (4, .int v4), (5, .int v5)] → W p l e rmX6_ask s m args below meth c H locs 0 0 (MQ below (va_Qi Q (wE shM 12 K) (wA 12 K)) args s 0 0 (wA 12 K)) (F0 m 39 ls [])) ∧ (∀ (v2 : Int32) (v3 : Int32) (v4 : Int32) (v5 : Int32) (v6 : Int32) (M : Mem) (H : Heap) (locs : List Loc) (ls : Array Slot), (p_X6_ask Q n).2.1 v2 v3 v4 v5 v6 M → wP shM 12 K M H → va_S (wA 12 K) s.heap H locs → lv_has ls 8 [(0, .ref (kb K + 0)), (2, .int v2), (3, .int v3), (4, .int v4), (5, .int v5), (6, .int v6)] → W p l e rmX6_ask s m args below meth c H locs 0 0 (MQ below (va_Qi Q (wE shM 12 K) (wA 12 K)) args s 0 0 (wA 12 K)) (F0 m 70 ls [])) ∧ (∀ (v2 : Int32) (v3 : Int32) (v4 : Int32) (v6 : Int32) (v7 : Int32) (s0 : Int32) (M : Mem) (H : Heap) (locs : List Loc) (ls : Array Slot), (p_X6_ask Q n).2.2.1 v2 v3 v4 v6 v7 s0 M → wP shM 12 K M H → va_S (wA 12 K) s.heap H locs → lv_has ls 8 [(0, .ref (kb K + 0)), (2, .int v2), (3, .int v3), (4, .int v4), (6, .int v6), (7, .int v7)] → W p l e rmX6_ask s m args below meth c H locs 0 0 (MQ below (va_Qi Q (wE shM 12 K) (wA 12 K)) args s 0 0 (wA 12 K)) (F0 m 100 ls [.int s0])) ∧ (∀ (v2 : Int32) (v3 : Int32) (v5 : Int32) (v6 : Int32) (s0 : Int32) (M : Mem) (H : Heap) (locs : List Loc) (ls : Array Slot), (p_X6_ask Q n).2.2.2.1 v2 v3 v5 v6 s0 M → wP shM 12 K M H → va_S (wA 12 K) s.heap H locs → lv_has ls 8 [(0, .ref (kb K + 0)), (2, .int v2), (3, .int v3), (5, .int v5), (6, .int v6)] → W p l e rmX6_ask s m args below meth c H locs 0 0 (MQ below (va_Qi Q (wE shM 12 K) (wA 12 K)) args s 0 0 (wA 12 K)) (F0 m 116 ls [.int s0])) ∧ (∀ (v5 : Int32) (M : Mem) (H : Heap) (locs : List Loc) (ls : Array Slot), (p_X6_ask Q n).2.2.2.2 v5 M → wP shM 12 K M H → va_S (wA 12 K) s.heap H locs → lv_has ls 8 [(5, .int v5)] → W p l e rmX6_ask s m args below meth c H locs 0 0 (MQ below (va_Qi Q (wE shM 12 K) (wA 12 K)) args s 0 0 (wA 12 K)) (F0 m 135 ls [])) := by
  obtain ⟨hx, hb, hml, hown, hts, hr, hlk, hK⟩ := id C
  intro n
  induction n with
  | zero => exact ⟨fun _ _ _ _ _ _ _ _ hw _ _ _ => False.elim hw, fun _ _ _ _ _ _ _ _ _ hw _ _ _ => False.elim hw, fun _ _ _ _ _ _ _ _ _ _ hw _ _ _ => False.elim hw, fun _ _ _ _ _ _ _ _ _ hw _ _ _ => False.elim hw, fun _ _ _ _ _ hw _ _ _ => False.elim hw⟩
  | succ n ih =>
    refine ⟨?_, ?_, ?_, ?_, ?_⟩
    · intro v2 v3 v4 v5 M H locs ls hw hP hS hl
      have hw : f_X6_ask_39 Q (p_X6_ask Q n) v2 v3 v4 v5 M := hw
      delta f_X6_ask_39 at hw
      refine lv_iload hx hb dX6_ask_39 (lv_at hl 4 rfl) ?_
      refine lv_bipush hx hb dX6_ask_41 bp_9 ?_
      refine lv_icmp_gt (tgt := 63) hx hb dX6_ask_43 (by decide) (fun hc => ?_) (fun hc => ?_)
      · have hw := hw.1 hc
        refine lv_bipush hx hb dX6_ask_63 bp_m4 ?_
        refine lv_istore (lv' := [(5, .int (-4 : Int32)), (0, .ref (kb K + 0)), (2, .int v2), (3, .int v3), (4, .int v4)]) hx hb dX6_ask_65 hl (by decide) rfl (fun ls hl => ?_)
        refine lv_iconst hx hb dX6_ask_67 ic_0 ?_
        refine lv_istore (lv' := [(6, .int (0 : Int32)), (5, .int (-4 : Int32)), (0, .ref (kb K + 0)), (2, .int v2), (3, .int v3), (4, .int v4)]) hx hb dX6_ask_68 hl (by decide) rfl (fun ls hl => ?_)
        exact ih.2.1 _ _ _ _ _ _ _ _ _ hw hP hS (lv_sub hl [2, 3, 4, 5, 1, 0] rfl)
      · have hw := hw.2 hc
        refine lv_iload hx hb dX6_ask_46 (lv_at hl 3 rfl) ?_
        refine lv_iload_n hx hb dX6_ask_48 rfl (lv_at hl 2 rfl) ?_
        refine lv_iload hx hb dX6_ask_49 (lv_at hl 4 rfl) ?_
        refine lv_ishr hx hb dX6_ask_51 ?_
        refine lv_iconst hx hb dX6_ask_52 ic_1 ?_
        refine lv_iand hx hb dX6_ask_53 ?_
        refine lv_iadd hx hb dX6_ask_54 ?_
        refine lv_topi (fun x_7 ex_7 => ?_)
        have hw := hw x_7 ex_7
        refine lv_istore (lv' := [(4, .int x_7), (0, .ref (kb K + 0)), (2, .int v2), (3, .int v3), (5, .int v5)]) hx hb dX6_ask_55 hl (by decide) rfl (fun ls hl => ?_)
        refine lv_iinc (v := (v5 + 1)) (lv' := [(5, .int (v5 + 1)), (4, .int x_7), (0, .ref (kb K + 0)), (2, .int v2), (3, .int v3)]) hx hb dX6_ask_57 hl (k := 4) rfl (by rw [ic_1]) (by decide) rfl (fun ls hl => ?_)
        refine lv_goto (tgt := 39) hx hb dX6_ask_60 (by decide) ?_
        exact ih.1 _ _ _ _ _ _ _ _ hw hP hS (lv_sub hl [2, 3, 4, 1, 0] rfl)
    · intro v2 v3 v4 v5 v6 M H locs ls hw hP hS hl
      have hw : f_X6_ask_70 Q (p_X6_ask Q n) v2 v3 v4 v5 v6 M := hw
      delta f_X6_ask_70 at hw
      refine lv_iload hx hb dX6_ask_70 (lv_at hl 5 rfl) ?_
      refine lv_bipush hx hb dX6_ask_72 bp_40 ?_
      refine lv_icmp_gt (tgt := 124) hx hb dX6_ask_74 (by decide) (fun hc => ?_) (fun hc => ?_)
      · have hw := hw.1 hc
        refine lv_iload hx hb dX6_ask_124 (lv_at hl 4 rfl) ?_
        refine lv_bipush hx hb dX6_ask_126 bp_m4 ?_
        refine lv_icmp_eq (tgt := 135) hx hb dX6_ask_128 (by decide) (fun hc => ?_) (fun hc => ?_)
        · have hw := hw.1 hc
          exact ih.2.2.2.2 _ _ _ _ _ hw hP hS (lv_sub hl [4] rfl)
        · have hw := hw.2 hc
          refine lv_iload_n hx hb dX6_ask_131 rfl (lv_at hl 1 rfl) ?_
          refine lv_if_ne (tgt := 140) hx hb dX6_ask_132 (by decide) (fun hc => ?_) (fun hc => ?_)
          · have hw := hw.1 hc
            refine lv_iload hx hb dX6_ask_140 (lv_at hl 3 rfl) ?_
            exact r_i C hP hS hw dX6_ask_142
          · have hw := hw.2 hc
            exact ih.2.2.2.2 _ _ _ _ _ hw hP hS (lv_sub hl [4] rfl)
      · have hw := hw.2 hc
        refine lv_aload_n hx hb dX6_ask_77 rfl (lv_at hl 0 rfl) ?_
        refine lv_iload_n hx hb dX6_ask_78 rfl (lv_at hl 2 rfl) ?_
        refine lv_iload hx hb dX6_ask_79 (lv_at hl 5 rfl) ?_
        refine c_i (run_v (As := [.int v3, .int v6]) (rest := []) C hP hS (c_X6_worstAt hw) gX6_ask_X6_worstAt rfl dsX6_worstAt rfl ⟨rfl, rfl⟩ ⟨Nat.le_of_ble_eq_true rfl, Nat.le_of_ble_eq_true rfl⟩ (by decide) (sM_0 K _) rfl hl.1 rfl (Nat.le_of_ble_eq_true rfl) dX6_ask_81 ⟨Nat.le_of_ble_eq_true rfl, Nat.le_of_ble_eq_true rfl⟩) hS (fun r_9 M_8 H locs hw hP hS => ?_)
        refine lv_istore (lv' := [(7, .int r_9), (0, .ref (kb K + 0)), (2, .int v2), (3, .int v3), (4, .int v4), (5, .int v5), (6, .int v6)]) hx hb dX6_ask_84 hl (by decide) rfl (fun ls hl => ?_)
        refine lv_iload hx hb dX6_ask_86 (lv_at hl 0 rfl) ?_
        refine lv_iload hx hb dX6_ask_88 (lv_at hl 4 rfl) ?_
        refine lv_icmp_ge (tgt := 98) hx hb dX6_ask_90 (by decide) (fun hc => ?_) (fun hc => ?_)
        · have hw := hw.1 hc
          refine lv_iload hx hb dX6_ask_98 (lv_at hl 5 rfl) ?_
          exact ih.2.2.1 _ _ _ _ _ _ _ _ _ _ hw hP hS (lv_sub hl [1, 2, 3, 4, 6, 0] rfl)
        · have hw := hw.2 hc
          refine lv_iload hx hb dX6_ask_93 (lv_at hl 6 rfl) ?_
          refine lv_goto (tgt := 100) hx hb dX6_ask_95 (by decide) ?_
          exact ih.2.2.1 _ _ _ _ _ _ _ _ _ _ hw hP hS (lv_sub hl [1, 2, 3, 4, 6, 0] rfl)
    · intro v2 v3 v4 v6 v7 s0 M H locs ls hw hP hS hl
      have hw : f_X6_ask_100 Q (p_X6_ask Q n) v2 v3 v4 v6 v7 s0 M := hw
      delta f_X6_ask_100 at hw
      refine lv_istore (lv' := [(5, .int s0), (0, .ref (kb K + 0)), (2, .int v2), (3, .int v3), (4, .int v4), (6, .int v6), (7, .int v7)]) hx hb dX6_ask_100 hl (by decide) rfl (fun ls hl => ?_)
      refine lv_iload hx hb dX6_ask_102 (lv_at hl 6 rfl) ?_
      refine lv_iload hx hb dX6_ask_104 (lv_at hl 4 rfl) ?_
      refine lv_icmp_ge (tgt := 114) hx hb dX6_ask_106 (by decide) (fun hc => ?_) (fun hc => ?_)
      · have hw := hw.1 hc
        refine lv_iload hx hb dX6_ask_114 (lv_at hl 4 rfl) ?_
        exact ih.2.2.2.1 _ _ _ _ _ _ _ _ _ hw hP hS (lv_sub hl [1, 2, 3, 0, 5] rfl)
      · have hw := hw.2 hc
        refine lv_iload hx hb dX6_ask_109 (lv_at hl 6 rfl) ?_
        refine lv_goto (tgt := 116) hx hb dX6_ask_111 (by decide) ?_
        exact ih.2.2.2.1 _ _ _ _ _ _ _ _ _ hw hP hS (lv_sub hl [1, 2, 3, 0, 5] rfl)
    · intro v2 v3 v5 v6 s0 M H locs ls hw hP hS hl
      have hw : f_X6_ask_116 Q (p_X6_ask Q n) v2 v3 v5 v6 s0 M := hw
      delta f_X6_ask_116 at hw
      refine lv_istore (lv' := [(4, .int s0), (0, .ref (kb K + 0)), (2, .int v2), (3, .int v3), (5, .int v5), (6, .int v6)]) hx hb dX6_ask_116 hl (by decide) rfl (fun ls hl => ?_)
      refine lv_iinc (v := (v6 + 1)) (lv' := [(6, .int (v6 + 1)), (4, .int s0), (0, .ref (kb K + 0)), (2, .int v2), (3, .int v3), (5, .int v5)]) hx hb dX6_ask_118 hl (k := 5) rfl (by rw [ic_1]) (by decide) rfl (fun ls hl => ?_)
      refine lv_goto (tgt := 70) hx hb dX6_ask_121 (by decide) ?_
      exact ih.2.1 _ _ _ _ _ _ _ _ _ hw hP hS (lv_sub hl [2, 3, 4, 1, 5, 0] rfl)
    · intro v5 M H locs ls hw hP hS hl
      have hw : f_X6_ask_135 Q (p_X6_ask Q n) v5 M := hw
      delta f_X6_ask_135 at hw
      refine lv_iload hx hb dX6_ask_135 (lv_at hl 0 rfl) ?_
      refine lv_goto (tgt := 142) hx hb dX6_ask_137 (by decide) ?_
      exact r_i C hP hS hw dX6_ask_142
theorem dsX6_ask : yX6_ask.cls = RX6 ∧ yX6_ask.cls ≠ "java/lang/invoke/MethodHandle" ∧ yX6_ask.cls ≠ "java/lang/invoke/VarHandle" ∧ (parseMethodDescriptor yX6_ask.desc).map (fun d => d.parameters.length) = some 2 := by decide +kernel
set_option maxRecDepth 100000 in
set_option maxHeartbeats 4000000 in
theorem c_X6_ask {l : Launch} {K : wC} {v1 : Int32} {v2 : Int32} {M : Mem} {Q : Int32 → Mem → Prop} (hw : q_X6_ask v1 v2 M Q) : metI l yX6_ask wsX6_ask rmX6_ask shM 12 K [.ref (kb K + 0), .int v1, .int v2] M Q := by
  refine met_of (cc := cX6_ask) (maxL := 8) (ret := (some .int)) (own := RX6) (by decide) rfl rfl (Nat.le_of_ble_eq_true rfl) ?_
  intro p e s m below meth c ls C hl hP hS
  have hl : lv_has ls 8 [(0, .ref (kb K + 0)), (1, .int v1), (2, .int v2)] := hl
  obtain ⟨hx, hb, hml, hown, hts, hr, hlk, hK⟩ := id C
  have hP0 := hP
  obtain ⟨n, hw⟩ := hw
  have ih := b_X6_ask (l := l) (e := e) (below := below) (Q := Q) C n
  delta e_X6_ask at hw
  refine lv_aload_n hx hb dX6_ask_0 rfl (lv_at hl 0 rfl) ?_
  refine lv_iload_n hx hb dX6_ask_1 rfl (lv_at hl 1 rfl) ?_
  refine c_i (run_v (As := [.int v1]) (rest := []) C hP hS (c_X6_isWheel hw) gX6_ask_X6_isWheel rfl dsX6_isWheel rfl ⟨rfl, rfl⟩ ⟨Nat.le_of_ble_eq_true rfl, Nat.le_of_ble_eq_true rfl⟩ (by decide) (sM_0 K _) rfl hl.1 rfl (Nat.le_of_ble_eq_true rfl) dX6_ask_2 ⟨Nat.le_of_ble_eq_true rfl, Nat.le_of_ble_eq_true rfl⟩) hS (fun r_2 M_1 H locs hw hP hS => ?_)
  refine lv_if_eq (tgt := 18) hx hb dX6_ask_5 (by decide) (fun hc => ?_) (fun hc => ?_)
  · have hw := hw.1 hc
    refine lv_iconst hx hb dX6_ask_18 ic_m1 ?_
    exact r_i C hP hS hw dX6_ask_19
  · have hw := hw.2 hc
    refine lv_iload_n hx hb dX6_ask_8 rfl (lv_at hl 2 rfl) ?_
    refine lv_i2l hx hb dX6_ask_9 rfl ?_
    refine lv_lconst hx hb dX6_ask_10 lc_0 ?_
    refine lv_lconst hx hb dX6_ask_11 lc_1 ?_
    refine c_i (run_s (As := [.long v2.toInt64, .long (0 : Int64), .long (1 : Int64)]) (rest := []) C hP hS (c_X6_in hw) gX6_ask_X6_in rfl dsX6_in rfl ⟨rfl, rfl⟩ ⟨Nat.le_of_ble_eq_true rfl, Nat.le_of_ble_eq_true rfl⟩ hl.1 rfl (Nat.le_of_ble_eq_true rfl) dX6_ask_12 ⟨Nat.le_of_ble_eq_true rfl, Nat.le_of_ble_eq_true rfl⟩) hS (fun r_4 M_3 H locs hw hP hS => ?_)
    refine lv_if_ne (tgt := 20) hx hb dX6_ask_15 (by decide) (fun hc => ?_) (fun hc => ?_)
    · have hw := hw.1 hc
      refine lv_aload_n hx hb dX6_ask_20 rfl (lv_at hl 0 rfl) ?_
      refine lv_bipush hx hb dX6_ask_21 bp_27 ?_
      refine lv_iload_n hx hb dX6_ask_23 rfl (lv_at hl 1 rfl) ?_
      refine lv_iadd hx hb dX6_ask_24 ?_
      refine lv_iload_n hx hb dX6_ask_25 rfl (lv_at hl 1 rfl) ?_
      refine lv_iconst hx hb dX6_ask_26 ic_1 ?_
      refine lv_bipush hx hb dX6_ask_27 bp_9 ?_
      refine c_i (run_v (As := [.int ((27 : Int32) + v1), .int v1, .int (1 : Int32), .int (9 : Int32)]) (rest := []) C hP hS (c_X6_numbersAt hw) gX6_ask_X6_numbersAt rfl dsX6_numbersAt rfl ⟨rfl, rfl⟩ ⟨Nat.le_of_ble_eq_true rfl, Nat.le_of_ble_eq_true rfl⟩ (by decide) (sM_0 K _) rfl hl.1 rfl (Nat.le_of_ble_eq_true rfl) dX6_ask_29 ⟨Nat.le_of_ble_eq_true rfl, Nat.le_of_ble_eq_true rfl⟩) hS (fun r_6 M_5 H locs hw hP hS => ?_)
      refine lv_istore_n (lv' := [(3, .int r_6), (0, .ref (kb K + 0)), (1, .int v1), (2, .int v2)]) hx hb dX6_ask_32 rfl hl (by decide) rfl (fun ls hl => ?_)
      refine lv_iconst hx hb dX6_ask_33 ic_0 ?_
      refine lv_istore (lv' := [(4, .int (0 : Int32)), (3, .int r_6), (0, .ref (kb K + 0)), (1, .int v1), (2, .int v2)]) hx hb dX6_ask_34 hl (by decide) rfl (fun ls hl => ?_)
      refine lv_iconst hx hb dX6_ask_36 ic_1 ?_
      refine lv_istore (lv' := [(5, .int (1 : Int32)), (4, .int (0 : Int32)), (3, .int r_6), (0, .ref (kb K + 0)), (1, .int v1), (2, .int v2)]) hx hb dX6_ask_37 hl (by decide) rfl (fun ls hl => ?_)
      exact ih.1 _ _ _ _ _ _ _ _ hw hP hS (lv_sub hl [3, 5, 2, 1, 0] rfl)
    · have hw := hw.2 hc
      refine lv_iconst hx hb dX6_ask_18 ic_m1 ?_
      exact r_i C hP hS hw dX6_ask_19

theorem kX6_drift_c122 : Cond.constantLong RX6 122 (200) ∈ wsX6_drift := List.mem_of_getElem? (i := 1) rfl
theorem kX6_drift_f7 : Cond.fieldLink RX6 7 (TX6 0).1 (TX6 0).2.1 (TX6 0).2.2.1 ∈ wsX6_drift := List.mem_of_getElem? (i := 2) rfl
theorem hX6_drift_X6 : ∀ w ∈ u_ws RX6 TX6 26, w ∈ wsX6_drift := fun _ h => List.mem_cons_of_mem _ (List.mem_append_right _ (h))
theorem kX6_drift_f144 : Cond.fieldLink RX6 144 (TX6 15).1 (TX6 15).2.1 (TX6 15).2.2.1 ∈ wsX6_drift := List.mem_of_getElem? (i := 5) rfl
theorem kX6_drift_c168 : Cond.constant RX6 168 (20000000) ∈ wsX6_drift := List.mem_of_getElem? (i := 4) rfl
theorem kX6_drift_c241 : Cond.constant RX6 241 (1103515245) ∈ wsX6_drift := List.mem_of_getElem? (i := 3) rfl
abbrev rmX6_drift : Room := { frames := 5, cells := 0, slots := 0, locals := 117 }
abbrev t_X6_drift : Type := (Int32 → Int32 → Int32 → Int32 → Mem → Prop)
def f_X6_drift_58 (Q : Int32 → Mem → Prop) (r : t_X6_drift) (v2 : Int32) (v3 : Int32) (v4 : Int32) (v5 : Int32) (M : Mem) : Prop := ((v2 ≤ v5 → ((¬ v3 = 0 → Q (M 0 15) M) ∧ (v3 = 0 → Q ((20000000 : Int32) + (M 1 179)) M))) ∧ (¬ v2 ≤ v5 → ∀ x_6 : Int32, x_6 = ((v4 * (1103515245 : Int32)) + (12345 : Int32)) → (¬ (M 1 20) = 0) ∧ q_X6_edgeOn (148 : Int32) (((x_6 >>> ((16 : Int32) &&& 31)) &&& (32767 : Int32)) - ((x_6 >>> ((16 : Int32) &&& 31)) &&& (32767 : Int32)) / (M 1 20) * (M 1 20)) M (fun M_8 => r v2 v3 x_6 (v5 + 1) M_8)))
def p_X6_drift (Q : Int32 → Mem → Prop) : Nat → t_X6_drift
  | 0 => fun _ _ _ _ _ => False
  | n + 1 => f_X6_drift_58 Q (p_X6_drift Q n)
def e_X6_drift (v1 : Int32) (v2 : Int32) (v3 : Int32) (Q : Int32 → Mem → Prop) (r : t_X6_drift) (M : Mem) : Prop := q_X6_in v2.toInt64 (1 : Int64) (200 : Int64) M (fun r_2 M_1 => ((r_2 = 0 → Q (-1 : Int32) M_1) ∧ (¬ r_2 = 0 → q_X6_in v3.toInt64 (0 : Int64) (1 : Int64) M_1 (fun r_4 M_3 => ((¬ r_4 = 0 → (((M_3 1 35) = 0 → Q (-2 : Int32) M_3) ∧ (¬ (M_3 1 35) = 0 → ((¬ (M_3 1 20) = 0 → q_X6_edgesGo (0 : Int32) M_3 (fun M_5 => r v2 v3 v1 (0 : Int32) M_5)) ∧ ((M_3 1 20) = 0 → Q (-2 : Int32) M_3))))) ∧ (r_4 = 0 → Q (-1 : Int32) M_3))))))
def q_X6_drift (v1 : Int32) (v2 : Int32) (v3 : Int32) (M : Mem) (Q : Int32 → Mem → Prop) : Prop := ∃ n : Nat, e_X6_drift v1 v2 v3 Q (p_X6_drift Q n) M
set_option maxRecDepth 100000 in
set_option maxHeartbeats 4000000 in
theorem b_X6_drift {l : Launch} {K : wC} {Q : Int32 → Mem → Prop} {p : Program} {e : Env} {s : State} {m : MethodId} {args : Array Value} {below : List Frame} {meth : Method} {c : Code} (C : cx 12 K p s m args meth c cX6_drift 6 wsX6_drift RX6 (some .int)) : ∀ n : Nat, (∀ (v2 : Int32) (v3 : Int32) (v4 : Int32) (v5 : Int32) (M : Mem) (H : Heap) (locs : List Loc) (ls : Array Slot), (p_X6_drift Q n) v2 v3 v4 v5 M → wP shM 12 K M H → va_S (wA 12 K) s.heap H locs → lv_has ls 6 [(0, .ref (kb K + 0)), (2, .int v2), (3, .int v3), (4, .int v4), (5, .int v5)] → W p l e rmX6_drift s m args below meth c H locs 0 0 (MQ below (va_Qi Q (wE shM 12 K) (wA 12 K)) args s 0 0 (wA 12 K)) (F0 m 58 ls [])) := by
  obtain ⟨hx, hb, hml, hown, hts, hr, hlk, hK⟩ := id C
  intro n
  induction n with
  | zero => exact fun _ _ _ _ _ _ _ _ hw _ _ _ => False.elim hw
  | succ n ih =>
    intro v2 v3 v4 v5 M H locs ls hw hP hS hl
    have hw : f_X6_drift_58 Q (p_X6_drift Q n) v2 v3 v4 v5 M := hw
    delta f_X6_drift_58 at hw
    refine lv_iload hx hb dX6_drift_58 (lv_at hl 4 rfl) ?_
    refine lv_iload_n hx hb dX6_drift_60 rfl (lv_at hl 1 rfl) ?_
    refine lv_icmp_ge (tgt := 105) hx hb dX6_drift_61 (by decide) (fun hc => ?_) (fun hc => ?_)
    · have hw := hw.1 hc
      refine lv_iload_n hx hb dX6_drift_105 rfl (lv_at hl 2 rfl) ?_
      refine lv_if_ne (tgt := 123) hx hb dX6_drift_106 (by decide) (fun hc => ?_) (fun hc => ?_)
      · have hw := hw.1 hc
        refine lv_aload_n hx hb dX6_drift_123 rfl (lv_at hl 0 rfl) ?_
        refine g_f C hP (by decide) (sM_0 K _) rfl hX6_drift_X6 15 (by decide) kX6_drift_f144 rfl dX6_drift_124 ?_
        exact r_i C hP hS hw dX6_drift_127
      · have hw := hw.2 hc
        refine lv_ldc hx hb hown (hts _ kX6_drift_c168) dX6_drift_109 ?_
        refine lv_aload_n hx hb dX6_drift_111 rfl (lv_at hl 0 rfl) ?_
        refine g_f C hP (by decide) (sM_0 K _) rfl hX6_drift_X6 0 (by decide) kX6_drift_f7 rfl dX6_drift_112 ?_
        refine lv_sipush hx hb dX6_drift_115 sp_179 ?_
        refine a_il C hP (by decide) (sM_1 K _) vi_179_222 ti_179 dX6_drift_118 ?_
        refine lv_iadd hx hb dX6_drift_119 ?_
        refine lv_goto (tgt := 127) hx hb dX6_drift_120 (by decide) ?_
        exact r_i C hP hS hw dX6_drift_127
    · have hw := hw.2 hc
      refine lv_iload hx hb dX6_drift_64 (lv_at hl 3 rfl) ?_
      refine lv_ldc hx hb hown (hts _ kX6_drift_c241) dX6_drift_66 ?_
      refine lv_imul hx hb dX6_drift_68 ?_
      refine lv_sipush hx hb dX6_drift_69 sp_12345 ?_
      refine lv_iadd hx hb dX6_drift_72 ?_
      refine lv_topi (fun x_6 ex_6 => ?_)
      have hw := hw x_6 ex_6
      refine lv_istore (lv' := [(4, .int x_6), (0, .ref (kb K + 0)), (2, .int v2), (3, .int v3), (5, .int v5)]) hx hb dX6_drift_73 hl (by decide) rfl (fun ls hl => ?_)
      refine lv_aload_n hx hb dX6_drift_75 rfl (lv_at hl 1 rfl) ?_
      refine lv_sipush hx hb dX6_drift_76 sp_148 ?_
      refine lv_iload hx hb dX6_drift_79 (lv_at hl 0 rfl) ?_
      refine lv_bipush hx hb dX6_drift_81 bp_16 ?_
      refine lv_ishr hx hb dX6_drift_83 ?_
      refine lv_sipush hx hb dX6_drift_84 sp_32767 ?_
      refine lv_iand hx hb dX6_drift_87 ?_
      refine lv_aload_n hx hb dX6_drift_88 rfl (lv_at hl 1 rfl) ?_
      refine g_f C hP (by decide) (sM_0 K _) rfl hX6_drift_X6 0 (by decide) kX6_drift_f7 rfl dX6_drift_89 ?_
      refine lv_bipush hx hb dX6_drift_92 bp_20 ?_
      refine a_il C hP (by decide) (sM_1 K _) vi_20_222 ti_20 dX6_drift_94 ?_
      have hz_7 := hw.1
      have hw := hw.2
      refine lv_irem hx hb dX6_drift_95 hz_7 ?_
      refine c_v (run_v (As := [.int (148 : Int32), .int (((x_6 >>> ((16 : Int32) &&& 31)) &&& (32767 : Int32)) - ((x_6 >>> ((16 : Int32) &&& 31)) &&& (32767 : Int32)) / (M 1 20) * (M 1 20))]) (rest := []) C hP hS (c_X6_edgeOn hw) gX6_drift_X6_edgeOn rfl dsX6_edgeOn rfl ⟨rfl, rfl⟩ ⟨Nat.le_of_ble_eq_true rfl, Nat.le_of_ble_eq_true rfl⟩ (by decide) (sM_0 K _) rfl hl.1 rfl (Nat.le_of_ble_eq_true rfl) dX6_drift_96 ⟨Nat.le_of_ble_eq_true rfl, Nat.le_of_ble_eq_true rfl⟩) hS (fun M_8 H locs hw hP hS => ?_)
      refine lv_iinc (v := (v5 + 1)) (lv' := [(5, .int (v5 + 1)), (4, .int x_6), (0, .ref (kb K + 0)), (2, .int v2), (3, .int v3)]) hx hb dX6_drift_99 hl (k := 4) rfl (by rw [ic_1]) (by decide) rfl (fun ls hl => ?_)
      refine lv_goto (tgt := 58) hx hb dX6_drift_102 (by decide) ?_
      exact ih _ _ _ _ _ _ _ _ hw hP hS (lv_sub hl [2, 3, 4, 1, 0] rfl)
theorem dsX6_drift : yX6_drift.cls = RX6 ∧ yX6_drift.cls ≠ "java/lang/invoke/MethodHandle" ∧ yX6_drift.cls ≠ "java/lang/invoke/VarHandle" ∧ (parseMethodDescriptor yX6_drift.desc).map (fun d => d.parameters.length) = some 3 := by decide +kernel
set_option maxRecDepth 100000 in
set_option maxHeartbeats 4000000 in
theorem c_X6_drift {l : Launch} {K : wC} {v1 : Int32} {v2 : Int32} {v3 : Int32} {M : Mem} {Q : Int32 → Mem → Prop} (hw : q_X6_drift v1 v2 v3 M Q) : metI l yX6_drift wsX6_drift rmX6_drift shM 12 K [.ref (kb K + 0), .int v1, .int v2, .int v3] M Q := by
  refine met_of (cc := cX6_drift) (maxL := 6) (ret := (some .int)) (own := RX6) (by decide) rfl rfl (Nat.le_of_ble_eq_true rfl) ?_
  intro p e s m below meth c ls C hl hP hS
  have hl : lv_has ls 6 [(0, .ref (kb K + 0)), (1, .int v1), (2, .int v2), (3, .int v3)] := hl
  obtain ⟨hx, hb, hml, hown, hts, hr, hlk, hK⟩ := id C
  have hP0 := hP
  obtain ⟨n, hw⟩ := hw
  have ih := b_X6_drift (l := l) (e := e) (below := below) (Q := Q) C n
  delta e_X6_drift at hw
  refine lv_iload_n hx hb dX6_drift_0 rfl (lv_at hl 2 rfl) ?_
  refine lv_i2l hx hb dX6_drift_1 rfl ?_
  refine lv_lconst hx hb dX6_drift_2 lc_1 ?_
  refine lv_ldc2 hx hb hown (hts _ kX6_drift_c122) dX6_drift_3 ?_
  refine c_i (run_s (As := [.long v2.toInt64, .long (1 : Int64), .long (200 : Int64)]) (rest := []) C hP hS (c_X6_in hw) gX6_drift_X6_in rfl dsX6_in rfl ⟨rfl, rfl⟩ ⟨Nat.le_of_ble_eq_true rfl, Nat.le_of_ble_eq_true rfl⟩ hl.1 rfl (Nat.le_of_ble_eq_true rfl) dX6_drift_6 ⟨Nat.le_of_ble_eq_true rfl, Nat.le_of_ble_eq_true rfl⟩) hS (fun r_2 M_1 H locs hw hP hS => ?_)
  refine lv_if_eq (tgt := 22) hx hb dX6_drift_9 (by decide) (fun hc => ?_) (fun hc => ?_)
  · have hw := hw.1 hc
    refine lv_iconst hx hb dX6_drift_22 ic_m1 ?_
    exact r_i C hP hS hw dX6_drift_23
  · have hw := hw.2 hc
    refine lv_iload_n hx hb dX6_drift_12 rfl (lv_at hl 3 rfl) ?_
    refine lv_i2l hx hb dX6_drift_13 rfl ?_
    refine lv_lconst hx hb dX6_drift_14 lc_0 ?_
    refine lv_lconst hx hb dX6_drift_15 lc_1 ?_
    refine c_i (run_s (As := [.long v3.toInt64, .long (0 : Int64), .long (1 : Int64)]) (rest := []) C hP hS (c_X6_in hw) gX6_drift_X6_in rfl dsX6_in rfl ⟨rfl, rfl⟩ ⟨Nat.le_of_ble_eq_true rfl, Nat.le_of_ble_eq_true rfl⟩ hl.1 rfl (Nat.le_of_ble_eq_true rfl) dX6_drift_16 ⟨Nat.le_of_ble_eq_true rfl, Nat.le_of_ble_eq_true rfl⟩) hS (fun r_4 M_3 H locs hw hP hS => ?_)
    refine lv_if_ne (tgt := 24) hx hb dX6_drift_19 (by decide) (fun hc => ?_) (fun hc => ?_)
    · have hw := hw.1 hc
      refine lv_aload_n hx hb dX6_drift_24 rfl (lv_at hl 0 rfl) ?_
      refine g_f C hP (by decide) (sM_0 K _) rfl hX6_drift_X6 0 (by decide) kX6_drift_f7 rfl dX6_drift_25 ?_
      refine lv_bipush hx hb dX6_drift_28 bp_35 ?_
      refine a_il C hP (by decide) (sM_1 K _) vi_35_222 ti_35 dX6_drift_30 ?_
      refine lv_if_eq (tgt := 44) hx hb dX6_drift_31 (by decide) (fun hc => ?_) (fun hc => ?_)
      · have hw := hw.1 hc
        refine lv_bipush hx hb dX6_drift_44 bp_m2 ?_
        exact r_i C hP hS hw dX6_drift_46
      · have hw := hw.2 hc
        refine lv_aload_n hx hb dX6_drift_34 rfl (lv_at hl 0 rfl) ?_
        refine g_f C hP (by decide) (sM_0 K _) rfl hX6_drift_X6 0 (by decide) kX6_drift_f7 rfl dX6_drift_35 ?_
        refine lv_bipush hx hb dX6_drift_38 bp_20 ?_
        refine a_il C hP (by decide) (sM_1 K _) vi_20_222 ti_20 dX6_drift_40 ?_
        refine lv_if_ne (tgt := 47) hx hb dX6_drift_41 (by decide) (fun hc => ?_) (fun hc => ?_)
        · have hw := hw.1 hc
          refine lv_aload_n hx hb dX6_drift_47 rfl (lv_at hl 0 rfl) ?_
          refine lv_iconst hx hb dX6_drift_48 ic_0 ?_
          refine c_v (run_v (As := [.int (0 : Int32)]) (rest := []) C hP hS (c_X6_edgesGo hw) gX6_drift_X6_edgesGo rfl dsX6_edgesGo rfl ⟨rfl, rfl⟩ ⟨Nat.le_of_ble_eq_true rfl, Nat.le_of_ble_eq_true rfl⟩ (by decide) (sM_0 K _) rfl hl.1 rfl (Nat.le_of_ble_eq_true rfl) dX6_drift_49 ⟨Nat.le_of_ble_eq_true rfl, Nat.le_of_ble_eq_true rfl⟩) hS (fun M_5 H locs hw hP hS => ?_)
          refine lv_iload_n hx hb dX6_drift_52 rfl (lv_at hl 1 rfl) ?_
          refine lv_istore (lv' := [(4, .int v1), (0, .ref (kb K + 0)), (1, .int v1), (2, .int v2), (3, .int v3)]) hx hb dX6_drift_53 hl (by decide) rfl (fun ls hl => ?_)
          refine lv_iconst hx hb dX6_drift_55 ic_0 ?_
          refine lv_istore (lv' := [(5, .int (0 : Int32)), (4, .int v1), (0, .ref (kb K + 0)), (1, .int v1), (2, .int v2), (3, .int v3)]) hx hb dX6_drift_56 hl (by decide) rfl (fun ls hl => ?_)
          exact ih _ _ _ _ _ _ _ _ hw hP hS (lv_sub hl [2, 4, 5, 1, 0] rfl)
        · have hw := hw.2 hc
          refine lv_bipush hx hb dX6_drift_44 bp_m2 ?_
          exact r_i C hP hS hw dX6_drift_46
    · have hw := hw.2 hc
      refine lv_iconst hx hb dX6_drift_22 ic_m1 ?_
      exact r_i C hP hS hw dX6_drift_23

theorem kX6_keep_f35 : Cond.fieldLink RX6 35 (TX6 21).1 (TX6 21).2.1 (TX6 21).2.2.1 ∈ wsX6_keep := List.mem_of_getElem? (i := 1) rfl
theorem hX6_keep_X6 : ∀ w ∈ u_ws RX6 TX6 26, w ∈ wsX6_keep := fun _ h => List.mem_cons_of_mem _ (List.mem_append_right _ (h))
abbrev rmX6_keep : Room := { frames := 1, cells := 0, slots := 0, locals := 25 }
def f_X6_keep_37 (Q : Int32 → Mem → Prop) (v1 : Int32) (s0 : Int32) (M : Mem) : Prop := vp_in v1 2 ∧ Q s0 (mU M 8 v1.toNatClampNeg (1 : Int32))
def q_X6_keep (v1 : Int32) (M : Mem) (Q : Int32 → Mem → Prop) : Prop := q_X6_in v1.toInt64 (0 : Int64) (1 : Int64) M (fun r_2 M_1 => ((¬ r_2 = 0 → q_X6_copies (0 : Int32) ((37 : Int32) * (v1 + (1 : Int32))) M_1 (fun M_3 => vp_in v1 2 ∧ (((M_3 8 v1.toNatClampNeg) = 0 → f_X6_keep_37 Q v1 (0 : Int32) M_3) ∧ (¬ (M_3 8 v1.toNatClampNeg) = 0 → f_X6_keep_37 Q v1 (1 : Int32) M_3)))) ∧ (r_2 = 0 → Q (-1 : Int32) M_1)))
set_option maxRecDepth 100000 in
set_option maxHeartbeats 4000000 in
theorem b_X6_keep_37 {l : Launch} {K : wC} {Q : Int32 → Mem → Prop} {p : Program} {e : Env} {s : State} {m : MethodId} {args : Array Value} {below : List Frame} {meth : Method} {c : Code} (C : cx 12 K p s m args meth c cX6_keep 3 wsX6_keep RX6 (some .int)) (v1 : Int32) (s0 : Int32) (M : Mem) (H : Heap) (locs : List Loc) (ls : Array Slot) (hw : f_X6_keep_37 Q v1 s0 M) (hP : wP shM 12 K M H) (hS : va_S (wA 12 K) s.heap H locs) (hl : lv_has ls 3 [(0, .ref (kb K + 0)), (1, .int v1)]) : W p l e rmX6_keep s m args below meth c H locs 0 0 (MQ below (va_Qi Q (wE shM 12 K) (wA 12 K)) args s 0 0 (wA 12 K)) (F0 m 37 ls [.int s0]) := by
  obtain ⟨hx, hb, hml, hown, hts, hr, hlk, hK⟩ := id C
  delta f_X6_keep_37 at hw
  refine lv_istore_n (lv' := [(2, .int s0), (0, .ref (kb K + 0)), (1, .int v1)]) hx hb dX6_keep_37 rfl hl (by decide) rfl (fun ls hl => ?_)
  refine lv_aload_n hx hb dX6_keep_38 rfl (lv_at hl 1 rfl) ?_
  refine g_f C hP (by decide) (sM_0 K _) rfl hX6_keep_X6 21 (by decide) kX6_keep_f35 rfl dX6_keep_39 ?_
  refine lv_iload_n hx hb dX6_keep_42 rfl (lv_at hl 2 rfl) ?_
  refine lv_iconst hx hb dX6_keep_43 ic_1 ?_
  have hi_5 := hw.1
  have hw := hw.2
  refine a_zs C hP hS (by decide) (sM_8 K) (by decide) hi_5 rfl dX6_keep_44 (fun H locs hP hS => ?_)
  refine lv_iload_n hx hb dX6_keep_45 rfl (lv_at hl 0 rfl) ?_
  exact r_i C hP hS hw dX6_keep_46
theorem dsX6_keep : yX6_keep.cls = RX6 ∧ yX6_keep.cls ≠ "java/lang/invoke/MethodHandle" ∧ yX6_keep.cls ≠ "java/lang/invoke/VarHandle" ∧ (parseMethodDescriptor yX6_keep.desc).map (fun d => d.parameters.length) = some 1 := by decide +kernel
set_option maxRecDepth 100000 in
set_option maxHeartbeats 4000000 in
theorem c_X6_keep {l : Launch} {K : wC} {v1 : Int32} {M : Mem} {Q : Int32 → Mem → Prop} (hw : q_X6_keep v1 M Q) : metI l yX6_keep wsX6_keep rmX6_keep shM 12 K [.ref (kb K + 0), .int v1] M Q := by
  refine met_of (cc := cX6_keep) (maxL := 3) (ret := (some .int)) (own := RX6) (by decide) rfl rfl (Nat.le_of_ble_eq_true rfl) ?_
  intro p e s m below meth c ls C hl hP hS
  have hl : lv_has ls 3 [(0, .ref (kb K + 0)), (1, .int v1)] := hl
  obtain ⟨hx, hb, hml, hown, hts, hr, hlk, hK⟩ := id C
  have hP0 := hP
  delta q_X6_keep at hw
  refine lv_iload_n hx hb dX6_keep_0 rfl (lv_at hl 1 rfl) ?_
  refine lv_i2l hx hb dX6_keep_1 rfl ?_
  refine lv_lconst hx hb dX6_keep_2 lc_0 ?_
  refine lv_lconst hx hb dX6_keep_3 lc_1 ?_
  refine c_i (run_s (As := [.long v1.toInt64, .long (0 : Int64), .long (1 : Int64)]) (rest := []) C hP hS (c_X6_in hw) gX6_keep_X6_in rfl dsX6_in rfl ⟨rfl, rfl⟩ ⟨Nat.le_of_ble_eq_true rfl, Nat.le_of_ble_eq_true rfl⟩ hl.1 rfl (Nat.le_of_ble_eq_true rfl) dX6_keep_4 ⟨Nat.le_of_ble_eq_true rfl, Nat.le_of_ble_eq_true rfl⟩) hS (fun r_2 M_1 H locs hw hP hS => ?_)
  refine lv_if_ne (tgt := 12) hx hb dX6_keep_7 (by decide) (fun hc => ?_) (fun hc => ?_)
  · have hw := hw.1 hc
    refine lv_aload_n hx hb dX6_keep_12 rfl (lv_at hl 0 rfl) ?_
    refine lv_iconst hx hb dX6_keep_13 ic_0 ?_
    refine lv_bipush hx hb dX6_keep_14 bp_37 ?_
    refine lv_iload_n hx hb dX6_keep_16 rfl (lv_at hl 1 rfl) ?_
    refine lv_iconst hx hb dX6_keep_17 ic_1 ?_
    refine lv_iadd hx hb dX6_keep_18 ?_
    refine lv_imul hx hb dX6_keep_19 ?_
    refine c_v (run_v (As := [.int (0 : Int32), .int ((37 : Int32) * (v1 + (1 : Int32)))]) (rest := []) C hP hS (c_X6_copies hw) gX6_keep_X6_copies rfl dsX6_copies rfl ⟨rfl, rfl⟩ ⟨Nat.le_of_ble_eq_true rfl, Nat.le_of_ble_eq_true rfl⟩ (by decide) (sM_0 K _) rfl hl.1 rfl (Nat.le_of_ble_eq_true rfl) dX6_keep_20 ⟨Nat.le_of_ble_eq_true rfl, Nat.le_of_ble_eq_true rfl⟩) hS (fun M_3 H locs hw hP hS => ?_)
    refine lv_aload_n hx hb dX6_keep_23 rfl (lv_at hl 0 rfl) ?_
    refine g_f C hP (by decide) (sM_0 K _) rfl hX6_keep_X6 21 (by decide) kX6_keep_f35 rfl dX6_keep_24 ?_
    refine lv_iload_n hx hb dX6_keep_27 rfl (lv_at hl 1 rfl) ?_
    have hi_4 := hw.1
    have hw := hw.2
    refine a_zl C hP (by decide) (sM_8 K _) hi_4 rfl dX6_keep_28 ?_
    refine lv_if_eq (tgt := 36) hx hb dX6_keep_29 (by decide) (fun hc => ?_) (fun hc => ?_)
    · have hw := hw.1 hc
      refine lv_iconst hx hb dX6_keep_36 ic_0 ?_
      exact b_X6_keep_37 C _ _ _ _ _ _ hw hP hS (lv_sub hl [0, 1] rfl)
    · have hw := hw.2 hc
      refine lv_iconst hx hb dX6_keep_32 ic_1 ?_
      refine lv_goto (tgt := 37) hx hb dX6_keep_33 (by decide) ?_
      exact b_X6_keep_37 C _ _ _ _ _ _ hw hP hS (lv_sub hl [0, 1] rfl)
  · have hw := hw.2 hc
    refine lv_iconst hx hb dX6_keep_10 ic_m1 ?_
    exact r_i C hP hS hw dX6_keep_11

theorem kX6_back_f35 : Cond.fieldLink RX6 35 (TX6 21).1 (TX6 21).2.1 (TX6 21).2.2.1 ∈ wsX6_back := List.mem_of_getElem? (i := 1) rfl
theorem hX6_back_X6 : ∀ w ∈ u_ws RX6 TX6 26, w ∈ wsX6_back := fun _ h => List.mem_cons_of_mem _ (List.mem_append_right _ (h))
theorem kX6_back_f7 : Cond.fieldLink RX6 7 (TX6 0).1 (TX6 0).2.1 (TX6 0).2.2.1 ∈ wsX6_back := List.mem_of_getElem? (i := 2) rfl
abbrev rmX6_back : Room := { frames := 1, cells := 0, slots := 0, locals := 25 }
def q_X6_back (v1 : Int32) (M : Mem) (Q : Int32 → Mem → Prop) : Prop := q_X6_in v1.toInt64 (0 : Int64) (1 : Int64) M (fun r_2 M_1 => ((¬ r_2 = 0 → vp_in v1 2 ∧ ((¬ (M_1 8 v1.toNatClampNeg) = 0 → q_X6_copies ((37 : Int32) * (v1 + (1 : Int32))) (0 : Int32) M_1 (fun M_4 => Q (M_4 1 36) M_4)) ∧ ((M_1 8 v1.toNatClampNeg) = 0 → Q (-2 : Int32) M_1))) ∧ (r_2 = 0 → Q (-1 : Int32) M_1)))
theorem dsX6_back : yX6_back.cls = RX6 ∧ yX6_back.cls ≠ "java/lang/invoke/MethodHandle" ∧ yX6_back.cls ≠ "java/lang/invoke/VarHandle" ∧ (parseMethodDescriptor yX6_back.desc).map (fun d => d.parameters.length) = some 1 := by decide +kernel
set_option maxRecDepth 100000 in
set_option maxHeartbeats 4000000 in
theorem c_X6_back {l : Launch} {K : wC} {v1 : Int32} {M : Mem} {Q : Int32 → Mem → Prop} (hw : q_X6_back v1 M Q) : metI l yX6_back wsX6_back rmX6_back shM 12 K [.ref (kb K + 0), .int v1] M Q := by
  refine met_of (cc := cX6_back) (maxL := 2) (ret := (some .int)) (own := RX6) (by decide) rfl rfl (Nat.le_of_ble_eq_true rfl) ?_
  intro p e s m below meth c ls C hl hP hS
  have hl : lv_has ls 2 [(0, .ref (kb K + 0)), (1, .int v1)] := hl
  obtain ⟨hx, hb, hml, hown, hts, hr, hlk, hK⟩ := id C
  have hP0 := hP
  delta q_X6_back at hw
  refine lv_iload_n hx hb dX6_back_0 rfl (lv_at hl 1 rfl) ?_
  refine lv_i2l hx hb dX6_back_1 rfl ?_
  refine lv_lconst hx hb dX6_back_2 lc_0 ?_
  refine lv_lconst hx hb dX6_back_3 lc_1 ?_
  refine c_i (run_s (As := [.long v1.toInt64, .long (0 : Int64), .long (1 : Int64)]) (rest := []) C hP hS (c_X6_in hw) gX6_back_X6_in rfl dsX6_in rfl ⟨rfl, rfl⟩ ⟨Nat.le_of_ble_eq_true rfl, Nat.le_of_ble_eq_true rfl⟩ hl.1 rfl (Nat.le_of_ble_eq_true rfl) dX6_back_4 ⟨Nat.le_of_ble_eq_true rfl, Nat.le_of_ble_eq_true rfl⟩) hS (fun r_2 M_1 H locs hw hP hS => ?_)
  refine lv_if_ne (tgt := 12) hx hb dX6_back_7 (by decide) (fun hc => ?_) (fun hc => ?_)
  · have hw := hw.1 hc
    refine lv_aload_n hx hb dX6_back_12 rfl (lv_at hl 0 rfl) ?_
    refine g_f C hP (by decide) (sM_0 K _) rfl hX6_back_X6 21 (by decide) kX6_back_f35 rfl dX6_back_13 ?_
    refine lv_iload_n hx hb dX6_back_16 rfl (lv_at hl 1 rfl) ?_
    have hi_3 := hw.1
    have hw := hw.2
    refine a_zl C hP (by decide) (sM_8 K _) hi_3 rfl dX6_back_17 ?_
    refine lv_if_ne (tgt := 24) hx hb dX6_back_18 (by decide) (fun hc => ?_) (fun hc => ?_)
    · have hw := hw.1 hc
      refine lv_aload_n hx hb dX6_back_24 rfl (lv_at hl 0 rfl) ?_
      refine lv_bipush hx hb dX6_back_25 bp_37 ?_
      refine lv_iload_n hx hb dX6_back_27 rfl (lv_at hl 1 rfl) ?_
      refine lv_iconst hx hb dX6_back_28 ic_1 ?_
      refine lv_iadd hx hb dX6_back_29 ?_
      refine lv_imul hx hb dX6_back_30 ?_
      refine lv_iconst hx hb dX6_back_31 ic_0 ?_
      refine c_v (run_v (As := [.int ((37 : Int32) * (v1 + (1 : Int32))), .int (0 : Int32)]) (rest := []) C hP hS (c_X6_copies hw) gX6_back_X6_copies rfl dsX6_copies rfl ⟨rfl, rfl⟩ ⟨Nat.le_of_ble_eq_true rfl, Nat.le_of_ble_eq_true rfl⟩ (by decide) (sM_0 K _) rfl hl.1 rfl (Nat.le_of_ble_eq_true rfl) dX6_back_32 ⟨Nat.le_of_ble_eq_true rfl, Nat.le_of_ble_eq_true rfl⟩) hS (fun M_4 H locs hw hP hS => ?_)
      refine lv_aload_n hx hb dX6_back_35 rfl (lv_at hl 0 rfl) ?_
      refine g_f C hP (by decide) (sM_0 K _) rfl hX6_back_X6 0 (by decide) kX6_back_f7 rfl dX6_back_36 ?_
      refine lv_bipush hx hb dX6_back_39 bp_36 ?_
      refine a_il C hP (by decide) (sM_1 K _) vi_36_222 ti_36 dX6_back_41 ?_
      exact r_i C hP hS hw dX6_back_42
    · have hw := hw.2 hc
      refine lv_bipush hx hb dX6_back_21 bp_m2 ?_
      exact r_i C hP hS hw dX6_back_23
  · have hw := hw.2 hc
    refine lv_iconst hx hb dX6_back_10 ic_m1 ?_
    exact r_i C hP hS hw dX6_back_11

theorem kX6_sheet_c175 : Cond.constantLong RX6 175 (3) ∈ wsX6_sheet := List.mem_of_getElem? (i := 1) rfl
theorem kX6_sheet_c163 : Cond.constantLong RX6 163 (2) ∈ wsX6_sheet := List.mem_of_getElem? (i := 2) rfl
theorem kX6_sheet_f39 : Cond.fieldLink RX6 39 (TX6 22).1 (TX6 22).2.1 (TX6 22).2.2.1 ∈ wsX6_sheet := List.mem_of_getElem? (i := 3) rfl
theorem hX6_sheet_X6 : ∀ w ∈ u_ws RX6 TX6 26, w ∈ wsX6_sheet := fun _ h => List.mem_cons_of_mem _ (List.mem_append_right _ (h))
theorem kX6_sheet_f42 : Cond.fieldLink RX6 42 (TX6 23).1 (TX6 23).2.1 (TX6 23).2.2.1 ∈ wsX6_sheet := List.mem_of_getElem? (i := 4) rfl
theorem kX6_sheet_f45 : Cond.fieldLink RX6 45 (TX6 24).1 (TX6 24).2.1 (TX6 24).2.2.1 ∈ wsX6_sheet := List.mem_of_getElem? (i := 5) rfl
abbrev rmX6_sheet : Room := { frames := 1, cells := 0, slots := 0, locals := 25 }
abbrev t_X6_sheet : Type := (Int32 → Int32 → Mem → Prop)
def f_X6_sheet_56 (Q : Int32 → Mem → Prop) (r : t_X6_sheet) (v1 : Int32) (v4 : Int32) (M : Mem) : Prop := (((40 : Int32) ≤ v4 → Q (1 : Int32) M) ∧ (¬ (40 : Int32) ≤ v4 → vp_in (((40 : Int32) * v1) + v4) 160 ∧ r v1 (v4 + 1) (mU M 11 (((40 : Int32) * v1) + v4).toNatClampNeg (0 : Int32))))
def p_X6_sheet (Q : Int32 → Mem → Prop) : Nat → t_X6_sheet
  | 0 => fun _ _ _ => False
  | n + 1 => f_X6_sheet_56 Q (p_X6_sheet Q n)
def e_X6_sheet (v1 : Int32) (v2 : Int32) (v3 : Int32) (Q : Int32 → Mem → Prop) (r : t_X6_sheet) (M : Mem) : Prop := q_X6_in v1.toInt64 (0 : Int64) (3 : Int64) M (fun r_2 M_1 => ((r_2 = 0 → Q (-1 : Int32) M_1) ∧ (¬ r_2 = 0 → q_X6_in v2.toInt64 (0 : Int64) (2 : Int64) M_1 (fun r_4 M_3 => ((r_4 = 0 → Q (-1 : Int32) M_3) ∧ (¬ r_4 = 0 → ((v3 ≤ (40 : Int32) → ((0 ≤ v3 → vp_in v1 4 ∧ vp_in v1 4 ∧ r v1 (0 : Int32) (mU (mU M_3 9 v1.toNatClampNeg v2) 10 v1.toNatClampNeg v3)) ∧ (¬ 0 ≤ v3 → Q (-14 : Int32) M_3))) ∧ (¬ v3 ≤ (40 : Int32) → Q (-1 : Int32) M_3))))))))
def q_X6_sheet (v1 : Int32) (v2 : Int32) (v3 : Int32) (M : Mem) (Q : Int32 → Mem → Prop) : Prop := ∃ n : Nat, e_X6_sheet v1 v2 v3 Q (p_X6_sheet Q n) M
set_option maxRecDepth 100000 in
set_option maxHeartbeats 4000000 in
theorem b_X6_sheet {l : Launch} {K : wC} {Q : Int32 → Mem → Prop} {p : Program} {e : Env} {s : State} {m : MethodId} {args : Array Value} {below : List Frame} {meth : Method} {c : Code} (C : cx 12 K p s m args meth c cX6_sheet 5 wsX6_sheet RX6 (some .int)) : ∀ n : Nat, (∀ (v1 : Int32) (v4 : Int32) (M : Mem) (H : Heap) (locs : List Loc) (ls : Array Slot), (p_X6_sheet Q n) v1 v4 M → wP shM 12 K M H → va_S (wA 12 K) s.heap H locs → lv_has ls 5 [(0, .ref (kb K + 0)), (1, .int v1), (4, .int v4)] → W p l e rmX6_sheet s m args below meth c H locs 0 0 (MQ below (va_Qi Q (wE shM 12 K) (wA 12 K)) args s 0 0 (wA 12 K)) (F0 m 56 ls [])) := by
  obtain ⟨hx, hb, hml, hown, hts, hr, hlk, hK⟩ := id C
  intro n
  induction n with
  | zero => exact fun _ _ _ _ _ _ hw _ _ _ => False.elim hw
  | succ n ih =>
    intro v1 v4 M H locs ls hw hP hS hl
    have hw : f_X6_sheet_56 Q (p_X6_sheet Q n) v1 v4 M := hw
    delta f_X6_sheet_56 at hw
    refine lv_iload hx hb dX6_sheet_56 (lv_at hl 2 rfl) ?_
    refine lv_bipush hx hb dX6_sheet_58 bp_40 ?_
    refine lv_icmp_ge (tgt := 82) hx hb dX6_sheet_60 (by decide) (fun hc => ?_) (fun hc => ?_)
    · have hw := hw.1 hc
      refine lv_iconst hx hb dX6_sheet_82 ic_1 ?_
      exact r_i C hP hS hw dX6_sheet_83
    · have hw := hw.2 hc
      refine lv_aload_n hx hb dX6_sheet_63 rfl (lv_at hl 0 rfl) ?_
      refine g_f C hP (by decide) (sM_0 K _) rfl hX6_sheet_X6 24 (by decide) kX6_sheet_f45 rfl dX6_sheet_64 ?_
      refine lv_bipush hx hb dX6_sheet_67 bp_40 ?_
      refine lv_iload_n hx hb dX6_sheet_69 rfl (lv_at hl 1 rfl) ?_
      refine lv_imul hx hb dX6_sheet_70 ?_
      refine lv_iload hx hb dX6_sheet_71 (lv_at hl 2 rfl) ?_
      refine lv_iadd hx hb dX6_sheet_73 ?_
      refine lv_iconst hx hb dX6_sheet_74 ic_0 ?_
      have hi_7 := hw.1
      have hw := hw.2
      refine a_is C hP hS (by decide) (sM_11 K) hi_7 rfl dX6_sheet_75 (fun H locs hP hS => ?_)
      refine lv_iinc (v := (v4 + 1)) (lv' := [(4, .int (v4 + 1)), (0, .ref (kb K + 0)), (1, .int v1)]) hx hb dX6_sheet_76 hl (k := 2) rfl (by rw [ic_1]) (by decide) rfl (fun ls hl => ?_)
      refine lv_goto (tgt := 56) hx hb dX6_sheet_79 (by decide) ?_
      exact ih _ _ _ _ _ _ hw hP hS (lv_sub hl [1, 2, 0] rfl)
theorem dsX6_sheet : yX6_sheet.cls = RX6 ∧ yX6_sheet.cls ≠ "java/lang/invoke/MethodHandle" ∧ yX6_sheet.cls ≠ "java/lang/invoke/VarHandle" ∧ (parseMethodDescriptor yX6_sheet.desc).map (fun d => d.parameters.length) = some 3 := by decide +kernel
set_option maxRecDepth 100000 in
set_option maxHeartbeats 4000000 in
theorem c_X6_sheet {l : Launch} {K : wC} {v1 : Int32} {v2 : Int32} {v3 : Int32} {M : Mem} {Q : Int32 → Mem → Prop} (hw : q_X6_sheet v1 v2 v3 M Q) : metI l yX6_sheet wsX6_sheet rmX6_sheet shM 12 K [.ref (kb K + 0), .int v1, .int v2, .int v3] M Q := by
  refine met_of (cc := cX6_sheet) (maxL := 5) (ret := (some .int)) (own := RX6) (by decide) rfl rfl (Nat.le_of_ble_eq_true rfl) ?_
  intro p e s m below meth c ls C hl hP hS
  have hl : lv_has ls 5 [(0, .ref (kb K + 0)), (1, .int v1), (2, .int v2), (3, .int v3)] := hl
  obtain ⟨hx, hb, hml, hown, hts, hr, hlk, hK⟩ := id C
  have hP0 := hP
  obtain ⟨n, hw⟩ := hw
  have ih := b_X6_sheet (l := l) (e := e) (below := below) (Q := Q) C n
  delta e_X6_sheet at hw
  refine lv_iload_n hx hb dX6_sheet_0 rfl (lv_at hl 1 rfl) ?_
  refine lv_i2l hx hb dX6_sheet_1 rfl ?_
  refine lv_lconst hx hb dX6_sheet_2 lc_0 ?_
  refine lv_ldc2 hx hb hown (hts _ kX6_sheet_c175) dX6_sheet_3 ?_
  refine c_i (run_s (As := [.long v1.toInt64, .long (0 : Int64), .long (3 : Int64)]) (rest := []) C hP hS (c_X6_in hw) gX6_sheet_X6_in rfl dsX6_in rfl ⟨rfl, rfl⟩ ⟨Nat.le_of_ble_eq_true rfl, Nat.le_of_ble_eq_true rfl⟩ hl.1 rfl (Nat.le_of_ble_eq_true rfl) dX6_sheet_6 ⟨Nat.le_of_ble_eq_true rfl, Nat.le_of_ble_eq_true rfl⟩) hS (fun r_2 M_1 H locs hw hP hS => ?_)
  refine lv_if_eq (tgt := 30) hx hb dX6_sheet_9 (by decide) (fun hc => ?_) (fun hc => ?_)
  · have hw := hw.1 hc
    refine lv_iconst hx hb dX6_sheet_30 ic_m1 ?_
    exact r_i C hP hS hw dX6_sheet_31
  · have hw := hw.2 hc
    refine lv_iload_n hx hb dX6_sheet_12 rfl (lv_at hl 2 rfl) ?_
    refine lv_i2l hx hb dX6_sheet_13 rfl ?_
    refine lv_lconst hx hb dX6_sheet_14 lc_0 ?_
    refine lv_ldc2 hx hb hown (hts _ kX6_sheet_c163) dX6_sheet_15 ?_
    refine c_i (run_s (As := [.long v2.toInt64, .long (0 : Int64), .long (2 : Int64)]) (rest := []) C hP hS (c_X6_in hw) gX6_sheet_X6_in rfl dsX6_in rfl ⟨rfl, rfl⟩ ⟨Nat.le_of_ble_eq_true rfl, Nat.le_of_ble_eq_true rfl⟩ hl.1 rfl (Nat.le_of_ble_eq_true rfl) dX6_sheet_18 ⟨Nat.le_of_ble_eq_true rfl, Nat.le_of_ble_eq_true rfl⟩) hS (fun r_4 M_3 H locs hw hP hS => ?_)
    refine lv_if_eq (tgt := 30) hx hb dX6_sheet_21 (by decide) (fun hc => ?_) (fun hc => ?_)
    · have hw := hw.1 hc
      refine lv_iconst hx hb dX6_sheet_30 ic_m1 ?_
      exact r_i C hP hS hw dX6_sheet_31
    · have hw := hw.2 hc
      refine lv_iload_n hx hb dX6_sheet_24 rfl (lv_at hl 3 rfl) ?_
      refine lv_bipush hx hb dX6_sheet_25 bp_40 ?_
      refine lv_icmp_le (tgt := 32) hx hb dX6_sheet_27 (by decide) (fun hc => ?_) (fun hc => ?_)
      · have hw := hw.1 hc
        refine lv_iload_n hx hb dX6_sheet_32 rfl (lv_at hl 3 rfl) ?_
        refine lv_if_ge (tgt := 39) hx hb dX6_sheet_33 (by decide) (fun hc => ?_) (fun hc => ?_)
        · have hw := hw.1 hc
          refine lv_aload_n hx hb dX6_sheet_39 rfl (lv_at hl 0 rfl) ?_
          refine g_f C hP (by decide) (sM_0 K _) rfl hX6_sheet_X6 22 (by decide) kX6_sheet_f39 rfl dX6_sheet_40 ?_
          refine lv_iload_n hx hb dX6_sheet_43 rfl (lv_at hl 1 rfl) ?_
          refine lv_iload_n hx hb dX6_sheet_44 rfl (lv_at hl 2 rfl) ?_
          have hi_5 := hw.1
          have hw := hw.2
          refine a_is C hP hS (by decide) (sM_9 K) hi_5 rfl dX6_sheet_45 (fun H locs hP hS => ?_)
          refine lv_aload_n hx hb dX6_sheet_46 rfl (lv_at hl 0 rfl) ?_
          refine g_f C hP (by decide) (sM_0 K _) rfl hX6_sheet_X6 23 (by decide) kX6_sheet_f42 rfl dX6_sheet_47 ?_
          refine lv_iload_n hx hb dX6_sheet_50 rfl (lv_at hl 1 rfl) ?_
          refine lv_iload_n hx hb dX6_sheet_51 rfl (lv_at hl 3 rfl) ?_
          have hi_6 := hw.1
          have hw := hw.2
          refine a_is C hP hS (by decide) (sM_10 K) hi_6 rfl dX6_sheet_52 (fun H locs hP hS => ?_)
          refine lv_iconst hx hb dX6_sheet_53 ic_0 ?_
          refine lv_istore (lv' := [(4, .int (0 : Int32)), (0, .ref (kb K + 0)), (1, .int v1), (2, .int v2), (3, .int v3)]) hx hb dX6_sheet_54 hl (by decide) rfl (fun ls hl => ?_)
          exact ih _ _ _ _ _ _ hw hP hS (lv_sub hl [1, 2, 0] rfl)
        · have hw := hw.2 hc
          refine lv_bipush hx hb dX6_sheet_36 bp_m14 ?_
          exact r_i C hP hS hw dX6_sheet_38
      · have hw := hw.2 hc
        refine lv_iconst hx hb dX6_sheet_30 ic_m1 ?_
        exact r_i C hP hS hw dX6_sheet_31

theorem kX6_lay_c175 : Cond.constantLong RX6 175 (3) ∈ wsX6_lay := List.mem_of_getElem? (i := 1) rfl
theorem kX6_lay_f39 : Cond.fieldLink RX6 39 (TX6 22).1 (TX6 22).2.1 (TX6 22).2.2.1 ∈ wsX6_lay := List.mem_of_getElem? (i := 2) rfl
theorem hX6_lay_X6 : ∀ w ∈ u_ws RX6 TX6 26, w ∈ wsX6_lay := fun _ h => List.mem_cons_of_mem _ (List.mem_append_right _ (h))
theorem kX6_lay_f42 : Cond.fieldLink RX6 42 (TX6 23).1 (TX6 23).2.1 (TX6 23).2.2.1 ∈ wsX6_lay := List.mem_of_getElem? (i := 3) rfl
theorem kX6_lay_f45 : Cond.fieldLink RX6 45 (TX6 24).1 (TX6 24).2.1 (TX6 24).2.2.1 ∈ wsX6_lay := List.mem_of_getElem? (i := 4) rfl
abbrev rmX6_lay : Room := { frames := 1, cells := 0, slots := 0, locals := 25 }
def f_X6_lay_99 (Q : Int32 → Mem → Prop) (s0 : Int32) (s1 : Int32) (M : Mem) : Prop := vp_in s1 160 ∧ Q (1 : Int32) (mU M 11 s1.toNatClampNeg s0)
def q_X6_lay (v1 : Int32) (v2 : Int32) (v3 : Int32) (M : Mem) (Q : Int32 → Mem → Prop) : Prop := q_X6_in v1.toInt64 (0 : Int64) (3 : Int64) M (fun r_2 M_1 => ((¬ r_2 = 0 → vp_in v1 4 ∧ ((¬ (M_1 9 v1.toNatClampNeg) = (-4 : Int32) → vp_in v1 4 ∧ q_X6_in v2.toInt64 (0 : Int64) ((M_1 10 v1.toNatClampNeg) - (1 : Int32)).toInt64 M_1 (fun r_6 M_5 => ((¬ r_6 = 0 → vp_in v1 4 ∧ ((¬ (M_5 9 v1.toNatClampNeg) = 0 → vp_in v1 4 ∧ ((¬ (M_5 9 v1.toNatClampNeg) = (1 : Int32) → f_X6_lay_99 Q v3 (((40 : Int32) * v1) + v2) M_5) ∧ ((M_5 9 v1.toNatClampNeg) = (1 : Int32) → f_X6_lay_99 Q ((v3 <<< ((16 : Int32) &&& 31)) >>> ((16 : Int32) &&& 31)) (((40 : Int32) * v1) + v2) M_5))) ∧ ((M_5 9 v1.toNatClampNeg) = 0 → f_X6_lay_99 Q ((v3 <<< ((24 : Int32) &&& 31)) >>> ((24 : Int32) &&& 31)) (((40 : Int32) * v1) + v2) M_5))) ∧ (r_6 = 0 → Q (-12 : Int32) M_5)))) ∧ ((M_1 9 v1.toNatClampNeg) = (-4 : Int32) → Q (-11 : Int32) M_1))) ∧ (r_2 = 0 → Q (-1 : Int32) M_1)))
set_option maxRecDepth 100000 in
set_option maxHeartbeats 4000000 in
theorem b_X6_lay_99 {l : Launch} {K : wC} {Q : Int32 → Mem → Prop} {p : Program} {e : Env} {s : State} {m : MethodId} {args : Array Value} {below : List Frame} {meth : Method} {c : Code} (C : cx 12 K p s m args meth c cX6_lay 4 wsX6_lay RX6 (some .int)) (s0 : Int32) (s1 : Int32) (M : Mem) (H : Heap) (locs : List Loc) (ls : Array Slot) (hw : f_X6_lay_99 Q s0 s1 M) (hP : wP shM 12 K M H) (hS : va_S (wA 12 K) s.heap H locs) (hl : lv_has ls 4 []) : W p l e rmX6_lay s m args below meth c H locs 0 0 (MQ below (va_Qi Q (wE shM 12 K) (wA 12 K)) args s 0 0 (wA 12 K)) (F0 m 99 ls [.int s0, .int s1, .ref (kb K + 11)]) := by
  obtain ⟨hx, hb, hml, hown, hts, hr, hlk, hK⟩ := id C
  delta f_X6_lay_99 at hw
  have hi_9 := hw.1
  have hw := hw.2
  refine a_is C hP hS (by decide) (sM_11 K) hi_9 rfl dX6_lay_99 (fun H locs hP hS => ?_)
  refine lv_iconst hx hb dX6_lay_100 ic_1 ?_
  exact r_i C hP hS hw dX6_lay_101
theorem dsX6_lay : yX6_lay.cls = RX6 ∧ yX6_lay.cls ≠ "java/lang/invoke/MethodHandle" ∧ yX6_lay.cls ≠ "java/lang/invoke/VarHandle" ∧ (parseMethodDescriptor yX6_lay.desc).map (fun d => d.parameters.length) = some 3 := by decide +kernel
set_option maxRecDepth 100000 in
set_option maxHeartbeats 4000000 in
theorem c_X6_lay {l : Launch} {K : wC} {v1 : Int32} {v2 : Int32} {v3 : Int32} {M : Mem} {Q : Int32 → Mem → Prop} (hw : q_X6_lay v1 v2 v3 M Q) : metI l yX6_lay wsX6_lay rmX6_lay shM 12 K [.ref (kb K + 0), .int v1, .int v2, .int v3] M Q := by
  refine met_of (cc := cX6_lay) (maxL := 4) (ret := (some .int)) (own := RX6) (by decide) rfl rfl (Nat.le_of_ble_eq_true rfl) ?_
  intro p e s m below meth c ls C hl hP hS
  have hl : lv_has ls 4 [(0, .ref (kb K + 0)), (1, .int v1), (2, .int v2), (3, .int v3)] := hl
  obtain ⟨hx, hb, hml, hown, hts, hr, hlk, hK⟩ := id C
  have hP0 := hP
  delta q_X6_lay at hw
  refine lv_iload_n hx hb dX6_lay_0 rfl (lv_at hl 1 rfl) ?_
  refine lv_i2l hx hb dX6_lay_1 rfl ?_
  refine lv_lconst hx hb dX6_lay_2 lc_0 ?_
  refine lv_ldc2 hx hb hown (hts _ kX6_lay_c175) dX6_lay_3 ?_
  refine c_i (run_s (As := [.long v1.toInt64, .long (0 : Int64), .long (3 : Int64)]) (rest := []) C hP hS (c_X6_in hw) gX6_lay_X6_in rfl dsX6_in rfl ⟨rfl, rfl⟩ ⟨Nat.le_of_ble_eq_true rfl, Nat.le_of_ble_eq_true rfl⟩ hl.1 rfl (Nat.le_of_ble_eq_true rfl) dX6_lay_6 ⟨Nat.le_of_ble_eq_true rfl, Nat.le_of_ble_eq_true rfl⟩) hS (fun r_2 M_1 H locs hw hP hS => ?_)
  refine lv_if_ne (tgt := 14) hx hb dX6_lay_9 (by decide) (fun hc => ?_) (fun hc => ?_)
  · have hw := hw.1 hc
    refine lv_aload_n hx hb dX6_lay_14 rfl (lv_at hl 0 rfl) ?_
    refine g_f C hP (by decide) (sM_0 K _) rfl hX6_lay_X6 22 (by decide) kX6_lay_f39 rfl dX6_lay_15 ?_
    refine lv_iload_n hx hb dX6_lay_18 rfl (lv_at hl 1 rfl) ?_
    have hi_3 := hw.1
    have hw := hw.2
    refine a_il C hP (by decide) (sM_9 K _) hi_3 rfl dX6_lay_19 ?_
    refine lv_bipush hx hb dX6_lay_20 bp_m4 ?_
    refine lv_icmp_ne (tgt := 28) hx hb dX6_lay_22 (by decide) (fun hc => ?_) (fun hc => ?_)
    · have hw := hw.1 hc
      refine lv_iload_n hx hb dX6_lay_28 rfl (lv_at hl 2 rfl) ?_
      refine lv_i2l hx hb dX6_lay_29 rfl ?_
      refine lv_lconst hx hb dX6_lay_30 lc_0 ?_
      refine lv_aload_n hx hb dX6_lay_31 rfl (lv_at hl 0 rfl) ?_
      refine g_f C hP (by decide) (sM_0 K _) rfl hX6_lay_X6 23 (by decide) kX6_lay_f42 rfl dX6_lay_32 ?_
      refine lv_iload_n hx hb dX6_lay_35 rfl (lv_at hl 1 rfl) ?_
      have hi_4 := hw.1
      have hw := hw.2
      refine a_il C hP (by decide) (sM_10 K _) hi_4 rfl dX6_lay_36 ?_
      refine lv_iconst hx hb dX6_lay_37 ic_1 ?_
      refine lv_isub hx hb dX6_lay_38 ?_
      refine lv_i2l hx hb dX6_lay_39 rfl ?_
      refine c_i (run_s (As := [.long v2.toInt64, .long (0 : Int64), .long ((M_1 10 v1.toNatClampNeg) - (1 : Int32)).toInt64]) (rest := []) C hP hS (c_X6_in hw) gX6_lay_X6_in rfl dsX6_in rfl ⟨rfl, rfl⟩ ⟨Nat.le_of_ble_eq_true rfl, Nat.le_of_ble_eq_true rfl⟩ hl.1 rfl (Nat.le_of_ble_eq_true rfl) dX6_lay_40 ⟨Nat.le_of_ble_eq_true rfl, Nat.le_of_ble_eq_true rfl⟩) hS (fun r_6 M_5 H locs hw hP hS => ?_)
      refine lv_if_ne (tgt := 49) hx hb dX6_lay_43 (by decide) (fun hc => ?_) (fun hc => ?_)
      · have hw := hw.1 hc
        refine lv_aload_n hx hb dX6_lay_49 rfl (lv_at hl 0 rfl) ?_
        refine g_f C hP (by decide) (sM_0 K _) rfl hX6_lay_X6 24 (by decide) kX6_lay_f45 rfl dX6_lay_50 ?_
        refine lv_bipush hx hb dX6_lay_53 bp_40 ?_
        refine lv_iload_n hx hb dX6_lay_55 rfl (lv_at hl 1 rfl) ?_
        refine lv_imul hx hb dX6_lay_56 ?_
        refine lv_iload_n hx hb dX6_lay_57 rfl (lv_at hl 2 rfl) ?_
        refine lv_iadd hx hb dX6_lay_58 ?_
        refine lv_aload_n hx hb dX6_lay_59 rfl (lv_at hl 0 rfl) ?_
        refine g_f C hP (by decide) (sM_0 K _) rfl hX6_lay_X6 22 (by decide) kX6_lay_f39 rfl dX6_lay_60 ?_
        refine lv_iload_n hx hb dX6_lay_63 rfl (lv_at hl 1 rfl) ?_
        have hi_7 := hw.1
        have hw := hw.2
        refine a_il C hP (by decide) (sM_9 K _) hi_7 rfl dX6_lay_64 ?_
        refine lv_if_ne (tgt := 78) hx hb dX6_lay_65 (by decide) (fun hc => ?_) (fun hc => ?_)
        · have hw := hw.1 hc
          refine lv_aload_n hx hb dX6_lay_78 rfl (lv_at hl 0 rfl) ?_
          refine g_f C hP (by decide) (sM_0 K _) rfl hX6_lay_X6 22 (by decide) kX6_lay_f39 rfl dX6_lay_79 ?_
          refine lv_iload_n hx hb dX6_lay_82 rfl (lv_at hl 1 rfl) ?_
          have hi_8 := hw.1
          have hw := hw.2
          refine a_il C hP (by decide) (sM_9 K _) hi_8 rfl dX6_lay_83 ?_
          refine lv_iconst hx hb dX6_lay_84 ic_1 ?_
          refine lv_icmp_ne (tgt := 98) hx hb dX6_lay_85 (by decide) (fun hc => ?_) (fun hc => ?_)
          · have hw := hw.1 hc
            refine lv_iload_n hx hb dX6_lay_98 rfl (lv_at hl 3 rfl) ?_
            exact b_X6_lay_99 C _ _ _ _ _ _ hw hP hS (lv_sub hl [] rfl)
          · have hw := hw.2 hc
            refine lv_iload_n hx hb dX6_lay_88 rfl (lv_at hl 3 rfl) ?_
            refine lv_bipush hx hb dX6_lay_89 bp_16 ?_
            refine lv_ishl hx hb dX6_lay_91 ?_
            refine lv_bipush hx hb dX6_lay_92 bp_16 ?_
            refine lv_ishr hx hb dX6_lay_94 ?_
            refine lv_goto (tgt := 99) hx hb dX6_lay_95 (by decide) ?_
            exact b_X6_lay_99 C _ _ _ _ _ _ hw hP hS (lv_sub hl [] rfl)
        · have hw := hw.2 hc
          refine lv_iload_n hx hb dX6_lay_68 rfl (lv_at hl 3 rfl) ?_
          refine lv_bipush hx hb dX6_lay_69 bp_24 ?_
          refine lv_ishl hx hb dX6_lay_71 ?_
          refine lv_bipush hx hb dX6_lay_72 bp_24 ?_
          refine lv_ishr hx hb dX6_lay_74 ?_
          refine lv_goto (tgt := 99) hx hb dX6_lay_75 (by decide) ?_
          exact b_X6_lay_99 C _ _ _ _ _ _ hw hP hS (lv_sub hl [] rfl)
      · have hw := hw.2 hc
        refine lv_bipush hx hb dX6_lay_46 bp_m12 ?_
        exact r_i C hP hS hw dX6_lay_48
    · have hw := hw.2 hc
      refine lv_bipush hx hb dX6_lay_25 bp_m11 ?_
      exact r_i C hP hS hw dX6_lay_27
  · have hw := hw.2 hc
    refine lv_iconst hx hb dX6_lay_12 ic_m1 ?_
    exact r_i C hP hS hw dX6_lay_13

theorem kX6_read_c175 : Cond.constantLong RX6 175 (3) ∈ wsX6_read := List.mem_of_getElem? (i := 1) rfl
theorem kX6_read_c163 : Cond.constantLong RX6 163 (2) ∈ wsX6_read := List.mem_of_getElem? (i := 2) rfl
theorem kX6_read_c120 : Cond.constantLong RX6 120 (20) ∈ wsX6_read := List.mem_of_getElem? (i := 3) rfl
theorem kX6_read_f39 : Cond.fieldLink RX6 39 (TX6 22).1 (TX6 22).2.1 (TX6 22).2.2.1 ∈ wsX6_read := List.mem_of_getElem? (i := 4) rfl
theorem hX6_read_X6 : ∀ w ∈ u_ws RX6 TX6 26, w ∈ wsX6_read := fun _ h => List.mem_cons_of_mem _ (List.mem_append_right _ (h))
theorem kX6_read_f42 : Cond.fieldLink RX6 42 (TX6 23).1 (TX6 23).2.1 (TX6 23).2.2.1 ∈ wsX6_read := List.mem_of_getElem? (i := 5) rfl
theorem kX6_read_f45 : Cond.fieldLink RX6 45 (TX6 24).1 (TX6 24).2.1 (TX6 24).2.2.1 ∈ wsX6_read := List.mem_of_getElem? (i := 6) rfl
theorem kX6_read_f242 : Cond.fieldLink RX6 242 (TX6 25).1 (TX6 25).2.1 (TX6 25).2.2.1 ∈ wsX6_read := List.mem_of_getElem? (i := 7) rfl
abbrev rmX6_read : Room := { frames := 3, cells := 0, slots := 0, locals := 69 }
abbrev t_X6_read : Type := (Int32 → Int32 → Int32 → Int32 → Int32 → Int32 → Int32 → Mem → Prop) × (Int32 → Int32 → Int32 → Int32 → Int32 → Int32 → Int32 → Mem → Prop) × (Int32 → Int32 → Int32 → Int32 → Int32 → Int32 → Int32 → Mem → Prop) × (Int32 → Int32 → Mem → Prop)
def f_X6_read_55 (Q : Int32 → Mem → Prop) (r : t_X6_read) (v1 : Int32) (v2 : Int32) (v3 : Int32) (v4 : Int32) (v5 : Int32) (v6 : Int32) (v7 : Int32) (M : Mem) : Prop := ((((2 : Int32) * v4) ≤ v7 → r.2.2.2 v5 v6 M) ∧ (¬ ((2 : Int32) * v4) ≤ v7 → ((¬ v5 = 0 → r.2.2.2 v5 v6 M) ∧ (v5 = 0 → vp_in v1 4 ∧ ((¬ (M 9 v1.toNatClampNeg) = (-4 : Int32) → vp_in v1 4 ∧ (((M 9 v1.toNatClampNeg) = v2 → vp_in v1 4 ∧ q_X6_in (v3.toInt64 + v7.toInt64) (0 : Int64) ((M 10 v1.toNatClampNeg) - (1 : Int32)).toInt64 M (fun r_12 M_11 => ((¬ r_12 = 0 → r.2.1 v1 v2 v3 v4 v6 v7 (0 : Int32) M_11) ∧ (r_12 = 0 → r.2.1 v1 v2 v3 v4 v6 v7 (2 : Int32) M_11)))) ∧ (¬ (M 9 v1.toNatClampNeg) = v2 → r.2.1 v1 v2 v3 v4 v6 v7 (3 : Int32) M))) ∧ ((M 9 v1.toNatClampNeg) = (-4 : Int32) → r.2.1 v1 v2 v3 v4 v6 v7 (1 : Int32) M))))))
def f_X6_read_125 (Q : Int32 → Mem → Prop) (r : t_X6_read) (v1 : Int32) (v2 : Int32) (v3 : Int32) (v4 : Int32) (v6 : Int32) (v7 : Int32) (s0 : Int32) (M : Mem) : Prop := ((¬ s0 = 0 → r.2.2.1 v1 v2 v3 v4 s0 v6 v7 M) ∧ (s0 = 0 → ((¬ (v7 - v7 / (2 : Int32) * (2 : Int32)) = (1 : Int32) → r.2.2.1 v1 v2 v3 v4 s0 v6 v7 M) ∧ ((v7 - v7 / (2 : Int32) * (2 : Int32)) = (1 : Int32) → ∀ x_13 : Int32, x_13 = ((((40 : Int32) * v1) + v3) + v7) → vp_in (x_13 - (1 : Int32)) 160 ∧ vp_in x_13 160 ∧ q_X6_adds (M 11 (x_13 - (1 : Int32)).toNatClampNeg) (M 11 x_13.toNatClampNeg) M (fun r_17 M_16 => ((0 ≤ r_17 → r.2.2.1 v1 v2 v3 v4 s0 (v6 + 1) v7 M_16) ∧ (¬ 0 ≤ r_17 → q_X6_copies (111 : Int32) (0 : Int32) M_16 (fun M_18 => Q ((-20 : Int32) - v6) M_18))))))))
def f_X6_read_190 (Q : Int32 → Mem → Prop) (r : t_X6_read) (v1 : Int32) (v2 : Int32) (v3 : Int32) (v4 : Int32) (v5 : Int32) (v6 : Int32) (v7 : Int32) (M : Mem) : Prop := r.1 v1 v2 v3 v4 v5 v6 (v7 + 1) M
def f_X6_read_196 (Q : Int32 → Mem → Prop) (r : t_X6_read) (v5 : Int32) (v6 : Int32) (M : Mem) : Prop := Q v6 (mU M 0 25 v5)
def p_X6_read (Q : Int32 → Mem → Prop) : Nat → t_X6_read
  | 0 => (fun _ _ _ _ _ _ _ _ => False, fun _ _ _ _ _ _ _ _ => False, fun _ _ _ _ _ _ _ _ => False, fun _ _ _ => False)
  | n + 1 => (f_X6_read_55 Q (p_X6_read Q n), f_X6_read_125 Q (p_X6_read Q n), f_X6_read_190 Q (p_X6_read Q n), f_X6_read_196 Q (p_X6_read Q n))
def e_X6_read (v1 : Int32) (v2 : Int32) (v3 : Int32) (v4 : Int32) (Q : Int32 → Mem → Prop) (r : t_X6_read) (M : Mem) : Prop := q_X6_in v1.toInt64 (0 : Int64) (3 : Int64) M (fun r_2 M_1 => ((r_2 = 0 → Q (-1 : Int32) M_1) ∧ (¬ r_2 = 0 → q_X6_in v2.toInt64 (0 : Int64) (2 : Int64) M_1 (fun r_4 M_3 => ((r_4 = 0 → Q (-1 : Int32) M_3) ∧ (¬ r_4 = 0 → q_X6_in v4.toInt64 (0 : Int64) (20 : Int64) M_3 (fun r_6 M_5 => ((¬ r_6 = 0 → q_X6_copies (0 : Int32) (111 : Int32) M_5 (fun M_7 => r.1 v1 v2 v3 v4 (0 : Int32) (0 : Int32) (0 : Int32) M_7)) ∧ (r_6 = 0 → Q (-1 : Int32) M_5)))))))))
def q_X6_read (v1 : Int32) (v2 : Int32) (v3 : Int32) (v4 : Int32) (M : Mem) (Q : Int32 → Mem → Prop) : Prop := ∃ n : Nat, e_X6_read v1 v2 v3 v4 Q (p_X6_read Q n) M
set_option maxRecDepth 100000 in
set_option maxHeartbeats 4000000 in
theorem b_X6_read {l : Launch} {K : wC} {Q : Int32 → Mem → Prop} {p : Program} {e : Env} {s : State} {m : MethodId} {args : Array Value} {below : List Frame} {meth : Method} {c : Code} (C : cx 12 K p s m args meth c cX6_read 9 wsX6_read RX6 (some .int)) : ∀ n : Nat, (∀ (v1 : Int32) (v2 : Int32) (v3 : Int32) (v4 : Int32) (v5 : Int32) (v6 : Int32) (v7 : Int32) (M : Mem) (H : Heap) (locs : List Loc) (ls : Array Slot), (p_X6_read Q n).1 v1 v2 v3 v4 v5 v6 v7 M → wP shM 12 K M H → va_S (wA 12 K) s.heap H locs → lv_has ls 9 [(0, .ref (kb K + 0)), (1, .int v1), (2, .int v2), (3, .int v3), (4, .int v4), (5, .int v5), (6, .int v6), (7, .int v7)] → W p l e rmX6_read s m args below meth c H locs 0 0 (MQ below (va_Qi Q (wE shM 12 K) (wA 12 K)) args s 0 0 (wA 12 K)) (F0 m 55 ls [])) ∧ (∀ (v1 : Int32) (v2 : Int32) (v3 : Int32) (v4 : Int32) (v6 : Int32) (v7 : Int32) (s0 : Int32) (M : Mem) (H : Heap) (locs : List Loc) (ls : Array Slot), (p_X6_read Q n).2.1 v1 v2 v3 v4 v6 v7 s0 M → wP shM 12 K M H → va_S (wA 12 K) s.heap H locs → lv_has ls 9 [(0, .ref (kb K + 0)), (1, .int v1), (2, .int v2), (3, .int v3), (4, .int v4), (6, .int v6), (7, .int v7)] → W p l e rmX6_read s m args below meth c H locs 0 0 (MQ below (va_Qi Q (wE shM 12 K) (wA 12 K)) args s 0 0 (wA 12 K)) (F0 m 125 ls [.int s0])) ∧ (∀ (v1 : Int32) (v2 : Int32) (v3 : Int32) (v4 : Int32) (v5 : Int32) (v6 : Int32) (v7 : Int32) (M : Mem) (H : Heap) (locs : List Loc) (ls : Array Slot), (p_X6_read Q n).2.2.1 v1 v2 v3 v4 v5 v6 v7 M → wP shM 12 K M H → va_S (wA 12 K) s.heap H locs → lv_has ls 9 [(0, .ref (kb K + 0)), (1, .int v1), (2, .int v2), (3, .int v3), (4, .int v4), (5, .int v5), (6, .int v6), (7, .int v7)] → W p l e rmX6_read s m args below meth c H locs 0 0 (MQ below (va_Qi Q (wE shM 12 K) (wA 12 K)) args s 0 0 (wA 12 K)) (F0 m 190 ls [])) ∧ (∀ (v5 : Int32) (v6 : Int32) (M : Mem) (H : Heap) (locs : List Loc) (ls : Array Slot), (p_X6_read Q n).2.2.2 v5 v6 M → wP shM 12 K M H → va_S (wA 12 K) s.heap H locs → lv_has ls 9 [(0, .ref (kb K + 0)), (5, .int v5), (6, .int v6)] → W p l e rmX6_read s m args below meth c H locs 0 0 (MQ below (va_Qi Q (wE shM 12 K) (wA 12 K)) args s 0 0 (wA 12 K)) (F0 m 196 ls [])) := by
  obtain ⟨hx, hb, hml, hown, hts, hr, hlk, hK⟩ := id C
  intro n
  induction n with
  | zero => exact ⟨fun _ _ _ _ _ _ _ _ _ _ _ hw _ _ _ => False.elim hw, fun _ _ _ _ _ _ _ _ _ _ _ hw _ _ _ => False.elim hw, fun _ _ _ _ _ _ _ _ _ _ _ hw _ _ _ => False.elim hw, fun _ _ _ _ _ _ hw _ _ _ => False.elim hw⟩
  | succ n ih =>
    refine ⟨?_, ?_, ?_, ?_⟩
    · intro v1 v2 v3 v4 v5 v6 v7 M H locs ls hw hP hS hl
      have hw : f_X6_read_55 Q (p_X6_read Q n) v1 v2 v3 v4 v5 v6 v7 M := hw
      delta f_X6_read_55 at hw
      refine lv_iload hx hb dX6_read_55 (lv_at hl 7 rfl) ?_
      refine lv_iconst hx hb dX6_read_57 ic_2 ?_
      refine lv_iload hx hb dX6_read_58 (lv_at hl 4 rfl) ?_
      refine lv_imul hx hb dX6_read_60 ?_
      refine lv_icmp_ge (tgt := 196) hx hb dX6_read_61 (by decide) (fun hc => ?_) (fun hc => ?_)
      · have hw := hw.1 hc
        exact ih.2.2.2 _ _ _ _ _ _ hw hP hS (lv_sub hl [0, 5, 6] rfl)
      · have hw := hw.2 hc
        refine lv_iload hx hb dX6_read_64 (lv_at hl 5 rfl) ?_
        refine lv_if_ne (tgt := 196) hx hb dX6_read_66 (by decide) (fun hc => ?_) (fun hc => ?_)
        · have hw := hw.1 hc
          exact ih.2.2.2 _ _ _ _ _ _ hw hP hS (lv_sub hl [0, 5, 6] rfl)
        · have hw := hw.2 hc
          refine lv_aload_n hx hb dX6_read_69 rfl (lv_at hl 0 rfl) ?_
          refine g_f C hP (by decide) (sM_0 K _) rfl hX6_read_X6 22 (by decide) kX6_read_f39 rfl dX6_read_70 ?_
          refine lv_iload_n hx hb dX6_read_73 rfl (lv_at hl 1 rfl) ?_
          have hi_8 := hw.1
          have hw := hw.2
          refine a_il C hP (by decide) (sM_9 K _) hi_8 rfl dX6_read_74 ?_
          refine lv_bipush hx hb dX6_read_75 bp_m4 ?_
          refine lv_icmp_ne (tgt := 84) hx hb dX6_read_77 (by decide) (fun hc => ?_) (fun hc => ?_)
          · have hw := hw.1 hc
            refine lv_aload_n hx hb dX6_read_84 rfl (lv_at hl 0 rfl) ?_
            refine g_f C hP (by decide) (sM_0 K _) rfl hX6_read_X6 22 (by decide) kX6_read_f39 rfl dX6_read_85 ?_
            refine lv_iload_n hx hb dX6_read_88 rfl (lv_at hl 1 rfl) ?_
            have hi_9 := hw.1
            have hw := hw.2
            refine a_il C hP (by decide) (sM_9 K _) hi_9 rfl dX6_read_89 ?_
            refine lv_iload_n hx hb dX6_read_90 rfl (lv_at hl 2 rfl) ?_
            refine lv_icmp_eq (tgt := 98) hx hb dX6_read_91 (by decide) (fun hc => ?_) (fun hc => ?_)
            · have hw := hw.1 hc
              refine lv_iload_n hx hb dX6_read_98 rfl (lv_at hl 3 rfl) ?_
              refine lv_i2l hx hb dX6_read_99 rfl ?_
              refine lv_iload hx hb dX6_read_100 (lv_at hl 7 rfl) ?_
              refine lv_i2l hx hb dX6_read_102 rfl ?_
              refine lv_ladd hx hb dX6_read_103 ?_
              refine lv_lconst hx hb dX6_read_104 lc_0 ?_
              refine lv_aload_n hx hb dX6_read_105 rfl (lv_at hl 0 rfl) ?_
              refine g_f C hP (by decide) (sM_0 K _) rfl hX6_read_X6 23 (by decide) kX6_read_f42 rfl dX6_read_106 ?_
              refine lv_iload_n hx hb dX6_read_109 rfl (lv_at hl 1 rfl) ?_
              have hi_10 := hw.1
              have hw := hw.2
              refine a_il C hP (by decide) (sM_10 K _) hi_10 rfl dX6_read_110 ?_
              refine lv_iconst hx hb dX6_read_111 ic_1 ?_
              refine lv_isub hx hb dX6_read_112 ?_
              refine lv_i2l hx hb dX6_read_113 rfl ?_
              refine c_i (run_s (As := [.long (v3.toInt64 + v7.toInt64), .long (0 : Int64), .long ((M 10 v1.toNatClampNeg) - (1 : Int32)).toInt64]) (rest := []) C hP hS (c_X6_in hw) gX6_read_X6_in rfl dsX6_in rfl ⟨rfl, rfl⟩ ⟨Nat.le_of_ble_eq_true rfl, Nat.le_of_ble_eq_true rfl⟩ hl.1 rfl (Nat.le_of_ble_eq_true rfl) dX6_read_114 ⟨Nat.le_of_ble_eq_true rfl, Nat.le_of_ble_eq_true rfl⟩) hS (fun r_12 M_11 H locs hw hP hS => ?_)
              refine lv_if_ne (tgt := 124) hx hb dX6_read_117 (by decide) (fun hc => ?_) (fun hc => ?_)
              · have hw := hw.1 hc
                refine lv_iconst hx hb dX6_read_124 ic_0 ?_
                exact ih.2.1 _ _ _ _ _ _ _ _ _ _ _ hw hP hS (lv_sub hl [0, 1, 2, 3, 4, 6, 7] rfl)
              · have hw := hw.2 hc
                refine lv_iconst hx hb dX6_read_120 ic_2 ?_
                refine lv_goto (tgt := 125) hx hb dX6_read_121 (by decide) ?_
                exact ih.2.1 _ _ _ _ _ _ _ _ _ _ _ hw hP hS (lv_sub hl [0, 1, 2, 3, 4, 6, 7] rfl)
            · have hw := hw.2 hc
              refine lv_iconst hx hb dX6_read_94 ic_3 ?_
              refine lv_goto (tgt := 125) hx hb dX6_read_95 (by decide) ?_
              exact ih.2.1 _ _ _ _ _ _ _ _ _ _ _ hw hP hS (lv_sub hl [0, 1, 2, 3, 4, 6, 7] rfl)
          · have hw := hw.2 hc
            refine lv_iconst hx hb dX6_read_80 ic_1 ?_
            refine lv_goto (tgt := 125) hx hb dX6_read_81 (by decide) ?_
            exact ih.2.1 _ _ _ _ _ _ _ _ _ _ _ hw hP hS (lv_sub hl [0, 1, 2, 3, 4, 6, 7] rfl)
    · intro v1 v2 v3 v4 v6 v7 s0 M H locs ls hw hP hS hl
      have hw : f_X6_read_125 Q (p_X6_read Q n) v1 v2 v3 v4 v6 v7 s0 M := hw
      delta f_X6_read_125 at hw
      refine lv_istore (lv' := [(5, .int s0), (0, .ref (kb K + 0)), (1, .int v1), (2, .int v2), (3, .int v3), (4, .int v4), (6, .int v6), (7, .int v7)]) hx hb dX6_read_125 hl (by decide) rfl (fun ls hl => ?_)
      refine lv_iload hx hb dX6_read_127 (lv_at hl 0 rfl) ?_
      refine lv_if_ne (tgt := 190) hx hb dX6_read_129 (by decide) (fun hc => ?_) (fun hc => ?_)
      · have hw := hw.1 hc
        exact ih.2.2.1 _ _ _ _ _ _ _ _ _ _ _ hw hP hS (lv_sub hl [1, 2, 3, 4, 5, 0, 6, 7] rfl)
      · have hw := hw.2 hc
        refine lv_iload hx hb dX6_read_132 (lv_at hl 7 rfl) ?_
        refine lv_iconst hx hb dX6_read_134 ic_2 ?_
        refine lv_irem hx hb dX6_read_135 (by decide) ?_
        refine lv_iconst hx hb dX6_read_136 ic_1 ?_
        refine lv_icmp_ne (tgt := 190) hx hb dX6_read_137 (by decide) (fun hc => ?_) (fun hc => ?_)
        · have hw := hw.1 hc
          exact ih.2.2.1 _ _ _ _ _ _ _ _ _ _ _ hw hP hS (lv_sub hl [1, 2, 3, 4, 5, 0, 6, 7] rfl)
        · have hw := hw.2 hc
          refine lv_bipush hx hb dX6_read_140 bp_40 ?_
          refine lv_iload_n hx hb dX6_read_142 rfl (lv_at hl 2 rfl) ?_
          refine lv_imul hx hb dX6_read_143 ?_
          refine lv_iload_n hx hb dX6_read_144 rfl (lv_at hl 4 rfl) ?_
          refine lv_iadd hx hb dX6_read_145 ?_
          refine lv_iload hx hb dX6_read_146 (lv_at hl 7 rfl) ?_
          refine lv_iadd hx hb dX6_read_148 ?_
          refine lv_topi (fun x_13 ex_13 => ?_)
          have hw := hw x_13 ex_13
          refine lv_istore (lv' := [(8, .int x_13), (5, .int s0), (0, .ref (kb K + 0)), (1, .int v1), (2, .int v2), (3, .int v3), (4, .int v4), (6, .int v6), (7, .int v7)]) hx hb dX6_read_149 hl (by decide) rfl (fun ls hl => ?_)
          refine lv_aload_n hx hb dX6_read_151 rfl (lv_at hl 2 rfl) ?_
          refine lv_aload_n hx hb dX6_read_152 rfl (lv_at hl 2 rfl) ?_
          refine g_f C hP (by decide) (sM_0 K _) rfl hX6_read_X6 24 (by decide) kX6_read_f45 rfl dX6_read_153 ?_
          refine lv_iload hx hb dX6_read_156 (lv_at hl 0 rfl) ?_
          refine lv_iconst hx hb dX6_read_158 ic_1 ?_
          refine lv_isub hx hb dX6_read_159 ?_
          have hi_14 := hw.1
          have hw := hw.2
          refine a_il C hP (by decide) (sM_11 K _) hi_14 rfl dX6_read_160 ?_
          refine lv_aload_n hx hb dX6_read_161 rfl (lv_at hl 2 rfl) ?_
          refine g_f C hP (by decide) (sM_0 K _) rfl hX6_read_X6 24 (by decide) kX6_read_f45 rfl dX6_read_162 ?_
          refine lv_iload hx hb dX6_read_165 (lv_at hl 0 rfl) ?_
          have hi_15 := hw.1
          have hw := hw.2
          refine a_il C hP (by decide) (sM_11 K _) hi_15 rfl dX6_read_167 ?_
          refine c_i (run_v (As := [.int (M 11 (x_13 - (1 : Int32)).toNatClampNeg), .int (M 11 x_13.toNatClampNeg)]) (rest := []) C hP hS (c_X6_adds hw) gX6_read_X6_adds rfl dsX6_adds rfl ⟨rfl, rfl⟩ ⟨Nat.le_of_ble_eq_true rfl, Nat.le_of_ble_eq_true rfl⟩ (by decide) (sM_0 K _) rfl hl.1 rfl (Nat.le_of_ble_eq_true rfl) dX6_read_168 ⟨Nat.le_of_ble_eq_true rfl, Nat.le_of_ble_eq_true rfl⟩) hS (fun r_17 M_16 H locs hw hP hS => ?_)
          refine lv_if_ge (tgt := 187) hx hb dX6_read_171 (by decide) (fun hc => ?_) (fun hc => ?_)
          · have hw := hw.1 hc
            refine lv_iinc (v := (v6 + 1)) (lv' := [(6, .int (v6 + 1)), (8, .int x_13), (5, .int s0), (0, .ref (kb K + 0)), (1, .int v1), (2, .int v2), (3, .int v3), (4, .int v4), (7, .int v7)]) hx hb dX6_read_187 hl (k := 7) rfl (by rw [ic_1]) (by decide) rfl (fun ls hl => ?_)
            exact ih.2.2.1 _ _ _ _ _ _ _ _ _ _ _ hw hP hS (lv_sub hl [3, 4, 5, 6, 7, 2, 0, 8] rfl)
          · have hw := hw.2 hc
            refine lv_aload_n hx hb dX6_read_174 rfl (lv_at hl 2 rfl) ?_
            refine lv_bipush hx hb dX6_read_175 bp_111 ?_
            refine lv_iconst hx hb dX6_read_177 ic_0 ?_
            refine c_v (run_v (As := [.int (111 : Int32), .int (0 : Int32)]) (rest := []) C hP hS (c_X6_copies hw) gX6_read_X6_copies rfl dsX6_copies rfl ⟨rfl, rfl⟩ ⟨Nat.le_of_ble_eq_true rfl, Nat.le_of_ble_eq_true rfl⟩ (by decide) (sM_0 K _) rfl hl.1 rfl (Nat.le_of_ble_eq_true rfl) dX6_read_178 ⟨Nat.le_of_ble_eq_true rfl, Nat.le_of_ble_eq_true rfl⟩) hS (fun M_18 H locs hw hP hS => ?_)
            refine lv_bipush hx hb dX6_read_181 bp_m20 ?_
            refine lv_iload hx hb dX6_read_183 (lv_at hl 7 rfl) ?_
            refine lv_isub hx hb dX6_read_185 ?_
            exact r_i C hP hS hw dX6_read_186
    · intro v1 v2 v3 v4 v5 v6 v7 M H locs ls hw hP hS hl
      have hw : f_X6_read_190 Q (p_X6_read Q n) v1 v2 v3 v4 v5 v6 v7 M := hw
      delta f_X6_read_190 at hw
      refine lv_iinc (v := (v7 + 1)) (lv' := [(7, .int (v7 + 1)), (0, .ref (kb K + 0)), (1, .int v1), (2, .int v2), (3, .int v3), (4, .int v4), (5, .int v5), (6, .int v6)]) hx hb dX6_read_190 hl (k := 7) rfl (by rw [ic_1]) (by decide) rfl (fun ls hl => ?_)
      refine lv_goto (tgt := 55) hx hb dX6_read_193 (by decide) ?_
      exact ih.1 _ _ _ _ _ _ _ _ _ _ _ hw hP hS (lv_sub hl [1, 2, 3, 4, 5, 6, 7, 0] rfl)
    · intro v5 v6 M H locs ls hw hP hS hl
      have hw : f_X6_read_196 Q (p_X6_read Q n) v5 v6 M := hw
      delta f_X6_read_196 at hw
      refine lv_aload_n hx hb dX6_read_196 rfl (lv_at hl 0 rfl) ?_
      refine lv_iload hx hb dX6_read_197 (lv_at hl 1 rfl) ?_
      refine p_f C hP hS (by decide) (sM_0 K _) (sM_0 K _) rfl hX6_read_X6 tyX6_ok nmX6 (by decide) kX6_read_f242 rfl rfl rfl (Nat.le_of_ble_eq_true rfl) dX6_read_199 (fun H locs hP hS => ?_)
      refine lv_iload hx hb dX6_read_202 (lv_at hl 2 rfl) ?_
      exact r_i C hP hS hw dX6_read_204
theorem dsX6_read : yX6_read.cls = RX6 ∧ yX6_read.cls ≠ "java/lang/invoke/MethodHandle" ∧ yX6_read.cls ≠ "java/lang/invoke/VarHandle" ∧ (parseMethodDescriptor yX6_read.desc).map (fun d => d.parameters.length) = some 4 := by decide +kernel
set_option maxRecDepth 100000 in
set_option maxHeartbeats 4000000 in
theorem c_X6_read {l : Launch} {K : wC} {v1 : Int32} {v2 : Int32} {v3 : Int32} {v4 : Int32} {M : Mem} {Q : Int32 → Mem → Prop} (hw : q_X6_read v1 v2 v3 v4 M Q) : metI l yX6_read wsX6_read rmX6_read shM 12 K [.ref (kb K + 0), .int v1, .int v2, .int v3, .int v4] M Q := by
  refine met_of (cc := cX6_read) (maxL := 9) (ret := (some .int)) (own := RX6) (by decide) rfl rfl (Nat.le_of_ble_eq_true rfl) ?_
  intro p e s m below meth c ls C hl hP hS
  have hl : lv_has ls 9 [(0, .ref (kb K + 0)), (1, .int v1), (2, .int v2), (3, .int v3), (4, .int v4)] := hl
  obtain ⟨hx, hb, hml, hown, hts, hr, hlk, hK⟩ := id C
  have hP0 := hP
  obtain ⟨n, hw⟩ := hw
  have ih := b_X6_read (l := l) (e := e) (below := below) (Q := Q) C n
  delta e_X6_read at hw
  refine lv_iload_n hx hb dX6_read_0 rfl (lv_at hl 1 rfl) ?_
  refine lv_i2l hx hb dX6_read_1 rfl ?_
  refine lv_lconst hx hb dX6_read_2 lc_0 ?_
  refine lv_ldc2 hx hb hown (hts _ kX6_read_c175) dX6_read_3 ?_
  refine c_i (run_s (As := [.long v1.toInt64, .long (0 : Int64), .long (3 : Int64)]) (rest := []) C hP hS (c_X6_in hw) gX6_read_X6_in rfl dsX6_in rfl ⟨rfl, rfl⟩ ⟨Nat.le_of_ble_eq_true rfl, Nat.le_of_ble_eq_true rfl⟩ hl.1 rfl (Nat.le_of_ble_eq_true rfl) dX6_read_6 ⟨Nat.le_of_ble_eq_true rfl, Nat.le_of_ble_eq_true rfl⟩) hS (fun r_2 M_1 H locs hw hP hS => ?_)
  refine lv_if_eq (tgt := 37) hx hb dX6_read_9 (by decide) (fun hc => ?_) (fun hc => ?_)
  · have hw := hw.1 hc
    refine lv_iconst hx hb dX6_read_37 ic_m1 ?_
    exact r_i C hP hS hw dX6_read_38
  · have hw := hw.2 hc
    refine lv_iload_n hx hb dX6_read_12 rfl (lv_at hl 2 rfl) ?_
    refine lv_i2l hx hb dX6_read_13 rfl ?_
    refine lv_lconst hx hb dX6_read_14 lc_0 ?_
    refine lv_ldc2 hx hb hown (hts _ kX6_read_c163) dX6_read_15 ?_
    refine c_i (run_s (As := [.long v2.toInt64, .long (0 : Int64), .long (2 : Int64)]) (rest := []) C hP hS (c_X6_in hw) gX6_read_X6_in rfl dsX6_in rfl ⟨rfl, rfl⟩ ⟨Nat.le_of_ble_eq_true rfl, Nat.le_of_ble_eq_true rfl⟩ hl.1 rfl (Nat.le_of_ble_eq_true rfl) dX6_read_18 ⟨Nat.le_of_ble_eq_true rfl, Nat.le_of_ble_eq_true rfl⟩) hS (fun r_4 M_3 H locs hw hP hS => ?_)
    refine lv_if_eq (tgt := 37) hx hb dX6_read_21 (by decide) (fun hc => ?_) (fun hc => ?_)
    · have hw := hw.1 hc
      refine lv_iconst hx hb dX6_read_37 ic_m1 ?_
      exact r_i C hP hS hw dX6_read_38
    · have hw := hw.2 hc
      refine lv_iload hx hb dX6_read_24 (lv_at hl 4 rfl) ?_
      refine lv_i2l hx hb dX6_read_26 rfl ?_
      refine lv_lconst hx hb dX6_read_27 lc_0 ?_
      refine lv_ldc2 hx hb hown (hts _ kX6_read_c120) dX6_read_28 ?_
      refine c_i (run_s (As := [.long v4.toInt64, .long (0 : Int64), .long (20 : Int64)]) (rest := []) C hP hS (c_X6_in hw) gX6_read_X6_in rfl dsX6_in rfl ⟨rfl, rfl⟩ ⟨Nat.le_of_ble_eq_true rfl, Nat.le_of_ble_eq_true rfl⟩ hl.1 rfl (Nat.le_of_ble_eq_true rfl) dX6_read_31 ⟨Nat.le_of_ble_eq_true rfl, Nat.le_of_ble_eq_true rfl⟩) hS (fun r_6 M_5 H locs hw hP hS => ?_)
      refine lv_if_ne (tgt := 39) hx hb dX6_read_34 (by decide) (fun hc => ?_) (fun hc => ?_)
      · have hw := hw.1 hc
        refine lv_aload_n hx hb dX6_read_39 rfl (lv_at hl 0 rfl) ?_
        refine lv_iconst hx hb dX6_read_40 ic_0 ?_
        refine lv_bipush hx hb dX6_read_41 bp_111 ?_
        refine c_v (run_v (As := [.int (0 : Int32), .int (111 : Int32)]) (rest := []) C hP hS (c_X6_copies hw) gX6_read_X6_copies rfl dsX6_copies rfl ⟨rfl, rfl⟩ ⟨Nat.le_of_ble_eq_true rfl, Nat.le_of_ble_eq_true rfl⟩ (by decide) (sM_0 K _) rfl hl.1 rfl (Nat.le_of_ble_eq_true rfl) dX6_read_43 ⟨Nat.le_of_ble_eq_true rfl, Nat.le_of_ble_eq_true rfl⟩) hS (fun M_7 H locs hw hP hS => ?_)
        refine lv_iconst hx hb dX6_read_46 ic_0 ?_
        refine lv_istore (lv' := [(5, .int (0 : Int32)), (0, .ref (kb K + 0)), (1, .int v1), (2, .int v2), (3, .int v3), (4, .int v4)]) hx hb dX6_read_47 hl (by decide) rfl (fun ls hl => ?_)
        refine lv_iconst hx hb dX6_read_49 ic_0 ?_
        refine lv_istore (lv' := [(6, .int (0 : Int32)), (5, .int (0 : Int32)), (0, .ref (kb K + 0)), (1, .int v1), (2, .int v2), (3, .int v3), (4, .int v4)]) hx hb dX6_read_50 hl (by decide) rfl (fun ls hl => ?_)
        refine lv_iconst hx hb dX6_read_52 ic_0 ?_
        refine lv_istore (lv' := [(7, .int (0 : Int32)), (6, .int (0 : Int32)), (5, .int (0 : Int32)), (0, .ref (kb K + 0)), (1, .int v1), (2, .int v2), (3, .int v3), (4, .int v4)]) hx hb dX6_read_53 hl (by decide) rfl (fun ls hl => ?_)
        exact ih.1 _ _ _ _ _ _ _ _ _ _ _ hw hP hS (lv_sub hl [3, 4, 5, 6, 7, 2, 1, 0] rfl)
      · have hw := hw.2 hc
        refine lv_iconst hx hb dX6_read_37 ic_m1 ?_
        exact r_i C hP hS hw dX6_read_38

theorem kX6_torn_f242 : Cond.fieldLink RX6 242 (TX6 25).1 (TX6 25).2.1 (TX6 25).2.2.1 ∈ wsX6_torn := List.mem_of_getElem? (i := 1) rfl
theorem hX6_torn_X6 : ∀ w ∈ u_ws RX6 TX6 26, w ∈ wsX6_torn := fun _ h => List.mem_cons_of_mem _ (List.mem_append_right _ (h))
abbrev rmX6_torn : Room := { frames := 0, cells := 0, slots := 0, locals := 0 }
def q_X6_torn (M : Mem) (Q : Int32 → Mem → Prop) : Prop := Q (M 0 25) M
theorem dsX6_torn : yX6_torn.cls = RX6 ∧ yX6_torn.cls ≠ "java/lang/invoke/MethodHandle" ∧ yX6_torn.cls ≠ "java/lang/invoke/VarHandle" ∧ (parseMethodDescriptor yX6_torn.desc).map (fun d => d.parameters.length) = some 0 := by decide +kernel
set_option maxRecDepth 100000 in
set_option maxHeartbeats 4000000 in
theorem c_X6_torn {l : Launch} {K : wC} {M : Mem} {Q : Int32 → Mem → Prop} (hw : q_X6_torn M Q) : metI l yX6_torn wsX6_torn rmX6_torn shM 12 K [.ref (kb K + 0)] M Q := by
  refine met_of (cc := cX6_torn) (maxL := 1) (ret := (some .int)) (own := RX6) (by decide) rfl rfl (Nat.le_of_ble_eq_true rfl) ?_
  intro p e s m below meth c ls C hl hP hS
  have hl : lv_has ls 1 [(0, .ref (kb K + 0))] := hl
  obtain ⟨hx, hb, hml, hown, hts, hr, hlk, hK⟩ := id C
  have hP0 := hP
  delta q_X6_torn at hw
  refine lv_aload_n hx hb dX6_torn_0 rfl (lv_at hl 0 rfl) ?_
  refine g_f C hP (by decide) (sM_0 K _) rfl hX6_torn_X6 25 (by decide) kX6_torn_f242 rfl dX6_torn_1 ?_
  exact r_i C hP hS hw dX6_torn_4

theorem kX6_count_f7 : Cond.fieldLink RX6 7 (TX6 0).1 (TX6 0).2.1 (TX6 0).2.2.1 ∈ wsX6_count := List.mem_of_getElem? (i := 1) rfl
theorem hX6_count_X6 : ∀ w ∈ u_ws RX6 TX6 26, w ∈ wsX6_count := fun _ h => List.mem_cons_of_mem _ (List.mem_append_right _ (h))
theorem kX6_count_f117 : Cond.fieldLink RX6 117 (TX6 19).1 (TX6 19).2.1 (TX6 19).2.2.1 ∈ wsX6_count := List.mem_of_getElem? (i := 2) rfl
theorem kX6_count_f35 : Cond.fieldLink RX6 35 (TX6 21).1 (TX6 21).2.1 (TX6 21).2.2.1 ∈ wsX6_count := List.mem_of_getElem? (i := 3) rfl
theorem kX6_count_f54 : Cond.fieldLink RX6 54 (TX6 4).1 (TX6 4).2.1 (TX6 4).2.2.1 ∈ wsX6_count := List.mem_of_getElem? (i := 4) rfl
theorem kX6_count_f39 : Cond.fieldLink RX6 39 (TX6 22).1 (TX6 22).2.1 (TX6 22).2.2.1 ∈ wsX6_count := List.mem_of_getElem? (i := 5) rfl
theorem kX6_count_f42 : Cond.fieldLink RX6 42 (TX6 23).1 (TX6 23).2.1 (TX6 23).2.2.1 ∈ wsX6_count := List.mem_of_getElem? (i := 6) rfl
abbrev rmX6_count : Room := { frames := 0, cells := 0, slots := 0, locals := 0 }
abbrev t_X6_count : Type := (Int32 → Int32 → Int32 → Int32 → Mem → Prop) × (Int32 → Int32 → Int32 → Int32 → Mem → Prop) × (Int32 → Mem → Prop) × (Int32 → Int32 → Mem → Prop)
def f_X6_count_7 (Q : Int32 → Mem → Prop) (r : t_X6_count) (v1 : Int32) (v2 : Int32) (v3 : Int32) (v4 : Int32) (M : Mem) : Prop := (((M 1 35) ≤ v4 → r.2.1 v1 v2 v3 (0 : Int32) M) ∧ (¬ (M 1 35) ≤ v4 → vp_in ((27 : Int32) + v4) 222 ∧ (∀ x_2 : Int32, x_2 = (v2 + (M 1 ((27 : Int32) + v4).toNatClampNeg)) → r.1 v1 x_2 v3 (v4 + 1) M)))
def f_X6_count_41 (Q : Int32 → Mem → Prop) (r : t_X6_count) (v1 : Int32) (v2 : Int32) (v3 : Int32) (v4 : Int32) (M : Mem) : Prop := (((M 1 20) ≤ v4 → ((v1 = 0 → Q (M 0 19) M) ∧ (¬ v1 = 0 → ((v1 = 1 → (((M 8 0) = 0 → r.2.2.1 (0 : Int32) M) ∧ (¬ (M 8 0) = 0 → r.2.2.1 (1 : Int32) M))) ∧ (¬ v1 = 1 → ((v1 = 2 → Q (M 0 4) M) ∧ (¬ v1 = 2 → ((v1 = 3 → ((¬ (M 9 0) = (-4 : Int32) → Q (M 10 0) M) ∧ ((M 9 0) = (-4 : Int32) → Q (-4 : Int32) M))) ∧ (¬ v1 = 3 → ((v1 = 4 → Q v2 M) ∧ (¬ v1 = 4 → ((v1 = 5 → Q v3 M) ∧ (¬ v1 = 5 → Q (-1 : Int32) M))))))))))))) ∧ (¬ (M 1 20) ≤ v4 → vp_in v4 222 ∧ vp_in ((10 : Int32) + v4) 222 ∧ (∀ x_5 : Int32, x_5 = (v3 + ((M 1 v4.toNatClampNeg) + (M 1 ((10 : Int32) + v4).toNatClampNeg))) → r.2.1 v1 v2 x_5 (v4 + 1) M)))
def f_X6_count_139 (Q : Int32 → Mem → Prop) (r : t_X6_count) (s0 : Int32) (M : Mem) : Prop := (((M 8 1) = 0 → r.2.2.2 (0 : Int32) s0 M) ∧ (¬ (M 8 1) = 0 → r.2.2.2 (1 : Int32) s0 M))
def f_X6_count_153 (Q : Int32 → Mem → Prop) (r : t_X6_count) (s0 : Int32) (s1 : Int32) (M : Mem) : Prop := Q (s1 + s0) M
def p_X6_count (Q : Int32 → Mem → Prop) : Nat → t_X6_count
  | 0 => (fun _ _ _ _ _ => False, fun _ _ _ _ _ => False, fun _ _ => False, fun _ _ _ => False)
  | n + 1 => (f_X6_count_7 Q (p_X6_count Q n), f_X6_count_41 Q (p_X6_count Q n), f_X6_count_139 Q (p_X6_count Q n), f_X6_count_153 Q (p_X6_count Q n))
def e_X6_count (v1 : Int32) (Q : Int32 → Mem → Prop) (r : t_X6_count) (M : Mem) : Prop := r.1 v1 (0 : Int32) (0 : Int32) (0 : Int32) M
def q_X6_count (v1 : Int32) (M : Mem) (Q : Int32 → Mem → Prop) : Prop := ∃ n : Nat, e_X6_count v1 Q (p_X6_count Q n) M
set_option maxRecDepth 100000 in
set_option maxHeartbeats 4000000 in
theorem b_X6_count {l : Launch} {K : wC} {Q : Int32 → Mem → Prop} {p : Program} {e : Env} {s : State} {m : MethodId} {args : Array Value} {below : List Frame} {meth : Method} {c : Code} (C : cx 12 K p s m args meth c cX6_count 5 wsX6_count RX6 (some .int)) : ∀ n : Nat, (∀ (v1 : Int32) (v2 : Int32) (v3 : Int32) (v4 : Int32) (M : Mem) (H : Heap) (locs : List Loc) (ls : Array Slot), (p_X6_count Q n).1 v1 v2 v3 v4 M → wP shM 12 K M H → va_S (wA 12 K) s.heap H locs → lv_has ls 5 [(0, .ref (kb K + 0)), (1, .int v1), (2, .int v2), (3, .int v3), (4, .int v4)] → W p l e rmX6_count s m args below meth c H locs 0 0 (MQ below (va_Qi Q (wE shM 12 K) (wA 12 K)) args s 0 0 (wA 12 K)) (F0 m 7 ls [])) ∧ (∀ (v1 : Int32) (v2 : Int32) (v3 : Int32) (v4 : Int32) (M : Mem) (H : Heap) (locs : List Loc) (ls : Array Slot), (p_X6_count Q n).2.1 v1 v2 v3 v4 M → wP shM 12 K M H → va_S (wA 12 K) s.heap H locs → lv_has ls 5 [(0, .ref (kb K + 0)), (1, .int v1), (2, .int v2), (3, .int v3), (4, .int v4)] → W p l e rmX6_count s m args below meth c H locs 0 0 (MQ below (va_Qi Q (wE shM 12 K) (wA 12 K)) args s 0 0 (wA 12 K)) (F0 m 41 ls [])) ∧ (∀ (s0 : Int32) (M : Mem) (H : Heap) (locs : List Loc) (ls : Array Slot), (p_X6_count Q n).2.2.1 s0 M → wP shM 12 K M H → va_S (wA 12 K) s.heap H locs → lv_has ls 5 [(0, .ref (kb K + 0))] → W p l e rmX6_count s m args below meth c H locs 0 0 (MQ below (va_Qi Q (wE shM 12 K) (wA 12 K)) args s 0 0 (wA 12 K)) (F0 m 139 ls [.int s0])) ∧ (∀ (s0 : Int32) (s1 : Int32) (M : Mem) (H : Heap) (locs : List Loc) (ls : Array Slot), (p_X6_count Q n).2.2.2 s0 s1 M → wP shM 12 K M H → va_S (wA 12 K) s.heap H locs → lv_has ls 5 [] → W p l e rmX6_count s m args below meth c H locs 0 0 (MQ below (va_Qi Q (wE shM 12 K) (wA 12 K)) args s 0 0 (wA 12 K)) (F0 m 153 ls [.int s0, .int s1])) := by
  obtain ⟨hx, hb, hml, hown, hts, hr, hlk, hK⟩ := id C
  intro n
  induction n with
  | zero => exact ⟨fun _ _ _ _ _ _ _ _ hw _ _ _ => False.elim hw, fun _ _ _ _ _ _ _ _ hw _ _ _ => False.elim hw, fun _ _ _ _ _ hw _ _ _ => False.elim hw, fun _ _ _ _ _ _ hw _ _ _ => False.elim hw⟩
  | succ n ih =>
    refine ⟨?_, ?_, ?_, ?_⟩
    · intro v1 v2 v3 v4 M H locs ls hw hP hS hl
      have hw : f_X6_count_7 Q (p_X6_count Q n) v1 v2 v3 v4 M := hw
      delta f_X6_count_7 at hw
      refine lv_iload hx hb dX6_count_7 (lv_at hl 4 rfl) ?_
      refine lv_aload_n hx hb dX6_count_9 rfl (lv_at hl 0 rfl) ?_
      refine g_f C hP (by decide) (sM_0 K _) rfl hX6_count_X6 0 (by decide) kX6_count_f7 rfl dX6_count_10 ?_
      refine lv_bipush hx hb dX6_count_13 bp_35 ?_
      refine a_il C hP (by decide) (sM_1 K _) vi_35_222 ti_35 dX6_count_15 ?_
      refine lv_icmp_ge (tgt := 38) hx hb dX6_count_16 (by decide) (fun hc => ?_) (fun hc => ?_)
      · have hw := hw.1 hc
        refine lv_iconst hx hb dX6_count_38 ic_0 ?_
        refine lv_istore (lv' := [(4, .int (0 : Int32)), (0, .ref (kb K + 0)), (1, .int v1), (2, .int v2), (3, .int v3)]) hx hb dX6_count_39 hl (by decide) rfl (fun ls hl => ?_)
        exact ih.2.1 _ _ _ _ _ _ _ _ hw hP hS (lv_sub hl [1, 2, 3, 4, 0] rfl)
      · have hw := hw.2 hc
        refine lv_iload_n hx hb dX6_count_19 rfl (lv_at hl 2 rfl) ?_
        refine lv_aload_n hx hb dX6_count_20 rfl (lv_at hl 0 rfl) ?_
        refine g_f C hP (by decide) (sM_0 K _) rfl hX6_count_X6 0 (by decide) kX6_count_f7 rfl dX6_count_21 ?_
        refine lv_bipush hx hb dX6_count_24 bp_27 ?_
        refine lv_iload hx hb dX6_count_26 (lv_at hl 4 rfl) ?_
        refine lv_iadd hx hb dX6_count_28 ?_
        have hi_1 := hw.1
        have hw := hw.2
        refine a_il C hP (by decide) (sM_1 K _) hi_1 rfl dX6_count_29 ?_
        refine lv_iadd hx hb dX6_count_30 ?_
        refine lv_topi (fun x_2 ex_2 => ?_)
        have hw := hw x_2 ex_2
        refine lv_istore_n (lv' := [(2, .int x_2), (0, .ref (kb K + 0)), (1, .int v1), (3, .int v3), (4, .int v4)]) hx hb dX6_count_31 rfl hl (by decide) rfl (fun ls hl => ?_)
        refine lv_iinc (v := (v4 + 1)) (lv' := [(4, .int (v4 + 1)), (2, .int x_2), (0, .ref (kb K + 0)), (1, .int v1), (3, .int v3)]) hx hb dX6_count_32 hl (k := 4) rfl (by rw [ic_1]) (by decide) rfl (fun ls hl => ?_)
        refine lv_goto (tgt := 7) hx hb dX6_count_35 (by decide) ?_
        exact ih.1 _ _ _ _ _ _ _ _ hw hP hS (lv_sub hl [2, 3, 1, 4, 0] rfl)
    · intro v1 v2 v3 v4 M H locs ls hw hP hS hl
      have hw : f_X6_count_41 Q (p_X6_count Q n) v1 v2 v3 v4 M := hw
      delta f_X6_count_41 at hw
      refine lv_iload hx hb dX6_count_41 (lv_at hl 4 rfl) ?_
      refine lv_aload_n hx hb dX6_count_43 rfl (lv_at hl 0 rfl) ?_
      refine g_f C hP (by decide) (sM_0 K _) rfl hX6_count_X6 0 (by decide) kX6_count_f7 rfl dX6_count_44 ?_
      refine lv_bipush hx hb dX6_count_47 bp_20 ?_
      refine a_il C hP (by decide) (sM_1 K _) vi_20_222 ti_20 dX6_count_49 ?_
      refine lv_icmp_ge (tgt := 80) hx hb dX6_count_50 (by decide) (fun hc => ?_) (fun hc => ?_)
      · have hw := hw.1 hc
        refine lv_iload_n hx hb dX6_count_80 rfl (lv_at hl 1 rfl) ?_
        by_cases hs0 : v1 = 0
        · have hw := hw.1 hs0
          refine lv_tableIn (tgt := 120) hx hb dX6_count_81 (by rw [hs0]; decide) (by rw [hs0]; decide) (by rw [hs0]; rfl) (by decide) ?_
          refine lv_aload_n hx hb dX6_count_120 rfl (lv_at hl 0 rfl) ?_
          refine g_f C hP (by decide) (sM_0 K _) rfl hX6_count_X6 19 (by decide) kX6_count_f117 rfl dX6_count_121 ?_
          exact r_i C hP hS hw dX6_count_124
        · have hw := hw.2 hs0
          by_cases hs1 : v1 = 1
          · have hw := hw.1 hs1
            refine lv_tableIn (tgt := 125) hx hb dX6_count_81 (by rw [hs1]; decide) (by rw [hs1]; decide) (by rw [hs1]; rfl) (by decide) ?_
            refine lv_aload_n hx hb dX6_count_125 rfl (lv_at hl 0 rfl) ?_
            refine g_f C hP (by decide) (sM_0 K _) rfl hX6_count_X6 21 (by decide) kX6_count_f35 rfl dX6_count_126 ?_
            refine lv_iconst hx hb dX6_count_129 ic_0 ?_
            refine a_zl C hP (by decide) (sM_8 K _) vi_0_2 ti_0 dX6_count_130 ?_
            refine lv_if_eq (tgt := 138) hx hb dX6_count_131 (by decide) (fun hc => ?_) (fun hc => ?_)
            · have hw := hw.1 hc
              refine lv_iconst hx hb dX6_count_138 ic_0 ?_
              exact ih.2.2.1 _ _ _ _ _ hw hP hS (lv_sub hl [0] rfl)
            · have hw := hw.2 hc
              refine lv_iconst hx hb dX6_count_134 ic_1 ?_
              refine lv_goto (tgt := 139) hx hb dX6_count_135 (by decide) ?_
              exact ih.2.2.1 _ _ _ _ _ hw hP hS (lv_sub hl [0] rfl)
          · have hw := hw.2 hs1
            by_cases hs2 : v1 = 2
            · have hw := hw.1 hs2
              refine lv_tableIn (tgt := 155) hx hb dX6_count_81 (by rw [hs2]; decide) (by rw [hs2]; decide) (by rw [hs2]; rfl) (by decide) ?_
              refine lv_aload_n hx hb dX6_count_155 rfl (lv_at hl 0 rfl) ?_
              refine g_f C hP (by decide) (sM_0 K _) rfl hX6_count_X6 4 (by decide) kX6_count_f54 rfl dX6_count_156 ?_
              exact r_i C hP hS hw dX6_count_159
            · have hw := hw.2 hs2
              by_cases hs3 : v1 = 3
              · have hw := hw.1 hs3
                refine lv_tableIn (tgt := 160) hx hb dX6_count_81 (by rw [hs3]; decide) (by rw [hs3]; decide) (by rw [hs3]; rfl) (by decide) ?_
                refine lv_aload_n hx hb dX6_count_160 rfl (lv_at hl 0 rfl) ?_
                refine g_f C hP (by decide) (sM_0 K _) rfl hX6_count_X6 22 (by decide) kX6_count_f39 rfl dX6_count_161 ?_
                refine lv_iconst hx hb dX6_count_164 ic_0 ?_
                refine a_il C hP (by decide) (sM_9 K _) vi_0_4 ti_0 dX6_count_165 ?_
                refine lv_bipush hx hb dX6_count_166 bp_m4 ?_
                refine lv_icmp_ne (tgt := 176) hx hb dX6_count_168 (by decide) (fun hc => ?_) (fun hc => ?_)
                · have hw := hw.1 hc
                  refine lv_aload_n hx hb dX6_count_176 rfl (lv_at hl 0 rfl) ?_
                  refine g_f C hP (by decide) (sM_0 K _) rfl hX6_count_X6 23 (by decide) kX6_count_f42 rfl dX6_count_177 ?_
                  refine lv_iconst hx hb dX6_count_180 ic_0 ?_
                  refine a_il C hP (by decide) (sM_10 K _) vi_0_4 ti_0 dX6_count_181 ?_
                  exact r_i C hP hS hw dX6_count_182
                · have hw := hw.2 hc
                  refine lv_bipush hx hb dX6_count_171 bp_m4 ?_
                  refine lv_goto (tgt := 182) hx hb dX6_count_173 (by decide) ?_
                  exact r_i C hP hS hw dX6_count_182
              · have hw := hw.2 hs3
                by_cases hs4 : v1 = 4
                · have hw := hw.1 hs4
                  refine lv_tableIn (tgt := 183) hx hb dX6_count_81 (by rw [hs4]; decide) (by rw [hs4]; decide) (by rw [hs4]; rfl) (by decide) ?_
                  refine lv_iload_n hx hb dX6_count_183 rfl (lv_at hl 2 rfl) ?_
                  exact r_i C hP hS hw dX6_count_184
                · have hw := hw.2 hs4
                  by_cases hs5 : v1 = 5
                  · have hw := hw.1 hs5
                    refine lv_tableIn (tgt := 185) hx hb dX6_count_81 (by rw [hs5]; decide) (by rw [hs5]; decide) (by rw [hs5]; rfl) (by decide) ?_
                    refine lv_iload_n hx hb dX6_count_185 rfl (lv_at hl 3 rfl) ?_
                    exact r_i C hP hS hw dX6_count_186
                  · have hw := hw.2 hs5
                    have nhs0 : v1.toInt ≠ 0 := ne_toInt hs0
                    have nhs1 : v1.toInt ≠ 1 := ne_toInt hs1
                    have nhs2 : v1.toInt ≠ 2 := ne_toInt hs2
                    have nhs3 : v1.toInt ≠ 3 := ne_toInt hs3
                    have nhs4 : v1.toInt ≠ 4 := ne_toInt hs4
                    have nhs5 : v1.toInt ≠ 5 := ne_toInt hs5
                    refine lv_tableOut (tgt := 187) hx hb dX6_count_81 (by omega) (by decide) ?_
                    refine lv_iconst hx hb dX6_count_187 ic_m1 ?_
                    exact r_i C hP hS hw dX6_count_188
      · have hw := hw.2 hc
        refine lv_iload_n hx hb dX6_count_53 rfl (lv_at hl 3 rfl) ?_
        refine lv_aload_n hx hb dX6_count_54 rfl (lv_at hl 0 rfl) ?_
        refine g_f C hP (by decide) (sM_0 K _) rfl hX6_count_X6 0 (by decide) kX6_count_f7 rfl dX6_count_55 ?_
        refine lv_iload hx hb dX6_count_58 (lv_at hl 4 rfl) ?_
        have hi_3 := hw.1
        have hw := hw.2
        refine a_il C hP (by decide) (sM_1 K _) hi_3 rfl dX6_count_60 ?_
        refine lv_aload_n hx hb dX6_count_61 rfl (lv_at hl 0 rfl) ?_
        refine g_f C hP (by decide) (sM_0 K _) rfl hX6_count_X6 0 (by decide) kX6_count_f7 rfl dX6_count_62 ?_
        refine lv_bipush hx hb dX6_count_65 bp_10 ?_
        refine lv_iload hx hb dX6_count_67 (lv_at hl 4 rfl) ?_
        refine lv_iadd hx hb dX6_count_69 ?_
        have hi_4 := hw.1
        have hw := hw.2
        refine a_il C hP (by decide) (sM_1 K _) hi_4 rfl dX6_count_70 ?_
        refine lv_iadd hx hb dX6_count_71 ?_
        refine lv_iadd hx hb dX6_count_72 ?_
        refine lv_topi (fun x_5 ex_5 => ?_)
        have hw := hw x_5 ex_5
        refine lv_istore_n (lv' := [(3, .int x_5), (0, .ref (kb K + 0)), (1, .int v1), (2, .int v2), (4, .int v4)]) hx hb dX6_count_73 rfl hl (by decide) rfl (fun ls hl => ?_)
        refine lv_iinc (v := (v4 + 1)) (lv' := [(4, .int (v4 + 1)), (3, .int x_5), (0, .ref (kb K + 0)), (1, .int v1), (2, .int v2)]) hx hb dX6_count_74 hl (k := 4) rfl (by rw [ic_1]) (by decide) rfl (fun ls hl => ?_)
        refine lv_goto (tgt := 41) hx hb dX6_count_77 (by decide) ?_
        exact ih.2.1 _ _ _ _ _ _ _ _ hw hP hS (lv_sub hl [2, 3, 4, 1, 0] rfl)
    · intro s0 M H locs ls hw hP hS hl
      have hw : f_X6_count_139 Q (p_X6_count Q n) s0 M := hw
      delta f_X6_count_139 at hw
      refine lv_aload_n hx hb dX6_count_139 rfl (lv_at hl 0 rfl) ?_
      refine g_f C hP (by decide) (sM_0 K _) rfl hX6_count_X6 21 (by decide) kX6_count_f35 rfl dX6_count_140 ?_
      refine lv_iconst hx hb dX6_count_143 ic_1 ?_
      refine a_zl C hP (by decide) (sM_8 K _) vi_1_2 ti_1 dX6_count_144 ?_
      refine lv_if_eq (tgt := 152) hx hb dX6_count_145 (by decide) (fun hc => ?_) (fun hc => ?_)
      · have hw := hw.1 hc
        refine lv_iconst hx hb dX6_count_152 ic_0 ?_
        exact ih.2.2.2 _ _ _ _ _ _ hw hP hS (lv_sub hl [] rfl)
      · have hw := hw.2 hc
        refine lv_iconst hx hb dX6_count_148 ic_1 ?_
        refine lv_goto (tgt := 153) hx hb dX6_count_149 (by decide) ?_
        exact ih.2.2.2 _ _ _ _ _ _ hw hP hS (lv_sub hl [] rfl)
    · intro s0 s1 M H locs ls hw hP hS hl
      have hw : f_X6_count_153 Q (p_X6_count Q n) s0 s1 M := hw
      delta f_X6_count_153 at hw
      refine lv_iadd hx hb dX6_count_153 ?_
      exact r_i C hP hS hw dX6_count_154
theorem dsX6_count : yX6_count.cls = RX6 ∧ yX6_count.cls ≠ "java/lang/invoke/MethodHandle" ∧ yX6_count.cls ≠ "java/lang/invoke/VarHandle" ∧ (parseMethodDescriptor yX6_count.desc).map (fun d => d.parameters.length) = some 1 := by decide +kernel
set_option maxRecDepth 100000 in
set_option maxHeartbeats 4000000 in
theorem c_X6_count {l : Launch} {K : wC} {v1 : Int32} {M : Mem} {Q : Int32 → Mem → Prop} (hw : q_X6_count v1 M Q) : metI l yX6_count wsX6_count rmX6_count shM 12 K [.ref (kb K + 0), .int v1] M Q := by
  refine met_of (cc := cX6_count) (maxL := 5) (ret := (some .int)) (own := RX6) (by decide) rfl rfl (Nat.le_of_ble_eq_true rfl) ?_
  intro p e s m below meth c ls C hl hP hS
  have hl : lv_has ls 5 [(0, .ref (kb K + 0)), (1, .int v1)] := hl
  obtain ⟨hx, hb, hml, hown, hts, hr, hlk, hK⟩ := id C
  have hP0 := hP
  obtain ⟨n, hw⟩ := hw
  have ih := b_X6_count (l := l) (e := e) (below := below) (Q := Q) C n
  delta e_X6_count at hw
  refine lv_iconst hx hb dX6_count_0 ic_0 ?_
  refine lv_istore_n (lv' := [(2, .int (0 : Int32)), (0, .ref (kb K + 0)), (1, .int v1)]) hx hb dX6_count_1 rfl hl (by decide) rfl (fun ls hl => ?_)
  refine lv_iconst hx hb dX6_count_2 ic_0 ?_
  refine lv_istore_n (lv' := [(3, .int (0 : Int32)), (2, .int (0 : Int32)), (0, .ref (kb K + 0)), (1, .int v1)]) hx hb dX6_count_3 rfl hl (by decide) rfl (fun ls hl => ?_)
  refine lv_iconst hx hb dX6_count_4 ic_0 ?_
  refine lv_istore (lv' := [(4, .int (0 : Int32)), (3, .int (0 : Int32)), (2, .int (0 : Int32)), (0, .ref (kb K + 0)), (1, .int v1)]) hx hb dX6_count_5 hl (by decide) rfl (fun ls hl => ?_)
  exact ih.1 _ _ _ _ _ _ _ _ hw hP hS (lv_sub hl [3, 4, 2, 1, 0] rfl)
