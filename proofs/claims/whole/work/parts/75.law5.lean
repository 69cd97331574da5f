/-! THE CLAIM OUT OF ONE WALK OF THE LAW'S BODY. Your part is whole_start (and what it stands on); all else here is the same for every law, but numbers. -/
def R_law : String := "WheelAreasLaw"
def lw_P (b : Addr) (xs : List Int32) (args : Array Value) (s : State) : Prop := args = #[.ref b] ∧ s.IntsAt b xs ∧ xs.length ≤ 3072 ∧ (Jvm.Cond.and given_1 narrow_1).before args s = true
def lw_Q (_ : Array Value) (s : State) (o : Outcome) (t : State) : Prop := o = .returned (some (.int 1)) ∧ Framed s o t [] 600000 7302250
def lw_Z (below : List Frame) (a : Array Value) (s : State) : State → Prop := fun t => ∃ o, t.status = .running ∧ Ended t below o ∧ lw_Q a s o t
/-- the law's own end, with 1 on the stack, nothing written that was there before, its room as the claim has it -/
theorem lw_ret {p : Program} {l : Launch} {e : Env} {s : State} {m : MethodId} {below : List Frame} {meth : Method} {c : Code} {b : Nat} (hx : p.tables.exec = Jvm.exec) (hb : c.code = code) (hr : meth.sig.returnType = ret) (hlocks : meth.locks = false) {pc : Nat} {H : Heap} {ls : Array Slot} (hdg : decode code pc = .ok (.ireturn, 1)) : W p l e room_1 s m #[Value.ref b] below meth c H [] 600000 7302250 (lw_Z below #[Value.ref b] s) (F0 m pc ls [.int 1]) := by
  intro T hT X
  obtain ⟨fs, hret, hrun, hended, hW, hframe⟩ := X.leave (v := some (.int 1)) (hlocks := hlocks) (fun h => by rw [hr] at h; cases h)
  have hmeth' : T.vm.method? m = some meth := X.method'
  refine ⟨T.setFrames fs, ?_, .returned (some (.int 1)), hrun, hended, rfl, ⟨_, rfl⟩, hW, hframe⟩
  jvm_step X.here [X.here.top, hx, hb, hdg, hmeth', hr, ret, narrow_b1]
  (try refine ⟨rfl, ?_⟩); (try refine ⟨rfl, ?_⟩)
  first | (intro acts; rw [hret _ acts rfl rfl rfl]) | rw [hret _ _ rfl rfl rfl]
  exact Steps.refl _
/-- what holds at the law's entry: the machine, the code, the tables' words (any of lw_tbl by 'hts w (by decide +kernel)'), the script of L ints xs at the cell b, what the Statement gives of the start (any of its parts by flat_of_before) -/
def lw_At (p : Program) (s : State) (m : MethodId) (meth : Method) (c : Code) (b L : Nat) (xs : Nat → Int32) : Prop :=
  p.tables.exec = Jvm.exec ∧ c.code = code ∧ meth.sig.returnType = ret ∧ c.maxLocals = 4 ∧ s.vm.findClass R_law = some m.cls ∧ (∀ w ∈ lw_tbl, w.before #[Value.ref b] s = true) ∧ va_X b L xs s s.heap ∧ b < s.heap.size ∧ meth.locks = false ∧ (Jvm.Cond.and given_1 narrow_1).before #[Value.ref b] s = true
/-! the switch, the loop -/
abbrev offsL : Array Int := #[175, 198, 221, 234, 247, 270, 303, 336, 379, 412, 435, 458, 501, 534, 557, 590, 613, 646, 679, 712, 745, 778, 811, 844, 867, 890, 954, 1008, 1051, 1074, 1097, 1120, 1153, 1196, 1219, 1242, 1285, 1328, 1381, 1394]
section LC
variable {p : Program} {l : Launch} {e : Env} {s : State} {m : MethodId} {below : List Frame} {meth : Method} {c : Code} {H : Heap} {locs : List Loc} {Q : State → Prop} {ls : Array Slot} {b L i : Nat} {xs : Nat → Int32} {K K2 : wC} {M N : Mem}
theorem l_sw (C : lx p s m c b L xs K K2) (hi : i + 6 ≤ L) (hl : lv_has ls 4 [(3, .int (nI i)), (2, .ref (kb K2 + 0)), (1, .ref (kb K + 0)), (0, .ref b)]) (h : RR M N) (hP : wP shX 51 K M H) (hN : wP shM 12 K2 N H) (hS : va_S (aL s) s.heap H locs)
    (kk : ∀ (M1 N1 : Mem) (H1 : Heap) (locs1 : List Loc), RR M1 N1 → wP shX 51 K M1 H1 → wP shM 12 K2 N1 H1 → va_S (aL s) s.heap H1 locs1 → W p l e room_1 s m #[Value.ref b] below meth c H1 locs1 63 1688 Q (F0 m 1450 ls [])) : ∀ j : Nat, j < 40 → ∃ (off : Int) (tgt : Nat), offsL[j]? = some off ∧ ((33 : Nat) : Int) + off = (tgt : Int) ∧ W p l e room_1 s m #[Value.ref b] below meth c H locs 63 1688 Q (F0 m tgt ls []) := (lt_s (lt_s (lt_s (lt_s (lt_s (lt_s (lt_s (lt_s (lt_s (lt_s (lt_s (lt_s (lt_s (lt_s (lt_s (lt_s (lt_s (lt_s (lt_s (lt_s (lt_s (lt_s (lt_s (lt_s (lt_s (lt_s (lt_s (lt_s (lt_s (lt_s (lt_s (lt_s (lt_s (lt_s (lt_s (lt_s (lt_s (lt_s (lt_s (lt_s lt_0 ⟨175, 208, rfl, by decide, lc_feed C hi hl h hP hN hS kk⟩) ⟨198, 231, rfl, by decide, lc_end C hi hl h hP hN hS kk⟩) ⟨221, 254, rfl, by decide, lc_text C hi hl h hP hN hS kk⟩) ⟨234, 267, rfl, by decide, lc_fault C hi hl h hP hN hS kk⟩) ⟨247, 280, rfl, by decide, lc_rule C hi hl h hP hN hS kk⟩) ⟨270, 303, rfl, by decide, lc_corner C hi hl h hP hN hS kk⟩) ⟨303, 336, rfl, by decide, lc_wheel C hi hl h hP hN hS kk⟩) ⟨336, 369, rfl, by decide, lc_alter C hi hl h hP hN hS kk⟩) ⟨379, 412, rfl, by decide, lc_put C hi hl h hP hN hS kk⟩) ⟨412, 445, rfl, by decide, lc_cut C hi hl h hP hN hS kk⟩) ⟨435, 468, rfl, by decide, lc_zero C hi hl h hP hN hS kk⟩) ⟨458, 491, rfl, by decide, lc_shift C hi hl h hP hN hS kk⟩) ⟨501, 534, rfl, by decide, lc_add C hi hl h hP hN hS kk⟩) ⟨534, 567, rfl, by decide, lc_drop C hi hl h hP hN hS kk⟩) ⟨557, 590, rfl, by decide, lc_pole C hi hl h hP hN hS kk⟩) ⟨590, 623, rfl, by decide, lc_trace C hi hl h hP hN hS kk⟩) ⟨613, 646, rfl, by decide, lc_runs C hi hl h hP hN hS kk⟩) ⟨646, 679, rfl, by decide, lc_ahead C hi hl h hP hN hS kk⟩) ⟨679, 712, rfl, by decide, lc_when C hi hl h hP hN hS kk⟩) ⟨712, 745, rfl, by decide, lc_best C hi hl h hP hN hS kk⟩) ⟨745, 778, rfl, by decide, lc_step C hi hl h hP hN hS kk⟩) ⟨778, 811, rfl, by decide, lc_kind C hi hl h hP hN hS kk⟩) ⟨811, 844, rfl, by decide, lc_place C hi hl h hP hN hS kk⟩) ⟨844, 877, rfl, by decide, lc_swap C hi hl h hP hN hS kk⟩) ⟨867, 900, rfl, by decide, lc_out C hi hl h hP hN hS kk⟩) ⟨890, 923, rfl, by decide, lc_luck C hi hl h hP hN hS kk⟩) ⟨954, 987, rfl, by decide, lc_mean C hi hl h hP hN hS kk⟩) ⟨1008, 1041, rfl, by decide, lc_see C hi hl h hP hN hS kk⟩) ⟨1051, 1084, rfl, by decide, lc_forget C hi hl h hP hN hS kk⟩) ⟨1074, 1107, rfl, by decide, lc_kinds C hi hl h hP hN hS kk⟩) ⟨1097, 1130, rfl, by decide, lc_steps C hi hl h hP hN hS kk⟩) ⟨1120, 1153, rfl, by decide, lc_ask C hi hl h hP hN hS kk⟩) ⟨1153, 1186, rfl, by decide, lc_drift C hi hl h hP hN hS kk⟩) ⟨1196, 1229, rfl, by decide, lc_keep C hi hl h hP hN hS kk⟩) ⟨1219, 1252, rfl, by decide, lc_back C hi hl h hP hN hS kk⟩) ⟨1242, 1275, rfl, by decide, lc_sheet C hi hl h hP hN hS kk⟩) ⟨1285, 1318, rfl, by decide, lc_lay C hi hl h hP hN hS kk⟩) ⟨1328, 1361, rfl, by decide, lc_read C hi hl h hP hN hS kk⟩) ⟨1381, 1414, rfl, by decide, lc_torn C hi hl h hP hN hS kk⟩) ⟨1394, 1427, rfl, by decide, lc_count C hi hl h hP hN hS kk⟩)
end LC
section LL
variable {p : Program} {l : Launch} {e : Env} {s : State} {m : MethodId} {below : List Frame} {meth : Method} {c : Code} {b L : Nat} {xs : Nat → Int32} {K K2 : wC}
set_option maxHeartbeats 4000000 in
set_option maxRecDepth 100000 in
theorem law_loop (C : lx p s m c b L xs K K2) (hr : meth.sig.returnType = ret) (hlk : meth.locks = false) : ∀ (n i : Nat), L - i < n → i ≤ L → ∀ (M N : Mem) (H : Heap) (locs : List Loc) (ls : Array Slot), lv_has ls 4 [(3, .int (nI i)), (2, .ref (kb K2 + 0)), (1, .ref (kb K + 0)), (0, .ref b)] → RR M N → wP shX 51 K M H → wP shM 12 K2 N H → va_S (aL s) s.heap H locs →
    W p l e room_1 s m #[Value.ref b] below meth c H locs 63 1688 (lw_Z below #[Value.ref b] s) (F0 m 18 ls []) := by
  obtain ⟨hx, hb, -, -, -⟩ := C.1
  have hX := C.2.1
  have hbl := C.2.2.1
  have hL := C.2.2.2.2.2.2.2
  have hbA : ¬ aL s b := Nat.not_le.mpr hbl
  intro n
  induction n with
  | zero => intro i h; exact absurd h (Nat.not_lt_zero _)
  | succ n ih =>
    intro i hn hiL M N H locs ls hl h hP hN hS
    refine lv_iload_n hx hb dL_law_18 rfl (lv_at hl 0 rfl) ?_
    refine lv_aload_n hx hb dL_law_19 rfl (lv_at hl 3 rfl) ?_
    refine va_slen hx hb hX hbl hbA hS dL_law_20 ?_
    refine lv_bipush (v := 6) hx hb dL_law_21 (by decide) ?_
    refine lv_isub hx hb dL_law_23 ?_
    have hcmp : (Int32.ofNat L - 6 < nI i) ↔ L < i + 6 := by
      rw [Int32.lt_iff_toInt_lt, show (6 : Int32) = nI 6 from rfl, show Int32.ofNat L = nI L from rfl, pk_sub_toInt (by omega) (by omega), nI_toInt (by omega)]
      omega
    refine lv_icmp_gt (tgt := 1456) hx hb dL_law_24 (by decide) (fun hc => ?_) (fun hc => ?_)
    · refine va_forget (fun q hq => hS.2.2 q hq) ?_
      refine W.widen (k := 600000) (n := 7302250) (Nat.le_of_ble_eq_true rfl) (Nat.le_of_ble_eq_true rfl) ?_
      refine lv_iconst (v := 1) hx hb dL_law_1456 (by decide) ?_
      exact lw_ret hx hb hr hlk dL_law_1457
    · have hi : i + 6 ≤ L := Nat.not_lt.mp (fun q => hc (hcmp.mpr q))
      refine lv_aload_n hx hb dL_law_27 rfl (lv_at hl 3 rfl) ?_
      refine lv_iload_n hx hb dL_law_28 rfl (lv_at hl 0 rfl) ?_
      refine va_sld hx hb hX hbl hbA hS (vp_in_nI (by omega) (by omega)) dL_law_29 ?_
      refine lv_bipush (v := 63) hx hb dL_law_30 (by decide) ?_
      refine lv_iand hx hb dL_law_32 ?_
      obtain ⟨j, hj, ej⟩ := pk_andE (xs (nI i).toNatClampNeg) (m := 63) 6 (by decide)
      rw [ej]
      have kk : ∀ (M1 N1 : Mem) (H1 : Heap) (locs1 : List Loc), RR M1 N1 → wP shX 51 K M1 H1 → wP shM 12 K2 N1 H1 → va_S (aL s) s.heap H1 locs1 → W p l e room_1 s m #[Value.ref b] below meth c H1 locs1 63 1688 (lw_Z below #[Value.ref b] s) (F0 m 1450 ls []) := by
        intro M1 N1 H1 locs1 h hP hN hS
        refine lv_iinc (v := nI (i + 6)) (lv' := [(3, .int (nI (i + 6))), (2, .ref (kb K2 + 0)), (1, .ref (kb K + 0)), (0, .ref b)]) hx hb dL_law_1450 hl (k := 0) rfl (by rw [← nI_add]; rfl) (by decide) rfl (fun ls hl => ?_)
        refine lv_goto (tgt := 18) hx hb dL_law_1453 (by decide) ?_
        exact ih (i + 6) (by omega) hi M1 N1 H1 locs1 ls hl h hP hN hS
      have hjt : (nI j).toInt = (j : Int) := nI_toInt (by omega)
      by_cases h40 : j < 40
      · obtain ⟨off, tgt, h1, h2, h3⟩ := l_sw C hi hl h hP hN hS kk j h40
        exact lv_tableIn (tgt := tgt) hx hb dL_law_33 (by rw [hjt]; omega) (by rw [hjt]; omega) (by rw [hjt, show ((j : Int) - 0).toNat = j by omega]; exact h1) h2 h3
      · exact lv_tableOut (tgt := 1450) hx hb dL_law_33 (Or.inr (by rw [hjt]; omega)) (by decide) (kk M N H locs h hP hN hS)
end LL
