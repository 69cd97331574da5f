/-- one wheel more -/
def pWh (P : Pg) (k s : Int32) : Pg := upd (upd (upd (upd P (23 + wN P) k) (27 + wN P) s) (31 + wN P) 0) 35 (nI (wN P + 1))
theorem wN_pWh {P : Pg} {k s : Int32} (h4 : wN P ≤ 4) : wN (pWh P k s) = wN P + 1 := wN_nI (by omega)
theorem OK_pWh {P : Pg} {k s : Int32} (h : OK P) (h4 : wN P < 4) (hk : kd k) (hs : sp s) : OK (pWh P k s) := by
  have hO := h.1
  obtain ⟨⟨⟨a1, a2⟩, ⟨b1, b2⟩, ⟨c1, c2⟩, ⟨d1, d2⟩, f, g⟩, kk, m⟩ := h
  have ew : wN (pWh P k s) = wN P + 1 := wN_pWh (by omega)
  have sm : ∀ j, j < 23 ∨ j = 36 → pWh P k s j = P j := by
    intro j hj
    unfold pWh
    rw [up_n (by omega), up_n (by omega), up_n (by omega), up_n (by omega)]
  have ec : cN (pWh P k s) = cN P := cN_congr (sm 20 (by omega))
  have et : tN (pWh P k s) = tN P := by unfold tN; rw [sm 36 (by omega)]
  have wv : ∀ i, i < wN P + 1 → pWh P k s (23 + i) = (if i = wN P then k else P (23 + i)) ∧ pWh P k s (27 + i) = (if i = wN P then s else P (27 + i)) ∧ pWh P k s (31 + i) = (if i = wN P then 0 else P (31 + i)) := by
    intro i hi
    unfold pWh
    by_cases q : i = wN P
    · rw [if_pos q, if_pos q, if_pos q, q]
      refine ⟨?_, ?_, ?_⟩
      · rw [up_n (by omega), up_n (by omega), up_n (by omega), up_s]
      · rw [up_n (by omega), up_n (by omega), up_s]
      · rw [up_n (by omega), up_s]
    · rw [if_neg q, if_neg q, if_neg q]
      refine ⟨?_, ?_, ?_⟩ <;> rw [up_n (by omega), up_n (by omega), up_n (by omega), up_n (by omega)]
  refine ⟨⟨⟨?_, ?_⟩, ⟨?_, ?_⟩, ⟨?_, ?_⟩, ⟨?_, ?_⟩, fun i hi => ?_, fun i hi => ?_⟩, ?_, fun i hi => ?_⟩
  · rw [ec, sm 20 (by omega)]; exact a1
  · rw [ec]; exact a2
  · rw [ew]; rfl
  · rw [ew]; omega
  · rw [et, sm 36 (by omega)]; exact c1
  · rw [et]; exact c2
  · rw [sm 21 (by omega)]; exact d1
  · rw [sm 22 (by omega)]; exact d2
  · rw [ec] at hi
    rw [sm i (by omega), sm (10 + i) (by omega)]; exact f i hi
  · rw [ew] at hi
    rw [(wv i hi).1, (wv i hi).2.1]
    by_cases q : i = wN P
    · rw [if_pos q, if_pos q]; exact ⟨hk, hs⟩
    · rw [if_neg q, if_neg q]; exact g i (by omega)
  · rw [et]; exact kk
  · rw [ew] at hi
    rw [et, (wv i hi).2.2]
    by_cases q : i = wN P
    · rw [if_pos q]
      have e : (0 : Int32).toInt = 0 := by decide
      constructor <;> rw [e] <;> omega
    · rw [if_neg q]; exact m i (by omega)
def mWh (M : Mem) (o w : Nat) (k s : Int32) : Mem := mU (mU (mU (mU M (o + 3) w k) (o + 4) w s) (o + 5) w 0) o 6 (nI (w + 1))
theorem isX_pWh {M : Mem} {o : Nat} {P : Pg} {k s : Int32} (h : isX M o P) (h10 : cN P ≤ 10) (h4 : wN P < 4) : isX (mWh M o (wN P) k s) o (pWh P k s) := by
  obtain ⟨a, b, c, d, e, f, g⟩ := h
  have ew : wN (pWh P k s) = wN P + 1 := wN_pWh (by omega)
  have sm : ∀ j, j < 23 ∨ j = 36 → pWh P k s j = P j := by
    intro j hj
    unfold pWh
    rw [up_n (by omega), up_n (by omega), up_n (by omega), up_n (by omega)]
  have ec : cN (pWh P k s) = cN P := cN_congr (sm 20 (by omega))
  have m0 : ∀ j, j ≠ 6 → mWh M o (wN P) k s o j = M o j := by
    intro j hj
    unfold mWh
    rw [mU_at, if_neg (by omega), mU_n (by omega), mU_n (by omega), mU_n (by omega)]
  refine ⟨?_, ?_, ?_, ?_, ?_, fun i hi => ?_, fun i hi => ?_⟩
  · rw [m0 2 (by omega), sm 20 (by omega)]; exact a
  · unfold mWh pWh
    rw [mU_at, if_pos ⟨rfl, rfl⟩, up_s]
  · rw [m0 7 (by omega), sm 21 (by omega)]; exact c
  · rw [m0 8 (by omega), sm 22 (by omega)]; exact d
  · rw [m0 9 (by omega), sm 36 (by omega)]; exact e
  · rw [ec] at hi
    rw [sm i (by omega), sm (10 + i) (by omega)]
    unfold mWh
    rw [mU_n (by omega), mU_n (by omega), mU_n (by omega), mU_n (by omega), mU_n (by omega), mU_n (by omega), mU_n (by omega), mU_n (by omega)]
    exact f i hi
  · rw [ew] at hi
    unfold mWh pWh
    by_cases q : i = wN P
    · subst q
      refine ⟨?_, ?_, ?_⟩
      · rw [mU_n (by omega), mU_n (by omega), mU_n (by omega), mU_at, if_pos ⟨rfl, rfl⟩, up_n (by omega), up_n (by omega), up_n (by omega), up_s]
      · rw [mU_n (by omega), mU_n (by omega), mU_at, if_pos ⟨rfl, rfl⟩, up_n (by omega), up_n (by omega), up_s]
      · rw [mU_n (by omega), mU_at, if_pos ⟨rfl, rfl⟩, up_n (by omega), up_s]
    · obtain ⟨g1, g2, g3⟩ := g i (by omega)
      refine ⟨?_, ?_, ?_⟩
      · rw [mU_n (by omega), mU_n (by omega), mU_n (by omega), mU_at, if_neg (by omega), up_n (by omega), up_n (by omega), up_n (by omega), up_n (by omega)]; exact g1
      · rw [mU_n (by omega), mU_n (by omega), mU_at, if_neg (by omega), mU_n (by omega), up_n (by omega), up_n (by omega), up_n (by omega), up_n (by omega)]; exact g2
      · rw [mU_n (by omega), mU_at, if_neg (by omega), mU_n (by omega), mU_n (by omega), up_n (by omega), up_n (by omega), up_n (by omega), up_n (by omega)]; exact g3
theorem L_appendWheel {M : Mem} {o w : Nat} {k s : Int32} {Q : Mem → Prop} (e : M o 6 = nI w) (hw : w < 4) (hq : Q (mWh M o w k s)) : q_X0_appendWheel o k s M Q := by
  have v : vp_in (nI w) 4 := vp_in_nI (by omega) (by omega)
  unfold q_X0_appendWheel
  have e1 : (mU M (o + 3) w k) o 6 = nI w := by rw [mU_n (by omega)]; exact e
  rw [e]
  refine br_f (by rw [li 4]; exact nI_ge (by omega) (by omega)) ?_
  rw [nI_clamp (by omega), e1]
  refine ⟨v, v, fun M3 h3 => ?_⟩
  rw [nI_clamp (by omega)] at h3
  have e3 : M3 o 6 = nI w := by rw [h3, mU_n (by omega)]; exact e1
  rw [e3, nI_clamp (by omega)]
  refine ⟨v, fun M5 h5 => ?_⟩
  have e4 : (mU M3 (o + 5) w 0) o 6 = nI w := by rw [mU_n (by omega)]; exact e3
  rw [e4, li 1, nI_add] at h5
  rw [h5, h3]
  exact hq
set_option maxHeartbeats 1000000 in
theorem o_put {M N : Mem} (h : RR M N) (v1 v2 : Int32) : both (q_X5_put v1 v2 M) (q_X6_put v1 v2 N) := by
  obtain ⟨⟨hO, hX⟩, -⟩ := id h
  have h4 := hO.1.2.1.2
  have e6 : M 1 6 = nI (wN (pg N 0)) := hX.2.1.trans hO.1.2.1.1
  have e35 : N 1 35 = nI (wN (pg N 0)) := hO.1.2.1.1
  by_cases hk : 0 ≤ v1 ∧ v1 ≤ 3
  · by_cases hs : 1 ≤ v2 ∧ v2 ≤ 9
    · have fX : ∀ Q : Int32 → Mem → Prop, _ → q_X5_put v1 v2 M Q := fun Q q => X_isKind (fun _ => br_f ne10 (X_isStep (fun _ => bn_f ne10 q) (fun n => absurd hs n))) (fun n => absurd hk n)
      have fR : ∀ Q : Int32 → Mem → Prop, _ → q_X6_put v1 v2 N Q := fun Q q => R_inI (lo := 0) (hi := 3) rfl rfl (fun _ => br_f ne10 (R_inI (lo := 1) (hi := 9) rfl rfl (fun _ => bn_f ne10 q) (fun n => absurd hs n))) (fun n => absurd hk n)
      by_cases hw : wN (pg N 0) = 4
      · refine both.no h (-3) (fun Q q => fX Q (br_f ?_ q)) (fun Q q => fR Q (bn_t ?_ q))
        · rw [e6, hw]; decide
        · rw [e35, hw]; decide
      · refine both.e (nI (wN (pg N 0) + 1)) (mWh M 1 (wN (pg N 0)) v1 v2) (mU (mU (mU (mU N 1 (23 + wN (pg N 0)) v1) 1 (27 + wN (pg N 0)) v2) 1 (31 + wN (pg N 0)) 0) 1 35 (nI (wN (pg N 0) + 1))) (fun Q q => fX Q (br_t ?_ (L_appendWheel e6 (by omega) ?_))) (fun Q q => fR Q (bn_f ?_ ?_)) ?_
        · rw [e6, li 4]; exact nI_lt (by omega) (by omega)
        · exact q
        · rw [e35, li 4, nI_eq (by omega) (by omega)]; exact hw
        · rw [e35]
          simp only [li 23, li 27, li 31, nI_add]
          refine ⟨vp_in_nI (by omega) (by omega), vp_in_nI (by omega) (by omega), fun M7 h7 => ⟨vp_in_nI (by omega) (by omega), fun M9 h9 => ?_⟩⟩
          rw [nI_clamp (by omega), nI_clamp (by omega)] at h7
          rw [nI_clamp (by omega)] at h9
          have e : (mU M7 1 (31 + wN (pg N 0)) 0) 1 35 = nI (wN (pg N 0)) := by
            rw [mU_at, if_neg (by omega), h7, mU_at, if_neg (by omega), mU_at, if_neg (by omega)]; exact e35
          rw [e, li 1, nI_add] at h9
          rw [h9, mU_at, if_pos ⟨rfl, rfl⟩, h7]
          exact q
        · refine h.now (fun a ha => by unfold mWh; rw [mU_n (by omega), mU_n (by omega), mU_n (by omega), mU_n (by omega)]) (fun a ha => by rw [mU_n ha, mU_n ha, mU_n ha, mU_n ha]) (fun j hj => by rw [mU_at, if_neg (by omega), mU_at, if_neg (by omega), mU_at, if_neg (by omega), mU_at, if_neg (by omega)]) ?_ ?_
          · rw [pg_mU0, pg_mU0, pg_mU0, pg_mU0]
            exact OK_pWh hO (by omega) (kd_of hk) (sp_of hs)
          · rw [pg_mU0, pg_mU0, pg_mU0, pg_mU0]
            exact isX_pWh hX hO.1.1.2 (by omega)
    · exact both.no h (-1) (fun Q q => X_isKind (fun _ => br_f ne10 (X_isStep (fun n => absurd n hs) (fun _ => bn_t rfl q))) (fun n => absurd hk n)) (fun Q q => R_inI (lo := 0) (hi := 3) rfl rfl (fun _ => br_f ne10 (R_inI (lo := 1) (hi := 9) rfl rfl (fun n => absurd n hs) (fun _ => bn_t rfl q))) (fun n => absurd hk n))
  · exact both.no h (-1) (fun Q q => X_isKind (fun n => absurd n hk) (fun _ => br_t rfl q)) (fun Q q => R_inI (lo := 0) (hi := 3) rfl rfl (fun n => absurd n hk) (fun _ => br_t rfl q))
/-- one corner more -/
def pCo (P : Pg) (x y : Int32) : Pg := upd (upd (upd P (cN P) x) (10 + cN P) y) 20 (nI (cN P + 1))
def mCo (M : Mem) (o c : Nat) (x y : Int32) : Mem := mU (mU (mU M (o + 1) c x) (o + 2) c y) o 2 (nI (c + 1))
theorem cN_pCo {P : Pg} {x y : Int32} (h : cN P ≤ 10) : cN (pCo P x y) = cN P + 1 := cN_nI (by omega)
theorem pCo_at {P : Pg} {x y : Int32} (h : cN P < 10) : (∀ j, 21 ≤ j → pCo P x y j = P j) ∧ ∀ i, i < cN P + 1 → pCo P x y i = (if i = cN P then x else P i) ∧ pCo P x y (10 + i) = (if i = cN P then y else P (10 + i)) := by
  refine ⟨fun j hj => ?_, fun i hi => ?_⟩
  · unfold pCo
    rw [up_n (by omega), up_n (by omega), up_n (by omega)]
  · unfold pCo
    by_cases q : i = cN P
    · rw [if_pos q, if_pos q, q]
      refine ⟨?_, ?_⟩
      · rw [up_n (by omega), up_n (by omega), up_s]
      · rw [up_n (by omega), up_s]
    · rw [if_neg q, if_neg q]
      refine ⟨?_, ?_⟩ <;> rw [up_n (by omega), up_n (by omega), up_n (by omega)]
theorem OK_pCo {P : Pg} {x y : Int32} (h : OK P) (h10 : cN P < 10) (hx : pl x) (hy : pl y) : OK (pCo P x y) := by
  obtain ⟨⟨⟨a1, a2⟩, ⟨b1, b2⟩, ⟨c1, c2⟩, ⟨d1, d2⟩, f, g⟩, kk, m⟩ := h
  obtain ⟨s1, s2⟩ := pCo_at (x := x) (y := y) h10
  have ec : cN (pCo P x y) = cN P + 1 := cN_pCo (by omega)
  have ew : wN (pCo P x y) = wN P := wN_congr (s1 35 (by omega))
  have et : tN (pCo P x y) = tN P := by unfold tN; rw [s1 36 (by omega)]
  refine ⟨⟨⟨?_, ?_⟩, ⟨?_, ?_⟩, ⟨?_, ?_⟩, ⟨?_, ?_⟩, fun i hi => ?_, fun i hi => ?_⟩, ?_, fun i hi => ?_⟩
  · rw [ec]; rfl
  · rw [ec]; omega
  · rw [ew, s1 35 (by omega)]; exact b1
  · rw [ew]; exact b2
  · rw [et, s1 36 (by omega)]; exact c1
  · rw [et]; exact c2
  · rw [s1 21 (by omega)]; exact d1
  · rw [s1 22 (by omega)]; exact d2
  · rw [ec] at hi
    rw [(s2 i hi).1, (s2 i hi).2]
    by_cases q : i = cN P
    · rw [if_pos q, if_pos q]; exact ⟨hx, hy⟩
    · rw [if_neg q, if_neg q]; exact f i (by omega)
  · rw [ew] at hi
    rw [s1 (23 + i) (by omega), s1 (27 + i) (by omega)]; exact g i hi
  · rw [et]; exact kk
  · rw [ew] at hi
    rw [et, s1 (31 + i) (by omega)]; exact m i hi
theorem isX_pCo {M : Mem} {o : Nat} {P : Pg} {x y : Int32} (h : isX M o P) (h10 : cN P < 10) : isX (mCo M o (cN P) x y) o (pCo P x y) := by
  obtain ⟨a, b, c, d, e, f, g⟩ := h
  obtain ⟨s1, s2⟩ := pCo_at (x := x) (y := y) h10
  have ec : cN (pCo P x y) = cN P + 1 := cN_pCo (by omega)
  have ew : wN (pCo P x y) = wN P := wN_congr (s1 35 (by omega))
  have m0 : ∀ j, j ≠ 2 → mCo M o (cN P) x y o j = M o j := by
    intro j hj
    unfold mCo
    rw [mU_at, if_neg (by omega), mU_n (by omega), mU_n (by omega)]
  refine ⟨?_, ?_, ?_, ?_, ?_, fun i hi => ?_, fun i hi => ?_⟩
  · unfold mCo pCo
    rw [mU_at, if_pos ⟨rfl, rfl⟩, up_s]
  · rw [m0 6 (by omega), s1 35 (by omega)]; exact b
  · rw [m0 7 (by omega), s1 21 (by omega)]; exact c
  · rw [m0 8 (by omega), s1 22 (by omega)]; exact d
  · rw [m0 9 (by omega), s1 36 (by omega)]; exact e
  · rw [ec] at hi
    rw [(s2 i hi).1, (s2 i hi).2]
    unfold mCo
    rw [mU_n (by omega), mU_n (by omega), mU_at, mU_n (by omega), mU_at]
    by_cases q : i = cN P
    · rw [if_pos ⟨rfl, q⟩, if_pos q, if_pos ⟨rfl, q⟩, if_pos q]; exact ⟨rfl, rfl⟩
    · rw [if_neg (fun z => q z.2), if_neg q, if_neg (fun z => q z.2), if_neg q, mU_n (by omega)]; exact f i (by omega)
  · rw [ew] at hi
    rw [s1 (23 + i) (by omega), s1 (27 + i) (by omega), s1 (31 + i) (by omega)]
    unfold mCo
    rw [mU_n (by omega), mU_n (by omega), mU_n (by omega), mU_n (by omega), mU_n (by omega), mU_n (by omega), mU_n (by omega), mU_n (by omega), mU_n (by omega)]
    exact g i hi
theorem L_appendCorner {M : Mem} {o c : Nat} {x y : Int32} {Q : Mem → Prop} (e : M o 2 = nI c) (hc : c < 10) (hq : Q (mCo M o c x y)) : q_X0_appendCorner o x y M Q := by
  have v : vp_in (nI c) 10 := vp_in_nI (by omega) (by omega)
  unfold q_X0_appendCorner
  have e1 : (mU M (o + 1) c x) o 2 = nI c := by rw [mU_n (by omega)]; exact e
  rw [e]
  refine br_f (by rw [li 10]; exact nI_ge (by omega) (by omega)) ?_
  rw [nI_clamp (by omega), e1]
  refine ⟨v, v, fun M3 h3 => ?_⟩
  rw [nI_clamp (by omega)] at h3
  have e3 : M3 o 2 = nI c := by rw [h3, mU_n (by omega)]; exact e1
  rw [e3, li 1, nI_add, h3]
  exact hq
theorem X_refusal {M : Mem} {o c : Nat} {x y : Int32} {Q : Int32 → Mem → Prop} (e : M o 2 = nI c) (hc : c ≤ 10) (h0 : plc x y → c < 10 → Q 0 M) (h1 : ¬ plc x y → Q (-1) M) (h3 : plc x y → c = 10 → Q (-3) M) : q_X5_refusalOfCorner o x y M Q := by
  refine X_isPlace (fun hp => bn_f ne10 ?_) (fun hp => bn_t rfl (h1 hp))
  rw [e, li 10]
  refine br_c (fun h => h0 hp ((nI_ltI (by omega) (by omega)).mp h)) (fun h => h3 hp ?_)
  have hn : ¬ c < 10 := fun q => h ((nI_ltI (by omega) (by omega)).mpr q)
  omega
def mAdd (N : Mem) (c : Nat) (x y : Int32) : Mem := mU (mU (mU N 1 c x) 1 (10 + c) y) 1 20 (nI (c + 1))
theorem R_adds {N : Mem} {c : Nat} {x y : Int32} {Q : Int32 → Mem → Prop} (e : N 1 20 = nI c) (hc : c ≤ 10) (h0 : plc x y → c < 10 → Q (nI (c + 1)) (mAdd N c x y)) (h1 : ¬ plc x y → Q (-1) N) (h3 : plc x y → c = 10 → Q (-3) N) : q_X6_adds x y N Q := by
  refine R_isPoint (fun hp => bn_f ne10 ?_) (fun hp => bn_t rfl (h1 hp))
  rw [e]
  refine bn_c (fun h => ?_) (fun h => h3 hp ?_)
  · have hc2 : c < 10 := by
      have : c ≠ 10 := fun q => h (by rw [q]; rfl)
      omega
    rw [show (10 : Int32) + nI c = nI (10 + c) by rw [li 10, nI_add]]
    refine ⟨vp_in_nI (by omega) (by omega), vp_in_nI (by omega) (by omega), fun M5 h5 => ?_⟩
    rw [nI_clamp (by omega), nI_clamp (by omega)] at h5
    have e5 : M5 1 20 = nI c := by rw [h5, mU_at, if_neg (by omega), mU_at, if_neg (by omega)]; exact e
    rw [e5, li 1, nI_add, mU_at, if_pos ⟨rfl, rfl⟩, h5]
    exact h0 hp hc2
  · rw [li 10] at h
    exact (nI_eq (by omega) (by omega)).mp h
theorem pg_mAdd {N : Mem} {x y : Int32} : pg (mAdd N (cN (pg N 0)) x y) 0 = pCo (pg N 0) x y := by
  unfold mAdd pCo
  rw [pg_mU0, pg_mU0, pg_mU0]
theorem RR.add {M N : Mem} (h : RR M N) {x y : Int32} (hc : cN (pg N 0) < 10) (hp : plc x y) : RR (mCo M 1 (cN (pg N 0)) x y) (mAdd N (cN (pg N 0)) x y) := by
  obtain ⟨⟨hO, hX⟩, -⟩ := id h
  refine h.now (fun a ha => by unfold mCo; rw [mU_n (by omega), mU_n (by omega), mU_n (by omega)]) (fun a ha => by unfold mAdd; rw [mU_n ha, mU_n ha, mU_n ha]) (fun j hj => by unfold mAdd; rw [mU_at, if_neg (by omega), mU_at, if_neg (by omega), mU_at, if_neg (by omega)]) ?_ ?_
  · rw [pg_mAdd]; exact OK_pCo hO hc (pl_of hp.1) (pl_of hp.2)
  · rw [pg_mAdd]; exact isX_pCo hX hc
theorem o_add {M N : Mem} (h : RR M N) (x y : Int32) : both (q_X5_add x y M) (q_X6_add x y N) := by
  obtain ⟨⟨hO, hX⟩, -⟩ := id h
  have h10 := hO.1.1.2
  have e2 : M 1 2 = nI (cN (pg N 0)) := hX.1.trans hO.1.1.1
  have e20 : N 1 20 = nI (cN (pg N 0)) := hO.1.1.1
  by_cases hp : plc x y
  · by_cases hc : cN (pg N 0) = 10
    · exact both.no h (-3) (fun Q q => X_refusal e2 h10 (fun _ z => by omega) (fun n => absurd hp n) (fun _ _ => br_f (by decide) q)) (fun Q q => R_adds e20 h10 (fun _ z => by omega) (fun n => absurd hp n) (fun _ _ => q))
    · exact both.e (nI (cN (pg N 0) + 1)) (mCo M 1 (cN (pg N 0)) x y) (mAdd N (cN (pg N 0)) x y) (fun Q q => X_refusal e2 h10 (fun _ _ => br_t rfl (L_appendCorner e2 (by omega) q)) (fun n => absurd hp n) (fun _ z => absurd z hc)) (fun Q q => R_adds e20 h10 (fun _ _ => q) (fun n => absurd hp n) (fun _ z => absurd z hc)) (h.add (by omega) hp)
  · exact both.no h (-1) (fun Q q => X_refusal e2 h10 (fun n => absurd n hp) (fun _ => br_f (by decide) q) (fun n => absurd n hp)) (fun Q q => R_adds e20 h10 (fun n => absurd n hp) (fun _ => q) (fun n => absurd n hp))
