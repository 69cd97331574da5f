/-! place, swap, out -/
def plP (P : Pg) (i : Nat) (x y : Int32) : Pg := upd (upd P i x) (10 + i) y
theorem plP_plP (P : Pg) (i : Nat) (a b x y : Int32) : upd (upd (plP P i a b) i x) (10 + i) y = plP P i x y := by
  funext j
  unfold plP
  simp only [up_at]
  split
  · rfl
  · split <;> rfl
theorem plP_id (P : Pg) (i : Nat) : plP P i (P i) (P (10 + i)) = P := by
  unfold plP
  rw [upd_id, upd_id]
theorem cN_plP {P : Pg} {i : Nat} {a b : Int32} (h : i < 10) : cN (plP P i a b) = cN P := by unfold plP; rw [cN_up (by omega), cN_up (by omega)]
theorem wN_plP {P : Pg} {i : Nat} {a b : Int32} (h : i < 10) : wN (plP P i a b) = wN P := by unfold plP; rw [wN_up (by omega), wN_up (by omega)]
theorem OK0_plP {P : Pg} {i : Nat} {a b : Int32} (h : OK0 P) (hi : i < 10) (ha : pl a) (hb : pl b) : OK0 (plP P i a b) := OK0_upd (OK0_upd h (by omega) (by omega) (by omega) (fun _ => ha) (fun z => by omega) (fun z => by omega)) (by omega) (by omega) (by omega) (fun _ => hb) (fun z => by omega) (fun z => by omega)
def cF (P : Pg) (i n : Nat) : Int32 := iabs (ar (plP P i (nI (n / 21)) (nI (n % 21))))
theorem place_X {M : Mem} {P : Pg} {w : Nat} {v2 : Int32} {Q : Int32 → Mem → Prop} (hO : OK0 P) (hw : w < cN P) (hq : ∀ M', fx M M' → ((¬ v2 = 0 → Q (lg (cF P w) bG (-1) 441).1 M') ∧ (v2 = 0 → Q (lg (cF P w) bG (-1) 441).2 M'))) : ∀ M', (fx M M' ∧ ∃ a b, isX M' 7 (plP P w a b)) → ∃ n, (p_X5_place Q n).1 (nI w) v2 (lg (cF P w) bG (-1) (21 * 0)).1 (lg (cF P w) bG (-1) (21 * 0)).2 (nI 0) M' := by
  have h10 := hO.1.2
  have h4 := hO.2.1.2
  refine grid (I := fun M' => fx M M' ∧ ∃ a b, isX M' 7 (plP P w a b)) (A := fun x y M' => ∃ n, (p_X5_place Q n).2.1 (nI w) v2 (lg (cF P w) bG (-1) (21 * x + y)).1 (lg (cF P w) bG (-1) (21 * x + y)).2 (nI x) (nI y) M') (C := fun x M' => ∃ n, (p_X5_place Q n).1 (nI w) v2 (lg (cF P w) bG (-1) (21 * x)).1 (lg (cF P w) bG (-1) (21 * x)).2 (nI x) M') ?_ ?_ ?_ ?_
  · rintro x y M' hx hy ⟨g1, a, b, g2⟩ nx
    have gX := isX_corner g2 (by rw [wN_plP (by omega)]; exact h4) (by rw [cN_plP (by omega)]; exact h10) (i := w) (nI x) (nI y) (by omega)
    rw [plP_plP] at gX
    obtain ⟨n, hn⟩ := nx _ ⟨fun c z1 z2 z3 => by rw [mU_n (by omega), mU_n (by omega), g1 c z1 z2 z3], nI x, nI y, gX⟩
    refine ⟨n + 2, ?_⟩
    show f_X5_place_46 Q (p_X5_place Q (n + 1)) _ _ _ _ _ _ _
    refine br_f (by rw [li 20]; exact nI_nlt (by omega) (by omega)) (L_moveCorner (by omega) (L_areaU gX (OK0_plP hO (by omega) (pl_nI hx) (pl_nI hy)) ?_))
    have ef : cF P w (21 * x + y) = iabs (ar (plP P w (nI x) (nI y))) := by unfold cF; rw [(gr_1 hy).1, (gr_1 hy).2]
    have eg : bG (21 * x + y) = 100 * nI x + nI y := by unfold bG; rw [(gr_1 hy).1, (gr_1 hy).2]
    rw [show 21 * x + (y + 1) = 21 * x + y + 1 by omega] at hn
    refine br_c (fun hl => ?_) (fun hl => ?_)
    · rw [← ef] at hl
      rw [lg_le hl] at hn
      show (p_X5_place Q n).2.1 _ _ _ _ _ _ _
      rw [nI_1]; exact hn
    · rw [← ef] at hl
      rw [lg_gt hl, ef, eg] at hn
      show (p_X5_place Q n).2.1 _ _ _ _ _ _ _
      rw [nI_1]; exact hn
  · rintro x M' hx - ⟨n, hn⟩
    refine ⟨n + 1, ?_⟩
    show f_X5_place_46 Q (p_X5_place Q n) _ _ _ _ _ _ _
    refine br_t (by decide) ?_
    rw [nI_1]
    exact hn
  · rintro x M' hx - ⟨n, hn⟩
    refine ⟨n + 1, ?_⟩
    show f_X5_place_36 Q (p_X5_place Q n) _ _ _ _ _ _
    exact br_f (by rw [li 20]; exact nI_nlt (by omega) (by omega)) hn
  · rintro M' ⟨g1, -⟩
    refine ⟨1, ?_⟩
    show f_X5_place_36 Q (p_X5_place Q 0) _ _ _ _ _ _
    exact br_t (by decide) (hq M' g1)
theorem place_R {N : Mem} {P : Pg} {w : Nat} {v2 : Int32} {Q : Int32 → Mem → Prop} (hO : OK0 P) (hl0 : N 0 14 = -4) (hw : w < cN P) (hq : ∀ N', fm N N' → ((¬ v2 = 0 → Q (lg (cF P w) bG (-1) 441).1 N') ∧ (v2 = 0 → Q (lg (cF P w) bG (-1) 441).2 N'))) : ∀ N', (fm N N' ∧ ∃ a b, isR N' 185 (plP P w a b)) → ∃ n, (p_X6_place Q n).1 (nI w) v2 (lg (cF P w) bG (-1) (21 * 0)).1 (lg (cF P w) bG (-1) (21 * 0)).2 (nI 0) N' := by
  have h10 := hO.1.2
  have h4 := hO.2.1.2
  refine grid (I := fun N' => fm N N' ∧ ∃ a b, isR N' 185 (plP P w a b)) (A := fun x y M' => ∃ n, (p_X6_place Q n).2.1 (nI w) v2 (lg (cF P w) bG (-1) (21 * x + y)).1 (lg (cF P w) bG (-1) (21 * x + y)).2 (nI x) (nI y) M') (C := fun x M' => ∃ n, (p_X6_place Q n).1 (nI w) v2 (lg (cF P w) bG (-1) (21 * x)).1 (lg (cF P w) bG (-1) (21 * x)).2 (nI x) M') ?_ ?_ ?_ ?_
  · rintro x y M' hx hy ⟨g1, a, b, g2⟩ nx
    have gX := isR_mU (j := 10 + w) (v := nI y) (isR_mU (j := w) (v := nI x) g2)
    rw [plP_plP] at gX
    have gm : fm N (mU (mU M' 1 (185 + w) (nI x)) 1 (185 + (10 + w)) (nI y)) := fm_mU (fm_mU g1 (by omega)) (by omega)
    obtain ⟨n, hn⟩ := nx _ ⟨gm, nI x, nI y, gX⟩
    refine ⟨n + 3, ?_⟩
    show f_X6_place_46 Q (p_X6_place Q (n + 2)) _ _ _ _ _ _ _
    unfold f_X6_place_46
    rw [li 185, li 195, nI_add, nI_add, nI_clamp (by omega), nI_clamp (by omega), show 195 + w = 185 + (10 + w) by omega]
    refine br_f (by rw [li 20]; exact nI_nlt (by omega) (by omega)) ⟨vp_in_nI (by omega) (by omega), vp_in_nI (by omega) (by omega), fun M8 e8 => ?_⟩
    subst e8
    refine R_area2 (p := 185) (by omega) gX (OK0_plP hO (by omega) (pl_nI hx) (pl_nI hy)) ((gm.2.1 14 (by omega)).trans hl0) (R_amount ?_)
    have ef : cF P w (21 * x + y) = iabs (ar (plP P w (nI x) (nI y))) := by unfold cF; rw [(gr_1 hy).1, (gr_1 hy).2]
    have eg : bG (21 * x + y) = 100 * nI x + nI y := by unfold bG; rw [(gr_1 hy).1, (gr_1 hy).2]
    rw [show 21 * x + (y + 1) = 21 * x + y + 1 by omega] at hn
    refine br_c (fun hl => ?_) (fun hl => ?_)
    · show f_X6_place_108 Q (p_X6_place Q (n + 1)) _ _ _ _ _ _ _ _
      refine br_t hl ?_
      rw [← ef] at hl
      rw [lg_le hl] at hn
      show (p_X6_place Q n).2.1 _ _ _ _ _ _ _
      rw [nI_1]; exact hn
    · show f_X6_place_108 Q (p_X6_place Q (n + 1)) _ _ _ _ _ _ _ _
      refine br_f hl ?_
      rw [← ef] at hl
      rw [lg_gt hl, ef, eg] at hn
      show (p_X6_place Q n).2.1 _ _ _ _ _ _ _
      rw [nI_1]; exact hn
  · rintro x M' hx - ⟨n, hn⟩
    refine ⟨n + 1, ?_⟩
    show f_X6_place_46 Q (p_X6_place Q n) _ _ _ _ _ _ _
    refine br_t (by decide) ?_
    rw [nI_1]
    exact hn
  · rintro x M' hx - ⟨n, hn⟩
    refine ⟨n + 1, ?_⟩
    show f_X6_place_36 Q (p_X6_place Q n) _ _ _ _ _ _
    exact br_f (by rw [li 20]; exact nI_nlt (by omega) (by omega)) hn
  · rintro M' ⟨g1, -⟩
    refine ⟨1, ?_⟩
    show f_X6_place_36 Q (p_X6_place Q 0) _ _ _ _ _ _
    exact br_t (by decide) (hq M' g1)
theorem o_place {M N : Mem} (h : RR M N) (v1 v2 : Int32) : both (q_X5_place v1 v2 M) (q_X6_place v1 v2 N) := by
  obtain ⟨⟨⟨hO, -⟩, hX⟩, -⟩ := id h
  have h4 := hO.2.1.2
  have h10 := hO.1.2
  have hl : N 0 14 = -4 := h.2.2.2.2.2.2.1
  by_cases hh : ∃ w, w < cN (pg N 0) ∧ v1 = nI w
  · obtain ⟨w, hw, rfl⟩ := hh
    by_cases hv : 0 ≤ v2 ∧ v2 ≤ 1
    · refine both.q h (if v2 = 0 then (lg (cF (pg N 0) w) bG (-1) 441).2 else (lg (cF (pg N 0) w) bG (-1) 441).1) (fun Q q => ?_) (fun Q q => ?_)
      · obtain ⟨M', g1, g2, g3⟩ := L_trial hX hO
        obtain ⟨n, hn⟩ := place_X (Q := Q) (v2 := v2) hO hw (fun N' g => ans2 (q N' g)) M' ⟨g1, _, _, by rw [plP_id]; exact g2⟩
        exact ⟨n, X_hasCorner hX hO (fun _ _ _ => br_f ne10 (X_isEither (fun _ => bn_f ne10 (g3 _ hn)) (fun z => absurd hv z))) (fun z => absurd ⟨w, hw, rfl⟩ z)⟩
      · obtain ⟨n, hn⟩ := place_R (Q := Q) (v2 := v2) hO hl hw (fun N' g => ans2 (q N' g)) (cpM N 0 185 37) ⟨fm_cp (by omega), _, _, by rw [plP_id]; exact isR_cp⟩
        exact ⟨n, R_isCorner hO (fun _ _ _ => br_f ne10 (R_inI (lo := 0) (hi := 1) rfl rfl (fun _ => bn_f ne10 (R_copies (f := 0) (t := 185) (by omega) (by omega) (by omega) hn)) (fun z => absurd hv z))) (fun z => absurd ⟨w, hw, rfl⟩ z)⟩
    · exact both.no h (-1) (fun Q q => ⟨0, X_hasCorner hX hO (fun _ _ _ => br_f ne10 (X_isEither (fun z => absurd z hv) (fun _ => bn_t rfl q))) (fun z => absurd ⟨w, hw, rfl⟩ z)⟩) (fun Q q => ⟨0, R_isCorner hO (fun _ _ _ => br_f ne10 (R_inI (lo := 0) (hi := 1) rfl rfl (fun z => absurd z hv) (fun _ => bn_t rfl q))) (fun z => absurd ⟨w, hw, rfl⟩ z)⟩)
  · exact both.no h (-1) (fun Q q => ⟨0, X_hasCorner hX hO (fun w hw e => absurd ⟨w, hw, e⟩ hh) (fun _ => br_t rfl q)⟩) (fun Q q => ⟨0, R_isCorner hO (fun w hw e => absurd ⟨w, hw, e⟩ hh) (fun _ => br_t rfl q)⟩)
/-! swap -/
def swI (i j k : Nat) : Nat := if k = i then j else if k = j then i else if k = 10 + i then 10 + j else if k = 10 + j then 10 + i else k
def swP (P : Pg) (i j : Nat) : Pg := fun k => P (swI i j k)
theorem swI_hi {i j k : Nat} (hi : i < 10) (hj : j < 10) (hk : 20 ≤ k) : swI i j k = k := by
  unfold swI
  rw [if_neg (by omega), if_neg (by omega), if_neg (by omega), if_neg (by omega)]
theorem swI_10 {i j k : Nat} (hi : i < 10) (hj : j < 10) (hk : k < 10) : swI i j (10 + k) = 10 + swI i j k := by
  unfold swI
  rw [if_neg (by omega), if_neg (by omega)]
  by_cases h1 : k = i
  · rw [if_pos (by omega), if_pos h1]
  · by_cases h2 : k = j
    · rw [if_neg (by omega), if_pos (by omega), if_neg h1, if_pos h2]
    · rw [if_neg (by omega), if_neg (by omega), if_neg h1, if_neg h2, if_neg (by omega), if_neg (by omega)]
theorem swI_lt {i j k c : Nat} (hi : i < c) (hj : j < c) (hk : k < c) (hc : c ≤ 10) : swI i j k < c := by
  unfold swI
  split
  · exact hj
  · split
    · exact hi
    · rw [if_neg (by omega), if_neg (by omega)]; exact hk
theorem swI_swI {i j : Nat} (h : i < j) (hj : j < 10) (k : Nat) : swI i j (swI i j k) = k := by
  unfold swI
  by_cases h1 : k = i
  · rw [if_pos h1, if_neg (by omega), if_pos rfl]; exact h1.symm
  · rw [if_neg h1]
    by_cases h2 : k = j
    · rw [if_pos h2, if_pos rfl]; exact h2.symm
    · rw [if_neg h2]
      by_cases h3 : k = 10 + i
      · rw [if_pos h3, if_neg (by omega), if_neg (by omega), if_neg (by omega), if_pos rfl]; exact h3.symm
      · rw [if_neg h3]
        by_cases h4 : k = 10 + j
        · rw [if_pos h4, if_neg (by omega), if_neg (by omega), if_pos rfl]; exact h4.symm
        · rw [if_neg h4, if_neg h1, if_neg h2, if_neg h3, if_neg h4]
theorem cN_swP {P : Pg} {i j : Nat} (hi : i < 10) (hj : j < 10) : cN (swP P i j) = cN P := cN_congr (by show P (swI i j 20) = _; rw [swI_hi hi hj (by omega)])
theorem wN_swP {P : Pg} {i j : Nat} (hi : i < 10) (hj : j < 10) : wN (swP P i j) = wN P := wN_congr (by show P (swI i j 35) = _; rw [swI_hi hi hj (by omega)])
theorem tN_swP {P : Pg} {i j : Nat} (hi : i < 10) (hj : j < 10) : tN (swP P i j) = tN P := by unfold tN; show (P (swI i j 36)).toNatClampNeg = _; rw [swI_hi hi hj (by omega)]
theorem OK0_swP {P : Pg} {i j : Nat} (h : OK0 P) (hi : i < cN P) (hj : j < cN P) : OK0 (swP P i j) := by
  have h10 := h.1.2
  have h4 := h.2.1.2
  have e : ∀ k, 20 ≤ k → swP P i j k = P k := fun k hk => by show P (swI i j k) = _; rw [swI_hi (by omega) (by omega) hk]
  unfold OK0
  rw [cN_swP (by omega) (by omega), wN_swP (by omega) (by omega), tN_swP (by omega) (by omega), e 20 (by omega), e 35 (by omega), e 36 (by omega), e 21 (by omega), e 22 (by omega)]
  refine ⟨h.1, h.2.1, h.2.2.1, h.2.2.2.1, fun k hk => ?_, fun k hk => ?_⟩
  · have a := h.2.2.2.2.1 (swI i j k) (swI_lt hi hj hk h10)
    rw [← swI_10 (by omega) (by omega) (by omega)] at a
    exact a
  · rw [e _ (by omega), e _ (by omega)]; exact h.2.2.2.2.2 k hk
theorem L_exchange {M : Mem} {o : Nat} {P : Pg} {i j : Nat} (hX : isX M o P) (h10 : cN P ≤ 10) (h4 : wN P ≤ 4) (hij : i < j) (hj : j < cN P) : ∃ M', (∀ a, a ≠ o + 1 → a ≠ o + 2 → M' a = M a) ∧ isX M' o (swP P i j) ∧ ∀ Q : Mem → Prop, Q M' → q_X0_exchangeCorners o (nI i) (nI j) M Q := by
  refine ⟨mU (mU (mU (mU M (o + 1) i (M (o + 1) j)) (o + 2) i (M (o + 2) j)) (o + 1) j (M (o + 1) i)) (o + 2) j (M (o + 2) i), fun a h1 h2 => by rw [mU_n h2, mU_n h1, mU_n h2, mU_n h1], ?_, fun Q hq => ?_⟩
  · have fr : ∀ a, a ≠ o + 1 → a ≠ o + 2 → mU (mU (mU (mU M (o + 1) i (M (o + 1) j)) (o + 2) i (M (o + 2) j)) (o + 1) j (M (o + 1) i)) (o + 2) j (M (o + 2) i) a = M a := fun a h1 h2 => by rw [mU_n h2, mU_n h1, mU_n h2, mU_n h1]
    obtain ⟨a, b, c, d, e, f, g⟩ := hX
    have es : ∀ k, 20 ≤ k → swP P i j k = P k := fun k hk => by show P (swI i j k) = _; rw [swI_hi (by omega) (by omega) hk]
    unfold isX
    rw [cN_swP (by omega) (by omega), wN_swP (by omega) (by omega), fr o (by omega) (by omega), fr (o + 3) (by omega) (by omega), fr (o + 4) (by omega) (by omega), fr (o + 5) (by omega) (by omega), es 20 (by omega), es 35 (by omega), es 21 (by omega), es 22 (by omega), es 36 (by omega)]
    refine ⟨a, b, c, d, e, fun k hk => ?_, fun k hk => ?_⟩
    · have e1 : swP P i j (10 + k) = P (10 + swI i j k) := by show P (swI i j (10 + k)) = _; rw [swI_10 (by omega) (by omega) (by omega)]
      rw [e1]
      show _ = P (swI i j k) ∧ _
      by_cases k1 : k = j
      · have es2 : swI i j k = i := by unfold swI; rw [if_neg (by omega), if_pos k1]
        rw [es2, mU_at, if_neg (by omega), mU_at, if_pos ⟨rfl, k1⟩, mU_at, if_pos ⟨rfl, k1⟩]
        exact ⟨(f i (by omega)).1, (f i (by omega)).2⟩
      · by_cases k2 : k = i
        · have es2 : swI i j k = j := if_pos k2
          rw [es2, mU_at, if_neg (by omega), mU_at, if_neg (by omega), mU_at, if_neg (by omega), mU_at, if_pos ⟨rfl, k2⟩, mU_at, if_neg (by omega), mU_at, if_neg (by omega), mU_at, if_pos ⟨rfl, k2⟩]
          exact ⟨(f j (by omega)).1, (f j (by omega)).2⟩
        · have es2 : swI i j k = k := by unfold swI; rw [if_neg k2, if_neg k1, if_neg (by omega), if_neg (by omega)]
          rw [es2, mU_at, if_neg (by omega), mU_at, if_neg (by omega), mU_at, if_neg (by omega), mU_at, if_neg (by omega), mU_at, if_neg (by omega), mU_at, if_neg (by omega), mU_at, if_neg (by omega), mU_at, if_neg (by omega)]
          exact f k hk
    · rw [es _ (by omega), es _ (by omega), es _ (by omega)]; exact g k hk
  · refine ⟨vp_in_nI (by omega) (by omega), fun x hx => ⟨vp_in_nI (by omega) (by omega), fun y hy => ⟨vp_in_nI (by omega) (by omega), vp_in_nI (by omega) (by omega), ?_⟩⟩⟩
    rw [nI_clamp (by omega)] at hx hy
    subst hx hy
    rw [nI_clamp (by omega)]
    exact L_moveCorner (by omega) (L_moveCorner (by omega) hq)
def sws (f : Nat → Nat → Int32) (c : Nat) : Nat → Nat → Nat → Int32 × Int32 → Int32 × Int32
  | 0, _, _, s => s
  | n + 1, i, j, s => if j < c then sws f c n i (j + 1) (if f i j ≤ s.1 then s else (f i j, 10 * nI i + nI j)) else if i + 1 < c then sws f c n (i + 1) (i + 2) s else s
def fin2 (v : Int32) (s : Int32 × Int32) : Int32 := if s.2 = -4 ∨ v = 0 then s.2 else s.1
theorem fin2_ok {Q : Int32 → Mem → Prop} {R : Int32 → Mem → Prop} {v : Int32} {s : Int32 × Int32} {M : Mem} (hR : ∀ x, Q x M → R x M) (h : Q (fin2 v s) M) : (s.2 = (-4 : Int32) → R s.2 M) ∧ (¬ s.2 = (-4 : Int32) → ((¬ v = 0 → Q s.1 M) ∧ (v = 0 → R s.2 M))) := by
  unfold fin2 at h
  refine br_c (fun z => ?_) (fun z => bn_c (fun y => ?_) (fun y => ?_))
  · rw [if_pos (Or.inl z)] at h; exact hR _ h
  · rw [if_neg (by rintro (q | q); exact z q; exact y q)] at h; exact h
  · rw [if_pos (Or.inr y)] at h; exact hR _ h
def wF (P : Pg) (i j : Nat) : Int32 := iabs (ar (swP P i j))
theorem swap_X {M : Mem} {P : Pg} {v : Int32} {Q : Int32 → Mem → Prop} (hX : isX M 1 P) (hO : OK0 P) : ∀ n i j s, i < cN P → j ≤ cN P → i < j → 11 * (10 - i) + (11 - j) ≤ n → (∀ M', fx M M' → Q (fin2 v (sws (wF P) (cN P) n i j s)) M') → ∀ M', fx M M' → isX M' 7 P → ∃ m, (p_X5_swap Q m).2.1 v s.1 s.2 (nI i) (nI j) M' := by
  have h10 := hO.1.2
  have h4 := hO.2.1.2
  have e2 : M 1 2 = nI (cN P) := hX.1.trans hO.1.1
  intro n
  induction n with
  | zero => intro i j s hi hj hij hn; omega
  | succ n ih =>
    intro i j s hi hj hij hn hq M' g1 g2
    have e2' : M' 1 2 = nI (cN P) := by rw [g1 1 (by omega) (by omega) (by omega)]; exact e2
    by_cases hjc : j < cN P
    · have eq : sws (wF P) (cN P) (n + 1) i j s = sws (wF P) (cN P) n i (j + 1) (if wF P i j ≤ s.1 then s else (wF P i j, 10 * nI i + nI j)) := if_pos hjc
      rw [eq] at hq
      obtain ⟨M1, a1, a2, a3⟩ := L_exchange g2 h10 h4 hij hjc
      obtain ⟨M2, b1, b2, b3⟩ := L_exchange a2 (by rw [cN_swP (by omega) (by omega)]; exact h10) (by rw [wN_swP (by omega) (by omega)]; exact h4) hij (by rw [cN_swP (by omega) (by omega)]; exact hjc)
      have e3 : swP (swP P i j) i j = P := by
        funext k
        show P (swI i j (swI i j k)) = P k
        rw [swI_swI hij (by omega)]
      rw [e3] at b2
      have g3 : fx M M2 := fun c z1 z2 z3 => by rw [b1 c (by omega) (by omega), a1 c (by omega) (by omega), g1 c z1 z2 z3]
      obtain ⟨m, hm⟩ := ih i (j + 1) _ hi (by omega) (by omega) (by omega) hq M2 g3 b2
      refine ⟨m + 2, ?_⟩
      show f_X5_swap_52 Q (p_X5_swap Q (m + 1)) _ _ _ _ _ _
      refine br_f (by rw [e2']; exact nI_ge (by omega) (by omega)) (a3 _ (L_areaU a2 (OK0_swP hO hi hjc) (b3 _ (br_c (fun hl => ?_) (fun hl => ?_)))))
      · have hl2 : wF P i j ≤ s.1 := hl
        rw [if_pos hl2] at hm
        show (p_X5_swap Q m).2.1 _ _ _ _ _ _
        rw [nI_1]; exact hm
      · have hl2 : ¬ wF P i j ≤ s.1 := hl
        rw [if_neg hl2] at hm
        intro x hx
        subst hx
        show (p_X5_swap Q m).2.1 _ _ _ _ _ _
        rw [nI_1]; exact hm
    · by_cases hic : i + 1 < cN P
      · have eq : sws (wF P) (cN P) (n + 1) i j s = sws (wF P) (cN P) n (i + 1) (i + 2) s := by
          show (if j < cN P then _ else _) = _
          rw [if_neg hjc, if_pos hic]
        rw [eq] at hq
        obtain ⟨m, hm⟩ := ih (i + 1) (i + 2) s hic (by omega) (by omega) (by omega) hq M' g1 g2
        refine ⟨m + 2, ?_⟩
        show f_X5_swap_52 Q (p_X5_swap Q (m + 1)) _ _ _ _ _ _
        refine br_t (by rw [e2']; exact nI_le (by omega) (by omega)) ?_
        show f_X5_swap_34 Q (p_X5_swap Q m) _ _ _ _ _
        rw [nI_1]
        refine br_f (by rw [e2']; exact nI_ge (by omega) (by omega)) ?_
        rw [li 1, nI_add]
        exact hm
      · have eq : sws (wF P) (cN P) (n + 1) i j s = s := by
          show (if j < cN P then _ else _) = _
          rw [if_neg hjc, if_neg hic]
        rw [eq] at hq
        refine ⟨3, ?_⟩
        show f_X5_swap_52 Q (p_X5_swap Q 2) _ _ _ _ _ _
        refine br_t (by rw [e2']; exact nI_le (by omega) (by omega)) ?_
        show f_X5_swap_34 Q (p_X5_swap Q 1) _ _ _ _ _
        rw [nI_1]
        exact br_t (by rw [e2']; exact nI_le (by omega) (by omega)) (fin2_ok (fun x hx => hx) (hq M' g1))
theorem sw4 (P : Pg) {i j : Nat} (hij : i < j) (hj : j < 10) : upd (upd (upd (upd P i (P j)) j (P i)) (10 + i) (P (10 + j))) (10 + j) (P (10 + i)) = swP P i j := by
  funext k
  show _ = P (swI i j k)
  unfold swI
  simp only [up_at]
  by_cases h1 : k = 10 + j
  · rw [if_pos h1, if_neg (by omega), if_neg (by omega), if_neg (by omega), if_pos h1]
  · rw [if_neg h1]
    by_cases h2 : k = 10 + i
    · rw [if_pos h2, if_neg (by omega), if_neg (by omega), if_pos h2]
    · rw [if_neg h2]
      by_cases h3 : k = j
      · rw [if_pos h3, if_neg (by omega), if_pos h3]
      · rw [if_neg h3]
        by_cases h4 : k = i
        · rw [if_pos h4, if_pos h4]
        · rw [if_neg h4, if_neg h4, if_neg h3, if_neg h2, if_neg h1]
theorem swap_R {N : Mem} {v : Int32} {Q : Int32 → Mem → Prop} (hO : OK0 (pg N 0)) (hl0 : N 0 14 = -4) : ∀ n i j s, i < cN (pg N 0) → j ≤ cN (pg N 0) → i < j → 11 * (10 - i) + (11 - j) ≤ n → (∀ M', fm N M' → Q (fin2 v (sws (wF (pg N 0)) (cN (pg N 0)) n i j s)) M') → ∀ M', fm N M' → ∃ m, (p_X6_swap Q m).2.1 v s.1 s.2 (nI i) (nI j) M' := by
  have h10 := hO.1.2
  have h4 := hO.2.1.2
  have e2 : N 1 20 = nI (cN (pg N 0)) := hO.1.1
  intro n
  induction n with
  | zero => intro i j s hi hj hij hn; omega
  | succ n ih =>
    intro i j s hi hj hij hn hq M' g1
    have e2' : M' 1 20 = nI (cN (pg N 0)) := by rw [g1.2.2 20 (by omega)]; exact e2
    by_cases hjc : j < cN (pg N 0)
    · have eq : sws (wF (pg N 0)) (cN (pg N 0)) (n + 1) i j s = sws (wF (pg N 0)) (cN (pg N 0)) n i (j + 1) (if wF (pg N 0) i j ≤ s.1 then s else (wF (pg N 0) i j, 10 * nI i + nI j)) := if_pos hjc
      rw [eq] at hq
      have ep : ∀ k, k < 37 → M' 1 k = pg N 0 k := fun k hk => by
        rw [g1.2.2 k (by omega)]; unfold pg; rw [Nat.zero_add]
      have r0 : isR (cpM M' 0 185 37) 185 (pg N 0) := fun k hk => by
        exact (isR_cp k hk).trans (by show M' 1 (0 + k) = _; rw [Nat.zero_add]; exact ep k hk)
      have lo : ∀ k, k < 37 → cpM M' 0 185 37 1 k = pg N 0 k := fun k hk => by rw [cpM_1, if_neg (by omega)]; exact ep k hk
      have r4 := isR_mU (j := 10 + j) (v := pg N 0 (10 + i)) (isR_mU (j := 10 + i) (v := pg N 0 (10 + j)) (isR_mU (j := j) (v := pg N 0 i) (isR_mU (j := i) (v := pg N 0 j) r0)))
      rw [sw4 _ hij (by omega)] at r4
      have gm : fm N (mU (mU (mU (mU (cpM M' 0 185 37) 1 (185 + i) (pg N 0 j)) 1 (185 + j) (pg N 0 i)) 1 (185 + (10 + i)) (pg N 0 (10 + j))) 1 (185 + (10 + j)) (pg N 0 (10 + i))) := fm_mU (fm_mU (fm_mU (fm_mU (g1.tr (fm_cp (by omega))) (by omega)) (by omega)) (by omega)) (by omega)
      obtain ⟨m, hm⟩ := ih i (j + 1) _ hi (by omega) (by omega) (by omega) hq _ gm
      refine ⟨m + 3, ?_⟩
      show f_X6_swap_45 Q (p_X6_swap Q (m + 2)) _ _ _ _ _ _
      unfold f_X6_swap_45
      rw [li 185, li 195, li 10]
      simp only [nI_add]
      rw [nI_clamp (show i < 2 ^ 31 by omega), nI_clamp (show j < 2 ^ 31 by omega), nI_clamp (show 185 + i < 2 ^ 31 by omega), nI_clamp (show 185 + j < 2 ^ 31 by omega), nI_clamp (show 195 + i < 2 ^ 31 by omega), nI_clamp (show 195 + j < 2 ^ 31 by omega), nI_clamp (show 10 + i < 2 ^ 31 by omega), nI_clamp (show 10 + j < 2 ^ 31 by omega)]
      refine br_f (by rw [e2']; exact nI_ge (by omega) (by omega)) (R_copies (f := 0) (t := 185) (by omega) (by omega) (by omega) ⟨vp_in_nI (by omega) (by omega), vp_in_nI (by omega) (by omega), vp_in_nI (by omega) (by omega), vp_in_nI (by omega) (by omega), fun M12 e12 => ⟨vp_in_nI (by omega) (by omega), vp_in_nI (by omega) (by omega), fun M15 e15 => ⟨vp_in_nI (by omega) (by omega), vp_in_nI (by omega) (by omega), fun M18 e18 => ?_⟩⟩⟩)
      rw [mU_at, if_neg (by omega), lo j (by omega), lo i (by omega)] at e12
      subst e12
      rw [mU_at, if_neg (by omega), mU_at, if_neg (by omega), lo (10 + j) (by omega)] at e15
      subst e15
      rw [mU_at, if_neg (by omega), mU_at, if_neg (by omega), mU_at, if_neg (by omega), lo (10 + i) (by omega)] at e18
      rw [show 195 + i = 185 + (10 + i) by omega, show 195 + j = 185 + (10 + j) by omega] at e18
      subst e18
      refine R_area2 (p := 185) (by omega) r4 (OK0_swP hO hi hjc) ((gm.2.1 14 (by omega)).trans hl0) (R_amount (br_c (fun hl => ?_) (fun hl => ?_)))
      · show f_X6_swap_173 Q (p_X6_swap Q (m + 1)) _ _ _ _ _ _ _
        refine br_t hl ?_
        have hl2 : wF (pg N 0) i j ≤ s.1 := hl
        rw [if_pos hl2] at hm
        show (p_X6_swap Q m).2.1 _ _ _ _ _ _
        rw [nI_1]; exact hm
      · show f_X6_swap_173 Q (p_X6_swap Q (m + 1)) _ _ _ _ _ _ _
        refine br_f hl ?_
        have hl2 : ¬ wF (pg N 0) i j ≤ s.1 := hl
        rw [if_neg hl2] at hm
        show (p_X6_swap Q m).2.1 _ _ _ _ _ _
        rw [nI_1]; exact hm
    · by_cases hic : i + 1 < cN (pg N 0)
      · have eq : sws (wF (pg N 0)) (cN (pg N 0)) (n + 1) i j s = sws (wF (pg N 0)) (cN (pg N 0)) n (i + 1) (i + 2) s := by
          show (if j < cN (pg N 0) then _ else _) = _
          rw [if_neg hjc, if_pos hic]
        rw [eq] at hq
        obtain ⟨m, hm⟩ := ih (i + 1) (i + 2) s hic (by omega) (by omega) (by omega) hq M' g1
        refine ⟨m + 2, ?_⟩
        show f_X6_swap_45 Q (p_X6_swap Q (m + 1)) _ _ _ _ _ _
        refine br_t (by rw [e2']; exact nI_le (by omega) (by omega)) ?_
        show f_X6_swap_27 Q (p_X6_swap Q m) _ _ _ _ _
        rw [nI_1]
        refine br_f (by rw [e2']; exact nI_ge (by omega) (by omega)) ?_
        rw [li 1, nI_add]
        exact hm
      · have eq : sws (wF (pg N 0)) (cN (pg N 0)) (n + 1) i j s = s := by
          show (if j < cN (pg N 0) then _ else _) = _
          rw [if_neg hjc, if_neg hic]
        rw [eq] at hq
        refine ⟨3, ?_⟩
        show f_X6_swap_45 Q (p_X6_swap Q 2) _ _ _ _ _ _
        refine br_t (by rw [e2']; exact nI_le (by omega) (by omega)) ?_
        show f_X6_swap_27 Q (p_X6_swap Q 1) _ _ _ _ _
        rw [nI_1]
        exact br_t (by rw [e2']; exact nI_le (by omega) (by omega)) (fin2_ok (fun x hx => hx) (hq M' g1))
theorem o_swap {M N : Mem} (h : RR M N) (v : Int32) : both (q_X5_swap v M) (q_X6_swap v N) := by
  obtain ⟨⟨⟨hO, -⟩, hX⟩, -⟩ := id h
  have h4 := hO.2.1.2
  have h10 := hO.1.2
  have hl : N 0 14 = -4 := h.2.2.2.2.2.2.1
  have e2 : M 1 2 = nI (cN (pg N 0)) := hX.1.trans hO.1.1
  have e20 : N 1 20 = nI (cN (pg N 0)) := hO.1.1
  by_cases hv : 0 ≤ v ∧ v ≤ 1
  · by_cases hc : cN (pg N 0) = 0
    · refine both.q h (fin2 v (iabs (ar (pg N 0)), -4)) (fun Q q => ?_) (fun Q q => ?_)
      · obtain ⟨M', g1, g2, g3⟩ := L_trial hX hO
        refine ⟨2, X_isEither (fun _ => bn_f ne10 (g3 _ (L_areaU (hX.of (fun i hi => g1 _ (by omega) (by omega) (by omega))) hO ?_))) (fun z => absurd hv z)⟩
        show f_X5_swap_34 Q (p_X5_swap Q 1) _ _ _ _ _
        exact br_t (by rw [g1 1 (by omega) (by omega) (by omega), e2, hc]; decide) (fin2_ok (s := (iabs (ar (pg N 0)), -4)) (fun x hx => hx) (q M' g1))
      · refine ⟨2, R_inI (lo := 0) (hi := 1) rfl rfl (fun _ => bn_f ne10 (R_area (p := 0) (by omega) hO hl (R_amount ?_))) (fun z => absurd hv z)⟩
        show f_X6_swap_27 Q (p_X6_swap Q 1) _ _ _ _ _
        exact br_t (by rw [e20, hc]; decide) (fin2_ok (s := (iabs (ar (pg N 0)), -4)) (fun x hx => hx) (q N fm.rf))
    · refine both.q h (fin2 v (sws (wF (pg N 0)) (cN (pg N 0)) 120 0 1 (iabs (ar (pg N 0)), -4))) (fun Q q => ?_) (fun Q q => ?_)
      · obtain ⟨M', g1, g2, g3⟩ := L_trial hX hO
        obtain ⟨m, hm⟩ := swap_X (Q := Q) (v := v) hX hO 120 0 1 (iabs (ar (pg N 0)), -4) (by omega) (by omega) (by omega) (by omega) q M' g1 g2
        refine ⟨m + 1, X_isEither (fun _ => bn_f ne10 (g3 _ (L_areaU (hX.of (fun i hi => g1 _ (by omega) (by omega) (by omega))) hO ?_))) (fun z => absurd hv z)⟩
        show f_X5_swap_34 Q (p_X5_swap Q m) _ _ _ _ _
        exact br_f (by rw [g1 1 (by omega) (by omega) (by omega), e2]; exact nI_ge (a := 0) (by omega) (by omega)) hm
      · obtain ⟨m, hm⟩ := swap_R (Q := Q) (v := v) hO hl 120 0 1 (iabs (ar (pg N 0)), -4) (by omega) (by omega) (by omega) (by omega) q N fm.rf
        refine ⟨m + 1, R_inI (lo := 0) (hi := 1) rfl rfl (fun _ => bn_f ne10 (R_area (p := 0) (by omega) hO hl (R_amount ?_))) (fun z => absurd hv z)⟩
        show f_X6_swap_27 Q (p_X6_swap Q m) _ _ _ _ _
        exact br_f (by rw [e20]; exact nI_ge (a := 0) (by omega) (by omega)) hm
  · exact both.no h (-1) (fun Q q => ⟨0, X_isEither (fun z => absurd z hv) (fun _ => bn_t rfl q)⟩) (fun Q q => ⟨0, R_inI (lo := 0) (hi := 1) rfl rfl (fun z => absurd z hv) (fun _ => bn_t rfl q)⟩)
