/-! kinds, steps -/
theorem tN_congr {P P' : Pg} (h : P 36 = P' 36) : tN P = tN P' := by unfold tN; rw [h]
theorem sa_pg {P P' : Pg} (hO : OK0 P) (he : ∀ j, (j < 23 ∨ j = 36) → P' j = P j) (n : Nat) : sa P' n = sa P n := by
  have h10 := hO.1.2
  have ec : cN P' = cN P := cN_congr (he 20 (by omega))
  have et : tN P' = tN P := tN_congr (he 36 (by omega))
  unfold sa
  rw [ec, et]
  by_cases hz : cN P = 0
  · rw [if_pos hz, if_pos hz]
  · have hm : (tN P + n) % cN P < cN P := Nat.mod_lt _ (by omega)
    rw [if_neg hz, if_neg hz]
    exact sw_congr (fun j hj => he j (by omega)) (by omega) (by omega)
theorem ra_pg {P P' : Pg} {w : Nat} (hO : OK0 P) (hw : w < 4) (he : ∀ j, j < 37 → P' j = P j) : ∀ n, ra P' w n = ra P w n
  | 0 => he (31 + w) (by omega)
  | n + 1 => by
    show ra P' w n + rw' P' w (sa P' n) = ra P w n + rw' P w (sa P n)
    rw [ra_pg hO hw he n, sa_pg hO (fun j hj => he j (by omega)), rw_congr (he (23 + w) (by omega)) (he (27 + w) (by omega))]
theorem okb_pg {N N1 : Mem} {P P' : Pg} {e : Nat} (hO : OK0 P) (h6 : N1 6 = N 6) (hw : oE N e < 4) (he : ∀ j, j < 37 → P' j = P j) : okb N1 P' e = okb N P e := by
  have e1 : nE N1 e = nE N e := by unfold nE; rw [h6]
  have e2 : oE N1 e = oE N e := by unfold oE; rw [h6]
  have ew : wN P' = wN P := wN_congr (he 35 (by omega))
  unfold okb
  rw [e1, e2, ew, h6, ra_pg hO hw he]
theorem allb_congr {f g : Nat → Bool} : ∀ {n : Nat}, (∀ e, e < n → f e = g e) → allb f n = allb g n
  | 0, _ => rfl
  | n + 1, h => by
    show (allb f n && f n) = (allb g n && g n)
    rw [allb_congr (fun e he => h e (by omega)), h n (by omega)]
theorem asS_out {N1 : Mem} {row w S : Nat} {Q : Int32 → Mem → Prop} (hO : OK0 (pg N1 0)) (hR : snR N1 S) (hrow : row ≤ 9) (hw : w < wN (pg N1 0)) (h1 : ∀ N2, inS N1 N2 row w 41 → allb (okb N1 (pg N1 0)) S = true → Q 1 N2) (h0 : ∀ N2, inS N1 N2 row w 41 → ¬ allb (okb N1 (pg N1 0)) S = true → Q 0 N2) : ∀ j k, j + k = 41 → ∃ m, ∀ b N', bit b (CC N1 (pg N1 0) S k 0) → inS N1 N' row w k → (p_X6_isAsSeen Q m).1 (nI row) (nI w) b (nI k) N' := by
  have h4 := hO.2.1.2
  intro j
  induction j with
  | zero =>
    intro k hk
    have e : k = 41 := by omega
    subst e
    refine ⟨1, fun b N' hb hI => ?_⟩
    show f_X6_isAsSeen_10 Q (p_X6_isAsSeen Q 0) _ _ _ _ _
    have ec : CC N1 (pg N1 0) S 41 0 ↔ allb (okb N1 (pg N1 0)) S = true := by
      rw [allb_iff]
      constructor
      · intro z d hd; exact z d hd (by have := (hR.2.2 d hd).2.1; omega)
      · intro z d hd _; exact z d hd
    refine br_t (by decide) ?_
    rcases hb with ⟨q, rfl⟩ | ⟨q, rfl⟩
    · exact ⟨nb1, h1 N' hI (ec.mp q)⟩
    · exact ⟨nb0, h0 N' hI (fun z => q (ec.mpr z))⟩
  | succ j ih =>
    intro k hk
    obtain ⟨m, hm⟩ := asS_in hO hR hrow hw (show k ≤ 40 by omega) (ih (k + 1) (by omega)) S 0 (by omega)
    refine ⟨m + 1, fun b N' hb hI => ?_⟩
    show f_X6_isAsSeen_10 Q (p_X6_isAsSeen Q m) _ _ _ _ _
    have i41 : (41 : Int32) * nI row + nI k = nI (41 * row + k) := by rw [li 41, pk_mul, nI_add]
    have i179 : (179 : Int32) + nI w = nI (179 + w) := by rw [li 179, nI_add]
    unfold f_X6_isAsSeen_10
    rw [i41, i179, nI_clamp (show 41 * row + k < 2 ^ 31 by omega), nI_clamp (show 179 + w < 2 ^ 31 by omega)]
    refine br_f (by rw [li 40]; exact nI_nlt (by omega) (by omega)) ⟨vp_in_nI (by omega) (by omega), vp_in_nI (by omega) (by omega), fun M4 e4 => ?_⟩
    have e179 : N' 1 (179 + w) = ra (pg N1 0) w k := by
      have := hI.1.2.2.2.2.2.1 w hw
      rw [ra_raM] at this
      exact this
    rw [e179] at e4
    exact hm b M4 hb (Or.inr ⟨N', hI, e4⟩) ⟨N', hI, e4⟩
theorem inS_0 {N1 : Mem} {row w : Nat} (hO : OK0 (pg N1 0)) : inS N1 (st0 (cpM N1 0 148 37)) row w 0 := by
  have e : mR (st0 (cpM N1 0 148 37)) 7 (st0 (cpM N1 0 148 37) 7) = st0 (cpM N1 0 148 37) := by
    funext a
    by_cases h : a = 7
    · subst h; rw [mR_s]
    · rw [mR_n h]
  refine ⟨?_, fun q hq => by omega, fun j _ => ?_⟩
  · rw [e]; exact tried_0 hO.2.1.2 hO.2.2.1.1
  · unfold st0
    rw [mU_n (by decide), mU_n (by decide), mU_n (by decide), cpM_n (by decide)]
theorem R_isAsSeen {N1 : Mem} {row w S : Nat} {Q : Int32 → Mem → Prop} (hO : OK0 (pg N1 0)) (hR : snR N1 S) (hrow : row ≤ 9) (hw : w < wN (pg N1 0)) (h1 : ∀ N2, inS N1 N2 row w 41 → allb (okb N1 (pg N1 0)) S = true → Q 1 N2) (h0 : ∀ N2, inS N1 N2 row w 41 → ¬ allb (okb N1 (pg N1 0)) S = true → Q 0 N2) : q_X6_isAsSeen (nI row) (nI w) N1 Q := by
  obtain ⟨m, hm⟩ := asS_out hO hR hrow hw h1 h0 41 0 rfl
  exact ⟨m, R_go0 (hm 1 _ (Or.inl ⟨fun d hd hc => by omega, rfl⟩) (inS_0 hO))⟩
/-! the numbers a place may hold -/
def bitv (g : Nat → Bool) (a : Nat) : Nat → Int32
  | 0 => 0
  | n + 1 => if g (a + n) then bitv g a n ||| ((1 : Int32) <<< (nI (a + n) &&& 31)) else bitv g a n
def gS (N : Mem) (S at' : Nat) (v : Nat) : Bool := allb (okb N (upd (pg N 0) at' (nI v))) S
def nsI (N N' : Mem) (a w f v : Nat) : Prop := (∀ c, c ≠ 0 → c ≠ 1 → c ≠ 7 → N' c = N c) ∧ (∀ j, j < 15 ∨ 17 < j → N' 0 j = N 0 j) ∧ (∀ j, j < 111 → j ≠ a → N' 1 j = N 1 j) ∧ ∀ u, f ≤ u → u < v → ∀ q, q ≤ 40 → N' 7 (41 * u + q) = ra (upd (pg N 0) a (nI u)) w q
theorem or0 (x : Int32) : x ||| 0 = x := by simp
theorem R_numbers {N : Mem} {a w f n S : Nat} {Q : Int32 → Mem → Prop} (hO : ∀ v, f ≤ v → v < f + n → OK0 (upd (pg N 0) a (nI v))) (ha : a < 35) (ha0 : 23 ≤ a) (hR : snR N S) (hf : f + n ≤ 10) (hn : 1 ≤ n) (hw : w < wN (pg N 0)) (hw4 : wN (pg N 0) ≤ 4) (hq : ∀ N', fm N N' → (∀ u, f ≤ u → u < f + n → ∀ q, q ≤ 40 → N' 7 (41 * u + q) = ra (upd (pg N 0) a (nI u)) w q) → Q (bitv (gS N S a) f n) N') : q_X6_numbersAt (nI a) (nI w) (nI f) (nI (f + n - 1)) N Q := by
  have key : ∀ j k, j + k = n → ∃ m, ∀ N', nsI N N' a w f (f + k) → (p_X6_numbersAt Q m).1 (nI a) (nI w) (nI (f + n - 1)) (N 1 a) (bitv (gS N S a) f k) (nI (f + k)) N' := by
    intro j
    induction j with
    | zero =>
      intro k hk
      have e : k = n := by omega
      subst e
      refine ⟨1, fun N' hI => ?_⟩
      show f_X6_numbersAt_14 Q (p_X6_numbersAt Q 0) _ _ _ _ _ _ _
      unfold f_X6_numbersAt_14
      rw [nI_clamp (show a < 2 ^ 31 by omega)]
      refine br_t (nI_lt (by omega) (by omega)) ⟨vp_in_nI (by omega) (by omega), hq _ ⟨fun c h0 h1 h7 => by rw [mU_n h1, hI.1 c h0 h1 h7], fun j hj => by rw [mU_n (by decide), hI.2.1 j hj], fun j hj => ?_⟩ (fun u u1 u2 q hq => by rw [mU_n (by decide)]; exact hI.2.2.2 u u1 u2 q hq)⟩
      rw [mU_r]
      by_cases hja : j = a
      · rw [if_pos hja, hja]
      · rw [if_neg hja, hI.2.2.1 j hj hja]
    | succ j ih =>
      intro k hk
      obtain ⟨m, hm⟩ := ih (k + 1) (by omega)
      refine ⟨m + 2, fun N' hI => ?_⟩
      show f_X6_numbersAt_14 Q (p_X6_numbersAt Q (m + 1)) _ _ _ _ _ _ _
      unfold f_X6_numbersAt_14
      rw [nI_clamp (show a < 2 ^ 31 by omega)]
      have hOv := hO (f + k) (by omega) (by omega)
      have ep : ∀ j, j < 37 → pg (mU N' 1 a (nI (f + k))) 0 j = upd (pg N 0) a (nI (f + k)) j := fun j hj => by
        rw [pg_mU0, up_at, up_at]
        by_cases hja : j = a
        · rw [if_pos hja, if_pos hja]
        · rw [if_neg hja, if_neg hja]
          show N' 1 (0 + j) = N 1 (0 + j)
          rw [Nat.zero_add]; exact hI.2.2.1 j (by omega) hja
      have h6 : mU N' 1 a (nI (f + k)) 6 = N 6 := by rw [mU_n (by decide), hI.1 6 (by decide) (by decide) (by decide)]
      have hR1 : snR (mU N' 1 a (nI (f + k))) S := by
        refine ⟨hR.1, by rw [mU_n (by decide), hI.2.1 19 (by omega)]; exact hR.2.1, fun e he => ?_⟩
        have e1 : nE (mU N' 1 a (nI (f + k))) e = nE N e := by unfold nE; rw [h6]
        have e2 : oE (mU N' 1 a (nI (f + k))) e = oE N e := by unfold oE; rw [h6]
        rw [e1, e2, h6]; exact hR.2.2 e he
      have hO1 : OK0 (pg (mU N' 1 a (nI (f + k))) 0) := OK0_pg hOv ep
      have ew : wN (pg (mU N' 1 a (nI (f + k))) 0) = wN (pg N 0) := by rw [wN_congr (ep 35 (by omega)), wN_up (by omega)]
      have eb : allb (okb (mU N' 1 a (nI (f + k))) (pg (mU N' 1 a (nI (f + k))) 0)) S = gS N S a (f + k) := allb_congr (fun e he => okb_pg hOv h6 (hR.2.2 e he).2.2.2 ep)
      have nx : ∀ N2, inS (mU N' 1 a (nI (f + k))) N2 (f + k) w 41 → nsI N N2 a w f (f + (k + 1)) := by
        intro N2 h2
        obtain ⟨fr1, fr2, fr3⟩ := inS_fr h2
        refine ⟨fun c h0 h1 h7 => by rw [fr1 c h0 h1 h7, mU_n h1, hI.1 c h0 h1 h7], fun j hj => by rw [fr2 j hj, mU_n (by decide), hI.2.1 j hj], fun j hj hja => by rw [fr3 j (by omega), mU_r, if_neg hja, hI.2.2.1 j hj hja], fun u u1 u2 q hq => ?_⟩
        by_cases hu : u = f + k
        · subst hu
          rw [h2.2.1 q (by omega), ra_pg hOv (by omega) ep]
        · rw [h2.2.2 (41 * u + q) (by omega), mU_n (by decide)]
          exact hI.2.2.2 u u1 (by omega) q hq
      refine br_f (nI_nlt (by omega) (by omega)) ⟨vp_in_nI (by omega) (by omega), R_isAsSeen hO1 hR1 (by omega) (by rw [ew]; exact hw) (fun N2 h2 hb => br_f ne10 ?_) (fun N2 h2 hb => br_t rfl ?_)⟩
      · rw [eb] at hb
        have e : bitv (gS N S a) f (k + 1) = bitv (gS N S a) f k ||| ((1 : Int32) <<< (nI (f + k) &&& 31)) := if_pos hb
        show (p_X6_numbersAt Q m).1 _ _ _ _ _ _ _
        rw [← e, nI_1]
        exact hm N2 (nx N2 h2)
      · rw [eb] at hb
        have e : bitv (gS N S a) f (k + 1) = bitv (gS N S a) f k := if_neg hb
        show (p_X6_numbersAt Q m).1 _ _ _ _ _ _ _
        rw [or0, ← e, nI_1]
        exact hm N2 (nx N2 h2)
  obtain ⟨m, hm⟩ := key n 0 (by omega)
  refine ⟨m, vp_in_nI (by omega) (by omega), ?_⟩
  rw [nI_clamp (by omega)]
  exact hm N ⟨fun _ _ _ _ => rfl, fun _ _ => rfl, fun _ _ _ => rfl, fun u u1 u2 => by omega⟩
theorem snX_f {M M' N : Mem} {S : Nat} (h : snX M N S) (g : fx M M') : snX M' N S := by
  unfold snX at h ⊢
  rw [g 24 (by omega) (by omega) (by omega), g 25 (by omega) (by omega) (by omega), g 26 (by omega) (by omega) (by omega), g 27 (by omega) (by omega) (by omega)]
  exact h
theorem kinds_X {M N : Mem} {w S : Nat} {Q : Int32 → Mem → Prop} (hO : OK0 (pg N 0)) (hw : w < wN (pg N 0)) (hR : snR N S) (hS : snX M N S) (hq : ∀ M', fx M M' → Q (bitv (gS N S (23 + w)) 0 4) M') : ∀ j k, j + k = 4 → ∀ M', fx M M' → (∃ a, isX M' 7 (upd (pg N 0) (23 + w) a)) → ∃ n, (p_X5_kinds Q n).1 (nI w) (bitv (gS N S (23 + w)) 0 k) (nI k) M' := by
  have h10 := hO.1.2
  have h4 := hO.2.1.2
  intro j
  induction j with
  | zero =>
    rintro k hk M' g1 -
    have e : k = 4 := by omega
    subst e
    refine ⟨1, ?_⟩
    show f_X5_kinds_25 Q (p_X5_kinds Q 0) _ _ _ _
    exact br_t (by decide) (hq M' g1)
  | succ j ih =>
    rintro k hk M' g1 ⟨a, g2⟩
    have gX := isX_wh g2 (by rw [wN_up (by omega)]; exact h4) (by rw [cN_up (by omega)]; exact h10) (r := 3) (i := w) (nI k) (by omega) (by omega)
    rw [show 11 + 4 * 3 + w = 23 + w by omega, upd_upd] at gX
    have gm : fx M (mU M' (7 + 3) w (nI k)) := fun c z1 z2 z3 => by rw [mU_n (by omega), g1 c z1 z2 z3]
    obtain ⟨n, hn⟩ := ih (k + 1) (by omega) _ gm ⟨_, gX⟩
    refine ⟨n + 2, ?_⟩
    show f_X5_kinds_25 Q (p_X5_kinds Q (n + 1)) _ _ _ _
    unfold f_X5_kinds_25
    rw [nI_clamp (by omega)]
    refine br_f (by rw [li 4]; exact nI_ge (by omega) (by omega)) ⟨vp_in_nI (by omega) (by omega), X2_agree gX (OK0_kd hO (by omega) (kd_nI (by omega))) hR (snX_f hS gm) (fun hb => br_f ne10 ?_) (fun hb => br_t rfl ?_)⟩
    · intro x hx
      subst hx
      have e : bitv (gS N S (23 + w)) 0 (k + 1) = bitv (gS N S (23 + w)) 0 k ||| ((1 : Int32) <<< (nI k &&& 31)) := by
        show (if gS N S (23 + w) (0 + k) then _ else _) = _
        rw [Nat.zero_add]
        exact if_pos hb
      rw [e] at hn
      show (p_X5_kinds Q n).1 _ _ _ _
      rw [nI_1]; exact hn
    · have e : bitv (gS N S (23 + w)) 0 (k + 1) = bitv (gS N S (23 + w)) 0 k := by
        show (if gS N S (23 + w) (0 + k) then _ else _) = _
        rw [Nat.zero_add]
        exact if_neg hb
      rw [e] at hn
      show (p_X5_kinds Q n).1 _ _ _ _
      rw [nI_1]; exact hn
theorem o_kinds {M N : Mem} (h : RR M N) (v1 : Int32) : both (q_X5_kinds v1 M) (q_X6_kinds v1 N) := by
  obtain ⟨⟨⟨hO, -⟩, hX⟩, -⟩ := id h
  have h4 := hO.2.1.2
  obtain ⟨S, hR, hS⟩ := sn_of h.2.2.2.2.1
  by_cases hh : ∃ w, w < wN (pg N 0) ∧ v1 = nI w
  · obtain ⟨w, hw, rfl⟩ := hh
    refine both.q h (bitv (gS N S (23 + w)) 0 4) (fun Q q => ?_) (fun Q q => ?_)
    · obtain ⟨M', g1, g2, g3⟩ := L_trial hX hO
      obtain ⟨n, hn⟩ := kinds_X hO hw hR hS q 4 0 rfl M' g1 ⟨_, by rw [upd_id]; exact g2⟩
      exact ⟨n, X_hasWheel hX hO (fun _ _ _ => bn_f ne10 (g3 _ hn)) (fun z => absurd ⟨w, hw, rfl⟩ z)⟩
    · refine R_isWheel hO (fun _ _ _ => br_f ne10 ?_) (fun z => absurd ⟨w, hw, rfl⟩ z)
      rw [li 23, nI_add]
      exact R_numbers (f := 0) (n := 4) (fun v _ hv => OK0_kd hO (by omega) (kd_nI (by omega))) (by omega) (by omega) hR (by omega) (by omega) hw h4 (fun N' g _ => q N' g)
  · exact both.no h (-1) (fun Q q => ⟨0, X_hasWheel hX hO (fun w hw e => absurd ⟨w, hw, e⟩ hh) (fun _ => bn_t rfl q)⟩) (fun Q q => R_isWheel hO (fun w hw e => absurd ⟨w, hw, e⟩ hh) (fun _ => br_t rfl q))
theorem steps_X {M N : Mem} {w S : Nat} {Q : Int32 → Mem → Prop} (hO : OK0 (pg N 0)) (hw : w < wN (pg N 0)) (hR : snR N S) (hS : snX M N S) (hq : ∀ M', fx M M' → Q (bitv (gS N S (27 + w)) 1 9) M') : ∀ j k, j + k = 9 → ∀ M', fx M M' → (∃ a, isX M' 7 (upd (pg N 0) (27 + w) a)) → ∃ n, (p_X5_stepsAsSeen Q n).1 (nI w) (bitv (gS N S (27 + w)) 1 k) (nI (1 + k)) M' := by
  have h10 := hO.1.2
  have h4 := hO.2.1.2
  intro j
  induction j with
  | zero =>
    rintro k hk M' g1 -
    have e : k = 9 := by omega
    subst e
    refine ⟨1, ?_⟩
    show f_X5_stepsAsSeen_15 Q (p_X5_stepsAsSeen Q 0) _ _ _ _
    exact br_t (by decide) (hq M' g1)
  | succ j ih =>
    rintro k hk M' g1 ⟨a, g2⟩
    have gX := isX_wh g2 (by rw [wN_up (by omega)]; exact h4) (by rw [cN_up (by omega)]; exact h10) (r := 4) (i := w) (nI (1 + k)) (by omega) (by omega)
    rw [show 11 + 4 * 4 + w = 27 + w by omega, upd_upd] at gX
    have gm : fx M (mU M' (7 + 4) w (nI (1 + k))) := fun c z1 z2 z3 => by rw [mU_n (by omega), g1 c z1 z2 z3]
    obtain ⟨n, hn⟩ := ih (k + 1) (by omega) _ gm ⟨_, gX⟩
    refine ⟨n + 2, ?_⟩
    show f_X5_stepsAsSeen_15 Q (p_X5_stepsAsSeen Q (n + 1)) _ _ _ _
    unfold f_X5_stepsAsSeen_15
    rw [nI_clamp (by omega)]
    refine br_f (by rw [li 9]; exact nI_nlt (by omega) (by omega)) ⟨vp_in_nI (by omega) (by omega), X2_agree gX (OK0_sp hO (by omega) (sp_nI (by omega) (by omega))) hR (snX_f hS gm) (fun hb => br_f ne10 ?_) (fun hb => br_t rfl ?_)⟩
    · intro x hx
      subst hx
      have e : bitv (gS N S (27 + w)) 1 (k + 1) = bitv (gS N S (27 + w)) 1 k ||| ((1 : Int32) <<< (nI (1 + k) &&& 31)) := if_pos hb
      rw [e] at hn
      show (p_X5_stepsAsSeen Q n).1 _ _ _ _
      rw [nI_1]; exact hn
    · have e : bitv (gS N S (27 + w)) 1 (k + 1) = bitv (gS N S (27 + w)) 1 k := if_neg hb
      rw [e] at hn
      show (p_X5_stepsAsSeen Q n).1 _ _ _ _
      rw [nI_1]; exact hn
theorem X_stepsAsSeen {M N : Mem} {w S : Nat} {Q : Int32 → Mem → Prop} (hX : isX M 1 (pg N 0)) (hO : OK0 (pg N 0)) (hw : w < wN (pg N 0)) (hR : snR N S) (hS : snX M N S) (hq : ∀ M', fx M M' → Q (bitv (gS N S (27 + w)) 1 9) M') : q_X5_stepsAsSeen (nI w) M Q := by
  obtain ⟨M', g1, g2, g3⟩ := L_trial hX hO
  obtain ⟨n, hn⟩ := steps_X hO hw hR hS hq 9 0 rfl M' g1 ⟨_, by rw [upd_id]; exact g2⟩
  exact ⟨n, g3 _ hn⟩
theorem R_steps {N : Mem} {w S : Nat} {Q : Int32 → Mem → Prop} (hO : OK0 (pg N 0)) (hw : w < wN (pg N 0)) (hR : snR N S) (hq : ∀ N', fm N N' → (∀ u, 1 ≤ u → u < 10 → ∀ q, q ≤ 40 → N' 7 (41 * u + q) = ra (upd (pg N 0) (27 + w) (nI u)) w q) → Q (bitv (gS N S (27 + w)) 1 9) N') : q_X6_numbersAt ((27 : Int32) + nI w) (nI w) 1 9 N Q := by
  have h4 := hO.2.1.2
  rw [li 27, nI_add]
  exact R_numbers (f := 1) (n := 9) (fun v v1 hv => OK0_sp hO (by omega) (sp_nI (by omega) (by omega))) (by omega) (by omega) hR (by omega) (by omega) hw h4 hq
theorem o_steps {M N : Mem} (h : RR M N) (v1 : Int32) : both (q_X5_steps v1 M) (q_X6_steps v1 N) := by
  obtain ⟨⟨⟨hO, -⟩, hX⟩, -⟩ := id h
  have h4 := hO.2.1.2
  obtain ⟨S, hR, hS⟩ := sn_of h.2.2.2.2.1
  by_cases hh : ∃ w, w < wN (pg N 0) ∧ v1 = nI w
  · obtain ⟨w, hw, rfl⟩ := hh
    exact both.q h (bitv (gS N S (27 + w)) 1 9) (fun Q q => X_hasWheel hX hO (fun _ _ _ => br_f ne10 (X_stepsAsSeen hX hO hw hR hS q)) (fun z => absurd ⟨w, hw, rfl⟩ z)) (fun Q q => R_isWheel hO (fun _ _ _ => br_f ne10 (R_steps hO hw hR (fun N' g _ => q N' g))) (fun z => absurd ⟨w, hw, rfl⟩ z))
  · exact both.no h (-1) (fun Q q => X_hasWheel hX hO (fun w hw e => absurd ⟨w, hw, e⟩ hh) (fun _ => br_t rfl q)) (fun Q q => R_isWheel hO (fun w hw e => absurd ⟨w, hw, e⟩ hh) (fun _ => br_t rfl q))
