/-! text -/
theorem RR.tx {M N M' N' : Mem} (h : RR M N) (hx : ∀ a, a ≠ 0 → a ≠ 15 → a ≠ 16 → (a < 18 ∨ 23 < a) → M' a = M a) (hx1 : M' 16 1 = 0) (hx0 : M' 0 10 = M 0 10) (hm : ∀ a, a ≠ 0 → a ≠ 2 → N' a = N a) (h4 : N' 0 4 = 0) (h25 : N' 0 25 = N 0 25) (h19 : N' 0 19 = N 0 19) (h14 : N' 0 14 = N 0 14) (hft : M' 0 9 = N' 0 5) : RR M' N' := by
  obtain ⟨⟨hO, hX⟩, ⟨b1, b2⟩, c, ⟨d1, d2⟩, e, f, g, i, j⟩ := h
  have ep : ∀ p, pg N' p = pg N p := fun p => funext fun q => by unfold pg; rw [hm 1 (by decide) (by decide)]
  have im : ∀ k, k < 2 → rImg M N k → rImg M' N' k := by
    intro k hk hr
    unfold rImg at hr ⊢
    rw [hx 14 (by decide) (by decide) (by decide) (by omega), hm 8 (by decide) (by decide), ep]
    rcases hr with q | ⟨q1, q2, q3, q4⟩
    · exact Or.inl q
    · exact Or.inr ⟨q1, q2, q3, q4.of (fun i hi => hx _ (by omega) (by omega) (by omega) (by omega))⟩
  refine ⟨⟨by rw [ep]; exact hO, by rw [ep]; exact hX.of (fun i hi => hx _ (by omega) (by omega) (by omega) (by omega))⟩, ⟨im 0 (by omega) b1, im 1 (by omega) b2⟩, ⟨0, by omega, hx1, h4, fun i hi => by omega⟩, ⟨hft, ?_⟩, ?_, fun k hk => ?_, ?_, ?_, ?_⟩
  · rw [hx0, h25]; exact d2
  · unfold rSeen at e ⊢
    rw [hx 24 (by decide) (by decide) (by decide) (by omega), hx 25 (by decide) (by decide) (by decide) (by omega), hx 26 (by decide) (by decide) (by decide) (by omega), hx 27 (by decide) (by decide) (by decide) (by omega), h19, hm 6 (by decide) (by decide)]
    exact e
  · have := f k hk
    unfold rSheet at this ⊢
    rw [hx (43 + 2 * k) (by omega) (by omega) (by omega) (by omega), hx (44 + 2 * k) (by omega) (by omega) (by omega) (by omega), hm 9 (by decide) (by decide), hm 10 (by decide) (by decide), hm 11 (by decide) (by decide)]
    exact this
  · rw [h14]; exact g
  · rw [hm 4 (by decide) (by decide)]; exact i
  · rw [hm 5 (by decide) (by decide)]; exact j
theorem RR.tx2 {M N M' N' : Mem} (h : RR M N) {P : Pg} (hx : ∀ a, (a = 17 ∨ 43 ≤ a) → M' a = M a) (hx1 : M' 16 1 = 0) (hx0 : M' 0 10 = M 0 10) (hm : ∀ a, a ≠ 0 → a ≠ 1 → a ≠ 2 → a ≠ 8 → N' a = N a) (h4 : N' 0 4 = 0) (h25 : N' 0 25 = N 0 25) (h14 : N' 0 14 = N 0 14) (hft : M' 0 9 = N' 0 5) (s1 : M' 24 3 = 0) (s2 : N' 0 19 = 0) (k1 : M' 14 0 = 0) (k2 : M' 14 1 = 0) (k3 : N' 8 0 = 0) (k4 : N' 8 1 = 0) (hO : OK P) (hX : isX M' 1 P) (hP : ∀ j, j < 37 → pg N' 0 j = P j) : RR M' N' := by
  obtain ⟨-, -, c, ⟨d1, d2⟩, e, f, g, i, j⟩ := h
  refine ⟨⟨OK_pg hO hP, isX_pg hX hO.1.2.1.2 hO.1.1.2 hP⟩, ⟨Or.inl ⟨k1, k3⟩, Or.inl ⟨k2, k4⟩⟩, ⟨0, by omega, hx1, h4, fun i hi => by omega⟩, ⟨hft, ?_⟩, ⟨0, by omega, s1, s2, fun e he => by omega⟩, fun k hk => ?_, ?_, ?_, ?_⟩
  · rw [hx0, h25]; exact d2
  · have := f k hk
    unfold rSheet at this ⊢
    rw [hx (43 + 2 * k) (by omega), hx (44 + 2 * k) (by omega), hm 9 (by decide) (by decide) (by decide) (by decide), hm 10 (by decide) (by decide) (by decide) (by decide), hm 11 (by decide) (by decide) (by decide) (by decide)]
    exact this
  · rw [h14]; exact g
  · rw [hm 4 (by decide) (by decide) (by decide) (by decide)]; exact i
  · rw [hm 5 (by decide) (by decide) (by decide) (by decide)]; exact j
/-- the reference clears its page, then reads -/
theorem R_text0 {N : Mem} {B : Nat → Int32} {T : Nat} {Q : Int32 → Mem → Prop} (hT : rT N B T) (hE : ∀ j, j < 7 → N 4 j = ends0.getD j 0) (hL : ∀ j, j < 26 → N 5 j = lett0.getD j 0) (hq : ∀ N'' v m, frL N N'' → N'' 0 6 = nI (txR B T 161 0 0 P00 false).1 → ((txR B T 161 0 0 P00 false).1 ≠ 0 → N'' 0 7 = nI (txR B T 161 0 0 P00 false).2.1) → ((txR B T 161 0 0 P00 false).1 = 0 → v = nI (txR B T 161 0 0 P00 false).2.1 ∧ pgE N'' (txR B T 161 0 0 P00 false).2.2) → (p_X6_text Q (40 + m)).2.2.1 v N'') : q_X6_text N Q := by
  have h160 := hT.1
  have key : ∀ j k, j + k = 37 → ∀ N', frL N N' → N' 0 6 = 0 → N' 0 8 = 0 → N' 0 2 = 0 → (∀ i, i < k → N' 2 i = 0) → (p_X6_text Q (40 + 161 + 1 + j)).1 0 (nI k) N' := by
    intro j
    induction j with
    | zero =>
      intro k hk N' fr a6 a8 a2 hp
      have e : k = 37 := by omega
      subst e
      show f_X6_text_19 Q (p_X6_text Q (40 + 161)) _ _ _
      refine br_t (by decide) (R_on (p := 0) (rT_l hT fr) (by omega) a8 a6 (fun N1 g r => ?_))
      exact text_R hE hL 161 0 0 P00 false N1 (by omega) (by omega) (rT_l hT (fr.tr g.l)) r (fun i hi => by rw [g.1 2 (by decide)]; exact hp i hi) OK_00 z4_00 (by rw [g.2 2 (by omega), a2]; rfl) (fr.tr g.l) hq
    | succ j ih =>
      intro k hk N' fr a6 a8 a2 hp
      show f_X6_text_19 Q (p_X6_text Q (40 + 161 + 1 + j)) _ _ _
      unfold f_X6_text_19
      rw [nI_clamp (by omega)]
      refine br_f (by rw [li 37]; exact nI_ge (by omega) (by omega)) ⟨vp_in_nI (by omega) (by omega), ?_⟩
      rw [nI_1]
      refine ih (k + 1) (by omega) _ fr.p (by rw [mU_n (by decide)]; exact a6) (by rw [mU_n (by decide)]; exact a8) (by rw [mU_n (by decide)]; exact a2) (fun i hi => ?_)
      rw [mU_r]
      by_cases h : i = k
      · rw [if_pos h]
      · rw [if_neg h]; exact hp i (by omega)
  refine ⟨40 + 161 + 1 + 37, key 37 0 (by omega) _ ⟨fun a h0 h2 => ?_, fun j j2 hj => ?_⟩ ?_ ?_ ?_ (fun i hi => by omega)⟩
  · rw [mU_n h0, mU_n h0, mU_n h0]
  · rw [mU_mis j2, mU_mis (by omega), mU_mis (by omega)]
  · rw [mU_mis (by decide), mU_mis (by decide), mU_hit]
  · rw [mU_mis (by decide), mU_hit]
  · rw [mU_hit]
/-- the page goes over -/
theorem R_over {N : Mem} {v : Int32} {m : Nat} {Q : Int32 → Mem → Prop} (hq : ∀ N', (∀ a, a ≠ 1 → N' a = N a) → (∀ j, j < 37 → N' 1 j = N 2 j) → Q v (mU (mU (mU N' 0 19 (0 : Int32)) 8 0 (0 : Int32)) 8 1 (0 : Int32))) : (p_X6_text Q (38 + m)).2.2.2 v 0 N := by
  have key : ∀ j k, j + k = 37 → ∀ N', (∀ a, a ≠ 1 → N' a = N a) → (∀ i, i < k → N' 1 i = N 2 i) → (p_X6_text Q (j + 1 + m)).2.2.2 v (nI k) N' := by
    intro j
    induction j with
    | zero =>
      intro k hk N' a b
      have e : k = 37 := by omega
      subst e
      rw [show 0 + 1 + m = m + 1 by omega]
      show f_X6_text_96 Q (p_X6_text Q m) _ _ _
      exact br_t (by decide) (hq N' a b)
    | succ j ih =>
      intro k hk N' a b
      rw [show j + 1 + 1 + m = j + 1 + m + 1 by omega]
      show f_X6_text_96 Q (p_X6_text Q (j + 1 + m)) _ _ _
      unfold f_X6_text_96
      rw [nI_clamp (by omega)]
      refine br_f (by rw [li 37]; exact nI_ge (by omega) (by omega)) ⟨vp_in_nI (by omega) (by omega), vp_in_nI (by omega) (by omega), ?_⟩
      rw [nI_1]
      refine ih (k + 1) (by omega) _ (fun c hc => by rw [mU_n hc, a c hc]) (fun i hi => ?_)
      rw [mU_r]
      by_cases h : i = k
      · rw [if_pos h, h, a 2 (by decide)]
      · rw [if_neg h]; exact b i (by omega)
  have := key 37 0 (by omega) N (fun _ _ => rfl) (fun i hi => by omega)
  rw [show 37 + 1 + m = 38 + m by omega] at this
  exact this
theorem p66 {Q : Int32 → Mem → Prop} {n : Nat} {v : Int32} {N : Mem} (h : f_X6_text_66 Q (p_X6_text Q n) v N) : (p_X6_text Q (n + 1)).2.2.1 v N := h
theorem txR_le {B : Nat → Int32} {T : Nat} : ∀ j p ln P pt, (txR B T j p ln P pt).1 ≤ 5
  | 0, _, _, _, _ => Nat.zero_le 5
  | j + 1, p, ln, P, pt => by
    have ih := txR_le (B := B) (T := T) j (lnC B T p P pt).2 (ln + 1) (lnP B T p P) (lnT B T p pt)
    have hc : (lnC B T p P pt).1 ≤ 5 := by
      have l1 := fw_le B T p P pt
      have l2 := nF_le B T 1 9 (oB B T p)
      have l3 := mF_le B T (oB B T (oB B T p))
      have l4 := nF_le B T 0 20 (oB B T p)
      have l5 := nF_le B T 0 20 (oB B T (oB B T p))
      have l6 := mF_le B T (oB B T (oB B T (oB B T p)))
      unfold lnC
      repeat' split
      all_goals omega
    show (if _ then _ else if _ then _ else if _ then _ else _ : Nat × Nat × Pg).1 ≤ 5
    by_cases h1 : kB B T p = 4
    · rw [if_pos h1]; show 1 ≤ 5; omega
    · rw [if_neg h1]
      by_cases h2 : kB B T p = 0
      · rw [if_pos h2]; exact Nat.zero_le 5
      · rw [if_neg h2]
        by_cases h3 : (lnC B T p P pt).1 ≠ 0
        · rw [if_pos h3]; exact hc
        · rw [if_neg h3]; exact ih
set_option maxHeartbeats 1000000 in
theorem o_text {M N : Mem} (h : RR M N) : both (q_X5_text M) (q_X6_text N) := by
  obtain ⟨T, t1, t2, t3, t4⟩ := h.2.2.1
  have hE := h.2.2.2.2.2.2.2.1
  have hL := h.2.2.2.2.2.2.2.2
  have hTx : xT M (N 3) T := ⟨t1, t2, fun i hi => (t4 i hi).1⟩
  have hTr : rT N (N 3) T := ⟨t1, t3, rfl, fun i hi => (t4 i hi).2⟩
  have h5 := txR_le (B := N 3) (T := T) 161 0 0 P00 false
  generalize hres : txR (N 3) T 161 0 0 P00 false = res at h5
  by_cases hc : res.1 = 0
  · refine ⟨nI res.2.1, fun M' => (∀ a, (a = 17 ∨ 43 ≤ a) → M' a = M a) ∧ M' 16 1 = 0 ∧ M' 0 10 = M 0 10 ∧ M' 0 9 = 0 ∧ M' 24 3 = 0 ∧ M' 14 0 = 0 ∧ M' 14 1 = 0 ∧ OK res.2.2 ∧ isX M' 1 res.2.2, fun N' => (∀ a, a ≠ 0 → a ≠ 1 → a ≠ 2 → a ≠ 8 → N' a = N a) ∧ N' 0 4 = 0 ∧ N' 0 25 = N 0 25 ∧ N' 0 14 = N 0 14 ∧ N' 0 5 = 0 ∧ N' 0 19 = 0 ∧ N' 8 0 = 0 ∧ N' 8 1 = 0 ∧ ∀ j, j < 37 → pg N' 0 j = res.2.2 j, ?_, ?_, ?_⟩
    · refine ⟨3, X_readText hTx (fun M1 f1 a4 a5 a0 => ?_)⟩
      rw [hres] at a4 a5 a0
      obtain ⟨a3, aX, aO⟩ := a0 hc
      have e4 : M1 15 4 = 0 := by rw [a4, hc]; rfl
      rw [mU_hit, mU_n (show (15 : Nat) ≠ 16 by decide), e4]
      have aX2 : isX (mU (mU M1 16 1 0) 0 9 0) 18 res.2.2 := aX.of (fun i hi => by rw [mU_n (by omega), mU_n (by omega)])
      obtain ⟨M2, c1, c2, c3⟩ := L_copyEx (o := 1) (o1 := 18) (by omega) aX2 aO.1.1.2 aO.1.2.1.2
      refine br_t rfl (c3 _ ?_)
      show f_X5_text_71 _ (p_X5_text _ 2) _ _
      refine br_f (by decide) ⟨show vp_in (nI 0) 2 from vp_in_nI (by omega) (by omega), ?_⟩
      show f_X5_text_71 _ (p_X5_text _ 1) _ _
      refine br_f (by decide) ⟨show vp_in (nI 1) 2 from vp_in_nI (by omega) (by omega), ?_⟩
      show f_X5_text_71 _ (p_X5_text _ 0) _ _
      have lk : ∀ a, a ≠ 14 → a ≠ 24 → mU (mU (mU M2 24 3 0) 14 (Int32.toNatClampNeg 0) 0) 14 (Int32.toNatClampNeg (0 + 1)) 0 a = M2 a := fun a h14 h24 => by rw [mU_n h14, mU_n h14, mU_n h24]
      refine br_t (by decide) ⟨?_, fun a ha => ?_, ?_, ?_, ?_, ?_, ?_, ?_, aO, ?_⟩
      · rw [lk 15 (by decide) (by decide), c1 15 (by omega), mU_n (by decide), mU_n (by decide)]; exact a3
      · rw [lk a (by omega) (by omega), c1 a (by omega), mU_n (by omega), mU_n (by omega)]; exact f1.1 a (by omega) (by omega) (by omega)
      · rw [lk 16 (by decide) (by decide), c1 16 (by omega), mU_n (by decide), mU_hit]
      · rw [lk 0 (by decide) (by decide), c1 0 (by omega), mU_mis (by decide), mU_n (by decide), f1.1 0 (by decide) (by decide) (by omega)]
      · rw [lk 0 (by decide) (by decide), c1 0 (by omega), mU_hit]
      · rw [mU_n (by decide), mU_n (by decide), mU_hit]
      · show mU (mU (mU M2 24 3 0) 14 0 0) 14 1 0 14 0 = 0
        rw [mU_mis (by decide), mU_hit]
      · show mU (mU (mU M2 24 3 0) 14 0 0) 14 1 0 14 1 = 0
        rw [mU_hit]
      · exact c2.of (fun i hi => lk _ (by omega) (by omega))
    · refine R_text0 hTr hE hL (fun N1 v m f1 a6 a7 a0 => ?_)
      rw [hres] at a6 a7 a0
      obtain ⟨ev, aP⟩ := a0 hc
      have e6 : N1 0 6 = 0 := by rw [a6, hc]; rfl
      rw [show 40 + m = 38 + (m + 1) + 1 by omega]
      refine p66 ?_
      unfold f_X6_text_66
      rw [mU_mis (show 6 ≠ 5 by decide), mU_mis (show 6 ≠ 4 by decide), e6]
      refine br_t (by decide) (R_over (fun N2 b1 b2 => ?_))
      have lk : ∀ a, a ≠ 0 → a ≠ 8 → mU (mU (mU N2 0 19 (0 : Int32)) 8 0 (0 : Int32)) 8 1 (0 : Int32) a = N2 a := fun a h0 h8 => by rw [mU_n h8, mU_n h8, mU_n h0]
      have l0 : ∀ j, j ≠ 19 → mU (mU (mU N2 0 19 (0 : Int32)) 8 0 (0 : Int32)) 8 1 (0 : Int32) 0 j = mU (mU N1 0 4 0) 0 5 0 0 j := fun j hj => by rw [mU_n (by decide), mU_n (by decide), mU_mis hj, b1 0 (by decide)]
      refine ⟨ev, fun a h0 h1 h2 h8 => ?_, ?_, ?_, ?_, ?_, ?_, ?_, ?_, fun j hj => ?_⟩
      · rw [lk a h0 h8, b1 a h1, mU_n h0, mU_n h0, f1.1 a h0 h2]
      · rw [l0 4 (by decide), mU_mis (by decide), mU_hit]
      · rw [l0 25 (by decide), mU_mis (by decide), mU_mis (by decide), f1.2 25 (by decide) (by omega)]
      · rw [l0 14 (by decide), mU_mis (by decide), mU_mis (by decide), f1.2 14 (by decide) (by omega)]
      · rw [l0 5 (by decide), mU_hit]
      · rw [mU_n (by decide), mU_n (by decide), mU_hit]
      · rw [mU_mis (by decide), mU_hit]
      · rw [mU_hit]
      · unfold pg
        rw [lk 1 (by decide) (by decide), Nat.zero_add, b2 j hj, mU_n (by decide), mU_n (by decide)]
        exact aP j hj
    · rintro M' N' ⟨x1, x2, x3, x4, x5, x6, x7, x8, x9⟩ ⟨y1, y2, y3, y4, y5, y6, y7, y8, y9⟩
      exact h.tx2 x1 x2 x3 y1 y2 y3 y4 (x4.trans y5.symm) x5 y6 x6 x7 y7 y8 x8 x9 y9
  · refine ⟨-10 - nI res.2.1, fun M' => (∀ a, a ≠ 0 → a ≠ 15 → a ≠ 16 → (a < 18 ∨ 23 < a) → M' a = M a) ∧ M' 16 1 = 0 ∧ M' 0 10 = M 0 10 ∧ M' 0 9 = nI res.1, fun N' => (∀ a, a ≠ 0 → a ≠ 2 → N' a = N a) ∧ N' 0 4 = 0 ∧ N' 0 25 = N 0 25 ∧ N' 0 19 = N 0 19 ∧ N' 0 14 = N 0 14 ∧ N' 0 5 = nI res.1, ?_, ?_, ?_⟩
    · refine ⟨0, X_readText hTx (fun M1 f1 a4 a5 a0 => ?_)⟩
      rw [hres] at a4 a5 a0
      rw [mU_hit, mU_n (show (15 : Nat) ≠ 16 by decide), a4]
      refine br_f (nI_n0 hc h5) ⟨?_, fun a h0 h15 h16 hh => ?_, ?_, ?_, ?_⟩
      · rw [mU_n (by decide), mU_n (by decide), a5 hc]
      · rw [mU_n h0, mU_n h16]; exact f1.1 a h15 h16 hh
      · rw [mU_n (by decide), mU_hit]
      · rw [mU_mis (by decide), mU_n (by decide), f1.1 0 (by decide) (by decide) (by omega)]
      · rw [mU_hit]
    · refine R_text0 hTr hE hL (fun N1 v m f1 a6 a7 a0 => ?_)
      rw [hres] at a6 a7 a0
      rw [show 40 + m = 39 + m + 1 by omega]
      refine p66 ?_
      unfold f_X6_text_66
      rw [mU_mis (show 6 ≠ 5 by decide), mU_mis (show 6 ≠ 4 by decide), a6]
      refine br_f (pos_c hc h5) ⟨?_, fun a h0 h2 => ?_, ?_, ?_, ?_, ?_, ?_⟩
      · rw [mU_mis (show 7 ≠ 5 by decide), mU_mis (show 7 ≠ 4 by decide), a7 hc]
      · rw [mU_n h0, mU_n h0, f1.1 a h0 h2]
      · rw [mU_mis (by decide), mU_hit]
      · rw [mU_mis (by decide), mU_mis (by decide), f1.2 25 (by decide) (by omega)]
      · rw [mU_mis (by decide), mU_mis (by decide), f1.2 19 (by decide) (by omega)]
      · rw [mU_mis (by decide), mU_mis (by decide), f1.2 14 (by decide) (by omega)]
      · rw [mU_hit]
    · rintro M' N' ⟨x1, x2, x3, x4⟩ ⟨y1, y2, y3, y4, y5, y6⟩
      exact h.tx x1 x2 x3 y1 y2 y3 y4 y5 (x4.trans y6.symm)
