/-! read -/
theorem nI_m (n : Nat) (h : 1 ≤ n) : nI n - 1 = nI (n - 1) := by
  rw [show n = n - 1 + 1 by omega, ← nI_add, show n - 1 + 1 - 1 = n - 1 by omega]
  show nI (n - 1) + 1 - 1 = _
  grind
theorem nI_sb (a k : Nat) : nI (a + k) - nI a = nI k := by
  rw [← nI_add]
  grind
theorem l_add {a b : Nat} (ha : a ≤ 1000) (hb : b ≤ 1000) : (nI a).toInt64 + (nI b).toInt64 = (nI (a + b)).toInt64 := by
  apply Int64.toInt_inj.mp
  rw [Int64.toInt_add, Int32.toInt_toInt64, Int32.toInt_toInt64, Int32.toInt_toInt64, nI_toInt (by omega), nI_toInt (by omega), nI_toInt (by omega)]
  rw [Int.bmod_def]
  split <;> omega
theorem R_chk {a b z : Nat} {N : Mem} {Q : Int32 → Mem → Prop} (ha : a ≤ 1000) (hb : b ≤ 1000) (hz : z ≤ 40) (h1 : a + b < z → Q 1 N) (h0 : ¬ a + b < z → Q 0 N) : q_X6_in ((nI a).toInt64 + (nI b).toInt64) 0 ((nI z) - 1).toInt64 N Q := by
  rw [l_add ha hb]
  refine R_inI (lo := 0) (hi := nI z - 1) rfl rfl (fun g => ?_) (fun g => ?_)
  · obtain ⟨i, hi, e⟩ := (in_nI (by omega)).mp g
    rw [nI_eq (by omega) (by omega)] at e
    exact h1 (by omega)
  · exact h0 (fun q => g ((in_nI (by omega)).mpr ⟨a + b, q, rfl⟩))
theorem RR.read {M N M' N' : Mem} (h : RR M N) {ft : Int32} (hx : ∀ a, 13 ≤ a → a ≠ 29 → a ≠ 30 → M' a = M a) (hx0 : M' 0 9 = M 0 9) (hxf : M' 0 10 = ft) (hm1 : ∀ a, a ≠ 0 → a ≠ 1 → N' a = N a) (hm0 : ∀ j, j ≠ 25 → N' 0 j = N 0 j) (hmf : N' 0 25 = ft) (hm2 : ∀ j, 37 ≤ j → j < 111 → N' 1 j = N 1 j) (hO : OK (pg N' 0)) (hX : isX M' 1 (pg N' 0)) : RR M' N' := by
  obtain ⟨-, ⟨b1, b2⟩, c, ⟨d1, d2⟩, e, f, g, i, j⟩ := h
  have im : ∀ k, k < 2 → rImg M N k → rImg M' N' k := by
    intro k hk hr
    unfold rImg at hr ⊢
    have ep : ∀ q, q < 37 → pg N' (37 * (k + 1)) q = pg N (37 * (k + 1)) q := fun q hq => hm2 _ (by omega) (by omega)
    rw [hx 14 (by omega) (by omega) (by omega), hm1 8 (by decide) (by decide)]
    rcases hr with q | ⟨q1, q2, q3, q4⟩
    · exact Or.inl q
    · exact Or.inr ⟨q1, q2, OK_pg q3 ep, isX_pg (q4.of (fun i hi => hx _ (by omega) (by omega) (by omega))) q3.1.2.1.2 q3.1.1.2 ep⟩
  refine ⟨⟨hO, hX⟩, ⟨im 0 (by omega) b1, im 1 (by omega) b2⟩, ?_, ⟨?_, ?_⟩, ?_, fun k hk => ?_, ?_, ?_, ?_⟩
  · unfold rTape at c ⊢
    rw [hx 16 (by omega) (by omega) (by omega), hx 17 (by omega) (by omega) (by omega), hm0 4 (by omega), hm1 3 (by decide) (by decide)]
    exact c
  · rw [hx0, hm0 5 (by omega)]; exact d1
  · rw [hxf, hmf]
  · unfold rSeen at e ⊢
    rw [hx 24 (by omega) (by omega) (by omega), hx 25 (by omega) (by omega) (by omega), hx 26 (by omega) (by omega) (by omega), hx 27 (by omega) (by omega) (by omega), hm0 19 (by omega), hm1 6 (by decide) (by decide)]
    exact e
  · have := f k hk
    unfold rSheet at this ⊢
    rw [hx (43 + 2 * k) (by omega) (by omega) (by omega), hx (44 + 2 * k) (by omega) (by omega) (by omega), hm1 9 (by decide) (by decide), hm1 10 (by decide) (by decide), hm1 11 (by decide) (by decide)]
    exact this
  · rw [hm0 14 (by omega)]; exact g
  · rw [hm1 4 (by decide) (by decide)]; exact i
  · rw [hm1 5 (by decide) (by decide)]; exact j
/-- what the reading has written -/
def gR (N N' : Mem) : Prop := (∀ a, a ≠ 1 → N' a = N a) ∧ (∀ j, 37 ≤ j → j < 111 → N' 1 j = N 1 j) ∧ ∀ j, j < 37 → N' 1 (111 + j) = N 1 j
def rdB (M N : Mem) (x : (Int32 → Mem → Prop) → Nat → Prop) (y : (Int32 → Mem → Prop) → Nat → Prop) : Prop := ∃ (ans : Int32) (A B : Mem → Prop), (∃ m, x (fun r M' => r = ans ∧ A M') m) ∧ (∃ m, y (fun r M' => r = ans ∧ B M') m) ∧ ∀ M' N', A M' → B N' → RR M' N'
theorem rd_done {M N M' N' : Mem} (h : RR M N) {k : Nat} {ft : Int32} {x y : (Int32 → Mem → Prop) → Nat → Prop} (hO : OK (pg N' 0)) (hX : isX M' 7 (pg N' 0)) (hc : cN (pg N' 0) = cN (pg N 0) + k) (g1 : fx M M') (g2 : gR N N') (fX : ∀ Q : Int32 → Mem → Prop, q_X0_copyFrom 1 7 M' (fun M_20 => Q ((M' 7 2) - (M' 1 2)) (mU M_20 0 10 ft)) → ∃ m, x Q m) (fR : ∀ Q : Int32 → Mem → Prop, Q (nI k) (mU N' 0 25 ft) → ∃ m, y Q m) : rdB M N x y := by
  have hO0 := hO.1
  have h10 := hO0.1.2
  have e7 : M' 7 2 = nI (cN (pg N 0) + k) := by rw [hX.1, hO0.1.1, hc]
  have e1 : M' 1 2 = nI (cN (pg N 0)) := by rw [g1 1 (by omega) (by omega) (by omega), h.1.2.1, h.1.1.1.1.1]
  obtain ⟨M2, c1, c2, c3⟩ := L_copyEx (o := 1) (o1 := 7) (by omega) hX h10 hO0.2.1.2
  refine ⟨nI k, fun M'' => M'' = mU M2 0 10 ft, fun N'' => N'' = mU N' 0 25 ft, fX _ (c3 _ ⟨?_, rfl⟩), fR _ ⟨rfl, rfl⟩, ?_⟩
  · rw [e7, e1, nI_sb]
  · rintro M'' N'' rfl rfl
    have ep : pg (mU N' 0 25 ft) 0 = pg N' 0 := pg_mUo _ _ _ _ _ (by decide)
    refine h.read (ft := ft) (fun a ha h29 h30 => ?_) ?_ ?_ (fun a a0 a1 => ?_) (fun j hj => ?_) ?_ (fun j j1 j2 => ?_) (by rw [ep]; exact hO) (by rw [ep]; exact c2.of (fun i hi => by rw [mU_n (by omega)]))
    · rw [mU_n (by omega), c1 a (by omega), g1 a (by omega) h29 h30]
    · rw [mU_at, if_neg (by omega), c1 0 (by omega), g1 0 (by omega) (by omega) (by omega)]
    · rw [mU_at, if_pos ⟨rfl, rfl⟩]
    · rw [mU_n a0, g2.1 a a1]
    · rw [mU_at, if_neg (by omega), g2.1 0 (by decide)]
    · rw [mU_at, if_pos ⟨rfl, rfl⟩]
    · rw [mU_n (by decide), g2.2.1 j j1 j2]
theorem fault1 {M : Mem} {o z ln : Nat} {c : Nat} {Q : Int32 → Mem → Prop} (e1 : M o 1 = nI ln) (e2 : M o 2 = nI z) (hz : z ≤ 40) (hc : c ≤ 1000) (h2 : ¬ c + 1 < z → Q 2 M) (h0 : c + 1 < z → Q 0 M) : q_X1_faultAtPair o (nI ln) (nI c) M Q := by
  refine S_faultAt e1 e2 hz (fun n => absurd rfl n) (fun _ g => br_f (by decide) (h2 (fun q => g ⟨c, by omega, rfl⟩))) (fun _ g => br_t rfl ?_)
  rw [li 1, nI_add]
  refine S_faultAt e1 e2 hz (fun n => absurd rfl n) (fun _ g => h2 (fun q => g ⟨c + 1, q, rfl⟩)) (fun _ g => h0 ?_)
  obtain ⟨i, hi, e⟩ := g
  rw [nI_eq (by omega) (by omega)] at e
  omega
/-- the reference reads one cell (a check, a half of a pair) -/
theorem R_rd1 {N' : Mem} {Q : Int32 → Mem → Prop} {s ln f0 n i z m : Nat} {c : Int32} (hs : s < 4) (e9 : N' 9 s = nI ln) (hln : ln < 3) (e10 : N' 10 s = nI z) (hz : z ≤ 40) (hf : f0 < 40) (hn : n ≤ 20) (hi : i < 2 * n) (h2 : ¬ f0 + i < z → f_X6_read_125 Q (p_X6_read Q m) (nI s) (nI ln) (nI f0) (nI n) c (nI i) 2 N') (h0 : f0 + i < z → f_X6_read_125 Q (p_X6_read Q m) (nI s) (nI ln) (nI f0) (nI n) c (nI i) 0 N') : (p_X6_read Q (m + 2)).1 (nI s) (nI ln) (nI f0) (nI n) 0 c (nI i) N' := by
  show f_X6_read_55 Q (p_X6_read Q (m + 1)) _ _ _ _ _ _ _ _
  unfold f_X6_read_55
  rw [nI_clamp (by omega), e9, e10, li 2, pk_mul]
  refine br_f (nI_ge (by omega) (by omega)) (bn_t rfl ⟨vp_in_nI (by omega) (by omega), bn_f (nI_nm4 (by omega)) ⟨vp_in_nI (by omega) (by omega), br_t rfl ⟨vp_in_nI (by omega) (by omega), R_chk (by omega) (by omega) hz (fun g => bn_f ne10 (h0 g)) (fun g => bn_t rfl (h2 g))⟩⟩⟩)
theorem R_rd2 {N' : Mem} {Q : Int32 → Mem → Prop} {m : Nat} {v1 v2 v3 v4 c v7 ft : Int32} (h : ¬ ft = 0) (hq : Q c (mU N' 0 25 ft)) : f_X6_read_125 Q (p_X6_read Q (m + 3)) v1 v2 v3 v4 c v7 ft N' := by
  refine bn_f h ?_
  show f_X6_read_55 Q (p_X6_read Q (m + 1)) _ _ _ _ _ _ _ _
  exact br_c (fun _ => hq) (fun _ => bn_f h hq)
theorem X_rd2 {M' : Mem} {Q : Int32 → Mem → Prop} {m s : Nat} {v2 v3 v4 v7 ft : Int32} (hs : s < 4) (h : ¬ ft = 0) (hq : q_X0_copyFrom 1 7 M' (fun M_20 => Q ((M' 7 2) - (M' 1 2)) (mU M_20 0 10 ft))) : (p_X5_read Q (m + 3)).2.1 v2 v3 v4 (43 + 2 * s) ft v7 M' := by
  refine ⟨sh_sh hs, ?_⟩
  show f_X5_read_52 Q (p_X5_read Q (m + 1)) _ _ _ _ _ _ _
  exact ⟨sh_sh hs, br_c (fun _ => hq) (fun _ => bn_f h hq)⟩
theorem mod2 {v7 : Nat} (h : v7 < 2 ^ 31) : nI v7 - nI v7 / (2 : Int32) * (2 : Int32) = nI (v7 % 2) := pk_rem (d := 2) h (by omega) (by omega)
set_option maxHeartbeats 1000000 in
theorem rd_loop {M N : Mem} (h : RR M N) {s ln z f0 n : Nat} (hs : s < 4) (hln : ln < 3) (hz : z ≤ 40) (hf : f0 < 40) (hn : n ≤ 20) (x1 : M (43 + 2 * s) 1 = nI ln) (x2 : M (43 + 2 * s) 2 = nI z) (y1 : N 9 s = nI ln) (y2 : N 10 s = nI z) (hc : ∀ i, i < 40 → M (44 + 2 * s) i = N 11 (40 * s + i)) : ∀ j k, j + k = n → ∀ M' N', OK (pg N' 0) → isX M' 7 (pg N' 0) → cN (pg N' 0) = cN (pg N 0) + k → fx M M' → gR N N' → rdB M N (fun Q m => (p_X5_read Q m).1 (nI ln) (nI f0) (nI n) (43 + 2 * s) 0 (nI k) M') (fun Q m => (p_X6_read Q m).1 (nI s) (nI ln) (nI f0) (nI n) 0 (nI k) (nI (2 * k)) N') := by
  intro j
  induction j with
  | zero =>
    intro k hk M' N' hO hX hcN g1 g2
    have e : k = n := by omega
    subst e
    refine rd_done h (ft := 0) hO hX hcN g1 g2 (fun Q hq => ⟨2, ?_⟩) (fun Q hq => ⟨2, ?_⟩)
    · show f_X5_read_52 Q (p_X5_read Q 1) _ _ _ _ _ _ _
      exact ⟨sh_sh hs, br_t (nI_le (by omega) (by omega)) hq⟩
    · show f_X6_read_55 Q (p_X6_read Q 1) _ _ _ _ _ _ _ _
      refine br_t ?_ hq
      rw [li 2, pk_mul]; exact nI_le (by omega) (by omega)
  | succ j ih =>
    intro k hk M' N' hO hX hcN g1 g2
    have x1' : M' (43 + 2 * s) 1 = nI ln := by rw [g1 _ (by omega) (by omega) (by omega)]; exact x1
    have x2' : M' (43 + 2 * s) 2 = nI z := by rw [g1 _ (by omega) (by omega) (by omega)]; exact x2
    have y1' : N' 9 s = nI ln := by rw [g2.1 9 (by decide)]; exact y1
    have y2' : N' 10 s = nI z := by rw [g2.1 10 (by decide)]; exact y2
    have ecell : nI f0 + (2 : Int32) * nI k = nI (f0 + 2 * k) := by rw [li 2, pk_mul, nI_add]
    have fX : ∀ (Q : Int32 → Mem → Prop) (m : Nat), (¬ f0 + 2 * k + 1 < z → (p_X5_read Q m).2.1 (nI ln) (nI f0) (nI n) (43 + 2 * s) 2 (nI k) M') → (f0 + 2 * k + 1 < z → q_X5_refusalOfCorner 7 (M' (44 + 2 * s) (f0 + 2 * k)) (M' (44 + 2 * s) (f0 + 2 * k + 1)) M' (fun r_18 M_17 => ((r_18 = 0 → q_X0_appendCorner 7 (M' (44 + 2 * s) (f0 + 2 * k)) (M' (44 + 2 * s) (f0 + 2 * k + 1)) M_17 (fun M_19 => (p_X5_read Q m).2.1 (nI ln) (nI f0) (nI n) (43 + 2 * s) 0 (nI k) M_19)) ∧ (¬ r_18 = 0 → Q ((-20 : Int32) - nI k) M_17)))) → (p_X5_read Q (m + 1)).1 (nI ln) (nI f0) (nI n) (43 + 2 * s) 0 (nI k) M' := by
      intro Q m q2 q0
      show f_X5_read_52 Q (p_X5_read Q m) _ _ _ _ _ _ _
      refine ⟨sh_sh hs, br_f (nI_ge (by omega) (by omega)) (bn_t rfl (fun x hx => ?_))⟩
      rw [ecell] at hx
      subst hx
      refine fault1 x1' x2' hz (by omega) (fun g => bn_f (by decide) (q2 g)) (fun g => bn_t rfl ⟨vp_in_nI (by omega) (by omega), fun x hx => ⟨?_, fun y hy => ?_⟩⟩)
      · rw [li 1, nI_add]; exact vp_in_nI (by omega) (by omega)
      · rw [nI_clamp (by omega)] at hx
        rw [li 1, nI_add, nI_clamp (by omega)] at hy
        subst hx hy
        rw [show 43 + 2 * s + 1 = 44 + 2 * s by omega]
        exact q0 g
    by_cases hg : f0 + 2 * k + 1 < z
    · have ex : M' (44 + 2 * s) (f0 + 2 * k) = N' 11 (40 * s + (f0 + 2 * k)) := by rw [g1 _ (by omega) (by omega) (by omega), g2.1 11 (by decide), hc _ (by omega)]
      have ey : M' (44 + 2 * s) (f0 + 2 * k + 1) = N' 11 (40 * s + (f0 + 2 * k + 1)) := by rw [g1 _ (by omega) (by omega) (by omega), g2.1 11 (by decide), hc _ (by omega)]
      rw [ex, ey] at fX
      generalize hxx : N' 11 (40 * s + (f0 + 2 * k)) = x at fX
      generalize hyy : N' 11 (40 * s + (f0 + 2 * k + 1)) = y at fX
      have fR : ∀ (Q : Int32 → Mem → Prop) (m : Nat), q_X6_adds x y N' (fun r_17 M_16 => ((0 ≤ r_17 → (p_X6_read Q (m + 1)).2.2.1 (nI s) (nI ln) (nI f0) (nI n) 0 (nI k + 1) (nI (2 * k + 1)) M_16) ∧ (¬ 0 ≤ r_17 → q_X6_copies (111 : Int32) (0 : Int32) M_16 (fun M_18 => Q ((-20 : Int32) - nI k) M_18)))) → (p_X6_read Q (m + 6)).1 (nI s) (nI ln) (nI f0) (nI n) 0 (nI k) (nI (2 * k)) N' := by
        intro Q m q
        refine R_rd1 (m := m + 4) hs y1' hln y2' hz hf hn (by omega) (fun z => by omega) (fun _ => bn_t rfl (bn_f ?_ ?_))
        · rw [mod2 (by omega), show 2 * k % 2 = 0 by omega]; decide
        · show (p_X6_read Q (m + 3)).1 _ _ _ _ _ _ _ _
          rw [nI_1]
          refine R_rd1 (m := m + 1) hs y1' hln y2' hz hf hn (by omega) (fun z => by omega) (fun _ => bn_t rfl (bn_t ?_ (fun c hc2 => ?_)))
          · rw [mod2 (by omega), show (2 * k + 1) % 2 = 1 by omega]; rfl
          · rw [li 40, pk_mul, nI_add, nI_add] at hc2
            subst hc2
            rw [nI_m _ (by omega), nI_clamp (by omega), nI_clamp (by omega), show 40 * s + f0 + (2 * k + 1) - 1 = 40 * s + (f0 + 2 * k) by omega, show 40 * s + f0 + (2 * k + 1) = 40 * s + (f0 + 2 * k + 1) by omega, hxx, hyy]
            exact ⟨vp_in_nI (by omega) (by omega), vp_in_nI (by omega) (by omega), q⟩
      have h10 := hO.1.1.2
      have e7 : M' 7 2 = nI (cN (pg N' 0)) := hX.1.trans hO.1.1.1
      have e20 : N' 1 20 = nI (cN (pg N' 0)) := hO.1.1.1
      by_cases hp : plc x y ∧ cN (pg N' 0) < 10
      · obtain ⟨hp1, hp2⟩ := hp
        have hO2 : OK (pg (mAdd N' (cN (pg N' 0)) x y) 0) := by rw [pg_mAdd]; exact OK_pCo hO hp2 (pl_of hp1.1) (pl_of hp1.2)
        have hX2 : isX (mCo M' 7 (cN (pg N' 0)) x y) 7 (pg (mAdd N' (cN (pg N' 0)) x y) 0) := by rw [pg_mAdd]; exact isX_pCo hX hp2
        obtain ⟨ans, A, B, ⟨m1, hm1⟩, ⟨m2, hm2⟩, hAB⟩ := ih (k + 1) (by omega) _ _ hO2 hX2 (by rw [pg_mAdd, cN_pCo h10, hcN]; omega) (fun a z1 z2 z3 => by unfold mCo; rw [mU_n (by omega), mU_n (by omega), mU_n (by omega), g1 a z1 z2 z3]) ⟨fun a ha => by unfold mAdd; rw [mU_n ha, mU_n ha, mU_n ha, g2.1 a ha], fun j j1 j2 => by unfold mAdd; rw [mU_at, if_neg (by omega), mU_at, if_neg (by omega), mU_at, if_neg (by omega), g2.2.1 j j1 j2], fun j hj => by unfold mAdd; rw [mU_at, if_neg (by omega), mU_at, if_neg (by omega), mU_at, if_neg (by omega), g2.2.2 j hj]⟩
        refine ⟨ans, A, B, ⟨m1 + 2, fX _ (m1 + 1) (fun z => absurd hg z) (fun _ => X_refusal e7 h10 (fun _ _ => br_t rfl (L_appendCorner e7 hp2 ⟨sh_sh hs, ?_⟩)) (fun z => absurd hp1 z) (fun _ z => by omega))⟩, ⟨m2 + 6, fR _ m2 (R_adds e20 h10 (fun _ _ => br_t (nI_le (a := 0) (by omega) (by omega)) ?_) (fun z => absurd hp1 z) (fun _ z => by omega))⟩, hAB⟩
        · rw [nI_1]; exact hm1
        · show (p_X6_read _ m2).1 _ _ _ _ _ _ _ _
          rw [nI_1, nI_1, show 2 * k + 1 + 1 = 2 * (k + 1) by omega]
          exact hm2
      · refine ⟨-20 - nI k, fun M'' => fx M M'', fun N'' => fm N N'', ⟨1, fX _ 0 (fun z => absurd hg z) (fun _ => X_refusal e7 h10 (fun a b => absurd ⟨a, b⟩ hp) (fun _ => br_f (by decide) ⟨rfl, g1⟩) (fun _ _ => br_f (by decide) ⟨rfl, g1⟩))⟩, ⟨6, fR _ 0 ?_⟩, fun M'' N'' a b => h.f a b⟩
        have back : q_X6_copies (111 : Int32) (0 : Int32) N' (fun M_18 => (fun r M' => r = -20 - nI k ∧ fm N M') ((-20 : Int32) - nI k) M_18) := by
          refine R_copies (f := 111) (t := 0) (by omega) (by omega) (by omega) ⟨rfl, fun a h0 h1 h7 => ?_, fun j hj => ?_, fun j hj => ?_⟩
          · rw [cpM_n h1, g2.1 a h1]
          · rw [cpM_n (by decide), g2.1 0 (by decide)]
          · rw [cpM_1]
            by_cases hj2 : j < 37
            · rw [if_pos (by omega), Nat.sub_zero, g2.2.2 j hj2]
            · rw [if_neg (by omega), g2.2.1 j (by omega) hj]
        exact R_adds e20 h10 (fun a b => absurd ⟨a, b⟩ hp) (fun _ => br_f (by decide) back) (fun _ _ => br_f (by decide) back)
    · refine rd_done h (ft := 2) hO hX hcN g1 g2 (fun Q hq => ⟨4, fX Q 3 (fun _ => X_rd2 (m := 0) hs (by decide) hq) (fun z => absurd z hg)⟩) (fun Q hq => ?_)
      by_cases hg1 : f0 + 2 * k < z
      · refine ⟨8, R_rd1 (m := 6) hs y1' hln y2' hz hf hn (by omega) (fun z => absurd hg1 z) (fun _ => bn_t rfl (bn_f ?_ ?_))⟩
        · rw [mod2 (by omega), show 2 * k % 2 = 0 by omega]; decide
        · show (p_X6_read Q 5).1 _ _ _ _ _ _ _ _
          rw [nI_1]
          exact R_rd1 (m := 3) hs y1' hln y2' hz hf hn (by omega) (fun z => R_rd2 (m := 0) (by decide) hq) (fun z => absurd z hg)
      · exact ⟨5, R_rd1 (m := 3) hs y1' hln y2' hz hf hn (by omega) (fun _ => R_rd2 (m := 0) (by decide) hq) (fun z => absurd z hg1)⟩
theorem fault0 {M : Mem} {o : Nat} {t v : Int32} {R : Int32 → Mem → Prop} (h : M o 2 = -1) (hR : R 1 M) : q_X1_faultAtPair o t v M R := by
  unfold q_X1_faultAtPair q_X1_faultAt
  exact S_isNothing (fun _ => br_f ne10 (br_f ne10 hR)) (fun z => absurd h z)
theorem gR_cp {N : Mem} : gR N (cpM N 0 111 37) := ⟨fun a ha => cpM_n ha, fun j j1 j2 => by rw [cpM_1, if_neg (by omega)], fun j hj => by rw [cpM_1, if_pos (by omega), show 0 + (111 + j - 111) = j by omega]⟩
set_option maxHeartbeats 1000000 in
theorem o_read {M N : Mem} (h : RR M N) (v1 v2 v3 v4 : Int32) : both (q_X5_read v1 v2 v3 v4 M) (q_X6_read v1 v2 v3 v4 N) := by
  obtain ⟨⟨hO, hX⟩, -⟩ := id h
  have sh := h.2.2.2.2.2.1
  by_cases hv1 : 0 ≤ v1 ∧ v1 ≤ 3
  · by_cases hv2 : 0 ≤ v2 ∧ v2 ≤ 2
    · by_cases hv4 : 0 ≤ v4 ∧ v4 ≤ 20
      · have hv1' := hv1
        have hv2' := hv2
        have hv4' := hv4
        obtain ⟨s, hs, rfl⟩ := v4_in.mp hv1'
        obtain ⟨l, hl, rfl⟩ := v3_in.mp hv2'
        obtain ⟨n, hn, rfl⟩ := v1_in (n := 20) (by omega) hv4'
        obtain ⟨M', g1, g2, g3⟩ := L_trial hX hO.1
        have fX : ∀ (Q : Int32 → Mem → Prop) (k : Nat), (p_X5_read Q k).1 (nI l) v3 (nI n) (43 + 2 * s) 0 0 M' → q_X5_read (nI s) (nI l) v3 (nI n) M Q := fun Q k q => ⟨k, X_isSheet (fun _ => br_f ne10 (X_isLane (fun _ => br_f ne10 (X_within (fun _ => bn_f ne10 ⟨vp_in_nI (by omega) (by omega), by rw [nI_clamp (by omega)]; exact sh_sh hs, by rw [nI_clamp (by omega)]; exact g3 _ q⟩) (fun z => absurd hv4 z))) (fun z => absurd hv2 z))) (fun z => absurd hv1 z)⟩
        have fR : ∀ (Q : Int32 → Mem → Prop) (k : Nat), (p_X6_read Q k).1 (nI s) (nI l) v3 (nI n) 0 0 0 (cpM N 0 111 37) → q_X6_read (nI s) (nI l) v3 (nI n) N Q := fun Q k q => ⟨k, R_inI (lo := 0) (hi := 3) rfl rfl (fun _ => br_f ne10 (R_inI (lo := 0) (hi := 2) rfl rfl (fun _ => br_f ne10 (R_inI (lo := 0) (hi := 20) rfl rfl (fun _ => bn_f ne10 (R_copies (f := 0) (t := 111) (by omega) (by omega) (by omega) q)) (fun z => absurd hv4 z))) (fun z => absurd hv2 z))) (fun z => absurd hv1 z)⟩
        have ep : ∀ j, j < 37 → pg (cpM N 0 111 37) 0 j = pg N 0 j := fun j hj => by
          show cpM N 0 111 37 1 (0 + j) = N 1 (0 + j)
          rw [cpM_1, if_neg (by omega)]
        have hO' : OK (pg (cpM N 0 111 37) 0) := OK_pg hO ep
        have hX' : isX M' 7 (pg (cpM N 0 111 37) 0) := isX_pg g2 hO.1.2.1.2 hO.1.1.2 ep
        have ec : cN (pg (cpM N 0 111 37) 0) = cN (pg N 0) + 0 := cN_congr (ep 20 (by omega))
        have fin : rdB M N (fun Q m => (p_X5_read Q m).1 (nI l) v3 (nI n) (43 + 2 * s) 0 (nI 0) M') (fun Q m => (p_X6_read Q m).1 (nI s) (nI l) v3 (nI n) 0 (nI 0) (nI (2 * 0)) (cpM N 0 111 37)) := by
          by_cases hn0 : n = 0
          · subst hn0
            refine rd_done h (ft := 0) hO' hX' ec g1 gR_cp (fun Q hq => ⟨2, ?_⟩) (fun Q hq => ⟨2, ?_⟩)
            · show f_X5_read_52 Q (p_X5_read Q 1) _ _ _ _ _ _ _
              exact ⟨sh_sh hs, br_t (nI_le (by omega) (by omega)) hq⟩
            · show f_X6_read_55 Q (p_X6_read Q 1) _ _ _ _ _ _ _ _
              exact br_t (by decide) hq
          have gX : ∀ (Q : Int32 → Mem → Prop) (ft : Int32), ¬ ft = 0 → (∀ R : Int32 → Mem → Prop, R ft M' → q_X1_faultAtPair (43 + 2 * s) (nI l) (v3 + 2 * nI 0) M' R) → q_X0_copyFrom 1 7 M' (fun M_20 => Q ((M' 7 2) - (M' 1 2)) (mU M_20 0 10 ft)) → ∃ m, (p_X5_read Q m).1 (nI l) v3 (nI n) (43 + 2 * s) 0 (nI 0) M' := by
            intro Q ft hf hr hq
            refine ⟨4, ?_⟩
            show f_X5_read_52 Q (p_X5_read Q 3) _ _ _ _ _ _ _
            refine ⟨sh_sh hs, br_f (nI_ge (by omega) (by omega)) (bn_t rfl (fun x hx => ?_))⟩
            subst hx
            exact hr _ (bn_f hf (X_rd2 (m := 0) hs hf hq))
          have e9' : ∀ a, a ≠ 1 → cpM N 0 111 37 a = N a := fun a ha => cpM_n ha
          rcases sh s hs with ⟨q1, q2⟩ | ⟨ln, z, r1, r2, r3, r4, r5, r6, r7⟩
          · refine rd_done h (ft := 1) hO' hX' ec g1 gR_cp (fun Q hq => gX Q 1 (by decide) (fun R hR => fault0 (by rw [g1 _ (by omega) (by omega) (by omega)]; exact q1) hR) hq) (fun Q hq => ⟨5, ?_⟩)
            show f_X6_read_55 Q (p_X6_read Q 4) _ _ _ _ _ _ _ _
            unfold f_X6_read_55
            rw [nI_clamp (show s < 2 ^ 31 by omega), e9' 9 (by decide), q2, li 2, pk_mul]
            exact br_f (nI_ge (by omega) (by omega)) (bn_t rfl ⟨vp_in_nI (by omega) (by omega), bn_t rfl (R_rd2 (m := 0) (by decide) hq)⟩)
          · have x1 : M' (43 + 2 * s) 1 = nI ln := by rw [g1 _ (by omega) (by omega) (by omega)]; exact r3
            have x2 : M' (43 + 2 * s) 2 = nI z := by rw [g1 _ (by omega) (by omega) (by omega)]; exact r5
            by_cases hll : l = ln
            · subst hll
              by_cases hf : ∃ f0, f0 < 40 ∧ v3 = nI f0
              · obtain ⟨f0, hf0, rfl⟩ := hf
                exact rd_loop h hs hl r2 hf0 hn r3 r5 r4 r6 r7 n 0 (by omega) M' _ hO' hX' ec g1 gR_cp
              · have hz : ¬ ∃ i, i < z ∧ v3 = nI i := fun ⟨i, i1, i2⟩ => hf ⟨i, by omega, i2⟩
                have e0 : v3 + 2 * nI 0 = v3 := by show v3 + 2 * 0 = v3; grind
                refine rd_done h (ft := 2) hO' hX' ec g1 gR_cp (fun Q hq => gX Q 2 (by decide) (fun R hR => ?_) hq) (fun Q hq => ⟨5, ?_⟩)
                · rw [e0]
                  exact S_faultAt x1 x2 r2 (fun q => absurd rfl q) (fun _ _ => br_f (by decide) hR) (fun _ q => absurd q hz)
                · show f_X6_read_55 Q (p_X6_read Q 4) _ _ _ _ _ _ _ _
                  unfold f_X6_read_55
                  rw [nI_clamp (show s < 2 ^ 31 by omega), e9' 9 (by decide), r4, e9' 10 (by decide), r6, li 2, pk_mul]
                  refine br_f (nI_ge (by omega) (by omega)) (bn_t rfl ⟨vp_in_nI (by omega) (by omega), bn_f (nI_nm4 (by omega)) ⟨vp_in_nI (by omega) (by omega), br_t rfl ⟨vp_in_nI (by omega) (by omega), ?_⟩⟩⟩)
                  have e1 : v3.toInt64 + (nI (2 * 0)).toInt64 = v3.toInt64 := by show v3.toInt64 + 0 = v3.toInt64; simp
                  rw [e1]
                  exact R_inI (lo := 0) (hi := nI z - 1) rfl rfl (fun q => absurd ((in_nI (by omega)).mp q) hz) (fun _ => bn_t rfl (R_rd2 (m := 0) (by decide) hq))
            · have hne : ¬ nI l = nI ln := fun q => hll ((nI_eq (by omega) (by omega)).mp q)
              refine rd_done h (ft := 3) hO' hX' ec g1 gR_cp (fun Q hq => gX Q 3 (by decide) (fun R hR => S_faultAt x1 x2 r2 (fun _ => br_f (by decide) hR) (fun q => absurd q hne) (fun q => absurd q hne)) hq) (fun Q hq => ⟨5, ?_⟩)
              show f_X6_read_55 Q (p_X6_read Q 4) _ _ _ _ _ _ _ _
              unfold f_X6_read_55
              rw [nI_clamp (show s < 2 ^ 31 by omega), e9' 9 (by decide), r4, li 2, pk_mul]
              exact br_f (nI_ge (by omega) (by omega)) (bn_t rfl ⟨vp_in_nI (by omega) (by omega), bn_f (nI_nm4 (by omega)) ⟨vp_in_nI (by omega) (by omega), br_f (fun q => hne q.symm) (R_rd2 (m := 0) (by decide) hq)⟩⟩)
        obtain ⟨ans, A, B, ⟨m1, h1⟩, ⟨m2, h2⟩, hAB⟩ := fin
        exact ⟨ans, A, B, fX _ m1 h1, fR _ m2 h2, hAB⟩
      · exact both.no h (-1) (fun Q q => ⟨0, X_isSheet (fun _ => br_f ne10 (X_isLane (fun _ => br_f ne10 (X_within (fun z => absurd z hv4) (fun _ => bn_t rfl q))) (fun z => absurd hv2 z))) (fun z => absurd hv1 z)⟩) (fun Q q => ⟨0, R_inI (lo := 0) (hi := 3) rfl rfl (fun _ => br_f ne10 (R_inI (lo := 0) (hi := 2) rfl rfl (fun _ => br_f ne10 (R_inI (lo := 0) (hi := 20) rfl rfl (fun z => absurd z hv4) (fun _ => bn_t rfl q))) (fun z => absurd hv2 z))) (fun z => absurd hv1 z)⟩)
    · exact both.no h (-1) (fun Q q => ⟨0, X_isSheet (fun _ => br_f ne10 (X_isLane (fun z => absurd z hv2) (fun _ => br_t rfl q))) (fun z => absurd hv1 z)⟩) (fun Q q => ⟨0, R_inI (lo := 0) (hi := 3) rfl rfl (fun _ => br_f ne10 (R_inI (lo := 0) (hi := 2) rfl rfl (fun z => absurd z hv2) (fun _ => br_t rfl q))) (fun z => absurd hv1 z)⟩)
  · exact both.no h (-1) (fun Q q => ⟨0, X_isSheet (fun z => absurd z hv1) (fun _ => br_t rfl q)⟩) (fun Q q => ⟨0, R_inI (lo := 0) (hi := 3) rfl rfl (fun z => absurd z hv1) (fun _ => br_t rfl q)⟩)
