/-! bounds: sweeps and rolls -/
theorem b_bmod {z : Int} (h1 : -2147483648 ≤ z) (h2 : z < 2147483648) : z.bmod (2 ^ 32) = z := by
  rw [Int.bmod_eq_of_le (by omega) (by omega)]
theorem b_add {x y : Int32} (h1 : -2147483648 ≤ x.toInt + y.toInt) (h2 : x.toInt + y.toInt < 2147483648) : (x + y).toInt = x.toInt + y.toInt := by
  rw [Int32.toInt_add, b_bmod h1 h2]
theorem b_sub {x y : Int32} (h1 : -2147483648 ≤ x.toInt - y.toInt) (h2 : x.toInt - y.toInt < 2147483648) : (x - y).toInt = x.toInt - y.toInt := by
  rw [Int32.toInt_sub, b_bmod h1 h2]
theorem b_mul {x y : Int32} (h1 : -2147483648 ≤ x.toInt * y.toInt) (h2 : x.toInt * y.toInt < 2147483648) : (x * y).toInt = x.toInt * y.toInt := by
  rw [Int32.toInt_mul, b_bmod h1 h2]
theorem b_400 {a b : Int} (h1 : -20 ≤ a) (h2 : a ≤ 20) (h3 : -20 ≤ b) (h4 : b ≤ 20) : -400 ≤ a * b ∧ a * b ≤ 400 := by
  have p1 := Int.mul_nonneg (show 0 ≤ 20 - a by omega) (show 0 ≤ 20 + b by omega)
  have p2 := Int.mul_nonneg (show 0 ≤ 20 + a by omega) (show 0 ≤ 20 - b by omega)
  have p3 := Int.mul_nonneg (show 0 ≤ 20 - a by omega) (show 0 ≤ 20 - b by omega)
  have p4 := Int.mul_nonneg (show 0 ≤ 20 + a by omega) (show 0 ≤ 20 + b by omega)
  rw [Int.sub_mul, Int.mul_add, Int.mul_add] at p1
  rw [Int.add_mul, Int.mul_sub, Int.mul_sub] at p2
  rw [Int.sub_mul, Int.mul_sub, Int.mul_sub] at p3
  rw [Int.add_mul, Int.mul_add, Int.mul_add] at p4
  constructor <;> omega
theorem swp_bd {P : Pg} {i k : Nat} (h1 : pl (P i)) (h2 : pl (P (10 + i))) (h3 : pl (P k)) (h4 : pl (P (10 + k))) (h5 : pl (P 21)) (h6 : pl (P 22)) : -800 ≤ (swp P i k).toInt ∧ (swp P i k).toInt ≤ 800 := by
  unfold pl at h1 h2 h3 h4 h5 h6
  unfold swp
  have e1 : (P i - P 21).toInt = (P i).toInt - (P 21).toInt := b_sub (by omega) (by omega)
  have e2 : (P (10 + k) - P 22).toInt = (P (10 + k)).toInt - (P 22).toInt := b_sub (by omega) (by omega)
  have e3 : (P k - P 21).toInt = (P k).toInt - (P 21).toInt := b_sub (by omega) (by omega)
  have e4 : (P (10 + i) - P 22).toInt = (P (10 + i)).toInt - (P 22).toInt := b_sub (by omega) (by omega)
  have m1 := b_400 (a := (P i - P 21).toInt) (b := (P (10 + k) - P 22).toInt) (by omega) (by omega) (by omega) (by omega)
  have m2 := b_400 (a := (P k - P 21).toInt) (b := (P (10 + i) - P 22).toInt) (by omega) (by omega) (by omega) (by omega)
  have e5 : ((P i - P 21) * (P (10 + k) - P 22)).toInt = (P i - P 21).toInt * (P (10 + k) - P 22).toInt := b_mul (by omega) (by omega)
  have e6 : ((P k - P 21) * (P (10 + i) - P 22)).toInt = (P k - P 21).toInt * (P (10 + i) - P 22).toInt := b_mul (by omega) (by omega)
  rw [b_sub (by omega) (by omega), e5, e6]
  constructor <;> omega
theorem sw_bd {P : Pg} {i : Nat} (hO : OK0 P) (hi : i < cN P) : -800 ≤ (sw P i).toInt ∧ (sw P i).toInt ≤ 800 := by
  have hb : bh (cN P) i < cN P := bh_lt (by omega)
  obtain ⟨-, -, -, ⟨d1, d2⟩, f, -⟩ := hO
  exact swp_bd (f i hi).1 (f i hi).2 (f _ hb).1 (f _ hb).2 d1 d2
theorem sa_bd {P : Pg} (hO : OK0 P) (n : Nat) : -800 ≤ (sa P n).toInt ∧ (sa P n).toInt ≤ 800 := by
  unfold sa
  by_cases h : cN P = 0
  · rw [if_pos h]; decide
  · rw [if_neg h]; exact sw_bd hO (Nat.mod_lt _ (by omega))
theorem td_bd {x s : Int} (hs : 1 ≤ s) : (0 ≤ x → 0 ≤ x.tdiv s * s ∧ x.tdiv s * s ≤ x) ∧ (x ≤ 0 → x ≤ x.tdiv s * s ∧ x.tdiv s * s ≤ 0) := by
  have key : ∀ y : Int, 0 ≤ y → 0 ≤ y.tdiv s * s ∧ y.tdiv s * s ≤ y := by
    intro y hy
    rw [Int.tdiv_eq_ediv_of_nonneg hy]
    exact ⟨Int.mul_nonneg (Int.ediv_nonneg hy (by omega)) (by omega), Int.ediv_mul_le y (by omega)⟩
  refine ⟨key x, fun hx => ?_⟩
  have h := key (-x) (by omega)
  rw [Int.neg_tdiv, Int.neg_mul] at h
  omega
theorem td_lt {x s : Int} (hs : 1 ≤ s) : (0 ≤ x → 0 ≤ x.tdiv s ∧ x.tdiv s ≤ x) ∧ (x ≤ 0 → x ≤ x.tdiv s ∧ x.tdiv s ≤ 0) := by
  have key : ∀ y : Int, 0 ≤ y → 0 ≤ y.tdiv s ∧ y.tdiv s ≤ y := by
    intro y hy
    rw [Int.tdiv_eq_ediv_of_nonneg hy]
    exact ⟨Int.ediv_nonneg hy (by omega), Int.ediv_le_self s hy⟩
  refine ⟨key x, fun hx => ?_⟩
  have h := key (-x) (by omega)
  rw [Int.neg_tdiv] at h
  omega
theorem rl_bd {k s x : Int32} (hs : sp s) (B : Int) (hB : B ≤ 100000000) (h1 : -B ≤ x.toInt) (h2 : x.toInt ≤ B) : -B ≤ (rl k s x).toInt ∧ (rl k s x).toInt ≤ B := by
  have z : (0 : Int32).toInt = 0 := by decide
  have hs1 := hs.1
  have hs2 := hs.2
  have t := td_bd (x := x.toInt) hs1
  have t2 := td_lt (x := x.toInt) hs1
  have u1 : -B ≤ x.toInt.tdiv s.toInt ∧ x.toInt.tdiv s.toInt ≤ B := by
    rcases Int.le_total 0 x.toInt with q | q
    · have := t2.1 q; omega
    · have := t2.2 q; omega
  have u2 : -B ≤ x.toInt.tdiv s.toInt * s.toInt ∧ x.toInt.tdiv s.toInt * s.toInt ≤ B := by
    rcases Int.le_total 0 x.toInt with q | q
    · have := t.1 q; omega
    · have := t.2 q; omega
  unfold rl
  split
  · have e1 : (x / s).toInt = x.toInt.tdiv s.toInt := by
      rw [Int32.toInt_div]
      exact b_bmod (by omega) (by omega)
    have e2 : (x / s * s).toInt = x.toInt.tdiv s.toInt * s.toInt := by
      rw [b_mul (by rw [e1]; omega) (by rw [e1]; omega), e1]
    rw [e2]
    exact u2
  · split
    · split
      · exact ⟨h1, h2⟩
      · rw [z]; omega
    · split
      · split
        · exact ⟨h1, h2⟩
        · rw [z]; omega
      · exact ⟨h1, h2⟩
/-! rolling -/
theorem L_rollOf2 {M : Mem} {o w : Nat} {k s x : Int32} {Q : Int32 → Mem → Prop} (hw : w < 4) (h3 : M (o + 3) w = k) (h4 : M (o + 4) w = s) (hs : sp s) (hq : Q (rl k s x) M) : q_X0_rollOf o (nI w) x M Q := by
  have v : vp_in (nI w) 4 := vp_in_nI (by omega) (by omega)
  refine ⟨v, v, ?_⟩
  rw [nI_clamp (by omega), h3, h4]
  exact L_roll hs hq
def rpg (P : Pg) (x : Int32) : Pg := fun j => if 31 ≤ j ∧ j < 31 + wN P then P j + rw' P (j - 31) x else P j
theorem rpg_n {P : Pg} {x : Int32} {j : Nat} (h : j < 31 ∨ 31 + wN P ≤ j) : rpg P x j = P j := if_neg (by omega)
theorem rpg_y {P : Pg} {x : Int32} {w : Nat} (h : w < wN P) : rpg P x (31 + w) = P (31 + w) + rw' P w x := by
  unfold rpg
  rw [if_pos (by omega), show 31 + w - 31 = w by omega]
theorem wN_rpg {P : Pg} {x : Int32} (h : wN P ≤ 4) : wN (rpg P x) = wN P := wN_congr (rpg_n (by omega))
theorem cN_rpg {P : Pg} {x : Int32} : cN (rpg P x) = cN P := cN_congr (rpg_n (by omega))
theorem OK0_lv {P P' : Pg} (hO : OK0 P) (he : ∀ j, j < 31 ∨ j = 35 ∨ j = 36 → P' j = P j) : OK0 P' := by
  have ec : cN P' = cN P := cN_congr (he 20 (by omega))
  have ew : wN P' = wN P := wN_congr (he 35 (by omega))
  have et : tN P' = tN P := by unfold tN; rw [he 36 (by omega)]
  obtain ⟨⟨a1, a2⟩, ⟨b1, b2⟩, ⟨c1, c2⟩, ⟨d1, d2⟩, f, g⟩ := hO
  refine ⟨⟨?_, ?_⟩, ⟨?_, ?_⟩, ⟨?_, ?_⟩, ⟨?_, ?_⟩, fun i hi => ?_, fun i hi => ?_⟩
  · rw [ec, he 20 (by omega)]; exact a1
  · rw [ec]; exact a2
  · rw [ew, he 35 (by omega)]; exact b1
  · rw [ew]; exact b2
  · rw [et, he 36 (by omega)]; exact c1
  · rw [et]; exact c2
  · rw [he 21 (by omega)]; exact d1
  · rw [he 22 (by omega)]; exact d2
  · rw [ec] at hi; rw [he i (by omega), he (10 + i) (by omega)]; exact f i hi
  · rw [ew] at hi; rw [he (23 + i) (by omega), he (27 + i) (by omega)]; exact g i hi
theorem OK0_rpg {P : Pg} {x : Int32} (hO : OK0 P) : OK0 (rpg P x) := OK0_lv hO (fun j hj => rpg_n (by have := hO.2.1.2; omega))
set_option maxHeartbeats 1000000 in
theorem L_rollAll {M : Mem} {o : Nat} {P : Pg} {x : Int32} {Q : Int32 → Mem → Prop} (hX : isX M o P) (hO : OK0 P) (hq : ∀ M', (∀ a, a ≠ o + 5 → M' a = M a) → isX M' o (rpg P x) → Q (rba P x) M') : q_X0_rollAll o x M Q := by
  have h4 := hO.2.1.2
  have h10 := hO.1.2
  have e6 : M o 6 = nI (wN P) := hX.2.1.trans hO.2.1.1
  have key : ∀ j k, j + k = wN P → ∀ M', (∀ a, a ≠ o + 5 → M' a = M a) → (∀ i, i < wN P → M' (o + 5) i = if i < k then P (31 + i) + rw' P i x else P (31 + i)) → p_X0_rollAll o Q (j + 1) x (nI k) M' := by
    intro j
    induction j with
    | zero =>
      intro k hk M' h1 h2
      show f_X0_rollAll_2 o Q (p_X0_rollAll o Q 0) _ _ _
      unfold f_X0_rollAll_2
      rw [h1 o (by omega), e6]
      refine br_t (nI_le (by omega) (by omega)) ?_
      have hX2 : isX M' o (rpg P x) := by
        obtain ⟨a, b, c, d, e, f, g⟩ := hX
        refine ⟨?_, ?_, ?_, ?_, ?_, fun i hi => ?_, fun i hi => ?_⟩
        · rw [h1 o (by omega), rpg_n (by omega)]; exact a
        · rw [h1 o (by omega), rpg_n (by omega)]; exact b
        · rw [h1 o (by omega), rpg_n (by omega)]; exact c
        · rw [h1 o (by omega), rpg_n (by omega)]; exact d
        · rw [h1 o (by omega), rpg_n (by omega)]; exact e
        · rw [cN_rpg] at hi
          rw [h1 (o + 1) (by omega), h1 (o + 2) (by omega), rpg_n (by omega), rpg_n (by omega)]; exact f i hi
        · rw [wN_rpg h4] at hi
          rw [h1 (o + 3) (by omega), h1 (o + 4) (by omega), rpg_n (by omega), rpg_n (by omega), rpg_y hi, h2 i hi, if_pos (by omega)]
          exact ⟨(g i hi).1, (g i hi).2.1, rfl⟩
      refine L_rolledByAll hX2 (OK0_rpg hO) ?_
      have er : rba (rpg P x) x = rba P x := rba_congr (fun j hj => rpg_n (by omega)) (rpg_n (by omega)) (by rw [wN_rpg h4]; exact h4) x
      rw [er]
      exact hq M' h1 hX2
    | succ j ih =>
      intro k hk M' h1 h2
      have v : vp_in (nI k) 4 := vp_in_nI (by omega) (by omega)
      obtain ⟨g1, g2, g3⟩ := hX.2.2.2.2.2.2 k (by omega)
      show f_X0_rollAll_2 o Q (p_X0_rollAll o Q (j + 1)) _ _ _
      unfold f_X0_rollAll_2
      rw [h1 o (by omega), e6]
      refine br_f (nI_ge (by omega) (by omega)) ⟨v, L_rollOf2 (k := P (23 + k)) (s := P (27 + k)) (by omega) (by rw [h1 (o + 3) (by omega)]; exact g1) (by rw [h1 (o + 4) (by omega)]; exact g2) (hO.2.2.2.2.2 k (by omega)).2 ⟨v, ?_⟩⟩
      rw [nI_1, nI_clamp (by omega), h2 k (by omega), if_neg (by omega)]
      refine ih (k + 1) (by omega) _ (fun a ha => by rw [mU_n ha]; exact h1 a ha) (fun i hi => ?_)
      rw [mU_at]
      by_cases q : i = k
      · subst q
        rw [if_pos ⟨rfl, rfl⟩, if_pos (by omega)]
        rfl
      · rw [if_neg (fun z => q z.2), h2 i hi]
        by_cases q2 : i < k
        · rw [if_pos q2, if_pos (by omega)]
        · rw [if_neg q2, if_neg (by omega)]
  refine ⟨wN P + 1, key (wN P) 0 (by omega) M (fun _ _ => rfl) (fun i hi => ?_)⟩
  rw [if_neg (by omega)]
  exact (hX.2.2.2.2.2.2 i hi).2.2
/-- the page behind n edges -/
def trP (P : Pg) (n : Nat) : Pg := fun j => if 31 ≤ j ∧ j < 31 + wN P then ra P (j - 31) n else if j = 36 then nI (tN P + n) else P j
theorem trP_n {P : Pg} {n j : Nat} (h : j < 31 ∨ 31 + wN P ≤ j) (h2 : j ≠ 36) : trP P n j = P j := by
  unfold trP
  rw [if_neg (by omega), if_neg h2]
theorem trP_y {P : Pg} {n w : Nat} (h : w < wN P) : trP P n (31 + w) = ra P w n := by
  unfold trP
  rw [if_pos (by omega), show 31 + w - 31 = w by omega]
theorem trP_t {P : Pg} {n : Nat} (h : wN P ≤ 4) : trP P n 36 = nI (tN P + n) := by
  unfold trP
  rw [if_neg (by omega), if_pos rfl]
theorem tN_trP {P : Pg} {n : Nat} (h : wN P ≤ 4) (ht : tN P + n < 2 ^ 31) : tN (trP P n) = tN P + n := by
  show (trP P n 36).toNatClampNeg = _
  rw [trP_t h, nI_clamp ht]
theorem OK0_trP {P : Pg} {n : Nat} (hO : OK0 P) (hn : tN P + n ≤ 20000) : OK0 (trP P n) := by
  obtain ⟨⟨a1, a2⟩, ⟨b1, b2⟩, ⟨c1, c2⟩, ⟨d1, d2⟩, f, g⟩ := hO
  have ec : cN (trP P n) = cN P := cN_congr (trP_n (by omega) (by omega))
  have ew : wN (trP P n) = wN P := wN_congr (trP_n (by omega) (by omega))
  have et : tN (trP P n) = tN P + n := tN_trP b2 (by omega)
  refine ⟨⟨?_, ?_⟩, ⟨?_, ?_⟩, ⟨?_, ?_⟩, ⟨?_, ?_⟩, fun i hi => ?_, fun i hi => ?_⟩
  · rw [ec, trP_n (by omega) (by omega)]; exact a1
  · rw [ec]; exact a2
  · rw [ew, trP_n (by omega) (by omega)]; exact b1
  · rw [ew]; exact b2
  · rw [et, trP_t b2]
  · rw [et]; exact hn
  · rw [trP_n (by omega) (by omega)]; exact d1
  · rw [trP_n (by omega) (by omega)]; exact d2
  · rw [ec] at hi; rw [trP_n (by omega) (by omega), trP_n (by omega) (by omega)]; exact f i hi
  · rw [ew] at hi; rw [trP_n (by omega) (by omega), trP_n (by omega) (by omega)]; exact g i hi
theorem sa_trP {P : Pg} {n : Nat} (hO : OK0 P) (hn : tN P + n ≤ 20000) : sa (trP P n) 0 = sa P n := by
  have h4 := hO.2.1.2
  have h10 := hO.1.2
  have ec : cN (trP P n) = cN P := cN_congr (trP_n (by omega) (by omega))
  unfold sa
  rw [ec, tN_trP h4 (by omega), Nat.add_zero]
  by_cases h : cN P = 0
  · rw [if_pos h, if_pos h]
  · rw [if_neg h, if_neg h]
    exact sw_congr (fun j hj => trP_n (by omega) (by omega)) (by rw [ec]; exact h10) (by rw [ec]; exact Nat.mod_lt _ (by omega))
theorem trP_0 {P : Pg} (hO : OK0 P) : trP P 0 = P := by
  funext j
  unfold trP
  by_cases h : 31 ≤ j ∧ j < 31 + wN P
  · rw [if_pos h]
    show P (31 + (j - 31)) = P j
    rw [show 31 + (j - 31) = j by omega]
  · rw [if_neg h]
    by_cases h2 : j = 36
    · rw [if_pos h2, h2, Nat.add_zero]; exact hO.2.2.1.1.symm
    · rw [if_neg h2]
theorem trP_s {P : Pg} {n : Nat} (hO : OK0 P) : upd (rpg (trP P n) (sa P n)) 36 (nI (tN P + n + 1)) = trP P (n + 1) := by
  have h4 := hO.2.1.2
  have ew : wN (trP P n) = wN P := wN_congr (trP_n (by omega) (by omega))
  funext j
  rw [up_at]
  by_cases h2 : j = 36
  · rw [if_pos h2, h2, trP_t h4]; rfl
  · rw [if_neg h2]
    by_cases h : 31 ≤ j ∧ j < 31 + wN P
    · obtain ⟨w, hw⟩ : ∃ w, j = 31 + w := ⟨j - 31, by omega⟩
      subst hw
      rw [rpg_y (by rw [ew]; omega), trP_y (by omega), trP_y (by omega), rw_congr (trP_n (by omega) (by omega)) (trP_n (by omega) (by omega))]
      rfl
    · rw [rpg_n (by rw [ew]; omega), trP_n (by omega) h2, trP_n (by omega) h2]
theorem isX_trc {M : Mem} {o : Nat} {P : Pg} (h : isX M o P) (h4 : wN P ≤ 4) (h10 : cN P ≤ 10) (v : Int32) : isX (mU M o 9 v) o (upd P 36 v) := by
  obtain ⟨a, b, c, d, e, f, g⟩ := h
  have ec : cN (upd P 36 v) = cN P := rfl
  have ew : wN (upd P 36 v) = wN P := rfl
  refine ⟨?_, ?_, ?_, ?_, ?_, fun k hk => ?_, fun k hk => ?_⟩
  · rw [mU_at, if_neg (by omega), up_n (by omega)]; exact a
  · rw [mU_at, if_neg (by omega), up_n (by omega)]; exact b
  · rw [mU_at, if_neg (by omega), up_n (by omega)]; exact c
  · rw [mU_at, if_neg (by omega), up_n (by omega)]; exact d
  · rw [mU_at, if_pos ⟨rfl, rfl⟩, up_s]
  · rw [ec] at hk
    rw [mU_n (by omega), mU_n (by omega), up_n (by omega), up_n (by omega)]
    exact f k hk
  · rw [ew] at hk
    rw [mU_n (by omega), mU_n (by omega), mU_n (by omega), up_n (by omega), up_n (by omega), up_n (by omega)]
    exact g k hk
