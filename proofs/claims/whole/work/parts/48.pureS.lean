theorem p2_le {n : Nat} (hn : n ≤ 8) : 2 ^ n ≤ 256 := Nat.pow_le_pow_right (n := 2) (by omega) hn
theorem p10_le {n : Nat} (hn : n ≤ 8) : 10 ^ n ≤ 100000000 := Nat.pow_le_pow_right (n := 10) (by omega) hn
theorem sh2 {n : Nat} (hn : n ≤ 8) : (1 : Int32) <<< (nI n &&& 31) = nI (2 ^ n) := (sh1v ⟨n, by omega⟩).1
def fr (v : Int32) (U n : Nat) : Int64 := (if v = 0 then lN U else lN (10 ^ n)) / lN (Nat.gcd U (10 ^ n))
theorem R_by {N : Mem} {TN : Int32 → Nat} {o w n : Nat} {v3 v5 : Int32} {Q : Int64 → Mem → Prop} (hO : OK0 (pg N 0)) (ho : o ≤ 10) (hw : w < wN (pg N 0)) (hn : n ≤ 8) (hT : ∀ s, (TI v3 (raM (pg N 0) (fun e => Nat.testBit s e) w n)).toInt64 = lN (TN (raM (pg N 0) (fun e => Nat.testBit s e) w n))) (hU : suN (tR TN (pg N 0) o w n) (2 ^ n) < 2 ^ 63) (hq : ∀ N', fm N N' → Q (fr v5 (suN (tR TN (pg N 0) o w n) (2 ^ n)) n) N') : q_X6_byMisses (nI o) (nI w) v3 (nI n) v5 N Q := by
  have h2 := p2_le hn
  have h10 := p10_le hn
  have h0 : 0 < 10 ^ n := Nat.pow_pos (by omega)
  have ph2 : ∀ j s, j + s = 2 ^ n → ∃ m, ∀ N', fm N N' → (p_X6_byMisses Q m).2.1 (nI o) (nI w) v3 (nI n) v5 (lN (suN (tR TN (pg N 0) o w n) s)) (lN (10 ^ n)) (nI s) N' := by
    intro j
    induction j with
    | zero =>
      intro s hs
      have e : s = 2 ^ n := by omega
      subst e
      refine ⟨1, fun N' hN => ?_⟩
      show f_X6_byMisses_33 Q (p_X6_byMisses Q 0) _ _ _ _ _ _ _ _ _
      unfold f_X6_byMisses_33
      rw [sh2 hn]
      exact br_t (nI_le (by omega) (by omega)) (R_lowest hU (by omega) h0 (hq N' hN))
    | succ j ih =>
      intro s hs
      obtain ⟨m, hm⟩ := ih (s + 1) (by omega)
      refine ⟨m + 2 + 3 * n + 1, fun N' hN => ?_⟩
      have ep : ∀ j, j < 37 → pg N' 0 j = pg N 0 j := fun j hj => hN.2.2 (0 + j) (by omega)
      have hO1 : OK0 (pg N' 0) := OK0_pg hO ep
      show f_X6_byMisses_33 Q (p_X6_byMisses Q (m + 2 + 3 * n)) _ _ _ _ _ _ _ _ _
      unfold f_X6_byMisses_33
      rw [sh2 hn]
      refine br_f (nI_ge (by omega) (by omega)) (R_go0 (R_row hO hN ho hw hn (show s < 1024 by omega) (fun N2 h2' => ?_) n 0 (by omega) _ (tried_0 hO1.2.1.2 hO1.2.2.1.1)))
      rw [hT, lN_mul, lN_add, nI_1]
      exact hm N2 h2'
  obtain ⟨m, hm⟩ := ph2 (2 ^ n) 0 (by omega)
  have ph1 : ∀ j k, j + k = n → (p_X6_byMisses Q (m + 1 + j)).1 (nI o) (nI w) v3 (nI n) v5 0 (lN (10 ^ k)) (nI k) N := by
    intro j
    induction j with
    | zero =>
      intro k hk
      have e : k = n := by omega
      subst e
      show f_X6_byMisses_9 Q (p_X6_byMisses Q m) _ _ _ _ _ _ _ _ _
      exact br_t (nI_le (by omega) (by omega)) (hm N fm.rf)
    | succ j ih =>
      intro k hk
      show f_X6_byMisses_9 Q (p_X6_byMisses Q (m + 1 + j)) _ _ _ _ _ _ _ _ _
      refine br_f (nI_ge (by omega) (by omega)) ?_
      have e : lN (10 ^ k) * 10 = lN (10 ^ (k + 1)) := by
        rw [Nat.pow_succ]; exact lN_mul (10 ^ k) 10
      rw [e, nI_1]
      exact ih (k + 1) (by omega)
  exact ⟨m + 1 + n, ph1 n 0 (by omega)⟩
theorem X_isMissing {M : Mem} {P : Pg} {v1 v2 v3 : Int32} {Q : Int32 → Mem → Prop} (hX : isX M 1 P) (hO : OK0 P) (h1 : ((0 ≤ v1 ∧ v1 ≤ 10) ∧ (∃ w, w < wN P ∧ v2 = nI w) ∧ 0 ≤ v3 ∧ v3 ≤ 8) → Q 1 M) (h0 : ¬ ((0 ≤ v1 ∧ v1 ≤ 10) ∧ (∃ w, w < wN P ∧ v2 = nI w) ∧ 0 ≤ v3 ∧ v3 ≤ 8) → Q 0 M) : q_X5_isMissing v1 v2 v3 M Q :=
  X_within (fun a => br_f ne10 (X_hasWheel hX hO (fun w hw e => br_f ne10 (X_within (fun c => br_f ne10 (h1 ⟨a, ⟨w, hw, e⟩, c⟩)) (fun c => br_t rfl (h0 (fun z => c z.2.2))))) (fun b => br_t rfl (h0 (fun z => b z.2.1))))) (fun a => br_t rfl (h0 (fun z => a z.1)))
def TNl (aim x : Int32) : Nat := if x < aim then 0 else 1
def TNm (x : Int32) : Nat := x.toInt.natAbs
theorem su_bd {TN : Int32 → Nat} {P : Pg} {o w n : Nat} (ho : o ≤ 10) (hn : n ≤ 8) (hT : ∀ t, TN (raM P (fun e => !Nat.testBit t e) w n) ≤ 9000000) : suN (tX TN P o w n) (2 ^ n) < 2 ^ 63 := by
  have h2 := p2_le hn
  have h10 := p10_le hn
  have := suN_le (f := tX TN P o w n) (B := 100000000 * 9000000) (2 ^ n) (fun t ht => Nat.mul_le_mul (Nat.le_trans (ch_le ho n) h10) (hT t))
  have h3 : 2 ^ n * (100000000 * 9000000) ≤ 256 * (100000000 * 9000000) := Nat.mul_le_mul_right _ h2
  omega
theorem luck_X {M : Mem} {P : Pg} {o w n : Nat} {v5 aim : Int32} {Q : Int64 → Mem → Prop} (hX : isX M 1 P) (hO : OK0 P) (ho : o ≤ 10) (hw : w < wN P) (hn : n ≤ 8) (hr : ∀ e, e < n → M 29 e = rw' P w (sa P e)) (hq : Q (fr v5 (suN (tX (TNl aim) P o w n) (2 ^ n)) n) M) : ∀ j t, j + t = 2 ^ n → (p_X5_luck Q (2 * j + 1)).2.1 (nI o) (nI w) (nI n) v5 aim (lN (suN (tX (TNl aim) P o w n) t)) (nI t) M := by
  have h2 := p2_le hn
  have h10 := p10_le hn
  have h0 : 0 < 10 ^ n := Nat.pow_pos (by omega)
  have hU : suN (tX (TNl aim) P o w n) (2 ^ n) < 2 ^ 63 := su_bd ho hn (fun t => by unfold TNl; split <;> omega)
  intro j
  induction j with
  | zero =>
    intro t ht
    have e : t = 2 ^ n := by omega
    subst e
    show f_X5_luck_49 Q (p_X5_luck Q 0) _ _ _ _ _ _ _ _
    unfold f_X5_luck_49
    rw [sh2 hn]
    exact br_t (nI_le (by omega) (by omega)) (X_ten hn (X_part hU (by omega) h0 hq))
  | succ j ih =>
    intro t ht
    rw [show 2 * (j + 1) + 1 = 2 * j + 1 + 2 by omega]
    show f_X5_luck_49 Q (p_X5_luck Q (2 * j + 1 + 1)) _ _ _ _ _ _ _ _
    unfold f_X5_luck_49
    rw [sh2 hn]
    have hn2 := ih (t + 1) (by omega)
    have es : suN (tX (TNl aim) P o w n) (t + 1) = suN (tX (TNl aim) P o w n) t + ch o t n * TNl aim (raM P (fun e => !t.testBit e) w n) := rfl
    refine br_f (nI_ge (by omega) (by omega)) (X_reads hX hO hw hn (by omega) hr (br_c (fun hl => ?_) (fun hl => X_chances ho hn (by omega) ?_)))
    · show (p_X5_luck Q (2 * j + 1)).2.1 _ _ _ _ _ _ _ _
      have e0 : TNl aim (raM P (fun e => !t.testBit e) w n) = 0 := if_pos hl
      rw [es, e0, Nat.mul_zero, Nat.add_zero] at hn2
      rw [nI_1]; exact hn2
    · show (p_X5_luck Q (2 * j + 1)).2.1 _ _ _ _ _ _ _ _
      have e0 : TNl aim (raM P (fun e => !t.testBit e) w n) = 1 := if_neg hl
      rw [es, e0, Nat.mul_one] at hn2
      rw [nI_1, lN_add]; exact hn2
theorem iabs_l {x : Int32} (h1 : -100000000 ≤ x.toInt) (h2 : x.toInt ≤ 100000000) : (iabs x).toInt64 = lN x.toInt.natAbs := by
  apply Int64.toInt_inj.mp
  rw [Int32.toInt_toInt64, lN_int (by omega)]
  have e0 : (0 : Int32).toInt = 0 := by decide
  unfold iabs
  split
  · next h => have := Int32.le_iff_toInt_le.mp h; omega
  · next h =>
    have := Int32.lt_iff_toInt_lt.mp (Int32.not_le.mp h)
    rw [b_sub (by omega) (by omega)]
    omega
theorem raM_small {P : Pg} {ms : Nat → Bool} {w n : Nat} (h : OK P) (hw : w < wN P) (hn : n ≤ 8) : -9000000 ≤ (raM P ms w n).toInt ∧ (raM P ms w n).toInt ≤ 9000000 := by
  have := raM_bd (ms := ms) h hw n (by omega)
  have ht := h.2.1
  unfold rd at this
  omega
theorem mean_X {M : Mem} {P : Pg} {o w n : Nat} {v5 : Int32} {Q : Int64 → Mem → Prop} (hX : isX M 1 P) (hO : OK P) (ho : o ≤ 10) (hw : w < wN P) (hn : n ≤ 8) (hr : ∀ e, e < n → M 29 e = rw' P w (sa P e)) (hq : Q (fr v5 (suN (tX TNm P o w n) (2 ^ n)) n) M) : ∀ j t, j + t = 2 ^ n → (p_X5_mean Q (j + 1)).2 (nI o) (nI w) (nI n) v5 (lN (suN (tX TNm P o w n) t)) (nI t) M := by
  have h2 := p2_le hn
  have h10 := p10_le hn
  have h0 : 0 < 10 ^ n := Nat.pow_pos (by omega)
  have hU : suN (tX TNm P o w n) (2 ^ n) < 2 ^ 63 := su_bd ho hn (fun t => by have := raM_small (ms := fun e => !Nat.testBit t e) hO hw hn; unfold TNm; omega)
  intro j
  induction j with
  | zero =>
    intro t ht
    have e : t = 2 ^ n := by omega
    subst e
    show f_X5_mean_34 Q (p_X5_mean Q 0) _ _ _ _ _ _ _
    unfold f_X5_mean_34
    rw [sh2 hn]
    exact br_t (nI_le (by omega) (by omega)) (X_ten hn (X_part hU (by omega) h0 hq))
  | succ j ih =>
    intro t ht
    show f_X5_mean_34 Q (p_X5_mean Q (j + 1)) _ _ _ _ _ _ _
    unfold f_X5_mean_34
    rw [sh2 hn]
    have hn2 := ih (t + 1) (by omega)
    refine br_f (nI_ge (by omega) (by omega)) (X_chances ho hn (by omega) (X_reads hX hO.1 hw hn (by omega) hr (fun x hx => ?_)))
    have sm := raM_small (ms := fun e => !Nat.testBit t e) hO hw hn
    rw [iabs_l (by omega) (by omega), lN_mul, lN_add] at hx
    subst hx
    rw [nI_1]; exact hn2
theorem o_luck {M N : Mem} (h : RR M N) (v1 v2 v3 v4 v5 : Int32) : bothL (q_X5_luck v1 v2 v3 v4 v5 M) (q_X6_luck v1 v2 v3 v4 v5 N) := by
  obtain ⟨⟨hOK, hX⟩, -⟩ := id h
  have hO := hOK.1
  have h4 := hO.2.1.2
  by_cases hall : (10000000 ≤ v3 ∧ v3 ≤ 30000000) ∧ ((0 ≤ v1 ∧ v1 ≤ 10) ∧ (∃ w, w < wN (pg N 0) ∧ v2 = nI w) ∧ 0 ≤ v4 ∧ v4 ≤ 8) ∧ (0 ≤ v5 ∧ v5 ≤ 1)
  · obtain ⟨c3, ⟨c1, c2, c4⟩, c5⟩ := id hall
    obtain ⟨o, ho, rfl⟩ := v1_in (n := 10) (by omega) c1
    obtain ⟨w, hw, rfl⟩ := c2
    obtain ⟨n, hn, rfl⟩ := v1_in (n := 8) (by omega) c4
    have n3 : ¬ v3 = -4 := fun q => by subst q; exact absurd c3.1 (by decide)
    refine bothL.q h (fr v5 (suN (tX (TNl (v3 - 20000000)) (pg N 0) o w n) (2 ^ n)) n) (fun Q q => ⟨2 * 2 ^ n + 1, X_isTold (fun _ => br_f ne10 (X_isMissing hX hO (fun _ => br_f ne10 (X_isEither (fun _ => bn_f ne10 (X_setRolls hX hO hw hn (fun M' g1 g2 x hx => ?_))) (fun z => absurd c5 z))) (fun z => absurd hall.2.1 z))) (fun z => absurd c3 z)⟩) (fun Q q => R_inI (lo := 0) (hi := 10) rfl rfl (fun _ => br_f ne10 (R_isWheel hO (fun _ _ _ => br_f ne10 (R_isReading (fun _ => br_f ne10 (R_inI (lo := 0) (hi := 8) rfl rfl (fun _ => br_f ne10 (R_inI (lo := 0) (hi := 1) rfl rfl (fun _ => br_f ne10 ?_) (fun z => absurd c5 z))) (fun z => absurd c4 z))) (fun z => absurd c3 z))) (fun z => absurd ⟨w, hw, rfl⟩ z))) (fun z => absurd c1 z))
    · subst hx
      exact luck_X (hX.of (fun i hi => g1 _ (by omega))) hO ho hw hn g2 (q M' (fun a z1 z2 z3 => g1 a z2)) (2 ^ n) 0 (by omega)
    · refine R_by (TN := TNl (v3 - 20000000)) hO ho hw hn (fun s => ?_) ?_ (fun N' hN => ?_)
      · unfold TI TNl
        rw [if_neg n3]
        split <;> rfl
      · rw [t_rev]; exact su_bd ho hn (fun t => by unfold TNl; split <;> omega)
      · rw [t_rev]; exact q N' hN
  · refine bothL.q h (-1) (fun Q q => ⟨1, X_isTold (fun c3 => br_f ne10 (X_isMissing hX hO (fun c => br_f ne10 (X_isEither (fun c5 => absurd ⟨c3, c, c5⟩ hall) (fun _ => bn_t rfl (q M fx.rf)))) (fun _ => br_t rfl (q M fx.rf)))) (fun _ => br_t rfl (q M fx.rf))⟩) (fun Q q => ?_)
    have qq := q N fm.rf
    exact R_inI (lo := 0) (hi := 10) rfl rfl (fun c1 => br_f ne10 (R_isWheel hO (fun w hw e => br_f ne10 (R_isReading (fun c3 => br_f ne10 (R_inI (lo := 0) (hi := 8) rfl rfl (fun c4 => br_f ne10 (R_inI (lo := 0) (hi := 1) rfl rfl (fun c5 => absurd ⟨c3, ⟨c1, ⟨w, hw, e⟩, c4⟩, c5⟩ hall) (fun _ => br_t rfl qq))) (fun _ => br_t rfl qq))) (fun _ => br_t rfl qq))) (fun _ => br_t rfl qq))) (fun _ => br_t rfl qq)
theorem o_mean {M N : Mem} (h : RR M N) (v1 v2 v4 v5 : Int32) : bothL (q_X5_mean v1 v2 v4 v5 M) (q_X6_mean v1 v2 v4 v5 N) := by
  obtain ⟨⟨hOK, hX⟩, -⟩ := id h
  have hO := hOK.1
  have h4 := hO.2.1.2
  by_cases hall : ((0 ≤ v1 ∧ v1 ≤ 10) ∧ (∃ w, w < wN (pg N 0) ∧ v2 = nI w) ∧ 0 ≤ v4 ∧ v4 ≤ 8) ∧ (0 ≤ v5 ∧ v5 ≤ 1)
  · obtain ⟨⟨c1, c2, c4⟩, c5⟩ := id hall
    obtain ⟨o, ho, rfl⟩ := v1_in (n := 10) (by omega) c1
    obtain ⟨w, hw, rfl⟩ := c2
    obtain ⟨n, hn, rfl⟩ := v1_in (n := 8) (by omega) c4
    refine bothL.q h (fr v5 (suN (tX TNm (pg N 0) o w n) (2 ^ n)) n) (fun Q q => ⟨2 ^ n + 1, X_isMissing hX hO (fun _ => br_f ne10 (X_isEither (fun _ => bn_f ne10 (X_setRolls hX hO hw hn (fun M' g1 g2 => ?_))) (fun z => absurd c5 z))) (fun z => absurd hall.1 z)⟩) (fun Q q => R_inI (lo := 0) (hi := 10) rfl rfl (fun _ => br_f ne10 (R_isWheel hO (fun _ _ _ => br_f ne10 (R_inI (lo := 0) (hi := 8) rfl rfl (fun _ => br_f ne10 (R_inI (lo := 0) (hi := 1) rfl rfl (fun _ => br_f ne10 ?_) (fun z => absurd c5 z))) (fun z => absurd c4 z))) (fun z => absurd ⟨w, hw, rfl⟩ z))) (fun z => absurd c1 z))
    · exact mean_X (hX.of (fun i hi => g1 _ (by omega))) hOK ho hw hn g2 (q M' (fun a z1 z2 z3 => g1 a z2)) (2 ^ n) 0 (by omega)
    · refine R_by (TN := TNm) hO ho hw hn (fun s => ?_) ?_ (fun N' hN => ?_)
      · have sm := raM_small (ms := fun e => Nat.testBit s e) hOK hw hn
        unfold TI TNm
        rw [if_pos rfl, iabs_l (by omega) (by omega)]
      · rw [t_rev]; exact su_bd ho hn (fun t => by have := raM_small (ms := fun e => !Nat.testBit t e) hOK hw hn; unfold TNm; omega)
      · rw [t_rev]; exact q N' hN
  · refine bothL.q h (-1) (fun Q q => ⟨1, X_isMissing hX hO (fun c => br_f ne10 (X_isEither (fun c5 => absurd ⟨c, c5⟩ hall) (fun _ => bn_t rfl (q M fx.rf)))) (fun _ => br_t rfl (q M fx.rf))⟩) (fun Q q => ?_)
    have qq := q N fm.rf
    exact R_inI (lo := 0) (hi := 10) rfl rfl (fun c1 => br_f ne10 (R_isWheel hO (fun w hw e => br_f ne10 (R_inI (lo := 0) (hi := 8) rfl rfl (fun c4 => br_f ne10 (R_inI (lo := 0) (hi := 1) rfl rfl (fun c5 => absurd ⟨⟨c1, ⟨w, hw, e⟩, c4⟩, c5⟩ hall) (fun _ => br_t rfl qq))) (fun _ => br_t rfl qq))) (fun _ => br_t rfl qq))) (fun _ => br_t rfl qq)
