/-! luck, mean -/
theorem lN_int {n : Nat} (h : n < 2 ^ 63) : (lN n).toInt = n := Int64.toInt_ofNat_of_lt h
theorem b_bmodL {z : Int} (h1 : -9223372036854775808 ≤ z) (h2 : z < 9223372036854775808) : z.bmod (2 ^ 64) = z := by
  rw [Int.bmod_def]; split <;> omega
theorem lN_div {a b : Nat} (ha : a < 2 ^ 63) (hb : b < 2 ^ 63) : lN a / lN b = lN (a / b) := by
  apply Int64.toInt_inj.mp
  have h : a / b ≤ a := Nat.div_le_self a b
  rw [Int64.toInt_div, lN_int ha, lN_int hb, lN_int (by omega)]
  rw [← Int.ofNat_tdiv]
  generalize a / b = q at h ⊢
  rw [b_bmodL (by omega) (by omega)]
theorem lN_rem {a b : Nat} (ha : a < 2 ^ 63) (hb : b < 2 ^ 63) : lN a - lN a / lN b * lN b = lN (a % b) := by
  rw [lN_div ha hb, lN_mul]
  have e : a = a % b + a / b * b := by have := Nat.mod_add_div a b; rw [Nat.mul_comm] at this; omega
  have : lN a = lN (a % b) + lN (a / b * b) := by rw [lN_add, ← e]
  rw [this]
  grind
theorem lN_0 {a : Nat} (h : a < 2 ^ 63) : lN a = 0 ↔ a = 0 := by
  constructor
  · intro q
    have := lN_int h
    rw [q] at this
    have e0 : (0 : Int64).toInt = 0 := by decide
    omega
  · intro q; subst q; rfl
theorem cmp0 (x : Int64) : lg_cmp x 0 = 0 ↔ x = 0 := by
  have h1 := lg_cmp_ge x 0
  have h2 := lg_cmp_le x 0
  constructor
  · intro q
    rw [q] at h1 h2
    have a := h1.mp (Int32.le_refl 0)
    have b := h2.mp (Int32.le_refl 0)
    exact Int64.le_antisymm b a
  · intro q
    subst q; decide
theorem cmp_pos {x : Int64} (h : ¬ x ≤ 0) : 0 < lg_cmp x 0 := Int32.not_le.mp (fun q => h ((lg_cmp_le x 0).mp q))
/-! the common divisor -/
theorem gcd_s {a b : Nat} : Nat.gcd a b = Nat.gcd b (a % b) := by
  rw [Nat.gcd_comm a b, Nat.gcd_rec b a, Nat.gcd_comm]
theorem mod_half {a b : Nat} (h0 : 0 < b) (h : 0 < a % b) : 2 * (b % (a % b)) < b := by
  have h1 : a % b < b := Nat.mod_lt _ h0
  have h2 : b % (a % b) < a % b := Nat.mod_lt _ h
  have h3 : b % (a % b) ≤ b - a % b := by
    have e := Nat.mod_eq_sub_mod (a := b) (b := a % b) (by omega)
    rw [e]; exact Nat.mod_le _ _
  omega
theorem X_common {M : Mem} {Q : Int64 → Mem → Prop} : ∀ j k a b, a < 2 ^ 63 → b < 2 ^ j → j ≤ 40 → k + 2 * j ≤ 90 → Q (lN (Nat.gcd a b)) M → ∃ n, p_X5_commonDivisor Q n (lN a) (lN b) (nI k) M := by
  intro j
  induction j with
  | zero =>
    intro k a b ha hb hj hk hq
    have e : b = 0 := by omega
    subst e
    rw [Nat.gcd_zero_right] at hq
    refine ⟨1, ?_⟩
    show f_X5_commonDivisor_9 Q (p_X5_commonDivisor Q 0) _ _ _ _
    exact br_f (by rw [li 100]; exact nI_ge (by omega) (by omega)) (br_t ((cmp0 _).mpr rfl) hq)
  | succ j ih =>
    intro k a b ha hb hj hk hq
    have hpj : 2 ^ (j + 1) = 2 * 2 ^ j := by rw [Nat.pow_succ]; omega
    have hp40 : 2 ^ j ≤ 2 ^ 40 := Nat.pow_le_pow_right (by omega) (by omega)
    have hb63 : b < 2 ^ 63 := by omega
    by_cases h0 : b = 0
    · subst h0
      rw [Nat.gcd_zero_right] at hq
      refine ⟨1, ?_⟩
      show f_X5_commonDivisor_9 Q (p_X5_commonDivisor Q 0) _ _ _ _
      exact br_f (by rw [li 100]; exact nI_ge (by omega) (by omega)) (br_t ((cmp0 _).mpr rfl) hq)
    have hr : a % b < b := Nat.mod_lt _ (by omega)
    have nb : ¬ lN b = 0 := fun q => h0 ((lN_0 hb63).mp q)
    have st1 : ∀ n, p_X5_commonDivisor Q n (lN b) (lN (a % b)) (nI (k + 1)) M → p_X5_commonDivisor Q (n + 1) (lN a) (lN b) (nI k) M := by
      intro n hn
      show f_X5_commonDivisor_9 Q (p_X5_commonDivisor Q n) _ _ _ _
      refine br_f (by rw [li 100]; exact nI_ge (by omega) (by omega)) (br_f (fun q => nb ((cmp0 _).mp q)) ⟨nb, ?_⟩)
      rw [lN_rem ha hb63, nI_1]; exact hn
    rw [gcd_s] at hq
    by_cases h1 : a % b = 0
    · rw [h1, Nat.gcd_zero_right] at hq
      refine ⟨2, st1 1 ?_⟩
      rw [h1]
      show f_X5_commonDivisor_9 Q (p_X5_commonDivisor Q 0) _ _ _ _
      exact br_f (by rw [li 100]; exact nI_ge (by omega) (by omega)) (br_t ((cmp0 _).mpr rfl) hq)
    · have hh := mod_half (a := a) (b := b) (by omega) (by omega)
      rw [gcd_s] at hq
      obtain ⟨n, hn⟩ := ih (k + 2) (a % b) (b % (a % b)) (by omega) (by omega) (by omega) (by omega) hq
      have nr : ¬ lN (a % b) = 0 := fun q => h1 ((lN_0 (by omega)).mp q)
      refine ⟨n + 2, st1 (n + 1) ?_⟩
      show f_X5_commonDivisor_9 Q (p_X5_commonDivisor Q n) _ _ _ _
      refine br_f (by rw [li 100]; exact nI_ge (by omega) (by omega)) (br_f (fun q => nr ((cmp0 _).mp q)) ⟨nr, ?_⟩)
      rw [lN_rem hb63 (by omega), nI_1]; exact hn
theorem R_lowestL {M : Mem} {up dn : Int64} {v4 : Int32} {Q : Int64 → Mem → Prop} : ∀ j a b, a < 2 ^ 63 → b < 2 ^ j → j ≤ 40 → 0 < Nat.gcd a b → Q ((if v4 = 0 then up else dn) / lN (Nat.gcd a b)) M → ∃ n, (p_X6_lowest Q n).1 up dn v4 (lN a) (lN b) M := by
  have fin : ∀ a, a < 2 ^ 63 → 0 < a → Q ((if v4 = 0 then up else dn) / lN a) M → (p_X6_lowest Q 2).1 up dn v4 (lN a) (lN 0) M := by
    intro a ha h0 hq
    have na : ¬ lN a = 0 := fun q => by have := (lN_0 ha).mp q; omega
    show f_X6_lowest_6 Q (p_X6_lowest Q 1) _ _ _ _ _ _
    refine br_t ((cmp0 _).mpr rfl) (bn_c (fun z => ⟨na, ?_⟩) (fun z => ⟨na, ?_⟩))
    · rw [if_neg z] at hq; exact hq
    · rw [if_pos z] at hq; exact hq
  intro j
  induction j with
  | zero =>
    intro a b ha hb hj hg hq
    have e : b = 0 := by omega
    subst e
    rw [Nat.gcd_zero_right] at hq hg
    exact ⟨2, fin a ha hg hq⟩
  | succ j ih =>
    intro a b ha hb hj hg hq
    have hpj : 2 ^ (j + 1) = 2 * 2 ^ j := by rw [Nat.pow_succ]; omega
    have hp40 : 2 ^ j ≤ 2 ^ 40 := Nat.pow_le_pow_right (by omega) (by omega)
    have hb63 : b < 2 ^ 63 := by omega
    by_cases h0 : b = 0
    · subst h0
      rw [Nat.gcd_zero_right] at hq hg
      exact ⟨2, fin a ha hg hq⟩
    have hr : a % b < b := Nat.mod_lt _ (by omega)
    have nb : ¬ lN b = 0 := fun q => h0 ((lN_0 hb63).mp q)
    have st1 : ∀ n, (p_X6_lowest Q n).1 up dn v4 (lN b) (lN (a % b)) M → (p_X6_lowest Q (n + 1)).1 up dn v4 (lN a) (lN b) M := by
      intro n hn
      show f_X6_lowest_6 Q (p_X6_lowest Q n) _ _ _ _ _ _
      refine br_f (fun q => nb ((cmp0 _).mp q)) ⟨nb, ?_⟩
      rw [lN_rem ha hb63]; exact hn
    rw [gcd_s] at hq hg
    by_cases h1 : a % b = 0
    · rw [h1, Nat.gcd_zero_right] at hq hg
      refine ⟨3, st1 2 ?_⟩
      rw [h1]; exact fin b hb63 hg hq
    · have hh := mod_half (a := a) (b := b) (by omega) (by omega)
      rw [gcd_s] at hq hg
      obtain ⟨n, hn⟩ := ih (a % b) (b % (a % b)) (by omega) (by omega) (by omega) hg hq
      have nr : ¬ lN (a % b) = 0 := fun q => h1 ((lN_0 (by omega)).mp q)
      refine ⟨n + 2, st1 (n + 1) ?_⟩
      show f_X6_lowest_6 Q (p_X6_lowest Q n) _ _ _ _ _ _
      refine br_f (fun q => nr ((cmp0 _).mp q)) ⟨nr, ?_⟩
      rw [lN_rem hb63 (by omega)]; exact hn
theorem X_part {M : Mem} {a b : Nat} {v4 : Int32} {Q : Int64 → Mem → Prop} (ha : a < 2 ^ 63) (hb : b < 2 ^ 40) (h0 : 0 < b) (hq : Q ((if v4 = 0 then lN a else lN b) / lN (Nat.gcd a b)) M) : q_X5_partOfFraction (lN a) (lN b) v4 M Q := by
  have hg : 0 < Nat.gcd a b := Nat.gcd_pos_of_pos_right a h0
  have hg2 : Nat.gcd a b ≤ b := Nat.gcd_le_right a h0
  refine X_common (Q := _) 40 0 a b ha hb (by omega) (by omega) ?_
  have ng : ¬ lN (Nat.gcd a b) = 0 := fun q => by have := (lN_0 (by omega)).mp q; omega
  refine br_t (cmp_pos (fun q => ?_)) (bn_c (fun z => ⟨ng, ?_⟩) (fun z => ⟨ng, ?_⟩))
  · have := Int64.le_iff_toInt_le.mp q
    rw [lN_int (by omega)] at this
    have e0 : (0 : Int64).toInt = 0 := by decide
    omega
  · rw [if_neg z] at hq; exact hq
  · rw [if_pos z] at hq; exact hq
theorem R_lowest {M : Mem} {a b : Nat} {v4 : Int32} {Q : Int64 → Mem → Prop} (ha : a < 2 ^ 63) (hb : b < 2 ^ 40) (h0 : 0 < b) (hq : Q ((if v4 = 0 then lN a else lN b) / lN (Nat.gcd a b)) M) : q_X6_lowest (lN a) (lN b) v4 M Q := R_lowestL 40 a b ha hb (by omega) (Nat.gcd_pos_of_pos_right a h0) hq
