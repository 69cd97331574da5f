/-! the pure part: what both sides mean, over a page of numbers (places as in the reference: 0 X, 10 Y, 20 corners, 21 22 pole, 23 kind, 27 step, 31 reads, 35 wheels, 36 traced) -/
theorem bn_t {c A B : Prop} (h : c) (b : B) : (¬ c → A) ∧ (c → B) := ⟨fun n => absurd h n, fun _ => b⟩
theorem bn_f {c A B : Prop} (h : ¬ c) (a : A) : (¬ c → A) ∧ (c → B) := ⟨fun _ => a, fun y => absurd y h⟩
theorem bn_c {c A B : Prop} (a : ¬ c → A) (b : c → B) : (¬ c → A) ∧ (c → B) := ⟨a, b⟩
abbrev Pg : Type := Nat → Int32
def sm (f : Nat → Int32) : Nat → Int32
  | 0 => 0
  | n + 1 => sm f n + f n
def cN (P : Pg) : Nat := (P 20).toNatClampNeg
def wN (P : Pg) : Nat := (P 35).toNatClampNeg
def tN (P : Pg) : Nat := (P 36).toNatClampNeg
def swp (P : Pg) (i k : Nat) : Int32 := (P i - P 21) * (P (10 + k) - P 22) - (P k - P 21) * (P (10 + i) - P 22)
def bh (c i : Nat) : Nat := if i + 1 < c then i + 1 else 0
def sw (P : Pg) (i : Nat) : Int32 := swp P i (bh (cN P) i)
def ar (P : Pg) : Int32 := sm (sw P) (cN P)
def rl (k s x : Int32) : Int32 := if k = 1 then x / s * s else if k = 2 then (if s ≤ iabs x then x else 0) else if k = 3 then (if s ≤ x then x else 0) else x
def rw' (P : Pg) (w : Nat) (x : Int32) : Int32 := rl (P (23 + w)) (P (27 + w)) x
def er (P : Pg) (w : Nat) : Int32 := iabs (sm (fun i => rw' P w (sw P i) - sw P i) (cN P))
def sa (P : Pg) (n : Nat) : Int32 := if cN P = 0 then 0 else sw P ((tN P + n) % cN P)
def ra (P : Pg) (w : Nat) : Nat → Int32
  | 0 => P (31 + w)
  | n + 1 => ra P w n + rw' P w (sa P n)
def rba (P : Pg) (x : Int32) : Int32 := sm (fun w => iabs (rw' P w x)) (wN P)
def pl (x : Int32) : Prop := 0 ≤ x.toInt ∧ x.toInt ≤ 20
def kd (x : Int32) : Prop := 0 ≤ x.toInt ∧ x.toInt ≤ 3
def sp (x : Int32) : Prop := 1 ≤ x.toInt ∧ x.toInt ≤ 9
def rd (t : Nat) (x : Int32) : Prop := -(800 * (t : Int)) ≤ x.toInt ∧ x.toInt ≤ 800 * (t : Int)
def OK0 (P : Pg) : Prop := (P 20 = nI (cN P) ∧ cN P ≤ 10) ∧ (P 35 = nI (wN P) ∧ wN P ≤ 4) ∧ (P 36 = nI (tN P) ∧ tN P ≤ 20000) ∧ (pl (P 21) ∧ pl (P 22)) ∧ (∀ i, i < cN P → pl (P i) ∧ pl (P (10 + i))) ∧ ∀ i, i < wN P → kd (P (23 + i)) ∧ sp (P (27 + i))
def OK (P : Pg) : Prop := OK0 P ∧ tN P ≤ 9999 ∧ ∀ i, i < wN P → rd (tN P) (P (31 + i))
/-- the Layout at cell o is as a page tells, as far as it lives -/
def isX (M : Mem) (o : Nat) (P : Pg) : Prop := M o 2 = P 20 ∧ M o 6 = P 35 ∧ M o 7 = P 21 ∧ M o 8 = P 22 ∧ M o 9 = P 36 ∧ (∀ i, i < cN P → M (o + 1) i = P i ∧ M (o + 2) i = P (10 + i)) ∧ ∀ i, i < wN P → M (o + 3) i = P (23 + i) ∧ M (o + 4) i = P (27 + i) ∧ M (o + 5) i = P (31 + i)
theorem li (n : Nat) : (OfNat.ofNat n : Int32) = nI n := rfl
theorem iabs_neg (x : Int32) : iabs x = if 0 ≤ x then x else -x := by
  unfold iabs
  rw [Int32.zero_sub]
theorem isX.of {M M' : Mem} {o : Nat} {P : Pg} (h : isX M o P) (hs : ∀ i, i < 6 → M' (o + i) = M (o + i)) : isX M' o P := by
  have h0 := hs 0 (by omega)
  rw [Nat.add_zero] at h0
  unfold isX at h ⊢
  rw [h0, hs 1 (by omega), hs 2 (by omega), hs 3 (by omega), hs 4 (by omega), hs 5 (by omega)]
  exact h
/-! Layout -/
set_option maxHeartbeats 1000000 in
theorem L_sweepOf {M : Mem} {o : Nat} {P : Pg} {e : Nat} {Q : Int32 → Mem → Prop} (hX : isX M o P) (hO : OK0 P) (he : e < cN P) (hq : Q (sw P e) M) : q_X0_sweepOf o (nI e) M Q := by
  obtain ⟨hc, -, hpx, hpy, -, hxy, -⟩ := hX
  obtain ⟨⟨kc, kc10⟩, -⟩ := hO
  have key : ∀ b, b < cN P → bh (cN P) e = b → f_X0_sweepOf_17 o Q (nI e) (nI b) M := by
    intro b hb hbe
    have ve : vp_in (nI e) 10 := vp_in_nI (by omega) (by omega)
    have vb : vp_in (nI b) 10 := vp_in_nI (by omega) (by omega)
    refine ⟨ve, fun x hx => ⟨ve, fun x2 hx2 => ⟨vb, fun x3 hx3 => ⟨vb, fun x4 hx4 => ?_⟩⟩⟩⟩
    rw [nI_clamp (by omega)] at hx hx2 hx3 hx4
    rw [(hxy e he).1, hpx] at hx
    rw [(hxy e he).2, hpy] at hx2
    rw [(hxy b hb).1, hpx] at hx3
    rw [(hxy b hb).2, hpy] at hx4
    subst hx hx2 hx3 hx4
    have e1 : sw P e = swp P e b := by unfold sw; rw [hbe]
    rw [e1] at hq
    exact hq
  unfold q_X0_sweepOf
  rw [hc, kc, li 1, nI_add]
  by_cases h : e + 1 < cN P
  · exact br_f (nI_ge h (by omega)) (key _ h (if_pos h))
  · exact br_t (nI_le (by omega) (by omega)) (key 0 (by omega) (if_neg h))
theorem L_area {M : Mem} {o : Nat} {P : Pg} {Q : Int32 → Mem → Prop} (hX : isX M o P) (hO : OK0 P) (hq : Q (ar P) M) : q_X0_area o M Q := by
  have hc : M o 2 = nI (cN P) := hX.1.trans hO.1.1
  have h10 := hO.1.2
  have key : ∀ j k, j + k = cN P → p_X0_area o Q (j + 1) (sm (sw P) k) (nI k) M := by
    intro j
    induction j with
    | zero =>
      intro k hk
      refine br_t (by rw [hc]; exact nI_le (by omega) (by omega)) ?_
      rw [show k = cN P by omega]
      exact hq
    | succ j ih =>
      intro k hk
      refine br_f (by rw [hc]; exact nI_ge (by omega) (by omega)) ?_
      refine L_sweepOf hX hO (by omega) ?_
      rw [nI_1]
      exact ih (k + 1) (by omega)
  exact ⟨_, key (cN P) 0 (by omega)⟩
theorem L_areaU {M : Mem} {o : Nat} {P : Pg} {Q : Int32 → Mem → Prop} (hX : isX M o P) (hO : OK0 P) (hq : Q (iabs (ar P)) M) : q_X0_areaUnsigned o M Q := L_area hX hO hq
theorem t_rem {a d : Nat} (ha : a < 2 ^ 31) (h0 : 0 < d) (hd : d < 2 ^ 31) : nI a - nI a / nI d * nI d = nI (a % d) := pk_rem ha h0 hd
/-- the edge behind n others from now on -/
theorem L_edgeAhead {M : Mem} {o : Nat} {P : Pg} {n : Nat} {Q : Int32 → Mem → Prop} (hX : isX M o P) (hO : OK0 P) (hn : n ≤ 10000) (h0 : cN P = 0 → Q (-4) M) (h1 : cN P ≠ 0 → Q (nI ((tN P + n) % cN P)) M) : q_X0_edgeAhead o (nI n) M Q := by
  have hc : M o 2 = nI (cN P) := hX.1.trans hO.1.1
  have ht : M o 9 = nI (tN P) := hX.2.2.2.2.1.trans hO.2.2.1.1
  have h10 := hO.1.2
  have h11 := hO.2.2.1.2
  unfold q_X0_edgeAhead
  rw [hc, ht, nI_add]
  by_cases hz : cN P = 0
  · rw [hz]
    exact bn_t rfl (h0 hz)
  · have hne : ¬ nI (cN P) = 0 := nI_ne0 (by omega) (by omega)
    refine bn_f hne ⟨hne, ?_⟩
    rw [pk_rem (by omega) (by omega) (by omega)]
    exact h1 hz
theorem nI_nm4 {n : Nat} (h : n < 2 ^ 31) : ¬ nI n = -4 := by
  intro q
  have := nI_toInt h
  rw [q] at this
  have e : (-4 : Int32).toInt = -4 := by decide
  omega
theorem L_sweepAhead {M : Mem} {o : Nat} {P : Pg} {n : Nat} {Q : Int32 → Mem → Prop} (hX : isX M o P) (hO : OK0 P) (hn : n ≤ 10000) (hq : Q (sa P n) M) : q_X0_sweepAhead o (nI n) M Q := by
  have h10 := hO.1.2
  refine L_edgeAhead hX hO hn (fun hz => ?_) (fun hz => ?_)
  · refine bn_t rfl ?_
    have e : sa P n = 0 := if_pos hz
    rw [e] at hq
    exact hq
  · have hlt : (tN P + n) % cN P < cN P := Nat.mod_lt _ (by omega)
    refine bn_f (nI_nm4 (by omega)) (L_sweepOf hX hO hlt ?_)
    have e : sa P n = sw P ((tN P + n) % cN P) := if_neg hz
    rw [e] at hq
    exact hq
theorem sp_1 {x : Int32} (h : sp x) : (1 : Int32) ≤ x ∧ ¬ x = 0 := by
  obtain ⟨h1, h2⟩ := h
  constructor
  · rw [Int32.le_iff_toInt_le]
    exact h1
  · intro e
    subst e
    exact absurd h1 (by decide)
theorem L_roll {M : Mem} {k s x : Int32} {Q : Int32 → Mem → Prop} (hs : sp s) (hq : Q (rl k s x) M) : q_X0_roll k s x M Q := by
  unfold rl at hq
  unfold q_X0_roll
  refine br_c (fun h => ?_) (fun h => br_c (fun h2 => ?_) (fun h2 => br_c (fun h3 => ?_) (fun h3 => ?_)))
  · rw [if_pos h] at hq
    exact br_t (sp_1 hs).1 ⟨(sp_1 hs).2, hq⟩
  · rw [if_neg h, if_pos h2] at hq
    refine br_c (fun h3 => ?_) (fun h3 => ?_)
    · rw [if_pos h3] at hq; exact hq
    · rw [if_neg h3] at hq; exact hq
  · rw [if_neg h, if_neg h2, if_pos h3] at hq
    refine br_c (fun h4 => ?_) (fun h4 => ?_)
    · rw [if_pos h4] at hq; exact hq
    · rw [if_neg h4] at hq; exact hq
  · rw [if_neg h, if_neg h2, if_neg h3] at hq
    exact hq
theorem L_rollOf {M : Mem} {o : Nat} {P : Pg} {w : Nat} {x : Int32} {Q : Int32 → Mem → Prop} (hX : isX M o P) (hO : OK0 P) (hw : w < wN P) (hq : Q (rw' P w x) M) : q_X0_rollOf o (nI w) x M Q := by
  have h4 := hO.2.1.2
  have v : vp_in (nI w) 4 := vp_in_nI (by omega) (by omega)
  refine ⟨v, v, ?_⟩
  rw [nI_clamp (by omega), (hX.2.2.2.2.2.2 w hw).1, (hX.2.2.2.2.2.2 w hw).2.1]
  exact L_roll (hO.2.2.2.2.2 w hw).2 hq
theorem L_rolledByAll {M : Mem} {o : Nat} {P : Pg} {x : Int32} {Q : Int32 → Mem → Prop} (hX : isX M o P) (hO : OK0 P) (hq : Q (rba P x) M) : q_X0_rolledByAll o x M Q := by
  have hc : M o 6 = nI (wN P) := hX.2.1.trans hO.2.1.1
  have h10 := hO.2.1.2
  have key : ∀ j k, j + k = wN P → p_X0_rolledByAll o Q (j + 1) x (sm (fun w => iabs (rw' P w x)) k) (nI k) M := by
    intro j
    induction j with
    | zero =>
      intro k hk
      refine br_t (by rw [hc]; exact nI_le (by omega) (by omega)) ?_
      rw [show k = wN P by omega]
      exact hq
    | succ j ih =>
      intro k hk
      refine br_f (by rw [hc]; exact nI_ge (by omega) (by omega)) ?_
      refine L_rollOf hX hO (by omega) ?_
      rw [nI_1]
      exact ih (k + 1) (by omega)
  exact ⟨_, key (wN P) 0 (by omega)⟩
theorem L_errorOf {M : Mem} {o : Nat} {P : Pg} {w : Nat} {Q : Int32 → Mem → Prop} (hX : isX M o P) (hO : OK0 P) (hw : w < wN P) (hq : Q (er P w) M) : q_X0_errorOf o (nI w) M Q := by
  have hc : M o 2 = nI (cN P) := hX.1.trans hO.1.1
  have h10 := hO.1.2
  have key : ∀ j k, j + k = cN P → p_X0_errorOf o Q (j + 1) (nI w) (sm (fun i => rw' P w (sw P i) - sw P i) k) (nI k) M := by
    intro j
    induction j with
    | zero =>
      intro k hk
      refine br_t (by rw [hc]; exact nI_le (by omega) (by omega)) ?_
      rw [show k = cN P by omega]
      exact hq
    | succ j ih =>
      intro k hk
      refine br_f (by rw [hc]; exact nI_ge (by omega) (by omega)) ?_
      refine L_sweepOf hX hO (by omega) ?_
      refine L_rollOf hX hO hw ?_
      rw [nI_1]
      exact ih (k + 1) (by omega)
  exact ⟨_, key (cN P) 0 (by omega)⟩
theorem L_readsAhead {M : Mem} {o : Nat} {P : Pg} {w n : Nat} {Q : Int32 → Mem → Prop} (hX : isX M o P) (hO : OK0 P) (hw : w < wN P) (hn : n ≤ 200) (hq : Q (ra P w n) M) : q_X0_readsAhead o (nI w) (nI n) M Q := by
  have h4 := hO.2.1.2
  have key : ∀ j k, j + k = n → p_X0_readsAhead o Q (j + 1) (nI w) (nI n) (ra P w k) (nI k) M := by
    intro j
    induction j with
    | zero =>
      intro k hk
      refine br_t (nI_le (by omega) (by omega)) ?_
      rw [show k = n by omega]
      exact hq
    | succ j ih =>
      intro k hk
      refine br_f (nI_ge (by omega) (by omega)) ?_
      refine L_sweepAhead hX hO (by omega) ?_
      refine L_rollOf hX hO hw ?_
      rw [nI_1]
      exact ih (k + 1) (by omega)
  refine ⟨n + 1, vp_in_nI (by omega) (by omega), fun x hx => ?_⟩
  rw [nI_clamp (by omega), (hX.2.2.2.2.2.2 w hw).2.2] at hx
  subst hx
  exact key n 0 (by omega)
theorem L_someWheelRests {M : Mem} {o : Nat} {P : Pg} {x : Int32} {Q : Int32 → Mem → Prop} (hX : isX M o P) (hO : OK0 P) (h1 : (∃ w, w < wN P ∧ rw' P w x = 0) → Q 1 M) (h0 : (¬ ∃ w, w < wN P ∧ rw' P w x = 0) → Q 0 M) : q_X0_someWheelRests o x M Q := by
  have hc : M o 6 = nI (wN P) := hX.2.1.trans hO.2.1.1
  have h10 := hO.2.1.2
  have key : ∀ j k, j + k = wN P → (∀ w, w < k → ¬ rw' P w x = 0) → p_X0_someWheelRests o Q (j + 1) x (nI k) M := by
    intro j
    induction j with
    | zero =>
      intro k hk hn
      refine br_t (by rw [hc]; exact nI_le (by omega) (by omega)) ?_
      exact h0 (fun ⟨w, hw, e⟩ => hn w (by omega) e)
    | succ j ih =>
      intro k hk hn
      refine br_f (by rw [hc]; exact nI_ge (by omega) (by omega)) ?_
      refine L_rollOf hX hO (by omega) ?_
      refine bn_c (fun hz => ?_) (fun hz => h1 ⟨k, by omega, hz⟩)
      rw [nI_1]
      exact ih (k + 1) (by omega) (fun w hw => by
        rcases Nat.lt_or_ge w k with q | q
        · exact hn w q
        · rw [show w = k by omega]; exact hz)
  exact ⟨_, key (wN P) 0 (by omega) (fun w hw => absurd hw (Nat.not_lt_zero w))⟩
theorem L_sumOfSteps {M : Mem} {o : Nat} {P : Pg} {Q : Int32 → Mem → Prop} (hX : isX M o P) (hO : OK0 P) (hq : Q (sm (fun i => P (27 + i)) (wN P)) M) : q_X0_sumOfSteps o M Q := by
  have hc : M o 6 = nI (wN P) := hX.2.1.trans hO.2.1.1
  have h10 := hO.2.1.2
  have key : ∀ j k, j + k = wN P → p_X0_sumOfSteps o Q (j + 1) (sm (fun i => P (27 + i)) k) (nI k) M := by
    intro j
    induction j with
    | zero =>
      intro k hk
      refine br_t (by rw [hc]; exact nI_le (by omega) (by omega)) ?_
      rw [show k = wN P by omega]
      exact hq
    | succ j ih =>
      intro k hk
      refine br_f (by rw [hc]; exact nI_ge (by omega) (by omega)) ⟨vp_in_nI (by omega) (by omega), fun y hy => ?_⟩
      rw [nI_clamp (by omega), (hX.2.2.2.2.2.2 k (by omega)).2.1] at hy
      subst hy
      rw [nI_1]
      exact ih (k + 1) (by omega)
  exact ⟨_, key (wN P) 0 (by omega)⟩
theorem L_sumOfPlaces {M : Mem} {o : Nat} {P : Pg} {Q : Int32 → Mem → Prop} (hX : isX M o P) (hO : OK0 P) (hq : Q (sm (fun i => P i + P (10 + i)) (cN P)) M) : q_X0_sumOfPlaces o M Q := by
  have hc : M o 2 = nI (cN P) := hX.1.trans hO.1.1
  have h10 := hO.1.2
  have key : ∀ j k, j + k = cN P → p_X0_sumOfPlaces o Q (j + 1) (sm (fun i => P i + P (10 + i)) k) (nI k) M := by
    intro j
    induction j with
    | zero =>
      intro k hk
      refine br_t (by rw [hc]; exact nI_le (by omega) (by omega)) ?_
      rw [show k = cN P by omega]
      exact hq
    | succ j ih =>
      intro k hk
      refine br_f (by rw [hc]; exact nI_ge (by omega) (by omega)) ⟨vp_in_nI (by omega) (by omega), vp_in_nI (by omega) (by omega), fun y hy => ?_⟩
      rw [nI_clamp (by omega), (hX.2.2.2.2.2.1 k (by omega)).1, (hX.2.2.2.2.2.1 k (by omega)).2] at hy
      subst hy
      rw [nI_1]
      exact ih (k + 1) (by omega)
  exact ⟨_, key (cN P) 0 (by omega)⟩
