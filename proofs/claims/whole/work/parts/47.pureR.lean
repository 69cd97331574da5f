/-! rows of edges, missed or traced -/
def ch (o t : Nat) : Nat → Nat
  | 0 => 1
  | n + 1 => ch o t n * (if t.testBit n then 10 - o else o)
def chR (o t : Nat) : Nat → Nat
  | 0 => 1
  | n + 1 => chR o t n * (if t.testBit n then o else 10 - o)
theorem bt_t {t e : Nat} (ht : t < 1024) (he : e ≤ 9) : (nI t >>> (nI e &&& 31)) &&& 1 = if t.testBit e then 1 else 0 := by
  rw [bt_nI he ht, bt_g (g := t.testBit) rfl]
  split <;> rfl
theorem ten_o {o : Nat} (h : o ≤ 10) : (10 : Int32) - nI o = nI (10 - o) := by
  have := nI_sb o (10 - o)
  rw [show o + (10 - o) = 10 by omega] at this
  exact this
theorem X_chances {M : Mem} {o n t : Nat} {Q : Int64 → Mem → Prop} (ho : o ≤ 10) (hn : n ≤ 8) (ht : t < 1024) (hq : Q (lN (ch o t n)) M) : q_X5_chancesOf (nI o) (nI n) (nI t) M Q := by
  have key : ∀ j k, j + k = n → (p_X5_chancesOf Q (2 * j + 1)).1 (nI o) (nI n) (nI t) (lN (ch o t k)) (nI k) M := by
    intro j
    induction j with
    | zero =>
      intro k hk
      have e : k = n := by omega
      subst e
      show f_X5_chancesOf_5 Q (p_X5_chancesOf Q 0) _ _ _ _ _ _
      exact br_t (nI_le (by omega) (by omega)) hq
    | succ j ih =>
      intro k hk
      rw [show 2 * (j + 1) + 1 = 2 * j + 1 + 2 by omega]
      show f_X5_chancesOf_5 Q (p_X5_chancesOf Q (2 * j + 1 + 1)) _ _ _ _ _ _
      unfold f_X5_chancesOf_5
      rw [bt_t ht (by omega), ten_o ho, nI_l (by omega), nI_l (by omega)]
      have nx : ∀ c, c = (if t.testBit k then 10 - o else o) → (p_X5_chancesOf Q (2 * j + 1 + 1)).2 (nI o) (nI n) (nI t) (nI k) (lN c) (lN (ch o t k)) M := by
        intro c hc
        show (p_X5_chancesOf Q (2 * j + 1)).1 _ _ _ _ _ _
        rw [lN_mul, nI_1, hc]
        exact ih (k + 1) (by omega)
      refine br_f (nI_ge (by omega) (by omega)) (br_c (fun hb => nx _ ?_) (fun hb => nx _ ?_))
      · rw [if_neg (if1.mp hb)]
      · have : t.testBit k = true := by
          cases hh : t.testBit k with
          | true => rfl
          | false => rw [hh] at hb; exact absurd rfl hb
        rw [if_pos this]
  exact ⟨2 * n + 1, key n 0 (by omega)⟩
theorem X_ten {M : Mem} {n : Nat} {Q : Int64 → Mem → Prop} (hn : n ≤ 8) (hq : Q (lN (10 ^ n)) M) : q_X5_tenTimes (nI n) M Q := by
  have key : ∀ j k, j + k = n → p_X5_tenTimes Q (j + 1) (nI n) (lN (10 ^ k)) (nI k) M := by
    intro j
    induction j with
    | zero =>
      intro k hk
      have e : k = n := by omega
      subst e
      exact br_t (nI_le (by omega) (by omega)) hq
    | succ j ih =>
      intro k hk
      refine br_f (nI_ge (by omega) (by omega)) ?_
      have e : lN (10 ^ k) * 10 = lN (10 ^ (k + 1)) := by
        rw [Nat.pow_succ]; exact lN_mul (10 ^ k) 10
      rw [e, nI_1]
      exact ih (k + 1) (by omega)
  exact ⟨n + 1, key n 0 (by omega)⟩
theorem X_setRolls {M : Mem} {P : Pg} {w n : Nat} {Q : Mem → Prop} (hX : isX M 1 P) (hO : OK0 P) (hw : w < wN P) (hn : n ≤ 8) (hq : ∀ M', (∀ a, a ≠ 29 → M' a = M a) → (∀ e, e < n → M' 29 e = rw' P w (sa P e)) → Q M') : q_X5_setEdgeRolls (nI w) (nI n) M Q := by
  have key : ∀ j k, j + k = n → ∀ M', (∀ a, a ≠ 29 → M' a = M a) → (∀ e, e < k → M' 29 e = rw' P w (sa P e)) → p_X5_setEdgeRolls Q (j + 1) (nI w) (nI n) (nI k) M' := by
    intro j
    induction j with
    | zero =>
      intro k hk M' g1 g2
      have e : k = n := by omega
      subst e
      exact br_t (nI_le (by omega) (by omega)) (hq M' g1 g2)
    | succ j ih =>
      intro k hk M' g1 g2
      have hX' : isX M' 1 P := hX.of (fun i hi => g1 _ (by omega))
      refine br_f (nI_ge (by omega) (by omega)) (L_sweepAhead hX' hO (by omega) (L_rollOf hX' hO hw ⟨vp_in_nI (by omega) (by omega), ?_⟩))
      rw [nI_1, nI_clamp (by omega)]
      refine ih (k + 1) (by omega) _ (fun a ha => by rw [mU_n ha, g1 a ha]) (fun e he => ?_)
      rw [mU_r]
      by_cases h : e = k
      · rw [if_pos h, h]
      · rw [if_neg h]; exact g2 e (by omega)
  exact ⟨n + 1, key n 0 (by omega) M (fun _ _ => rfl) (fun e he => by omega)⟩
theorem X_reads {M : Mem} {P : Pg} {w n t : Nat} {Q : Int32 → Mem → Prop} (hX : isX M 1 P) (hO : OK0 P) (hw : w < wN P) (hn : n ≤ 8) (ht : t < 1024) (hr : ∀ e, e < n → M 29 e = rw' P w (sa P e)) (hq : Q (raM P (fun e => !t.testBit e) w n) M) : q_X5_readsByTraced (nI w) (nI n) (nI t) M Q := by
  have h4 := hO.2.1.2
  have key : ∀ j k, j + k = n → (p_X5_readsByTraced Q (2 * j + 1)).1 (nI n) (nI t) (raM P (fun e => !t.testBit e) w k) (nI k) M := by
    intro j
    induction j with
    | zero =>
      intro k hk
      have e : k = n := by omega
      subst e
      show f_X5_readsByTraced_14 Q (p_X5_readsByTraced Q 0) _ _ _ _ _
      exact br_t (nI_le (by omega) (by omega)) hq
    | succ j ih =>
      intro k hk
      rw [show 2 * (j + 1) + 1 = 2 * j + 1 + 2 by omega]
      show f_X5_readsByTraced_14 Q (p_X5_readsByTraced Q (2 * j + 1 + 1)) _ _ _ _ _
      unfold f_X5_readsByTraced_14
      rw [bt_t ht (by omega), nI_clamp (by omega), hr k (by omega)]
      have nx : ∀ c, c = raM P (fun e => !t.testBit e) w (k + 1) → (p_X5_readsByTraced Q (2 * j + 1 + 1)).2 (nI n) (nI t) c (nI k) M := by
        intro c hc
        show (p_X5_readsByTraced Q (2 * j + 1)).1 _ _ _ _ _
        rw [nI_1, hc]
        exact ih (k + 1) (by omega)
      refine br_f (nI_ge (by omega) (by omega)) (br_c (fun hb => nx _ ?_) (fun hb => ⟨vp_in_nI (by omega) (by omega), fun x hx => nx _ ?_⟩))
      · have hb2 := if1.mp hb
        have : t.testBit k = false := by simpa using hb2
        show _ = raM P _ w k + (if (!t.testBit k) = true then 0 else _)
        rw [this, if_pos (by decide), add_z]
      · have : t.testBit k = true := by
          cases hh : t.testBit k with
          | true => rfl
          | false => rw [hh] at hb; exact absurd rfl hb
        show _ = raM P _ w k + (if (!t.testBit k) = true then 0 else _)
        rw [this, if_neg (by decide)]; exact hx
  refine ⟨2 * n + 1, vp_in_nI (by omega) (by omega), ?_⟩
  rw [nI_clamp (by omega), show M 6 w = P (31 + w) from (hX.2.2.2.2.2.2 w hw).2.2]
  exact key n 0 (by omega)
theorem ch_le {o t : Nat} (h : o ≤ 10) : ∀ n, ch o t n ≤ 10 ^ n
  | 0 => Nat.le_refl 1
  | n + 1 => by
    show ch o t n * _ ≤ 10 ^ (n + 1)
    rw [Nat.pow_succ]
    exact Nat.mul_le_mul (ch_le h n) (by split <;> omega)
theorem raM_bd {P : Pg} {ms : Nat → Bool} {w : Nat} (h : OK P) (hw : w < wN P) : ∀ n, n ≤ 200 → rd (tN P + n) (raM P ms w n)
  | 0, _ => h.2.2 w hw
  | n + 1, hn => by
    have ih := raM_bd (ms := ms) h hw n (by omega)
    have ht := h.2.1
    have b1 := sa_bd h.1 n
    have b2 := rl_bd (k := P (23 + w)) (h.1.2.2.2.2.2 w hw).2 800 (by omega) b1.1 b1.2
    unfold rd at ih ⊢
    have hb : -800 ≤ (if ms n then (0 : Int32) else rw' P w (sa P n)).toInt ∧ (if ms n then (0 : Int32) else rw' P w (sa P n)).toInt ≤ 800 := by
      split
      · have e : (0 : Int32).toInt = 0 := by decide
        omega
      · exact b2
    have e : (raM P ms w (n + 1)).toInt = (raM P ms w n).toInt + (if ms n then (0 : Int32) else rw' P w (sa P n)).toInt := b_add (by omega) (by omega)
    rw [e]
    omega
/-! sums -/
def suN (f : Nat → Nat) : Nat → Nat
  | 0 => 0
  | n + 1 => suN f n + f n
theorem suN_le {f : Nat → Nat} {B : Nat} : ∀ n, (∀ i, i < n → f i ≤ B) → suN f n ≤ n * B
  | 0, _ => by show 0 ≤ _; omega
  | n + 1, h => by
    have := suN_le (f := f) n (fun i hi => h i (by omega))
    have h2 := h n (by omega)
    show suN f n + f n ≤ _
    rw [Nat.add_mul, Nat.one_mul]; omega
theorem suN_congr {f g : Nat → Nat} : ∀ {n : Nat}, (∀ i, i < n → f i = g i) → suN f n = suN g n
  | 0, _ => rfl
  | n + 1, h => by
    show suN f n + f n = suN g n + g n
    rw [suN_congr (fun i hi => h i (by omega)), h n (by omega)]
theorem suN_sh (f : Nat → Nat) : ∀ n, suN f (n + 1) = f 0 + suN (fun i => f (i + 1)) n
  | 0 => by show 0 + f 0 = f 0 + 0; omega
  | n + 1 => by
    show suN f (n + 1) + f (n + 1) = f 0 + (suN (fun i => f (i + 1)) n + f (n + 1))
    rw [suN_sh f n]; omega
theorem suN_rev (f : Nat → Nat) : ∀ n, suN (fun s => f (n - (s + 1))) n = suN f n
  | 0 => rfl
  | n + 1 => by
    rw [suN_sh]
    have : suN (fun i => f (n + 1 - (i + 1 + 1))) n = suN (fun s => f (n - (s + 1))) n := suN_congr (fun i hi => by rw [show n + 1 - (i + 1 + 1) = n - (i + 1) by omega])
    rw [this, suN_rev f n]
    show f (n + 1 - 1) + suN f n = suN f n + f n
    rw [show n + 1 - 1 = n by omega]; omega
theorem raM_ms {P : Pg} {ms ms' : Nat → Bool} {w : Nat} : ∀ {n : Nat}, (∀ e, e < n → ms e = ms' e) → raM P ms w n = raM P ms' w n
  | 0, _ => rfl
  | n + 1, h => by
    show raM P ms w n + (if ms n then 0 else _) = raM P ms' w n + (if ms' n then 0 else _)
    rw [raM_ms (fun e he => h e (by omega)), h n (by omega)]
theorem raM_pg {P P' : Pg} {ms : Nat → Bool} {w : Nat} (hO : OK0 P) (hw : w < 4) (he : ∀ j, j < 37 → P' j = P j) : ∀ n, raM P' ms w n = raM P ms w n
  | 0 => he (31 + w) (by omega)
  | n + 1 => by
    show raM P' ms w n + (if ms n then 0 else rw' P' w (sa P' n)) = raM P ms w n + (if ms n then 0 else rw' P w (sa P n))
    rw [raM_pg hO hw he n, sa_pg hO (fun j hj => he j (by omega)), rw_congr (he (23 + w) (by omega)) (he (27 + w) (by omega))]
theorem ch_rev {o s m : Nat} (hs : s < 2 ^ m) : ∀ n, n ≤ m → chR o s n = ch o (2 ^ m - (s + 1)) n
  | 0, _ => rfl
  | n + 1, hn => by
    show chR o s n * (if s.testBit n then o else 10 - o) = ch o _ n * (if (2 ^ m - (s + 1)).testBit n then 10 - o else o)
    rw [ch_rev hs n (by omega), Nat.testBit_two_pow_sub_succ hs]
    have : decide (n < m) = true := decide_eq_true (by omega)
    rw [this]
    cases s.testBit n <;> rfl
/-- what a row adds: TN of what is read, by its chances -/
def tX (TN : Int32 → Nat) (P : Pg) (o w n t : Nat) : Nat := ch o t n * TN (raM P (fun e => !t.testBit e) w n)
def tR (TN : Int32 → Nat) (P : Pg) (o w n s : Nat) : Nat := chR o s n * TN (raM P (fun e => s.testBit e) w n)
theorem t_rev {TN : Int32 → Nat} {P : Pg} {o w n : Nat} : suN (tR TN P o w n) (2 ^ n) = suN (tX TN P o w n) (2 ^ n) := by
  rw [← suN_rev (tX TN P o w n)]
  refine suN_congr (fun s hs => ?_)
  show chR o s n * TN _ = ch o (2 ^ n - (s + 1)) n * TN _
  rw [ch_rev hs n (by omega)]
  have : raM P (fun e => s.testBit e) w n = raM P (fun e => !(2 ^ n - (s + 1)).testBit e) w n := raM_ms (fun e he => by
    rw [Nat.testBit_two_pow_sub_succ hs, decide_eq_true he]; cases s.testBit e <;> rfl)
  rw [this]
theorem trI_fm {N1 N' : Mem} {P : Pg} {ms : Nat → Bool} {n : Nat} (h : trI (st0 (cpM N1 0 148 37)) N' 148 P ms n) : fm N1 N' := fm_st0.tr ⟨fun a x y _ => h.1 a x y, h.2.1, fun j hj => h.2.2.1 j (by omega)⟩
/-- what the reference adds for what is read -/
def TI (v3 x : Int32) : Int32 := if v3 = -4 then iabs x else if x < v3 - 20000000 then 0 else 1
set_option maxHeartbeats 1000000 in
theorem R_row {N N1 : Mem} {o w n s F : Nat} {v3 v5 : Int32} {up dn : Int64} {Q : Int64 → Mem → Prop} (hO : OK0 (pg N 0)) (hN : fm N N1) (ho : o ≤ 10) (hw : w < wN (pg N 0)) (hn : n ≤ 8) (hs : s < 1024) (hq : ∀ N2, fm N N2 → (p_X6_byMisses Q F).2.1 (nI o) (nI w) v3 (nI n) v5 (up + lN (chR o s n) * (TI v3 (raM (pg N 0) (fun e => s.testBit e) w n)).toInt64) dn (nI s + 1) N2) : ∀ j k, j + k = n → ∀ N', trI (st0 (cpM N1 0 148 37)) N' 148 (pg N1 0) (fun e => s.testBit e) k → (p_X6_byMisses Q (F + 2 + 3 * j)).2.2.1 (nI o) (nI w) v3 (nI n) v5 up dn (nI s) (lN (chR o s k)) (nI k) N' := by
  have h4 := hO.2.1.2
  have ht := hO.2.2.1.2
  have ep : ∀ j, j < 37 → pg N1 0 j = pg N 0 j := fun j hj => hN.2.2 (0 + j) (by omega)
  have hO1 : OK0 (pg N1 0) := OK0_pg hO ep
  have et : tN (pg N1 0) = tN (pg N 0) := tN_congr (ep 36 (by omega))
  have ew : wN (pg N1 0) = wN (pg N 0) := wN_congr (ep 35 (by omega))
  intro j
  induction j with
  | zero =>
    intro k hk N' hI
    have e : k = n := by omega
    subst e
    show f_X6_byMisses_53 Q (p_X6_byMisses Q (F + 1)) _ _ _ _ _ _ _ _ _ _ _
    unfold f_X6_byMisses_53
    rw [show (179 : Int32) + nI w = nI (179 + w) by rw [li 179, nI_add], nI_clamp (by omega)]
    have e179 : N' 1 (179 + w) = raM (pg N 0) (fun e => s.testBit e) w k := (hI.2.2.2.2.2.1 w (by rw [ew]; exact hw)).trans (raM_pg hO (by omega) ep k)
    have hq2 := hq N' (hN.tr (trI_fm hI))
    refine br_t (nI_le (by omega) (by omega)) ⟨vp_in_nI (by omega) (by omega), fun x hx => ?_⟩
    rw [e179] at hx
    subst hx
    unfold TI at hq2
    refine bn_c (fun z => br_c (fun y => ?_) (fun y => ?_)) (fun z => R_amount ?_)
    · rw [if_neg z, if_pos y] at hq2; exact hq2
    · rw [if_neg z, if_neg y] at hq2; exact hq2
    · rw [if_pos z] at hq2; exact hq2
  | succ j ih =>
    intro k hk N' hI
    rw [show F + 2 + 3 * (j + 1) = F + 2 + 3 * j + 3 by omega]
    show f_X6_byMisses_53 Q (p_X6_byMisses Q (F + 2 + 3 * j + 2)) _ _ _ _ _ _ _ _ _ _ _
    unfold f_X6_byMisses_53
    rw [bt_t (t := s) (e := k) hs (by omega)]
    have nx : ∀ (m : Int32) (c : Nat), (m = 0 ∧ s.testBit k = false) ∨ (¬ m = 0 ∧ s.testBit k = true) → c = (if s.testBit k then o else 10 - o) → (p_X6_byMisses Q (F + 2 + 3 * j + 1)).2.2.2.2.1 (nI o) (nI w) v3 (nI n) v5 up dn (nI s) (nI k) m (lN c) (lN (chR o s k)) N' := by
      intro m c hm hc
      show f_X6_byMisses_95 Q (p_X6_byMisses Q (F + 2 + 3 * j)) _ _ _ _ _ _ _ _ _ _ _ _ _
      refine R_tracesOn (p := 148) (by omega) hO1.one (by omega) (fun i hi => st0_pg (by omega)) hI hm (fun N2 h2 => ?_)
      rw [lN_mul, nI_1, hc]
      exact ih (k + 1) (by omega) N2 h2
    refine br_f (nI_ge (by omega) (by omega)) (bn_c (fun hb => ?_) (fun hb => ?_))
    · have hf : s.testBit k = false := by
        cases hh : s.testBit k with
        | true => rw [hh] at hb; exact absurd rfl hb
        | false => rfl
      show f_X6_byMisses_76 Q (p_X6_byMisses Q (F + 2 + 3 * j + 1)) _ _ _ _ _ _ _ _ _ _ _ _
      refine br_t rfl ?_
      rw [ten_o ho, nI_l (by omega)]
      exact nx 0 _ (Or.inl ⟨rfl, hf⟩) (by rw [hf]; rfl)
    · have hf : s.testBit k = true := if1'.mp hb
      show f_X6_byMisses_76 Q (p_X6_byMisses Q (F + 2 + 3 * j + 1)) _ _ _ _ _ _ _ _ _ _ _ _
      refine br_f ne10 ?_
      rw [nI_l (by omega)]
      exact nx 1 _ (Or.inr ⟨ne10, hf⟩) (by rw [hf]; rfl)
