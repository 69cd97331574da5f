/-! the reference: errors, edges, traces -/
theorem i_sub4 (a b x y : Int32) : (a - b) + (x - y) = (a + x) - (b + y) := by grind
theorem sm_sub (f g : Nat → Int32) : ∀ n, sm (fun i => f i - g i) n = sm f n - sm g n
  | 0 => by simp [sm]
  | n + 1 => by
    show sm (fun i => f i - g i) n + (f n - g n) = (sm f n + f n) - (sm g n + g n)
    rw [sm_sub f g n, i_sub4]
set_option maxHeartbeats 1000000 in
theorem R_errorOn {N : Mem} {p w : Nat} {Q : Int32 → Mem → Prop} (hp : p ≤ 185) (hO : OK0 (pg N p)) (hl : N 0 14 = -4) (hw : w < wN (pg N p)) (hq : Q (er (pg N p) w) N) : q_X6_errorOn (nI p) (nI w) N Q := by
  have h10 := hO.1.2
  have h4 := hO.2.1.2
  have hc := hO.1.1
  have key : ∀ j k, j + k = cN (pg N p) → p_X6_errorOn Q (j + 1) (nI p) (nI w) (sm (fun i => rw' (pg N p) w (sw (pg N p) i)) k) (nI k) N := by
    intro j
    induction j with
    | zero =>
      intro k hk
      show f_X6_errorOn_5 Q (p_X6_errorOn Q 0) _ _ _ _ _
      unfold f_X6_errorOn_5
      simp only [li, nI_add]
      rw [pgk N p 20 (p + 20) rfl (by omega), hc]
      refine ⟨vp_in_nI (by omega) (by omega), br_t (nI_le (by omega) (by omega)) (R_area hp hO hl (R_amount ?_))⟩
      rw [show k = cN (pg N p) by omega]
      have e : er (pg N p) w = iabs (sm (fun i => rw' (pg N p) w (sw (pg N p) i)) (cN (pg N p)) - ar (pg N p)) := by
        unfold er ar
        rw [sm_sub]
      rw [← e]
      exact hq
    | succ j ih =>
      intro k hk
      show f_X6_errorOn_5 Q (p_X6_errorOn Q (j + 1)) _ _ _ _ _
      unfold f_X6_errorOn_5
      simp only [li, nI_add]
      rw [pgk N p 20 (p + 20) rfl (by omega), hc]
      have hb : bh (cN (pg N p)) k < cN (pg N p) := bh_lt (by omega)
      refine ⟨vp_in_nI (by omega) (by omega), br_f (nI_ge (by omega) (by omega)) (R_behindOn hp hc h10 (by omega) (R_sweepOn hp (by omega) (by omega) (R_rollsOn hp (by omega) (hO.2.2.2.2.2 w hw).1 (hO.2.2.2.2.2 w hw).2 ?_)))⟩
      exact ih (k + 1) (by omega)
  exact ⟨_, key (cN (pg N p)) 0 (by omega)⟩
/-- a page's live part: what edges need -/
def OK1 (P : Pg) : Prop := (P 20 = nI (cN P) ∧ cN P ≤ 10) ∧ (P 35 = nI (wN P) ∧ wN P ≤ 4) ∧ ∀ i, i < wN P → kd (P (23 + i)) ∧ sp (P (27 + i))
theorem OK0.one {P : Pg} (h : OK0 P) : OK1 P := ⟨h.1, h.2.1, h.2.2.2.2.2⟩
/-- k wheels have rolled -/
def edI (N N' : Mem) (p k : Nat) (x : Int32) : Prop := (∀ a, a ≠ 0 → a ≠ 1 → N' a = N a) ∧ (∀ j, j ≠ 15 → N' 0 j = N 0 j) ∧ N' 0 15 = N 0 15 + sm (fun w => iabs (rw' (pg N p) w x)) k ∧ ∀ j, N' 1 j = if p + 31 ≤ j ∧ j < p + 31 + k then N 1 j + rw' (pg N p) (j - (p + 31)) x else N 1 j
def rest1 (P : Pg) (x : Int32) : Nat → Bool
  | 0 => false
  | n + 1 => rest1 P x n || decide (rw' P n x = 0)
def b1 (b : Bool) : Int32 := if b then 1 else 0
theorem i_assoc (a b c : Int32) : a + b + c = a + (b + c) := by grind
theorem edI_0 {N : Mem} {p : Nat} {x : Int32} : edI N N p 0 x := by
  refine ⟨fun _ _ _ => rfl, fun _ _ => rfl, ?_, fun j => ?_⟩
  · show N 0 15 = N 0 15 + 0
    rw [add_z]
  · rw [if_neg (by omega)]
theorem edI_s {N N' : Mem} {p k : Nat} {x : Int32} (h : edI N N' p k x) : edI N (mU (mU N' 1 (p + 31 + k) (N' 1 (p + 31 + k) + rw' (pg N p) k x)) 0 15 ((mU N' 1 (p + 31 + k) (N' 1 (p + 31 + k) + rw' (pg N p) k x)) 0 15 + iabs (rw' (pg N p) k x))) p (k + 1) x := by
  obtain ⟨h1, h2, h3, h4⟩ := h
  refine ⟨fun a ha hb => ?_, fun j hj => ?_, ?_, fun j => ?_⟩
  · rw [mU_n ha, mU_n hb, h1 a ha hb]
  · rw [mU_at, if_neg (fun q => hj q.2), mU_at, if_neg (fun q => absurd q.1 (by decide)), h2 j hj]
  · rw [mU_at, if_pos ⟨rfl, rfl⟩, mU_at, if_neg (fun q => absurd q.1 (by decide)), h3, i_assoc]
    rfl
  · rw [mU_at, if_neg (fun q => absurd q.1 (by decide)), mU_at]
    by_cases hj : j = p + 31 + k
    · subst hj
      rw [if_pos ⟨rfl, rfl⟩, if_pos (by omega), h4, if_neg (by omega), show p + 31 + k - (p + 31) = k by omega]
    · rw [if_neg (fun q => hj q.2), h4]
      by_cases hj2 : p + 31 ≤ j ∧ j < p + 31 + k
      · rw [if_pos hj2, if_pos (by omega)]
      · rw [if_neg hj2, if_neg (by omega)]
theorem pg_rest {N N' : Mem} {p : Nat} (h : ∀ j, (j < p + 31 ∨ p + 35 ≤ j) → N' 1 j = N 1 j) {j : Nat} (hj : j < 31 ∨ 35 ≤ j) : pg N' p j = pg N p j := h (p + j) (by omega)
theorem cN_congr {P P' : Pg} (h : P 20 = P' 20) : cN P = cN P' := by unfold cN; rw [h]
theorem wN_congr {P P' : Pg} (h : P 35 = P' 35) : wN P = wN P' := by unfold wN; rw [h]
theorem rw_congr {P P' : Pg} {w : Nat} (h1 : P (23 + w) = P' (23 + w)) (h2 : P (27 + w) = P' (27 + w)) (x : Int32) : rw' P w x = rw' P' w x := by unfold rw'; rw [h1, h2]
theorem swp_congr {P P' : Pg} {i k : Nat} (h : ∀ j, j < 23 → P j = P' j) (hi : i < 10) (hk : k < 10) : swp P i k = swp P' i k := by
  unfold swp
  rw [h i (by omega), h k (by omega), h (10 + i) (by omega), h (10 + k) (by omega), h 21 (by omega), h 22 (by omega)]
theorem sw_congr {P P' : Pg} {i : Nat} (h : ∀ j, j < 23 → P j = P' j) (h10 : cN P ≤ 10) (hi : i < cN P) : sw P i = sw P' i := by
  have hb : bh (cN P) i < cN P := bh_lt (by omega)
  unfold sw
  rw [← cN_congr (h 20 (by omega))]
  exact swp_congr h (by omega) (by omega)
/-- what an edge of sweep x does to a page's wheels and to the three counters -/
def edF (N N' : Mem) (p : Nat) (x : Int32) : Prop := (∀ a, a ≠ 0 → a ≠ 1 → N' a = N a) ∧ (∀ j, (j < 15 ∨ 17 < j) → N' 0 j = N 0 j) ∧ N' 0 15 = N 0 15 + rba (pg N p) x ∧ N' 0 16 = N 0 16 + b1 (rest1 (pg N p) x (wN (pg N p))) ∧ N' 0 17 = imax (N 0 17) x ∧ ∀ j, N' 1 j = if p + 31 ≤ j ∧ j < p + 31 + wN (pg N p) then N 1 j + rw' (pg N p) (j - (p + 31)) x else N 1 j
theorem edI_pg {N N' : Mem} {p k : Nat} {x : Int32} (h : edI N N' p k x) (hk : k ≤ 4) {j : Nat} (hj : j < 31 ∨ 35 ≤ j) : pg N' p j = pg N p j := by
  have := h.2.2.2 (p + j)
  rw [if_neg (by omega)] at this
  exact this
set_option maxHeartbeats 2000000 in
theorem R_edgeOn {N : Mem} {p i : Nat} {Q : Mem → Prop} (hp : p ≤ 185) (hO : OK1 (pg N p)) (hi : i < cN (pg N p)) (hq : ∀ N', edF N N' p (sw (pg N p) i) → Q N') : q_X6_edgeOn (nI p) (nI i) N Q := by
  have h10 := hO.1.2
  have h4 := hO.2.1.2
  have hc := hO.1.1
  have hw := hO.2.1.1
  generalize hx : sw (pg N p) i = x at hq
  have key : ∀ j k, j + k = wN (pg N p) → ∀ N', edI N N' p k x → ∃ n, (p_X6_edgeOn Q n).1 (nI p) x (b1 (rest1 (pg N p) x k)) (nI k) N' := by
    intro j
    induction j with
    | zero =>
      intro k hk N' hE
      have e35 : N' 1 (nI (p + 35)).toNatClampNeg = nI (wN (pg N p)) := by
        rw [pgk N' p 35 (p + 35) rfl (by omega), edI_pg hE (by omega) (by omega)]
        exact hw
      have hk2 : k = wN (pg N p) := by omega
      refine ⟨3, ?_⟩
      show f_X6_edgeOn_19 Q (p_X6_edgeOn Q 2) _ _ _ _ _
      unfold f_X6_edgeOn_19
      simp only [li 35, nI_add]
      rw [e35]
      have fin : ∀ b : Int32, b = b1 (rest1 (pg N p) x k) → (p_X6_edgeOn Q 2).2.2.2.1 x b (N' 0 16) N' := by
        intro b hb
        show f_X6_edgeOn_112 Q (p_X6_edgeOn Q 1) _ _ _ _
        have e17 : (mU N' 0 16 (N' 0 16 + b)) 0 17 = N 0 17 := by
          rw [mU_at, if_neg (fun q => absurd q.2 (by decide)), hE.2.1 17 (by decide)]
        have last : ∀ z : Int32, z = imax (N 0 17) x → Q (mU (mU N' 0 16 (N' 0 16 + b)) 0 17 z) := by
          intro z hz
          refine hq _ ⟨fun a ha hb2 => ?_, fun j hj => ?_, ?_, ?_, ?_, fun j => ?_⟩
          · rw [mU_n ha, mU_n ha, hE.1 a ha hb2]
          · rw [mU_at, if_neg (fun q => by omega), mU_at, if_neg (fun q => by omega), hE.2.1 j (by omega)]
          · rw [mU_at, if_neg (fun q => absurd q.2 (by decide)), mU_at, if_neg (fun q => absurd q.2 (by decide)), hE.2.2.1, hk2]
            rfl
          · rw [mU_at, if_neg (fun q => absurd q.2 (by decide)), mU_at, if_pos ⟨rfl, rfl⟩, hE.2.1 16 (by decide), hb, hk2]
          · rw [mU_at, if_pos ⟨rfl, rfl⟩, hz]
          · rw [mU_n (by decide), mU_n (by decide), hE.2.2.2 j, hk2]
        unfold f_X6_edgeOn_112
        rw [e17]
        refine br_c (fun h => ?_) (fun h => ?_)
        · show Q _
          exact last _ (by unfold imax; rw [if_neg (Int32.not_lt.mpr h)])
        · show Q _
          exact last _ (by unfold imax; rw [if_pos (Int32.not_le.mp h)])
      refine ⟨vp_in_nI (by omega) (by omega), br_t (nI_le (by omega) (by omega)) (br_c (fun h => fin 0 h.symm) (fun h => fin 1 ?_))⟩
      unfold b1 at h ⊢
      by_cases hr : rest1 (pg N p) x k = true
      · rw [if_pos hr]
      · rw [if_neg hr] at h
        exact absurd rfl h
    | succ j ih =>
      intro k hk N' hE
      have e35 : N' 1 (nI (p + 35)).toNatClampNeg = nI (wN (pg N p)) := by
        rw [pgk N' p 35 (p + 35) rfl (by omega), edI_pg hE (by omega) (by omega)]
        exact hw
      have e23 : pg N' p (23 + k) = pg N p (23 + k) := edI_pg hE (by omega) (by omega)
      have e27 : pg N' p (27 + k) = pg N p (27 + k) := edI_pg hE (by omega) (by omega)
      have erw : rw' (pg N' p) k x = rw' (pg N p) k x := rw_congr e23 e27 x
      have hks := hO.2.2 k (by omega)
      obtain ⟨n, hn⟩ := ih (k + 1) (by omega) _ (edI_s hE)
      generalize hMx : mU (mU N' 1 (p + 31 + k) (N' 1 (p + 31 + k) + rw' (pg N p) k x)) 0 15 ((mU N' 1 (p + 31 + k) (N' 1 (p + 31 + k) + rw' (pg N p) k x)) 0 15 + iabs (rw' (pg N p) k x)) = Mx at hn
      have core : ∀ m, ((¬ b1 (rest1 (pg N p) x k) = 0 → (p_X6_edgeOn Q m).2.1 (nI p) x (nI k) Mx) ∧ (b1 (rest1 (pg N p) x k) = 0 → ((¬ rw' (pg N p) k x = 0 → (p_X6_edgeOn Q m).2.2.1 (nI p) x (nI k) 0 Mx) ∧ (rw' (pg N p) k x = 0 → (p_X6_edgeOn Q m).2.1 (nI p) x (nI k) Mx)))) → (p_X6_edgeOn Q (m + 1)).1 (nI p) x (b1 (rest1 (pg N p) x k)) (nI k) N' := by
        intro m hm
        show f_X6_edgeOn_19 Q (p_X6_edgeOn Q m) _ _ _ _ _
        unfold f_X6_edgeOn_19
        simp only [li 35, li 31, nI_add]
        rw [e35]
        refine ⟨vp_in_nI (by omega) (by omega), br_f (nI_ge (by omega) (by omega)) (R_rollsOn hp (by omega) (by rw [e23]; exact hks.1) (by rw [e27]; exact hks.2) ?_)⟩
        rw [erw, nI_clamp (by omega)]
        refine ⟨vp_in_nI (by omega) (by omega), vp_in_nI (by omega) (by omega), fun M10 hM => R_amount ?_⟩
        subst hM
        rw [hMx]
        exact hm
      have t89 : ∀ b : Int32, b = b1 (rest1 (pg N p) x (k + 1)) → (p_X6_edgeOn Q (n + 1)).2.2.1 (nI p) x (nI k) b Mx := by
        intro b hb
        show (p_X6_edgeOn Q n).1 _ _ _ _ _
        rw [hb, nI_1]
        exact hn
      have t84 : b1 (rest1 (pg N p) x (k + 1)) = 1 → (p_X6_edgeOn Q (n + 2)).2.1 (nI p) x (nI k) Mx := fun hb => t89 1 hb.symm
      by_cases hr : rest1 (pg N p) x k = true
      · have h0 : ¬ b1 (rest1 (pg N p) x k) = 0 := by rw [hr]; decide
        exact ⟨n + 3, core _ (bn_f h0 (t84 (by show b1 (rest1 (pg N p) x k || _) = 1; rw [hr]; rfl)))⟩
      · have hr2 : rest1 (pg N p) x k = false := by simpa using hr
        have h0 : b1 (rest1 (pg N p) x k) = 0 := by rw [hr2]; rfl
        by_cases hz : rw' (pg N p) k x = 0
        · exact ⟨n + 3, core _ (bn_t h0 (bn_t hz (t84 (by show b1 (rest1 (pg N p) x k || decide (rw' (pg N p) k x = 0)) = 1; rw [hr2, decide_eq_true hz]; rfl))))⟩
        · exact ⟨n + 2, core _ (bn_t h0 (bn_f hz (t89 0 (by show 0 = b1 (rest1 (pg N p) x k || decide (rw' (pg N p) k x = 0)); rw [hr2, decide_eq_false hz]; rfl))))⟩
  obtain ⟨n, hn⟩ := key (wN (pg N p)) 0 (by omega) N edI_0
  have hb : bh (cN (pg N p)) i < cN (pg N p) := bh_lt (by omega)
  refine ⟨n, R_behindOn hp hc h10 hi (R_sweepOn hp (by omega) (by omega) ?_)⟩
  have e : swp (pg N p) i (bh (cN (pg N p)) i) = x := hx
  rw [e]
  exact hn
/-- n edges, some of them missed -/
def raM (P : Pg) (ms : Nat → Bool) (w : Nat) : Nat → Int32
  | 0 => P (31 + w)
  | n + 1 => raM P ms w n + (if ms n then 0 else rw' P w (sa P n))
def idl (P : Pg) : Nat → Int32
  | 0 => 0
  | n + 1 => idl P n + (if cN P = 0 then 0 else b1 (rest1 P (sa P n) (wN P)))
def grt (P : Pg) (g : Int32) : Nat → Int32
  | 0 => g
  | n + 1 => if cN P = 0 then grt P g n else imax (grt P g n) (sa P n)
def trI (N1 N : Mem) (p : Nat) (P : Pg) (ms : Nat → Bool) (n : Nat) : Prop :=
  (∀ a, a ≠ 0 → a ≠ 1 → N a = N1 a) ∧ (∀ j, (j < 15 ∨ 17 < j) → N 0 j = N1 0 j) ∧ (∀ j, (j < p + 31 ∨ p + 37 ≤ j) → N 1 j = N1 1 j) ∧ N 1 (p + 35) = P 35 ∧ N 1 (p + 36) = nI (tN P + n) ∧ (∀ w, w < wN P → N 1 (p + 31 + w) = raM P ms w n) ∧
  ((∀ k, ms k = false) → N 0 15 = N1 0 15 + sm (fun k => rba P (sa P k)) n ∧ N 0 16 = N1 0 16 + idl P n ∧ N 0 17 = grt P (N1 0 17) n)
theorem rl_0 {k s : Int32} (h : sp s) : rl k s 0 = 0 := by
  obtain ⟨h1, h2⟩ := h
  have hz : ¬ s ≤ 0 := fun q => by
    have := Int32.le_iff_toInt_le.mp q
    have e : (0 : Int32).toInt = 0 := by decide
    omega
  have e0 : iabs 0 = 0 := by decide
  unfold rl
  rw [e0, if_neg hz]
  simp
theorem rba_0 {P : Pg} (h : OK1 P) : rba P 0 = 0 := by
  have key : ∀ n, n ≤ wN P → sm (fun w => iabs (rw' P w 0)) n = 0 := by
    intro n
    induction n with
    | zero => intro _; rfl
    | succ n ih =>
      intro hn
      show sm (fun w => iabs (rw' P w 0)) n + iabs (rw' P n 0) = 0
      have e : rw' P n 0 = 0 := rl_0 (h.2.2 n (by omega)).2
      rw [ih (by omega), e]
      decide
  exact key _ (Nat.le_refl _)
theorem ra_raM (P : Pg) (w : Nat) : ∀ n, raM P (fun _ => false) w n = ra P w n
  | 0 => rfl
  | n + 1 => by
    show raM P (fun _ => false) w n + (if false = true then 0 else rw' P w (sa P n)) = ra P w n + rw' P w (sa P n)
    rw [ra_raM P w n, if_neg (by decide)]
theorem trI_0 {N : Mem} {p : Nat} {ms : Nat → Bool} (h : (pg N p) 36 = nI (tN (pg N p))) : trI N N p (pg N p) ms 0 := by
  refine ⟨fun _ _ _ => rfl, fun _ _ => rfl, fun _ _ => rfl, rfl, h, fun w _ => by rw [Nat.add_assoc]; rfl, fun _ => ⟨?_, ?_, rfl⟩⟩
  · show N 0 15 = N 0 15 + 0
    rw [add_z]
  · show N 0 16 = N 0 16 + 0
    rw [add_z]
