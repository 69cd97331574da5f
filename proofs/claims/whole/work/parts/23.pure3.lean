theorem rba_congr {P P' : Pg} (h : ∀ j, j < 31 → P j = P' j) (h35 : P 35 = P' 35) (h4 : wN P ≤ 4) (x : Int32) : rba P x = rba P' x := by
  unfold rba
  rw [← wN_congr h35]
  exact sm_congr (fun i hi => by rw [rw_congr (h (23 + i) (by omega)) (h (27 + i) (by omega))])
theorem rest1_congr {P P' : Pg} (h : ∀ j, j < 31 → P j = P' j) (x : Int32) : ∀ n, n ≤ 4 → rest1 P x n = rest1 P' x n
  | 0, _ => rfl
  | n + 1, hn => by
    show (rest1 P x n || decide (rw' P n x = 0)) = (rest1 P' x n || decide (rw' P' n x = 0))
    rw [rest1_congr h x n (by omega), rw_congr (h (23 + n) (by omega)) (h (27 + n) (by omega))]
theorem OK1_congr {P P' : Pg} (h : ∀ j, j < 31 → P j = P' j) (h35 : P 35 = P' 35) (hO : OK1 P) : OK1 P' := by
  have ec := cN_congr (h 20 (by omega))
  have ew := wN_congr h35
  obtain ⟨⟨a1, a2⟩, ⟨b1, b2⟩, d⟩ := hO
  refine ⟨⟨?_, ?_⟩, ⟨?_, ?_⟩, fun i hi => ?_⟩
  · rw [← ec, ← h 20 (by omega)]; exact a1
  · rw [← ec]; exact a2
  · rw [← ew, ← h35]; exact b1
  · rw [← ew]; exact b2
  · rw [← ew] at hi
    rw [← h (23 + i) (by omega), ← h (27 + i) (by omega)]
    exact d i hi
theorem trI_pg {N1 N : Mem} {p : Nat} {P : Pg} {ms : Nat → Bool} {n : Nat} (hpg : ∀ j, j < 31 → N1 1 (p + j) = P j) (h : trI N1 N p P ms n) {j : Nat} (hj : j < 31) : P j = pg N p j := by
  have := h.2.2.1 (p + j) (by omega)
  rw [hpg j hj] at this
  exact this.symm
set_option maxHeartbeats 2000000 in
theorem R_tracesOn {N1 N : Mem} {p n : Nat} {P : Pg} {ms : Nat → Bool} {m : Int32} {Q : Mem → Prop} (hp : p ≤ 185) (hO : OK1 P) (ht : tN P + n ≤ 100000) (hpg : ∀ j, j < 31 → N1 1 (p + j) = P j) (hI : trI N1 N p P ms n) (hm : (m = 0 ∧ ms n = false) ∨ (¬ m = 0 ∧ ms n = true)) (hq : ∀ N', trI N1 N' p P ms (n + 1) → Q N') : q_X6_tracesOn (nI p) m N Q := by
  have hP : ∀ j, j < 31 → P j = pg N p j := fun j hj => trI_pg hpg hI hj
  have h35 : P 35 = pg N p 35 := hI.2.2.2.1.symm
  have ec := cN_congr (hP 20 (by omega))
  have ew := wN_congr h35
  have hO2 := OK1_congr hP h35 hO
  have h10 := hO.1.2
  have h4 := hO.2.1.2
  have e36 : N 1 (nI (p + 36)).toNatClampNeg = nI (tN P + n) := by
    rw [nI_clamp (by omega)]
    exact hI.2.2.2.2.1
  have e20 : N 1 (nI (p + 20)).toNatClampNeg = nI (cN P) := by
    rw [pgk N p 20 (p + 20) rfl (by omega), ← hP 20 (by omega)]
    exact hO.1.1
  have last : ∀ N2 : Mem, N2 1 (p + 36) = nI (tN P + n) → trI N1 (mU N2 1 (p + 36) (nI (tN P + n) + 1)) p P ms (n + 1) → f_X6_tracesOn_34 Q (nI p) N2 := by
    intro N2 h36 hT
    unfold f_X6_tracesOn_34
    simp only [li 36, nI_add]
    rw [nI_clamp (by omega), h36]
    exact ⟨vp_in_nI (by omega) (by omega), vp_in_nI (by omega) (by omega), fun M8 hM => by subst hM; exact hq _ hT⟩
  -- nothing is traced
  have skip : (ms n = true ∨ cN P = 0) → f_X6_tracesOn_34 Q (nI p) N := by
    intro hs
    refine last N hI.2.2.2.2.1 ?_
    obtain ⟨i1, i2, i3, i4, i5, i6, i7⟩ := hI
    refine ⟨fun a h0 h1 => ?_, fun j hj => ?_, fun j hj => ?_, ?_, ?_, fun w hw => ?_, fun hf => ?_⟩
    · rw [mU_n h1]; exact i1 a h0 h1
    · rw [mU_n (by decide)]; exact i2 j hj
    · rw [mU_at, if_neg (fun q => by omega)]; exact i3 j hj
    · rw [mU_at, if_neg (fun q => by omega)]; exact i4
    · rw [mU_at, if_pos ⟨rfl, rfl⟩, nI_1]; rfl
    · rw [mU_at, if_neg (fun q => by omega), i6 w hw]
      show _ = raM P ms w n + (if ms n then 0 else rw' P w (sa P n))
      rcases hs with hs | hs
      · rw [if_pos hs, add_z]
      · have e : sa P n = 0 := if_pos hs
        have e2 : rw' P w 0 = 0 := rl_0 (hO.2.2 w hw).2
        rw [e, e2]
        split <;> rw [add_z]
    · obtain ⟨j1, j2, j3⟩ := i7 hf
      have hs : cN P = 0 := by
        rcases hs with hs | hs
        · rw [hf n] at hs; cases hs
        · exact hs
      have e : sa P n = 0 := if_pos hs
      refine ⟨?_, ?_, ?_⟩
      · rw [mU_n (by decide), j1]
        show _ = N1 0 15 + (sm (fun k => rba P (sa P k)) n + rba P (sa P n))
        rw [e, rba_0 hO, add_z]
      · rw [mU_n (by decide), j2]
        show _ = N1 0 16 + (idl P n + (if cN P = 0 then 0 else _))
        rw [if_pos hs, add_z]
      · rw [mU_n (by decide), j3]
        show _ = if cN P = 0 then grt P (N1 0 17) n else _
        rw [if_pos hs]
  unfold q_X6_tracesOn
  simp only [li 20, li 36, nI_add]
  rw [e36, e20]
  refine ⟨vp_in_nI (by omega) (by omega), fun x hx => ?_⟩
  subst hx
  by_cases hz : cN P = 0
  · exact br_t (by rw [hz]; exact Int32.le_refl _) (skip (Or.inr hz))
  refine br_f (nI_nle (by omega) (by omega)) ?_
  rcases hm with ⟨hm, hms⟩ | ⟨hm, hms⟩
  · refine bn_t hm ⟨vp_in_nI (by omega) (by omega), nI_ne0 (by omega) (by omega), ?_⟩
    rw [pk_rem (by omega) (by omega) (by omega)]
    have hlt : (tN P + n) % cN P < cN P := Nat.mod_lt _ (by omega)
    have es : sw (pg N p) ((tN P + n) % cN P) = sa P n := by
      rw [← sw_congr (fun j hj => hP j (by omega)) h10 hlt]
      exact (if_neg hz).symm
    refine R_edgeOn hp hO2 (by rw [← ec]; exact hlt) (fun N2 hE => ?_)
    rw [es] at hE
    obtain ⟨f1, f2, f3, f4, f5, f6⟩ := hE
    obtain ⟨i1, i2, i3, i4, i5, i6, i7⟩ := hI
    rw [← ew] at f4 f6
    have hrw : ∀ w, w < 4 → ∀ x, rw' (pg N p) w x = rw' P w x := fun w hw x => (rw_congr (hP (23 + w) (by omega)) (hP (27 + w) (by omega)) x).symm
    refine last N2 (by rw [f6, if_neg (by omega)]; exact i5) ⟨fun a h0 h1 => ?_, fun j hj => ?_, fun j hj => ?_, ?_, ?_, fun w hw => ?_, fun hf => ?_⟩
    · rw [mU_n h1, f1 a h0 h1]; exact i1 a h0 h1
    · rw [mU_n (by decide), f2 j hj]; exact i2 j hj
    · rw [mU_at, if_neg (fun q => by omega), f6, if_neg (by omega)]; exact i3 j hj
    · rw [mU_at, if_neg (fun q => by omega), f6, if_neg (by omega)]; exact i4
    · rw [mU_at, if_pos ⟨rfl, rfl⟩, nI_1]; rfl
    · rw [mU_at, if_neg (fun q => by omega), f6, if_pos (by omega), i6 w hw, show p + 31 + w - (p + 31) = w by omega, hrw w (by omega)]
      show _ = raM P ms w n + (if ms n then 0 else rw' P w (sa P n))
      rw [hms, if_neg (by decide)]
    · obtain ⟨j1, j2, j3⟩ := i7 hf
      refine ⟨?_, ?_, ?_⟩
      · rw [mU_n (by decide), f3, j1, ← rba_congr hP h35 h4, i_assoc]
        rfl
      · rw [mU_n (by decide), f4, j2, ← rest1_congr hP _ _ h4, i_assoc]
        show _ = N1 0 16 + (idl P n + (if cN P = 0 then 0 else _))
        rw [if_neg hz]
      · rw [mU_n (by decide), f5, j3]
        show _ = if cN P = 0 then grt P (N1 0 17) n else imax (grt P (N1 0 17) n) (sa P n)
        rw [if_neg hz]
  · exact bn_f hm (skip (Or.inl hms))
/-- a page copied onto another place, k numbers of it -/
def cpM (N : Mem) (f t k : Nat) : Mem := mR N 1 (fun j => if t ≤ j ∧ j < t + k then N 1 (f + (j - t)) else N 1 j)
set_option maxHeartbeats 1000000 in
theorem R_copies {N : Mem} {f t : Nat} {Q : Mem → Prop} (hf : f ≤ 185) (ht : t ≤ 185) (hd : f + 37 ≤ t ∨ t + 37 ≤ f) (hq : Q (cpM N f t 37)) : q_X6_copies (nI f) (nI t) N Q := by
  have key : ∀ j k, j + k = 37 → p_X6_copies Q (j + 1) (nI f) (nI t) (nI k) (cpM N f t k) := by
    intro j
    induction j with
    | zero =>
      intro k hk
      refine br_t (by rw [li 37]; exact nI_le (by omega) (by omega)) ?_
      rw [show k = 37 by omega]
      exact hq
    | succ j ih =>
      intro k hk
      show f_X6_copies_2 Q (p_X6_copies Q (j + 1)) _ _ _ _
      unfold f_X6_copies_2
      simp only [nI_add]
      refine br_f (by rw [li 37]; exact nI_ge (by omega) (by omega)) ⟨vp_in_nI (by omega) (by omega), vp_in_nI (by omega) (by omega), ?_⟩
      rw [nI_1, nI_clamp (by omega), nI_clamp (by omega)]
      have e : mU (cpM N f t k) 1 (t + k) ((cpM N f t k) 1 (f + k)) = cpM N f t (k + 1) := by
        funext a b
        rw [mU_at]
        unfold cpM
        by_cases ha : a = 1
        · subst ha
          rw [mR_s, mR_s]
          by_cases hb : b = t + k
          · subst hb
            rw [if_pos ⟨rfl, rfl⟩, if_neg (by omega), if_pos (by omega), show t + k - t = k by omega]
          · rw [if_neg (fun q => hb q.2)]
            by_cases hb2 : t ≤ b ∧ b < t + k
            · rw [if_pos hb2, if_pos (by omega)]
            · rw [if_neg hb2, if_neg (by omega)]
        · rw [if_neg (fun q => ha q.1), mR_n ha, mR_n ha]
      rw [e]
      exact ih (k + 1) (by omega)
  refine ⟨38, ?_⟩
  have e0 : cpM N f t 0 = N := by
    funext a b
    unfold cpM
    by_cases ha : a = 1
    · subst ha
      rw [mR_s, if_neg (by omega)]
    · rw [mR_n ha]
  have := key 37 0 rfl
  rw [e0] at this
  exact this
/-- edges on the page that is tried, from the first page on -/
def tri (N N' : Mem) (P : Pg) (n : Nat) : Prop :=
  (∀ a, a ≠ 0 → a ≠ 1 → N' a = N a) ∧ (∀ j, (j < 15 ∨ 17 < j) → N' 0 j = N 0 j) ∧ (∀ j, (j < 148 ∨ 185 ≤ j) → N' 1 j = N 1 j) ∧ (∀ w, w < wN P → N' 1 (179 + w) = ra P w n) ∧ N' 0 15 = sm (fun k => rba P (sa P k)) n ∧ N' 0 16 = idl P n ∧ N' 0 17 = grt P (-1000000) n
def st0 (N : Mem) : Mem := mU (mU (mU N 0 15 0) 0 16 0) 0 17 (-1000000)
theorem z_add (x : Int32) : 0 + x = x := by simp
theorem R_tried {N N' : Mem} {ms : Nat → Bool} {n : Nat} (hf : ∀ k, ms k = false) (h : trI (st0 (cpM N 0 148 37)) N' 148 (pg N 0) ms n) : tri N N' (pg N 0) n := by
  obtain ⟨i1, i2, i3, i4, i5, i6, i7⟩ := h
  obtain ⟨j1, j2, j3⟩ := i7 hf
  refine ⟨fun a h0 h1 => ?_, fun j hj => ?_, fun j hj => ?_, fun w hw => ?_, ?_, ?_, ?_⟩
  · rw [i1 a h0 h1]
    unfold st0 cpM
    rw [mU_n h0, mU_n h0, mU_n h0, mR_n h1]
  · rw [i2 j hj]
    unfold st0 cpM
    rw [mU_at, if_neg (fun q => by omega), mU_at, if_neg (fun q => by omega), mU_at, if_neg (fun q => by omega), mR_n (by decide)]
  · rw [i3 j (by omega)]
    unfold st0 cpM
    rw [mU_n (by decide), mU_n (by decide), mU_n (by decide), mR_s, if_neg (by omega)]
  · have := i6 w hw
    rw [show ms = (fun _ => false) from funext hf, ra_raM] at this
    exact this
  · rw [j1]
    have e : st0 (cpM N 0 148 37) 0 15 = 0 := rfl
    rw [e, z_add]
  · rw [j2]
    have e : st0 (cpM N 0 148 37) 0 16 = 0 := rfl
    rw [e, z_add]
  · exact j3
theorem st0_pg {N : Mem} {j : Nat} (hj : j < 37) : pg (st0 (cpM N 0 148 37)) 148 j = pg N 0 j := by
  unfold pg st0 cpM
  rw [mU_n (by decide), mU_n (by decide), mU_n (by decide), mR_s, if_pos (by omega), show 0 + (148 + j - 148) = 0 + j by omega]
theorem tried_0 {N : Mem} {ms : Nat → Bool} (h4 : wN (pg N 0) ≤ 4) (h36 : pg N 0 36 = nI (tN (pg N 0))) : trI (st0 (cpM N 0 148 37)) (st0 (cpM N 0 148 37)) 148 (pg N 0) ms 0 := by
  refine ⟨fun _ _ _ => rfl, fun _ _ => rfl, fun _ _ => rfl, st0_pg (by omega), (st0_pg (j := 36) (by omega)).trans h36, fun w hw => ?_, fun _ => ⟨?_, ?_, rfl⟩⟩
  · have := st0_pg (N := N) (j := 31 + w) (by omega)
    unfold pg at this
    rw [show 148 + 31 + w = 148 + (31 + w) by omega]
    exact this
  · show _ = _ + 0
    rw [add_z]
  · show _ = _ + 0
    rw [add_z]
theorem R_edgesGo {N : Mem} {n : Nat} {Q : Mem → Prop} (hO : OK0 (pg N 0)) (hn : n ≤ 200) (hq : ∀ N', tri N N' (pg N 0) n → trI (st0 (cpM N 0 148 37)) N' 148 (pg N 0) (fun _ => false) n → Q N') : q_X6_edgesGo (nI n) N Q := by
  have ht := hO.2.2.1.2
  have key : ∀ j k, j + k = n → ∀ N', trI (st0 (cpM N 0 148 37)) N' 148 (pg N 0) (fun _ => false) k → p_X6_edgesGo Q (j + 1) (nI n) (nI k) N' := by
    intro j
    induction j with
    | zero =>
      intro k hk N' hI
      refine br_t (nI_le (by omega) (by omega)) (hq N' ?_ ?_)
      · rw [show k = n by omega] at hI
        exact R_tried (fun _ => rfl) hI
      · rw [show k = n by omega] at hI
        exact hI
    | succ j ih =>
      intro k hk N' hI
      refine br_f (nI_ge (by omega) (by omega)) ?_
      refine R_tracesOn (p := 148) (by omega) hO.one (by omega) (fun j hj => st0_pg (by omega)) hI (Or.inl ⟨rfl, rfl⟩) (fun N2 hI2 => ?_)
      rw [nI_1]
      exact ih (k + 1) (by omega) N2 hI2
  refine ⟨n + 1, R_copies (f := 0) (t := 148) (by omega) (by omega) (by omega) (fun M1 hM => ?_)⟩
  subst hM
  exact key n 0 (by omega) _ (tried_0 hO.2.1.2 hO.2.2.1.1)
