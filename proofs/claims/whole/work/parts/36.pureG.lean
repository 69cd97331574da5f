/-! drift -/
def gt (x : Int32) : Nat := x.toBitVec.toNat / 65536 % 32768
theorem gt_lt (x : Int32) : gt x < 32768 := Nat.mod_lt _ (by decide)
theorem gt_x (x : Int32) : iushr x 16 &&& 32767 = nI (gt x) := by
  unfold iushr
  rw [pk_and _ 15 (by decide), pk_ushr x 16 16 (by decide)]
  rfl
theorem gt_r (x : Int32) : (x >>> ((16 : Int32) &&& 31)) &&& 32767 = nI (gt x) := by
  rw [pk_and _ 15 (by decide)]
  have h := pk_shr x ((16 : Int32) &&& 31) 16 (by decide)
  rw [toInt_u, toInt_u x, Int.shiftRight_eq_div_pow] at h
  unfold gt
  have hu := x.toBitVec.isLt
  have hv := (x >>> ((16 : Int32) &&& 31)).toBitVec.isLt
  generalize x.toBitVec.toNat = u at h hu
  generalize (x >>> ((16 : Int32) &&& 31)).toBitVec.toNat = v at h hv
  have e : v % 2 ^ 15 = u / 65536 % 32768 := by
    split at h <;> split at h <;> omega
  rw [e]
def sd (s : Int32) : Nat → Int32
  | 0 => s
  | n + 1 => sd s n * 1103515245 + 12345
def dE (P : Pg) (s : Int32) (k : Nat) : Int32 := sw P (gt (sd s (k + 1)) % cN P)
def dP (P : Pg) (s : Int32) : Nat → Pg
  | 0 => P
  | k + 1 => rpg (dP P s k) (dE P s k)
theorem dP_n {P : Pg} {s : Int32} (h : wN P ≤ 4) : ∀ {k j : Nat}, (j < 31 ∨ 31 + wN P ≤ j) → dP P s k j = P j
  | 0, _, _ => rfl
  | k + 1, j, hj => by
    have ew : wN (dP P s k) = wN P := wN_congr (dP_n h (by omega))
    show rpg (dP P s k) (dE P s k) j = _
    rw [rpg_n (by rw [ew]; exact hj), dP_n h hj]
theorem drift_X {M : Mem} {P : Pg} {s v3 : Int32} {n : Nat} {Q : Int32 → Mem → Prop} (hX : isX M 1 P) (hO : OK0 P) (hn : n ≤ 200) (hc : 0 < cN P) (hq : ∀ M', fx M M' → isX M' 7 (dP P s n) → ((¬ v3 = 0 → Q (sm (fun k => rba P (dE P s k)) n) M') ∧ (v3 = 0 → Q ((20000000 : Int32) + (M' 12 0)) M'))) : ∀ j k, j + k = n → ∀ M', fx M M' → isX M' 7 (dP P s k) → p_X5_drift Q (j + 1) (nI n) v3 (nI (cN P)) (sd s k) (sm (fun k => rba P (dE P s k)) k) (nI k) M' := by
  have h10 := hO.1.2
  have h4 := hO.2.1.2
  intro j
  induction j with
  | zero =>
    intro k hk M' h1 h2
    refine br_t (nI_le (by omega) (by omega)) ?_
    have e : k = n := by omega
    subst e
    exact hq M' h1 h2
  | succ j ih =>
    intro k hk M' h1 h2
    have ec : cN (dP P s k) = cN P := cN_congr (dP_n h4 (by omega))
    have ew : wN (dP P s k) = wN P := wN_congr (dP_n h4 (by omega))
    have hO2 : OK0 (dP P s k) := OK0_lv hO (fun j hj => dP_n h4 (by omega))
    have hlt := gt_lt (sd s (k + 1))
    have hm : gt (sd s (k + 1)) % cN P < cN P := Nat.mod_lt _ hc
    refine br_f (nI_ge (by omega) (by omega)) (fun x hx y hy => ⟨nI_ne0 (by omega) (by omega), ?_⟩)
    replace hx : x = sd s (k + 1) := hx
    subst hx
    rw [gt_x] at hy
    subst hy
    rw [pk_rem (by omega) (by omega) (by omega)]
    refine L_sweepOf h2 hO2 (by rw [ec]; exact hm) ?_
    have es : sw (dP P s k) (gt (sd s (k + 1)) % cN P) = dE P s k := sw_congr (fun j hj => dP_n h4 (by omega)) (by rw [ec]; exact h10) (by rw [ec]; exact hm)
    rw [es]
    refine L_rollAll h2 hO2 (fun M2 g1 g2 => ?_)
    have er : rba (dP P s k) (dE P s k) = rba P (dE P s k) := rba_congr (fun j hj => dP_n h4 (by omega)) (dP_n h4 (by omega)) (by rw [ew]; exact h4) _
    rw [er, nI_1]
    exact ih (k + 1) (by omega) M2 (h1.tr (fun a x y z => g1 a (by omega))) g2
def dJ (N N' : Mem) (s : Int32) (k : Nat) : Prop := fm N N' ∧ (∀ j, j < 37 → pg N' 148 j = dP (pg N 0) s k j) ∧ N' 0 15 = sm (fun k => rba (pg N 0) (dE (pg N 0) s k)) k
theorem drift_R {N : Mem} {s v3 : Int32} {n : Nat} {Q : Int32 → Mem → Prop} (hO : OK0 (pg N 0)) (hn : n ≤ 200) (hc : 0 < cN (pg N 0)) (hq : ∀ N', dJ N N' s n → ((¬ v3 = 0 → Q (N' 0 15) N') ∧ (v3 = 0 → Q ((20000000 : Int32) + (N' 1 179)) N'))) : ∀ j k, j + k = n → ∀ N', dJ N N' s k → p_X6_drift Q (j + 1) (nI n) v3 (sd s k) (nI k) N' := by
  have h10 := hO.1.2
  have h4 := hO.2.1.2
  intro j
  induction j with
  | zero =>
    intro k hk N' h1
    refine br_t (nI_le (by omega) (by omega)) ?_
    have e : k = n := by omega
    subst e
    exact hq N' h1
  | succ j ih =>
    intro k hk N' h1
    obtain ⟨g1, g2, g3⟩ := h1
    have hlo : ∀ j, (j < 31 ∨ 35 ≤ j) → j < 37 → pg N' 148 j = pg N 0 j := fun j hj h37 => by rw [g2 j h37, dP_n h4 (by omega)]
    have ec : cN (pg N' 148) = cN (pg N 0) := cN_congr (hlo 20 (by omega) (by omega))
    have ew : wN (pg N' 148) = wN (pg N 0) := wN_congr (hlo 35 (by omega) (by omega))
    have hO2 : OK1 (pg N' 148) := OK1_congr (fun j hj => (hlo j (by omega) (by omega)).symm) (hlo 35 (by omega) (by omega)).symm hO.one
    have hlt := gt_lt (sd s (k + 1))
    have hm : gt (sd s (k + 1)) % cN (pg N 0) < cN (pg N 0) := Nat.mod_lt _ hc
    have e20 : N' 1 20 = nI (cN (pg N 0)) := (g1.2.2 20 (by omega)).trans hO.1.1
    have ewd : wN (dP (pg N 0) s k) = wN (pg N 0) := wN_congr (dP_n h4 (by omega))
    refine br_f (nI_ge (by omega) (by omega)) (fun x hx => ?_)
    replace hx : x = sd s (k + 1) := hx
    subst hx
    rw [gt_r, e20, pk_rem (by omega) (by omega) (by omega)]
    refine ⟨nI_ne0 (by omega) (by omega), R_edgeOn (p := 148) (by omega) hO2 (by rw [ec]; exact hm) (fun N2 hE => ?_)⟩
    have es : sw (pg N' 148) (gt (sd s (k + 1)) % cN (pg N 0)) = dE (pg N 0) s k := sw_congr (fun j hj => hlo j (by omega) (by omega)) (by rw [ec]; exact h10) (by rw [ec]; exact hm)
    rw [es] at hE
    obtain ⟨a1, a2, a3, a4, a5, a6⟩ := hE
    rw [nI_1]
    refine ih (k + 1) (by omega) N2 ⟨g1.tr ⟨fun a x y _ => a1 a x y, a2, fun j hj => ?_⟩, fun j hj => ?_, ?_⟩
    · rw [a6 j, if_neg (by omega)]
    · show N2 1 (148 + j) = rpg (dP (pg N 0) s k) (dE (pg N 0) s k) j
      rw [a6, ew]
      have gj : N' 1 (148 + j) = dP (pg N 0) s k j := g2 j hj
      by_cases hj2 : 31 ≤ j ∧ j < 31 + wN (pg N 0)
      · rw [if_pos (by omega), gj]
        have : rpg (dP (pg N 0) s k) (dE (pg N 0) s k) j = dP (pg N 0) s k j + rw' (dP (pg N 0) s k) (j - 31) (dE (pg N 0) s k) := if_pos (by rw [ewd]; exact hj2)
        rw [this, show 148 + j - (148 + 31) = j - 31 by omega]
        rw [rw_congr (P := pg N' 148) (P' := dP (pg N 0) s k) (g2 _ (by omega)) (g2 _ (by omega))]
      · rw [if_neg (by omega), gj, rpg_n (by rw [ewd]; omega)]
    · rw [a3, g3]
      have er : rba (pg N' 148) (dE (pg N 0) s k) = rba (pg N 0) (dE (pg N 0) s k) := rba_congr (fun j hj => hlo j (by omega) (by omega)) (hlo 35 (by omega) (by omega)) (by rw [ew]; exact h4) _
      rw [er]; rfl
theorem v1n_in {v : Int32} {n : Nat} (hn : n < 2 ^ 31) (h : 1 ≤ v ∧ v ≤ nI n) : ∃ i, 1 ≤ i ∧ i ≤ n ∧ v = nI i := by
  have h0 : 0 ≤ v := Int32.le_iff_toInt_le.mpr (by have := Int32.le_iff_toInt_le.mp h.1; have e : (1 : Int32).toInt = 1 := by decide
                                                   have e0 : (0 : Int32).toInt = 0 := by decide
                                                   omega)
  obtain ⟨i, hi, rfl⟩ := v1_in hn ⟨h0, h.2⟩
  refine ⟨i, ?_, hi, rfl⟩
  rcases Nat.eq_zero_or_pos i with q | q
  · subst q; exact absurd h.1 (by decide)
  · exact q
theorem R_go0 {N : Mem} {Q : Mem → Prop} (hq : Q (st0 (cpM N 0 148 37))) : q_X6_edgesGo 0 N Q := by
  refine ⟨1, R_copies (f := 0) (t := 148) (by omega) (by omega) (by omega) (fun M1 hM => ?_)⟩
  subst hM
  exact br_t (by decide) hq
theorem fm_st0 {N : Mem} : fm N (st0 (cpM N 0 148 37)) := by
  unfold st0
  refine ⟨fun a h0 h1 _ => ?_, fun j hj => ?_, fun j hj => ?_⟩
  · rw [mU_n h0, mU_n h0, mU_n h0, cpM_n h1]
  · rw [mU_at, if_neg (by omega), mU_at, if_neg (by omega), mU_at, if_neg (by omega), cpM_n (by decide)]
  · rw [mU_n (by decide), mU_n (by decide), mU_n (by decide), cpM_1, if_neg (by omega)]
theorem dJ_0 {N : Mem} {s : Int32} : dJ N (st0 (cpM N 0 148 37)) s 0 := by
  refine ⟨fm_st0, fun j hj => st0_pg hj, ?_⟩
  show _ = (0 : Int32)
  unfold st0
  rw [mU_at, if_neg (by decide), mU_at, if_neg (by decide), mU_at, if_pos ⟨rfl, rfl⟩]
set_option maxHeartbeats 1000000 in
theorem o_drift {M N : Mem} (h : RR M N) (s v2 v3 : Int32) : both (q_X5_drift s v2 v3 M) (q_X6_drift s v2 v3 N) := by
  obtain ⟨⟨⟨hO, -⟩, hX⟩, -⟩ := id h
  have h4 := hO.2.1.2
  have h10 := hO.1.2
  have e2 : M 1 2 = nI (cN (pg N 0)) := hX.1.trans hO.1.1
  have e6 : M 1 6 = nI (wN (pg N 0)) := hX.2.1.trans hO.2.1.1
  have e20 : N 1 20 = nI (cN (pg N 0)) := hO.1.1
  have e35 : N 1 35 = nI (wN (pg N 0)) := hO.2.1.1
  by_cases hv : 1 ≤ v2 ∧ v2 ≤ 200
  · by_cases hw : 0 ≤ v3 ∧ v3 ≤ 1
    · have fX : ∀ (Q : Int32 → Mem → Prop) (k : Nat), _ → e_X5_drift s v2 v3 Q (p_X5_drift Q k) M := fun Q k q => X_within (fun _ => br_f ne10 (X_isEither (fun _ => bn_f ne10 q) (fun z => absurd hw z))) (fun z => absurd hv z)
      have fR : ∀ (Q : Int32 → Mem → Prop) (k : Nat), _ → e_X6_drift s v2 v3 Q (p_X6_drift Q k) N := fun Q k q => R_inI (lo := 1) (hi := 200) rfl rfl (fun _ => br_f ne10 (R_inI (lo := 0) (hi := 1) rfl rfl (fun _ => bn_f ne10 q) (fun z => absurd hw z))) (fun z => absurd hv z)
      by_cases hz : wN (pg N 0) = 0
      · exact both.no h (-2) (fun Q q => ⟨0, fX Q 0 (br_t (by rw [e6, hz]; rfl) q)⟩) (fun Q q => ⟨0, fR Q 0 (br_t (by rw [e35, hz]; rfl) q)⟩)
      by_cases hz2 : cN (pg N 0) = 0
      · exact both.no h (-2) (fun Q q => ⟨0, fX Q 0 (br_f (by rw [e6]; exact nI_ne0 (by omega) (by omega)) (bn_t (by rw [e2, hz2]; rfl) q))⟩) (fun Q q => ⟨0, fR Q 0 (br_f (by rw [e35]; exact nI_ne0 (by omega) (by omega)) (bn_t (by rw [e20, hz2]; rfl) q))⟩)
      obtain ⟨n, -, hn, rfl⟩ := v1n_in (n := 200) (by omega) hv
      refine both.q h (if v3 = 0 then 20000000 + dP (pg N 0) s n 31 else sm (fun k => rba (pg N 0) (dE (pg N 0) s k)) n) (fun Q q => ⟨n + 1, fX Q (n + 1) (br_f (by rw [e6]; exact nI_ne0 (by omega) (by omega)) (bn_f (by rw [e2]; exact nI_ne0 (by omega) (by omega)) ?_))⟩) (fun Q q => ⟨n + 1, fR Q (n + 1) (br_f (by rw [e35]; exact nI_ne0 (by omega) (by omega)) (bn_f (by rw [e20]; exact nI_ne0 (by omega) (by omega)) ?_))⟩)
      · refine L_copyFrom (o := 7) (o1 := 1) (by omega) hX h10 h4 (fun M' g1 g2 => ?_)
        rw [e2]
        refine drift_X hX hO hn (by omega) (fun M2 k1 k2 => ?_) n 0 (by omega) M' (fun a x y z => g1 a (by omega)) g2
        refine bn_c (fun hz3 => ?_) (fun hz3 => ?_)
        · have := q M2 k1
          rw [if_neg hz3] at this
          exact this
        · have := q M2 k1
          rw [if_pos hz3] at this
          have ew : wN (dP (pg N 0) s n) = wN (pg N 0) := wN_congr (dP_n h4 (by omega))
          rw [show M2 12 0 = dP (pg N 0) s n 31 from (k2.2.2.2.2.2.2 0 (by rw [ew]; omega)).2.2]
          exact this
      · refine R_go0 ?_
        have hj := dJ_0 (N := N) (s := s)
        refine drift_R hO hn (by omega) (fun N2 k1 => ?_) n 0 (by omega) _ hj
        refine bn_c (fun hz3 => ?_) (fun hz3 => ?_)
        · have := q N2 k1.1
          rw [if_neg hz3, ← k1.2.2] at this
          exact this
        · have := q N2 k1.1
          rw [if_pos hz3, ← k1.2.1 31 (by omega)] at this
          exact this
    · exact both.no h (-1) (fun Q q => ⟨0, X_within (fun _ => br_f ne10 (X_isEither (fun z => absurd z hw) (fun _ => bn_t rfl q))) (fun z => absurd hv z)⟩) (fun Q q => ⟨0, R_inI (lo := 1) (hi := 200) rfl rfl (fun _ => br_f ne10 (R_inI (lo := 0) (hi := 1) rfl rfl (fun z => absurd z hw) (fun _ => bn_t rfl q))) (fun z => absurd hv z)⟩)
  · exact both.no h (-1) (fun Q q => ⟨0, X_within (fun z => absurd z hv) (fun _ => br_t rfl q)⟩) (fun Q q => ⟨0, R_inI (lo := 1) (hi := 200) rfl rfl (fun z => absurd z hv) (fun _ => br_t rfl q)⟩)
