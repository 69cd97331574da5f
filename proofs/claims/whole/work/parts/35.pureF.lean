theorem tri.fm {N N' : Mem} {P : Pg} {n : Nat} (h : tri N N' P n) : fm N N' := ⟨fun a x y _ => h.1 a x y, h.2.1, fun j hj => h.2.2.1 j (by omega)⟩
theorem v1_in {v : Int32} {n : Nat} (hn : n < 2 ^ 31) (h : 0 ≤ v ∧ v ≤ nI n) : ∃ i, i ≤ n ∧ v = nI i := (in_nI2 hn).mp h
theorem X_rolledAhead {M : Mem} {P : Pg} {n : Nat} {Q : Int32 → Mem → Prop} (hX : isX M 1 P) (hO : OK0 P) (hn : n ≤ 200) (hq : Q (sm (fun k => rba P (sa P k)) n) M) : q_X5_rolledAhead (nI n) M Q := by
  have key : ∀ j k, j + k = n → p_X5_rolledAhead Q (j + 1) (nI n) (sm (fun k => rba P (sa P k)) k) (nI k) M := by
    intro j
    induction j with
    | zero =>
      intro k hk
      refine br_t (nI_le (by omega) (by omega)) ?_
      rw [show k = n by omega]
      exact hq
    | succ j ih =>
      intro k hk
      refine br_f (nI_ge (by omega) (by omega)) (L_sweepAhead hX hO (by omega) (L_rolledByAll hX hO ?_))
      rw [nI_1]
      exact ih (k + 1) (by omega)
  exact ⟨n + 1, key n 0 (by omega)⟩
theorem rest1_ex {P : Pg} {x : Int32} : ∀ {n : Nat}, rest1 P x n = true ↔ ∃ w, w < n ∧ rw' P w x = 0
  | 0 => by
    constructor
    · intro h; cases h
    · rintro ⟨w, hw, _⟩; exact absurd hw (Nat.not_lt_zero w)
  | n + 1 => by
    show (rest1 P x n || decide (rw' P n x = 0)) = true ↔ _
    rw [Bool.or_eq_true, rest1_ex (n := n), decide_eq_true_iff]
    constructor
    · rintro (⟨w, hw, e⟩ | e)
      · exact ⟨w, by omega, e⟩
      · exact ⟨n, by omega, e⟩
    · rintro ⟨w, hw, e⟩
      rcases Nat.lt_or_ge w n with q | q
      · exact Or.inl ⟨w, q, e⟩
      · rw [show w = n by omega] at e; exact Or.inr e
theorem idl_0 {P : Pg} (h : cN P = 0) : ∀ n, idl P n = 0
  | 0 => rfl
  | n + 1 => by
    show idl P n + (if cN P = 0 then 0 else _) = 0
    rw [idl_0 h n, if_pos h]; rfl
theorem X_idleAhead {M : Mem} {P : Pg} {n : Nat} {Q : Int32 → Mem → Prop} (hX : isX M 1 P) (hO : OK0 P) (hn : n ≤ 200) (hq : Q (idl P n) M) : q_X5_idleAhead (nI n) M Q := by
  have e2 : M 1 2 = nI (cN P) := hX.1.trans hO.1.1
  have h10 := hO.1.2
  by_cases hz : cN P = 0
  · refine ⟨0, bn_t (by rw [e2, hz]; rfl) ?_⟩
    rw [idl_0 hz] at hq; exact hq
  have key : ∀ j k, j + k = n → (p_X5_idleAhead Q (2 * j + 1)).1 (nI n) (idl P k) (nI k) M := by
    intro j
    induction j with
    | zero =>
      intro k hk
      refine br_t (nI_le (by omega) (by omega)) ?_
      rw [show k = n by omega]
      exact hq
    | succ j ih =>
      intro k hk
      rw [show 2 * (j + 1) + 1 = 2 * j + 1 + 2 by omega]
      show f_X5_idleAhead_16 Q (p_X5_idleAhead Q (2 * j + 1 + 1)) _ _ _ _
      have nx : ∀ z, z = idl P (k + 1) → (p_X5_idleAhead Q (2 * j + 1 + 1)).2 (nI n) z (nI k) M := by
        intro z hz
        show (p_X5_idleAhead Q (2 * j + 1)).1 _ _ _ _
        rw [hz, nI_1]
        exact ih (k + 1) (by omega)
      have es : idl P (k + 1) = idl P k + b1 (rest1 P (sa P k) (wN P)) := by
        show idl P k + (if cN P = 0 then 0 else _) = _
        rw [if_neg hz]
      refine br_f (nI_ge (by omega) (by omega)) (L_sweepAhead hX hO (by omega) (L_someWheelRests hX hO (fun hr => br_f ne10 (nx _ ?_)) (fun hr => br_t rfl (nx _ ?_))))
      · rw [es, rest1_ex.mpr hr]; rfl
      · have : rest1 P (sa P k) (wN P) = false := by
          cases hh : rest1 P (sa P k) (wN P) with
          | false => rfl
          | true => exact absurd (rest1_ex.mp hh) hr
        rw [es, this]
        show idl P k = idl P k + 0
        rw [add_z]
  refine ⟨2 * n + 1, bn_f (by rw [e2]; exact nI_ne0 (by omega) (by omega)) (key n 0 (by omega))⟩
theorem imax_lo {x : Int32} (h : -800 ≤ x.toInt) : imax (-1000000) x = x := by
  unfold imax
  rw [if_pos]
  rw [Int32.lt_iff_toInt_lt]
  have e : (-1000000 : Int32).toInt = -1000000 := by decide
  omega
theorem grt_1 {P : Pg} (hO : OK0 P) (hz : cN P ≠ 0) : grt P (-1000000) 1 = sa P 0 := by
  show (if cN P = 0 then _ else imax (-1000000) (sa P 0)) = _
  rw [if_neg hz, imax_lo (sa_bd hO 0).1]
theorem X_greatest {M : Mem} {P : Pg} {n : Nat} {Q : Int32 → Mem → Prop} (hX : isX M 1 P) (hO : OK0 P) (hn : n ≤ 200) (h0 : n = 0 ∨ cN P = 0 → Q (-4) M) (h1 : ¬ (n = 0 ∨ cN P = 0) → Q (10000 + grt P (-1000000) n) M) : q_X5_greatestSweepAhead (nI n) M Q := by
  have e2 : M 1 2 = nI (cN P) := hX.1.trans hO.1.1
  have h10 := hO.1.2
  by_cases hn0 : n = 0
  · exact ⟨0, br_t (by rw [hn0]; rfl) (h0 (Or.inl hn0))⟩
  have vn : ¬ nI n = 0 := nI_ne0 (by omega) (by omega)
  by_cases hz : cN P = 0
  · exact ⟨0, br_f vn (bn_t (by rw [e2, hz]; rfl) (h0 (Or.inr hz)))⟩
  have key : ∀ j k, j + k = n → 1 ≤ k → p_X5_greatestSweepAhead Q (j + 1) (nI n) (grt P (-1000000) k) (nI k) M := by
    intro j
    induction j with
    | zero =>
      intro k hk hk1
      refine br_t (nI_le (by omega) (by omega)) ?_
      rw [show k = n by omega]
      exact h1 (by omega)
    | succ j ih =>
      intro k hk hk1
      refine br_f (nI_ge (by omega) (by omega)) (L_sweepAhead hX hO (by omega) ?_)
      rw [nI_1]
      have e : grt P (-1000000) (k + 1) = imax (grt P (-1000000) k) (sa P k) := if_neg hz
      rw [← e]
      exact ih (k + 1) (by omega) (by omega)
  refine ⟨n, br_f vn (bn_f (by rw [e2]; exact nI_ne0 (by omega) (by omega)) (L_sweepAhead (n := 0) hX hO (by omega) ?_))⟩
  have := key (n - 1) 1 (by omega) (by omega)
  rw [show n - 1 + 1 = n by omega, grt_1 hO hz] at this
  exact this
set_option maxHeartbeats 1000000 in
theorem o_runs {M N : Mem} (h : RR M N) (v1 v2 : Int32) : both (q_X5_runs v1 v2 M) (q_X6_runs v1 v2 N) := by
  obtain ⟨⟨⟨hO, -⟩, hX⟩, -⟩ := id h
  have h10 := hO.1.2
  by_cases hv : 0 ≤ v1 ∧ v1 ≤ 200
  · have hv2 := hv
    obtain ⟨n, hn, rfl⟩ := v1_in (n := 200) (by omega) hv2
    have fX : ∀ Q : Int32 → Mem → Prop, _ → q_X5_runs (nI n) v2 M Q := fun Q q => X_within (fun _ => bn_f ne10 q) (fun z => absurd hv z)
    have fR : ∀ Q : Int32 → Mem → Prop, (0 ≤ v2 ∧ v2 ≤ 2) → _ → q_X6_runs (nI n) v2 N Q := fun Q g q => R_isLong (fun _ => br_f ne10 (R_inI (lo := 0) (hi := 2) rfl rfl (fun _ => bn_f ne10 (R_edgesGo hO hn q)) (fun z => absurd g z))) (fun z => absurd hv z)
    by_cases g0 : v2 = 0
    · subst g0
      refine both.q h (sm (fun k => rba (pg N 0) (sa (pg N 0) k)) n) (fun Q q => fX Q (br_t rfl (X_rolledAhead hX hO hn (q M fx.rf)))) (fun Q q => fR Q (by decide) (fun N' hT _ => bn_f (by decide) (bn_t rfl ?_)))
      rw [hT.2.2.2.2.1]
      exact q N' hT.fm
    by_cases g1 : v2 = 1
    · subst g1
      refine both.q h (idl (pg N 0) n) (fun Q q => fX Q (br_f g0 (br_t rfl (X_idleAhead hX hO hn (q M fx.rf))))) (fun Q q => fR Q (by decide) (fun N' hT _ => bn_f (by decide) (bn_f (by decide) ?_)))
      rw [hT.2.2.2.2.2.1]
      exact q N' hT.fm
    by_cases g2 : v2 = 2
    · subst g2
      have e20 : N 1 20 = nI (cN (pg N 0)) := hO.1.1
      by_cases hz : n = 0 ∨ cN (pg N 0) = 0
      · refine both.q h (-4) (fun Q q => fX Q (br_f g0 (br_f g1 (br_t rfl (X_greatest hX hO hn (fun _ => q M fx.rf) (fun z => absurd hz z)))))) (fun Q q => fR Q (by decide) (fun N' hT _ => bn_t rfl ?_))
        by_cases hn0 : n = 0
        · exact br_t (by rw [hn0]; rfl) (q N' hT.fm)
        · refine br_f (nI_ne0 (by omega) (by omega)) (bn_t ?_ (q N' hT.fm))
          rw [hT.2.2.1 20 (by omega), e20, show cN (pg N 0) = 0 by omega]; rfl
      · refine both.q h (10000 + grt (pg N 0) (-1000000) n) (fun Q q => fX Q (br_f g0 (br_f g1 (br_t rfl (X_greatest hX hO hn (fun z => absurd z hz) (fun _ => q M fx.rf)))))) (fun Q q => fR Q (by decide) (fun N' hT _ => bn_t rfl (br_f (nI_ne0 (by omega) (by omega)) (bn_f ?_ ?_))))
        · rw [hT.2.2.1 20 (by omega), e20]; exact nI_ne0 (by omega) (by omega)
        · rw [hT.2.2.2.2.2.2]
          exact q N' hT.fm
    · have hn3 : ¬ (0 ≤ v2 ∧ v2 ≤ 2) := fun q => by rcases in3.mp q with q | q | q <;> contradiction
      exact both.no h (-1) (fun Q q => fX Q (br_f g0 (br_f g1 (br_f g2 q)))) (fun Q q => R_isLong (fun _ => br_f ne10 (R_inI (lo := 0) (hi := 2) rfl rfl (fun z => absurd z hn3) (fun _ => bn_t rfl q))) (fun z => absurd hv z))
  · exact both.no h (-1) (fun Q q => X_within (fun z => absurd z hv) (fun _ => bn_t rfl q)) (fun Q q => R_isLong (fun z => absurd z hv) (fun _ => br_t rfl q))
theorem o_ahead {M N : Mem} (h : RR M N) (v1 v2 : Int32) : both (q_X5_ahead v1 v2 M) (q_X6_ahead v1 v2 N) := by
  obtain ⟨⟨⟨hO, -⟩, hX⟩, -⟩ := id h
  have h4 := hO.2.1.2
  by_cases hh : ∃ w, w < wN (pg N 0) ∧ v1 = nI w
  · obtain ⟨w, hw, rfl⟩ := hh
    by_cases hv : 0 ≤ v2 ∧ v2 ≤ 200
    · have hv2 := hv
      obtain ⟨n, hn, rfl⟩ := v1_in (n := 200) (by omega) hv2
      refine both.q h (20000000 + ra (pg N 0) w n) (fun Q q => X_hasWheel hX hO (fun _ _ _ => br_f ne10 (X_within (fun _ => bn_f ne10 (L_readsAhead hX hO hw hn (q M fx.rf))) (fun z => absurd hv z))) (fun z => absurd ⟨w, hw, rfl⟩ z)) (fun Q q => R_isWheel hO (fun _ _ _ => br_f ne10 (R_isLong (fun _ => bn_f ne10 (R_edgesGo hO hn (fun N' hT _ => ?_))) (fun z => absurd hv z))) (fun z => absurd ⟨w, hw, rfl⟩ z))
      rw [li 179, nI_add, nI_clamp (by omega), hT.2.2.2.1 w hw]
      exact ⟨vp_in_nI (by omega) (by omega), q N' hT.fm⟩
    · exact both.no h (-1) (fun Q q => X_hasWheel hX hO (fun _ _ _ => br_f ne10 (X_within (fun z => absurd z hv) (fun _ => bn_t rfl q))) (fun z => absurd ⟨w, hw, rfl⟩ z)) (fun Q q => R_isWheel hO (fun _ _ _ => br_f ne10 (R_isLong (fun z => absurd z hv) (fun _ => bn_t rfl q))) (fun z => absurd ⟨w, hw, rfl⟩ z))
  · exact both.no h (-1) (fun Q q => X_hasWheel hX hO (fun w hw e => absurd ⟨w, hw, e⟩ hh) (fun _ => br_t rfl q)) (fun Q q => R_isWheel hO (fun w hw e => absurd ⟨w, hw, e⟩ hh) (fun _ => br_t rfl q))
def whn (P : Pg) (w : Nat) (aim : Int32) : Nat → Nat → Int32
  | 0, _ => -4
  | j + 1, k => if ra P w k < aim then whn P w aim j (k + 1) else nI k
set_option maxHeartbeats 1000000 in
theorem o_when {M N : Mem} (h : RR M N) (v1 v2 : Int32) : both (q_X5_when v1 v2 M) (q_X6_when v1 v2 N) := by
  obtain ⟨⟨⟨hO, -⟩, hX⟩, -⟩ := id h
  have h4 := hO.2.1.2
  have ht := hO.2.2.1.2
  by_cases hh : ∃ w, w < wN (pg N 0) ∧ v1 = nI w
  · obtain ⟨w, hw, rfl⟩ := hh
    by_cases hv : 10000000 ≤ v2 ∧ v2 ≤ 30000000
    · refine both.q h (whn (pg N 0) w (v2 - 20000000) 201 0) (fun Q q => ⟨202, X_hasWheel hX hO (fun _ _ _ => br_f ne10 (X_isTold (fun _ => bn_f ne10 (fun x hx => ⟨vp_in_nI (by omega) (by omega), ?_⟩)) (fun z => absurd hv z))) (fun z => absurd ⟨w, hw, rfl⟩ z)⟩) (fun Q q => ⟨202, R_isWheel hO (fun _ _ _ => br_f ne10 (R_isReading (fun _ => bn_f ne10 (R_edgesGo (n := 0) hO (by omega) (fun N' hT hI => ?_))) (fun z => absurd hv z))) (fun z => absurd ⟨w, hw, rfl⟩ z)⟩)
      · subst hx
        have key : ∀ j k, j + k = 201 → (whn (pg N 0) w (v2 - 20000000) 201 0 = whn (pg N 0) w (v2 - 20000000) j k) → p_X5_when Q (j + 1) (nI w) (v2 - 20000000) (ra (pg N 0) w k) (nI k) M := by
          intro j
          induction j with
          | zero =>
            intro k hk he
            refine br_t (by rw [li 200]; exact nI_lt (by omega) (by omega)) ?_
            have := q M fx.rf
            rw [he] at this
            exact this
          | succ j ih =>
            intro k hk he
            refine br_f (by rw [li 200]; exact nI_nlt (by omega) (by omega)) (br_c (fun hl => ?_) (fun hl => ?_))
            · refine L_sweepAhead hX hO (by omega) (L_rollOf hX hO hw ?_)
              rw [nI_1]
              refine ih (k + 1) (by omega) (he.trans ?_)
              show (if ra (pg N 0) w k < _ then _ else _) = _
              rw [if_pos hl]
            · have := q M fx.rf
              rw [he] at this
              have e : whn (pg N 0) w (v2 - 20000000) (j + 1) k = nI k := if_neg hl
              rw [e] at this
              exact this
        rw [nI_clamp (by omega)]
        have := key 201 0 rfl rfl
        rw [show ra (pg N 0) w 0 = M 6 w from (hX.2.2.2.2.2.2 w hw).2.2.symm] at this
        exact this
      · have key : ∀ j k, j + k = 201 → (whn (pg N 0) w (v2 - 20000000) 201 0 = whn (pg N 0) w (v2 - 20000000) j k) → ∀ N', trI (st0 (cpM N 0 148 37)) N' 148 (pg N 0) (fun _ => false) k → p_X6_when Q (j + 1) (nI w) v2 (nI k) N' := by
          intro j
          induction j with
          | zero =>
            intro k hk he N' hI
            refine br_t (by rw [li 200]; exact nI_lt (by omega) (by omega)) ?_
            have := q N' (R_tried (fun _ => rfl) hI).fm
            rw [he] at this
            exact this
          | succ j ih =>
            intro k hk he N' hI
            have hT := R_tried (fun _ => rfl) hI
            show f_X6_when_24 Q (p_X6_when Q (j + 1)) _ _ _ _
            unfold f_X6_when_24
            rw [li 179, nI_add, nI_clamp (by omega), hT.2.2.2.1 w hw]
            refine br_f (by rw [li 200]; exact nI_nlt (by omega) (by omega)) ⟨vp_in_nI (by omega) (by omega), br_c (fun hl => ?_) (fun hl => ?_)⟩
            · refine R_tracesOn (p := 148) (by omega) hO.one (by omega) (fun j hj => st0_pg (by omega)) hI (Or.inl ⟨rfl, rfl⟩) (fun N2 hI2 => ?_)
              rw [nI_1]
              refine ih (k + 1) (by omega) (he.trans ?_) N2 hI2
              show (if ra (pg N 0) w k < _ then _ else _) = _
              rw [if_pos hl]
            · have := q N' hT.fm
              rw [he] at this
              have e : whn (pg N 0) w (v2 - 20000000) (j + 1) k = nI k := if_neg hl
              rw [e] at this
              exact this
        exact key 201 0 rfl rfl N' hI
    · exact both.no h (-1) (fun Q q => ⟨0, X_hasWheel hX hO (fun _ _ _ => br_f ne10 (X_isTold (fun z => absurd z hv) (fun _ => bn_t rfl q))) (fun z => absurd ⟨w, hw, rfl⟩ z)⟩) (fun Q q => ⟨0, R_isWheel hO (fun _ _ _ => br_f ne10 (R_isReading (fun z => absurd z hv) (fun _ => bn_t rfl q))) (fun z => absurd ⟨w, hw, rfl⟩ z)⟩)
  · exact both.no h (-1) (fun Q q => ⟨0, X_hasWheel hX hO (fun w hw e => absurd ⟨w, hw, e⟩ hh) (fun _ => br_t rfl q)⟩) (fun Q q => ⟨0, R_isWheel hO (fun w hw e => absurd ⟨w, hw, e⟩ hh) (fun _ => br_t rfl q)⟩)
