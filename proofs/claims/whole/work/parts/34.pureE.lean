/-! trace, runs, ahead, when -/
theorem ra_bd {P : Pg} {w : Nat} (h : OK P) (hw : w < wN P) : ∀ n, n ≤ 200 → rd (tN P + n) (ra P w n)
  | 0, _ => h.2.2 w hw
  | n + 1, hn => by
    have ih := ra_bd h hw n (by omega)
    have t := h.2.1
    have b := sa_bd h.1 n
    have r := rl_bd (k := P (23 + w)) (h.1.2.2.2.2.2 w hw).2 800 (by omega) b.1 b.2
    unfold rd at ih ⊢
    show -(800 * ((tN P + (n + 1) : Nat) : Int)) ≤ (ra P w n + rw' P w (sa P n)).toInt ∧ (ra P w n + rw' P w (sa P n)).toInt ≤ 800 * ((tN P + (n + 1) : Nat) : Int)
    have e : (rw' P w (sa P n)).toInt = (rl (P (23 + w)) (P (27 + w)) (sa P n)).toInt := rfl
    rw [b_add (by omega) (by omega)]
    omega
theorem OK_trP {P : Pg} {n : Nat} (h : OK P) (hn : tN P + n ≤ 9999) (h2 : n ≤ 200) : OK (trP P n) := by
  have h4 := h.1.2.1.2
  have ew : wN (trP P n) = wN P := wN_congr (trP_n (by omega) (by omega))
  have et : tN (trP P n) = tN P + n := tN_trP h4 (by omega)
  refine ⟨OK0_trP h.1 (by omega), by rw [et]; exact hn, fun i hi => ?_⟩
  rw [ew] at hi
  rw [et, trP_y hi]
  exact ra_bd h hi n h2
/-- pages that are one in what lives -/
theorem OK_live {P P' : Pg} (h : OK P) (he : ∀ j, j < 31 ∨ j = 35 ∨ j = 36 → P' j = P j) (he2 : ∀ i, i < wN P → P' (31 + i) = P (31 + i)) : OK P' := by
  have ew : wN P' = wN P := wN_congr (he 35 (by omega))
  have et : tN P' = tN P := by unfold tN; rw [he 36 (by omega)]
  refine ⟨OK0_lv h.1 he, by rw [et]; exact h.2.1, fun i hi => ?_⟩
  rw [ew] at hi
  rw [et, he2 i hi]
  exact h.2.2 i hi
theorem isX_live {M : Mem} {o : Nat} {P P' : Pg} (h : isX M o P) (h4 : wN P ≤ 4) (h10 : cN P ≤ 10) (he : ∀ j, j < 31 ∨ j = 35 ∨ j = 36 → P' j = P j) (he2 : ∀ i, i < wN P → P' (31 + i) = P (31 + i)) : isX M o P' := by
  obtain ⟨a, b, c, d, e, f, g⟩ := h
  have ec : cN P' = cN P := cN_congr (he 20 (by omega))
  have ew : wN P' = wN P := wN_congr (he 35 (by omega))
  refine ⟨a.trans (he 20 (by omega)).symm, b.trans (he 35 (by omega)).symm, c.trans (he 21 (by omega)).symm, d.trans (he 22 (by omega)).symm, e.trans (he 36 (by omega)).symm, fun i hi => ?_, fun i hi => ?_⟩
  · rw [ec] at hi
    rw [he i (by omega), he (10 + i) (by omega)]
    exact f i hi
  · rw [ew] at hi
    rw [he (23 + i) (by omega), he (27 + i) (by omega), he2 i hi]
    exact g i hi
theorem RR.now2 {M N M' N' : Mem} (h : RR M N) (hx : ∀ a, (a < 1 ∨ 6 < a) → M' a = M a) (hm1 : ∀ a, a ≠ 0 → a ≠ 1 → N' a = N a) (hm0 : ∀ j, (j < 15 ∨ 17 < j) → N' 0 j = N 0 j) (hm2 : ∀ j, 37 ≤ j → N' 1 j = N 1 j) (hO : OK (pg N' 0)) (hX : isX M' 1 (pg N' 0)) : RR M' N' := by
  obtain ⟨-, ⟨b1, b2⟩, c, ⟨d1, d2⟩, e, f, g, i, j⟩ := h
  have im : ∀ k, k < 2 → rImg M N k → rImg M' N' k := by
    intro k hk hr
    unfold rImg at hr ⊢
    have ep : pg N' (37 * (k + 1)) = pg N (37 * (k + 1)) := funext fun q => hm2 _ (by omega)
    rw [hx 14 (by omega), hm1 8 (by decide) (by decide), ep]
    rcases hr with q | ⟨q1, q2, q3, q4⟩
    · exact Or.inl q
    · exact Or.inr ⟨q1, q2, q3, q4.of (fun i hi => hx _ (by omega))⟩
  refine ⟨⟨hO, hX⟩, ⟨im 0 (by omega) b1, im 1 (by omega) b2⟩, ?_, ⟨?_, ?_⟩, ?_, fun k hk => ?_, ?_, ?_, ?_⟩
  · unfold rTape at c ⊢
    rw [hx 16 (by omega), hx 17 (by omega), hm0 4 (by omega), hm1 3 (by decide) (by decide)]
    exact c
  · rw [hx 0 (by omega), hm0 5 (by omega)]; exact d1
  · rw [hx 0 (by omega), hm0 25 (by omega)]; exact d2
  · unfold rSeen at e ⊢
    rw [hx 24 (by omega), hx 25 (by omega), hx 26 (by omega), hx 27 (by omega), hm0 19 (by omega), hm1 6 (by decide) (by decide)]
    exact e
  · have := f k hk
    unfold rSheet at this ⊢
    rw [hx (43 + 2 * k) (by omega), hx (44 + 2 * k) (by omega), hm1 9 (by decide) (by decide), hm1 10 (by decide) (by decide), hm1 11 (by decide) (by decide)]
    exact this
  · rw [hm0 14 (by omega)]; exact g
  · rw [hm1 4 (by decide) (by decide)]; exact i
  · rw [hm1 5 (by decide) (by decide)]; exact j
theorem v_le {n : Nat} {v : Int32} (hn : n < 2 ^ 31) (h : 0 ≤ v ∧ v ≤ nI n) : ∃ i, i ≤ n ∧ v = nI i := (in_nI2 hn).mp h
set_option maxHeartbeats 2000000 in
theorem o_trace {M N : Mem} (h : RR M N) (v : Int32) : both (q_X5_trace v M) (q_X6_trace v N) := by
  obtain ⟨⟨hO, hX⟩, -⟩ := id h
  have hO0 := hO.1
  have h4 := hO0.2.1.2
  have h10 := hO0.1.2
  have ht := hO.2.1
  have e9 : M 1 9 = nI (tN (pg N 0)) := hX.2.2.2.2.1.trans hO0.2.2.1.1
  have e36 : N 1 36 = nI (tN (pg N 0)) := hO0.2.2.1.1
  by_cases hv : 0 ≤ v ∧ v ≤ 100
  · have hv2 := hv
    obtain ⟨n, hn, rfl⟩ := v_le (n := 100) (by omega) hv2
    have fX : ∀ (Q : Int32 → Mem → Prop) (k : Nat), _ → e_X5_trace (nI n) Q (p_X5_trace Q k) M := fun Q k q => X_within (fun _ => bn_f ne10 q) (fun z => absurd hv z)
    have fR : ∀ (Q : Int32 → Mem → Prop) (k : Nat), _ → e_X6_trace (nI n) Q (p_X6_trace Q k) N := fun Q k q => R_inI (lo := 0) (hi := 100) rfl rfl (fun _ => bn_f ne10 q) (fun z => absurd hv z)
    by_cases hl : tN (pg N 0) + n ≤ 9999
    · have keyX : ∀ (Q : Int32 → Mem → Prop), (∀ M', (∀ a, (a < 1 ∨ 6 < a) → M' a = M a) → isX M' 1 (trP (pg N 0) n) → Q (sm (fun k => rba (pg N 0) (sa (pg N 0) k)) n) M') → ∀ j k, j + k = n → ∀ M', (∀ a, (a < 1 ∨ 6 < a) → M' a = M a) → isX M' 1 (trP (pg N 0) k) → p_X5_trace Q (j + 1) (nI n) (sm (fun k => rba (pg N 0) (sa (pg N 0) k)) k) (nI k) M' := by
        intro Q hq j
        induction j with
        | zero =>
          intro k hk M' h1 h2
          refine br_t (nI_le (by omega) (by omega)) ?_
          have e : k = n := by omega
          subst e
          exact hq M' h1 h2
        | succ j ih =>
          intro k hk M' h1 h2
          have ew : wN (trP (pg N 0) k) = wN (pg N 0) := wN_congr (trP_n (by omega) (by omega))
          have ec : cN (trP (pg N 0) k) = cN (pg N 0) := cN_congr (trP_n (by omega) (by omega))
          have hO2 : OK0 (trP (pg N 0) k) := OK0_trP hO0 (by omega)
          refine br_f (nI_ge (by omega) (by omega)) (L_sweepAhead (n := 0) h2 hO2 (by omega) ?_)
          rw [sa_trP hO0 (by omega)]
          refine L_rollAll h2 hO2 (fun M2 g1 g2 => ?_)
          have er : rba (trP (pg N 0) k) (sa (pg N 0) k) = rba (pg N 0) (sa (pg N 0) k) := rba_congr (fun j hj => trP_n (by omega) (by omega)) (trP_n (by omega) (by omega)) (by rw [ew]; exact h4) _
          have e92 : M2 1 9 = nI (tN (pg N 0) + k) := by
            rw [g2.2.2.2.2.1, rpg_n (by omega), trP_t h4]
          rw [er, nI_1, e92, li 1, nI_add]
          refine ih (k + 1) (by omega) _ (fun a ha => by rw [mU_n (by omega), g1 a (by omega)]; exact h1 a ha) ?_
          have := isX_trc g2 (by rw [wN_rpg (by omega)]; omega) (by rw [cN_rpg]; omega) (nI (tN (pg N 0) + k + 1))
          rw [trP_s hO0] at this
          exact this
      have st0p : pg (st0 N) 0 = pg N 0 := by
        unfold st0
        rw [pg_mUo _ _ _ _ _ (by decide), pg_mUo _ _ _ _ _ (by decide), pg_mUo _ _ _ _ _ (by decide)]
      have keyR : ∀ (Q : Int32 → Mem → Prop), (∀ N', trI (st0 N) N' 0 (pg N 0) (fun _ => false) n → Q (N' 0 15) N') → ∀ j k, j + k = n → ∀ N', trI (st0 N) N' 0 (pg N 0) (fun _ => false) k → p_X6_trace Q (j + 1) (nI n) (nI k) N' := by
        intro Q hq j
        induction j with
        | zero =>
          intro k hk N' hI
          refine br_t (nI_le (by omega) (by omega)) ?_
          have e : k = n := by omega
          subst e
          exact hq N' hI
        | succ j ih =>
          intro k hk N' hI
          refine br_f (nI_ge (by omega) (by omega)) ?_
          refine R_tracesOn (p := 0) (by omega) hO0.one (by omega) (fun j hj => ?_) hI (Or.inl ⟨rfl, rfl⟩) (fun N2 hI2 => ?_)
          · have := congrFun st0p j
            exact this
          · rw [nI_1]
            exact ih (k + 1) (by omega) N2 hI2
      have t0 : trI (st0 N) (st0 N) 0 (pg N 0) (fun _ => false) 0 := by
        have := trI_0 (N := st0 N) (p := 0) (ms := fun _ => false) (by rw [st0p]; exact hO0.2.2.1.1)
        rw [st0p] at this
        exact this
      refine ⟨sm (fun k => rba (pg N 0) (sa (pg N 0) k)) n, fun M' => (∀ a, (a < 1 ∨ 6 < a) → M' a = M a) ∧ isX M' 1 (trP (pg N 0) n), fun N' => trI (st0 N) N' 0 (pg N 0) (fun _ => false) n, ⟨n + 1, fX _ _ (br_t ?_ (keyX _ (fun M' h1 h2 => ⟨rfl, h1, h2⟩) n 0 (by omega) M (fun _ _ => rfl) (by rw [trP_0 hO0]; exact hX)))⟩, ⟨n + 1, fR _ _ (br_t ?_ (fun M1 hM => ?_))⟩, ?_⟩
      · rw [e9, nI_add, li 10000]; exact nI_lt (by omega) (by omega)
      · rw [e36, nI_add, li 9999]; exact nI_le (by omega) (by omega)
      · subst hM
        refine keyR _ (fun N' hI => ⟨?_, hI⟩) n 0 (by omega) _ t0
        have := (hI.2.2.2.2.2.2 (fun _ => rfl)).1
        rw [this]
        show (0 : Int32) + _ = _
        rw [z_add]
      · rintro M' N' ⟨h1, h2⟩ hI
        obtain ⟨i1, i2, i3, i4, i5, i6, -⟩ := hI
        have s1 : ∀ a, a ≠ 0 → st0 N a = N a := fun a ha => by unfold st0; rw [mU_n ha, mU_n ha, mU_n ha]
        have s0 : ∀ j, (j < 15 ∨ 17 < j) → st0 N 0 j = N 0 j := fun j hj => by unfold st0; rw [mU_at, if_neg (by omega), mU_at, if_neg (by omega), mU_at, if_neg (by omega)]
        have l1 : ∀ j, j < 31 ∨ j = 35 ∨ j = 36 → pg N' 0 j = trP (pg N 0) n j := by
          intro j hj
          rcases hj with hj | hj | hj
          · rw [trP_n (by omega) (by omega)]
            have := i3 (0 + j) (by omega)
            rw [s1 1 (by decide)] at this
            exact this
          · subst hj
            rw [trP_n (by omega) (by omega)]
            exact i4
          · subst hj
            rw [trP_t h4]
            exact i5
        have l2 : ∀ i, i < wN (trP (pg N 0) n) → pg N' 0 (31 + i) = trP (pg N 0) n (31 + i) := by
          intro i hi
          have ew : wN (trP (pg N 0) n) = wN (pg N 0) := wN_congr (trP_n (by omega) (by omega))
          rw [ew] at hi
          rw [trP_y hi]
          have := i6 i hi
          rw [ra_raM] at this
          unfold pg
          rw [show 0 + (31 + i) = 0 + 31 + i by omega]
          exact this
        have hOt := OK_trP hO hl (by omega)
        refine h.now2 h1 (fun a ha hb => by rw [i1 a ha hb, s1 a ha]) (fun j hj => by rw [i2 j hj, s0 j hj]) (fun j hj => by rw [i3 j (by omega), s1 1 (by decide)]) (OK_live hOt l1 l2) ?_
        exact isX_live h2 hOt.1.2.1.2 hOt.1.1.2 l1 l2
    · refine both.no h (-3) (fun Q q => ⟨0, fX Q 0 (br_f ?_ q)⟩) (fun Q q => ⟨0, fR Q 0 (br_f ?_ q)⟩)
      · rw [e9, nI_add, li 10000]; exact nI_nlt (by omega) (by omega)
      · rw [e36, nI_add, li 9999]; exact nI_ge (by omega) (by omega)
  · exact both.no h (-1) (fun Q q => ⟨0, X_within (fun z => absurd z hv) (fun _ => bn_t rfl q)⟩) (fun Q q => ⟨0, R_inI (lo := 0) (hi := 100) rfl rfl (fun z => absurd z hv) (fun _ => bn_t rfl q)⟩)
