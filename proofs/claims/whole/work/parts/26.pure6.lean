/-! public methods: what there is, what is changed -/
theorem pl_of {x : Int32} (h : 0 ≤ x ∧ x ≤ 20) : pl x := ⟨Int32.le_iff_toInt_le.mp h.1, Int32.le_iff_toInt_le.mp h.2⟩
theorem kd_of {x : Int32} (h : 0 ≤ x ∧ x ≤ 3) : kd x := ⟨Int32.le_iff_toInt_le.mp h.1, Int32.le_iff_toInt_le.mp h.2⟩
theorem sp_of {x : Int32} (h : 1 ≤ x ∧ x ≤ 9) : sp x := ⟨Int32.le_iff_toInt_le.mp h.1, Int32.le_iff_toInt_le.mp h.2⟩
/-- refused on both sides -/
theorem both.no {M N : Mem} {f g : (Int32 → Mem → Prop) → Prop} (h : RR M N) (ans : Int32) (hf : ∀ Q : Int32 → Mem → Prop, Q ans M → f Q) (hg : ∀ Q : Int32 → Mem → Prop, Q ans N → g Q) : both f g := both.e ans M N hf hg h
theorem o_fault {M N : Mem} (h : RR M N) : both (q_X5_fault M) (q_X6_fault N) := both.no h (M 0 9) (fun Q q => q) (fun Q q => by show Q (N 0 5) N; rw [← h.2.2.2.1.1]; exact q)
theorem o_torn {M N : Mem} (h : RR M N) : both (q_X5_torn M) (q_X6_torn N) := both.no h (M 0 10) (fun Q q => q) (fun Q q => by show Q (N 0 25) N; rw [← h.2.2.2.1.2]; exact q)
theorem o_rule {M N : Mem} (h : RR M N) (v : Int32) : both (q_X5_rule v M) (q_X6_rule v N) := by
  obtain ⟨⟨⟨hO, -, -⟩, hX⟩, -, -, -, -, -, hl, -⟩ := id h
  have hc := hO.1.1
  unfold q_X5_rule q_X6_rule
  by_cases h0 : v = 0
  · exact both.no h (M 1 2) (fun Q q => br_t h0 q) (fun Q q => br_t h0 (by show Q (pg N 0 20) N; rw [← hX.1]; exact q))
  by_cases h1 : v = 1
  · exact both.no h (M 1 6) (fun Q q => br_f h0 (br_t h1 q)) (fun Q q => br_f h0 (br_t h1 (by show Q (pg N 0 35) N; rw [← hX.2.1]; exact q)))
  by_cases h2 : v = 2
  · exact both.no h (M 1 9) (fun Q q => br_f h0 (br_f h1 (br_t h2 q))) (fun Q q => br_f h0 (br_f h1 (br_t h2 (by show Q (pg N 0 36) N; rw [← hX.2.2.2.2.1]; exact q))))
  by_cases h3 : v = 3
  · exact both.no h (100000 + ar (pg N 0)) (fun Q q => br_f h0 (br_f h1 (br_f h2 (br_t h3 (L_area hX hO q))))) (fun Q q => br_f h0 (br_f h1 (br_f h2 (br_t h3 (R_area (p := 0) (by omega) hO hl q)))))
  by_cases h4 : v = 4
  · have e36 : N 1 36 = nI (tN (pg N 0)) := hO.2.2.1.1
    have e20 : N 1 20 = nI (cN (pg N 0)) := hO.1.1
    have ht := hO.2.2.1.2
    have h10 := hO.1.2
    by_cases hz : cN (pg N 0) = 0
    · refine both.no h (-4) (fun Q q => br_f h0 (br_f h1 (br_f h2 (br_f h3 (br_t h4 (L_edgeAhead (n := 0) hX hO (by omega) (fun _ => q) (fun n => absurd hz n))))))) (fun Q q => br_f h0 (br_f h1 (br_f h2 (br_f h3 (br_t h4 (bn_t ?_ q))))))
      rw [e20, hz]; rfl
    · refine both.no h (nI ((tN (pg N 0) + 0) % cN (pg N 0))) (fun Q q => br_f h0 (br_f h1 (br_f h2 (br_f h3 (br_t h4 (L_edgeAhead (n := 0) hX hO (by omega) (fun n => absurd n hz) (fun _ => q))))))) (fun Q q => br_f h0 (br_f h1 (br_f h2 (br_f h3 (br_t h4 ?_)))))
      rw [e20, e36, pk_rem (by omega) (by omega) (by omega)]
      have hne : ¬ nI (cN (pg N 0)) = 0 := nI_ne0 (by omega) (by omega)
      exact bn_f hne ⟨hne, q⟩
  by_cases h5 : v = 5
  · exact both.no h (M 1 7) (fun Q q => br_f h0 (br_f h1 (br_f h2 (br_f h3 (br_f h4 (br_t h5 q)))))) (fun Q q => br_f h0 (br_f h1 (br_f h2 (br_f h3 (br_f h4 (br_t h5 (by show Q (pg N 0 21) N; rw [← hX.2.2.1]; exact q)))))))
  by_cases h6 : v = 6
  · exact both.no h (M 1 8) (fun Q q => br_f h0 (br_f h1 (br_f h2 (br_f h3 (br_f h4 (br_f h5 (br_t h6 q))))))) (fun Q q => br_f h0 (br_f h1 (br_f h2 (br_f h3 (br_f h4 (br_f h5 (br_t h6 (by show Q (pg N 0 22) N; rw [← hX.2.2.2.1]; exact q))))))))
  · exact both.no h (-1) (fun Q q => br_f h0 (br_f h1 (br_f h2 (br_f h3 (br_f h4 (br_f h5 (br_f h6 q))))))) (fun Q q => br_f h0 (br_f h1 (br_f h2 (br_f h3 (br_f h4 (br_f h5 (br_f h6 q)))))))
theorem in3 {v : Int32} : (0 ≤ v ∧ v ≤ 2) ↔ v = 0 ∨ v = 1 ∨ v = 2 := by
  constructor
  · rintro ⟨h1, h2⟩
    have a := Int32.le_iff_toInt_le.mp h1
    have b := Int32.le_iff_toInt_le.mp h2
    have e0 : (0 : Int32).toInt = 0 := by decide
    have e2 : (2 : Int32).toInt = 2 := by decide
    rcases (by omega : v.toInt = 0 ∨ v.toInt = 1 ∨ v.toInt = 2) with q | q | q
    · exact Or.inl (Int32.toInt_inj.mp q)
    · exact Or.inr (Or.inl (Int32.toInt_inj.mp q))
    · exact Or.inr (Or.inr (Int32.toInt_inj.mp q))
  · rintro (rfl | rfl | rfl) <;> decide
theorem in2 {v : Int32} : (0 ≤ v ∧ v ≤ 1) ↔ v = 0 ∨ v = 1 := by
  constructor
  · rintro ⟨h1, h2⟩
    have a := Int32.le_iff_toInt_le.mp h1
    have b := Int32.le_iff_toInt_le.mp h2
    have e0 : (0 : Int32).toInt = 0 := by decide
    have e2 : (1 : Int32).toInt = 1 := by decide
    rcases (by omega : v.toInt = 0 ∨ v.toInt = 1) with q | q
    · exact Or.inl (Int32.toInt_inj.mp q)
    · exact Or.inr (Int32.toInt_inj.mp q)
  · rintro (rfl | rfl) <;> decide
set_option maxHeartbeats 1000000 in
theorem o_corner {M N : Mem} (h : RR M N) (v1 v2 : Int32) : both (q_X5_corner v1 v2 M) (q_X6_corner v1 v2 N) := by
  obtain ⟨⟨⟨hO, -, -⟩, hX⟩, -, -, -, -, -, hl, -⟩ := id h
  have h10 := hO.1.2
  by_cases hh : ∃ w, w < cN (pg N 0) ∧ v1 = nI w
  · obtain ⟨w, hw, rfl⟩ := hh
    have vw : vp_in (nI w) 10 := vp_in_nI (by omega) (by omega)
    have fX : ∀ Q : Int32 → Mem → Prop, ((v2 = 0 → vp_in (nI w) 10 ∧ Q (M 2 (nI w).toNatClampNeg) M) ∧ (¬ v2 = 0 → ((v2 = 1 → vp_in (nI w) 10 ∧ Q (M 3 (nI w).toNatClampNeg) M) ∧ (¬ v2 = 1 → ((v2 = 2 → q_X0_sweepOf 1 (nI w) M (fun r_6 M_5 => Q ((10000 : Int32) + r_6) M_5)) ∧ (¬ v2 = 2 → Q (-1 : Int32) M)))))) → q_X5_corner (nI w) v2 M Q :=
      fun Q q => X_hasCorner hX hO (fun _ _ _ => bn_f ne10 q) (fun n => absurd ⟨w, hw, rfl⟩ n)
    have fR : ∀ Q : Int32 → Mem → Prop, (¬ (0 ≤ v2 ∧ v2 ≤ 2) → Q (-1) N) → ((0 ≤ v2 ∧ v2 ≤ 2) → (((2 : Int32) ≤ v2 → q_X6_behindOn (0 : Int32) (nI w) N (fun r_6 M_5 => q_X6_sweepOn (0 : Int32) (nI w) r_6 M_5 (fun r_8 M_7 => Q ((10000 : Int32) + r_8) M_7))) ∧ (¬ (2 : Int32) ≤ v2 → vp_in (((10 : Int32) * v2) + nI w) 222 ∧ Q (N 1 (((10 : Int32) * v2) + nI w).toNatClampNeg) N))) → q_X6_corner (nI w) v2 N Q :=
      fun Q q1 q2 => R_isCorner hO (fun _ _ _ => br_f ne10 (R_inI (lo := 0) (hi := 2) rfl rfl (fun g => bn_f ne10 (q2 g)) (fun g => bn_t rfl (q1 g)))) (fun n => absurd ⟨w, hw, rfl⟩ n)
    by_cases h0 : v2 = 0
    · subst h0
      refine both.no h (pg N 0 w) (fun Q q => fX Q (br_t rfl ⟨vw, ?_⟩)) (fun Q q => fR Q (fun n => absurd (by decide) n) (fun _ => br_f (by decide) ?_))
      · rw [nI_clamp (by omega), (hX.2.2.2.2.2.1 w hw).1]; exact q
      · have e : (10 : Int32) * 0 + nI w = nI w := by simp
        rw [e]
        refine ⟨vp_in_nI (by omega) (by omega), ?_⟩
        rw [pgk N 0 w w (by omega) (by omega)]; exact q
    by_cases h1 : v2 = 1
    · subst h1
      refine both.no h (pg N 0 (10 + w)) (fun Q q => fX Q (br_f h0 (br_t rfl ⟨vw, ?_⟩))) (fun Q q => fR Q (fun n => absurd (by decide) n) (fun _ => br_f (by decide) ?_))
      · rw [nI_clamp (by omega), (hX.2.2.2.2.2.1 w hw).2]; exact q
      · have e : (10 : Int32) * 1 + nI w = nI (10 + w) := by rw [show (10 : Int32) * 1 = nI 10 by decide, nI_add]
        rw [e]
        refine ⟨vp_in_nI (by omega) (by omega), ?_⟩
        rw [pgk N 0 (10 + w) (10 + w) (by omega) (by omega)]; exact q
    by_cases h2 : v2 = 2
    · subst h2
      have hb : bh (cN (pg N 0)) w < cN (pg N 0) := bh_lt (by omega)
      refine both.no h (10000 + sw (pg N 0) w) (fun Q q => fX Q (br_f h0 (br_f h1 (br_t rfl (L_sweepOf hX hO hw q))))) (fun Q q => fR Q (fun n => absurd (by decide) n) (fun _ => br_t (by decide) ?_))
      exact R_behindOn (p := 0) (by omega) hO.1.1 h10 hw (R_sweepOn (p := 0) (by omega) (by omega) (by omega) q)
    · have hn : ¬ (0 ≤ v2 ∧ v2 ≤ 2) := fun q => by rcases in3.mp q with q | q | q <;> contradiction
      exact both.no h (-1) (fun Q q => fX Q (br_f h0 (br_f h1 (br_f h2 q)))) (fun Q q => fR Q (fun _ => q) (fun n => absurd n hn))
  · exact both.no h (-1) (fun Q q => X_hasCorner hX hO (fun w hw e => absurd ⟨w, hw, e⟩ hh) (fun _ => bn_t rfl q)) (fun Q q => R_isCorner hO (fun w hw e => absurd ⟨w, hw, e⟩ hh) (fun _ => br_t rfl q))
def shw (P : Pg) (w : Nat) : Int32 := if P (23 + w) = 1 then P (31 + w) / P (27 + w) else if P (23 + w) = 3 then 2 * P (31 + w) else P (31 + w)
theorem L_shownBy {M : Mem} {o : Nat} {P : Pg} {w : Nat} {Q : Int32 → Mem → Prop} (hX : isX M o P) (hO : OK0 P) (hw : w < wN P) (hq : Q (shw P w) M) : q_X0_shownBy o (nI w) M Q := by
  have h4 := hO.2.1.2
  have v : vp_in (nI w) 4 := vp_in_nI (by omega) (by omega)
  obtain ⟨e3, e4, e5⟩ := hX.2.2.2.2.2.2 w hw
  have hs := (hO.2.2.2.2.2 w hw).2
  refine ⟨v, fun x hx => ⟨v, fun y hy => ⟨v, ?_⟩⟩⟩
  rw [nI_clamp (by omega)] at hx hy ⊢
  rw [e5] at hx
  rw [e4] at hy
  rw [e3]
  subst hx hy
  unfold shw at hq
  refine br_c (fun h => ?_) (fun h => br_c (fun h2 => ?_) (fun h2 => ?_))
  · replace h : P (23 + w) = 1 := h
    rw [if_pos h] at hq
    exact br_t (sp_1 hs).1 ⟨(sp_1 hs).2, hq⟩
  · replace h : ¬ P (23 + w) = 1 := h
    replace h2 : P (23 + w) = 3 := h2
    rw [if_neg h, if_pos h2] at hq; exact hq
  · replace h : ¬ P (23 + w) = 1 := h
    replace h2 : ¬ P (23 + w) = 3 := h2
    rw [if_neg h, if_neg h2] at hq; exact hq
set_option maxHeartbeats 1000000 in
theorem R_showsOn {N : Mem} {w : Nat} {Q : Int32 → Mem → Prop} (hO : OK0 (pg N 0)) (hw : w < wN (pg N 0)) (hq : Q (shw (pg N 0) w) N) : q_X6_showsOn 0 (nI w) N Q := by
  have h4 := hO.2.1.2
  have hs := (hO.2.2.2.2.2 w hw).2
  unfold q_X6_showsOn
  rw [show (0 : Int32) + 23 = nI 23 by decide, show (0 : Int32) + 31 = nI 31 by decide, show (0 : Int32) + 27 = nI 27 by decide, nI_add, nI_add, nI_add]
  refine ⟨vp_in_nI (by omega) (by omega), fun x hx => ⟨vp_in_nI (by omega) (by omega), fun y hy => ?_⟩⟩
  rw [pgk N 0 (23 + w) (23 + w) (by omega) (by omega)] at hx
  rw [pgk N 0 (31 + w) (31 + w) (by omega) (by omega)] at hy
  rw [pgk N 0 (27 + w) (27 + w) (by omega) (by omega)]
  unfold shw at hq
  rw [← hx, ← hy] at hq
  refine bn_c (fun h => bn_c (fun h2 => ?_) (fun h2 => ?_)) (fun h => ?_)
  · rw [if_neg h, if_neg h2] at hq; exact hq
  · rw [if_neg h, if_pos h2] at hq; exact hq
  · rw [if_pos h] at hq
    exact ⟨vp_in_nI (by omega) (by omega), (sp_1 hs).2, hq⟩
set_option maxHeartbeats 1000000 in
theorem o_wheel {M N : Mem} (h : RR M N) (v1 v : Int32) : both (q_X5_wheel v1 v M) (q_X6_wheel v1 v N) := by
  obtain ⟨⟨⟨hO, -, -⟩, hX⟩, -, -, -, -, -, hl, -⟩ := id h
  have h4 := hO.2.1.2
  by_cases hh : ∃ w, w < wN (pg N 0) ∧ v1 = nI w
  · obtain ⟨w, hw, rfl⟩ := hh
    have vw : vp_in (nI w) 4 := vp_in_nI (by omega) (by omega)
    obtain ⟨e3, e4, e5⟩ := hX.2.2.2.2.2.2 w hw
    replace e3 : M 4 w = pg N 0 (23 + w) := e3
    replace e4 : M 5 w = pg N 0 (27 + w) := e4
    replace e5 : M 6 w = pg N 0 (31 + w) := e5
    have ew : (nI w).toNatClampNeg = w := nI_clamp (by omega)
    unfold q_X5_wheel q_X6_wheel
    have fX : ∀ {Q : Int32 → Mem → Prop}, _ → q_X5_hasWheel (nI w) M Q := fun {Q} (q : Q 1 M) => X_hasWheel hX hO (fun _ _ _ => q) (fun n => absurd ⟨w, hw, rfl⟩ n)
    have fR : ∀ {Q : Int32 → Mem → Prop}, _ → q_X6_isWheel (nI w) N Q := fun {Q} (q : Q 1 N) => R_isWheel hO (fun _ _ _ => q) (fun n => absurd ⟨w, hw, rfl⟩ n)
    by_cases h0 : v = 0
    · refine both.no h (pg N 0 (23 + w)) (fun Q q => fX (bn_f ne10 (br_t h0 ⟨vw, ?_⟩))) (fun Q q => fR (bn_f ne10 (br_t h0 ?_)))
      · rw [ew, e3]; exact q
      · rw [show (23 : Int32) + nI w = nI (23 + w) by rw [li 23, nI_add], pgk N 0 (23 + w) (23 + w) (by omega) (by omega)]
        exact ⟨vp_in_nI (by omega) (by omega), q⟩
    by_cases h1 : v = 1
    · refine both.no h (pg N 0 (27 + w)) (fun Q q => fX (bn_f ne10 (br_f h0 (br_t h1 ⟨vw, ?_⟩)))) (fun Q q => fR (bn_f ne10 (br_f h0 (br_t h1 ?_))))
      · rw [ew, e4]; exact q
      · rw [show (27 : Int32) + nI w = nI (27 + w) by rw [li 27, nI_add], pgk N 0 (27 + w) (27 + w) (by omega) (by omega)]
        exact ⟨vp_in_nI (by omega) (by omega), q⟩
    by_cases h2 : v = 2
    · refine both.no h (20000000 + pg N 0 (31 + w)) (fun Q q => fX (bn_f ne10 (br_f h0 (br_f h1 (br_t h2 ⟨vw, ?_⟩))))) (fun Q q => fR (bn_f ne10 (br_f h0 (br_f h1 (br_t h2 ?_)))))
      · rw [ew, e5]; exact q
      · rw [show (31 : Int32) + nI w = nI (31 + w) by rw [li 31, nI_add], pgk N 0 (31 + w) (31 + w) (by omega) (by omega)]
        exact ⟨vp_in_nI (by omega) (by omega), q⟩
    by_cases h3 : v = 3
    · exact both.no h (20000000 + shw (pg N 0) w) (fun Q q => fX (bn_f ne10 (br_f h0 (br_f h1 (br_f h2 (br_t h3 (L_shownBy hX hO hw q))))))) (fun Q q => fR (bn_f ne10 (br_f h0 (br_f h1 (br_f h2 (br_t h3 (R_showsOn hO hw q)))))))
    by_cases h5 : v = 4
    · exact both.no h (er (pg N 0) w) (fun Q q => fX (bn_f ne10 (br_f h0 (br_f h1 (br_f h2 (br_f h3 (br_t h5 (L_errorOf hX hO hw q)))))))) (fun Q q => fR (bn_f ne10 (br_f h0 (br_f h1 (br_f h2 (br_f h3 (br_t h5 (R_errorOn (p := 0) (by omega) hO hl hw q))))))))
    · exact both.no h (-1) (fun Q q => fX (bn_f ne10 (br_f h0 (br_f h1 (br_f h2 (br_f h3 (br_f h5 q))))))) (fun Q q => fR (bn_f ne10 (br_f h0 (br_f h1 (br_f h2 (br_f h3 (br_f h5 q)))))))
  · exact both.no h (-1) (fun Q q => X_hasWheel hX hO (fun w hw e => absurd ⟨w, hw, e⟩ hh) (fun _ => bn_t rfl q)) (fun Q q => R_isWheel hO (fun w hw e => absurd ⟨w, hw, e⟩ hh) (fun _ => bn_t rfl q))
