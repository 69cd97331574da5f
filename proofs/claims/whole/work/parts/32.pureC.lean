/-! count, read -/
theorem R_count {N : Mem} {v : Int32} {Q : Int32 → Mem → Prop} (hO : OK0 (pg N 0)) (h : f_X6_count_41 Q (p_X6_count Q 2) v (sm (fun i => pg N 0 (27 + i)) (wN (pg N 0))) (sm (fun i => pg N 0 i + pg N 0 (10 + i)) (cN (pg N 0))) (nI (cN (pg N 0))) N) : q_X6_count v N Q := by
  have h10 := hO.1.2
  have h4 := hO.2.1.2
  have e20 : N 1 20 = nI (cN (pg N 0)) := hO.1.1
  have e35 : N 1 35 = nI (wN (pg N 0)) := hO.2.1.1
  have k2 : ∀ j k, j + k = cN (pg N 0) → (p_X6_count Q (j + 3)).2.1 v (sm (fun i => pg N 0 (27 + i)) (wN (pg N 0))) (sm (fun i => pg N 0 i + pg N 0 (10 + i)) k) (nI k) N := by
    intro j
    induction j with
    | zero =>
      intro k hk
      rw [show k = cN (pg N 0) by omega]
      exact h
    | succ j ih =>
      intro k hk
      show f_X6_count_41 Q (p_X6_count Q (j + 3)) _ _ _ _ _
      unfold f_X6_count_41
      rw [e20, li 10, nI_add]
      refine br_f (nI_ge (by omega) (by omega)) ⟨vp_in_nI (by omega) (by omega), vp_in_nI (by omega) (by omega), fun x hx => ?_⟩
      rw [pgk N 0 k k (by omega) (by omega), pgk N 0 (10 + k) (10 + k) (by omega) (by omega)] at hx
      subst hx
      rw [nI_1]
      exact ih (k + 1) (by omega)
  have k1 : ∀ j k, j + k = wN (pg N 0) → (p_X6_count Q (j + cN (pg N 0) + 4)).1 v (sm (fun i => pg N 0 (27 + i)) k) 0 (nI k) N := by
    intro j
    induction j with
    | zero =>
      intro k hk
      rw [show 0 + cN (pg N 0) + 4 = (cN (pg N 0) + 3) + 1 by omega]
      show f_X6_count_7 Q (p_X6_count Q (cN (pg N 0) + 3)) _ _ _ _ _
      unfold f_X6_count_7
      rw [e35]
      refine br_t (nI_le (by omega) (by omega)) ?_
      rw [show k = wN (pg N 0) by omega]
      exact k2 (cN (pg N 0)) 0 (by omega)
    | succ j ih =>
      intro k hk
      rw [show j + 1 + cN (pg N 0) + 4 = (j + cN (pg N 0) + 4) + 1 by omega]
      show f_X6_count_7 Q (p_X6_count Q (j + cN (pg N 0) + 4)) _ _ _ _ _
      unfold f_X6_count_7
      rw [e35, li 27, nI_add]
      refine br_f (nI_ge (by omega) (by omega)) ⟨vp_in_nI (by omega) (by omega), fun x hx => ?_⟩
      rw [pgk N 0 (27 + k) (27 + k) (by omega) (by omega)] at hx
      subst hx
      rw [nI_1]
      exact ih (k + 1) (by omega)
  exact ⟨_, k1 (wN (pg N 0)) 0 (by omega)⟩
set_option maxHeartbeats 1000000 in
theorem o_count {M N : Mem} (h : RR M N) (v : Int32) : both (q_X5_count v M) (q_X6_count v N) := by
  obtain ⟨⟨⟨hO, -⟩, hX⟩, ⟨i0, i1⟩, ⟨T, hT, eM, eN, -⟩, -, ⟨S, hS, sM, sN, -⟩, sh, -⟩ := id h
  have h10 := hO.1.2
  have e20 : N 1 20 = nI (cN (pg N 0)) := hO.1.1
  have hle : N 1 20 ≤ nI (cN (pg N 0)) := by rw [e20]; exact Int32.le_refl _
  by_cases h0 : v = 0
  · exact both.no h (nI S) (fun Q q => br_t h0 (by rw [sM]; exact q)) (fun Q q => R_count hO (br_t hle (br_t h0 (by rw [sN]; exact q))))
  by_cases h1 : v = 1
  · have m0 : M 14 0 = N 8 0 ∧ (N 8 0 = 0 ∨ N 8 0 = 1) := by
      rcases i0 with ⟨q1, q2⟩ | ⟨q1, q2, -⟩
      · exact ⟨by rw [q1, q2], Or.inl q2⟩
      · exact ⟨by rw [q1, q2], Or.inr q2⟩
    have m1 : M 14 1 = N 8 1 ∧ (N 8 1 = 0 ∨ N 8 1 = 1) := by
      rcases i1 with ⟨q1, q2⟩ | ⟨q1, q2, -⟩
      · exact ⟨by rw [q1, q2], Or.inl q2⟩
      · exact ⟨by rw [q1, q2], Or.inr q2⟩
    refine both.no h (N 8 0 + N 8 1) (fun Q q => br_f h0 (br_t h1 ?_)) (fun Q q => R_count hO (br_t hle (br_f h0 (br_t h1 ?_))))
    · have t : ∀ s0 : Int32, s0 = N 8 0 → f_X5_count_62 Q s0 M := by
        intro s0 hs
        unfold f_X5_count_62 f_X5_count_76
        rw [m1.1, hs]
        rcases m1.2 with z | z
        · exact br_t z (by rw [← z]; exact q)
        · exact br_f (by rw [z]; decide) (by rw [z] at q; exact q)
      rw [m0.1]
      rcases m0.2 with z | z
      · exact br_t z (t 0 z.symm)
      · exact br_f (by rw [z]; decide) (t 1 z.symm)
    · have t : ∀ s0 : Int32, s0 = N 8 0 → f_X6_count_139 Q (p_X6_count Q 1) s0 N := by
        intro s0 hs
        unfold f_X6_count_139
        rw [hs]
        rcases m1.2 with z | z
        · refine br_t z ?_
          show Q (N 8 0 + 0) N
          rw [z] at q; exact q
        · refine br_f (by rw [z]; decide) ?_
          show Q (N 8 0 + 1) N
          rw [z] at q; exact q
      rcases m0.2 with z | z
      · exact br_t z (t 0 z.symm)
      · exact br_f (by rw [z]; decide) (t 1 z.symm)
  by_cases h2 : v = 2
  · exact both.no h (nI T) (fun Q q => br_f h0 (br_f h1 (br_t h2 (by rw [eM]; exact q)))) (fun Q q => R_count hO (br_t hle (br_f h0 (br_f h1 (br_t h2 (by rw [eN]; exact q))))))
  by_cases h3 : v = 3
  · rcases sh 0 (by omega) with ⟨q1, q2⟩ | ⟨ln, z, hln, hz, x1, n1, x2, n2, -⟩
    · exact both.no h (-4) (fun Q q => br_f h0 (br_f h1 (br_f h2 (br_t h3 (S_isNothing (fun _ => br_f ne10 q) (fun n => absurd q1 n)))))) (fun Q q => R_count hO (br_t hle (br_f h0 (br_f h1 (br_f h2 (br_t h3 (bn_t q2 q)))))))
    · exact both.no h (nI z) (fun Q q => br_f h0 (br_f h1 (br_f h2 (br_t h3 (S_isNothing (fun n => absurd n (by rw [x2]; exact nI_nm1 (by omega))) (fun _ => br_t rfl (by show Q (M 43 2) M; rw [show M 43 2 = nI z from x2]; exact q))))))) (fun Q q => R_count hO (br_t hle (br_f h0 (br_f h1 (br_f h2 (br_t h3 (bn_f (by rw [n1]; exact nI_nm4 (by omega)) (by rw [n2]; exact q))))))))
  by_cases h4 : v = 4
  · exact both.no h (sm (fun i => pg N 0 (27 + i)) (wN (pg N 0))) (fun Q q => br_f h0 (br_f h1 (br_f h2 (br_f h3 (br_t h4 (L_sumOfSteps hX hO q)))))) (fun Q q => R_count hO (br_t hle (br_f h0 (br_f h1 (br_f h2 (br_f h3 (br_t h4 q)))))))
  by_cases h5 : v = 5
  · exact both.no h (sm (fun i => pg N 0 i + pg N 0 (10 + i)) (cN (pg N 0))) (fun Q q => br_f h0 (br_f h1 (br_f h2 (br_f h3 (br_f h4 (br_t h5 (L_sumOfPlaces hX hO q))))))) (fun Q q => R_count hO (br_t hle (br_f h0 (br_f h1 (br_f h2 (br_f h3 (br_f h4 (br_t h5 q))))))))
  · exact both.no h (-1) (fun Q q => br_f h0 (br_f h1 (br_f h2 (br_f h3 (br_f h4 (br_f h5 q)))))) (fun Q q => R_count hO (br_t hle (br_f h0 (br_f h1 (br_f h2 (br_f h3 (br_f h4 (br_f h5 q))))))))
