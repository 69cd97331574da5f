/-! the tape, what is seen, images -/
/-- what a write to the reference's object (none of the relation's own fields but those told) or elsewhere leaves -/
theorem RR.tape {M N M' N' : Mem} (h : RR M N) (hx : ∀ a, a ≠ 16 → a ≠ 17 → M' a = M a) (hm : ∀ a, a ≠ 0 → a ≠ 3 → N' a = N a) (h0 : ∀ j, j ≠ 4 → N' 0 j = N 0 j) (ht : rTape M' N') : RR M' N' := by
  obtain ⟨⟨a1, a2⟩, ⟨b1, b2⟩, -, ⟨d1, d2⟩, e, f, g, i, j⟩ := h
  have ep : ∀ p, pg N' p = pg N p := fun p => by unfold pg; rw [hm 1 (by decide) (by decide)]
  have im : ∀ k, k < 2 → rImg M N k → rImg M' N' k := by
    intro k hk hr
    unfold rImg at hr ⊢
    rw [hx 14 (by omega) (by omega), hm 8 (by decide) (by decide), ep]
    rcases hr with q | ⟨q1, q2, q3, q4⟩
    · exact Or.inl q
    · exact Or.inr ⟨q1, q2, q3, q4.of (fun i hi => hx _ (by omega) (by omega))⟩
  refine ⟨⟨by rw [ep]; exact a1, by rw [ep]; exact a2.of (fun i hi => hx _ (by omega) (by omega))⟩, ⟨im 0 (by omega) b1, im 1 (by omega) b2⟩, ht, ⟨?_, ?_⟩, ?_, fun k hk => ?_, ?_, ?_, ?_⟩
  · rw [hx 0 (by omega) (by omega), h0 5 (by omega)]; exact d1
  · rw [hx 0 (by omega) (by omega), h0 25 (by omega)]; exact d2
  · unfold rSeen at e ⊢
    rw [hx 24 (by omega) (by omega), hx 25 (by omega) (by omega), hx 26 (by omega) (by omega), hx 27 (by omega) (by omega), h0 19 (by omega), hm 6 (by decide) (by decide)]
    exact e
  · have := f k hk
    unfold rSheet at this ⊢
    rw [hx (43 + 2 * k) (by omega) (by omega), hx (44 + 2 * k) (by omega) (by omega), hm 9 (by decide) (by decide), hm 10 (by decide) (by decide), hm 11 (by decide) (by decide)]
    exact this
  · rw [h0 14 (by omega)]; exact g
  · rw [hm 4 (by decide) (by decide)]; exact i
  · rw [hm 5 (by decide) (by decide)]; exact j
theorem byte_small {v : Int32} (h : 0 ≤ v ∧ v ≤ 127) : vp_nar .byte v.toInt8.toInt32 = v := by
  rw [pk_vb]
  obtain ⟨i, hi, rfl⟩ := (in_nI2 (n := 127) (by omega)).mp h
  have : ∀ i, i ≤ 127 → (nI i).toInt8.toInt32 = nI i := by decide +kernel
  exact this i hi
set_option maxHeartbeats 1000000 in
theorem o_feed {M N : Mem} (h : RR M N) (v : Int32) : both (q_X5_feed v M) (q_X6_feed v N) := by
  obtain ⟨-, -, ⟨T, hT, eM, eN, hb⟩, -⟩ := id h
  by_cases hv : 0 ≤ v ∧ v ≤ 127
  · have fX : ∀ Q : Int32 → Mem → Prop, _ → q_X5_feed v M Q := fun Q q => X_within (fun _ => bn_f ne10 q) (fun n => absurd hv n)
    have fR : ∀ Q : Int32 → Mem → Prop, _ → q_X6_feed v N Q := fun Q q => R_inI (lo := 0) (hi := 127) rfl rfl (fun _ => bn_f ne10 q) (fun n => absurd hv n)
    by_cases ht : T = 160
    · refine both.no h (-3) (fun Q q => fX Q (br_f ?_ q)) (fun Q q => fR Q (bn_t ?_ q))
      · rw [eM, ht]; decide
      · rw [eN, ht]; decide
    · have ev : vp_in (nI T) 160 := vp_in_nI (by omega) (by omega)
      refine both.e (nI (T + 1)) (mU (mU M 17 T v) 16 1 (nI (T + 1))) (mU (mU N 3 T v) 0 4 (nI (T + 1))) (fun Q q => fX Q (br_t ?_ ?_)) (fun Q q => fR Q (bn_f ?_ ?_)) ?_
      · rw [eM, li 160]; exact nI_lt (by omega) (by omega)
      · unfold q_X3_append
        rw [eM, byte_small hv, nI_clamp (by omega)]
        refine br_f (by rw [li 160]; exact nI_ge (by omega) (by omega)) ⟨ev, fun M2 h2 => ?_⟩
        rw [mU_n (by omega), eM, li 1, nI_add] at h2
        rw [h2, mU_at, if_pos ⟨rfl, rfl⟩]
        exact q
      · rw [eN, li 160, nI_eq (by omega) (by omega)]; exact ht
      · rw [eN, nI_clamp (by omega)]
        refine ⟨ev, fun M2 h2 => ?_⟩
        rw [mU_n (by omega), eN, li 1, nI_add] at h2
        rw [h2, mU_at, if_pos ⟨rfl, rfl⟩]
        exact q
      · refine h.tape (fun a ha hb => by rw [mU_n ha, mU_n hb]) (fun a ha hb => by rw [mU_n ha, mU_n hb]) (fun j hj => by rw [mU_at, if_neg (by omega), mU_n (by omega)]) ⟨T + 1, by omega, ?_, ?_, fun i hi => ?_⟩
        · rw [mU_at, if_pos ⟨rfl, rfl⟩]
        · rw [mU_at, if_pos ⟨rfl, rfl⟩]
        · rw [mU_n (by omega), mU_at, mU_n (by omega), mU_at]
          by_cases q : i = T
          · rw [if_pos ⟨rfl, q⟩, if_pos ⟨rfl, q⟩]
            exact ⟨rfl, Int32.le_iff_toInt_le.mp hv.1, Int32.le_iff_toInt_le.mp hv.2⟩
          · rw [if_neg (fun z => q z.2), if_neg (fun z => q z.2)]
            exact hb i (by omega)
  · exact both.no h (-1) (fun Q q => X_within (fun n => absurd n hv) (fun _ => bn_t rfl q)) (fun Q q => R_inI (lo := 0) (hi := 127) rfl rfl (fun n => absurd n hv) (fun _ => bn_t rfl q))
theorem o_end {M N : Mem} (h : RR M N) (v : Int32) : both (q_X5_end v M) (q_X6_end v N) := by
  obtain ⟨-, -, ⟨T, hT, eM, eN, hb⟩, -⟩ := id h
  unfold q_X5_end q_X6_end
  rw [eM, eN]
  by_cases hh : ∃ i, i ≤ T ∧ v = nI i
  · have g := (in_nI2 (by omega)).mpr hh
    obtain ⟨i, hi, rfl⟩ := hh
    refine both.e (nI T) (mU M 16 1 (nI i)) (mU N 0 4 (nI i)) (fun Q q => X_within (fun _ => bn_f ne10 ?_) (fun n => absurd g n)) (fun Q q => R_inI (lo := 0) rfl rfl (fun _ => bn_f ne10 ?_) (fun n => absurd g n)) ?_
    · rw [eM]; exact q
    · rw [eN]; exact q
    · refine h.tape (fun a ha hb => mU_n ha) (fun a ha hb => mU_n ha) (fun j hj => by rw [mU_at, if_neg (by omega)]) ⟨i, by omega, ?_, ?_, fun k hk => ?_⟩
      · rw [mU_at, if_pos ⟨rfl, rfl⟩]
      · rw [mU_at, if_pos ⟨rfl, rfl⟩]
      · rw [mU_n (by omega), mU_n (by omega)]; exact hb k (by omega)
  · have g : ¬ (0 ≤ v ∧ v ≤ nI T) := fun q => hh ((in_nI2 (by omega)).mp q)
    exact both.no h (-1) (fun Q q => X_within (fun n => absurd n g) (fun _ => bn_t rfl q)) (fun Q q => R_inI (lo := 0) rfl rfl (fun n => absurd n g) (fun _ => bn_t rfl q))
theorem RR.seen {M N M' N' : Mem} (h : RR M N) (hx : ∀ a, (a < 24 ∨ 27 < a) → M' a = M a) (hm : ∀ a, a ≠ 0 → a ≠ 6 → N' a = N a) (h0 : ∀ j, j ≠ 19 → N' 0 j = N 0 j) (ht : rSeen M' N') : RR M' N' := by
  obtain ⟨⟨a1, a2⟩, ⟨b1, b2⟩, c, ⟨d1, d2⟩, -, f, g, i, j⟩ := h
  have ep : ∀ p, pg N' p = pg N p := fun p => by unfold pg; rw [hm 1 (by decide) (by decide)]
  have im : ∀ k, k < 2 → rImg M N k → rImg M' N' k := by
    intro k hk hr
    unfold rImg at hr ⊢
    rw [hx 14 (by omega), hm 8 (by decide) (by decide), ep]
    rcases hr with q | ⟨q1, q2, q3, q4⟩
    · exact Or.inl q
    · exact Or.inr ⟨q1, q2, q3, q4.of (fun i hi => hx _ (by omega))⟩
  refine ⟨⟨by rw [ep]; exact a1, by rw [ep]; exact a2.of (fun i hi => hx _ (by omega))⟩, ⟨im 0 (by omega) b1, im 1 (by omega) b2⟩, ?_, ⟨?_, ?_⟩, ht, fun k hk => ?_, ?_, ?_, ?_⟩
  · unfold rTape at c ⊢
    rw [hx 16 (by omega), hx 17 (by omega), h0 4 (by omega), hm 3 (by decide) (by decide)]
    exact c
  · rw [hx 0 (by omega), h0 5 (by omega)]; exact d1
  · rw [hx 0 (by omega), h0 25 (by omega)]; exact d2
  · have := f k hk
    unfold rSheet at this ⊢
    rw [hx (43 + 2 * k) (by omega), hx (44 + 2 * k) (by omega), hm 9 (by decide) (by decide), hm 10 (by decide) (by decide), hm 11 (by decide) (by decide)]
    exact this
  · rw [h0 14 (by omega)]; exact g
  · rw [hm 4 (by decide) (by decide)]; exact i
  · rw [hm 5 (by decide) (by decide)]; exact j
theorem o_forget {M N : Mem} (h : RR M N) (v : Int32) : both (q_X5_forget v M) (q_X6_forget v N) := by
  obtain ⟨-, -, -, -, ⟨S, hS, eM, eN, hb⟩, -⟩ := id h
  unfold q_X5_forget q_X6_forget
  rw [eM, eN]
  by_cases hh : ∃ i, i ≤ S ∧ v = nI i
  · have g := (in_nI2 (by omega)).mpr hh
    obtain ⟨i, hi, rfl⟩ := hh
    refine both.e (nI S) (mU M 24 3 (nI i)) (mU N 0 19 (nI i)) (fun Q q => X_within (fun _ => bn_f ne10 ?_) (fun n => absurd g n)) (fun Q q => R_inI (lo := 0) rfl rfl (fun _ => bn_f ne10 ?_) (fun n => absurd g n)) ?_
    · rw [eM]; exact q
    · rw [eN]; exact q
    · refine h.seen (fun a ha => mU_n (by omega)) (fun a ha hb => mU_n ha) (fun j hj => by rw [mU_at, if_neg (by omega)]) ⟨i, by omega, ?_, ?_, fun k hk => ?_⟩
      · rw [mU_at, if_pos ⟨rfl, rfl⟩]
      · rw [mU_at, if_pos ⟨rfl, rfl⟩]
      · rw [mU_n (by omega), mU_n (by omega), mU_n (by omega), mU_n (by omega)]; exact hb k (by omega)
  · have g : ¬ (0 ≤ v ∧ v ≤ nI S) := fun q => hh ((in_nI2 (by omega)).mp q)
    exact both.no h (-1) (fun Q q => X_within (fun n => absurd n g) (fun _ => bn_t rfl q)) (fun Q q => R_inI (lo := 0) rfl rfl (fun n => absurd n g) (fun _ => bn_t rfl q))
set_option maxHeartbeats 1000000 in
theorem o_see {M N : Mem} (h : RR M N) (v1 v2 v3 : Int32) : both (q_X5_see v1 v2 v3 M) (q_X6_see v1 v2 v3 N) := by
  obtain ⟨⟨⟨hO, -⟩, hX⟩, -, -, -, ⟨S, hS, eM, eN, hb⟩, -⟩ := id h
  have h4 := hO.2.1.2
  by_cases hn : 0 ≤ v1 ∧ v1 ≤ 40
  · by_cases hh : ∃ w, w < wN (pg N 0) ∧ v2 = nI w
    · by_cases ht : 10000000 ≤ v3 ∧ v3 ≤ 30000000
      · have fX : ∀ Q : Int32 → Mem → Prop, _ → q_X5_see v1 v2 v3 M Q := fun Q q => X_within (fun _ => br_f ne10 (X_hasWheel hX hO (fun _ _ _ => br_f ne10 (X_isTold (fun _ => bn_f ne10 q) (fun n => absurd ht n))) (fun n => absurd hh n))) (fun n => absurd hn n)
        have fR : ∀ Q : Int32 → Mem → Prop, _ → q_X6_see v1 v2 v3 N Q := fun Q q => R_inI (lo := 0) (hi := 40) rfl rfl (fun _ => br_f ne10 (R_isWheel hO (fun _ _ _ => br_f ne10 (R_isReading (fun _ => bn_f ne10 q) (fun n => absurd ht n))) (fun n => absurd hh n))) (fun n => absurd hn n)
        by_cases h6 : S = 6
        · refine both.no h (-3) (fun Q q => fX Q (br_f ?_ q)) (fun Q q => fR Q (bn_t ?_ q))
          · rw [eM, h6]; decide
          · rw [eN, h6]; decide
        · obtain ⟨nn, hnn, rfl⟩ := (in_nI2 (n := 40) (by omega)).mp hn
          obtain ⟨w, hw, rfl⟩ := hh
          have ev : vp_in (nI S) 6 := vp_in_nI (by omega) (by omega)
          refine both.e (nI (S + 1)) (mU (mU (mU (mU M 25 S (nI nn)) 26 S (nI w)) 27 S (v3 - 20000000)) 24 3 (nI (S + 1))) (mU (mU (mU (mU N 6 (3 * S) (nI nn)) 6 (3 * S + 1) (nI w)) 6 (3 * S + 2) (v3 - 20000000)) 0 19 (nI (S + 1))) (fun Q q => fX Q (br_t ?_ ?_)) (fun Q q => fR Q (bn_f ?_ ?_)) ?_
          · rw [eM, li 6]; exact nI_lt (by omega) (by omega)
          · unfold q_X2_append
            rw [eM, nI_clamp (by omega), mU_n (by omega), eM]
            refine br_f (by rw [li 6]; exact nI_ge (by omega) (by omega)) ⟨ev, ev, fun M3 h3 => ?_⟩
            rw [nI_clamp (by omega)] at h3
            have e3 : M3 24 3 = nI S := by rw [h3, mU_n (by omega), mU_n (by omega)]; exact eM
            rw [e3, nI_clamp (by omega)]
            refine ⟨ev, fun M5 h5 => ?_⟩
            rw [mU_n (by omega), e3, li 1, nI_add, h3] at h5
            rw [h5, mU_at, if_pos ⟨rfl, rfl⟩]
            exact q
          · rw [eN, li 6, nI_eq (by omega) (by omega)]; exact h6
          · have e3S : (3 : Int32) * nI S = nI (3 * S) := by rw [li 3, pk_mul]
            rw [eN, mU_n (by omega), eN, e3S, nI_clamp (by omega), li 1, nI_add, nI_clamp (by omega)]
            refine ⟨vp_in_nI (by omega) (by omega), vp_in_nI (by omega) (by omega), fun M9 h9 => ?_⟩
            have e9 : M9 0 19 = nI S := by rw [h9, mU_n (by omega), mU_n (by omega)]; exact eN
            rw [e9, e3S, li 2, nI_add, nI_clamp (by omega)]
            refine ⟨vp_in_nI (by omega) (by omega), fun M11 h11 => ?_⟩
            have e11 : M11 0 19 = nI S := by rw [h11, mU_n (by omega)]; exact e9
            rw [e11, nI_add, mU_at, if_pos ⟨rfl, rfl⟩, h11, h9]
            exact q
          · refine h.seen (fun a ha => by rw [mU_n (by omega), mU_n (by omega), mU_n (by omega), mU_n (by omega)]) (fun a ha hb => by rw [mU_n ha, mU_n hb, mU_n hb, mU_n hb]) (fun j hj => by rw [mU_at, if_neg (by omega), mU_n (by omega), mU_n (by omega), mU_n (by omega)]) ⟨S + 1, by omega, ?_, ?_, fun k hk => ?_⟩
            · rw [mU_at, if_pos ⟨rfl, rfl⟩]
            · rw [mU_at, if_pos ⟨rfl, rfl⟩]
            · by_cases q : k = S
              · subst q
                refine ⟨nn, w, hnn, by omega, ?_, ?_, ?_, ?_, ?_⟩
                · rw [mU_n (by omega), mU_n (by omega), mU_n (by omega), mU_at, if_pos ⟨rfl, rfl⟩]
                · rw [mU_n (by omega), mU_at, if_neg (by omega), mU_at, if_neg (by omega), mU_at, if_pos ⟨rfl, rfl⟩]
                · rw [mU_n (by omega), mU_n (by omega), mU_at, if_pos ⟨rfl, rfl⟩]
                · rw [mU_n (by omega), mU_at, if_neg (by omega), mU_at, if_pos ⟨rfl, rfl⟩]
                · rw [mU_n (by omega), mU_at, if_pos ⟨rfl, rfl⟩, mU_n (by omega), mU_at, if_pos ⟨rfl, rfl⟩]
              · obtain ⟨n2, w2, p1, p2, p3, p4, p5, p6, p7⟩ := hb k (by omega)
                refine ⟨n2, w2, p1, p2, ?_, ?_, ?_, ?_, ?_⟩
                · rw [mU_n (by omega), mU_n (by omega), mU_n (by omega), mU_at, if_neg (by omega)]; exact p3
                · rw [mU_n (by omega), mU_at, if_neg (by omega), mU_at, if_neg (by omega), mU_at, if_neg (by omega)]; exact p4
                · rw [mU_n (by omega), mU_n (by omega), mU_at, if_neg (by omega), mU_n (by omega)]; exact p5
                · rw [mU_n (by omega), mU_at, if_neg (by omega), mU_at, if_neg (by omega), mU_at, if_neg (by omega)]; exact p6
                · rw [mU_n (by omega), mU_at, if_neg (by omega), mU_n (by omega), mU_n (by omega), mU_n (by omega), mU_at, if_neg (by omega), mU_at, if_neg (by omega), mU_at, if_neg (by omega)]; exact p7
      · exact both.no h (-1) (fun Q q => X_within (fun _ => br_f ne10 (X_hasWheel hX hO (fun _ _ _ => br_f ne10 (X_isTold (fun n => absurd n ht) (fun _ => bn_t rfl q))) (fun n => absurd hh n))) (fun n => absurd hn n)) (fun Q q => R_inI (lo := 0) (hi := 40) rfl rfl (fun _ => br_f ne10 (R_isWheel hO (fun _ _ _ => br_f ne10 (R_isReading (fun n => absurd n ht) (fun _ => bn_t rfl q))) (fun n => absurd hh n))) (fun n => absurd hn n))
    · exact both.no h (-1) (fun Q q => X_within (fun _ => br_f ne10 (X_hasWheel hX hO (fun w hw e => absurd ⟨w, hw, e⟩ hh) (fun _ => br_t rfl q))) (fun n => absurd hn n)) (fun Q q => R_inI (lo := 0) (hi := 40) rfl rfl (fun _ => br_f ne10 (R_isWheel hO (fun w hw e => absurd ⟨w, hw, e⟩ hh) (fun _ => br_t rfl q))) (fun n => absurd hn n))
  · exact both.no h (-1) (fun Q q => X_within (fun n => absurd n hn) (fun _ => br_t rfl q)) (fun Q q => R_inI (lo := 0) (hi := 40) rfl rfl (fun n => absurd n hn) (fun _ => br_t rfl q))
