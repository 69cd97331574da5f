/-! copies of Layouts; images -/
theorem cpN_lt {N k : Nat} {f g : Nat → Int32} (h : k < N) : cpN N f g k = f k := if_pos h
set_option maxHeartbeats 1000000 in
theorem L_copyFrom {M : Mem} {o o1 : Nat} {P : Pg} {Q : Mem → Prop} (hd : o + 6 ≤ o1 ∨ o1 + 6 ≤ o) (hX : isX M o1 P) (h10 : cN P ≤ 10) (h4 : wN P ≤ 4) (hq : ∀ M', (∀ a, (a < o ∨ o + 6 ≤ a) → M' a = M a) → isX M' o P → Q M') : q_X0_copyFrom o o1 M Q := by
  obtain ⟨a, b, c, d, e, f, g⟩ := hX
  unfold q_X0_copyFrom
  intro M1 e1 M2 e2 M3 e3 M4 e4
  rw [mR_n (show o1 + 2 ≠ o + 1 by omega), mR_n (show o + 2 ≠ o + 1 by omega)] at e1
  have m1 : ∀ z, z ≠ o + 1 → z ≠ o + 2 → M1 z = M z := fun z h1 h2 => by rw [e1, mR_n h2, mR_n h1]
  have m1a : M1 (o + 1) = cpN 10 (M (o1 + 1)) (M (o + 1)) := by rw [e1, mR_n (by omega), mR_s]
  have m1b : M1 (o + 2) = cpN 10 (M (o1 + 2)) (M (o + 2)) := by rw [e1, mR_s]
  rw [mU_n (show o1 + 3 ≠ o by omega), mU_n (show o + 3 ≠ o by omega), m1 (o1 + 3) (by omega) (by omega), m1 (o + 3) (by omega) (by omega), m1 o1 (by omega) (by omega)] at e2
  have m2 : ∀ z, z ≠ o → z ≠ o + 3 → M2 z = M1 z := fun z h1 h2 => by rw [e2, mR_n h2, mU_n h1]
  have m2a : M2 (o + 3) = cpN 4 (M (o1 + 3)) (M (o + 3)) := by rw [e2, mR_s]
  have m2b : ∀ j, M2 o j = if j = 2 then M o1 2 else M o j := fun j => by
    rw [e2, mR_n (by omega), mU_at, m1 o (by omega) (by omega)]
    by_cases q : j = 2
    · rw [if_pos ⟨rfl, q⟩, if_pos q]
    · rw [if_neg (fun z => q z.2), if_neg q]
  rw [mR_n (show o1 + 5 ≠ o + 4 by omega), mR_n (show o + 5 ≠ o + 4 by omega)] at e3
  have m3 : ∀ z, z ≠ o + 4 → z ≠ o + 5 → M3 z = M2 z := fun z h1 h2 => by rw [e3, mR_n h2, mR_n h1]
  have m3a : M3 (o + 4) = cpN 4 (M (o1 + 4)) (M (o + 4)) := by rw [e3, mR_n (by omega), mR_s, m2 (o1 + 4) (by omega) (by omega), m2 (o + 4) (by omega) (by omega), m1 (o1 + 4) (by omega) (by omega), m1 (o + 4) (by omega) (by omega)]
  have m3b : M3 (o + 5) = cpN 4 (M (o1 + 5)) (M (o + 5)) := by rw [e3, mR_s, m2 (o1 + 5) (by omega) (by omega), m2 (o + 5) (by omega) (by omega), m1 (o1 + 5) (by omega) (by omega), m1 (o + 5) (by omega) (by omega)]
  have m3o : ∀ j, M3 o1 j = M o1 j := fun j => by rw [m3 o1 (by omega) (by omega), m2 o1 (by omega) (by omega), m1 o1 (by omega) (by omega)]
  rw [mU_n (show o1 ≠ o by omega), mU_n (show o1 ≠ o by omega), mU_n (show o1 ≠ o by omega), m3o, m3o, m3o] at e4
  have m4 : ∀ z, z ≠ o → M4 z = M3 z := fun z h => by rw [e4, mU_n h, mU_n h, mU_n h]
  rw [m4 o1 (by omega), m3o]
  refine hq _ (fun z hz => ?_) ⟨?_, ?_, ?_, ?_, ?_, fun i hi => ⟨?_, ?_⟩, fun i hi => ⟨?_, ?_, ?_⟩⟩
  · rw [mU_n (by omega), m4 z (by omega), m3 z (by omega) (by omega), m2 z (by omega) (by omega), m1 z (by omega) (by omega)]
  · rw [mU_at, if_neg (by omega), e4, mU_at, if_neg (by omega), mU_at, if_neg (by omega), mU_at, if_neg (by omega), m3 o (by omega) (by omega), m2b, if_pos rfl]; exact a
  · rw [mU_at, if_neg (by omega), e4, mU_at, if_neg (by omega), mU_at, if_neg (by omega), mU_at, if_pos ⟨rfl, rfl⟩]; exact b
  · rw [mU_at, if_neg (by omega), e4, mU_at, if_neg (by omega), mU_at, if_pos ⟨rfl, rfl⟩]; exact c
  · rw [mU_at, if_neg (by omega), e4, mU_at, if_pos ⟨rfl, rfl⟩]; exact d
  · rw [mU_at, if_pos ⟨rfl, rfl⟩]; exact e
  · rw [mU_n (by omega), m4 _ (by omega), m3 _ (by omega) (by omega), m2 _ (by omega) (by omega), m1a, cpN_lt (by omega)]; exact (f i hi).1
  · rw [mU_n (by omega), m4 _ (by omega), m3 _ (by omega) (by omega), m2 _ (by omega) (by omega), m1b, cpN_lt (by omega)]; exact (f i hi).2
  · rw [mU_n (by omega), m4 _ (by omega), m3 _ (by omega) (by omega), m2a, cpN_lt (by omega)]; exact (g i hi).1
  · rw [mU_n (by omega), m4 _ (by omega), m3a, cpN_lt (by omega)]; exact (g i hi).2.1
  · rw [mU_n (by omega), m4 _ (by omega), m3b, cpN_lt (by omega)]; exact (g i hi).2.2
/-- the relation, all parts but what there is now, the images -/
def RQ (M N : Mem) : Prop := rTape M N ∧ (M 0 9 = N 0 5 ∧ M 0 10 = N 0 25) ∧ rSeen M N ∧ (∀ k, k < 4 → rSheet M N k) ∧ N 0 14 = -4 ∧ (∀ j, j < 7 → N 4 j = ends0.getD j 0) ∧ ∀ j, j < 26 → N 5 j = lett0.getD j 0
theorem RR.mk {M N : Mem} (h : OK (pg N 0) ∧ isX M 1 (pg N 0)) (h2 : rImg M N 0 ∧ rImg M N 1) (h3 : RQ M N) : RR M N := ⟨h, h2, h3⟩
theorem RQ.of {M N M' N' : Mem} (h : RQ M N) (hx : ∀ a, a = 0 ∨ a = 16 ∨ a = 17 ∨ (24 ≤ a ∧ a ≤ 27) ∨ 43 ≤ a → M' a = M a) (hm : ∀ a, a ≠ 1 → a ≠ 8 → N' a = N a) : RQ M' N' := by
  obtain ⟨c, ⟨d1, d2⟩, e, f, g, i, j⟩ := h
  refine ⟨?_, ⟨?_, ?_⟩, ?_, fun k hk => ?_, ?_, ?_, ?_⟩
  · unfold rTape at c ⊢
    rw [hx 16 (by omega), hx 17 (by omega), hm 0 (by decide) (by decide), hm 3 (by decide) (by decide)]
    exact c
  · rw [hx 0 (by omega), hm 0 (by decide) (by decide)]; exact d1
  · rw [hx 0 (by omega), hm 0 (by decide) (by decide)]; exact d2
  · unfold rSeen at e ⊢
    rw [hx 24 (by omega), hx 25 (by omega), hx 26 (by omega), hx 27 (by omega), hm 0 (by decide) (by decide), hm 6 (by decide) (by decide)]
    exact e
  · have := f k hk
    unfold rSheet at this ⊢
    rw [hx (43 + 2 * k) (by omega), hx (44 + 2 * k) (by omega), hm 9 (by decide) (by decide), hm 10 (by decide) (by decide), hm 11 (by decide) (by decide)]
    exact this
  · rw [hm 0 (by decide) (by decide)]; exact g
  · rw [hm 4 (by decide) (by decide)]; exact i
  · rw [hm 5 (by decide) (by decide)]; exact j
theorem cpM_1 (N : Mem) (f t k j : Nat) : cpM N f t k 1 j = if t ≤ j ∧ j < t + k then N 1 (f + (j - t)) else N 1 j := by
  unfold cpM; rw [mR_s]
theorem cpM_n {N : Mem} {f t k a : Nat} (h : a ≠ 1) : cpM N f t k a = N a := mR_n h
theorem img_of {M N : Mem} (h : RR M N) {i : Nat} (hi : i < 2) : rImg M N i := by
  rcases (by omega : i = 0 ∨ i = 1) with rfl | rfl
  · exact h.2.1.1
  · exact h.2.1.2
theorem v2_in {v : Int32} : (0 ≤ v ∧ v ≤ 1) ↔ ∃ i, i < 2 ∧ v = nI i := by
  rw [show (1 : Int32) = nI 2 - 1 by decide]
  exact in_nI (by omega)
set_option maxHeartbeats 1000000 in
theorem o_keep {M N : Mem} (h : RR M N) (v : Int32) : both (q_X5_keep v M) (q_X6_keep v N) := by
  obtain ⟨⟨hO, hX⟩, -, hRQ⟩ := id h
  by_cases hv : 0 ≤ v ∧ v ≤ 1
  · have hv2 := hv
    obtain ⟨i, hi, rfl⟩ := v2_in.mp hv2
    have ev : vp_in (nI i) 2 := vp_in_nI (by omega) (by omega)
    have ei : (nI i).toNatClampNeg = i := nI_clamp (by omega)
    have h37 : (37 : Int32) * (nI i + 1) = nI (37 * (i + 1)) := by rw [nI_1, li 37, pk_mul]
    have hm8 : M 14 i = N 8 i ∧ (N 8 i = 0 ∨ N 8 i = 1) := by
      rcases img_of h hi with ⟨q1, q2⟩ | ⟨q1, q2, -⟩
      · exact ⟨by rw [q1, q2], Or.inl q2⟩
      · exact ⟨by rw [q1, q2], Or.inr q2⟩
    have fX : ∀ Q : Int32 → Mem → Prop, (∀ M', (∀ a, (a < 31 + 6 * i ∨ 31 + 6 * i + 6 ≤ a) → M' a = M a) → isX M' (31 + 6 * i) (pg N 0) → Q (N 8 i) (mU M' 14 i 1)) → q_X5_keep (nI i) M Q := by
      intro Q q
      refine X_within (fun _ => bn_f ne10 ⟨ev, ?_⟩) (fun n => absurd hv n)
      have t25 : ∀ s0 : Int32, s0 = N 8 i → f_X5_keep_25 Q (nI i) s0 M := by
        intro s0 hs
        unfold f_X5_keep_25
        rw [ei]
        refine ⟨ev, lay_im hi, L_copyFrom (by omega) hX hO.1.1.2 hO.1.2.1.2 (fun M' h1 h2 => ⟨ev, ?_⟩)⟩
        rw [hs]
        exact q M' h1 h2
      rw [ei, hm8.1]
      rcases hm8.2 with q8 | q8
      · exact br_t q8 (t25 0 q8.symm)
      · exact br_f (by rw [q8]; decide) (t25 1 q8.symm)
    have fR : ∀ Q : Int32 → Mem → Prop, Q (N 8 i) (mU (cpM N 0 (37 * (i + 1)) 37) 8 i 1) → q_X6_keep (nI i) N Q := by
      intro Q q
      refine R_inI (lo := 0) (hi := 1) rfl rfl (fun _ => bn_f ne10 ?_) (fun n => absurd hv n)
      rw [h37]
      refine R_copies (f := 0) (by omega) (by omega) (by omega) ⟨ev, ?_⟩
      rw [ei, cpM_n (by decide)]
      have t37 : ∀ s0 : Int32, s0 = N 8 i → f_X6_keep_37 Q (nI i) s0 (cpM N 0 (37 * (i + 1)) 37) := by
        intro s0 hs
        unfold f_X6_keep_37
        rw [ei, hs]
        exact ⟨ev, q⟩
      rcases hm8.2 with q8 | q8
      · exact br_t q8 (t37 0 q8.symm)
      · exact br_f (by rw [q8]; decide) (t37 1 q8.symm)
    refine ⟨N 8 i, fun m => ∃ M', (∀ a, (a < 31 + 6 * i ∨ 31 + 6 * i + 6 ≤ a) → M' a = M a) ∧ isX M' (31 + 6 * i) (pg N 0) ∧ m = mU M' 14 i 1, fun n => n = mU (cpM N 0 (37 * (i + 1)) 37) 8 i 1, fX _ (fun M' h1 h2 => ⟨rfl, M', h1, h2, rfl⟩), fR _ ⟨rfl, rfl⟩, ?_⟩
    rintro M2 N2 ⟨M', h1, h2, rfl⟩ rfl
    have x1 : ∀ a, a ≠ 14 → (a < 31 + 6 * i ∨ 31 + 6 * i + 6 ≤ a) → mU M' 14 i 1 a = M a := fun a ha hb => by rw [mU_n ha]; exact h1 a hb
    have ep : ∀ p, (p + 37 ≤ 37 * (i + 1) ∨ 37 * (i + 1) + 37 ≤ p) → ∀ j, j < 37 → pg (mU (cpM N 0 (37 * (i + 1)) 37) 8 i 1) p j = pg N p j := fun p hp j hj => by
      unfold pg
      rw [mU_n (by omega), cpM_1, if_neg (by omega)]
    have ep2 : ∀ j, j < 37 → pg (mU (cpM N 0 (37 * (i + 1)) 37) 8 i 1) (37 * (i + 1)) j = pg N 0 j := fun j hj => by
      unfold pg
      rw [mU_n (by omega), cpM_1, if_pos (by omega), show 0 + (37 * (i + 1) + j - 37 * (i + 1)) = 0 + j by omega]
    have im : ∀ k, k < 2 → rImg (mU M' 14 i 1) (mU (cpM N 0 (37 * (i + 1)) 37) 8 i 1) k := by
      intro k hk
      by_cases hki : k = i
      · subst hki
        refine Or.inr ⟨by rw [mU_at, if_pos ⟨rfl, rfl⟩], by rw [mU_at, if_pos ⟨rfl, rfl⟩], OK_pg hO ep2, ?_⟩
        exact (isX_pg h2 hO.1.2.1.2 hO.1.1.2 ep2).of (fun z hz => mU_n (by omega))
      · have := img_of h hk
        unfold rImg at this ⊢
        rw [mU_at, if_neg (fun z => hki z.2), mU_at, if_neg (fun z => hki z.2), h1 14 (by omega), cpM_n (by decide)]
        rcases this with q | ⟨q1, q2, q3, q4⟩
        · exact Or.inl q
        · refine Or.inr ⟨q1, q2, OK_pg q3 (ep _ (by omega)), ?_⟩
          exact (isX_pg q4 q3.1.2.1.2 q3.1.1.2 (ep _ (by omega))).of (fun z hz => x1 _ (by omega) (by omega))
    refine RR.mk ⟨OK_pg hO (ep 0 (by omega)), (isX_pg hX hO.1.2.1.2 hO.1.1.2 (ep 0 (by omega))).of (fun z hz => x1 _ (by omega) (by omega))⟩ ⟨im 0 (by omega), im 1 (by omega)⟩ (RQ.of hRQ (fun a ha => x1 a (by omega) (by omega)) (fun a ha hb => by rw [mU_n hb, cpM_n ha]))
  · exact both.no h (-1) (fun Q q => X_within (fun n => absurd n hv) (fun _ => bn_t rfl q)) (fun Q q => R_inI (lo := 0) (hi := 1) rfl rfl (fun n => absurd n hv) (fun _ => bn_t rfl q))
set_option maxHeartbeats 1000000 in
theorem o_back {M N : Mem} (h : RR M N) (v : Int32) : both (q_X5_back v M) (q_X6_back v N) := by
  obtain ⟨⟨hO, hX⟩, -, hRQ⟩ := id h
  by_cases hv : 0 ≤ v ∧ v ≤ 1
  · have hv2 := hv
    obtain ⟨i, hi, rfl⟩ := v2_in.mp hv2
    have ev : vp_in (nI i) 2 := vp_in_nI (by omega) (by omega)
    have ei : (nI i).toNatClampNeg = i := nI_clamp (by omega)
    have h37 : (37 : Int32) * (nI i + 1) = nI (37 * (i + 1)) := by rw [nI_1, li 37, pk_mul]
    rcases img_of h hi with ⟨q1, q2⟩ | ⟨q1, q2, q3, q4⟩
    · refine both.no h (-2) (fun Q q => X_within (fun _ => bn_f ne10 ⟨ev, bn_t (by rw [ei]; exact q1) q⟩) (fun n => absurd hv n)) (fun Q q => R_inI (lo := 0) (hi := 1) rfl rfl (fun _ => bn_f ne10 ⟨ev, bn_t (by rw [ei]; exact q2) q⟩) (fun n => absurd hv n))
    · have ep : ∀ j, j < 37 → pg (cpM N (37 * (i + 1)) 0 37) 0 j = pg N (37 * (i + 1)) j := fun j hj => by
        unfold pg
        rw [cpM_1, if_pos (by omega), show 37 * (i + 1) + (0 + j - 0) = 37 * (i + 1) + j by omega]
      refine ⟨pg N (37 * (i + 1)) 36, fun M' => (∀ a, (a < 1 ∨ 1 + 6 ≤ a) → M' a = M a) ∧ isX M' 1 (pg N (37 * (i + 1))), fun n => n = cpM N (37 * (i + 1)) 0 37, X_within (fun _ => bn_f ne10 ⟨ev, bn_f (by rw [ei, q1]; decide) ?_⟩) (fun n => absurd hv n), R_inI (lo := 0) (hi := 1) rfl rfl (fun _ => bn_f ne10 ⟨ev, bn_f (by rw [ei, q2]; decide) ?_⟩) (fun n => absurd hv n), ?_⟩
      · rw [ei]
        refine ⟨ev, lay_im hi, L_copyFrom (by omega) q4 q3.1.1.2 q3.1.2.1.2 (fun M' h1 h2 => ⟨?_, h1, h2⟩)⟩
        exact h2.2.2.2.2.1
      · rw [h37]
        refine R_copies (t := 0) (by omega) (by omega) (by omega) ⟨?_, rfl⟩
        exact ep 36 (by omega)
      · rintro M2 N2 ⟨h1, h2⟩ rfl
        refine h.now (fun a ha => h1 a (by omega)) (fun a ha => cpM_n ha) (fun j hj => by rw [cpM_1, if_neg (by omega)]) (OK_pg q3 ep) ?_
        exact isX_pg h2 q3.1.2.1.2 q3.1.1.2 ep
  · exact both.no h (-1) (fun Q q => X_within (fun n => absurd n hv) (fun _ => bn_t rfl q)) (fun Q q => R_inI (lo := 0) (hi := 1) rfl rfl (fun n => absurd n hv) (fun _ => bn_t rfl q))
