/-! text: tokens of the reference -/
theorem rn_all (B : Nat → Int32) (lo hi : Int32) : ∀ j p i, p ≤ i → i < rn B lo hi j p → lo ≤ B i ∧ B i ≤ hi
  | 0, p, i, h1, h2 => by
    have : rn B lo hi 0 p = p := rfl
    omega
  | j + 1, p, i, h1, h2 => by
    by_cases hc : lo ≤ B p ∧ B p ≤ hi
    · have e : rn B lo hi (j + 1) p = rn B lo hi j (p + 1) := if_pos hc
      rw [e] at h2
      by_cases hi' : i = p
      · rw [hi']; exact hc
      · exact rn_all B lo hi j (p + 1) i (by omega) h2
    · have e : rn B lo hi (j + 1) p = p := if_neg hc
      omega
theorem en_all {B : Nat → Int32} {T p i : Nat} {lo hi : Int32} (h1 : p ≤ i) (h2 : i < en B T lo hi p) : lo ≤ B i ∧ B i ≤ hi := rn_all B lo hi (T - p) p i h1 h2
theorem en_stop {B : Nat → Int32} {T p : Nat} {lo hi : Int32} (hp : p ≤ T) (h : en B T lo hi p < T) : ¬ (lo ≤ B (en B T lo hi p) ∧ B (en B T lo hi p) ≤ hi) := rn_stop B lo hi (T - p) p (by unfold en at h; omega)
def vl (B : Nat → Int32) (f : Nat) : Nat → Int32
  | 0 => 0
  | n + 1 => 10 * vl B f n + B (f + n) - 48
def rT (N : Mem) (B : Nat → Int32) (T : Nat) : Prop := T ≤ 160 ∧ N 0 4 = nI T ∧ N 3 = B ∧ ∀ i, i < T → 0 ≤ (B i).toInt ∧ (B i).toInt ≤ 127
def frR (N N' : Mem) : Prop := (∀ a, a ≠ 0 → N' a = N a) ∧ ∀ j, (j < 6 ∨ 11 < j) → N' 0 j = N 0 j
theorem frR.tr {A B C : Mem} (h : frR A B) (h2 : frR B C) : frR A C := ⟨fun a ha => (h2.1 a ha).trans (h.1 a ha), fun j hj => (h2.2 j hj).trans (h.2 j hj)⟩
theorem frR.rf {A : Mem} : frR A A := ⟨fun _ _ => rfl, fun _ _ => rfl⟩
theorem frR.u {A A' : Mem} (h : frR A A') {j : Nat} {x : Int32} (hj : 6 ≤ j ∧ j ≤ 11) : frR A (mU A' 0 j x) := ⟨fun a ha => by rw [mU_n ha, h.1 a ha], fun i hi => by rw [mU_mis (by omega), h.2 i hi]⟩
theorem rT_f {N N' : Mem} {B : Nat → Int32} {T : Nat} (h : rT N B T) (g : frR N N') : rT N' B T := ⟨h.1, (g.2 4 (by omega)).trans h.2.1, (g.1 3 (by decide)).trans h.2.2.1, h.2.2.2⟩
theorem R_byteAt {N : Mem} {B : Nat → Int32} {T q : Nat} {x : Int32} {Q : Int32 → Mem → Prop} (hT : rT N B T) (hq : q ≤ T) (hx : x = nI q) (h1 : q < T → Q (B q) N) (h0 : q = T → Q (-4) N) : q_X6_byteAt x N Q := by
  have h160 := hT.1
  subst hx
  unfold q_X6_byteAt
  rw [hT.2.1]
  by_cases h : q < T
  · refine br_f (nI_ge h (by omega)) ⟨vp_in_nI (by omega) (by omega), ?_⟩
    rw [nI_clamp (by omega), hT.2.2.1]
    exact h1 h
  · exact br_t (nI_le (by omega) (by omega)) (h0 (by omega))
theorem nm4 {B : Nat → Int32} {T i : Nat} {N : Mem} (hT : rT N B T) (hi : i < T) : ¬ B i = -4 := fun z => by
  have := (hT.2.2.2 i hi).1
  rw [z] at this
  exact absurd this (by decide)
set_option maxHeartbeats 1000000 in
theorem R_readsOn {N : Mem} {B : Nat → Int32} {T p : Nat} {Q : Mem → Prop} (hT : rT N B T) (hp : p ≤ T) (h8 : N 0 8 = nI p) (h6 : N 0 6 = 0) (hq : ∀ N', frR N N' → N' 0 9 = nI (fB B T p) → N' 0 8 = nI (oB B T p) → (kB B T p ≠ 4 → N' 0 10 = nI (kB B T p)) → N' 0 6 = (if kB B T p = 4 then 1 else 0) → (kB B T p = 4 → N' 0 7 = nI (fB B T p)) → (kB B T p = 2 → N' 0 11 = vl B (fB B T p) (oB B T p - fB B T p)) → Q N') : q_X6_readsOn N Q := by
  have h160 := hT.1
  have hfb := en_b (B := B) (lo := 32) (hi := 32) hp
  have hf2 : fB B T p ≤ T := hfb.2
  have hf1 : p ≤ fB B T p := hfb.1
  generalize hf : fB B T p = f at *
  have efB : en B T 32 32 p = f := hf
  have hfs : f < T → ¬ B f = 32 := fun z y => by
    have := en_stop (lo := 32) (hi := 32) hp (by rw [efB]; exact z)
    rw [efB, y] at this
    exact this ⟨Int32.le_refl _, Int32.le_refl _⟩
  -- the skipped blanks
  have skip : ∀ K, (∀ N', frR N N' → N' 0 8 = nI f → N' 0 6 = 0 → (p_X6_readsOn Q K).1 N') → ∀ j q, j + q = f → p ≤ q → ∀ N', frR N N' → N' 0 8 = nI q → N' 0 6 = 0 → (p_X6_readsOn Q (K + j)).1 N' := by
    intro K hK j
    induction j with
    | zero =>
      intro q hq' _ N' a b c
      have e : q = f := by omega
      subst e
      exact hK N' a b c
    | succ j ih =>
      intro q hq' hpq N' a b c
      show f_X6_readsOn_8 Q (p_X6_readsOn Q (K + j)) _
      have h32 := en_all (B := B) (T := T) (lo := 32) (hi := 32) hpq (by rw [efB]; omega)
      have e32 : B q = 32 := Int32.le_antisymm h32.2 h32.1
      refine R_byteAt (rT_f hT a) (q := q) (by omega) b (fun _ => bn_t e32 ?_) (fun z => by omega)
      exact ih (q + 1) (by omega) (by omega) _ (a.u (by omega)) (by rw [mU_hit, b, li 1, nI_add]) (by rw [mU_mis (by decide)]; exact c)
  have start : ∀ K, (∀ N', frR N N' → N' 0 8 = nI f → N' 0 6 = 0 → (p_X6_readsOn Q K).1 N') → q_X6_readsOn N Q := by
    intro K hK
    refine ⟨K + (f - p), br_t ?_ ?_⟩
    · rw [h6]; decide
    · exact skip K hK (f - p) p (by omega) (by omega) N frR.rf h8 h6
  by_cases h1 : f < T
  · have hb := hT.2.2.2 f h1
    -- the token begins
    have tok : ∀ K N', frR N N' → N' 0 8 = nI f → N' 0 6 = 0 → (∀ N2, frR N N2 → N2 0 8 = nI f → N2 0 9 = nI f → N2 0 11 = 0 → N2 0 6 = 0 → (97 ≤ B f ∧ B f ≤ 122 → (p_X6_readsOn Q K).2.1 N2) ∧ (¬ (97 ≤ B f ∧ B f ≤ 122) → 48 ≤ B f ∧ B f ≤ 57 → (p_X6_readsOn Q K).2.2.1 N2) ∧ (¬ (97 ≤ B f ∧ B f ≤ 122) → ¬ (48 ≤ B f ∧ B f ≤ 57) → ∀ M_9 : Mem, M_9 = mU (mU N2 0 10 (3 : Int32)) 0 8 (((mU N2 0 10 (3 : Int32)) 0 8) + (1 : Int32)) → ((B f = (59 : Int32) → Q M_9) ∧ (¬ B f = (59 : Int32) → q_X6_fails (1 : Int32) M_9 (fun M_10 => Q M_10))))) → (p_X6_readsOn Q (K + 1)).1 N' := by
      intro K N' a b c hk
      show f_X6_readsOn_8 Q (p_X6_readsOn Q K) _
      refine R_byteAt (rT_f hT a) hf2 b (fun _ => bn_f (hfs h1) ?_) (fun z => by omega)
      rw [b]
      refine R_byteAt (rT_f hT (a.u (by omega))) hf2 (by rw [mU_mis (by decide)]; exact b) (fun _ => bn_f (nm4 hT h1) ?_) (fun z => by omega)
      obtain ⟨k1, k2, k3⟩ := hk (mU (mU N' 0 9 (nI f)) 0 11 0) ((a.u (by omega)).u (by omega)) (by rw [mU_mis (by decide), mU_mis (by decide)]; exact b) (by rw [mU_mis (by decide), mU_hit]) (by rw [mU_hit]) (by rw [mU_mis (by decide), mU_mis (by decide)]; exact c)
      exact R_inI (lo := 97) (hi := 122) rfl rfl (fun g => br_f ne10 (k1 g)) (fun g => br_t rfl (R_inI (lo := 48) (hi := 57) rfl rfl (fun g2 => br_f ne10 (k2 g g2)) (fun g2 => br_t rfl (k3 g g2))))
    by_cases hl : 97 ≤ B f ∧ B f ≤ 122
    · have he := en_b (B := B) (lo := 97) (hi := 122) hf2
      generalize hee : en B T 97 122 f = e at he
      have eo : oB B T p = e := by unfold oB; rw [hf, if_pos h1, if_pos hl, hee]
      have ek : kB B T p = 1 := by unfold kB; rw [hf, if_pos h1, if_pos hl]
      have run : ∀ j q, j + q = e → f ≤ q → ∀ N', frR N N' → N' 0 8 = nI q → N' 0 9 = nI f → N' 0 6 = 0 → (p_X6_readsOn Q (j + 1)).2.1 N' := by
        intro j
        induction j with
        | zero =>
          intro q hq' hfq N' a b c d
          have e1 : q = e := by omega
          subst e1
          show f_X6_readsOn_84 Q (p_X6_readsOn Q 0) _
          have fin : Q (mU N' 0 10 1) := hq _ (a.u (by omega)) (by rw [mU_mis (by decide)]; exact c) (by rw [mU_mis (by decide), eo]; exact b) (fun _ => by rw [mU_hit, ek]; rfl) (by rw [mU_mis (by decide), ek]; exact d) (fun z => by omega) (fun z => by omega)
          refine R_byteAt (rT_f hT a) he.2 b (fun z => R_inI (lo := 97) (hi := 122) rfl rfl (fun g => ?_) (fun g => br_t rfl fin)) (fun z => R_inI (lo := 97) (hi := 122) rfl rfl (fun g => absurd g (by decide)) (fun g => br_t rfl fin))
          exact absurd g (by have := en_stop (B := B) (T := T) (lo := 97) (hi := 122) hf2 (by rw [hee]; exact z); rw [hee] at this; exact this)
        | succ j ih =>
          intro q hq' hfq N' a b c d
          show f_X6_readsOn_84 Q (p_X6_readsOn Q (j + 1)) _
          have hin := en_all (B := B) (T := T) (lo := 97) (hi := 122) hfq (by rw [hee]; omega)
          refine R_byteAt (rT_f hT a) (q := q) (by omega) b (fun z => R_inI (lo := 97) (hi := 122) rfl rfl (fun g => br_f ne10 ?_) (fun g => absurd hin g)) (fun z => by omega)
          exact ih (q + 1) (by omega) (by omega) _ (a.u (by omega)) (by rw [mU_hit, b, li 1, nI_add]) (by rw [mU_mis (by decide)]; exact c) (by rw [mU_mis (by decide)]; exact d)
      refine start (e - f + 1 + 1) (fun N' a b c => tok (e - f + 1) N' a b c (fun N2 a2 b2 c2 d2 e2 => ⟨fun _ => run (e - f) f (by omega) (by omega) N2 a2 b2 c2 e2, fun z => absurd hl z, fun z => absurd hl z⟩))
    · by_cases hd : 48 ≤ B f ∧ B f ≤ 57
      · have he := en_b (B := B) (lo := 48) (hi := 57) hf2
        generalize hee : en B T 48 57 f = e at he
        have eo : oB B T p = e := by unfold oB; rw [hf, if_pos h1, if_neg hl, if_pos hd, hee]
        have ek : kB B T p = if e - f ≤ 2 then 2 else 4 := by unfold kB; rw [hf, if_pos h1, if_neg hl, if_pos hd, hee]
        have es : ∀ q, f ≤ q → nI q - nI f = nI (q - f) := fun q hfq => by
          have := nI_sb f (q - f)
          rw [show f + (q - f) = q by omega] at this
          exact this
        have run : ∀ j q, j + q = e → f ≤ q → ∀ N', frR N N' → N' 0 8 = nI q → N' 0 9 = nI f → N' 0 11 = vl B f (min 2 (q - f)) → N' 0 6 = 0 → (p_X6_readsOn Q (2 * j + 1)).2.2.1 N' := by
          intro j
          induction j with
          | zero =>
            intro q hq' hfq N' a b c v d
            have e1 : q = e := by omega
            subst e1
            show f_X6_readsOn_140 Q (p_X6_readsOn Q 0) _
            have fin : ((((mU N' 0 10 (2 : Int32)) 0 8) - ((mU N' 0 10 (2 : Int32)) 0 9)) ≤ (2 : Int32) → Q (mU N' 0 10 (2 : Int32))) ∧ (¬ (((mU N' 0 10 (2 : Int32)) 0 8) - ((mU N' 0 10 (2 : Int32)) 0 9)) ≤ (2 : Int32) → q_X6_fails (1 : Int32) (mU N' 0 10 (2 : Int32)) (fun M_19 => Q M_19)) := by
              rw [mU_mis (show 8 ≠ 10 by decide), mU_mis (show 9 ≠ 10 by decide), b, c, es q hfq]
              by_cases h2 : q - f ≤ 2
              · rw [if_pos h2] at ek
                refine br_t (by rw [li 2]; exact nI_le h2 (by omega)) (hq _ (a.u (by omega)) (by rw [mU_mis (by decide)]; exact c) (by rw [mU_mis (by decide), eo]; exact b) (fun _ => by rw [mU_hit, ek]; rfl) (by rw [mU_mis (by decide), ek]; exact d) (fun z => by omega) (fun z => ?_))
                rw [mU_mis (by decide), v, eo, Nat.min_eq_right h2]
              · rw [if_neg h2] at ek
                refine br_f (by rw [li 2]; exact nI_ge (by omega) (by omega)) (bn_t (by rw [mU_mis (by decide)]; exact d) ?_)
                rw [mU_mis (show 9 ≠ 6 by decide), mU_mis (show 9 ≠ 10 by decide), c]
                refine hq _ (((a.u (by omega)).u (by omega)).u (by omega)) (by rw [mU_mis (by decide), mU_mis (by decide), mU_mis (by decide)]; exact c) (by rw [mU_mis (by decide), mU_mis (by decide), mU_mis (by decide), eo]; exact b) (fun z => absurd ek z) (by rw [mU_mis (by decide), mU_hit, ek]; rfl) (fun _ => by rw [mU_hit]) (fun z => by omega)
            refine R_byteAt (rT_f hT a) he.2 b (fun z => R_inI (lo := 48) (hi := 57) rfl rfl (fun g => ?_) (fun g => br_t rfl fin)) (fun z => R_inI (lo := 48) (hi := 57) rfl rfl (fun g => absurd g (by decide)) (fun g => br_t rfl fin))
            exact absurd g (by have := en_stop (B := B) (T := T) (lo := 48) (hi := 57) hf2 (by rw [hee]; exact z); rw [hee] at this; exact this)
          | succ j ih =>
            intro q hq' hfq N' a b c v d
            rw [show 2 * (j + 1) + 1 = 2 * j + 1 + 2 by omega]
            show f_X6_readsOn_140 Q (p_X6_readsOn Q (2 * j + 1 + 1)) _
            have hin := en_all (B := B) (T := T) (lo := 48) (hi := 57) hfq (by rw [hee]; omega)
            have nx : ∀ s0, s0 = vl B f (min 2 (q + 1 - f)) → (p_X6_readsOn Q (2 * j + 1 + 1)).2.2.2 s0 N' := by
              intro s0 hs
              show (p_X6_readsOn Q (2 * j + 1)).2.2.1 _
              exact ih (q + 1) (by omega) (by omega) _ ((a.u (by omega)).u (by omega)) (by rw [mU_hit, mU_mis (by decide), b, li 1, nI_add]) (by rw [mU_mis (by decide), mU_mis (by decide)]; exact c) (by rw [mU_mis (by decide), mU_hit]; exact hs) (by rw [mU_mis (by decide), mU_mis (by decide)]; exact d)
            refine R_byteAt (rT_f hT a) (q := q) (by omega) b (fun z => R_inI (lo := 48) (hi := 57) rfl rfl (fun g => br_f ne10 ?_) (fun g => absurd hin g)) (fun z => by omega)
            rw [b, c, es q hfq, v]
            by_cases h2 : 2 ≤ q - f
            · refine br_t (by rw [li 2]; exact nI_le h2 (by omega)) (nx _ ?_)
              rw [Nat.min_eq_left h2, Nat.min_eq_left (by omega)]
            · refine br_f (by rw [li 2]; exact nI_ge (by omega) (by omega)) (R_byteAt (rT_f hT a) (q := q) (by omega) rfl (fun _ => nx _ ?_) (fun z => by omega))
              rw [Nat.min_eq_right (by omega), Nat.min_eq_right (by omega), show q + 1 - f = q - f + 1 by omega]
              show _ = 10 * vl B f (q - f) + B (f + (q - f)) - 48
              rw [show f + (q - f) = q by omega]
        refine start (2 * (e - f) + 1 + 1) (fun N' a b c => tok (2 * (e - f) + 1) N' a b c (fun N2 a2 b2 c2 d2 e2 => ⟨fun z => absurd z hl, fun _ _ => run (e - f) f (by omega) (by omega) N2 a2 b2 c2 (by rw [d2, Nat.sub_self]; rfl) e2, fun _ z => absurd hd z⟩))
      · have eo : oB B T p = f + 1 := by unfold oB; rw [hf, if_pos h1, if_neg hl, if_neg hd]
        refine start 1 (fun N' a b c => tok 0 N' a b c (fun N2 a2 b2 c2 d2 e2 => ⟨fun z => absurd z hl, fun _ z => absurd z hd, fun _ _ M9 e9 => ?_⟩))
        rw [mU_mis (show 8 ≠ 10 by decide), b2, li 1, nI_add] at e9
        subst e9
        refine br_c (fun z => ?_) (fun z => ?_)
        · have ek : kB B T p = 3 := by unfold kB; rw [hf, if_pos h1, if_neg hl, if_neg hd, if_pos z]
          exact hq _ ((a2.u (by omega)).u (by omega)) (by rw [mU_mis (by decide), mU_mis (by decide)]; exact c2) (by rw [mU_hit, eo]) (fun _ => by rw [mU_mis (by decide), mU_hit, ek]; rfl) (by rw [mU_mis (by decide), mU_mis (by decide), ek]; exact e2) (fun y => by omega) (fun y => by omega)
        · have ek : kB B T p = 4 := by unfold kB; rw [hf, if_pos h1, if_neg hl, if_neg hd, if_neg z]
          refine bn_t (by rw [mU_mis (by decide), mU_mis (by decide)]; exact e2) ?_
          rw [mU_mis (show 9 ≠ 6 by decide), mU_mis (show 9 ≠ 8 by decide), mU_mis (show 9 ≠ 10 by decide), c2]
          exact hq _ ((((a2.u (by omega)).u (by omega)).u (by omega)).u (by omega)) (by rw [mU_mis (by decide), mU_mis (by decide), mU_mis (by decide), mU_mis (by decide)]; exact c2) (by rw [mU_mis (by decide), mU_mis (by decide), mU_hit, eo]) (fun y => absurd ek y) (by rw [mU_mis (by decide), mU_hit, ek]; rfl) (fun _ => by rw [mU_hit]) (fun y => by omega)
  · have e1 : f = T := by omega
    have eo : oB B T p = f := by unfold oB; rw [hf, if_neg h1]; exact e1.symm
    have ek : kB B T p = 0 := by unfold kB; rw [hf, if_neg h1]
    refine start 1 (fun N' a b c => ?_)
    show f_X6_readsOn_8 Q (p_X6_readsOn Q 0) _
    refine R_byteAt (rT_f hT a) hf2 b (fun z => by omega) (fun _ => bn_f (by decide) ?_)
    rw [b]
    refine R_byteAt (rT_f hT (a.u (by omega))) hf2 (by rw [mU_mis (by decide)]; exact b) (fun z => by omega) (fun _ => bn_t rfl ?_)
    exact hq _ (((a.u (by omega)).u (by omega)).u (by omega)) (by rw [mU_mis (by decide), mU_mis (by decide), mU_hit]) (by rw [mU_mis (by decide), mU_mis (by decide), mU_mis (by decide), eo]; exact b) (fun _ => by rw [mU_hit, ek]; rfl) (by rw [mU_mis (by decide), mU_mis (by decide), mU_mis (by decide), ek]; exact c) (fun y => by omega) (fun y => by omega)
