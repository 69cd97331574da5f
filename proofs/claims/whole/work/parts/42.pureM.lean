/-! what was seen -/
def nE (N : Mem) (e : Nat) : Nat := (N 6 (3 * e)).toNatClampNeg
def oE (N : Mem) (e : Nat) : Nat := (N 6 (3 * e + 1)).toNatClampNeg
def okb (N : Mem) (P : Pg) (e : Nat) : Bool := decide (oE N e < wN P) && decide (ra P (oE N e) (nE N e) = N 6 (3 * e + 2))
theorem okb_iff {N : Mem} {P : Pg} {e : Nat} : okb N P e = true ↔ oE N e < wN P ∧ ra P (oE N e) (nE N e) = N 6 (3 * e + 2) := by
  unfold okb
  rw [Bool.and_eq_true, decide_eq_true_iff, decide_eq_true_iff]
def allb (f : Nat → Bool) : Nat → Bool
  | 0 => true
  | n + 1 => allb f n && f n
theorem allb_iff {f : Nat → Bool} : ∀ {n : Nat}, allb f n = true ↔ ∀ e, e < n → f e = true
  | 0 => by
    constructor
    · intro _ e he; omega
    · intro _; rfl
  | n + 1 => by
    show (allb f n && f n) = true ↔ _
    rw [Bool.and_eq_true, allb_iff (n := n)]
    constructor
    · rintro ⟨a, b⟩ e he
      rcases Nat.lt_or_ge e n with q | q
      · exact a e q
      · rw [show e = n by omega]; exact b
    · intro a
      exact ⟨fun e he => a e (by omega), a n (by omega)⟩
/-- the sightings of the reference -/
def snR (N : Mem) (S : Nat) : Prop := S ≤ 6 ∧ N 0 19 = nI S ∧ ∀ e, e < S → N 6 (3 * e) = nI (nE N e) ∧ nE N e ≤ 40 ∧ N 6 (3 * e + 1) = nI (oE N e) ∧ oE N e < 4
def snX (M N : Mem) (S : Nat) : Prop := M 24 3 = nI S ∧ ∀ e, e < S → M 25 e = nI (nE N e) ∧ M 26 e = nI (oE N e) ∧ M 27 e = N 6 (3 * e + 2)
theorem sn_of {M N : Mem} (h : rSeen M N) : ∃ S, snR N S ∧ snX M N S := by
  obtain ⟨S, a, b, c, d⟩ := h
  refine ⟨S, ⟨a, c, fun e he => ?_⟩, ⟨b, fun e he => ?_⟩⟩
  · obtain ⟨n, w, h1, h2, h3, h4, h5, h6, h7⟩ := d e he
    have e1 : nE N e = n := by unfold nE; rw [h4, nI_clamp (by omega)]
    have e2 : oE N e = w := by unfold oE; rw [h6, nI_clamp (by omega)]
    rw [e1, e2]; exact ⟨h4, h1, h6, h2⟩
  · obtain ⟨n, w, h1, h2, h3, h4, h5, h6, h7⟩ := d e he
    have e1 : nE N e = n := by unfold nE; rw [h4, nI_clamp (by omega)]
    have e2 : oE N e = w := by unfold oE; rw [h6, nI_clamp (by omega)]
    rw [e1, e2]; exact ⟨h3, h5, h7⟩
theorem X2_agree {M N : Mem} {P : Pg} {S : Nat} {Q : Int32 → Mem → Prop} (hX : isX M 7 P) (hO : OK0 P) (hR : snR N S) (hS : snX M N S) (h1 : allb (okb N P) S = true → Q 1 M) (h0 : ¬ allb (okb N P) S = true → Q 0 M) : q_X2_agreeWith 7 M Q := by
  have h4 := hO.2.1.2
  have h6 := hR.1
  have e6 : M 7 6 = nI (wN P) := hX.2.1.trans hO.2.1.1
  have key : ∀ j k, j + k = S → (∀ e, e < k → okb N P e = true) → p_X2_agreeWith 7 Q (j + 1) (nI k) M := by
    intro j
    induction j with
    | zero =>
      intro k hk hp
      refine br_t (by rw [hS.1]; exact nI_le (by omega) (by omega)) (h1 (allb_iff.mpr (fun e he => hp e (by omega))))
    | succ j ih =>
      intro k hk hp
      obtain ⟨s1, s2, s3⟩ := hS.2 k (by omega)
      obtain ⟨r1, r2, r3, r4⟩ := hR.2.2 k (by omega)
      show f_X2_agreeWith_2 7 Q (p_X2_agreeWith 7 Q (j + 1)) _ _
      unfold f_X2_agreeWith_2
      rw [nI_clamp (by omega), s1, s2, e6, hS.1]
      have no : ¬ okb N P k = true → Q 0 M := fun q => h0 (fun z => q (allb_iff.mp z k (by omega)))
      refine br_f (nI_ge (by omega) (by omega)) ⟨vp_in_nI (by omega) (by omega), ?_⟩
      by_cases hw : oE N k < wN P
      · refine br_f (nI_ge hw (by omega)) ⟨vp_in_nI (by omega) (by omega), vp_in_nI (by omega) (by omega), L_readsAhead hX hO hw (by omega) ⟨vp_in_nI (by omega) (by omega), ?_⟩⟩
        rw [s3]
        refine br_c (fun q => ?_) (fun q => no (fun z => q (okb_iff.mp z).2))
        rw [nI_1]
        exact ih (k + 1) (by omega) (fun e he => by
          rcases Nat.lt_or_ge e k with z | z
          · exact hp e z
          · rw [show e = k by omega]; exact okb_iff.mpr ⟨hw, q⟩)
      · exact br_t (nI_le (by omega) (by omega)) (no (fun z => hw (okb_iff.mp z).1))
  exact ⟨_, key S 0 (by omega) (fun e he => by omega)⟩
/-! the reference's forty edges -/
def bit (b : Int32) (C : Prop) : Prop := (C ∧ b = 1) ∨ (¬ C ∧ b = 0)
def CC (N : Mem) (P : Pg) (S k e : Nat) : Prop := ∀ d, d < S → (nE N d < k ∨ (nE N d = k ∧ d < e)) → okb N P d = true
theorem tr7 {B N : Mem} {p k j : Nat} {P : Pg} {ms : Nat → Bool} {v : Int32} (h : trI (mR B 7 (N 7)) N p P ms k) : trI (mR B 7 ((mU N 7 j v) 7)) (mU N 7 j v) p P ms k := by
  obtain ⟨a, b, c, d, e, f, g⟩ := h
  refine ⟨fun x h0 h1 => ?_, fun i hi => ?_, fun i hi => ?_, ?_, ?_, fun w hw => ?_, fun hf => ?_⟩
  · by_cases h7 : x = 7
    · subst h7; rw [mR_s]
    · rw [mU_n h7, mR_n h7, a x h0 h1, mR_n h7]
  · rw [mU_n (by decide), mR_n (by decide), b i hi, mR_n (by decide)]
  · rw [mU_n (by decide), mR_n (by decide), c i hi, mR_n (by decide)]
  · rw [mU_n (by decide)]; exact d
  · rw [mU_n (by decide)]; exact e
  · rw [mU_n (by decide)]; exact f w hw
  · rw [mU_n (by decide), mR_n (by decide)]
    have := g hf
    rw [mR_n (by decide)] at this
    exact this
theorem i30 {e : Nat} : (3 : Int32) * nI e = nI (3 * e) := by rw [li 3, pk_mul]
theorem i31 {e : Nat} : (3 : Int32) * nI e + 1 = nI (3 * e + 1) := by rw [li 3, pk_mul, li 1, nI_add]
theorem i32 {e : Nat} : (3 : Int32) * nI e + 2 = nI (3 * e + 2) := by rw [li 3, pk_mul, li 2, nI_add]
def inS (N1 N' : Mem) (row w k : Nat) : Prop := trI (mR (st0 (cpM N1 0 148 37)) 7 (N' 7)) N' 148 (pg N1 0) (fun _ => false) k ∧ (∀ q, q < k → N' 7 (41 * row + q) = ra (pg N1 0) w q) ∧ ∀ j, (j < 41 * row ∨ 41 * row + k ≤ j) → N' 7 j = N1 7 j
theorem inS_fr {N1 N' : Mem} {row w k : Nat} (h : inS N1 N' row w k) : (∀ a, a ≠ 0 → a ≠ 1 → a ≠ 7 → N' a = N1 a) ∧ (∀ j, (j < 15 ∨ 17 < j) → N' 0 j = N1 0 j) ∧ ∀ j, j < 148 ∨ 185 ≤ j → N' 1 j = N1 1 j := by
  obtain ⟨⟨a, b, c, -⟩, -⟩ := h
  refine ⟨fun x h0 h1 h7 => ?_, fun j hj => ?_, fun j hj => ?_⟩
  · rw [a x h0 h1, mR_n h7]
    unfold st0
    rw [mU_n h0, mU_n h0, mU_n h0, cpM_n h1]
  · rw [b j hj, mR_n (by decide)]
    exact fm_st0.2.1 j hj
  · rw [c j (by omega), mR_n (by decide)]
    unfold st0
    rw [mU_n (by decide), mU_n (by decide), mU_n (by decide), cpM_1, if_neg (by omega)]
set_option maxHeartbeats 1000000 in
theorem asS_in {N1 : Mem} {row w S k : Nat} {Q : Int32 → Mem → Prop} (hO : OK0 (pg N1 0)) (hR : snR N1 S) (hrow : row ≤ 9) (hw : w < wN (pg N1 0)) (hk : k ≤ 40) (nxt : ∃ m, ∀ b N', bit b (CC N1 (pg N1 0) S (k + 1) 0) → inS N1 N' row w (k + 1) → (p_X6_isAsSeen Q m).1 (nI row) (nI w) b (nI (k + 1)) N') : ∀ j e, j + e = S → ∃ m, ∀ b N', bit b (CC N1 (pg N1 0) S k e) → inS N1 N' row w (k + 1) ∨ (∃ N0, inS N1 N0 row w k ∧ N' = mU N0 7 (41 * row + k) (ra (pg N1 0) w k)) → (∃ N0, inS N1 N0 row w k ∧ N' = mU N0 7 (41 * row + k) (ra (pg N1 0) w k)) → (p_X6_isAsSeen Q m).2.1 (nI row) (nI w) b (nI k) (nI e) N' := by
  have h4 := hO.2.1.2
  have h6 := hR.1
  have ht := hO.2.2.1.2
  intro j
  induction j with
  | zero =>
    intro e he
    obtain ⟨m, hm⟩ := nxt
    refine ⟨m + 1, ?_⟩
    rintro b N' hb - ⟨N0, h0, rfl⟩
    have e' : e = S := by omega
    subst e'
    obtain ⟨fr1, fr2, fr3⟩ := inS_fr h0
    obtain ⟨t, rw1, rw2⟩ := h0
    show f_X6_isAsSeen_42 Q (p_X6_isAsSeen Q m) _ _ _ _ _ _
    refine br_t ?_ ?_
    · rw [mU_n (by decide), fr2 19 (by omega), hR.2.1]; exact nI_le (by omega) (by omega)
    · refine R_tracesOn (p := 148) (by omega) hO.one (by omega) (fun j hj => ?_) (tr7 t) (Or.inl ⟨rfl, rfl⟩) (fun N2 h2 => ?_)
      · rw [mR_n (by decide)]; exact st0_pg (by omega)
      · rw [nI_1]
        have e7 : N2 7 = mU N0 7 (41 * row + k) (ra (pg N1 0) w k) 7 := by
          have := h2.1 7 (by decide) (by decide)
          rw [mR_s] at this
          exact this
        refine hm b N2 ?_ ⟨?_, fun q hq => ?_, fun j hj => ?_⟩
        · have ec : CC N1 (pg N1 0) e k e ↔ CC N1 (pg N1 0) e (k + 1) 0 := by
            constructor
            · intro z d hd hc; exact z d hd (by omega)
            · intro z d hd hc; exact z d hd (by omega)
          rcases hb with ⟨q1, q2⟩ | ⟨q1, q2⟩
          · exact Or.inl ⟨ec.mp q1, q2⟩
          · exact Or.inr ⟨fun z => q1 (ec.mpr z), q2⟩
        · rw [e7]; exact h2
        · rw [e7, mU_r]
          by_cases hqk : q = k
          · rw [if_pos (by omega), hqk]
          · rw [if_neg (by omega)]; exact rw1 q (by omega)
        · rw [e7, mU_r, if_neg (by omega)]; exact rw2 j (by omega)
  | succ j ih =>
    intro e he
    obtain ⟨m, hm⟩ := ih (e + 1) (by omega)
    obtain ⟨r1, r2, r3, r4⟩ := hR.2.2 e (by omega)
    by_cases hso : oE N1 e < wN (pg N1 0) ∧ ra (pg N1 0) (oE N1 e) k = N1 6 (3 * e + 2)
    · refine ⟨m + 4, ?_⟩
      rintro b N' hb h1 ⟨N0, h0, rfl⟩
      obtain ⟨fr1, fr2, fr3⟩ := inS_fr h0
      have t := h0.1
      show f_X6_isAsSeen_42 Q (p_X6_isAsSeen Q (m + 3)) _ _ _ _ _ _
      unfold f_X6_isAsSeen_42
      rw [i31, i32, nI_clamp (show 3 * e + 1 < 2 ^ 31 by omega), nI_clamp (show 3 * e + 2 < 2 ^ 31 by omega), mU_n (show (0 : Nat) ≠ 7 by decide), mU_n (show (1 : Nat) ≠ 7 by decide), mU_n (show (6 : Nat) ≠ 7 by decide), fr2 19 (by omega), hR.2.1, fr1 6 (by decide) (by decide) (by decide), fr3 35 (by omega)]
      refine br_f (nI_ge (by omega) (by omega)) ⟨vp_in_nI (by omega) (by omega), fun x hx => ?_⟩
      rw [r3] at hx
      subst hx
      have e35 : N1 1 35 = nI (wN (pg N1 0)) := hO.2.1.1
      rw [e35, li 179, nI_add, nI_clamp (by omega)]
      have e179 : N0 1 (179 + oE N1 e) = ra (pg N1 0) (oE N1 e) k := by
        have := t.2.2.2.2.2.1 (oE N1 e) hso.1
        rw [ra_raM] at this
        exact this
      rw [e179]
      refine br_f (nI_ge hso.1 (by omega)) ⟨vp_in_nI (by omega) (by omega), vp_in_nI (by omega) (by omega), bn_t hso.2 ?_⟩
      show f_X6_isAsSeen_106 Q (p_X6_isAsSeen Q (m + 2)) _ _ _ _ _ _ _
      unfold f_X6_isAsSeen_106
      rw [i30, nI_clamp (by omega), mU_n (show (6 : Nat) ≠ 7 by decide), fr1 6 (by decide) (by decide) (by decide), r1]
      have hh : ∀ b', bit b' (CC N1 (pg N1 0) S k (e + 1)) → (p_X6_isAsSeen Q (m + 1)).2.2.2.2.2.2 (nI row) (nI w) (nI k) (nI e) b' (mU N0 7 (41 * row + k) (ra (pg N1 0) w k)) := by
        intro b' hb'
        show (p_X6_isAsSeen Q m).2.1 _ _ _ _ _ _
        rw [nI_1]
        exact hm b' _ hb' h1 ⟨N0, h0, rfl⟩
      have ec : CC N1 (pg N1 0) S k e ↔ CC N1 (pg N1 0) S k (e + 1) := by
        constructor
        · intro z d hd hc
          by_cases hde : d = e ∧ nE N1 d = k
          · obtain ⟨rfl, hnk⟩ := hde
            rw [okb_iff, hnk]; exact hso
          · exact z d hd (by omega)
        · intro z d hd hc; exact z d hd (by omega)
      rcases hb with ⟨q1, rfl⟩ | ⟨q1, rfl⟩
      · refine br_f (by decide) ⟨vp_in_nI (by omega) (by omega), ?_⟩
        have fin := hh 1 (Or.inl ⟨ec.mp q1, rfl⟩)
        exact bn_c (fun _ => fin) (fun _ => br_f (by decide) fin)
      · exact br_t rfl (hh 0 (Or.inr ⟨fun z => q1 (ec.mpr z), rfl⟩))
    · refine ⟨m + 5, ?_⟩
      rintro b N' hb h1 ⟨N0, h0, rfl⟩
      obtain ⟨fr1, fr2, fr3⟩ := inS_fr h0
      have t := h0.1
      have hh : ∀ b', bit b' (CC N1 (pg N1 0) S k (e + 1)) → (p_X6_isAsSeen Q (m + 1)).2.2.2.2.2.2 (nI row) (nI w) (nI k) (nI e) b' (mU N0 7 (41 * row + k) (ra (pg N1 0) w k)) := by
        intro b' hb'
        show (p_X6_isAsSeen Q m).2.1 _ _ _ _ _ _
        rw [nI_1]
        exact hm b' _ hb' h1 ⟨N0, h0, rfl⟩
      have no : (p_X6_isAsSeen Q (m + 4)).2.2.1 (nI row) (nI w) b (nI k) (nI e) (mU N0 7 (41 * row + k) (ra (pg N1 0) w k)) := by
        show f_X6_isAsSeen_106 Q (p_X6_isAsSeen Q (m + 2)) _ _ _ _ _ _ _
        unfold f_X6_isAsSeen_106
        rw [i30, nI_clamp (by omega), mU_n (show (6 : Nat) ≠ 7 by decide), fr1 6 (by decide) (by decide) (by decide), r1]
        have dn : ∀ {x y}, (CC N1 (pg N1 0) S x y → CC N1 (pg N1 0) S x y) := fun z => z
        have ed : CC N1 (pg N1 0) S k (e + 1) → CC N1 (pg N1 0) S k e := fun z d hd hc => z d hd (by omega)
        rcases hb with ⟨q1, rfl⟩ | ⟨q1, rfl⟩
        · refine br_f (by decide) ⟨vp_in_nI (by omega) (by omega), ?_⟩
          refine bn_c (fun q => hh 1 (Or.inl ⟨fun d hd hc => ?_, rfl⟩)) (fun q => br_t rfl (hh 0 (Or.inr ⟨fun z => ?_, rfl⟩)))
          · by_cases hde : d = e ∧ nE N1 d = k
            · obtain ⟨rfl, hnk⟩ := hde
              exact absurd (by rw [hnk]) q
            · exact q1 d hd (by omega)
          · have hnk : nE N1 e = k := (nI_eq (by omega) (by omega)).mp q
            have := okb_iff.mp (z e (by omega) (by omega))
            rw [hnk] at this
            exact hso this
        · exact br_t rfl (hh 0 (Or.inr ⟨fun z => q1 (ed z), rfl⟩))
      show f_X6_isAsSeen_42 Q (p_X6_isAsSeen Q (m + 4)) _ _ _ _ _ _
      unfold f_X6_isAsSeen_42
      rw [i31, i32, nI_clamp (show 3 * e + 1 < 2 ^ 31 by omega), nI_clamp (show 3 * e + 2 < 2 ^ 31 by omega), mU_n (show (0 : Nat) ≠ 7 by decide), mU_n (show (1 : Nat) ≠ 7 by decide), mU_n (show (6 : Nat) ≠ 7 by decide), fr2 19 (by omega), hR.2.1, fr1 6 (by decide) (by decide) (by decide), fr3 35 (by omega)]
      refine br_f (nI_ge (by omega) (by omega)) ⟨vp_in_nI (by omega) (by omega), fun x hx => ?_⟩
      rw [r3] at hx
      subst hx
      have e35 : N1 1 35 = nI (wN (pg N1 0)) := hO.2.1.1
      rw [e35, li 179, nI_add, nI_clamp (by omega)]
      by_cases hwe : oE N1 e < wN (pg N1 0)
      · have e179 : N0 1 (179 + oE N1 e) = ra (pg N1 0) (oE N1 e) k := by
          have := t.2.2.2.2.2.1 (oE N1 e) hwe
          rw [ra_raM] at this
          exact this
        rw [e179]
        exact br_f (nI_ge hwe (by omega)) ⟨vp_in_nI (by omega) (by omega), vp_in_nI (by omega) (by omega), bn_f (fun z => hso ⟨hwe, z⟩) no⟩
      · exact br_t (nI_le (by omega) (by omega)) no
