/-! text: tokens -/
def rn (B : Nat → Int32) (lo hi : Int32) : Nat → Nat → Nat
  | 0, p => p
  | j + 1, p => if lo ≤ B p ∧ B p ≤ hi then rn B lo hi j (p + 1) else p
theorem rn_le (B : Nat → Int32) (lo hi : Int32) : ∀ j p, p ≤ rn B lo hi j p ∧ rn B lo hi j p ≤ p + j
  | 0, p => ⟨Nat.le_refl p, Nat.le_refl p⟩
  | j + 1, p => by
    have := rn_le B lo hi j (p + 1)
    show p ≤ (if _ then _ else _) ∧ (if _ then _ else _) ≤ _
    split <;> omega
theorem rn_stop (B : Nat → Int32) (lo hi : Int32) : ∀ j p, rn B lo hi j p < p + j → ¬ (lo ≤ B (rn B lo hi j p) ∧ B (rn B lo hi j p) ≤ hi)
  | 0, p, h => by
    have : rn B lo hi 0 p = p := rfl
    omega
  | j + 1, p, h => by
    by_cases hc : lo ≤ B p ∧ B p ≤ hi
    · have e : rn B lo hi (j + 1) p = rn B lo hi j (p + 1) := if_pos hc
      rw [e] at h ⊢
      exact rn_stop B lo hi j (p + 1) (by omega)
    · have e : rn B lo hi (j + 1) p = p := if_neg hc
      rw [e]; exact hc
def en (B : Nat → Int32) (T : Nat) (lo hi : Int32) (p : Nat) : Nat := rn B lo hi (T - p) p
theorem en_b {B : Nat → Int32} {T p : Nat} {lo hi : Int32} (h : p ≤ T) : p ≤ en B T lo hi p ∧ en B T lo hi p ≤ T := by
  have := rn_le B lo hi (T - p) p
  unfold en; omega
theorem en_gt {B : Nat → Int32} {T p : Nat} {lo hi : Int32} (h : p < T) (hc : lo ≤ B p ∧ B p ≤ hi) : p < en B T lo hi p := by
  unfold en
  rw [show T - p = T - (p + 1) + 1 by omega]
  have e : rn B lo hi (T - (p + 1) + 1) p = rn B lo hi (T - (p + 1)) (p + 1) := if_pos hc
  have := rn_le B lo hi (T - (p + 1)) (p + 1)
  rw [e]; omega
def fB (B : Nat → Int32) (T p : Nat) : Nat := en B T 32 32 p
def isL (c : Int32) : Prop := 97 ≤ c ∧ c ≤ 122
def isD (c : Int32) : Prop := 48 ≤ c ∧ c ≤ 57
def kB (B : Nat → Int32) (T p : Nat) : Nat :=
  if fB B T p < T then (if 97 ≤ B (fB B T p) ∧ B (fB B T p) ≤ 122 then 1 else if 48 ≤ B (fB B T p) ∧ B (fB B T p) ≤ 57 then (if en B T 48 57 (fB B T p) - fB B T p ≤ 2 then 2 else 4) else if B (fB B T p) = 59 then 3 else 4) else 0
def oB (B : Nat → Int32) (T p : Nat) : Nat :=
  if fB B T p < T then (if 97 ≤ B (fB B T p) ∧ B (fB B T p) ≤ 122 then en B T 97 122 (fB B T p) else if 48 ≤ B (fB B T p) ∧ B (fB B T p) ≤ 57 then en B T 48 57 (fB B T p) else fB B T p + 1) else T
theorem kB_le (B : Nat → Int32) (T p : Nat) : kB B T p ≤ 4 := by
  unfold kB
  repeat' split
  all_goals omega
theorem oB_b {B : Nat → Int32} {T p : Nat} (h : p ≤ T) : p ≤ oB B T p ∧ oB B T p ≤ T ∧ fB B T p ≤ oB B T p ∧ fB B T p ≤ T ∧ (kB B T p ≠ 0 → p < oB B T p) := by
  have hf := en_b (B := B) (lo := 32) (hi := 32) h
  have hf1 : p ≤ fB B T p := hf.1
  have hf2 : fB B T p ≤ T := hf.2
  unfold oB kB
  by_cases h1 : fB B T p < T
  · rw [if_pos h1, if_pos h1]
    by_cases h2 : 97 ≤ B (fB B T p) ∧ B (fB B T p) ≤ 122
    · rw [if_pos h2]
      have a := en_b (B := B) (lo := 97) (hi := 122) hf2
      have b := en_gt h1 h2
      refine ⟨by omega, by omega, by omega, hf2, fun _ => by omega⟩
    · rw [if_neg h2]
      by_cases h3 : 48 ≤ B (fB B T p) ∧ B (fB B T p) ≤ 57
      · rw [if_pos h3]
        have a := en_b (B := B) (lo := 48) (hi := 57) hf2
        have b := en_gt h1 h3
        refine ⟨by omega, by omega, by omega, hf2, fun _ => by omega⟩
      · rw [if_neg h3]
        refine ⟨by omega, by omega, by omega, hf2, fun _ => by omega⟩
  · rw [if_neg h1, if_neg h1]
    refine ⟨by omega, by omega, by omega, hf2, fun z => absurd rfl z⟩
/-- the tape of the class -/
def xT (M : Mem) (B : Nat → Int32) (T : Nat) : Prop := T ≤ 160 ∧ M 16 1 = nI T ∧ ∀ i, i < T → M 17 i = B i
theorem X_endOfRun {M : Mem} {B : Nat → Int32} {T p : Nat} {lo hi : Int32} {Q : Int32 → Mem → Prop} (hT : xT M B T) (hp : p ≤ T) (hq : Q (nI (en B T lo hi p)) M) : q_X3_endOfRun (nI p) lo hi M Q := by
  obtain ⟨h160, h1, hB⟩ := hT
  have key : ∀ j p, j + p = T → Q (nI (rn B lo hi j p)) M → p_X3_endOfRun Q (j + 1) lo hi (nI p) M := by
    intro j
    induction j with
    | zero =>
      intro p hp hq
      exact br_t (by rw [h1]; exact nI_le (by omega) (by omega)) hq
    | succ j ih =>
      intro p hp hq
      show f_X3_endOfRun_3 Q (p_X3_endOfRun Q (j + 1)) _ _ _ _
      unfold f_X3_endOfRun_3
      rw [nI_clamp (by omega), hB p (by omega), h1]
      have no : ¬ (lo ≤ B p ∧ B p ≤ hi) → Q (nI p) M := fun z => by
        have e : rn B lo hi (j + 1) p = p := if_neg z
        rw [e] at hq; exact hq
      refine br_f (nI_ge (by omega) (by omega)) ⟨vp_in_nI (by omega) (by omega), br_c (fun z => no (fun y => absurd y.1 (Int32.not_le.mpr z))) (fun z => ⟨vp_in_nI (by omega) (by omega), br_c (fun y => no (fun x => absurd x.2 (Int32.not_le.mpr y))) (fun y => ?_)⟩)⟩
      have e : rn B lo hi (j + 1) p = rn B lo hi j (p + 1) := if_pos ⟨Int32.not_lt.mp z, Int32.not_lt.mp y⟩
      rw [e] at hq
      rw [nI_1]
      exact ih (p + 1) (by omega) hq
  exact ⟨T - p + 1, key (T - p) p (by omega) hq⟩
theorem mU_hit (M : Mem) (k j : Nat) (x : Int32) : mU M k j x k j = x := by rw [mU_r, if_pos rfl]
theorem mU_mis {M : Mem} {k j i : Nat} {x : Int32} (h : i ≠ j) : mU M k j x k i = M k i := by rw [mU_r, if_neg h]
theorem mU_mU (M : Mem) (k j : Nat) (x y : Int32) : mU (mU M k j x) k j y = mU M k j y := by
  funext a b
  rw [mU_at, mU_at, mU_at]
  by_cases h : a = k ∧ b = j
  · rw [if_pos h, if_pos h]
  · rw [if_neg h, if_neg h, if_neg h]
theorem mU_id {M : Mem} {k j : Nat} {x : Int32} (h : M k j = x) : mU M k j x = M := by
  funext a b
  rw [mU_at]
  by_cases hh : a = k ∧ b = j
  · rw [if_pos hh, hh.1, hh.2, h]
  · rw [if_neg hh]
def fr16 (M M' : Mem) : Prop := (∀ a, a ≠ 16 → M' a = M a) ∧ ∀ j, (j < 2 ∨ 4 < j) → M' 16 j = M 16 j
theorem xT_u {M : Mem} {B : Nat → Int32} {T j : Nat} {x : Int32} (h : xT M B T) (hj : j ≠ 1) : xT (mU M 16 j x) B T := ⟨h.1, by rw [mU_mis (by omega)]; exact h.2.1, fun i hi => by rw [mU_n (by decide)]; exact h.2.2 i hi⟩
set_option maxHeartbeats 1000000 in
theorem X_nextToken {M : Mem} {B : Nat → Int32} {T p : Nat} {Q : Mem → Prop} (hT : xT M B T) (hp : p ≤ T) (h4 : M 16 4 = nI p) (hq : ∀ M', fr16 M M' → M' 16 3 = nI (fB B T p) → M' 16 2 = nI (kB B T p) → (kB B T p ≠ 0 → M' 16 4 = nI (oB B T p)) → Q M') : q_X3_nextToken M Q := by
  have h160 := hT.1
  have hf := oB_b (B := B) hp
  unfold q_X3_nextToken
  rw [h4]
  refine X_endOfRun hT hp ?_
  show _ ∧ _
  have ef : en B T 32 32 p = fB B T p := rfl
  rw [ef, mU_hit, mU_mis (show 1 ≠ 3 by decide), hT.2.1, mU_n (show (17 : Nat) ≠ 16 by decide)]
  have hT2 : xT (mU M 16 3 (nI (fB B T p))) B T := xT_u hT (by decide)
  have tail : ∀ (k : Nat) (e : Nat), kB B T p = k → oB B T p = e → Q (mU (mU (mU M 16 3 (nI (fB B T p))) 16 4 (nI e)) 16 2 (nI k)) := by
    intro k e hk he
    refine hq _ ⟨fun a ha => by rw [mU_n ha, mU_n ha, mU_n ha], fun j hj => by rw [mU_mis (by omega), mU_mis (by omega), mU_mis (by omega)]⟩ ?_ ?_ (fun _ => ?_)
    · rw [mU_mis (by decide), mU_mis (by decide), mU_hit]
    · rw [mU_hit, hk]
    · rw [mU_mis (by decide), mU_hit, he]
  by_cases h1 : fB B T p < T
  · refine br_t (nI_lt h1 (by omega)) ⟨vp_in_nI (by omega) (by omega), fun c hc => ?_⟩
    rw [nI_clamp (by omega), hT.2.2 _ h1] at hc
    have d79 : ¬ (97 ≤ c ∧ c ≤ 122) → f_X3_nextToken_79 Q c (mU M 16 3 (nI (fB B T p))) := by
      intro hn
      have hn' := hn
      rw [hc] at hn'
      have d132 : ¬ (48 ≤ c ∧ c ≤ 57) → f_X3_nextToken_132 Q c (mU M 16 3 (nI (fB B T p))) := by
        intro hd
        have hd' := hd
        rw [hc] at hd'
        unfold f_X3_nextToken_132
        rw [mU_hit, li 1, nI_add]
        have eo : oB B T p = fB B T p + 1 := by
          unfold oB
          rw [if_pos h1, if_neg hn', if_neg hd']
        refine bn_c (fun z => ?_) (fun z => ?_)
        · have ek : kB B T p = 4 := by
            unfold kB
            rw [if_pos h1, if_neg hn', if_neg hd', if_neg (by rw [← hc]; exact z)]
          exact tail 4 _ ek eo
        · have ek : kB B T p = 3 := by
            unfold kB
            rw [if_pos h1, if_neg hn', if_neg hd', if_pos (by rw [← hc]; exact z)]
          exact tail 3 _ ek eo
      refine br_c (fun z => d132 (fun y => absurd y.1 (Int32.not_le.mpr z))) (fun z => br_c (fun y => d132 (fun x => absurd x.2 (Int32.not_le.mpr y))) (fun y => ?_))
      have hd : 48 ≤ B (fB B T p) ∧ B (fB B T p) ≤ 57 := by rw [← hc]; exact ⟨Int32.not_lt.mp z, Int32.not_lt.mp y⟩
      have eo : oB B T p = en B T 48 57 (fB B T p) := by
        unfold oB
        rw [if_pos h1, if_neg hn', if_pos hd]
      have hb := en_b (B := B) (lo := 48) (hi := 57) hf.2.2.2.1
      rw [mU_hit]
      refine X_endOfRun hT2 hf.2.2.2.1 ?_
      show _ ∧ _
      rw [mU_hit, mU_mis (show 3 ≠ 4 by decide), mU_hit]
      have es : nI (en B T 48 57 (fB B T p)) - nI (fB B T p) = nI (en B T 48 57 (fB B T p) - fB B T p) := by
        have := nI_sb (fB B T p) (en B T 48 57 (fB B T p) - fB B T p)
        rw [show fB B T p + (en B T 48 57 (fB B T p) - fB B T p) = en B T 48 57 (fB B T p) by omega] at this
        exact this
      rw [es]
      by_cases h2 : en B T 48 57 (fB B T p) - fB B T p ≤ 2
      · have ek : kB B T p = 2 := by
          unfold kB
          rw [if_pos h1, if_neg hn', if_pos hd, if_pos h2]
        exact br_f (by rw [li 2]; exact nI_nlt h2 (by omega)) (tail 2 _ ek eo)
      · have ek : kB B T p = 4 := by
          unfold kB
          rw [if_pos h1, if_neg hn', if_pos hd, if_neg h2]
        exact br_t (by rw [li 2]; exact nI_lt (by omega) (by omega)) (tail 4 _ ek eo)
    refine br_c (fun z => d79 (fun y => absurd y.1 (Int32.not_le.mpr z))) (fun z => br_c (fun y => d79 (fun x => absurd x.2 (Int32.not_le.mpr y))) (fun y => ?_))
    have hl : 97 ≤ B (fB B T p) ∧ B (fB B T p) ≤ 122 := by rw [← hc]; exact ⟨Int32.not_lt.mp z, Int32.not_lt.mp y⟩
    have eo : oB B T p = en B T 97 122 (fB B T p) := by
      unfold oB
      rw [if_pos h1, if_pos hl]
    have ek : kB B T p = 1 := by
      unfold kB
      rw [if_pos h1, if_pos hl]
    exact X_endOfRun hT2 hf.2.2.2.1 (tail 1 _ ek eo)
  · refine br_f (nI_nlt (by omega) (by omega)) ?_
    have ek : kB B T p = 0 := if_neg h1
    refine hq _ ⟨fun a ha => by rw [mU_n ha, mU_n ha], fun j hj => by rw [mU_mis (by omega), mU_mis (by omega)]⟩ ?_ ?_ (fun z => absurd ek z)
    · rw [mU_mis (by decide), mU_hit]
    · rw [mU_hit, ek]; rfl
/-- the class reads on -/
def frA (M M' : Mem) : Prop := (∀ a, a ≠ 15 → a ≠ 16 → M' a = M a) ∧ (∀ j, j ≠ 4 → j ≠ 5 → M' 15 j = M 15 j) ∧ ∀ j, (j < 2 ∨ 4 < j) → M' 16 j = M 16 j
theorem X_advance {M : Mem} {B : Nat → Int32} {T p : Nat} {Q : Mem → Prop} (hT : xT M B T) (hp : p ≤ T) (h4 : M 16 4 = nI p) (h0 : M 15 4 = 0) (hq : ∀ M', frA M M' → M' 16 3 = nI (fB B T p) → M' 16 2 = nI (kB B T p) → (kB B T p ≠ 0 → M' 16 4 = nI (oB B T p)) → M' 15 4 = (if kB B T p = 4 then 1 else 0) → M' 15 5 = nI (fB B T p) → Q M') : q_X4_advance M Q := by
  have hk4 := kB_le B T p
  refine bn_t h0 (X_nextToken hT hp h4 (fun M1 g1 g2 g3 g4 => ?_))
  have fin : ∀ x : Int32, x = (if kB B T p = 4 then 1 else 0) → q_X4_refuse x M1 (fun M_2 => Q M_2) := by
    intro x hx
    refine bn_t (by rw [g1.1 15 (by decide)]; exact h0) ?_
    rw [mU_n (show (16 : Nat) ≠ 15 by decide)]
    refine hq _ ⟨fun a h15 h16 => by rw [mU_n h15, mU_n h15, g1.1 a h16], fun j j4 j5 => by rw [mU_mis j5, mU_mis j4, g1.1 15 (by decide)], fun j hj => by rw [mU_n (by decide), mU_n (by decide), g1.2 j hj]⟩ ?_ ?_ (fun z => ?_) ?_ ?_
    · rw [mU_n (by decide), mU_n (by decide)]; exact g2
    · rw [mU_n (by decide), mU_n (by decide)]; exact g3
    · rw [mU_n (by decide), mU_n (by decide)]; exact g4 z
    · rw [mU_mis (by decide), mU_hit]; exact hx
    · rw [mU_hit]; exact g2
  rw [g3]
  by_cases h : kB B T p = 4
  · exact bn_t (by rw [h]; rfl) (fin 1 (if_pos h).symm)
  · exact bn_f (fun z => h ((nI_eq (by omega) (by omega)).mp z)) (fin 0 (if_neg h).symm)
