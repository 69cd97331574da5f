/-! text: numbers and signs of the class -/
def val (B : Nat → Int32) (T p : Nat) : Int32 := vl B (fB B T p) (oB B T p - fB B T p)
def nF (B : Nat → Int32) (T : Nat) (lo hi : Int32) (p : Nat) : Nat := if kB B T p = 4 then 1 else if kB B T p = 2 then (if lo ≤ val B T p ∧ val B T p ≤ hi then 0 else 3) else 2
def mF (B : Nat → Int32) (T p : Nat) : Nat := if kB B T p = 4 then 1 else if kB B T p = 3 then 0 else 2
theorem nF_le (B : Nat → Int32) (T : Nat) (lo hi : Int32) (p : Nat) : nF B T lo hi p ≤ 5 := by
  unfold nF
  repeat' split
  all_goals omega
theorem mF_le (B : Nat → Int32) (T p : Nat) : mF B T p ≤ 5 := by
  unfold mF
  repeat' split
  all_goals omega
theorem nF_0 {B : Nat → Int32} {T p : Nat} {lo hi : Int32} (h : nF B T lo hi p = 0) : kB B T p = 2 ∧ lo ≤ val B T p ∧ val B T p ≤ hi := by
  unfold nF at h
  by_cases h4 : kB B T p = 4
  · rw [if_pos h4] at h; omega
  · rw [if_neg h4] at h
    by_cases h2 : kB B T p = 2
    · rw [if_pos h2] at h
      by_cases hc : lo ≤ val B T p ∧ val B T p ≤ hi
      · exact ⟨h2, hc⟩
      · rw [if_neg hc] at h; omega
    · rw [if_neg h2] at h; omega
theorem mF_0 {B : Nat → Int32} {T p : Nat} (h : mF B T p = 0) : kB B T p = 3 := by
  unfold mF at h
  by_cases h4 : kB B T p = 4
  · rw [if_pos h4] at h; omega
  · rw [if_neg h4] at h
    by_cases h2 : kB B T p = 3
    · exact h2
    · rw [if_neg h2] at h; omega
def tkX (M : Mem) (B : Nat → Int32) (T p : Nat) : Prop := xT M B T ∧ p ≤ T ∧ M 16 3 = nI (fB B T p) ∧ M 16 2 = nI (kB B T p) ∧ (kB B T p ≠ 0 → M 16 4 = nI (oB B T p))
theorem tkX_u {M : Mem} {B : Nat → Int32} {T p : Nat} (h : tkX M B T p) {a j : Nat} {x : Int32} (ha : a ≠ 16) (hb : a ≠ 17) : tkX (mU M a j x) B T p := by
  obtain ⟨⟨t1, t2, t3⟩, h1, h2, h3, h4⟩ := h
  have e16 : mU M a j x 16 = M 16 := mU_n (fun z => ha z.symm)
  have e17 : mU M a j x 17 = M 17 := mU_n (fun z => hb z.symm)
  unfold tkX xT
  rw [e16, e17]
  exact ⟨⟨t1, t2, t3⟩, h1, h2, h3, h4⟩
theorem frA.tr {A B C : Mem} (h : frA A B) (h2 : frA B C) : frA A C := ⟨fun a x y => (h2.1 a x y).trans (h.1 a x y), fun j x y => (h2.2.1 j x y).trans (h.2.1 j x y), fun j hj => (h2.2.2 j hj).trans (h.2.2 j hj)⟩
theorem frA.rf {A : Mem} : frA A A := ⟨fun _ _ _ => rfl, fun _ _ _ => rfl, fun _ _ => rfl⟩
theorem frA.u {A A' : Mem} (h : frA A A') {j : Nat} {x : Int32} (hj : j = 4 ∨ j = 5) : frA A (mU A' 15 j x) := ⟨fun a h15 h16 => by rw [mU_n h15, h.1 a h15 h16], fun i i4 i5 => by rw [mU_mis (by omega), h.2.1 i i4 i5], fun i hi => by rw [mU_n (by decide), h.2.2 i hi]⟩
theorem xT_A {M M' : Mem} {B : Nat → Int32} {T : Nat} (h : xT M B T) (g : frA M M') : xT M' B T := ⟨h.1, (g.2.2 1 (by omega)).trans h.2.1, fun i hi => by rw [g.1 17 (by decide) (by decide)]; exact h.2.2 i hi⟩
theorem X_numberOf {M : Mem} {B : Nat → Int32} {T f e : Nat} {Q : Int32 → Mem → Prop} (hT : xT M B T) (h3 : M 16 3 = nI f) (h4 : M 16 4 = nI e) (hfe : f ≤ e) (heT : e ≤ T) (hq : Q (vl B f (e - f)) M) : q_X3_numberOfToken M Q := by
  have h160 := hT.1
  have key : ∀ j k, j + k = e - f → p_X3_numberOfToken Q (j + 1) (vl B f k) (nI (f + k)) M := by
    intro j
    induction j with
    | zero =>
      intro k hk
      rw [show k = e - f by omega]
      exact br_t (by rw [h4]; exact nI_le (by omega) (by omega)) hq
    | succ j ih =>
      intro k hk
      show f_X3_numberOfToken_7 Q (p_X3_numberOfToken Q (j + 1)) _ _ _
      unfold f_X3_numberOfToken_7
      rw [h4, nI_clamp (by omega), hT.2.2 (f + k) (by omega)]
      refine br_f (nI_ge (by omega) (by omega)) ⟨vp_in_nI (by omega) (by omega), fun x hx => ?_⟩
      rw [nI_1, hx]
      exact ih (k + 1) (by omega)
  refine ⟨e - f + 1, ?_⟩
  show p_X3_numberOfToken Q (e - f + 1) 0 (M 16 3) M
  rw [h3]
  exact key (e - f) 0 (by omega)
theorem X_take_f {M : Mem} {B : Nat → Int32} {T p : Nat} {lo hi : Int32} {Q : Int32 → Mem → Prop} (hk : tkX M B T p) (h0 : ¬ M 15 4 = 0) (hq : ∀ r, Q r M) : q_X4_takeNumber lo hi M Q := by
  have ho := oB_b (B := B) hk.2.1
  have hk4 := kB_le B T p
  refine bn_f h0 (br_c (fun z => ?_) (fun z => bn_f h0 (hq _)))
  have e2 : kB B T p = 2 := (nI_eq (b := 2) (by omega) (by omega)).mp (hk.2.2.2.1.symm.trans z)
  exact X_numberOf hk.1 hk.2.2.1 (hk.2.2.2.2 (by omega)) ho.2.2.1 ho.2.1 (br_c (fun _ => bn_f h0 (hq _)) (fun _ => br_c (fun _ => hq _) (fun _ => bn_f h0 (hq _))))
theorem X_semi_f {M : Mem} {Q : Mem → Prop} (h0 : ¬ M 15 4 = 0) (hq : Q M) : q_X4_takeSemicolon M Q := bn_f h0 (br_c (fun _ => hq) (fun _ => bn_f h0 hq))
theorem nI_ne {a b : Nat} (ha : a < 1000) (hb : b < 1000) (h : a ≠ b) : ¬ nI a = nI b := fun z => h ((nI_eq (by omega) (by omega)).mp z)
theorem X_take {M : Mem} {B : Nat → Int32} {T p : Nat} {lo hi : Int32} {Q : Int32 → Mem → Prop} (hk : tkX M B T p) (hk0 : kB B T p ≠ 0) (h0 : M 15 4 = 0) (hq : ∀ M' r, frA M M' → tkX M' B T (oB B T p) → M' 15 4 = nI (nF B T lo hi (oB B T p)) → (nF B T lo hi (oB B T p) ≠ 0 → M' 15 5 = nI (fB B T (oB B T p))) → (nF B T lo hi (oB B T p) = 0 → r = val B T (oB B T p)) → Q r M') : q_X4_takeNumber lo hi M Q := by
  have ho := oB_b (B := B) hk.2.1
  have hk4 := kB_le B T (oB B T p)
  have ho1 := oB_b (B := B) (T := T) (p := oB B T p) ho.2.1
  refine X_advance hk.1 ho.2.1 (hk.2.2.2.2 hk0) h0 (fun M1 g a3 a2 a4 a5 a6 => ?_)
  have t1 : tkX M1 B T (oB B T p) := ⟨xT_A hk.1 g, ho.2.1, a3, a2, a4⟩
  rw [a2]
  have ref : ∀ (c : Nat) (r : Int32), c ≠ 0 → kB B T (oB B T p) ≠ 4 → nF B T lo hi (oB B T p) = c → q_X4_refuse (nI c) M1 (fun M_5 => Q r M_5) := by
    intro c r hc hn hnf
    rw [if_neg hn] at a5
    refine bn_t a5 ?_
    rw [mU_n (show (16 : Nat) ≠ 15 by decide), a3]
    refine hq _ _ ((g.u (by omega)).u (by omega)) (tkX_u (tkX_u t1 (by decide) (by decide)) (by decide) (by decide)) (by rw [mU_mis (by decide), mU_hit, hnf]) (fun _ => by rw [mU_hit]) (fun z => by omega)
  by_cases h4 : kB B T (oB B T p) = 4
  · have en : nF B T lo hi (oB B T p) = 1 := if_pos h4
    rw [if_pos h4] at a5
    refine br_f (nI_ne (b := 2) (by omega) (by omega) (by omega)) (bn_f (by rw [a5]; decide) ?_)
    exact hq _ _ g t1 (by rw [a5, en]; rfl) (fun _ => a6) (fun z => by omega)
  · by_cases h2 : kB B T (oB B T p) = 2
    · have en : nF B T lo hi (oB B T p) = if lo ≤ val B T (oB B T p) ∧ val B T (oB B T p) ≤ hi then 0 else 3 := by
        unfold nF
        rw [if_neg h4, if_pos h2]
      rw [h2]
      refine br_t rfl (X_numberOf t1.1 a3 (a4 (by omega)) ho1.2.2.1 ho1.2.1 ?_)
      show _ ∧ _
      have ev : vl B (fB B T (oB B T p)) (oB B T (oB B T p) - fB B T (oB B T p)) = val B T (oB B T p) := rfl
      rw [ev]
      refine br_c (fun z => ref 3 _ (by omega) h4 ?_) (fun z => br_c (fun y => ?_) (fun y => ref 3 _ (by omega) h4 ?_))
      · rw [en, if_neg (fun x => absurd x.1 (Int32.not_le.mpr z))]
      · have e0 : nF B T lo hi (oB B T p) = 0 := by rw [en, if_pos ⟨Int32.not_lt.mp z, y⟩]
        rw [if_neg h4] at a5
        exact hq _ _ g t1 (by rw [a5, e0]; rfl) (fun x => absurd e0 x) (fun _ => rfl)
      · rw [en, if_neg (fun x => y x.2)]
    · have en : nF B T lo hi (oB B T p) = 2 := by
        unfold nF
        rw [if_neg h4, if_neg h2]
      exact br_f (nI_ne (b := 2) (by omega) (by omega) h2) (ref 2 _ (by omega) h4 en)
theorem X_semi {M : Mem} {B : Nat → Int32} {T p : Nat} {Q : Mem → Prop} (hk : tkX M B T p) (hk0 : kB B T p ≠ 0) (h0 : M 15 4 = 0) (hq : ∀ M', frA M M' → tkX M' B T (oB B T p) → M' 15 4 = nI (mF B T (oB B T p)) → (mF B T (oB B T p) ≠ 0 → M' 15 5 = nI (fB B T (oB B T p))) → Q M') : q_X4_takeSemicolon M Q := by
  have ho := oB_b (B := B) hk.2.1
  have hk4 := kB_le B T (oB B T p)
  refine X_advance hk.1 ho.2.1 (hk.2.2.2.2 hk0) h0 (fun M1 g a3 a2 a4 a5 a6 => ?_)
  have t1 : tkX M1 B T (oB B T p) := ⟨xT_A hk.1 g, ho.2.1, a3, a2, a4⟩
  rw [a2]
  by_cases h4 : kB B T (oB B T p) = 4
  · have en : mF B T (oB B T p) = 1 := if_pos h4
    rw [if_pos h4] at a5
    refine br_f (nI_ne (b := 3) (by omega) (by omega) (by omega)) (bn_f (by rw [a5]; decide) ?_)
    exact hq _ g t1 (by rw [a5, en]; rfl) (fun _ => a6)
  · rw [if_neg h4] at a5
    by_cases h2 : kB B T (oB B T p) = 3
    · have en : mF B T (oB B T p) = 0 := by
        unfold mF
        rw [if_neg h4, if_pos h2]
      rw [h2]
      exact br_t rfl (hq _ g t1 (by rw [a5, en]; rfl) (fun z => absurd en z))
    · have en : mF B T (oB B T p) = 2 := by
        unfold mF
        rw [if_neg h4, if_neg h2]
      refine br_f (nI_ne (b := 3) (by omega) (by omega) h2) (bn_t a5 ?_)
      rw [mU_n (show (16 : Nat) ≠ 15 by decide), a3]
      exact hq _ ((g.u (by omega)).u (by omega)) (tkX_u (tkX_u t1 (by decide) (by decide)) (by decide) (by decide)) (by rw [mU_mis (by decide), mU_hit, en]; rfl) (fun _ => by rw [mU_hit])
/-! lines -/
def fw (B : Nat → Int32) (T p : Nat) (P : Pg) (pt : Bool) : Nat :=
  if nm B T p = 6 then 2 else if nm B T p = 5 then (if pt then 4 else 0) else if nm B T p = 4 then (if cN P = 10 then 5 else 0) else (if wN P = 4 then 5 else 0)
def lnC (B : Nat → Int32) (T p : Nat) (P : Pg) (pt : Bool) : Nat × Nat :=
  if fw B T p P pt ≠ 0 then (fw B T p P pt, fB B T p) else
  if nm B T p < 4 then
    (if nF B T 1 9 (oB B T p) ≠ 0 then (nF B T 1 9 (oB B T p), fB B T (oB B T p)) else
     if mF B T (oB B T (oB B T p)) ≠ 0 then (mF B T (oB B T (oB B T p)), fB B T (oB B T (oB B T p))) else (0, oB B T (oB B T (oB B T p))))
  else
    (if nF B T 0 20 (oB B T p) ≠ 0 then (nF B T 0 20 (oB B T p), fB B T (oB B T p)) else
     if nF B T 0 20 (oB B T (oB B T p)) ≠ 0 then (nF B T 0 20 (oB B T (oB B T p)), fB B T (oB B T (oB B T p))) else
     if mF B T (oB B T (oB B T (oB B T p))) ≠ 0 then (mF B T (oB B T (oB B T (oB B T p))), fB B T (oB B T (oB B T (oB B T p)))) else (0, oB B T (oB B T (oB B T (oB B T p)))))
def lnP (B : Nat → Int32) (T p : Nat) (P : Pg) : Pg :=
  if nm B T p < 4 then pWh P (nI (nm B T p)) (val B T (oB B T p)) else if nm B T p = 4 then pCo P (val B T (oB B T p)) (val B T (oB B T (oB B T p))) else pol P (val B T (oB B T p)) (val B T (oB B T (oB B T p)))
def lnT (B : Nat → Int32) (T p : Nat) (pt : Bool) : Bool := if nm B T p = 5 then true else pt
theorem fw_le (B : Nat → Int32) (T p : Nat) (P : Pg) (pt : Bool) : fw B T p P pt ≤ 5 := by
  unfold fw
  repeat' split
  all_goals omega
theorem X_fault {M : Mem} {B : Nat → Int32} {T p : Nat} {P : Pg} {pt : Bool} {Q : Int32 → Mem → Prop} (hX : isX M 18 P) (hO : OK P) (hpt : M 15 2 = if pt then 1 else 0) (hq : Q (nI (fw B T p P pt)) M) : q_X4_faultOfWord (nI (nm B T p)) M Q := by
  have hn := nm_le B T p
  have h10 := hO.1.1.2
  have h4 := hO.1.2.1.2
  have e2 : M 18 2 = nI (cN P) := hX.1.trans hO.1.1.1
  have e6 : M 18 6 = nI (wN P) := hX.2.1.trans hO.1.2.1.1
  unfold q_X4_faultOfWord
  rw [e2, e6, hpt]
  unfold fw at hq
  by_cases n4 : nm B T p = 4
  · rw [n4] at hq ⊢
    rw [if_neg (by decide), if_neg (by decide), if_pos rfl] at hq
    refine br_t rfl ?_
    by_cases hc : cN P = 10
    · rw [if_pos hc] at hq
      exact br_f (by rw [li 10]; exact nI_nlt (by omega) (by omega)) hq
    · rw [if_neg hc] at hq
      exact br_t (by rw [li 10]; exact nI_lt (by omega) (by omega)) hq
  · refine br_f (nI_ne (b := 4) (by omega) (by omega) n4) ?_
    by_cases n5 : nm B T p = 5
    · rw [n5] at hq ⊢
      rw [if_neg (by decide), if_pos rfl] at hq
      refine br_t rfl ?_
      cases pt with
      | true => exact br_f (by decide) hq
      | false => exact br_t rfl hq
    · refine br_f (nI_ne (b := 5) (by omega) (by omega) n5) ?_
      by_cases n6 : nm B T p = 6
      · rw [n6] at hq ⊢
        rw [if_pos rfl] at hq
        exact br_t rfl hq
      · rw [if_neg n6, if_neg n5, if_neg n4] at hq
        refine br_f (nI_ne (b := 6) (by omega) (by omega) n6) ?_
        by_cases hc : wN P = 4
        · rw [if_pos hc] at hq
          exact br_f (by rw [li 4]; exact nI_nlt (by omega) (by omega)) hq
        · rw [if_neg hc] at hq
          exact br_t (by rw [li 4]; exact nI_lt (by omega) (by omega)) hq
