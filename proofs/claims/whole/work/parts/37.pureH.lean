/-! best, kind, step, place -/
theorem grid {I : Mem → Prop} {A : Nat → Nat → Mem → Prop} {C : Nat → Mem → Prop} (h1 : ∀ x y M, x ≤ 20 → y ≤ 20 → I M → (∀ M', I M' → A x (y + 1) M') → A x y M) (h2 : ∀ x M, x ≤ 20 → I M → C (x + 1) M → A x 21 M) (h3 : ∀ x M, x ≤ 20 → I M → A x 0 M → C x M) (h4 : ∀ M, I M → C 21 M) : ∀ M, I M → C 0 M := by
  have inner : ∀ x, x ≤ 20 → (∀ M, I M → C (x + 1) M) → ∀ M, I M → C x M := by
    intro x hx hn
    have key : ∀ k y, k + y = 21 → ∀ M, I M → A x y M := by
      intro k
      induction k with
      | zero =>
        intro y hy M hM
        have e : y = 21 := by omega
        subst e
        exact h2 x M hx hM (hn M hM)
      | succ k ih =>
        intro y hy M hM
        exact h1 x y M hx (by omega) hM (fun M' hM' => ih (y + 1) (by omega) M' hM')
    intro M hM
    exact h3 x M hx hM (key 21 0 rfl M hM)
  have outer : ∀ k x, k + x = 21 → ∀ M, I M → C x M := by
    intro k
    induction k with
    | zero =>
      intro x hx M hM
      have e : x = 21 := by omega
      subst e
      exact h4 M hM
    | succ k ih =>
      intro x hx
      exact inner x (by omega) (ih (x + 1) (by omega))
  exact outer 21 0 rfl
def ls (f g : Nat → Int32) (z : Int32) : Nat → Int32 × Int32
  | 0 => (z, 0)
  | n + 1 => if (ls f g z n).1 ≤ f n then ls f g z n else (f n, g n)
theorem ls_le {f g : Nat → Int32} {z : Int32} {n : Nat} (h : (ls f g z n).1 ≤ f n) : ls f g z (n + 1) = ls f g z n := if_pos h
theorem ls_gt {f g : Nat → Int32} {z : Int32} {n : Nat} (h : ¬ (ls f g z n).1 ≤ f n) : ls f g z (n + 1) = (f n, g n) := if_neg h
def lg (f g : Nat → Int32) (z : Int32) : Nat → Int32 × Int32
  | 0 => (z, 0)
  | n + 1 => if f n ≤ (lg f g z n).1 then lg f g z n else (f n, g n)
theorem lg_le {f g : Nat → Int32} {z : Int32} {n : Nat} (h : f n ≤ (lg f g z n).1) : lg f g z (n + 1) = lg f g z n := if_pos h
theorem lg_gt {f g : Nat → Int32} {z : Int32} {n : Nat} (h : ¬ f n ≤ (lg f g z n).1) : lg f g z (n + 1) = (f n, g n) := if_neg h
theorem er_pg {P P' : Pg} {w : Nat} (hO : OK0 P) (hw : w < wN P) (he : ∀ j, j < 37 → P' j = P j) : er P' w = er P w := by
  have h10 := hO.1.2
  have h4 := hO.2.1.2
  have ec : cN P' = cN P := cN_congr (he 20 (by omega))
  unfold er
  rw [ec]
  refine congrArg iabs (sm_congr (fun i hi => ?_))
  have es : sw P' i = sw P i := sw_congr (fun j hj => he j (by omega)) (by omega) (by omega)
  rw [es, rw_congr (he (23 + w) (by omega)) (he (27 + w) (by omega))]
theorem ar_pg {P P' : Pg} (hO : OK0 P) (he : ∀ j, j < 37 → P' j = P j) : ar P' = ar P := by
  have h10 := hO.1.2
  have ec : cN P' = cN P := cN_congr (he 20 (by omega))
  unfold ar
  rw [ec]
  exact sm_congr (fun i hi => sw_congr (fun j hj => he j (by omega)) (by omega) (by omega))
theorem L_copyEx {M : Mem} {o o1 : Nat} {P : Pg} (hd : o + 6 ≤ o1 ∨ o1 + 6 ≤ o) (hX : isX M o1 P) (h10 : cN P ≤ 10) (h4 : wN P ≤ 4) : ∃ M', (∀ a, (a < o ∨ o + 6 ≤ a) → M' a = M a) ∧ isX M' o P ∧ ∀ Q : Mem → Prop, Q M' → q_X0_copyFrom o o1 M Q := by
  have := L_copyFrom (Q := fun M' => (∀ a, (a < o ∨ o + 6 ≤ a) → M' a = M a) ∧ isX M' o P) hd hX h10 h4 (fun M' a b => ⟨a, b⟩)
  unfold q_X0_copyFrom at this ⊢
  have t := this _ rfl _ rfl _ rfl _ rfl
  exact ⟨_, t.1, t.2, fun Q hq M1 e1 M2 e2 M3 e3 M4 e4 => by subst e1 e2 e3 e4; exact hq⟩
theorem L_trial {M : Mem} {P : Pg} (hX : isX M 1 P) (hO : OK0 P) : ∃ M', fx M M' ∧ isX M' 7 P ∧ ∀ Q : Mem → Prop, Q M' → q_X0_copyFrom 7 1 M Q := by
  obtain ⟨M', a, b, c⟩ := L_copyEx (o := 7) (by omega) hX hO.1.2 hO.2.1.2
  exact ⟨M', fun z z1 _ _ => a z (by omega), b, c⟩
/-- a page of the reference is as told -/
def isR (N : Mem) (p : Nat) (P : Pg) : Prop := ∀ j, j < 37 → pg N p j = P j
theorem R_error2 {N : Mem} {p w : Nat} {P : Pg} {Q : Int32 → Mem → Prop} (hp : p ≤ 185) (hR : isR N p P) (hO : OK0 P) (hl : N 0 14 = -4) (hw : w < wN P) (hq : Q (er P w) N) : q_X6_errorOn (nI p) (nI w) N Q := by
  have ew : wN (pg N p) = wN P := wN_congr (hR 35 (by omega))
  refine R_errorOn hp (OK0_pg hO hR) hl (by rw [ew]; exact hw) ?_
  rw [er_pg hO hw hR]
  exact hq
theorem R_area2 {N : Mem} {p : Nat} {P : Pg} {Q : Int32 → Mem → Prop} (hp : p ≤ 185) (hR : isR N p P) (hO : OK0 P) (hl : N 0 14 = -4) (hq : Q (ar P) N) : q_X6_areaOn (nI p) N Q := by
  refine R_area hp (OK0_pg hO hR) hl ?_
  rw [ar_pg hO hR]
  exact hq
theorem isR_mU {N : Mem} {p j : Nat} {P : Pg} {v : Int32} (h : isR N p P) : isR (mU N 1 (p + j) v) p (upd P j v) := by
  intro i hi
  rw [pg_mU, up_at, up_at, h i hi]
theorem isR_cp {N : Mem} {p : Nat} : isR (cpM N 0 p 37) p (pg N 0) := by
  intro j hj
  show cpM N 0 p 37 1 (p + j) = N 1 (0 + j)
  rw [cpM_1, if_pos (by omega), show p + j - p = j by omega]
theorem fm_cp {N : Mem} {p : Nat} (h : 111 ≤ p) : fm N (cpM N 0 p 37) := ⟨fun a _ h1 _ => cpM_n h1, fun j _ => by rw [cpM_n (by decide)], fun j hj => by rw [cpM_1, if_neg (by omega)]⟩
theorem fm_mU {N N' : Mem} {j : Nat} {v : Int32} (h : fm N N') (hj : 111 ≤ j) : fm N (mU N' 1 j v) := h.tr ⟨fun a _ h1 _ => mU_n h1, fun j _ => by rw [mU_n (by decide)], fun i hi => by rw [mU_at, if_neg (by omega)]⟩
theorem pl_nI {x : Nat} (h : x ≤ 20) : pl (nI x) := by
  unfold pl
  rw [nI_toInt (by omega)]
  omega
theorem kd_nI {x : Nat} (h : x ≤ 3) : kd (nI x) := by
  unfold kd
  rw [nI_toInt (by omega)]
  omega
theorem sp_nI {x : Nat} (h1 : 1 ≤ x) (h : x ≤ 9) : sp (nI x) := by
  unfold sp
  rw [nI_toInt (by omega)]
  omega
def pol (P : Pg) (a b : Int32) : Pg := upd (upd P 21 a) 22 b
theorem pol_pol (P : Pg) (a b x y : Int32) : pol (pol P a b) x y = pol P x y := by
  funext j
  unfold pol
  simp only [up_at]
  split
  · rfl
  · split
    · rfl
    · rfl
theorem pol_id (P : Pg) : pol P (P 21) (P 22) = P := by
  funext j
  unfold pol
  simp only [up_at]
  split
  · next h => rw [h]
  · split
    · next h => rw [h]
    · rfl
theorem cN_pol (P : Pg) (a b : Int32) : cN (pol P a b) = cN P := cN_congr (by unfold pol; rw [up_n (by decide), up_n (by decide)])
theorem wN_pol (P : Pg) (a b : Int32) : wN (pol P a b) = wN P := wN_congr (by unfold pol; rw [up_n (by decide), up_n (by decide)])
theorem OK0_pol {P : Pg} {a b : Int32} (h : OK0 P) (ha : pl a) (hb : pl b) : OK0 (pol P a b) := OK0_upd (OK0_upd h (by decide) (by decide) (by decide) (fun _ => ha) (fun z => absurd z (by decide)) (fun z => absurd z (by decide))) (by decide) (by decide) (by decide) (fun _ => hb) (fun z => absurd z (by decide)) (fun z => absurd z (by decide))
def bF (P : Pg) (w n : Nat) : Int32 := er (pol P (nI (n / 21)) (nI (n % 21))) w
def bG (n : Nat) : Int32 := 100 * nI (n / 21) + nI (n % 21)
theorem gr_1 {x y : Nat} (hy : y ≤ 20) : (21 * x + y) / 21 = x ∧ (21 * x + y) % 21 = y := by omega
theorem best_X {M : Mem} {P : Pg} {w : Nat} {v2 : Int32} {Q : Int32 → Mem → Prop} (hO : OK0 P) (hw : w < wN P) (hq : ∀ M', fx M M' → ((¬ v2 = 0 → Q (ls (bF P w) bG 1000000 441).1 M') ∧ (v2 = 0 → Q (ls (bF P w) bG 1000000 441).2 M'))) : ∀ M', (fx M M' ∧ ∃ a b, isX M' 7 (pol P a b)) → ∃ n, (p_X5_best Q n).1 (nI w) v2 (ls (bF P w) bG 1000000 (21 * 0)).1 (ls (bF P w) bG 1000000 (21 * 0)).2 (nI 0) M' := by
  have h10 := hO.1.2
  have h4 := hO.2.1.2
  refine grid (I := fun M' => fx M M' ∧ ∃ a b, isX M' 7 (pol P a b)) (A := fun x y M' => ∃ n, (p_X5_best Q n).2.1 (nI w) v2 (ls (bF P w) bG 1000000 (21 * x + y)).1 (ls (bF P w) bG 1000000 (21 * x + y)).2 (nI x) (nI y) M') (C := fun x M' => ∃ n, (p_X5_best Q n).1 (nI w) v2 (ls (bF P w) bG 1000000 (21 * x)).1 (ls (bF P w) bG 1000000 (21 * x)).2 (nI x) M') ?_ ?_ ?_ ?_
  · rintro x y M' hx hy ⟨g1, a, b, g2⟩ nx
    have gX := isX_pole g2 (by rw [wN_pol]; exact h4) (by rw [cN_pol]; exact h10) (nI x) (nI y)
    have e : upd (upd (pol P a b) 21 (nI x)) 22 (nI y) = pol P (nI x) (nI y) := pol_pol P a b (nI x) (nI y)
    rw [e] at gX
    obtain ⟨n, hn⟩ := nx (mU (mU M' 7 7 (nI x)) 7 8 (nI y)) ⟨fun c z1 z2 z3 => by rw [mU_n (by omega), mU_n (by omega), g1 c z1 z2 z3], nI x, nI y, gX⟩
    refine ⟨n + 2, ?_⟩
    show f_X5_best_47 Q (p_X5_best Q (n + 1)) _ _ _ _ _ _ _
    refine br_f (by rw [li 20]; exact nI_nlt (by omega) (by omega)) (L_errorOf gX (OK0_pol hO (pl_nI hx) (pl_nI hy)) (by rw [wN_pol]; exact hw) ?_)
    have ef : bF P w (21 * x + y) = er (pol P (nI x) (nI y)) w := by unfold bF; rw [(gr_1 hy).1, (gr_1 hy).2]
    have eg : bG (21 * x + y) = 100 * nI x + nI y := by unfold bG; rw [(gr_1 hy).1, (gr_1 hy).2]
    rw [show 21 * x + (y + 1) = 21 * x + y + 1 by omega] at hn
    refine br_c (fun hl => ?_) (fun hl => ?_)
    · rw [← ef] at hl
      rw [ls_le hl] at hn
      show (p_X5_best Q n).2.1 _ _ _ _ _ _ _
      rw [nI_1]; exact hn
    · rw [← ef] at hl
      rw [ls_gt hl, ef, eg] at hn
      show (p_X5_best Q n).2.1 _ _ _ _ _ _ _
      rw [nI_1]; exact hn
  · rintro x M' hx - ⟨n, hn⟩
    refine ⟨n + 1, ?_⟩
    show f_X5_best_47 Q (p_X5_best Q n) _ _ _ _ _ _ _
    refine br_t (by decide) ?_
    rw [nI_1]
    exact hn
  · rintro x M' hx - ⟨n, hn⟩
    refine ⟨n + 1, ?_⟩
    show f_X5_best_37 Q (p_X5_best Q n) _ _ _ _ _ _
    exact br_f (by rw [li 20]; exact nI_nlt (by omega) (by omega)) hn
  · rintro M' ⟨g1, -⟩
    refine ⟨1, ?_⟩
    show f_X5_best_37 Q (p_X5_best Q 0) _ _ _ _ _ _
    exact br_t (by decide) (hq M' g1)
theorem best_R {N : Mem} {P : Pg} {w : Nat} {v2 : Int32} {Q : Int32 → Mem → Prop} (hO : OK0 P) (hl0 : N 0 14 = -4) (hw : w < wN P) (hq : ∀ N', fm N N' → ((¬ v2 = 0 → Q (ls (bF P w) bG 1000000 441).1 N') ∧ (v2 = 0 → Q (ls (bF P w) bG 1000000 441).2 N'))) : ∀ N', (fm N N' ∧ ∃ a b, isR N' 185 (pol P a b)) → ∃ n, (p_X6_best Q n).1 (nI w) v2 (ls (bF P w) bG 1000000 (21 * 0)).1 (ls (bF P w) bG 1000000 (21 * 0)).2 (nI 0) N' := by
  have h10 := hO.1.2
  have h4 := hO.2.1.2
  refine grid (I := fun N' => fm N N' ∧ ∃ a b, isR N' 185 (pol P a b)) (A := fun x y M' => ∃ n, (p_X6_best Q n).2.1 (nI w) v2 (ls (bF P w) bG 1000000 (21 * x + y)).1 (ls (bF P w) bG 1000000 (21 * x + y)).2 (nI x) (nI y) M') (C := fun x M' => ∃ n, (p_X6_best Q n).1 (nI w) v2 (ls (bF P w) bG 1000000 (21 * x)).1 (ls (bF P w) bG 1000000 (21 * x)).2 (nI x) M') ?_ ?_ ?_ ?_
  · rintro x y M' hx hy ⟨g1, a, b, g2⟩ nx
    have gX : isR (mU (mU M' 1 (185 + 21) (nI x)) 1 (185 + 22) (nI y)) 185 (pol (pol P a b) (nI x) (nI y)) := isR_mU (isR_mU g2)
    rw [pol_pol] at gX
    have gm : fm N (mU (mU M' 1 (185 + 21) (nI x)) 1 (185 + 22) (nI y)) := fm_mU (fm_mU g1 (by omega)) (by omega)
    obtain ⟨n, hn⟩ := nx _ ⟨gm, nI x, nI y, gX⟩
    refine ⟨n + 3, ?_⟩
    show f_X6_best_47 Q (p_X6_best Q (n + 2)) _ _ _ _ _ _ _
    refine br_f (by rw [li 20]; exact nI_nlt (by omega) (by omega)) (R_error2 (p := 185) (by omega) gX (OK0_pol hO (pl_nI hx) (pl_nI hy)) ((gm.2.1 14 (by omega)).trans hl0) (by rw [wN_pol]; exact hw) ?_)
    have ef : bF P w (21 * x + y) = er (pol P (nI x) (nI y)) w := by unfold bF; rw [(gr_1 hy).1, (gr_1 hy).2]
    have eg : bG (21 * x + y) = 100 * nI x + nI y := by unfold bG; rw [(gr_1 hy).1, (gr_1 hy).2]
    rw [show 21 * x + (y + 1) = 21 * x + y + 1 by omega] at hn
    refine br_c (fun hl => ?_) (fun hl => ?_)
    · show f_X6_best_103 Q (p_X6_best Q (n + 1)) _ _ _ _ _ _ _ _
      refine br_t hl ?_
      rw [← ef] at hl
      rw [ls_le hl] at hn
      show (p_X6_best Q n).2.1 _ _ _ _ _ _ _
      rw [nI_1]; exact hn
    · show f_X6_best_103 Q (p_X6_best Q (n + 1)) _ _ _ _ _ _ _ _
      refine br_f hl ?_
      rw [← ef] at hl
      rw [ls_gt hl, ef, eg] at hn
      show (p_X6_best Q n).2.1 _ _ _ _ _ _ _
      rw [nI_1]; exact hn
  · rintro x M' hx - ⟨n, hn⟩
    refine ⟨n + 1, ?_⟩
    show f_X6_best_47 Q (p_X6_best Q n) _ _ _ _ _ _ _
    refine br_t (by decide) ?_
    rw [nI_1]
    exact hn
  · rintro x M' hx - ⟨n, hn⟩
    refine ⟨n + 1, ?_⟩
    show f_X6_best_37 Q (p_X6_best Q n) _ _ _ _ _ _
    exact br_f (by rw [li 20]; exact nI_nlt (by omega) (by omega)) hn
  · rintro M' ⟨g1, -⟩
    refine ⟨1, ?_⟩
    show f_X6_best_37 Q (p_X6_best Q 0) _ _ _ _ _ _
    exact br_t (by decide) (hq M' g1)
/-- the answer by what was asked -/
theorem ans2 {Q : Int32 → Mem → Prop} {M' : Mem} {v2 a b : Int32} (h : Q (if v2 = 0 then b else a) M') : (¬ v2 = 0 → Q a M') ∧ (v2 = 0 → Q b M') := by
  refine bn_c (fun z => ?_) (fun z => ?_)
  · rw [if_neg z] at h; exact h
  · rw [if_pos z] at h; exact h
theorem o_best {M N : Mem} (h : RR M N) (v1 v2 : Int32) : both (q_X5_best v1 v2 M) (q_X6_best v1 v2 N) := by
  obtain ⟨⟨⟨hO, -⟩, hX⟩, -⟩ := id h
  have h4 := hO.2.1.2
  have h10 := hO.1.2
  have hl : N 0 14 = -4 := h.2.2.2.2.2.2.1
  by_cases hh : ∃ w, w < wN (pg N 0) ∧ v1 = nI w
  · obtain ⟨w, hw, rfl⟩ := hh
    by_cases hv : 0 ≤ v2 ∧ v2 ≤ 1
    · refine both.q h (if v2 = 0 then (ls (bF (pg N 0) w) bG 1000000 441).2 else (ls (bF (pg N 0) w) bG 1000000 441).1) (fun Q q => ?_) (fun Q q => ?_)
      · have fX : ∀ n, _ → e_X5_best (nI w) v2 Q (p_X5_best Q n) M := fun n q2 => X_hasWheel hX hO (fun _ _ _ => br_f ne10 (X_isEither (fun _ => bn_f ne10 q2) (fun z => absurd hv z))) (fun z => absurd ⟨w, hw, rfl⟩ z)
        obtain ⟨M', g1, g2, g3⟩ := L_trial hX hO
        obtain ⟨n, hn⟩ := best_X (Q := Q) (v2 := v2) hO hw (fun N' g => ans2 (q N' g)) M' ⟨g1, _, _, by rw [pol_id]; exact g2⟩
        exact ⟨n, fX n (g3 _ hn)⟩
      · obtain ⟨n, hn⟩ := best_R (Q := Q) (v2 := v2) hO hl hw (fun N' g => ans2 (q N' g)) (cpM N 0 185 37) ⟨fm_cp (by omega), _, _, by rw [pol_id]; exact isR_cp⟩
        exact ⟨n, R_isWheel hO (fun _ _ _ => br_f ne10 (R_inI (lo := 0) (hi := 1) rfl rfl (fun _ => bn_f ne10 (R_copies (f := 0) (t := 185) (by omega) (by omega) (by omega) hn)) (fun z => absurd hv z))) (fun z => absurd ⟨w, hw, rfl⟩ z)⟩
    · exact both.no h (-1) (fun Q q => ⟨0, X_hasWheel hX hO (fun _ _ _ => br_f ne10 (X_isEither (fun z => absurd z hv) (fun _ => bn_t rfl q))) (fun z => absurd ⟨w, hw, rfl⟩ z)⟩) (fun Q q => ⟨0, R_isWheel hO (fun _ _ _ => br_f ne10 (R_inI (lo := 0) (hi := 1) rfl rfl (fun z => absurd z hv) (fun _ => bn_t rfl q))) (fun z => absurd ⟨w, hw, rfl⟩ z)⟩)
  · exact both.no h (-1) (fun Q q => ⟨0, X_hasWheel hX hO (fun w hw e => absurd ⟨w, hw, e⟩ hh) (fun _ => br_t rfl q)⟩) (fun Q q => ⟨0, R_isWheel hO (fun w hw e => absurd ⟨w, hw, e⟩ hh) (fun _ => br_t rfl q)⟩)
