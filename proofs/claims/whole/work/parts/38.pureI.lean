/-! kind, step, place -/
theorem upd_upd (P : Pg) (i : Nat) (a b : Int32) : upd (upd P i a) i b = upd P i b := by
  funext j
  simp only [up_at]
  split
  · rfl
  · rfl
theorem upd_id (P : Pg) (i : Nat) : upd P i (P i) = P := by
  funext j
  rw [up_at]
  split
  · next h => rw [h]
  · rfl
theorem cN_up {P : Pg} {i : Nat} {a : Int32} (h : i ≠ 20) : cN (upd P i a) = cN P := cN_congr (up_n (fun z => h z.symm))
theorem wN_up {P : Pg} {i : Nat} {a : Int32} (h : i ≠ 35) : wN (upd P i a) = wN P := wN_congr (up_n (fun z => h z.symm))
def kF (P : Pg) (w n : Nat) : Int32 := er (upd P (23 + w) (nI n)) w
theorem OK0_kd {P : Pg} {w : Nat} {a : Int32} (h : OK0 P) (hw : w < 4) (ha : kd a) : OK0 (upd P (23 + w) a) := OK0_upd h (by omega) (by omega) (by omega) (fun z => by omega) (fun _ _ => ha) (fun z => by omega)
theorem OK0_sp {P : Pg} {w : Nat} {a : Int32} (h : OK0 P) (hw : w < 4) (ha : sp a) : OK0 (upd P (27 + w) a) := OK0_upd h (by omega) (by omega) (by omega) (fun z => by omega) (fun _ z => by omega) (fun _ _ => ha)
theorem kind_X {M : Mem} {P : Pg} {w : Nat} {v2 : Int32} {Q : Int32 → Mem → Prop} (hO : OK0 P) (hw : w < wN P) (hq : ∀ M', fx M M' → ((¬ v2 = 0 → Q (ls (kF P w) nI 1000000 4).1 M') ∧ (v2 = 0 → Q (ls (kF P w) nI 1000000 4).2 M'))) : ∀ j k, j + k = 4 → ∀ M', fx M M' → (∃ a, isX M' 7 (upd P (23 + w) a)) → ∃ n, (p_X5_kind Q n).1 (nI w) v2 (ls (kF P w) nI 1000000 k).1 (ls (kF P w) nI 1000000 k).2 (nI k) M' := by
  have h10 := hO.1.2
  have h4 := hO.2.1.2
  intro j
  induction j with
  | zero =>
    rintro k hk M' g1 -
    have e : k = 4 := by omega
    subst e
    refine ⟨1, ?_⟩
    show f_X5_kind_37 Q (p_X5_kind Q 0) _ _ _ _ _ _
    exact br_t (by decide) (hq M' g1)
  | succ j ih =>
    rintro k hk M' g1 ⟨a, g2⟩
    have gX := isX_wh g2 (by rw [wN_up (by omega)]; exact h4) (by rw [cN_up (by omega)]; exact h10) (r := 3) (i := w) (nI k) (by omega) (by omega)
    rw [show 11 + 4 * 3 + w = 23 + w by omega, upd_upd] at gX
    obtain ⟨n, hn⟩ := ih (k + 1) (by omega) (mU M' (7 + 3) w (nI k)) (fun c z1 z2 z3 => by rw [mU_n (by omega), g1 c z1 z2 z3]) ⟨_, gX⟩
    refine ⟨n + 2, ?_⟩
    show f_X5_kind_37 Q (p_X5_kind Q (n + 1)) _ _ _ _ _ _
    unfold f_X5_kind_37
    rw [nI_clamp (by omega)]
    refine br_f (by rw [li 4]; exact nI_ge (by omega) (by omega)) ⟨vp_in_nI (by omega) (by omega), L_errorOf gX (OK0_kd hO (by omega) (kd_nI (by omega))) (by rw [wN_up (by omega)]; exact hw) ?_⟩
    refine br_c (fun hl => ?_) (fun hl => ?_)
    · have e := ls_le (f := kF P w) (g := nI) (z := 1000000) (n := k) hl
      rw [e] at hn
      show (p_X5_kind Q n).1 _ _ _ _ _ _
      rw [nI_1]; exact hn
    · have e := ls_gt (f := kF P w) (g := nI) (z := 1000000) (n := k) hl
      rw [e] at hn
      show (p_X5_kind Q n).1 _ _ _ _ _ _
      rw [nI_1]; exact hn
theorem kind_R {N : Mem} {P : Pg} {w : Nat} {v2 : Int32} {Q : Int32 → Mem → Prop} (hO : OK0 P) (hl0 : N 0 14 = -4) (hw : w < wN P) (hq : ∀ M', fm N M' → ((¬ v2 = 0 → Q (ls (kF P w) nI 1000000 4).1 M') ∧ (v2 = 0 → Q (ls (kF P w) nI 1000000 4).2 M'))) : ∀ j k, j + k = 4 → ∀ M', fm N M' → (∃ a, isR M' 185 (upd P (23 + w) a)) → ∃ n, (p_X6_kind Q n).1 (nI w) v2 (ls (kF P w) nI 1000000 k).1 (ls (kF P w) nI 1000000 k).2 (nI k) M' := by
  have h10 := hO.1.2
  have h4 := hO.2.1.2
  intro j
  induction j with
  | zero =>
    rintro k hk M' g1 -
    have e : k = 4 := by omega
    subst e
    refine ⟨1, ?_⟩
    show f_X6_kind_37 Q (p_X6_kind Q 0) _ _ _ _ _ _
    exact br_t (by decide) (hq M' g1)
  | succ j ih =>
    rintro k hk M' g1 ⟨a, g2⟩
    have gX := isR_mU (j := 23 + w) (v := nI k) g2
    rw [upd_upd] at gX
    have gm : fm N (mU M' 1 (185 + (23 + w)) (nI k)) := fm_mU g1 (by omega)
    obtain ⟨n, hn⟩ := ih (k + 1) (by omega) _ gm ⟨_, gX⟩
    refine ⟨n + 3, ?_⟩
    show f_X6_kind_37 Q (p_X6_kind Q (n + 2)) _ _ _ _ _ _
    unfold f_X6_kind_37
    rw [li 208, nI_add, nI_clamp (by omega), show 208 + w = 185 + (23 + w) by omega]
    refine br_f (by rw [li 4]; exact nI_ge (by omega) (by omega)) ⟨vp_in_nI (by omega) (by omega), R_error2 (p := 185) (by omega) gX (OK0_kd hO (by omega) (kd_nI (by omega))) ((gm.2.1 14 (by omega)).trans hl0) (by rw [wN_up (by omega)]; exact hw) ?_⟩
    refine br_c (fun hl => ?_) (fun hl => ?_)
    · have e := ls_le (f := kF P w) (g := nI) (z := 1000000) (n := k) hl
      rw [e] at hn
      show f_X6_kind_78 Q (p_X6_kind Q (n + 1)) _ _ _ _ _ _ _
      refine br_t hl ?_
      show (p_X6_kind Q n).1 _ _ _ _ _ _
      rw [nI_1]; exact hn
    · have e := ls_gt (f := kF P w) (g := nI) (z := 1000000) (n := k) hl
      rw [e] at hn
      show f_X6_kind_78 Q (p_X6_kind Q (n + 1)) _ _ _ _ _ _ _
      refine br_f hl ?_
      show (p_X6_kind Q n).1 _ _ _ _ _ _
      rw [nI_1]; exact hn
theorem o_kind {M N : Mem} (h : RR M N) (v1 v2 : Int32) : both (q_X5_kind v1 v2 M) (q_X6_kind v1 v2 N) := by
  obtain ⟨⟨⟨hO, -⟩, hX⟩, -⟩ := id h
  have h4 := hO.2.1.2
  have h10 := hO.1.2
  have hl : N 0 14 = -4 := h.2.2.2.2.2.2.1
  by_cases hh : ∃ w, w < wN (pg N 0) ∧ v1 = nI w
  · obtain ⟨w, hw, rfl⟩ := hh
    by_cases hv : 0 ≤ v2 ∧ v2 ≤ 1
    · refine both.q h (if v2 = 0 then (ls (kF (pg N 0) w) nI 1000000 4).2 else (ls (kF (pg N 0) w) nI 1000000 4).1) (fun Q q => ?_) (fun Q q => ?_)
      · obtain ⟨M', g1, g2, g3⟩ := L_trial hX hO
        obtain ⟨n, hn⟩ := kind_X (Q := Q) (v2 := v2) hO hw (fun N' g => ans2 (q N' g)) 4 0 rfl M' g1 ⟨_, by rw [upd_id]; exact g2⟩
        exact ⟨n, X_hasWheel hX hO (fun _ _ _ => br_f ne10 (X_isEither (fun _ => bn_f ne10 (g3 _ hn)) (fun z => absurd hv z))) (fun z => absurd ⟨w, hw, rfl⟩ z)⟩
      · obtain ⟨n, hn⟩ := kind_R (Q := Q) (v2 := v2) hO hl hw (fun N' g => ans2 (q N' g)) 4 0 rfl (cpM N 0 185 37) (fm_cp (by omega)) ⟨_, by rw [upd_id]; exact isR_cp⟩
        exact ⟨n, R_isWheel hO (fun _ _ _ => br_f ne10 (R_inI (lo := 0) (hi := 1) rfl rfl (fun _ => bn_f ne10 (R_copies (f := 0) (t := 185) (by omega) (by omega) (by omega) hn)) (fun z => absurd hv z))) (fun z => absurd ⟨w, hw, rfl⟩ z)⟩
    · exact both.no h (-1) (fun Q q => ⟨0, X_hasWheel hX hO (fun _ _ _ => br_f ne10 (X_isEither (fun z => absurd z hv) (fun _ => bn_t rfl q))) (fun z => absurd ⟨w, hw, rfl⟩ z)⟩) (fun Q q => ⟨0, R_isWheel hO (fun _ _ _ => br_f ne10 (R_inI (lo := 0) (hi := 1) rfl rfl (fun z => absurd z hv) (fun _ => bn_t rfl q))) (fun z => absurd ⟨w, hw, rfl⟩ z)⟩)
  · exact both.no h (-1) (fun Q q => ⟨0, X_hasWheel hX hO (fun w hw e => absurd ⟨w, hw, e⟩ hh) (fun _ => br_t rfl q)⟩) (fun Q q => ⟨0, R_isWheel hO (fun w hw e => absurd ⟨w, hw, e⟩ hh) (fun _ => br_t rfl q)⟩)
/-! step: upward with ≤, downward with < -/
def sF (P : Pg) (w n : Nat) : Int32 := er (upd P (27 + w) (nI n)) w
def la (f : Nat → Int32) : Nat → Int32 × Int32
  | 0 => (1000000, 0)
  | n + 1 => if (la f n).1 < f (n + 1) then la f n else (f (n + 1), nI (n + 1))
def ld (f : Nat → Int32) : Nat → Int32 × Int32
  | 0 => (1000000, 0)
  | n + 1 => if (ld f n).1 ≤ f (9 - n) then ld f n else (f (9 - n), nI (9 - n))
theorem la_ex {f : Nat → Int32} (hb : ∀ n, 1 ≤ n → n ≤ 9 → f n < 1000000) : ∀ k, k ≤ 8 → ∃ i, 1 ≤ i ∧ i ≤ k + 1 ∧ la f (k + 1) = (f i, nI i) ∧ (∀ j, 1 ≤ j → j ≤ k + 1 → f i ≤ f j) ∧ ∀ j, i < j → j ≤ k + 1 → f i < f j
  | 0, _ => by
    refine ⟨1, by omega, by omega, if_neg ?_, fun j h1 h2 => ?_, fun j h1 h2 => by omega⟩
    · show ¬ (1000000 : Int32) < f 1
      exact fun z => Int32.lt_irrefl (Int32.lt_trans z (hb 1 (by omega) (by omega)))
    · rw [show j = 1 by omega]; exact Int32.le_refl _
  | k + 1, hk => by
    obtain ⟨i, i1, i2, i3, i4, i5⟩ := la_ex hb k (by omega)
    by_cases hc : f i < f (k + 2)
    · refine ⟨i, i1, by omega, ?_, fun j h1 h2 => ?_, fun j h1 h2 => ?_⟩
      · show (if (la f (k + 1)).1 < f (k + 2) then _ else _) = _
        rw [i3, if_pos hc]
      · rcases Nat.lt_or_ge (k + 1) j with q | q
        · rw [show j = k + 2 by omega]; exact Int32.le_of_lt hc
        · exact i4 j h1 q
      · rcases Nat.lt_or_ge (k + 1) j with q | q
        · rw [show j = k + 2 by omega]; exact hc
        · exact i5 j h1 q
    · refine ⟨k + 2, by omega, by omega, ?_, fun j h1 h2 => ?_, fun j h1 h2 => by omega⟩
      · show (if (la f (k + 1)).1 < f (k + 2) then _ else _) = _
        rw [i3, if_neg hc]
      · rcases Nat.lt_or_ge (k + 1) j with q | q
        · rw [show j = k + 2 by omega]; exact Int32.le_refl _
        · exact Int32.le_trans (Int32.not_lt.mp hc) (i4 j h1 q)
theorem ld_ex {f : Nat → Int32} (hb : ∀ n, 1 ≤ n → n ≤ 9 → f n < 1000000) : ∀ k, k ≤ 8 → ∃ i, 9 - k ≤ i ∧ i ≤ 9 ∧ ld f (k + 1) = (f i, nI i) ∧ (∀ j, 9 - k ≤ j → j ≤ 9 → f i ≤ f j) ∧ ∀ j, i < j → j ≤ 9 → f i < f j
  | 0, _ => by
    refine ⟨9, by omega, by omega, if_neg ?_, fun j h1 h2 => ?_, fun j h1 h2 => by omega⟩
    · exact fun z => absurd (hb 9 (by omega) (by omega)) (Int32.not_lt.mpr z)
    · rw [show j = 9 by omega]; exact Int32.le_refl _
  | k + 1, hk => by
    obtain ⟨i, i1, i2, i3, i4, i5⟩ := ld_ex hb k (by omega)
    by_cases hc : f i ≤ f (9 - (k + 1))
    · refine ⟨i, by omega, by omega, ?_, fun j h1 h2 => ?_, fun j h1 h2 => i5 j h1 h2⟩
      · show (if (ld f (k + 1)).1 ≤ f (9 - (k + 1)) then _ else _) = _
        rw [i3, if_pos hc]
      · rcases Nat.lt_or_ge j (9 - k) with q | q
        · rw [show j = 9 - (k + 1) by omega]; exact hc
        · exact i4 j q h2
    · refine ⟨9 - (k + 1), by omega, by omega, ?_, fun j h1 h2 => ?_, fun j h1 h2 => ?_⟩
      · show (if (ld f (k + 1)).1 ≤ f (9 - (k + 1)) then _ else _) = _
        rw [i3, if_neg hc]
      · rcases Nat.lt_or_ge j (9 - k) with q | q
        · rw [show j = 9 - (k + 1) by omega]; exact Int32.le_refl _
        · exact Int32.le_trans (Int32.le_of_lt (Int32.not_le.mp hc)) (i4 j q h2)
      · exact Int32.lt_of_lt_of_le (Int32.not_le.mp hc) (i4 j (by omega) h2)
theorem la_ld {f : Nat → Int32} (hb : ∀ n, 1 ≤ n → n ≤ 9 → f n < 1000000) : la f 9 = ld f 9 := by
  obtain ⟨i, i1, i2, i3, i4, i5⟩ := la_ex hb 8 (by omega)
  obtain ⟨j, j1, j2, j3, j4, j5⟩ := ld_ex hb 8 (by omega)
  have e : i = j := by
    rcases Nat.lt_trichotomy i j with q | q | q
    · exact absurd (j4 i (by omega) (by omega)) (Int32.not_le.mpr (i5 j q (by omega)))
    · exact q
    · exact absurd (i4 j (by omega) (by omega)) (Int32.not_le.mpr (j5 i q (by omega)))
  rw [i3, j3, e]
theorem sm_bd {f : Nat → Int32} {B : Int} (h0 : 0 ≤ B) (hB : B ≤ 1000000) : ∀ n, n ≤ 10 → (∀ i, i < n → -B ≤ (f i).toInt ∧ (f i).toInt ≤ B) → -(B * n) ≤ (sm f n).toInt ∧ (sm f n).toInt ≤ B * n
  | 0, _, _ => by
    show -(B * ((0 : Nat) : Int)) ≤ (0 : Int32).toInt ∧ (0 : Int32).toInt ≤ B * ((0 : Nat) : Int)
    have e : (0 : Int32).toInt = 0 := by decide
    rw [e]; simp
  | n + 1, hn, h => by
    obtain ⟨a, b⟩ := sm_bd (f := f) h0 hB n (by omega) (fun i hi => h i (by omega))
    obtain ⟨c, d⟩ := h n (by omega)
    have e1 : B * ((n + 1 : Nat) : Int) = B * (n : Int) + B := by push_cast; rw [Int.mul_add, Int.mul_one]
    have e2 : B * (n : Int) ≤ B * 10 := Int.mul_le_mul_of_nonneg_left (by omega) h0
    show -(B * ((n + 1 : Nat) : Int)) ≤ (sm f n + f n).toInt ∧ (sm f n + f n).toInt ≤ _
    rw [b_add (by omega) (by omega), e1]
    omega
theorem iabs_bd {x : Int32} {B : Int} (hB : B ≤ 100000000) (h1 : -B ≤ x.toInt) (h2 : x.toInt ≤ B) : 0 ≤ (iabs x).toInt ∧ (iabs x).toInt ≤ B := by
  have e0 : (0 : Int32).toInt = 0 := by decide
  unfold iabs
  split
  · next h => have := Int32.le_iff_toInt_le.mp h; omega
  · next h =>
    have := Int32.lt_iff_toInt_lt.mp (Int32.not_le.mp h)
    rw [b_sub (by omega) (by omega)]
    omega
theorem er_bd {P : Pg} {w : Nat} (hO : OK0 P) (hw : w < wN P) : er P w < 1000000 := by
  have h10 := hO.1.2
  have hs := (hO.2.2.2.2.2 w hw).2
  have := sm_bd (f := fun i => rw' P w (sw P i) - sw P i) (B := 1600) (by omega) (by omega) (cN P) h10 (fun i hi => by
    have b1 := sw_bd hO hi
    have b2 := rl_bd (k := P (23 + w)) hs 800 (by omega) b1.1 b1.2
    show -1600 ≤ (rl _ _ _ - _).toInt ∧ (rl _ _ _ - _).toInt ≤ 1600
    rw [b_sub (by omega) (by omega)]
    omega)
  have b3 := iabs_bd (B := 16000) (by omega) (x := sm (fun i => rw' P w (sw P i) - sw P i) (cN P)) (by omega) (by omega)
  rw [Int32.lt_iff_toInt_lt]
  have e : (1000000 : Int32).toInt = 1000000 := by decide
  rw [e]
  show (iabs _).toInt < _
  omega
theorem step_X {M : Mem} {P : Pg} {w : Nat} {v2 : Int32} {Q : Int32 → Mem → Prop} (hO : OK0 P) (hw : w < wN P) (hq : ∀ M', fx M M' → ((¬ v2 = 0 → Q (la (sF P w) 9).1 M') ∧ (v2 = 0 → Q (la (sF P w) 9).2 M'))) : ∀ j k, j + k = 9 → ∀ M', fx M M' → (∃ a, isX M' 7 (upd P (27 + w) a)) → ∃ n, (p_X5_step Q n).1 (nI w) v2 (la (sF P w) k).1 (la (sF P w) k).2 (nI (k + 1)) M' := by
  have h10 := hO.1.2
  have h4 := hO.2.1.2
  intro j
  induction j with
  | zero =>
    rintro k hk M' g1 -
    have e : k = 9 := by omega
    subst e
    refine ⟨1, ?_⟩
    show f_X5_step_37 Q (p_X5_step Q 0) _ _ _ _ _ _
    exact br_t (by decide) (hq M' g1)
  | succ j ih =>
    rintro k hk M' g1 ⟨a, g2⟩
    have gX := isX_wh g2 (by rw [wN_up (by omega)]; exact h4) (by rw [cN_up (by omega)]; exact h10) (r := 4) (i := w) (nI (k + 1)) (by omega) (by omega)
    rw [show 11 + 4 * 4 + w = 27 + w by omega, upd_upd] at gX
    obtain ⟨n, hn⟩ := ih (k + 1) (by omega) (mU M' (7 + 4) w (nI (k + 1))) (fun c z1 z2 z3 => by rw [mU_n (by omega), g1 c z1 z2 z3]) ⟨_, gX⟩
    refine ⟨n + 2, ?_⟩
    show f_X5_step_37 Q (p_X5_step Q (n + 1)) _ _ _ _ _ _
    unfold f_X5_step_37
    rw [nI_clamp (by omega)]
    refine br_f (by rw [li 9]; exact nI_nlt (by omega) (by omega)) ⟨vp_in_nI (by omega) (by omega), L_errorOf gX (OK0_sp hO (by omega) (sp_nI (by omega) (by omega))) (by rw [wN_up (by omega)]; exact hw) ?_⟩
    refine br_c (fun hl => ?_) (fun hl => ?_)
    · have e : la (sF P w) (k + 1) = la (sF P w) k := if_pos hl
      rw [e] at hn
      show (p_X5_step Q n).1 _ _ _ _ _ _
      rw [nI_1]; exact hn
    · have e : la (sF P w) (k + 1) = (sF P w (k + 1), nI (k + 1)) := if_neg hl
      rw [e] at hn
      show (p_X5_step Q n).1 _ _ _ _ _ _
      rw [nI_1]; exact hn
theorem nI_m1 {n : Nat} : nI (n + 1) + (-1) = nI n := by
  rw [← nI_add]
  show nI n + 1 + -1 = nI n
  grind
theorem step_R {N : Mem} {P : Pg} {w : Nat} {v2 : Int32} {Q : Int32 → Mem → Prop} (hO : OK0 P) (hl0 : N 0 14 = -4) (hw : w < wN P) (hq : ∀ M', fm N M' → ((¬ v2 = 0 → Q (ld (sF P w) 9).1 M') ∧ (v2 = 0 → Q (ld (sF P w) 9).2 M'))) : ∀ j k, j + k = 9 → ∀ M', fm N M' → (∃ a, isR M' 185 (upd P (27 + w) a)) → ∃ n, (p_X6_step Q n).1 (nI w) v2 (ld (sF P w) k).1 (ld (sF P w) k).2 (nI (9 - k)) M' := by
  have h10 := hO.1.2
  have h4 := hO.2.1.2
  intro j
  induction j with
  | zero =>
    rintro k hk M' g1 -
    have e : k = 9 := by omega
    subst e
    refine ⟨1, ?_⟩
    show f_X6_step_38 Q (p_X6_step Q 0) _ _ _ _ _ _
    exact br_t (by decide) (hq M' g1)
  | succ j ih =>
    rintro k hk M' g1 ⟨a, g2⟩
    have gX := isR_mU (j := 27 + w) (v := nI (9 - k)) g2
    rw [upd_upd] at gX
    have gm : fm N (mU M' 1 (185 + (27 + w)) (nI (9 - k))) := fm_mU g1 (by omega)
    obtain ⟨n, hn⟩ := ih (k + 1) (by omega) _ gm ⟨_, gX⟩
    have e9 : nI (9 - k) + (-1) = nI (9 - (k + 1)) := by rw [show 9 - k = 9 - (k + 1) + 1 by omega]; exact nI_m1
    refine ⟨n + 3, ?_⟩
    show f_X6_step_38 Q (p_X6_step Q (n + 2)) _ _ _ _ _ _
    unfold f_X6_step_38
    rw [li 212, nI_add, nI_clamp (by omega), show 212 + w = 185 + (27 + w) by omega]
    refine br_f (nI_ge (a := 0) (by omega) (by omega)) ⟨vp_in_nI (by omega) (by omega), R_error2 (p := 185) (by omega) gX (OK0_sp hO (by omega) (sp_nI (by omega) (by omega))) ((gm.2.1 14 (by omega)).trans hl0) (by rw [wN_up (by omega)]; exact hw) ?_⟩
    refine br_c (fun hl => ?_) (fun hl => ?_)
    · have e : ld (sF P w) (k + 1) = ld (sF P w) k := if_pos hl
      rw [e] at hn
      show f_X6_step_78 Q (p_X6_step Q (n + 1)) _ _ _ _ _ _ _
      refine br_t hl ?_
      show (p_X6_step Q n).1 _ _ _ _ _ _
      rw [e9]; exact hn
    · have e : ld (sF P w) (k + 1) = (sF P w (9 - k), nI (9 - k)) := if_neg hl
      rw [e] at hn
      show f_X6_step_78 Q (p_X6_step Q (n + 1)) _ _ _ _ _ _ _
      refine br_f hl ?_
      show (p_X6_step Q n).1 _ _ _ _ _ _
      rw [e9]; exact hn
theorem o_step {M N : Mem} (h : RR M N) (v1 v2 : Int32) : both (q_X5_step v1 v2 M) (q_X6_step v1 v2 N) := by
  obtain ⟨⟨⟨hO, -⟩, hX⟩, -⟩ := id h
  have h4 := hO.2.1.2
  have h10 := hO.1.2
  have hl : N 0 14 = -4 := h.2.2.2.2.2.2.1
  by_cases hh : ∃ w, w < wN (pg N 0) ∧ v1 = nI w
  · obtain ⟨w, hw, rfl⟩ := hh
    by_cases hv : 0 ≤ v2 ∧ v2 ≤ 1
    · have hb : ∀ n, 1 ≤ n → n ≤ 9 → sF (pg N 0) w n < 1000000 := fun n n1 n9 => er_bd (OK0_sp hO (by omega) (sp_nI n1 n9)) (by rw [wN_up (by omega)]; exact hw)
      refine both.q h (if v2 = 0 then (la (sF (pg N 0) w) 9).2 else (la (sF (pg N 0) w) 9).1) (fun Q q => ?_) (fun Q q => ?_)
      · obtain ⟨M', g1, g2, g3⟩ := L_trial hX hO
        obtain ⟨n, hn⟩ := step_X (Q := Q) (v2 := v2) hO hw (fun N' g => ans2 (q N' g)) 9 0 rfl M' g1 ⟨_, by rw [upd_id]; exact g2⟩
        exact ⟨n, X_hasWheel hX hO (fun _ _ _ => br_f ne10 (X_isEither (fun _ => bn_f ne10 (g3 _ hn)) (fun z => absurd hv z))) (fun z => absurd ⟨w, hw, rfl⟩ z)⟩
      · rw [la_ld hb] at q
        obtain ⟨n, hn⟩ := step_R (Q := Q) (v2 := v2) hO hl hw (fun N' g => ans2 (q N' g)) 9 0 rfl (cpM N 0 185 37) (fm_cp (by omega)) ⟨_, by rw [upd_id]; exact isR_cp⟩
        exact ⟨n, R_isWheel hO (fun _ _ _ => br_f ne10 (R_inI (lo := 0) (hi := 1) rfl rfl (fun _ => bn_f ne10 (R_copies (f := 0) (t := 185) (by omega) (by omega) (by omega) hn)) (fun z => absurd hv z))) (fun z => absurd ⟨w, hw, rfl⟩ z)⟩
    · exact both.no h (-1) (fun Q q => ⟨0, X_hasWheel hX hO (fun _ _ _ => br_f ne10 (X_isEither (fun z => absurd z hv) (fun _ => bn_t rfl q))) (fun z => absurd ⟨w, hw, rfl⟩ z)⟩) (fun Q q => ⟨0, R_isWheel hO (fun _ _ _ => br_f ne10 (R_inI (lo := 0) (hi := 1) rfl rfl (fun z => absurd z hv) (fun _ => bn_t rfl q))) (fun z => absurd ⟨w, hw, rfl⟩ z)⟩)
  · exact both.no h (-1) (fun Q q => ⟨0, X_hasWheel hX hO (fun w hw e => absurd ⟨w, hw, e⟩ hh) (fun _ => br_t rfl q)⟩) (fun Q q => ⟨0, R_isWheel hO (fun w hw e => absurd ⟨w, hw, e⟩ hh) (fun _ => br_t rfl q)⟩)
