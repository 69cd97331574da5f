/-! out -/
def dl (i k : Nat) : Nat := if i ≤ k then k + 1 else k
def rmP (P : Pg) (i : Nat) : Pg := fun k => if k = 20 then nI (cN P - 1) else if k < 10 then P (dl i k) else if k < 20 then P (10 + dl i (k - 10)) else P k
theorem rmP_lo {P : Pg} {i k : Nat} (h : k < 10) : rmP P i k = P (dl i k) ∧ rmP P i (10 + k) = P (10 + dl i k) := by
  unfold rmP
  rw [if_neg (by omega), if_pos h, if_neg (by omega), if_neg (by omega), if_pos (by omega), show 10 + k - 10 = k by omega]
  exact ⟨rfl, rfl⟩
theorem rmP_hi {P : Pg} {i k : Nat} (h : 21 ≤ k) : rmP P i k = P k := by
  unfold rmP
  rw [if_neg (by omega), if_neg (by omega), if_neg (by omega)]
theorem cN_rmP {P : Pg} {i : Nat} (h10 : cN P ≤ 10) : cN (rmP P i) = cN P - 1 := by
  have : rmP P i 20 = nI (cN P - 1) := if_pos rfl
  unfold cN at *
  rw [this, nI_clamp (by omega)]
theorem dl_lt {i k c : Nat} (hk : k < c - 1) : dl i k < c := by
  unfold dl
  split <;> omega
theorem OK0_rmP {P : Pg} {i : Nat} (h : OK0 P) (hi : i < cN P) : OK0 (rmP P i) := by
  have h10 := h.1.2
  have h4 := h.2.1.2
  have ew : wN (rmP P i) = wN P := wN_congr (rmP_hi (by omega))
  have et : tN (rmP P i) = tN P := by unfold tN; rw [rmP_hi (by omega)]
  unfold OK0
  rw [cN_rmP h10, ew, et, rmP_hi (k := 35) (by omega), rmP_hi (k := 36) (by omega), rmP_hi (k := 21) (by omega), rmP_hi (k := 22) (by omega)]
  refine ⟨⟨if_pos rfl, by omega⟩, h.2.1, h.2.2.1, h.2.2.2.1, fun k hk => ?_, fun k hk => ?_⟩
  · rw [(rmP_lo (by omega)).1, (rmP_lo (by omega)).2]
    exact h.2.2.2.2.1 _ (dl_lt hk)
  · rw [rmP_hi (k := 23 + k) (by omega), rmP_hi (k := 27 + k) (by omega)]; exact h.2.2.2.2.2 k hk
theorem mU_r (M : Mem) (k j b : Nat) (x : Int32) : mU M k j x k b = if b = j then x else M k b := by rw [mU_s, up_at]
theorem L_removeEx {M : Mem} {o : Nat} {P : Pg} {i : Nat} (hX : isX M o P) (hO : OK0 P) (hi : i < cN P) : ∃ M', (∀ a, a ≠ o → a ≠ o + 1 → a ≠ o + 2 → M' a = M a) ∧ isX M' o (rmP P i) ∧ ∀ Q : Mem → Prop, Q M' → q_X0_removeCorner o (nI i) M Q := by
  have h10 := hO.1.2
  have h4 := hO.2.1.2
  obtain ⟨a, b, c, d, e, f, g⟩ := hX
  have e2 : M o 2 = nI (cN P) := a.trans hO.1.1
  have key : ∀ j k, j + k = cN P → i < k → ∀ M', (∀ z, z ≠ o + 1 → z ≠ o + 2 → M' z = M z) → (∀ q, q < cN P → M' (o + 1) q = (if i ≤ q ∧ q + 1 < k then P (q + 1) else P q) ∧ M' (o + 2) q = (if i ≤ q ∧ q + 1 < k then P (10 + (q + 1)) else P (10 + q))) → ∃ M2, (∀ z, z ≠ o + 1 → z ≠ o + 2 → M2 z = M z) ∧ (∀ q, q < cN P → M2 (o + 1) q = (if i ≤ q ∧ q + 1 < cN P then P (q + 1) else P q) ∧ M2 (o + 2) q = (if i ≤ q ∧ q + 1 < cN P then P (10 + (q + 1)) else P (10 + q))) ∧ ∀ Q : Mem → Prop, Q (mU M2 o 2 (nI (cN P - 1))) → p_X0_removeCorner o Q (j + 1) (nI k) M' := by
    intro j
    induction j with
    | zero =>
      intro k hk hik M' g1 g2
      have ek : k = cN P := by omega
      subst ek
      refine ⟨M', g1, g2, fun Q hq => br_t (by rw [g1 o (by omega) (by omega), e2]; exact nI_le (by omega) (by omega)) ?_⟩
      rw [g1 o (by omega) (by omega), e2]
      have e1 : nI (cN P) - 1 = nI (cN P - 1) := by
        rw [show cN P = cN P - 1 + 1 by omega, ← nI_add, show cN P - 1 + 1 - 1 = cN P - 1 by omega]
        show nI (cN P - 1) + 1 - 1 = _
        grind
      rw [e1]
      exact hq
    | succ j ih =>
      intro k hk hik M' g1 g2
      obtain ⟨M2, b1, b2, b3⟩ := ih (k + 1) (by omega) (by omega) (mU (mU M' (o + 1) (k - 1) (M' (o + 1) k)) (o + 2) (k - 1) (M' (o + 2) k)) (fun z z1 z2 => by rw [mU_n z2, mU_n z1, g1 z z1 z2]) (fun q hq => by
        obtain ⟨k1, k2⟩ := g2 k (by omega)
        rw [if_neg (by omega)] at k1 k2
        obtain ⟨q1, q2⟩ := g2 q hq
        refine ⟨?_, ?_⟩
        · rw [mU_n (by omega), mU_r, q1, k1]
          by_cases hqk : q = k - 1
          · rw [if_pos hqk, if_pos (by omega), show q + 1 = k by omega]
          · rw [if_neg hqk]
            by_cases hc : i ≤ q ∧ q + 1 < k
            · rw [if_pos hc, if_pos (by omega)]
            · rw [if_neg hc, if_neg (by omega)]
        · rw [mU_r, mU_n (by omega), q2, k2]
          by_cases hqk : q = k - 1
          · rw [if_pos hqk, if_pos (by omega), show q + 1 = k by omega]
          · rw [if_neg hqk]
            by_cases hc : i ≤ q ∧ q + 1 < k
            · rw [if_pos hc, if_pos (by omega)]
            · rw [if_neg hc, if_neg (by omega)])
      refine ⟨M2, b1, b2, fun Q hq => br_f (by rw [g1 o (by omega) (by omega), e2]; exact nI_ge (by omega) (by omega)) ⟨vp_in_nI (by omega) (by omega), vp_in_nI (by omega) (by omega), ?_⟩⟩
      have e1 : nI k - 1 = nI (k - 1) := by
        rw [show k = k - 1 + 1 by omega, ← nI_add, show k - 1 + 1 - 1 = k - 1 by omega]
        show nI (k - 1) + 1 - 1 = _
        grind
      rw [e1, nI_clamp (by omega)]
      refine L_moveCorner (by omega) ?_
      rw [nI_1]
      exact b3 Q hq
  obtain ⟨M2, b1, b2, b3⟩ := key (cN P - (i + 1)) (i + 1) (by omega) (by omega) M (fun _ _ _ => rfl) (fun q hq => by rw [if_neg (by omega), if_neg (by omega)]; exact f q hq)
  refine ⟨mU M2 o 2 (nI (cN P - 1)), fun z z1 z2 z3 => by rw [mU_n z1, b1 z z2 z3], ?_, fun Q hq => ⟨cN P - (i + 1) + 1, ?_⟩⟩
  · have ew : wN (rmP P i) = wN P := wN_congr (rmP_hi (by omega))
    unfold isX
    rw [cN_rmP h10, ew, rmP_hi (k := 35) (by omega), rmP_hi (k := 21) (by omega), rmP_hi (k := 22) (by omega), rmP_hi (k := 36) (by omega), mU_n (show o + 1 ≠ o by omega), mU_n (show o + 2 ≠ o by omega), mU_n (show o + 3 ≠ o by omega), mU_n (show o + 4 ≠ o by omega), mU_n (show o + 5 ≠ o by omega), b1 (o + 3) (by omega) (by omega), b1 (o + 4) (by omega) (by omega), b1 (o + 5) (by omega) (by omega)]
    refine ⟨?_, ?_, ?_, ?_, ?_, fun k hk => ?_, fun k hk => ?_⟩
    · rw [mU_at, if_pos ⟨rfl, rfl⟩]; exact (if_pos rfl).symm
    · rw [mU_at, if_neg (by omega), b1 o (by omega) (by omega)]; exact b
    · rw [mU_at, if_neg (by omega), b1 o (by omega) (by omega)]; exact c
    · rw [mU_at, if_neg (by omega), b1 o (by omega) (by omega)]; exact d
    · rw [mU_at, if_neg (by omega), b1 o (by omega) (by omega)]; exact e
    · rw [(rmP_lo (k := k) (by omega)).1, (rmP_lo (k := k) (by omega)).2, (b2 k (by omega)).1, (b2 k (by omega)).2]
      by_cases hc : i ≤ k
      · have ed : dl i k = k + 1 := if_pos hc
        rw [ed]
        exact ⟨if_pos ⟨hc, by omega⟩, if_pos ⟨hc, by omega⟩⟩
      · have ed : dl i k = k := if_neg hc
        rw [ed]
        exact ⟨if_neg (by omega), if_neg (by omega)⟩
    · rw [rmP_hi (k := 23 + k) (by omega), rmP_hi (k := 27 + k) (by omega), rmP_hi (k := 31 + k) (by omega)]; exact g k hk
  · have := b3 Q hq
    rw [← nI_add] at this
    exact this
theorem sm_dl {g : Nat → Int32} {i : Nat} : ∀ {n : Nat}, i ≤ n → sm (fun k => g (dl i k)) n = sm (fun e => if e = i then 0 else g e) (n + 1)
  | 0, h => by
    show (0 : Int32) = 0 + (if 0 = i then 0 else g 0)
    rw [if_pos (by omega)]; rfl
  | n + 1, h => by
    by_cases hi : i ≤ n
    · show sm (fun k => g (dl i k)) n + g (dl i n) = sm (fun e => if e = i then 0 else g e) (n + 1) + (if n + 1 = i then 0 else g (n + 1))
      rw [sm_dl hi, if_neg (by omega)]
      have : dl i n = n + 1 := if_pos hi
      rw [this]
    · have e : i = n + 1 := by omega
      show _ = sm (fun e => if e = i then 0 else g e) (n + 1) + (if n + 1 = i then 0 else g (n + 1))
      rw [if_pos e.symm, add_z]
      refine sm_congr (fun k hk => ?_)
      show g (dl i k) = if k = i then 0 else g k
      rw [if_neg (by omega)]
      have : dl i k = k := if_neg (by omega)
      rw [this]
theorem nx_dl {c i k : Nat} (hi : i < c) (hk : k < c - 1) : nx c i (dl i k) = dl i (bh (c - 1) k) := by
  unfold nx dl bh
  repeat' split
  all_goals omega
theorem ar_rmP {P : Pg} {i : Nat} (h10 : cN P ≤ 10) (hi : i < cN P) : ar (rmP P i) = arL P i := by
  unfold ar arL
  rw [cN_rmP h10]
  have := sm_dl (g := fun e => swp P e (nx (cN P) i e)) (i := i) (n := cN P - 1) (by omega)
  rw [show cN P - 1 + 1 = cN P by omega] at this
  rw [← this]
  refine sm_congr (fun k hk => ?_)
  show swp (rmP P i) k (bh (cN (rmP P i)) k) = swp P (dl i k) (nx (cN P) i (dl i k))
  rw [cN_rmP h10, nx_dl hi hk]
  have hb : bh (cN P - 1) k < cN P - 1 := bh_lt (by omega)
  unfold swp
  rw [(rmP_lo (show k < 10 by omega)).1, (rmP_lo (show k < 10 by omega)).2, (rmP_lo (show bh (cN P - 1) k < 10 by omega)).1, (rmP_lo (show bh (cN P - 1) k < 10 by omega)).2, rmP_hi (by omega), rmP_hi (by omega)]
def lo4 (f : Nat → Int32) (z : Int32) : Nat → Int32 × Int32
  | 0 => (z, -4)
  | n + 1 => if f n ≤ (lo4 f z n).1 then lo4 f z n else (f n, nI n)
def oF (P : Pg) (i : Nat) : Int32 := iabs (arL P i)
theorem out_X {M : Mem} {P : Pg} {v z : Int32} {Q : Int32 → Mem → Prop} (hX : isX M 1 P) (hO : OK0 P) (hq : ∀ M', fx M M' → Q (fin2 v (lo4 (oF P) z (cN P))) M') : ∀ j k, j + k = cN P → ∀ M', fx M M' → ∃ m, (p_X5_out Q m).1 v (lo4 (oF P) z k).1 (lo4 (oF P) z k).2 (nI k) M' := by
  have h10 := hO.1.2
  have e2 : M 1 2 = nI (cN P) := hX.1.trans hO.1.1
  intro j
  induction j with
  | zero =>
    intro k hk M' g1
    have e : k = cN P := by omega
    subst e
    refine ⟨2, ?_⟩
    show f_X5_out_23 Q (p_X5_out Q 1) _ _ _ _ _
    exact br_t (by rw [g1 1 (by omega) (by omega) (by omega), e2]; exact nI_le (by omega) (by omega)) (fin2_ok (fun x hx => hx) (hq M' g1))
  | succ j ih =>
    intro k hk M' g1
    have hX' : isX M' 1 P := hX.of (fun i hi => g1 _ (by omega) (by omega) (by omega))
    obtain ⟨M1, a1, a2, a3⟩ := L_trial hX' hO
    obtain ⟨M2, b1, b2, b3⟩ := L_removeEx a2 hO (show k < cN P by omega)
    obtain ⟨m, hm⟩ := ih (k + 1) (by omega) M2 (fun c z1 z2 z3 => by rw [b1 c (by omega) (by omega) (by omega), a1 c z1 z2 z3, g1 c z1 z2 z3])
    refine ⟨m + 2, ?_⟩
    show f_X5_out_23 Q (p_X5_out Q (m + 1)) _ _ _ _ _
    refine br_f (by rw [g1 1 (by omega) (by omega) (by omega), e2]; exact nI_ge (by omega) (by omega)) (a3 _ (b3 _ (L_areaU b2 (OK0_rmP hO (by omega)) ?_)))
    rw [ar_rmP h10 (by omega)]
    refine br_c (fun hl => ?_) (fun hl => ?_)
    · have e : lo4 (oF P) z (k + 1) = lo4 (oF P) z k := if_pos hl
      rw [e] at hm
      show (p_X5_out Q m).1 _ _ _ _ _
      rw [nI_1]; exact hm
    · have e : lo4 (oF P) z (k + 1) = (oF P k, nI k) := if_neg hl
      rw [e] at hm
      show (p_X5_out Q m).1 _ _ _ _ _
      rw [nI_1]; exact hm
theorem out_R {N : Mem} {v z : Int32} {Q : Int32 → Mem → Prop} (hO : OK0 (pg N 0)) (hl0 : N 0 14 = -4) (hq : Q (fin2 v (lo4 (oF (pg N 0)) z (cN (pg N 0)))) N) : ∀ j k, j + k = cN (pg N 0) → ∃ m, (p_X6_out Q m).1 v (lo4 (oF (pg N 0)) z k).1 (lo4 (oF (pg N 0)) z k).2 (nI k) N := by
  have h10 := hO.1.2
  have e2 : N 1 20 = nI (cN (pg N 0)) := hO.1.1
  intro j
  induction j with
  | zero =>
    intro k hk
    have e : k = cN (pg N 0) := by omega
    subst e
    refine ⟨2, ?_⟩
    show f_X6_out_27 Q (p_X6_out Q 1) _ _ _ _ _
    exact br_t (by rw [e2]; exact nI_le (by omega) (by omega)) (fin2_ok (fun x hx => hx) hq)
  | succ j ih =>
    intro k hk
    obtain ⟨m, hm⟩ := ih (k + 1) (by omega)
    refine ⟨m + 3, ?_⟩
    show f_X6_out_27 Q (p_X6_out Q (m + 2)) _ _ _ _ _
    have ep : pg (mU N 0 14 (nI k)) 0 = pg N 0 := pg_mUo _ _ _ _ _ (by decide)
    have eN : mU (mU N 0 14 (nI k)) 0 14 (-4) = N := by
      funext a b
      rw [mU_at]
      by_cases hab : a = 0 ∧ b = 14
      · rw [if_pos hab, hab.1, hab.2, hl0]
      · rw [if_neg hab, mU_at, if_neg hab]
    refine br_f (by rw [e2]; exact nI_ge (by omega) (by omega)) (R_areaOn (p := 0) (l := k) (by omega) (by rw [ep]; exact hO.1.1) (by rw [ep]; exact h10) (by rw [mU_at, if_pos ⟨rfl, rfl⟩]; exact (if_pos (show k < 10 by omega)).symm) (R_amount ?_))
    rw [ep, eN]
    refine br_c (fun hl => ?_) (fun hl => ?_)
    · have e : lo4 (oF (pg N 0)) z (k + 1) = lo4 (oF (pg N 0)) z k := if_pos hl
      rw [e] at hm
      show f_X6_out_73 Q (p_X6_out Q (m + 1)) _ _ _ _ _ _
      refine br_t hl ?_
      show (p_X6_out Q m).1 _ _ _ _ _
      rw [nI_1]; exact hm
    · have e : lo4 (oF (pg N 0)) z (k + 1) = (oF (pg N 0) k, nI k) := if_neg hl
      rw [e] at hm
      show f_X6_out_73 Q (p_X6_out Q (m + 1)) _ _ _ _ _ _
      refine br_f hl ?_
      show (p_X6_out Q m).1 _ _ _ _ _
      rw [nI_1]; exact hm
theorem o_out {M N : Mem} (h : RR M N) (v : Int32) : both (q_X5_out v M) (q_X6_out v N) := by
  obtain ⟨⟨⟨hO, -⟩, hX⟩, -⟩ := id h
  have h4 := hO.2.1.2
  have h10 := hO.1.2
  have hl : N 0 14 = -4 := h.2.2.2.2.2.2.1
  by_cases hv : 0 ≤ v ∧ v ≤ 1
  · refine both.q h (fin2 v (lo4 (oF (pg N 0)) (iabs (ar (pg N 0))) (cN (pg N 0)))) (fun Q q => ?_) (fun Q q => ?_)
    · obtain ⟨m, hm⟩ := out_X (Q := Q) (v := v) hX hO q (cN (pg N 0)) 0 (by omega) M fx.rf
      exact ⟨m, X_isEither (fun _ => bn_f ne10 (L_areaU hX hO hm)) (fun z => absurd hv z)⟩
    · obtain ⟨m, hm⟩ := out_R (Q := Q) (v := v) (z := iabs (ar (pg N 0))) hO hl (q N fm.rf) (cN (pg N 0)) 0 (by omega)
      exact ⟨m, R_inI (lo := 0) (hi := 1) rfl rfl (fun _ => bn_f ne10 (R_area (p := 0) (by omega) hO hl (R_amount hm))) (fun z => absurd hv z)⟩
  · exact both.no h (-1) (fun Q q => ⟨0, X_isEither (fun z => absurd z hv) (fun _ => bn_t rfl q)⟩) (fun Q q => ⟨0, R_inI (lo := 0) (hi := 1) rfl rfl (fun z => absurd z hv) (fun _ => bn_t rfl q)⟩)
