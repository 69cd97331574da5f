/-! what both memories have in common between two calls -/
def ends0 : List Int32 := [0, 5, 11, 16, 20, 22, 26]
def lett0 : List Int32 := [112, 108, 97, 105, 110, 99, 111, 97, 114, 115, 101, 115, 116, 105, 99, 107, 102, 114, 101, 101, 97, 116, 112, 111, 108, 101]
def rTape (M N : Mem) : Prop := ∃ T : Nat, T ≤ 160 ∧ M 16 1 = nI T ∧ N 0 4 = nI T ∧ ∀ i, i < T → M 17 i = N 3 i ∧ 0 ≤ (N 3 i).toInt ∧ (N 3 i).toInt ≤ 127
def rSeen (M N : Mem) : Prop := ∃ S : Nat, S ≤ 6 ∧ M 24 3 = nI S ∧ N 0 19 = nI S ∧ ∀ e, e < S → ∃ n w : Nat, n ≤ 40 ∧ w < 4 ∧ M 25 e = nI n ∧ N 6 (3 * e) = nI n ∧ M 26 e = nI w ∧ N 6 (3 * e + 1) = nI w ∧ M 27 e = N 6 (3 * e + 2)
def rSheet (M N : Mem) (k : Nat) : Prop := (M (43 + 2 * k) 2 = -1 ∧ N 9 k = -4) ∨ ∃ ln z : Nat, ln < 3 ∧ z ≤ 40 ∧ M (43 + 2 * k) 1 = nI ln ∧ N 9 k = nI ln ∧ M (43 + 2 * k) 2 = nI z ∧ N 10 k = nI z ∧ ∀ i, i < 40 → M (44 + 2 * k) i = N 11 (40 * k + i)
def rImg (M N : Mem) (k : Nat) : Prop := (M 14 k = 0 ∧ N 8 k = 0) ∨ (M 14 k = 1 ∧ N 8 k = 1 ∧ OK (pg N (37 * (k + 1))) ∧ isX M (31 + 6 * k) (pg N (37 * (k + 1))))
def RR (M N : Mem) : Prop :=
  (OK (pg N 0) ∧ isX M 1 (pg N 0)) ∧ (rImg M N 0 ∧ rImg M N 1) ∧ rTape M N ∧ (M 0 9 = N 0 5 ∧ M 0 10 = N 0 25) ∧ rSeen M N ∧ (∀ k, k < 4 → rSheet M N k) ∧ N 0 14 = -4 ∧ (∀ j, j < 7 → N 4 j = ends0.getD j 0) ∧ ∀ j, j < 26 → N 5 j = lett0.getD j 0
/-- only what is tried was written -/
def fx (M M' : Mem) : Prop := ∀ a, (a < 7 ∨ 12 < a) → a ≠ 29 → a ≠ 30 → M' a = M a
def fm (N N' : Mem) : Prop := (∀ a, a ≠ 0 → a ≠ 1 → a ≠ 7 → N' a = N a) ∧ (∀ j, (j < 15 ∨ 17 < j) → N' 0 j = N 0 j) ∧ ∀ j, j < 111 → N' 1 j = N 1 j
theorem fx.rf {M : Mem} : fx M M := fun _ _ _ _ => rfl
theorem fm.rf {N : Mem} : fm N N := ⟨fun _ _ _ _ => rfl, fun _ _ => rfl, fun _ _ => rfl⟩
theorem fx.tr {A B C : Mem} (h : fx A B) (h2 : fx B C) : fx A C := fun a x y z => (h2 a x y z).trans (h a x y z)
theorem fm.tr {A B C : Mem} (h : fm A B) (h2 : fm B C) : fm A C := ⟨fun a x y z => (h2.1 a x y z).trans (h.1 a x y z), fun j hj => (h2.2.1 j hj).trans (h.2.1 j hj), fun j hj => (h2.2.2 j hj).trans (h.2.2 j hj)⟩
theorem isX_pg {M : Mem} {o : Nat} {P P' : Pg} (h : isX M o P) (h4 : wN P ≤ 4) (h10 : cN P ≤ 10) (he : ∀ j, j < 37 → P' j = P j) : isX M o P' := by
  obtain ⟨a, b, c, d, e, f, g⟩ := h
  have ec : cN P' = cN P := cN_congr (he 20 (by omega))
  have ew : wN P' = wN P := wN_congr (he 35 (by omega))
  refine ⟨a.trans (he 20 (by omega)).symm, b.trans (he 35 (by omega)).symm, c.trans (he 21 (by omega)).symm, d.trans (he 22 (by omega)).symm, e.trans (he 36 (by omega)).symm, fun i hi => ?_, fun i hi => ?_⟩
  · rw [ec] at hi
    rw [he i (by omega), he (10 + i) (by omega)]
    exact f i hi
  · rw [ew] at hi
    rw [he (23 + i) (by omega), he (27 + i) (by omega), he (31 + i) (by omega)]
    exact g i hi
theorem OK0_pg {P P' : Pg} (h : OK0 P) (he : ∀ j, j < 37 → P' j = P j) : OK0 P' := by
  have ec : cN P' = cN P := cN_congr (he 20 (by omega))
  have ew : wN P' = wN P := wN_congr (he 35 (by omega))
  have et : tN P' = tN P := by unfold tN; rw [he 36 (by omega)]
  obtain ⟨⟨a1, a2⟩, ⟨b1, b2⟩, ⟨c1, c2⟩, ⟨d1, d2⟩, f, g⟩ := h
  refine ⟨⟨?_, ?_⟩, ⟨?_, ?_⟩, ⟨?_, ?_⟩, ⟨?_, ?_⟩, fun i hi => ?_, fun i hi => ?_⟩
  · rw [ec, he 20 (by omega)]; exact a1
  · rw [ec]; exact a2
  · rw [ew, he 35 (by omega)]; exact b1
  · rw [ew]; exact b2
  · rw [et, he 36 (by omega)]; exact c1
  · rw [et]; exact c2
  · rw [he 21 (by omega)]; exact d1
  · rw [he 22 (by omega)]; exact d2
  · rw [ec] at hi; rw [he i (by omega), he (10 + i) (by omega)]; exact f i hi
  · rw [ew] at hi; rw [he (23 + i) (by omega), he (27 + i) (by omega)]; exact g i hi
theorem OK_pg {P P' : Pg} (h : OK P) (he : ∀ j, j < 37 → P' j = P j) : OK P' := by
  have ew : wN P' = wN P := wN_congr (he 35 (by omega))
  have et : tN P' = tN P := by unfold tN; rw [he 36 (by omega)]
  have h4 := h.1.2.1.2
  refine ⟨OK0_pg h.1 he, by rw [et]; exact h.2.1, fun i hi => ?_⟩
  rw [ew] at hi
  rw [et, he (31 + i) (by omega)]
  exact h.2.2 i hi
theorem RR.f {M N M' N' : Mem} (h : RR M N) (hx : fx M M') (hm : fm N N') : RR M' N' := by
  obtain ⟨⟨a1, a2⟩, ⟨b1, b2⟩, c, ⟨d1, d2⟩, e, f, g, i, j⟩ := h
  obtain ⟨m1, m2, m3⟩ := hm
  have h4 := a1.1.2.1.2
  have h10 := a1.1.1.2
  have ep : ∀ p, p + 37 ≤ 111 → ∀ k, k < 37 → pg N' p k = pg N p k := fun p hp k hk => m3 (p + k) (by omega)
  have im : ∀ k, k < 2 → rImg M N k → rImg M' N' k := by
    intro k hk hr
    unfold rImg at hr ⊢
    rw [hx 14 (by omega) (by omega) (by omega), m1 8 (by decide) (by decide) (by decide)]
    rcases hr with q | ⟨q1, q2, q3, q4⟩
    · exact Or.inl q
    · refine Or.inr ⟨q1, q2, OK_pg q3 (ep _ (by omega)), ?_⟩
      exact (isX_pg q4 q3.1.2.1.2 q3.1.1.2 (ep _ (by omega))).of (fun i hi => hx _ (by omega) (by omega) (by omega))
  refine ⟨⟨OK_pg a1 (ep 0 (by omega)), (isX_pg a2 h4 h10 (ep 0 (by omega))).of (fun i hi => hx _ (by omega) (by omega) (by omega))⟩, ⟨im 0 (by omega) b1, im 1 (by omega) b2⟩, ?_, ⟨?_, ?_⟩, ?_, fun k hk => ?_, ?_, ?_, ?_⟩
  · unfold rTape at c ⊢
    rw [hx 16 (by omega) (by omega) (by omega), hx 17 (by omega) (by omega) (by omega), m2 4 (by omega), m1 3 (by decide) (by decide) (by decide)]
    exact c
  · rw [hx 0 (by omega) (by omega) (by omega), m2 5 (by omega)]; exact d1
  · rw [hx 0 (by omega) (by omega) (by omega), m2 25 (by omega)]; exact d2
  · unfold rSeen at e ⊢
    rw [hx 24 (by omega) (by omega) (by omega), hx 25 (by omega) (by omega) (by omega), hx 26 (by omega) (by omega) (by omega), hx 27 (by omega) (by omega) (by omega), m2 19 (by omega), m1 6 (by decide) (by decide) (by decide)]
    exact e
  · have := f k hk
    unfold rSheet at this ⊢
    rw [hx (43 + 2 * k) (by omega) (by omega) (by omega), hx (44 + 2 * k) (by omega) (by omega) (by omega), m1 9 (by decide) (by decide) (by decide), m1 10 (by decide) (by decide) (by decide), m1 11 (by decide) (by decide) (by decide)]
    exact this
  · rw [m2 14 (by omega)]; exact g
  · rw [m1 4 (by decide) (by decide) (by decide)]; exact i
  · rw [m1 5 (by decide) (by decide) (by decide)]; exact j
def both (f g : (Int32 → Mem → Prop) → Prop) : Prop := ∃ (ans : Int32) (A B : Mem → Prop), f (fun r M' => r = ans ∧ A M') ∧ g (fun r N' => r = ans ∧ B N') ∧ ∀ M' N', A M' → B N' → RR M' N'
def bothL (f g : (Int64 → Mem → Prop) → Prop) : Prop := ∃ (ans : Int64) (A B : Mem → Prop), f (fun r M' => r = ans ∧ A M') ∧ g (fun r N' => r = ans ∧ B N') ∧ ∀ M' N', A M' → B N' → RR M' N'
/-- an answer, nothing but what is tried is written -/
theorem both.q {M N : Mem} {f g : (Int32 → Mem → Prop) → Prop} (h : RR M N) (ans : Int32) (hf : ∀ Q : Int32 → Mem → Prop, (∀ M', fx M M' → Q ans M') → f Q) (hg : ∀ Q : Int32 → Mem → Prop, (∀ N', fm N N' → Q ans N') → g Q) : both f g :=
  ⟨ans, fx M, fm N, hf _ (fun _ h => ⟨rfl, h⟩), hg _ (fun _ h => ⟨rfl, h⟩), fun _ _ a b => h.f a b⟩
theorem bothL.q {M N : Mem} {f g : (Int64 → Mem → Prop) → Prop} (h : RR M N) (ans : Int64) (hf : ∀ Q : Int64 → Mem → Prop, (∀ M', fx M M' → Q ans M') → f Q) (hg : ∀ Q : Int64 → Mem → Prop, (∀ N', fm N N' → Q ans N') → g Q) : bothL f g :=
  ⟨ans, fx M, fm N, hf _ (fun _ h => ⟨rfl, h⟩), hg _ (fun _ h => ⟨rfl, h⟩), fun _ _ a b => h.f a b⟩
/-- an answer and one new memory each -/
theorem both.e {f g : (Int32 → Mem → Prop) → Prop} (ans : Int32) (M' N' : Mem) (hf : ∀ Q : Int32 → Mem → Prop, Q ans M' → f Q) (hg : ∀ Q : Int32 → Mem → Prop, Q ans N' → g Q) (h : RR M' N') : both f g :=
  ⟨ans, fun m => m = M', fun n => n = N', hf _ ⟨rfl, rfl⟩, hg _ ⟨rfl, rfl⟩, fun _ _ a b => by rw [a, b]; exact h⟩
/-! what numbers may be -/
theorem X_within {v lo hi : Int32} {M : Mem} {Q : Int32 → Mem → Prop} (h1 : lo ≤ v ∧ v ≤ hi → Q 1 M) (h0 : ¬ (lo ≤ v ∧ v ≤ hi) → Q 0 M) : q_X5_within v lo hi M Q := by
  unfold q_X5_within
  refine br_c (fun h => h0 (fun q => Int32.not_le.mpr h q.1)) (fun h => br_c (fun h2 => h0 (fun q => Int32.not_le.mpr h2 q.2)) (fun h2 => h1 ⟨Int32.not_lt.mp h, Int32.not_lt.mp h2⟩))
theorem nb1 : narrow .boolean (.int (1 : Int32)) = .int 1 := by decide
theorem nb0 : narrow .boolean (.int (0 : Int32)) = .int 0 := by decide
theorem ne10 : ¬ (1 : Int32) = 0 := by decide
theorem X_isKind {v : Int32} {M : Mem} {Q : Int32 → Mem → Prop} (h1 : 0 ≤ v ∧ v ≤ 3 → Q 1 M) (h0 : ¬ (0 ≤ v ∧ v ≤ 3) → Q 0 M) : q_X5_isKind v M Q := X_within (fun h => ⟨nb1, h1 h⟩) (fun h => ⟨nb0, h0 h⟩)
theorem X_isStep {v : Int32} {M : Mem} {Q : Int32 → Mem → Prop} (h1 : 1 ≤ v ∧ v ≤ 9 → Q 1 M) (h0 : ¬ (1 ≤ v ∧ v ≤ 9) → Q 0 M) : q_X5_isStep v M Q := X_within (fun h => ⟨nb1, h1 h⟩) (fun h => ⟨nb0, h0 h⟩)
theorem X_isEither {v : Int32} {M : Mem} {Q : Int32 → Mem → Prop} (h1 : 0 ≤ v ∧ v ≤ 1 → Q 1 M) (h0 : ¬ (0 ≤ v ∧ v ≤ 1) → Q 0 M) : q_X5_isEither v M Q := X_within (fun h => ⟨nb1, h1 h⟩) (fun h => ⟨nb0, h0 h⟩)
theorem X_isTold {v : Int32} {M : Mem} {Q : Int32 → Mem → Prop} (h1 : 10000000 ≤ v ∧ v ≤ 30000000 → Q 1 M) (h0 : ¬ (10000000 ≤ v ∧ v ≤ 30000000) → Q 0 M) : q_X5_isTold v M Q := X_within (fun h => ⟨nb1, h1 h⟩) (fun h => ⟨nb0, h0 h⟩)
theorem X_isSheet {v : Int32} {M : Mem} {Q : Int32 → Mem → Prop} (h1 : 0 ≤ v ∧ v ≤ 3 → Q 1 M) (h0 : ¬ (0 ≤ v ∧ v ≤ 3) → Q 0 M) : q_X5_isSheet v M Q := X_within (fun h => ⟨nb1, h1 h⟩) (fun h => ⟨nb0, h0 h⟩)
theorem X_isLane {v : Int32} {M : Mem} {Q : Int32 → Mem → Prop} (h1 : 0 ≤ v ∧ v ≤ 2 → Q 1 M) (h0 : ¬ (0 ≤ v ∧ v ≤ 2) → Q 0 M) : q_X5_isLane v M Q := X_within (fun h => ⟨nb1, h1 h⟩) (fun h => ⟨nb0, h0 h⟩)
def plc (x y : Int32) : Prop := (0 ≤ x ∧ x ≤ 20) ∧ (0 ≤ y ∧ y ≤ 20)
theorem X_isPlace {x y : Int32} {M : Mem} {Q : Int32 → Mem → Prop} (h1 : plc x y → Q 1 M) (h0 : ¬ plc x y → Q 0 M) : q_X5_isPlace x y M Q :=
  X_within (fun h => br_f ne10 (X_within (fun h2 => br_f ne10 (h1 ⟨h, h2⟩)) (fun h2 => br_t rfl (h0 (fun q => h2 q.2))))) (fun h => br_t rfl (h0 (fun q => h q.1)))
theorem R_isPoint {x y : Int32} {N : Mem} {Q : Int32 → Mem → Prop} (h1 : plc x y → Q 1 N) (h0 : ¬ plc x y → Q 0 N) : q_X6_isPoint x y N Q :=
  R_inI (lo := 0) (hi := 20) rfl rfl (fun h => br_f ne10 (R_inI (lo := 0) (hi := 20) rfl rfl (fun h2 => br_f ne10 (h1 ⟨h, h2⟩)) (fun h2 => br_t rfl (h0 (fun q => h2 q.2))))) (fun h => br_t rfl (h0 (fun q => h q.1)))
/-- v is a number below n -/
theorem in_nI {v : Int32} {n : Nat} (hn : n < 2 ^ 31) : (0 ≤ v ∧ v ≤ nI n - 1) ↔ ∃ i, i < n ∧ v = nI i := by
  constructor
  · rintro ⟨h1, h2⟩
    obtain ⟨i, hi, rfl⟩ := nI_of (Int32.not_lt.mpr h1)
    refine ⟨i, ?_, rfl⟩
    cases n with
    | zero =>
      have e : nI 0 - 1 = (-1 : Int32) := by decide
      rw [e] at h2
      have := Int32.le_iff_toInt_le.mp h2
      rw [nI_toInt hi] at this
      have e2 : (-1 : Int32).toInt = -1 := by decide
      omega
    | succ n =>
      rw [nI_pred, nI_leI hi (by omega)] at h2
      omega
  · rintro ⟨i, hi, rfl⟩
    refine ⟨nI_pos' (by omega), ?_⟩
    cases n with
    | zero => omega
    | succ n => rw [nI_pred]; exact nI_le (by omega) (by omega)
theorem in_nI2 {v : Int32} {n : Nat} (hn : n < 2 ^ 31) : (0 ≤ v ∧ v ≤ nI n) ↔ ∃ i, i ≤ n ∧ v = nI i := by
  constructor
  · rintro ⟨h1, h2⟩
    obtain ⟨i, hi, rfl⟩ := nI_of (Int32.not_lt.mpr h1)
    exact ⟨i, (nI_leI hi hn).mp h2, rfl⟩
  · rintro ⟨i, hi, rfl⟩
    exact ⟨nI_pos' (by omega), nI_le hi hn⟩
theorem X_hasWheel {M : Mem} {P : Pg} {v : Int32} {Q : Int32 → Mem → Prop} (hX : isX M 1 P) (hO : OK0 P) (h1 : ∀ w, w < wN P → v = nI w → Q 1 M) (h0 : (¬ ∃ w, w < wN P ∧ v = nI w) → Q 0 M) : q_X5_hasWheel v M Q := by
  have h4 := hO.2.1.2
  unfold q_X5_hasWheel
  rw [hX.2.1, hO.2.1.1]
  refine X_within (fun h => ⟨nb1, ?_⟩) (fun h => ⟨nb0, h0 (fun q => h ((in_nI (by omega)).mpr q))⟩)
  obtain ⟨w, hw, e⟩ := (in_nI (by omega)).mp h
  exact h1 w hw e
theorem X_hasCorner {M : Mem} {P : Pg} {v : Int32} {Q : Int32 → Mem → Prop} (hX : isX M 1 P) (hO : OK0 P) (h1 : ∀ w, w < cN P → v = nI w → Q 1 M) (h0 : (¬ ∃ w, w < cN P ∧ v = nI w) → Q 0 M) : q_X5_hasCorner v M Q := by
  have h4 := hO.1.2
  unfold q_X5_hasCorner
  rw [hX.1, hO.1.1]
  refine X_within (fun h => ⟨nb1, ?_⟩) (fun h => ⟨nb0, h0 (fun q => h ((in_nI (by omega)).mpr q))⟩)
  obtain ⟨w, hw, e⟩ := (in_nI (by omega)).mp h
  exact h1 w hw e
theorem R_isWheel {N : Mem} {v : Int32} {Q : Int32 → Mem → Prop} (hO : OK0 (pg N 0)) (h1 : ∀ w, w < wN (pg N 0) → v = nI w → Q 1 N) (h0 : (¬ ∃ w, w < wN (pg N 0) ∧ v = nI w) → Q 0 N) : q_X6_isWheel v N Q := by
  have h4 := hO.2.1.2
  have e : N 1 35 = nI (wN (pg N 0)) := hO.2.1.1
  unfold q_X6_isWheel
  rw [e]
  refine R_inI (lo := 0) rfl rfl (fun h => ⟨nb1, ?_⟩) (fun h => ⟨nb0, h0 (fun q => h ((in_nI (by omega)).mpr q))⟩)
  obtain ⟨w, hw, e⟩ := (in_nI (by omega)).mp h
  exact h1 w hw e
theorem R_isCorner {N : Mem} {v : Int32} {Q : Int32 → Mem → Prop} (hO : OK0 (pg N 0)) (h1 : ∀ w, w < cN (pg N 0) → v = nI w → Q 1 N) (h0 : (¬ ∃ w, w < cN (pg N 0) ∧ v = nI w) → Q 0 N) : q_X6_isCorner v N Q := by
  have h4 := hO.1.2
  have e : N 1 20 = nI (cN (pg N 0)) := hO.1.1
  unfold q_X6_isCorner
  rw [e]
  refine R_inI (lo := 0) rfl rfl (fun h => ⟨nb1, ?_⟩) (fun h => ⟨nb0, h0 (fun q => h ((in_nI (by omega)).mpr q))⟩)
  obtain ⟨w, hw, e⟩ := (in_nI (by omega)).mp h
  exact h1 w hw e
theorem R_isReading {v : Int32} {N : Mem} {Q : Int32 → Mem → Prop} (h1 : 10000000 ≤ v ∧ v ≤ 30000000 → Q 1 N) (h0 : ¬ (10000000 ≤ v ∧ v ≤ 30000000) → Q 0 N) : q_X6_isReading v N Q := R_inI (lo := 10000000) (hi := 30000000) (by decide) (by decide) (fun h => ⟨nb1, h1 h⟩) (fun h => ⟨nb0, h0 h⟩)
theorem R_isLong {v : Int32} {N : Mem} {Q : Int32 → Mem → Prop} (h1 : 0 ≤ v ∧ v ≤ 200 → Q 1 N) (h0 : ¬ (0 ≤ v ∧ v ≤ 200) → Q 0 N) : q_X6_isLong v N Q := R_inI (lo := 0) (hi := 200) (by decide) (by decide) (fun h => ⟨nb1, h1 h⟩) (fun h => ⟨nb0, h0 h⟩)
