/-! single writes -/
theorem up_s (P : Pg) (j : Nat) (v : Int32) : upd P j v j = v := if_pos rfl
theorem up_n {P : Pg} {j k : Nat} {v : Int32} (h : k ≠ j) : upd P j v k = P k := if_neg h
theorem up_at (P : Pg) (j k : Nat) (v : Int32) : upd P j v k = if k = j then v else P k := rfl
theorem pg_mU (N : Mem) (p j : Nat) (v : Int32) : pg (mU N 1 (p + j) v) p = upd (pg N p) j v := by
  funext k
  unfold pg
  rw [mU_at, up_at]
  by_cases h : k = j
  · subst h
    rw [if_pos ⟨rfl, rfl⟩, if_pos rfl]
  · rw [if_neg (fun q => h (by omega)), if_neg h]
theorem pg_mU0 (N : Mem) (j : Nat) (v : Int32) : pg (mU N 1 j v) 0 = upd (pg N 0) j v := by
  have := pg_mU N 0 j v
  rw [Nat.zero_add] at this
  exact this
theorem pg_mUo (N : Mem) (p a j : Nat) (v : Int32) (h : a ≠ 1) : pg (mU N a j v) p = pg N p := by
  funext k
  unfold pg
  rw [mU_n (fun q => h q.symm)]
theorem OK0_upd {P : Pg} {j : Nat} {v : Int32} (h : OK0 P) (h20 : j ≠ 20) (h35 : j ≠ 35) (h36 : j ≠ 36) (hp : j < 23 → pl v) (hk : 23 ≤ j → j < 27 → kd v) (hs : 27 ≤ j → j < 31 → sp v) : OK0 (upd P j v) := by
  have ec : cN (upd P j v) = cN P := cN_congr (up_n (fun q => h20 q.symm))
  have ew : wN (upd P j v) = wN P := wN_congr (up_n (fun q => h35 q.symm))
  have et : tN (upd P j v) = tN P := by unfold tN; rw [up_n (fun q => h36 q.symm)]
  obtain ⟨⟨a1, a2⟩, ⟨b1, b2⟩, ⟨c1, c2⟩, ⟨d1, d2⟩, f, g⟩ := h
  have pp : ∀ i, i < 23 → pl (P i) → pl (upd P j v i) := by
    intro i hi hpi
    rw [up_at]
    by_cases q : i = j
    · rw [if_pos q]; exact hp (by omega)
    · rw [if_neg q]; exact hpi
  refine ⟨⟨?_, ?_⟩, ⟨?_, ?_⟩, ⟨?_, ?_⟩, ⟨pp 21 (by omega) d1, pp 22 (by omega) d2⟩, fun i hi => ?_, fun i hi => ?_⟩
  · rw [ec, up_n (fun q => h20 q.symm)]; exact a1
  · rw [ec]; exact a2
  · rw [ew, up_n (fun q => h35 q.symm)]; exact b1
  · rw [ew]; exact b2
  · rw [et, up_n (fun q => h36 q.symm)]; exact c1
  · rw [et]; exact c2
  · rw [ec] at hi
    exact ⟨pp i (by omega) (f i hi).1, pp (10 + i) (by omega) (f i hi).2⟩
  · rw [ew] at hi
    refine ⟨?_, ?_⟩
    · rw [up_at]
      by_cases q : 23 + i = j
      · rw [if_pos q]; exact hk (by omega) (by omega)
      · rw [if_neg q]; exact (g i hi).1
    · rw [up_at]
      by_cases q : 27 + i = j
      · rw [if_pos q]; exact hs (by omega) (by omega)
      · rw [if_neg q]; exact (g i hi).2
theorem OK_upd {P : Pg} {j : Nat} {v : Int32} (h : OK P) (h20 : j ≠ 20) (h35 : j ≠ 35) (h36 : j ≠ 36) (hp : j < 23 → pl v) (hk : 23 ≤ j → j < 27 → kd v) (hs : 27 ≤ j → j < 31 → sp v) (hr : 31 ≤ j → j < 35 → rd (tN P) v) : OK (upd P j v) := by
  have ew : wN (upd P j v) = wN P := wN_congr (up_n (fun q => h35 q.symm))
  have et : tN (upd P j v) = tN P := by unfold tN; rw [up_n (fun q => h36 q.symm)]
  have h4 := h.1.2.1.2
  refine ⟨OK0_upd h.1 h20 h35 h36 hp hk hs, by rw [et]; exact h.2.1, fun i hi => ?_⟩
  rw [ew] at hi
  rw [et, up_at]
  by_cases q : 31 + i = j
  · rw [if_pos q]; exact hr (by omega) (by omega)
  · rw [if_neg q]; exact h.2.2 i hi
theorem isX_pole {M : Mem} {o : Nat} {P : Pg} (h : isX M o P) (h4 : wN P ≤ 4) (h10 : cN P ≤ 10) (x y : Int32) : isX (mU (mU M o 7 x) o 8 y) o (upd (upd P 21 x) 22 y) := by
  obtain ⟨a, b, c, d, e, f, g⟩ := h
  have ec : cN (upd (upd P 21 x) 22 y) = cN P := rfl
  have ew : wN (upd (upd P 21 x) 22 y) = wN P := rfl
  refine ⟨?_, ?_, ?_, ?_, ?_, fun i hi => ?_, fun i hi => ?_⟩
  · simp only [mU_at, up_at]; simpa using a
  · simp only [mU_at, up_at]; simpa using b
  · simp only [mU_at, up_at]; simp
  · simp only [mU_at, up_at]; simp
  · simp only [mU_at, up_at]; simpa using e
  · rw [ec] at hi
    rw [mU_n (by omega), mU_n (by omega), mU_n (by omega), mU_n (by omega), up_n (by omega), up_n (by omega), up_n (by omega), up_n (by omega)]
    exact f i hi
  · rw [ew] at hi
    rw [mU_n (by omega), mU_n (by omega), mU_n (by omega), mU_n (by omega), mU_n (by omega), mU_n (by omega), up_n (by omega), up_n (by omega), up_n (by omega), up_n (by omega), up_n (by omega), up_n (by omega)]
    exact g i hi
theorem isX_wh {M : Mem} {o : Nat} {P : Pg} (h : isX M o P) (h4 : wN P ≤ 4) (h10 : cN P ≤ 10) {r i : Nat} (v : Int32) (hr : 3 ≤ r ∧ r ≤ 5) (hi : i < 4) : isX (mU M (o + r) i v) o (upd P (11 + 4 * r + i) v) := by
  obtain ⟨a, b, c, d, e, f, g⟩ := h
  have ec : cN (upd P (11 + 4 * r + i) v) = cN P := cN_congr (up_n (by omega))
  have ew : wN (upd P (11 + 4 * r + i) v) = wN P := wN_congr (up_n (by omega))
  refine ⟨?_, ?_, ?_, ?_, ?_, fun k hk => ?_, fun k hk => ?_⟩
  · rw [mU_n (by omega), up_n (by omega)]; exact a
  · rw [mU_n (by omega), up_n (by omega)]; exact b
  · rw [mU_n (by omega), up_n (by omega)]; exact c
  · rw [mU_n (by omega), up_n (by omega)]; exact d
  · rw [mU_n (by omega), up_n (by omega)]; exact e
  · rw [ec] at hk
    rw [mU_n (by omega), mU_n (by omega), up_n (by omega), up_n (by omega)]
    exact f k hk
  · rw [ew] at hk
    have key : ∀ q, 3 ≤ q ∧ q ≤ 5 → M (o + q) k = P (11 + 4 * q + k) → mU M (o + r) i v (o + q) k = upd P (11 + 4 * r + i) v (11 + 4 * q + k) := by
      intro q hq hM
      rw [mU_at, up_at]
      by_cases hz : o + q = o + r ∧ k = i
      · rw [if_pos hz, if_pos (by omega)]
      · rw [if_neg hz, if_neg (by omega)]
        exact hM
    exact ⟨key 3 (by omega) (g k hk).1, key 4 (by omega) (g k hk).2.1, key 5 (by omega) (g k hk).2.2⟩
theorem isX_corner {M : Mem} {o : Nat} {P : Pg} (h : isX M o P) (h4 : wN P ≤ 4) (h10 : cN P ≤ 10) {i : Nat} (x y : Int32) (hi : i < 10) : isX (mU (mU M (o + 1) i x) (o + 2) i y) o (upd (upd P i x) (10 + i) y) := by
  obtain ⟨a, b, c, d, e, f, g⟩ := h
  have ec : cN (upd (upd P i x) (10 + i) y) = cN P := cN_congr (by rw [up_n (by omega), up_n (by omega)])
  have ew : wN (upd (upd P i x) (10 + i) y) = wN P := wN_congr (by rw [up_n (by omega), up_n (by omega)])
  refine ⟨?_, ?_, ?_, ?_, ?_, fun k hk => ⟨?_, ?_⟩, fun k hk => ?_⟩
  · rw [mU_n (by omega), mU_n (by omega), up_n (by omega), up_n (by omega)]; exact a
  · rw [mU_n (by omega), mU_n (by omega), up_n (by omega), up_n (by omega)]; exact b
  · rw [mU_n (by omega), mU_n (by omega), up_n (by omega), up_n (by omega)]; exact c
  · rw [mU_n (by omega), mU_n (by omega), up_n (by omega), up_n (by omega)]; exact d
  · rw [mU_n (by omega), mU_n (by omega), up_n (by omega), up_n (by omega)]; exact e
  · rw [ec] at hk
    rw [mU_n (by omega), mU_at, up_n (by omega), up_at]
    by_cases hz : k = i
    · rw [if_pos ⟨rfl, hz⟩, if_pos hz]
    · rw [if_neg (fun q => hz q.2), if_neg hz]; exact (f k hk).1
  · rw [ec] at hk
    rw [mU_at, up_at]
    by_cases hz : k = i
    · rw [if_pos ⟨rfl, hz⟩, if_pos (by omega)]
    · rw [if_neg (fun q => hz q.2), if_neg (by omega), mU_n (by omega), up_n (by omega)]; exact (f k hk).2
  · rw [ew] at hk
    rw [mU_n (by omega), mU_n (by omega), mU_n (by omega), mU_n (by omega), mU_n (by omega), mU_n (by omega), up_n (by omega), up_n (by omega), up_n (by omega), up_n (by omega), up_n (by omega), up_n (by omega)]
    exact g k hk
/-- fewer corners, fewer wheels -/
theorem cN_nI {P : Pg} {n : Nat} (h : n < 2 ^ 31) : cN (upd P 20 (nI n)) = n := by unfold cN; rw [up_s, nI_clamp h]
theorem wN_nI {P : Pg} {n : Nat} (h : n < 2 ^ 31) : wN (upd P 35 (nI n)) = n := by unfold wN; rw [up_s, nI_clamp h]
theorem isX_drop {M : Mem} {o n : Nat} {P : Pg} (h : isX M o P) (h10 : cN P ≤ 10) (h4 : wN P ≤ 4) (hn : n ≤ cN P) : isX (mU M o 2 (nI n)) o (upd P 20 (nI n)) := by
  obtain ⟨a, b, c, d, e, f, g⟩ := h
  have ec : cN (upd P 20 (nI n)) = n := cN_nI (by omega)
  have ew : wN (upd P 20 (nI n)) = wN P := rfl
  refine ⟨?_, ?_, ?_, ?_, ?_, fun k hk => ?_, fun k hk => ?_⟩
  · simp only [mU_at, up_at]; simp
  · simp only [mU_at, up_at]; simpa using b
  · simp only [mU_at, up_at]; simpa using c
  · simp only [mU_at, up_at]; simpa using d
  · simp only [mU_at, up_at]; simpa using e
  · rw [ec] at hk
    rw [mU_n (by omega), mU_n (by omega), up_n (by omega), up_n (by omega)]
    exact f k (by omega)
  · rw [ew] at hk
    rw [mU_n (by omega), mU_n (by omega), mU_n (by omega), up_n (by omega), up_n (by omega), up_n (by omega)]
    exact g k hk
theorem isX_cut {M : Mem} {o n : Nat} {P : Pg} (h : isX M o P) (h10 : cN P ≤ 10) (h4 : wN P ≤ 4) (hn : n ≤ wN P) : isX (mU M o 6 (nI n)) o (upd P 35 (nI n)) := by
  obtain ⟨a, b, c, d, e, f, g⟩ := h
  have ec : cN (upd P 35 (nI n)) = cN P := rfl
  have ew : wN (upd P 35 (nI n)) = n := wN_nI (by omega)
  refine ⟨?_, ?_, ?_, ?_, ?_, fun k hk => ?_, fun k hk => ?_⟩
  · simp only [mU_at, up_at]; simpa using a
  · simp only [mU_at, up_at]; simp
  · simp only [mU_at, up_at]; simpa using c
  · simp only [mU_at, up_at]; simpa using d
  · simp only [mU_at, up_at]; simpa using e
  · rw [ec] at hk
    rw [mU_n (by omega), mU_n (by omega), up_n (by omega), up_n (by omega)]
    exact f k hk
  · rw [ew] at hk
    rw [mU_n (by omega), mU_n (by omega), mU_n (by omega), up_n (by omega), up_n (by omega), up_n (by omega)]
    exact g k (by omega)
theorem OK_drop {P : Pg} {n : Nat} (h : OK P) (hn : n ≤ cN P) : OK (upd P 20 (nI n)) := by
  obtain ⟨⟨⟨a1, a2⟩, b, c, d, f, g⟩, k, m⟩ := h
  have ec : cN (upd P 20 (nI n)) = n := cN_nI (by omega)
  refine ⟨⟨⟨by rw [ec, up_s], by rw [ec]; omega⟩, b, c, d, fun i hi => ?_, fun i hi => ?_⟩, k, fun i hi => ?_⟩
  · rw [ec] at hi
    rw [up_n (by omega), up_n (by omega)]
    exact f i (by omega)
  · rw [up_n (by omega), up_n (by omega)]
    exact g i hi
  · rw [up_n (by omega)]
    exact m i hi
theorem OK_cut {P : Pg} {n : Nat} (h : OK P) (hn : n ≤ wN P) : OK (upd P 35 (nI n)) := by
  obtain ⟨⟨a, ⟨b1, b2⟩, c, d, f, g⟩, k, m⟩ := h
  have ew : wN (upd P 35 (nI n)) = n := wN_nI (by omega)
  have h10 := a.2
  refine ⟨⟨a, ⟨by rw [ew, up_s], by rw [ew]; omega⟩, c, d, fun i hi => ?_, fun i hi => ?_⟩, k, fun i hi => ?_⟩
  · have hi2 : i < cN P := hi
    rw [up_n (by omega), up_n (by omega)]
    exact f i hi
  · rw [ew] at hi
    rw [up_n (by omega), up_n (by omega)]
    exact g i (by omega)
  · rw [ew] at hi
    rw [up_n (by omega)]
    exact m i (by omega)
/-- the relation behind a change of what there is now -/
theorem RR.now {M N M' N' : Mem} (h : RR M N) (hx : ∀ a, (a < 1 ∨ 6 < a) → M' a = M a) (hm1 : ∀ a, a ≠ 1 → N' a = N a) (hm2 : ∀ j, 37 ≤ j → N' 1 j = N 1 j) (hO : OK (pg N' 0)) (hX : isX M' 1 (pg N' 0)) : RR M' N' := by
  obtain ⟨-, ⟨b1, b2⟩, c, ⟨d1, d2⟩, e, f, g, i, j⟩ := h
  have im : ∀ k, k < 2 → rImg M N k → rImg M' N' k := by
    intro k hk hr
    unfold rImg at hr ⊢
    have ep : pg N' (37 * (k + 1)) = pg N (37 * (k + 1)) := funext fun q => hm2 _ (by omega)
    rw [hx 14 (by omega), hm1 8 (by decide), ep]
    rcases hr with q | ⟨q1, q2, q3, q4⟩
    · exact Or.inl q
    · exact Or.inr ⟨q1, q2, q3, q4.of (fun i hi => hx _ (by omega))⟩
  refine ⟨⟨hO, hX⟩, ⟨im 0 (by omega) b1, im 1 (by omega) b2⟩, ?_, ⟨?_, ?_⟩, ?_, fun k hk => ?_, ?_, ?_, ?_⟩
  · unfold rTape at c ⊢
    rw [hx 16 (by omega), hx 17 (by omega), hm1 0 (by decide), hm1 3 (by decide)]
    exact c
  · rw [hx 0 (by omega), hm1 0 (by decide)]; exact d1
  · rw [hx 0 (by omega), hm1 0 (by decide)]; exact d2
  · unfold rSeen at e ⊢
    rw [hx 24 (by omega), hx 25 (by omega), hx 26 (by omega), hx 27 (by omega), hm1 0 (by decide), hm1 6 (by decide)]
    exact e
  · have := f k hk
    unfold rSheet at this ⊢
    rw [hx (43 + 2 * k) (by omega), hx (44 + 2 * k) (by omega), hm1 9 (by decide), hm1 10 (by decide), hm1 11 (by decide)]
    exact this
  · rw [hm1 0 (by decide)]; exact g
  · rw [hm1 4 (by decide)]; exact i
  · rw [hm1 5 (by decide)]; exact j
