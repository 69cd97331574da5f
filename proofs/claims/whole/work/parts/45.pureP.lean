def rS (P : Pg) (w n v : Nat) : Int32 := ra (upd P (27 + w) (nI v)) w n
theorem rS_s {P : Pg} {w n v : Nat} (hO : OK0 P) (hw : w < 4) : rS P w (n + 1) v = rS P w n v + rl (P (23 + w)) (nI v) (sa P n) := by
  show ra _ w n + rw' (upd P (27 + w) (nI v)) w (sa (upd P (27 + w) (nI v)) n) = _
  rw [sa_pg hO (fun j hj => up_n (by omega))]
  unfold rw'
  rw [up_n (by omega), up_s]; rfl
theorem rS_0 {P : Pg} {w v : Nat} : rS P w 0 v = P (31 + w) := up_n (by omega)
def af (f : Nat → Int32) (z : Int32) : Nat → Int32 × Int32
  | 0 => (z, -4)
  | n + 1 => if (af f z n).1 ≤ f n then af f z n else (f n, nI n)
def aF (G : Nat → Bool) (P : Pg) (w n : Nat) : Int32 := nI (mo G (rS P w n) 9)
theorem ask_X {M : Mem} {P : Pg} {G : Nat → Bool} {w : Nat} {v2 z : Int32} {Q : Int32 → Mem → Prop} (hX : isX M 1 P) (hO : OK0 P) (hw : w < wN P) (hq : ∀ M', fx M M' → Q (fin2 v2 (af (aF G P w) z 41)) M') : ∀ j n, j + n = 41 → ∀ M', fx M M' → (∀ v, 1 ≤ v → v ≤ 9 → M' 30 v = rS P w n v) → (p_X5_ask Q (2 * j + 2)).2.1 (nI w) v2 (bitv G 1 9) (af (aF G P w) z n).1 (af (aF G P w) z n).2 (nI n) M' := by
  have h4 := hO.2.1.2
  intro j
  induction j with
  | zero =>
    intro n hn M' g1 g2
    have e : n = 41 := by omega
    subst e
    show f_X5_ask_68 Q (p_X5_ask Q 1) _ _ _ _ _ _ _
    exact br_t (by decide) (fin2_ok (fun x hx => hx) (hq M' g1))
  | succ j ih =>
    intro n hn M' g1 g2
    have hX' : isX M' 1 P := hX.of (fun i hi => g1 _ (by omega) (by omega) (by omega))
    rw [show 2 * (j + 1) + 2 = 2 * j + 2 + 2 by omega]
    show f_X5_ask_68 Q (p_X5_ask Q (2 * j + 2 + 1)) _ _ _ _ _ _ _
    have em : mo G (M' 30) 9 = mo G (rS P w n) 9 := mo_congr g2 (by omega)
    have nx : ∀ s, s = af (aF G P w) z (n + 1) → (p_X5_ask Q (2 * j + 2 + 1)).2.2.1 (nI w) v2 (bitv G 1 9) s.1 s.2 (nI n) M' := by
      intro s hs
      show f_X5_ask_97 Q (p_X5_ask Q (2 * j + 2)) _ _ _ _ _ _ _
      refine ⟨vp_in_nI (by omega) (by omega), L_sweepAhead hX' hO (by omega) (X_rollEach (fun M2 a1 a2 => ?_))⟩
      rw [nI_1, hs]
      refine ih (n + 1) (by omega) M2 (fun a z1 z2 z3 => by rw [a1 a z3, g1 a z1 z2 z3]) (fun v v1 v9 => ?_)
      rw [a2 v v1 v9, g2 v v1 v9, nI_clamp (by omega), rS_s hO (by omega), show M' 4 w = P (23 + w) from (hX'.2.2.2.2.2.2 w hw).1]
    refine br_f (by rw [li 40]; exact nI_nlt (by omega) (by omega)) (X_mostAlike ?_)
    rw [em]
    refine br_c (fun hl => ?_) (fun hl => ?_)
    · exact nx (af (aF G P w) z n) (if_pos hl).symm
    · exact nx (aF G P w n, nI n) (if_neg hl).symm
theorem ask_X1 {M : Mem} {P : Pg} {G : Nat → Bool} {w : Nat} {v2 z : Int32} {Q : Int32 → Mem → Prop} (hX : isX M 1 P) (hO : OK0 P) (hw : w < wN P) (hq : ∀ M', fx M M' → Q (fin2 v2 (af (aF G P w) z 41)) M') : ∀ j k, j + k = 9 → ∀ M', fx M M' → (∀ v, 1 ≤ v → v < 1 + k → M' 30 v = P (31 + w)) → (p_X5_ask Q (84 + 1 + j)).1 (nI w) v2 (bitv G 1 9) z (-4) (nI (1 + k)) M' := by
  have h4 := hO.2.1.2
  intro j
  induction j with
  | zero =>
    intro k hk M' g1 g2
    have e : k = 9 := by omega
    subst e
    show f_X5_ask_36 Q (p_X5_ask Q 84) _ _ _ _ _ _ _
    exact br_t (by decide) (ask_X hX hO hw hq 41 0 rfl M' g1 (fun v v1 v9 => by rw [g2 v v1 (by omega), rS_0]))
  | succ j ih =>
    intro k hk M' g1 g2
    rw [show 84 + 1 + (j + 1) = 84 + 1 + j + 1 by omega]
    show f_X5_ask_36 Q (p_X5_ask Q (84 + 1 + j)) _ _ _ _ _ _ _
    unfold f_X5_ask_36
    rw [nI_clamp (show w < 2 ^ 31 by omega), nI_clamp (show 1 + k < 2 ^ 31 by omega)]
    refine br_f (by rw [li 9]; exact nI_nlt (by omega) (by omega)) ⟨vp_in_nI (by omega) (by omega), vp_in_nI (by omega) (by omega), ?_⟩
    rw [nI_1]
    refine ih (k + 1) (by omega) _ (fun a z1 z2 z3 => by rw [mU_n z3, g1 a z1 z2 z3]) (fun v v1 v2 => ?_)
    rw [mU_r]
    by_cases hv : v = 1 + k
    · rw [if_pos hv, g1 6 (by omega) (by omega) (by omega)]; exact (hX.2.2.2.2.2.2 w hw).2.2
    · rw [if_neg hv]; exact g2 v v1 (by omega)
theorem ask_R {N : Mem} {P : Pg} {G : Nat → Bool} {w : Nat} {v2 z : Int32} {Q : Int32 → Mem → Prop} (hr : ∀ u, 1 ≤ u → u < 10 → ∀ q, q ≤ 40 → N 7 (41 * u + q) = rS P w q u) (hq : Q (fin2 v2 (af (aF G P w) z 41)) N) : ∀ j n, j + n = 41 → (p_X6_ask Q (3 * j + 2)).2.1 v2 (bitv G 1 9) (af (aF G P w) z n).1 (af (aF G P w) z n).2 (nI n) N := by
  intro j
  induction j with
  | zero =>
    intro n hn
    have e : n = 41 := by omega
    subst e
    show f_X6_ask_70 Q (p_X6_ask Q 1) _ _ _ _ _ _
    exact br_t (by decide) (fin2_ok (fun x hx => hx) hq)
  | succ j ih =>
    intro n hn
    rw [show 3 * (j + 1) + 2 = 3 * j + 2 + 3 by omega]
    show f_X6_ask_70 Q (p_X6_ask Q (3 * j + 2 + 2)) _ _ _ _ _ _
    have em : mo G (fun v => N 7 (41 * v + n)) 9 = mo G (rS P w n) 9 := mo_congr (fun v v1 v9 => hr v v1 (by omega) n (by omega)) (by omega)
    refine br_f (by rw [li 40]; exact nI_nlt (by omega) (by omega)) (R_worstAt (by omega) ?_)
    rw [em]
    have hn2 := ih (n + 1) (by omega)
    refine br_c (fun hl => ?_) (fun hl => ?_)
    · show f_X6_ask_100 Q (p_X6_ask Q (3 * j + 2 + 1)) _ _ _ _ _ _ _
      refine br_t hl ?_
      have e : af (aF G P w) z (n + 1) = af (aF G P w) z n := if_pos hl
      rw [e] at hn2
      show (p_X6_ask Q (3 * j + 2)).2.1 _ _ _ _ _ _
      rw [nI_1]; exact hn2
    · show f_X6_ask_100 Q (p_X6_ask Q (3 * j + 2 + 1)) _ _ _ _ _ _ _
      refine br_f hl ?_
      have e : af (aF G P w) z (n + 1) = (aF G P w n, nI n) := if_neg hl
      rw [e] at hn2
      show (p_X6_ask Q (3 * j + 2)).2.1 _ _ _ _ _ _
      rw [nI_1]; exact hn2
theorem ask_R1 {N : Mem} {P : Pg} {G : Nat → Bool} {w : Nat} {v2 : Int32} {Q : Int32 → Mem → Prop} (hr : ∀ u, 1 ≤ u → u < 10 → ∀ q, q ≤ 40 → N 7 (41 * u + q) = rS P w q u) (hq : Q (fin2 v2 (af (aF G P w) (s9 (bitv G 1 9)) 41)) N) : ∀ j k, j + k = 9 → (p_X6_ask Q (125 + 1 + j)).1 v2 (bitv G 1 9) (sm (fun k => (bitv G 1 9 >>> (nI (1 + k) &&& 31)) &&& 1) k) (nI (1 + k)) N := by
  intro j
  induction j with
  | zero =>
    intro k hk
    have e : k = 9 := by omega
    subst e
    show f_X6_ask_39 Q (p_X6_ask Q 125) _ _ _ _ _
    exact br_t (by decide) (ask_R (z := s9 (bitv G 1 9)) hr hq 41 0 rfl)
  | succ j ih =>
    intro k hk
    rw [show 125 + 1 + (j + 1) = 125 + 1 + j + 1 by omega]
    show f_X6_ask_39 Q (p_X6_ask Q (125 + 1 + j)) _ _ _ _ _
    refine br_f (by rw [li 9]; exact nI_nlt (by omega) (by omega)) (fun x hx => ?_)
    subst hx
    rw [nI_1]
    exact ih (k + 1) (by omega)
theorem o_ask {M N : Mem} (h : RR M N) (v1 v2 : Int32) : both (q_X5_ask v1 v2 M) (q_X6_ask v1 v2 N) := by
  obtain ⟨⟨⟨hO, -⟩, hX⟩, -⟩ := id h
  have h4 := hO.2.1.2
  obtain ⟨S, hR, hS⟩ := sn_of h.2.2.2.2.1
  by_cases hh : ∃ w, w < wN (pg N 0) ∧ v1 = nI w
  · obtain ⟨w, hw, rfl⟩ := hh
    by_cases hv : 0 ≤ v2 ∧ v2 ≤ 1
    · refine both.q h (fin2 v2 (af (aF (gS N S (27 + w)) (pg N 0) w) (s9 (bitv (gS N S (27 + w)) 1 9)) 41)) (fun Q q => ?_) (fun Q q => ?_)
      · refine ⟨94, X_hasWheel hX hO (fun _ _ _ => br_f ne10 (X_isEither (fun _ => bn_f ne10 (X_stepsAsSeen hX hO hw hR hS (fun M' g1 => J_bitCount ?_))) (fun z => absurd hv z))) (fun z => absurd ⟨w, hw, rfl⟩ z)⟩
        rw [bc_left]
        exact ask_X1 (hX.of (fun i hi => g1 _ (by omega) (by omega) (by omega))) hO hw (fun M2 g2 => q M2 (g1.tr g2)) 9 0 rfl M' fx.rf (fun v v1 v2 => by omega)
      · refine ⟨135, R_isWheel hO (fun _ _ _ => br_f ne10 (R_inI (lo := 0) (hi := 1) rfl rfl (fun _ => bn_f ne10 (R_steps hO hw hR (fun N' g hr => ?_))) (fun z => absurd hv z))) (fun z => absurd ⟨w, hw, rfl⟩ z)⟩
        exact ask_R1 hr (q N' g) 9 0 rfl
    · exact both.no h (-1) (fun Q q => ⟨0, X_hasWheel hX hO (fun _ _ _ => br_f ne10 (X_isEither (fun z => absurd z hv) (fun _ => bn_t rfl q))) (fun z => absurd ⟨w, hw, rfl⟩ z)⟩) (fun Q q => ⟨0, R_isWheel hO (fun _ _ _ => br_f ne10 (R_inI (lo := 0) (hi := 1) rfl rfl (fun z => absurd z hv) (fun _ => bn_t rfl q))) (fun z => absurd ⟨w, hw, rfl⟩ z)⟩)
  · exact both.no h (-1) (fun Q q => ⟨0, X_hasWheel hX hO (fun w hw e => absurd ⟨w, hw, e⟩ hh) (fun _ => br_t rfl q)⟩) (fun Q q => ⟨0, R_isWheel hO (fun w hw e => absurd ⟨w, hw, e⟩ hh) (fun _ => br_t rfl q)⟩)
