/-! public methods: what is changed -/
theorem RR.wh {M N : Mem} (h : RR M N) {r w : Nat} {v : Int32} (hr : 3 ≤ r ∧ r ≤ 5) (hw : w < 4) (hk : r = 3 → kd v) (hs : r = 4 → sp v) (hd : r = 5 → rd (tN (pg N 0)) v) : RR (mU M (1 + r) w v) (mU N 1 (11 + 4 * r + w) v) := by
  obtain ⟨hO, hX⟩ := h.1
  refine h.now (fun a ha => mU_n (by omega)) (fun a ha => mU_n ha) (fun j hj => by rw [mU_at, if_neg (by omega)]) ?_ ?_
  · rw [pg_mU0]
    exact OK_upd hO (by omega) (by omega) (by omega) (by omega) (fun _ _ => hk (by omega)) (fun _ _ => hs (by omega)) (fun _ _ => hd (by omega))
  · rw [pg_mU0]
    exact isX_wh hX hO.1.2.1.2 hO.1.1.2 v hr hw
set_option maxHeartbeats 1000000 in
theorem o_alter {M N : Mem} (h : RR M N) (v1 v2 v3 : Int32) : both (q_X5_alter v1 v2 v3 M) (q_X6_alter v1 v2 v3 N) := by
  obtain ⟨⟨⟨hO, -, -⟩, hX⟩, -, -, -, -, -, hl, -⟩ := id h
  have h4 := hO.2.1.2
  have a58 : ∀ Q : Int32 → Mem → Prop, Q (-1) N → f_X6_alter_58 Q v1 v2 v3 N := fun Q q => bn_t rfl q
  have a38 : ∀ (Q : Int32 → Mem → Prop) (s0 : Int32), ((¬ ∃ w, w < wN (pg N 0) ∧ v1 = nI w) ∨ s0 = 0) → Q (-1) N → f_X6_alter_38 Q v1 v2 v3 s0 N := by
    intro Q s0 hs q
    refine R_isWheel hO (fun w hw e => br_f ne10 ?_) (fun _ => br_t rfl (a58 Q q))
    rcases hs with hs | hs
    · exact absurd ⟨w, hw, e⟩ hs
    · exact br_t hs (a58 Q q)
  have no : ∀ Q : Int32 → Mem → Prop, (¬ ((∃ w, w < wN (pg N 0) ∧ v1 = nI w) ∧ ((v2 = 0 ∧ 0 ≤ v3 ∧ v3 ≤ 3) ∨ (v2 = 1 ∧ 1 ≤ v3 ∧ v3 ≤ 9)))) → Q (-1) N → q_X6_alter v1 v2 v3 N Q := by
    intro Q hn q
    unfold q_X6_alter
    refine bn_c (fun h0 => bn_c (fun h1 => a38 Q 0 (Or.inr rfl) q) (fun h1 => R_inI (lo := 1) (hi := 9) rfl rfl (fun g => br_f ne10 (a38 Q 1 (Or.inl (fun w => hn ⟨w, Or.inr ⟨h1, g⟩⟩)) q)) (fun g => br_t rfl (a38 Q 0 (Or.inr rfl) q)))) (fun h0 => R_inI (lo := 0) (hi := 3) rfl rfl (fun g => a38 Q 1 (Or.inl (fun w => hn ⟨w, Or.inl ⟨h0, g⟩⟩)) q) (fun g => a38 Q 0 (Or.inr rfl) q))
  by_cases hh : ∃ w, w < wN (pg N 0) ∧ v1 = nI w
  · have yes := hh
    obtain ⟨w, hw, rfl⟩ := hh
    have vw : vp_in (nI w) 4 := vp_in_nI (by omega) (by omega)
    have ew : (nI w).toNatClampNeg = w := nI_clamp (by omega)
    obtain ⟨e3, e4, -⟩ := hX.2.2.2.2.2.2 w hw
    replace e3 : M 4 w = pg N 0 (23 + w) := e3
    replace e4 : M 5 w = pg N 0 (27 + w) := e4
    have fX : ∀ {Q : Int32 → Mem → Prop}, _ → q_X5_hasWheel (nI w) M Q := fun {Q} (q : Q 1 M) => X_hasWheel hX hO (fun _ _ _ => q) (fun n => absurd ⟨w, hw, rfl⟩ n)
    have fR : ∀ {Q : Int32 → Mem → Prop}, _ → q_X6_isWheel (nI w) N Q := fun {Q} (q : Q 1 N) => R_isWheel hO (fun _ _ _ => q) (fun n => absurd ⟨w, hw, rfl⟩ n)
    by_cases g0 : v2 = 0 ∧ 0 ≤ v3 ∧ v3 ≤ 3
    · obtain ⟨rfl, g⟩ := g0
      refine both.e (pg N 0 (23 + w)) (mU M 4 w v3) (mU N 1 (23 + w) v3) (fun Q q => fX (bn_f ne10 (bn_t rfl (X_isKind (fun _ => br_f ne10 ⟨vw, vw, ?_⟩) (fun n => absurd g n))))) (fun Q q => bn_t rfl (R_inI (lo := 0) (hi := 3) rfl rfl (fun _ => fR (br_f ne10 (br_f ne10 ?_))) (fun n => absurd g n))) (h.wh (r := 3) (by omega) (by omega) (fun _ => kd_of g) (by omega) (by omega))
      · rw [ew, e3]; exact q
      · show q_X6_puts 1 _ _ _ _
        rw [show (23 : Int32) + 4 * 0 + nI w = nI (23 + w) by rw [show (23 : Int32) + 4 * 0 = nI 23 by decide, nI_add]]
        have vi : vp_in (nI (23 + w)) 222 := vp_in_nI (by omega) (by omega)
        refine bn_f ne10 ⟨vi, vi, ?_⟩
        rw [nI_clamp (by omega), show N 1 (23 + w) = pg N 0 (23 + w) by unfold pg; rw [Nat.zero_add]]
        exact q
    by_cases g1 : v2 = 1 ∧ 1 ≤ v3 ∧ v3 ≤ 9
    · obtain ⟨rfl, g⟩ := g1
      refine both.e (pg N 0 (27 + w)) (mU M 5 w v3) (mU N 1 (27 + w) v3) (fun Q q => fX (bn_f ne10 (bn_f ne10 (bn_t rfl (X_isStep (fun _ => br_f ne10 ⟨vw, vw, ?_⟩) (fun n => absurd g n)))))) (fun Q q => bn_f ne10 (bn_t rfl (R_inI (lo := 1) (hi := 9) rfl rfl (fun _ => br_f ne10 (fR (br_f ne10 (br_f ne10 ?_)))) (fun n => absurd g n)))) (h.wh (r := 4) (by omega) (by omega) (by omega) (fun _ => sp_of g) (by omega))
      · rw [ew, e4]; exact q
      · show q_X6_puts 1 _ _ _ _
        rw [show (23 : Int32) + 4 * 1 + nI w = nI (27 + w) by rw [show (23 : Int32) + 4 * 1 = nI 27 by decide, nI_add]]
        have vi : vp_in (nI (27 + w)) 222 := vp_in_nI (by omega) (by omega)
        refine bn_f ne10 ⟨vi, vi, ?_⟩
        rw [nI_clamp (by omega), show N 1 (27 + w) = pg N 0 (27 + w) by unfold pg; rw [Nat.zero_add]]
        exact q
    · have hn : ¬ ((∃ w2, w2 < wN (pg N 0) ∧ nI w = nI w2) ∧ ((v2 = 0 ∧ 0 ≤ v3 ∧ v3 ≤ 3) ∨ (v2 = 1 ∧ 1 ≤ v3 ∧ v3 ≤ 9))) := fun q => q.2.elim g0 g1
      refine both.no h (-1) (fun Q q => fX (bn_f ne10 ?_)) (fun Q q => no Q hn q)
      have f45 : f_X5_alter_45 Q (nI w) v2 v3 M := bn_c (fun _ => q) (fun e => X_isStep (fun g => absurd ⟨e, g⟩ g1) (fun _ => br_t rfl q))
      exact bn_c (fun _ => f45) (fun e => X_isKind (fun g => absurd ⟨e, g⟩ g0) (fun _ => br_t rfl f45))
  · exact both.no h (-1) (fun Q q => X_hasWheel hX hO (fun w hw e => absurd ⟨w, hw, e⟩ hh) (fun _ => bn_t rfl q)) (fun Q q => no Q (fun z => hh z.1) q)
set_option maxHeartbeats 1000000 in
theorem o_zero {M N : Mem} (h : RR M N) (v1 : Int32) : both (q_X5_zero v1 M) (q_X6_zero v1 N) := by
  obtain ⟨⟨⟨hO, -, -⟩, hX⟩, -, -, -, -, -, hl, -⟩ := id h
  have h4 := hO.2.1.2
  by_cases hh : ∃ w, w < wN (pg N 0) ∧ v1 = nI w
  · obtain ⟨w, hw, rfl⟩ := hh
    have vw : vp_in (nI w) 4 := vp_in_nI (by omega) (by omega)
    obtain ⟨-, -, e5⟩ := hX.2.2.2.2.2.2 w hw
    replace e5 : M 6 w = pg N 0 (31 + w) := e5
    refine both.e (20000000 + pg N 0 (31 + w)) (mU M 6 w 0) (mU N 1 (31 + w) 0) (fun Q q => X_hasWheel hX hO (fun _ _ _ => bn_f ne10 ⟨vw, vw, ?_⟩) (fun n => absurd ⟨w, hw, rfl⟩ n)) (fun Q q => R_isWheel hO (fun _ _ _ => br_f ne10 ?_) (fun n => absurd ⟨w, hw, rfl⟩ n)) (h.wh (r := 5) (by omega) (by omega) (by omega) (by omega) (fun _ => ⟨?_, ?_⟩))
    · rw [nI_clamp (by omega), e5]; exact q
    · rw [show (31 : Int32) + nI w = nI (31 + w) by rw [li 31, nI_add]]
      have vi : vp_in (nI (31 + w)) 222 := vp_in_nI (by omega) (by omega)
      refine bn_f ne10 ⟨vi, vi, ?_⟩
      rw [nI_clamp (by omega), show N 1 (31 + w) = pg N 0 (31 + w) by unfold pg; rw [Nat.zero_add]]
      exact q
    · have e : (0 : Int32).toInt = 0 := by decide
      rw [e]; omega
    · have e : (0 : Int32).toInt = 0 := by decide
      rw [e]; omega
  · exact both.no h (-1) (fun Q q => X_hasWheel hX hO (fun w hw e => absurd ⟨w, hw, e⟩ hh) (fun _ => bn_t rfl q)) (fun Q q => R_isWheel hO (fun w hw e => absurd ⟨w, hw, e⟩ hh) (fun _ => br_t rfl q))
theorem o_cut {M N : Mem} (h : RR M N) (v1 : Int32) : both (q_X5_cut v1 M) (q_X6_cut v1 N) := by
  obtain ⟨⟨⟨hO, hO2⟩, hX⟩, -⟩ := id h
  have h4 := hO.2.1.2
  have e6 : M 1 6 = nI (wN (pg N 0)) := hX.2.1.trans hO.2.1.1
  have e35 : N 1 35 = nI (wN (pg N 0)) := hO.2.1.1
  unfold q_X5_cut q_X6_cut
  rw [e6, e35]
  by_cases hh : ∃ i, i ≤ wN (pg N 0) ∧ v1 = nI i
  · have g := (in_nI2 (by omega)).mpr hh
    obtain ⟨i, hi, rfl⟩ := hh
    refine both.e (nI (wN (pg N 0))) (mU M 1 6 (nI i)) (mU N 1 35 (nI i)) (fun Q q => X_within (fun _ => bn_f ne10 ?_) (fun n => absurd g n)) (fun Q q => R_inI (lo := 0) rfl rfl (fun _ => bn_f ne10 ⟨vp_in_nI (n := 35) (by omega) (by omega), vp_in_nI (n := 35) (by omega) (by omega), ?_⟩) (fun n => absurd g n)) ?_
    · rw [e6]; exact q
    · show Q (N 1 35) (mU N 1 35 (nI i))
      rw [e35]; exact q
    · refine h.now (fun a ha => mU_n (by omega)) (fun a ha => mU_n ha) (fun j hj => by rw [mU_at, if_neg (by omega)]) ?_ ?_
      · rw [pg_mU0]; exact OK_cut ⟨hO, hO2⟩ hi
      · rw [pg_mU0]; exact isX_cut hX hO.1.2 h4 hi
  · have g : ¬ (0 ≤ v1 ∧ v1 ≤ nI (wN (pg N 0))) := fun q => hh ((in_nI2 (by omega)).mp q)
    exact both.no h (-1) (fun Q q => X_within (fun n => absurd n g) (fun _ => bn_t rfl q)) (fun Q q => R_inI (lo := 0) rfl rfl (fun n => absurd n g) (fun _ => bn_t rfl q))
theorem o_drop {M N : Mem} (h : RR M N) (v1 : Int32) : both (q_X5_drop v1 M) (q_X6_drop v1 N) := by
  obtain ⟨⟨⟨hO, hO2⟩, hX⟩, -⟩ := id h
  have h10 := hO.1.2
  have e6 : M 1 2 = nI (cN (pg N 0)) := hX.1.trans hO.1.1
  have e35 : N 1 20 = nI (cN (pg N 0)) := hO.1.1
  unfold q_X5_drop q_X6_drop
  rw [e6, e35]
  by_cases hh : ∃ i, i ≤ cN (pg N 0) ∧ v1 = nI i
  · have g := (in_nI2 (by omega)).mpr hh
    obtain ⟨i, hi, rfl⟩ := hh
    refine both.e (nI (cN (pg N 0))) (mU M 1 2 (nI i)) (mU N 1 20 (nI i)) (fun Q q => X_within (fun _ => bn_f ne10 ?_) (fun n => absurd g n)) (fun Q q => R_inI (lo := 0) rfl rfl (fun _ => bn_f ne10 ⟨vp_in_nI (n := 20) (by omega) (by omega), vp_in_nI (n := 20) (by omega) (by omega), ?_⟩) (fun n => absurd g n)) ?_
    · rw [e6]; exact q
    · show Q (N 1 20) (mU N 1 20 (nI i))
      rw [e35]; exact q
    · refine h.now (fun a ha => mU_n (by omega)) (fun a ha => mU_n ha) (fun j hj => by rw [mU_at, if_neg (by omega)]) ?_ ?_
      · rw [pg_mU0]; exact OK_drop ⟨hO, hO2⟩ hi
      · rw [pg_mU0]; exact isX_drop hX hO.1.2 hO.2.1.2 hi
  · have g : ¬ (0 ≤ v1 ∧ v1 ≤ nI (cN (pg N 0))) := fun q => hh ((in_nI2 (by omega)).mp q)
    exact both.no h (-1) (fun Q q => X_within (fun n => absurd n g) (fun _ => bn_t rfl q)) (fun Q q => R_inI (lo := 0) rfl rfl (fun n => absurd n g) (fun _ => bn_t rfl q))
theorem L_moveCorner {M : Mem} {o i : Nat} {x y : Int32} {Q : Mem → Prop} (hi : i < 10) (hq : Q (mU (mU M (o + 1) i x) (o + 2) i y)) : q_X0_moveCorner o (nI i) x y M Q := by
  have v : vp_in (nI i) 10 := vp_in_nI (by omega) (by omega)
  refine ⟨v, v, ?_⟩
  rw [nI_clamp (by omega)]
  exact hq
set_option maxHeartbeats 1000000 in
theorem o_shift {M N : Mem} (h : RR M N) (v1 x y : Int32) : both (q_X5_shift v1 x y M) (q_X6_shift v1 x y N) := by
  obtain ⟨⟨⟨hO, hO2⟩, hX⟩, -⟩ := id h
  have h10 := hO.1.2
  by_cases hh : ∃ w, w < cN (pg N 0) ∧ v1 = nI w
  · obtain ⟨w, hw, rfl⟩ := hh
    have vw : vp_in (nI w) 10 := vp_in_nI (by omega) (by omega)
    obtain ⟨e1, e2⟩ := hX.2.2.2.2.2.1 w hw
    replace e1 : M 2 w = pg N 0 w := e1
    replace e2 : M 3 w = pg N 0 (10 + w) := e2
    have z1 : N 1 w = pg N 0 w := by unfold pg; rw [Nat.zero_add]
    have z2 : N 1 (10 + w) = pg N 0 (10 + w) := by unfold pg; rw [Nat.zero_add]
    by_cases hp : plc x y
    · refine both.e (100 * pg N 0 w + pg N 0 (10 + w)) (mU (mU M 2 w x) 3 w y) (mU (mU N 1 w x) 1 (10 + w) y) (fun Q q => X_hasCorner hX hO (fun _ _ _ => br_f ne10 (X_isPlace (fun _ => bn_f ne10 ⟨vw, vw, ?_⟩) (fun n => absurd hp n))) (fun n => absurd ⟨w, hw, rfl⟩ n)) (fun Q q => R_isCorner hO (fun _ _ _ => br_f ne10 (R_isPoint (fun _ => br_f ne10 ?_) (fun n => absurd hp n))) (fun n => absurd ⟨w, hw, rfl⟩ n)) ?_
      · rw [nI_clamp (by omega), e1, e2]
        exact L_moveCorner (by omega) q
      · rw [show (10 : Int32) + nI w = nI (10 + w) by rw [li 10, nI_add]]
        have va : vp_in (nI w) 222 := vp_in_nI (by omega) (by omega)
        have vb : vp_in (nI (10 + w)) 222 := vp_in_nI (by omega) (by omega)
        refine ⟨va, vb, fun r hr => ⟨va, vb, ?_⟩⟩
        rw [nI_clamp (by omega), nI_clamp (by omega), z1, z2] at hr
        rw [nI_clamp (by omega), nI_clamp (by omega), hr]
        exact q
      · refine h.now (fun a ha => by rw [mU_n (by omega), mU_n (by omega)]) (fun a ha => by rw [mU_n ha, mU_n ha]) (fun j hj => by rw [mU_at, if_neg (by omega), mU_at, if_neg (by omega)]) ?_ ?_
        · rw [pg_mU0, pg_mU0]
          exact OK_upd (OK_upd ⟨hO, hO2⟩ (by omega) (by omega) (by omega) (fun _ => pl_of hp.1) (by omega) (by omega) (by omega)) (by omega) (by omega) (by omega) (fun _ => pl_of hp.2) (by omega) (by omega) (by omega)
        · rw [pg_mU0, pg_mU0]
          exact isX_corner hX hO.2.1.2 h10 x y (by omega)
    · exact both.no h (-1) (fun Q q => X_hasCorner hX hO (fun _ _ _ => br_f ne10 (X_isPlace (fun n => absurd n hp) (fun _ => bn_t rfl q))) (fun n => absurd ⟨w, hw, rfl⟩ n)) (fun Q q => R_isCorner hO (fun _ _ _ => br_f ne10 (R_isPoint (fun n => absurd n hp) (fun _ => br_t rfl q))) (fun n => absurd ⟨w, hw, rfl⟩ n))
  · exact both.no h (-1) (fun Q q => X_hasCorner hX hO (fun w hw e => absurd ⟨w, hw, e⟩ hh) (fun _ => br_t rfl q)) (fun Q q => R_isCorner hO (fun w hw e => absurd ⟨w, hw, e⟩ hh) (fun _ => br_t rfl q))
set_option maxHeartbeats 1000000 in
theorem o_pole {M N : Mem} (h : RR M N) (x y : Int32) : both (q_X5_pole x y M) (q_X6_pole x y N) := by
  obtain ⟨⟨⟨hO, hO2⟩, hX⟩, -⟩ := id h
  have h10 := hO.1.2
  by_cases hp : plc x y
  · refine both.e (100 * pg N 0 21 + pg N 0 22) (mU (mU M 1 7 x) 1 8 y) (mU (mU N 1 21 x) 1 22 y) (fun Q q => X_isPlace (fun _ => bn_f ne10 ?_) (fun n => absurd hp n)) (fun Q q => R_isPoint (fun _ => br_f ne10 ?_) (fun n => absurd hp n)) ?_
    · show Q (100 * M 1 7 + M 1 8) _
      rw [hX.2.2.1, hX.2.2.2.1]
      exact q
    · have va : vp_in (21 : Int32) 222 := vp_in_nI (n := 21) (by omega) (by omega)
      have vb : vp_in (22 : Int32) 222 := vp_in_nI (n := 22) (by omega) (by omega)
      refine ⟨va, vb, fun r hr => ⟨va, vb, ?_⟩⟩
      rw [hr]
      exact q
    · refine h.now (fun a ha => by rw [mU_n (by omega), mU_n (by omega)]) (fun a ha => by rw [mU_n ha, mU_n ha]) (fun j hj => by rw [mU_at, if_neg (by omega), mU_at, if_neg (by omega)]) ?_ ?_
      · rw [pg_mU0, pg_mU0]
        exact OK_upd (OK_upd ⟨hO, hO2⟩ (by omega) (by omega) (by omega) (fun _ => pl_of hp.1) (by omega) (by omega) (by omega)) (by omega) (by omega) (by omega) (fun _ => pl_of hp.2) (by omega) (by omega) (by omega)
      · rw [pg_mU0, pg_mU0]
        exact isX_pole hX hO.2.1.2 h10 x y
  · exact both.no h (-1) (fun Q q => X_isPlace (fun n => absurd n hp) (fun _ => bn_t rfl q)) (fun Q q => R_isPoint (fun n => absurd n hp) (fun _ => br_t rfl q))
