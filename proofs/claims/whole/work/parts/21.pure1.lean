/-! the reference's pages -/
def pg (N : Mem) (p : Nat) : Pg := fun j => N 1 (p + j)
theorem pgk (N : Mem) (p j a : Nat) (h : a = p + j) (ha : a < 2 ^ 31) : N 1 (nI a).toNatClampNeg = pg N p j := by
  rw [nI_clamp ha, h]; rfl
theorem R_in {v lo hi : Int64} {N : Mem} {Q : Int32 → Mem → Prop} (h1 : lo ≤ v → v ≤ hi → Q 1 N) (h0 : ¬ (lo ≤ v ∧ v ≤ hi) → Q 0 N) : q_X6_in v lo hi N Q := by
  unfold q_X6_in
  refine br_c (fun h => h0 (fun q => ?_)) (fun h => br_c (fun h2 => h0 (fun q => ?_)) (fun h2 => h1 ?_ ?_))
  · exact absurd ((lg_cmp_ge v lo).mpr q.1) (Int32.not_le.mpr h)
  · have : lg_cmp v hi ≤ 0 := (lg_cmp_le v hi).mpr q.2
    exact absurd this (Int32.not_le.mpr h2)
  · exact (lg_cmp_ge v lo).mp (Int32.not_lt.mp h)
  · exact (lg_cmp_le v hi).mp (Int32.not_lt.mp h2)
theorem l_le (a b : Int32) : a.toInt64 ≤ b.toInt64 ↔ a ≤ b := by
  rw [Int64.le_iff_toInt_le, Int32.le_iff_toInt_le, Int32.toInt_toInt64, Int32.toInt_toInt64]
theorem R_inI {v lo hi : Int32} {l2 h2 : Int64} {N : Mem} {Q : Int32 → Mem → Prop} (el : lo.toInt64 = l2) (eh : hi.toInt64 = h2) (h1 : lo ≤ v ∧ v ≤ hi → Q 1 N) (h0 : ¬ (lo ≤ v ∧ v ≤ hi) → Q 0 N) : q_X6_in v.toInt64 l2 h2 N Q := by
  subst el eh
  exact R_in (fun a b => h1 ⟨(l_le _ _).mp a, (l_le _ _).mp b⟩) (fun n => h0 (fun q => n ⟨(l_le _ _).mpr q.1, (l_le _ _).mpr q.2⟩))
theorem R_amount {v : Int32} {N : Mem} {Q : Int32 → Mem → Prop} (hq : Q (iabs v) N) : q_X6_amount v N Q := by
  rw [iabs_neg] at hq
  refine br_c (fun h => ?_) (fun h => ?_)
  · rw [if_pos h] at hq; exact hq
  · rw [if_neg h] at hq; exact hq
set_option maxHeartbeats 1000000 in
theorem R_sweepOn {N : Mem} {p i k : Nat} {Q : Int32 → Mem → Prop} (hp : p ≤ 185) (hi : i < 10) (hk : k < 10) (hq : Q (swp (pg N p) i k) N) : q_X6_sweepOn (nI p) (nI i) (nI k) N Q := by
  unfold q_X6_sweepOn
  simp only [li, nI_add]
  refine ⟨vp_in_nI (by omega) (by omega), fun x hx => ⟨vp_in_nI (by omega) (by omega), fun y hy => ⟨vp_in_nI (by omega) (by omega), vp_in_nI (by omega) (by omega), vp_in_nI (by omega) (by omega), vp_in_nI (by omega) (by omega), ?_⟩⟩⟩
  rw [pgk N p 21 (p + 21) rfl (by omega)] at hx
  rw [pgk N p 22 (p + 21 + 1) rfl (by omega)] at hy
  rw [pgk N p i (p + i) rfl (by omega), pgk N p (10 + k) (p + 10 + k) (by omega) (by omega), pgk N p k (p + k) rfl (by omega), pgk N p (10 + i) (p + 10 + i) (by omega) (by omega)]
  subst hx hy
  exact hq
theorem R_behindOn {N : Mem} {p i c : Nat} {Q : Int32 → Mem → Prop} (hp : p ≤ 185) (hc : pg N p 20 = nI c) (h10 : c ≤ 10) (hi : i < c) (hq : Q (nI (bh c i)) N) : q_X6_behindOn (nI p) (nI i) N Q := by
  unfold q_X6_behindOn
  simp only [li, nI_add]
  rw [pgk N p 20 (p + 20) rfl (by omega), hc, pk_rem (by omega) (by omega) (by omega)]
  refine ⟨vp_in_nI (by omega) (by omega), nI_ne0 (by omega) (by omega), ?_⟩
  have e : (i + 1) % c = bh c i := by
    unfold bh
    by_cases h : i + 1 < c
    · rw [if_pos h, Nat.mod_eq_of_lt h]
    · rw [if_neg h, show i + 1 = c by omega, Nat.mod_self]
  rw [e]
  exact hq
def nx (c l i : Nat) : Nat := if bh c i = l then bh c l else bh c i
def arL (P : Pg) (l : Nat) : Int32 := sm (fun i => if i = l then 0 else swp P i (nx (cN P) l i)) (cN P)
def lostI (l : Nat) : Int32 := if l < 10 then nI l else -4
theorem lost_eq {i l : Nat} (hi : i < 10) : nI i = lostI l ↔ i = l := by
  unfold lostI
  by_cases h : l < 10
  · rw [if_pos h, nI_eq (by omega) (by omega)]
  · rw [if_neg h]
    constructor
    · intro q
      exact absurd q (nI_nm4 (by omega))
    · intro q
      omega
theorem bh_lt {c i : Nat} (h : 0 < c) : bh c i < c := by
  unfold bh
  split <;> omega
theorem add_z (x : Int32) : x + 0 = x := by simp
set_option maxHeartbeats 1000000 in
theorem R_areaOn {N : Mem} {p l : Nat} {Q : Int32 → Mem → Prop} (hp : p ≤ 185) (hc : pg N p 20 = nI (cN (pg N p))) (h10 : cN (pg N p) ≤ 10) (hl : N 0 14 = lostI l) (hq : Q (arL (pg N p) l) N) : q_X6_areaOn (nI p) N Q := by
  have key : ∀ j k, j + k = cN (pg N p) → ∃ n, (p_X6_areaOn Q n).1 (nI p) (sm (fun i => if i = l then 0 else swp (pg N p) i (nx (cN (pg N p)) l i)) k) (nI k) N := by
    intro j
    induction j with
    | zero =>
      intro k hk
      refine ⟨1, ?_⟩
      show f_X6_areaOn_4 Q (p_X6_areaOn Q 0) _ _ _ _
      unfold f_X6_areaOn_4
      simp only [li, nI_add]
      refine ⟨vp_in_nI (by omega) (by omega), br_t ?_ ?_⟩
      · rw [pgk N p 20 (p + 20) rfl (by omega), hc]
        exact nI_le (by omega) (by omega)
      · rw [show k = cN (pg N p) by omega]
        exact hq
    | succ j ih =>
      intro k hk
      obtain ⟨n, hn⟩ := ih (k + 1) (by omega)
      have hnle : ¬ N 1 (nI (p + 20)).toNatClampNeg ≤ nI k := by
        rw [pgk N p 20 (p + 20) rfl (by omega), hc]
        exact nI_ge (by omega) (by omega)
      have hv : vp_in (nI (p + 20)) 222 := vp_in_nI (by omega) (by omega)
      by_cases hkl : k = l
      · refine ⟨n + 2, ?_⟩
        show f_X6_areaOn_4 Q (p_X6_areaOn Q (n + 1)) _ _ _ _
        unfold f_X6_areaOn_4
        simp only [li, nI_add]
        refine ⟨hv, br_f hnle (br_t (by rw [hl]; exact (lost_eq (by omega)).mpr hkl) ?_)⟩
        show (p_X6_areaOn Q n).1 _ _ _ _
        rw [nI_1]
        have e : sm (fun i => if i = l then 0 else swp (pg N p) i (nx (cN (pg N p)) l i)) (k + 1) = sm (fun i => if i = l then 0 else swp (pg N p) i (nx (cN (pg N p)) l i)) k := by
          show _ + (if k = l then 0 else _) = _
          rw [if_pos hkl, add_z]
        rw [e] at hn
        exact hn
      · refine ⟨n + 3, ?_⟩
        show f_X6_areaOn_4 Q (p_X6_areaOn Q (n + 2)) _ _ _ _
        unfold f_X6_areaOn_4
        simp only [li, nI_add]
        have e : sm (fun i => if i = l then 0 else swp (pg N p) i (nx (cN (pg N p)) l i)) (k + 1) = sm (fun i => if i = l then 0 else swp (pg N p) i (nx (cN (pg N p)) l i)) k + swp (pg N p) k (nx (cN (pg N p)) l k) := by
          show _ + (if k = l then 0 else _) = _
          rw [if_neg hkl]
        rw [e] at hn
        have tail : nx (cN (pg N p)) l k < 10 → (p_X6_areaOn Q (n + 2)).2.1 (nI p) (sm (fun i => if i = l then 0 else swp (pg N p) i (nx (cN (pg N p)) l i)) k) (nI k) (nI (nx (cN (pg N p)) l k)) N := by
          intro hx
          show f_X6_areaOn_54 Q (p_X6_areaOn Q (n + 1)) _ _ _ _ _
          refine R_sweepOn hp (by omega) hx ?_
          show (p_X6_areaOn Q n).1 _ _ _ _
          rw [nI_1]
          exact hn
        have hb : bh (cN (pg N p)) k < cN (pg N p) := bh_lt (by omega)
        refine ⟨hv, br_f hnle (br_f (by rw [hl]; exact fun q => hkl ((lost_eq (by omega)).mp q)) (R_behindOn hp hc h10 (by omega) ?_))⟩
        refine bn_c (fun hz => ?_) (fun hz => ?_)
        · have hz2 : ¬ bh (cN (pg N p)) k = l := fun q => hz (by rw [hl]; exact (lost_eq (by omega)).mpr q)
          have e2 : nx (cN (pg N p)) l k = bh (cN (pg N p)) k := if_neg hz2
          rw [e2] at tail
          exact tail (by omega)
        · have hz2 : bh (cN (pg N p)) k = l := (lost_eq (by omega)).mp (by rw [← hl]; exact hz)
          have e2 : nx (cN (pg N p)) l k = bh (cN (pg N p)) l := if_pos hz2
          have hb2 : bh (cN (pg N p)) l < cN (pg N p) := bh_lt (by omega)
          refine R_behindOn hp hc h10 (by omega) ?_
          rw [hz2]
          rw [e2] at tail
          exact tail (by omega)
  obtain ⟨n, hn⟩ := key (cN (pg N p)) 0 (by omega)
  exact ⟨n, hn⟩
theorem sm_congr {f g : Nat → Int32} : ∀ {n : Nat}, (∀ i, i < n → f i = g i) → sm f n = sm g n
  | 0, _ => rfl
  | n + 1, h => by
    show sm f n + f n = sm g n + g n
    rw [sm_congr (fun i hi => h i (by omega)), h n (by omega)]
theorem arL_none {P : Pg} {l : Nat} (h : cN P ≤ l) : arL P l = ar P := by
  refine sm_congr (fun i hi => ?_)
  have hb : bh (cN P) i < cN P := bh_lt (by omega)
  rw [if_neg (by omega)]
  have e : nx (cN P) l i = bh (cN P) i := if_neg (by omega)
  rw [e]; rfl
theorem R_area {N : Mem} {p : Nat} {Q : Int32 → Mem → Prop} (hp : p ≤ 185) (hO : OK0 (pg N p)) (hl : N 0 14 = -4) (hq : Q (ar (pg N p)) N) : q_X6_areaOn (nI p) N Q := by
  have h10 := hO.1.2
  refine R_areaOn (l := 10) hp hO.1.1 h10 hl ?_
  rw [arL_none h10]
  exact hq
set_option maxHeartbeats 1000000 in
theorem R_rollsOn {N : Mem} {p w : Nat} {x : Int32} {Q : Int32 → Mem → Prop} (hp : p ≤ 185) (hw : w < 4) (hk : kd (pg N p (23 + w))) (hs : sp (pg N p (27 + w))) (hq : Q (rw' (pg N p) w x) N) : q_X6_rollsOn (nI p) (nI w) x N Q := by
  unfold q_X6_rollsOn
  simp only [li, nI_add]
  refine ⟨vp_in_nI (by omega) (by omega), fun k ek => ⟨vp_in_nI (by omega) (by omega), fun s es => ?_⟩⟩
  rw [pgk N p (23 + w) (p + 23 + w) (by omega) (by omega)] at ek
  rw [pgk N p (27 + w) (p + 27 + w) (by omega) (by omega)] at es
  unfold rw' at hq
  rw [← ek] at hq hk
  rw [← es] at hq hs
  unfold rl at hq
  have hs1 : 1 ≤ s.toInt := hs.1
  refine bn_c (fun h1 => ?_) (fun h1 => ?_)
  · replace h1 : ¬ k = 1 := h1
    rw [if_neg h1] at hq
    have t0 : f_X6_rollsOn_69 Q x N ↔ Q x N := ⟨fun h => h.1 rfl, fun h => br_t rfl h⟩
    have t1 : f_X6_rollsOn_65 Q x N ↔ Q 0 N := ⟨fun h => h.2 (by decide), fun h => br_f (by decide) h⟩
    refine br_c (fun h2 => ?_) (fun h2 => R_amount ?_)
    · have h2' : k.toInt ≤ 1 := Int32.le_iff_toInt_le.mp h2
      have k2 : ¬ k = 2 := fun e => by subst e; exact absurd h2' (by decide)
      have k3 : ¬ k = 3 := fun e => by subst e; exact absurd h2' (by decide)
      rw [if_neg k2, if_neg k3] at hq
      exact bn_f k3 (t0.mpr hq)
    · by_cases k2 : k = 2
      · rw [if_pos k2] at hq
        refine br_c (fun h3 => t1.mpr ?_) (fun h3 => ?_)
        · rw [if_neg (Int32.not_le.mpr h3)] at hq; exact hq
        · rw [if_pos (Int32.not_lt.mp h3)] at hq
          exact bn_f (fun e => by subst k2; exact absurd e (by decide)) (t0.mpr hq)
      · rw [if_neg k2] at hq
        have k3 : k = 3 := by
          have a1 : ¬ k.toInt ≤ 1 := fun q => h2 (Int32.le_iff_toInt_le.mpr q)
          have a2 : k.toInt ≠ 2 := fun q => k2 (Int32.toInt_inj.mp q)
          have a3 : k.toInt = 3 := by have := hk.1; have := hk.2; omega
          exact Int32.toInt_inj.mp a3
        rw [if_pos k3] at hq
        have hx : ∀ y : Int32, 0 ≤ y ↔ 0 ≤ y.toInt := fun y => Int32.le_iff_toInt_le
        refine br_c (fun h3 => t1.mpr ?_) (fun h3 => bn_t k3 ?_)
        · by_cases hs2 : s ≤ x
          · have hx0 : 0 ≤ x := (hx x).mpr (by have := Int32.le_iff_toInt_le.mp hs2; omega)
            have e : iabs x = x := if_pos hx0
            rw [e] at h3
            exact absurd hs2 (Int32.not_le.mpr h3)
          · rw [if_neg hs2] at hq; exact hq
        · refine br_c (fun h4 => t0.mpr ?_) (fun h4 => t1.mpr ?_)
          · have e : iabs x = x := if_pos h4
            rw [e] at h3
            rw [if_pos (Int32.not_lt.mp h3)] at hq; exact hq
          · have : ¬ s ≤ x := fun q => h4 ((hx x).mpr (by have := Int32.le_iff_toInt_le.mp q; omega))
            rw [if_neg this] at hq; exact hq
  · replace h1 : k = 1 := h1
    rw [if_pos h1] at hq
    exact ⟨(sp_1 hs).2, hq⟩
