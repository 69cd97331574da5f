/-! text: a line of the reference -/
def rdR (N : Mem) (B : Nat → Int32) (T p : Nat) : Prop := N 0 9 = nI (fB B T p) ∧ N 0 8 = nI (oB B T p) ∧ (kB B T p ≠ 4 → N 0 10 = nI (kB B T p)) ∧ N 0 6 = (if kB B T p = 4 then 1 else 0) ∧ (kB B T p = 4 → N 0 7 = nI (fB B T p)) ∧ (kB B T p = 2 → N 0 11 = val B T p)
theorem R_on {N : Mem} {B : Nat → Int32} {T p : Nat} {Q : Mem → Prop} (hT : rT N B T) (hp : p ≤ T) (h8 : N 0 8 = nI p) (h6 : N 0 6 = 0) (hq : ∀ N', frR N N' → rdR N' B T p → Q N') : q_X6_readsOn N Q := R_readsOn hT hp h8 h6 (fun N' g a b c d e f => hq N' g ⟨a, b, c, d, e, f⟩)
theorem pos_c {c : Nat} (h : c ≠ 0) (h5 : c ≤ 5) : ¬ nI c ≤ 0 := nI_ge (a := 0) (by omega) (by omega)
theorem R_on_f {N : Mem} {c : Nat} {Q : Mem → Prop} (h6 : N 0 6 = nI c) (h : c ≠ 0) (h5 : c ≤ 5) (hq : Q N) : q_X6_readsOn N Q := ⟨0, br_f (by rw [h6]; exact pos_c h h5) hq⟩
theorem R_n47 {N : Mem} {c : Nat} {v1 : Int32} {Q : Int32 → Mem → Prop} (h6 : N 0 6 = nI c) (h : c ≠ 0) (h5 : c ≤ 5) (hq : Q v1 N) : f_X6_number_47 Q v1 N := bn_f (by rw [h6]; exact nI_n0 h h5) (R_on_f h6 h h5 hq)
theorem R_n20 {N : Mem} {c : Nat} {v1 v2 : Int32} {Q : Int32 → Mem → Prop} (h6 : N 0 6 = nI c) (h : c ≠ 0) (h5 : c ≤ 5) (hq : Q v1 N) : f_X6_number_20 Q v1 v2 N := bn_f (by rw [h6]; exact nI_n0 h h5) (R_n47 h6 h h5 hq)
theorem R_num_f {N : Mem} {c : Nat} {v1 v2 : Int32} {Q : Int32 → Mem → Prop} (h6 : N 0 6 = nI c) (h : c ≠ 0) (h5 : c ≤ 5) (hq : Q v1 N) : q_X6_number v1 v2 N Q := bn_f (by rw [h6]; exact nI_n0 h h5) (R_n20 h6 h h5 hq)
theorem R_num {N : Mem} {B : Nat → Int32} {T p : Nat} {lo hi : Int32} {Q : Int32 → Mem → Prop} (hT : rT N B T) (hp : p ≤ T) (hr : rdR N B T p)
    (hf : nF B T lo hi p ≠ 0 → ∀ N', frR N N' → N' 0 6 = nI (nF B T lo hi p) → N' 0 7 = nI (fB B T p) → Q lo N')
    (hg : nF B T lo hi p = 0 → ∀ N', frR N N' → rdR N' B T (oB B T p) → Q (val B T p) N') : q_X6_number lo hi N Q := by
  have hk4 := kB_le B T p
  have ho := oB_b (B := B) hp
  obtain ⟨r9, r8, r10, r6, r7, r11⟩ := hr
  by_cases h4 : kB B T p = 4
  · have en : nF B T lo hi p = 1 := if_pos h4
    rw [if_pos h4] at r6
    exact R_num_f (c := 1) r6 (by omega) (by omega) (hf (by omega) N frR.rf (by rw [r6, en]; rfl) (r7 h4))
  · rw [if_neg h4] at r6
    by_cases h2 : kB B T p = 2
    · have en : nF B T lo hi p = if lo ≤ val B T p ∧ val B T p ≤ hi then 0 else 3 := by
        unfold nF; rw [if_neg h4, if_pos h2]
      refine bn_t r6 (br_t (by rw [r10 h4, h2]; rfl) (bn_t r6 ?_))
      rw [r11 h2]
      refine R_inI rfl rfl (fun g => bn_f ne10 (bn_t r6 ?_)) (fun g => bn_t rfl (bn_t r6 ?_))
      · rw [if_pos g] at en
        rw [r11 h2]
        exact R_on hT ho.2.1 r8 r6 (fun N' g1 g2 => hg en N' g1 g2)
      · rw [if_neg g] at en
        rw [mU_mis (show 9 ≠ 6 by decide), r9]
        have e6 : (mU (mU N 0 6 3) 0 7 (nI (fB B T p))) 0 6 = nI 3 := by rw [mU_mis (by decide), mU_hit]; rfl
        exact R_n47 (c := 3) e6 (by omega) (by omega) (hf (by omega) _ ((frR.rf.u (by omega)).u (by omega)) (by rw [e6, en]) (by rw [mU_hit]))
    · have en : nF B T lo hi p = 2 := by unfold nF; rw [if_neg h4, if_neg h2]
      refine bn_t r6 (br_f (by rw [r10 h4]; exact nI_ne (b := 2) (by omega) (by omega) h2) (bn_t r6 ?_))
      rw [mU_mis (show 9 ≠ 6 by decide), r9]
      have e6 : (mU (mU N 0 6 2) 0 7 (nI (fB B T p))) 0 6 = nI 2 := by rw [mU_mis (by decide), mU_hit]; rfl
      exact R_n20 (c := 2) e6 (by omega) (by omega) (hf (by omega) _ ((frR.rf.u (by omega)).u (by omega)) (by rw [e6, en]) (by rw [mU_hit]))
/-- the sign that ends a line -/
theorem R_end_f {N : Mem} {c : Nat} {Q : Mem → Prop} (h6 : N 0 6 = nI c) (h : c ≠ 0) (h5 : c ≤ 5) (hq : Q N) : (¬ (N 0 6) = 0 → f_X6_readLine_136 Q N) ∧ ((N 0 6) = 0 → (((N 0 10) = (3 : Int32) → f_X6_readLine_136 Q N) ∧ (¬ (N 0 10) = (3 : Int32) → q_X6_fails (2 : Int32) N (fun M_11 => f_X6_readLine_136 Q M_11)))) := bn_f (by rw [h6]; exact nI_n0 h h5) (R_on_f h6 h h5 hq)
theorem R_end {N : Mem} {B : Nat → Int32} {T p : Nat} {Q : Mem → Prop} (hT : rT N B T) (hp : p ≤ T) (hr : rdR N B T p)
    (hf : mF B T p ≠ 0 → ∀ N', frR N N' → N' 0 6 = nI (mF B T p) → N' 0 7 = nI (fB B T p) → Q N')
    (hg : mF B T p = 0 → ∀ N', frR N N' → rdR N' B T (oB B T p) → Q N') : (¬ (N 0 6) = 0 → f_X6_readLine_136 Q N) ∧ ((N 0 6) = 0 → (((N 0 10) = (3 : Int32) → f_X6_readLine_136 Q N) ∧ (¬ (N 0 10) = (3 : Int32) → q_X6_fails (2 : Int32) N (fun M_11 => f_X6_readLine_136 Q M_11)))) := by
  have hk4 := kB_le B T p
  have ho := oB_b (B := B) hp
  obtain ⟨r9, r8, r10, r6, r7, r11⟩ := hr
  by_cases h4 : kB B T p = 4
  · have en : mF B T p = 1 := if_pos h4
    rw [if_pos h4] at r6
    exact R_end_f (c := 1) r6 (by omega) (by omega) (hf (by omega) N frR.rf (by rw [r6, en]; rfl) (r7 h4))
  · rw [if_neg h4] at r6
    by_cases h2 : kB B T p = 3
    · have en : mF B T p = 0 := by unfold mF; rw [if_neg h4, if_pos h2]
      exact bn_t r6 (br_t (by rw [r10 h4, h2]; rfl) (R_on hT ho.2.1 r8 r6 (fun N' g1 g2 => hg en N' g1 g2)))
    · have en : mF B T p = 2 := by unfold mF; rw [if_neg h4, if_neg h2]
      refine bn_t r6 (br_f (by rw [r10 h4]; exact nI_ne (b := 3) (by omega) (by omega) h2) (bn_t r6 ?_))
      rw [mU_mis (show 9 ≠ 6 by decide), r9]
      have e6 : (mU (mU N 0 6 2) 0 7 (nI (fB B T p))) 0 6 = nI 2 := by rw [mU_mis (by decide), mU_hit]; rfl
      exact R_on_f (c := 2) e6 (by omega) (by omega) (hf (by omega) _ ((frR.rf.u (by omega)).u (by omega)) (by rw [e6, en]) (by rw [mU_hit]))
def frL (N N' : Mem) : Prop := (∀ a, a ≠ 0 → a ≠ 2 → N' a = N a) ∧ ∀ j, j ≠ 2 → (j < 6 ∨ 11 < j) → N' 0 j = N 0 j
theorem frL.tr {A B C : Mem} (h : frL A B) (h2 : frL B C) : frL A C := ⟨fun a x y => (h2.1 a x y).trans (h.1 a x y), fun j x y => (h2.2 j x y).trans (h.2 j x y)⟩
theorem frL.rf {A : Mem} : frL A A := ⟨fun _ _ _ => rfl, fun _ _ _ => rfl⟩
theorem frR.l {A B : Mem} (h : frR A B) : frL A B := ⟨fun a x _ => h.1 a x, fun j _ y => h.2 j y⟩
theorem frL.p {A A' : Mem} (h : frL A A') {j : Nat} {x : Int32} : frL A (mU A' 2 j x) := ⟨fun a h0 h2 => by rw [mU_n h2, h.1 a h0 h2], fun i i2 hi => by rw [mU_n (by decide), h.2 i i2 hi]⟩
theorem frL.t {A A' : Mem} (h : frL A A') {x : Int32} : frL A (mU A' 0 2 x) := ⟨fun a h0 h2 => by rw [mU_n h0, h.1 a h0 h2], fun i i2 hi => by rw [mU_mis i2, h.2 i i2 hi]⟩
theorem rT_l {N N' : Mem} {B : Nat → Int32} {T : Nat} (h : rT N B T) (g : frL N N') : rT N' B T := ⟨h.1, (g.2 4 (by decide) (by omega)).trans h.2.1, (g.1 3 (by decide) (by decide)).trans h.2.2.1, h.2.2.2⟩
theorem rdR_p {N : Mem} {B : Nat → Int32} {T p a j : Nat} {x : Int32} (h : rdR N B T p) (ha : a ≠ 0) : rdR (mU N a j x) B T p := by
  have e : mU N a j x 0 = N 0 := mU_n (fun z => ha z.symm)
  unfold rdR
  rw [e]; exact h
def pgE (N : Mem) (P : Pg) : Prop := ∀ j, j < 37 → N 2 j = P j
theorem pgE_u {N : Mem} {P : Pg} {j : Nat} {x : Int32} (h : pgE N P) : pgE (mU N 2 j x) (upd P j x) := fun i hi => by rw [mU_r, up_at, h i hi]
theorem pgE_f {N N' : Mem} {P : Pg} (h : pgE N P) (g : frR N N') : pgE N' P := fun i hi => by rw [g.1 2 (by decide)]; exact h i hi
def z4 (P : Pg) : Prop := (∀ i, i < 4 → P (31 + i) = 0) ∧ P 36 = 0
theorem pWh_z {P : Pg} {k s : Int32} (hz : z4 P) (hw : wN P < 4) : upd (upd (upd P (23 + wN P) k) (27 + wN P) s) 35 (nI (wN P + 1)) = pWh P k s := by
  funext j
  unfold pWh
  simp only [up_at]
  by_cases h1 : j = 35
  · rw [if_pos h1, if_pos h1]
  · rw [if_neg h1, if_neg h1]
    by_cases h2 : j = 31 + wN P
    · rw [if_pos h2, if_neg (by omega), if_neg (by omega), h2]; exact hz.1 _ hw
    · rw [if_neg h2]
theorem lnP_z {B : Nat → Int32} {T p : Nat} {P : Pg} (hz : z4 P) (h10 : cN P ≤ 10) (h4 : nm B T p < 4 → wN P < 4) : z4 (lnP B T p P) := by
  unfold lnP
  split
  · next hn =>
    have h4' := h4 hn
    refine ⟨fun i hi => ?_, ?_⟩
    · unfold pWh
      rw [up_n (by omega), up_at]
      split
      · rfl
      · rw [up_n (by omega), up_n (by omega)]; exact hz.1 i hi
    · unfold pWh
      rw [up_n (by omega), up_n (by omega), up_n (by omega), up_n (by omega)]; exact hz.2
  · split
    · unfold pCo
      refine ⟨fun i hi => ?_, ?_⟩
      · rw [up_n (by omega), up_n (by omega), up_n (by omega)]; exact hz.1 i hi
      · rw [up_n (by omega), up_n (by omega), up_n (by omega)]; exact hz.2
    · unfold pol
      refine ⟨fun i hi => ?_, ?_⟩
      · rw [up_n (by omega), up_n (by omega)]; exact hz.1 i hi
      · rw [up_n (by omega), up_n (by omega)]; exact hz.2
set_option maxHeartbeats 1000000 in
theorem R_more {N : Mem} {B : Nat → Int32} {T p : Nat} {P : Pg} {pt : Bool} {Q : Mem → Prop} (hT : rT N B T) (hp : oB B T p ≤ T) (hr : rdR N B T (oB B T p)) (hP : pgE N P) (hO : OK P) (hz : z4 P) (hw0 : fw B T p P pt = 0)
    (hf : ∀ c a N', lnC B T p P pt = (c, a) → c ≠ 0 → frL N N' → N' 0 6 = nI c → N' 0 7 = nI a → N' 0 2 = N 0 2 → Q N')
    (hg : ∀ p' N', lnC B T p P pt = (0, p') → frL N N' → rdR N' B T p' → pgE N' (lnP B T p P) → N' 0 2 = N 0 2 → Q N') : q_X6_readMore (nI (nm B T p)) N (fun M_10 => ((¬ (M_10 0 6) = 0 → f_X6_readLine_136 Q M_10) ∧ ((M_10 0 6) = 0 → (((M_10 0 10) = (3 : Int32) → f_X6_readLine_136 Q M_10) ∧ (¬ (M_10 0 10) = (3 : Int32) → q_X6_fails (2 : Int32) M_10 (fun M_11 => f_X6_readLine_136 Q M_11)))))) := by
  have h160 := hT.1
  have hn := nm_le B T p
  obtain ⟨w6, w4, w10, w5⟩ := fw_0 hw0
  have h10 := hO.1.1.2
  have h4 := hO.1.2.1.2
  have ho1 := oB_b (B := B) hp
  have ho2 := oB_b (B := B) ho1.2.1
  have e20 : N 2 20 = nI (cN P) := (hP 20 (by omega)).trans hO.1.1.1
  have e35 : N 2 35 = nI (wN P) := (hP 35 (by omega)).trans hO.1.2.1.1
  unfold q_X6_readMore
  rw [e20, e35, li 23, li 27, li 10, nI_add, nI_add, nI_add, nI_clamp (show cN P < 2 ^ 31 by omega), nI_clamp (show 10 + cN P < 2 ^ 31 by omega), nI_clamp (show 23 + wN P < 2 ^ 31 by omega), nI_clamp (show 27 + wN P < 2 ^ 31 by omega)]
  by_cases n3 : nm B T p < 4
  · have hw4 : wN P < 4 := by have := w4 n3; omega
    have eC : lnC B T p P pt = (if nF B T 1 9 (oB B T p) ≠ 0 then (nF B T 1 9 (oB B T p), fB B T (oB B T p)) else if mF B T (oB B T (oB B T p)) ≠ 0 then (mF B T (oB B T (oB B T p)), fB B T (oB B T (oB B T p))) else (0, oB B T (oB B T (oB B T p)))) := by
      unfold lnC; rw [if_neg (by omega), if_pos n3]
    have eP : lnP B T p P = pWh P (nI (nm B T p)) (val B T (oB B T p)) := by unfold lnP; rw [if_pos n3]
    have n5 := nF_le B T 1 9 (oB B T p)
    have hT1 : rT (mU N 2 (23 + wN P) (nI (nm B T p))) B T := rT_l hT frL.rf.p
    refine br_f (by rw [li 3]; exact nI_nlt (by omega) (by omega)) ⟨vp_in_nI (by omega) (by omega), R_num hT1 hp (rdR_p hr (by decide)) (fun hnf N2 g2 b6 b7 => ⟨vp_in_nI (by omega) (by omega), fun M16 e16 => ?_⟩) (fun hnf N2 g2 b => ⟨vp_in_nI (by omega) (by omega), fun M16 e16 => ?_⟩)⟩
    · have fl : frL N M16 := by rw [e16]; exact ((frL.rf.p.tr g2.l).p).p
      have e0 : M16 0 = N2 0 := by rw [e16, mU_n (by decide), mU_n (by decide)]
      refine R_end_f (c := nF B T 1 9 (oB B T p)) (by rw [e0]; exact b6) hnf n5 (hf _ _ M16 (by rw [eC, if_pos hnf]) hnf fl (by rw [e0]; exact b6) (by rw [e0]; exact b7) (by rw [e0, g2.2 2 (by omega), mU_n (by decide)]))
    · rw [if_neg (by omega)] at eC
      have p2 : pgE N2 (upd P (23 + wN P) (nI (nm B T p))) := pgE_f (pgE_u hP) g2
      have e352 : N2 2 35 = nI (wN P) := by rw [g2.1 2 (by decide), mU_mis (by omega)]; exact e35
      rw [mU_mis (show 35 ≠ 27 + wN P by omega), e352, li 1, nI_add] at e16
      have p16 : pgE M16 (lnP B T p P) := by
        rw [eP, ← pWh_z hz hw4, e16]
        exact pgE_u (pgE_u p2)
      have fl : frL N M16 := by rw [e16]; exact ((frL.rf.p.tr g2.l).p).p
      have e0 : M16 0 = N2 0 := by rw [e16, mU_n (by decide), mU_n (by decide)]
      have r16 : rdR M16 B T (oB B T (oB B T p)) := by
        unfold rdR; rw [e0]; exact b
      have e02 : M16 0 2 = N 0 2 := by rw [e0, g2.2 2 (by omega), mU_n (by decide)]
      refine R_end (rT_l hT fl) ho1.2.1 r16 (fun hm N3 g3 c6 c7 => ?_) (fun hm N3 g3 c => ?_)
      · exact hf _ _ N3 (by rw [eC, if_pos hm]) hm (fl.tr g3.l) c6 c7 (by rw [g3.2 2 (by omega)]; exact e02)
      · exact hg _ N3 (by rw [eC, if_neg (by omega)]) (fl.tr g3.l) c (pgE_f p16 g3) (by rw [g3.2 2 (by omega)]; exact e02)
  · have eC : lnC B T p P pt = (if nF B T 0 20 (oB B T p) ≠ 0 then (nF B T 0 20 (oB B T p), fB B T (oB B T p)) else if nF B T 0 20 (oB B T (oB B T p)) ≠ 0 then (nF B T 0 20 (oB B T (oB B T p)), fB B T (oB B T (oB B T p))) else if mF B T (oB B T (oB B T (oB B T p))) ≠ 0 then (mF B T (oB B T (oB B T (oB B T p))), fB B T (oB B T (oB B T (oB B T p)))) else (0, oB B T (oB B T (oB B T (oB B T p))))) := by
      unfold lnC; rw [if_neg (by omega), if_neg n3]
    have n5 := nF_le B T 0 20 (oB B T p)
    have m5 := nF_le B T 0 20 (oB B T (oB B T p))
    refine br_t (by rw [li 3]; exact nI_lt (by omega) (by omega)) ?_
    by_cases n4 : nm B T p = 4
    · have hc10 : cN P < 10 := by have := w10 n4; omega
      have eP : lnP B T p P = pCo P (val B T (oB B T p)) (val B T (oB B T (oB B T p))) := by unfold lnP; rw [if_neg n3, if_pos n4]
      rw [n4]
      refine bn_t rfl (R_num hT hp hr (fun hnf N2 g2 b6 b7 => ⟨vp_in_nI (by omega) (by omega), ?_⟩) (fun hnf N2 g2 b => ⟨vp_in_nI (by omega) (by omega), ?_⟩))
      · have e6 : (mU N2 2 (cN P) 0) 0 6 = nI (nF B T 0 20 (oB B T p)) := by rw [mU_n (by decide)]; exact b6
        refine R_num_f e6 hnf n5 ⟨vp_in_nI (by omega) (by omega), fun M11 e11 => ?_⟩
        have fl : frL N M11 := by rw [e11]; exact ((g2.l.p).p).p
        have e0 : M11 0 = N2 0 := by rw [e11, mU_n (by decide), mU_n (by decide), mU_n (by decide)]
        exact R_end_f (c := nF B T 0 20 (oB B T p)) (by rw [e0]; exact b6) hnf n5 (hf _ _ M11 (by rw [eC, if_pos hnf]) hnf fl (by rw [e0]; exact b6) (by rw [e0]; exact b7) (by rw [e0, g2.2 2 (by omega)]))
      · rw [if_neg (by omega)] at eC
        have fl1 : frL N (mU N2 2 (cN P) (val B T (oB B T p))) := g2.l.p
        refine R_num (rT_l hT fl1) ho1.2.1 (rdR_p b (by decide)) (fun hnf2 N3 g3 c6 c7 => ⟨vp_in_nI (by omega) (by omega), fun M11 e11 => ?_⟩) (fun hnf2 N3 g3 c => ⟨vp_in_nI (by omega) (by omega), fun M11 e11 => ?_⟩)
        · have fl : frL N M11 := by rw [e11]; exact ((fl1.tr g3.l).p).p
          have e0 : M11 0 = N3 0 := by rw [e11, mU_n (by decide), mU_n (by decide)]
          exact R_end_f (c := nF B T 0 20 (oB B T (oB B T p))) (by rw [e0]; exact c6) hnf2 m5 (hf _ _ M11 (by rw [eC, if_pos hnf2]) hnf2 fl (by rw [e0]; exact c6) (by rw [e0]; exact c7) (by rw [e0, g3.2 2 (by omega), mU_n (by decide), g2.2 2 (by omega)]))
        · rw [if_neg (by omega)] at eC
          have p2 : pgE N3 (upd P (cN P) (val B T (oB B T p))) := pgE_f (pgE_u (pgE_f hP g2)) g3
          have e203 : N3 2 20 = nI (cN P) := by rw [g3.1 2 (by decide), mU_mis (by omega), g2.1 2 (by decide)]; exact e20
          rw [mU_mis (show 20 ≠ 10 + cN P by omega), e203, li 1, nI_add] at e11
          have p11 : pgE M11 (lnP B T p P) := by
            rw [eP, e11]
            exact pgE_u (pgE_u p2)
          have fl : frL N M11 := by rw [e11]; exact ((fl1.tr g3.l).p).p
          have e0 : M11 0 = N3 0 := by rw [e11, mU_n (by decide), mU_n (by decide)]
          have r11 : rdR M11 B T (oB B T (oB B T (oB B T p))) := by
            unfold rdR; rw [e0]; exact c
          have e02 : M11 0 2 = N 0 2 := by rw [e0, g3.2 2 (by omega), mU_n (by decide), g2.2 2 (by omega)]
          refine R_end (rT_l hT fl) ho2.2.1 r11 (fun hm N4 g4 d6 d7 => ?_) (fun hm N4 g4 d => ?_)
          · exact hf _ _ N4 (by rw [eC, if_pos hm]) hm (fl.tr g4.l) d6 d7 (by rw [g4.2 2 (by omega)]; exact e02)
          · exact hg _ N4 (by rw [eC, if_neg (by omega)]) (fl.tr g4.l) d (pgE_f p11 g4) (by rw [g4.2 2 (by omega)]; exact e02)
    · have eP : lnP B T p P = pol P (val B T (oB B T p)) (val B T (oB B T (oB B T p))) := by unfold lnP; rw [if_neg n3, if_neg n4]
      refine bn_f (nI_ne (b := 4) (by omega) (by omega) n4) (R_num hT hp hr (fun hnf N2 g2 b6 b7 => ?_) (fun hnf N2 g2 b => ?_))
      · have e6 : (mU N2 2 21 0) 0 6 = nI (nF B T 0 20 (oB B T p)) := by rw [mU_n (by decide)]; exact b6
        refine R_num_f e6 hnf n5 ?_
        have e0 : (mU (mU N2 2 21 0) 2 22 0) 0 = N2 0 := by rw [mU_n (by decide), mU_n (by decide)]
        exact R_end_f (c := nF B T 0 20 (oB B T p)) (by rw [e0]; exact b6) hnf n5 (hf _ _ _ (by rw [eC, if_pos hnf]) hnf ((g2.l.p).p) (by rw [e0]; exact b6) (by rw [e0]; exact b7) (by rw [e0, g2.2 2 (by omega)]))
      · rw [if_neg (by omega)] at eC
        have fl1 : frL N (mU N2 2 21 (val B T (oB B T p))) := g2.l.p
        refine R_num (rT_l hT fl1) ho1.2.1 (rdR_p b (by decide)) (fun hnf2 N3 g3 c6 c7 => ?_) (fun hnf2 N3 g3 c => ?_)
        · have e0 : (mU N3 2 22 0) 0 = N3 0 := by rw [mU_n (by decide)]
          exact R_end_f (c := nF B T 0 20 (oB B T (oB B T p))) (by rw [e0]; exact c6) hnf2 m5 (hf _ _ _ (by rw [eC, if_pos hnf2]) hnf2 ((fl1.tr g3.l).p) (by rw [e0]; exact c6) (by rw [e0]; exact c7) (by rw [e0, g3.2 2 (by omega), mU_n (by decide), g2.2 2 (by omega)]))
        · rw [if_neg (by omega)] at eC
          have p2 : pgE N3 (upd P 21 (val B T (oB B T p))) := pgE_f (pgE_u (pgE_f hP g2)) g3
          have p11 : pgE (mU N3 2 22 (val B T (oB B T (oB B T p)))) (lnP B T p P) := by rw [eP]; exact pgE_u p2
          have fl : frL N (mU N3 2 22 (val B T (oB B T (oB B T p)))) := (fl1.tr g3.l).p
          have e02 : (mU N3 2 22 (val B T (oB B T (oB B T p)))) 0 2 = N 0 2 := by rw [mU_n (by decide), g3.2 2 (by omega), mU_n (by decide), g2.2 2 (by omega)]
          refine R_end (rT_l hT fl) ho2.2.1 (rdR_p c (by decide)) (fun hm N4 g4 d6 d7 => ?_) (fun hm N4 g4 d => ?_)
          · exact hf _ _ N4 (by rw [eC, if_pos hm]) hm (fl.tr g4.l) d6 d7 (by rw [g4.2 2 (by omega)]; exact e02)
          · exact hg _ N4 (by rw [eC, if_neg (by omega)]) (fl.tr g4.l) d (pgE_f p11 g4) (by rw [g4.2 2 (by omega)]; exact e02)
