/-! text: a line of the class -/
def fL (M M' : Mem) : Prop := (∀ a, a ≠ 15 → a ≠ 16 → (a < 18 ∨ 23 < a) → M' a = M a) ∧ (∀ j, j ≠ 2 → j ≠ 4 → j ≠ 5 → M' 15 j = M 15 j) ∧ ∀ j, (j < 2 ∨ 4 < j) → M' 16 j = M 16 j
theorem OK_pol {P : Pg} {a b : Int32} (h : OK P) (ha : pl a) (hb : pl b) : OK (pol P a b) := OK_upd (OK_upd h (by decide) (by decide) (by decide) (fun _ => ha) (fun z => absurd z (by decide)) (fun z => absurd z (by decide)) (fun z => absurd z (by decide))) (by decide) (by decide) (by decide) (fun _ => hb) (fun z => absurd z (by decide)) (fun z => absurd z (by decide)) (fun z => absurd z (by decide))
theorem isX_A {M M' : Mem} {P : Pg} (h : isX M 18 P) (g : frA M M') : isX M' 18 P := h.of (fun i hi => g.1 _ (by omega) (by omega))
theorem X_f62f {M : Mem} {Q : Mem → Prop} {v1 v3 s0 : Int32} (h0 : ¬ M 15 4 = 0) (hq : Q M) : f_X4_readLine_62 Q v1 v3 s0 M := X_semi_f h0 (bn_f h0 hq)
theorem X_f46f {M : Mem} {B : Nat → Int32} {T p : Nat} {Q : Mem → Prop} {v1 v2 s0 : Int32} (hk : tkX M B T p) (h0 : ¬ M 15 4 = 0) (hq : Q M) : f_X4_readLine_46 Q v1 v2 s0 M := br_c (fun _ => X_take_f hk h0 (fun r => X_f62f h0 hq)) (fun _ => X_f62f h0 hq)
theorem X_f24f {M : Mem} {B : Nat → Int32} {T p : Nat} {Q : Mem → Prop} {v1 s0 : Int32} (hk : tkX M B T p) (h0 : ¬ M 15 4 = 0) (hq : Q M) : f_X4_readLine_24 Q v1 s0 M := br_c (fun _ => X_take_f hk h0 (fun r => X_f46f hk h0 hq)) (fun _ => X_take_f hk h0 (fun r => X_f46f hk h0 hq))
theorem nI_n0 {c : Nat} (h : c ≠ 0) (h5 : c ≤ 5) : ¬ nI c = 0 := nI_ne0 (by omega) (by omega)
theorem fw_0 {B : Nat → Int32} {T p : Nat} {P : Pg} {pt : Bool} (h : fw B T p P pt = 0) : nm B T p < 6 ∧ (nm B T p < 4 → wN P ≠ 4) ∧ (nm B T p = 4 → cN P ≠ 10) ∧ (nm B T p = 5 → pt = false) := by
  have hn := nm_le B T p
  unfold fw at h
  by_cases h6 : nm B T p = 6
  · rw [if_pos h6] at h; omega
  · rw [if_neg h6] at h
    refine ⟨by omega, fun z y => ?_, fun z y => ?_, fun z => ?_⟩
    · rw [if_neg (by omega), if_neg (by omega), if_pos y] at h; omega
    · rw [if_neg (by omega), if_pos z, if_pos y] at h; omega
    · rw [if_pos z] at h
      cases pt with
      | true => rw [if_pos rfl] at h; omega
      | false => rfl
/-- the sign, then what is told -/
theorem X_f62 {M M1 : Mem} {B : Nat → Int32} {T p q : Nat} {P : Pg} {pt : Bool} {v s0 : Int32} {Q : Mem → Prop} (g : frA M M1) (hk : tkX M1 B T q) (hk0 : kB B T q ≠ 0) (h0 : M1 15 4 = 0) (hX : isX M 18 P) (hO : OK P) (hpt : M 15 2 = if pt then 1 else 0)
    (hw0 : fw B T p P pt = 0) (hP : OK (lnP B T p P)) (hv : v = val B T (oB B T p)) (hs : ¬ nm B T p < 4 → s0 = val B T (oB B T (oB B T p)))
    (hf : mF B T (oB B T q) ≠ 0 → ∀ M', frA M M' → M' 15 4 = nI (mF B T (oB B T q)) → M' 15 5 = nI (fB B T (oB B T q)) → Q M')
    (hg : mF B T (oB B T q) = 0 → ∀ M', fL M M' → M' 16 4 = nI (oB B T (oB B T q)) → M' 15 4 = 0 → isX M' 18 (lnP B T p P) → (M' 15 2 = if lnT B T p pt then 1 else 0) → Q M') : f_X4_readLine_62 Q (nI (nm B T p)) v s0 M1 := by
  have hm5 := mF_le B T (oB B T q)
  obtain ⟨w6, w4, w10, w5⟩ := fw_0 hw0
  have h10 := hO.1.1.2
  have h4 := hO.1.2.1.2
  refine X_semi hk hk0 h0 (fun M2 g2 t2 a4 a5 => ?_)
  have gA := g.tr g2
  by_cases hm : mF B T (oB B T q) = 0
  · have k3 := mF_0 hm
    have e4 : M2 15 4 = 0 := by rw [a4, hm]; rfl
    have to : M2 16 4 = nI (oB B T (oB B T q)) := t2.2.2.2.2 (by omega)
    have hX2 := isX_A hX gA
    have hc2 : M2 18 2 = nI (cN P) := hX2.1.trans hO.1.1.1
    have hw2 : M2 18 6 = nI (wN P) := hX2.2.1.trans hO.1.2.1.1
    have ept : M2 15 2 = if pt then 1 else 0 := (gA.2.1 2 (by decide) (by decide)).trans hpt
    refine bn_t e4 ?_
    by_cases n4 : nm B T p = 4
    · have eP : lnP B T p P = pCo P (val B T (oB B T p)) (val B T (oB B T (oB B T p))) := by
        unfold lnP; rw [if_neg (by omega), if_pos n4]
      have eT : lnT B T p pt = pt := by unfold lnT; rw [if_neg (by omega)]
      have hc10 : cN P < 10 := by have := w10 n4; omega
      rw [n4, hv, hs (by omega)]
      refine br_t rfl (L_appendCorner hc2 hc10 (hg hm _ ⟨fun a h15 h16 h18 => ?_, fun j j2 j4 j5 => ?_, fun j hj => ?_⟩ ?_ ?_ ?_ ?_))
      · unfold mCo; rw [mU_n (by omega), mU_n (by omega), mU_n (by omega), gA.1 a h15 h16]
      · unfold mCo; rw [mU_n (by decide), mU_n (by decide), mU_n (by decide), gA.2.1 j j4 j5]
      · unfold mCo; rw [mU_n (by decide), mU_n (by decide), mU_n (by decide), gA.2.2 j hj]
      · unfold mCo; rw [mU_n (by decide), mU_n (by decide), mU_n (by decide)]; exact to
      · unfold mCo; rw [mU_n (by decide), mU_n (by decide), mU_n (by decide)]; exact e4
      · rw [eP]; exact isX_pCo hX2 hc10
      · rw [eT]; unfold mCo; rw [mU_n (by decide), mU_n (by decide), mU_n (by decide)]; exact ept
    · refine br_f (nI_ne (b := 4) (by omega) (by omega) n4) ?_
      by_cases n5 : nm B T p = 5
      · have eP : lnP B T p P = pol P (val B T (oB B T p)) (val B T (oB B T (oB B T p))) := by
          unfold lnP; rw [if_neg (by omega), if_neg n4]
        have eT : lnT B T p pt = true := by unfold lnT; rw [if_pos n5]
        rw [n5, hv, hs (by omega)]
        refine br_t rfl (hg hm _ ⟨fun a h15 h16 h18 => ?_, fun j j2 j4 j5 => ?_, fun j hj => ?_⟩ ?_ ?_ ?_ ?_)
        · rw [mU_n h15, mU_n (by omega), mU_n (by omega), gA.1 a h15 h16]
        · rw [mU_mis j2, mU_n (by decide), mU_n (by decide), gA.2.1 j j4 j5]
        · rw [mU_n (by decide), mU_n (by decide), mU_n (by decide), gA.2.2 j hj]
        · rw [mU_n (by decide), mU_n (by decide), mU_n (by decide)]; exact to
        · rw [mU_mis (by decide), mU_n (by decide), mU_n (by decide)]; exact e4
        · rw [eP]; exact (isX_pole hX2 h4 h10 _ _).of (fun i hi => mU_n (by omega))
        · rw [eT, mU_hit]; rfl
      · have n3 : nm B T p < 4 := by omega
        have eP : lnP B T p P = pWh P (nI (nm B T p)) (val B T (oB B T p)) := by
          unfold lnP; rw [if_pos n3]
        have eT : lnT B T p pt = pt := by unfold lnT; rw [if_neg n5]
        have hw4 : wN P < 4 := by have := w4 n3; omega
        rw [hv]
        refine br_f (nI_ne (b := 5) (by omega) (by omega) n5) (L_appendWheel hw2 hw4 (hg hm _ ⟨fun a h15 h16 h18 => ?_, fun j j2 j4 j5 => ?_, fun j hj => ?_⟩ ?_ ?_ ?_ ?_))
        · unfold mWh; rw [mU_n (by omega), mU_n (by omega), mU_n (by omega), mU_n (by omega), gA.1 a h15 h16]
        · unfold mWh; rw [mU_n (by decide), mU_n (by decide), mU_n (by decide), mU_n (by decide), gA.2.1 j j4 j5]
        · unfold mWh; rw [mU_n (by decide), mU_n (by decide), mU_n (by decide), mU_n (by decide), gA.2.2 j hj]
        · unfold mWh; rw [mU_n (by decide), mU_n (by decide), mU_n (by decide), mU_n (by decide)]; exact to
        · unfold mWh; rw [mU_n (by decide), mU_n (by decide), mU_n (by decide), mU_n (by decide)]; exact e4
        · rw [eP]; exact isX_pWh hX2 h10 hw4
        · rw [eT]; unfold mWh; rw [mU_n (by decide), mU_n (by decide), mU_n (by decide), mU_n (by decide)]; exact ept
  · exact bn_f (by rw [a4]; exact nI_n0 hm hm5) (hf hm _ gA a4 (a5 hm))
theorem X_readLine {M : Mem} {B : Nat → Int32} {T p : Nat} {P : Pg} {pt : Bool} {Q : Mem → Prop} (hk : tkX M B T p) (hk0 : kB B T p ≠ 0) (h0 : M 15 4 = 0) (hX : isX M 18 P) (hO : OK P) (hpt : M 15 2 = if pt then 1 else 0)
    (hf : ∀ c a M', lnC B T p P pt = (c, a) → c ≠ 0 → frA M M' → M' 15 4 = nI c → M' 15 5 = nI a → Q M')
    (hg : ∀ p' M', lnC B T p P pt = (0, p') → fL M M' → M' 16 4 = nI p' → M' 15 4 = 0 → isX M' 18 (lnP B T p P) → OK (lnP B T p P) → (M' 15 2 = if lnT B T p pt then 1 else 0) → Q M') : q_X4_readLine M Q := by
  have hn := nm_le B T p
  have hfw := fw_le B T p P pt
  have h10 := hO.1.1.2
  have h4 := hO.1.2.1.2
  refine X_word hk.1 hk.2.1 hk.2.2.1 hk.2.2.2.1 hk.2.2.2.2 (X_fault hX hO hpt (bn_t h0 ?_))
  rw [mU_n (show (16 : Nat) ≠ 15 by decide), hk.2.2.1]
  have g1 : frA M (mU (mU M 15 4 (nI (fw B T p P pt))) 15 5 (nI (fB B T p))) := (frA.rf.u (by omega)).u (by omega)
  have t1 : tkX (mU (mU M 15 4 (nI (fw B T p P pt))) 15 5 (nI (fB B T p))) B T p := tkX_u (tkX_u hk (by decide) (by decide)) (by decide) (by decide)
  have f1 : (mU (mU M 15 4 (nI (fw B T p P pt))) 15 5 (nI (fB B T p))) 15 4 = nI (fw B T p P pt) := by rw [mU_mis (by decide), mU_hit]
  have f5 : (mU (mU M 15 4 (nI (fw B T p P pt))) 15 5 (nI (fB B T p))) 15 5 = nI (fB B T p) := by rw [mU_hit]
  generalize mU (mU M 15 4 (nI (fw B T p P pt))) 15 5 (nI (fB B T p)) = M1 at g1 t1 f1 f5
  by_cases hw0 : fw B T p P pt = 0
  · obtain ⟨w6, w4, w10, w5⟩ := fw_0 hw0
    have f1' : M1 15 4 = 0 := by rw [f1, hw0]; rfl
    by_cases n3 : nm B T p < 4
    · have eC : lnC B T p P pt = (if nF B T 1 9 (oB B T p) ≠ 0 then (nF B T 1 9 (oB B T p), fB B T (oB B T p)) else if mF B T (oB B T (oB B T p)) ≠ 0 then (mF B T (oB B T (oB B T p)), fB B T (oB B T (oB B T p))) else (0, oB B T (oB B T (oB B T p)))) := by
        unfold lnC; rw [if_neg (by omega), if_pos n3]
      refine br_f (by rw [li 4]; exact nI_ge (by omega) (by omega)) (br_f ne10 (X_take t1 hk0 f1' (fun M2 r g2 t2 a4 a5 a6 => ?_)))
      have n5 := nF_le B T 1 9 (oB B T p)
      by_cases hnf : nF B T 1 9 (oB B T p) = 0
      · have hn2 := nF_0 hnf
        have e4 : M2 15 4 = 0 := by rw [a4, hnf]; rfl
        rw [if_neg (by omega)] at eC
        have hP : OK (lnP B T p P) := by
          unfold lnP; rw [if_pos n3]
          exact OK_pWh hO (by have := w4 n3; omega) (kd_nI (by omega)) (sp_of hn2.2)
        refine br_f ne10 (X_f62 (p := p) (pt := pt) (g1.tr g2) t2 (by omega) e4 hX hO hpt hw0 hP (a6 hnf) (fun z => absurd n3 z) (fun hm M' x1 x2 x3 => ?_) (fun hm M' x1 x2 x3 x4 x5 => ?_))
        · exact hf _ _ M' (by rw [eC, if_pos hm]) hm x1 x2 x3
        · exact hg _ M' (by rw [eC, if_neg (by omega)]) x1 x2 x3 x4 hP x5
      · have ne : ¬ M2 15 4 = 0 := by rw [a4]; exact nI_n0 hnf n5
        exact X_f46f t2 ne (hf _ _ M2 (by rw [eC, if_pos hnf]) hnf (g1.tr g2) a4 (a5 hnf))
    · have eC : lnC B T p P pt = (if nF B T 0 20 (oB B T p) ≠ 0 then (nF B T 0 20 (oB B T p), fB B T (oB B T p)) else if nF B T 0 20 (oB B T (oB B T p)) ≠ 0 then (nF B T 0 20 (oB B T (oB B T p)), fB B T (oB B T (oB B T p))) else if mF B T (oB B T (oB B T (oB B T p))) ≠ 0 then (mF B T (oB B T (oB B T (oB B T p))), fB B T (oB B T (oB B T (oB B T p)))) else (0, oB B T (oB B T (oB B T (oB B T p))))) := by
        unfold lnC; rw [if_neg (by omega), if_neg n3]
      refine br_t (by rw [li 4]; exact nI_le (by omega) (by omega)) (br_t rfl (X_take t1 hk0 f1' (fun M2 r g2 t2 a4 a5 a6 => ?_)))
      have n5 := nF_le B T 0 20 (oB B T p)
      by_cases hnf : nF B T 0 20 (oB B T p) = 0
      · have hn2 := nF_0 hnf
        have e4 : M2 15 4 = 0 := by rw [a4, hnf]; rfl
        rw [if_neg (by omega)] at eC
        refine br_t rfl (X_take t2 (by omega) e4 (fun M3 r3 g3 t3 b4 b5 b6 => ?_))
        have m5 := nF_le B T 0 20 (oB B T (oB B T p))
        by_cases hnf2 : nF B T 0 20 (oB B T (oB B T p)) = 0
        · have hn3 := nF_0 hnf2
          have e43 : M3 15 4 = 0 := by rw [b4, hnf2]; rfl
          rw [if_neg (by omega)] at eC
          have hP : OK (lnP B T p P) := by
            unfold lnP; rw [if_neg n3]
            split
            · next n4 => exact OK_pCo hO (by have := w10 n4; omega) (pl_of hn2.2) (pl_of hn3.2)
            · exact OK_pol hO (pl_of hn2.2) (pl_of hn3.2)
          refine X_f62 (p := p) (pt := pt) ((g1.tr g2).tr g3) t3 (by omega) e43 hX hO hpt hw0 hP (a6 hnf) (fun _ => b6 hnf2) (fun hm M' x1 x2 x3 => ?_) (fun hm M' x1 x2 x3 x4 x5 => ?_)
          · exact hf _ _ M' (by rw [eC, if_pos hm]) hm x1 x2 x3
          · exact hg _ M' (by rw [eC, if_neg (by omega)]) x1 x2 x3 x4 hP x5
        · have ne : ¬ M3 15 4 = 0 := by rw [b4]; exact nI_n0 hnf2 m5
          exact X_f62f ne (hf _ _ M3 (by rw [eC, if_pos hnf2]) hnf2 ((g1.tr g2).tr g3) b4 (b5 hnf2))
      · have ne : ¬ M2 15 4 = 0 := by rw [a4]; exact nI_n0 hnf n5
        exact X_f46f t2 ne (hf _ _ M2 (by rw [eC, if_pos hnf]) hnf (g1.tr g2) a4 (a5 hnf))
  · have eC : lnC B T p P pt = (fw B T p P pt, fB B T p) := by unfold lnC; rw [if_pos hw0]
    have ne : ¬ M1 15 4 = 0 := by rw [f1]; exact nI_n0 hw0 hfw
    have fin := hf _ _ M1 eC hw0 g1 f1 f5
    exact br_c (fun _ => X_f24f t1 ne fin) (fun _ => X_f24f t1 ne fin)
