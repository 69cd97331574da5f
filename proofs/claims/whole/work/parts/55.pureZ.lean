/-! text: a line of the reference, the text -/
theorem R_name96 {N : Mem} {B : Nat → Int32} {T p : Nat} {P : Pg} {pt : Bool} {Q : Mem → Prop} {x : Int32} (hT : rT N B T) (hp : p ≤ T) (h8 : N 0 8 = nI (oB B T p)) (h6 : N 0 6 = nI (fw B T p P pt)) (h7 : fw B T p P pt ≠ 0 → N 0 7 = nI (fB B T p)) (hP : pgE N P) (hO : OK P) (hz : z4 P) (hx : x = if lnT B T p pt then 1 else 0)
    (hf : ∀ c a N', lnC B T p P pt = (c, a) → c ≠ 0 → frL N N' → N' 0 6 = nI c → N' 0 7 = nI a → Q N')
    (hg : ∀ p' N', lnC B T p P pt = (0, p') → frL N N' → rdR N' B T p' → pgE N' (lnP B T p P) → N' 0 2 = (if lnT B T p pt then 1 else 0) → Q N') : f_X6_readLine_96 Q (nI (nm B T p)) x N := by
  have hfw := fw_le B T p P pt
  have ho := oB_b (B := B) hp
  have iz : isZ x := by
    rw [hx]
    cases lnT B T p pt with
    | true => exact ⟨by decide, by decide⟩
    | false => exact ⟨by decide, by decide⟩
  refine ⟨iz, ?_⟩
  have fl0 : frL N (mU N 0 2 x) := frL.rf.t
  by_cases hw0 : fw B T p P pt = 0
  · have e6 : (mU N 0 2 x) 0 6 = 0 := by rw [mU_mis (by decide), h6, hw0]; rfl
    refine R_on (rT_l hT fl0) ho.2.1 (by rw [mU_mis (by decide)]; exact h8) e6 (fun N1 g1 r1 => ?_)
    have fl1 : frL N N1 := fl0.tr g1.l
    have e02 : N1 0 2 = x := by rw [g1.2 2 (by omega), mU_hit]
    by_cases hk : kB B T (oB B T p) = 4
    · have e61 : N1 0 6 = 1 := by rw [r1.2.2.2.1, if_pos hk]
      refine br_f (by rw [e61]; decide) ?_
      by_cases n3 : nm B T p < 4
      · have en : nF B T 1 9 (oB B T p) = 1 := if_pos hk
        have eC : lnC B T p P pt = (1, fB B T (oB B T p)) := by unfold lnC; rw [if_neg (by omega), if_pos n3, if_pos (by omega), en]
        exact hf _ _ N1 eC (by omega) fl1 e61 (r1.2.2.2.2.1 hk)
      · have en : nF B T 0 20 (oB B T p) = 1 := if_pos hk
        have eC : lnC B T p P pt = (1, fB B T (oB B T p)) := by unfold lnC; rw [if_neg (by omega), if_neg n3, if_pos (by omega), en]
        exact hf _ _ N1 eC (by omega) fl1 e61 (r1.2.2.2.2.1 hk)
    · have e61 : N1 0 6 = 0 := by rw [r1.2.2.2.1, if_neg hk]
      refine br_t (by rw [e61]; decide) (R_more (pt := pt) (rT_l hT fl1) ho.2.1 r1 (fun i hi => by rw [g1.1 2 (by decide), mU_n (by decide)]; exact hP i hi) hO hz hw0 (fun c a N' x1 x2 x3 x4 x5 x6 => hf c a N' x1 x2 (fl1.tr x3) x4 x5) (fun p' N' x1 x3 x4 x5 x6 => hg p' N' x1 (fl1.tr x3) x4 x5 ?_))
      rw [x6, e02]; exact hx
  · have eC : lnC B T p P pt = (fw B T p P pt, fB B T p) := by unfold lnC; rw [if_pos hw0]
    have e6 : (mU N 0 2 x) 0 6 = nI (fw B T p P pt) := by rw [mU_mis (by decide)]; exact h6
    refine R_on_f e6 hw0 hfw (br_f (by rw [e6]; exact pos_c hw0 hfw) (hf _ _ _ eC hw0 fl0 e6 (by rw [mU_mis (by decide)]; exact h7 hw0)))
set_option maxHeartbeats 1000000 in
theorem R_readLine {N : Mem} {B : Nat → Int32} {T p : Nat} {P : Pg} {pt : Bool} {Q : Mem → Prop} (hT : rT N B T) (hp : p ≤ T) (hr : rdR N B T p) (hk4 : kB B T p ≠ 4) (hP : pgE N P) (hO : OK P) (hz : z4 P) (hE : ∀ j, j < 7 → N 4 j = ends0.getD j 0) (hL : ∀ j, j < 26 → N 5 j = lett0.getD j 0) (hpt : N 0 2 = if pt then 1 else 0)
    (hf : ∀ c a N', lnC B T p P pt = (c, a) → c ≠ 0 → frL N N' → N' 0 6 = nI c → N' 0 7 = nI a → Q N')
    (hg : ∀ p' N', lnC B T p P pt = (0, p') → frL N N' → rdR N' B T p' → pgE N' (lnP B T p P) → N' 0 2 = (if lnT B T p pt then 1 else 0) → Q N') : q_X6_readLine N Q := by
  have hn := nm_le B T p
  have h10 := hO.1.1.2
  have h4 := hO.1.2.1.2
  obtain ⟨r9, r8, r10, r6, r7, r11⟩ := id hr
  rw [if_neg hk4] at r6
  have e20 : N 2 20 = nI (cN P) := (hP 20 (by omega)).trans hO.1.1.1
  have e35 : N 2 35 = nI (wN P) := (hP 35 (by omega)).trans hO.1.2.1.1
  refine R_nameHere hT hp hE hL r9 (r10 hk4) r8 ?_
  by_cases n6 : nm B T p = 6
  · have en : nR (nm B T p) = -4 := if_neg (by omega)
    have ew : fw B T p P pt = 2 := by unfold fw; rw [if_pos n6]
    have eC : lnC B T p P pt = (2, fB B T p) := by unfold lnC; rw [if_pos (by omega), ew]
    rw [en]
    refine R_inI (lo := 0) (hi := 5) rfl rfl (fun g => absurd g (by decide)) (fun g => bn_t rfl (bn_t r6 ?_))
    rw [mU_mis (show 9 ≠ 6 by decide), r9]
    exact hf _ _ _ eC (by omega) ((frR.rf.u (by omega)).u (by omega)).l (by rw [mU_mis (by decide), mU_hit]; rfl) (by rw [mU_hit])
  · have en : nR (nm B T p) = nI (nm B T p) := if_pos (by omega)
    rw [en]
    refine R_inI (lo := 0) (hi := 5) rfl rfl (fun g => bn_f ne10 ?_) (fun g => absurd ⟨nI_le (a := 0) (by omega) (by omega), nI_le (b := 5) (by omega) (by omega)⟩ g)
    -- from the pole's row on
    have f78 : ∀ N1, frR N N1 → N1 0 8 = nI (oB B T p) → N1 0 6 = nI (fw B T p P pt) → (fw B T p P pt ≠ 0 → N1 0 7 = nI (fB B T p)) → f_X6_readLine_78 Q (nI (nm B T p)) N1 := by
      intro N1 g1 a8 a6 a7
      have e02 : N1 0 2 = if pt then 1 else 0 := (g1.2 2 (by omega)).trans hpt
      have go : ∀ x, x = (if lnT B T p pt then 1 else 0) → f_X6_readLine_96 Q (nI (nm B T p)) x N1 := fun x hx => R_name96 (rT_f hT g1) hp a8 a6 a7 (pgE_f hP g1) hO hz hx (fun c a N' x1 x2 x3 x4 x5 => hf c a N' x1 x2 (g1.l.tr x3) x4 x5) (fun p' N' x1 x3 x4 x5 x6 => hg p' N' x1 (g1.l.tr x3) x4 x5 x6)
      unfold f_X6_readLine_78
      rw [e02]
      cases pt with
      | true => exact bn_f (by decide) (go 1 (by unfold lnT; split <;> rfl))
      | false =>
        refine bn_t rfl ?_
        by_cases n5 : nm B T p = 5
        · rw [n5]
          have := go 1 (by unfold lnT; rw [if_pos n5]; rfl)
          rw [n5] at this
          exact bn_t rfl this
        · exact bn_f (nI_ne (b := 5) (by omega) (by omega) n5) (go 0 (by unfold lnT; rw [if_neg n5]; rfl))
    have fail : ∀ (c : Nat) (R : Mem → Prop), fw B T p P pt = c → c ≠ 0 → (∀ N1, frR N N1 → N1 0 8 = nI (oB B T p) → N1 0 6 = nI (fw B T p P pt) → (fw B T p P pt ≠ 0 → N1 0 7 = nI (fB B T p)) → R N1) → q_X6_fails (nI c) N R := by
      intro c R hc h0 hR
      refine bn_t r6 ?_
      rw [mU_mis (show 9 ≠ 6 by decide), r9]
      exact hR _ ((frR.rf.u (by omega)).u (by omega)) (by rw [mU_mis (by decide), mU_mis (by decide)]; exact r8) (by rw [mU_mis (by decide), mU_hit, hc]) (fun _ => by rw [mU_hit])
    by_cases n5 : nm B T p = 5
    · have ew : fw B T p P pt = if pt then 4 else 0 := by unfold fw; rw [if_neg n6, if_pos n5]
      refine br_t (by rw [n5]; decide) (bn_f (nI_ne (b := 4) (by omega) (by omega) (by omega)) (bn_t (by rw [n5]; rfl) ?_))
      rw [hpt]
      cases pt with
      | true => exact br_f (by decide) (fail 4 _ (by rw [ew]; rfl) (by omega) (fun N1 a b c d => f78 N1 a b c d))
      | false => exact br_t rfl (f78 N frR.rf r8 (by rw [r6, ew]; rfl) (fun z => absurd (by rw [ew]; rfl) z))
    · have f61 : ∀ N1, frR N N1 → N1 0 8 = nI (oB B T p) → N1 0 6 = nI (fw B T p P pt) → (fw B T p P pt ≠ 0 → N1 0 7 = nI (fB B T p)) → f_X6_readLine_61 Q (nI (nm B T p)) N1 := fun N1 a b c d => bn_f (nI_ne (b := 5) (by omega) (by omega) n5) (f78 N1 a b c d)
      by_cases n4 : nm B T p = 4
      · have ew : fw B T p P pt = if cN P = 10 then 5 else 0 := by unfold fw; rw [if_neg n6, if_neg n5, if_pos n4]
        refine br_t (by rw [n4]; decide) (bn_t (by rw [n4]; rfl) ?_)
        rw [e20]
        by_cases hc : cN P = 10
        · rw [if_pos hc] at ew
          exact bn_t (by rw [hc]; rfl) (fail 5 _ ew (by omega) (fun N1 a b c d => f61 N1 a b c d))
        · rw [if_neg hc] at ew
          exact bn_f (nI_ne (b := 10) (by omega) (by omega) hc) (f61 N frR.rf r8 (by rw [r6, ew]; rfl) (fun z => absurd ew z))
      · have ew : fw B T p P pt = if wN P = 4 then 5 else 0 := by unfold fw; rw [if_neg n6, if_neg n5, if_neg n4]
        refine br_f (by rw [li 3]; exact nI_nlt (by omega) (by omega)) ?_
        rw [e35]
        by_cases hc : wN P = 4
        · rw [if_pos hc] at ew
          exact br_t (by rw [hc]; rfl) (fail 5 _ ew (by omega) (fun N1 a b c d => f61 N1 a b c d))
        · rw [if_neg hc] at ew
          exact br_f (nI_ne (b := 4) (by omega) (by omega) hc) (bn_f (nI_ne (b := 4) (by omega) (by omega) n4) (f61 N frR.rf r8 (by rw [r6, ew]; rfl) (fun z => absurd ew z)))
theorem lnC_p {B : Nat → Int32} {T p p' : Nat} {P : Pg} {pt : Bool} (hp : p ≤ T) (hk : kB B T p ≠ 0) (h : lnC B T p P pt = (0, p')) : p < p' ∧ p' ≤ T ∧ fw B T p P pt = 0 := by
  have o1 := oB_b (B := B) hp
  have o2 := oB_b (B := B) o1.2.1
  have o3 := oB_b (B := B) o2.2.1
  have o4 := oB_b (B := B) o3.2.1
  have k1 := o1.2.2.2.2 hk
  unfold lnC at h
  by_cases hw : fw B T p P pt = 0
  · rw [if_neg (by omega)] at h
    by_cases n3 : nm B T p < 4
    · rw [if_pos n3] at h
      by_cases a : nF B T 1 9 (oB B T p) = 0
      · rw [if_neg (by omega)] at h
        by_cases b : mF B T (oB B T (oB B T p)) = 0
        · rw [if_neg (by omega)] at h
          have e : p' = oB B T (oB B T (oB B T p)) := (Prod.mk.inj h).2.symm
          exact ⟨by omega, by omega, hw⟩
        · rw [if_pos b] at h; exact absurd (Prod.mk.inj h).1 b
      · rw [if_pos a] at h; exact absurd (Prod.mk.inj h).1 a
    · rw [if_neg n3] at h
      by_cases a : nF B T 0 20 (oB B T p) = 0
      · rw [if_neg (by omega)] at h
        by_cases b : nF B T 0 20 (oB B T (oB B T p)) = 0
        · rw [if_neg (by omega)] at h
          by_cases c : mF B T (oB B T (oB B T (oB B T p))) = 0
          · rw [if_neg (by omega)] at h
            have e : p' = oB B T (oB B T (oB B T (oB B T p))) := (Prod.mk.inj h).2.symm
            exact ⟨by omega, by omega, hw⟩
          · rw [if_pos c] at h; exact absurd (Prod.mk.inj h).1 c
        · rw [if_pos b] at h; exact absurd (Prod.mk.inj h).1 b
      · rw [if_pos a] at h; exact absurd (Prod.mk.inj h).1 a
  · rw [if_pos hw] at h; exact absurd (Prod.mk.inj h).1 hw
/-- the whole text: the fault or 0; its place or the number of lines; the page -/
def txR (B : Nat → Int32) (T : Nat) : Nat → Nat → Nat → Pg → Bool → Nat × Nat × Pg
  | 0, _, _, P, _ => (0, 0, P)
  | j + 1, p, ln, P, pt => if kB B T p = 4 then (1, fB B T p, P) else if kB B T p = 0 then (0, ln, P) else if (lnC B T p P pt).1 ≠ 0 then ((lnC B T p P pt).1, (lnC B T p P pt).2, P) else txR B T j (lnC B T p P pt).2 (ln + 1) (lnP B T p P) (lnT B T p pt)
def fT (M M' : Mem) : Prop := (∀ a, a ≠ 15 → a ≠ 16 → (a < 18 ∨ 23 < a) → M' a = M a) ∧ M' 16 1 = M 16 1
theorem text_X {M : Mem} {B : Nat → Int32} {T : Nat} {Q : Mem → Prop} (h160 : T ≤ 160) : ∀ j p ln P pt M', T < j + p → p ≤ T → ln ≤ p → xT M' B T → M' 16 4 = nI p → M' 15 4 = 0 → M' 15 3 = nI ln → isX M' 18 P → OK P → z4 P → (M' 15 2 = if pt then 1 else 0) → fT M M' →
    (∀ M'', fT M M'' → M'' 15 4 = nI (txR B T j p ln P pt).1 → ((txR B T j p ln P pt).1 ≠ 0 → M'' 15 5 = nI (txR B T j p ln P pt).2.1) → ((txR B T j p ln P pt).1 = 0 → M'' 15 3 = nI (txR B T j p ln P pt).2.1 ∧ isX M'' 18 (txR B T j p ln P pt).2.2 ∧ OK (txR B T j p ln P pt).2.2) → Q M'') → p_X4_readText Q j (nI ln) M' := by
  intro j
  induction j with
  | zero => intro p ln P pt M' h1 h2; omega
  | succ j ih =>
    intro p ln P pt M' h1 h2 h3 hT a4 a0 a3 hX hO hz hpt fr hq
    have hk4 := kB_le B T p
    have ho := oB_b (B := B) h2
    show f_X4_readText_36 Q (p_X4_readText Q j) _ _
    refine br_f (by rw [li 160]; exact nI_nlt (by omega) (by omega)) (X_advance hT h2 a4 a0 (fun M1 g b3 b2 b4 b5 b6 => ?_))
    have fr1 : fT M M1 := ⟨fun a x y z => by rw [g.1 a x y, fr.1 a x y z], (g.2.2 1 (by omega)).trans fr.2⟩
    by_cases k4 : kB B T p = 4
    · have et : txR B T (j + 1) p ln P pt = (1, fB B T p, P) := if_pos k4
      rw [et] at hq
      rw [if_pos k4] at b5
      exact bn_f (by rw [b5]; decide) (hq M1 fr1 b5 (fun _ => b6) (fun z => absurd z (by show ¬ (1 : Nat) = 0; omega)))
    · rw [if_neg k4] at b5
      refine bn_t b5 ?_
      rw [b2]
      by_cases k0 : kB B T p = 0
      · have et : txR B T (j + 1) p ln P pt = (0, ln, P) := by
          show (if _ then _ else _) = _
          rw [if_neg k4, if_pos k0]
        rw [et] at hq
        refine bn_t (by rw [k0]; rfl) (hq M1 fr1 b5 (fun z => absurd rfl z) (fun _ => ⟨?_, isX_A hX g, hO⟩))
        rw [g.2.1 3 (by decide) (by decide)]; exact a3
      · have et : txR B T (j + 1) p ln P pt = if (lnC B T p P pt).1 ≠ 0 then ((lnC B T p P pt).1, (lnC B T p P pt).2, P) else txR B T j (lnC B T p P pt).2 (ln + 1) (lnP B T p P) (lnT B T p pt) := by
          show (if _ then _ else _) = _
          rw [if_neg k4, if_neg k0]
        rw [et] at hq
        refine bn_f (nI_ne (b := 0) (by omega) (by omega) k0) (X_readLine ⟨xT_A hT g, h2, b3, b2, b4⟩ k0 b5 (isX_A hX g) hO (by rw [g.2.1 2 (by decide) (by decide)]; exact hpt) (fun c a M2 e c0 g2 d4 d5 => ?_) (fun p' M2 e g2 d4 d0 dX dO dT => ?_))
        · rw [e, if_pos c0] at hq
          have hc5 : c ≤ 5 := by
            have hx := d4
            rcases Nat.lt_or_ge 5 c with q | q
            · exfalso
              have l1 := fw_le B T p P pt
              have l2 := nF_le B T 1 9 (oB B T p)
              have l3 := mF_le B T (oB B T (oB B T p))
              have l4 := nF_le B T 0 20 (oB B T p)
              have l5 := nF_le B T 0 20 (oB B T (oB B T p))
              have l6 := mF_le B T (oB B T (oB B T (oB B T p)))
              have ec : (lnC B T p P pt).1 = c := by rw [e]
              unfold lnC at ec
              revert ec
              repeat' split
              all_goals intro ec
              all_goals omega
            · exact q
          exact br_f (by rw [d4]; exact nI_n0 c0 hc5) (hq M2 ⟨fun a x y z => by rw [g2.1 a x y, fr1.1 a x y z], (g2.2.2 1 (by omega)).trans fr1.2⟩ d4 (fun _ => d5) (fun z => absurd z c0))
        · have hl := lnC_p h2 k0 e
          obtain ⟨w6, w4, w10, w5⟩ := fw_0 hl.2.2
          have h4' := hO.1.2.1.2
          rw [e, if_neg (by show ¬ (0 : Nat) ≠ 0; omega)] at hq
          refine br_t d0 ?_
          have e3 : M2 15 3 = nI ln := by rw [g2.2.1 3 (by decide) (by decide) (by decide), g.2.1 3 (by decide) (by decide)]; exact a3
          rw [e3, li 1, nI_add]
          refine ih p' (ln + 1) (lnP B T p P) (lnT B T p pt) _ (by omega) hl.2.1 (by omega) ⟨h160, ?_, fun i hi => ?_⟩ ?_ ?_ ?_ ?_ dO (lnP_z hz hO.1.1.2 (fun z => by have := w4 z; omega)) ?_ ⟨fun a x y z => ?_, ?_⟩ hq
          · rw [mU_n (by decide), g2.2.2 1 (by omega), g.2.2 1 (by omega)]; exact hT.2.1
          · rw [mU_n (by decide), g2.1 17 (by decide) (by decide) (by omega), g.1 17 (by decide) (by decide)]; exact hT.2.2 i hi
          · rw [mU_n (by decide)]; exact d4
          · rw [mU_mis (by decide)]; exact d0
          · rw [mU_hit]
          · exact dX.of (fun i hi => mU_n (by omega))
          · rw [mU_mis (by decide)]; exact dT
          · rw [mU_n x, g2.1 a x y z, fr1.1 a x y z]
          · rw [mU_n (by decide), g2.2.2 1 (by omega)]; exact fr1.2
theorem text_R {N : Mem} {B : Nat → Int32} {T : Nat} {Q : Int32 → Mem → Prop} (hE : ∀ j, j < 7 → N 4 j = ends0.getD j 0) (hL : ∀ j, j < 26 → N 5 j = lett0.getD j 0) : ∀ j p ln P pt N', T < j + p → p ≤ T → rT N' B T → rdR N' B T p → pgE N' P → OK P → z4 P → (N' 0 2 = if pt then 1 else 0) → frL N N' →
    (∀ N'' v m, frL N N'' → N'' 0 6 = nI (txR B T j p ln P pt).1 → ((txR B T j p ln P pt).1 ≠ 0 → N'' 0 7 = nI (txR B T j p ln P pt).2.1) → ((txR B T j p ln P pt).1 = 0 → v = nI (txR B T j p ln P pt).2.1 ∧ pgE N'' (txR B T j p ln P pt).2.2) → (p_X6_text Q (40 + m)).2.2.1 v N'') → (p_X6_text Q (40 + j)).2.1 (nI ln) N' := by
  intro j
  induction j with
  | zero => intro p ln P pt N' h1 h2; omega
  | succ j ih =>
    intro p ln P pt N' h1 h2 hT hr hP hO hz hpt fr hq
    have hk4 := kB_le B T p
    have ho := oB_b (B := B) h2
    obtain ⟨r9, r8, r10, r6, r7, r11⟩ := id hr
    show f_X6_text_42 Q (p_X6_text Q (40 + j)) _ _
    by_cases k4 : kB B T p = 4
    · have et : txR B T (j + 1) p ln P pt = (1, fB B T p, P) := if_pos k4
      rw [et] at hq
      rw [if_pos k4] at r6
      exact bn_f (by rw [r6]; decide) (hq N' _ j fr r6 (fun _ => r7 k4) (fun z => absurd z (by show ¬ (1 : Nat) = 0; omega)))
    · rw [if_neg k4] at r6
      refine bn_t r6 ?_
      rw [r10 k4]
      by_cases k0 : kB B T p = 0
      · have et : txR B T (j + 1) p ln P pt = (0, ln, P) := by
          show (if _ then _ else _) = _
          rw [if_neg k4, if_pos k0]
        rw [et] at hq
        exact br_t (by rw [k0]; rfl) (hq N' _ j fr r6 (fun z => absurd rfl z) (fun _ => ⟨rfl, hP⟩))
      · have et : txR B T (j + 1) p ln P pt = if (lnC B T p P pt).1 ≠ 0 then ((lnC B T p P pt).1, (lnC B T p P pt).2, P) else txR B T j (lnC B T p P pt).2 (ln + 1) (lnP B T p P) (lnT B T p pt) := by
          show (if _ then _ else _) = _
          rw [if_neg k4, if_neg k0]
        rw [et] at hq
        have hlt := ho.2.2.2.2 k0
        refine br_f (nI_ne (b := 0) (by omega) (by omega) k0) (R_readLine hT h2 hr k4 hP hO hz (fun i hi => by rw [fr.1 4 (by decide) (by decide)]; exact hE i hi) (fun i hi => by rw [fr.1 5 (by decide) (by decide)]; exact hL i hi) hpt (fun c a N3 e c0 g2 d6 d7 => ?_) (fun p' N3 e g2 d dP dT => ?_))
        · rw [e, if_pos c0] at hq
          have hc5 : c ≤ 5 := by
            rcases Nat.lt_or_ge 5 c with q | q
            · exfalso
              have l1 := fw_le B T p P pt
              have l2 := nF_le B T 1 9 (oB B T p)
              have l3 := mF_le B T (oB B T (oB B T p))
              have l4 := nF_le B T 0 20 (oB B T p)
              have l5 := nF_le B T 0 20 (oB B T (oB B T p))
              have l6 := mF_le B T (oB B T (oB B T (oB B T p)))
              have ec : (lnC B T p P pt).1 = c := by rw [e]
              unfold lnC at ec
              revert ec
              repeat' split
              all_goals intro ec
              all_goals omega
            · exact q
          obtain ⟨j', rfl⟩ : ∃ j', j = j' + 1 := ⟨j - 1, by omega⟩
          show f_X6_text_42 Q (p_X6_text Q (40 + j')) _ _
          exact bn_f (by rw [d6]; exact nI_n0 c0 hc5) (hq N3 _ j' (fr.tr g2) d6 (fun _ => d7) (fun z => absurd z c0))
        · have hl := lnC_p h2 k0 e
          obtain ⟨w6, w4, w10, w5⟩ := fw_0 hl.2.2
          have h4' := hO.1.2.1.2
          rw [e, if_neg (by show ¬ (0 : Nat) ≠ 0; omega)] at hq
          rw [nI_1]
          have dO : OK (lnP B T p P) := by
            unfold lnC at e
            rw [if_neg (by have := hl.2.2; omega)] at e
            unfold lnP
            by_cases n3 : nm B T p < 4
            · rw [if_pos n3] at e ⊢
              by_cases a : nF B T 1 9 (oB B T p) = 0
              · exact OK_pWh hO (by have := w4 n3; omega) (kd_nI (by omega)) (sp_of (nF_0 a).2)
              · rw [if_pos a] at e; exact absurd (Prod.mk.inj e).1 a
            · rw [if_neg n3] at e ⊢
              by_cases a : nF B T 0 20 (oB B T p) = 0
              · rw [if_neg (by omega)] at e
                by_cases b : nF B T 0 20 (oB B T (oB B T p)) = 0
                · split
                  · next n4 => exact OK_pCo hO (by have := w10 n4; have := hO.1.1.2; omega) (pl_of (nF_0 a).2) (pl_of (nF_0 b).2)
                  · exact OK_pol hO (pl_of (nF_0 a).2) (pl_of (nF_0 b).2)
                · rw [if_pos b] at e; exact absurd (Prod.mk.inj e).1 b
              · rw [if_pos a] at e; exact absurd (Prod.mk.inj e).1 a
          exact ih p' (ln + 1) (lnP B T p P) (lnT B T p pt) N3 (by omega) hl.2.1 (rT_l hT g2) d dP dO (lnP_z hz hO.1.1.2 (fun z => by have := w4 z; omega)) dT (fr.tr g2) hq
def P00 : Pg := fun _ => 0
theorem OK_00 : OK P00 := by
  have ec : cN P00 = 0 := by decide
  have ew : wN P00 = 0 := by decide
  have et : tN P00 = 0 := by decide
  refine ⟨⟨⟨by rw [ec]; rfl, by omega⟩, ⟨by rw [ew]; rfl, by omega⟩, ⟨by rw [et]; rfl, by omega⟩, ⟨⟨by decide, by decide⟩, ⟨by decide, by decide⟩⟩, fun i hi => by omega, fun i hi => by omega⟩, by omega, fun i hi => by omega⟩
theorem z4_00 : z4 P00 := ⟨fun _ _ => rfl, rfl⟩
theorem isX_00 {M : Mem} {o : Nat} (h2 : M o 2 = 0) (h6 : M o 6 = 0) (h7 : M o 7 = 0) (h8 : M o 8 = 0) (h9 : M o 9 = 0) : isX M o P00 := by
  have ec : cN P00 = 0 := by decide
  have ew : wN P00 = 0 := by decide
  exact ⟨h2, h6, h7, h8, h9, fun i hi => by omega, fun i hi => by omega⟩
/-- the class reads its text -/
theorem X_readText {M : Mem} {B : Nat → Int32} {T : Nat} {Q : Mem → Prop} (hT : xT M B T) (hq : ∀ M'', fT M M'' → M'' 15 4 = nI (txR B T 161 0 0 P00 false).1 → ((txR B T 161 0 0 P00 false).1 ≠ 0 → M'' 15 5 = nI (txR B T 161 0 0 P00 false).2.1) → ((txR B T 161 0 0 P00 false).1 = 0 → M'' 15 3 = nI (txR B T 161 0 0 P00 false).2.1 ∧ isX M'' 18 (txR B T 161 0 0 P00 false).2.2 ∧ OK (txR B T 161 0 0 P00 false).2.2) → Q M'') : q_X4_readText M Q := by
  have h160 := hT.1
  refine ⟨161, fun M1 e1 M3 e3 => ?_⟩
  have c16 : M3 16 = mU M 16 4 0 16 := by rw [e3, mU_n (by decide), mU_n (by decide), mU_n (by decide), mU_n (by decide), mU_n (by decide), e1, mU_n (by decide), mU_n (by decide), mU_n (by decide), mU_n (by decide)]
  have co : ∀ a, a ≠ 15 → a ≠ 16 → a ≠ 18 → M3 a = M a := fun a h15 h16 h18 => by rw [e3, mU_n h15, mU_n h15, mU_n h15, mU_n h15, mU_n h18, e1, mU_n h18, mU_n h18, mU_n h18, mU_n h18, mU_n h16]
  have c18 : ∀ j, M3 18 j = (mU M1 18 9 0) 18 j := fun j => by rw [e3, mU_n (by decide), mU_n (by decide), mU_n (by decide), mU_n (by decide)]
  refine text_X (M := M) h160 161 0 0 P00 false M3 (by omega) (by omega) (by omega) ⟨h160, ?_, fun i hi => ?_⟩ ?_ ?_ ?_ (isX_00 ?_ ?_ ?_ ?_ ?_) OK_00 z4_00 ?_ ⟨fun a x y z => co a x y (by omega), ?_⟩ hq
  · rw [c16, mU_mis (by decide)]; exact hT.2.1
  · rw [co 17 (by decide) (by decide) (by decide)]; exact hT.2.2 i hi
  · rw [c16, mU_hit]; rfl
  · rw [e3, mU_mis (by decide), mU_hit]
  · rw [e3, mU_mis (by decide), mU_mis (by decide), mU_hit]; rfl
  · rw [c18, mU_mis (by decide), e1, mU_mis (by decide), mU_mis (by decide), mU_mis (by decide), mU_hit]
  · rw [c18, mU_mis (by decide), e1, mU_mis (by decide), mU_mis (by decide), mU_hit]
  · rw [c18, mU_mis (by decide), e1, mU_mis (by decide), mU_hit]
  · rw [c18, mU_mis (by decide), e1, mU_hit]
  · rw [c18, mU_hit]
  · rw [e3, mU_mis (by decide), mU_mis (by decide), mU_mis (by decide), mU_hit]; rfl
  · rw [c16, mU_mis (by decide)]
