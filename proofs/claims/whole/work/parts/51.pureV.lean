/-! text: names, numbers -/
def gW (B : Nat → Int32) (f e w : Nat) : Bool := decide (e - f = sLen.getD w 0) && allb (fun i => decide (B (f + i) = (sByt.getD w []).getD i 0)) (sLen.getD w 0)
def nmr (g : Nat → Bool) : Nat → Nat → Nat
  | 0, w => w
  | j + 1, w => if g w then w else nmr g j (w + 1)
theorem nmr_le (g : Nat → Bool) : ∀ j w, nmr g j w ≤ w + j
  | 0, w => Nat.le_refl w
  | j + 1, w => by
    have := nmr_le g j (w + 1)
    show (if _ then _ else _) ≤ _
    split <;> omega
theorem gW_iff {B : Nat → Int32} {f e w : Nat} : gW B f e w = true ↔ e - f = sLen.getD w 0 ∧ ∀ i, i < sLen.getD w 0 → B (f + i) = (sByt.getD w []).getD i 0 := by
  unfold gW
  rw [Bool.and_eq_true, decide_eq_true_iff, allb_iff]
  constructor
  · rintro ⟨a, b⟩; exact ⟨a, fun i hi => of_decide_eq_true (b i hi)⟩
  · rintro ⟨a, b⟩; exact ⟨a, fun i hi => decide_eq_true (b i hi)⟩
theorem sLen_le : ∀ w : Fin 6, sLen.getD w.val 0 ≤ 6 := by decide
theorem nI_ef {e f : Nat} (h : f ≤ e) : nI e - nI f = nI (e - f) := by
  have := nI_sb f (e - f)
  rw [show f + (e - f) = e by omega] at this
  exact this
theorem X_tokenIs {M : Mem} {B : Nat → Int32} {T f e w : Nat} {Q : Int32 → Mem → Prop} (hT : xT M B T) (h3 : M 16 3 = nI f) (h4 : M 16 4 = nI e) (hfe : f ≤ e) (heT : e ≤ T) (hw : w < 6) (h1 : gW B f e w = true → Q 1 M) (h0 : ¬ gW B f e w = true → Q 0 M) : q_X3_tokenIs w M Q := by
  have h160 := hT.1
  have hl := sLen_le ⟨w, hw⟩
  have hl' : sLen.getD w 0 ≤ 6 := hl
  by_cases hlen : e - f = sLen.getD w 0
  · have key : ∀ j k, j + k = sLen.getD w 0 → (∀ i, i < k → B (f + i) = (sByt.getD w []).getD i 0) → p_X3_tokenIs w Q (j + 1) (nI (sLen.getD w 0)) (nI k) M := by
      intro j
      induction j with
      | zero =>
        intro k hk ha
        exact br_t (nI_le (by omega) (by omega)) (h1 (gW_iff.mpr ⟨hlen, fun i hi => ha i (by omega)⟩))
      | succ j ih =>
        intro k hk ha
        show f_X3_tokenIs_22 w Q (p_X3_tokenIs w Q (j + 1)) _ _ _
        unfold f_X3_tokenIs_22
        rw [h3, nI_add]
        refine br_f (nI_ge (by omega) (by omega)) ⟨vp_in_nI (by omega) (by omega), vp_in_nI (by omega) (by omega), ?_⟩
        rw [nI_clamp (by omega), nI_clamp (by omega), hT.2.2 (f + k) (by omega)]
        refine br_c (fun z => ?_) (fun z => h0 (fun y => z ((gW_iff.mp y).2 k (by omega))))
        rw [nI_1]
        exact ih (k + 1) (by omega) (fun i hi => by
          by_cases hik : i = k
          · rw [hik]; exact z
          · exact ha i (by omega))
    refine ⟨sLen.getD w 0 + 1, ?_⟩
    show _ ∧ _
    rw [h3, h4, nI_ef hfe]
    exact br_t (by rw [hlen]) (key _ 0 (by omega) (fun i hi => by omega))
  · refine ⟨0, ?_⟩
    show _ ∧ _
    rw [h3, h4, nI_ef hfe]
    exact br_f (fun z => hlen ((nI_eq (by omega) (by omega)).mp z)) (h0 (fun y => hlen (gW_iff.mp y).1))
theorem X_nameOf {M : Mem} {w : Nat} {Q : Nat → Mem → Prop} (hw : w < 6) (hq : Q w M) : q_X4_nameOf (nI w) M Q := by
  rcases (by omega : w = 0 ∨ w = 1 ∨ w = 2 ∨ w = 3 ∨ w = 4 ∨ w = 5) with rfl | rfl | rfl | rfl | rfl | rfl
  · exact br_t rfl hq
  · exact br_f (by decide) (br_t rfl hq)
  · exact br_f (by decide) (br_f (by decide) (br_t rfl hq))
  · exact br_f (by decide) (br_f (by decide) (br_f (by decide) (br_t rfl hq)))
  · exact br_f (by decide) (br_f (by decide) (br_f (by decide) (br_f (by decide) (br_t rfl hq))))
  · exact br_f (by decide) (br_f (by decide) (br_f (by decide) (br_f (by decide) (br_f (by decide) hq))))
def nm (B : Nat → Int32) (T p : Nat) : Nat := if kB B T p = 1 then nmr (gW B (fB B T p) (oB B T p)) 6 0 else 6
theorem nm_le (B : Nat → Int32) (T p : Nat) : nm B T p ≤ 6 := by
  have := nmr_le (gW B (fB B T p) (oB B T p)) 6 0
  unfold nm
  split <;> omega
theorem X_word {M : Mem} {B : Nat → Int32} {T p : Nat} {Q : Int32 → Mem → Prop} (hT : xT M B T) (hp : p ≤ T) (h3 : M 16 3 = nI (fB B T p)) (h2 : M 16 2 = nI (kB B T p)) (h4 : kB B T p ≠ 0 → M 16 4 = nI (oB B T p)) (hq : Q (nI (nm B T p)) M) : q_X4_wordOfToken M Q := by
  have hk := kB_le B T p
  have ho := oB_b (B := B) hp
  by_cases h1 : kB B T p = 1
  · have en : nm B T p = nmr (gW B (fB B T p) (oB B T p)) 6 0 := if_pos h1
    rw [en] at hq
    have key : ∀ j w, j + w = 6 → Q (nI (nmr (gW B (fB B T p) (oB B T p)) j w)) M → p_X4_wordOfToken Q (j + 1) (nI w) M := by
      intro j
      induction j with
      | zero =>
        intro w hw hq
        have e : w = 6 := by omega
        subst e
        exact br_t (by decide) hq
      | succ j ih =>
        intro w hw hq
        have hn : nmr (gW B (fB B T p) (oB B T p)) (j + 1) w = if gW B (fB B T p) (oB B T p) w then w else nmr (gW B (fB B T p) (oB B T p)) j (w + 1) := rfl
        rw [hn] at hq
        refine br_f (by rw [li 6]; exact nI_ge (by omega) (by omega)) (bn_t (by rw [h2, h1]; rfl) (X_nameOf (by omega) (X_tokenIs hT h3 (h4 (by omega)) ho.2.2.1 ho.2.1 (by omega) (fun g => br_f ne10 ?_) (fun g => br_t rfl ?_))))
        · rw [if_pos g] at hq; exact hq
        · rw [if_neg g] at hq
          rw [nI_1]
          exact ih (w + 1) (by omega) hq
    exact ⟨7, key 6 0 rfl hq⟩
  · have en : nm B T p = 6 := if_neg h1
    rw [en] at hq
    exact ⟨1, br_f (by decide) (bn_f (by rw [h2]; exact fun z => h1 ((nI_eq (b := 1) (by omega) (by omega)).mp z)) hq)⟩
/-! the reference's names -/
def stW : List Nat := [0, 5, 11, 16, 20, 22, 26]
theorem ends_ok : ∀ w : Fin 7, ends0.getD w.val 0 = nI (stW.getD w.val 0) := by decide
theorem ends_len : ∀ w : Fin 6, stW.getD (w.val + 1) 0 = stW.getD w.val 0 + sLen.getD w.val 0 ∧ stW.getD (w.val + 1) 0 ≤ 26 := by decide
theorem lett_ok : ∀ w : Fin 6, ∀ i : Fin 6, i.val < sLen.getD w.val 0 → lett0.getD (stW.getD w.val 0 + i.val) 0 = (sByt.getD w.val []).getD i.val 0 := by decide
def nR (n : Nat) : Int32 := if n < 6 then nI n else -4
theorem R_nameHere {N : Mem} {B : Nat → Int32} {T p : Nat} {Q : Int32 → Mem → Prop} (hT : rT N B T) (hp : p ≤ T) (hE : ∀ j, j < 7 → N 4 j = ends0.getD j 0) (hL : ∀ j, j < 26 → N 5 j = lett0.getD j 0) (h9 : N 0 9 = nI (fB B T p)) (h10 : N 0 10 = nI (kB B T p)) (h8 : N 0 8 = nI (oB B T p)) (hq : Q (nR (nm B T p)) N) : q_X6_nameHere N Q := by
  have h160 := hT.1
  have hk := kB_le B T p
  have ho := oB_b (B := B) hp
  by_cases h1 : kB B T p = 1
  · have en : nm B T p = nmr (gW B (fB B T p) (oB B T p)) 6 0 := if_pos h1
    rw [en] at hq
    have key : ∀ j w, j + w = 6 → Q (nR (nmr (gW B (fB B T p) (oB B T p)) j w)) N → ∃ n, (p_X6_nameHere Q n).1 (nI w) N := by
      intro j
      induction j with
      | zero =>
        intro w hw hq
        have e : w = 6 := by omega
        subst e
        exact ⟨1, br_t (by decide) hq⟩
      | succ j ih =>
        intro w hw hq
        have hl : sLen.getD w 0 ≤ 6 := sLen_le ⟨w, by omega⟩
        have el := ends_len ⟨w, by omega⟩
        have el1 : stW.getD (w + 1) 0 = stW.getD w 0 + sLen.getD w 0 := el.1
        have el2 : stW.getD (w + 1) 0 ≤ 26 := el.2
        have ew : N 4 w = nI (stW.getD w 0) := (hE w (by omega)).trans (ends_ok ⟨w, by omega⟩)
        have ew1 : N 4 (w + 1) = nI (stW.getD (w + 1) 0) := (hE (w + 1) (by omega)).trans (ends_ok ⟨w + 1, by omega⟩)
        have hn : nmr (gW B (fB B T p) (oB B T p)) (j + 1) w = if gW B (fB B T p) (oB B T p) w then w else nmr (gW B (fB B T p) (oB B T p)) j (w + 1) := rfl
        rw [hn] at hq
        have elen : N 4 (w + 1) - N 4 w = nI (sLen.getD w 0) := by
          rw [ew, ew1, nI_ef (by omega), el1]
          rw [show stW.getD w 0 + sLen.getD w 0 - stW.getD w 0 = sLen.getD w 0 by omega]
        have f2 : ∀ n, (¬ oB B T p - fB B T p = sLen.getD w 0 → (p_X6_nameHere Q n).2.1 (nI w) 0 N) → (oB B T p - fB B T p = sLen.getD w 0 → (p_X6_nameHere Q n).2.1 (nI w) 1 N) → (p_X6_nameHere Q (n + 1)).1 (nI w) N := by
          intro n q0 q1
          show f_X6_nameHere_2 Q (p_X6_nameHere Q n) _ _
          unfold f_X6_nameHere_2
          rw [li 1, nI_add, nI_clamp (show w + 1 < 2 ^ 31 by omega), nI_clamp (show w < 2 ^ 31 by omega), elen, h8, h9, nI_ef ho.2.2.1, h10]
          refine br_f (by rw [li 6]; exact nI_ge (by omega) (by omega)) (bn_t (by rw [h1]) ⟨vp_in_nI (by omega) (by omega), vp_in_nI (by omega) (by omega), bn_c (fun z => q0 (fun y => z (by rw [y]))) (fun z => q1 ((nI_eq (by omega) (by omega)).mp z))⟩)
        have no : ¬ gW B (fB B T p) (oB B T p) w = true → ∃ n, (p_X6_nameHere Q n).2.2.2.2 (nI w) 0 N := by
          intro g
          rw [if_neg g] at hq
          obtain ⟨n, hn⟩ := ih (w + 1) (by omega) hq
          refine ⟨n + 1, ?_⟩
          show f_X6_nameHere_106 Q (p_X6_nameHere Q n) _ _ _
          refine br_t rfl ?_
          rw [nI_1]; exact hn
        have no51 : ¬ gW B (fB B T p) (oB B T p) w = true → ∀ k, ∃ n, (p_X6_nameHere Q n).2.2.1 (nI w) 0 k N := by
          intro g k
          obtain ⟨n, hn⟩ := no g
          exact ⟨n + 1, br_t rfl hn⟩
        by_cases hlen : oB B T p - fB B T p = sLen.getD w 0
        · have run : ∀ i k, i + k = sLen.getD w 0 → (∀ d, d < k → B (fB B T p + d) = (sByt.getD w []).getD d 0) → ∃ n, (p_X6_nameHere Q n).2.2.1 (nI w) 1 (nI k) N := by
            intro i
            induction i with
            | zero =>
              intro k hk2 ha
              have g : gW B (fB B T p) (oB B T p) w = true := gW_iff.mpr ⟨hlen, fun d hd => ha d (by omega)⟩
              rw [if_pos g] at hq
              have e : nR w = nI w := if_pos (by omega)
              rw [e] at hq
              refine ⟨2, ?_⟩
              show f_X6_nameHere_51 Q (p_X6_nameHere Q 1) _ _ _ _
              refine br_f ne10 (br_t (by rw [h8, h9, nI_ef ho.2.2.1]; exact nI_le (by omega) (by omega)) ?_)
              show f_X6_nameHere_106 Q (p_X6_nameHere Q 0) _ _ _
              exact br_f ne10 hq
            | succ i ih2 =>
              intro k hk2 ha
              have elt : N 5 (stW.getD w 0 + k) = (sByt.getD w []).getD k 0 := (hL _ (by omega)).trans (lett_ok ⟨w, by omega⟩ ⟨k, by omega⟩ (show k < sLen.getD w 0 by omega))
              have f51 : ∀ n, (¬ B (fB B T p + k) = (sByt.getD w []).getD k 0 → (p_X6_nameHere Q n).2.2.2.1 (nI w) (nI k) 0 N) → (B (fB B T p + k) = (sByt.getD w []).getD k 0 → (p_X6_nameHere Q n).2.2.2.1 (nI w) (nI k) 1 N) → (p_X6_nameHere Q (n + 1)).2.2.1 (nI w) 1 (nI k) N := by
                intro n q0 q1
                show f_X6_nameHere_51 Q (p_X6_nameHere Q n) _ _ _ _
                refine br_f ne10 (br_f (by rw [h8, h9, nI_ef ho.2.2.1]; exact nI_ge (by omega) (by omega)) (R_byteAt hT (q := fB B T p + k) (by omega) (by rw [h9, nI_add]) (fun _ => ?_) (fun z => by omega)))
                rw [nI_clamp (show w < 2 ^ 31 by omega), ew, nI_add, nI_clamp (by omega), elt]
                exact ⟨vp_in_nI (by omega) (by omega), vp_in_nI (by omega) (by omega), bn_c q0 q1⟩
              by_cases hc : B (fB B T p + k) = (sByt.getD w []).getD k 0
              · obtain ⟨n, hn⟩ := ih2 (k + 1) (by omega) (fun d hd => by
                  by_cases hdk : d = k
                  · rw [hdk]; exact hc
                  · exact ha d (by omega))
                refine ⟨n + 2, f51 (n + 1) (fun z => absurd hc z) (fun _ => ?_)⟩
                show (p_X6_nameHere Q n).2.2.1 _ _ _ _
                rw [nI_1]; exact hn
              · have g : ¬ gW B (fB B T p) (oB B T p) w = true := fun y => hc ((gW_iff.mp y).2 k (by omega))
                obtain ⟨n, hn⟩ := no51 g (nI k + 1)
                exact ⟨n + 2, f51 (n + 1) (fun _ => hn) (fun z => absurd z hc)⟩
          obtain ⟨n, hn⟩ := run (sLen.getD w 0) 0 (by omega) (fun d hd => by omega)
          exact ⟨n + 2, f2 (n + 1) (fun z => absurd hlen z) (fun _ => hn)⟩
        · have g : ¬ gW B (fB B T p) (oB B T p) w = true := fun y => hlen (gW_iff.mp y).1
          obtain ⟨n, hn⟩ := no51 g 0
          exact ⟨n + 2, f2 (n + 1) (fun _ => hn) (fun z => absurd z hlen)⟩
    exact key 6 0 rfl hq
  · have en : nm B T p = 6 := if_neg h1
    rw [en] at hq
    exact ⟨1, br_f (by decide) (bn_f (by rw [h10]; exact fun z => h1 ((nI_eq (b := 1) (by omega) (by omega)).mp z)) hq)⟩
