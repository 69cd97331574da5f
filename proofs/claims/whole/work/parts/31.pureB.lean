/-! sheets -/
theorem toInt_u (x : Int32) : x.toInt = if 2 * x.toBitVec.toNat < 2 ^ 32 then (x.toBitVec.toNat : Int) else (x.toBitVec.toNat : Int) - 2 ^ 32 := BitVec.toInt_eq_toNat_cond x.toBitVec
theorem sh8 (v : Int32) : (v <<< ((24 : Int32) &&& 31)) >>> ((24 : Int32) &&& 31) = v.toInt8.toInt32 := by
  apply Int32.toInt_inj.mp
  rw [pk_shr _ _ 24 (by decide), toInt_u, pk_shl v _ 24 (by decide), Int8.toInt_toInt32, Int32.toInt_toInt8, toInt_u v]
  have hu := v.toBitVec.isLt
  generalize v.toBitVec.toNat = u at hu
  rw [show u * 2 ^ 24 % 2 ^ 32 = u % 256 * 2 ^ 24 from Nat.mul_mod_mul_right (2 ^ 24) u (2 ^ 8), Int.shiftRight_eq_div_pow, Int.bmod_def]
  split <;> split <;> split <;> omega
theorem sh16 (v : Int32) : (v <<< ((16 : Int32) &&& 31)) >>> ((16 : Int32) &&& 31) = v.toInt16.toInt32 := by
  apply Int32.toInt_inj.mp
  rw [pk_shr _ _ 16 (by decide), toInt_u, pk_shl v _ 16 (by decide), Int16.toInt_toInt32, Int32.toInt_toInt16, toInt_u v]
  have hu := v.toBitVec.isLt
  generalize v.toBitVec.toNat = u at hu
  rw [show u * 2 ^ 16 % 2 ^ 32 = u % 65536 * 2 ^ 16 from Nat.mul_mod_mul_right (2 ^ 16) u (2 ^ 16), Int.shiftRight_eq_div_pow, Int.bmod_def]
  split <;> split <;> split <;> omega
def zr (f : Nat → Int32) (a k : Nat) : Nat → Int32 := fun j => if a ≤ j ∧ j < a + k then 0 else f j
theorem zr_s (M : Mem) (c a k : Nat) : mU (mR M c (zr (M c) a k)) c (a + k) 0 = mR M c (zr (M c) a (k + 1)) := by
  funext x j
  rw [mU_at]
  by_cases hx : x = c
  · subst hx
    rw [mR_s, mR_s]
    unfold zr
    by_cases hj : j = a + k
    · rw [if_pos ⟨rfl, hj⟩, if_pos (by omega)]
    · rw [if_neg (fun q => hj q.2)]
      by_cases h2 : a ≤ j ∧ j < a + k
      · rw [if_pos h2, if_pos (by omega)]
      · rw [if_neg h2, if_neg (by omega)]
  · rw [if_neg (fun q => hx q.1), mR_n hx, mR_n hx]
theorem zr_0 (M : Mem) (c a : Nat) : mR M c (zr (M c) a 0) = M := by
  funext x
  by_cases hx : x = c
  · subst hx
    rw [mR_s]
    funext j
    unfold zr
    rw [if_neg (by omega)]
  · rw [mR_n hx]
theorem S_renew {M : Mem} {o : Nat} {v1 v2 : Int32} {Q : Mem → Prop} (hq : Q (mU (mU (mR M (o + 1) (zr (M (o + 1)) 0 40)) o 1 v1) o 2 v2)) : q_X1_renew o v1 v2 M Q := by
  have key : ∀ j k, j + k = 40 → p_X1_renew o Q (j + 1) v1 v2 (nI k) (mR M (o + 1) (zr (M (o + 1)) 0 k)) := by
    intro j
    induction j with
    | zero =>
      intro k hk
      refine br_t (by rw [li 40]; exact nI_le (by omega) (by omega)) ?_
      rw [show k = 40 by omega]
      exact hq
    | succ j ih =>
      intro k hk
      refine br_f (by rw [li 40]; exact nI_ge (by omega) (by omega)) ⟨vp_in_nI (by omega) (by omega), ?_⟩
      have := ih (k + 1) (by omega)
      rw [← zr_s, Nat.zero_add] at this
      rw [nI_1, nI_clamp (by omega)]
      exact this
  have := key 40 0 rfl
  rw [zr_0] at this
  exact ⟨41, this⟩
theorem RR.sheet {M N M' N' : Mem} (h : RR M N) (hx : ∀ a, a < 43 → M' a = M a) (hm : ∀ a, (a < 9 ∨ 11 < a) → N' a = N a) (hs : ∀ k, k < 4 → rSheet M' N' k) : RR M' N' := by
  obtain ⟨⟨a1, a2⟩, ⟨b1, b2⟩, c, ⟨d1, d2⟩, e, -, g, i, j⟩ := h
  have ep : ∀ p, pg N' p = pg N p := fun p => by unfold pg; rw [hm 1 (by omega)]
  have im : ∀ k, k < 2 → rImg M N k → rImg M' N' k := by
    intro k hk hr
    unfold rImg at hr ⊢
    rw [hx 14 (by omega), hm 8 (by omega), ep]
    rcases hr with q | ⟨q1, q2, q3, q4⟩
    · exact Or.inl q
    · exact Or.inr ⟨q1, q2, q3, q4.of (fun i hi => hx _ (by omega))⟩
  refine ⟨⟨by rw [ep]; exact a1, by rw [ep]; exact a2.of (fun i hi => hx _ (by omega))⟩, ⟨im 0 (by omega) b1, im 1 (by omega) b2⟩, ?_, ⟨?_, ?_⟩, ?_, hs, ?_, ?_, ?_⟩
  · unfold rTape at c ⊢
    rw [hx 16 (by omega), hx 17 (by omega), hm 0 (by omega), hm 3 (by omega)]
    exact c
  · rw [hx 0 (by omega), hm 0 (by omega)]; exact d1
  · rw [hx 0 (by omega), hm 0 (by omega)]; exact d2
  · unfold rSeen at e ⊢
    rw [hx 24 (by omega), hx 25 (by omega), hx 26 (by omega), hx 27 (by omega), hm 0 (by omega), hm 6 (by omega)]
    exact e
  · rw [hm 0 (by omega)]; exact g
  · rw [hm 4 (by omega)]; exact i
  · rw [hm 5 (by omega)]; exact j
theorem v4_in {v : Int32} : (0 ≤ v ∧ v ≤ 3) ↔ ∃ i, i < 4 ∧ v = nI i := by
  rw [show (3 : Int32) = nI 4 - 1 by decide]
  exact in_nI (by omega)
theorem v3_in {v : Int32} : (0 ≤ v ∧ v ≤ 2) ↔ ∃ i, i < 3 ∧ v = nI i := by
  rw [show (2 : Int32) = nI 3 - 1 by decide]
  exact in_nI (by omega)
set_option maxHeartbeats 1000000 in
theorem o_sheet {M N : Mem} (h : RR M N) (v1 v2 v3 : Int32) : both (q_X5_sheet v1 v2 v3 M) (q_X6_sheet v1 v2 v3 N) := by
  have sh := h.2.2.2.2.2.1
  by_cases hv : 0 ≤ v1 ∧ v1 ≤ 3
  · by_cases hl : 0 ≤ v2 ∧ v2 ≤ 2
    · have fX : ∀ Q : Int32 → Mem → Prop, _ → q_X5_sheet v1 v2 v3 M Q := fun Q q => X_isSheet (fun _ => br_f ne10 (X_isLane (fun _ => br_f ne10 q) (fun n => absurd hl n))) (fun n => absurd hv n)
      have fR : ∀ (Q : Int32 → Mem → Prop) (n : Nat), _ → e_X6_sheet v1 v2 v3 Q (p_X6_sheet Q n) N := fun Q n q => R_inI (lo := 0) (hi := 3) rfl rfl (fun _ => br_f ne10 (R_inI (lo := 0) (hi := 2) rfl rfl (fun _ => br_f ne10 q) (fun n => absurd hl n))) (fun n => absurd hv n)
      by_cases h40 : v3 ≤ 40
      · by_cases h0 : 0 ≤ v3
        · obtain ⟨i, hi, rfl⟩ := v4_in.mp hv
          obtain ⟨ln, hln, rfl⟩ := v3_in.mp hl
          obtain ⟨z, hz, rfl⟩ := (in_nI2 (n := 40) (by omega)).mp ⟨h0, h40⟩
          have ev : vp_in (nI i) 4 := vp_in_nI (by omega) (by omega)
          have ei : (nI i).toNatClampNeg = i := nI_clamp (by omega)
          have e40 : (40 : Int32) * nI i = nI (40 * i) := by rw [li 40, pk_mul]
          refine both.e 1 (mU (mU (mR M (44 + 2 * i) (zr (M (44 + 2 * i)) 0 40)) (43 + 2 * i) 1 (nI ln)) (43 + 2 * i) 2 (nI z)) (mR (mU (mU N 9 i (nI ln)) 10 i (nI z)) 11 (zr ((mU (mU N 9 i (nI ln)) 10 i (nI z)) 11) (40 * i) 40)) (fun Q q => fX Q (br_t h40 (br_t h0 ⟨ev, ?_⟩))) (fun Q q => ?_) ?_
          · rw [ei]
            refine ⟨sh_sh hi, S_renew ?_⟩
            rw [show 43 + 2 * i + 1 = 44 + 2 * i by omega]
            exact q
          · have key : ∀ j k, j + k = 40 → p_X6_sheet Q (j + 1) (nI i) (nI k) (mR (mU (mU N 9 i (nI ln)) 10 i (nI z)) 11 (zr ((mU (mU N 9 i (nI ln)) 10 i (nI z)) 11) (40 * i) k)) := by
              intro j
              induction j with
              | zero =>
                intro k hk
                refine br_t (by rw [li 40]; exact nI_le (by omega) (by omega)) ?_
                rw [show k = 40 by omega]
                exact q
              | succ j ih =>
                intro k hk
                show f_X6_sheet_56 Q (p_X6_sheet Q (j + 1)) _ _ _
                unfold f_X6_sheet_56
                rw [e40, nI_add]
                refine br_f (by rw [li 40]; exact nI_ge (by omega) (by omega)) ⟨vp_in_nI (by omega) (by omega), ?_⟩
                have := ih (k + 1) (by omega)
                rw [← zr_s] at this
                rw [nI_1, nI_clamp (by omega)]
                exact this
            refine ⟨41, fR Q 41 (br_t h40 (br_t h0 ⟨ev, ev, ?_⟩))⟩
            rw [ei]
            have := key 40 0 rfl
            rw [zr_0] at this
            exact this
          · refine h.sheet (fun a ha => by rw [mU_n (by omega), mU_n (by omega), mR_n (by omega)]) (fun a ha => by rw [mR_n (by omega), mU_n (by omega), mU_n (by omega)]) (fun k hk => ?_)
            by_cases hki : k = i
            · subst hki
              refine Or.inr ⟨ln, z, hln, hz, ?_, ?_, ?_, ?_, fun q hq => ?_⟩
              · rw [mU_at, if_neg (by omega), mU_at, if_pos ⟨rfl, rfl⟩]
              · rw [mR_n (by omega), mU_n (by omega), mU_at, if_pos ⟨rfl, rfl⟩]
              · rw [mU_at, if_pos ⟨rfl, rfl⟩]
              · rw [mR_n (by omega), mU_at, if_pos ⟨rfl, rfl⟩]
              · rw [mU_n (by omega), mU_n (by omega), mR_s, mR_s]
                unfold zr
                rw [if_pos (by omega), if_pos (by omega)]
            · have hk2 := sh k hk
              unfold rSheet at hk2 ⊢
              have c1 : mU (mU (mR M (44 + 2 * i) (zr (M (44 + 2 * i)) 0 40)) (43 + 2 * i) 1 (nI ln)) (43 + 2 * i) 2 (nI z) (43 + 2 * k) = M (43 + 2 * k) := by rw [mU_n (by omega), mU_n (by omega), mR_n (by omega)]
              have c2 : mU (mU (mR M (44 + 2 * i) (zr (M (44 + 2 * i)) 0 40)) (43 + 2 * i) 1 (nI ln)) (43 + 2 * i) 2 (nI z) (44 + 2 * k) = M (44 + 2 * k) := by rw [mU_n (by omega), mU_n (by omega), mR_n (by omega)]
              have c3 : (mR (mU (mU N 9 i (nI ln)) 10 i (nI z)) 11 (zr ((mU (mU N 9 i (nI ln)) 10 i (nI z)) 11) (40 * i) 40)) 9 k = N 9 k := by rw [mR_n (by omega), mU_n (by omega), mU_at, if_neg (by omega)]
              have c4 : (mR (mU (mU N 9 i (nI ln)) 10 i (nI z)) 11 (zr ((mU (mU N 9 i (nI ln)) 10 i (nI z)) 11) (40 * i) 40)) 10 k = N 10 k := by rw [mR_n (by omega), mU_at, if_neg (by omega), mU_n (by omega)]
              have c5 : ∀ q, q < 40 → (mR (mU (mU N 9 i (nI ln)) 10 i (nI z)) 11 (zr ((mU (mU N 9 i (nI ln)) 10 i (nI z)) 11) (40 * i) 40)) 11 (40 * k + q) = N 11 (40 * k + q) := fun q hq => by
                rw [mR_s]
                unfold zr
                rw [if_neg (by omega), mU_n (by omega), mU_n (by omega)]
              rw [c1, c2, c3, c4]
              rcases hk2 with q | ⟨l2, z2, q1, q2, q3, q4, q5, q6, q7⟩
              · exact Or.inl q
              · exact Or.inr ⟨l2, z2, q1, q2, q3, q4, q5, q6, fun q hq => (q7 q hq).trans (c5 q hq).symm⟩
        · exact both.no h (-14) (fun Q q => fX Q (br_t h40 (br_f h0 q))) (fun Q q => ⟨0, fR Q 0 (br_t h40 (br_f h0 q))⟩)
      · exact both.no h (-1) (fun Q q => fX Q (br_f h40 q)) (fun Q q => ⟨0, fR Q 0 (br_f h40 q)⟩)
    · exact both.no h (-1) (fun Q q => X_isSheet (fun _ => br_f ne10 (X_isLane (fun n => absurd n hl) (fun _ => br_t rfl q))) (fun n => absurd hv n)) (fun Q q => ⟨0, R_inI (lo := 0) (hi := 3) rfl rfl (fun _ => br_f ne10 (R_inI (lo := 0) (hi := 2) rfl rfl (fun n => absurd n hl) (fun _ => br_t rfl q))) (fun n => absurd hv n)⟩)
  · exact both.no h (-1) (fun Q q => X_isSheet (fun n => absurd n hv) (fun _ => br_t rfl q)) (fun Q q => ⟨0, R_inI (lo := 0) (hi := 3) rfl rfl (fun n => absurd n hv) (fun _ => br_t rfl q)⟩)
theorem S_isNothing {M : Mem} {o : Nat} {Q : Int32 → Mem → Prop} (h1 : M o 2 = -1 → Q 1 M) (h0 : ¬ M o 2 = -1 → Q 0 M) : q_X1_isNothing o M Q := bn_c h0 h1
theorem nI_nm1 {n : Nat} (h : n < 2 ^ 31) : ¬ nI n = -1 := by
  intro q
  have := nI_toInt h
  rw [q] at this
  have e : (-1 : Int32).toInt = -1 := by decide
  omega
/-- the fault of cell v of a sheet of z cells, of lane ln, taken as of a lane -/
theorem S_faultAt {M : Mem} {o z ln : Nat} {t v : Int32} {Q : Int32 → Mem → Prop} (e1 : M o 1 = nI ln) (e2 : M o 2 = nI z) (hz : z ≤ 40) (h3 : ¬ t = nI ln → Q 3 M) (h2 : t = nI ln → (¬ ∃ i, i < z ∧ v = nI i) → Q 2 M) (h0 : t = nI ln → (∃ i, i < z ∧ v = nI i) → Q 0 M) : q_X1_faultAt o t v M Q := by
  refine S_isNothing (fun q => absurd q (by rw [e2]; exact nI_nm1 (by omega))) (fun _ => br_t rfl ?_)
  rw [e1, e2]
  refine br_c (fun q => X_within (fun g => br_f ne10 (h0 q ((in_nI (by omega)).mp g))) (fun g => br_t rfl (h2 q (fun z => g ((in_nI (by omega)).mpr z))))) h3
set_option maxHeartbeats 1000000 in
theorem o_lay {M N : Mem} (h : RR M N) (v1 v2 v3 : Int32) : both (q_X5_lay v1 v2 v3 M) (q_X6_lay v1 v2 v3 N) := by
  have sh := h.2.2.2.2.2.1
  by_cases hv : 0 ≤ v1 ∧ v1 ≤ 3
  · have fX : ∀ Q : Int32 → Mem → Prop, _ → q_X5_lay v1 v2 v3 M Q := fun Q q => X_isSheet (fun _ => bn_f ne10 q) (fun n => absurd hv n)
    have fR : ∀ Q : Int32 → Mem → Prop, _ → q_X6_lay v1 v2 v3 N Q := fun Q q => R_inI (lo := 0) (hi := 3) rfl rfl (fun _ => bn_f ne10 q) (fun n => absurd hv n)
    obtain ⟨i, hi, rfl⟩ := v4_in.mp hv
    have ev : vp_in (nI i) 4 := vp_in_nI (by omega) (by omega)
    have ei : (nI i).toNatClampNeg = i := nI_clamp (by omega)
    rcases sh i hi with ⟨q1, q2⟩ | ⟨ln, z, hln, hz, x1, n1, x2, n2, hc⟩
    · refine both.no h (-11) (fun Q q => fX Q ⟨ev, ?_⟩) (fun Q q => fR Q ⟨ev, bn_t (by rw [ei]; exact q2) q⟩)
      rw [ei]
      exact ⟨sh_sh hi, S_isNothing (fun _ => br_f ne10 (br_f (by decide) q)) (fun n => absurd q1 n)⟩
    · have nn : ¬ nI ln = -4 := nI_nm4 (by omega)
      by_cases hj : ∃ j, j < z ∧ v2 = nI j
      · have hin := (in_nI (v := v2) (n := z) (by omega)).mpr hj
        obtain ⟨j, hj2, rfl⟩ := hj
        have ej : (nI j).toNatClampNeg = j := nI_clamp (by omega)
        have e40 : (40 : Int32) * nI i + nI j = nI (40 * i + j) := by rw [li 40, pk_mul, nI_add]
        have fin : ∀ w : Int32, (∀ Q : Mem → Prop, Q (mU M (44 + 2 * i) j w) → q_X1_layCell (43 + 2 * i) (nI j) v3 M Q) → (∀ Q : Int32 → Mem → Prop, Q 1 (mU N 11 (40 * i + j) w) → ((¬ nI ln = 0 → vp_in (nI i) 4 ∧ ((¬ nI ln = (1 : Int32) → f_X6_lay_99 Q v3 (((40 : Int32) * nI i) + nI j) N) ∧ (nI ln = (1 : Int32) → f_X6_lay_99 Q ((v3 <<< ((16 : Int32) &&& 31)) >>> ((16 : Int32) &&& 31)) (((40 : Int32) * nI i) + nI j) N))) ∧ (nI ln = 0 → f_X6_lay_99 Q ((v3 <<< ((24 : Int32) &&& 31)) >>> ((24 : Int32) &&& 31)) (((40 : Int32) * nI i) + nI j) N))) → both (q_X5_lay (nI i) (nI j) v3 M) (q_X6_lay (nI i) (nI j) v3 N) := by
          intro w hX hR
          refine both.e 1 (mU M (44 + 2 * i) j w) (mU N 11 (40 * i + j) w) (fun Q q => fX Q ⟨ev, ?_⟩) (fun Q q => fR Q ⟨ev, bn_f (by rw [ei, n1]; exact nn) ⟨ev, ?_⟩⟩) ?_
          · rw [ei]
            refine ⟨sh_sh hi, S_faultAt x1 x2 hz (fun n => absurd x1 n) (fun _ n => absurd ⟨j, hj2, rfl⟩ n) (fun _ _ => br_t rfl (hX _ q))⟩
          · rw [ei, n2]
            refine R_inI (lo := 0) rfl rfl (fun _ => bn_f ne10 ⟨ev, ?_⟩) (fun n => absurd hin n)
            rw [n1]
            exact hR Q q
          · refine h.sheet (fun a ha => mU_n (by omega)) (fun a ha => mU_n (by omega)) (fun k hk => ?_)
            have hk2 := sh k hk
            unfold rSheet at hk2 ⊢
            rw [mU_n (show (43 + 2 * k) ≠ 44 + 2 * i by omega), mU_n (show (9 : Nat) ≠ 11 by omega), mU_n (show (10 : Nat) ≠ 11 by omega)]
            rcases hk2 with q | ⟨l2, z2, q1, q2, q3, q4, q5, q6, q7⟩
            · exact Or.inl q
            · refine Or.inr ⟨l2, z2, q1, q2, q3, q4, q5, q6, fun q hq => ?_⟩
              rw [mU_at, mU_at]
              by_cases hz2 : k = i ∧ q = j
              · rw [if_pos (by omega), if_pos (by omega)]
              · rw [if_neg (by omega), if_neg (by omega)]
                exact q7 q hq
        have vj : vp_in (nI j) 40 := vp_in_nI (by omega) (by omega)
        have l99 : ∀ (Q : Int32 → Mem → Prop) (w : Int32), Q 1 (mU N 11 (40 * i + j) w) → f_X6_lay_99 Q w (((40 : Int32) * nI i) + nI j) N := by
          intro Q w q
          unfold f_X6_lay_99
          rw [e40, nI_clamp (by omega)]
          exact ⟨vp_in_nI (by omega) (by omega), q⟩
        rcases (by omega : ln = 0 ∨ ln = 1 ∨ ln = 2) with rfl | rfl | rfl
        · refine fin v3.toInt8.toInt32 (fun Q q => ?_) (fun Q q => bn_t rfl (by rw [sh8]; exact l99 Q _ q))
          unfold q_X1_layCell
          rw [x1, ej, show 43 + 2 * i + 1 = 44 + 2 * i by omega]
          exact bn_t rfl ⟨vj, q⟩
        · refine fin v3.toInt16.toInt32 (fun Q q => ?_) (fun Q q => bn_f (by decide) ⟨ev, bn_t rfl (by rw [sh16]; exact l99 Q _ q)⟩)
          unfold q_X1_layCell
          rw [x1, ej, show 43 + 2 * i + 1 = 44 + 2 * i by omega]
          exact bn_f (by decide) (bn_t rfl ⟨vj, q⟩)
        · refine fin v3 (fun Q q => ?_) (fun Q q => bn_f (by decide) ⟨ev, bn_f (by decide) (l99 Q _ q)⟩)
          unfold q_X1_layCell
          rw [x1, ej, show 43 + 2 * i + 1 = 44 + 2 * i by omega]
          exact bn_f (by decide) (bn_f (by decide) ⟨vj, q⟩)
      · have hin : ¬ (0 ≤ v2 ∧ v2 ≤ nI z - 1) := fun q => hj ((in_nI (by omega)).mp q)
        refine both.no h (-12) (fun Q q => fX Q ⟨ev, ?_⟩) (fun Q q => fR Q ⟨ev, bn_f (by rw [ei, n1]; exact nn) ⟨ev, ?_⟩⟩)
        · rw [ei]
          exact ⟨sh_sh hi, S_faultAt x1 x2 hz (fun n => absurd x1 n) (fun _ _ => br_f (by decide) q) (fun _ n => absurd n hj)⟩
        · rw [ei, n2]
          exact R_inI (lo := 0) rfl rfl (fun n => absurd n hin) (fun _ => bn_t rfl q)
  · exact both.no h (-1) (fun Q q => X_isSheet (fun n => absurd n hv) (fun _ => bn_t rfl q)) (fun Q q => R_inI (lo := 0) (hi := 3) rfl rfl (fun n => absurd n hv) (fun _ => bn_t rfl q))
