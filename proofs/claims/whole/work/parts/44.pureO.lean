/-! ask -/
theorem sh1v : ∀ v : Fin 10, ((1 : Int32) <<< (nI v.val &&& 31)) = nI (2 ^ v.val) ∧ (((nI v.val &&& 31).toBitVec.smod 32).toNat = v.val) := by decide
theorem nI_or (a b : Nat) : nI a ||| nI b = nI (a ||| b) := by
  apply Int32.toBitVec_inj.mp
  show BitVec.ofNat 32 a ||| BitVec.ofNat 32 b = BitVec.ofNat 32 (a ||| b)
  exact (BitVec.ofNat_or).symm
theorem or_pow {v L : Nat} (hv : v ≤ 9) (hL : L < 2 ^ v) : nI L ||| ((1 : Int32) <<< (nI v &&& 31)) = nI (2 ^ v + L) := by
  have e := (sh1v ⟨v, by omega⟩).1
  rw [e, nI_or]
  have := Nat.two_pow_add_eq_or_of_lt hL 1
  rw [Nat.mul_one] at this
  rw [this, Nat.or_comm]
theorem bitv_ex (g : Nat → Bool) : ∀ n, n ≤ 9 → ∃ L, L < 2 ^ (n + 1) ∧ L % 2 = 0 ∧ bitv g 1 n = nI L ∧ ∀ v, 1 ≤ v → v ≤ n → Nat.testBit L v = g v
  | 0, _ => ⟨0, by omega, rfl, rfl, fun v h1 h2 => by omega⟩
  | n + 1, hn => by
    obtain ⟨L, l1, l2, l3, l4⟩ := bitv_ex g n (by omega)
    have ep : 2 ^ (n + 1 + 1) = 2 ^ (n + 1) + 2 ^ (n + 1) := by rw [Nat.pow_succ 2 (n + 1)]; omega
    have ep2 : 2 ^ (n + 1) = 2 * 2 ^ n := by rw [Nat.pow_succ]; omega
    by_cases hg : g (1 + n) = true
    · refine ⟨2 ^ (n + 1) + L, by omega, by omega, ?_, fun v h1 h2 => ?_⟩
      · show (if g (1 + n) then _ else _) = _
        rw [if_pos hg, l3, show 1 + n = n + 1 by omega]
        exact or_pow (by omega) l1
      · by_cases hv : v = n + 1
        · subst hv
          rw [Nat.testBit_two_pow_add_eq, Nat.testBit_lt_two_pow l1, show n + 1 = 1 + n by omega, hg]; rfl
        · rw [Nat.testBit_two_pow_add_gt (by omega)]; exact l4 v h1 (by omega)
    · refine ⟨L, by omega, l2, ?_, fun v h1 h2 => ?_⟩
      · show (if g (1 + n) then _ else _) = _
        rw [if_neg hg]; exact l3
      · by_cases hv : v = n + 1
        · subst hv
          rw [Nat.testBit_lt_two_pow l1]
          have : g (1 + n) = false := by simpa using hg
          rw [show n + 1 = 1 + n by omega, this]
        · exact l4 v h1 (by omega)
/-- a bit of what is left -/
theorem bt_nI {L v : Nat} (hv : v ≤ 9) (hL : L < 1024) : (nI L >>> (nI v &&& 31)) &&& 1 = nI (L / 2 ^ v % 2) := by
  rw [pk_shrN (by omega) _ v (sh1v ⟨v, by omega⟩).2, pk_andN (k := 1) (by have := Nat.div_le_self L (2 ^ v); omega) (by decide)]
theorem bt_g {g : Nat → Bool} {L v : Nat} (h : Nat.testBit L v = g v) : L / 2 ^ v % 2 = if g v then 1 else 0 := by
  rw [Nat.testBit_eq_decide_div_mod_eq] at h
  have h2 : L / 2 ^ v % 2 < 2 := Nat.mod_lt _ (by omega)
  cases hg : g v with
  | true =>
    rw [hg] at h
    rw [if_pos rfl]; exact of_decide_eq_true h
  | false =>
    rw [hg] at h
    have := of_decide_eq_false h
    rw [if_neg (by decide)]; omega
theorem bt_left {g : Nat → Bool} {v : Nat} (h1 : 1 ≤ v) (h9 : v ≤ 9) : (bitv g 1 9 >>> (nI v &&& 31)) &&& 1 = if g v then 1 else 0 := by
  obtain ⟨L, l1, -, l3, l4⟩ := bitv_ex g 9 (by omega)
  rw [l3, bt_nI h9 l1, bt_g (l4 v h1 h9)]
  split <;> rfl
def bc (x : Int32) : Int32 :=
  let x1 := x - ((iushr x 1) &&& 1431655765)
  let x2 := (x1 &&& 858993459) + ((iushr x1 2) &&& 858993459)
  let x3 := (x2 + (iushr x2 4)) &&& 252645135
  let x4 := x3 + (iushr x3 8)
  let x5 := x4 + (iushr x4 16)
  x5 &&& 63
def s9 (x : Int32) : Int32 := sm (fun k => (x >>> (nI (1 + k) &&& 31)) &&& 1) 9
theorem bc_ok : ∀ i : Fin 512, bc (nI (2 * i.val)) = s9 (nI (2 * i.val)) := by decide +kernel
theorem bc_left (g : Nat → Bool) : bc (bitv g 1 9) = s9 (bitv g 1 9) := by
  obtain ⟨L, l1, l2, l3, l4⟩ := bitv_ex g 9 (by omega)
  have := bc_ok ⟨L / 2, by omega⟩
  rw [l3, show L = 2 * (L / 2) by omega]
  exact this
theorem J_bitCount {x : Int32} {M : Mem} {Q : Int32 → Mem → Prop} (h : Q (bc x) M) : q_J6_bitCount_0f7a4 x M Q := by
  intro x1 e1 x2 e2 x3 e3 x4 e4 x5 e5
  subst e1 e2 e3 e4 e5
  exact h
/-! how many read alike -/
def cnt (g : Nat → Bool) (f : Nat → Int32) (r : Int32) : Nat → Nat
  | 0 => 0
  | n + 1 => cnt g f r n + (if g (1 + n) = true ∧ f (1 + n) = r then 1 else 0)
def mo (g : Nat → Bool) (f : Nat → Int32) : Nat → Nat
  | 0 => 0
  | n + 1 => if g (1 + n) then max (mo g f n) (cnt g f (f (1 + n)) 9) else mo g f n
theorem cnt_le (g : Nat → Bool) (f : Nat → Int32) (r : Int32) : ∀ n, cnt g f r n ≤ n
  | 0 => Nat.le_refl 0
  | n + 1 => by
    have := cnt_le g f r n
    show cnt g f r n + _ ≤ _
    split <;> omega
theorem mo_le (g : Nat → Bool) (f : Nat → Int32) : ∀ n, mo g f n ≤ 9
  | 0 => Nat.zero_le 9
  | n + 1 => by
    have h1 := mo_le g f n
    have h2 := cnt_le g f (f (1 + n)) 9
    show (if _ then _ else _) ≤ _
    split
    · exact Nat.max_le.mpr ⟨h1, h2⟩
    · exact h1
theorem cnt_congr {g : Nat → Bool} {f f' : Nat → Int32} {r : Int32} : ∀ {n : Nat}, n ≤ 9 → (∀ v, 1 ≤ v → v ≤ 9 → f v = f' v) → cnt g f r n = cnt g f' r n
  | 0, _, _ => rfl
  | n + 1, hn, h => by
    show cnt g f r n + (if g (1 + n) = true ∧ f (1 + n) = r then 1 else 0) = cnt g f' r n + (if g (1 + n) = true ∧ f' (1 + n) = r then 1 else 0)
    rw [cnt_congr (by omega) h, h (1 + n) (by omega) (by omega)]
theorem mo_congr {g : Nat → Bool} {f f' : Nat → Int32} (h : ∀ v, 1 ≤ v → v ≤ 9 → f v = f' v) : ∀ {n : Nat}, n ≤ 9 → mo g f n = mo g f' n
  | 0, _ => rfl
  | n + 1, hn => by
    show (if g (1 + n) then max (mo g f n) (cnt g f (f (1 + n)) 9) else mo g f n) = (if g (1 + n) then max (mo g f' n) (cnt g f' (f' (1 + n)) 9) else mo g f' n)
    rw [mo_congr h (by omega), h (1 + n) (by omega) (by omega), cnt_congr (by omega) h]
theorem imax_nI {a b : Nat} (ha : a < 1000) (hb : b < 1000) : imax (nI a) (nI b) = nI (max a b) := by
  unfold imax
  by_cases h : a < b
  · rw [if_pos (nI_lt h (by omega)), Nat.max_eq_right (by omega)]
  · rw [if_neg (nI_nlt (by omega) (by omega)), Nat.max_eq_left (by omega)]
theorem if1 {b : Bool} : (if b then (1 : Int32) else 0) = 0 ↔ ¬ b = true := by cases b <;> decide
theorem if1' {b : Bool} : (if b then (1 : Int32) else 0) = 1 ↔ b = true := by cases b <;> decide
theorem X_countAlike {M : Mem} {g : Nat → Bool} {r : Int32} {Q : Int32 → Mem → Prop} (hq : Q (nI (cnt g (M 30) r 9)) M) : q_X5_countAlike (bitv g 1 9) r M Q := by
  have key : ∀ j k, j + k = 9 → (p_X5_countAlike Q (2 * j + 1)).1 (bitv g 1 9) r (nI (cnt g (M 30) r k)) (nI (1 + k)) M := by
    intro j
    induction j with
    | zero =>
      intro k hk
      have e : k = 9 := by omega
      subst e
      show f_X5_countAlike_5 Q (p_X5_countAlike Q 0) _ _ _ _ _
      exact br_t (by decide) hq
    | succ j ih =>
      intro k hk
      rw [show 2 * (j + 1) + 1 = 2 * j + 1 + 2 by omega]
      show f_X5_countAlike_5 Q (p_X5_countAlike Q (2 * j + 1 + 1)) _ _ _ _ _
      unfold f_X5_countAlike_5
      rw [bt_left (by omega) (by omega), nI_clamp (by omega)]
      have nx : ∀ c, c = cnt g (M 30) r (k + 1) → (p_X5_countAlike Q (2 * j + 1 + 1)).2 (bitv g 1 9) r (nI c) (nI (1 + k)) M := by
        intro c hc
        show (p_X5_countAlike Q (2 * j + 1)).1 _ _ _ _ _
        rw [hc, nI_1]
        exact ih (k + 1) (by omega)
      refine br_f (by rw [li 9]; exact nI_nlt (by omega) (by omega)) (br_c (fun hb => nx _ ?_) (fun hb => ⟨vp_in_nI (by omega) (by omega), bn_c (fun he => nx _ ?_) (fun he => ?_)⟩))
      · show _ = cnt g (M 30) r k + (if _ then 1 else 0)
        rw [if_neg (fun z => if1.mp hb z.1)]; rfl
      · show _ = cnt g (M 30) r k + (if _ then 1 else 0)
        rw [if_neg (fun z => he z.2)]; rfl
      · rw [nI_1]
        refine nx _ ?_
        show _ = cnt g (M 30) r k + (if _ then 1 else 0)
        have hg : g (1 + k) = true := by
          cases hh : g (1 + k) with
          | true => rfl
          | false => rw [hh] at hb; exact absurd rfl hb
        rw [if_pos ⟨hg, he⟩]
  exact ⟨19, key 9 0 rfl⟩
theorem X_mostAlike {M : Mem} {g : Nat → Bool} {Q : Int32 → Mem → Prop} (hq : Q (nI (mo g (M 30) 9)) M) : q_X5_mostAlike (bitv g 1 9) M Q := by
  have key : ∀ j k, j + k = 9 → (p_X5_mostAlike Q (2 * j + 1)).1 (bitv g 1 9) (nI (mo g (M 30) k)) (nI (1 + k)) M := by
    intro j
    induction j with
    | zero =>
      intro k hk
      have e : k = 9 := by omega
      subst e
      show f_X5_mostAlike_4 Q (p_X5_mostAlike Q 0) _ _ _ _
      exact br_t (by decide) hq
    | succ j ih =>
      intro k hk
      rw [show 2 * (j + 1) + 1 = 2 * j + 1 + 2 by omega]
      show f_X5_mostAlike_4 Q (p_X5_mostAlike Q (2 * j + 1 + 1)) _ _ _ _
      unfold f_X5_mostAlike_4
      rw [bt_left (by omega) (by omega), nI_clamp (by omega)]
      have nx : ∀ c, c = mo g (M 30) (k + 1) → (p_X5_mostAlike Q (2 * j + 1 + 1)).2 (bitv g 1 9) (nI c) (nI (1 + k)) M := by
        intro c hc
        show (p_X5_mostAlike Q (2 * j + 1)).1 _ _ _ _
        rw [hc, nI_1]
        exact ih (k + 1) (by omega)
      refine br_f (by rw [li 9]; exact nI_nlt (by omega) (by omega)) (br_c (fun hb => nx _ ?_) (fun hb => ⟨vp_in_nI (by omega) (by omega), X_countAlike ?_⟩))
      · show _ = if _ then _ else _
        rw [if_neg (if1.mp hb)]
      · have hg : g (1 + k) = true := by
          cases hh : g (1 + k) with
          | true => rfl
          | false => rw [hh] at hb; exact absurd rfl hb
        have l1 := mo_le g (M 30) k
        have l2 := cnt_le g (M 30) (M 30 (1 + k)) 9
        rw [imax_nI (by omega) (by omega)]
        refine nx _ ?_
        show _ = if _ then _ else _
        rw [if_pos hg]
  exact ⟨19, key 9 0 rfl⟩
theorem X_rollEach {M : Mem} {kd x : Int32} {Q : Mem → Prop} (hq : ∀ M', (∀ a, a ≠ 30 → M' a = M a) → (∀ v, 1 ≤ v → v ≤ 9 → M' 30 v = M 30 v + rl kd (nI v) x) → Q M') : q_X5_rollEachStep kd x M Q := by
  have key : ∀ j k, j + k = 9 → ∀ M', (∀ a, a ≠ 30 → M' a = M a) → (∀ v, M' 30 v = if 1 ≤ v ∧ v < 1 + k then M 30 v + rl kd (nI v) x else M 30 v) → p_X5_rollEachStep Q (j + 1) kd x (nI (1 + k)) M' := by
    intro j
    induction j with
    | zero =>
      intro k hk M' g1 g2
      have e : k = 9 := by omega
      subst e
      show f_X5_rollEachStep_2 Q (p_X5_rollEachStep Q 0) _ _ _ _
      exact br_t (by decide) (hq M' g1 (fun v v1 v9 => by rw [g2, if_pos (by omega)]))
    | succ j ih =>
      intro k hk M' g1 g2
      show f_X5_rollEachStep_2 Q (p_X5_rollEachStep Q (j + 1)) _ _ _ _
      unfold f_X5_rollEachStep_2
      rw [nI_clamp (by omega)]
      refine br_f (by rw [li 9]; exact nI_nlt (by omega) (by omega)) ⟨vp_in_nI (by omega) (by omega), L_roll (sp_nI (by omega) (by omega)) ⟨vp_in_nI (by omega) (by omega), ?_⟩⟩
      rw [nI_1]
      refine ih (k + 1) (by omega) _ (fun a ha => by rw [mU_n ha, g1 a ha]) (fun v => ?_)
      rw [mU_r]
      by_cases hv : v = 1 + k
      · subst hv
        rw [if_pos rfl, if_pos (by omega), g2, if_neg (by omega)]
      · rw [if_neg hv, g2]
        by_cases hv2 : 1 ≤ v ∧ v < 1 + k
        · rw [if_pos hv2, if_pos (by omega)]
        · rw [if_neg hv2, if_neg (by omega)]
  exact ⟨10, key 9 0 rfl M (fun _ _ => rfl) (fun v => by rw [if_neg (by omega)])⟩
/-! the reference's worst -/
theorem R_worstAt {N : Mem} {g : Nat → Bool} {k : Nat} {Q : Int32 → Mem → Prop} (hk : k ≤ 40) (hq : Q (nI (mo g (fun v => N 7 (41 * v + k)) 9)) N) : q_X6_worstAt (bitv g 1 9) (nI k) N Q := by
  have inn : ∀ a, 1 ≤ a → a ≤ 9 → g a = true → ∀ wst m, (p_X6_worstAt Q m).2.2.2.2.1 (bitv g 1 9) (nI k) wst (nI a) (nI (cnt g (fun v => N 7 (41 * v + k)) (N 7 (41 * a + k)) 9)) N → ∀ j b, j + b = 9 → ∃ m, (p_X6_worstAt Q m).2.1 (bitv g 1 9) (nI k) wst (nI a) (nI (cnt g (fun v => N 7 (41 * v + k)) (N 7 (41 * a + k)) b)) (nI (1 + b)) N := by
    intro a a1 a9 ga wst m hm j
    induction j with
    | zero =>
      intro b hb
      have e : b = 9 := by omega
      subst e
      refine ⟨m + 1, ?_⟩
      show f_X6_worstAt_18 Q (p_X6_worstAt Q m) _ _ _ _ _ _ _
      exact br_t (by decide) hm
    | succ j ih =>
      intro b hb
      obtain ⟨m2, hm2⟩ := ih (b + 1) (by omega)
      have i1 : ∀ c, (41 : Int32) * nI c + nI k = nI (41 * c + k) := fun c => by rw [li 41, pk_mul, nI_add]
      have step : ∀ c, c = cnt g (fun v => N 7 (41 * v + k)) (N 7 (41 * a + k)) (b + 1) → (p_X6_worstAt Q m2).2.1 (bitv g 1 9) (nI k) wst (nI a) (nI c) (nI (1 + b) + 1) N := fun c hc => by rw [hc, nI_1]; exact hm2
      by_cases hc : g (1 + b) = true ∧ N 7 (41 * (1 + b) + k) = N 7 (41 * a + k)
      · refine ⟨m2 + 2, ?_⟩
        show f_X6_worstAt_18 Q (p_X6_worstAt Q (m2 + 1)) _ _ _ _ _ _ _
        unfold f_X6_worstAt_18
        rw [bt_left a1 a9, bt_left (v := 1 + b) (by omega) (by omega), i1, i1, nI_clamp (by omega), nI_clamp (by omega)]
        refine br_f (by rw [li 9]; exact nI_nlt (by omega) (by omega)) (bn_t (if1'.mpr ga) (bn_t (if1'.mpr hc.1) ⟨vp_in_nI (by omega) (by omega), vp_in_nI (by omega) (by omega), bn_t hc.2.symm ?_⟩))
        show (p_X6_worstAt Q m2).2.1 _ _ _ _ _ _ _
        rw [nI_1]
        refine step _ ?_
        show _ = cnt g _ _ b + (if _ then 1 else 0)
        rw [if_pos hc]
      · refine ⟨m2 + 3, ?_⟩
        have no : (p_X6_worstAt Q (m2 + 2)).2.2.1 (bitv g 1 9) (nI k) wst (nI a) (nI (1 + b)) (nI (cnt g (fun v => N 7 (41 * v + k)) (N 7 (41 * a + k)) b)) N := by
          show (p_X6_worstAt Q m2).2.1 _ _ _ _ _ _ _
          rw [add_z]
          refine step _ ?_
          show _ = cnt g _ _ b + (if _ then 1 else 0)
          rw [if_neg hc]; rfl
        show f_X6_worstAt_18 Q (p_X6_worstAt Q (m2 + 2)) _ _ _ _ _ _ _
        unfold f_X6_worstAt_18
        rw [bt_left a1 a9, bt_left (v := 1 + b) (by omega) (by omega), i1, i1, nI_clamp (by omega), nI_clamp (by omega)]
        refine br_f (by rw [li 9]; exact nI_nlt (by omega) (by omega)) (bn_t (if1'.mpr ga) (bn_c (fun _ => no) (fun hb1 => ⟨vp_in_nI (by omega) (by omega), vp_in_nI (by omega) (by omega), bn_f (fun z => hc ⟨if1'.mp hb1, z.symm⟩) no⟩)))
  have key : ∀ j c, j + c = 9 → ∃ m, (p_X6_worstAt Q m).1 (bitv g 1 9) (nI k) (nI (mo g (fun v => N 7 (41 * v + k)) c)) (nI (1 + c)) N := by
    intro j
    induction j with
    | zero =>
      intro c hc
      have e : c = 9 := by omega
      subst e
      refine ⟨1, ?_⟩
      show f_X6_worstAt_5 Q (p_X6_worstAt Q 0) _ _ _ _ _
      exact br_t (by decide) hq
    | succ j ih =>
      intro c hc
      obtain ⟨m, hm⟩ := ih (c + 1) (by omega)
      have l1 := mo_le g (fun v => N 7 (41 * v + k)) c
      by_cases ga : g (1 + c) = true
      · have l2 := cnt_le g (fun v => N 7 (41 * v + k)) (N 7 (41 * (1 + c) + k)) 9
        have e : mo g (fun v => N 7 (41 * v + k)) (c + 1) = max (mo g (fun v => N 7 (41 * v + k)) c) (cnt g (fun v => N 7 (41 * v + k)) (N 7 (41 * (1 + c) + k)) 9) := if_pos ga
        obtain ⟨m2, hm2⟩ := inn (1 + c) (by omega) (by omega) ga (nI (mo g (fun v => N 7 (41 * v + k)) c)) (m + 2) (by
          show f_X6_worstAt_88 Q (p_X6_worstAt Q (m + 1)) _ _ _ _ _ _
          by_cases hl : cnt g (fun v => N 7 (41 * v + k)) (N 7 (41 * (1 + c) + k)) 9 ≤ mo g (fun v => N 7 (41 * v + k)) c
          · refine br_t (nI_le hl (by omega)) ?_
            show (p_X6_worstAt Q m).1 _ _ _ _ _
            rw [e, Nat.max_eq_left hl] at hm
            rw [nI_1]; exact hm
          · refine br_f (nI_ge (by omega) (by omega)) ?_
            show (p_X6_worstAt Q m).1 _ _ _ _ _
            rw [e, Nat.max_eq_right (by omega)] at hm
            rw [nI_1]; exact hm) 9 0 rfl
        refine ⟨m2 + 1, ?_⟩
        show f_X6_worstAt_5 Q (p_X6_worstAt Q m2) _ _ _ _ _
        exact br_f (by rw [li 9]; exact nI_nlt (by omega) (by omega)) hm2
      · have e : mo g (fun v => N 7 (41 * v + k)) (c + 1) = mo g (fun v => N 7 (41 * v + k)) c := if_neg ga
        refine ⟨m + 4, ?_⟩
        show f_X6_worstAt_5 Q (p_X6_worstAt Q (m + 3)) _ _ _ _ _
        refine br_f (by rw [li 9]; exact nI_nlt (by omega) (by omega)) ?_
        show f_X6_worstAt_18 Q (p_X6_worstAt Q (m + 2)) _ _ _ _ _ _ _
        unfold f_X6_worstAt_18
        rw [bt_left (v := 1 + c) (by omega) (by omega)]
        refine br_f (by decide) (bn_f (fun z => ga (if1'.mp z)) ?_)
        show f_X6_worstAt_88 Q (p_X6_worstAt Q (m + 1)) _ _ _ _ _ _
        refine br_t (nI_le (a := 0) (by omega) (by omega)) ?_
        show (p_X6_worstAt Q m).1 _ _ _ _ _
        rw [e] at hm
        rw [nI_1]; exact hm
  exact key 9 0 rfl
