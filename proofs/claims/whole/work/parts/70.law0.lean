/-! the first memories -/
def M0 : Mem := fun a j => if (a = 43 ∨ a = 45 ∨ a = 47 ∨ a = 49) ∧ j = 2 then -1 else 0
def N0 : Mem := fun a j => if a = 0 ∧ j = 14 then -4 else if a = 4 then ends0.getD j 0 else if a = 5 then lett0.getD j 0 else if a = 9 ∧ j < 4 then -4 else 0
theorem M0_z {a : Nat} (h : a ≠ 43 ∧ a ≠ 45 ∧ a ≠ 47 ∧ a ≠ 49) : M0 a = fun _ => 0 := by
  funext j
  exact if_neg (fun q => by have := q.1; omega)
theorem N0_z {a : Nat} (h : a ≠ 0 ∧ a ≠ 4 ∧ a ≠ 5 ∧ a ≠ 9) : N0 a = fun _ => 0 := by
  funext j
  unfold N0
  rw [if_neg (fun q => h.1 q.1), if_neg h.2.1, if_neg h.2.2.1, if_neg (fun q => h.2.2.2 q.1)]
theorem N0_0 {j : Nat} (h : j ≠ 14) : N0 0 j = 0 := by
  unfold N0
  rw [if_neg (fun q => h q.2), if_neg (by decide), if_neg (by decide), if_neg (fun q => absurd q.1 (by decide))]
theorem N0_4 (j : Nat) : N0 4 j = ends0.getD j 0 := by
  unfold N0
  rw [if_neg (fun q => absurd q.1 (by decide)), if_pos rfl]
theorem N0_5 (j : Nat) : N0 5 j = lett0.getD j 0 := by
  unfold N0
  rw [if_neg (fun q => absurd q.1 (by decide)), if_neg (by decide), if_pos rfl]
theorem N0_9 {j : Nat} (h : j < 4) : N0 9 j = -4 := by
  unfold N0
  rw [if_neg (fun q => absurd q.1 (by decide)), if_neg (by decide), if_neg (by decide), if_pos ⟨rfl, h⟩]
theorem N0_14 : N0 0 14 = -4 := if_pos ⟨rfl, rfl⟩
theorem M0_1 {a : Nat} : M0 a 1 = 0 := if_neg (fun q => absurd q.2 (by decide))
theorem M0_2 {a : Nat} (h : a = 43 ∨ a = 45 ∨ a = 47 ∨ a = 49) : M0 a 2 = -1 := if_pos ⟨h, rfl⟩
theorem RR_0 : RR M0 N0 := by
  have ep : pg N0 0 = P00 := funext fun j => congrFun (N0_z (a := 1) (by decide)) (0 + j)
  have m0 : ∀ a j, (a ≠ 43 ∧ a ≠ 45 ∧ a ≠ 47 ∧ a ≠ 49) → M0 a j = 0 := fun a j h => congrFun (M0_z h) j
  have n0 : ∀ a j, (a ≠ 0 ∧ a ≠ 4 ∧ a ≠ 5 ∧ a ≠ 9) → N0 a j = 0 := fun a j h => congrFun (N0_z h) j
  refine ⟨⟨by rw [ep]; exact OK_00, by rw [ep]; exact isX_00 (m0 1 2 (by decide)) (m0 1 6 (by decide)) (m0 1 7 (by decide)) (m0 1 8 (by decide)) (m0 1 9 (by decide))⟩, ⟨Or.inl ⟨m0 14 0 (by decide), n0 8 0 (by decide)⟩, Or.inl ⟨m0 14 1 (by decide), n0 8 1 (by decide)⟩⟩, ⟨0, Nat.zero_le _, m0 16 1 (by decide), N0_0 (by decide), fun i hi => absurd hi (Nat.not_lt_zero i)⟩, ⟨(m0 0 9 (by decide)).trans (N0_0 (by decide)).symm, (m0 0 10 (by decide)).trans (N0_0 (by decide)).symm⟩, ⟨0, Nat.zero_le _, m0 24 3 (by decide), N0_0 (by decide), fun e he => absurd he (Nat.not_lt_zero e)⟩, fun k hk => Or.inl ⟨M0_2 (by omega), N0_9 hk⟩, N0_14, fun j _ => N0_4 j, fun j _ => N0_5 j⟩
/-! the worlds behind the constructors -/
theorem cell_i {cA : ClassId} {n : Nat} {f g : Nat → Int32} (h : ∀ j, j < n → f j = g j) : vp_cell cA (n, .inl f) = vp_cell cA (n, .inl g) := by
  rw [vp_cell_i, vp_cell_i]
  unfold arrV
  congr 1
  apply congrArg
  funext j
  exact congrArg Value.int (h j.val j.isLt)
theorem cell_q {cA : ClassId} {n : Nat} {f g : Nat → Option Nat} (h : ∀ j, j < n → f j = g j) : vp_cell cA (n, .inr (.inr (.inr (.inr f)))) = vp_cell cA (n, .inr (.inr (.inr (.inr g)))) := by
  rw [vp_cell_q, vp_cell_q]
  unfold arrV
  congr 1
  apply congrArg
  funext j
  exact congrArg va_rf (h j.val j.isLt)
section WX
variable {K : wC} {H : Heap}
theorem xw_0 (hP : va_P (kD K) vwCl (woX5 K (kb K) (kb K + 1)) H) : va_at (kD K) vwCl (kb K + 0, shX K 0 (M0 0)) H := by
  rw [M0_z (a := 0) (by decide), sX_0]
  exact hP 0 _ rfl
theorem xw_1 (hP : va_P (kD K) vwCl (woX5 K (kb K) (kb K + 1)) H) : va_at (kD K) vwCl (kb K + 1, shX K 1 (M0 1)) H := by
  rw [M0_z (a := 1) (by decide), sX_1]
  exact hP 1 _ rfl
theorem xw_2 (hP : va_P (kD K) vwCl (woX5 K (kb K) (kb K + 1)) H) : va_at (kD K) vwCl (kb K + 2, shX K 2 (M0 2)) H := by
  rw [M0_z (a := 2) (by decide), sX_2]
  exact hP 2 _ rfl
theorem xw_3 (hP : va_P (kD K) vwCl (woX5 K (kb K) (kb K + 1)) H) : va_at (kD K) vwCl (kb K + 3, shX K 3 (M0 3)) H := by
  rw [M0_z (a := 3) (by decide), sX_3]
  exact hP 3 _ rfl
theorem xw_4 (hP : va_P (kD K) vwCl (woX5 K (kb K) (kb K + 1)) H) : va_at (kD K) vwCl (kb K + 4, shX K 4 (M0 4)) H := by
  rw [M0_z (a := 4) (by decide), sX_4]
  exact hP 4 _ rfl
theorem xw_5 (hP : va_P (kD K) vwCl (woX5 K (kb K) (kb K + 1)) H) : va_at (kD K) vwCl (kb K + 5, shX K 5 (M0 5)) H := by
  rw [M0_z (a := 5) (by decide), sX_5]
  exact hP 5 _ rfl
theorem xw_6 (hP : va_P (kD K) vwCl (woX5 K (kb K) (kb K + 1)) H) : va_at (kD K) vwCl (kb K + 6, shX K 6 (M0 6)) H := by
  rw [M0_z (a := 6) (by decide), sX_6]
  exact hP 6 _ rfl
theorem xw_7 (hP : va_P (kD K) vwCl (woX5 K (kb K) (kb K + 1)) H) : va_at (kD K) vwCl (kb K + 7, shX K 7 (M0 7)) H := by
  rw [M0_z (a := 7) (by decide), sX_7]
  exact hP 7 _ rfl
theorem xw_8 (hP : va_P (kD K) vwCl (woX5 K (kb K) (kb K + 1)) H) : va_at (kD K) vwCl (kb K + 8, shX K 8 (M0 8)) H := by
  rw [M0_z (a := 8) (by decide), sX_8]
  exact hP 8 _ rfl
theorem xw_9 (hP : va_P (kD K) vwCl (woX5 K (kb K) (kb K + 1)) H) : va_at (kD K) vwCl (kb K + 9, shX K 9 (M0 9)) H := by
  rw [M0_z (a := 9) (by decide), sX_9]
  exact hP 9 _ rfl
theorem xw_10 (hP : va_P (kD K) vwCl (woX5 K (kb K) (kb K + 1)) H) : va_at (kD K) vwCl (kb K + 10, shX K 10 (M0 10)) H := by
  rw [M0_z (a := 10) (by decide), sX_10]
  exact hP 10 _ rfl
theorem xw_11 (hP : va_P (kD K) vwCl (woX5 K (kb K) (kb K + 1)) H) : va_at (kD K) vwCl (kb K + 11, shX K 11 (M0 11)) H := by
  rw [M0_z (a := 11) (by decide), sX_11]
  exact hP 11 _ rfl
theorem xw_12 (hP : va_P (kD K) vwCl (woX5 K (kb K) (kb K + 1)) H) : va_at (kD K) vwCl (kb K + 12, shX K 12 (M0 12)) H := by
  rw [M0_z (a := 12) (by decide), sX_12]
  exact hP 12 _ rfl
theorem xw_13 (hP : va_P (kD K) vwCl (woX5 K (kb K) (kb K + 1)) H) : va_at (kD K) vwCl (kb K + 13, shX K 13 (M0 13)) H := by
  rw [sX_13]
  have h : va_at (kD K) vwCl (kb K + 13, zQ (kc K 3) 2 (va_up (va_up (fun _ => none) 0 (some (kb K + 1 + 30))) 1 (some (kb K + 1 + 36)))) H := hP 13 _ rfl
  have h2 : H[kb K + 13]? = some (vp_cell (kc K 3) (2, .inr (.inr (.inr (.inr (va_up (va_up (fun _ => none) 0 (some (kb K + 1 + 30))) 1 (some (kb K + 1 + 36)))))))) := h
  show H[kb K + 13]? = some (vp_cell (kc K 3) (2, .inr (.inr (.inr (.inr (fun i => some (kb K + (31 + 6 * i))))))))
  rw [h2]
  refine congrArg some (cell_q (fun j hj => ?_))
  rcases (by omega : j = 0 ∨ j = 1) with rfl | rfl
  · exact congrArg some (show kb K + 1 + 30 = kb K + (31 + 6 * 0) by omega)
  · exact congrArg some (show kb K + 1 + 36 = kb K + (31 + 6 * 1) by omega)
theorem xw_14 (hP : va_P (kD K) vwCl (woX5 K (kb K) (kb K + 1)) H) : va_at (kD K) vwCl (kb K + 14, shX K 14 (M0 14)) H := by
  rw [M0_z (a := 14) (by decide), sX_14]
  exact hP 14 _ rfl
theorem xw_15 (hP : va_P (kD K) vwCl (woX5 K (kb K) (kb K + 1)) H) : va_at (kD K) vwCl (kb K + 15, shX K 15 (M0 15)) H := by
  rw [M0_z (a := 15) (by decide), sX_15]
  exact hP 15 _ rfl
theorem xw_16 (hP : va_P (kD K) vwCl (woX5 K (kb K) (kb K + 1)) H) : va_at (kD K) vwCl (kb K + 16, shX K 16 (M0 16)) H := by
  rw [M0_z (a := 16) (by decide), sX_16]
  exact hP 16 _ rfl
theorem xw_17 (hP : va_P (kD K) vwCl (woX5 K (kb K) (kb K + 1)) H) : va_at (kD K) vwCl (kb K + 17, shX K 17 (M0 17)) H := by
  rw [M0_z (a := 17) (by decide), sX_17]
  exact hP 17 _ rfl
theorem xw_18 (hP : va_P (kD K) vwCl (woX5 K (kb K) (kb K + 1)) H) : va_at (kD K) vwCl (kb K + 18, shX K 18 (M0 18)) H := by
  rw [M0_z (a := 18) (by decide), sX_18]
  exact hP 18 _ rfl
theorem xw_19 (hP : va_P (kD K) vwCl (woX5 K (kb K) (kb K + 1)) H) : va_at (kD K) vwCl (kb K + 19, shX K 19 (M0 19)) H := by
  rw [M0_z (a := 19) (by decide), sX_19]
  exact hP 19 _ rfl
theorem xw_20 (hP : va_P (kD K) vwCl (woX5 K (kb K) (kb K + 1)) H) : va_at (kD K) vwCl (kb K + 20, shX K 20 (M0 20)) H := by
  rw [M0_z (a := 20) (by decide), sX_20]
  exact hP 20 _ rfl
theorem xw_21 (hP : va_P (kD K) vwCl (woX5 K (kb K) (kb K + 1)) H) : va_at (kD K) vwCl (kb K + 21, shX K 21 (M0 21)) H := by
  rw [M0_z (a := 21) (by decide), sX_21]
  exact hP 21 _ rfl
theorem xw_22 (hP : va_P (kD K) vwCl (woX5 K (kb K) (kb K + 1)) H) : va_at (kD K) vwCl (kb K + 22, shX K 22 (M0 22)) H := by
  rw [M0_z (a := 22) (by decide), sX_22]
  exact hP 22 _ rfl
theorem xw_23 (hP : va_P (kD K) vwCl (woX5 K (kb K) (kb K + 1)) H) : va_at (kD K) vwCl (kb K + 23, shX K 23 (M0 23)) H := by
  rw [M0_z (a := 23) (by decide), sX_23]
  exact hP 23 _ rfl
theorem xw_24 (hP : va_P (kD K) vwCl (woX5 K (kb K) (kb K + 1)) H) : va_at (kD K) vwCl (kb K + 24, shX K 24 (M0 24)) H := by
  rw [M0_z (a := 24) (by decide), sX_24]
  exact hP 24 _ rfl
theorem xw_25 (hP : va_P (kD K) vwCl (woX5 K (kb K) (kb K + 1)) H) : va_at (kD K) vwCl (kb K + 25, shX K 25 (M0 25)) H := by
  rw [M0_z (a := 25) (by decide), sX_25]
  exact hP 25 _ rfl
theorem xw_26 (hP : va_P (kD K) vwCl (woX5 K (kb K) (kb K + 1)) H) : va_at (kD K) vwCl (kb K + 26, shX K 26 (M0 26)) H := by
  rw [M0_z (a := 26) (by decide), sX_26]
  exact hP 26 _ rfl
theorem xw_27 (hP : va_P (kD K) vwCl (woX5 K (kb K) (kb K + 1)) H) : va_at (kD K) vwCl (kb K + 27, shX K 27 (M0 27)) H := by
  rw [M0_z (a := 27) (by decide), sX_27]
  exact hP 27 _ rfl
theorem xw_28 (hP : va_P (kD K) vwCl (woX5 K (kb K) (kb K + 1)) H) : va_at (kD K) vwCl (kb K + 28, shX K 28 (M0 28)) H := by
  rw [sX_28]
  have h : va_at (kD K) vwCl (kb K + 28, zQ (kc K 4) 4 (va_up (va_up (va_up (va_up (fun _ => none) 0 (some (kb K + 1 + 42))) 1 (some (kb K + 1 + 44))) 2 (some (kb K + 1 + 46))) 3 (some (kb K + 1 + 48)))) H := hP 28 _ rfl
  have h2 : H[kb K + 28]? = some (vp_cell (kc K 4) (4, .inr (.inr (.inr (.inr (va_up (va_up (va_up (va_up (fun _ => none) 0 (some (kb K + 1 + 42))) 1 (some (kb K + 1 + 44))) 2 (some (kb K + 1 + 46))) 3 (some (kb K + 1 + 48)))))))) := h
  show H[kb K + 28]? = some (vp_cell (kc K 4) (4, .inr (.inr (.inr (.inr (fun i => some (kb K + (43 + 2 * i))))))))
  rw [h2]
  refine congrArg some (cell_q (fun j hj => ?_))
  rcases (by omega : j = 0 ∨ j = 1 ∨ j = 2 ∨ j = 3) with rfl | rfl | rfl | rfl
  · exact congrArg some (show kb K + 1 + 42 = kb K + (43 + 2 * 0) by omega)
  · exact congrArg some (show kb K + 1 + 44 = kb K + (43 + 2 * 1) by omega)
  · exact congrArg some (show kb K + 1 + 46 = kb K + (43 + 2 * 2) by omega)
  · exact congrArg some (show kb K + 1 + 48 = kb K + (43 + 2 * 3) by omega)
theorem xw_29 (hP : va_P (kD K) vwCl (woX5 K (kb K) (kb K + 1)) H) : va_at (kD K) vwCl (kb K + 29, shX K 29 (M0 29)) H := by
  rw [M0_z (a := 29) (by decide), sX_29]
  exact hP 29 _ rfl
theorem xw_30 (hP : va_P (kD K) vwCl (woX5 K (kb K) (kb K + 1)) H) : va_at (kD K) vwCl (kb K + 30, shX K 30 (M0 30)) H := by
  rw [M0_z (a := 30) (by decide), sX_30]
  exact hP 30 _ rfl
theorem xw_31 (hP : va_P (kD K) vwCl (woX5 K (kb K) (kb K + 1)) H) : va_at (kD K) vwCl (kb K + 31, shX K 31 (M0 31)) H := by
  rw [M0_z (a := 31) (by decide), sX_31]
  exact hP 31 _ rfl
theorem xw_32 (hP : va_P (kD K) vwCl (woX5 K (kb K) (kb K + 1)) H) : va_at (kD K) vwCl (kb K + 32, shX K 32 (M0 32)) H := by
  rw [M0_z (a := 32) (by decide), sX_32]
  exact hP 32 _ rfl
theorem xw_33 (hP : va_P (kD K) vwCl (woX5 K (kb K) (kb K + 1)) H) : va_at (kD K) vwCl (kb K + 33, shX K 33 (M0 33)) H := by
  rw [M0_z (a := 33) (by decide), sX_33]
  exact hP 33 _ rfl
theorem xw_34 (hP : va_P (kD K) vwCl (woX5 K (kb K) (kb K + 1)) H) : va_at (kD K) vwCl (kb K + 34, shX K 34 (M0 34)) H := by
  rw [M0_z (a := 34) (by decide), sX_34]
  exact hP 34 _ rfl
theorem xw_35 (hP : va_P (kD K) vwCl (woX5 K (kb K) (kb K + 1)) H) : va_at (kD K) vwCl (kb K + 35, shX K 35 (M0 35)) H := by
  rw [M0_z (a := 35) (by decide), sX_35]
  exact hP 35 _ rfl
theorem xw_36 (hP : va_P (kD K) vwCl (woX5 K (kb K) (kb K + 1)) H) : va_at (kD K) vwCl (kb K + 36, shX K 36 (M0 36)) H := by
  rw [M0_z (a := 36) (by decide), sX_36]
  exact hP 36 _ rfl
theorem xw_37 (hP : va_P (kD K) vwCl (woX5 K (kb K) (kb K + 1)) H) : va_at (kD K) vwCl (kb K + 37, shX K 37 (M0 37)) H := by
  rw [M0_z (a := 37) (by decide), sX_37]
  exact hP 37 _ rfl
theorem xw_38 (hP : va_P (kD K) vwCl (woX5 K (kb K) (kb K + 1)) H) : va_at (kD K) vwCl (kb K + 38, shX K 38 (M0 38)) H := by
  rw [M0_z (a := 38) (by decide), sX_38]
  exact hP 38 _ rfl
theorem xw_39 (hP : va_P (kD K) vwCl (woX5 K (kb K) (kb K + 1)) H) : va_at (kD K) vwCl (kb K + 39, shX K 39 (M0 39)) H := by
  rw [M0_z (a := 39) (by decide), sX_39]
  exact hP 39 _ rfl
theorem xw_40 (hP : va_P (kD K) vwCl (woX5 K (kb K) (kb K + 1)) H) : va_at (kD K) vwCl (kb K + 40, shX K 40 (M0 40)) H := by
  rw [M0_z (a := 40) (by decide), sX_40]
  exact hP 40 _ rfl
theorem xw_41 (hP : va_P (kD K) vwCl (woX5 K (kb K) (kb K + 1)) H) : va_at (kD K) vwCl (kb K + 41, shX K 41 (M0 41)) H := by
  rw [M0_z (a := 41) (by decide), sX_41]
  exact hP 41 _ rfl
theorem xw_42 (hP : va_P (kD K) vwCl (woX5 K (kb K) (kb K + 1)) H) : va_at (kD K) vwCl (kb K + 42, shX K 42 (M0 42)) H := by
  rw [M0_z (a := 42) (by decide), sX_42]
  exact hP 42 _ rfl
theorem xw_43 (hP : va_P (kD K) vwCl (woX5 K (kb K) (kb K + 1)) H) : va_at (kD K) vwCl (kb K + 43, shX K 43 (M0 43)) H := by
  rw [sX_43, M0_1, M0_2 (by decide)]
  exact hP 43 _ rfl
theorem xw_44 (hP : va_P (kD K) vwCl (woX5 K (kb K) (kb K + 1)) H) : va_at (kD K) vwCl (kb K + 44, shX K 44 (M0 44)) H := by
  rw [M0_z (a := 44) (by decide), sX_44]
  exact hP 44 _ rfl
theorem xw_45 (hP : va_P (kD K) vwCl (woX5 K (kb K) (kb K + 1)) H) : va_at (kD K) vwCl (kb K + 45, shX K 45 (M0 45)) H := by
  rw [sX_45, M0_1, M0_2 (by decide)]
  exact hP 45 _ rfl
theorem xw_46 (hP : va_P (kD K) vwCl (woX5 K (kb K) (kb K + 1)) H) : va_at (kD K) vwCl (kb K + 46, shX K 46 (M0 46)) H := by
  rw [M0_z (a := 46) (by decide), sX_46]
  exact hP 46 _ rfl
theorem xw_47 (hP : va_P (kD K) vwCl (woX5 K (kb K) (kb K + 1)) H) : va_at (kD K) vwCl (kb K + 47, shX K 47 (M0 47)) H := by
  rw [sX_47, M0_1, M0_2 (by decide)]
  exact hP 47 _ rfl
theorem xw_48 (hP : va_P (kD K) vwCl (woX5 K (kb K) (kb K + 1)) H) : va_at (kD K) vwCl (kb K + 48, shX K 48 (M0 48)) H := by
  rw [M0_z (a := 48) (by decide), sX_48]
  exact hP 48 _ rfl
theorem xw_49 (hP : va_P (kD K) vwCl (woX5 K (kb K) (kb K + 1)) H) : va_at (kD K) vwCl (kb K + 49, shX K 49 (M0 49)) H := by
  rw [sX_49, M0_1, M0_2 (by decide)]
  exact hP 49 _ rfl
theorem xw_50 (hP : va_P (kD K) vwCl (woX5 K (kb K) (kb K + 1)) H) : va_at (kD K) vwCl (kb K + 50, shX K 50 (M0 50)) H := by
  rw [M0_z (a := 50) (by decide), sX_50]
  exact hP 50 _ rfl
theorem wX_0 (hP : va_P (kD K) vwCl (woX5 K (kb K) (kb K + 1)) H) : wP shX 51 K M0 H := by
  have h : ∀ k, k < 51 → va_at (kD K) vwCl (kb K + k, shX K k (M0 k)) H := (lt_s (lt_s (lt_s (lt_s (lt_s (lt_s (lt_s (lt_s (lt_s (lt_s (lt_s (lt_s (lt_s (lt_s (lt_s (lt_s (lt_s (lt_s (lt_s (lt_s (lt_s (lt_s (lt_s (lt_s (lt_s (lt_s (lt_s (lt_s (lt_s (lt_s (lt_s (lt_s (lt_s (lt_s (lt_s (lt_s (lt_s (lt_s (lt_s (lt_s (lt_s (lt_s (lt_s (lt_s (lt_s (lt_s (lt_s (lt_s (lt_s (lt_s (lt_s lt_0 (xw_0 hP)) (xw_1 hP)) (xw_2 hP)) (xw_3 hP)) (xw_4 hP)) (xw_5 hP)) (xw_6 hP)) (xw_7 hP)) (xw_8 hP)) (xw_9 hP)) (xw_10 hP)) (xw_11 hP)) (xw_12 hP)) (xw_13 hP)) (xw_14 hP)) (xw_15 hP)) (xw_16 hP)) (xw_17 hP)) (xw_18 hP)) (xw_19 hP)) (xw_20 hP)) (xw_21 hP)) (xw_22 hP)) (xw_23 hP)) (xw_24 hP)) (xw_25 hP)) (xw_26 hP)) (xw_27 hP)) (xw_28 hP)) (xw_29 hP)) (xw_30 hP)) (xw_31 hP)) (xw_32 hP)) (xw_33 hP)) (xw_34 hP)) (xw_35 hP)) (xw_36 hP)) (xw_37 hP)) (xw_38 hP)) (xw_39 hP)) (xw_40 hP)) (xw_41 hP)) (xw_42 hP)) (xw_43 hP)) (xw_44 hP)) (xw_45 hP)) (xw_46 hP)) (xw_47 hP)) (xw_48 hP)) (xw_49 hP)) (xw_50 hP))
  intro k q hq
  have hk := (wl_of hq).1
  rw [wl_get hk] at hq
  cases hq
  exact h k hk
theorem mw_0 (hP : va_P (kD K) vwCl (woX6 K (kb K) (kb K + 1)) H) : va_at (kD K) vwCl (kb K + 0, shM K 0 (N0 0)) H := by
  rw [sM_0, N0_14, N0_0 (j := 2) (by decide), N0_0 (j := 4) (by decide), N0_0 (j := 5) (by decide), N0_0 (j := 6) (by decide), N0_0 (j := 7) (by decide), N0_0 (j := 8) (by decide), N0_0 (j := 9) (by decide), N0_0 (j := 10) (by decide), N0_0 (j := 11) (by decide), N0_0 (j := 15) (by decide), N0_0 (j := 16) (by decide), N0_0 (j := 17) (by decide), N0_0 (j := 19) (by decide), N0_0 (j := 25) (by decide)]
  exact hP 0 _ rfl
theorem mw_1 (hP : va_P (kD K) vwCl (woX6 K (kb K) (kb K + 1)) H) : va_at (kD K) vwCl (kb K + 1, shM K 1 (N0 1)) H := by
  rw [N0_z (a := 1) (by decide), sM_1]
  exact hP 1 _ rfl
theorem mw_2 (hP : va_P (kD K) vwCl (woX6 K (kb K) (kb K + 1)) H) : va_at (kD K) vwCl (kb K + 2, shM K 2 (N0 2)) H := by
  rw [N0_z (a := 2) (by decide), sM_2]
  exact hP 2 _ rfl
theorem mw_3 (hP : va_P (kD K) vwCl (woX6 K (kb K) (kb K + 1)) H) : va_at (kD K) vwCl (kb K + 3, shM K 3 (N0 3)) H := by
  rw [N0_z (a := 3) (by decide), sM_3]
  exact hP 3 _ rfl
theorem mw_4 (hP : va_P (kD K) vwCl (woX6 K (kb K) (kb K + 1)) H) : va_at (kD K) vwCl (kb K + 4, shM K 4 (N0 4)) H := by
  rw [sM_4]
  have h : va_at (kD K) vwCl (kb K + 4, zAX6_3 K) H := hP 4 _ rfl
  have h2 : H[kb K + 4]? = some (vp_cell (kc K 0) (7, .inl (upd (upd (upd (upd (upd (upd (upd (fun _ => 0) 0 (0)) 1 (5)) 2 (11)) 3 (16)) 4 (20)) 5 (22)) 6 (26)))) := h
  show H[kb K + 4]? = some (vp_cell (kc K 0) (7, .inl (N0 4)))
  rw [h2]
  refine congrArg some (cell_i ?_)
  decide +kernel
theorem mw_5 (hP : va_P (kD K) vwCl (woX6 K (kb K) (kb K + 1)) H) : va_at (kD K) vwCl (kb K + 5, shM K 5 (N0 5)) H := by
  rw [sM_5]
  have h : va_at (kD K) vwCl (kb K + 5, zAX6_4 K) H := hP 5 _ rfl
  have h2 : H[kb K + 5]? = some (vp_cell (kc K 0) (26, .inl (upd (upd (upd (upd (upd (upd (upd (upd (upd (upd (upd (upd (upd (upd (upd (upd (upd (upd (upd (upd (upd (upd (upd (upd (upd (upd (fun _ => 0) 0 (112)) 1 (108)) 2 (97)) 3 (105)) 4 (110)) 5 (99)) 6 (111)) 7 (97)) 8 (114)) 9 (115)) 10 (101)) 11 (115)) 12 (116)) 13 (105)) 14 (99)) 15 (107)) 16 (102)) 17 (114)) 18 (101)) 19 (101)) 20 (97)) 21 (116)) 22 (112)) 23 (111)) 24 (108)) 25 (101)))) := h
  show H[kb K + 5]? = some (vp_cell (kc K 0) (26, .inl (N0 5)))
  rw [h2]
  refine congrArg some (cell_i ?_)
  decide +kernel
theorem mw_6 (hP : va_P (kD K) vwCl (woX6 K (kb K) (kb K + 1)) H) : va_at (kD K) vwCl (kb K + 6, shM K 6 (N0 6)) H := by
  rw [N0_z (a := 6) (by decide), sM_6]
  exact hP 6 _ rfl
theorem mw_7 (hP : va_P (kD K) vwCl (woX6 K (kb K) (kb K + 1)) H) : va_at (kD K) vwCl (kb K + 7, shM K 7 (N0 7)) H := by
  rw [N0_z (a := 7) (by decide), sM_7]
  exact hP 7 _ rfl
theorem mw_8 (hP : va_P (kD K) vwCl (woX6 K (kb K) (kb K + 1)) H) : va_at (kD K) vwCl (kb K + 8, shM K 8 (N0 8)) H := by
  rw [N0_z (a := 8) (by decide), sM_8]
  exact hP 8 _ rfl
theorem mw_9 (hP : va_P (kD K) vwCl (woX6 K (kb K) (kb K + 1)) H) : va_at (kD K) vwCl (kb K + 9, shM K 9 (N0 9)) H := by
  rw [sM_9]
  have h : va_at (kD K) vwCl (kb K + 9, zAX6_8 K) H := hP 9 _ rfl
  have h2 : H[kb K + 9]? = some (vp_cell (kc K 0) (4, .inl (upd (upd (upd (upd (fun _ => 0) 0 (-4)) 1 (-4)) 2 (-4)) 3 (-4)))) := h
  show H[kb K + 9]? = some (vp_cell (kc K 0) (4, .inl (N0 9)))
  rw [h2]
  refine congrArg some (cell_i ?_)
  decide +kernel
theorem mw_10 (hP : va_P (kD K) vwCl (woX6 K (kb K) (kb K + 1)) H) : va_at (kD K) vwCl (kb K + 10, shM K 10 (N0 10)) H := by
  rw [N0_z (a := 10) (by decide), sM_10]
  exact hP 10 _ rfl
theorem mw_11 (hP : va_P (kD K) vwCl (woX6 K (kb K) (kb K + 1)) H) : va_at (kD K) vwCl (kb K + 11, shM K 11 (N0 11)) H := by
  rw [N0_z (a := 11) (by decide), sM_11]
  exact hP 11 _ rfl
theorem wM_0 (hP : va_P (kD K) vwCl (woX6 K (kb K) (kb K + 1)) H) : wP shM 12 K N0 H := by
  have h : ∀ k, k < 12 → va_at (kD K) vwCl (kb K + k, shM K k (N0 k)) H := (lt_s (lt_s (lt_s (lt_s (lt_s (lt_s (lt_s (lt_s (lt_s (lt_s (lt_s (lt_s lt_0 (mw_0 hP)) (mw_1 hP)) (mw_2 hP)) (mw_3 hP)) (mw_4 hP)) (mw_5 hP)) (mw_6 hP)) (mw_7 hP)) (mw_8 hP)) (mw_9 hP)) (mw_10 hP)) (mw_11 hP))
  intro k q hq
  have hk := (wl_of hq).1
  rw [wl_get hk] at hq
  cases hq
  exact h k hk
end WX
