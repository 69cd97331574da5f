/-! constructors: where new cells lie -/
section CT
variable {p : Program} {l : Launch} {e : Env} {R : Room} {s : State} {m : MethodId} {args : Array Value} {below : List Frame} {meth : Method} {c : Code} {H : Heap} {locs : List Loc} {cells slots : Nat} {Q : State → Prop} {g : JFrame}
theorem w_bd (k : H.size ≤ s.heap.size + cells → W p l e R s m args below meth c H locs cells slots Q g) : W p l e R s m args below meth c H locs cells slots Q g := fun T hT X => k (by have h := X.same.2.2.1; rw [← hT]; exact h) T hT X
end CT
/-- the cell that is made next lies next -/
theorem n_adr {A : Nat → Prop} {D : va_G} {cl : List vw_C} {ws : va_W} {q h0 sz k : Nat} {x : va_E} {H1 : Heap} (hA : ∀ a, A a → a = h0 ∨ sz ≤ a) (hP : va_P D cl (ws ++ [(q, x)]) H1) (hD : va_D A (ws ++ [(q, x)])) (hz : H1.size ≤ sz + (k + 1)) (hw : ws.map (fun y => y.1) = h0 :: (List.range k).map (fun i => sz + i)) : q = sz + k := by
  have hl : ws.length = k + 1 := by
    have := congrArg List.length hw
    simpa using this
  have hq : (ws ++ [(q, x)])[ws.length]? = some (q, x) := by simp
  have hlt : q < H1.size := (hP _ _ hq).lt
  have hAq : A q := hD.2 _ _ hq
  have no : ∀ i, i < k + 1 → ∀ a, (h0 :: (List.range k).map (fun i => sz + i))[i]? = some a → q ≠ a := by
    intro i hi a ha e
    rw [← hw, List.getElem?_map] at ha
    cases hy : ws[i]? with
    | none => rw [hy] at ha; cases ha
    | some y =>
      rw [hy] at ha
      have e2 : y.1 = a := by simpa using ha
      have h2 : (ws ++ [(q, x)])[i]? = some y := by rw [List.getElem?_append_left (by omega)]; exact hy
      have := hD.1 _ _ _ _ hq h2 (by show q = y.1; rw [e2]; exact e)
      omega
  have n0 : q ≠ h0 := no 0 (by omega) h0 rfl
  rcases hA q hAq with z | z
  · exact absurd z n0
  · rcases Nat.lt_or_ge q (sz + k) with y | y
    · exact absurd (show q = sz + (q - sz) by omega) (no (q - sz + 1) (by omega) (sz + (q - sz)) (by rw [List.getElem?_cons_succ, List.getElem?_map, List.getElem?_range (by omega)]; rfl))
    · omega
theorem ra_i {U : State} {K : wC} {D : va_G} {cA : ClassId} (h : va_K D vwCl (tyl K ++ [(cA, .int)]) U) : cA = kc K 0 := by
  have h1 : va_RA U cA .int := (h.2 5 (cA, .int) rfl).2
  have h2 : va_RA U (kc K 0) .int := (h.2 0 (kc K 0, .int) rfl).2
  exact Option.some.inj (h1.symm.trans h2)
theorem ra_b {U : State} {K : wC} {D : va_G} {cA : ClassId} (h : va_K D vwCl (tyl K ++ [(cA, .byte)]) U) : cA = kc K 1 := by
  have h1 : va_RA U cA .byte := (h.2 5 (cA, .byte) rfl).2
  have h2 : va_RA U (kc K 1) .byte := (h.2 1 (kc K 1, .byte) rfl).2
  exact Option.some.inj (h1.symm.trans h2)
theorem ra_z {U : State} {K : wC} {D : va_G} {cA : ClassId} (h : va_K D vwCl (tyl K ++ [(cA, .boolean)]) U) : cA = kc K 2 := by
  have h1 : va_RA U cA .boolean := (h.2 5 (cA, .boolean) rfl).2
  have h2 : va_RA U (kc K 2) .boolean := (h.2 2 (kc K 2, .boolean) rfl).2
  exact Option.some.inj (h1.symm.trans h2)
def aF1 (h0 sz : Nat) : Nat → Prop := fun q => q = h0 ∨ sz ≤ q
abbrev zI (K : wC) (n : Nat) : va_E := .inl (kc K 0, n, .inl (fun _ => 0))
/-- a row of whole numbers is made -/
theorem n_i {p : Program} {l : Launch} {e : Env} {R : Room} {s : State} {m : MethodId} {args : Array Value} {below : List Frame} {meth : Method} {c : Code} {H : Heap} {locs : List Loc} {cells slots : Nat} {Q : State → Prop} {cc : ByteArray} {pc : Nat} {ls : Array Slot} {rest : List Value} {K : wC} {ws : va_W} {h0 k N : Nat} {n : Int32}
    (hexec : p.tables.exec = Jvm.exec) (hb : c.code = cc) (harr : (Cond.arrayClass .int).before args s = true) (hK : va_K (kD K) vwCl (tyl K) s) (hP : va_P (kD K) vwCl ws H) (hD : va_D (aF1 h0 s.heap.size) ws) (hS : va_S (aF1 h0 s.heap.size) s.heap H locs)
    (hw : ws.map (fun y => y.1) = h0 :: (List.range k).map (fun i => s.heap.size + i)) (hk : cells = k) (hn : ¬ n < 0) (hN : n.toNatClampNeg = N) (hbytes : N * 4 ≤ 536870912) (hcells : cells + 1 ≤ R.cells) (hslots : slots + N ≤ R.slots) (hdg : decode cc pc = .ok (.newarray .int, 2))
    (kk : ∀ H1 : Heap, va_P (kD K) vwCl (ws ++ [(s.heap.size + k, zI K N)]) H1 → va_D (aF1 h0 s.heap.size) (ws ++ [(s.heap.size + k, zI K N)]) → va_S (aF1 h0 s.heap.size) s.heap H1 locs → W p l e R s m args below meth c H1 locs (cells + 1) (slots + N) Q (F0 m (pc + 2) ls (.ref (s.heap.size + k) :: rest))) : W p l e R s m args below meth c H locs cells slots Q (F0 m pc ls (.int n :: rest)) := by
  refine va_newa (atype := .int) (ty := .int) (a0 := (N, .inl (fun _ => 0))) hexec hb harr rfl hK hP hD hS (fun q h => Or.inr h) (fun cA => rfl) hn hN hbytes hcells hslots hdg (fun q cA H1 hK1 hP1 hD1 hS1 => ?_)
  have e1 := ra_i hK1
  subst e1
  refine w_bd (fun hz => ?_)
  have e2 : q = s.heap.size + k := n_adr (fun a h => h) hP1 hD1 (by omega) hw
  subst e2
  exact kk H1 hP1 hD1 hS1
abbrev zB (K : wC) (n : Nat) : va_E := .inl (kc K 1, n, .inl (fun _ => 0))
abbrev zZ (K : wC) (n : Nat) : va_E := .inl (kc K 2, n, .inl (fun _ => 0))
theorem n_b {p : Program} {l : Launch} {e : Env} {R : Room} {s : State} {m : MethodId} {args : Array Value} {below : List Frame} {meth : Method} {c : Code} {H : Heap} {locs : List Loc} {cells slots : Nat} {Q : State → Prop} {cc : ByteArray} {pc : Nat} {ls : Array Slot} {rest : List Value} {K : wC} {ws : va_W} {h0 k N : Nat} {n : Int32}
    (hexec : p.tables.exec = Jvm.exec) (hb : c.code = cc) (harr : (Cond.arrayClass .byte).before args s = true) (hK : va_K (kD K) vwCl (tyl K) s) (hP : va_P (kD K) vwCl ws H) (hD : va_D (aF1 h0 s.heap.size) ws) (hS : va_S (aF1 h0 s.heap.size) s.heap H locs)
    (hw : ws.map (fun y => y.1) = h0 :: (List.range k).map (fun i => s.heap.size + i)) (hk : cells = k) (hn : ¬ n < 0) (hN : n.toNatClampNeg = N) (hbytes : N * 1 ≤ 536870912) (hcells : cells + 1 ≤ R.cells) (hslots : slots + N ≤ R.slots) (hdg : decode cc pc = .ok (.newarray .byte, 2))
    (kk : ∀ H1 : Heap, va_P (kD K) vwCl (ws ++ [(s.heap.size + k, zB K N)]) H1 → va_D (aF1 h0 s.heap.size) (ws ++ [(s.heap.size + k, zB K N)]) → va_S (aF1 h0 s.heap.size) s.heap H1 locs → W p l e R s m args below meth c H1 locs (cells + 1) (slots + N) Q (F0 m (pc + 2) ls (.ref (s.heap.size + k) :: rest))) : W p l e R s m args below meth c H locs cells slots Q (F0 m pc ls (.int n :: rest)) := by
  refine va_newa (atype := .byte) (ty := .byte) (a0 := (N, .inl (fun _ => 0))) hexec hb harr rfl hK hP hD hS (fun q h => Or.inr h) (fun cA => rfl) hn hN hbytes hcells hslots hdg (fun q cA H1 hK1 hP1 hD1 hS1 => ?_)
  have e1 := ra_b hK1
  subst e1
  refine w_bd (fun hz => ?_)
  have e2 : q = s.heap.size + k := n_adr (fun a h => h) hP1 hD1 (by omega) hw
  subst e2
  exact kk H1 hP1 hD1 hS1
theorem n_z {p : Program} {l : Launch} {e : Env} {R : Room} {s : State} {m : MethodId} {args : Array Value} {below : List Frame} {meth : Method} {c : Code} {H : Heap} {locs : List Loc} {cells slots : Nat} {Q : State → Prop} {cc : ByteArray} {pc : Nat} {ls : Array Slot} {rest : List Value} {K : wC} {ws : va_W} {h0 k N : Nat} {n : Int32}
    (hexec : p.tables.exec = Jvm.exec) (hb : c.code = cc) (harr : (Cond.arrayClass .boolean).before args s = true) (hK : va_K (kD K) vwCl (tyl K) s) (hP : va_P (kD K) vwCl ws H) (hD : va_D (aF1 h0 s.heap.size) ws) (hS : va_S (aF1 h0 s.heap.size) s.heap H locs)
    (hw : ws.map (fun y => y.1) = h0 :: (List.range k).map (fun i => s.heap.size + i)) (hk : cells = k) (hn : ¬ n < 0) (hN : n.toNatClampNeg = N) (hbytes : N * 1 ≤ 536870912) (hcells : cells + 1 ≤ R.cells) (hslots : slots + N ≤ R.slots) (hdg : decode cc pc = .ok (.newarray .boolean, 2))
    (kk : ∀ H1 : Heap, va_P (kD K) vwCl (ws ++ [(s.heap.size + k, zZ K N)]) H1 → va_D (aF1 h0 s.heap.size) (ws ++ [(s.heap.size + k, zZ K N)]) → va_S (aF1 h0 s.heap.size) s.heap H1 locs → W p l e R s m args below meth c H1 locs (cells + 1) (slots + N) Q (F0 m (pc + 2) ls (.ref (s.heap.size + k) :: rest))) : W p l e R s m args below meth c H locs cells slots Q (F0 m pc ls (.int n :: rest)) := by
  refine va_newa (atype := .boolean) (ty := .boolean) (a0 := (N, .inl (fun _ => 0))) hexec hb harr rfl hK hP hD hS (fun q h => Or.inr h) (fun cA => rfl) hn hN hbytes hcells hslots hdg (fun q cA H1 hK1 hP1 hD1 hS1 => ?_)
  have e1 := ra_z hK1
  subst e1
  refine w_bd (fun hz => ?_)
  have e2 : q = s.heap.size + k := n_adr (fun a h => h) hP1 hD1 (by omega) hw
  subst e2
  exact kk H1 hP1 hD1 hS1
theorem d_one {h0 sz : Nat} {x : va_E} : va_D (aF1 h0 sz) [(h0, x)] := by
  refine ⟨fun i j p q hi hj _ => ?_, fun k q hk => ?_⟩
  · have h1 := (List.getElem?_eq_some_iff.mp hi).1
    have h2 := (List.getElem?_eq_some_iff.mp hj).1
    simp at h1 h2
    omega
  · have h1 := (List.getElem?_eq_some_iff.mp hk).1
    have h2 : k = 0 := by simpa using h1
    subst h2
    cases hk
    exact Or.inl rfl
