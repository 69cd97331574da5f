/-! constructors that make others -/
theorem ad_of {ws : va_W} {h0 sz k : Nat} (hw : ws.map (fun y => y.1) = h0 :: (List.range k).map (fun i => sz + i)) {i : Nat} {y : Nat × va_E} (h : ws[i]? = some y) : i ≤ k ∧ y.1 = if i = 0 then h0 else sz + (i - 1) := by
  have hl : ws.length = k + 1 := by
    have := congrArg List.length hw
    simpa using this
  have hi : i < ws.length := (List.getElem?_eq_some_iff.mp h).1
  have e : (ws.map (fun y => y.1))[i]? = some y.1 := by rw [List.getElem?_map, h]; rfl
  rw [hw] at e
  refine ⟨by omega, ?_⟩
  cases i with
  | zero => exact (Option.some.inj e).symm
  | succ i =>
    rw [List.getElem?_cons_succ, List.getElem?_map, List.getElem?_range (by omega)] at e
    rw [if_neg (by omega)]
    exact (Option.some.inj e).symm
theorem d_of {ws : va_W} {h0 sz k : Nat} (hw : ws.map (fun y => y.1) = h0 :: (List.range k).map (fun i => sz + i)) (hh : h0 < sz) : va_D (aF1 h0 sz) ws := by
  refine ⟨fun i j p q hi hj e => ?_, fun i q hi => ?_⟩
  · have a := (ad_of hw hi).2
    have b := (ad_of hw hj).2
    rw [e] at a
    rw [a] at b
    split at b <;> split at b <;> omega
  · have a := (ad_of hw hi).2
    by_cases h : i = 0
    · rw [if_pos h] at a; exact Or.inl a
    · rw [if_neg h] at a; exact Or.inr (by omega)
section CN
variable {p : Program} {l : Launch} {e : Env} {R : Room} {s : State} {m : MethodId} {args : Array Value} {below : List Frame} {meth : Method} {c : Code} {H : Heap} {locs : List Loc} {cells slots : Nat} {Q : State → Prop} {cc : ByteArray} {pc : Nat} {ls : Array Slot} {rest : List Value} {K : wC} {ws ws0 wo : va_W} {h0 k a hs : Nat} {x0 : va_E}
/-- an object is made -/
theorem n_o {own C : String} {T : u_T} {N ci index : Nat} {Ts : List Cond} {ty : Nat → FieldType} {fs : List Value} (hexec : p.tables.exec = Jvm.exec) (hb : c.code = cc) (hts : ∀ w ∈ Ts, w.before args s = true) (hin : ∀ w ∈ u_ws C T N, w ∈ Ts) (hty : ∀ k, k < N → parseFieldDescriptor (T k).2.2.1 = some (ty k)) (hown : s.vm.findClass own = some m.cls) (hcl : Cond.classLink own index C ∈ Ts) (hinst : Cond.instantiable C N ∈ Ts) (hini : Cond.initialized C ∈ Ts)
    (hK : va_K (kD K) vwCl (tyl K) s) (hP : va_P (kD K) vwCl ws H) (hS : va_S (aF1 h0 s.heap.size) s.heap H locs) (hw : ws.map (fun y => y.1) = h0 :: (List.range k).map (fun i => s.heap.size + i)) (hh : h0 < s.heap.size) (hk : cells = k) (hc : vwCl[ci]? = some (C, T, N)) (hfs : ∀ j, j < N → defaultValue (ty j) = vp_V fs j) (hcells : cells + 1 ≤ R.cells) (hslots : slots + N ≤ R.slots) (hdg : decode cc pc = .ok (.new index, 3))
    (kk : ∀ H1 : Heap, va_P (kD K) vwCl (ws ++ [(s.heap.size + k, .inr (ci, fs))]) H1 → va_S (aF1 h0 s.heap.size) s.heap H1 locs → W p l e R s m args below meth c H1 locs (cells + 1) (slots + N) Q (F0 m (pc + 3) ls (.ref (s.heap.size + k) :: rest))) : W p l e R s m args below meth c H locs cells slots Q (F0 m pc ls rest) := by
  refine va_new hexec hb hts hin ty hty hown (hts _ hcl) (hts _ hinst) (hts _ hini) hK hP (d_of hw hh) hS (fun q h => Or.inr h) hc hfs hcells hslots hdg (fun q H1 hP1 hD1 hS1 => w_bd (fun hz => ?_))
  have e2 : q = s.heap.size + k := n_adr (fun a h => h) hP1 hD1 (by omega) hw
  subst e2
  exact kk H1 hP1 hS1
/-- its constructor runs -/
theorem n_init {own host : String} {index maxL nL mc ms : Nat} {y : MethodName} {bytes : ByteArray} {Ts ws2 : List Cond} {rm : Room} (S : CallFix p m c cc nL s args Ts own)
    (hM : Met l y ws2 rm (va_Pc [.ref a] (fun U => U.heap.size = hs ∧ va_P (kD K) vwCl [(a, x0)] U.heap ∧ va_K (kD K) vwCl (tyl K) U)) (va_Qv (fun _ : Unit => True) (fun _ t => va_P (kD K) vwCl wo t.heap) (aF1 a hs)) mc ms (aF1 a hs))
    (cw : va_CN R s args own index y host bytes maxL none ws2 rm mc ms 0 ∧ y.name = "<init>" ∧ (Cond.instanceMethod y).before args s = true)
    (hK : va_K (kD K) vwCl (tyl K) s) (hP : va_P (kD K) vwCl (ws0 ++ [(a, x0)]) H) (hS : va_S (aF1 h0 s.heap.size) s.heap H locs) (hw : (ws0 ++ [(a, x0)]).map (fun y => y.1) = h0 :: (List.range cells).map (fun i => s.heap.size + i)) (hh : h0 < s.heap.size) (ha : a + 1 = s.heap.size + cells) (h1 : 1 ≤ cells) (hhs : hs = s.heap.size + cells)
    (hsize : ls.size = nL) (hr8 : (rest.map fun v => v.category).sum ≤ 8) (hdg : decode cc pc = .ok (.invokespecial index, 3)) (hf : cells + mc ≤ R.cells ∧ slots + ms ≤ R.slots)
    (kk : ∀ (H1 : Heap) (locs1 : List Loc), va_P (kD K) vwCl (ws0 ++ wo) H1 → va_S (aF1 h0 s.heap.size) s.heap H1 locs1 → W p l e R s m args below meth c H1 locs1 (cells + mc) (slots + ms) Q (F0 m (pc + 3) ls rest)) : W p l e R s m args below meth c H locs cells slots Q (F0 m pc ls (.ref a :: rest)) := by
  refine w_bd (fun hz => ?_)
  have hq : (ws0 ++ [(a, x0)])[ws0.length]? = some (a, x0) := by simp
  have hlt : a < H.size := (hP _ _ hq).lt
  have hsz : H.size = hs := by omega
  have hPc : va_P (kD K) vwCl [(a, x0)] H := fun i q hi => by
    have hi0 : i < 1 := (List.getElem?_eq_some_iff.mp hi).1
    have : i = 0 := by omega
    subst this
    cases hi
    exact hP _ _ hq
  refine va_callv (va_runIN (As := []) (rest := rest) S hM cw ⟨fun a U g mk q => by obtain ⟨q0, q1, qP, qK⟩ := q; exact ⟨q0, q1, qP, va_K.moved (u := U) (U := U.calling g mk a) (Vm.Alike.refl U.vm) qK⟩, fun U hU hW => ⟨rfl, by rw [hU]; exact hsz, by rw [hU]; exact hPc, va_K.moved hW.alike hK⟩⟩ rfl rfl hsize rfl (by show 2 * 0 + _ ≤ 8; omega) hdg hf) hS (fun q _ h => ?_) (fun q h => ?_) (fun u t H1 locs1 ht hvm hp hB hz1 hk hS1 => ?_)
  · rcases h with h | h
    · exact Or.inr (by omega)
    · exact Or.inr (by omega)
  · rcases h with h | h
    · exact Or.inr (by omega)
    · exact Or.inr (by omega)
  · have hD := d_of hw hh
    refine kk H1 locs1 (va_P.app (fun i q hi => ?_) (by rw [← ht]; exact hB)) hS1
    have hi2 : (ws0 ++ [(a, x0)])[i]? = some q := by rw [List.getElem?_append_left (List.getElem?_eq_some_iff.mp hi).1]; exact hi
    have hv := hP i q hi2
    have hl2 : q.1 < H.size := hv.lt
    refine hv.kept (hk q.1 hl2 (fun z => ?_))
    rcases z with z | z
    · have := hD.1 _ _ _ _ hi2 hq z
      have := (List.getElem?_eq_some_iff.mp hi).1
      omega
    · omega
end CN
