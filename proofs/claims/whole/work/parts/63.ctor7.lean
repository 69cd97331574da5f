/-! WheelAreas -/
section CN
variable {p : Program} {l : Launch} {e : Env} {R : Room} {s : State} {m : MethodId} {args : Array Value} {below : List Frame} {meth : Method} {c : Code} {H : Heap} {locs : List Loc} {cells slots : Nat} {Q : State → Prop} {cc : ByteArray} {pc : Nat} {ls : Array Slot} {rest : List Value} {K : wC} {ws ws0 wo : va_W} {h0 k a hs : Nat} {x0 : va_E}
/-- its constructor runs -/
theorem n_initE {E : State → Prop} (hE1 : ∀ (U : State) (g : JFrame) (mk : MethodId) (a : Array Value), E U → E (U.calling g mk a)) (hE2 : ∀ U : State, s.WarmedH U.vm → E U) {own host : String} {index maxL nL mc ms : Nat} {y : MethodName} {bytes : ByteArray} {Ts ws2 : List Cond} {rm : Room} (S : CallFix p m c cc nL s args Ts own)
    (hM : Met l y ws2 rm (va_Pc [.ref a] (fun U => U.heap.size = hs ∧ va_P (kD K) vwCl [(a, x0)] U.heap ∧ va_K (kD K) vwCl (tyl K) U ∧ E U)) (va_Qv (fun _ : Unit => True) (fun _ t => va_P (kD K) vwCl wo t.heap) (aF1 a hs)) mc ms (aF1 a hs))
    (cw : va_CN R s args own index y host bytes maxL none ws2 rm mc ms 0 ∧ y.name = "<init>" ∧ (Cond.instanceMethod y).before args s = true)
    (hK : va_K (kD K) vwCl (tyl K) s) (hP : va_P (kD K) vwCl (ws0 ++ [(a, x0)]) H) (hS : va_S (aF1 h0 s.heap.size) s.heap H locs) (hw : (ws0 ++ [(a, x0)]).map (fun y => y.1) = h0 :: (List.range cells).map (fun i => s.heap.size + i)) (hh : h0 < s.heap.size) (ha : a + 1 = s.heap.size + cells) (h1 : 1 ≤ cells) (hhs : hs = s.heap.size + cells)
    (hsize : ls.size = nL) (hr8 : (rest.map fun v => v.category).sum ≤ 8) (hdg : decode cc pc = .ok (.invokespecial index, 3)) (hf : cells + mc ≤ R.cells ∧ slots + ms ≤ R.slots)
    (kk : ∀ (H1 : Heap) (locs1 : List Loc), va_P (kD K) vwCl (ws0 ++ wo) H1 → va_S (aF1 h0 s.heap.size) s.heap H1 locs1 → W p l e R s m args below meth c H1 locs1 (cells + mc) (slots + ms) Q (F0 m (pc + 3) ls rest)) : W p l e R s m args below meth c H locs cells slots Q (F0 m pc ls (.ref a :: rest)) := by
  refine w_bd (fun hz => ?_)
  have hq : (ws0 ++ [(a, x0)])[ws0.length]? = some (a, x0) := by simp
  have hlt : a < H.size := (hP _ _ hq).lt
  have hsz : H.size = hs := by omega
  have hPc : va_P (kD K) vwCl [(a, x0)] H := fun i q hi => by
    have hi0 : i < 1 := (List.getElem?_eq_some_iff.mp hi).1
    have : i = 0 := by omega
    subst this
    cases hi
    exact hP _ _ hq
  refine va_callv (va_runIN (As := []) (rest := rest) S hM cw ⟨fun a U g mk q => by obtain ⟨q0, q1, qP, qK, qE⟩ := q; exact ⟨q0, q1, qP, va_K.moved (u := U) (U := U.calling g mk a) (Vm.Alike.refl U.vm) qK, hE1 U g mk a qE⟩, fun U hU hW => ⟨rfl, by rw [hU]; exact hsz, by rw [hU]; exact hPc, va_K.moved hW.alike hK, hE2 U hW⟩⟩ rfl rfl hsize rfl (by show 2 * 0 + _ ≤ 8; omega) hdg hf) hS (fun q _ h => ?_) (fun q h => ?_) (fun u t H1 locs1 ht hvm hp hB hz1 hk hS1 => ?_)
  · rcases h with h | h
    · exact Or.inr (by omega)
    · exact Or.inr (by omega)
  · rcases h with h | h
    · exact Or.inr (by omega)
    · exact Or.inr (by omega)
  · have hD := d_of hw hh
    refine kk H1 locs1 (va_P.app (fun i q hi => ?_) (by rw [← ht]; exact hB)) hS1
    have hi2 : (ws0 ++ [(a, x0)])[i]? = some q := by rw [List.getElem?_append_left (List.getElem?_eq_some_iff.mp hi).1]; exact hi
    have hv := hP i q hi2
    have hl2 : q.1 < H.size := hv.lt
    refine hv.kept (hk q.1 hl2 (fun z => ?_))
    rcases z with z | z
    · have := hD.1 _ _ _ _ hi2 hq z
      have := (List.getElem?_eq_some_iff.mp hi).1
      omega
    · omega
abbrev zQ (cA : ClassId) (n : Nat) (f : Nat → Option Nat) : va_E := .inl (cA, n, .inr (.inr (.inr (.inr f))))
/-- a row of references is made -/
theorem n_aq {own C : String} {index N t0 : Nat} {cA0 : ClassId} {n : Int32} {Ts : List Cond} (hexec : p.tables.exec = Jvm.exec) (hb : c.code = cc) (hts : ∀ w ∈ Ts, w.before args s = true) (hown : s.vm.findClass own = some m.cls) (hcl : Cond.classLink own index C ∈ Ts) (hov : va_AO C s) (ht : (tyl K)[t0]? = some (cA0, .object C))
    (hK : va_K (kD K) vwCl (tyl K) s) (hP : va_P (kD K) vwCl ws H) (hS : va_S (aF1 h0 s.heap.size) s.heap H locs) (hw : ws.map (fun y => y.1) = h0 :: (List.range k).map (fun i => s.heap.size + i)) (hh : h0 < s.heap.size) (hk : cells = k) (hn : ¬ n < 0) (hN : n.toNatClampNeg = N) (hbytes : N * 4 ≤ 536870912) (hcells : cells + 1 ≤ R.cells) (hslots : slots + N ≤ R.slots) (hdg : decode cc pc = .ok (.anewarray index, 3))
    (kk : ∀ H1 : Heap, va_P (kD K) vwCl (ws ++ [(s.heap.size + k, zQ cA0 N (fun _ => none))]) H1 → va_S (aF1 h0 s.heap.size) s.heap H1 locs → W p l e R s m args below meth c H1 locs (cells + 1) (slots + N) Q (F0 m (pc + 3) ls (.ref (s.heap.size + k) :: rest))) : W p l e R s m args below meth c H locs cells slots Q (F0 m pc ls (.int n :: rest)) := by
  refine va_newq hexec hb hown (hts _ hcl) hov hK hP (d_of hw hh) hS (fun q h => Or.inr h) hn hN hbytes hcells hslots hdg (fun q cA H1 hK1 hP1 hD1 hS1 => w_bd (fun hz => ?_))
  have e1 : cA = cA0 := by
    obtain ⟨_, _, _, _, _, h1⟩ := (hK1.2 5 (cA, .object C) rfl).2
    obtain ⟨_, _, _, _, _, h2⟩ := (hK.2 t0 _ ht).2
    exact Option.some.inj (h1.symm.trans h2)
  subst e1
  have e2 : q = s.heap.size + k := n_adr (fun a h => h) hP1 hD1 (by omega) hw
  subst e2
  exact kk H1 hP1 hS1
end CN
theorem h5_3 : ∀ w ∈ wsX30, w ∈ wsX5_init := fun w h => List.mem_cons_of_mem _ (List.mem_append_right _ h)
theorem h5_1 : ∀ w ∈ wsX10, w ∈ wsX5_init := fun w h => List.mem_cons_of_mem _ (List.mem_append_left _ (List.mem_append_right _ h))
theorem h5_2 : ∀ w ∈ wsX20, w ∈ wsX5_init := fun w h => List.mem_cons_of_mem _ (List.mem_append_left _ (List.mem_append_left _ (List.mem_append_right _ h)))
theorem h5_4 : ∀ w ∈ wsX40, w ∈ wsX5_init := fun w h => List.mem_cons_of_mem _ (List.mem_append_left _ (List.mem_append_left _ (List.mem_append_left _ (List.mem_append_right _ h))))
theorem h5_5 : ∀ w ∈ wsX50, w ∈ wsX5_init := fun w h => List.mem_cons_of_mem _ (List.mem_append_left _ (List.mem_append_left _ (List.mem_append_left _ (List.mem_append_left _ (List.mem_append_right _ h)))))
theorem h5_0 : ∀ w ∈ wsX00, w ∈ wsX5_init := fun w h => List.mem_cons_of_mem _ (List.mem_append_left _ (List.mem_append_left _ (List.mem_append_left _ (List.mem_append_left _ (List.mem_append_left _ (List.mem_append_right _ h))))))
