/-! the law: two worlds side by side -/
abbrev aL (s : State) : Nat → Prop := fun q => s.heap.size ≤ q
/-- what never changes, by the cells that were there before the law began -/
def wG (A : Nat → Prop) (K : wC) (U : State) : Prop :=
  va_K (kD K) vwCl (tyl K) U ∧ va_Nw (.methodLinkNest RX1 26 yX5_within "WheelAreas") U ∧ vk_S 6 sLen sByt (kS K) (kV K) A U U.heap ∧ (∀ i : Nat, i < 6 → vk_R RX4 (sIx.getD i 0) (sTx.getD i "") (kS K i) U) ∧
  va_Z "java/lang/String" "COMPACT_STRINGS" "Z" (.int 1) A U U.heap ∧ va_Zq "jdk/internal/util/Preconditions" "SIOOBE_FORMATTER" "Ljava/util/function/BiFunction;" A U U.heap
theorem wG.to {A : Nat → Prop} {n : Nat} {K : wC} {s U : State} {H : Heap} {locs : List Loc} (h : wG A K s) (hn : ∀ q, wA n K q → A q) (hS : va_S A s.heap H locs) (hU : U.heap = H) (hW : s.WarmedH U.vm) : wK n K U := by
  obtain ⟨h1, h2, h3, h4, h5, h6⟩ := h
  refine ⟨va_K.moved hW.alike h1, va_Nw.warmM hW h2, ?_, fun i hi => (h4 i hi).warm hW, ?_, ?_⟩
  · rw [hU]; exact ((vk_S.moved hW.alike h3).kept hS.2.1).narrow hn
  · rw [hU]; exact ((va_Z.moved hW.alike h5).kept hS.2.1).narrow hn
  · rw [hU]; exact ((va_Zq.moved hW.alike h6).kept hS.2.1).narrow hn
theorem wP_kept {sh2 : wS} {n n2 : Nat} {K K2 : wC} {N : Mem} {H H1 : Heap} (hP : wP sh2 n2 K2 N H) (hd : ∀ q, wA n2 K2 q → ¬ wA n K q) (hk : ∀ q : Nat, q < H.size → ¬ wA n K q → H1[q]? = H[q]?) : wP sh2 n2 K2 N H1 := by
  intro i q hq
  have hv := hP i q hq
  have hw := wl_of hq
  exact hv.kept (hk q.1 hv.lt (hd q.1 ⟨by omega, by omega⟩))
def lx (p : Program) (s : State) (m : MethodId) (c : Code) (b L : Nat) (xs : Nat → Int32) (K K2 : wC) : Prop :=
  CallFix p m c cL_law 4 s #[Value.ref b] wsL_law RL ∧ va_X b L xs s s.heap ∧ b < s.heap.size ∧ wG (aL s) K s ∧ wG (aL s) K2 s ∧ kb K = s.heap.size ∧ kb K2 = s.heap.size + 51 ∧ L ≤ 3072
theorem lx.n1 {p : Program} {s : State} {m : MethodId} {c : Code} {b L : Nat} {xs : Nat → Int32} {K K2 : wC} (C : lx p s m c b L xs K K2) : ∀ q, wA 51 K q → aL s q := fun q h => by
  have h1 := h.1
  have h2 := C.2.2.2.2.2.1
  show s.heap.size ≤ q
  omega
theorem lx.n2 {p : Program} {s : State} {m : MethodId} {c : Code} {b L : Nat} {xs : Nat → Int32} {K K2 : wC} (C : lx p s m c b L xs K K2) : ∀ q, wA 12 K2 q → aL s q := fun q h => by
  have h1 := h.1
  have h2 := C.2.2.2.2.2.2.1
  show s.heap.size ≤ q
  omega
theorem lx.d12 {p : Program} {s : State} {m : MethodId} {c : Code} {b L : Nat} {xs : Nat → Int32} {K K2 : wC} (C : lx p s m c b L xs K K2) : ∀ q, wA 12 K2 q → ¬ wA 51 K q := fun q h h' => by
  have h1 := h.1
  have h2 := C.2.2.2.2.2.2.1
  have h3 := C.2.2.2.2.2.1
  have h4 := h'.2
  omega
theorem lx.d21 {p : Program} {s : State} {m : MethodId} {c : Code} {b L : Nat} {xs : Nat → Int32} {K K2 : wC} (C : lx p s m c b L xs K K2) : ∀ q, wA 51 K q → ¬ wA 12 K2 q := fun q h h' => C.d12 q h' h
section LW
variable {p : Program} {l : Launch} {e : Env} {s : State} {m : MethodId} {below : List Frame} {meth : Method} {c : Code} {H : Heap} {locs : List Loc} {cells slots : Nat} {Q : State → Prop} {pc : Nat} {ls : Array Slot} {rest : List Value} {b L i : Nat} {xs : Nat → Int32} {K K2 : wC}
variable {sh sh2 : wS} {n n2 : Nat} {M N : Mem}
variable {y : MethodName} {ws2 ws2' : List Cond} {rm : Room} {bytes : ByteArray} {maxL na index : Nat} {ret2 : Option FieldType} {st0 As : List Value} {Qc : Array Value → State → Outcome → State → Prop}
/-- a call on the world's first cell -/
theorem l_run {Cn : String} {ci Nf : Nat} {fs : List Value} {T : u_T} (S : CallFix p m c cL_law 4 s #[Value.ref b] wsL_law RL) (hg : wG (aL s) K s) (hn : ∀ q, wA n K q → aL s q) (hP : wP sh n K M H) (hS : va_S (aL s) s.heap H locs) (hM : Met l y ws2 rm (va_Pc (.ref (kb K + 0) :: As) (wB sh n K M)) Qc 0 0 (wA n K)) (hG : GoodIn wsL_law (wsV RL index Cn y ws2)) (hw : ws2 = Cond.code y bytes maxL ret2 :: ws2')
    (hd : y.cls = Cn ∧ y.cls ≠ "java/lang/invoke/MethodHandle" ∧ y.cls ≠ "java/lang/invoke/VarHandle" ∧ (parseMethodDescriptor y.desc).map (fun d => d.parameters.length) = some na) (hna : As.length = na) (hr : rm.cells = 0 ∧ rm.slots = 0) (hR : rm.frames + 1 ≤ room_1.frames ∧ 8 + (maxL + 11) + rm.locals ≤ room_1.locals) (hk : 0 < n) (he : sh K 0 (M 0) = .inr (ci, fs)) (hc : vwCl[ci]? = some (Cn, T, Nf)) (hls : ls.size = 4) (hst : st0 = As.reverse ++ .ref (kb K + 0) :: rest) (hrm : (rest.map fun v => v.category).sum ≤ 8) (hdg : decode cL_law pc = .ok (.invokevirtual index, 3)) (hcs : cells ≤ room_1.cells ∧ slots ≤ room_1.slots) :
    va_Run p l e room_1 s m #[Value.ref b] below meth c H locs cells slots 0 0 (F0 m pc ls st0) rest (Qc (.ref (kb K + 0) :: As).toArray) (wA n K) :=
  va_runV S hM (cwV na S.2.2.2.2 hG hw hr.1 hr.2 hd hR) ⟨fb_w, va_recv hg.1 hP hc ((wl_get hk).trans (by rw [he])), fun U hU hW => ⟨rfl, by show wP sh n K M U.heap; rw [hU]; exact hP, hg.to hn hS hU hW⟩⟩ rfl hna hls hst (lv_room hrm) hdg hcs
theorem l_ci {P : Int32 → Mem → Prop} {a : Array Value} (hr : va_Run p l e room_1 s m #[Value.ref b] below meth c H locs cells slots 0 0 (F0 m pc ls st0) rest (va_Qi P (wE sh n K) (wA n K) a) (wA n K)) (hn : ∀ q, wA n K q → aL s q) (hS : va_S (aL s) s.heap H locs) (hP2 : wP sh2 n2 K2 N H) (hd : ∀ q, wA n2 K2 q → ¬ wA n K q)
    (kk : ∀ (r : Int32) (M1 : Mem) (H1 : Heap) (locs1 : List Loc), P r M1 → wP sh n K M1 H1 → wP sh2 n2 K2 N H1 → va_S (aL s) s.heap H1 locs1 → W p l e room_1 s m #[Value.ref b] below meth c H1 locs1 cells slots Q (F0 m (pc + 3) ls (.int r :: rest))) : W p l e room_1 s m #[Value.ref b] below meth c H locs cells slots Q (F0 m pc ls st0) :=
  va_calli hr hS (fun q _ h => hn q h) hn (fun r M1 t H1 locs1 ht _ hp hB _ hk hS1 => kk r M1 H1 locs1 hp (by rw [← ht]; exact hB) (wP_kept hP2 hd hk) hS1)
theorem l_cl {P : Int64 → Mem → Prop} {a : Array Value} (hr : va_Run p l e room_1 s m #[Value.ref b] below meth c H locs cells slots 0 0 (F0 m pc ls st0) rest (va_Ql P (wE sh n K) (wA n K) a) (wA n K)) (hn : ∀ q, wA n K q → aL s q) (hS : va_S (aL s) s.heap H locs) (hP2 : wP sh2 n2 K2 N H) (hd : ∀ q, wA n2 K2 q → ¬ wA n K q)
    (kk : ∀ (r : Int64) (M1 : Mem) (H1 : Heap) (locs1 : List Loc), P r M1 → wP sh n K M1 H1 → wP sh2 n2 K2 N H1 → va_S (aL s) s.heap H1 locs1 → W p l e room_1 s m #[Value.ref b] below meth c H1 locs1 cells slots Q (F0 m (pc + 3) ls (.long r :: rest))) : W p l e room_1 s m #[Value.ref b] below meth c H locs cells slots Q (F0 m pc ls st0) :=
  va_calll hr hS (fun q _ h => hn q h) hn (fun r M1 t H1 locs1 ht _ hp hB _ hk hS1 => kk r M1 H1 locs1 hp (by rw [← ht]; exact hB) (wP_kept hP2 hd hk) hS1)
/-- an argument: script[i + k] -/
theorem l_arg (C : lx p s m c b L xs K K2) (hS : va_S (aL s) s.heap H locs) (h0 : ls[0]? = some (.val (.ref b))) (h3 : ls[3]? = some (.val (.int (nI i)))) (hi : i + 6 ≤ L) (k : Nat) (hk : k < 6) {z : Int} (hz : Int32.ofInt z = nI k) (d0 : decode cL_law pc = .ok (.aload_n 0, 1)) (d1 : decode cL_law (pc + 1) = .ok (.iload_n 3, 1)) (d2 : decode cL_law (pc + 2) = .ok (.iconst z, 1)) (d3 : decode cL_law (pc + 3) = .ok (.iadd, 1)) (d4 : decode cL_law (pc + 4) = .ok (.iaload, 1))
    (kk : W p l e room_1 s m #[Value.ref b] below meth c H locs cells slots Q (F0 m (pc + 5) ls (.int (xs (i + k)) :: rest))) : W p l e room_1 s m #[Value.ref b] below meth c H locs cells slots Q (F0 m pc ls rest) := by
  obtain ⟨⟨hx, hb, -, -, -⟩, hX, hbl, -, -, -, -, hL⟩ := C
  refine lv_aload_n hx hb d0 rfl h0 ?_
  refine lv_iload_n hx hb d1 rfl h3 ?_
  refine lv_iconst hx hb d2 hz ?_
  refine lv_iadd hx hb d3 ?_
  rw [nI_add]
  refine va_sld hx hb hX hbl (Nat.not_le.mpr hbl) hS (vp_in_nI (by omega) (by omega)) d4 ?_
  rw [nI_clamp (by omega)]
  exact kk
end LW
