def iushr (x y : Int32) : Int32 := (x.toUInt32 >>> (y.toUInt32 &&& Int32.toUInt32 31)).toInt32
def isZ (v : Int32) : Prop := narrow .boolean (.int v) = .int v ∧ fits .boolean (.int v) = true
def cpN (N : Nat) (f g : Nat → Int32) : Nat → Int32 := fun k => if k < N then f k else g k
theorem cpN_eq (N : Nat) (f g : Nat → Int32) : va_cpy f g 0 0 N = cpN N f g := by
  funext k
  simp [va_cpy, cpN]
section WN
variable {p : Program} {l : Launch} {e : Env} {R : Room} {s : State} {m : MethodId} {args : Array Value} {below : List Frame} {meth : Method} {c : Code} {H : Heap} {locs : List Loc} {cells slots : Nat} {Q : State → Prop}
variable {n : Nat} {K : wC} {sh : wS} {M : Mem} {cc : ByteArray} {nL : Nat} {ws : List Cond} {own : String} {ret : Option FieldType} {pc : Nat} {ls : Array Slot} {rest : List Value} {H0 : Heap}
variable {y : MethodName} {ws2 ws2' : List Cond} {rm : Room} {bytes : ByteArray} {maxL na index : Nat} {ret2 : Option FieldType} {st0 As : List Value} {Qc : Array Value → State → Outcome → State → Prop}
theorem run_n {host : String} (C : cx n K p s m args meth c cc nL ws own ret) (hP : wP sh n K M H) (hS : va_S (wA n K) s.heap H locs) (hM : Met l y ws2 rm (va_Pc As (wB sh n K M)) Qc 0 0 (wA n K)) (hG : GoodIn ws ws2) (hw : ws2 = Cond.code y bytes maxL ret2 :: ws2') (hlk : va_Nw (.methodLinkNest own index y host) s) (hini : Cond.initialized y.cls ∈ ws) (hstat : Cond.static y ∈ ws)
    (hd : y.cls ≠ "java/lang/invoke/MethodHandle" ∧ y.cls ≠ "java/lang/invoke/VarHandle" ∧ (parseMethodDescriptor y.desc).map (fun d => d.parameters.length) = some na) (hn : As.length = na) (hr : rm.cells = 0 ∧ rm.slots = 0) (hR : rm.frames + 1 ≤ R.frames ∧ 8 + (maxL + 11) + rm.locals ≤ R.locals) (hls : ls.size = nL) (hst : st0 = As.reverse ++ rest) (hrm : (rest.map fun v => v.category).sum ≤ 8) (hdg : decode cc pc = .ok (.invokestatic index, 3)) (hcs : cells ≤ R.cells ∧ slots ≤ R.slots) :
    va_Run p l e R s m args below meth c H locs cells slots 0 0 (F0 m pc ls st0) rest (Qc As.toArray) (wA n K) :=
  va_runSN ⟨C.1, C.2.1, C.2.2.1, C.2.2.2.1, C.2.2.2.2.1⟩ hM ⟨va_cnB na C.2.2.2.2.1 hG hw hr.1 hr.2 hlk (C.2.2.2.2.1 _ hini) hd hR, C.2.2.2.2.1 _ hstat, trivial⟩ ⟨fb_w, pc_w C hP hS⟩ rfl hn hls hst (lv_room hrm) hdg hcs
theorem a_c0 (C : cx n K p s m args meth c cc nL ws own ret) (hP : wP sh n K M H) (hS : va_S (wA n K) H0 H locs) {k0 k1 N : Nat} (hk0 : k0 < n) (hk1 : k1 < n) (he0 : sh K k0 (M k0) = .inl (kc K 0, N, .inl (M k0))) (he1 : ∀ f, sh K k1 f = .inl (kc K 0, N, .inl f)) (hls : ls.size = nL) {index : Nat} (hlk : Cond.methodLink own index arraycopyName ∈ ws) (hnat : Cond.native arraycopyName ∈ ws) (hst : Cond.static arraycopyName ∈ ws) (hini : Cond.initialized "java/lang/System" ∈ ws)
    {q : Int32} (h3 : ¬ q < 0 ∧ q.toNatClampNeg = N) (hfr : 1 ≤ R.frames) (hlo : (rest.map fun v => v.category).sum + (nativeFrameWords "java/lang/System" "arraycopy" 5 + 11) ≤ R.locals) (hdg : decode cc pc = .ok (.invokestatic index, 3))
    (kk : ∀ (H1 : Heap) (locs1 : List Loc), wP sh n K (mR M k1 (cpN N (M k0) (M k1))) H1 → va_S (wA n K) H0 H1 locs1 → W p l e R s m args below meth c H1 locs1 cells slots Q (F0 m (pc + 3) ls rest)) : W p l e R s m args below meth c H locs cells slots Q (F0 m pc ls (.int q :: .int 0 :: .ref (kb K + k1) :: .int 0 :: .ref (kb K + k0) :: rest)) := by
  have e0 : (0 : Int32).toNatClampNeg = 0 := by decide
  refine a_cp C hP hS hk0 hk1 he0 he1 hls hlk hnat hst hini (by decide) (by decide) h3.1 (by rw [e0, h3.2]; omega) (by rw [e0, h3.2]; omega) hfr hlo hdg (fun H1 locs1 hP1 hS1 => kk H1 locs1 ?_ hS1)
  rw [e0, h3.2, cpN_eq] at hP1
  exact hP1
end WN
theorem bp_10 : (Int8.ofInt (10)).toInt32 = (10 : Int32) := by decide
theorem bp_m4 : (Int8.ofInt (-4)).toInt32 = (-4 : Int32) := by decide
theorem ic_0 : Int32.ofInt (0) = (0 : Int32) := by decide
theorem ic_1 : Int32.ofInt (1) = (1 : Int32) := by decide
theorem ic_2 : Int32.ofInt (2) = (2 : Int32) := by decide
theorem ic_4 : Int32.ofInt (4) = (4 : Int32) := by decide
