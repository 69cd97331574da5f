def iushr (x y : Int32) : Int32 := (x.toUInt32 >>> (y.toUInt32 &&& Int32.toUInt32 31)).toInt32
def isZ (v : Int32) : Prop := narrow .boolean (.int v) = .int v ∧ fits .boolean (.int v) = true
def cpN (N : Nat) (f g : Nat → Int32) : Nat → Int32 := fun k => if k < N then f k else g k
theorem cpN_eq (N : Nat) (f g : Nat → Int32) : va_cpy f g 0 0 N = cpN N f g := by
  funext k
  simp [va_cpy, cpN]
def imax (x y : Int32) : Int32 := if x < y then y else x
section WN
variable {p : Program} {l : Launch} {e : Env} {R : Room} {s : State} {m : MethodId} {args : Array Value} {below : List Frame} {meth : Method} {c : Code} {H : Heap} {locs : List Loc} {cells slots : Nat} {Q : State → Prop}
variable {n : Nat} {K : wC} {sh : wS} {M : Mem} {cc : ByteArray} {nL : Nat} {ws : List Cond} {own : String} {ret : Option FieldType} {pc : Nat} {ls : Array Slot} {rest : List Value} {H0 : Heap}
variable {y : MethodName} {ws2 ws2' : List Cond} {rm : Room} {bytes : ByteArray} {maxL na index : Nat} {ret2 : Option FieldType} {st0 As : List Value} {Qc : Array Value → State → Outcome → State → Prop}
theorem run_n {host : String} (C : cx n K p s m args meth c cc nL ws own ret) (hP : wP sh n K M H) (hS : va_S (wA n K) s.heap H locs) (hM : Met l y ws2 rm (va_Pc As (wB sh n K M)) Qc 0 0 (wA n K)) (hG : GoodIn ws ws2) (hw : ws2 = Cond.code y bytes maxL ret2 :: ws2') (hlk : va_Nw (.methodLinkNest own index y host) s) (hini : Cond.initialized y.cls ∈ ws) (hstat : Cond.static y ∈ ws)
    (hd : y.cls ≠ "java/lang/invoke/MethodHandle" ∧ y.cls ≠ "java/lang/invoke/VarHandle" ∧ (parseMethodDescriptor y.desc).map (fun d => d.parameters.length) = some na) (hn : As.length = na) (hr : rm.cells = 0 ∧ rm.slots = 0) (hR : rm.frames + 1 ≤ R.frames ∧ 8 + (maxL + 11) + rm.locals ≤ R.locals) (hls : ls.size = nL) (hst : st0 = As.reverse ++ rest) (hrm : (rest.map fun v => v.category).sum ≤ 8) (hdg : decode cc pc = .ok (.invokestatic index, 3)) (hcs : cells ≤ R.cells ∧ slots ≤ R.slots) :
    va_Run p l e R s m args below meth c H locs cells slots 0 0 (F0 m pc ls st0) rest (Qc As.toArray) (wA n K) :=
  va_runSN ⟨C.1, C.2.1, C.2.2.1, C.2.2.2.1, C.2.2.2.2.1⟩ hM ⟨va_cnB na C.2.2.2.2.1 hG hw hr.1 hr.2 hlk (C.2.2.2.2.1 _ hini) hd hR, C.2.2.2.2.1 _ hstat, trivial⟩ ⟨fb_w, pc_w C hP hS⟩ rfl hn hls hst (lv_room hrm) hdg hcs
theorem a_c0 (C : cx n K p s m args meth c cc nL ws own ret) (hP : wP sh n K M H) (hS : va_S (wA n K) H0 H locs) {k0 k1 N : Nat} (hk0 : k0 < n) (hk1 : k1 < n) (he0 : sh K k0 (M k0) = .inl (kc K 0, N, .inl (M k0))) (he1 : ∀ f, sh K k1 f = .inl (kc K 0, N, .inl f)) (hls : ls.size = nL) {index : Nat} (hlk : Cond.methodLink own index arraycopyName ∈ ws) (hnat : Cond.native arraycopyName ∈ ws) (hst : Cond.static arraycopyName ∈ ws) (hini : Cond.initialized "java/lang/System" ∈ ws)
    {q : Int32} (h3 : ¬ q < 0 ∧ q.toNatClampNeg = N) (hfr : 1 ≤ R.frames) (hlo : (rest.map fun v => v.category).sum + (nativeFrameWords "java/lang/System" "arraycopy" 5 + 11) ≤ R.locals) (hdg : decode cc pc = .ok (.invokestatic index, 3))
    (kk : ∀ (H1 : Heap) (locs1 : List Loc), wP sh n K (mR M k1 (cpN N (M k0) (M k1))) H1 → va_S (wA n K) H0 H1 locs1 → W p l e R s m args below meth c H1 locs1 cells slots Q (F0 m (pc + 3) ls rest)) : W p l e R s m args below meth c H locs cells slots Q (F0 m pc ls (.int q :: .int 0 :: .ref (kb K + k1) :: .int 0 :: .ref (kb K + k0) :: rest)) := by
  have e0 : (0 : Int32).toNatClampNeg = 0 := by decide
  refine a_cp C hP hS hk0 hk1 he0 he1 hls hlk hnat hst hini (by decide) (by decide) h3.1 (by rw [e0, h3.2]; omega) (by rw [e0, h3.2]; omega) hfr hlo hdg (fun H1 locs1 hP1 hS1 => kk H1 locs1 ?_ hS1)
  rw [e0, h3.2, cpN_eq] at hP1
  exact hP1
theorem m_max (C : cx n K p s m args meth c cc nL ws own ret) (hls : ls.size = nL) {index : Nat} (hlk : Cond.methodLink own index Lib.Math.max.name ∈ ws) (hst : Cond.static Lib.Math.max.name ∈ ws) (hini : Cond.initialized "java/lang/Math" ∈ ws) (hcode : Cond.code Lib.Math.max.name Lib.Math.max.code 2 (some .int) ∈ ws) (hfr : 1 ≤ R.frames) (hlo : (rest.map fun v => v.category).sum + 13 ≤ R.locals) (hc : cells ≤ R.cells) (hs : slots ≤ R.slots) {x y : Int32} (hdg : decode cc pc = .ok (.invokestatic index, 3))
    (kk : W p l e R s m args below meth c H locs cells slots Q (F0 m (pc + 3) ls (.int (imax x y) :: rest))) : W p l e R s m args below meth c H locs cells slots Q (F0 m pc ls (.int y :: .int x :: rest)) :=
  va_mmax C.1 C.2.1 (C.2.2.1.trans hls.symm) C.2.2.2.1 (C.2.2.2.2.1 _ hlk) (C.2.2.2.2.1 _ hst) (C.2.2.2.2.1 _ hini) (C.2.2.2.2.1 _ hcode) hfr hlo hc hs hdg kk
end WN
theorem bp_10 : (Int8.ofInt (10)).toInt32 = (10 : Int32) := by decide
theorem bp_100 : (Int8.ofInt (100)).toInt32 = (100 : Int32) := by decide
theorem bp_111 : (Int8.ofInt (111)).toInt32 = (111 : Int32) := by decide
theorem bp_122 : (Int8.ofInt (122)).toInt32 = (122 : Int32) := by decide
theorem bp_127 : (Int8.ofInt (127)).toInt32 = (127 : Int32) := by decide
theorem bp_16 : (Int8.ofInt (16)).toInt32 = (16 : Int32) := by decide
theorem bp_20 : (Int8.ofInt (20)).toInt32 = (20 : Int32) := by decide
theorem bp_21 : (Int8.ofInt (21)).toInt32 = (21 : Int32) := by decide
theorem bp_22 : (Int8.ofInt (22)).toInt32 = (22 : Int32) := by decide
theorem bp_23 : (Int8.ofInt (23)).toInt32 = (23 : Int32) := by decide
theorem bp_24 : (Int8.ofInt (24)).toInt32 = (24 : Int32) := by decide
theorem bp_27 : (Int8.ofInt (27)).toInt32 = (27 : Int32) := by decide
theorem bp_31 : (Int8.ofInt (31)).toInt32 = (31 : Int32) := by decide
theorem bp_32 : (Int8.ofInt (32)).toInt32 = (32 : Int32) := by decide
theorem bp_35 : (Int8.ofInt (35)).toInt32 = (35 : Int32) := by decide
theorem bp_36 : (Int8.ofInt (36)).toInt32 = (36 : Int32) := by decide
theorem bp_37 : (Int8.ofInt (37)).toInt32 = (37 : Int32) := by decide
theorem bp_40 : (Int8.ofInt (40)).toInt32 = (40 : Int32) := by decide
theorem bp_41 : (Int8.ofInt (41)).toInt32 = (41 : Int32) := by decide
theorem bp_48 : (Int8.ofInt (48)).toInt32 = (48 : Int32) := by decide
theorem bp_57 : (Int8.ofInt (57)).toInt32 = (57 : Int32) := by decide
theorem bp_59 : (Int8.ofInt (59)).toInt32 = (59 : Int32) := by decide
theorem bp_6 : (Int8.ofInt (6)).toInt32 = (6 : Int32) := by decide
theorem bp_63 : (Int8.ofInt (63)).toInt32 = (63 : Int32) := by decide
theorem bp_8 : (Int8.ofInt (8)).toInt32 = (8 : Int32) := by decide
theorem bp_9 : (Int8.ofInt (9)).toInt32 = (9 : Int32) := by decide
theorem bp_97 : (Int8.ofInt (97)).toInt32 = (97 : Int32) := by decide
theorem bp_m10 : (Int8.ofInt (-10)).toInt32 = (-10 : Int32) := by decide
theorem bp_m11 : (Int8.ofInt (-11)).toInt32 = (-11 : Int32) := by decide
theorem bp_m12 : (Int8.ofInt (-12)).toInt32 = (-12 : Int32) := by decide
theorem bp_m14 : (Int8.ofInt (-14)).toInt32 = (-14 : Int32) := by decide
theorem bp_m2 : (Int8.ofInt (-2)).toInt32 = (-2 : Int32) := by decide
theorem bp_m20 : (Int8.ofInt (-20)).toInt32 = (-20 : Int32) := by decide
theorem bp_m3 : (Int8.ofInt (-3)).toInt32 = (-3 : Int32) := by decide
theorem bp_m4 : (Int8.ofInt (-4)).toInt32 = (-4 : Int32) := by decide
theorem ic_0 : Int32.ofInt (0) = (0 : Int32) := by decide
theorem ic_1 : Int32.ofInt (1) = (1 : Int32) := by decide
theorem ic_2 : Int32.ofInt (2) = (2 : Int32) := by decide
theorem ic_3 : Int32.ofInt (3) = (3 : Int32) := by decide
theorem ic_4 : Int32.ofInt (4) = (4 : Int32) := by decide
theorem ic_5 : Int32.ofInt (5) = (5 : Int32) := by decide
theorem ic_m1 : Int32.ofInt (-1) = (-1 : Int32) := by decide
theorem lc_0 : Int64.ofNat ((0 : Fin 2) : Nat) = (0 : Int64) := by decide
theorem lc_1 : Int64.ofNat ((1 : Fin 2) : Nat) = (1 : Int64) := by decide
theorem sp_10000 : (Int16.ofInt (10000)).toInt32 = (10000 : Int32) := by decide
theorem sp_12345 : (Int16.ofInt (12345)).toInt32 = (12345 : Int32) := by decide
theorem sp_148 : (Int16.ofInt (148)).toInt32 = (148 : Int32) := by decide
theorem sp_160 : (Int16.ofInt (160)).toInt32 = (160 : Int32) := by decide
theorem sp_179 : (Int16.ofInt (179)).toInt32 = (179 : Int32) := by decide
theorem sp_185 : (Int16.ofInt (185)).toInt32 = (185 : Int32) := by decide
theorem sp_195 : (Int16.ofInt (195)).toInt32 = (195 : Int32) := by decide
theorem sp_200 : (Int16.ofInt (200)).toInt32 = (200 : Int32) := by decide
theorem sp_206 : (Int16.ofInt (206)).toInt32 = (206 : Int32) := by decide
theorem sp_207 : (Int16.ofInt (207)).toInt32 = (207 : Int32) := by decide
theorem sp_208 : (Int16.ofInt (208)).toInt32 = (208 : Int32) := by decide
theorem sp_212 : (Int16.ofInt (212)).toInt32 = (212 : Int32) := by decide
theorem sp_32767 : (Int16.ofInt (32767)).toInt32 = (32767 : Int32) := by decide
theorem sp_9999 : (Int16.ofInt (9999)).toInt32 = (9999 : Int32) := by decide
theorem ti_0 : (0 : Int32).toNatClampNeg = 0 := by decide
theorem ti_1 : (1 : Int32).toNatClampNeg = 1 := by decide
theorem ti_179 : (179 : Int32).toNatClampNeg = 179 := by decide
theorem ti_20 : (20 : Int32).toNatClampNeg = 20 := by decide
theorem ti_206 : (206 : Int32).toNatClampNeg = 206 := by decide
theorem ti_207 : (207 : Int32).toNatClampNeg = 207 := by decide
theorem ti_21 : (21 : Int32).toNatClampNeg = 21 := by decide
theorem ti_22 : (22 : Int32).toNatClampNeg = 22 := by decide
theorem ti_35 : (35 : Int32).toNatClampNeg = 35 := by decide
theorem ti_36 : (36 : Int32).toNatClampNeg = 36 := by decide
theorem vi_0_2 : vp_in (0 : Int32) 2 := by unfold vp_in; decide
theorem vi_0_4 : vp_in (0 : Int32) 4 := by unfold vp_in; decide
theorem vi_179_222 : vp_in (179 : Int32) 222 := by unfold vp_in; decide
theorem vi_1_2 : vp_in (1 : Int32) 2 := by unfold vp_in; decide
theorem vi_206_222 : vp_in (206 : Int32) 222 := by unfold vp_in; decide
theorem vi_207_222 : vp_in (207 : Int32) 222 := by unfold vp_in; decide
theorem vi_20_222 : vp_in (20 : Int32) 222 := by unfold vp_in; decide
theorem vi_20_37 : vp_in (20 : Int32) 37 := by unfold vp_in; decide
theorem vi_21_222 : vp_in (21 : Int32) 222 := by unfold vp_in; decide
theorem vi_21_37 : vp_in (21 : Int32) 37 := by unfold vp_in; decide
theorem vi_22_222 : vp_in (22 : Int32) 222 := by unfold vp_in; decide
theorem vi_22_37 : vp_in (22 : Int32) 37 := by unfold vp_in; decide
theorem vi_35_222 : vp_in (35 : Int32) 222 := by unfold vp_in; decide
theorem vi_35_37 : vp_in (35 : Int32) 37 := by unfold vp_in; decide
theorem vi_36_222 : vp_in (36 : Int32) 222 := by unfold vp_in; decide
