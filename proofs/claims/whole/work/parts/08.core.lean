/-! the memory of a world: cell by cell, slot by slot, whole numbers; the shape of the cells stays -/
abbrev Mem : Type := Nat → Nat → Int32
def mR (M : Mem) (k : Nat) (f : Nat → Int32) : Mem := fun a => if a = k then f else M a
def mU (M : Mem) (k j : Nat) (x : Int32) : Mem := mR M k (upd (M k) j x)
theorem mR_s (M : Mem) (k : Nat) (f : Nat → Int32) : mR M k f k = f := if_pos rfl
theorem mR_n {M : Mem} {k a : Nat} {f : Nat → Int32} (h : a ≠ k) : mR M k f a = M a := if_neg h
theorem mU_s (M : Mem) (k j : Nat) (x : Int32) : mU M k j x k = upd (M k) j x := if_pos rfl
theorem mU_n {M : Mem} {k j a : Nat} {x : Int32} (h : a ≠ k) : mU M k j x a = M a := if_neg h
theorem mU_at (M : Mem) (k j a b : Nat) (x : Int32) : mU M k j x a b = if a = k ∧ b = j then x else M a b := by
  unfold mU mR upd
  by_cases h : a = k
  · subst h
    by_cases h2 : b = j
    · simp [h2]
    · simp [h2]
  · simp [h]
def iabs (x : Int32) : Int32 := if 0 ≤ x then x else 0 - x
/-- tables, array classes (int, byte, boolean, Layout, Sheet), the String constants and their bytes, where the cells begin -/
abbrev wC : Type := va_G × (Nat → ClassId) × (Nat → Nat) × (Nat → Nat) × Nat
abbrev kD (K : wC) : va_G := K.1
abbrev kc (K : wC) (i : Nat) : ClassId := K.2.1 i
abbrev kS (K : wC) (i : Nat) : Nat := K.2.2.1 i
abbrev kV (K : wC) (i : Nat) : Nat := K.2.2.2.1 i
abbrev kb (K : wC) : Nat := K.2.2.2.2
abbrev wS : Type := wC → Nat → (Nat → Int32) → va_E
def wl (sh : wS) (n : Nat) (K : wC) (M : Mem) : va_W := (List.range n).map (fun k => (kb K + k, sh K k (M k)))
abbrev tyl (K : wC) : List (ClassId × FieldType) := [(kc K 0, .int), (kc K 1, .byte), (kc K 2, .boolean), (kc K 3, .object "WheelAreas$Layout"), (kc K 4, .object "WheelAreas$Sheet")]
def wP (sh : wS) (n : Nat) (K : wC) (M : Mem) (H : Heap) : Prop := va_P (kD K) vwCl (wl sh n K M) H
def wA (n : Nat) (K : wC) : Nat → Prop := fun q => kb K ≤ q ∧ q < kb K + n
theorem wl_get {sh : wS} {n : Nat} {K : wC} {M : Mem} {k : Nat} (h : k < n) : (wl sh n K M)[k]? = some (kb K + k, sh K k (M k)) := by simp [wl, h]
theorem wl_len {sh : wS} {n : Nat} {K : wC} {M : Mem} : (wl sh n K M).length = n := by simp [wl]
theorem wl_of {sh : wS} {n : Nat} {K : wC} {M : Mem} {i : Nat} {q : Nat × va_E} (h : (wl sh n K M)[i]? = some q) : i < n ∧ q.1 = kb K + i := by
  have hl : i < n := by
    have h1 := (List.getElem?_eq_some_iff.mp h).1
    rw [wl_len] at h1
    exact h1
  rw [wl_get hl] at h
  cases h
  exact ⟨hl, rfl⟩
theorem wl_set {sh : wS} {n : Nat} {K : wC} {M : Mem} {k : Nat} {f : Nat → Int32} : (wl sh n K M).set k (kb K + k, sh K k f) = wl sh n K (mR M k f) := by
  apply List.ext_getElem?
  intro i
  by_cases hi : i < n
  · by_cases h : i = k
    · subst h
      rw [List.getElem?_set_self (by rw [wl_len]; exact hi), wl_get hi, mR_s]
    · rw [List.getElem?_set_ne (Ne.symm h), wl_get hi, wl_get hi, mR_n h]
  · have hn := Nat.le_of_not_lt hi
    rw [List.getElem?_eq_none (by rw [List.length_set, wl_len]; exact hn), List.getElem?_eq_none (by rw [wl_len]; exact hn)]
theorem wl_D {sh : wS} {n : Nat} {K : wC} {M : Mem} : va_D (wA n K) (wl sh n K M) := by
  refine ⟨fun i j p q hi hj e => ?_, fun k q hk => ?_⟩
  · have a := (wl_of hi).2
    have b := (wl_of hj).2
    omega
  · obtain ⟨a, b⟩ := wl_of hk
    refine ⟨?_, ?_⟩ <;> omega
/-! what never changes: the tables, the String constants and statics that lie outside the world's cells -/
abbrev sLen : List Nat := [5, 6, 5, 4, 2, 4]
abbrev sByt : List (List Int32) := [[112, 108, 97, 105, 110], [99, 111, 97, 114, 115, 101], [115, 116, 105, 99, 107], [102, 114, 101, 101], [97, 116], [112, 111, 108, 101]]
abbrev sIx : List Nat := [85, 87, 89, 91, 93, 95]
abbrev sTx : List String := ["plain", "coarse", "stick", "free", "at", "pole"]
def wK (n : Nat) (K : wC) (U : State) : Prop :=
  va_K (kD K) vwCl (tyl K) U ∧ va_Nw (.methodLinkNest RX1 26 yX5_within "WheelAreas") U ∧ vk_S 6 sLen sByt (kS K) (kV K) (wA n K) U U.heap ∧ (∀ i : Nat, i < 6 → vk_R RX4 (sIx.getD i 0) (sTx.getD i "") (kS K i) U) ∧
  va_Z "java/lang/String" "COMPACT_STRINGS" "Z" (.int 1) (wA n K) U U.heap ∧ va_Zq "jdk/internal/util/Preconditions" "SIOOBE_FORMATTER" "Ljava/util/function/BiFunction;" (wA n K) U U.heap
theorem wK.step {n : Nat} {K : wC} {s U : State} {H : Heap} {locs : List Loc} (h : wK n K s) (hS : va_S (wA n K) s.heap H locs) (hU : U.heap = H) (hW : s.WarmedH U.vm) : wK n K U := by
  obtain ⟨h1, h2, h3, h4, h5, h6⟩ := h
  refine ⟨va_K.moved hW.alike h1, va_Nw.warmM hW h2, ?_, fun i hi => (h4 i hi).warm hW, ?_, ?_⟩
  · rw [hU]; exact (vk_S.moved hW.alike h3).kept hS.2.1
  · rw [hU]; exact (va_Z.moved hW.alike h5).kept hS.2.1
  · rw [hU]; exact (va_Zq.moved hW.alike h6).kept hS.2.1
theorem wK.same {n : Nat} {K : wC} {u U : State} (h : wK n K u) (hv : U.vm = u.vm) (hh : U.heap = u.heap) : wK n K U := by
  obtain ⟨h1, h2, h3, h4, h5, h6⟩ := h
  have hA : u.vm.Alike U.vm := by rw [hv]; exact Vm.Alike.refl u.vm
  refine ⟨va_K.moved hA h1, va_Nw.same rfl hv.symm h2, ?_, fun i hi => (h4 i hi).same hv, ?_, ?_⟩
  · rw [hh]; exact vk_S.moved hA h3
  · rw [hh]; exact va_Z.moved hA h5
  · rw [hh]; exact va_Zq.moved hA h6
def wB (sh : wS) (n : Nat) (K : wC) (M : Mem) (U : State) : Prop := wP sh n K M U.heap ∧ wK n K U
def wE (sh : wS) (n : Nat) (K : wC) (M : Mem) (t : State) : Prop := wP sh n K M t.heap
abbrev metI (l : Launch) (y : MethodName) (ws : List Cond) (rm : Room) (sh : wS) (n : Nat) (K : wC) (As : List Value) (M : Mem) (Q : Int32 → Mem → Prop) : Prop :=
  Met l y ws rm (va_Pc As (wB sh n K M)) (va_Qi Q (wE sh n K) (wA n K)) 0 0 (wA n K)
abbrev metL (l : Launch) (y : MethodName) (ws : List Cond) (rm : Room) (sh : wS) (n : Nat) (K : wC) (As : List Value) (M : Mem) (Q : Int64 → Mem → Prop) : Prop :=
  Met l y ws rm (va_Pc As (wB sh n K M)) (va_Ql Q (wE sh n K) (wA n K)) 0 0 (wA n K)
abbrev metV (l : Launch) (y : MethodName) (ws : List Cond) (rm : Room) (sh : wS) (n : Nat) (K : wC) (As : List Value) (M : Mem) (Q : Mem → Prop) : Prop :=
  Met l y ws rm (va_Pc As (wB sh n K M)) (va_Qv Q (wE sh n K) (wA n K)) 0 0 (wA n K)
/-- an answer that is a String constant, by its number -/
abbrev metS (l : Launch) (y : MethodName) (ws : List Cond) (rm : Room) (sh : wS) (n : Nat) (K : wC) (As : List Value) (M : Mem) (Q : Nat → Mem → Prop) : Prop :=
  Met l y ws rm (va_Pc As (wB sh n K M)) (va_Qr (fun u : Nat × Mem => Q u.1 u.2 ∧ u.1 < 6) (fun u a t => a = kS K u.1 ∧ wE sh n K u.2 t) (wA n K)) 0 0 (wA n K)
def cx (n : Nat) (K : wC) (p : Program) (s : State) (m : MethodId) (args : Array Value) (meth : Method) (c : Code) (cc : ByteArray) (nL : Nat) (ws : List Cond) (own : String) (ret : Option FieldType) : Prop :=
  p.tables.exec = Jvm.exec ∧ c.code = cc ∧ c.maxLocals = nL ∧ s.vm.findClass own = some m.cls ∧ (∀ w ∈ ws, w.before args s = true) ∧ meth.sig.returnType = ret ∧ meth.locks = false ∧ wK n K s
theorem met_of {l : Launch} {y : MethodName} {ws ws' : List Cond} {rm : Room} {sh : wS} {n : Nat} {K : wC} {As : List Value} {M : Mem} {Qc : Array Value → State → Outcome → State → Prop} {cc : ByteArray} {maxL : Nat} {ret : Option FieldType} {own : String}
    (hy : plainName y.cls = true) (hw : ws = .code y cc maxL ret :: ws') (ho : y.cls = own) (hlen : (lg_sl As).length ≤ maxL)
    (body : ∀ (p : Program) (e : Env) (s : State) (m : MethodId) (below : List Frame) (meth : Method) (c : Code) (ls : Array Slot), cx n K p s m As.toArray meth c cc maxL ws own ret → lv_has ls maxL (lv_args 0 As) → wP sh n K M s.heap → va_S (wA n K) s.heap s.heap [] →
      W p l e rm s m As.toArray below meth c s.heap [] 0 0 (MQ below Qc As.toArray s 0 0 (wA n K)) (F0 m 0 ls [])) :
    Met l y ws rm (va_Pc As (wB sh n K M)) Qc 0 0 (wA n K) := by
  refine Met.ofW (cc := cc) (maxL := maxL) (ret := ret) hy hw ?_
  intro p e s m args below meth c s₁ B hml hv
  obtain ⟨rfl, hP, hK⟩ := hv
  have hl := lv_entry As (n := maxL) hlen
  rw [lg_entry_eq]
  generalize (lg_sl As ++ List.replicate (maxL - (lg_sl As).length) Slot.unset).toArray = ls at hl ⊢
  exact body p e s m below meth c ls ⟨B.exec, B.bytes, hml, by rw [← ho]; exact findClass_of_methodNamed B.named, atoms_spec (ws := ws) B.pre, B.returns, B.notSynchronized, hK⟩ hl hP va_S.rf
section WR
variable {p : Program} {l : Launch} {e : Env} {R : Room} {s : State} {m : MethodId} {args : Array Value} {below : List Frame} {meth : Method} {c : Code} {H : Heap} {locs : List Loc} {cells slots : Nat} {Q : State → Prop}
variable {n : Nat} {K : wC} {sh : wS} {M : Mem} {cc : ByteArray} {nL : Nat} {ws : List Cond} {own : String} {ret : Option FieldType} {pc : Nat} {ls : Array Slot} {rest : List Value} {H0 : Heap}
theorem r_i {P : Int32 → Mem → Prop} {v : Int32} (C : cx n K p s m args meth c cc nL ws own (some .int)) (hP : wP sh n K M H) (hS : va_S (wA n K) s.heap H locs) (hq : P v M) (hdg : decode cc pc = .ok (.ireturn, 1)) : W p l e R s m args below meth c H locs cells slots (MQ below (va_Qi P (wE sh n K) (wA n K)) args s cells slots (wA n K)) (F0 m pc ls [.int v]) :=
  W.iret C.1 C.2.1 C.2.2.2.2.2.1 (fun t ht hW => ⟨⟨v, M, rfl, hq, by show wP sh n K M t.heap; rw [ht]; exact hP⟩, hS.F ht⟩) hS.2.2 hdg C.2.2.2.2.2.2.1
theorem r_z {P : Int32 → Mem → Prop} {v : Int32} {ty : FieldType} (C : cx n K p s m args meth c cc nL ws own (some ty)) (hn : narrow ty (.int v) = .int v) (hP : wP sh n K M H) (hS : va_S (wA n K) s.heap H locs) (hq : P v M) (hdg : decode cc pc = .ok (.ireturn, 1)) : W p l e R s m args below meth c H locs cells slots (MQ below (va_Qi P (wE sh n K) (wA n K)) args s cells slots (wA n K)) (F0 m pc ls [.int v]) :=
  W.zret C.1 C.2.1 C.2.2.2.2.2.1 hn (fun t ht hW => ⟨⟨v, M, rfl, hq, by show wP sh n K M t.heap; rw [ht]; exact hP⟩, hS.F ht⟩) hS.2.2 hdg C.2.2.2.2.2.2.1
theorem r_l {P : Int64 → Mem → Prop} {v : Int64} (C : cx n K p s m args meth c cc nL ws own (some .long)) (hP : wP sh n K M H) (hS : va_S (wA n K) s.heap H locs) (hq : P v M) (hdg : decode cc pc = .ok (.lreturn, 1)) : W p l e R s m args below meth c H locs cells slots (MQ below (va_Ql P (wE sh n K) (wA n K)) args s cells slots (wA n K)) (F0 m pc ls [.long v]) :=
  W.lret C.1 C.2.1 C.2.2.2.2.2.1 (fun t ht hW => ⟨⟨v, M, rfl, hq, by show wP sh n K M t.heap; rw [ht]; exact hP⟩, hS.F ht⟩) hS.2.2 hdg C.2.2.2.2.2.2.1
theorem r_v {P : Mem → Prop} (C : cx n K p s m args meth c cc nL ws own none) (hP : wP sh n K M H) (hS : va_S (wA n K) s.heap H locs) (hq : P M) (hdg : decode cc pc = .ok (.return_, 1)) : W p l e R s m args below meth c H locs cells slots (MQ below (va_Qv P (wE sh n K) (wA n K)) args s cells slots (wA n K)) (F0 m pc ls []) :=
  W.vret C.1 C.2.1 C.2.2.2.2.2.1 (fun t ht hW => ⟨⟨M, rfl, hq, by show wP sh n K M t.heap; rw [ht]; exact hP⟩, hS.F ht⟩) hS.2.2 hdg C.2.2.2.2.2.2.1
theorem r_s {P : Nat → Mem → Prop} {v : Nat} {ty : String} (C : cx n K p s m args meth c cc nL ws own (some (.object ty))) (hv : v < 6) (hP : wP sh n K M H) (hS : va_S (wA n K) s.heap H locs) (hq : P v M) (hdg : decode cc pc = .ok (.areturn, 1)) : W p l e R s m args below meth c H locs cells slots (MQ below (va_Qr (fun u : Nat × Mem => P u.1 u.2 ∧ u.1 < 6) (fun u a t => a = kS K u.1 ∧ wE sh n K u.2 t) (wA n K)) args s cells slots (wA n K)) (F0 m pc ls [.ref (kS K v)]) :=
  W.aret C.1 C.2.1 C.2.2.2.2.2.1 (Or.inl ⟨_, rfl⟩) (Or.inr ⟨_, rfl⟩) (fun t ht hW => ⟨⟨(v, M), kS K v, rfl, ⟨hq, hv⟩, rfl, by show wP sh n K M t.heap; rw [ht]; exact hP⟩, hS.F ht⟩) hS.2.2 hdg C.2.2.2.2.2.2.1
/-- a field is read -/
theorem g_f (C : cx n K p s m args meth c cc nL ws own ret) (hP : wP sh n K M H) {k ci : Nat} {fs : List Value} (hk : k < n) (he : sh K k (M k) = .inr (ci, fs)) {Cn : String} {T : u_T} {N : Nat} (hc : vwCl[ci]? = some (Cn, T, N)) (hin : ∀ w ∈ u_ws Cn T N, w ∈ ws) (j : Nat) (hj : j < N) {index : Nat} (hlk : Cond.fieldLink own index (T j).1 (T j).2.1 (T j).2.2.1 ∈ ws) {v : Value} (hv : fs[j]? = some v) (hdg : decode cc pc = .ok (.getfield index, 3))
    (kk : W p l e R s m args below meth c H locs cells slots Q (F0 m (pc + 3) ls (v :: rest))) : W p l e R s m args below meth c H locs cells slots Q (F0 m pc ls (.ref (kb K + k) :: rest)) :=
  va_get C.1 C.2.1 C.2.2.2.2.1 hin C.2.2.2.1 C.2.2.2.2.2.2.2.1 hP k ((wl_get hk).trans (by rw [he])) hc j hj (C.2.2.2.2.1 _ hlk) (fun _ h => h) hv hdg kk
/-- a field of a whole number is written -/
theorem p_f (C : cx n K p s m args meth c cc nL ws own ret) (hP : wP sh n K M H) (hS : va_S (wA n K) H0 H locs) {k ci : Nat} {fs : List Value} (hk : k < n) {x : Int32} {j : Nat} (he : sh K k (M k) = .inr (ci, fs)) (he2 : sh K k (upd (M k) j x) = .inr (ci, fs.set j (.int x))) {Cn : String} {T : u_T} {N : Nat} (hc : vwCl[ci]? = some (Cn, T, N)) (hin : ∀ w ∈ u_ws Cn T N, w ∈ ws) {ty0 : Nat → FieldType} (hty : ∀ k, k < N → parseFieldDescriptor (T k).2.2.1 = some (ty0 k)) (hnm : ∀ a, a < N → ∀ b, b < N → a ≠ b → (T a).2.1 ≠ (T b).2.1)
    (hj : j < N) {index : Nat} (hlk : Cond.fieldLink own index (T j).1 (T j).2.1 (T j).2.2.1 ∈ ws) (hfin : (T j).2.2.2 = false) (hn : narrow (ty0 j) (.int x) = .int x) (hfit : fits (ty0 j) (.int x) = true) (hl : j < fs.length) (hdg : decode cc pc = .ok (.putfield index, 3))
    (kk : ∀ (H1 : Heap) (locs1 : List Loc), wP sh n K (mU M k j x) H1 → va_S (wA n K) H0 H1 locs1 → W p l e R s m args below meth c H1 locs1 cells slots Q (F0 m (pc + 3) ls rest)) : W p l e R s m args below meth c H locs cells slots Q (F0 m pc ls (.int x :: .ref (kb K + k) :: rest)) := by
  refine va_put C.1 C.2.1 C.2.2.2.2.1 hin ty0 hty hnm C.2.2.2.1 C.2.2.2.2.2.2.2.1 hP wl_D hS k ((wl_get hk).trans (by rw [he])) hc j hj (C.2.2.2.2.1 _ hlk) (fun _ h => h) hfin (hty j hj) hn hfit hl hdg (fun H1 locs1 hP1 _ hS1 => kk H1 locs1 ?_ hS1)
  rw [← he2, wl_set] at hP1
  exact hP1
theorem a_il (C : cx n K p s m args meth c cc nL ws own ret) (hP : wP sh n K M H) {k N : Nat} (hk : k < n) (he : sh K k (M k) = .inl (kc K 0, N, .inl (M k))) {i : Int32} (hin : vp_in i N) {j : Nat} (hj : i.toNatClampNeg = j) (hdg : decode cc pc = .ok (.iaload, 1))
    (kk : W p l e R s m args below meth c H locs cells slots Q (F0 m (pc + 1) ls (.int (M k j) :: rest))) : W p l e R s m args below meth c H locs cells slots Q (F0 m pc ls (.int i :: .ref (kb K + k) :: rest)) :=
  va_iald C.1 C.2.1 C.2.2.2.2.2.2.2.1 hP k 0 ((wl_get hk).trans (by rw [he])) rfl hin hdg (by rw [hj]; exact kk)
theorem a_bl (C : cx n K p s m args meth c cc nL ws own ret) (hP : wP sh n K M H) {k N : Nat} (hk : k < n) (he : sh K k (M k) = .inl (kc K 1, N, .inl (M k))) {i : Int32} (hin : vp_in i N) {j : Nat} (hj : i.toNatClampNeg = j) (hdg : decode cc pc = .ok (.baload, 1))
    (kk : W p l e R s m args below meth c H locs cells slots Q (F0 m (pc + 1) ls (.int (M k j) :: rest))) : W p l e R s m args below meth c H locs cells slots Q (F0 m pc ls (.int i :: .ref (kb K + k) :: rest)) :=
  va_bald C.1 C.2.1 C.2.2.2.2.2.2.2.1 hP k 1 ((wl_get hk).trans (by rw [he])) rfl hin hdg (by rw [hj]; exact kk)
theorem a_zl (C : cx n K p s m args meth c cc nL ws own ret) (hP : wP sh n K M H) {k N : Nat} (hk : k < n) (he : sh K k (M k) = .inl (kc K 2, N, .inl (M k))) {i : Int32} (hin : vp_in i N) {j : Nat} (hj : i.toNatClampNeg = j) (hdg : decode cc pc = .ok (.baload, 1))
    (kk : W p l e R s m args below meth c H locs cells slots Q (F0 m (pc + 1) ls (.int (M k j) :: rest))) : W p l e R s m args below meth c H locs cells slots Q (F0 m pc ls (.int i :: .ref (kb K + k) :: rest)) :=
  va_zald C.1 C.2.1 C.2.2.2.2.2.2.2.1 hP k 2 ((wl_get hk).trans (by rw [he])) rfl hin hdg (by rw [hj]; exact kk)
theorem a_ql (C : cx n K p s m args meth c cc nL ws own ret) (hP : wP sh n K M H) {k N : Nat} (hk : k < n) {t0 : Nat} {cA : ClassId} {Cn : String} {f : Nat → Option Nat} (he : sh K k (M k) = .inl (cA, N, .inr (.inr (.inr (.inr f))))) (ht : (tyl K)[t0]? = some (cA, .object Cn)) {i : Int32} (hin : vp_in i N) {a : Nat} (ha : f i.toNatClampNeg = some a) (hdg : decode cc pc = .ok (.aaload, 1))
    (kk : W p l e R s m args below meth c H locs cells slots Q (F0 m (pc + 1) ls (.ref a :: rest))) : W p l e R s m args below meth c H locs cells slots Q (F0 m pc ls (.int i :: .ref (kb K + k) :: rest)) :=
  va_aldq C.1 C.2.1 C.2.2.2.2.2.2.2.1 hP k t0 ((wl_get hk).trans (by rw [he])) ht hin hdg (by rw [ha]; exact kk)
theorem a_is (C : cx n K p s m args meth c cc nL ws own ret) (hP : wP sh n K M H) (hS : va_S (wA n K) H0 H locs) {k N : Nat} (hk : k < n) (he : ∀ f, sh K k f = .inl (kc K 0, N, .inl f)) {i x : Int32} (hin : vp_in i N) {j : Nat} (hj : i.toNatClampNeg = j) (hdg : decode cc pc = .ok (.iastore, 1))
    (kk : ∀ (H1 : Heap) (locs1 : List Loc), wP sh n K (mU M k j x) H1 → va_S (wA n K) H0 H1 locs1 → W p l e R s m args below meth c H1 locs1 cells slots Q (F0 m (pc + 1) ls rest)) : W p l e R s m args below meth c H locs cells slots Q (F0 m pc ls (.int x :: .int i :: .ref (kb K + k) :: rest)) := by
  subst hj
  refine va_iast C.1 C.2.1 C.2.2.2.2.2.2.2.1 hP wl_D hS k 0 ((wl_get hk).trans (by rw [he])) rfl hin hdg (fun H1 locs1 hP1 _ hS1 => kk H1 locs1 ?_ hS1)
  rw [← he, wl_set] at hP1
  exact hP1
theorem a_bs (C : cx n K p s m args meth c cc nL ws own ret) (hP : wP sh n K M H) (hS : va_S (wA n K) H0 H locs) {k N : Nat} (hk : k < n) (he : ∀ f, sh K k f = .inl (kc K 1, N, .inl f)) {i x : Int32} (hin : vp_in i N) {j : Nat} (hj : i.toNatClampNeg = j) (hdg : decode cc pc = .ok (.bastore, 1))
    (kk : ∀ (H1 : Heap) (locs1 : List Loc), wP sh n K (mU M k j (vp_nar .byte x)) H1 → va_S (wA n K) H0 H1 locs1 → W p l e R s m args below meth c H1 locs1 cells slots Q (F0 m (pc + 1) ls rest)) : W p l e R s m args below meth c H locs cells slots Q (F0 m pc ls (.int x :: .int i :: .ref (kb K + k) :: rest)) := by
  subst hj
  refine va_bast C.1 C.2.1 C.2.2.2.2.2.2.2.1 hP wl_D hS k 1 ((wl_get hk).trans (by rw [he])) rfl hin hdg (fun H1 locs1 hP1 _ hS1 => kk H1 locs1 ?_ hS1)
  rw [← he, wl_set] at hP1
  exact hP1
theorem a_zs (C : cx n K p s m args meth c cc nL ws own ret) (hP : wP sh n K M H) (hS : va_S (wA n K) H0 H locs) {k N : Nat} (hk : k < n) (he : ∀ f, sh K k f = .inl (kc K 2, N, .inl f)) {i x : Int32} (hx : vp_nar .boolean x = x) (hin : vp_in i N) {j : Nat} (hj : i.toNatClampNeg = j) (hdg : decode cc pc = .ok (.bastore, 1))
    (kk : ∀ (H1 : Heap) (locs1 : List Loc), wP sh n K (mU M k j x) H1 → va_S (wA n K) H0 H1 locs1 → W p l e R s m args below meth c H1 locs1 cells slots Q (F0 m (pc + 1) ls rest)) : W p l e R s m args below meth c H locs cells slots Q (F0 m pc ls (.int x :: .int i :: .ref (kb K + k) :: rest)) := by
  subst hj
  refine va_zast C.1 C.2.1 C.2.2.2.2.2.2.2.1 hP wl_D hS k 2 ((wl_get hk).trans (by rw [he])) rfl hin hdg (fun H1 locs1 hP1 _ hS1 => kk H1 locs1 ?_ hS1)
  rw [hx, ← he, wl_set] at hP1
  exact hP1
/-- System.arraycopy of whole rows of ints -/
theorem a_cp (C : cx n K p s m args meth c cc nL ws own ret) (hP : wP sh n K M H) (hS : va_S (wA n K) H0 H locs) {k0 k1 N : Nat} (hk0 : k0 < n) (hk1 : k1 < n) (he0 : sh K k0 (M k0) = .inl (kc K 0, N, .inl (M k0))) (he1 : ∀ f, sh K k1 f = .inl (kc K 0, N, .inl f)) (hls : ls.size = nL) {index : Nat} (hlk : Cond.methodLink own index arraycopyName ∈ ws) (hnat : Cond.native arraycopyName ∈ ws) (hst : Cond.static arraycopyName ∈ ws) (hini : Cond.initialized "java/lang/System" ∈ ws)
    {sp dp q : Int32} (h1 : ¬ sp < 0) (h2 : ¬ dp < 0) (h3 : ¬ q < 0) (h4 : sp.toNatClampNeg + q.toNatClampNeg ≤ N) (h5 : dp.toNatClampNeg + q.toNatClampNeg ≤ N) (hfr : 1 ≤ R.frames) (hlo : (rest.map fun v => v.category).sum + (nativeFrameWords "java/lang/System" "arraycopy" 5 + 11) ≤ R.locals) (hdg : decode cc pc = .ok (.invokestatic index, 3))
    (kk : ∀ (H1 : Heap) (locs1 : List Loc), wP sh n K (mR M k1 (va_cpy (M k0) (M k1) sp.toNatClampNeg dp.toNatClampNeg q.toNatClampNeg)) H1 → va_S (wA n K) H0 H1 locs1 → W p l e R s m args below meth c H1 locs1 cells slots Q (F0 m (pc + 3) ls rest)) : W p l e R s m args below meth c H locs cells slots Q (F0 m pc ls (.int q :: .int dp :: .ref (kb K + k1) :: .int sp :: .ref (kb K + k0) :: rest)) := by
  refine va_copyi C.1 C.2.1 (C.2.2.1.trans hls.symm) C.2.2.2.1 (C.2.2.2.2.1 _ hlk) (C.2.2.2.2.1 _ hnat) (C.2.2.2.2.1 _ hst) (C.2.2.2.2.1 _ hini) C.2.2.2.2.2.2.2.1 hP wl_D hS k0 k1 0 0 ((wl_get hk0).trans (by rw [he0])) ((wl_get hk1).trans (by rw [he1])) rfl rfl rfl h1 h2 h3 h4 h5 (fun _ _ => rfl) hfr hlo hdg (fun H1 locs1 hP1 _ hS1 => kk H1 locs1 ?_ hS1)
  rw [← he1, wl_set] at hP1
  exact hP1
theorem m_abs (C : cx n K p s m args meth c cc nL ws own ret) (hls : ls.size = nL) {index : Nat} (hlk : Cond.methodLink own index Lib.Math.abs.name ∈ ws) (hst : Cond.static Lib.Math.abs.name ∈ ws) (hini : Cond.initialized "java/lang/Math" ∈ ws) (hcode : Cond.code Lib.Math.abs.name Lib.Math.abs.code 1 (some .int) ∈ ws) (hfr : 1 ≤ R.frames) (hlo : (rest.map fun v => v.category).sum + 13 ≤ R.locals) (hc : cells ≤ R.cells) (hs : slots ≤ R.slots) {x : Int32} (hdg : decode cc pc = .ok (.invokestatic index, 3))
    (kk : W p l e R s m args below meth c H locs cells slots Q (F0 m (pc + 3) ls (.int (iabs x) :: rest))) : W p l e R s m args below meth c H locs cells slots Q (F0 m pc ls (.int x :: rest)) :=
  va_mabs C.1 C.2.1 (C.2.2.1.trans hls.symm) C.2.2.2.1 (C.2.2.2.2.1 _ hlk) (C.2.2.2.2.1 _ hst) (C.2.2.2.2.1 _ hini) (C.2.2.2.2.1 _ hcode) hfr hlo hc hs hdg kk
/-- calls: the callee's contract is of the same world -/
theorem fb_w {As : List Value} : FrameBlind (va_Pc As (wB sh n K M)) := fun a U g mk q => ⟨q.1, q.2.1, wK.same q.2.2 rfl rfl⟩
theorem pc_w {As : List Value} (C : cx n K p s m args meth c cc nL ws own ret) (hP : wP sh n K M H) (hS : va_S (wA n K) s.heap H locs) : ∀ U : State, U.heap = H → s.WarmedH U.vm → va_Pc As (wB sh n K M) As.toArray U :=
  fun U hU hW => ⟨rfl, by show wP sh n K M U.heap; rw [hU]; exact hP, C.2.2.2.2.2.2.2.step hS hU hW⟩
variable {y : MethodName} {ws2 ws2' : List Cond} {rm : Room} {bytes : ByteArray} {maxL na index : Nat} {ret2 : Option FieldType} {st0 As : List Value} {Qc : Array Value → State → Outcome → State → Prop}
/-- a virtual call on a cell of the world -/
theorem run_v {Cn : String} {k ci N : Nat} {fs : List Value} {T : u_T} (C : cx n K p s m args meth c cc nL ws own ret) (hP : wP sh n K M H) (hS : va_S (wA n K) s.heap H locs) (hM : Met l y ws2 rm (va_Pc (.ref (kb K + k) :: As) (wB sh n K M)) Qc 0 0 (wA n K)) (hG : GoodIn ws (wsV own index Cn y ws2)) (hw : ws2 = Cond.code y bytes maxL ret2 :: ws2')
    (hd : y.cls = Cn ∧ y.cls ≠ "java/lang/invoke/MethodHandle" ∧ y.cls ≠ "java/lang/invoke/VarHandle" ∧ (parseMethodDescriptor y.desc).map (fun d => d.parameters.length) = some na) (hn : As.length = na) (hr : rm.cells = 0 ∧ rm.slots = 0) (hR : rm.frames + 1 ≤ R.frames ∧ 8 + (maxL + 11) + rm.locals ≤ R.locals) (hk : k < n) (he : sh K k (M k) = .inr (ci, fs)) (hc : vwCl[ci]? = some (Cn, T, N)) (hls : ls.size = nL) (hst : st0 = As.reverse ++ .ref (kb K + k) :: rest) (hrm : (rest.map fun v => v.category).sum ≤ 8) (hdg : decode cc pc = .ok (.invokevirtual index, 3)) (hcs : cells ≤ R.cells ∧ slots ≤ R.slots) :
    va_Run p l e R s m args below meth c H locs cells slots 0 0 (F0 m pc ls st0) rest (Qc (.ref (kb K + k) :: As).toArray) (wA n K) :=
  va_runV ⟨C.1, C.2.1, C.2.2.1, C.2.2.2.1, C.2.2.2.2.1⟩ hM (cwV na C.2.2.2.2.1 hG hw hr.1 hr.2 hd hR) ⟨fb_w, va_recv C.2.2.2.2.2.2.2.1 hP hc ((wl_get hk).trans (by rw [he])), pc_w C hP hS⟩ rfl hn hls hst (lv_room hrm) hdg hcs
theorem run_s (C : cx n K p s m args meth c cc nL ws own ret) (hP : wP sh n K M H) (hS : va_S (wA n K) s.heap H locs) (hM : Met l y ws2 rm (va_Pc As (wB sh n K M)) Qc 0 0 (wA n K)) (hG : GoodIn ws (va_wsS own index y ws2)) (hw : ws2 = Cond.code y bytes maxL ret2 :: ws2')
    (hd : y.cls ≠ "java/lang/invoke/MethodHandle" ∧ y.cls ≠ "java/lang/invoke/VarHandle" ∧ (parseMethodDescriptor y.desc).map (fun d => d.parameters.length) = some na) (hn : As.length = na) (hr : rm.cells = 0 ∧ rm.slots = 0) (hR : rm.frames + 1 ≤ R.frames ∧ 8 + (maxL + 11) + rm.locals ≤ R.locals) (hls : ls.size = nL) (hst : st0 = As.reverse ++ rest) (hrm : (rest.map fun v => v.category).sum ≤ 8) (hdg : decode cc pc = .ok (.invokestatic index, 3)) (hcs : cells ≤ R.cells ∧ slots ≤ R.slots) :
    va_Run p l e R s m args below meth c H locs cells slots 0 0 (F0 m pc ls st0) rest (Qc As.toArray) (wA n K) :=
  va_runS ⟨C.1, C.2.1, C.2.2.1, C.2.2.2.1, C.2.2.2.2.1⟩ hM (va_cwS na C.2.2.2.2.1 hG hw hr.1 hr.2 hd hR) ⟨fb_w, pc_w C hP hS⟩ rfl hn hls hst (lv_room hrm) hdg hcs
theorem c_i {P : Int32 → Mem → Prop} {a : Array Value} (hr : va_Run p l e R s m args below meth c H locs cells slots 0 0 (F0 m pc ls st0) rest (va_Qi P (wE sh n K) (wA n K) a) (wA n K)) (hS : va_S (wA n K) H0 H locs)
    (kk : ∀ (r : Int32) (M1 : Mem) (H1 : Heap) (locs1 : List Loc), P r M1 → wP sh n K M1 H1 → va_S (wA n K) H0 H1 locs1 → W p l e R s m args below meth c H1 locs1 cells slots Q (F0 m (pc + 3) ls (.int r :: rest))) : W p l e R s m args below meth c H locs cells slots Q (F0 m pc ls st0) :=
  va_calli hr hS (fun _ _ h => h) (fun _ h => h) (fun r M1 t H1 locs1 ht _ hp hB _ _ hS1 => kk r M1 H1 locs1 hp (by rw [← ht]; exact hB) hS1)
theorem c_l {P : Int64 → Mem → Prop} {a : Array Value} (hr : va_Run p l e R s m args below meth c H locs cells slots 0 0 (F0 m pc ls st0) rest (va_Ql P (wE sh n K) (wA n K) a) (wA n K)) (hS : va_S (wA n K) H0 H locs)
    (kk : ∀ (r : Int64) (M1 : Mem) (H1 : Heap) (locs1 : List Loc), P r M1 → wP sh n K M1 H1 → va_S (wA n K) H0 H1 locs1 → W p l e R s m args below meth c H1 locs1 cells slots Q (F0 m (pc + 3) ls (.long r :: rest))) : W p l e R s m args below meth c H locs cells slots Q (F0 m pc ls st0) :=
  va_calll hr hS (fun _ _ h => h) (fun _ h => h) (fun r M1 t H1 locs1 ht _ hp hB _ _ hS1 => kk r M1 H1 locs1 hp (by rw [← ht]; exact hB) hS1)
theorem c_v {P : Mem → Prop} {a : Array Value} (hr : va_Run p l e R s m args below meth c H locs cells slots 0 0 (F0 m pc ls st0) rest (va_Qv P (wE sh n K) (wA n K) a) (wA n K)) (hS : va_S (wA n K) H0 H locs)
    (kk : ∀ (M1 : Mem) (H1 : Heap) (locs1 : List Loc), P M1 → wP sh n K M1 H1 → va_S (wA n K) H0 H1 locs1 → W p l e R s m args below meth c H1 locs1 cells slots Q (F0 m (pc + 3) ls rest)) : W p l e R s m args below meth c H locs cells slots Q (F0 m pc ls st0) :=
  va_callv hr hS (fun _ _ h => h) (fun _ h => h) (fun M1 t H1 locs1 ht _ hp hB _ _ hS1 => kk M1 H1 locs1 hp (by rw [← ht]; exact hB) hS1)
theorem c_s {P : Nat → Mem → Prop} {a : Array Value} (hr : va_Run p l e R s m args below meth c H locs cells slots 0 0 (F0 m pc ls st0) rest (va_Qr (fun u : Nat × Mem => P u.1 u.2 ∧ u.1 < 6) (fun u a t => a = kS K u.1 ∧ wE sh n K u.2 t) (wA n K) a) (wA n K)) (hS : va_S (wA n K) H0 H locs)
    (kk : ∀ (r : Nat) (M1 : Mem) (H1 : Heap) (locs1 : List Loc), r < 6 → P r M1 → wP sh n K M1 H1 → va_S (wA n K) H0 H1 locs1 → W p l e R s m args below meth c H1 locs1 cells slots Q (F0 m (pc + 3) ls (.ref (kS K r) :: rest))) : W p l e R s m args below meth c H locs cells slots Q (F0 m pc ls st0) :=
  va_callr hr hS (fun _ _ h => h) (fun _ h => h) (fun u ra t H1 locs1 ht _ hp hB _ _ hS1 => by
    obtain ⟨e1, hB⟩ := hB
    subst e1
    exact kk u.1 u.2 H1 locs1 hp.2 hp.1 (by rw [← ht]; exact hB) hS1)
end WR
theorem ne_toInt {x k : Int32} (h : ¬ x = k) : x.toInt ≠ k.toInt := fun e => h (Int32.toInt_inj.mp e)
/-! the shape of the class's cells, from its object on -/
abbrev lcell (K : wC) (o : Nat) (f : Nat → Int32) : va_E := .inr (0, [.ref (kb K + (o + 1)), .ref (kb K + (o + 2)), .int (f 2), .ref (kb K + (o + 3)), .ref (kb K + (o + 4)), .ref (kb K + (o + 5)), .int (f 6), .int (f 7), .int (f 8), .int (f 9)])
abbrev scell (K : wC) (o : Nat) (f : Nat → Int32) : va_E := .inr (1, [.ref (kb K + (o + 1)), .int (f 1), .int (f 2)])
abbrev icell (K : wC) (N : Nat) (f : Nat → Int32) : va_E := .inl (kc K 0, N, .inl f)
def shX : wS := fun K k f => match k with
  | 0 => .inr (5, [.ref (kb K + 1), .ref (kb K + 7), .ref (kb K + 13), .ref (kb K + 14), .ref (kb K + 15), .ref (kb K + 24), .ref (kb K + 28), .ref (kb K + 29), .ref (kb K + 30), .int (f 9), .int (f 10)])
  | 1 => lcell K 1 f
  | 2 => icell K 10 f
  | 3 => icell K 10 f
  | 4 => icell K 4 f
  | 5 => icell K 4 f
  | 6 => icell K 4 f
  | 7 => lcell K 7 f
  | 8 => icell K 10 f
  | 9 => icell K 10 f
  | 10 => icell K 4 f
  | 11 => icell K 4 f
  | 12 => icell K 4 f
  | 13 => .inl (kc K 3, 2, .inr (.inr (.inr (.inr (fun i => some (kb K + (31 + 6 * i)))))))
  | 14 => .inl (kc K 2, 2, .inl f)
  | 15 => .inr (4, [.ref (kb K + 16), .ref (kb K + 18), .int (f 2), .int (f 3), .int (f 4), .int (f 5)])
  | 16 => .inr (3, [.ref (kb K + 17), .int (f 1), .int (f 2), .int (f 3), .int (f 4)])
  | 17 => .inl (kc K 1, 160, .inl f)
  | 18 => lcell K 18 f
  | 19 => icell K 10 f
  | 20 => icell K 10 f
  | 21 => icell K 4 f
  | 22 => icell K 4 f
  | 23 => icell K 4 f
  | 24 => .inr (2, [.ref (kb K + 25), .ref (kb K + 26), .ref (kb K + 27), .int (f 3)])
  | 25 => icell K 6 f
  | 26 => icell K 6 f
  | 27 => icell K 6 f
  | 28 => .inl (kc K 4, 4, .inr (.inr (.inr (.inr (fun i => some (kb K + (43 + 2 * i)))))))
  | 29 => icell K 8 f
  | 30 => icell K 10 f
  | 31 => lcell K 31 f
  | 32 => icell K 10 f
  | 33 => icell K 10 f
  | 34 => icell K 4 f
  | 35 => icell K 4 f
  | 36 => icell K 4 f
  | 37 => lcell K 37 f
  | 38 => icell K 10 f
  | 39 => icell K 10 f
  | 40 => icell K 4 f
  | 41 => icell K 4 f
  | 42 => icell K 4 f
  | 43 => scell K 43 f
  | 44 => icell K 40 f
  | 45 => scell K 45 f
  | 46 => icell K 40 f
  | 47 => scell K 47 f
  | 48 => icell K 40 f
  | 49 => scell K 49 f
  | _ => icell K 40 f
/-- the reference's cells -/
def shM : wS := fun K k f => match k with
  | 0 => .inr (6, [.ref (kb K + 1), .ref (kb K + 2), .int (f 2), .ref (kb K + 3), .int (f 4), .int (f 5), .int (f 6), .int (f 7), .int (f 8), .int (f 9), .int (f 10), .int (f 11), .ref (kb K + 4), .ref (kb K + 5), .int (f 14), .int (f 15), .int (f 16), .int (f 17), .ref (kb K + 6), .int (f 19), .ref (kb K + 7), .ref (kb K + 8), .ref (kb K + 9), .ref (kb K + 10), .ref (kb K + 11), .int (f 25)])
  | 1 => icell K 222 f
  | 2 => icell K 37 f
  | 3 => icell K 160 f
  | 4 => icell K 7 f
  | 5 => icell K 26 f
  | 6 => icell K 18 f
  | 7 => icell K 410 f
  | 8 => .inl (kc K 2, 2, .inl f)
  | 9 => icell K 4 f
  | 10 => icell K 4 f
  | _ => icell K 160 f
theorem sX_0 (K : wC) (f : Nat → Int32) : shX K 0 f = .inr (5, [.ref (kb K + 1), .ref (kb K + 7), .ref (kb K + 13), .ref (kb K + 14), .ref (kb K + 15), .ref (kb K + 24), .ref (kb K + 28), .ref (kb K + 29), .ref (kb K + 30), .int (f 9), .int (f 10)]) := rfl
theorem sX_1 (K : wC) (f : Nat → Int32) : shX K 1 f = .inr (0, [.ref (kb K + 2), .ref (kb K + 3), .int (f 2), .ref (kb K + 4), .ref (kb K + 5), .ref (kb K + 6), .int (f 6), .int (f 7), .int (f 8), .int (f 9)]) := rfl
theorem sX_2 (K : wC) (f : Nat → Int32) : shX K 2 f = icell K 10 f := rfl
theorem sX_3 (K : wC) (f : Nat → Int32) : shX K 3 f = icell K 10 f := rfl
theorem sX_4 (K : wC) (f : Nat → Int32) : shX K 4 f = icell K 4 f := rfl
theorem sX_5 (K : wC) (f : Nat → Int32) : shX K 5 f = icell K 4 f := rfl
theorem sX_6 (K : wC) (f : Nat → Int32) : shX K 6 f = icell K 4 f := rfl
theorem sX_7 (K : wC) (f : Nat → Int32) : shX K 7 f = .inr (0, [.ref (kb K + 8), .ref (kb K + 9), .int (f 2), .ref (kb K + 10), .ref (kb K + 11), .ref (kb K + 12), .int (f 6), .int (f 7), .int (f 8), .int (f 9)]) := rfl
theorem sX_8 (K : wC) (f : Nat → Int32) : shX K 8 f = icell K 10 f := rfl
theorem sX_9 (K : wC) (f : Nat → Int32) : shX K 9 f = icell K 10 f := rfl
theorem sX_10 (K : wC) (f : Nat → Int32) : shX K 10 f = icell K 4 f := rfl
theorem sX_11 (K : wC) (f : Nat → Int32) : shX K 11 f = icell K 4 f := rfl
theorem sX_12 (K : wC) (f : Nat → Int32) : shX K 12 f = icell K 4 f := rfl
theorem sX_13 (K : wC) (f : Nat → Int32) : shX K 13 f = .inl (kc K 3, 2, .inr (.inr (.inr (.inr (fun i => some (kb K + (31 + 6 * i))))))) := rfl
theorem sX_14 (K : wC) (f : Nat → Int32) : shX K 14 f = .inl (kc K 2, 2, .inl f) := rfl
theorem sX_15 (K : wC) (f : Nat → Int32) : shX K 15 f = .inr (4, [.ref (kb K + 16), .ref (kb K + 18), .int (f 2), .int (f 3), .int (f 4), .int (f 5)]) := rfl
theorem sX_16 (K : wC) (f : Nat → Int32) : shX K 16 f = .inr (3, [.ref (kb K + 17), .int (f 1), .int (f 2), .int (f 3), .int (f 4)]) := rfl
theorem sX_17 (K : wC) (f : Nat → Int32) : shX K 17 f = .inl (kc K 1, 160, .inl f) := rfl
theorem sX_18 (K : wC) (f : Nat → Int32) : shX K 18 f = .inr (0, [.ref (kb K + 19), .ref (kb K + 20), .int (f 2), .ref (kb K + 21), .ref (kb K + 22), .ref (kb K + 23), .int (f 6), .int (f 7), .int (f 8), .int (f 9)]) := rfl
theorem sX_19 (K : wC) (f : Nat → Int32) : shX K 19 f = icell K 10 f := rfl
theorem sX_20 (K : wC) (f : Nat → Int32) : shX K 20 f = icell K 10 f := rfl
theorem sX_21 (K : wC) (f : Nat → Int32) : shX K 21 f = icell K 4 f := rfl
theorem sX_22 (K : wC) (f : Nat → Int32) : shX K 22 f = icell K 4 f := rfl
theorem sX_23 (K : wC) (f : Nat → Int32) : shX K 23 f = icell K 4 f := rfl
theorem sX_24 (K : wC) (f : Nat → Int32) : shX K 24 f = .inr (2, [.ref (kb K + 25), .ref (kb K + 26), .ref (kb K + 27), .int (f 3)]) := rfl
theorem sX_25 (K : wC) (f : Nat → Int32) : shX K 25 f = icell K 6 f := rfl
theorem sX_26 (K : wC) (f : Nat → Int32) : shX K 26 f = icell K 6 f := rfl
theorem sX_27 (K : wC) (f : Nat → Int32) : shX K 27 f = icell K 6 f := rfl
theorem sX_28 (K : wC) (f : Nat → Int32) : shX K 28 f = .inl (kc K 4, 4, .inr (.inr (.inr (.inr (fun i => some (kb K + (43 + 2 * i))))))) := rfl
theorem sX_29 (K : wC) (f : Nat → Int32) : shX K 29 f = icell K 8 f := rfl
theorem sX_30 (K : wC) (f : Nat → Int32) : shX K 30 f = icell K 10 f := rfl
theorem sX_31 (K : wC) (f : Nat → Int32) : shX K 31 f = .inr (0, [.ref (kb K + 32), .ref (kb K + 33), .int (f 2), .ref (kb K + 34), .ref (kb K + 35), .ref (kb K + 36), .int (f 6), .int (f 7), .int (f 8), .int (f 9)]) := rfl
theorem sX_32 (K : wC) (f : Nat → Int32) : shX K 32 f = icell K 10 f := rfl
theorem sX_33 (K : wC) (f : Nat → Int32) : shX K 33 f = icell K 10 f := rfl
theorem sX_34 (K : wC) (f : Nat → Int32) : shX K 34 f = icell K 4 f := rfl
theorem sX_35 (K : wC) (f : Nat → Int32) : shX K 35 f = icell K 4 f := rfl
theorem sX_36 (K : wC) (f : Nat → Int32) : shX K 36 f = icell K 4 f := rfl
theorem sX_37 (K : wC) (f : Nat → Int32) : shX K 37 f = .inr (0, [.ref (kb K + 38), .ref (kb K + 39), .int (f 2), .ref (kb K + 40), .ref (kb K + 41), .ref (kb K + 42), .int (f 6), .int (f 7), .int (f 8), .int (f 9)]) := rfl
theorem sX_38 (K : wC) (f : Nat → Int32) : shX K 38 f = icell K 10 f := rfl
theorem sX_39 (K : wC) (f : Nat → Int32) : shX K 39 f = icell K 10 f := rfl
theorem sX_40 (K : wC) (f : Nat → Int32) : shX K 40 f = icell K 4 f := rfl
theorem sX_41 (K : wC) (f : Nat → Int32) : shX K 41 f = icell K 4 f := rfl
theorem sX_42 (K : wC) (f : Nat → Int32) : shX K 42 f = icell K 4 f := rfl
theorem sX_43 (K : wC) (f : Nat → Int32) : shX K 43 f = .inr (1, [.ref (kb K + 44), .int (f 1), .int (f 2)]) := rfl
theorem sX_44 (K : wC) (f : Nat → Int32) : shX K 44 f = icell K 40 f := rfl
theorem sX_45 (K : wC) (f : Nat → Int32) : shX K 45 f = .inr (1, [.ref (kb K + 46), .int (f 1), .int (f 2)]) := rfl
theorem sX_46 (K : wC) (f : Nat → Int32) : shX K 46 f = icell K 40 f := rfl
theorem sX_47 (K : wC) (f : Nat → Int32) : shX K 47 f = .inr (1, [.ref (kb K + 48), .int (f 1), .int (f 2)]) := rfl
theorem sX_48 (K : wC) (f : Nat → Int32) : shX K 48 f = icell K 40 f := rfl
theorem sX_49 (K : wC) (f : Nat → Int32) : shX K 49 f = .inr (1, [.ref (kb K + 50), .int (f 1), .int (f 2)]) := rfl
theorem sX_50 (K : wC) (f : Nat → Int32) : shX K 50 f = icell K 40 f := rfl
theorem sM_0 (K : wC) (f : Nat → Int32) : shM K 0 f = .inr (6, [.ref (kb K + 1), .ref (kb K + 2), .int (f 2), .ref (kb K + 3), .int (f 4), .int (f 5), .int (f 6), .int (f 7), .int (f 8), .int (f 9), .int (f 10), .int (f 11), .ref (kb K + 4), .ref (kb K + 5), .int (f 14), .int (f 15), .int (f 16), .int (f 17), .ref (kb K + 6), .int (f 19), .ref (kb K + 7), .ref (kb K + 8), .ref (kb K + 9), .ref (kb K + 10), .ref (kb K + 11), .int (f 25)]) := rfl
theorem sM_1 (K : wC) (f : Nat → Int32) : shM K 1 f = icell K 222 f := rfl
theorem sM_2 (K : wC) (f : Nat → Int32) : shM K 2 f = icell K 37 f := rfl
theorem sM_3 (K : wC) (f : Nat → Int32) : shM K 3 f = icell K 160 f := rfl
theorem sM_4 (K : wC) (f : Nat → Int32) : shM K 4 f = icell K 7 f := rfl
theorem sM_5 (K : wC) (f : Nat → Int32) : shM K 5 f = icell K 26 f := rfl
theorem sM_6 (K : wC) (f : Nat → Int32) : shM K 6 f = icell K 18 f := rfl
theorem sM_7 (K : wC) (f : Nat → Int32) : shM K 7 f = icell K 410 f := rfl
theorem sM_8 (K : wC) (f : Nat → Int32) : shM K 8 f = .inl (kc K 2, 2, .inl f) := rfl
theorem sM_9 (K : wC) (f : Nat → Int32) : shM K 9 f = icell K 4 f := rfl
theorem sM_10 (K : wC) (f : Nat → Int32) : shM K 10 f = icell K 4 f := rfl
theorem sM_11 (K : wC) (f : Nat → Int32) : shM K 11 f = icell K 160 f := rfl
def isLay (o : Nat) : Prop := o + 5 < 51 ∧ ∀ (K : wC) (f : Nat → Int32), shX K o f = lcell K o f ∧ shX K (o + 1) f = icell K 10 f ∧ shX K (o + 2) f = icell K 10 f ∧ shX K (o + 3) f = icell K 4 f ∧ shX K (o + 4) f = icell K 4 f ∧ shX K (o + 5) f = icell K 4 f
def isSh (o : Nat) : Prop := o + 1 < 51 ∧ ∀ (K : wC) (f : Nat → Int32), shX K o f = scell K o f ∧ shX K (o + 1) f = icell K 40 f
theorem lay0 {o : Nat} (h : isLay o) (K : wC) (f : Nat → Int32) : shX K o f = lcell K o f := (h.2 K f).1
theorem lay1 {o : Nat} (h : isLay o) (K : wC) (f : Nat → Int32) : shX K (o + 1) f = icell K 10 f := (h.2 K f).2.1
theorem lay2 {o : Nat} (h : isLay o) (K : wC) (f : Nat → Int32) : shX K (o + 2) f = icell K 10 f := (h.2 K f).2.2.1
theorem lay3 {o : Nat} (h : isLay o) (K : wC) (f : Nat → Int32) : shX K (o + 3) f = icell K 4 f := (h.2 K f).2.2.2.1
theorem lay4 {o : Nat} (h : isLay o) (K : wC) (f : Nat → Int32) : shX K (o + 4) f = icell K 4 f := (h.2 K f).2.2.2.2.1
theorem lay5 {o : Nat} (h : isLay o) (K : wC) (f : Nat → Int32) : shX K (o + 5) f = icell K 4 f := (h.2 K f).2.2.2.2.2
theorem layb {o : Nat} (h : isLay o) (i : Nat) (hi : i < 6) : o + i < 51 := by have h1 := h.1; omega
theorem layb0 {o : Nat} (h : isLay o) : o < 51 := by have h1 := h.1; omega
theorem sh0 {o : Nat} (h : isSh o) (K : wC) (f : Nat → Int32) : shX K o f = scell K o f := (h.2 K f).1
theorem sh1 {o : Nat} (h : isSh o) (K : wC) (f : Nat → Int32) : shX K (o + 1) f = icell K 40 f := (h.2 K f).2
theorem shb {o : Nat} (h : isSh o) (i : Nat) (hi : i < 2) : o + i < 51 := by have h1 := h.1; omega
theorem shb0 {o : Nat} (h : isSh o) : o < 51 := by have h1 := h.1; omega
theorem lay_1 : isLay 1 := ⟨by decide, fun _ _ => ⟨rfl, rfl, rfl, rfl, rfl, rfl⟩⟩
theorem lay_7 : isLay 7 := ⟨by decide, fun _ _ => ⟨rfl, rfl, rfl, rfl, rfl, rfl⟩⟩
theorem lay_18 : isLay 18 := ⟨by decide, fun _ _ => ⟨rfl, rfl, rfl, rfl, rfl, rfl⟩⟩
theorem lay_31 : isLay 31 := ⟨by decide, fun _ _ => ⟨rfl, rfl, rfl, rfl, rfl, rfl⟩⟩
theorem lay_37 : isLay 37 := ⟨by decide, fun _ _ => ⟨rfl, rfl, rfl, rfl, rfl, rfl⟩⟩
theorem sh_43 : isSh 43 := ⟨by decide, fun _ _ => ⟨rfl, rfl⟩⟩
theorem sh_45 : isSh 45 := ⟨by decide, fun _ _ => ⟨rfl, rfl⟩⟩
theorem sh_47 : isSh 47 := ⟨by decide, fun _ _ => ⟨rfl, rfl⟩⟩
theorem sh_49 : isSh 49 := ⟨by decide, fun _ _ => ⟨rfl, rfl⟩⟩
theorem lay_im {i : Nat} (h : i < 2) : isLay (31 + 6 * i) := by
  rcases (by omega : i = 0 ∨ i = 1) with rfl | rfl
  · exact lay_31
  · exact lay_37
theorem sh_sh {i : Nat} (h : i < 4) : isSh (43 + 2 * i) := by
  rcases (by omega : i = 0 ∨ i = 1 ∨ i = 2 ∨ i = 3) with rfl | rfl | rfl | rfl
  · exact sh_43
  · exact sh_45
  · exact sh_47
  · exact sh_49
