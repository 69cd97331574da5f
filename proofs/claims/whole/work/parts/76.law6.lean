/-! the law, from its entry -/
set_option maxRecDepth 20000 in
theorem lf_12 : ∀ w ∈ [Cond.classLink RL 7 RX5, .classLink RL 10 RX6, .instantiable RX5 11, .instantiable RX6 26, .initialized RX5, .initialized RX6, .methodLink RL 9 yX5_init, .methodLink RL 12 yX6_init, .instanceMethod yX5_init, .instanceMethod yX6_init], w ∈ lw_tbl := by decide +kernel
theorem nst.call {U : State} {g : JFrame} {mk : MethodId} {a : Array Value} (h : nst U) : nst (U.calling g mk a) := by
  obtain ⟨h1, h2, h3, h4, h5, h6, h7, h8⟩ := h
  exact ⟨va_Nw.same (U := U.calling g mk a) rfl rfl h1, va_Nw.same (U := U.calling g mk a) rfl rfl h2, va_Nw.same (U := U.calling g mk a) rfl rfl h3, va_Nw.same (U := U.calling g mk a) rfl rfl h4, va_Nw.same (U := U.calling g mk a) rfl rfl h5, va_Nw.same (U := U.calling g mk a) rfl rfl h6, va_AO.moved (u := U) (U := U.calling g mk a) (Vm.Alike.refl U.vm) h7, va_AO.moved (u := U) (U := U.calling g mk a) (Vm.Alike.refl U.vm) h8⟩
theorem nst.warm {s U : State} (hW : s.WarmedH U.vm) (h : nst s) : nst U := by
  obtain ⟨h1, h2, h3, h4, h5, h6, h7, h8⟩ := h
  exact ⟨va_Nw.warmM hW h1, va_Nw.warmM hW h2, va_Nw.warmM hW h3, va_Nw.warmM hW h4, va_Nw.warmM hW h5, va_Nw.warmM hW h6, va_AO.moved hW.alike h7, va_AO.moved hW.alike h8⟩
abbrev fs5 : List Value := [.null, .null, .null, .null, .null, .null, .null, .null, .null, .int 0, .int 0]
abbrev fs6 : List Value := [.null, .null, .int 0, .null, .int 0, .int 0, .int 0, .int 0, .int 0, .int 0, .int 0, .int 0, .null, .null, .int 0, .int 0, .int 0, .int 0, .null, .int 0, .null, .null, .null, .null, .null, .int 0]
theorem p_one {D : va_G} {cl : List vw_C} {ws : va_W} {x : Nat × va_E} {H : Heap} (h : va_P D cl (ws ++ [x]) H) : va_P D cl [x] H := fun i q hi => by
  have hi0 : i < 1 := (List.getElem?_eq_some_iff.mp hi).1
  have e0 : i = 0 := by omega
  subst e0
  cases hi
  exact h ws.length x (by simp)
theorem p_left {D : va_G} {cl : List vw_C} {ws : va_W} {x : Nat × va_E} {H : Heap} (h : va_P D cl (ws ++ [x]) H) : va_P D cl ws H := fun i q hi => h i q (by rw [List.getElem?_append_left (List.getElem?_eq_some_iff.mp hi).1]; exact hi)
set_option maxHeartbeats 4000000 in
set_option maxRecDepth 100000 in
theorem whole_start {p : Program} {e : Env} {s : State} {m : MethodId} {below : List Frame} {meth : Method} {c : Code} (l : Launch) (hflags : l.flags = flags0) {b L : Nat} {xs : Nat → Int32} (hL : L ≤ 3072) (C0 : lw_At p s m meth c b L xs) : W p l e room_1 s m #[Value.ref b] below meth c s.heap [] 0 0 (lw_Z below #[Value.ref b] s) (entryFrame m ([Value.ref b] : List Value).toArray 4) := by
  obtain ⟨hx, hb, hr, hml, hown0, hts0, hX, hbl, hlocks, hgv⟩ := id C0
  have hown : s.vm.findClass RL = some m.cls := hown0
  have hts : ∀ w ∈ wsL_law, w.before #[Value.ref b] s = true := fun w h => hts0 w (wsL_law_in w h)
  have t3 := fun (w : Cond) h => hts0 w (lf_12 w h)
  obtain ⟨K, hkb, hG, hns⟩ := l_start hts0 hgv
  have S : CallFix p m c cL_law 4 s #[Value.ref b] wsL_law RL := ⟨hx, hb, hml, hown, hts⟩
  have hA : ∀ q : Nat, s.heap.size ≤ q → aL s q := fun _ h => h
  have hS : va_S (aL s) s.heap s.heap [] := va_S.rf
  have hP : va_P (kD K) vwCl [] s.heap := fun k q h => by simp at h
  have hD : va_D (aL s) [] := ⟨fun i j p q h => by simp at h, fun k q h => by simp at h⟩
  have hl := lv_entry ([.ref b]) (n := 4) (Nat.le_of_ble_eq_true rfl)
  rw [lg_entry_eq]
  generalize (lg_sl ([.ref b]) ++ List.replicate (4 - (lg_sl ([.ref b])).length) Slot.unset).toArray = ls at hl ⊢
  have hl : lv_has ls 4 [(0, .ref b)] := hl
  refine va_new (ci := 5) (fs := fs5) (C := RX5) (T := TX5) (N := 11) hx hb hts0 wf_50 tyX5 tyX5_ok hown (t3 (.classLink RL 7 RX5) (List.mem_of_getElem? (i := 0) rfl)) (t3 (.instantiable RX5 11) (List.mem_of_getElem? (i := 2) rfl)) (t3 (.initialized RX5) (List.mem_of_getElem? (i := 4) rfl)) hG.1 hP hD hS hA rfl (by decide) (Nat.le_of_ble_eq_true rfl) (Nat.le_of_ble_eq_true rfl) dL_law_0 (fun q H hP hD hS => w_bd (fun hz => ?_))
  have hq1 : q < H.size := (hP 0 _ rfl).lt
  have hq2 : s.heap.size ≤ q := hD.2 0 _ rfl
  have eq1 : q = kb K := by omega
  subst eq1
  have hz1 : H.size = kb K + 1 := by omega
  refine W.widen (k := 1) (n := 11) (Nat.le_of_ble_eq_true rfl) (Nat.le_of_ble_eq_true rfl) ?_
  refine lv_dup hx hb dL_law_3 rfl ?_
  refine va_callv (va_runI (As := []) (rest := [.ref (kb K)]) S (k_X5 l K (kb K) (kb K + 1)) (cwI 0 hts gL_law_X5_init rfl rfl rfl (t3 (.initialized RX5) (List.mem_of_getElem? (i := 4) rfl)) (t3 (.methodLink RL 9 yX5_init) (List.mem_of_getElem? (i := 6) rfl)) (t3 (.instanceMethod yX5_init) (List.mem_of_getElem? (i := 8) rfl)) rfl (by decide +kernel) ⟨Nat.le_of_ble_eq_true rfl, Nat.le_of_ble_eq_true rfl⟩) ⟨fun a U g mk q => by obtain ⟨q0, q1, qP, qK, qN⟩ := q; exact ⟨q0, q1, qP, va_K.moved (u := U) (U := U.calling g mk a) (Vm.Alike.refl U.vm) qK, qN.call⟩, fun U hU hW => ⟨rfl, by rw [hU]; exact hz1, by rw [hU]; exact hP, va_K.moved hW.alike hG.1, hns.warm hW⟩⟩ rfl rfl hl.1 rfl (lv_room (Nat.le_of_ble_eq_true rfl)) dL_law_4 ⟨Nat.le_of_ble_eq_true rfl, Nat.le_of_ble_eq_true rfl⟩) hS (fun q _ h => ?_) (fun q h => ?_) (fun u t H1 locs ht hvm hw hB hz2 hk1 hS => ?_)
  · show s.heap.size ≤ q
    rcases h with h | h <;> omega
  · show s.heap.size ≤ q
    rcases h with h | h <;> omega
  rw [ht] at hB
  have hW5 : wP shX 51 K M0 H1 := wX_0 hB
  generalize H1 = H at hW5 hS ⊢
  refine W.widen (k := 51) (n := 612) (Nat.le_of_ble_eq_true rfl) (Nat.le_of_ble_eq_true rfl) ?_
  refine lv_astore_n (lv' := [(1, .ref (kb K + 0)), (0, .ref b)]) hx hb dL_law_7 rfl hl (by decide) rfl (fun ls hl => ?_)
  have hD5 : va_D (aL s) (wl shX 51 K M0) := wl_D.weaken (fun k q hk h => by
    have h1 := h.1
    show s.heap.size ≤ q.1
    omega)
  refine va_new (ci := 6) (fs := fs6) (C := RX6) (T := TX6) (N := 26) hx hb hts0 wf_60 tyX6 tyX6_ok hown (t3 (.classLink RL 10 RX6) (List.mem_of_getElem? (i := 1) rfl)) (t3 (.instantiable RX6 26) (List.mem_of_getElem? (i := 3) rfl)) (t3 (.initialized RX6) (List.mem_of_getElem? (i := 5) rfl)) hG.1 hW5 hD5 hS hA rfl (by decide) (Nat.le_of_ble_eq_true rfl) (Nat.le_of_ble_eq_true rfl) dL_law_8 (fun q H hP hD hS => w_bd (fun hz => ?_))
  have hat : (wl shX 51 K M0 ++ [(q, (.inr (6, fs6) : va_E))])[51]? = some (q, .inr (6, fs6)) := by
    rw [List.getElem?_append_right (by rw [wl_len]; exact Nat.le_refl _), wl_len]
    rfl
  have hq1 : q < H.size := (hP 51 _ hat).lt
  have hq2 : s.heap.size ≤ q := hD.2 51 _ hat
  have eq2 : q = kb K + 51 := by
    rcases Nat.lt_or_ge q (kb K + 51) with z | z
    · have hj : (wl shX 51 K M0 ++ [(q, (.inr (6, fs6) : va_E))])[q - kb K]? = some (kb K + (q - kb K), shX K (q - kb K) (M0 (q - kb K))) := by
        rw [List.getElem?_append_left (by rw [wl_len]; omega)]
        exact wl_get (by omega)
      have := hD.1 _ _ _ _ hat hj (by show q = kb K + (q - kb K); omega)
      omega
    · omega
  subst eq2
  have hz3 : H.size = kb K + 51 + 1 := by omega
  have hPl : wP shX 51 K M0 H := p_left hP
  have hPo := p_one hP
  obtain ⟨K2, eK2⟩ : ∃ K2 : wC, K2 = (K.1, K.2.1, K.2.2.1, K.2.2.2.1, kb K + 51) := ⟨_, rfl⟩
  have hG2 : wG (aL s) K2 s := by rw [eK2]; exact hG
  have hb2 : kb K2 = kb K + 51 := by rw [eK2]
  have hPo2 : va_P (kD K2) vwCl [(kb K2, .inr (6, fs6))] H := by rw [eK2]; exact hPo
  rw [← hb2]
  rw [← hb2] at hz3
  refine W.widen (k := 52) (n := 638) (Nat.le_of_ble_eq_true rfl) (Nat.le_of_ble_eq_true rfl) ?_
  refine lv_dup hx hb dL_law_11 rfl ?_
  refine va_callv (va_runI (As := []) (rest := [.ref (kb K2)]) S (k_X6 l K2 (kb K2) (kb K2 + 1)) (cwI 0 hts gL_law_X6_init rfl rfl rfl (t3 (.initialized RX6) (List.mem_of_getElem? (i := 5) rfl)) (t3 (.methodLink RL 12 yX6_init) (List.mem_of_getElem? (i := 7) rfl)) (t3 (.instanceMethod yX6_init) (List.mem_of_getElem? (i := 9) rfl)) rfl (by decide +kernel) ⟨Nat.le_of_ble_eq_true rfl, Nat.le_of_ble_eq_true rfl⟩) ⟨fun a U g mk q => by obtain ⟨q0, q1, qP, qK⟩ := q; exact ⟨q0, q1, qP, va_K.moved (u := U) (U := U.calling g mk a) (Vm.Alike.refl U.vm) qK⟩, fun U hU hW => ⟨rfl, by rw [hU]; exact hz3, by rw [hU]; exact hPo2, va_K.moved hW.alike hG2.1⟩⟩ rfl rfl hl.1 rfl (lv_room (Nat.le_of_ble_eq_true rfl)) dL_law_12 ⟨Nat.le_of_ble_eq_true rfl, Nat.le_of_ble_eq_true rfl⟩) hS (fun q _ h => ?_) (fun q h => ?_) (fun u t H1 locs ht hvm hw hB hz2 hk1 hS => ?_)
  · show s.heap.size ≤ q
    rcases h with h | h <;> omega
  · show s.heap.size ≤ q
    rcases h with h | h <;> omega
  rw [ht] at hB
  have hW6 : wP shM 12 K2 N0 H1 := wM_0 hB
  have hW5 : wP shX 51 K M0 H1 := fun i q hi => by
    have hv := hPl i q hi
    have hw2 := wl_of hi
    refine hv.kept (hk1 q.1 hv.lt (fun z => ?_))
    rcases z with z | z <;> omega
  refine W.widen (k := 63) (n := 1688) (Nat.le_of_ble_eq_true rfl) (Nat.le_of_ble_eq_true rfl) ?_
  refine lv_astore_n (lv' := [(2, .ref (kb K2 + 0)), (1, .ref (kb K + 0)), (0, .ref b)]) hx hb dL_law_15 rfl hl (by decide) rfl (fun ls hl => ?_)
  refine lv_iconst (v := nI 0) hx hb dL_law_16 (by decide) ?_
  refine lv_istore_n (lv' := [(3, .int (nI 0)), (2, .ref (kb K2 + 0)), (1, .ref (kb K + 0)), (0, .ref b)]) hx hb dL_law_17 rfl hl (by decide) rfl (fun ls hl => ?_)
  exact law_loop ⟨S, hX, hbl, hG, hG2, hkb, by omega, hL⟩ hr hlocks (L + 1) 0 (by omega) (Nat.zero_le L) M0 N0 H1 _ ls hl RR_0 hW5 hW6 hS
-- ===== YOUR PART ENDS =====
set_option maxHeartbeats 4000000 in
theorem lw_walk (l : Launch) (hflags : l.flags = flags0) (b : Addr) (xs : List Int32) : MetFree l x (headSpec (Jvm.Cond.code x code maxLocals ret :: tables_1) room_1) (lw_P b xs) (fun _ _ _ _ _ => True) lw_Q := by
  refine MetFree.of_bodyS (code := code) (maxLocals := maxLocals) (ret := ret) (by decide) ?_ ?_
  · intro args s m h hn
    obtain ⟨meth, c, h1, h2, h3, h4, h5, h6, -, -⟩ := Cond.code_spec hn (atoms_spec (ws := Jvm.Cond.code x code maxLocals ret :: tables_1) h _ List.mem_cons_self)
    exact ⟨meth, c, h1, h2, h3, h4, h5, h6⟩
  · intro p e s m args below meth c s₁ B hml0 hP _
    obtain ⟨rfl, hx, hbd, hgv⟩ := hP
    obtain ⟨scr, harrAt, hlist, hof, hsmall⟩ := hx
    obtain ⟨hcb, hkn, -, -⟩ := State.arrayAt?_spec harrAt
    have hown : s.vm.findClass R_law = some m.cls := findClass_of_methodNamed B.named
    have hts0 : ∀ c ∈ (Jvm.Cond.code x code maxLocals ret :: tables_1), c.before #[Value.ref b] s = true := atoms_spec (ws := Jvm.Cond.code x code maxLocals ret :: tables_1) B.pre
    have hts : ∀ w ∈ lw_tbl, w.before #[Value.ref b] s = true := k2_hts_sels lw_privs (fun w hw => hts0 w (List.mem_cons_of_mem _ hw)) lw_privs_ok
    have hml : c.maxLocals = 4 := B.maxLocals_eq (hts0 _ List.mem_cons_self)
    have X₀ : Stand p l e room_1 s m #[Value.ref b] below meth c s₁ [] 0 0 := Stand.of_body B
    have hh0 : s₁.heap = s.heap := by rw [B.state]; rfl
    have hsz : scr.slots.size = xs.length := by rw [← Array.length_toList, hlist, List.length_map]
    have hval : ∀ j : Nat, j < xs.length → scr.slots[j]? = some (.int (xs.getD j 0)) := fun j hj => by
      rw [← Array.getElem?_toList, hlist]
      simp [hj]
    have hbl : b < s.heap.size := (Array.getElem?_eq_some_iff.mp hcb).1
    have hX : va_X b xs.length (fun j => xs.getD j 0) s s.heap := ⟨scr, hcb, hof, hkn, hsz, hval⟩
    have K : W p l e room_1 s m #[Value.ref b] below meth c s₁.heap [] 0 0 (lw_Z below #[Value.ref b] s) (entryFrame m ([Value.ref b] : List Value).toArray 4) := by
      rw [hh0]
      exact whole_start l hflags hbd ⟨B.exec, B.bytes, B.returns, hml, hown, hts, hX, hbl, B.notSynchronized, hgv⟩
    obtain ⟨t, a1, o, b1, b2, b3⟩ := K s₁ rfl X₀
    exact ⟨t, o, a1, b1, b2, b3⟩
theorem lw_pre_spec {args : Array Value} {s : State} (h : (Jvm.Cond.and given_1 narrow_1).before args s = true) (hr : rest_1_c.before args s = true) : ∃ (b : Addr) (xs : List Int32), lw_P b xs args s := by
  have hs := flat_of_before _ h
  have hq := flat_of_before _ hr
  have hc : (Cond.count 1).before args s = true := hs _ (by decide +kernel)
  have harr : (Cond.arrayOf (.arg 0) .int).before args s = true := hs _ (by decide +kernel)
  have hle : (Cond.le (.length (.arg 0)) (.int 3072)).before args s = true := hs _ (by decide +kernel)
  have hlen : (Cond.isInt (.length (.arg 0))).before args s = true := hq _ (by decide +kernel)
  have hall : (Cond.all (.arg 0) (.isInt (.elem (.arg 0) (.index 0)))).before args s = true := hq _ (by decide +kernel)
  obtain ⟨b, xs, hb, hx⟩ := State.ints_of_pre rfl harr hlen hall
  have hsm : xs.length < 2 ^ 31 := hx.choose_spec.2.2.2
  have hev : (Term.length (.arg 0)).eval args s none [] s = some (.int xs.length.toInt32) := hx.length_eval hb
  have hv := Cond.le_ints hev (show (Term.int 3072).eval args s none [] s = some (.int 3072) from rfl)
  have hd : xs.length.toInt32 ≤ 3072 := by
    simpa [Cond.before, Cond.holds, hv] using hle
  have hN : xs.length ≤ 3072 := (Int32.ofNat_le_ofNat hsm (by decide)).mp (show Int32.ofNat xs.length ≤ Int32.ofNat 3072 from hd)
  exact ⟨b, xs, Cond.one_arg hc (show args[0]? = some (.ref b) from hb), hx, hN, h⟩
theorem lw_comes (l : Launch) (hflags : l.flags = flags0) : Comes l x (Jvm.Cond.code x code maxLocals ret :: tables_1) room_1 (fun tb e args s => Calls_1 tb e args s ∧ rest_1 tb e args s ∧ Pre_1 tb e args s)
    (fun _ _ args s o t => lw_Q args s o t) := by
  intro p e ha hc hk s m args below hf hfit hheap happ hpre
  obtain ⟨b, xs, hP⟩ := lw_pre_spec hpre.2.2 hpre.2.1
  obtain ⟨k, o, h1, h2, h3, hQ⟩ := lw_walk l hflags b xs p e ha hc hk s m args below hf ((Spec.applies_iff_loose hf).mp happ).1 hP trivial
  exact ⟨k, o, h1, h2, h3, hQ⟩
theorem lw_frame {s t : State} {o : Outcome} {args : Array Value} (h : Framed s o t [] 600000 7302250) :
    Framed s o t (fieldLocs frame_1_writes args s ++ arrayLocs frame_1_arrays args s ++ staticLocs frame_1_statics s) 600000 7302250 := h
theorem lw_limb (L : Cond) (hL : ∀ (args : Array Value) (s t : State), L.after args s (.returned (some (.int 1))) t = true) :
    ArmFor flags0 classFile x code maxLocals ret World_1 tables_1 room_1 Calls_1 rest_1 Pre_1
      (fun tb e a s o t => postC L tb e a s o t ∧ Framed s o t (fieldLocs frame_1_writes a s ++ arrayLocs frame_1_arrays a s ++ staticLocs frame_1_statics s) 600000 7302250) := by
  intro l hflags _ _ p e ha hc hk s m args below hf hfit hheap happ hpre
  obtain ⟨k, o, h1, h2, h3, rfl, hF⟩ := lw_comes l hflags p e ha hc hk s m args below hf hfit hheap happ hpre
  exact ⟨k, _, h1, h2, h3, hL args s _, lw_frame hF⟩
theorem i_vc : Claimed_1_1 ∧ Claimed_1_2 := ⟨lw_limb limb_1_1 (fun args s t => by simp [limb_1_1, Cond.after, Cond.holds, Cond.value]), lw_limb limb_1_2 (fun args s t => Cond.after_iff.mpr (by
  first | (rw [show limb_1_2 = Cond.eq .result (.int 1) from rfl, Cond.eq_ints (x := 1) (y := 1) rfl rfl]; simp; done) | (simp [limb_1_2, Cond.value, Term.eval]; done)))⟩
