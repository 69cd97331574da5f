/-! TextReader -/
def woX4 (K : wC) (h0 sz : Nat) : va_W := [(h0, .inr (4, [.ref (sz + 0), .ref (sz + 2), .int 0, .int 0, .int 0, .int 0])), (sz + 0, .inr (3, [.ref (sz + 1), .int 0, .int 0, .int 0, .int 0])), (sz + 1, zB K 160), (sz + 2, .inr (0, [.ref (sz + 3), .ref (sz + 4), .int 0, .ref (sz + 5), .ref (sz + 6), .ref (sz + 7), .int 0, .int 0, .int 0, .int 0])), (sz + 3, zI K 10), (sz + 4, zI K 10), (sz + 5, zI K 4), (sz + 6, zI K 4), (sz + 7, zI K 4)]
theorem h4_3 : ∀ w ∈ wsX30, w ∈ wsX4_init := fun w h => List.mem_cons_of_mem _ (List.mem_append_left _ (List.mem_append_left _ (List.mem_append_right _ h)))
theorem h4_4 : ∀ w ∈ wsX40, w ∈ wsX4_init := fun w h => List.mem_cons_of_mem _ (List.mem_append_left _ (List.mem_append_right _ h))
theorem h4_0 : ∀ w ∈ wsX00, w ∈ wsX4_init := fun w h => List.mem_cons_of_mem _ (List.mem_append_right _ h)
set_option maxHeartbeats 4000000 in
set_option maxRecDepth 100000 in
theorem k_X4 (l : Launch) (K : wC) (h0 sz : Nat) : Met l yX4_init wsX4_init ({ frames := 2, cells := 8, slots := 207, locals := 32 }) (va_Pc [.ref h0] (fun U => U.heap.size = sz ∧ va_P (kD K) vwCl [(h0, .inr (4, [.null, .null, .int 0, .int 0, .int 0, .int 0]))] U.heap ∧ va_K (kD K) vwCl (tyl K) U ∧ va_Nw (.methodLinkNest RX4 11 yX3_init "WheelAreas") U ∧ va_Nw (.methodLinkNest RX4 20 yX0_init "WheelAreas") U)) (va_Qv (fun _ : Unit => True) (fun _ t => va_P (kD K) vwCl (woX4 K h0 sz) t.heap) (aF1 h0 sz)) 8 207 (aF1 h0 sz) := by
  refine Met.ofW (cc := cX4_init) (maxL := 1) (ret := none) (by decide) rfl ?_
  intro p e s m args below meth c s₁ B hml hv
  obtain ⟨rfl, hsz, hP, hK, hn1, hn2⟩ := hv
  have hx := B.exec
  have hb := B.bytes
  have hr := B.returns
  have hlocks := B.notSynchronized
  have hts := atoms_spec (ws := wsX4_init) B.pre
  have hown : s.vm.findClass RX4 = some m.cls := findClass_of_methodNamed B.named
  have hin : meth.name = "<init>" := (name_of_methodNamed B.named B.method).1
  subst hsz
  have hh : h0 < s.heap.size := (hP 0 _ rfl).lt
  have hS : va_S (aF1 h0 s.heap.size) s.heap s.heap [] := va_S.rf
  have hl := lv_entry ([.ref h0]) (n := 1) (Nat.le_of_ble_eq_true rfl)
  rw [lg_entry_eq]
  generalize (lg_sl ([.ref h0]) ++ List.replicate (1 - (lg_sl ([.ref h0])).length) Slot.unset).toArray = ls at hl ⊢
  have hl : lv_has ls 1 [(0, .ref h0)] := hl
  refine lv_aload_n hx hb dX4_init_0 rfl (lv_at hl 0 rfl) ?_
  refine W.objInit hx hb hown (hts (.methodLink RX4 3 objectInit) (List.mem_of_getElem? (i := 1) rfl)) (hts (.instanceMethod objectInit) (List.mem_of_getElem? (i := 2) rfl)) (hts _ (List.mem_of_getElem? (i := 3) rfl)) rfl (by rw [hml]; exact hl.1) rfl dX4_init_1 (Nat.le_of_ble_eq_true rfl) (Nat.le_of_ble_eq_true rfl) ?_
  refine W.eq (g2 := F0 m 4 ls []) rfl ?_
  refine lv_aload_n hx hb dX4_init_4 rfl (lv_at hl 0 rfl) ?_
  refine n_o (k := 0) (ci := 3) (ty := tyX3) (fs := [.null, .int 0, .int 0, .int 0, .int 0]) hx hb hts h4_3 tyX3_ok hown (List.mem_of_getElem? (i := 4) rfl) (List.mem_of_getElem? (i := 5) rfl) (List.mem_of_getElem? (i := 6) rfl) hK hP hS rfl hh rfl rfl (by decide) (Nat.le_of_ble_eq_true rfl) (Nat.le_of_ble_eq_true rfl) dX4_init_5 (fun H hP hS => ?_)
  refine lv_dup hx hb dX4_init_8 rfl ?_
  refine n_init (ws0 := [(h0, .inr (4, [.null, .null, .int 0, .int 0, .int 0, .int 0]))]) (a := s.heap.size + 0) (hs := s.heap.size + 1) ⟨hx, hb, hml, hown, hts⟩ (k_X3 l K (s.heap.size + 0) (s.heap.size + 1)) ⟨va_cnB 0 hts gX4_init_X3_init_n11 rfl rfl rfl hn1 (hts (.initialized RX3) (List.mem_of_getElem? (i := 6) rfl)) ⟨by decide +kernel, by decide +kernel, by decide +kernel⟩ ⟨Nat.le_of_ble_eq_true rfl, Nat.le_of_ble_eq_true rfl⟩, rfl, hts (.instanceMethod yX3_init) (List.mem_of_getElem? (i := 16) rfl)⟩ hK hP hS rfl hh rfl (Nat.le_refl 1) rfl hl.1 (Nat.le_of_ble_eq_true rfl) dX4_init_9 ⟨Nat.le_of_ble_eq_true rfl, Nat.le_of_ble_eq_true rfl⟩ (fun H locs hP hS => ?_)
  replace hP : va_P (kD K) vwCl [(h0, .inr (4, [.null, .null, .int 0, .int 0, .int 0, .int 0])), (s.heap.size + 0, .inr (3, [.ref (s.heap.size + 1), .int 0, .int 0, .int 0, .int 0])), (s.heap.size + 1, zB K 160)] H := hP
  refine va_putF hx hb hts h4_4 tyX4 tyX4_ok nmX4 hown hK hP (d_of (h0 := h0) (sz := s.heap.size) (k := 2) rfl hh) hS 0 rfl rfl 0 (by decide) (hts (.fieldLink RX4 12 "WheelAreas$TextReader" "tape" "LWheelAreas$Tape;") (List.mem_of_getElem? (i := 7) rfl)) (fun _ h => h) rfl hin rfl (tyX4_ok 0 (by decide)) rfl rfl (Nat.le_of_ble_eq_true rfl) dX4_init_12 (fun H locs hP hD hS => ?_)
  replace hP : va_P (kD K) vwCl [(h0, .inr (4, [.ref (s.heap.size + 0), .null, .int 0, .int 0, .int 0, .int 0])), (s.heap.size + 0, .inr (3, [.ref (s.heap.size + 1), .int 0, .int 0, .int 0, .int 0])), (s.heap.size + 1, zB K 160)] H := hP
  refine lv_aload_n hx hb dX4_init_15 rfl (lv_at hl 0 rfl) ?_
  refine n_o (k := 2) (ci := 0) (ty := tyX0) (fs := [.null, .null, .int 0, .null, .null, .null, .int 0, .int 0, .int 0, .int 0]) hx hb hts h4_0 tyX0_ok hown (List.mem_of_getElem? (i := 8) rfl) (List.mem_of_getElem? (i := 9) rfl) (List.mem_of_getElem? (i := 10) rfl) hK hP hS rfl hh rfl rfl (by decide) (Nat.le_of_ble_eq_true rfl) (Nat.le_of_ble_eq_true rfl) dX4_init_16 (fun H hP hS => ?_)
  refine lv_dup hx hb dX4_init_19 rfl ?_
  refine n_init (ws0 := [(h0, .inr (4, [.ref (s.heap.size + 0), .null, .int 0, .int 0, .int 0, .int 0])), (s.heap.size + 0, .inr (3, [.ref (s.heap.size + 1), .int 0, .int 0, .int 0, .int 0])), (s.heap.size + 1, zB K 160)]) (a := s.heap.size + 2) (hs := s.heap.size + 3) ⟨hx, hb, hml, hown, hts⟩ (k_X0 l K (s.heap.size + 2) (s.heap.size + 3)) ⟨va_cnB 0 hts gX4_init_X0_init_n20 rfl rfl rfl hn2 (hts (.initialized RX0) (List.mem_of_getElem? (i := 10) rfl)) ⟨by decide +kernel, by decide +kernel, by decide +kernel⟩ ⟨Nat.le_of_ble_eq_true rfl, Nat.le_of_ble_eq_true rfl⟩, rfl, hts (.instanceMethod yX0_init) (List.mem_of_getElem? (i := 25) rfl)⟩ hK hP hS rfl hh rfl (by decide) rfl hl.1 (Nat.le_of_ble_eq_true rfl) dX4_init_20 ⟨Nat.le_of_ble_eq_true rfl, Nat.le_of_ble_eq_true rfl⟩ (fun H locs hP hS => ?_)
  replace hP : va_P (kD K) vwCl [(h0, .inr (4, [.ref (s.heap.size + 0), .null, .int 0, .int 0, .int 0, .int 0])), (s.heap.size + 0, .inr (3, [.ref (s.heap.size + 1), .int 0, .int 0, .int 0, .int 0])), (s.heap.size + 1, zB K 160), (s.heap.size + 2, .inr (0, [.ref (s.heap.size + 3), .ref (s.heap.size + 4), .int 0, .ref (s.heap.size + 5), .ref (s.heap.size + 6), .ref (s.heap.size + 7), .int 0, .int 0, .int 0, .int 0])), (s.heap.size + 3, zI K 10), (s.heap.size + 4, zI K 10), (s.heap.size + 5, zI K 4), (s.heap.size + 6, zI K 4), (s.heap.size + 7, zI K 4)] H := hP
  refine va_putF hx hb hts h4_4 tyX4 tyX4_ok nmX4 hown hK hP (d_of (h0 := h0) (sz := s.heap.size) (k := 8) rfl hh) hS 0 rfl rfl 1 (by decide) (hts (.fieldLink RX4 21 "WheelAreas$TextReader" "told" "LWheelAreas$Layout;") (List.mem_of_getElem? (i := 11) rfl)) (fun _ h => h) rfl hin rfl (tyX4_ok 1 (by decide)) rfl rfl (Nat.le_of_ble_eq_true rfl) dX4_init_23 (fun H locs hP hD hS => ?_)
  refine lv_aload_n hx hb dX4_init_26 rfl (lv_at hl 0 rfl) ?_
  refine lv_iconst (v := 0) hx hb dX4_init_27 (by decide) ?_
  refine va_put hx hb hts h4_4 tyX4 tyX4_ok nmX4 hown hK hP hD hS 0 rfl rfl 2 (by decide) (hts (.fieldLink RX4 25 "WheelAreas$TextReader" "poleTold" "Z") (List.mem_of_getElem? (i := 12) rfl)) (fun _ h => h) rfl (tyX4_ok 2 (by decide)) (by decide) (by decide) (Nat.le_of_ble_eq_true rfl) dX4_init_28 (fun H locs hP hD hS => ?_)
  refine lv_aload_n hx hb dX4_init_31 rfl (lv_at hl 0 rfl) ?_
  refine lv_iconst (v := 0) hx hb dX4_init_32 (by decide) ?_
  refine va_put hx hb hts h4_4 tyX4 tyX4_ok nmX4 hown hK hP hD hS 0 rfl rfl 3 (by decide) (hts (.fieldLink RX4 29 "WheelAreas$TextReader" "lines" "I") (List.mem_of_getElem? (i := 13) rfl)) (fun _ h => h) rfl (tyX4_ok 3 (by decide)) rfl rfl (Nat.le_of_ble_eq_true rfl) dX4_init_33 (fun H locs hP hD hS => ?_)
  refine lv_aload_n hx hb dX4_init_36 rfl (lv_at hl 0 rfl) ?_
  refine lv_iconst (v := 0) hx hb dX4_init_37 (by decide) ?_
  refine va_put hx hb hts h4_4 tyX4 tyX4_ok nmX4 hown hK hP hD hS 0 rfl rfl 4 (by decide) (hts (.fieldLink RX4 33 "WheelAreas$TextReader" "found" "I") (List.mem_of_getElem? (i := 14) rfl)) (fun _ h => h) rfl (tyX4_ok 4 (by decide)) rfl rfl (Nat.le_of_ble_eq_true rfl) dX4_init_38 (fun H locs hP hD hS => ?_)
  refine lv_aload_n hx hb dX4_init_41 rfl (lv_at hl 0 rfl) ?_
  refine lv_iconst (v := 0) hx hb dX4_init_42 (by decide) ?_
  refine va_put hx hb hts h4_4 tyX4 tyX4_ok nmX4 hown hK hP hD hS 0 rfl rfl 5 (by decide) (hts (.fieldLink RX4 36 "WheelAreas$TextReader" "foundAt" "I") (List.mem_of_getElem? (i := 15) rfl)) (fun _ h => h) rfl (tyX4_ok 5 (by decide)) rfl rfl (Nat.le_of_ble_eq_true rfl) dX4_init_43 (fun H locs hP hD hS => ?_)
  have hP9 : va_P (kD K) vwCl (woX4 K h0 s.heap.size) H := hP
  exact W.vret hx hb hr (fun t ht hW => ⟨⟨(), rfl, trivial, by show va_P _ _ _ t.heap; rw [ht]; exact hP9⟩, hS.F ht⟩) hS.2.2 dX4_init_46 hlocks
