def woX0 (K : wC) (h0 sz : Nat) : va_W := [(h0, .inr (0, [.ref (sz + 0), .ref (sz + 1), .int (0), .ref (sz + 2), .ref (sz + 3), .ref (sz + 4), .int (0), .int (0), .int (0), .int (0)])), (sz + 0, zI K 10), (sz + 1, zI K 10), (sz + 2, zI K 4), (sz + 3, zI K 4), (sz + 4, zI K 4)]
set_option maxHeartbeats 4000000 in
set_option maxRecDepth 100000 in
theorem k_X0 (l : Launch) (K : wC) (h0 sz : Nat) : Met l yX0_init wsX0_init ({ frames := 1, cells := 5, slots := 32, locals := 12 }) (va_Pc [.ref h0] (fun U => U.heap.size = sz ∧ va_P (kD K) vwCl [(h0, .inr (0, [.null, .null, .int 0, .null, .null, .null, .int 0, .int 0, .int 0, .int 0]))] U.heap ∧ va_K (kD K) vwCl (tyl K) U)) (va_Qv (fun _ : Unit => True) (fun _ t => va_P (kD K) vwCl (woX0 K h0 sz) t.heap) (aF1 h0 sz)) 5 32 (aF1 h0 sz) := by
  refine Met.ofW (cc := cX0_init) (maxL := 1) (ret := none) (by decide) rfl ?_
  intro p e s m args below meth c s₁ B hml hv
  obtain ⟨rfl, hsz, hP, hK⟩ := hv
  have hx := B.exec
  have hb := B.bytes
  have hr := B.returns
  have hlocks := B.notSynchronized
  have hts := atoms_spec (ws := wsX0_init) B.pre
  have hown : s.vm.findClass RX0 = some m.cls := findClass_of_methodNamed B.named
  have hin : meth.name = "<init>" := (name_of_methodNamed B.named B.method).1
  subst hsz
  have hD : va_D (aF1 h0 s.heap.size) [(h0, .inr (0, [.null, .null, .int 0, .null, .null, .null, .int 0, .int 0, .int 0, .int 0]))] := d_one
  have hS : va_S (aF1 h0 s.heap.size) s.heap s.heap [] := va_S.rf
  have hl := lv_entry ([.ref h0]) (n := 1) (Nat.le_of_ble_eq_true rfl)
  rw [lg_entry_eq]
  generalize (lg_sl ([.ref h0]) ++ List.replicate (1 - (lg_sl ([.ref h0])).length) Slot.unset).toArray = ls at hl ⊢
  have hl : lv_has ls 1 [(0, .ref h0)] := hl
  refine lv_aload_n hx hb dX0_init_0 rfl (lv_at hl 0 rfl) ?_
  refine W.objInit hx hb hown (hts (.methodLink RX0 3 objectInit) (List.mem_cons_of_mem _ (List.mem_append_left _ (List.mem_of_getElem? (i := 0) rfl)))) (hts (.instanceMethod objectInit) (List.mem_cons_of_mem _ (List.mem_append_left _ (List.mem_of_getElem? (i := 1) rfl)))) (hts _ (List.mem_cons_of_mem _ (List.mem_append_left _ (List.mem_of_getElem? (i := 2) rfl)))) rfl (by rw [hml]; exact hl.1) rfl dX0_init_1 (Nat.le_of_ble_eq_true rfl) (Nat.le_of_ble_eq_true rfl) ?_
  refine W.eq (g2 := F0 m 4 ls []) rfl ?_
  refine lv_aload_n hx hb dX0_init_4 rfl (lv_at hl 0 rfl) ?_
  refine lv_bipush (v := (10)) hx hb dX0_init_5 (by decide) ?_
  refine n_i (k := 0) (N := 10) hx hb (hts (.arrayClass .int) (List.mem_cons_of_mem _ (List.mem_append_left _ (List.mem_of_getElem? (i := 3) rfl)))) hK hP hD hS rfl rfl (by decide) (by decide) (Nat.le_of_ble_eq_true rfl) (Nat.le_of_ble_eq_true rfl) (Nat.le_of_ble_eq_true rfl) dX0_init_7 (fun H hP hD hS => ?_)
  refine va_putF hx hb hts (fun w h => List.mem_cons_of_mem _ (List.mem_append_right _ h)) tyX0 tyX0_ok nmX0 hown hK hP hD hS 0 rfl rfl 0 (by decide) (hts (.fieldLink RX0 9 "WheelAreas$Layout" "cornerX" "[I") (List.mem_cons_of_mem _ (List.mem_append_left _ (List.mem_of_getElem? (i := 4) rfl)))) (fun _ h => h) rfl hin rfl (tyX0_ok 0 (by decide)) rfl rfl (Nat.le_of_ble_eq_true rfl) dX0_init_9 (fun H locs hP hD hS => ?_)
  refine lv_aload_n hx hb dX0_init_12 rfl (lv_at hl 0 rfl) ?_
  refine lv_bipush (v := (10)) hx hb dX0_init_13 (by decide) ?_
  refine n_i (k := 1) (N := 10) hx hb (hts (.arrayClass .int) (List.mem_cons_of_mem _ (List.mem_append_left _ (List.mem_of_getElem? (i := 3) rfl)))) hK hP hD hS rfl rfl (by decide) (by decide) (Nat.le_of_ble_eq_true rfl) (Nat.le_of_ble_eq_true rfl) (Nat.le_of_ble_eq_true rfl) dX0_init_15 (fun H hP hD hS => ?_)
  refine va_putF hx hb hts (fun w h => List.mem_cons_of_mem _ (List.mem_append_right _ h)) tyX0 tyX0_ok nmX0 hown hK hP hD hS 0 rfl rfl 1 (by decide) (hts (.fieldLink RX0 15 "WheelAreas$Layout" "cornerY" "[I") (List.mem_cons_of_mem _ (List.mem_append_left _ (List.mem_of_getElem? (i := 5) rfl)))) (fun _ h => h) rfl hin rfl (tyX0_ok 1 (by decide)) rfl rfl (Nat.le_of_ble_eq_true rfl) dX0_init_17 (fun H locs hP hD hS => ?_)
  refine lv_aload_n hx hb dX0_init_20 rfl (lv_at hl 0 rfl) ?_
  refine lv_iconst (v := (0)) hx hb dX0_init_21 (by decide) ?_
  refine va_put hx hb hts (fun w h => List.mem_cons_of_mem _ (List.mem_append_right _ h)) tyX0 tyX0_ok nmX0 hown hK hP hD hS 0 rfl rfl 2 (by decide) (hts (.fieldLink RX0 18 "WheelAreas$Layout" "corners" "I") (List.mem_cons_of_mem _ (List.mem_append_left _ (List.mem_of_getElem? (i := 6) rfl)))) (fun _ h => h) rfl (tyX0_ok 2 (by decide)) rfl rfl (Nat.le_of_ble_eq_true rfl) dX0_init_22 (fun H locs hP hD hS => ?_)
  refine lv_aload_n hx hb dX0_init_25 rfl (lv_at hl 0 rfl) ?_
  refine lv_iconst (v := (4)) hx hb dX0_init_26 (by decide) ?_
  refine n_i (k := 2) (N := 4) hx hb (hts (.arrayClass .int) (List.mem_cons_of_mem _ (List.mem_append_left _ (List.mem_of_getElem? (i := 3) rfl)))) hK hP hD hS rfl rfl (by decide) (by decide) (Nat.le_of_ble_eq_true rfl) (Nat.le_of_ble_eq_true rfl) (Nat.le_of_ble_eq_true rfl) dX0_init_27 (fun H hP hD hS => ?_)
  refine va_putF hx hb hts (fun w h => List.mem_cons_of_mem _ (List.mem_append_right _ h)) tyX0 tyX0_ok nmX0 hown hK hP hD hS 0 rfl rfl 3 (by decide) (hts (.fieldLink RX0 22 "WheelAreas$Layout" "wheelKind" "[I") (List.mem_cons_of_mem _ (List.mem_append_left _ (List.mem_of_getElem? (i := 7) rfl)))) (fun _ h => h) rfl hin rfl (tyX0_ok 3 (by decide)) rfl rfl (Nat.le_of_ble_eq_true rfl) dX0_init_29 (fun H locs hP hD hS => ?_)
  refine lv_aload_n hx hb dX0_init_32 rfl (lv_at hl 0 rfl) ?_
  refine lv_iconst (v := (4)) hx hb dX0_init_33 (by decide) ?_
  refine n_i (k := 3) (N := 4) hx hb (hts (.arrayClass .int) (List.mem_cons_of_mem _ (List.mem_append_left _ (List.mem_of_getElem? (i := 3) rfl)))) hK hP hD hS rfl rfl (by decide) (by decide) (Nat.le_of_ble_eq_true rfl) (Nat.le_of_ble_eq_true rfl) (Nat.le_of_ble_eq_true rfl) dX0_init_34 (fun H hP hD hS => ?_)
  refine va_putF hx hb hts (fun w h => List.mem_cons_of_mem _ (List.mem_append_right _ h)) tyX0 tyX0_ok nmX0 hown hK hP hD hS 0 rfl rfl 4 (by decide) (hts (.fieldLink RX0 25 "WheelAreas$Layout" "wheelStep" "[I") (List.mem_cons_of_mem _ (List.mem_append_left _ (List.mem_of_getElem? (i := 8) rfl)))) (fun _ h => h) rfl hin rfl (tyX0_ok 4 (by decide)) rfl rfl (Nat.le_of_ble_eq_true rfl) dX0_init_36 (fun H locs hP hD hS => ?_)
  refine lv_aload_n hx hb dX0_init_39 rfl (lv_at hl 0 rfl) ?_
  refine lv_iconst (v := (4)) hx hb dX0_init_40 (by decide) ?_
  refine n_i (k := 4) (N := 4) hx hb (hts (.arrayClass .int) (List.mem_cons_of_mem _ (List.mem_append_left _ (List.mem_of_getElem? (i := 3) rfl)))) hK hP hD hS rfl rfl (by decide) (by decide) (Nat.le_of_ble_eq_true rfl) (Nat.le_of_ble_eq_true rfl) (Nat.le_of_ble_eq_true rfl) dX0_init_41 (fun H hP hD hS => ?_)
  refine va_putF hx hb hts (fun w h => List.mem_cons_of_mem _ (List.mem_append_right _ h)) tyX0 tyX0_ok nmX0 hown hK hP hD hS 0 rfl rfl 5 (by decide) (hts (.fieldLink RX0 28 "WheelAreas$Layout" "wheelReads" "[I") (List.mem_cons_of_mem _ (List.mem_append_left _ (List.mem_of_getElem? (i := 9) rfl)))) (fun _ h => h) rfl hin rfl (tyX0_ok 5 (by decide)) rfl rfl (Nat.le_of_ble_eq_true rfl) dX0_init_43 (fun H locs hP hD hS => ?_)
  refine lv_aload_n hx hb dX0_init_46 rfl (lv_at hl 0 rfl) ?_
  refine lv_iconst (v := (0)) hx hb dX0_init_47 (by decide) ?_
  refine va_put hx hb hts (fun w h => List.mem_cons_of_mem _ (List.mem_append_right _ h)) tyX0 tyX0_ok nmX0 hown hK hP hD hS 0 rfl rfl 6 (by decide) (hts (.fieldLink RX0 31 "WheelAreas$Layout" "wheels" "I") (List.mem_cons_of_mem _ (List.mem_append_left _ (List.mem_of_getElem? (i := 10) rfl)))) (fun _ h => h) rfl (tyX0_ok 6 (by decide)) rfl rfl (Nat.le_of_ble_eq_true rfl) dX0_init_48 (fun H locs hP hD hS => ?_)
  refine lv_aload_n hx hb dX0_init_51 rfl (lv_at hl 0 rfl) ?_
  refine lv_iconst (v := (0)) hx hb dX0_init_52 (by decide) ?_
  refine va_put hx hb hts (fun w h => List.mem_cons_of_mem _ (List.mem_append_right _ h)) tyX0 tyX0_ok nmX0 hown hK hP hD hS 0 rfl rfl 7 (by decide) (hts (.fieldLink RX0 34 "WheelAreas$Layout" "poleX" "I") (List.mem_cons_of_mem _ (List.mem_append_left _ (List.mem_of_getElem? (i := 11) rfl)))) (fun _ h => h) rfl (tyX0_ok 7 (by decide)) rfl rfl (Nat.le_of_ble_eq_true rfl) dX0_init_53 (fun H locs hP hD hS => ?_)
  refine lv_aload_n hx hb dX0_init_56 rfl (lv_at hl 0 rfl) ?_
  refine lv_iconst (v := (0)) hx hb dX0_init_57 (by decide) ?_
  refine va_put hx hb hts (fun w h => List.mem_cons_of_mem _ (List.mem_append_right _ h)) tyX0 tyX0_ok nmX0 hown hK hP hD hS 0 rfl rfl 8 (by decide) (hts (.fieldLink RX0 37 "WheelAreas$Layout" "poleY" "I") (List.mem_cons_of_mem _ (List.mem_append_left _ (List.mem_of_getElem? (i := 12) rfl)))) (fun _ h => h) rfl (tyX0_ok 8 (by decide)) rfl rfl (Nat.le_of_ble_eq_true rfl) dX0_init_58 (fun H locs hP hD hS => ?_)
  refine lv_aload_n hx hb dX0_init_61 rfl (lv_at hl 0 rfl) ?_
  refine lv_iconst (v := (0)) hx hb dX0_init_62 (by decide) ?_
  refine va_put hx hb hts (fun w h => List.mem_cons_of_mem _ (List.mem_append_right _ h)) tyX0 tyX0_ok nmX0 hown hK hP hD hS 0 rfl rfl 9 (by decide) (hts (.fieldLink RX0 40 "WheelAreas$Layout" "traced" "I") (List.mem_cons_of_mem _ (List.mem_append_left _ (List.mem_of_getElem? (i := 13) rfl)))) (fun _ h => h) rfl (tyX0_ok 9 (by decide)) rfl rfl (Nat.le_of_ble_eq_true rfl) dX0_init_63 (fun H locs hP hD hS => ?_)
  have hP9 : va_P (kD K) vwCl (woX0 K h0 s.heap.size) H := hP
  exact W.vret hx hb hr (fun t ht hW => ⟨⟨(), rfl, trivial, by show va_P _ _ _ t.heap; rw [ht]; exact hP9⟩, hS.F ht⟩) hS.2.2 dX0_init_66 hlocks
