def woX1 (K : wC) (h0 sz : Nat) : va_W := [(h0, .inr (1, [.ref (sz + 0), .int (0), .int (-1)])), (sz + 0, zI K 40)]
set_option maxHeartbeats 4000000 in
set_option maxRecDepth 100000 in
theorem k_X1 (l : Launch) (K : wC) (h0 sz : Nat) : Met l yX1_init wsX1_init ({ frames := 1, cells := 1, slots := 40, locals := 12 }) (va_Pc [.ref h0] (fun U => U.heap.size = sz ∧ va_P (kD K) vwCl [(h0, .inr (1, [.null, .int 0, .int 0]))] U.heap ∧ va_K (kD K) vwCl (tyl K) U)) (va_Qv (fun _ : Unit => True) (fun _ t => va_P (kD K) vwCl (woX1 K h0 sz) t.heap) (aF1 h0 sz)) 1 40 (aF1 h0 sz) := by
  refine Met.ofW (cc := cX1_init) (maxL := 1) (ret := none) (by decide) rfl ?_
  intro p e s m args below meth c s₁ B hml hv
  obtain ⟨rfl, hsz, hP, hK⟩ := hv
  have hx := B.exec
  have hb := B.bytes
  have hr := B.returns
  have hlocks := B.notSynchronized
  have hts := atoms_spec (ws := wsX1_init) B.pre
  have hown : s.vm.findClass RX1 = some m.cls := findClass_of_methodNamed B.named
  have hin : meth.name = "<init>" := (name_of_methodNamed B.named B.method).1
  subst hsz
  have hD : va_D (aF1 h0 s.heap.size) [(h0, .inr (1, [.null, .int 0, .int 0]))] := d_one
  have hS : va_S (aF1 h0 s.heap.size) s.heap s.heap [] := va_S.rf
  have hl := lv_entry ([.ref h0]) (n := 1) (Nat.le_of_ble_eq_true rfl)
  rw [lg_entry_eq]
  generalize (lg_sl ([.ref h0]) ++ List.replicate (1 - (lg_sl ([.ref h0])).length) Slot.unset).toArray = ls at hl ⊢
  have hl : lv_has ls 1 [(0, .ref h0)] := hl
  refine lv_aload_n hx hb dX1_init_0 rfl (lv_at hl 0 rfl) ?_
  refine W.objInit hx hb hown (hts (.methodLink RX1 3 objectInit) (List.mem_cons_of_mem _ (List.mem_append_left _ (List.mem_of_getElem? (i := 0) rfl)))) (hts (.instanceMethod objectInit) (List.mem_cons_of_mem _ (List.mem_append_left _ (List.mem_of_getElem? (i := 1) rfl)))) (hts _ (List.mem_cons_of_mem _ (List.mem_append_left _ (List.mem_of_getElem? (i := 2) rfl)))) rfl (by rw [hml]; exact hl.1) rfl dX1_init_1 (Nat.le_of_ble_eq_true rfl) (Nat.le_of_ble_eq_true rfl) ?_
  refine W.eq (g2 := F0 m 4 ls []) rfl ?_
  refine lv_aload_n hx hb dX1_init_4 rfl (lv_at hl 0 rfl) ?_
  refine lv_bipush (v := (40)) hx hb dX1_init_5 (by decide) ?_
  refine n_i (k := 0) (N := 40) hx hb (hts (.arrayClass .int) (List.mem_cons_of_mem _ (List.mem_append_left _ (List.mem_of_getElem? (i := 3) rfl)))) hK hP hD hS rfl rfl (by decide) (by decide) (Nat.le_of_ble_eq_true rfl) (Nat.le_of_ble_eq_true rfl) (Nat.le_of_ble_eq_true rfl) dX1_init_7 (fun H hP hD hS => ?_)
  refine va_putF hx hb hts (fun w h => List.mem_cons_of_mem _ (List.mem_append_right _ h)) tyX1 tyX1_ok nmX1 hown hK hP hD hS 0 rfl rfl 0 (by decide) (hts (.fieldLink RX1 9 "WheelAreas$Sheet" "cells" "[I") (List.mem_cons_of_mem _ (List.mem_append_left _ (List.mem_of_getElem? (i := 4) rfl)))) (fun _ h => h) rfl hin rfl (tyX1_ok 0 (by decide)) rfl rfl (Nat.le_of_ble_eq_true rfl) dX1_init_9 (fun H locs hP hD hS => ?_)
  refine lv_aload_n hx hb dX1_init_12 rfl (lv_at hl 0 rfl) ?_
  refine lv_iconst (v := (0)) hx hb dX1_init_13 (by decide) ?_
  refine va_put hx hb hts (fun w h => List.mem_cons_of_mem _ (List.mem_append_right _ h)) tyX1 tyX1_ok nmX1 hown hK hP hD hS 0 rfl rfl 1 (by decide) (hts (.fieldLink RX1 15 "WheelAreas$Sheet" "lane" "I") (List.mem_cons_of_mem _ (List.mem_append_left _ (List.mem_of_getElem? (i := 5) rfl)))) (fun _ h => h) rfl (tyX1_ok 1 (by decide)) rfl rfl (Nat.le_of_ble_eq_true rfl) dX1_init_14 (fun H locs hP hD hS => ?_)
  refine lv_aload_n hx hb dX1_init_17 rfl (lv_at hl 0 rfl) ?_
  refine lv_iconst (v := (-1)) hx hb dX1_init_18 (by decide) ?_
  refine va_put hx hb hts (fun w h => List.mem_cons_of_mem _ (List.mem_append_right _ h)) tyX1 tyX1_ok nmX1 hown hK hP hD hS 0 rfl rfl 2 (by decide) (hts (.fieldLink RX1 19 "WheelAreas$Sheet" "size" "I") (List.mem_cons_of_mem _ (List.mem_append_left _ (List.mem_of_getElem? (i := 6) rfl)))) (fun _ h => h) rfl (tyX1_ok 2 (by decide)) rfl rfl (Nat.le_of_ble_eq_true rfl) dX1_init_19 (fun H locs hP hD hS => ?_)
  have hP9 : va_P (kD K) vwCl (woX1 K h0 s.heap.size) H := hP
  exact W.vret hx hb hr (fun t ht hW => ⟨⟨(), rfl, trivial, by show va_P _ _ _ t.heap; rw [ht]; exact hP9⟩, hS.F ht⟩) hS.2.2 dX1_init_22 hlocks
def woX2 (K : wC) (h0 sz : Nat) : va_W := [(h0, .inr (2, [.ref (sz + 0), .ref (sz + 1), .ref (sz + 2), .int (0)])), (sz + 0, zI K 6), (sz + 1, zI K 6), (sz + 2, zI K 6)]
set_option maxHeartbeats 4000000 in
set_option maxRecDepth 100000 in
theorem k_X2 (l : Launch) (K : wC) (h0 sz : Nat) : Met l yX2_init wsX2_init ({ frames := 1, cells := 3, slots := 18, locals := 12 }) (va_Pc [.ref h0] (fun U => U.heap.size = sz ∧ va_P (kD K) vwCl [(h0, .inr (2, [.null, .null, .null, .int 0]))] U.heap ∧ va_K (kD K) vwCl (tyl K) U)) (va_Qv (fun _ : Unit => True) (fun _ t => va_P (kD K) vwCl (woX2 K h0 sz) t.heap) (aF1 h0 sz)) 3 18 (aF1 h0 sz) := by
  refine Met.ofW (cc := cX2_init) (maxL := 1) (ret := none) (by decide) rfl ?_
  intro p e s m args below meth c s₁ B hml hv
  obtain ⟨rfl, hsz, hP, hK⟩ := hv
  have hx := B.exec
  have hb := B.bytes
  have hr := B.returns
  have hlocks := B.notSynchronized
  have hts := atoms_spec (ws := wsX2_init) B.pre
  have hown : s.vm.findClass RX2 = some m.cls := findClass_of_methodNamed B.named
  have hin : meth.name = "<init>" := (name_of_methodNamed B.named B.method).1
  subst hsz
  have hD : va_D (aF1 h0 s.heap.size) [(h0, .inr (2, [.null, .null, .null, .int 0]))] := d_one
  have hS : va_S (aF1 h0 s.heap.size) s.heap s.heap [] := va_S.rf
  have hl := lv_entry ([.ref h0]) (n := 1) (Nat.le_of_ble_eq_true rfl)
  rw [lg_entry_eq]
  generalize (lg_sl ([.ref h0]) ++ List.replicate (1 - (lg_sl ([.ref h0])).length) Slot.unset).toArray = ls at hl ⊢
  have hl : lv_has ls 1 [(0, .ref h0)] := hl
  refine lv_aload_n hx hb dX2_init_0 rfl (lv_at hl 0 rfl) ?_
  refine W.objInit hx hb hown (hts (.methodLink RX2 3 objectInit) (List.mem_cons_of_mem _ (List.mem_append_left _ (List.mem_of_getElem? (i := 0) rfl)))) (hts (.instanceMethod objectInit) (List.mem_cons_of_mem _ (List.mem_append_left _ (List.mem_of_getElem? (i := 1) rfl)))) (hts _ (List.mem_cons_of_mem _ (List.mem_append_left _ (List.mem_of_getElem? (i := 2) rfl)))) rfl (by rw [hml]; exact hl.1) rfl dX2_init_1 (Nat.le_of_ble_eq_true rfl) (Nat.le_of_ble_eq_true rfl) ?_
  refine W.eq (g2 := F0 m 4 ls []) rfl ?_
  refine lv_aload_n hx hb dX2_init_4 rfl (lv_at hl 0 rfl) ?_
  refine lv_bipush (v := (6)) hx hb dX2_init_5 (by decide) ?_
  refine n_i (k := 0) (N := 6) hx hb (hts (.arrayClass .int) (List.mem_cons_of_mem _ (List.mem_append_left _ (List.mem_of_getElem? (i := 3) rfl)))) hK hP hD hS rfl rfl (by decide) (by decide) (Nat.le_of_ble_eq_true rfl) (Nat.le_of_ble_eq_true rfl) (Nat.le_of_ble_eq_true rfl) dX2_init_7 (fun H hP hD hS => ?_)
  refine va_putF hx hb hts (fun w h => List.mem_cons_of_mem _ (List.mem_append_right _ h)) tyX2 tyX2_ok nmX2 hown hK hP hD hS 0 rfl rfl 0 (by decide) (hts (.fieldLink RX2 9 "WheelAreas$Sightings" "edges" "[I") (List.mem_cons_of_mem _ (List.mem_append_left _ (List.mem_of_getElem? (i := 4) rfl)))) (fun _ h => h) rfl hin rfl (tyX2_ok 0 (by decide)) rfl rfl (Nat.le_of_ble_eq_true rfl) dX2_init_9 (fun H locs hP hD hS => ?_)
  refine lv_aload_n hx hb dX2_init_12 rfl (lv_at hl 0 rfl) ?_
  refine lv_bipush (v := (6)) hx hb dX2_init_13 (by decide) ?_
  refine n_i (k := 1) (N := 6) hx hb (hts (.arrayClass .int) (List.mem_cons_of_mem _ (List.mem_append_left _ (List.mem_of_getElem? (i := 3) rfl)))) hK hP hD hS rfl rfl (by decide) (by decide) (Nat.le_of_ble_eq_true rfl) (Nat.le_of_ble_eq_true rfl) (Nat.le_of_ble_eq_true rfl) dX2_init_15 (fun H hP hD hS => ?_)
  refine va_putF hx hb hts (fun w h => List.mem_cons_of_mem _ (List.mem_append_right _ h)) tyX2 tyX2_ok nmX2 hown hK hP hD hS 0 rfl rfl 1 (by decide) (hts (.fieldLink RX2 15 "WheelAreas$Sightings" "wheel" "[I") (List.mem_cons_of_mem _ (List.mem_append_left _ (List.mem_of_getElem? (i := 5) rfl)))) (fun _ h => h) rfl hin rfl (tyX2_ok 1 (by decide)) rfl rfl (Nat.le_of_ble_eq_true rfl) dX2_init_17 (fun H locs hP hD hS => ?_)
  refine lv_aload_n hx hb dX2_init_20 rfl (lv_at hl 0 rfl) ?_
  refine lv_bipush (v := (6)) hx hb dX2_init_21 (by decide) ?_
  refine n_i (k := 2) (N := 6) hx hb (hts (.arrayClass .int) (List.mem_cons_of_mem _ (List.mem_append_left _ (List.mem_of_getElem? (i := 3) rfl)))) hK hP hD hS rfl rfl (by decide) (by decide) (Nat.le_of_ble_eq_true rfl) (Nat.le_of_ble_eq_true rfl) (Nat.le_of_ble_eq_true rfl) dX2_init_23 (fun H hP hD hS => ?_)
  refine va_putF hx hb hts (fun w h => List.mem_cons_of_mem _ (List.mem_append_right _ h)) tyX2 tyX2_ok nmX2 hown hK hP hD hS 0 rfl rfl 2 (by decide) (hts (.fieldLink RX2 18 "WheelAreas$Sightings" "reads" "[I") (List.mem_cons_of_mem _ (List.mem_append_left _ (List.mem_of_getElem? (i := 6) rfl)))) (fun _ h => h) rfl hin rfl (tyX2_ok 2 (by decide)) rfl rfl (Nat.le_of_ble_eq_true rfl) dX2_init_25 (fun H locs hP hD hS => ?_)
  refine lv_aload_n hx hb dX2_init_28 rfl (lv_at hl 0 rfl) ?_
  refine lv_iconst (v := (0)) hx hb dX2_init_29 (by decide) ?_
  refine va_put hx hb hts (fun w h => List.mem_cons_of_mem _ (List.mem_append_right _ h)) tyX2 tyX2_ok nmX2 hown hK hP hD hS 0 rfl rfl 3 (by decide) (hts (.fieldLink RX2 21 "WheelAreas$Sightings" "size" "I") (List.mem_cons_of_mem _ (List.mem_append_left _ (List.mem_of_getElem? (i := 7) rfl)))) (fun _ h => h) rfl (tyX2_ok 3 (by decide)) rfl rfl (Nat.le_of_ble_eq_true rfl) dX2_init_30 (fun H locs hP hD hS => ?_)
  have hP9 : va_P (kD K) vwCl (woX2 K h0 s.heap.size) H := hP
  exact W.vret hx hb hr (fun t ht hW => ⟨⟨(), rfl, trivial, by show va_P _ _ _ t.heap; rw [ht]; exact hP9⟩, hS.F ht⟩) hS.2.2 dX2_init_33 hlocks
def woX3 (K : wC) (h0 sz : Nat) : va_W := [(h0, .inr (3, [.ref (sz + 0), .int (0), .int (0), .int (0), .int (0)])), (sz + 0, zB K 160)]
set_option maxHeartbeats 4000000 in
set_option maxRecDepth 100000 in
theorem k_X3 (l : Launch) (K : wC) (h0 sz : Nat) : Met l yX3_init wsX3_init ({ frames := 1, cells := 1, slots := 160, locals := 12 }) (va_Pc [.ref h0] (fun U => U.heap.size = sz ∧ va_P (kD K) vwCl [(h0, .inr (3, [.null, .int 0, .int 0, .int 0, .int 0]))] U.heap ∧ va_K (kD K) vwCl (tyl K) U)) (va_Qv (fun _ : Unit => True) (fun _ t => va_P (kD K) vwCl (woX3 K h0 sz) t.heap) (aF1 h0 sz)) 1 160 (aF1 h0 sz) := by
  refine Met.ofW (cc := cX3_init) (maxL := 1) (ret := none) (by decide) rfl ?_
  intro p e s m args below meth c s₁ B hml hv
  obtain ⟨rfl, hsz, hP, hK⟩ := hv
  have hx := B.exec
  have hb := B.bytes
  have hr := B.returns
  have hlocks := B.notSynchronized
  have hts := atoms_spec (ws := wsX3_init) B.pre
  have hown : s.vm.findClass RX3 = some m.cls := findClass_of_methodNamed B.named
  have hin : meth.name = "<init>" := (name_of_methodNamed B.named B.method).1
  subst hsz
  have hD : va_D (aF1 h0 s.heap.size) [(h0, .inr (3, [.null, .int 0, .int 0, .int 0, .int 0]))] := d_one
  have hS : va_S (aF1 h0 s.heap.size) s.heap s.heap [] := va_S.rf
  have hl := lv_entry ([.ref h0]) (n := 1) (Nat.le_of_ble_eq_true rfl)
  rw [lg_entry_eq]
  generalize (lg_sl ([.ref h0]) ++ List.replicate (1 - (lg_sl ([.ref h0])).length) Slot.unset).toArray = ls at hl ⊢
  have hl : lv_has ls 1 [(0, .ref h0)] := hl
  refine lv_aload_n hx hb dX3_init_0 rfl (lv_at hl 0 rfl) ?_
  refine W.objInit hx hb hown (hts (.methodLink RX3 3 objectInit) (List.mem_cons_of_mem _ (List.mem_append_left _ (List.mem_of_getElem? (i := 0) rfl)))) (hts (.instanceMethod objectInit) (List.mem_cons_of_mem _ (List.mem_append_left _ (List.mem_of_getElem? (i := 1) rfl)))) (hts _ (List.mem_cons_of_mem _ (List.mem_append_left _ (List.mem_of_getElem? (i := 2) rfl)))) rfl (by rw [hml]; exact hl.1) rfl dX3_init_1 (Nat.le_of_ble_eq_true rfl) (Nat.le_of_ble_eq_true rfl) ?_
  refine W.eq (g2 := F0 m 4 ls []) rfl ?_
  refine lv_aload_n hx hb dX3_init_4 rfl (lv_at hl 0 rfl) ?_
  refine lv_sipush (v := (160)) hx hb dX3_init_5 (by decide) ?_
  refine n_b (k := 0) (N := 160) hx hb (hts (.arrayClass .byte) (List.mem_cons_of_mem _ (List.mem_append_left _ (List.mem_of_getElem? (i := 3) rfl)))) hK hP hD hS rfl rfl (by decide) (by decide) (Nat.le_of_ble_eq_true rfl) (Nat.le_of_ble_eq_true rfl) (Nat.le_of_ble_eq_true rfl) dX3_init_8 (fun H hP hD hS => ?_)
  refine va_putF hx hb hts (fun w h => List.mem_cons_of_mem _ (List.mem_append_right _ h)) tyX3 tyX3_ok nmX3 hown hK hP hD hS 0 rfl rfl 0 (by decide) (hts (.fieldLink RX3 9 "WheelAreas$Tape" "bytes" "[B") (List.mem_cons_of_mem _ (List.mem_append_left _ (List.mem_of_getElem? (i := 4) rfl)))) (fun _ h => h) rfl hin rfl (tyX3_ok 0 (by decide)) rfl rfl (Nat.le_of_ble_eq_true rfl) dX3_init_10 (fun H locs hP hD hS => ?_)
  refine lv_aload_n hx hb dX3_init_13 rfl (lv_at hl 0 rfl) ?_
  refine lv_iconst (v := (0)) hx hb dX3_init_14 (by decide) ?_
  refine va_put hx hb hts (fun w h => List.mem_cons_of_mem _ (List.mem_append_right _ h)) tyX3 tyX3_ok nmX3 hown hK hP hD hS 0 rfl rfl 1 (by decide) (hts (.fieldLink RX3 15 "WheelAreas$Tape" "size" "I") (List.mem_cons_of_mem _ (List.mem_append_left _ (List.mem_of_getElem? (i := 5) rfl)))) (fun _ h => h) rfl (tyX3_ok 1 (by decide)) rfl rfl (Nat.le_of_ble_eq_true rfl) dX3_init_15 (fun H locs hP hD hS => ?_)
  refine lv_aload_n hx hb dX3_init_18 rfl (lv_at hl 0 rfl) ?_
  refine lv_iconst (v := (0)) hx hb dX3_init_19 (by decide) ?_
  refine va_put hx hb hts (fun w h => List.mem_cons_of_mem _ (List.mem_append_right _ h)) tyX3 tyX3_ok nmX3 hown hK hP hD hS 0 rfl rfl 2 (by decide) (hts (.fieldLink RX3 19 "WheelAreas$Tape" "token" "I") (List.mem_cons_of_mem _ (List.mem_append_left _ (List.mem_of_getElem? (i := 6) rfl)))) (fun _ h => h) rfl (tyX3_ok 2 (by decide)) rfl rfl (Nat.le_of_ble_eq_true rfl) dX3_init_20 (fun H locs hP hD hS => ?_)
  refine lv_aload_n hx hb dX3_init_23 rfl (lv_at hl 0 rfl) ?_
  refine lv_iconst (v := (0)) hx hb dX3_init_24 (by decide) ?_
  refine va_put hx hb hts (fun w h => List.mem_cons_of_mem _ (List.mem_append_right _ h)) tyX3 tyX3_ok nmX3 hown hK hP hD hS 0 rfl rfl 3 (by decide) (hts (.fieldLink RX3 22 "WheelAreas$Tape" "tokenFrom" "I") (List.mem_cons_of_mem _ (List.mem_append_left _ (List.mem_of_getElem? (i := 7) rfl)))) (fun _ h => h) rfl (tyX3_ok 3 (by decide)) rfl rfl (Nat.le_of_ble_eq_true rfl) dX3_init_25 (fun H locs hP hD hS => ?_)
  refine lv_aload_n hx hb dX3_init_28 rfl (lv_at hl 0 rfl) ?_
  refine lv_iconst (v := (0)) hx hb dX3_init_29 (by decide) ?_
  refine va_put hx hb hts (fun w h => List.mem_cons_of_mem _ (List.mem_append_right _ h)) tyX3 tyX3_ok nmX3 hown hK hP hD hS 0 rfl rfl 4 (by decide) (hts (.fieldLink RX3 25 "WheelAreas$Tape" "tokenTo" "I") (List.mem_cons_of_mem _ (List.mem_append_left _ (List.mem_of_getElem? (i := 8) rfl)))) (fun _ h => h) rfl (tyX3_ok 4 (by decide)) rfl rfl (Nat.le_of_ble_eq_true rfl) dX3_init_30 (fun H locs hP hD hS => ?_)
  have hP9 : va_P (kD K) vwCl (woX3 K h0 s.heap.size) H := hP
  exact W.vret hx hb hr (fun t ht hW => ⟨⟨(), rfl, trivial, by show va_P _ _ _ t.heap; rw [ht]; exact hP9⟩, hS.F ht⟩) hS.2.2 dX3_init_33 hlocks
