/-! the cases of the switch -/
section LC
variable {p : Program} {l : Launch} {e : Env} {s : State} {m : MethodId} {below : List Frame} {meth : Method} {c : Code} {H : Heap} {locs : List Loc} {Q : State → Prop} {ls : Array Slot} {b L i : Nat} {xs : Nat → Int32} {K K2 : wC} {M N : Mem}
set_option maxHeartbeats 4000000 in
set_option maxRecDepth 100000 in
theorem lc_feed (C : lx p s m c b L xs K K2) (hi : i + 6 ≤ L) (hl : lv_has ls 4 [(3, .int (nI i)), (2, .ref (kb K2 + 0)), (1, .ref (kb K + 0)), (0, .ref b)]) (h : RR M N) (hP : wP shX 51 K M H) (hN : wP shM 12 K2 N H) (hS : va_S (aL s) s.heap H locs)
    (kk : ∀ (M1 N1 : Mem) (H1 : Heap) (locs1 : List Loc), RR M1 N1 → wP shX 51 K M1 H1 → wP shM 12 K2 N1 H1 → va_S (aL s) s.heap H1 locs1 → W p l e room_1 s m #[Value.ref b] below meth c H1 locs1 63 1688 Q (F0 m 1450 ls [])) : W p l e room_1 s m #[Value.ref b] below meth c H locs 63 1688 Q (F0 m 208 ls []) := by
  obtain ⟨hx, hb, -, -, -⟩ := C.1
  obtain ⟨ans, A, B, hf, hg, hR⟩ := o_feed h (xs (i + 1))
  refine lv_aload_n hx hb dL_law_208 rfl (lv_at hl 2 rfl) ?_
  refine l_arg C hS (lv_at hl 3 rfl) (lv_at hl 0 rfl) hi 1 (by decide) (by decide) dL_law_209 dL_law_210 dL_law_211 dL_law_212 dL_law_213 ?_
  refine l_ci (l_run (As := [.int (xs (i + 1))]) (rest := []) C.1 C.2.2.2.1 C.n1 hP hS (c_X5_feed hf) gL_law_X5_feed rfl dsX5_feed rfl ⟨rfl, rfl⟩ ⟨Nat.le_of_ble_eq_true rfl, Nat.le_of_ble_eq_true rfl⟩ (by decide) (sX_0 K _) rfl hl.1 rfl (Nat.le_of_ble_eq_true rfl) dL_law_214 ⟨Nat.le_of_ble_eq_true rfl, Nat.le_of_ble_eq_true rfl⟩) C.n1 hS hN C.d12 (fun r M1 H locs hq hP hN hS => ?_)
  refine lv_aload_n hx hb dL_law_217 rfl (lv_at hl 1 rfl) ?_
  refine l_arg C hS (lv_at hl 3 rfl) (lv_at hl 0 rfl) hi 1 (by decide) (by decide) dL_law_218 dL_law_219 dL_law_220 dL_law_221 dL_law_222 ?_
  refine l_ci (l_run (As := [.int (xs (i + 1))]) (rest := [.int r]) C.1 C.2.2.2.2.1 C.n2 hN hS (c_X6_feed hg) gL_law_X6_feed rfl dsX6_feed rfl ⟨rfl, rfl⟩ ⟨Nat.le_of_ble_eq_true rfl, Nat.le_of_ble_eq_true rfl⟩ (by decide) (sM_0 K2 _) rfl hl.1 rfl (Nat.le_of_ble_eq_true rfl) dL_law_223 ⟨Nat.le_of_ble_eq_true rfl, Nat.le_of_ble_eq_true rfl⟩) C.n2 hS hP C.d21 (fun r2 N1 H locs hq2 hN hP hS => ?_)
  exact lv_icmp_eq (tgt := 1450) hx hb dL_law_226 (by decide) (fun _ => kk M1 N1 H locs (hR _ _ hq.2 hq2.2) hP hN hS) (fun z => absurd (hq.1.trans hq2.1.symm) z)
set_option maxHeartbeats 4000000 in
set_option maxRecDepth 100000 in
theorem lc_end (C : lx p s m c b L xs K K2) (hi : i + 6 ≤ L) (hl : lv_has ls 4 [(3, .int (nI i)), (2, .ref (kb K2 + 0)), (1, .ref (kb K + 0)), (0, .ref b)]) (h : RR M N) (hP : wP shX 51 K M H) (hN : wP shM 12 K2 N H) (hS : va_S (aL s) s.heap H locs)
    (kk : ∀ (M1 N1 : Mem) (H1 : Heap) (locs1 : List Loc), RR M1 N1 → wP shX 51 K M1 H1 → wP shM 12 K2 N1 H1 → va_S (aL s) s.heap H1 locs1 → W p l e room_1 s m #[Value.ref b] below meth c H1 locs1 63 1688 Q (F0 m 1450 ls [])) : W p l e room_1 s m #[Value.ref b] below meth c H locs 63 1688 Q (F0 m 231 ls []) := by
  obtain ⟨hx, hb, -, -, -⟩ := C.1
  obtain ⟨ans, A, B, hf, hg, hR⟩ := o_end h (xs (i + 1))
  refine lv_aload_n hx hb dL_law_231 rfl (lv_at hl 2 rfl) ?_
  refine l_arg C hS (lv_at hl 3 rfl) (lv_at hl 0 rfl) hi 1 (by decide) (by decide) dL_law_232 dL_law_233 dL_law_234 dL_law_235 dL_law_236 ?_
  refine l_ci (l_run (As := [.int (xs (i + 1))]) (rest := []) C.1 C.2.2.2.1 C.n1 hP hS (c_X5_end hf) gL_law_X5_end rfl dsX5_end rfl ⟨rfl, rfl⟩ ⟨Nat.le_of_ble_eq_true rfl, Nat.le_of_ble_eq_true rfl⟩ (by decide) (sX_0 K _) rfl hl.1 rfl (Nat.le_of_ble_eq_true rfl) dL_law_237 ⟨Nat.le_of_ble_eq_true rfl, Nat.le_of_ble_eq_true rfl⟩) C.n1 hS hN C.d12 (fun r M1 H locs hq hP hN hS => ?_)
  refine lv_aload_n hx hb dL_law_240 rfl (lv_at hl 1 rfl) ?_
  refine l_arg C hS (lv_at hl 3 rfl) (lv_at hl 0 rfl) hi 1 (by decide) (by decide) dL_law_241 dL_law_242 dL_law_243 dL_law_244 dL_law_245 ?_
  refine l_ci (l_run (As := [.int (xs (i + 1))]) (rest := [.int r]) C.1 C.2.2.2.2.1 C.n2 hN hS (c_X6_end hg) gL_law_X6_end rfl dsX6_end rfl ⟨rfl, rfl⟩ ⟨Nat.le_of_ble_eq_true rfl, Nat.le_of_ble_eq_true rfl⟩ (by decide) (sM_0 K2 _) rfl hl.1 rfl (Nat.le_of_ble_eq_true rfl) dL_law_246 ⟨Nat.le_of_ble_eq_true rfl, Nat.le_of_ble_eq_true rfl⟩) C.n2 hS hP C.d21 (fun r2 N1 H locs hq2 hN hP hS => ?_)
  exact lv_icmp_eq (tgt := 1450) hx hb dL_law_249 (by decide) (fun _ => kk M1 N1 H locs (hR _ _ hq.2 hq2.2) hP hN hS) (fun z => absurd (hq.1.trans hq2.1.symm) z)
set_option maxHeartbeats 4000000 in
set_option maxRecDepth 100000 in
theorem lc_text (C : lx p s m c b L xs K K2) (hi : i + 6 ≤ L) (hl : lv_has ls 4 [(3, .int (nI i)), (2, .ref (kb K2 + 0)), (1, .ref (kb K + 0)), (0, .ref b)]) (h : RR M N) (hP : wP shX 51 K M H) (hN : wP shM 12 K2 N H) (hS : va_S (aL s) s.heap H locs)
    (kk : ∀ (M1 N1 : Mem) (H1 : Heap) (locs1 : List Loc), RR M1 N1 → wP shX 51 K M1 H1 → wP shM 12 K2 N1 H1 → va_S (aL s) s.heap H1 locs1 → W p l e room_1 s m #[Value.ref b] below meth c H1 locs1 63 1688 Q (F0 m 1450 ls [])) : W p l e room_1 s m #[Value.ref b] below meth c H locs 63 1688 Q (F0 m 254 ls []) := by
  obtain ⟨hx, hb, -, -, -⟩ := C.1
  obtain ⟨ans, A, B, hf, hg, hR⟩ := o_text h
  refine lv_aload_n hx hb dL_law_254 rfl (lv_at hl 2 rfl) ?_
  refine l_ci (l_run (As := []) (rest := []) C.1 C.2.2.2.1 C.n1 hP hS (c_X5_text hf) gL_law_X5_text rfl dsX5_text rfl ⟨rfl, rfl⟩ ⟨Nat.le_of_ble_eq_true rfl, Nat.le_of_ble_eq_true rfl⟩ (by decide) (sX_0 K _) rfl hl.1 rfl (Nat.le_of_ble_eq_true rfl) dL_law_255 ⟨Nat.le_of_ble_eq_true rfl, Nat.le_of_ble_eq_true rfl⟩) C.n1 hS hN C.d12 (fun r M1 H locs hq hP hN hS => ?_)
  refine lv_aload_n hx hb dL_law_258 rfl (lv_at hl 1 rfl) ?_
  refine l_ci (l_run (As := []) (rest := [.int r]) C.1 C.2.2.2.2.1 C.n2 hN hS (c_X6_text hg) gL_law_X6_text rfl dsX6_text rfl ⟨rfl, rfl⟩ ⟨Nat.le_of_ble_eq_true rfl, Nat.le_of_ble_eq_true rfl⟩ (by decide) (sM_0 K2 _) rfl hl.1 rfl (Nat.le_of_ble_eq_true rfl) dL_law_259 ⟨Nat.le_of_ble_eq_true rfl, Nat.le_of_ble_eq_true rfl⟩) C.n2 hS hP C.d21 (fun r2 N1 H locs hq2 hN hP hS => ?_)
  exact lv_icmp_eq (tgt := 1450) hx hb dL_law_262 (by decide) (fun _ => kk M1 N1 H locs (hR _ _ hq.2 hq2.2) hP hN hS) (fun z => absurd (hq.1.trans hq2.1.symm) z)
set_option maxHeartbeats 4000000 in
set_option maxRecDepth 100000 in
theorem lc_fault (C : lx p s m c b L xs K K2) (hi : i + 6 ≤ L) (hl : lv_has ls 4 [(3, .int (nI i)), (2, .ref (kb K2 + 0)), (1, .ref (kb K + 0)), (0, .ref b)]) (h : RR M N) (hP : wP shX 51 K M H) (hN : wP shM 12 K2 N H) (hS : va_S (aL s) s.heap H locs)
    (kk : ∀ (M1 N1 : Mem) (H1 : Heap) (locs1 : List Loc), RR M1 N1 → wP shX 51 K M1 H1 → wP shM 12 K2 N1 H1 → va_S (aL s) s.heap H1 locs1 → W p l e room_1 s m #[Value.ref b] below meth c H1 locs1 63 1688 Q (F0 m 1450 ls [])) : W p l e room_1 s m #[Value.ref b] below meth c H locs 63 1688 Q (F0 m 267 ls []) := by
  obtain ⟨hx, hb, -, -, -⟩ := C.1
  obtain ⟨ans, A, B, hf, hg, hR⟩ := o_fault h
  refine lv_aload_n hx hb dL_law_267 rfl (lv_at hl 2 rfl) ?_
  refine l_ci (l_run (As := []) (rest := []) C.1 C.2.2.2.1 C.n1 hP hS (c_X5_fault hf) gL_law_X5_fault rfl dsX5_fault rfl ⟨rfl, rfl⟩ ⟨Nat.le_of_ble_eq_true rfl, Nat.le_of_ble_eq_true rfl⟩ (by decide) (sX_0 K _) rfl hl.1 rfl (Nat.le_of_ble_eq_true rfl) dL_law_268 ⟨Nat.le_of_ble_eq_true rfl, Nat.le_of_ble_eq_true rfl⟩) C.n1 hS hN C.d12 (fun r M1 H locs hq hP hN hS => ?_)
  refine lv_aload_n hx hb dL_law_271 rfl (lv_at hl 1 rfl) ?_
  refine l_ci (l_run (As := []) (rest := [.int r]) C.1 C.2.2.2.2.1 C.n2 hN hS (c_X6_fault hg) gL_law_X6_fault rfl dsX6_fault rfl ⟨rfl, rfl⟩ ⟨Nat.le_of_ble_eq_true rfl, Nat.le_of_ble_eq_true rfl⟩ (by decide) (sM_0 K2 _) rfl hl.1 rfl (Nat.le_of_ble_eq_true rfl) dL_law_272 ⟨Nat.le_of_ble_eq_true rfl, Nat.le_of_ble_eq_true rfl⟩) C.n2 hS hP C.d21 (fun r2 N1 H locs hq2 hN hP hS => ?_)
  exact lv_icmp_eq (tgt := 1450) hx hb dL_law_275 (by decide) (fun _ => kk M1 N1 H locs (hR _ _ hq.2 hq2.2) hP hN hS) (fun z => absurd (hq.1.trans hq2.1.symm) z)
set_option maxHeartbeats 4000000 in
set_option maxRecDepth 100000 in
theorem lc_rule (C : lx p s m c b L xs K K2) (hi : i + 6 ≤ L) (hl : lv_has ls 4 [(3, .int (nI i)), (2, .ref (kb K2 + 0)), (1, .ref (kb K + 0)), (0, .ref b)]) (h : RR M N) (hP : wP shX 51 K M H) (hN : wP shM 12 K2 N H) (hS : va_S (aL s) s.heap H locs)
    (kk : ∀ (M1 N1 : Mem) (H1 : Heap) (locs1 : List Loc), RR M1 N1 → wP shX 51 K M1 H1 → wP shM 12 K2 N1 H1 → va_S (aL s) s.heap H1 locs1 → W p l e room_1 s m #[Value.ref b] below meth c H1 locs1 63 1688 Q (F0 m 1450 ls [])) : W p l e room_1 s m #[Value.ref b] below meth c H locs 63 1688 Q (F0 m 280 ls []) := by
  obtain ⟨hx, hb, -, -, -⟩ := C.1
  obtain ⟨ans, A, B, hf, hg, hR⟩ := o_rule h (xs (i + 1))
  refine lv_aload_n hx hb dL_law_280 rfl (lv_at hl 2 rfl) ?_
  refine l_arg C hS (lv_at hl 3 rfl) (lv_at hl 0 rfl) hi 1 (by decide) (by decide) dL_law_281 dL_law_282 dL_law_283 dL_law_284 dL_law_285 ?_
  refine l_ci (l_run (As := [.int (xs (i + 1))]) (rest := []) C.1 C.2.2.2.1 C.n1 hP hS (c_X5_rule hf) gL_law_X5_rule rfl dsX5_rule rfl ⟨rfl, rfl⟩ ⟨Nat.le_of_ble_eq_true rfl, Nat.le_of_ble_eq_true rfl⟩ (by decide) (sX_0 K _) rfl hl.1 rfl (Nat.le_of_ble_eq_true rfl) dL_law_286 ⟨Nat.le_of_ble_eq_true rfl, Nat.le_of_ble_eq_true rfl⟩) C.n1 hS hN C.d12 (fun r M1 H locs hq hP hN hS => ?_)
  refine lv_aload_n hx hb dL_law_289 rfl (lv_at hl 1 rfl) ?_
  refine l_arg C hS (lv_at hl 3 rfl) (lv_at hl 0 rfl) hi 1 (by decide) (by decide) dL_law_290 dL_law_291 dL_law_292 dL_law_293 dL_law_294 ?_
  refine l_ci (l_run (As := [.int (xs (i + 1))]) (rest := [.int r]) C.1 C.2.2.2.2.1 C.n2 hN hS (c_X6_rule hg) gL_law_X6_rule rfl dsX6_rule rfl ⟨rfl, rfl⟩ ⟨Nat.le_of_ble_eq_true rfl, Nat.le_of_ble_eq_true rfl⟩ (by decide) (sM_0 K2 _) rfl hl.1 rfl (Nat.le_of_ble_eq_true rfl) dL_law_295 ⟨Nat.le_of_ble_eq_true rfl, Nat.le_of_ble_eq_true rfl⟩) C.n2 hS hP C.d21 (fun r2 N1 H locs hq2 hN hP hS => ?_)
  exact lv_icmp_eq (tgt := 1450) hx hb dL_law_298 (by decide) (fun _ => kk M1 N1 H locs (hR _ _ hq.2 hq2.2) hP hN hS) (fun z => absurd (hq.1.trans hq2.1.symm) z)
set_option maxHeartbeats 4000000 in
set_option maxRecDepth 100000 in
theorem lc_corner (C : lx p s m c b L xs K K2) (hi : i + 6 ≤ L) (hl : lv_has ls 4 [(3, .int (nI i)), (2, .ref (kb K2 + 0)), (1, .ref (kb K + 0)), (0, .ref b)]) (h : RR M N) (hP : wP shX 51 K M H) (hN : wP shM 12 K2 N H) (hS : va_S (aL s) s.heap H locs)
    (kk : ∀ (M1 N1 : Mem) (H1 : Heap) (locs1 : List Loc), RR M1 N1 → wP shX 51 K M1 H1 → wP shM 12 K2 N1 H1 → va_S (aL s) s.heap H1 locs1 → W p l e room_1 s m #[Value.ref b] below meth c H1 locs1 63 1688 Q (F0 m 1450 ls [])) : W p l e room_1 s m #[Value.ref b] below meth c H locs 63 1688 Q (F0 m 303 ls []) := by
  obtain ⟨hx, hb, -, -, -⟩ := C.1
  obtain ⟨ans, A, B, hf, hg, hR⟩ := o_corner h (xs (i + 1)) (xs (i + 2))
  refine lv_aload_n hx hb dL_law_303 rfl (lv_at hl 2 rfl) ?_
  refine l_arg C hS (lv_at hl 3 rfl) (lv_at hl 0 rfl) hi 1 (by decide) (by decide) dL_law_304 dL_law_305 dL_law_306 dL_law_307 dL_law_308 ?_
  refine l_arg C hS (lv_at hl 3 rfl) (lv_at hl 0 rfl) hi 2 (by decide) (by decide) dL_law_309 dL_law_310 dL_law_311 dL_law_312 dL_law_313 ?_
  refine l_ci (l_run (As := [.int (xs (i + 1)), .int (xs (i + 2))]) (rest := []) C.1 C.2.2.2.1 C.n1 hP hS (c_X5_corner hf) gL_law_X5_corner rfl dsX5_corner rfl ⟨rfl, rfl⟩ ⟨Nat.le_of_ble_eq_true rfl, Nat.le_of_ble_eq_true rfl⟩ (by decide) (sX_0 K _) rfl hl.1 rfl (Nat.le_of_ble_eq_true rfl) dL_law_314 ⟨Nat.le_of_ble_eq_true rfl, Nat.le_of_ble_eq_true rfl⟩) C.n1 hS hN C.d12 (fun r M1 H locs hq hP hN hS => ?_)
  refine lv_aload_n hx hb dL_law_317 rfl (lv_at hl 1 rfl) ?_
  refine l_arg C hS (lv_at hl 3 rfl) (lv_at hl 0 rfl) hi 1 (by decide) (by decide) dL_law_318 dL_law_319 dL_law_320 dL_law_321 dL_law_322 ?_
  refine l_arg C hS (lv_at hl 3 rfl) (lv_at hl 0 rfl) hi 2 (by decide) (by decide) dL_law_323 dL_law_324 dL_law_325 dL_law_326 dL_law_327 ?_
  refine l_ci (l_run (As := [.int (xs (i + 1)), .int (xs (i + 2))]) (rest := [.int r]) C.1 C.2.2.2.2.1 C.n2 hN hS (c_X6_corner hg) gL_law_X6_corner rfl dsX6_corner rfl ⟨rfl, rfl⟩ ⟨Nat.le_of_ble_eq_true rfl, Nat.le_of_ble_eq_true rfl⟩ (by decide) (sM_0 K2 _) rfl hl.1 rfl (Nat.le_of_ble_eq_true rfl) dL_law_328 ⟨Nat.le_of_ble_eq_true rfl, Nat.le_of_ble_eq_true rfl⟩) C.n2 hS hP C.d21 (fun r2 N1 H locs hq2 hN hP hS => ?_)
  exact lv_icmp_eq (tgt := 1450) hx hb dL_law_331 (by decide) (fun _ => kk M1 N1 H locs (hR _ _ hq.2 hq2.2) hP hN hS) (fun z => absurd (hq.1.trans hq2.1.symm) z)
set_option maxHeartbeats 4000000 in
set_option maxRecDepth 100000 in
theorem lc_wheel (C : lx p s m c b L xs K K2) (hi : i + 6 ≤ L) (hl : lv_has ls 4 [(3, .int (nI i)), (2, .ref (kb K2 + 0)), (1, .ref (kb K + 0)), (0, .ref b)]) (h : RR M N) (hP : wP shX 51 K M H) (hN : wP shM 12 K2 N H) (hS : va_S (aL s) s.heap H locs)
    (kk : ∀ (M1 N1 : Mem) (H1 : Heap) (locs1 : List Loc), RR M1 N1 → wP shX 51 K M1 H1 → wP shM 12 K2 N1 H1 → va_S (aL s) s.heap H1 locs1 → W p l e room_1 s m #[Value.ref b] below meth c H1 locs1 63 1688 Q (F0 m 1450 ls [])) : W p l e room_1 s m #[Value.ref b] below meth c H locs 63 1688 Q (F0 m 336 ls []) := by
  obtain ⟨hx, hb, -, -, -⟩ := C.1
  obtain ⟨ans, A, B, hf, hg, hR⟩ := o_wheel h (xs (i + 1)) (xs (i + 2))
  refine lv_aload_n hx hb dL_law_336 rfl (lv_at hl 2 rfl) ?_
  refine l_arg C hS (lv_at hl 3 rfl) (lv_at hl 0 rfl) hi 1 (by decide) (by decide) dL_law_337 dL_law_338 dL_law_339 dL_law_340 dL_law_341 ?_
  refine l_arg C hS (lv_at hl 3 rfl) (lv_at hl 0 rfl) hi 2 (by decide) (by decide) dL_law_342 dL_law_343 dL_law_344 dL_law_345 dL_law_346 ?_
  refine l_ci (l_run (As := [.int (xs (i + 1)), .int (xs (i + 2))]) (rest := []) C.1 C.2.2.2.1 C.n1 hP hS (c_X5_wheel hf) gL_law_X5_wheel rfl dsX5_wheel rfl ⟨rfl, rfl⟩ ⟨Nat.le_of_ble_eq_true rfl, Nat.le_of_ble_eq_true rfl⟩ (by decide) (sX_0 K _) rfl hl.1 rfl (Nat.le_of_ble_eq_true rfl) dL_law_347 ⟨Nat.le_of_ble_eq_true rfl, Nat.le_of_ble_eq_true rfl⟩) C.n1 hS hN C.d12 (fun r M1 H locs hq hP hN hS => ?_)
  refine lv_aload_n hx hb dL_law_350 rfl (lv_at hl 1 rfl) ?_
  refine l_arg C hS (lv_at hl 3 rfl) (lv_at hl 0 rfl) hi 1 (by decide) (by decide) dL_law_351 dL_law_352 dL_law_353 dL_law_354 dL_law_355 ?_
  refine l_arg C hS (lv_at hl 3 rfl) (lv_at hl 0 rfl) hi 2 (by decide) (by decide) dL_law_356 dL_law_357 dL_law_358 dL_law_359 dL_law_360 ?_
  refine l_ci (l_run (As := [.int (xs (i + 1)), .int (xs (i + 2))]) (rest := [.int r]) C.1 C.2.2.2.2.1 C.n2 hN hS (c_X6_wheel hg) gL_law_X6_wheel rfl dsX6_wheel rfl ⟨rfl, rfl⟩ ⟨Nat.le_of_ble_eq_true rfl, Nat.le_of_ble_eq_true rfl⟩ (by decide) (sM_0 K2 _) rfl hl.1 rfl (Nat.le_of_ble_eq_true rfl) dL_law_361 ⟨Nat.le_of_ble_eq_true rfl, Nat.le_of_ble_eq_true rfl⟩) C.n2 hS hP C.d21 (fun r2 N1 H locs hq2 hN hP hS => ?_)
  exact lv_icmp_eq (tgt := 1450) hx hb dL_law_364 (by decide) (fun _ => kk M1 N1 H locs (hR _ _ hq.2 hq2.2) hP hN hS) (fun z => absurd (hq.1.trans hq2.1.symm) z)
set_option maxHeartbeats 4000000 in
set_option maxRecDepth 100000 in
theorem lc_alter (C : lx p s m c b L xs K K2) (hi : i + 6 ≤ L) (hl : lv_has ls 4 [(3, .int (nI i)), (2, .ref (kb K2 + 0)), (1, .ref (kb K + 0)), (0, .ref b)]) (h : RR M N) (hP : wP shX 51 K M H) (hN : wP shM 12 K2 N H) (hS : va_S (aL s) s.heap H locs)
    (kk : ∀ (M1 N1 : Mem) (H1 : Heap) (locs1 : List Loc), RR M1 N1 → wP shX 51 K M1 H1 → wP shM 12 K2 N1 H1 → va_S (aL s) s.heap H1 locs1 → W p l e room_1 s m #[Value.ref b] below meth c H1 locs1 63 1688 Q (F0 m 1450 ls [])) : W p l e room_1 s m #[Value.ref b] below meth c H locs 63 1688 Q (F0 m 369 ls []) := by
  obtain ⟨hx, hb, -, -, -⟩ := C.1
  obtain ⟨ans, A, B, hf, hg, hR⟩ := o_alter h (xs (i + 1)) (xs (i + 2)) (xs (i + 3))
  refine lv_aload_n hx hb dL_law_369 rfl (lv_at hl 2 rfl) ?_
  refine l_arg C hS (lv_at hl 3 rfl) (lv_at hl 0 rfl) hi 1 (by decide) (by decide) dL_law_370 dL_law_371 dL_law_372 dL_law_373 dL_law_374 ?_
  refine l_arg C hS (lv_at hl 3 rfl) (lv_at hl 0 rfl) hi 2 (by decide) (by decide) dL_law_375 dL_law_376 dL_law_377 dL_law_378 dL_law_379 ?_
  refine l_arg C hS (lv_at hl 3 rfl) (lv_at hl 0 rfl) hi 3 (by decide) (by decide) dL_law_380 dL_law_381 dL_law_382 dL_law_383 dL_law_384 ?_
  refine l_ci (l_run (As := [.int (xs (i + 1)), .int (xs (i + 2)), .int (xs (i + 3))]) (rest := []) C.1 C.2.2.2.1 C.n1 hP hS (c_X5_alter hf) gL_law_X5_alter rfl dsX5_alter rfl ⟨rfl, rfl⟩ ⟨Nat.le_of_ble_eq_true rfl, Nat.le_of_ble_eq_true rfl⟩ (by decide) (sX_0 K _) rfl hl.1 rfl (Nat.le_of_ble_eq_true rfl) dL_law_385 ⟨Nat.le_of_ble_eq_true rfl, Nat.le_of_ble_eq_true rfl⟩) C.n1 hS hN C.d12 (fun r M1 H locs hq hP hN hS => ?_)
  refine lv_aload_n hx hb dL_law_388 rfl (lv_at hl 1 rfl) ?_
  refine l_arg C hS (lv_at hl 3 rfl) (lv_at hl 0 rfl) hi 1 (by decide) (by decide) dL_law_389 dL_law_390 dL_law_391 dL_law_392 dL_law_393 ?_
  refine l_arg C hS (lv_at hl 3 rfl) (lv_at hl 0 rfl) hi 2 (by decide) (by decide) dL_law_394 dL_law_395 dL_law_396 dL_law_397 dL_law_398 ?_
  refine l_arg C hS (lv_at hl 3 rfl) (lv_at hl 0 rfl) hi 3 (by decide) (by decide) dL_law_399 dL_law_400 dL_law_401 dL_law_402 dL_law_403 ?_
  refine l_ci (l_run (As := [.int (xs (i + 1)), .int (xs (i + 2)), .int (xs (i + 3))]) (rest := [.int r]) C.1 C.2.2.2.2.1 C.n2 hN hS (c_X6_alter hg) gL_law_X6_alter rfl dsX6_alter rfl ⟨rfl, rfl⟩ ⟨Nat.le_of_ble_eq_true rfl, Nat.le_of_ble_eq_true rfl⟩ (by decide) (sM_0 K2 _) rfl hl.1 rfl (Nat.le_of_ble_eq_true rfl) dL_law_404 ⟨Nat.le_of_ble_eq_true rfl, Nat.le_of_ble_eq_true rfl⟩) C.n2 hS hP C.d21 (fun r2 N1 H locs hq2 hN hP hS => ?_)
  exact lv_icmp_eq (tgt := 1450) hx hb dL_law_407 (by decide) (fun _ => kk M1 N1 H locs (hR _ _ hq.2 hq2.2) hP hN hS) (fun z => absurd (hq.1.trans hq2.1.symm) z)
set_option maxHeartbeats 4000000 in
set_option maxRecDepth 100000 in
theorem lc_put (C : lx p s m c b L xs K K2) (hi : i + 6 ≤ L) (hl : lv_has ls 4 [(3, .int (nI i)), (2, .ref (kb K2 + 0)), (1, .ref (kb K + 0)), (0, .ref b)]) (h : RR M N) (hP : wP shX 51 K M H) (hN : wP shM 12 K2 N H) (hS : va_S (aL s) s.heap H locs)
    (kk : ∀ (M1 N1 : Mem) (H1 : Heap) (locs1 : List Loc), RR M1 N1 → wP shX 51 K M1 H1 → wP shM 12 K2 N1 H1 → va_S (aL s) s.heap H1 locs1 → W p l e room_1 s m #[Value.ref b] below meth c H1 locs1 63 1688 Q (F0 m 1450 ls [])) : W p l e room_1 s m #[Value.ref b] below meth c H locs 63 1688 Q (F0 m 412 ls []) := by
  obtain ⟨hx, hb, -, -, -⟩ := C.1
  obtain ⟨ans, A, B, hf, hg, hR⟩ := o_put h (xs (i + 1)) (xs (i + 2))
  refine lv_aload_n hx hb dL_law_412 rfl (lv_at hl 2 rfl) ?_
  refine l_arg C hS (lv_at hl 3 rfl) (lv_at hl 0 rfl) hi 1 (by decide) (by decide) dL_law_413 dL_law_414 dL_law_415 dL_law_416 dL_law_417 ?_
  refine l_arg C hS (lv_at hl 3 rfl) (lv_at hl 0 rfl) hi 2 (by decide) (by decide) dL_law_418 dL_law_419 dL_law_420 dL_law_421 dL_law_422 ?_
  refine l_ci (l_run (As := [.int (xs (i + 1)), .int (xs (i + 2))]) (rest := []) C.1 C.2.2.2.1 C.n1 hP hS (c_X5_put hf) gL_law_X5_put rfl dsX5_put rfl ⟨rfl, rfl⟩ ⟨Nat.le_of_ble_eq_true rfl, Nat.le_of_ble_eq_true rfl⟩ (by decide) (sX_0 K _) rfl hl.1 rfl (Nat.le_of_ble_eq_true rfl) dL_law_423 ⟨Nat.le_of_ble_eq_true rfl, Nat.le_of_ble_eq_true rfl⟩) C.n1 hS hN C.d12 (fun r M1 H locs hq hP hN hS => ?_)
  refine lv_aload_n hx hb dL_law_426 rfl (lv_at hl 1 rfl) ?_
  refine l_arg C hS (lv_at hl 3 rfl) (lv_at hl 0 rfl) hi 1 (by decide) (by decide) dL_law_427 dL_law_428 dL_law_429 dL_law_430 dL_law_431 ?_
  refine l_arg C hS (lv_at hl 3 rfl) (lv_at hl 0 rfl) hi 2 (by decide) (by decide) dL_law_432 dL_law_433 dL_law_434 dL_law_435 dL_law_436 ?_
  refine l_ci (l_run (As := [.int (xs (i + 1)), .int (xs (i + 2))]) (rest := [.int r]) C.1 C.2.2.2.2.1 C.n2 hN hS (c_X6_put hg) gL_law_X6_put rfl dsX6_put rfl ⟨rfl, rfl⟩ ⟨Nat.le_of_ble_eq_true rfl, Nat.le_of_ble_eq_true rfl⟩ (by decide) (sM_0 K2 _) rfl hl.1 rfl (Nat.le_of_ble_eq_true rfl) dL_law_437 ⟨Nat.le_of_ble_eq_true rfl, Nat.le_of_ble_eq_true rfl⟩) C.n2 hS hP C.d21 (fun r2 N1 H locs hq2 hN hP hS => ?_)
  exact lv_icmp_eq (tgt := 1450) hx hb dL_law_440 (by decide) (fun _ => kk M1 N1 H locs (hR _ _ hq.2 hq2.2) hP hN hS) (fun z => absurd (hq.1.trans hq2.1.symm) z)
set_option maxHeartbeats 4000000 in
set_option maxRecDepth 100000 in
theorem lc_cut (C : lx p s m c b L xs K K2) (hi : i + 6 ≤ L) (hl : lv_has ls 4 [(3, .int (nI i)), (2, .ref (kb K2 + 0)), (1, .ref (kb K + 0)), (0, .ref b)]) (h : RR M N) (hP : wP shX 51 K M H) (hN : wP shM 12 K2 N H) (hS : va_S (aL s) s.heap H locs)
    (kk : ∀ (M1 N1 : Mem) (H1 : Heap) (locs1 : List Loc), RR M1 N1 → wP shX 51 K M1 H1 → wP shM 12 K2 N1 H1 → va_S (aL s) s.heap H1 locs1 → W p l e room_1 s m #[Value.ref b] below meth c H1 locs1 63 1688 Q (F0 m 1450 ls [])) : W p l e room_1 s m #[Value.ref b] below meth c H locs 63 1688 Q (F0 m 445 ls []) := by
  obtain ⟨hx, hb, -, -, -⟩ := C.1
  obtain ⟨ans, A, B, hf, hg, hR⟩ := o_cut h (xs (i + 1))
  refine lv_aload_n hx hb dL_law_445 rfl (lv_at hl 2 rfl) ?_
  refine l_arg C hS (lv_at hl 3 rfl) (lv_at hl 0 rfl) hi 1 (by decide) (by decide) dL_law_446 dL_law_447 dL_law_448 dL_law_449 dL_law_450 ?_
  refine l_ci (l_run (As := [.int (xs (i + 1))]) (rest := []) C.1 C.2.2.2.1 C.n1 hP hS (c_X5_cut hf) gL_law_X5_cut rfl dsX5_cut rfl ⟨rfl, rfl⟩ ⟨Nat.le_of_ble_eq_true rfl, Nat.le_of_ble_eq_true rfl⟩ (by decide) (sX_0 K _) rfl hl.1 rfl (Nat.le_of_ble_eq_true rfl) dL_law_451 ⟨Nat.le_of_ble_eq_true rfl, Nat.le_of_ble_eq_true rfl⟩) C.n1 hS hN C.d12 (fun r M1 H locs hq hP hN hS => ?_)
  refine lv_aload_n hx hb dL_law_454 rfl (lv_at hl 1 rfl) ?_
  refine l_arg C hS (lv_at hl 3 rfl) (lv_at hl 0 rfl) hi 1 (by decide) (by decide) dL_law_455 dL_law_456 dL_law_457 dL_law_458 dL_law_459 ?_
  refine l_ci (l_run (As := [.int (xs (i + 1))]) (rest := [.int r]) C.1 C.2.2.2.2.1 C.n2 hN hS (c_X6_cut hg) gL_law_X6_cut rfl dsX6_cut rfl ⟨rfl, rfl⟩ ⟨Nat.le_of_ble_eq_true rfl, Nat.le_of_ble_eq_true rfl⟩ (by decide) (sM_0 K2 _) rfl hl.1 rfl (Nat.le_of_ble_eq_true rfl) dL_law_460 ⟨Nat.le_of_ble_eq_true rfl, Nat.le_of_ble_eq_true rfl⟩) C.n2 hS hP C.d21 (fun r2 N1 H locs hq2 hN hP hS => ?_)
  exact lv_icmp_eq (tgt := 1450) hx hb dL_law_463 (by decide) (fun _ => kk M1 N1 H locs (hR _ _ hq.2 hq2.2) hP hN hS) (fun z => absurd (hq.1.trans hq2.1.symm) z)
set_option maxHeartbeats 4000000 in
set_option maxRecDepth 100000 in
theorem lc_zero (C : lx p s m c b L xs K K2) (hi : i + 6 ≤ L) (hl : lv_has ls 4 [(3, .int (nI i)), (2, .ref (kb K2 + 0)), (1, .ref (kb K + 0)), (0, .ref b)]) (h : RR M N) (hP : wP shX 51 K M H) (hN : wP shM 12 K2 N H) (hS : va_S (aL s) s.heap H locs)
    (kk : ∀ (M1 N1 : Mem) (H1 : Heap) (locs1 : List Loc), RR M1 N1 → wP shX 51 K M1 H1 → wP shM 12 K2 N1 H1 → va_S (aL s) s.heap H1 locs1 → W p l e room_1 s m #[Value.ref b] below meth c H1 locs1 63 1688 Q (F0 m 1450 ls [])) : W p l e room_1 s m #[Value.ref b] below meth c H locs 63 1688 Q (F0 m 468 ls []) := by
  obtain ⟨hx, hb, -, -, -⟩ := C.1
  obtain ⟨ans, A, B, hf, hg, hR⟩ := o_zero h (xs (i + 1))
  refine lv_aload_n hx hb dL_law_468 rfl (lv_at hl 2 rfl) ?_
  refine l_arg C hS (lv_at hl 3 rfl) (lv_at hl 0 rfl) hi 1 (by decide) (by decide) dL_law_469 dL_law_470 dL_law_471 dL_law_472 dL_law_473 ?_
  refine l_ci (l_run (As := [.int (xs (i + 1))]) (rest := []) C.1 C.2.2.2.1 C.n1 hP hS (c_X5_zero hf) gL_law_X5_zero rfl dsX5_zero rfl ⟨rfl, rfl⟩ ⟨Nat.le_of_ble_eq_true rfl, Nat.le_of_ble_eq_true rfl⟩ (by decide) (sX_0 K _) rfl hl.1 rfl (Nat.le_of_ble_eq_true rfl) dL_law_474 ⟨Nat.le_of_ble_eq_true rfl, Nat.le_of_ble_eq_true rfl⟩) C.n1 hS hN C.d12 (fun r M1 H locs hq hP hN hS => ?_)
  refine lv_aload_n hx hb dL_law_477 rfl (lv_at hl 1 rfl) ?_
  refine l_arg C hS (lv_at hl 3 rfl) (lv_at hl 0 rfl) hi 1 (by decide) (by decide) dL_law_478 dL_law_479 dL_law_480 dL_law_481 dL_law_482 ?_
  refine l_ci (l_run (As := [.int (xs (i + 1))]) (rest := [.int r]) C.1 C.2.2.2.2.1 C.n2 hN hS (c_X6_zero hg) gL_law_X6_zero rfl dsX6_zero rfl ⟨rfl, rfl⟩ ⟨Nat.le_of_ble_eq_true rfl, Nat.le_of_ble_eq_true rfl⟩ (by decide) (sM_0 K2 _) rfl hl.1 rfl (Nat.le_of_ble_eq_true rfl) dL_law_483 ⟨Nat.le_of_ble_eq_true rfl, Nat.le_of_ble_eq_true rfl⟩) C.n2 hS hP C.d21 (fun r2 N1 H locs hq2 hN hP hS => ?_)
  exact lv_icmp_eq (tgt := 1450) hx hb dL_law_486 (by decide) (fun _ => kk M1 N1 H locs (hR _ _ hq.2 hq2.2) hP hN hS) (fun z => absurd (hq.1.trans hq2.1.symm) z)
set_option maxHeartbeats 4000000 in
set_option maxRecDepth 100000 in
theorem lc_shift (C : lx p s m c b L xs K K2) (hi : i + 6 ≤ L) (hl : lv_has ls 4 [(3, .int (nI i)), (2, .ref (kb K2 + 0)), (1, .ref (kb K + 0)), (0, .ref b)]) (h : RR M N) (hP : wP shX 51 K M H) (hN : wP shM 12 K2 N H) (hS : va_S (aL s) s.heap H locs)
    (kk : ∀ (M1 N1 : Mem) (H1 : Heap) (locs1 : List Loc), RR M1 N1 → wP shX 51 K M1 H1 → wP shM 12 K2 N1 H1 → va_S (aL s) s.heap H1 locs1 → W p l e room_1 s m #[Value.ref b] below meth c H1 locs1 63 1688 Q (F0 m 1450 ls [])) : W p l e room_1 s m #[Value.ref b] below meth c H locs 63 1688 Q (F0 m 491 ls []) := by
  obtain ⟨hx, hb, -, -, -⟩ := C.1
  obtain ⟨ans, A, B, hf, hg, hR⟩ := o_shift h (xs (i + 1)) (xs (i + 2)) (xs (i + 3))
  refine lv_aload_n hx hb dL_law_491 rfl (lv_at hl 2 rfl) ?_
  refine l_arg C hS (lv_at hl 3 rfl) (lv_at hl 0 rfl) hi 1 (by decide) (by decide) dL_law_492 dL_law_493 dL_law_494 dL_law_495 dL_law_496 ?_
  refine l_arg C hS (lv_at hl 3 rfl) (lv_at hl 0 rfl) hi 2 (by decide) (by decide) dL_law_497 dL_law_498 dL_law_499 dL_law_500 dL_law_501 ?_
  refine l_arg C hS (lv_at hl 3 rfl) (lv_at hl 0 rfl) hi 3 (by decide) (by decide) dL_law_502 dL_law_503 dL_law_504 dL_law_505 dL_law_506 ?_
  refine l_ci (l_run (As := [.int (xs (i + 1)), .int (xs (i + 2)), .int (xs (i + 3))]) (rest := []) C.1 C.2.2.2.1 C.n1 hP hS (c_X5_shift hf) gL_law_X5_shift rfl dsX5_shift rfl ⟨rfl, rfl⟩ ⟨Nat.le_of_ble_eq_true rfl, Nat.le_of_ble_eq_true rfl⟩ (by decide) (sX_0 K _) rfl hl.1 rfl (Nat.le_of_ble_eq_true rfl) dL_law_507 ⟨Nat.le_of_ble_eq_true rfl, Nat.le_of_ble_eq_true rfl⟩) C.n1 hS hN C.d12 (fun r M1 H locs hq hP hN hS => ?_)
  refine lv_aload_n hx hb dL_law_510 rfl (lv_at hl 1 rfl) ?_
  refine l_arg C hS (lv_at hl 3 rfl) (lv_at hl 0 rfl) hi 1 (by decide) (by decide) dL_law_511 dL_law_512 dL_law_513 dL_law_514 dL_law_515 ?_
  refine l_arg C hS (lv_at hl 3 rfl) (lv_at hl 0 rfl) hi 2 (by decide) (by decide) dL_law_516 dL_law_517 dL_law_518 dL_law_519 dL_law_520 ?_
  refine l_arg C hS (lv_at hl 3 rfl) (lv_at hl 0 rfl) hi 3 (by decide) (by decide) dL_law_521 dL_law_522 dL_law_523 dL_law_524 dL_law_525 ?_
  refine l_ci (l_run (As := [.int (xs (i + 1)), .int (xs (i + 2)), .int (xs (i + 3))]) (rest := [.int r]) C.1 C.2.2.2.2.1 C.n2 hN hS (c_X6_shift hg) gL_law_X6_shift rfl dsX6_shift rfl ⟨rfl, rfl⟩ ⟨Nat.le_of_ble_eq_true rfl, Nat.le_of_ble_eq_true rfl⟩ (by decide) (sM_0 K2 _) rfl hl.1 rfl (Nat.le_of_ble_eq_true rfl) dL_law_526 ⟨Nat.le_of_ble_eq_true rfl, Nat.le_of_ble_eq_true rfl⟩) C.n2 hS hP C.d21 (fun r2 N1 H locs hq2 hN hP hS => ?_)
  exact lv_icmp_eq (tgt := 1450) hx hb dL_law_529 (by decide) (fun _ => kk M1 N1 H locs (hR _ _ hq.2 hq2.2) hP hN hS) (fun z => absurd (hq.1.trans hq2.1.symm) z)
set_option maxHeartbeats 4000000 in
set_option maxRecDepth 100000 in
theorem lc_add (C : lx p s m c b L xs K K2) (hi : i + 6 ≤ L) (hl : lv_has ls 4 [(3, .int (nI i)), (2, .ref (kb K2 + 0)), (1, .ref (kb K + 0)), (0, .ref b)]) (h : RR M N) (hP : wP shX 51 K M H) (hN : wP shM 12 K2 N H) (hS : va_S (aL s) s.heap H locs)
    (kk : ∀ (M1 N1 : Mem) (H1 : Heap) (locs1 : List Loc), RR M1 N1 → wP shX 51 K M1 H1 → wP shM 12 K2 N1 H1 → va_S (aL s) s.heap H1 locs1 → W p l e room_1 s m #[Value.ref b] below meth c H1 locs1 63 1688 Q (F0 m 1450 ls [])) : W p l e room_1 s m #[Value.ref b] below meth c H locs 63 1688 Q (F0 m 534 ls []) := by
  obtain ⟨hx, hb, -, -, -⟩ := C.1
  obtain ⟨ans, A, B, hf, hg, hR⟩ := o_add h (xs (i + 1)) (xs (i + 2))
  refine lv_aload_n hx hb dL_law_534 rfl (lv_at hl 2 rfl) ?_
  refine l_arg C hS (lv_at hl 3 rfl) (lv_at hl 0 rfl) hi 1 (by decide) (by decide) dL_law_535 dL_law_536 dL_law_537 dL_law_538 dL_law_539 ?_
  refine l_arg C hS (lv_at hl 3 rfl) (lv_at hl 0 rfl) hi 2 (by decide) (by decide) dL_law_540 dL_law_541 dL_law_542 dL_law_543 dL_law_544 ?_
  refine l_ci (l_run (As := [.int (xs (i + 1)), .int (xs (i + 2))]) (rest := []) C.1 C.2.2.2.1 C.n1 hP hS (c_X5_add hf) gL_law_X5_add rfl dsX5_add rfl ⟨rfl, rfl⟩ ⟨Nat.le_of_ble_eq_true rfl, Nat.le_of_ble_eq_true rfl⟩ (by decide) (sX_0 K _) rfl hl.1 rfl (Nat.le_of_ble_eq_true rfl) dL_law_545 ⟨Nat.le_of_ble_eq_true rfl, Nat.le_of_ble_eq_true rfl⟩) C.n1 hS hN C.d12 (fun r M1 H locs hq hP hN hS => ?_)
  refine lv_aload_n hx hb dL_law_548 rfl (lv_at hl 1 rfl) ?_
  refine l_arg C hS (lv_at hl 3 rfl) (lv_at hl 0 rfl) hi 1 (by decide) (by decide) dL_law_549 dL_law_550 dL_law_551 dL_law_552 dL_law_553 ?_
  refine l_arg C hS (lv_at hl 3 rfl) (lv_at hl 0 rfl) hi 2 (by decide) (by decide) dL_law_554 dL_law_555 dL_law_556 dL_law_557 dL_law_558 ?_
  refine l_ci (l_run (As := [.int (xs (i + 1)), .int (xs (i + 2))]) (rest := [.int r]) C.1 C.2.2.2.2.1 C.n2 hN hS (c_X6_add hg) gL_law_X6_add rfl dsX6_add rfl ⟨rfl, rfl⟩ ⟨Nat.le_of_ble_eq_true rfl, Nat.le_of_ble_eq_true rfl⟩ (by decide) (sM_0 K2 _) rfl hl.1 rfl (Nat.le_of_ble_eq_true rfl) dL_law_559 ⟨Nat.le_of_ble_eq_true rfl, Nat.le_of_ble_eq_true rfl⟩) C.n2 hS hP C.d21 (fun r2 N1 H locs hq2 hN hP hS => ?_)
  exact lv_icmp_eq (tgt := 1450) hx hb dL_law_562 (by decide) (fun _ => kk M1 N1 H locs (hR _ _ hq.2 hq2.2) hP hN hS) (fun z => absurd (hq.1.trans hq2.1.symm) z)
set_option maxHeartbeats 4000000 in
set_option maxRecDepth 100000 in
theorem lc_drop (C : lx p s m c b L xs K K2) (hi : i + 6 ≤ L) (hl : lv_has ls 4 [(3, .int (nI i)), (2, .ref (kb K2 + 0)), (1, .ref (kb K + 0)), (0, .ref b)]) (h : RR M N) (hP : wP shX 51 K M H) (hN : wP shM 12 K2 N H) (hS : va_S (aL s) s.heap H locs)
    (kk : ∀ (M1 N1 : Mem) (H1 : Heap) (locs1 : List Loc), RR M1 N1 → wP shX 51 K M1 H1 → wP shM 12 K2 N1 H1 → va_S (aL s) s.heap H1 locs1 → W p l e room_1 s m #[Value.ref b] below meth c H1 locs1 63 1688 Q (F0 m 1450 ls [])) : W p l e room_1 s m #[Value.ref b] below meth c H locs 63 1688 Q (F0 m 567 ls []) := by
  obtain ⟨hx, hb, -, -, -⟩ := C.1
  obtain ⟨ans, A, B, hf, hg, hR⟩ := o_drop h (xs (i + 1))
  refine lv_aload_n hx hb dL_law_567 rfl (lv_at hl 2 rfl) ?_
  refine l_arg C hS (lv_at hl 3 rfl) (lv_at hl 0 rfl) hi 1 (by decide) (by decide) dL_law_568 dL_law_569 dL_law_570 dL_law_571 dL_law_572 ?_
  refine l_ci (l_run (As := [.int (xs (i + 1))]) (rest := []) C.1 C.2.2.2.1 C.n1 hP hS (c_X5_drop hf) gL_law_X5_drop rfl dsX5_drop rfl ⟨rfl, rfl⟩ ⟨Nat.le_of_ble_eq_true rfl, Nat.le_of_ble_eq_true rfl⟩ (by decide) (sX_0 K _) rfl hl.1 rfl (Nat.le_of_ble_eq_true rfl) dL_law_573 ⟨Nat.le_of_ble_eq_true rfl, Nat.le_of_ble_eq_true rfl⟩) C.n1 hS hN C.d12 (fun r M1 H locs hq hP hN hS => ?_)
  refine lv_aload_n hx hb dL_law_576 rfl (lv_at hl 1 rfl) ?_
  refine l_arg C hS (lv_at hl 3 rfl) (lv_at hl 0 rfl) hi 1 (by decide) (by decide) dL_law_577 dL_law_578 dL_law_579 dL_law_580 dL_law_581 ?_
  refine l_ci (l_run (As := [.int (xs (i + 1))]) (rest := [.int r]) C.1 C.2.2.2.2.1 C.n2 hN hS (c_X6_drop hg) gL_law_X6_drop rfl dsX6_drop rfl ⟨rfl, rfl⟩ ⟨Nat.le_of_ble_eq_true rfl, Nat.le_of_ble_eq_true rfl⟩ (by decide) (sM_0 K2 _) rfl hl.1 rfl (Nat.le_of_ble_eq_true rfl) dL_law_582 ⟨Nat.le_of_ble_eq_true rfl, Nat.le_of_ble_eq_true rfl⟩) C.n2 hS hP C.d21 (fun r2 N1 H locs hq2 hN hP hS => ?_)
  exact lv_icmp_eq (tgt := 1450) hx hb dL_law_585 (by decide) (fun _ => kk M1 N1 H locs (hR _ _ hq.2 hq2.2) hP hN hS) (fun z => absurd (hq.1.trans hq2.1.symm) z)
set_option maxHeartbeats 4000000 in
set_option maxRecDepth 100000 in
theorem lc_pole (C : lx p s m c b L xs K K2) (hi : i + 6 ≤ L) (hl : lv_has ls 4 [(3, .int (nI i)), (2, .ref (kb K2 + 0)), (1, .ref (kb K + 0)), (0, .ref b)]) (h : RR M N) (hP : wP shX 51 K M H) (hN : wP shM 12 K2 N H) (hS : va_S (aL s) s.heap H locs)
    (kk : ∀ (M1 N1 : Mem) (H1 : Heap) (locs1 : List Loc), RR M1 N1 → wP shX 51 K M1 H1 → wP shM 12 K2 N1 H1 → va_S (aL s) s.heap H1 locs1 → W p l e room_1 s m #[Value.ref b] below meth c H1 locs1 63 1688 Q (F0 m 1450 ls [])) : W p l e room_1 s m #[Value.ref b] below meth c H locs 63 1688 Q (F0 m 590 ls []) := by
  obtain ⟨hx, hb, -, -, -⟩ := C.1
  obtain ⟨ans, A, B, hf, hg, hR⟩ := o_pole h (xs (i + 1)) (xs (i + 2))
  refine lv_aload_n hx hb dL_law_590 rfl (lv_at hl 2 rfl) ?_
  refine l_arg C hS (lv_at hl 3 rfl) (lv_at hl 0 rfl) hi 1 (by decide) (by decide) dL_law_591 dL_law_592 dL_law_593 dL_law_594 dL_law_595 ?_
  refine l_arg C hS (lv_at hl 3 rfl) (lv_at hl 0 rfl) hi 2 (by decide) (by decide) dL_law_596 dL_law_597 dL_law_598 dL_law_599 dL_law_600 ?_
  refine l_ci (l_run (As := [.int (xs (i + 1)), .int (xs (i + 2))]) (rest := []) C.1 C.2.2.2.1 C.n1 hP hS (c_X5_pole hf) gL_law_X5_pole rfl dsX5_pole rfl ⟨rfl, rfl⟩ ⟨Nat.le_of_ble_eq_true rfl, Nat.le_of_ble_eq_true rfl⟩ (by decide) (sX_0 K _) rfl hl.1 rfl (Nat.le_of_ble_eq_true rfl) dL_law_601 ⟨Nat.le_of_ble_eq_true rfl, Nat.le_of_ble_eq_true rfl⟩) C.n1 hS hN C.d12 (fun r M1 H locs hq hP hN hS => ?_)
  refine lv_aload_n hx hb dL_law_604 rfl (lv_at hl 1 rfl) ?_
  refine l_arg C hS (lv_at hl 3 rfl) (lv_at hl 0 rfl) hi 1 (by decide) (by decide) dL_law_605 dL_law_606 dL_law_607 dL_law_608 dL_law_609 ?_
  refine l_arg C hS (lv_at hl 3 rfl) (lv_at hl 0 rfl) hi 2 (by decide) (by decide) dL_law_610 dL_law_611 dL_law_612 dL_law_613 dL_law_614 ?_
  refine l_ci (l_run (As := [.int (xs (i + 1)), .int (xs (i + 2))]) (rest := [.int r]) C.1 C.2.2.2.2.1 C.n2 hN hS (c_X6_pole hg) gL_law_X6_pole rfl dsX6_pole rfl ⟨rfl, rfl⟩ ⟨Nat.le_of_ble_eq_true rfl, Nat.le_of_ble_eq_true rfl⟩ (by decide) (sM_0 K2 _) rfl hl.1 rfl (Nat.le_of_ble_eq_true rfl) dL_law_615 ⟨Nat.le_of_ble_eq_true rfl, Nat.le_of_ble_eq_true rfl⟩) C.n2 hS hP C.d21 (fun r2 N1 H locs hq2 hN hP hS => ?_)
  exact lv_icmp_eq (tgt := 1450) hx hb dL_law_618 (by decide) (fun _ => kk M1 N1 H locs (hR _ _ hq.2 hq2.2) hP hN hS) (fun z => absurd (hq.1.trans hq2.1.symm) z)
set_option maxHeartbeats 4000000 in
set_option maxRecDepth 100000 in
theorem lc_trace (C : lx p s m c b L xs K K2) (hi : i + 6 ≤ L) (hl : lv_has ls 4 [(3, .int (nI i)), (2, .ref (kb K2 + 0)), (1, .ref (kb K + 0)), (0, .ref b)]) (h : RR M N) (hP : wP shX 51 K M H) (hN : wP shM 12 K2 N H) (hS : va_S (aL s) s.heap H locs)
    (kk : ∀ (M1 N1 : Mem) (H1 : Heap) (locs1 : List Loc), RR M1 N1 → wP shX 51 K M1 H1 → wP shM 12 K2 N1 H1 → va_S (aL s) s.heap H1 locs1 → W p l e room_1 s m #[Value.ref b] below meth c H1 locs1 63 1688 Q (F0 m 1450 ls [])) : W p l e room_1 s m #[Value.ref b] below meth c H locs 63 1688 Q (F0 m 623 ls []) := by
  obtain ⟨hx, hb, -, -, -⟩ := C.1
  obtain ⟨ans, A, B, hf, hg, hR⟩ := o_trace h (xs (i + 1))
  refine lv_aload_n hx hb dL_law_623 rfl (lv_at hl 2 rfl) ?_
  refine l_arg C hS (lv_at hl 3 rfl) (lv_at hl 0 rfl) hi 1 (by decide) (by decide) dL_law_624 dL_law_625 dL_law_626 dL_law_627 dL_law_628 ?_
  refine l_ci (l_run (As := [.int (xs (i + 1))]) (rest := []) C.1 C.2.2.2.1 C.n1 hP hS (c_X5_trace hf) gL_law_X5_trace rfl dsX5_trace rfl ⟨rfl, rfl⟩ ⟨Nat.le_of_ble_eq_true rfl, Nat.le_of_ble_eq_true rfl⟩ (by decide) (sX_0 K _) rfl hl.1 rfl (Nat.le_of_ble_eq_true rfl) dL_law_629 ⟨Nat.le_of_ble_eq_true rfl, Nat.le_of_ble_eq_true rfl⟩) C.n1 hS hN C.d12 (fun r M1 H locs hq hP hN hS => ?_)
  refine lv_aload_n hx hb dL_law_632 rfl (lv_at hl 1 rfl) ?_
  refine l_arg C hS (lv_at hl 3 rfl) (lv_at hl 0 rfl) hi 1 (by decide) (by decide) dL_law_633 dL_law_634 dL_law_635 dL_law_636 dL_law_637 ?_
  refine l_ci (l_run (As := [.int (xs (i + 1))]) (rest := [.int r]) C.1 C.2.2.2.2.1 C.n2 hN hS (c_X6_trace hg) gL_law_X6_trace rfl dsX6_trace rfl ⟨rfl, rfl⟩ ⟨Nat.le_of_ble_eq_true rfl, Nat.le_of_ble_eq_true rfl⟩ (by decide) (sM_0 K2 _) rfl hl.1 rfl (Nat.le_of_ble_eq_true rfl) dL_law_638 ⟨Nat.le_of_ble_eq_true rfl, Nat.le_of_ble_eq_true rfl⟩) C.n2 hS hP C.d21 (fun r2 N1 H locs hq2 hN hP hS => ?_)
  exact lv_icmp_eq (tgt := 1450) hx hb dL_law_641 (by decide) (fun _ => kk M1 N1 H locs (hR _ _ hq.2 hq2.2) hP hN hS) (fun z => absurd (hq.1.trans hq2.1.symm) z)
set_option maxHeartbeats 4000000 in
set_option maxRecDepth 100000 in
theorem lc_runs (C : lx p s m c b L xs K K2) (hi : i + 6 ≤ L) (hl : lv_has ls 4 [(3, .int (nI i)), (2, .ref (kb K2 + 0)), (1, .ref (kb K + 0)), (0, .ref b)]) (h : RR M N) (hP : wP shX 51 K M H) (hN : wP shM 12 K2 N H) (hS : va_S (aL s) s.heap H locs)
    (kk : ∀ (M1 N1 : Mem) (H1 : Heap) (locs1 : List Loc), RR M1 N1 → wP shX 51 K M1 H1 → wP shM 12 K2 N1 H1 → va_S (aL s) s.heap H1 locs1 → W p l e room_1 s m #[Value.ref b] below meth c H1 locs1 63 1688 Q (F0 m 1450 ls [])) : W p l e room_1 s m #[Value.ref b] below meth c H locs 63 1688 Q (F0 m 646 ls []) := by
  obtain ⟨hx, hb, -, -, -⟩ := C.1
  obtain ⟨ans, A, B, hf, hg, hR⟩ := o_runs h (xs (i + 1)) (xs (i + 2))
  refine lv_aload_n hx hb dL_law_646 rfl (lv_at hl 2 rfl) ?_
  refine l_arg C hS (lv_at hl 3 rfl) (lv_at hl 0 rfl) hi 1 (by decide) (by decide) dL_law_647 dL_law_648 dL_law_649 dL_law_650 dL_law_651 ?_
  refine l_arg C hS (lv_at hl 3 rfl) (lv_at hl 0 rfl) hi 2 (by decide) (by decide) dL_law_652 dL_law_653 dL_law_654 dL_law_655 dL_law_656 ?_
  refine l_ci (l_run (As := [.int (xs (i + 1)), .int (xs (i + 2))]) (rest := []) C.1 C.2.2.2.1 C.n1 hP hS (c_X5_runs hf) gL_law_X5_runs rfl dsX5_runs rfl ⟨rfl, rfl⟩ ⟨Nat.le_of_ble_eq_true rfl, Nat.le_of_ble_eq_true rfl⟩ (by decide) (sX_0 K _) rfl hl.1 rfl (Nat.le_of_ble_eq_true rfl) dL_law_657 ⟨Nat.le_of_ble_eq_true rfl, Nat.le_of_ble_eq_true rfl⟩) C.n1 hS hN C.d12 (fun r M1 H locs hq hP hN hS => ?_)
  refine lv_aload_n hx hb dL_law_660 rfl (lv_at hl 1 rfl) ?_
  refine l_arg C hS (lv_at hl 3 rfl) (lv_at hl 0 rfl) hi 1 (by decide) (by decide) dL_law_661 dL_law_662 dL_law_663 dL_law_664 dL_law_665 ?_
  refine l_arg C hS (lv_at hl 3 rfl) (lv_at hl 0 rfl) hi 2 (by decide) (by decide) dL_law_666 dL_law_667 dL_law_668 dL_law_669 dL_law_670 ?_
  refine l_ci (l_run (As := [.int (xs (i + 1)), .int (xs (i + 2))]) (rest := [.int r]) C.1 C.2.2.2.2.1 C.n2 hN hS (c_X6_runs hg) gL_law_X6_runs rfl dsX6_runs rfl ⟨rfl, rfl⟩ ⟨Nat.le_of_ble_eq_true rfl, Nat.le_of_ble_eq_true rfl⟩ (by decide) (sM_0 K2 _) rfl hl.1 rfl (Nat.le_of_ble_eq_true rfl) dL_law_671 ⟨Nat.le_of_ble_eq_true rfl, Nat.le_of_ble_eq_true rfl⟩) C.n2 hS hP C.d21 (fun r2 N1 H locs hq2 hN hP hS => ?_)
  exact lv_icmp_eq (tgt := 1450) hx hb dL_law_674 (by decide) (fun _ => kk M1 N1 H locs (hR _ _ hq.2 hq2.2) hP hN hS) (fun z => absurd (hq.1.trans hq2.1.symm) z)
set_option maxHeartbeats 4000000 in
set_option maxRecDepth 100000 in
theorem lc_ahead (C : lx p s m c b L xs K K2) (hi : i + 6 ≤ L) (hl : lv_has ls 4 [(3, .int (nI i)), (2, .ref (kb K2 + 0)), (1, .ref (kb K + 0)), (0, .ref b)]) (h : RR M N) (hP : wP shX 51 K M H) (hN : wP shM 12 K2 N H) (hS : va_S (aL s) s.heap H locs)
    (kk : ∀ (M1 N1 : Mem) (H1 : Heap) (locs1 : List Loc), RR M1 N1 → wP shX 51 K M1 H1 → wP shM 12 K2 N1 H1 → va_S (aL s) s.heap H1 locs1 → W p l e room_1 s m #[Value.ref b] below meth c H1 locs1 63 1688 Q (F0 m 1450 ls [])) : W p l e room_1 s m #[Value.ref b] below meth c H locs 63 1688 Q (F0 m 679 ls []) := by
  obtain ⟨hx, hb, -, -, -⟩ := C.1
  obtain ⟨ans, A, B, hf, hg, hR⟩ := o_ahead h (xs (i + 1)) (xs (i + 2))
  refine lv_aload_n hx hb dL_law_679 rfl (lv_at hl 2 rfl) ?_
  refine l_arg C hS (lv_at hl 3 rfl) (lv_at hl 0 rfl) hi 1 (by decide) (by decide) dL_law_680 dL_law_681 dL_law_682 dL_law_683 dL_law_684 ?_
  refine l_arg C hS (lv_at hl 3 rfl) (lv_at hl 0 rfl) hi 2 (by decide) (by decide) dL_law_685 dL_law_686 dL_law_687 dL_law_688 dL_law_689 ?_
  refine l_ci (l_run (As := [.int (xs (i + 1)), .int (xs (i + 2))]) (rest := []) C.1 C.2.2.2.1 C.n1 hP hS (c_X5_ahead hf) gL_law_X5_ahead rfl dsX5_ahead rfl ⟨rfl, rfl⟩ ⟨Nat.le_of_ble_eq_true rfl, Nat.le_of_ble_eq_true rfl⟩ (by decide) (sX_0 K _) rfl hl.1 rfl (Nat.le_of_ble_eq_true rfl) dL_law_690 ⟨Nat.le_of_ble_eq_true rfl, Nat.le_of_ble_eq_true rfl⟩) C.n1 hS hN C.d12 (fun r M1 H locs hq hP hN hS => ?_)
  refine lv_aload_n hx hb dL_law_693 rfl (lv_at hl 1 rfl) ?_
  refine l_arg C hS (lv_at hl 3 rfl) (lv_at hl 0 rfl) hi 1 (by decide) (by decide) dL_law_694 dL_law_695 dL_law_696 dL_law_697 dL_law_698 ?_
  refine l_arg C hS (lv_at hl 3 rfl) (lv_at hl 0 rfl) hi 2 (by decide) (by decide) dL_law_699 dL_law_700 dL_law_701 dL_law_702 dL_law_703 ?_
  refine l_ci (l_run (As := [.int (xs (i + 1)), .int (xs (i + 2))]) (rest := [.int r]) C.1 C.2.2.2.2.1 C.n2 hN hS (c_X6_ahead hg) gL_law_X6_ahead rfl dsX6_ahead rfl ⟨rfl, rfl⟩ ⟨Nat.le_of_ble_eq_true rfl, Nat.le_of_ble_eq_true rfl⟩ (by decide) (sM_0 K2 _) rfl hl.1 rfl (Nat.le_of_ble_eq_true rfl) dL_law_704 ⟨Nat.le_of_ble_eq_true rfl, Nat.le_of_ble_eq_true rfl⟩) C.n2 hS hP C.d21 (fun r2 N1 H locs hq2 hN hP hS => ?_)
  exact lv_icmp_eq (tgt := 1450) hx hb dL_law_707 (by decide) (fun _ => kk M1 N1 H locs (hR _ _ hq.2 hq2.2) hP hN hS) (fun z => absurd (hq.1.trans hq2.1.symm) z)
set_option maxHeartbeats 4000000 in
set_option maxRecDepth 100000 in
theorem lc_when (C : lx p s m c b L xs K K2) (hi : i + 6 ≤ L) (hl : lv_has ls 4 [(3, .int (nI i)), (2, .ref (kb K2 + 0)), (1, .ref (kb K + 0)), (0, .ref b)]) (h : RR M N) (hP : wP shX 51 K M H) (hN : wP shM 12 K2 N H) (hS : va_S (aL s) s.heap H locs)
    (kk : ∀ (M1 N1 : Mem) (H1 : Heap) (locs1 : List Loc), RR M1 N1 → wP shX 51 K M1 H1 → wP shM 12 K2 N1 H1 → va_S (aL s) s.heap H1 locs1 → W p l e room_1 s m #[Value.ref b] below meth c H1 locs1 63 1688 Q (F0 m 1450 ls [])) : W p l e room_1 s m #[Value.ref b] below meth c H locs 63 1688 Q (F0 m 712 ls []) := by
  obtain ⟨hx, hb, -, -, -⟩ := C.1
  obtain ⟨ans, A, B, hf, hg, hR⟩ := o_when h (xs (i + 1)) (xs (i + 2))
  refine lv_aload_n hx hb dL_law_712 rfl (lv_at hl 2 rfl) ?_
  refine l_arg C hS (lv_at hl 3 rfl) (lv_at hl 0 rfl) hi 1 (by decide) (by decide) dL_law_713 dL_law_714 dL_law_715 dL_law_716 dL_law_717 ?_
  refine l_arg C hS (lv_at hl 3 rfl) (lv_at hl 0 rfl) hi 2 (by decide) (by decide) dL_law_718 dL_law_719 dL_law_720 dL_law_721 dL_law_722 ?_
  refine l_ci (l_run (As := [.int (xs (i + 1)), .int (xs (i + 2))]) (rest := []) C.1 C.2.2.2.1 C.n1 hP hS (c_X5_when hf) gL_law_X5_when rfl dsX5_when rfl ⟨rfl, rfl⟩ ⟨Nat.le_of_ble_eq_true rfl, Nat.le_of_ble_eq_true rfl⟩ (by decide) (sX_0 K _) rfl hl.1 rfl (Nat.le_of_ble_eq_true rfl) dL_law_723 ⟨Nat.le_of_ble_eq_true rfl, Nat.le_of_ble_eq_true rfl⟩) C.n1 hS hN C.d12 (fun r M1 H locs hq hP hN hS => ?_)
  refine lv_aload_n hx hb dL_law_726 rfl (lv_at hl 1 rfl) ?_
  refine l_arg C hS (lv_at hl 3 rfl) (lv_at hl 0 rfl) hi 1 (by decide) (by decide) dL_law_727 dL_law_728 dL_law_729 dL_law_730 dL_law_731 ?_
  refine l_arg C hS (lv_at hl 3 rfl) (lv_at hl 0 rfl) hi 2 (by decide) (by decide) dL_law_732 dL_law_733 dL_law_734 dL_law_735 dL_law_736 ?_
  refine l_ci (l_run (As := [.int (xs (i + 1)), .int (xs (i + 2))]) (rest := [.int r]) C.1 C.2.2.2.2.1 C.n2 hN hS (c_X6_when hg) gL_law_X6_when rfl dsX6_when rfl ⟨rfl, rfl⟩ ⟨Nat.le_of_ble_eq_true rfl, Nat.le_of_ble_eq_true rfl⟩ (by decide) (sM_0 K2 _) rfl hl.1 rfl (Nat.le_of_ble_eq_true rfl) dL_law_737 ⟨Nat.le_of_ble_eq_true rfl, Nat.le_of_ble_eq_true rfl⟩) C.n2 hS hP C.d21 (fun r2 N1 H locs hq2 hN hP hS => ?_)
  exact lv_icmp_eq (tgt := 1450) hx hb dL_law_740 (by decide) (fun _ => kk M1 N1 H locs (hR _ _ hq.2 hq2.2) hP hN hS) (fun z => absurd (hq.1.trans hq2.1.symm) z)
set_option maxHeartbeats 4000000 in
set_option maxRecDepth 100000 in
theorem lc_best (C : lx p s m c b L xs K K2) (hi : i + 6 ≤ L) (hl : lv_has ls 4 [(3, .int (nI i)), (2, .ref (kb K2 + 0)), (1, .ref (kb K + 0)), (0, .ref b)]) (h : RR M N) (hP : wP shX 51 K M H) (hN : wP shM 12 K2 N H) (hS : va_S (aL s) s.heap H locs)
    (kk : ∀ (M1 N1 : Mem) (H1 : Heap) (locs1 : List Loc), RR M1 N1 → wP shX 51 K M1 H1 → wP shM 12 K2 N1 H1 → va_S (aL s) s.heap H1 locs1 → W p l e room_1 s m #[Value.ref b] below meth c H1 locs1 63 1688 Q (F0 m 1450 ls [])) : W p l e room_1 s m #[Value.ref b] below meth c H locs 63 1688 Q (F0 m 745 ls []) := by
  obtain ⟨hx, hb, -, -, -⟩ := C.1
  obtain ⟨ans, A, B, hf, hg, hR⟩ := o_best h (xs (i + 1)) (xs (i + 2))
  refine lv_aload_n hx hb dL_law_745 rfl (lv_at hl 2 rfl) ?_
  refine l_arg C hS (lv_at hl 3 rfl) (lv_at hl 0 rfl) hi 1 (by decide) (by decide) dL_law_746 dL_law_747 dL_law_748 dL_law_749 dL_law_750 ?_
  refine l_arg C hS (lv_at hl 3 rfl) (lv_at hl 0 rfl) hi 2 (by decide) (by decide) dL_law_751 dL_law_752 dL_law_753 dL_law_754 dL_law_755 ?_
  refine l_ci (l_run (As := [.int (xs (i + 1)), .int (xs (i + 2))]) (rest := []) C.1 C.2.2.2.1 C.n1 hP hS (c_X5_best hf) gL_law_X5_best rfl dsX5_best rfl ⟨rfl, rfl⟩ ⟨Nat.le_of_ble_eq_true rfl, Nat.le_of_ble_eq_true rfl⟩ (by decide) (sX_0 K _) rfl hl.1 rfl (Nat.le_of_ble_eq_true rfl) dL_law_756 ⟨Nat.le_of_ble_eq_true rfl, Nat.le_of_ble_eq_true rfl⟩) C.n1 hS hN C.d12 (fun r M1 H locs hq hP hN hS => ?_)
  refine lv_aload_n hx hb dL_law_759 rfl (lv_at hl 1 rfl) ?_
  refine l_arg C hS (lv_at hl 3 rfl) (lv_at hl 0 rfl) hi 1 (by decide) (by decide) dL_law_760 dL_law_761 dL_law_762 dL_law_763 dL_law_764 ?_
  refine l_arg C hS (lv_at hl 3 rfl) (lv_at hl 0 rfl) hi 2 (by decide) (by decide) dL_law_765 dL_law_766 dL_law_767 dL_law_768 dL_law_769 ?_
  refine l_ci (l_run (As := [.int (xs (i + 1)), .int (xs (i + 2))]) (rest := [.int r]) C.1 C.2.2.2.2.1 C.n2 hN hS (c_X6_best hg) gL_law_X6_best rfl dsX6_best rfl ⟨rfl, rfl⟩ ⟨Nat.le_of_ble_eq_true rfl, Nat.le_of_ble_eq_true rfl⟩ (by decide) (sM_0 K2 _) rfl hl.1 rfl (Nat.le_of_ble_eq_true rfl) dL_law_770 ⟨Nat.le_of_ble_eq_true rfl, Nat.le_of_ble_eq_true rfl⟩) C.n2 hS hP C.d21 (fun r2 N1 H locs hq2 hN hP hS => ?_)
  exact lv_icmp_eq (tgt := 1450) hx hb dL_law_773 (by decide) (fun _ => kk M1 N1 H locs (hR _ _ hq.2 hq2.2) hP hN hS) (fun z => absurd (hq.1.trans hq2.1.symm) z)
end LC
