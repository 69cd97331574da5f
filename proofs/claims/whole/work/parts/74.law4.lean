/-! the cases of the switch, the rest -/
section LC
variable {p : Program} {l : Launch} {e : Env} {s : State} {m : MethodId} {below : List Frame} {meth : Method} {c : Code} {H : Heap} {locs : List Loc} {Q : State → Prop} {ls : Array Slot} {b L i : Nat} {xs : Nat → Int32} {K K2 : wC} {M N : Mem}
set_option maxHeartbeats 4000000 in
set_option maxRecDepth 100000 in
theorem lc_step (C : lx p s m c b L xs K K2) (hi : i + 6 ≤ L) (hl : lv_has ls 4 [(3, .int (nI i)), (2, .ref (kb K2 + 0)), (1, .ref (kb K + 0)), (0, .ref b)]) (h : RR M N) (hP : wP shX 51 K M H) (hN : wP shM 12 K2 N H) (hS : va_S (aL s) s.heap H locs)
    (kk : ∀ (M1 N1 : Mem) (H1 : Heap) (locs1 : List Loc), RR M1 N1 → wP shX 51 K M1 H1 → wP shM 12 K2 N1 H1 → va_S (aL s) s.heap H1 locs1 → W p l e room_1 s m #[Value.ref b] below meth c H1 locs1 63 1688 Q (F0 m 1450 ls [])) : W p l e room_1 s m #[Value.ref b] below meth c H locs 63 1688 Q (F0 m 778 ls []) := by
  obtain ⟨hx, hb, -, -, -⟩ := C.1
  obtain ⟨ans, A, B, hf, hg, hR⟩ := o_step h (xs (i + 1)) (xs (i + 2))
  refine lv_aload_n hx hb dL_law_778 rfl (lv_at hl 2 rfl) ?_
  refine l_arg C hS (lv_at hl 3 rfl) (lv_at hl 0 rfl) hi 1 (by decide) (by decide) dL_law_779 dL_law_780 dL_law_781 dL_law_782 dL_law_783 ?_
  refine l_arg C hS (lv_at hl 3 rfl) (lv_at hl 0 rfl) hi 2 (by decide) (by decide) dL_law_784 dL_law_785 dL_law_786 dL_law_787 dL_law_788 ?_
  refine l_ci (l_run (As := [.int (xs (i + 1)), .int (xs (i + 2))]) (rest := []) C.1 C.2.2.2.1 C.n1 hP hS (c_X5_step hf) gL_law_X5_step rfl dsX5_step rfl ⟨rfl, rfl⟩ ⟨Nat.le_of_ble_eq_true rfl, Nat.le_of_ble_eq_true rfl⟩ (by decide) (sX_0 K _) rfl hl.1 rfl (Nat.le_of_ble_eq_true rfl) dL_law_789 ⟨Nat.le_of_ble_eq_true rfl, Nat.le_of_ble_eq_true rfl⟩) C.n1 hS hN C.d12 (fun r M1 H locs hq hP hN hS => ?_)
  refine lv_aload_n hx hb dL_law_792 rfl (lv_at hl 1 rfl) ?_
  refine l_arg C hS (lv_at hl 3 rfl) (lv_at hl 0 rfl) hi 1 (by decide) (by decide) dL_law_793 dL_law_794 dL_law_795 dL_law_796 dL_law_797 ?_
  refine l_arg C hS (lv_at hl 3 rfl) (lv_at hl 0 rfl) hi 2 (by decide) (by decide) dL_law_798 dL_law_799 dL_law_800 dL_law_801 dL_law_802 ?_
  refine l_ci (l_run (As := [.int (xs (i + 1)), .int (xs (i + 2))]) (rest := [.int r]) C.1 C.2.2.2.2.1 C.n2 hN hS (c_X6_step hg) gL_law_X6_step rfl dsX6_step rfl ⟨rfl, rfl⟩ ⟨Nat.le_of_ble_eq_true rfl, Nat.le_of_ble_eq_true rfl⟩ (by decide) (sM_0 K2 _) rfl hl.1 rfl (Nat.le_of_ble_eq_true rfl) dL_law_803 ⟨Nat.le_of_ble_eq_true rfl, Nat.le_of_ble_eq_true rfl⟩) C.n2 hS hP C.d21 (fun r2 N1 H locs hq2 hN hP hS => ?_)
  exact lv_icmp_eq (tgt := 1450) hx hb dL_law_806 (by decide) (fun _ => kk M1 N1 H locs (hR _ _ hq.2 hq2.2) hP hN hS) (fun z => absurd (hq.1.trans hq2.1.symm) z)
set_option maxHeartbeats 4000000 in
set_option maxRecDepth 100000 in
theorem lc_kind (C : lx p s m c b L xs K K2) (hi : i + 6 ≤ L) (hl : lv_has ls 4 [(3, .int (nI i)), (2, .ref (kb K2 + 0)), (1, .ref (kb K + 0)), (0, .ref b)]) (h : RR M N) (hP : wP shX 51 K M H) (hN : wP shM 12 K2 N H) (hS : va_S (aL s) s.heap H locs)
    (kk : ∀ (M1 N1 : Mem) (H1 : Heap) (locs1 : List Loc), RR M1 N1 → wP shX 51 K M1 H1 → wP shM 12 K2 N1 H1 → va_S (aL s) s.heap H1 locs1 → W p l e room_1 s m #[Value.ref b] below meth c H1 locs1 63 1688 Q (F0 m 1450 ls [])) : W p l e room_1 s m #[Value.ref b] below meth c H locs 63 1688 Q (F0 m 811 ls []) := by
  obtain ⟨hx, hb, -, -, -⟩ := C.1
  obtain ⟨ans, A, B, hf, hg, hR⟩ := o_kind h (xs (i + 1)) (xs (i + 2))
  refine lv_aload_n hx hb dL_law_811 rfl (lv_at hl 2 rfl) ?_
  refine l_arg C hS (lv_at hl 3 rfl) (lv_at hl 0 rfl) hi 1 (by decide) (by decide) dL_law_812 dL_law_813 dL_law_814 dL_law_815 dL_law_816 ?_
  refine l_arg C hS (lv_at hl 3 rfl) (lv_at hl 0 rfl) hi 2 (by decide) (by decide) dL_law_817 dL_law_818 dL_law_819 dL_law_820 dL_law_821 ?_
  refine l_ci (l_run (As := [.int (xs (i + 1)), .int (xs (i + 2))]) (rest := []) C.1 C.2.2.2.1 C.n1 hP hS (c_X5_kind hf) gL_law_X5_kind rfl dsX5_kind rfl ⟨rfl, rfl⟩ ⟨Nat.le_of_ble_eq_true rfl, Nat.le_of_ble_eq_true rfl⟩ (by decide) (sX_0 K _) rfl hl.1 rfl (Nat.le_of_ble_eq_true rfl) dL_law_822 ⟨Nat.le_of_ble_eq_true rfl, Nat.le_of_ble_eq_true rfl⟩) C.n1 hS hN C.d12 (fun r M1 H locs hq hP hN hS => ?_)
  refine lv_aload_n hx hb dL_law_825 rfl (lv_at hl 1 rfl) ?_
  refine l_arg C hS (lv_at hl 3 rfl) (lv_at hl 0 rfl) hi 1 (by decide) (by decide) dL_law_826 dL_law_827 dL_law_828 dL_law_829 dL_law_830 ?_
  refine l_arg C hS (lv_at hl 3 rfl) (lv_at hl 0 rfl) hi 2 (by decide) (by decide) dL_law_831 dL_law_832 dL_law_833 dL_law_834 dL_law_835 ?_
  refine l_ci (l_run (As := [.int (xs (i + 1)), .int (xs (i + 2))]) (rest := [.int r]) C.1 C.2.2.2.2.1 C.n2 hN hS (c_X6_kind hg) gL_law_X6_kind rfl dsX6_kind rfl ⟨rfl, rfl⟩ ⟨Nat.le_of_ble_eq_true rfl, Nat.le_of_ble_eq_true rfl⟩ (by decide) (sM_0 K2 _) rfl hl.1 rfl (Nat.le_of_ble_eq_true rfl) dL_law_836 ⟨Nat.le_of_ble_eq_true rfl, Nat.le_of_ble_eq_true rfl⟩) C.n2 hS hP C.d21 (fun r2 N1 H locs hq2 hN hP hS => ?_)
  exact lv_icmp_eq (tgt := 1450) hx hb dL_law_839 (by decide) (fun _ => kk M1 N1 H locs (hR _ _ hq.2 hq2.2) hP hN hS) (fun z => absurd (hq.1.trans hq2.1.symm) z)
set_option maxHeartbeats 4000000 in
set_option maxRecDepth 100000 in
theorem lc_place (C : lx p s m c b L xs K K2) (hi : i + 6 ≤ L) (hl : lv_has ls 4 [(3, .int (nI i)), (2, .ref (kb K2 + 0)), (1, .ref (kb K + 0)), (0, .ref b)]) (h : RR M N) (hP : wP shX 51 K M H) (hN : wP shM 12 K2 N H) (hS : va_S (aL s) s.heap H locs)
    (kk : ∀ (M1 N1 : Mem) (H1 : Heap) (locs1 : List Loc), RR M1 N1 → wP shX 51 K M1 H1 → wP shM 12 K2 N1 H1 → va_S (aL s) s.heap H1 locs1 → W p l e room_1 s m #[Value.ref b] below meth c H1 locs1 63 1688 Q (F0 m 1450 ls [])) : W p l e room_1 s m #[Value.ref b] below meth c H locs 63 1688 Q (F0 m 844 ls []) := by
  obtain ⟨hx, hb, -, -, -⟩ := C.1
  obtain ⟨ans, A, B, hf, hg, hR⟩ := o_place h (xs (i + 1)) (xs (i + 2))
  refine lv_aload_n hx hb dL_law_844 rfl (lv_at hl 2 rfl) ?_
  refine l_arg C hS (lv_at hl 3 rfl) (lv_at hl 0 rfl) hi 1 (by decide) (by decide) dL_law_845 dL_law_846 dL_law_847 dL_law_848 dL_law_849 ?_
  refine l_arg C hS (lv_at hl 3 rfl) (lv_at hl 0 rfl) hi 2 (by decide) (by decide) dL_law_850 dL_law_851 dL_law_852 dL_law_853 dL_law_854 ?_
  refine l_ci (l_run (As := [.int (xs (i + 1)), .int (xs (i + 2))]) (rest := []) C.1 C.2.2.2.1 C.n1 hP hS (c_X5_place hf) gL_law_X5_place rfl dsX5_place rfl ⟨rfl, rfl⟩ ⟨Nat.le_of_ble_eq_true rfl, Nat.le_of_ble_eq_true rfl⟩ (by decide) (sX_0 K _) rfl hl.1 rfl (Nat.le_of_ble_eq_true rfl) dL_law_855 ⟨Nat.le_of_ble_eq_true rfl, Nat.le_of_ble_eq_true rfl⟩) C.n1 hS hN C.d12 (fun r M1 H locs hq hP hN hS => ?_)
  refine lv_aload_n hx hb dL_law_858 rfl (lv_at hl 1 rfl) ?_
  refine l_arg C hS (lv_at hl 3 rfl) (lv_at hl 0 rfl) hi 1 (by decide) (by decide) dL_law_859 dL_law_860 dL_law_861 dL_law_862 dL_law_863 ?_
  refine l_arg C hS (lv_at hl 3 rfl) (lv_at hl 0 rfl) hi 2 (by decide) (by decide) dL_law_864 dL_law_865 dL_law_866 dL_law_867 dL_law_868 ?_
  refine l_ci (l_run (As := [.int (xs (i + 1)), .int (xs (i + 2))]) (rest := [.int r]) C.1 C.2.2.2.2.1 C.n2 hN hS (c_X6_place hg) gL_law_X6_place rfl dsX6_place rfl ⟨rfl, rfl⟩ ⟨Nat.le_of_ble_eq_true rfl, Nat.le_of_ble_eq_true rfl⟩ (by decide) (sM_0 K2 _) rfl hl.1 rfl (Nat.le_of_ble_eq_true rfl) dL_law_869 ⟨Nat.le_of_ble_eq_true rfl, Nat.le_of_ble_eq_true rfl⟩) C.n2 hS hP C.d21 (fun r2 N1 H locs hq2 hN hP hS => ?_)
  exact lv_icmp_eq (tgt := 1450) hx hb dL_law_872 (by decide) (fun _ => kk M1 N1 H locs (hR _ _ hq.2 hq2.2) hP hN hS) (fun z => absurd (hq.1.trans hq2.1.symm) z)
set_option maxHeartbeats 4000000 in
set_option maxRecDepth 100000 in
theorem lc_swap (C : lx p s m c b L xs K K2) (hi : i + 6 ≤ L) (hl : lv_has ls 4 [(3, .int (nI i)), (2, .ref (kb K2 + 0)), (1, .ref (kb K + 0)), (0, .ref b)]) (h : RR M N) (hP : wP shX 51 K M H) (hN : wP shM 12 K2 N H) (hS : va_S (aL s) s.heap H locs)
    (kk : ∀ (M1 N1 : Mem) (H1 : Heap) (locs1 : List Loc), RR M1 N1 → wP shX 51 K M1 H1 → wP shM 12 K2 N1 H1 → va_S (aL s) s.heap H1 locs1 → W p l e room_1 s m #[Value.ref b] below meth c H1 locs1 63 1688 Q (F0 m 1450 ls [])) : W p l e room_1 s m #[Value.ref b] below meth c H locs 63 1688 Q (F0 m 877 ls []) := by
  obtain ⟨hx, hb, -, -, -⟩ := C.1
  obtain ⟨ans, A, B, hf, hg, hR⟩ := o_swap h (xs (i + 1))
  refine lv_aload_n hx hb dL_law_877 rfl (lv_at hl 2 rfl) ?_
  refine l_arg C hS (lv_at hl 3 rfl) (lv_at hl 0 rfl) hi 1 (by decide) (by decide) dL_law_878 dL_law_879 dL_law_880 dL_law_881 dL_law_882 ?_
  refine l_ci (l_run (As := [.int (xs (i + 1))]) (rest := []) C.1 C.2.2.2.1 C.n1 hP hS (c_X5_swap hf) gL_law_X5_swap rfl dsX5_swap rfl ⟨rfl, rfl⟩ ⟨Nat.le_of_ble_eq_true rfl, Nat.le_of_ble_eq_true rfl⟩ (by decide) (sX_0 K _) rfl hl.1 rfl (Nat.le_of_ble_eq_true rfl) dL_law_883 ⟨Nat.le_of_ble_eq_true rfl, Nat.le_of_ble_eq_true rfl⟩) C.n1 hS hN C.d12 (fun r M1 H locs hq hP hN hS => ?_)
  refine lv_aload_n hx hb dL_law_886 rfl (lv_at hl 1 rfl) ?_
  refine l_arg C hS (lv_at hl 3 rfl) (lv_at hl 0 rfl) hi 1 (by decide) (by decide) dL_law_887 dL_law_888 dL_law_889 dL_law_890 dL_law_891 ?_
  refine l_ci (l_run (As := [.int (xs (i + 1))]) (rest := [.int r]) C.1 C.2.2.2.2.1 C.n2 hN hS (c_X6_swap hg) gL_law_X6_swap rfl dsX6_swap rfl ⟨rfl, rfl⟩ ⟨Nat.le_of_ble_eq_true rfl, Nat.le_of_ble_eq_true rfl⟩ (by decide) (sM_0 K2 _) rfl hl.1 rfl (Nat.le_of_ble_eq_true rfl) dL_law_892 ⟨Nat.le_of_ble_eq_true rfl, Nat.le_of_ble_eq_true rfl⟩) C.n2 hS hP C.d21 (fun r2 N1 H locs hq2 hN hP hS => ?_)
  exact lv_icmp_eq (tgt := 1450) hx hb dL_law_895 (by decide) (fun _ => kk M1 N1 H locs (hR _ _ hq.2 hq2.2) hP hN hS) (fun z => absurd (hq.1.trans hq2.1.symm) z)
set_option maxHeartbeats 4000000 in
set_option maxRecDepth 100000 in
theorem lc_out (C : lx p s m c b L xs K K2) (hi : i + 6 ≤ L) (hl : lv_has ls 4 [(3, .int (nI i)), (2, .ref (kb K2 + 0)), (1, .ref (kb K + 0)), (0, .ref b)]) (h : RR M N) (hP : wP shX 51 K M H) (hN : wP shM 12 K2 N H) (hS : va_S (aL s) s.heap H locs)
    (kk : ∀ (M1 N1 : Mem) (H1 : Heap) (locs1 : List Loc), RR M1 N1 → wP shX 51 K M1 H1 → wP shM 12 K2 N1 H1 → va_S (aL s) s.heap H1 locs1 → W p l e room_1 s m #[Value.ref b] below meth c H1 locs1 63 1688 Q (F0 m 1450 ls [])) : W p l e room_1 s m #[Value.ref b] below meth c H locs 63 1688 Q (F0 m 900 ls []) := by
  obtain ⟨hx, hb, -, -, -⟩ := C.1
  obtain ⟨ans, A, B, hf, hg, hR⟩ := o_out h (xs (i + 1))
  refine lv_aload_n hx hb dL_law_900 rfl (lv_at hl 2 rfl) ?_
  refine l_arg C hS (lv_at hl 3 rfl) (lv_at hl 0 rfl) hi 1 (by decide) (by decide) dL_law_901 dL_law_902 dL_law_903 dL_law_904 dL_law_905 ?_
  refine l_ci (l_run (As := [.int (xs (i + 1))]) (rest := []) C.1 C.2.2.2.1 C.n1 hP hS (c_X5_out hf) gL_law_X5_out rfl dsX5_out rfl ⟨rfl, rfl⟩ ⟨Nat.le_of_ble_eq_true rfl, Nat.le_of_ble_eq_true rfl⟩ (by decide) (sX_0 K _) rfl hl.1 rfl (Nat.le_of_ble_eq_true rfl) dL_law_906 ⟨Nat.le_of_ble_eq_true rfl, Nat.le_of_ble_eq_true rfl⟩) C.n1 hS hN C.d12 (fun r M1 H locs hq hP hN hS => ?_)
  refine lv_aload_n hx hb dL_law_909 rfl (lv_at hl 1 rfl) ?_
  refine l_arg C hS (lv_at hl 3 rfl) (lv_at hl 0 rfl) hi 1 (by decide) (by decide) dL_law_910 dL_law_911 dL_law_912 dL_law_913 dL_law_914 ?_
  refine l_ci (l_run (As := [.int (xs (i + 1))]) (rest := [.int r]) C.1 C.2.2.2.2.1 C.n2 hN hS (c_X6_out hg) gL_law_X6_out rfl dsX6_out rfl ⟨rfl, rfl⟩ ⟨Nat.le_of_ble_eq_true rfl, Nat.le_of_ble_eq_true rfl⟩ (by decide) (sM_0 K2 _) rfl hl.1 rfl (Nat.le_of_ble_eq_true rfl) dL_law_915 ⟨Nat.le_of_ble_eq_true rfl, Nat.le_of_ble_eq_true rfl⟩) C.n2 hS hP C.d21 (fun r2 N1 H locs hq2 hN hP hS => ?_)
  exact lv_icmp_eq (tgt := 1450) hx hb dL_law_918 (by decide) (fun _ => kk M1 N1 H locs (hR _ _ hq.2 hq2.2) hP hN hS) (fun z => absurd (hq.1.trans hq2.1.symm) z)
set_option maxHeartbeats 4000000 in
set_option maxRecDepth 100000 in
theorem lc_luck (C : lx p s m c b L xs K K2) (hi : i + 6 ≤ L) (hl : lv_has ls 4 [(3, .int (nI i)), (2, .ref (kb K2 + 0)), (1, .ref (kb K + 0)), (0, .ref b)]) (h : RR M N) (hP : wP shX 51 K M H) (hN : wP shM 12 K2 N H) (hS : va_S (aL s) s.heap H locs)
    (kk : ∀ (M1 N1 : Mem) (H1 : Heap) (locs1 : List Loc), RR M1 N1 → wP shX 51 K M1 H1 → wP shM 12 K2 N1 H1 → va_S (aL s) s.heap H1 locs1 → W p l e room_1 s m #[Value.ref b] below meth c H1 locs1 63 1688 Q (F0 m 1450 ls [])) : W p l e room_1 s m #[Value.ref b] below meth c H locs 63 1688 Q (F0 m 923 ls []) := by
  obtain ⟨hx, hb, -, -, -⟩ := C.1
  obtain ⟨ans, A, B, hf, hg, hR⟩ := o_luck h (xs (i + 1)) (xs (i + 2)) (xs (i + 3)) (xs (i + 4)) (xs (i + 5))
  refine lv_aload_n hx hb dL_law_923 rfl (lv_at hl 2 rfl) ?_
  refine l_arg C hS (lv_at hl 3 rfl) (lv_at hl 0 rfl) hi 1 (by decide) (by decide) dL_law_924 dL_law_925 dL_law_926 dL_law_927 dL_law_928 ?_
  refine l_arg C hS (lv_at hl 3 rfl) (lv_at hl 0 rfl) hi 2 (by decide) (by decide) dL_law_929 dL_law_930 dL_law_931 dL_law_932 dL_law_933 ?_
  refine l_arg C hS (lv_at hl 3 rfl) (lv_at hl 0 rfl) hi 3 (by decide) (by decide) dL_law_934 dL_law_935 dL_law_936 dL_law_937 dL_law_938 ?_
  refine l_arg C hS (lv_at hl 3 rfl) (lv_at hl 0 rfl) hi 4 (by decide) (by decide) dL_law_939 dL_law_940 dL_law_941 dL_law_942 dL_law_943 ?_
  refine l_arg C hS (lv_at hl 3 rfl) (lv_at hl 0 rfl) hi 5 (by decide) (by decide) dL_law_944 dL_law_945 dL_law_946 dL_law_947 dL_law_948 ?_
  refine l_cl (l_run (As := [.int (xs (i + 1)), .int (xs (i + 2)), .int (xs (i + 3)), .int (xs (i + 4)), .int (xs (i + 5))]) (rest := []) C.1 C.2.2.2.1 C.n1 hP hS (c_X5_luck hf) gL_law_X5_luck rfl dsX5_luck rfl ⟨rfl, rfl⟩ ⟨Nat.le_of_ble_eq_true rfl, Nat.le_of_ble_eq_true rfl⟩ (by decide) (sX_0 K _) rfl hl.1 rfl (Nat.le_of_ble_eq_true rfl) dL_law_949 ⟨Nat.le_of_ble_eq_true rfl, Nat.le_of_ble_eq_true rfl⟩) C.n1 hS hN C.d12 (fun r M1 H locs hq hP hN hS => ?_)
  refine lv_aload_n hx hb dL_law_952 rfl (lv_at hl 1 rfl) ?_
  refine l_arg C hS (lv_at hl 3 rfl) (lv_at hl 0 rfl) hi 1 (by decide) (by decide) dL_law_953 dL_law_954 dL_law_955 dL_law_956 dL_law_957 ?_
  refine l_arg C hS (lv_at hl 3 rfl) (lv_at hl 0 rfl) hi 2 (by decide) (by decide) dL_law_958 dL_law_959 dL_law_960 dL_law_961 dL_law_962 ?_
  refine l_arg C hS (lv_at hl 3 rfl) (lv_at hl 0 rfl) hi 3 (by decide) (by decide) dL_law_963 dL_law_964 dL_law_965 dL_law_966 dL_law_967 ?_
  refine l_arg C hS (lv_at hl 3 rfl) (lv_at hl 0 rfl) hi 4 (by decide) (by decide) dL_law_968 dL_law_969 dL_law_970 dL_law_971 dL_law_972 ?_
  refine l_arg C hS (lv_at hl 3 rfl) (lv_at hl 0 rfl) hi 5 (by decide) (by decide) dL_law_973 dL_law_974 dL_law_975 dL_law_976 dL_law_977 ?_
  refine l_cl (l_run (As := [.int (xs (i + 1)), .int (xs (i + 2)), .int (xs (i + 3)), .int (xs (i + 4)), .int (xs (i + 5))]) (rest := [.long r]) C.1 C.2.2.2.2.1 C.n2 hN hS (c_X6_luck hg) gL_law_X6_luck rfl dsX6_luck rfl ⟨rfl, rfl⟩ ⟨Nat.le_of_ble_eq_true rfl, Nat.le_of_ble_eq_true rfl⟩ (by decide) (sM_0 K2 _) rfl hl.1 rfl (Nat.le_of_ble_eq_true rfl) dL_law_978 ⟨Nat.le_of_ble_eq_true rfl, Nat.le_of_ble_eq_true rfl⟩) C.n2 hS hP C.d21 (fun r2 N1 H locs hq2 hN hP hS => ?_)
  refine W.lcmp hx hb dL_law_981 ?_
  exact lv_if_eq (tgt := 1450) hx hb dL_law_982 (by decide) (fun _ => kk M1 N1 H locs (hR _ _ hq.2 hq2.2) hP hN hS) (fun z => absurd ((lg_cmp_eq r r2).mpr (hq.1.trans hq2.1.symm)) z)
set_option maxHeartbeats 4000000 in
set_option maxRecDepth 100000 in
theorem lc_mean (C : lx p s m c b L xs K K2) (hi : i + 6 ≤ L) (hl : lv_has ls 4 [(3, .int (nI i)), (2, .ref (kb K2 + 0)), (1, .ref (kb K + 0)), (0, .ref b)]) (h : RR M N) (hP : wP shX 51 K M H) (hN : wP shM 12 K2 N H) (hS : va_S (aL s) s.heap H locs)
    (kk : ∀ (M1 N1 : Mem) (H1 : Heap) (locs1 : List Loc), RR M1 N1 → wP shX 51 K M1 H1 → wP shM 12 K2 N1 H1 → va_S (aL s) s.heap H1 locs1 → W p l e room_1 s m #[Value.ref b] below meth c H1 locs1 63 1688 Q (F0 m 1450 ls [])) : W p l e room_1 s m #[Value.ref b] below meth c H locs 63 1688 Q (F0 m 987 ls []) := by
  obtain ⟨hx, hb, -, -, -⟩ := C.1
  obtain ⟨ans, A, B, hf, hg, hR⟩ := o_mean h (xs (i + 1)) (xs (i + 2)) (xs (i + 3)) (xs (i + 4))
  refine lv_aload_n hx hb dL_law_987 rfl (lv_at hl 2 rfl) ?_
  refine l_arg C hS (lv_at hl 3 rfl) (lv_at hl 0 rfl) hi 1 (by decide) (by decide) dL_law_988 dL_law_989 dL_law_990 dL_law_991 dL_law_992 ?_
  refine l_arg C hS (lv_at hl 3 rfl) (lv_at hl 0 rfl) hi 2 (by decide) (by decide) dL_law_993 dL_law_994 dL_law_995 dL_law_996 dL_law_997 ?_
  refine l_arg C hS (lv_at hl 3 rfl) (lv_at hl 0 rfl) hi 3 (by decide) (by decide) dL_law_998 dL_law_999 dL_law_1000 dL_law_1001 dL_law_1002 ?_
  refine l_arg C hS (lv_at hl 3 rfl) (lv_at hl 0 rfl) hi 4 (by decide) (by decide) dL_law_1003 dL_law_1004 dL_law_1005 dL_law_1006 dL_law_1007 ?_
  refine l_cl (l_run (As := [.int (xs (i + 1)), .int (xs (i + 2)), .int (xs (i + 3)), .int (xs (i + 4))]) (rest := []) C.1 C.2.2.2.1 C.n1 hP hS (c_X5_mean hf) gL_law_X5_mean rfl dsX5_mean rfl ⟨rfl, rfl⟩ ⟨Nat.le_of_ble_eq_true rfl, Nat.le_of_ble_eq_true rfl⟩ (by decide) (sX_0 K _) rfl hl.1 rfl (Nat.le_of_ble_eq_true rfl) dL_law_1008 ⟨Nat.le_of_ble_eq_true rfl, Nat.le_of_ble_eq_true rfl⟩) C.n1 hS hN C.d12 (fun r M1 H locs hq hP hN hS => ?_)
  refine lv_aload_n hx hb dL_law_1011 rfl (lv_at hl 1 rfl) ?_
  refine l_arg C hS (lv_at hl 3 rfl) (lv_at hl 0 rfl) hi 1 (by decide) (by decide) dL_law_1012 dL_law_1013 dL_law_1014 dL_law_1015 dL_law_1016 ?_
  refine l_arg C hS (lv_at hl 3 rfl) (lv_at hl 0 rfl) hi 2 (by decide) (by decide) dL_law_1017 dL_law_1018 dL_law_1019 dL_law_1020 dL_law_1021 ?_
  refine l_arg C hS (lv_at hl 3 rfl) (lv_at hl 0 rfl) hi 3 (by decide) (by decide) dL_law_1022 dL_law_1023 dL_law_1024 dL_law_1025 dL_law_1026 ?_
  refine l_arg C hS (lv_at hl 3 rfl) (lv_at hl 0 rfl) hi 4 (by decide) (by decide) dL_law_1027 dL_law_1028 dL_law_1029 dL_law_1030 dL_law_1031 ?_
  refine l_cl (l_run (As := [.int (xs (i + 1)), .int (xs (i + 2)), .int (xs (i + 3)), .int (xs (i + 4))]) (rest := [.long r]) C.1 C.2.2.2.2.1 C.n2 hN hS (c_X6_mean hg) gL_law_X6_mean rfl dsX6_mean rfl ⟨rfl, rfl⟩ ⟨Nat.le_of_ble_eq_true rfl, Nat.le_of_ble_eq_true rfl⟩ (by decide) (sM_0 K2 _) rfl hl.1 rfl (Nat.le_of_ble_eq_true rfl) dL_law_1032 ⟨Nat.le_of_ble_eq_true rfl, Nat.le_of_ble_eq_true rfl⟩) C.n2 hS hP C.d21 (fun r2 N1 H locs hq2 hN hP hS => ?_)
  refine W.lcmp hx hb dL_law_1035 ?_
  exact lv_if_eq (tgt := 1450) hx hb dL_law_1036 (by decide) (fun _ => kk M1 N1 H locs (hR _ _ hq.2 hq2.2) hP hN hS) (fun z => absurd ((lg_cmp_eq r r2).mpr (hq.1.trans hq2.1.symm)) z)
set_option maxHeartbeats 4000000 in
set_option maxRecDepth 100000 in
theorem lc_see (C : lx p s m c b L xs K K2) (hi : i + 6 ≤ L) (hl : lv_has ls 4 [(3, .int (nI i)), (2, .ref (kb K2 + 0)), (1, .ref (kb K + 0)), (0, .ref b)]) (h : RR M N) (hP : wP shX 51 K M H) (hN : wP shM 12 K2 N H) (hS : va_S (aL s) s.heap H locs)
    (kk : ∀ (M1 N1 : Mem) (H1 : Heap) (locs1 : List Loc), RR M1 N1 → wP shX 51 K M1 H1 → wP shM 12 K2 N1 H1 → va_S (aL s) s.heap H1 locs1 → W p l e room_1 s m #[Value.ref b] below meth c H1 locs1 63 1688 Q (F0 m 1450 ls [])) : W p l e room_1 s m #[Value.ref b] below meth c H locs 63 1688 Q (F0 m 1041 ls []) := by
  obtain ⟨hx, hb, -, -, -⟩ := C.1
  obtain ⟨ans, A, B, hf, hg, hR⟩ := o_see h (xs (i + 1)) (xs (i + 2)) (xs (i + 3))
  refine lv_aload_n hx hb dL_law_1041 rfl (lv_at hl 2 rfl) ?_
  refine l_arg C hS (lv_at hl 3 rfl) (lv_at hl 0 rfl) hi 1 (by decide) (by decide) dL_law_1042 dL_law_1043 dL_law_1044 dL_law_1045 dL_law_1046 ?_
  refine l_arg C hS (lv_at hl 3 rfl) (lv_at hl 0 rfl) hi 2 (by decide) (by decide) dL_law_1047 dL_law_1048 dL_law_1049 dL_law_1050 dL_law_1051 ?_
  refine l_arg C hS (lv_at hl 3 rfl) (lv_at hl 0 rfl) hi 3 (by decide) (by decide) dL_law_1052 dL_law_1053 dL_law_1054 dL_law_1055 dL_law_1056 ?_
  refine l_ci (l_run (As := [.int (xs (i + 1)), .int (xs (i + 2)), .int (xs (i + 3))]) (rest := []) C.1 C.2.2.2.1 C.n1 hP hS (c_X5_see hf) gL_law_X5_see rfl dsX5_see rfl ⟨rfl, rfl⟩ ⟨Nat.le_of_ble_eq_true rfl, Nat.le_of_ble_eq_true rfl⟩ (by decide) (sX_0 K _) rfl hl.1 rfl (Nat.le_of_ble_eq_true rfl) dL_law_1057 ⟨Nat.le_of_ble_eq_true rfl, Nat.le_of_ble_eq_true rfl⟩) C.n1 hS hN C.d12 (fun r M1 H locs hq hP hN hS => ?_)
  refine lv_aload_n hx hb dL_law_1060 rfl (lv_at hl 1 rfl) ?_
  refine l_arg C hS (lv_at hl 3 rfl) (lv_at hl 0 rfl) hi 1 (by decide) (by decide) dL_law_1061 dL_law_1062 dL_law_1063 dL_law_1064 dL_law_1065 ?_
  refine l_arg C hS (lv_at hl 3 rfl) (lv_at hl 0 rfl) hi 2 (by decide) (by decide) dL_law_1066 dL_law_1067 dL_law_1068 dL_law_1069 dL_law_1070 ?_
  refine l_arg C hS (lv_at hl 3 rfl) (lv_at hl 0 rfl) hi 3 (by decide) (by decide) dL_law_1071 dL_law_1072 dL_law_1073 dL_law_1074 dL_law_1075 ?_
  refine l_ci (l_run (As := [.int (xs (i + 1)), .int (xs (i + 2)), .int (xs (i + 3))]) (rest := [.int r]) C.1 C.2.2.2.2.1 C.n2 hN hS (c_X6_see hg) gL_law_X6_see rfl dsX6_see rfl ⟨rfl, rfl⟩ ⟨Nat.le_of_ble_eq_true rfl, Nat.le_of_ble_eq_true rfl⟩ (by decide) (sM_0 K2 _) rfl hl.1 rfl (Nat.le_of_ble_eq_true rfl) dL_law_1076 ⟨Nat.le_of_ble_eq_true rfl, Nat.le_of_ble_eq_true rfl⟩) C.n2 hS hP C.d21 (fun r2 N1 H locs hq2 hN hP hS => ?_)
  exact lv_icmp_eq (tgt := 1450) hx hb dL_law_1079 (by decide) (fun _ => kk M1 N1 H locs (hR _ _ hq.2 hq2.2) hP hN hS) (fun z => absurd (hq.1.trans hq2.1.symm) z)
set_option maxHeartbeats 4000000 in
set_option maxRecDepth 100000 in
theorem lc_forget (C : lx p s m c b L xs K K2) (hi : i + 6 ≤ L) (hl : lv_has ls 4 [(3, .int (nI i)), (2, .ref (kb K2 + 0)), (1, .ref (kb K + 0)), (0, .ref b)]) (h : RR M N) (hP : wP shX 51 K M H) (hN : wP shM 12 K2 N H) (hS : va_S (aL s) s.heap H locs)
    (kk : ∀ (M1 N1 : Mem) (H1 : Heap) (locs1 : List Loc), RR M1 N1 → wP shX 51 K M1 H1 → wP shM 12 K2 N1 H1 → va_S (aL s) s.heap H1 locs1 → W p l e room_1 s m #[Value.ref b] below meth c H1 locs1 63 1688 Q (F0 m 1450 ls [])) : W p l e room_1 s m #[Value.ref b] below meth c H locs 63 1688 Q (F0 m 1084 ls []) := by
  obtain ⟨hx, hb, -, -, -⟩ := C.1
  obtain ⟨ans, A, B, hf, hg, hR⟩ := o_forget h (xs (i + 1))
  refine lv_aload_n hx hb dL_law_1084 rfl (lv_at hl 2 rfl) ?_
  refine l_arg C hS (lv_at hl 3 rfl) (lv_at hl 0 rfl) hi 1 (by decide) (by decide) dL_law_1085 dL_law_1086 dL_law_1087 dL_law_1088 dL_law_1089 ?_
  refine l_ci (l_run (As := [.int (xs (i + 1))]) (rest := []) C.1 C.2.2.2.1 C.n1 hP hS (c_X5_forget hf) gL_law_X5_forget rfl dsX5_forget rfl ⟨rfl, rfl⟩ ⟨Nat.le_of_ble_eq_true rfl, Nat.le_of_ble_eq_true rfl⟩ (by decide) (sX_0 K _) rfl hl.1 rfl (Nat.le_of_ble_eq_true rfl) dL_law_1090 ⟨Nat.le_of_ble_eq_true rfl, Nat.le_of_ble_eq_true rfl⟩) C.n1 hS hN C.d12 (fun r M1 H locs hq hP hN hS => ?_)
  refine lv_aload_n hx hb dL_law_1093 rfl (lv_at hl 1 rfl) ?_
  refine l_arg C hS (lv_at hl 3 rfl) (lv_at hl 0 rfl) hi 1 (by decide) (by decide) dL_law_1094 dL_law_1095 dL_law_1096 dL_law_1097 dL_law_1098 ?_
  refine l_ci (l_run (As := [.int (xs (i + 1))]) (rest := [.int r]) C.1 C.2.2.2.2.1 C.n2 hN hS (c_X6_forget hg) gL_law_X6_forget rfl dsX6_forget rfl ⟨rfl, rfl⟩ ⟨Nat.le_of_ble_eq_true rfl, Nat.le_of_ble_eq_true rfl⟩ (by decide) (sM_0 K2 _) rfl hl.1 rfl (Nat.le_of_ble_eq_true rfl) dL_law_1099 ⟨Nat.le_of_ble_eq_true rfl, Nat.le_of_ble_eq_true rfl⟩) C.n2 hS hP C.d21 (fun r2 N1 H locs hq2 hN hP hS => ?_)
  exact lv_icmp_eq (tgt := 1450) hx hb dL_law_1102 (by decide) (fun _ => kk M1 N1 H locs (hR _ _ hq.2 hq2.2) hP hN hS) (fun z => absurd (hq.1.trans hq2.1.symm) z)
set_option maxHeartbeats 4000000 in
set_option maxRecDepth 100000 in
theorem lc_kinds (C : lx p s m c b L xs K K2) (hi : i + 6 ≤ L) (hl : lv_has ls 4 [(3, .int (nI i)), (2, .ref (kb K2 + 0)), (1, .ref (kb K + 0)), (0, .ref b)]) (h : RR M N) (hP : wP shX 51 K M H) (hN : wP shM 12 K2 N H) (hS : va_S (aL s) s.heap H locs)
    (kk : ∀ (M1 N1 : Mem) (H1 : Heap) (locs1 : List Loc), RR M1 N1 → wP shX 51 K M1 H1 → wP shM 12 K2 N1 H1 → va_S (aL s) s.heap H1 locs1 → W p l e room_1 s m #[Value.ref b] below meth c H1 locs1 63 1688 Q (F0 m 1450 ls [])) : W p l e room_1 s m #[Value.ref b] below meth c H locs 63 1688 Q (F0 m 1107 ls []) := by
  obtain ⟨hx, hb, -, -, -⟩ := C.1
  obtain ⟨ans, A, B, hf, hg, hR⟩ := o_kinds h (xs (i + 1))
  refine lv_aload_n hx hb dL_law_1107 rfl (lv_at hl 2 rfl) ?_
  refine l_arg C hS (lv_at hl 3 rfl) (lv_at hl 0 rfl) hi 1 (by decide) (by decide) dL_law_1108 dL_law_1109 dL_law_1110 dL_law_1111 dL_law_1112 ?_
  refine l_ci (l_run (As := [.int (xs (i + 1))]) (rest := []) C.1 C.2.2.2.1 C.n1 hP hS (c_X5_kinds hf) gL_law_X5_kinds rfl dsX5_kinds rfl ⟨rfl, rfl⟩ ⟨Nat.le_of_ble_eq_true rfl, Nat.le_of_ble_eq_true rfl⟩ (by decide) (sX_0 K _) rfl hl.1 rfl (Nat.le_of_ble_eq_true rfl) dL_law_1113 ⟨Nat.le_of_ble_eq_true rfl, Nat.le_of_ble_eq_true rfl⟩) C.n1 hS hN C.d12 (fun r M1 H locs hq hP hN hS => ?_)
  refine lv_aload_n hx hb dL_law_1116 rfl (lv_at hl 1 rfl) ?_
  refine l_arg C hS (lv_at hl 3 rfl) (lv_at hl 0 rfl) hi 1 (by decide) (by decide) dL_law_1117 dL_law_1118 dL_law_1119 dL_law_1120 dL_law_1121 ?_
  refine l_ci (l_run (As := [.int (xs (i + 1))]) (rest := [.int r]) C.1 C.2.2.2.2.1 C.n2 hN hS (c_X6_kinds hg) gL_law_X6_kinds rfl dsX6_kinds rfl ⟨rfl, rfl⟩ ⟨Nat.le_of_ble_eq_true rfl, Nat.le_of_ble_eq_true rfl⟩ (by decide) (sM_0 K2 _) rfl hl.1 rfl (Nat.le_of_ble_eq_true rfl) dL_law_1122 ⟨Nat.le_of_ble_eq_true rfl, Nat.le_of_ble_eq_true rfl⟩) C.n2 hS hP C.d21 (fun r2 N1 H locs hq2 hN hP hS => ?_)
  exact lv_icmp_eq (tgt := 1450) hx hb dL_law_1125 (by decide) (fun _ => kk M1 N1 H locs (hR _ _ hq.2 hq2.2) hP hN hS) (fun z => absurd (hq.1.trans hq2.1.symm) z)
set_option maxHeartbeats 4000000 in
set_option maxRecDepth 100000 in
theorem lc_steps (C : lx p s m c b L xs K K2) (hi : i + 6 ≤ L) (hl : lv_has ls 4 [(3, .int (nI i)), (2, .ref (kb K2 + 0)), (1, .ref (kb K + 0)), (0, .ref b)]) (h : RR M N) (hP : wP shX 51 K M H) (hN : wP shM 12 K2 N H) (hS : va_S (aL s) s.heap H locs)
    (kk : ∀ (M1 N1 : Mem) (H1 : Heap) (locs1 : List Loc), RR M1 N1 → wP shX 51 K M1 H1 → wP shM 12 K2 N1 H1 → va_S (aL s) s.heap H1 locs1 → W p l e room_1 s m #[Value.ref b] below meth c H1 locs1 63 1688 Q (F0 m 1450 ls [])) : W p l e room_1 s m #[Value.ref b] below meth c H locs 63 1688 Q (F0 m 1130 ls []) := by
  obtain ⟨hx, hb, -, -, -⟩ := C.1
  obtain ⟨ans, A, B, hf, hg, hR⟩ := o_steps h (xs (i + 1))
  refine lv_aload_n hx hb dL_law_1130 rfl (lv_at hl 2 rfl) ?_
  refine l_arg C hS (lv_at hl 3 rfl) (lv_at hl 0 rfl) hi 1 (by decide) (by decide) dL_law_1131 dL_law_1132 dL_law_1133 dL_law_1134 dL_law_1135 ?_
  refine l_ci (l_run (As := [.int (xs (i + 1))]) (rest := []) C.1 C.2.2.2.1 C.n1 hP hS (c_X5_steps hf) gL_law_X5_steps rfl dsX5_steps rfl ⟨rfl, rfl⟩ ⟨Nat.le_of_ble_eq_true rfl, Nat.le_of_ble_eq_true rfl⟩ (by decide) (sX_0 K _) rfl hl.1 rfl (Nat.le_of_ble_eq_true rfl) dL_law_1136 ⟨Nat.le_of_ble_eq_true rfl, Nat.le_of_ble_eq_true rfl⟩) C.n1 hS hN C.d12 (fun r M1 H locs hq hP hN hS => ?_)
  refine lv_aload_n hx hb dL_law_1139 rfl (lv_at hl 1 rfl) ?_
  refine l_arg C hS (lv_at hl 3 rfl) (lv_at hl 0 rfl) hi 1 (by decide) (by decide) dL_law_1140 dL_law_1141 dL_law_1142 dL_law_1143 dL_law_1144 ?_
  refine l_ci (l_run (As := [.int (xs (i + 1))]) (rest := [.int r]) C.1 C.2.2.2.2.1 C.n2 hN hS (c_X6_steps hg) gL_law_X6_steps rfl dsX6_steps rfl ⟨rfl, rfl⟩ ⟨Nat.le_of_ble_eq_true rfl, Nat.le_of_ble_eq_true rfl⟩ (by decide) (sM_0 K2 _) rfl hl.1 rfl (Nat.le_of_ble_eq_true rfl) dL_law_1145 ⟨Nat.le_of_ble_eq_true rfl, Nat.le_of_ble_eq_true rfl⟩) C.n2 hS hP C.d21 (fun r2 N1 H locs hq2 hN hP hS => ?_)
  exact lv_icmp_eq (tgt := 1450) hx hb dL_law_1148 (by decide) (fun _ => kk M1 N1 H locs (hR _ _ hq.2 hq2.2) hP hN hS) (fun z => absurd (hq.1.trans hq2.1.symm) z)
set_option maxHeartbeats 4000000 in
set_option maxRecDepth 100000 in
theorem lc_ask (C : lx p s m c b L xs K K2) (hi : i + 6 ≤ L) (hl : lv_has ls 4 [(3, .int (nI i)), (2, .ref (kb K2 + 0)), (1, .ref (kb K + 0)), (0, .ref b)]) (h : RR M N) (hP : wP shX 51 K M H) (hN : wP shM 12 K2 N H) (hS : va_S (aL s) s.heap H locs)
    (kk : ∀ (M1 N1 : Mem) (H1 : Heap) (locs1 : List Loc), RR M1 N1 → wP shX 51 K M1 H1 → wP shM 12 K2 N1 H1 → va_S (aL s) s.heap H1 locs1 → W p l e room_1 s m #[Value.ref b] below meth c H1 locs1 63 1688 Q (F0 m 1450 ls [])) : W p l e room_1 s m #[Value.ref b] below meth c H locs 63 1688 Q (F0 m 1153 ls []) := by
  obtain ⟨hx, hb, -, -, -⟩ := C.1
  obtain ⟨ans, A, B, hf, hg, hR⟩ := o_ask h (xs (i + 1)) (xs (i + 2))
  refine lv_aload_n hx hb dL_law_1153 rfl (lv_at hl 2 rfl) ?_
  refine l_arg C hS (lv_at hl 3 rfl) (lv_at hl 0 rfl) hi 1 (by decide) (by decide) dL_law_1154 dL_law_1155 dL_law_1156 dL_law_1157 dL_law_1158 ?_
  refine l_arg C hS (lv_at hl 3 rfl) (lv_at hl 0 rfl) hi 2 (by decide) (by decide) dL_law_1159 dL_law_1160 dL_law_1161 dL_law_1162 dL_law_1163 ?_
  refine l_ci (l_run (As := [.int (xs (i + 1)), .int (xs (i + 2))]) (rest := []) C.1 C.2.2.2.1 C.n1 hP hS (c_X5_ask hf) gL_law_X5_ask rfl dsX5_ask rfl ⟨rfl, rfl⟩ ⟨Nat.le_of_ble_eq_true rfl, Nat.le_of_ble_eq_true rfl⟩ (by decide) (sX_0 K _) rfl hl.1 rfl (Nat.le_of_ble_eq_true rfl) dL_law_1164 ⟨Nat.le_of_ble_eq_true rfl, Nat.le_of_ble_eq_true rfl⟩) C.n1 hS hN C.d12 (fun r M1 H locs hq hP hN hS => ?_)
  refine lv_aload_n hx hb dL_law_1167 rfl (lv_at hl 1 rfl) ?_
  refine l_arg C hS (lv_at hl 3 rfl) (lv_at hl 0 rfl) hi 1 (by decide) (by decide) dL_law_1168 dL_law_1169 dL_law_1170 dL_law_1171 dL_law_1172 ?_
  refine l_arg C hS (lv_at hl 3 rfl) (lv_at hl 0 rfl) hi 2 (by decide) (by decide) dL_law_1173 dL_law_1174 dL_law_1175 dL_law_1176 dL_law_1177 ?_
  refine l_ci (l_run (As := [.int (xs (i + 1)), .int (xs (i + 2))]) (rest := [.int r]) C.1 C.2.2.2.2.1 C.n2 hN hS (c_X6_ask hg) gL_law_X6_ask rfl dsX6_ask rfl ⟨rfl, rfl⟩ ⟨Nat.le_of_ble_eq_true rfl, Nat.le_of_ble_eq_true rfl⟩ (by decide) (sM_0 K2 _) rfl hl.1 rfl (Nat.le_of_ble_eq_true rfl) dL_law_1178 ⟨Nat.le_of_ble_eq_true rfl, Nat.le_of_ble_eq_true rfl⟩) C.n2 hS hP C.d21 (fun r2 N1 H locs hq2 hN hP hS => ?_)
  exact lv_icmp_eq (tgt := 1450) hx hb dL_law_1181 (by decide) (fun _ => kk M1 N1 H locs (hR _ _ hq.2 hq2.2) hP hN hS) (fun z => absurd (hq.1.trans hq2.1.symm) z)
set_option maxHeartbeats 4000000 in
set_option maxRecDepth 100000 in
theorem lc_drift (C : lx p s m c b L xs K K2) (hi : i + 6 ≤ L) (hl : lv_has ls 4 [(3, .int (nI i)), (2, .ref (kb K2 + 0)), (1, .ref (kb K + 0)), (0, .ref b)]) (h : RR M N) (hP : wP shX 51 K M H) (hN : wP shM 12 K2 N H) (hS : va_S (aL s) s.heap H locs)
    (kk : ∀ (M1 N1 : Mem) (H1 : Heap) (locs1 : List Loc), RR M1 N1 → wP shX 51 K M1 H1 → wP shM 12 K2 N1 H1 → va_S (aL s) s.heap H1 locs1 → W p l e room_1 s m #[Value.ref b] below meth c H1 locs1 63 1688 Q (F0 m 1450 ls [])) : W p l e room_1 s m #[Value.ref b] below meth c H locs 63 1688 Q (F0 m 1186 ls []) := by
  obtain ⟨hx, hb, -, -, -⟩ := C.1
  obtain ⟨ans, A, B, hf, hg, hR⟩ := o_drift h (xs (i + 1)) (xs (i + 2)) (xs (i + 3))
  refine lv_aload_n hx hb dL_law_1186 rfl (lv_at hl 2 rfl) ?_
  refine l_arg C hS (lv_at hl 3 rfl) (lv_at hl 0 rfl) hi 1 (by decide) (by decide) dL_law_1187 dL_law_1188 dL_law_1189 dL_law_1190 dL_law_1191 ?_
  refine l_arg C hS (lv_at hl 3 rfl) (lv_at hl 0 rfl) hi 2 (by decide) (by decide) dL_law_1192 dL_law_1193 dL_law_1194 dL_law_1195 dL_law_1196 ?_
  refine l_arg C hS (lv_at hl 3 rfl) (lv_at hl 0 rfl) hi 3 (by decide) (by decide) dL_law_1197 dL_law_1198 dL_law_1199 dL_law_1200 dL_law_1201 ?_
  refine l_ci (l_run (As := [.int (xs (i + 1)), .int (xs (i + 2)), .int (xs (i + 3))]) (rest := []) C.1 C.2.2.2.1 C.n1 hP hS (c_X5_drift hf) gL_law_X5_drift rfl dsX5_drift rfl ⟨rfl, rfl⟩ ⟨Nat.le_of_ble_eq_true rfl, Nat.le_of_ble_eq_true rfl⟩ (by decide) (sX_0 K _) rfl hl.1 rfl (Nat.le_of_ble_eq_true rfl) dL_law_1202 ⟨Nat.le_of_ble_eq_true rfl, Nat.le_of_ble_eq_true rfl⟩) C.n1 hS hN C.d12 (fun r M1 H locs hq hP hN hS => ?_)
  refine lv_aload_n hx hb dL_law_1205 rfl (lv_at hl 1 rfl) ?_
  refine l_arg C hS (lv_at hl 3 rfl) (lv_at hl 0 rfl) hi 1 (by decide) (by decide) dL_law_1206 dL_law_1207 dL_law_1208 dL_law_1209 dL_law_1210 ?_
  refine l_arg C hS (lv_at hl 3 rfl) (lv_at hl 0 rfl) hi 2 (by decide) (by decide) dL_law_1211 dL_law_1212 dL_law_1213 dL_law_1214 dL_law_1215 ?_
  refine l_arg C hS (lv_at hl 3 rfl) (lv_at hl 0 rfl) hi 3 (by decide) (by decide) dL_law_1216 dL_law_1217 dL_law_1218 dL_law_1219 dL_law_1220 ?_
  refine l_ci (l_run (As := [.int (xs (i + 1)), .int (xs (i + 2)), .int (xs (i + 3))]) (rest := [.int r]) C.1 C.2.2.2.2.1 C.n2 hN hS (c_X6_drift hg) gL_law_X6_drift rfl dsX6_drift rfl ⟨rfl, rfl⟩ ⟨Nat.le_of_ble_eq_true rfl, Nat.le_of_ble_eq_true rfl⟩ (by decide) (sM_0 K2 _) rfl hl.1 rfl (Nat.le_of_ble_eq_true rfl) dL_law_1221 ⟨Nat.le_of_ble_eq_true rfl, Nat.le_of_ble_eq_true rfl⟩) C.n2 hS hP C.d21 (fun r2 N1 H locs hq2 hN hP hS => ?_)
  exact lv_icmp_eq (tgt := 1450) hx hb dL_law_1224 (by decide) (fun _ => kk M1 N1 H locs (hR _ _ hq.2 hq2.2) hP hN hS) (fun z => absurd (hq.1.trans hq2.1.symm) z)
set_option maxHeartbeats 4000000 in
set_option maxRecDepth 100000 in
theorem lc_keep (C : lx p s m c b L xs K K2) (hi : i + 6 ≤ L) (hl : lv_has ls 4 [(3, .int (nI i)), (2, .ref (kb K2 + 0)), (1, .ref (kb K + 0)), (0, .ref b)]) (h : RR M N) (hP : wP shX 51 K M H) (hN : wP shM 12 K2 N H) (hS : va_S (aL s) s.heap H locs)
    (kk : ∀ (M1 N1 : Mem) (H1 : Heap) (locs1 : List Loc), RR M1 N1 → wP shX 51 K M1 H1 → wP shM 12 K2 N1 H1 → va_S (aL s) s.heap H1 locs1 → W p l e room_1 s m #[Value.ref b] below meth c H1 locs1 63 1688 Q (F0 m 1450 ls [])) : W p l e room_1 s m #[Value.ref b] below meth c H locs 63 1688 Q (F0 m 1229 ls []) := by
  obtain ⟨hx, hb, -, -, -⟩ := C.1
  obtain ⟨ans, A, B, hf, hg, hR⟩ := o_keep h (xs (i + 1))
  refine lv_aload_n hx hb dL_law_1229 rfl (lv_at hl 2 rfl) ?_
  refine l_arg C hS (lv_at hl 3 rfl) (lv_at hl 0 rfl) hi 1 (by decide) (by decide) dL_law_1230 dL_law_1231 dL_law_1232 dL_law_1233 dL_law_1234 ?_
  refine l_ci (l_run (As := [.int (xs (i + 1))]) (rest := []) C.1 C.2.2.2.1 C.n1 hP hS (c_X5_keep hf) gL_law_X5_keep rfl dsX5_keep rfl ⟨rfl, rfl⟩ ⟨Nat.le_of_ble_eq_true rfl, Nat.le_of_ble_eq_true rfl⟩ (by decide) (sX_0 K _) rfl hl.1 rfl (Nat.le_of_ble_eq_true rfl) dL_law_1235 ⟨Nat.le_of_ble_eq_true rfl, Nat.le_of_ble_eq_true rfl⟩) C.n1 hS hN C.d12 (fun r M1 H locs hq hP hN hS => ?_)
  refine lv_aload_n hx hb dL_law_1238 rfl (lv_at hl 1 rfl) ?_
  refine l_arg C hS (lv_at hl 3 rfl) (lv_at hl 0 rfl) hi 1 (by decide) (by decide) dL_law_1239 dL_law_1240 dL_law_1241 dL_law_1242 dL_law_1243 ?_
  refine l_ci (l_run (As := [.int (xs (i + 1))]) (rest := [.int r]) C.1 C.2.2.2.2.1 C.n2 hN hS (c_X6_keep hg) gL_law_X6_keep rfl dsX6_keep rfl ⟨rfl, rfl⟩ ⟨Nat.le_of_ble_eq_true rfl, Nat.le_of_ble_eq_true rfl⟩ (by decide) (sM_0 K2 _) rfl hl.1 rfl (Nat.le_of_ble_eq_true rfl) dL_law_1244 ⟨Nat.le_of_ble_eq_true rfl, Nat.le_of_ble_eq_true rfl⟩) C.n2 hS hP C.d21 (fun r2 N1 H locs hq2 hN hP hS => ?_)
  exact lv_icmp_eq (tgt := 1450) hx hb dL_law_1247 (by decide) (fun _ => kk M1 N1 H locs (hR _ _ hq.2 hq2.2) hP hN hS) (fun z => absurd (hq.1.trans hq2.1.symm) z)
set_option maxHeartbeats 4000000 in
set_option maxRecDepth 100000 in
theorem lc_back (C : lx p s m c b L xs K K2) (hi : i + 6 ≤ L) (hl : lv_has ls 4 [(3, .int (nI i)), (2, .ref (kb K2 + 0)), (1, .ref (kb K + 0)), (0, .ref b)]) (h : RR M N) (hP : wP shX 51 K M H) (hN : wP shM 12 K2 N H) (hS : va_S (aL s) s.heap H locs)
    (kk : ∀ (M1 N1 : Mem) (H1 : Heap) (locs1 : List Loc), RR M1 N1 → wP shX 51 K M1 H1 → wP shM 12 K2 N1 H1 → va_S (aL s) s.heap H1 locs1 → W p l e room_1 s m #[Value.ref b] below meth c H1 locs1 63 1688 Q (F0 m 1450 ls [])) : W p l e room_1 s m #[Value.ref b] below meth c H locs 63 1688 Q (F0 m 1252 ls []) := by
  obtain ⟨hx, hb, -, -, -⟩ := C.1
  obtain ⟨ans, A, B, hf, hg, hR⟩ := o_back h (xs (i + 1))
  refine lv_aload_n hx hb dL_law_1252 rfl (lv_at hl 2 rfl) ?_
  refine l_arg C hS (lv_at hl 3 rfl) (lv_at hl 0 rfl) hi 1 (by decide) (by decide) dL_law_1253 dL_law_1254 dL_law_1255 dL_law_1256 dL_law_1257 ?_
  refine l_ci (l_run (As := [.int (xs (i + 1))]) (rest := []) C.1 C.2.2.2.1 C.n1 hP hS (c_X5_back hf) gL_law_X5_back rfl dsX5_back rfl ⟨rfl, rfl⟩ ⟨Nat.le_of_ble_eq_true rfl, Nat.le_of_ble_eq_true rfl⟩ (by decide) (sX_0 K _) rfl hl.1 rfl (Nat.le_of_ble_eq_true rfl) dL_law_1258 ⟨Nat.le_of_ble_eq_true rfl, Nat.le_of_ble_eq_true rfl⟩) C.n1 hS hN C.d12 (fun r M1 H locs hq hP hN hS => ?_)
  refine lv_aload_n hx hb dL_law_1261 rfl (lv_at hl 1 rfl) ?_
  refine l_arg C hS (lv_at hl 3 rfl) (lv_at hl 0 rfl) hi 1 (by decide) (by decide) dL_law_1262 dL_law_1263 dL_law_1264 dL_law_1265 dL_law_1266 ?_
  refine l_ci (l_run (As := [.int (xs (i + 1))]) (rest := [.int r]) C.1 C.2.2.2.2.1 C.n2 hN hS (c_X6_back hg) gL_law_X6_back rfl dsX6_back rfl ⟨rfl, rfl⟩ ⟨Nat.le_of_ble_eq_true rfl, Nat.le_of_ble_eq_true rfl⟩ (by decide) (sM_0 K2 _) rfl hl.1 rfl (Nat.le_of_ble_eq_true rfl) dL_law_1267 ⟨Nat.le_of_ble_eq_true rfl, Nat.le_of_ble_eq_true rfl⟩) C.n2 hS hP C.d21 (fun r2 N1 H locs hq2 hN hP hS => ?_)
  exact lv_icmp_eq (tgt := 1450) hx hb dL_law_1270 (by decide) (fun _ => kk M1 N1 H locs (hR _ _ hq.2 hq2.2) hP hN hS) (fun z => absurd (hq.1.trans hq2.1.symm) z)
set_option maxHeartbeats 4000000 in
set_option maxRecDepth 100000 in
theorem lc_sheet (C : lx p s m c b L xs K K2) (hi : i + 6 ≤ L) (hl : lv_has ls 4 [(3, .int (nI i)), (2, .ref (kb K2 + 0)), (1, .ref (kb K + 0)), (0, .ref b)]) (h : RR M N) (hP : wP shX 51 K M H) (hN : wP shM 12 K2 N H) (hS : va_S (aL s) s.heap H locs)
    (kk : ∀ (M1 N1 : Mem) (H1 : Heap) (locs1 : List Loc), RR M1 N1 → wP shX 51 K M1 H1 → wP shM 12 K2 N1 H1 → va_S (aL s) s.heap H1 locs1 → W p l e room_1 s m #[Value.ref b] below meth c H1 locs1 63 1688 Q (F0 m 1450 ls [])) : W p l e room_1 s m #[Value.ref b] below meth c H locs 63 1688 Q (F0 m 1275 ls []) := by
  obtain ⟨hx, hb, -, -, -⟩ := C.1
  obtain ⟨ans, A, B, hf, hg, hR⟩ := o_sheet h (xs (i + 1)) (xs (i + 2)) (xs (i + 3))
  refine lv_aload_n hx hb dL_law_1275 rfl (lv_at hl 2 rfl) ?_
  refine l_arg C hS (lv_at hl 3 rfl) (lv_at hl 0 rfl) hi 1 (by decide) (by decide) dL_law_1276 dL_law_1277 dL_law_1278 dL_law_1279 dL_law_1280 ?_
  refine l_arg C hS (lv_at hl 3 rfl) (lv_at hl 0 rfl) hi 2 (by decide) (by decide) dL_law_1281 dL_law_1282 dL_law_1283 dL_law_1284 dL_law_1285 ?_
  refine l_arg C hS (lv_at hl 3 rfl) (lv_at hl 0 rfl) hi 3 (by decide) (by decide) dL_law_1286 dL_law_1287 dL_law_1288 dL_law_1289 dL_law_1290 ?_
  refine l_ci (l_run (As := [.int (xs (i + 1)), .int (xs (i + 2)), .int (xs (i + 3))]) (rest := []) C.1 C.2.2.2.1 C.n1 hP hS (c_X5_sheet hf) gL_law_X5_sheet rfl dsX5_sheet rfl ⟨rfl, rfl⟩ ⟨Nat.le_of_ble_eq_true rfl, Nat.le_of_ble_eq_true rfl⟩ (by decide) (sX_0 K _) rfl hl.1 rfl (Nat.le_of_ble_eq_true rfl) dL_law_1291 ⟨Nat.le_of_ble_eq_true rfl, Nat.le_of_ble_eq_true rfl⟩) C.n1 hS hN C.d12 (fun r M1 H locs hq hP hN hS => ?_)
  refine lv_aload_n hx hb dL_law_1294 rfl (lv_at hl 1 rfl) ?_
  refine l_arg C hS (lv_at hl 3 rfl) (lv_at hl 0 rfl) hi 1 (by decide) (by decide) dL_law_1295 dL_law_1296 dL_law_1297 dL_law_1298 dL_law_1299 ?_
  refine l_arg C hS (lv_at hl 3 rfl) (lv_at hl 0 rfl) hi 2 (by decide) (by decide) dL_law_1300 dL_law_1301 dL_law_1302 dL_law_1303 dL_law_1304 ?_
  refine l_arg C hS (lv_at hl 3 rfl) (lv_at hl 0 rfl) hi 3 (by decide) (by decide) dL_law_1305 dL_law_1306 dL_law_1307 dL_law_1308 dL_law_1309 ?_
  refine l_ci (l_run (As := [.int (xs (i + 1)), .int (xs (i + 2)), .int (xs (i + 3))]) (rest := [.int r]) C.1 C.2.2.2.2.1 C.n2 hN hS (c_X6_sheet hg) gL_law_X6_sheet rfl dsX6_sheet rfl ⟨rfl, rfl⟩ ⟨Nat.le_of_ble_eq_true rfl, Nat.le_of_ble_eq_true rfl⟩ (by decide) (sM_0 K2 _) rfl hl.1 rfl (Nat.le_of_ble_eq_true rfl) dL_law_1310 ⟨Nat.le_of_ble_eq_true rfl, Nat.le_of_ble_eq_true rfl⟩) C.n2 hS hP C.d21 (fun r2 N1 H locs hq2 hN hP hS => ?_)
  exact lv_icmp_eq (tgt := 1450) hx hb dL_law_1313 (by decide) (fun _ => kk M1 N1 H locs (hR _ _ hq.2 hq2.2) hP hN hS) (fun z => absurd (hq.1.trans hq2.1.symm) z)
set_option maxHeartbeats 4000000 in
set_option maxRecDepth 100000 in
theorem lc_lay (C : lx p s m c b L xs K K2) (hi : i + 6 ≤ L) (hl : lv_has ls 4 [(3, .int (nI i)), (2, .ref (kb K2 + 0)), (1, .ref (kb K + 0)), (0, .ref b)]) (h : RR M N) (hP : wP shX 51 K M H) (hN : wP shM 12 K2 N H) (hS : va_S (aL s) s.heap H locs)
    (kk : ∀ (M1 N1 : Mem) (H1 : Heap) (locs1 : List Loc), RR M1 N1 → wP shX 51 K M1 H1 → wP shM 12 K2 N1 H1 → va_S (aL s) s.heap H1 locs1 → W p l e room_1 s m #[Value.ref b] below meth c H1 locs1 63 1688 Q (F0 m 1450 ls [])) : W p l e room_1 s m #[Value.ref b] below meth c H locs 63 1688 Q (F0 m 1318 ls []) := by
  obtain ⟨hx, hb, -, -, -⟩ := C.1
  obtain ⟨ans, A, B, hf, hg, hR⟩ := o_lay h (xs (i + 1)) (xs (i + 2)) (xs (i + 3))
  refine lv_aload_n hx hb dL_law_1318 rfl (lv_at hl 2 rfl) ?_
  refine l_arg C hS (lv_at hl 3 rfl) (lv_at hl 0 rfl) hi 1 (by decide) (by decide) dL_law_1319 dL_law_1320 dL_law_1321 dL_law_1322 dL_law_1323 ?_
  refine l_arg C hS (lv_at hl 3 rfl) (lv_at hl 0 rfl) hi 2 (by decide) (by decide) dL_law_1324 dL_law_1325 dL_law_1326 dL_law_1327 dL_law_1328 ?_
  refine l_arg C hS (lv_at hl 3 rfl) (lv_at hl 0 rfl) hi 3 (by decide) (by decide) dL_law_1329 dL_law_1330 dL_law_1331 dL_law_1332 dL_law_1333 ?_
  refine l_ci (l_run (As := [.int (xs (i + 1)), .int (xs (i + 2)), .int (xs (i + 3))]) (rest := []) C.1 C.2.2.2.1 C.n1 hP hS (c_X5_lay hf) gL_law_X5_lay rfl dsX5_lay rfl ⟨rfl, rfl⟩ ⟨Nat.le_of_ble_eq_true rfl, Nat.le_of_ble_eq_true rfl⟩ (by decide) (sX_0 K _) rfl hl.1 rfl (Nat.le_of_ble_eq_true rfl) dL_law_1334 ⟨Nat.le_of_ble_eq_true rfl, Nat.le_of_ble_eq_true rfl⟩) C.n1 hS hN C.d12 (fun r M1 H locs hq hP hN hS => ?_)
  refine lv_aload_n hx hb dL_law_1337 rfl (lv_at hl 1 rfl) ?_
  refine l_arg C hS (lv_at hl 3 rfl) (lv_at hl 0 rfl) hi 1 (by decide) (by decide) dL_law_1338 dL_law_1339 dL_law_1340 dL_law_1341 dL_law_1342 ?_
  refine l_arg C hS (lv_at hl 3 rfl) (lv_at hl 0 rfl) hi 2 (by decide) (by decide) dL_law_1343 dL_law_1344 dL_law_1345 dL_law_1346 dL_law_1347 ?_
  refine l_arg C hS (lv_at hl 3 rfl) (lv_at hl 0 rfl) hi 3 (by decide) (by decide) dL_law_1348 dL_law_1349 dL_law_1350 dL_law_1351 dL_law_1352 ?_
  refine l_ci (l_run (As := [.int (xs (i + 1)), .int (xs (i + 2)), .int (xs (i + 3))]) (rest := [.int r]) C.1 C.2.2.2.2.1 C.n2 hN hS (c_X6_lay hg) gL_law_X6_lay rfl dsX6_lay rfl ⟨rfl, rfl⟩ ⟨Nat.le_of_ble_eq_true rfl, Nat.le_of_ble_eq_true rfl⟩ (by decide) (sM_0 K2 _) rfl hl.1 rfl (Nat.le_of_ble_eq_true rfl) dL_law_1353 ⟨Nat.le_of_ble_eq_true rfl, Nat.le_of_ble_eq_true rfl⟩) C.n2 hS hP C.d21 (fun r2 N1 H locs hq2 hN hP hS => ?_)
  exact lv_icmp_eq (tgt := 1450) hx hb dL_law_1356 (by decide) (fun _ => kk M1 N1 H locs (hR _ _ hq.2 hq2.2) hP hN hS) (fun z => absurd (hq.1.trans hq2.1.symm) z)
set_option maxHeartbeats 4000000 in
set_option maxRecDepth 100000 in
theorem lc_read (C : lx p s m c b L xs K K2) (hi : i + 6 ≤ L) (hl : lv_has ls 4 [(3, .int (nI i)), (2, .ref (kb K2 + 0)), (1, .ref (kb K + 0)), (0, .ref b)]) (h : RR M N) (hP : wP shX 51 K M H) (hN : wP shM 12 K2 N H) (hS : va_S (aL s) s.heap H locs)
    (kk : ∀ (M1 N1 : Mem) (H1 : Heap) (locs1 : List Loc), RR M1 N1 → wP shX 51 K M1 H1 → wP shM 12 K2 N1 H1 → va_S (aL s) s.heap H1 locs1 → W p l e room_1 s m #[Value.ref b] below meth c H1 locs1 63 1688 Q (F0 m 1450 ls [])) : W p l e room_1 s m #[Value.ref b] below meth c H locs 63 1688 Q (F0 m 1361 ls []) := by
  obtain ⟨hx, hb, -, -, -⟩ := C.1
  obtain ⟨ans, A, B, hf, hg, hR⟩ := o_read h (xs (i + 1)) (xs (i + 2)) (xs (i + 3)) (xs (i + 4))
  refine lv_aload_n hx hb dL_law_1361 rfl (lv_at hl 2 rfl) ?_
  refine l_arg C hS (lv_at hl 3 rfl) (lv_at hl 0 rfl) hi 1 (by decide) (by decide) dL_law_1362 dL_law_1363 dL_law_1364 dL_law_1365 dL_law_1366 ?_
  refine l_arg C hS (lv_at hl 3 rfl) (lv_at hl 0 rfl) hi 2 (by decide) (by decide) dL_law_1367 dL_law_1368 dL_law_1369 dL_law_1370 dL_law_1371 ?_
  refine l_arg C hS (lv_at hl 3 rfl) (lv_at hl 0 rfl) hi 3 (by decide) (by decide) dL_law_1372 dL_law_1373 dL_law_1374 dL_law_1375 dL_law_1376 ?_
  refine l_arg C hS (lv_at hl 3 rfl) (lv_at hl 0 rfl) hi 4 (by decide) (by decide) dL_law_1377 dL_law_1378 dL_law_1379 dL_law_1380 dL_law_1381 ?_
  refine l_ci (l_run (As := [.int (xs (i + 1)), .int (xs (i + 2)), .int (xs (i + 3)), .int (xs (i + 4))]) (rest := []) C.1 C.2.2.2.1 C.n1 hP hS (c_X5_read hf) gL_law_X5_read rfl dsX5_read rfl ⟨rfl, rfl⟩ ⟨Nat.le_of_ble_eq_true rfl, Nat.le_of_ble_eq_true rfl⟩ (by decide) (sX_0 K _) rfl hl.1 rfl (Nat.le_of_ble_eq_true rfl) dL_law_1382 ⟨Nat.le_of_ble_eq_true rfl, Nat.le_of_ble_eq_true rfl⟩) C.n1 hS hN C.d12 (fun r M1 H locs hq hP hN hS => ?_)
  refine lv_aload_n hx hb dL_law_1385 rfl (lv_at hl 1 rfl) ?_
  refine l_arg C hS (lv_at hl 3 rfl) (lv_at hl 0 rfl) hi 1 (by decide) (by decide) dL_law_1386 dL_law_1387 dL_law_1388 dL_law_1389 dL_law_1390 ?_
  refine l_arg C hS (lv_at hl 3 rfl) (lv_at hl 0 rfl) hi 2 (by decide) (by decide) dL_law_1391 dL_law_1392 dL_law_1393 dL_law_1394 dL_law_1395 ?_
  refine l_arg C hS (lv_at hl 3 rfl) (lv_at hl 0 rfl) hi 3 (by decide) (by decide) dL_law_1396 dL_law_1397 dL_law_1398 dL_law_1399 dL_law_1400 ?_
  refine l_arg C hS (lv_at hl 3 rfl) (lv_at hl 0 rfl) hi 4 (by decide) (by decide) dL_law_1401 dL_law_1402 dL_law_1403 dL_law_1404 dL_law_1405 ?_
  refine l_ci (l_run (As := [.int (xs (i + 1)), .int (xs (i + 2)), .int (xs (i + 3)), .int (xs (i + 4))]) (rest := [.int r]) C.1 C.2.2.2.2.1 C.n2 hN hS (c_X6_read hg) gL_law_X6_read rfl dsX6_read rfl ⟨rfl, rfl⟩ ⟨Nat.le_of_ble_eq_true rfl, Nat.le_of_ble_eq_true rfl⟩ (by decide) (sM_0 K2 _) rfl hl.1 rfl (Nat.le_of_ble_eq_true rfl) dL_law_1406 ⟨Nat.le_of_ble_eq_true rfl, Nat.le_of_ble_eq_true rfl⟩) C.n2 hS hP C.d21 (fun r2 N1 H locs hq2 hN hP hS => ?_)
  exact lv_icmp_eq (tgt := 1450) hx hb dL_law_1409 (by decide) (fun _ => kk M1 N1 H locs (hR _ _ hq.2 hq2.2) hP hN hS) (fun z => absurd (hq.1.trans hq2.1.symm) z)
set_option maxHeartbeats 4000000 in
set_option maxRecDepth 100000 in
theorem lc_torn (C : lx p s m c b L xs K K2) (hi : i + 6 ≤ L) (hl : lv_has ls 4 [(3, .int (nI i)), (2, .ref (kb K2 + 0)), (1, .ref (kb K + 0)), (0, .ref b)]) (h : RR M N) (hP : wP shX 51 K M H) (hN : wP shM 12 K2 N H) (hS : va_S (aL s) s.heap H locs)
    (kk : ∀ (M1 N1 : Mem) (H1 : Heap) (locs1 : List Loc), RR M1 N1 → wP shX 51 K M1 H1 → wP shM 12 K2 N1 H1 → va_S (aL s) s.heap H1 locs1 → W p l e room_1 s m #[Value.ref b] below meth c H1 locs1 63 1688 Q (F0 m 1450 ls [])) : W p l e room_1 s m #[Value.ref b] below meth c H locs 63 1688 Q (F0 m 1414 ls []) := by
  obtain ⟨hx, hb, -, -, -⟩ := C.1
  obtain ⟨ans, A, B, hf, hg, hR⟩ := o_torn h
  refine lv_aload_n hx hb dL_law_1414 rfl (lv_at hl 2 rfl) ?_
  refine l_ci (l_run (As := []) (rest := []) C.1 C.2.2.2.1 C.n1 hP hS (c_X5_torn hf) gL_law_X5_torn rfl dsX5_torn rfl ⟨rfl, rfl⟩ ⟨Nat.le_of_ble_eq_true rfl, Nat.le_of_ble_eq_true rfl⟩ (by decide) (sX_0 K _) rfl hl.1 rfl (Nat.le_of_ble_eq_true rfl) dL_law_1415 ⟨Nat.le_of_ble_eq_true rfl, Nat.le_of_ble_eq_true rfl⟩) C.n1 hS hN C.d12 (fun r M1 H locs hq hP hN hS => ?_)
  refine lv_aload_n hx hb dL_law_1418 rfl (lv_at hl 1 rfl) ?_
  refine l_ci (l_run (As := []) (rest := [.int r]) C.1 C.2.2.2.2.1 C.n2 hN hS (c_X6_torn hg) gL_law_X6_torn rfl dsX6_torn rfl ⟨rfl, rfl⟩ ⟨Nat.le_of_ble_eq_true rfl, Nat.le_of_ble_eq_true rfl⟩ (by decide) (sM_0 K2 _) rfl hl.1 rfl (Nat.le_of_ble_eq_true rfl) dL_law_1419 ⟨Nat.le_of_ble_eq_true rfl, Nat.le_of_ble_eq_true rfl⟩) C.n2 hS hP C.d21 (fun r2 N1 H locs hq2 hN hP hS => ?_)
  exact lv_icmp_eq (tgt := 1450) hx hb dL_law_1422 (by decide) (fun _ => kk M1 N1 H locs (hR _ _ hq.2 hq2.2) hP hN hS) (fun z => absurd (hq.1.trans hq2.1.symm) z)
set_option maxHeartbeats 4000000 in
set_option maxRecDepth 100000 in
theorem lc_count (C : lx p s m c b L xs K K2) (hi : i + 6 ≤ L) (hl : lv_has ls 4 [(3, .int (nI i)), (2, .ref (kb K2 + 0)), (1, .ref (kb K + 0)), (0, .ref b)]) (h : RR M N) (hP : wP shX 51 K M H) (hN : wP shM 12 K2 N H) (hS : va_S (aL s) s.heap H locs)
    (kk : ∀ (M1 N1 : Mem) (H1 : Heap) (locs1 : List Loc), RR M1 N1 → wP shX 51 K M1 H1 → wP shM 12 K2 N1 H1 → va_S (aL s) s.heap H1 locs1 → W p l e room_1 s m #[Value.ref b] below meth c H1 locs1 63 1688 Q (F0 m 1450 ls [])) : W p l e room_1 s m #[Value.ref b] below meth c H locs 63 1688 Q (F0 m 1427 ls []) := by
  obtain ⟨hx, hb, -, -, -⟩ := C.1
  obtain ⟨ans, A, B, hf, hg, hR⟩ := o_count h (xs (i + 1))
  refine lv_aload_n hx hb dL_law_1427 rfl (lv_at hl 2 rfl) ?_
  refine l_arg C hS (lv_at hl 3 rfl) (lv_at hl 0 rfl) hi 1 (by decide) (by decide) dL_law_1428 dL_law_1429 dL_law_1430 dL_law_1431 dL_law_1432 ?_
  refine l_ci (l_run (As := [.int (xs (i + 1))]) (rest := []) C.1 C.2.2.2.1 C.n1 hP hS (c_X5_count hf) gL_law_X5_count rfl dsX5_count rfl ⟨rfl, rfl⟩ ⟨Nat.le_of_ble_eq_true rfl, Nat.le_of_ble_eq_true rfl⟩ (by decide) (sX_0 K _) rfl hl.1 rfl (Nat.le_of_ble_eq_true rfl) dL_law_1433 ⟨Nat.le_of_ble_eq_true rfl, Nat.le_of_ble_eq_true rfl⟩) C.n1 hS hN C.d12 (fun r M1 H locs hq hP hN hS => ?_)
  refine lv_aload_n hx hb dL_law_1436 rfl (lv_at hl 1 rfl) ?_
  refine l_arg C hS (lv_at hl 3 rfl) (lv_at hl 0 rfl) hi 1 (by decide) (by decide) dL_law_1437 dL_law_1438 dL_law_1439 dL_law_1440 dL_law_1441 ?_
  refine l_ci (l_run (As := [.int (xs (i + 1))]) (rest := [.int r]) C.1 C.2.2.2.2.1 C.n2 hN hS (c_X6_count hg) gL_law_X6_count rfl dsX6_count rfl ⟨rfl, rfl⟩ ⟨Nat.le_of_ble_eq_true rfl, Nat.le_of_ble_eq_true rfl⟩ (by decide) (sM_0 K2 _) rfl hl.1 rfl (Nat.le_of_ble_eq_true rfl) dL_law_1442 ⟨Nat.le_of_ble_eq_true rfl, Nat.le_of_ble_eq_true rfl⟩) C.n2 hS hP C.d21 (fun r2 N1 H locs hq2 hN hP hS => ?_)
  exact lv_icmp_eq (tgt := 1450) hx hb dL_law_1445 (by decide) (fun _ => kk M1 N1 H locs (hR _ _ hq.2 hq2.2) hP hN hS) (fun z => absurd (hq.1.trans hq2.1.symm) z)
end LC
