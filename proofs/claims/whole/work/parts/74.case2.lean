theorem okl_post_X11 : lw_ok R_law 87 3 RX11 97 [634, 635, 636, 57] = true := by decide +kernel
theorem okl_post_X12 : lw_ok R_law 91 3 RX12 167 [1358, 1359, 1360, 63] = true := by decide +kernel
theorem okl_as_X11 : lw_ok R_law 97 2 RX11 98 [758, 759, 760, 57] = true := by decide +kernel
theorem okl_as_X12 : lw_ok R_law 100 2 RX12 170 [1369, 1370, 1371, 63] = true := by decide +kernel
theorem okl_about_X11 : lw_ok R_law 101 2 RX11 99 [769, 770, 771, 57] = true := by decide +kernel
theorem okl_about_X12 : lw_ok R_law 104 2 RX12 172 [1377, 1378, 1379, 63] = true := by decide +kernel
theorem okl_move_X11 : lw_ok R_law 105 2 RX11 100 [803, 804, 805, 57] = true := by decide +kernel
theorem okl_move_X12 : lw_ok R_law 108 2 RX12 173 [1385, 1386, 1387, 63] = true := by decide +kernel
theorem okl_game_X11 : lw_ok R_law 109 6 RX11 101 [807, 808, 809, 57] = true := by decide +kernel
theorem okl_game_X12 : lw_ok R_law 113 6 RX12 183 [1389, 1390, 1391, 63] = true := by decide +kernel
theorem okl_lasts_X11 : lw_ok R_law 114 5 RX11 102 [911, 912, 913, 57] = true := by decide +kernel
theorem okl_lasts_X12 : lw_ok R_law 117 5 RX12 184 [1433, 1434, 1435, 63] = true := by decide +kernel
theorem okl_stand_X11 : lw_ok R_law 118 6 RX11 103 [920, 921, 922, 57] = true := by decide +kernel
theorem okl_stand_X12 : lw_ok R_law 121 6 RX12 185 [1437, 1438, 1439, 63] = true := by decide +kernel
theorem okl_feels_X11 : lw_ok R_law 122 3 RX11 104 [925, 926, 927, 57] = true := by decide +kernel
theorem okl_feels_X12 : lw_ok R_law 125 3 RX12 186 [1442, 1443, 1444, 63] = true := by decide +kernel
section LAW
variable {p : Program} {l : Launch} {e : Env} {s : State} {m : MethodId} {below : List Frame} {meth : Method} {c : Code} {b L : Nat} {xs : Nat → Int32} {cA : Nat → ClassId} {dC : Nat → ClassId} {dI : Nat → Nat → Nat}
variable {N : Nat} {σ : SX} {μ : SM} {ρX ρM : Nat → Nat} {H : Heap} {locs : List Loc} {ls : Array Slot}
theorem lc_post (C0 : lw_At p s m meth c b L xs) (hL : L ≤ 3584) (hi : 7 * N + 7 ≤ L) (hK : va_K (dC, dI) vwCl (ev_ty cA) s) (ih : lw_In p l e s m below meth c b cA dC dI (N + 1)) (hR : Rel N σ μ) (hP : va_P (dC, dI) vwCl (ev_cw ρX cA 0 (hX σ) ++ ev_cw ρM cA 0 (hM μ)) H) (hD : va_D (lwA s) (ev_cw ρX cA 0 (hX σ) ++ ev_cw ρM cA 0 (hM μ))) (hS : va_S (lwA s) s.heap H locs) (hGX : ev_G ρX (lwA s) s s.heap) (hGM : ev_G ρM (lwA s) s s.heap) (hl : lv_has ls 4 [(0, .ref b), (1, .ref (ρX 0)), (2, .ref (ρM 0)), (3, .int (nI (7 * N)))]) : W p l e room_1 s m #[Value.ref b] below meth c H locs (100 + N) (4000 + 6 * N) (lw_Z below #[Value.ref b] s) (F0 m 652 ls []) := by
  obtain ⟨hx, hb, hr, hml, hown, hts, hX', hbl, hlocks, hgv⟩ := id C0
  have hN : N < 512 := by omega
  have hS0 : CallFix p m c code 4 s #[Value.ref b] lw_tbl R_law := ⟨hx, hb, hml, hown, hts⟩
  have hA : ∀ q, s.heap.size ≤ q → lwA s q := fun _ h => h
  have hrm : 100 + N ≤ room_1.cells ∧ 4000 + 6 * N ≤ room_1.slots := ⟨by show 100 + N ≤ 600000; omega, by show 4000 + 6 * N ≤ 7302250; omega⟩
  obtain ⟨r, σ2, μ2, e1, e2, hR2⟩ := sim_post N (xs (7 * N + 1)) (xs (7 * N + 2)) (xs (7 * N + 3)) σ μ hR
  refine lv_aload_n hx hb d_law_652 rfl (lv_at hl 1 rfl) ?_
  refine lw_arg (j := 1) hx hb hX' hbl hS hl (by omega) hL d_law_653 d_law_654 d_law_655 rfl d_law_656 d_law_657 ?_
  refine lw_arg (j := 2) hx hb hX' hbl hS hl (by omega) hL d_law_658 d_law_659 d_law_660 rfl d_law_661 d_law_662 ?_
  refine lw_arg (j := 3) hx hb hX' hbl hS hl (by omega) hL d_law_663 d_law_664 d_law_665 rfl d_law_666 d_law_667 ?_
  refine lw_call (ρ := ρX) (h := hX σ) (z := (some (.long r), hX σ2)) (as := [.int (xs (7 * N + 1)), .int (xs (7 * N + 2)), .int (xs (7 * N + 3))]) hS0 hK hP hD hS hA hGX (tX11_post 7 σ (xs (7 * N + 1)) (xs (7 * N + 2)) (xs (7 * N + 3)) (r, σ2) e1) okl_post_X11 (ci := 11) rfl rfl rfl ⟨by decide, by decide⟩ hrm hl.1 rfl rfl (Nat.le_of_ble_eq_true rfl) d_law_668 (fun H locs hP hD hS => ?_)
  refine W.eq (g2 := F0 m 671 ls [.long r]) rfl ?_
  refine lv_aload_n hx hb d_law_671 rfl (lv_at hl 2 rfl) ?_
  refine lw_arg (j := 1) hx hb hX' hbl hS hl (by omega) hL d_law_672 d_law_673 d_law_674 rfl d_law_675 d_law_676 ?_
  refine lw_arg (j := 2) hx hb hX' hbl hS hl (by omega) hL d_law_677 d_law_678 d_law_679 rfl d_law_680 d_law_681 ?_
  refine lw_arg (j := 3) hx hb hX' hbl hS hl (by omega) hL d_law_682 d_law_683 d_law_684 rfl d_law_685 d_law_686 ?_
  have hP := wl_Ps hP
  have hD := wl_Ds hD
  refine lw_call (ρ := ρM) (h := hM μ) (z := (some (.long r), hM μ2)) (as := [.int (xs (7 * N + 1)), .int (xs (7 * N + 2)), .int (xs (7 * N + 3))]) hS0 hK hP hD hS hA hGM (tX12_post 5 μ (xs (7 * N + 1)) (xs (7 * N + 2)) (xs (7 * N + 3)) (r, μ2) e2) okl_post_X12 (ci := 12) rfl rfl rfl ⟨by decide, by decide⟩ hrm hl.1 rfl rfl (Nat.le_of_ble_eq_true rfl) d_law_687 (fun H locs hP hD hS => ?_)
  have hP := wl_Ps hP
  have hD := wl_Ds hD
  refine W.eq (g2 := F0 m 690 ls [.long r, .long r]) rfl ?_
  refine W.lcmp hx hb d_law_690 ?_
  rw [lg_self]
  refine lv_if_eq (tgt := 1389) hx hb d_law_691 (by decide) (fun _ => ?_) (fun hne => absurd rfl hne)
  exact lc_end C0 hN ih hR2 hP hD hS hGX hGM hl (by omega) (by omega)
theorem lc_as (C0 : lw_At p s m meth c b L xs) (hL : L ≤ 3584) (hi : 7 * N + 7 ≤ L) (hK : va_K (dC, dI) vwCl (ev_ty cA) s) (ih : lw_In p l e s m below meth c b cA dC dI (N + 1)) (hR : Rel N σ μ) (hP : va_P (dC, dI) vwCl (ev_cw ρX cA 0 (hX σ) ++ ev_cw ρM cA 0 (hM μ)) H) (hD : va_D (lwA s) (ev_cw ρX cA 0 (hX σ) ++ ev_cw ρM cA 0 (hM μ))) (hS : va_S (lwA s) s.heap H locs) (hGX : ev_G ρX (lwA s) s s.heap) (hGM : ev_G ρM (lwA s) s s.heap) (hl : lv_has ls 4 [(0, .ref b), (1, .ref (ρX 0)), (2, .ref (ρM 0)), (3, .int (nI (7 * N)))]) : W p l e room_1 s m #[Value.ref b] below meth c H locs (100 + N) (4000 + 6 * N) (lw_Z below #[Value.ref b] s) (F0 m 759 ls []) := by
  obtain ⟨hx, hb, hr, hml, hown, hts, hX', hbl, hlocks, hgv⟩ := id C0
  have hN : N < 512 := by omega
  have hS0 : CallFix p m c code 4 s #[Value.ref b] lw_tbl R_law := ⟨hx, hb, hml, hown, hts⟩
  have hA : ∀ q, s.heap.size ≤ q → lwA s q := fun _ h => h
  have hrm : 100 + N ≤ room_1.cells ∧ 4000 + 6 * N ≤ room_1.slots := ⟨by show 100 + N ≤ 600000; omega, by show 4000 + 6 * N ≤ 7302250; omega⟩
  obtain ⟨r, e1, e2⟩ := sim_as N (xs (7 * N + 1)) (xs (7 * N + 2)) σ μ hR
  have hR2 := hR.mono (Nat.le_succ N)
  refine lv_aload_n hx hb d_law_759 rfl (lv_at hl 1 rfl) ?_
  refine lw_arg (j := 1) hx hb hX' hbl hS hl (by omega) hL d_law_760 d_law_761 d_law_762 rfl d_law_763 d_law_764 ?_
  refine lw_arg (j := 2) hx hb hX' hbl hS hl (by omega) hL d_law_765 d_law_766 d_law_767 rfl d_law_768 d_law_769 ?_
  refine lw_call (ρ := ρX) (h := hX σ) (z := (some (.int r), hX σ)) (as := [.int (xs (7 * N + 1)), .int (xs (7 * N + 2))]) hS0 hK hP hD hS hA hGX (tX11_as 9 σ (xs (7 * N + 1)) (xs (7 * N + 2)) r e1) okl_as_X11 (ci := 11) rfl rfl rfl ⟨by decide, by decide⟩ hrm hl.1 rfl rfl (Nat.le_of_ble_eq_true rfl) d_law_770 (fun H locs hP hD hS => ?_)
  refine W.eq (g2 := F0 m 773 ls [.int r]) rfl ?_
  refine lv_aload_n hx hb d_law_773 rfl (lv_at hl 2 rfl) ?_
  refine lw_arg (j := 1) hx hb hX' hbl hS hl (by omega) hL d_law_774 d_law_775 d_law_776 rfl d_law_777 d_law_778 ?_
  refine lw_arg (j := 2) hx hb hX' hbl hS hl (by omega) hL d_law_779 d_law_780 d_law_781 rfl d_law_782 d_law_783 ?_
  have hP := wl_Ps hP
  have hD := wl_Ds hD
  refine lw_call (ρ := ρM) (h := hM μ) (z := (some (.int r), hM μ)) (as := [.int (xs (7 * N + 1)), .int (xs (7 * N + 2))]) hS0 hK hP hD hS hA hGM (tX12_as 8 μ (xs (7 * N + 1)) (xs (7 * N + 2)) r e2) okl_as_X12 (ci := 12) rfl rfl rfl ⟨by decide, by decide⟩ hrm hl.1 rfl rfl (Nat.le_of_ble_eq_true rfl) d_law_784 (fun H locs hP hD hS => ?_)
  have hP := wl_Ps hP
  have hD := wl_Ds hD
  refine W.eq (g2 := F0 m 787 ls [.int r, .int r]) rfl ?_
  refine lv_icmp_eq (tgt := 1389) hx hb d_law_787 (by decide) (fun _ => ?_) (fun hne => absurd rfl hne)
  exact lc_end C0 hN ih hR2 hP hD hS hGX hGM hl (by omega) (by omega)
theorem lc_about (C0 : lw_At p s m meth c b L xs) (hL : L ≤ 3584) (hi : 7 * N + 7 ≤ L) (hK : va_K (dC, dI) vwCl (ev_ty cA) s) (ih : lw_In p l e s m below meth c b cA dC dI (N + 1)) (hR : Rel N σ μ) (hP : va_P (dC, dI) vwCl (ev_cw ρX cA 0 (hX σ) ++ ev_cw ρM cA 0 (hM μ)) H) (hD : va_D (lwA s) (ev_cw ρX cA 0 (hX σ) ++ ev_cw ρM cA 0 (hM μ))) (hS : va_S (lwA s) s.heap H locs) (hGX : ev_G ρX (lwA s) s s.heap) (hGM : ev_G ρM (lwA s) s s.heap) (hl : lv_has ls 4 [(0, .ref b), (1, .ref (ρX 0)), (2, .ref (ρM 0)), (3, .int (nI (7 * N)))]) : W p l e room_1 s m #[Value.ref b] below meth c H locs (100 + N) (4000 + 6 * N) (lw_Z below #[Value.ref b] s) (F0 m 792 ls []) := by
  obtain ⟨hx, hb, hr, hml, hown, hts, hX', hbl, hlocks, hgv⟩ := id C0
  have hN : N < 512 := by omega
  have hS0 : CallFix p m c code 4 s #[Value.ref b] lw_tbl R_law := ⟨hx, hb, hml, hown, hts⟩
  have hA : ∀ q, s.heap.size ≤ q → lwA s q := fun _ h => h
  have hrm : 100 + N ≤ room_1.cells ∧ 4000 + 6 * N ≤ room_1.slots := ⟨by show 100 + N ≤ 600000; omega, by show 4000 + 6 * N ≤ 7302250; omega⟩
  obtain ⟨r, e1, e2⟩ := sim_about N (xs (7 * N + 1)) (xs (7 * N + 2)) σ μ hR
  have hR2 := hR.mono (Nat.le_succ N)
  refine lv_aload_n hx hb d_law_792 rfl (lv_at hl 1 rfl) ?_
  refine lw_arg (j := 1) hx hb hX' hbl hS hl (by omega) hL d_law_793 d_law_794 d_law_795 rfl d_law_796 d_law_797 ?_
  refine lw_arg (j := 2) hx hb hX' hbl hS hl (by omega) hL d_law_798 d_law_799 d_law_800 rfl d_law_801 d_law_802 ?_
  refine lw_call (ρ := ρX) (h := hX σ) (z := (some (.int r), hX σ)) (as := [.int (xs (7 * N + 1)), .int (xs (7 * N + 2))]) hS0 hK hP hD hS hA hGX (tX11_about 8 σ (xs (7 * N + 1)) (xs (7 * N + 2)) r e1) okl_about_X11 (ci := 11) rfl rfl rfl ⟨by decide, by decide⟩ hrm hl.1 rfl rfl (Nat.le_of_ble_eq_true rfl) d_law_803 (fun H locs hP hD hS => ?_)
  refine W.eq (g2 := F0 m 806 ls [.int r]) rfl ?_
  refine lv_aload_n hx hb d_law_806 rfl (lv_at hl 2 rfl) ?_
  refine lw_arg (j := 1) hx hb hX' hbl hS hl (by omega) hL d_law_807 d_law_808 d_law_809 rfl d_law_810 d_law_811 ?_
  refine lw_arg (j := 2) hx hb hX' hbl hS hl (by omega) hL d_law_812 d_law_813 d_law_814 rfl d_law_815 d_law_816 ?_
  have hP := wl_Ps hP
  have hD := wl_Ds hD
  refine lw_call (ρ := ρM) (h := hM μ) (z := (some (.int r), hM μ)) (as := [.int (xs (7 * N + 1)), .int (xs (7 * N + 2))]) hS0 hK hP hD hS hA hGM (tX12_about 8 μ (xs (7 * N + 1)) (xs (7 * N + 2)) r e2) okl_about_X12 (ci := 12) rfl rfl rfl ⟨by decide, by decide⟩ hrm hl.1 rfl rfl (Nat.le_of_ble_eq_true rfl) d_law_817 (fun H locs hP hD hS => ?_)
  have hP := wl_Ps hP
  have hD := wl_Ds hD
  refine W.eq (g2 := F0 m 820 ls [.int r, .int r]) rfl ?_
  refine lv_icmp_eq (tgt := 1389) hx hb d_law_820 (by decide) (fun _ => ?_) (fun hne => absurd rfl hne)
  exact lc_end C0 hN ih hR2 hP hD hS hGX hGM hl (by omega) (by omega)
theorem lc_move (C0 : lw_At p s m meth c b L xs) (hL : L ≤ 3584) (hi : 7 * N + 7 ≤ L) (hK : va_K (dC, dI) vwCl (ev_ty cA) s) (ih : lw_In p l e s m below meth c b cA dC dI (N + 1)) (hR : Rel N σ μ) (hP : va_P (dC, dI) vwCl (ev_cw ρX cA 0 (hX σ) ++ ev_cw ρM cA 0 (hM μ)) H) (hD : va_D (lwA s) (ev_cw ρX cA 0 (hX σ) ++ ev_cw ρM cA 0 (hM μ))) (hS : va_S (lwA s) s.heap H locs) (hGX : ev_G ρX (lwA s) s s.heap) (hGM : ev_G ρM (lwA s) s s.heap) (hl : lv_has ls 4 [(0, .ref b), (1, .ref (ρX 0)), (2, .ref (ρM 0)), (3, .int (nI (7 * N)))]) : W p l e room_1 s m #[Value.ref b] below meth c H locs (100 + N) (4000 + 6 * N) (lw_Z below #[Value.ref b] s) (F0 m 825 ls []) := by
  obtain ⟨hx, hb, hr, hml, hown, hts, hX', hbl, hlocks, hgv⟩ := id C0
  have hN : N < 512 := by omega
  have hS0 : CallFix p m c code 4 s #[Value.ref b] lw_tbl R_law := ⟨hx, hb, hml, hown, hts⟩
  have hA : ∀ q, s.heap.size ≤ q → lwA s q := fun _ h => h
  have hrm : 100 + N ≤ room_1.cells ∧ 4000 + 6 * N ≤ room_1.slots := ⟨by show 100 + N ≤ 600000; omega, by show 4000 + 6 * N ≤ 7302250; omega⟩
  obtain ⟨r, σ2, μ2, e1, e2, hR2⟩ := sim_move N (xs (7 * N + 1)) (xs (7 * N + 2)) σ μ hR
  refine lv_aload_n hx hb d_law_825 rfl (lv_at hl 1 rfl) ?_
  refine lw_arg (j := 1) hx hb hX' hbl hS hl (by omega) hL d_law_826 d_law_827 d_law_828 rfl d_law_829 d_law_830 ?_
  refine lw_arg (j := 2) hx hb hX' hbl hS hl (by omega) hL d_law_831 d_law_832 d_law_833 rfl d_law_834 d_law_835 ?_
  refine lw_call (ρ := ρX) (h := hX σ) (z := (some (.int r), hX σ2)) (as := [.int (xs (7 * N + 1)), .int (xs (7 * N + 2))]) hS0 hK hP hD hS hA hGX (tX11_move 9 σ (xs (7 * N + 1)) (xs (7 * N + 2)) (r, σ2) e1) okl_move_X11 (ci := 11) rfl rfl rfl ⟨by decide, by decide⟩ hrm hl.1 rfl rfl (Nat.le_of_ble_eq_true rfl) d_law_836 (fun H locs hP hD hS => ?_)
  refine W.eq (g2 := F0 m 839 ls [.int r]) rfl ?_
  refine lv_aload_n hx hb d_law_839 rfl (lv_at hl 2 rfl) ?_
  refine lw_arg (j := 1) hx hb hX' hbl hS hl (by omega) hL d_law_840 d_law_841 d_law_842 rfl d_law_843 d_law_844 ?_
  refine lw_arg (j := 2) hx hb hX' hbl hS hl (by omega) hL d_law_845 d_law_846 d_law_847 rfl d_law_848 d_law_849 ?_
  have hP := wl_Ps hP
  have hD := wl_Ds hD
  refine lw_call (ρ := ρM) (h := hM μ) (z := (some (.int r), hM μ2)) (as := [.int (xs (7 * N + 1)), .int (xs (7 * N + 2))]) hS0 hK hP hD hS hA hGM (tX12_move 7 μ (xs (7 * N + 1)) (xs (7 * N + 2)) (r, μ2) e2) okl_move_X12 (ci := 12) rfl rfl rfl ⟨by decide, by decide⟩ hrm hl.1 rfl rfl (Nat.le_of_ble_eq_true rfl) d_law_850 (fun H locs hP hD hS => ?_)
  have hP := wl_Ps hP
  have hD := wl_Ds hD
  refine W.eq (g2 := F0 m 853 ls [.int r, .int r]) rfl ?_
  refine lv_icmp_eq (tgt := 1389) hx hb d_law_853 (by decide) (fun _ => ?_) (fun hne => absurd rfl hne)
  exact lc_end C0 hN ih hR2 hP hD hS hGX hGM hl (by omega) (by omega)
theorem lc_game (C0 : lw_At p s m meth c b L xs) (hL : L ≤ 3584) (hi : 7 * N + 7 ≤ L) (hK : va_K (dC, dI) vwCl (ev_ty cA) s) (ih : lw_In p l e s m below meth c b cA dC dI (N + 1)) (hR : Rel N σ μ) (hP : va_P (dC, dI) vwCl (ev_cw ρX cA 0 (hX σ) ++ ev_cw ρM cA 0 (hM μ)) H) (hD : va_D (lwA s) (ev_cw ρX cA 0 (hX σ) ++ ev_cw ρM cA 0 (hM μ))) (hS : va_S (lwA s) s.heap H locs) (hGX : ev_G ρX (lwA s) s s.heap) (hGM : ev_G ρM (lwA s) s s.heap) (hl : lv_has ls 4 [(0, .ref b), (1, .ref (ρX 0)), (2, .ref (ρM 0)), (3, .int (nI (7 * N)))]) : W p l e room_1 s m #[Value.ref b] below meth c H locs (100 + N) (4000 + 6 * N) (lw_Z below #[Value.ref b] s) (F0 m 858 ls []) := by
  obtain ⟨hx, hb, hr, hml, hown, hts, hX', hbl, hlocks, hgv⟩ := id C0
  have hN : N < 512 := by omega
  have hS0 : CallFix p m c code 4 s #[Value.ref b] lw_tbl R_law := ⟨hx, hb, hml, hown, hts⟩
  have hA : ∀ q, s.heap.size ≤ q → lwA s q := fun _ h => h
  have hrm : 100 + N ≤ room_1.cells ∧ 4000 + 6 * N ≤ room_1.slots := ⟨by show 100 + N ≤ 600000; omega, by show 4000 + 6 * N ≤ 7302250; omega⟩
  obtain ⟨r, σ2, μ2, e1, e2, hR2⟩ := sim_game N (xs (7 * N + 1)) (xs (7 * N + 2)) (xs (7 * N + 3)) (xs (7 * N + 4)) (xs (7 * N + 5)) (xs (7 * N + 6)) σ μ hR
  refine lv_aload_n hx hb d_law_858 rfl (lv_at hl 1 rfl) ?_
  refine lw_arg (j := 1) hx hb hX' hbl hS hl (by omega) hL d_law_859 d_law_860 d_law_861 rfl d_law_862 d_law_863 ?_
  refine lw_arg (j := 2) hx hb hX' hbl hS hl (by omega) hL d_law_864 d_law_865 d_law_866 rfl d_law_867 d_law_868 ?_
  refine lw_arg (j := 3) hx hb hX' hbl hS hl (by omega) hL d_law_869 d_law_870 d_law_871 rfl d_law_872 d_law_873 ?_
  refine lw_arg (j := 4) hx hb hX' hbl hS hl (by omega) hL d_law_874 d_law_875 d_law_876 rfl d_law_877 d_law_878 ?_
  refine lw_arg (j := 5) hx hb hX' hbl hS hl (by omega) hL d_law_879 d_law_880 d_law_881 rfl d_law_882 d_law_883 ?_
  refine lw_argb (j := 6) hx hb hX' hbl hS hl (by omega) hL d_law_884 d_law_885 d_law_886 rfl d_law_888 d_law_889 ?_
  refine lw_call (ρ := ρX) (h := hX σ) (z := (some (.int r), hX σ2)) (as := [.int (xs (7 * N + 1)), .int (xs (7 * N + 2)), .int (xs (7 * N + 3)), .int (xs (7 * N + 4)), .int (xs (7 * N + 5)), .int (xs (7 * N + 6))]) hS0 hK hP hD hS hA hGX (tX11_game 5 σ (xs (7 * N + 1)) (xs (7 * N + 2)) (xs (7 * N + 3)) (xs (7 * N + 4)) (xs (7 * N + 5)) (xs (7 * N + 6)) (r, σ2) e1) okl_game_X11 (ci := 11) rfl rfl rfl ⟨by decide, by decide⟩ hrm hl.1 rfl rfl (Nat.le_of_ble_eq_true rfl) d_law_890 (fun H locs hP hD hS => ?_)
  refine W.eq (g2 := F0 m 893 ls [.int r]) rfl ?_
  refine lv_aload_n hx hb d_law_893 rfl (lv_at hl 2 rfl) ?_
  refine lw_arg (j := 1) hx hb hX' hbl hS hl (by omega) hL d_law_894 d_law_895 d_law_896 rfl d_law_897 d_law_898 ?_
  refine lw_arg (j := 2) hx hb hX' hbl hS hl (by omega) hL d_law_899 d_law_900 d_law_901 rfl d_law_902 d_law_903 ?_
  refine lw_arg (j := 3) hx hb hX' hbl hS hl (by omega) hL d_law_904 d_law_905 d_law_906 rfl d_law_907 d_law_908 ?_
  refine lw_arg (j := 4) hx hb hX' hbl hS hl (by omega) hL d_law_909 d_law_910 d_law_911 rfl d_law_912 d_law_913 ?_
  refine lw_arg (j := 5) hx hb hX' hbl hS hl (by omega) hL d_law_914 d_law_915 d_law_916 rfl d_law_917 d_law_918 ?_
  refine lw_argb (j := 6) hx hb hX' hbl hS hl (by omega) hL d_law_919 d_law_920 d_law_921 rfl d_law_923 d_law_924 ?_
  have hP := wl_Ps hP
  have hD := wl_Ds hD
  refine lw_call (ρ := ρM) (h := hM μ) (z := (some (.int r), hM μ2)) (as := [.int (xs (7 * N + 1)), .int (xs (7 * N + 2)), .int (xs (7 * N + 3)), .int (xs (7 * N + 4)), .int (xs (7 * N + 5)), .int (xs (7 * N + 6))]) hS0 hK hP hD hS hA hGM (tX12_game 4 μ (xs (7 * N + 1)) (xs (7 * N + 2)) (xs (7 * N + 3)) (xs (7 * N + 4)) (xs (7 * N + 5)) (xs (7 * N + 6)) (r, μ2) e2) okl_game_X12 (ci := 12) rfl rfl rfl ⟨by decide, by decide⟩ hrm hl.1 rfl rfl (Nat.le_of_ble_eq_true rfl) d_law_925 (fun H locs hP hD hS => ?_)
  have hP := wl_Ps hP
  have hD := wl_Ds hD
  refine W.eq (g2 := F0 m 928 ls [.int r, .int r]) rfl ?_
  refine lv_icmp_eq (tgt := 1389) hx hb d_law_928 (by decide) (fun _ => ?_) (fun hne => absurd rfl hne)
  exact lc_end C0 hN ih hR2 hP hD hS hGX hGM hl (by omega) (by omega)
theorem lc_lasts (C0 : lw_At p s m meth c b L xs) (hL : L ≤ 3584) (hi : 7 * N + 7 ≤ L) (hK : va_K (dC, dI) vwCl (ev_ty cA) s) (ih : lw_In p l e s m below meth c b cA dC dI (N + 1)) (hR : Rel N σ μ) (hP : va_P (dC, dI) vwCl (ev_cw ρX cA 0 (hX σ) ++ ev_cw ρM cA 0 (hM μ)) H) (hD : va_D (lwA s) (ev_cw ρX cA 0 (hX σ) ++ ev_cw ρM cA 0 (hM μ))) (hS : va_S (lwA s) s.heap H locs) (hGX : ev_G ρX (lwA s) s s.heap) (hGM : ev_G ρM (lwA s) s s.heap) (hl : lv_has ls 4 [(0, .ref b), (1, .ref (ρX 0)), (2, .ref (ρM 0)), (3, .int (nI (7 * N)))]) : W p l e room_1 s m #[Value.ref b] below meth c H locs (100 + N) (4000 + 6 * N) (lw_Z below #[Value.ref b] s) (F0 m 933 ls []) := by
  obtain ⟨hx, hb, hr, hml, hown, hts, hX', hbl, hlocks, hgv⟩ := id C0
  have hN : N < 512 := by omega
  have hS0 : CallFix p m c code 4 s #[Value.ref b] lw_tbl R_law := ⟨hx, hb, hml, hown, hts⟩
  have hA : ∀ q, s.heap.size ≤ q → lwA s q := fun _ h => h
  have hrm : 100 + N ≤ room_1.cells ∧ 4000 + 6 * N ≤ room_1.slots := ⟨by show 100 + N ≤ 600000; omega, by show 4000 + 6 * N ≤ 7302250; omega⟩
  obtain ⟨r, σ2, μ2, e1, e2, hR2⟩ := sim_lasts N (xs (7 * N + 1)) (xs (7 * N + 2)) (xs (7 * N + 3)) (xs (7 * N + 4)) (xs (7 * N + 5)) σ μ hR
  refine lv_aload_n hx hb d_law_933 rfl (lv_at hl 1 rfl) ?_
  refine lw_arg (j := 1) hx hb hX' hbl hS hl (by omega) hL d_law_934 d_law_935 d_law_936 rfl d_law_937 d_law_938 ?_
  refine lw_arg (j := 2) hx hb hX' hbl hS hl (by omega) hL d_law_939 d_law_940 d_law_941 rfl d_law_942 d_law_943 ?_
  refine lw_arg (j := 3) hx hb hX' hbl hS hl (by omega) hL d_law_944 d_law_945 d_law_946 rfl d_law_947 d_law_948 ?_
  refine lw_arg (j := 4) hx hb hX' hbl hS hl (by omega) hL d_law_949 d_law_950 d_law_951 rfl d_law_952 d_law_953 ?_
  refine lw_arg (j := 5) hx hb hX' hbl hS hl (by omega) hL d_law_954 d_law_955 d_law_956 rfl d_law_957 d_law_958 ?_
  refine lw_call (ρ := ρX) (h := hX σ) (z := (some (.int r), hX σ2)) (as := [.int (xs (7 * N + 1)), .int (xs (7 * N + 2)), .int (xs (7 * N + 3)), .int (xs (7 * N + 4)), .int (xs (7 * N + 5))]) hS0 hK hP hD hS hA hGX (tX11_lasts 4 σ (xs (7 * N + 1)) (xs (7 * N + 2)) (xs (7 * N + 3)) (xs (7 * N + 4)) (xs (7 * N + 5)) (r, σ2) e1) okl_lasts_X11 (ci := 11) rfl rfl rfl ⟨by decide, by decide⟩ hrm hl.1 rfl rfl (Nat.le_of_ble_eq_true rfl) d_law_959 (fun H locs hP hD hS => ?_)
  refine W.eq (g2 := F0 m 962 ls [.int r]) rfl ?_
  refine lv_aload_n hx hb d_law_962 rfl (lv_at hl 2 rfl) ?_
  refine lw_arg (j := 1) hx hb hX' hbl hS hl (by omega) hL d_law_963 d_law_964 d_law_965 rfl d_law_966 d_law_967 ?_
  refine lw_arg (j := 2) hx hb hX' hbl hS hl (by omega) hL d_law_968 d_law_969 d_law_970 rfl d_law_971 d_law_972 ?_
  refine lw_arg (j := 3) hx hb hX' hbl hS hl (by omega) hL d_law_973 d_law_974 d_law_975 rfl d_law_976 d_law_977 ?_
  refine lw_arg (j := 4) hx hb hX' hbl hS hl (by omega) hL d_law_978 d_law_979 d_law_980 rfl d_law_981 d_law_982 ?_
  refine lw_arg (j := 5) hx hb hX' hbl hS hl (by omega) hL d_law_983 d_law_984 d_law_985 rfl d_law_986 d_law_987 ?_
  have hP := wl_Ps hP
  have hD := wl_Ds hD
  refine lw_call (ρ := ρM) (h := hM μ) (z := (some (.int r), hM μ2)) (as := [.int (xs (7 * N + 1)), .int (xs (7 * N + 2)), .int (xs (7 * N + 3)), .int (xs (7 * N + 4)), .int (xs (7 * N + 5))]) hS0 hK hP hD hS hA hGM (tX12_lasts 4 μ (xs (7 * N + 1)) (xs (7 * N + 2)) (xs (7 * N + 3)) (xs (7 * N + 4)) (xs (7 * N + 5)) (r, μ2) e2) okl_lasts_X12 (ci := 12) rfl rfl rfl ⟨by decide, by decide⟩ hrm hl.1 rfl rfl (Nat.le_of_ble_eq_true rfl) d_law_988 (fun H locs hP hD hS => ?_)
  have hP := wl_Ps hP
  have hD := wl_Ds hD
  refine W.eq (g2 := F0 m 991 ls [.int r, .int r]) rfl ?_
  refine lv_icmp_eq (tgt := 1389) hx hb d_law_991 (by decide) (fun _ => ?_) (fun hne => absurd rfl hne)
  exact lc_end C0 hN ih hR2 hP hD hS hGX hGM hl (by omega) (by omega)
theorem lc_stand (C0 : lw_At p s m meth c b L xs) (hL : L ≤ 3584) (hi : 7 * N + 7 ≤ L) (hK : va_K (dC, dI) vwCl (ev_ty cA) s) (ih : lw_In p l e s m below meth c b cA dC dI (N + 1)) (hR : Rel N σ μ) (hP : va_P (dC, dI) vwCl (ev_cw ρX cA 0 (hX σ) ++ ev_cw ρM cA 0 (hM μ)) H) (hD : va_D (lwA s) (ev_cw ρX cA 0 (hX σ) ++ ev_cw ρM cA 0 (hM μ))) (hS : va_S (lwA s) s.heap H locs) (hGX : ev_G ρX (lwA s) s s.heap) (hGM : ev_G ρM (lwA s) s s.heap) (hl : lv_has ls 4 [(0, .ref b), (1, .ref (ρX 0)), (2, .ref (ρM 0)), (3, .int (nI (7 * N)))]) : W p l e room_1 s m #[Value.ref b] below meth c H locs (100 + N) (4000 + 6 * N) (lw_Z below #[Value.ref b] s) (F0 m 996 ls []) := by
  obtain ⟨hx, hb, hr, hml, hown, hts, hX', hbl, hlocks, hgv⟩ := id C0
  have hN : N < 512 := by omega
  have hS0 : CallFix p m c code 4 s #[Value.ref b] lw_tbl R_law := ⟨hx, hb, hml, hown, hts⟩
  have hA : ∀ q, s.heap.size ≤ q → lwA s q := fun _ h => h
  have hrm : 100 + N ≤ room_1.cells ∧ 4000 + 6 * N ≤ room_1.slots := ⟨by show 100 + N ≤ 600000; omega, by show 4000 + 6 * N ≤ 7302250; omega⟩
  obtain ⟨r, σ2, μ2, e1, e2, hR2⟩ := sim_stand N (xs (7 * N + 1)) (xs (7 * N + 2)) (xs (7 * N + 3)) (xs (7 * N + 4)) (xs (7 * N + 5)) (xs (7 * N + 6)) σ μ hR
  refine lv_aload_n hx hb d_law_996 rfl (lv_at hl 1 rfl) ?_
  refine lw_arg (j := 1) hx hb hX' hbl hS hl (by omega) hL d_law_997 d_law_998 d_law_999 rfl d_law_1000 d_law_1001 ?_
  refine lw_arg (j := 2) hx hb hX' hbl hS hl (by omega) hL d_law_1002 d_law_1003 d_law_1004 rfl d_law_1005 d_law_1006 ?_
  refine lw_arg (j := 3) hx hb hX' hbl hS hl (by omega) hL d_law_1007 d_law_1008 d_law_1009 rfl d_law_1010 d_law_1011 ?_
  refine lw_arg (j := 4) hx hb hX' hbl hS hl (by omega) hL d_law_1012 d_law_1013 d_law_1014 rfl d_law_1015 d_law_1016 ?_
  refine lw_arg (j := 5) hx hb hX' hbl hS hl (by omega) hL d_law_1017 d_law_1018 d_law_1019 rfl d_law_1020 d_law_1021 ?_
  refine lw_argb (j := 6) hx hb hX' hbl hS hl (by omega) hL d_law_1022 d_law_1023 d_law_1024 rfl d_law_1026 d_law_1027 ?_
  refine lw_call (ρ := ρX) (h := hX σ) (z := (some (.int r), hX σ2)) (as := [.int (xs (7 * N + 1)), .int (xs (7 * N + 2)), .int (xs (7 * N + 3)), .int (xs (7 * N + 4)), .int (xs (7 * N + 5)), .int (xs (7 * N + 6))]) hS0 hK hP hD hS hA hGX (tX11_stand 4 σ (xs (7 * N + 1)) (xs (7 * N + 2)) (xs (7 * N + 3)) (xs (7 * N + 4)) (xs (7 * N + 5)) (xs (7 * N + 6)) (r, σ2) e1) okl_stand_X11 (ci := 11) rfl rfl rfl ⟨by decide, by decide⟩ hrm hl.1 rfl rfl (Nat.le_of_ble_eq_true rfl) d_law_1028 (fun H locs hP hD hS => ?_)
  refine W.eq (g2 := F0 m 1031 ls [.int r]) rfl ?_
  refine lv_aload_n hx hb d_law_1031 rfl (lv_at hl 2 rfl) ?_
  refine lw_arg (j := 1) hx hb hX' hbl hS hl (by omega) hL d_law_1032 d_law_1033 d_law_1034 rfl d_law_1035 d_law_1036 ?_
  refine lw_arg (j := 2) hx hb hX' hbl hS hl (by omega) hL d_law_1037 d_law_1038 d_law_1039 rfl d_law_1040 d_law_1041 ?_
  refine lw_arg (j := 3) hx hb hX' hbl hS hl (by omega) hL d_law_1042 d_law_1043 d_law_1044 rfl d_law_1045 d_law_1046 ?_
  refine lw_arg (j := 4) hx hb hX' hbl hS hl (by omega) hL d_law_1047 d_law_1048 d_law_1049 rfl d_law_1050 d_law_1051 ?_
  refine lw_arg (j := 5) hx hb hX' hbl hS hl (by omega) hL d_law_1052 d_law_1053 d_law_1054 rfl d_law_1055 d_law_1056 ?_
  refine lw_argb (j := 6) hx hb hX' hbl hS hl (by omega) hL d_law_1057 d_law_1058 d_law_1059 rfl d_law_1061 d_law_1062 ?_
  have hP := wl_Ps hP
  have hD := wl_Ds hD
  refine lw_call (ρ := ρM) (h := hM μ) (z := (some (.int r), hM μ2)) (as := [.int (xs (7 * N + 1)), .int (xs (7 * N + 2)), .int (xs (7 * N + 3)), .int (xs (7 * N + 4)), .int (xs (7 * N + 5)), .int (xs (7 * N + 6))]) hS0 hK hP hD hS hA hGM (tX12_stand 4 μ (xs (7 * N + 1)) (xs (7 * N + 2)) (xs (7 * N + 3)) (xs (7 * N + 4)) (xs (7 * N + 5)) (xs (7 * N + 6)) (r, μ2) e2) okl_stand_X12 (ci := 12) rfl rfl rfl ⟨by decide, by decide⟩ hrm hl.1 rfl rfl (Nat.le_of_ble_eq_true rfl) d_law_1063 (fun H locs hP hD hS => ?_)
  have hP := wl_Ps hP
  have hD := wl_Ds hD
  refine W.eq (g2 := F0 m 1066 ls [.int r, .int r]) rfl ?_
  refine lv_icmp_eq (tgt := 1389) hx hb d_law_1066 (by decide) (fun _ => ?_) (fun hne => absurd rfl hne)
  exact lc_end C0 hN ih hR2 hP hD hS hGX hGM hl (by omega) (by omega)
theorem lc_feels (C0 : lw_At p s m meth c b L xs) (hL : L ≤ 3584) (hi : 7 * N + 7 ≤ L) (hK : va_K (dC, dI) vwCl (ev_ty cA) s) (ih : lw_In p l e s m below meth c b cA dC dI (N + 1)) (hR : Rel N σ μ) (hP : va_P (dC, dI) vwCl (ev_cw ρX cA 0 (hX σ) ++ ev_cw ρM cA 0 (hM μ)) H) (hD : va_D (lwA s) (ev_cw ρX cA 0 (hX σ) ++ ev_cw ρM cA 0 (hM μ))) (hS : va_S (lwA s) s.heap H locs) (hGX : ev_G ρX (lwA s) s s.heap) (hGM : ev_G ρM (lwA s) s s.heap) (hl : lv_has ls 4 [(0, .ref b), (1, .ref (ρX 0)), (2, .ref (ρM 0)), (3, .int (nI (7 * N)))]) : W p l e room_1 s m #[Value.ref b] below meth c H locs (100 + N) (4000 + 6 * N) (lw_Z below #[Value.ref b] s) (F0 m 1071 ls []) := by
  obtain ⟨hx, hb, hr, hml, hown, hts, hX', hbl, hlocks, hgv⟩ := id C0
  have hN : N < 512 := by omega
  have hS0 : CallFix p m c code 4 s #[Value.ref b] lw_tbl R_law := ⟨hx, hb, hml, hown, hts⟩
  have hA : ∀ q, s.heap.size ≤ q → lwA s q := fun _ h => h
  have hrm : 100 + N ≤ room_1.cells ∧ 4000 + 6 * N ≤ room_1.slots := ⟨by show 100 + N ≤ 600000; omega, by show 4000 + 6 * N ≤ 7302250; omega⟩
  obtain ⟨r, σ2, μ2, e1, e2, hR2⟩ := sim_feels N (xs (7 * N + 1)) (xs (7 * N + 2)) (xs (7 * N + 3)) σ μ hR
  refine lv_aload_n hx hb d_law_1071 rfl (lv_at hl 1 rfl) ?_
  refine lw_arg (j := 1) hx hb hX' hbl hS hl (by omega) hL d_law_1072 d_law_1073 d_law_1074 rfl d_law_1075 d_law_1076 ?_
  refine lw_arg (j := 2) hx hb hX' hbl hS hl (by omega) hL d_law_1077 d_law_1078 d_law_1079 rfl d_law_1080 d_law_1081 ?_
  refine lw_arg (j := 3) hx hb hX' hbl hS hl (by omega) hL d_law_1082 d_law_1083 d_law_1084 rfl d_law_1085 d_law_1086 ?_
  refine lw_call (ρ := ρX) (h := hX σ) (z := (some (.int r), hX σ2)) (as := [.int (xs (7 * N + 1)), .int (xs (7 * N + 2)), .int (xs (7 * N + 3))]) hS0 hK hP hD hS hA hGX (tX11_feels 9 σ (xs (7 * N + 1)) (xs (7 * N + 2)) (xs (7 * N + 3)) (r, σ2) e1) okl_feels_X11 (ci := 11) rfl rfl rfl ⟨by decide, by decide⟩ hrm hl.1 rfl rfl (Nat.le_of_ble_eq_true rfl) d_law_1087 (fun H locs hP hD hS => ?_)
  refine W.eq (g2 := F0 m 1090 ls [.int r]) rfl ?_
  refine lv_aload_n hx hb d_law_1090 rfl (lv_at hl 2 rfl) ?_
  refine lw_arg (j := 1) hx hb hX' hbl hS hl (by omega) hL d_law_1091 d_law_1092 d_law_1093 rfl d_law_1094 d_law_1095 ?_
  refine lw_arg (j := 2) hx hb hX' hbl hS hl (by omega) hL d_law_1096 d_law_1097 d_law_1098 rfl d_law_1099 d_law_1100 ?_
  refine lw_arg (j := 3) hx hb hX' hbl hS hl (by omega) hL d_law_1101 d_law_1102 d_law_1103 rfl d_law_1104 d_law_1105 ?_
  have hP := wl_Ps hP
  have hD := wl_Ds hD
  refine lw_call (ρ := ρM) (h := hM μ) (z := (some (.int r), hM μ2)) (as := [.int (xs (7 * N + 1)), .int (xs (7 * N + 2)), .int (xs (7 * N + 3))]) hS0 hK hP hD hS hA hGM (tX12_feels 9 μ (xs (7 * N + 1)) (xs (7 * N + 2)) (xs (7 * N + 3)) (r, μ2) e2) okl_feels_X12 (ci := 12) rfl rfl rfl ⟨by decide, by decide⟩ hrm hl.1 rfl rfl (Nat.le_of_ble_eq_true rfl) d_law_1106 (fun H locs hP hD hS => ?_)
  have hP := wl_Ps hP
  have hD := wl_Ds hD
  refine W.eq (g2 := F0 m 1109 ls [.int r, .int r]) rfl ?_
  refine lv_icmp_eq (tgt := 1389) hx hb d_law_1109 (by decide) (fun _ => ?_) (fun hne => absurd rfl hne)
  exact lc_end C0 hN ih hR2 hP hD hS hGX hGM hl (by omega) (by omega)
end LAW
