theorem okl_step_X11 : lw_ok R_law 51 2 RX11 89 [527, 528, 529, 57] = true := by decide +kernel
theorem okl_step_X12 : lw_ok R_law 54 2 RX12 150 [1260, 1261, 1262, 63] = true := by decide +kernel
theorem okl_heard_X11 : lw_ok R_law 55 3 RX11 90 [546, 547, 548, 57] = true := by decide +kernel
theorem okl_heard_X12 : lw_ok R_law 59 3 RX12 153 [1283, 1284, 1285, 63] = true := by decide +kernel
theorem okl_odds_X11 : lw_ok R_law 60 2 RX11 91 [565, 566, 567, 57] = true := by decide +kernel
theorem okl_odds_X12 : lw_ok R_law 64 2 RX12 157 [1298, 1299, 1300, 63] = true := by decide +kernel
theorem okl_ways_X11 : lw_ok R_law 65 2 RX11 92 [586, 587, 588, 57] = true := by decide +kernel
theorem okl_ways_X12 : lw_ok R_law 68 2 RX12 158 [1318, 1319, 1320, 63] = true := by decide +kernel
theorem okl_likeliest_X11 : lw_ok R_law 69 0 RX11 93 [595, 596, 597, 57] = true := by decide +kernel
theorem okl_likeliest_X12 : lw_ok R_law 72 0 RX12 160 [1323, 1324, 1325, 63] = true := by decide +kernel
theorem okl_knows_X11 : lw_ok R_law 73 1 RX11 94 [604, 605, 606, 57] = true := by decide +kernel
theorem okl_knows_X12 : lw_ok R_law 77 1 RX12 161 [1331, 1332, 1333, 63] = true := by decide +kernel
theorem okl_expected_X11 : lw_ok R_law 78 5 RX11 95 [608, 609, 610, 57] = true := by decide +kernel
theorem okl_expected_X12 : lw_ok R_law 82 5 RX12 165 [1335, 1336, 1337, 63] = true := by decide +kernel
theorem okl_next_X11 : lw_ok R_law 83 3 RX11 96 [625, 626, 627, 57] = true := by decide +kernel
theorem okl_next_X12 : lw_ok R_law 86 3 RX12 166 [1353, 1354, 1355, 63] = true := by decide +kernel
section LAW
variable {p : Program} {l : Launch} {e : Env} {s : State} {m : MethodId} {below : List Frame} {meth : Method} {c : Code} {b L : Nat} {xs : Nat → Int32} {cA : Nat → ClassId} {dC : Nat → ClassId} {dI : Nat → Nat → Nat}
variable {N : Nat} {σ : SX} {μ : SM} {ρX ρM : Nat → Nat} {H : Heap} {locs : List Loc} {ls : Array Slot}
theorem lc_step (C0 : lw_At p s m meth c b L xs) (hL : L ≤ 3584) (hi : 7 * N + 7 ≤ L) (hK : va_K (dC, dI) vwCl (ev_ty cA) s) (ih : lw_In p l e s m below meth c b cA dC dI (N + 1)) (hR : Rel N σ μ) (hP : va_P (dC, dI) vwCl (ev_cw ρX cA 0 (hX σ) ++ ev_cw ρM cA 0 (hM μ)) H) (hD : va_D (lwA s) (ev_cw ρX cA 0 (hX σ) ++ ev_cw ρM cA 0 (hM μ))) (hS : va_S (lwA s) s.heap H locs) (hGX : ev_G ρX (lwA s) s s.heap) (hGM : ev_G ρM (lwA s) s s.heap) (hl : lv_has ls 4 [(0, .ref b), (1, .ref (ρX 0)), (2, .ref (ρM 0)), (3, .int (nI (7 * N)))]) : W p l e room_1 s m #[Value.ref b] below meth c H locs (100 + N) (4000 + 6 * N) (lw_Z below #[Value.ref b] s) (F0 m 364 ls []) := by
  obtain ⟨hx, hb, hr, hml, hown, hts, hX', hbl, hlocks, hgv⟩ := id C0
  have hN : N < 512 := by omega
  have hS0 : CallFix p m c code 4 s #[Value.ref b] lw_tbl R_law := ⟨hx, hb, hml, hown, hts⟩
  have hA : ∀ q, s.heap.size ≤ q → lwA s q := fun _ h => h
  have hrm : 100 + N ≤ room_1.cells ∧ 4000 + 6 * N ≤ room_1.slots := ⟨by show 100 + N ≤ 600000; omega, by show 4000 + 6 * N ≤ 7302250; omega⟩
  obtain ⟨r, σ2, μ2, e1, e2, hR2⟩ := sim_step N (by omega) (xs (7 * N + 1)) (xs (7 * N + 2)) σ μ hR
  refine lv_aload_n hx hb d_law_364 rfl (lv_at hl 1 rfl) ?_
  refine lw_arg (j := 1) hx hb hX' hbl hS hl (by omega) hL d_law_365 d_law_366 d_law_367 rfl d_law_368 d_law_369 ?_
  refine lw_arg (j := 2) hx hb hX' hbl hS hl (by omega) hL d_law_370 d_law_371 d_law_372 rfl d_law_373 d_law_374 ?_
  refine lw_call (ρ := ρX) (h := hX σ) (z := (some (.int r), hX σ2)) (as := [.int (xs (7 * N + 1)), .int (xs (7 * N + 2))]) hS0 hK hP hD hS hA hGX (tX11_step 7 σ (xs (7 * N + 1)) (xs (7 * N + 2)) (r, σ2) e1) okl_step_X11 (ci := 11) rfl rfl rfl ⟨by decide, by decide⟩ hrm hl.1 rfl rfl (Nat.le_of_ble_eq_true rfl) d_law_375 (fun H locs hP hD hS => ?_)
  refine W.eq (g2 := F0 m 378 ls [.int r]) rfl ?_
  refine lv_aload_n hx hb d_law_378 rfl (lv_at hl 2 rfl) ?_
  refine lw_arg (j := 1) hx hb hX' hbl hS hl (by omega) hL d_law_379 d_law_380 d_law_381 rfl d_law_382 d_law_383 ?_
  refine lw_arg (j := 2) hx hb hX' hbl hS hl (by omega) hL d_law_384 d_law_385 d_law_386 rfl d_law_387 d_law_388 ?_
  have hP := wl_Ps hP
  have hD := wl_Ds hD
  refine lw_call (ρ := ρM) (h := hM μ) (z := (some (.int r), hM μ2)) (as := [.int (xs (7 * N + 1)), .int (xs (7 * N + 2))]) hS0 hK hP hD hS hA hGM (tX12_step 6 μ (xs (7 * N + 1)) (xs (7 * N + 2)) (r, μ2) e2) okl_step_X12 (ci := 12) rfl rfl rfl ⟨by decide, by decide⟩ hrm hl.1 rfl rfl (Nat.le_of_ble_eq_true rfl) d_law_389 (fun H locs hP hD hS => ?_)
  have hP := wl_Ps hP
  have hD := wl_Ds hD
  refine W.eq (g2 := F0 m 392 ls [.int r, .int r]) rfl ?_
  refine lv_icmp_eq (tgt := 1389) hx hb d_law_392 (by decide) (fun _ => ?_) (fun hne => absurd rfl hne)
  exact lc_end C0 hN ih hR2 hP hD hS hGX hGM hl (by omega) (by omega)
theorem lc_heard (C0 : lw_At p s m meth c b L xs) (hL : L ≤ 3584) (hi : 7 * N + 7 ≤ L) (hK : va_K (dC, dI) vwCl (ev_ty cA) s) (ih : lw_In p l e s m below meth c b cA dC dI (N + 1)) (hR : Rel N σ μ) (hP : va_P (dC, dI) vwCl (ev_cw ρX cA 0 (hX σ) ++ ev_cw ρM cA 0 (hM μ)) H) (hD : va_D (lwA s) (ev_cw ρX cA 0 (hX σ) ++ ev_cw ρM cA 0 (hM μ))) (hS : va_S (lwA s) s.heap H locs) (hGX : ev_G ρX (lwA s) s s.heap) (hGM : ev_G ρM (lwA s) s s.heap) (hl : lv_has ls 4 [(0, .ref b), (1, .ref (ρX 0)), (2, .ref (ρM 0)), (3, .int (nI (7 * N)))]) : W p l e room_1 s m #[Value.ref b] below meth c H locs (100 + N) (4000 + 6 * N) (lw_Z below #[Value.ref b] s) (F0 m 397 ls []) := by
  obtain ⟨hx, hb, hr, hml, hown, hts, hX', hbl, hlocks, hgv⟩ := id C0
  have hN : N < 512 := by omega
  have hS0 : CallFix p m c code 4 s #[Value.ref b] lw_tbl R_law := ⟨hx, hb, hml, hown, hts⟩
  have hA : ∀ q, s.heap.size ≤ q → lwA s q := fun _ h => h
  have hrm : 100 + N ≤ room_1.cells ∧ 4000 + 6 * N ≤ room_1.slots := ⟨by show 100 + N ≤ 600000; omega, by show 4000 + 6 * N ≤ 7302250; omega⟩
  obtain ⟨r, σ2, μ2, e1, e2, hR2⟩ := sim_heard N (xs (7 * N + 1)) (xs (7 * N + 2)) (xs (7 * N + 3)) σ μ hR
  refine lv_aload_n hx hb d_law_397 rfl (lv_at hl 1 rfl) ?_
  refine lw_arg (j := 1) hx hb hX' hbl hS hl (by omega) hL d_law_398 d_law_399 d_law_400 rfl d_law_401 d_law_402 ?_
  refine lw_arg (j := 2) hx hb hX' hbl hS hl (by omega) hL d_law_403 d_law_404 d_law_405 rfl d_law_406 d_law_407 ?_
  refine lw_arg (j := 3) hx hb hX' hbl hS hl (by omega) hL d_law_408 d_law_409 d_law_410 rfl d_law_411 d_law_412 ?_
  refine lw_call (ρ := ρX) (h := hX σ) (z := (some (.int r), hX σ2)) (as := [.int (xs (7 * N + 1)), .int (xs (7 * N + 2)), .int (xs (7 * N + 3))]) hS0 hK hP hD hS hA hGX (tX11_heard 6 σ (xs (7 * N + 1)) (xs (7 * N + 2)) (xs (7 * N + 3)) (r, σ2) e1) okl_heard_X11 (ci := 11) rfl rfl rfl ⟨by decide, by decide⟩ hrm hl.1 rfl rfl (Nat.le_of_ble_eq_true rfl) d_law_413 (fun H locs hP hD hS => ?_)
  refine W.eq (g2 := F0 m 416 ls [.int r]) rfl ?_
  refine lv_aload_n hx hb d_law_416 rfl (lv_at hl 2 rfl) ?_
  refine lw_arg (j := 1) hx hb hX' hbl hS hl (by omega) hL d_law_417 d_law_418 d_law_419 rfl d_law_420 d_law_421 ?_
  refine lw_arg (j := 2) hx hb hX' hbl hS hl (by omega) hL d_law_422 d_law_423 d_law_424 rfl d_law_425 d_law_426 ?_
  refine lw_arg (j := 3) hx hb hX' hbl hS hl (by omega) hL d_law_427 d_law_428 d_law_429 rfl d_law_430 d_law_431 ?_
  have hP := wl_Ps hP
  have hD := wl_Ds hD
  refine lw_call (ρ := ρM) (h := hM μ) (z := (some (.int r), hM μ2)) (as := [.int (xs (7 * N + 1)), .int (xs (7 * N + 2)), .int (xs (7 * N + 3))]) hS0 hK hP hD hS hA hGM (tX12_heard 7 μ (xs (7 * N + 1)) (xs (7 * N + 2)) (xs (7 * N + 3)) (r, μ2) e2) okl_heard_X12 (ci := 12) rfl rfl rfl ⟨by decide, by decide⟩ hrm hl.1 rfl rfl (Nat.le_of_ble_eq_true rfl) d_law_432 (fun H locs hP hD hS => ?_)
  have hP := wl_Ps hP
  have hD := wl_Ds hD
  refine W.eq (g2 := F0 m 435 ls [.int r, .int r]) rfl ?_
  refine lv_icmp_eq (tgt := 1389) hx hb d_law_435 (by decide) (fun _ => ?_) (fun hne => absurd rfl hne)
  exact lc_end C0 hN ih hR2 hP hD hS hGX hGM hl (by omega) (by omega)
theorem lc_odds (C0 : lw_At p s m meth c b L xs) (hL : L ≤ 3584) (hi : 7 * N + 7 ≤ L) (hK : va_K (dC, dI) vwCl (ev_ty cA) s) (ih : lw_In p l e s m below meth c b cA dC dI (N + 1)) (hR : Rel N σ μ) (hP : va_P (dC, dI) vwCl (ev_cw ρX cA 0 (hX σ) ++ ev_cw ρM cA 0 (hM μ)) H) (hD : va_D (lwA s) (ev_cw ρX cA 0 (hX σ) ++ ev_cw ρM cA 0 (hM μ))) (hS : va_S (lwA s) s.heap H locs) (hGX : ev_G ρX (lwA s) s s.heap) (hGM : ev_G ρM (lwA s) s s.heap) (hl : lv_has ls 4 [(0, .ref b), (1, .ref (ρX 0)), (2, .ref (ρM 0)), (3, .int (nI (7 * N)))]) : W p l e room_1 s m #[Value.ref b] below meth c H locs (100 + N) (4000 + 6 * N) (lw_Z below #[Value.ref b] s) (F0 m 440 ls []) := by
  obtain ⟨hx, hb, hr, hml, hown, hts, hX', hbl, hlocks, hgv⟩ := id C0
  have hN : N < 512 := by omega
  have hS0 : CallFix p m c code 4 s #[Value.ref b] lw_tbl R_law := ⟨hx, hb, hml, hown, hts⟩
  have hA : ∀ q, s.heap.size ≤ q → lwA s q := fun _ h => h
  have hrm : 100 + N ≤ room_1.cells ∧ 4000 + 6 * N ≤ room_1.slots := ⟨by show 100 + N ≤ 600000; omega, by show 4000 + 6 * N ≤ 7302250; omega⟩
  obtain ⟨r, e1, e2⟩ := sim_odds N (xs (7 * N + 1)) (xs (7 * N + 2)) σ μ hR
  have hR2 := hR.mono (Nat.le_succ N)
  refine lv_aload_n hx hb d_law_440 rfl (lv_at hl 1 rfl) ?_
  refine lw_arg (j := 1) hx hb hX' hbl hS hl (by omega) hL d_law_441 d_law_442 d_law_443 rfl d_law_444 d_law_445 ?_
  refine lw_arg (j := 2) hx hb hX' hbl hS hl (by omega) hL d_law_446 d_law_447 d_law_448 rfl d_law_449 d_law_450 ?_
  refine lw_call (ρ := ρX) (h := hX σ) (z := (some (.long r), hX σ)) (as := [.int (xs (7 * N + 1)), .int (xs (7 * N + 2))]) hS0 hK hP hD hS hA hGX (tX11_odds 8 σ (xs (7 * N + 1)) (xs (7 * N + 2)) r e1) okl_odds_X11 (ci := 11) rfl rfl rfl ⟨by decide, by decide⟩ hrm hl.1 rfl rfl (Nat.le_of_ble_eq_true rfl) d_law_451 (fun H locs hP hD hS => ?_)
  refine W.eq (g2 := F0 m 454 ls [.long r]) rfl ?_
  refine lv_aload_n hx hb d_law_454 rfl (lv_at hl 2 rfl) ?_
  refine lw_arg (j := 1) hx hb hX' hbl hS hl (by omega) hL d_law_455 d_law_456 d_law_457 rfl d_law_458 d_law_459 ?_
  refine lw_arg (j := 2) hx hb hX' hbl hS hl (by omega) hL d_law_460 d_law_461 d_law_462 rfl d_law_463 d_law_464 ?_
  have hP := wl_Ps hP
  have hD := wl_Ds hD
  refine lw_call (ρ := ρM) (h := hM μ) (z := (some (.long r), hM μ)) (as := [.int (xs (7 * N + 1)), .int (xs (7 * N + 2))]) hS0 hK hP hD hS hA hGM (tX12_odds 8 μ (xs (7 * N + 1)) (xs (7 * N + 2)) r e2) okl_odds_X12 (ci := 12) rfl rfl rfl ⟨by decide, by decide⟩ hrm hl.1 rfl rfl (Nat.le_of_ble_eq_true rfl) d_law_465 (fun H locs hP hD hS => ?_)
  have hP := wl_Ps hP
  have hD := wl_Ds hD
  refine W.eq (g2 := F0 m 468 ls [.long r, .long r]) rfl ?_
  refine W.lcmp hx hb d_law_468 ?_
  rw [lg_self]
  refine lv_if_eq (tgt := 1389) hx hb d_law_469 (by decide) (fun _ => ?_) (fun hne => absurd rfl hne)
  exact lc_end C0 hN ih hR2 hP hD hS hGX hGM hl (by omega) (by omega)
theorem lc_ways (C0 : lw_At p s m meth c b L xs) (hL : L ≤ 3584) (hi : 7 * N + 7 ≤ L) (hK : va_K (dC, dI) vwCl (ev_ty cA) s) (ih : lw_In p l e s m below meth c b cA dC dI (N + 1)) (hR : Rel N σ μ) (hP : va_P (dC, dI) vwCl (ev_cw ρX cA 0 (hX σ) ++ ev_cw ρM cA 0 (hM μ)) H) (hD : va_D (lwA s) (ev_cw ρX cA 0 (hX σ) ++ ev_cw ρM cA 0 (hM μ))) (hS : va_S (lwA s) s.heap H locs) (hGX : ev_G ρX (lwA s) s s.heap) (hGM : ev_G ρM (lwA s) s s.heap) (hl : lv_has ls 4 [(0, .ref b), (1, .ref (ρX 0)), (2, .ref (ρM 0)), (3, .int (nI (7 * N)))]) : W p l e room_1 s m #[Value.ref b] below meth c H locs (100 + N) (4000 + 6 * N) (lw_Z below #[Value.ref b] s) (F0 m 474 ls []) := by
  obtain ⟨hx, hb, hr, hml, hown, hts, hX', hbl, hlocks, hgv⟩ := id C0
  have hN : N < 512 := by omega
  have hS0 : CallFix p m c code 4 s #[Value.ref b] lw_tbl R_law := ⟨hx, hb, hml, hown, hts⟩
  have hA : ∀ q, s.heap.size ≤ q → lwA s q := fun _ h => h
  have hrm : 100 + N ≤ room_1.cells ∧ 4000 + 6 * N ≤ room_1.slots := ⟨by show 100 + N ≤ 600000; omega, by show 4000 + 6 * N ≤ 7302250; omega⟩
  obtain ⟨r, e1, e2⟩ := sim_ways N (by omega) (xs (7 * N + 1)) (xs (7 * N + 2)) σ μ hR
  have hR2 := hR.mono (Nat.le_succ N)
  refine lv_aload_n hx hb d_law_474 rfl (lv_at hl 1 rfl) ?_
  refine lw_arg (j := 1) hx hb hX' hbl hS hl (by omega) hL d_law_475 d_law_476 d_law_477 rfl d_law_478 d_law_479 ?_
  refine lw_arg (j := 2) hx hb hX' hbl hS hl (by omega) hL d_law_480 d_law_481 d_law_482 rfl d_law_483 d_law_484 ?_
  refine lw_call (ρ := ρX) (h := hX σ) (z := (some (.long r), hX σ)) (as := [.int (xs (7 * N + 1)), .int (xs (7 * N + 2))]) hS0 hK hP hD hS hA hGX (tX11_ways 8 σ (xs (7 * N + 1)) (xs (7 * N + 2)) r e1) okl_ways_X11 (ci := 11) rfl rfl rfl ⟨by decide, by decide⟩ hrm hl.1 rfl rfl (Nat.le_of_ble_eq_true rfl) d_law_485 (fun H locs hP hD hS => ?_)
  refine W.eq (g2 := F0 m 488 ls [.long r]) rfl ?_
  refine lv_aload_n hx hb d_law_488 rfl (lv_at hl 2 rfl) ?_
  refine lw_arg (j := 1) hx hb hX' hbl hS hl (by omega) hL d_law_489 d_law_490 d_law_491 rfl d_law_492 d_law_493 ?_
  refine lw_arg (j := 2) hx hb hX' hbl hS hl (by omega) hL d_law_494 d_law_495 d_law_496 rfl d_law_497 d_law_498 ?_
  have hP := wl_Ps hP
  have hD := wl_Ds hD
  refine lw_call (ρ := ρM) (h := hM μ) (z := (some (.long r), hM μ)) (as := [.int (xs (7 * N + 1)), .int (xs (7 * N + 2))]) hS0 hK hP hD hS hA hGM (tX12_ways 8 μ (xs (7 * N + 1)) (xs (7 * N + 2)) r e2) okl_ways_X12 (ci := 12) rfl rfl rfl ⟨by decide, by decide⟩ hrm hl.1 rfl rfl (Nat.le_of_ble_eq_true rfl) d_law_499 (fun H locs hP hD hS => ?_)
  have hP := wl_Ps hP
  have hD := wl_Ds hD
  refine W.eq (g2 := F0 m 502 ls [.long r, .long r]) rfl ?_
  refine W.lcmp hx hb d_law_502 ?_
  rw [lg_self]
  refine lv_if_eq (tgt := 1389) hx hb d_law_503 (by decide) (fun _ => ?_) (fun hne => absurd rfl hne)
  exact lc_end C0 hN ih hR2 hP hD hS hGX hGM hl (by omega) (by omega)
theorem lc_likeliest (C0 : lw_At p s m meth c b L xs) (hL : L ≤ 3584) (hi : 7 * N + 7 ≤ L) (hK : va_K (dC, dI) vwCl (ev_ty cA) s) (ih : lw_In p l e s m below meth c b cA dC dI (N + 1)) (hR : Rel N σ μ) (hP : va_P (dC, dI) vwCl (ev_cw ρX cA 0 (hX σ) ++ ev_cw ρM cA 0 (hM μ)) H) (hD : va_D (lwA s) (ev_cw ρX cA 0 (hX σ) ++ ev_cw ρM cA 0 (hM μ))) (hS : va_S (lwA s) s.heap H locs) (hGX : ev_G ρX (lwA s) s s.heap) (hGM : ev_G ρM (lwA s) s s.heap) (hl : lv_has ls 4 [(0, .ref b), (1, .ref (ρX 0)), (2, .ref (ρM 0)), (3, .int (nI (7 * N)))]) : W p l e room_1 s m #[Value.ref b] below meth c H locs (100 + N) (4000 + 6 * N) (lw_Z below #[Value.ref b] s) (F0 m 508 ls []) := by
  obtain ⟨hx, hb, hr, hml, hown, hts, hX', hbl, hlocks, hgv⟩ := id C0
  have hN : N < 512 := by omega
  have hS0 : CallFix p m c code 4 s #[Value.ref b] lw_tbl R_law := ⟨hx, hb, hml, hown, hts⟩
  have hA : ∀ q, s.heap.size ≤ q → lwA s q := fun _ h => h
  have hrm : 100 + N ≤ room_1.cells ∧ 4000 + 6 * N ≤ room_1.slots := ⟨by show 100 + N ≤ 600000; omega, by show 4000 + 6 * N ≤ 7302250; omega⟩
  obtain ⟨r, e1, e2⟩ := sim_likeliest N (by omega)  σ μ hR
  have hR2 := hR.mono (Nat.le_succ N)
  refine lv_aload_n hx hb d_law_508 rfl (lv_at hl 1 rfl) ?_
  refine lw_call (ρ := ρX) (h := hX σ) (z := (some (.int r), hX σ)) (as := []) hS0 hK hP hD hS hA hGX (tX11_likeliest 7 σ r e1) okl_likeliest_X11 (ci := 11) rfl rfl rfl ⟨by decide, by decide⟩ hrm hl.1 rfl rfl (Nat.le_of_ble_eq_true rfl) d_law_509 (fun H locs hP hD hS => ?_)
  refine W.eq (g2 := F0 m 512 ls [.int r]) rfl ?_
  refine lv_aload_n hx hb d_law_512 rfl (lv_at hl 2 rfl) ?_
  have hP := wl_Ps hP
  have hD := wl_Ds hD
  refine lw_call (ρ := ρM) (h := hM μ) (z := (some (.int r), hM μ)) (as := []) hS0 hK hP hD hS hA hGM (tX12_likeliest 8 μ r e2) okl_likeliest_X12 (ci := 12) rfl rfl rfl ⟨by decide, by decide⟩ hrm hl.1 rfl rfl (Nat.le_of_ble_eq_true rfl) d_law_513 (fun H locs hP hD hS => ?_)
  have hP := wl_Ps hP
  have hD := wl_Ds hD
  refine W.eq (g2 := F0 m 516 ls [.int r, .int r]) rfl ?_
  refine lv_icmp_eq (tgt := 1389) hx hb d_law_516 (by decide) (fun _ => ?_) (fun hne => absurd rfl hne)
  exact lc_end C0 hN ih hR2 hP hD hS hGX hGM hl (by omega) (by omega)
theorem lc_knows (C0 : lw_At p s m meth c b L xs) (hL : L ≤ 3584) (hi : 7 * N + 7 ≤ L) (hK : va_K (dC, dI) vwCl (ev_ty cA) s) (ih : lw_In p l e s m below meth c b cA dC dI (N + 1)) (hR : Rel N σ μ) (hP : va_P (dC, dI) vwCl (ev_cw ρX cA 0 (hX σ) ++ ev_cw ρM cA 0 (hM μ)) H) (hD : va_D (lwA s) (ev_cw ρX cA 0 (hX σ) ++ ev_cw ρM cA 0 (hM μ))) (hS : va_S (lwA s) s.heap H locs) (hGX : ev_G ρX (lwA s) s s.heap) (hGM : ev_G ρM (lwA s) s s.heap) (hl : lv_has ls 4 [(0, .ref b), (1, .ref (ρX 0)), (2, .ref (ρM 0)), (3, .int (nI (7 * N)))]) : W p l e room_1 s m #[Value.ref b] below meth c H locs (100 + N) (4000 + 6 * N) (lw_Z below #[Value.ref b] s) (F0 m 521 ls []) := by
  obtain ⟨hx, hb, hr, hml, hown, hts, hX', hbl, hlocks, hgv⟩ := id C0
  have hN : N < 512 := by omega
  have hS0 : CallFix p m c code 4 s #[Value.ref b] lw_tbl R_law := ⟨hx, hb, hml, hown, hts⟩
  have hA : ∀ q, s.heap.size ≤ q → lwA s q := fun _ h => h
  have hrm : 100 + N ≤ room_1.cells ∧ 4000 + 6 * N ≤ room_1.slots := ⟨by show 100 + N ≤ 600000; omega, by show 4000 + 6 * N ≤ 7302250; omega⟩
  obtain ⟨r, e1, e2⟩ := sim_knows N (by omega) (xs (7 * N + 1)) σ μ hR
  have hR2 := hR.mono (Nat.le_succ N)
  refine lv_aload_n hx hb d_law_521 rfl (lv_at hl 1 rfl) ?_
  refine lw_arg (j := 1) hx hb hX' hbl hS hl (by omega) hL d_law_522 d_law_523 d_law_524 rfl d_law_525 d_law_526 ?_
  refine lw_call (ρ := ρX) (h := hX σ) (z := (some (.long r), hX σ)) (as := [.int (xs (7 * N + 1))]) hS0 hK hP hD hS hA hGX (tX11_knows 7 σ (xs (7 * N + 1)) r e1) okl_knows_X11 (ci := 11) rfl rfl rfl ⟨by decide, by decide⟩ hrm hl.1 rfl rfl (Nat.le_of_ble_eq_true rfl) d_law_527 (fun H locs hP hD hS => ?_)
  refine W.eq (g2 := F0 m 530 ls [.long r]) rfl ?_
  refine lv_aload_n hx hb d_law_530 rfl (lv_at hl 2 rfl) ?_
  refine lw_arg (j := 1) hx hb hX' hbl hS hl (by omega) hL d_law_531 d_law_532 d_law_533 rfl d_law_534 d_law_535 ?_
  have hP := wl_Ps hP
  have hD := wl_Ds hD
  refine lw_call (ρ := ρM) (h := hM μ) (z := (some (.long r), hM μ)) (as := [.int (xs (7 * N + 1))]) hS0 hK hP hD hS hA hGM (tX12_knows 8 μ (xs (7 * N + 1)) r e2) okl_knows_X12 (ci := 12) rfl rfl rfl ⟨by decide, by decide⟩ hrm hl.1 rfl rfl (Nat.le_of_ble_eq_true rfl) d_law_536 (fun H locs hP hD hS => ?_)
  have hP := wl_Ps hP
  have hD := wl_Ds hD
  refine W.eq (g2 := F0 m 539 ls [.long r, .long r]) rfl ?_
  refine W.lcmp hx hb d_law_539 ?_
  rw [lg_self]
  refine lv_if_eq (tgt := 1389) hx hb d_law_540 (by decide) (fun _ => ?_) (fun hne => absurd rfl hne)
  exact lc_end C0 hN ih hR2 hP hD hS hGX hGM hl (by omega) (by omega)
theorem lc_expected (C0 : lw_At p s m meth c b L xs) (hL : L ≤ 3584) (hi : 7 * N + 7 ≤ L) (hK : va_K (dC, dI) vwCl (ev_ty cA) s) (ih : lw_In p l e s m below meth c b cA dC dI (N + 1)) (hR : Rel N σ μ) (hP : va_P (dC, dI) vwCl (ev_cw ρX cA 0 (hX σ) ++ ev_cw ρM cA 0 (hM μ)) H) (hD : va_D (lwA s) (ev_cw ρX cA 0 (hX σ) ++ ev_cw ρM cA 0 (hM μ))) (hS : va_S (lwA s) s.heap H locs) (hGX : ev_G ρX (lwA s) s s.heap) (hGM : ev_G ρM (lwA s) s s.heap) (hl : lv_has ls 4 [(0, .ref b), (1, .ref (ρX 0)), (2, .ref (ρM 0)), (3, .int (nI (7 * N)))]) : W p l e room_1 s m #[Value.ref b] below meth c H locs (100 + N) (4000 + 6 * N) (lw_Z below #[Value.ref b] s) (F0 m 545 ls []) := by
  obtain ⟨hx, hb, hr, hml, hown, hts, hX', hbl, hlocks, hgv⟩ := id C0
  have hN : N < 512 := by omega
  have hS0 : CallFix p m c code 4 s #[Value.ref b] lw_tbl R_law := ⟨hx, hb, hml, hown, hts⟩
  have hA : ∀ q, s.heap.size ≤ q → lwA s q := fun _ h => h
  have hrm : 100 + N ≤ room_1.cells ∧ 4000 + 6 * N ≤ room_1.slots := ⟨by show 100 + N ≤ 600000; omega, by show 4000 + 6 * N ≤ 7302250; omega⟩
  obtain ⟨r, σ2, μ2, e1, e2, hR2⟩ := sim_expected N (by omega) (xs (7 * N + 1)) (xs (7 * N + 2)) (xs (7 * N + 3)) (xs (7 * N + 4)) (xs (7 * N + 5)) σ μ hR
  refine lv_aload_n hx hb d_law_545 rfl (lv_at hl 1 rfl) ?_
  refine lw_arg (j := 1) hx hb hX' hbl hS hl (by omega) hL d_law_546 d_law_547 d_law_548 rfl d_law_549 d_law_550 ?_
  refine lw_arg (j := 2) hx hb hX' hbl hS hl (by omega) hL d_law_551 d_law_552 d_law_553 rfl d_law_554 d_law_555 ?_
  refine lw_arg (j := 3) hx hb hX' hbl hS hl (by omega) hL d_law_556 d_law_557 d_law_558 rfl d_law_559 d_law_560 ?_
  refine lw_arg (j := 4) hx hb hX' hbl hS hl (by omega) hL d_law_561 d_law_562 d_law_563 rfl d_law_564 d_law_565 ?_
  refine lw_arg (j := 5) hx hb hX' hbl hS hl (by omega) hL d_law_566 d_law_567 d_law_568 rfl d_law_569 d_law_570 ?_
  refine lw_call (ρ := ρX) (h := hX σ) (z := (some (.long r), hX σ2)) (as := [.int (xs (7 * N + 1)), .int (xs (7 * N + 2)), .int (xs (7 * N + 3)), .int (xs (7 * N + 4)), .int (xs (7 * N + 5))]) hS0 hK hP hD hS hA hGX (tX11_expected 5 σ (xs (7 * N + 1)) (xs (7 * N + 2)) (xs (7 * N + 3)) (xs (7 * N + 4)) (xs (7 * N + 5)) (r, σ2) e1) okl_expected_X11 (ci := 11) rfl rfl rfl ⟨by decide, by decide⟩ hrm hl.1 rfl rfl (Nat.le_of_ble_eq_true rfl) d_law_571 (fun H locs hP hD hS => ?_)
  refine W.eq (g2 := F0 m 574 ls [.long r]) rfl ?_
  refine lv_aload_n hx hb d_law_574 rfl (lv_at hl 2 rfl) ?_
  refine lw_arg (j := 1) hx hb hX' hbl hS hl (by omega) hL d_law_575 d_law_576 d_law_577 rfl d_law_578 d_law_579 ?_
  refine lw_arg (j := 2) hx hb hX' hbl hS hl (by omega) hL d_law_580 d_law_581 d_law_582 rfl d_law_583 d_law_584 ?_
  refine lw_arg (j := 3) hx hb hX' hbl hS hl (by omega) hL d_law_585 d_law_586 d_law_587 rfl d_law_588 d_law_589 ?_
  refine lw_arg (j := 4) hx hb hX' hbl hS hl (by omega) hL d_law_590 d_law_591 d_law_592 rfl d_law_593 d_law_594 ?_
  refine lw_arg (j := 5) hx hb hX' hbl hS hl (by omega) hL d_law_595 d_law_596 d_law_597 rfl d_law_598 d_law_599 ?_
  have hP := wl_Ps hP
  have hD := wl_Ds hD
  refine lw_call (ρ := ρM) (h := hM μ) (z := (some (.long r), hM μ2)) (as := [.int (xs (7 * N + 1)), .int (xs (7 * N + 2)), .int (xs (7 * N + 3)), .int (xs (7 * N + 4)), .int (xs (7 * N + 5))]) hS0 hK hP hD hS hA hGM (tX12_expected 5 μ (xs (7 * N + 1)) (xs (7 * N + 2)) (xs (7 * N + 3)) (xs (7 * N + 4)) (xs (7 * N + 5)) (r, μ2) e2) okl_expected_X12 (ci := 12) rfl rfl rfl ⟨by decide, by decide⟩ hrm hl.1 rfl rfl (Nat.le_of_ble_eq_true rfl) d_law_600 (fun H locs hP hD hS => ?_)
  have hP := wl_Ps hP
  have hD := wl_Ds hD
  refine W.eq (g2 := F0 m 603 ls [.long r, .long r]) rfl ?_
  refine W.lcmp hx hb d_law_603 ?_
  rw [lg_self]
  refine lv_if_eq (tgt := 1389) hx hb d_law_604 (by decide) (fun _ => ?_) (fun hne => absurd rfl hne)
  exact lc_end C0 hN ih hR2 hP hD hS hGX hGM hl (by omega) (by omega)
theorem lc_next (C0 : lw_At p s m meth c b L xs) (hL : L ≤ 3584) (hi : 7 * N + 7 ≤ L) (hK : va_K (dC, dI) vwCl (ev_ty cA) s) (ih : lw_In p l e s m below meth c b cA dC dI (N + 1)) (hR : Rel N σ μ) (hP : va_P (dC, dI) vwCl (ev_cw ρX cA 0 (hX σ) ++ ev_cw ρM cA 0 (hM μ)) H) (hD : va_D (lwA s) (ev_cw ρX cA 0 (hX σ) ++ ev_cw ρM cA 0 (hM μ))) (hS : va_S (lwA s) s.heap H locs) (hGX : ev_G ρX (lwA s) s s.heap) (hGM : ev_G ρM (lwA s) s s.heap) (hl : lv_has ls 4 [(0, .ref b), (1, .ref (ρX 0)), (2, .ref (ρM 0)), (3, .int (nI (7 * N)))]) : W p l e room_1 s m #[Value.ref b] below meth c H locs (100 + N) (4000 + 6 * N) (lw_Z below #[Value.ref b] s) (F0 m 609 ls []) := by
  obtain ⟨hx, hb, hr, hml, hown, hts, hX', hbl, hlocks, hgv⟩ := id C0
  have hN : N < 512 := by omega
  have hS0 : CallFix p m c code 4 s #[Value.ref b] lw_tbl R_law := ⟨hx, hb, hml, hown, hts⟩
  have hA : ∀ q, s.heap.size ≤ q → lwA s q := fun _ h => h
  have hrm : 100 + N ≤ room_1.cells ∧ 4000 + 6 * N ≤ room_1.slots := ⟨by show 100 + N ≤ 600000; omega, by show 4000 + 6 * N ≤ 7302250; omega⟩
  obtain ⟨r, σ2, μ2, e1, e2, hR2⟩ := sim_next N (by omega) (xs (7 * N + 1)) (xs (7 * N + 2)) (xs (7 * N + 3)) σ μ hR
  refine lv_aload_n hx hb d_law_609 rfl (lv_at hl 1 rfl) ?_
  refine lw_arg (j := 1) hx hb hX' hbl hS hl (by omega) hL d_law_610 d_law_611 d_law_612 rfl d_law_613 d_law_614 ?_
  refine lw_arg (j := 2) hx hb hX' hbl hS hl (by omega) hL d_law_615 d_law_616 d_law_617 rfl d_law_618 d_law_619 ?_
  refine lw_arg (j := 3) hx hb hX' hbl hS hl (by omega) hL d_law_620 d_law_621 d_law_622 rfl d_law_623 d_law_624 ?_
  refine lw_call (ρ := ρX) (h := hX σ) (z := (some (.int r), hX σ2)) (as := [.int (xs (7 * N + 1)), .int (xs (7 * N + 2)), .int (xs (7 * N + 3))]) hS0 hK hP hD hS hA hGX (tX11_next 4 σ (xs (7 * N + 1)) (xs (7 * N + 2)) (xs (7 * N + 3)) (r, σ2) e1) okl_next_X11 (ci := 11) rfl rfl rfl ⟨by decide, by decide⟩ hrm hl.1 rfl rfl (Nat.le_of_ble_eq_true rfl) d_law_625 (fun H locs hP hD hS => ?_)
  refine W.eq (g2 := F0 m 628 ls [.int r]) rfl ?_
  refine lv_aload_n hx hb d_law_628 rfl (lv_at hl 2 rfl) ?_
  refine lw_arg (j := 1) hx hb hX' hbl hS hl (by omega) hL d_law_629 d_law_630 d_law_631 rfl d_law_632 d_law_633 ?_
  refine lw_arg (j := 2) hx hb hX' hbl hS hl (by omega) hL d_law_634 d_law_635 d_law_636 rfl d_law_637 d_law_638 ?_
  refine lw_arg (j := 3) hx hb hX' hbl hS hl (by omega) hL d_law_639 d_law_640 d_law_641 rfl d_law_642 d_law_643 ?_
  have hP := wl_Ps hP
  have hD := wl_Ds hD
  refine lw_call (ρ := ρM) (h := hM μ) (z := (some (.int r), hM μ2)) (as := [.int (xs (7 * N + 1)), .int (xs (7 * N + 2)), .int (xs (7 * N + 3))]) hS0 hK hP hD hS hA hGM (tX12_next 5 μ (xs (7 * N + 1)) (xs (7 * N + 2)) (xs (7 * N + 3)) (r, μ2) e2) okl_next_X12 (ci := 12) rfl rfl rfl ⟨by decide, by decide⟩ hrm hl.1 rfl rfl (Nat.le_of_ble_eq_true rfl) d_law_644 (fun H locs hP hD hS => ?_)
  have hP := wl_Ps hP
  have hD := wl_Ds hD
  refine W.eq (g2 := F0 m 647 ls [.int r, .int r]) rfl ?_
  refine lv_icmp_eq (tgt := 1389) hx hb d_law_647 (by decide) (fun _ => ?_) (fun hne => absurd rfl hne)
  exact lc_end C0 hN ih hR2 hP hD hS hGX hGM hl (by omega) (by omega)
end LAW
