def lwW (a b : Int32) : Int64 := (a.toInt64 <<< ((32 : Int32).toInt64 &&& 63)) ||| (b.toInt64 &&& 4294967295)
theorem lg_self (r : Int64) : lg_cmp r r = 0 := by simp [lg_cmp]
theorem okl_letters_X11 : lw_ok R_law 15 1 RX11 81 [286, 287, 288, 57] = true := by decide +kernel
theorem okl_letters_X12 : lw_ok R_law 19 1 RX12 127 [1183, 1184, 1185, 63] = true := by decide +kernel
theorem okl_blank_X11 : lw_ok R_law 20 0 RX11 82 [300, 301, 302, 57] = true := by decide +kernel
theorem okl_blank_X12 : lw_ok R_law 24 0 RX12 128 [1188, 1189, 1190, 63] = true := by decide +kernel
theorem okl_fault_X11 : lw_ok R_law 25 0 RX11 83 [304, 305, 306, 57] = true := by decide +kernel
theorem okl_fault_X12 : lw_ok R_law 28 0 RX12 131 [1192, 1193, 1194, 63] = true := by decide +kernel
theorem okl_ring_X11 : lw_ok R_law 29 0 RX11 84 [408, 409, 410, 57] = true := by decide +kernel
theorem okl_ring_X12 : lw_ok R_law 32 0 RX12 132 [1203, 1204, 1205, 63] = true := by decide +kernel
theorem okl_cell_X11 : lw_ok R_law 33 1 RX11 85 [469, 470, 471, 57] = true := by decide +kernel
theorem okl_cell_X12 : lw_ok R_law 37 1 RX12 136 [1226, 1227, 1228, 63] = true := by decide +kernel
theorem okl_set_X11 : lw_ok R_law 38 2 RX11 86 [478, 479, 480, 57] = true := by decide +kernel
theorem okl_set_X12 : lw_ok R_law 42 2 RX12 141 [1230, 1231, 1232, 63] = true := by decide +kernel
theorem okl_lost_X11 : lw_ok R_law 43 0 RX11 87 [491, 492, 493, 57] = true := by decide +kernel
theorem okl_lost_X12 : lw_ok R_law 46 0 RX12 142 [1237, 1238, 1239, 63] = true := by decide +kernel
theorem okl_turned_X11 : lw_ok R_law 47 1 RX11 88 [503, 504, 505, 57] = true := by decide +kernel
theorem okl_turned_X12 : lw_ok R_law 50 1 RX12 145 [1241, 1242, 1243, 63] = true := by decide +kernel
section LAW
variable {p : Program} {l : Launch} {e : Env} {s : State} {m : MethodId} {below : List Frame} {meth : Method} {c : Code} {b L : Nat} {xs : Nat → Int32} {cA : Nat → ClassId} {dC : Nat → ClassId} {dI : Nat → Nat → Nat}
variable {N : Nat} {σ : SX} {μ : SM} {ρX ρM : Nat → Nat} {H : Heap} {locs : List Loc} {ls : Array Slot}
theorem lc_letters (C0 : lw_At p s m meth c b L xs) (hL : L ≤ 3584) (hi : 7 * N + 7 ≤ L) (hK : va_K (dC, dI) vwCl (ev_ty cA) s) (ih : lw_In p l e s m below meth c b cA dC dI (N + 1)) (hR : Rel N σ μ) (hP : va_P (dC, dI) vwCl (ev_cw ρX cA 0 (hX σ) ++ ev_cw ρM cA 0 (hM μ)) H) (hD : va_D (lwA s) (ev_cw ρX cA 0 (hX σ) ++ ev_cw ρM cA 0 (hM μ))) (hS : va_S (lwA s) s.heap H locs) (hGX : ev_G ρX (lwA s) s s.heap) (hGM : ev_G ρM (lwA s) s s.heap) (hl : lv_has ls 4 [(0, .ref b), (1, .ref (ρX 0)), (2, .ref (ρM 0)), (3, .int (nI (7 * N)))]) : W p l e room_1 s m #[Value.ref b] below meth c H locs (100 + N) (4000 + 6 * N) (lw_Z below #[Value.ref b] s) (F0 m 180 ls []) := by
  obtain ⟨hx, hb, hr, hml, hown, hts, hX', hbl, hlocks, hgv⟩ := id C0
  have hN : N < 512 := by omega
  have hS0 : CallFix p m c code 4 s #[Value.ref b] lw_tbl R_law := ⟨hx, hb, hml, hown, hts⟩
  have hA : ∀ q, s.heap.size ≤ q → lwA s q := fun _ h => h
  have hrm : 100 + N ≤ room_1.cells ∧ 4000 + 6 * N ≤ room_1.slots := ⟨by show 100 + N ≤ 600000; omega, by show 4000 + 6 * N ≤ 7302250; omega⟩
  obtain ⟨r, σ2, μ2, e1, e2, hR2⟩ := sim_letters N (lwW (xs (7 * N + 1)) (xs (7 * N + 2))) σ μ hR
  refine lv_aload_n hx hb d_law_180 rfl (lv_at hl 1 rfl) ?_
  refine lw_arg (j := 1) hx hb hX' hbl hS hl (by omega) hL d_law_181 d_law_182 d_law_183 rfl d_law_184 d_law_185 ?_
  refine lv_i2l hx hb d_law_186 rfl ?_
  refine lv_bipush (v := 32) hx hb d_law_187 rfl ?_
  refine lv_lshl hx hb d_law_189 rfl ?_
  refine lw_arg (j := 2) hx hb hX' hbl hS hl (by omega) hL d_law_190 d_law_191 d_law_192 rfl d_law_193 d_law_194 ?_
  refine lv_i2l hx hb d_law_195 rfl ?_
  refine lv_ldc2 (v := 4294967295) hx hb hown (hts (.constantLong R_law 13 4294967295) (List.mem_of_getElem? (i := 1515) (by decide +kernel))) d_law_196 ?_
  refine lv_land hx hb d_law_199 ?_
  refine lv_lor hx hb d_law_200 ?_
  refine lw_call (ρ := ρX) (h := hX σ) (z := (some (.int r), hX σ2)) (as := [.long (lwW (xs (7 * N + 1)) (xs (7 * N + 2)))]) hS0 hK hP hD hS hA hGX (tX11_letters 8 σ (lwW (xs (7 * N + 1)) (xs (7 * N + 2))) (r, σ2) e1) okl_letters_X11 (ci := 11) rfl rfl rfl ⟨by decide, by decide⟩ hrm hl.1 rfl rfl (Nat.le_of_ble_eq_true rfl) d_law_201 (fun H locs hP hD hS => ?_)
  refine W.eq (g2 := F0 m 204 ls [.int r]) rfl ?_
  refine lv_aload_n hx hb d_law_204 rfl (lv_at hl 2 rfl) ?_
  refine lw_arg (j := 1) hx hb hX' hbl hS hl (by omega) hL d_law_205 d_law_206 d_law_207 rfl d_law_208 d_law_209 ?_
  refine lv_i2l hx hb d_law_210 rfl ?_
  refine lv_bipush (v := 32) hx hb d_law_211 rfl ?_
  refine lv_lshl hx hb d_law_213 rfl ?_
  refine lw_arg (j := 2) hx hb hX' hbl hS hl (by omega) hL d_law_214 d_law_215 d_law_216 rfl d_law_217 d_law_218 ?_
  refine lv_i2l hx hb d_law_219 rfl ?_
  refine lv_ldc2 (v := 4294967295) hx hb hown (hts (.constantLong R_law 13 4294967295) (List.mem_of_getElem? (i := 1515) (by decide +kernel))) d_law_220 ?_
  refine lv_land hx hb d_law_223 ?_
  refine lv_lor hx hb d_law_224 ?_
  have hP := wl_Ps hP
  have hD := wl_Ds hD
  refine lw_call (ρ := ρM) (h := hM μ) (z := (some (.int r), hM μ2)) (as := [.long (lwW (xs (7 * N + 1)) (xs (7 * N + 2)))]) hS0 hK hP hD hS hA hGM (tX12_letters 10 μ (lwW (xs (7 * N + 1)) (xs (7 * N + 2))) (r, μ2) e2) okl_letters_X12 (ci := 12) rfl rfl rfl ⟨by decide, by decide⟩ hrm hl.1 rfl rfl (Nat.le_of_ble_eq_true rfl) d_law_225 (fun H locs hP hD hS => ?_)
  have hP := wl_Ps hP
  have hD := wl_Ds hD
  refine W.eq (g2 := F0 m 228 ls [.int r, .int r]) rfl ?_
  refine lv_icmp_eq (tgt := 1389) hx hb d_law_228 (by decide) (fun _ => ?_) (fun hne => absurd rfl hne)
  exact lc_end C0 hN ih hR2 hP hD hS hGX hGM hl (by omega) (by omega)
theorem lc_blank (C0 : lw_At p s m meth c b L xs) (hL : L ≤ 3584) (hi : 7 * N + 7 ≤ L) (hK : va_K (dC, dI) vwCl (ev_ty cA) s) (ih : lw_In p l e s m below meth c b cA dC dI (N + 1)) (hR : Rel N σ μ) (hP : va_P (dC, dI) vwCl (ev_cw ρX cA 0 (hX σ) ++ ev_cw ρM cA 0 (hM μ)) H) (hD : va_D (lwA s) (ev_cw ρX cA 0 (hX σ) ++ ev_cw ρM cA 0 (hM μ))) (hS : va_S (lwA s) s.heap H locs) (hGX : ev_G ρX (lwA s) s s.heap) (hGM : ev_G ρM (lwA s) s s.heap) (hl : lv_has ls 4 [(0, .ref b), (1, .ref (ρX 0)), (2, .ref (ρM 0)), (3, .int (nI (7 * N)))]) : W p l e room_1 s m #[Value.ref b] below meth c H locs (100 + N) (4000 + 6 * N) (lw_Z below #[Value.ref b] s) (F0 m 233 ls []) := by
  obtain ⟨hx, hb, hr, hml, hown, hts, hX', hbl, hlocks, hgv⟩ := id C0
  have hN : N < 512 := by omega
  have hS0 : CallFix p m c code 4 s #[Value.ref b] lw_tbl R_law := ⟨hx, hb, hml, hown, hts⟩
  have hA : ∀ q, s.heap.size ≤ q → lwA s q := fun _ h => h
  have hrm : 100 + N ≤ room_1.cells ∧ 4000 + 6 * N ≤ room_1.slots := ⟨by show 100 + N ≤ 600000; omega, by show 4000 + 6 * N ≤ 7302250; omega⟩
  obtain ⟨r, σ2, μ2, e1, e2, hR2⟩ := sim_blank N  σ μ hR
  refine lv_aload_n hx hb d_law_233 rfl (lv_at hl 1 rfl) ?_
  refine lw_call (ρ := ρX) (h := hX σ) (z := (some (.int r), hX σ2)) (as := []) hS0 hK hP hD hS hA hGX (tX11_blank 10 σ (r, σ2) e1) okl_blank_X11 (ci := 11) rfl rfl rfl ⟨by decide, by decide⟩ hrm hl.1 rfl rfl (Nat.le_of_ble_eq_true rfl) d_law_234 (fun H locs hP hD hS => ?_)
  refine W.eq (g2 := F0 m 237 ls [.int r]) rfl ?_
  refine lv_aload_n hx hb d_law_237 rfl (lv_at hl 2 rfl) ?_
  have hP := wl_Ps hP
  have hD := wl_Ds hD
  refine lw_call (ρ := ρM) (h := hM μ) (z := (some (.int r), hM μ2)) (as := []) hS0 hK hP hD hS hA hGM (tX12_blank 10 μ (r, μ2) e2) okl_blank_X12 (ci := 12) rfl rfl rfl ⟨by decide, by decide⟩ hrm hl.1 rfl rfl (Nat.le_of_ble_eq_true rfl) d_law_238 (fun H locs hP hD hS => ?_)
  have hP := wl_Ps hP
  have hD := wl_Ds hD
  refine W.eq (g2 := F0 m 241 ls [.int r, .int r]) rfl ?_
  refine lv_icmp_eq (tgt := 1389) hx hb d_law_241 (by decide) (fun _ => ?_) (fun hne => absurd rfl hne)
  exact lc_end C0 hN ih hR2 hP hD hS hGX hGM hl (by omega) (by omega)
theorem lc_fault (C0 : lw_At p s m meth c b L xs) (hL : L ≤ 3584) (hi : 7 * N + 7 ≤ L) (hK : va_K (dC, dI) vwCl (ev_ty cA) s) (ih : lw_In p l e s m below meth c b cA dC dI (N + 1)) (hR : Rel N σ μ) (hP : va_P (dC, dI) vwCl (ev_cw ρX cA 0 (hX σ) ++ ev_cw ρM cA 0 (hM μ)) H) (hD : va_D (lwA s) (ev_cw ρX cA 0 (hX σ) ++ ev_cw ρM cA 0 (hM μ))) (hS : va_S (lwA s) s.heap H locs) (hGX : ev_G ρX (lwA s) s s.heap) (hGM : ev_G ρM (lwA s) s s.heap) (hl : lv_has ls 4 [(0, .ref b), (1, .ref (ρX 0)), (2, .ref (ρM 0)), (3, .int (nI (7 * N)))]) : W p l e room_1 s m #[Value.ref b] below meth c H locs (100 + N) (4000 + 6 * N) (lw_Z below #[Value.ref b] s) (F0 m 246 ls []) := by
  obtain ⟨hx, hb, hr, hml, hown, hts, hX', hbl, hlocks, hgv⟩ := id C0
  have hN : N < 512 := by omega
  have hS0 : CallFix p m c code 4 s #[Value.ref b] lw_tbl R_law := ⟨hx, hb, hml, hown, hts⟩
  have hA : ∀ q, s.heap.size ≤ q → lwA s q := fun _ h => h
  have hrm : 100 + N ≤ room_1.cells ∧ 4000 + 6 * N ≤ room_1.slots := ⟨by show 100 + N ≤ 600000; omega, by show 4000 + 6 * N ≤ 7302250; omega⟩
  obtain ⟨r, σ2, μ2, e1, e2, hR2⟩ := sim_fault N  σ μ hR
  refine lv_aload_n hx hb d_law_246 rfl (lv_at hl 1 rfl) ?_
  refine lw_call (ρ := ρX) (h := hX σ) (z := (some (.int r), hX σ2)) (as := []) hS0 hK hP hD hS hA hGX (tX11_fault 4 σ (r, σ2) e1) okl_fault_X11 (ci := 11) rfl rfl rfl ⟨by decide, by decide⟩ hrm hl.1 rfl rfl (Nat.le_of_ble_eq_true rfl) d_law_247 (fun H locs hP hD hS => ?_)
  refine W.eq (g2 := F0 m 250 ls [.int r]) rfl ?_
  refine lv_aload_n hx hb d_law_250 rfl (lv_at hl 2 rfl) ?_
  have hP := wl_Ps hP
  have hD := wl_Ds hD
  refine lw_call (ρ := ρM) (h := hM μ) (z := (some (.int r), hM μ2)) (as := []) hS0 hK hP hD hS hA hGM (tX12_fault 8 μ (r, μ2) e2) okl_fault_X12 (ci := 12) rfl rfl rfl ⟨by decide, by decide⟩ hrm hl.1 rfl rfl (Nat.le_of_ble_eq_true rfl) d_law_251 (fun H locs hP hD hS => ?_)
  have hP := wl_Ps hP
  have hD := wl_Ds hD
  refine W.eq (g2 := F0 m 254 ls [.int r, .int r]) rfl ?_
  refine lv_icmp_eq (tgt := 1389) hx hb d_law_254 (by decide) (fun _ => ?_) (fun hne => absurd rfl hne)
  exact lc_end C0 hN ih hR2 hP hD hS hGX hGM hl (by omega) (by omega)
theorem lc_ring (C0 : lw_At p s m meth c b L xs) (hL : L ≤ 3584) (hi : 7 * N + 7 ≤ L) (hK : va_K (dC, dI) vwCl (ev_ty cA) s) (ih : lw_In p l e s m below meth c b cA dC dI (N + 1)) (hR : Rel N σ μ) (hP : va_P (dC, dI) vwCl (ev_cw ρX cA 0 (hX σ) ++ ev_cw ρM cA 0 (hM μ)) H) (hD : va_D (lwA s) (ev_cw ρX cA 0 (hX σ) ++ ev_cw ρM cA 0 (hM μ))) (hS : va_S (lwA s) s.heap H locs) (hGX : ev_G ρX (lwA s) s s.heap) (hGM : ev_G ρM (lwA s) s s.heap) (hl : lv_has ls 4 [(0, .ref b), (1, .ref (ρX 0)), (2, .ref (ρM 0)), (3, .int (nI (7 * N)))]) : W p l e room_1 s m #[Value.ref b] below meth c H locs (100 + N) (4000 + 6 * N) (lw_Z below #[Value.ref b] s) (F0 m 259 ls []) := by
  obtain ⟨hx, hb, hr, hml, hown, hts, hX', hbl, hlocks, hgv⟩ := id C0
  have hN : N < 512 := by omega
  have hS0 : CallFix p m c code 4 s #[Value.ref b] lw_tbl R_law := ⟨hx, hb, hml, hown, hts⟩
  have hA : ∀ q, s.heap.size ≤ q → lwA s q := fun _ h => h
  have hrm : 100 + N ≤ room_1.cells ∧ 4000 + 6 * N ≤ room_1.slots := ⟨by show 100 + N ≤ 600000; omega, by show 4000 + 6 * N ≤ 7302250; omega⟩
  obtain ⟨r, σ2, μ2, e1, e2, hR2⟩ := sim_ring N (by omega)  σ μ hR
  refine lv_aload_n hx hb d_law_259 rfl (lv_at hl 1 rfl) ?_
  refine lw_call (ρ := ρX) (h := hX σ) (z := (some (.int r), hX σ2)) (as := []) hS0 hK hP hD hS hA hGX (tX11_ring 3 σ (r, σ2) e1) okl_ring_X11 (ci := 11) rfl rfl rfl ⟨by decide, by decide⟩ hrm hl.1 rfl rfl (Nat.le_of_ble_eq_true rfl) d_law_260 (fun H locs hP hD hS => ?_)
  refine W.eq (g2 := F0 m 263 ls [.int r]) rfl ?_
  refine lv_aload_n hx hb d_law_263 rfl (lv_at hl 2 rfl) ?_
  have hP := wl_Ps hP
  have hD := wl_Ds hD
  refine lw_call (ρ := ρM) (h := hM μ) (z := (some (.int r), hM μ2)) (as := []) hS0 hK hP hD hS hA hGM (tX12_ring 6 μ (r, μ2) e2) okl_ring_X12 (ci := 12) rfl rfl rfl ⟨by decide, by decide⟩ hrm hl.1 rfl rfl (Nat.le_of_ble_eq_true rfl) d_law_264 (fun H locs hP hD hS => ?_)
  have hP := wl_Ps hP
  have hD := wl_Ds hD
  refine W.eq (g2 := F0 m 267 ls [.int r, .int r]) rfl ?_
  refine lv_icmp_eq (tgt := 1389) hx hb d_law_267 (by decide) (fun _ => ?_) (fun hne => absurd rfl hne)
  exact lc_end C0 hN ih hR2 hP hD hS hGX hGM hl (by omega) (by omega)
theorem lc_cell (C0 : lw_At p s m meth c b L xs) (hL : L ≤ 3584) (hi : 7 * N + 7 ≤ L) (hK : va_K (dC, dI) vwCl (ev_ty cA) s) (ih : lw_In p l e s m below meth c b cA dC dI (N + 1)) (hR : Rel N σ μ) (hP : va_P (dC, dI) vwCl (ev_cw ρX cA 0 (hX σ) ++ ev_cw ρM cA 0 (hM μ)) H) (hD : va_D (lwA s) (ev_cw ρX cA 0 (hX σ) ++ ev_cw ρM cA 0 (hM μ))) (hS : va_S (lwA s) s.heap H locs) (hGX : ev_G ρX (lwA s) s s.heap) (hGM : ev_G ρM (lwA s) s s.heap) (hl : lv_has ls 4 [(0, .ref b), (1, .ref (ρX 0)), (2, .ref (ρM 0)), (3, .int (nI (7 * N)))]) : W p l e room_1 s m #[Value.ref b] below meth c H locs (100 + N) (4000 + 6 * N) (lw_Z below #[Value.ref b] s) (F0 m 272 ls []) := by
  obtain ⟨hx, hb, hr, hml, hown, hts, hX', hbl, hlocks, hgv⟩ := id C0
  have hN : N < 512 := by omega
  have hS0 : CallFix p m c code 4 s #[Value.ref b] lw_tbl R_law := ⟨hx, hb, hml, hown, hts⟩
  have hA : ∀ q, s.heap.size ≤ q → lwA s q := fun _ h => h
  have hrm : 100 + N ≤ room_1.cells ∧ 4000 + 6 * N ≤ room_1.slots := ⟨by show 100 + N ≤ 600000; omega, by show 4000 + 6 * N ≤ 7302250; omega⟩
  obtain ⟨r, e1, e2⟩ := sim_cell N (xs (7 * N + 1)) σ μ hR
  have hR2 := hR.mono (Nat.le_succ N)
  refine lv_aload_n hx hb d_law_272 rfl (lv_at hl 1 rfl) ?_
  refine lw_arg (j := 1) hx hb hX' hbl hS hl (by omega) hL d_law_273 d_law_274 d_law_275 rfl d_law_276 d_law_277 ?_
  refine lw_call (ρ := ρX) (h := hX σ) (z := (some (.int r), hX σ)) (as := [.int (xs (7 * N + 1))]) hS0 hK hP hD hS hA hGX (tX11_cell 9 σ (xs (7 * N + 1)) r e1) okl_cell_X11 (ci := 11) rfl rfl rfl ⟨by decide, by decide⟩ hrm hl.1 rfl rfl (Nat.le_of_ble_eq_true rfl) d_law_278 (fun H locs hP hD hS => ?_)
  refine W.eq (g2 := F0 m 281 ls [.int r]) rfl ?_
  refine lv_aload_n hx hb d_law_281 rfl (lv_at hl 2 rfl) ?_
  refine lw_arg (j := 1) hx hb hX' hbl hS hl (by omega) hL d_law_282 d_law_283 d_law_284 rfl d_law_285 d_law_286 ?_
  have hP := wl_Ps hP
  have hD := wl_Ds hD
  refine lw_call (ρ := ρM) (h := hM μ) (z := (some (.int r), hM μ)) (as := [.int (xs (7 * N + 1))]) hS0 hK hP hD hS hA hGM (tX12_cell 8 μ (xs (7 * N + 1)) r e2) okl_cell_X12 (ci := 12) rfl rfl rfl ⟨by decide, by decide⟩ hrm hl.1 rfl rfl (Nat.le_of_ble_eq_true rfl) d_law_287 (fun H locs hP hD hS => ?_)
  have hP := wl_Ps hP
  have hD := wl_Ds hD
  refine W.eq (g2 := F0 m 290 ls [.int r, .int r]) rfl ?_
  refine lv_icmp_eq (tgt := 1389) hx hb d_law_290 (by decide) (fun _ => ?_) (fun hne => absurd rfl hne)
  exact lc_end C0 hN ih hR2 hP hD hS hGX hGM hl (by omega) (by omega)
theorem lc_set (C0 : lw_At p s m meth c b L xs) (hL : L ≤ 3584) (hi : 7 * N + 7 ≤ L) (hK : va_K (dC, dI) vwCl (ev_ty cA) s) (ih : lw_In p l e s m below meth c b cA dC dI (N + 1)) (hR : Rel N σ μ) (hP : va_P (dC, dI) vwCl (ev_cw ρX cA 0 (hX σ) ++ ev_cw ρM cA 0 (hM μ)) H) (hD : va_D (lwA s) (ev_cw ρX cA 0 (hX σ) ++ ev_cw ρM cA 0 (hM μ))) (hS : va_S (lwA s) s.heap H locs) (hGX : ev_G ρX (lwA s) s s.heap) (hGM : ev_G ρM (lwA s) s s.heap) (hl : lv_has ls 4 [(0, .ref b), (1, .ref (ρX 0)), (2, .ref (ρM 0)), (3, .int (nI (7 * N)))]) : W p l e room_1 s m #[Value.ref b] below meth c H locs (100 + N) (4000 + 6 * N) (lw_Z below #[Value.ref b] s) (F0 m 295 ls []) := by
  obtain ⟨hx, hb, hr, hml, hown, hts, hX', hbl, hlocks, hgv⟩ := id C0
  have hN : N < 512 := by omega
  have hS0 : CallFix p m c code 4 s #[Value.ref b] lw_tbl R_law := ⟨hx, hb, hml, hown, hts⟩
  have hA : ∀ q, s.heap.size ≤ q → lwA s q := fun _ h => h
  have hrm : 100 + N ≤ room_1.cells ∧ 4000 + 6 * N ≤ room_1.slots := ⟨by show 100 + N ≤ 600000; omega, by show 4000 + 6 * N ≤ 7302250; omega⟩
  obtain ⟨r, σ2, μ2, e1, e2, hR2⟩ := sim_set N (xs (7 * N + 1)) (xs (7 * N + 2)) σ μ hR
  refine lv_aload_n hx hb d_law_295 rfl (lv_at hl 1 rfl) ?_
  refine lw_arg (j := 1) hx hb hX' hbl hS hl (by omega) hL d_law_296 d_law_297 d_law_298 rfl d_law_299 d_law_300 ?_
  refine lw_arg (j := 2) hx hb hX' hbl hS hl (by omega) hL d_law_301 d_law_302 d_law_303 rfl d_law_304 d_law_305 ?_
  refine lw_call (ρ := ρX) (h := hX σ) (z := (some (.int r), hX σ2)) (as := [.int (xs (7 * N + 1)), .int (xs (7 * N + 2))]) hS0 hK hP hD hS hA hGX (tX11_set 8 σ (xs (7 * N + 1)) (xs (7 * N + 2)) (r, σ2) e1) okl_set_X11 (ci := 11) rfl rfl rfl ⟨by decide, by decide⟩ hrm hl.1 rfl rfl (Nat.le_of_ble_eq_true rfl) d_law_306 (fun H locs hP hD hS => ?_)
  refine W.eq (g2 := F0 m 309 ls [.int r]) rfl ?_
  refine lv_aload_n hx hb d_law_309 rfl (lv_at hl 2 rfl) ?_
  refine lw_arg (j := 1) hx hb hX' hbl hS hl (by omega) hL d_law_310 d_law_311 d_law_312 rfl d_law_313 d_law_314 ?_
  refine lw_arg (j := 2) hx hb hX' hbl hS hl (by omega) hL d_law_315 d_law_316 d_law_317 rfl d_law_318 d_law_319 ?_
  have hP := wl_Ps hP
  have hD := wl_Ds hD
  refine lw_call (ρ := ρM) (h := hM μ) (z := (some (.int r), hM μ2)) (as := [.int (xs (7 * N + 1)), .int (xs (7 * N + 2))]) hS0 hK hP hD hS hA hGM (tX12_set 7 μ (xs (7 * N + 1)) (xs (7 * N + 2)) (r, μ2) e2) okl_set_X12 (ci := 12) rfl rfl rfl ⟨by decide, by decide⟩ hrm hl.1 rfl rfl (Nat.le_of_ble_eq_true rfl) d_law_320 (fun H locs hP hD hS => ?_)
  have hP := wl_Ps hP
  have hD := wl_Ds hD
  refine W.eq (g2 := F0 m 323 ls [.int r, .int r]) rfl ?_
  refine lv_icmp_eq (tgt := 1389) hx hb d_law_323 (by decide) (fun _ => ?_) (fun hne => absurd rfl hne)
  exact lc_end C0 hN ih hR2 hP hD hS hGX hGM hl (by omega) (by omega)
theorem lc_lost (C0 : lw_At p s m meth c b L xs) (hL : L ≤ 3584) (hi : 7 * N + 7 ≤ L) (hK : va_K (dC, dI) vwCl (ev_ty cA) s) (ih : lw_In p l e s m below meth c b cA dC dI (N + 1)) (hR : Rel N σ μ) (hP : va_P (dC, dI) vwCl (ev_cw ρX cA 0 (hX σ) ++ ev_cw ρM cA 0 (hM μ)) H) (hD : va_D (lwA s) (ev_cw ρX cA 0 (hX σ) ++ ev_cw ρM cA 0 (hM μ))) (hS : va_S (lwA s) s.heap H locs) (hGX : ev_G ρX (lwA s) s s.heap) (hGM : ev_G ρM (lwA s) s s.heap) (hl : lv_has ls 4 [(0, .ref b), (1, .ref (ρX 0)), (2, .ref (ρM 0)), (3, .int (nI (7 * N)))]) : W p l e room_1 s m #[Value.ref b] below meth c H locs (100 + N) (4000 + 6 * N) (lw_Z below #[Value.ref b] s) (F0 m 328 ls []) := by
  obtain ⟨hx, hb, hr, hml, hown, hts, hX', hbl, hlocks, hgv⟩ := id C0
  have hN : N < 512 := by omega
  have hS0 : CallFix p m c code 4 s #[Value.ref b] lw_tbl R_law := ⟨hx, hb, hml, hown, hts⟩
  have hA : ∀ q, s.heap.size ≤ q → lwA s q := fun _ h => h
  have hrm : 100 + N ≤ room_1.cells ∧ 4000 + 6 * N ≤ room_1.slots := ⟨by show 100 + N ≤ 600000; omega, by show 4000 + 6 * N ≤ 7302250; omega⟩
  obtain ⟨r, σ2, μ2, e1, e2, hR2⟩ := sim_lost N (by omega)  σ μ hR
  refine lv_aload_n hx hb d_law_328 rfl (lv_at hl 1 rfl) ?_
  refine lw_call (ρ := ρX) (h := hX σ) (z := (some (.int r), hX σ2)) (as := []) hS0 hK hP hD hS hA hGX (tX11_lost 8 σ (r, σ2) e1) okl_lost_X11 (ci := 11) rfl rfl rfl ⟨by decide, by decide⟩ hrm hl.1 rfl rfl (Nat.le_of_ble_eq_true rfl) d_law_329 (fun H locs hP hD hS => ?_)
  refine W.eq (g2 := F0 m 332 ls [.int r]) rfl ?_
  refine lv_aload_n hx hb d_law_332 rfl (lv_at hl 2 rfl) ?_
  have hP := wl_Ps hP
  have hD := wl_Ds hD
  refine lw_call (ρ := ρM) (h := hM μ) (z := (some (.int r), hM μ2)) (as := []) hS0 hK hP hD hS hA hGM (tX12_lost 6 μ (r, μ2) e2) okl_lost_X12 (ci := 12) rfl rfl rfl ⟨by decide, by decide⟩ hrm hl.1 rfl rfl (Nat.le_of_ble_eq_true rfl) d_law_333 (fun H locs hP hD hS => ?_)
  have hP := wl_Ps hP
  have hD := wl_Ds hD
  refine W.eq (g2 := F0 m 336 ls [.int r, .int r]) rfl ?_
  refine lv_icmp_eq (tgt := 1389) hx hb d_law_336 (by decide) (fun _ => ?_) (fun hne => absurd rfl hne)
  exact lc_end C0 hN ih hR2 hP hD hS hGX hGM hl (by omega) (by omega)
theorem lc_turned (C0 : lw_At p s m meth c b L xs) (hL : L ≤ 3584) (hi : 7 * N + 7 ≤ L) (hK : va_K (dC, dI) vwCl (ev_ty cA) s) (ih : lw_In p l e s m below meth c b cA dC dI (N + 1)) (hR : Rel N σ μ) (hP : va_P (dC, dI) vwCl (ev_cw ρX cA 0 (hX σ) ++ ev_cw ρM cA 0 (hM μ)) H) (hD : va_D (lwA s) (ev_cw ρX cA 0 (hX σ) ++ ev_cw ρM cA 0 (hM μ))) (hS : va_S (lwA s) s.heap H locs) (hGX : ev_G ρX (lwA s) s s.heap) (hGM : ev_G ρM (lwA s) s s.heap) (hl : lv_has ls 4 [(0, .ref b), (1, .ref (ρX 0)), (2, .ref (ρM 0)), (3, .int (nI (7 * N)))]) : W p l e room_1 s m #[Value.ref b] below meth c H locs (100 + N) (4000 + 6 * N) (lw_Z below #[Value.ref b] s) (F0 m 341 ls []) := by
  obtain ⟨hx, hb, hr, hml, hown, hts, hX', hbl, hlocks, hgv⟩ := id C0
  have hN : N < 512 := by omega
  have hS0 : CallFix p m c code 4 s #[Value.ref b] lw_tbl R_law := ⟨hx, hb, hml, hown, hts⟩
  have hA : ∀ q, s.heap.size ≤ q → lwA s q := fun _ h => h
  have hrm : 100 + N ≤ room_1.cells ∧ 4000 + 6 * N ≤ room_1.slots := ⟨by show 100 + N ≤ 600000; omega, by show 4000 + 6 * N ≤ 7302250; omega⟩
  obtain ⟨r, σ2, μ2, e1, e2, hR2⟩ := sim_turned N (by omega) (xs (7 * N + 1)) σ μ hR
  refine lv_aload_n hx hb d_law_341 rfl (lv_at hl 1 rfl) ?_
  refine lw_arg (j := 1) hx hb hX' hbl hS hl (by omega) hL d_law_342 d_law_343 d_law_344 rfl d_law_345 d_law_346 ?_
  refine lw_call (ρ := ρX) (h := hX σ) (z := (some (.int r), hX σ2)) (as := [.int (xs (7 * N + 1))]) hS0 hK hP hD hS hA hGX (tX11_turned 7 σ (xs (7 * N + 1)) (r, σ2) e1) okl_turned_X11 (ci := 11) rfl rfl rfl ⟨by decide, by decide⟩ hrm hl.1 rfl rfl (Nat.le_of_ble_eq_true rfl) d_law_347 (fun H locs hP hD hS => ?_)
  refine W.eq (g2 := F0 m 350 ls [.int r]) rfl ?_
  refine lv_aload_n hx hb d_law_350 rfl (lv_at hl 2 rfl) ?_
  refine lw_arg (j := 1) hx hb hX' hbl hS hl (by omega) hL d_law_351 d_law_352 d_law_353 rfl d_law_354 d_law_355 ?_
  have hP := wl_Ps hP
  have hD := wl_Ds hD
  refine lw_call (ρ := ρM) (h := hM μ) (z := (some (.int r), hM μ2)) (as := [.int (xs (7 * N + 1))]) hS0 hK hP hD hS hA hGM (tX12_turned 8 μ (xs (7 * N + 1)) (r, μ2) e2) okl_turned_X12 (ci := 12) rfl rfl rfl ⟨by decide, by decide⟩ hrm hl.1 rfl rfl (Nat.le_of_ble_eq_true rfl) d_law_356 (fun H locs hP hD hS => ?_)
  have hP := wl_Ps hP
  have hD := wl_Ds hD
  refine W.eq (g2 := F0 m 359 ls [.int r, .int r]) rfl ?_
  refine lv_icmp_eq (tgt := 1389) hx hb d_law_359 (by decide) (fun _ => ?_) (fun hne => absurd rfl hne)
  exact lc_end C0 hN ih hR2 hP hD hS hGX hGM hl (by omega) (by omega)
end LAW
