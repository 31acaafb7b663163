/-! ===== THE START: the walk to the loop ===== -/
def st_r (l : List Nat) (z : Nat → Nat) : Nat → Nat := fun k => if k < 1000 then l.getD k 0 else z k
def st_x : SX := ((fun _ => 0, 0, 0, 0, 0), (fun _ => 0, fun _ => 0, fun _ => 0, fun _ => 0, 0, 0), (fun _ => 0, fun _ => 0, fun _ _ => 0, 0, 0), (fun _ => none, fun _ => false, fun _ => 0, fun _ => 0, fun _ => 0, fun _ => 0, fun _ => 0, fun _ => 0, fun _ => 0), (0, 0, 0, 0, 0, 0, 0, 0, 0), (fun _ => 0, 0, 10, 10, -1, -1, 0, -1, -1, 0), (0, 0, 0, 0))
def st_m : SM := ((0, 0, 0, fun _ => 0), (fun _ => 0, fun _ => 0, 0), (0, fun _ => 0, fun _ => 0, fun _ => 0, fun _ => 0, fun _ => 0), (0, 10, 10, -1, -1, 0, 0), (0, fun _ => 0), (0, 0, 0, 0, 0, 0, 0, fun _ => 0, fun _ => 0), (0, 0, 0, 0, fun _ => 0, -1), (0, 0, 0, fun _ => 0, 0, 0, 0))
theorem st_rel : Rel 0 st_x st_m := by
  refine ⟨0, 0, fun _ => 0, fun _ => 0, 0, 0, fun _ => 0, 0, ⟨Or.inl ⟨rfl, rfl, rfl⟩, rfl, rfl, rfl, rfl, fun c hc => absurd hc (Nat.not_lt_zero _), Or.inl rfl, rfl, rfl⟩, ⟨Nat.zero_le _, rfl, rfl, fun k _ => ⟨rfl, rfl, fun _ => rfl⟩, by decide +kernel, fun h => absurd rfl h⟩, ⟨Nat.zero_le _, fun _ => rfl, rfl, rfl, fun i _ => by rw [if_neg (Nat.not_lt_zero i)]; rfl, fun i hi => absurd hi (Nat.not_lt_zero _)⟩, ⟨⟨0, by decide, rfl, rfl⟩, ⟨10, by decide, rfl, rfl⟩, ⟨10, by decide, rfl, rfl⟩, rfl, rfl, rfl, Or.inl ⟨rfl, rfl, rfl⟩, ⟨0, by decide, rfl, rfl⟩⟩, ⟨Or.inl ⟨rfl, fun h => absurd h.1 (by decide)⟩, Or.inl rfl, fun h => absurd h (by decide)⟩, ⟨Nat.zero_le _, rfl, rfl, fun i hi => absurd hi (Nat.not_lt_zero _)⟩⟩
theorem wp_swap {D : va_G} {cl : List vw_C} {H : Heap} {x y : Nat × va_E} {b : va_W} (h : va_at D cl x H → va_at D cl y H) : ∀ (a : va_W), va_P D cl (a ++ x :: b) H → va_P D cl (a ++ y :: b) H
  | [], hP => wp_cons.mpr ⟨h (wp_cons.mp hP).1, (wp_cons.mp hP).2⟩
  | c :: a, hP => wp_cons.mpr ⟨(wp_cons.mp hP).1, wp_swap h a (wp_cons.mp hP).2⟩
theorem wd_eq {A : Nat → Prop} {w w' : va_W} (e : w'.map (fun q => q.1) = w.map (fun q => q.1)) (h : va_D A w) : va_D A w' := wd_sub (by rw [e]; exact List.Sublist.refl _) h
theorem st_X {D : va_G} {cl : List vw_C} {H : Heap} (cA : Nat → ClassId) (z : Nat → Nat) (h0 q5 q7_9 q16 q7_20 q15_20 q23_20 q32_20 q27 q8_35 q17_35 q27_35 q44 q51 q70 q7_78 : Nat) (hP : va_P D cl [(h0, .inr (11, [.ref q5, .ref q16, .ref q27, .ref q44, .ref q51, .ref q70, .int 0, .int 0, .int 0, .int 0])), (q5, .inr (5, [.ref q7_9, .int 0, .int 0, .int 0, .int 0])), (q7_9, .inl (cA 2, 45, .inl (fun _ => 0))), (q16, .inr (7, [.ref q7_20, .ref q15_20, .ref q23_20, .ref q32_20, .int 0, .int 0])), (q7_20, .inl (cA 0, 36, .inl (fun _ => 0))), (q15_20, .inl (cA 0, 36, .inl (fun _ => 0))), (q23_20, .inl (cA 0, 36, .inl (fun _ => 0))), (q32_20, .inl (cA 0, 144, .inl (fun _ => 0))), (q27, .inr (4, [.ref q16, .ref q8_35, .ref q17_35, .ref q27_35, .int 0, .int 0])), (q8_35, .inl (cA 1, 144, .inr (.inl (fun _ => 0)))), (q17_35, .inl (cA 1, 144, .inr (.inl (fun _ => 0)))), (q27_35, .inl (cA 5, 4, .inr (.inr (.inr (.inr (fun j => some (q27_35 + 1 + j))))))), (q27_35 + 1, .inl (cA 1, 144, .inr (.inl (fun _ => 0)))), (q27_35 + 2, .inl (cA 1, 144, .inr (.inl (fun _ => 0)))), (q27_35 + 3, .inl (cA 1, 144, .inr (.inl (fun _ => 0)))), (q27_35 + 4, .inl (cA 1, 144, .inr (.inl (fun _ => 0)))), (q44, .inl (cA 4, 6, .inr (.inr (.inr (.inr (fun _ => none)))))), (q51, .inr (8, [.ref q16, .ref q44, .int 0, .int 0, .int 0, .int 0, .int 0, .int 0, .int 0, .int 0, .long 0])), (q70, .inr (3, [.ref q44, .ref q7_78, .int 0, .int 10, .int 10, .int (-1), .int (-1), .int 0, .int (-1), .int (-1), .int 0])), (q7_78, .inl (cA 0, 6, .inl (fun _ => 0)))] H) : va_P D cl (ev_cw (st_r [h0, q5, q7_9, q16, q7_20, q15_20, q23_20, q32_20, q27, q8_35, q17_35, q27_35, q27_35 + 1, q27_35 + 2, q27_35 + 3, q27_35 + 4, q44, q51, q70, q7_78] z) cA 0 (hX st_x)) H := by
  have hq : va_at D cl (q27_35, .inl (cA 5, 4, .inr (.inr (.inr (.inr (fun j => some (q27_35 + 1 + j))))))) H → va_at D cl (q27_35, .inl (cA 5, 4, .inr (.inr (.inr (.inr (fun i => some ((st_r [h0, q5, q7_9, q16, q7_20, q15_20, q23_20, q32_20, q27, q8_35, q17_35, q27_35, q27_35 + 1, q27_35 + 2, q27_35 + 3, q27_35 + 4, q44, q51, q70, q7_78] z) (i + 12)))))))) H := by
    intro q
    have q' : H[q27_35]? = some (vp_cell (cA 5) (4, .inr (.inr (.inr (.inr (fun j => some (q27_35 + 1 + j))))))) := q
    show H[q27_35]? = some (vp_cell (cA 5) (4, .inr (.inr (.inr (.inr (fun i => some ((st_r [h0, q5, q7_9, q16, q7_20, q15_20, q23_20, q32_20, q27, q8_35, q17_35, q27_35, q27_35 + 1, q27_35 + 2, q27_35 + 3, q27_35 + 4, q44, q51, q70, q7_78] z) (i + 12))))))))
    rw [q', vp_cell_q, vp_cell_q]
    refine congrArg some (arrV_ext _ _ (fun i hi => ?_))
    match i, hi with
    | 0, _ => rfl
    | 1, _ => rfl
    | 2, _ => rfl
    | 3, _ => rfl
    | i + 4, hi => exact absurd hi (by omega)
  exact wp_swap (b := [(q27_35 + 1, .inl (cA 1, 144, .inr (.inl (fun _ => 0)))), (q27_35 + 2, .inl (cA 1, 144, .inr (.inl (fun _ => 0)))), (q27_35 + 3, .inl (cA 1, 144, .inr (.inl (fun _ => 0)))), (q27_35 + 4, .inl (cA 1, 144, .inr (.inl (fun _ => 0)))), (q44, .inl (cA 4, 6, .inr (.inr (.inr (.inr (fun _ => none)))))), (q51, .inr (8, [.ref q16, .ref q44, .int 0, .int 0, .int 0, .int 0, .int 0, .int 0, .int 0, .int 0, .long 0])), (q70, .inr (3, [.ref q44, .ref q7_78, .int 0, .int 10, .int 10, .int (-1), .int (-1), .int 0, .int (-1), .int (-1), .int 0])), (q7_78, .inl (cA 0, 6, .inl (fun _ => 0)))]) hq [(h0, .inr (11, [.ref q5, .ref q16, .ref q27, .ref q44, .ref q51, .ref q70, .int 0, .int 0, .int 0, .int 0])), (q5, .inr (5, [.ref q7_9, .int 0, .int 0, .int 0, .int 0])), (q7_9, .inl (cA 2, 45, .inl (fun _ => 0))), (q16, .inr (7, [.ref q7_20, .ref q15_20, .ref q23_20, .ref q32_20, .int 0, .int 0])), (q7_20, .inl (cA 0, 36, .inl (fun _ => 0))), (q15_20, .inl (cA 0, 36, .inl (fun _ => 0))), (q23_20, .inl (cA 0, 36, .inl (fun _ => 0))), (q32_20, .inl (cA 0, 144, .inl (fun _ => 0))), (q27, .inr (4, [.ref q16, .ref q8_35, .ref q17_35, .ref q27_35, .int 0, .int 0])), (q8_35, .inl (cA 1, 144, .inr (.inl (fun _ => 0)))), (q17_35, .inl (cA 1, 144, .inr (.inl (fun _ => 0))))] hP
theorem st_M (cA : Nat → ClassId) (z : Nat → Nat) (m0 q7 q16 q25 q33 q41 q49 q57 q65 q95 q104 q112 q120 q133 : Nat) : ev_cw (st_r [m0, q7, q16, q25, q33, q41, q49, q57, q65, q95, q104, q112, q120, q133] z) cA 0 (hM st_m) = [(m0, .inr (12, [.int 0, .int 0, .int 0, .ref q7, .ref q16, .ref q25, .int 0, .int 0, .ref q33, .ref q41, .ref q49, .ref q57, .ref q65, .int 0, .int 10, .int 10, .int (-1), .int (-1), .int 0, .int 0, .int 0, .ref q95, .int 0, .int 0, .int 0, .int 0, .int 0, .int 0, .int 0, .ref q104, .ref q112, .int 0, .int 0, .int 0, .int 0, .ref q120, .int (-1), .int 0, .int 0, .long 0, .ref q133, .int 0, .int 0, .long 0])), (q7, .inl (cA 0, 36, .inl (fun _ => 0))), (q16, .inl (cA 1, 144, .inr (.inl (fun _ => 0)))), (q25, .inl (cA 1, 144, .inr (.inl (fun _ => 0)))), (q33, .inl (cA 0, 6, .inl (fun _ => 0))), (q41, .inl (cA 0, 6, .inl (fun _ => 0))), (q49, .inl (cA 0, 6, .inl (fun _ => 0))), (q57, .inl (cA 0, 6, .inl (fun _ => 0))), (q65, .inl (cA 0, 6, .inl (fun _ => 0))), (q95, .inl (cA 3, 45, .inl (fun _ => 0))), (q104, .inl (cA 1, 144, .inr (.inl (fun _ => 0)))), (q112, .inl (cA 0, 6, .inl (fun _ => 0))), (q120, .inl (cA 0, 36, .inl (fun _ => 0))), (q133, .inl (cA 0, 6, .inl (fun _ => 0)))] := rfl
set_option maxHeartbeats 4000000 in
set_option maxRecDepth 100000 in
theorem whole_start {p : Program} {e : Env} {s : State} {m : MethodId} {below : List Frame} {meth : Method} {c : Code} (l : Launch) (hflags : l.flags = flags0) {b L : Nat} {xs : Nat → Int32} (hL : L ≤ 3584) (C0 : lw_At p s m meth c b L xs) : W p l e room_1 s m #[Value.ref b] below meth c s.heap [] 0 0 (lw_Z below #[Value.ref b] s) (entryFrame m ([Value.ref b] : List Value).toArray 4) := by
  obtain ⟨hx, hb, hr, hml, hown, hts, hX', hbl, hlocks, hgv⟩ := id C0
  obtain ⟨dC, dI, cA, hK⟩ := st_K hts
  have hC := st_C hts
  obtain ⟨z, hG⟩ := st_G hts hgv
  have htv : ∀ w ∈ ev_tb, w.before #[Value.ref b] s = true := fun w hw => hts w (lw_ts w hw)
  have hS0 : CallFix p m c code 4 s #[Value.ref b] lw_tbl R_law := ⟨hx, hb, hml, hown, hts⟩
  have hA : ∀ q, s.heap.size ≤ q → lwA s q := fun _ h => h
  have hS : va_S (lwA s) s.heap s.heap [] := va_S.rf
  have hP : va_P (dC, dI) vwCl [] s.heap := fun k q h => by simp at h
  have hD : va_D (lwA s) [] := ⟨fun i j p q h => by simp at h, fun k q h => by simp at h⟩
  have hl := lv_entry ([.ref b]) (n := 4) (Nat.le_of_ble_eq_true rfl)
  rw [lg_entry_eq]
  generalize (lg_sl ([.ref b]) ++ List.replicate (4 - (lg_sl ([.ref b])).length) Slot.unset).toArray = ls at hl ⊢
  have hl : lv_has ls 4 [(0, .ref b)] := hl
  refine va_new (ci := 11) (fs := [.null, .null, .null, .null, .null, .null, .int 0, .int 0, .int 0, .int 0]) (C := RX11) (T := TX11) (N := 10) hx hb htv (ev_lay _ (List.mem_of_getElem? (i := 11) rfl)) tyX11 tyX11_ok hown (hts (.classLink R_law 7 RX11) (List.mem_of_getElem? (i := 78) (by decide +kernel))) (hts (.instantiable RX11 10) (List.mem_of_getElem? (i := 79) (by decide +kernel))) (hts (.initialized RX11) (List.mem_of_getElem? (i := 57) (by decide +kernel))) hK hP hD hS hA rfl (by decide +kernel) (Nat.le_of_ble_eq_true rfl) (Nat.le_of_ble_eq_true rfl) d_law_0 (fun h0 H hP hD hS => ?_)
  refine lv_dup hx hb d_law_3 rfl ?_
  refine cn_I (ws := []) (b := h0) (As := []) (n := 0) hS0 lw_ts hK hC hP hD hS hA (c_X11_init_11 l dC dI cA h0 H.size) (tb_mem 82 (by decide +kernel)) rfl rfl (tb_mem 57 (by decide +kernel)) (tb_mem 80 (by decide +kernel)) (tb_mem 81 (by decide +kernel)) rfl (by decide +kernel) ⟨Nat.le_of_ble_eq_true rfl, Nat.le_of_ble_eq_true rfl⟩ ⟨Nat.le_of_ble_eq_true rfl, Nat.le_of_ble_eq_true rfl⟩ rfl hl.1 rfl (Nat.le_of_ble_eq_true rfl) d_law_4 (fun v w1 H locs hp hP hD hS => ?_)
  obtain ⟨rfl, hw1⟩ := hp
  refine W.eq (g2 := F0 m 7 ls [.ref h0]) rfl ?_
  refine lv_astore_n (i := 1) (lv' := [(1, .ref h0), (0, .ref b)]) hx hb d_law_7 rfl hl (by decide) rfl (fun ls hl => ?_)
  have hP : va_P (dC, dI) vwCl w1 H := hP
  have hD : va_D (lwA s) w1 := hD
  refine va_new (ci := 12) (fs := [.int 0, .int 0, .int 0, .null, .null, .null, .int 0, .int 0, .null, .null, .null, .null, .null, .int 0, .int 0, .int 0, .int 0, .int 0, .int 0, .int 0, .int 0, .null, .int 0, .int 0, .int 0, .int 0, .int 0, .int 0, .int 0, .null, .null, .int 0, .int 0, .int 0, .int 0, .null, .int 0, .int 0, .int 0, .long 0, .null, .int 0, .int 0, .long 0]) (C := RX12) (T := TX12) (N := 44) hx hb htv (ev_lay _ (List.mem_of_getElem? (i := 12) rfl)) tyX12 tyX12_ok hown (hts (.classLink R_law 10 RX12) (List.mem_of_getElem? (i := 1044) (by decide +kernel))) (hts (.instantiable RX12 44) (List.mem_of_getElem? (i := 1045) (by decide +kernel))) (hts (.initialized RX12) (List.mem_of_getElem? (i := 63) (by decide +kernel))) hK hP hD hS hA rfl (by decide +kernel) (Nat.le_of_ble_eq_true rfl) (Nat.le_of_ble_eq_true rfl) d_law_8 (fun m0 H hP hD hS => ?_)
  refine lv_dup hx hb d_law_11 rfl ?_
  refine cn_I (ws := w1) (b := m0) (As := []) (n := 0) hS0 lw_ts hK hC hP hD hS hA (c_X12_init_12 l dC dI cA m0 H.size) (tb_mem 1048 (by decide +kernel)) rfl rfl (tb_mem 63 (by decide +kernel)) (tb_mem 1046 (by decide +kernel)) (tb_mem 1047 (by decide +kernel)) rfl (by decide +kernel) ⟨Nat.le_of_ble_eq_true rfl, Nat.le_of_ble_eq_true rfl⟩ ⟨Nat.le_of_ble_eq_true rfl, Nat.le_of_ble_eq_true rfl⟩ rfl hl.1 rfl (Nat.le_of_ble_eq_true rfl) d_law_12 (fun v w2 H locs hp hP hD hS => ?_)
  obtain ⟨rfl, mq7, mq16, mq25, mq33, mq41, mq49, mq57, mq65, mq95, mq104, mq112, mq120, mq133, rfl⟩ := hp
  obtain ⟨q5, q7_9, q16, q7_20, q15_20, q23_20, q32_20, q27, q8_35, q17_35, q27_35, q44, q51, q70, q7_78, rfl⟩ := hw1
  refine W.eq (g2 := F0 m 15 ls [.ref m0]) rfl ?_
  refine lv_astore_n (i := 2) (lv' := [(2, .ref m0), (1, .ref h0), (0, .ref b)]) hx hb d_law_15 rfl hl (by decide) rfl (fun ls hl => ?_)
  refine lv_iconst (v := nI 0) hx hb d_law_16 rfl ?_
  refine lv_istore_n (i := 3) (lv' := [(3, .int (nI 0)), (2, .ref m0), (1, .ref h0), (0, .ref b)]) hx hb d_law_17 rfl hl (by decide) rfl (fun ls hl => ?_)
  have hPX := st_X cA z h0 q5 q7_9 q16 q7_20 q15_20 q23_20 q32_20 q27 q8_35 q17_35 q27_35 q44 q51 q70 q7_78 (wl_Pl hP)
  have hPM : va_P (dC, dI) vwCl (ev_cw (st_r [m0, mq7, mq16, mq25, mq33, mq41, mq49, mq57, mq65, mq95, mq104, mq112, mq120, mq133] z) cA 0 (hM st_m)) H := wl_Pr hP
  have hP2 := va_P.app hPX hPM
  have hD2 : va_D (lwA s) (ev_cw (st_r [h0, q5, q7_9, q16, q7_20, q15_20, q23_20, q32_20, q27, q8_35, q17_35, q27_35, q27_35 + 1, q27_35 + 2, q27_35 + 3, q27_35 + 4, q44, q51, q70, q7_78] z) cA 0 (hX st_x) ++ ev_cw (st_r [m0, mq7, mq16, mq25, mq33, mq41, mq49, mq57, mq65, mq95, mq104, mq112, mq120, mq133] z) cA 0 (hM st_m)) := by
    refine wd_eq ?_ hD
    rfl
  refine W.widen (k := 100 + 0) (n := 4000 + 6 * 0) (Nat.le_of_ble_eq_true rfl) (Nat.le_of_ble_eq_true rfl) ?_
  exact lw_loop C0 hL hK hC 512 0 rfl st_x st_m _ _ H locs ls st_rel hP2 hD2 hS (hG.other (fun k hk => if_neg (Nat.not_lt.mpr hk))) (hG.other (fun k hk => if_neg (Nat.not_lt.mpr hk))) (lv_sub hl [3, 2, 1, 0] rfl)
