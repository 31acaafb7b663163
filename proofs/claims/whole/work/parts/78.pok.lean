set_option maxHeartbeats 4000000 in
set_option maxRecDepth 100000 in
theorem c_kind_0 (l : Launch) (dC : Nat → ClassId) (dI : Nat → Nat → Nat) (cA : Nat → ClassId) (sz : Nat) : Met l yX11_playerOfKind (Cond.code yX11_playerOfKind cX11_playerOfKind 1 (some (.object "WithEyesBound$Player")) :: ev_tb) { frames := 4, cells := 1, slots := 6, locals := 72 } (cn_Pc dC dI cA [.int (nI 0)] [] sz) (cn_Q dC dI [] sz (fun v w1 => ∃ q, v = some (.ref q) ∧ w1 = [(q, .inr (6, [.int 0, .int (-1), .int 0, .int 0, .int 0, .int 0]))])) 1 6 (va_A [] sz) := by
  refine Met.ofW (cc := cX11_playerOfKind) (maxL := 1) (ret := (some (.object "WithEyesBound$Player"))) (by decide) rfl ?_
  intro p e s m args below meth c s₁ B hml hv
  obtain ⟨rfl, hsz, hP, hK, hD0, hG⟩ := hv
  have hx := B.exec
  have hb := B.bytes
  have hr := B.returns
  have hts : ∀ w ∈ ev_tb, w.before _ s = true := fun w hw => atoms_spec (ws := Cond.code yX11_playerOfKind cX11_playerOfKind 1 (some (.object "WithEyesBound$Player")) :: ev_tb) B.pre w (List.mem_cons_of_mem _ hw)
  have hown : s.vm.findClass RX11 = some m.cls := findClass_of_methodNamed B.named
  subst hsz
  have hD := hD0.self (sz := s.heap.size)
  generalize hAe : va_A [] s.heap.size = A at hD ⊢
  have hA : ∀ q : Nat, s.heap.size ≤ q → A q := fun q h => by rw [← hAe]; exact Or.inr h
  have hS : va_S A s.heap s.heap [] := va_S.rf
  have hl := lv_entry ([.int (nI 0)]) (n := 1) (Nat.le_of_ble_eq_true rfl)
  rw [lg_entry_eq]
  generalize (lg_sl ([.int (nI 0)]) ++ List.replicate (1 - (lg_sl ([.int (nI 0)])).length) Slot.unset).toArray = ls at hl ⊢
  have hl : lv_has ls 1 [(0, .int (nI 0))] := hl
  refine lv_iload_n hx hb dX11_playerOfKind_0 rfl (lv_at hl 0 rfl) ?_
  refine lv_tableOut (tgt := 76) hx hb dX11_playerOfKind_1 (Or.inl (by decide)) (by decide) ?_
  refine va_new (ci := 6) (fs := [.int 0, .int 0, .int 0, .int 0, .int 0, .int 0]) (C := RX6) (T := TX6) (N := 6) hx hb hts (ev_lay _ (List.mem_of_getElem? (i := 6) rfl)) tyX6 tyX6_ok hown (hts (.classLink RX11 32 RX6) (tb_mem 170 (by decide +kernel))) (hts (.instantiable RX6 6) (tb_mem 749 (by decide +kernel))) (hts (.initialized RX6) (tb_mem 71 (by decide +kernel))) hK hP hD hS hA rfl (by decide +kernel) (Nat.le_of_ble_eq_true rfl) (Nat.le_of_ble_eq_true rfl) dX11_playerOfKind_76 (fun q H hP hD hS => ?_)
  have hP : va_P (dC, dI) vwCl [(q, .inr (6, [.int 0, .int 0, .int 0, .int 0, .int 0, .int 0]))] H := hP
  have hD : va_D A [(q, .inr (6, [.int 0, .int 0, .int 0, .int 0, .int 0, .int 0]))] := hD
  refine W.widen (k := 1) (n := 6) (Nat.le_of_ble_eq_true rfl) (Nat.le_of_ble_eq_true rfl) ?_
  refine lv_dup hx hb dX11_playerOfKind_79 rfl ?_
  refine cn_IN (ws := []) (wc := [(q, .inr (6, [.int 0, .int 0, .int 0, .int 0, .int 0, .int 0]))]) (b := q) (As := []) (n := 0) ⟨hx, hb, hml, hown, hts⟩ (fun _ h => h) hK hG hP hD hS hA (c_X6_init_6 l dC dI cA q H.size) (tb_mem 659 (by decide +kernel)) rfl rfl (tb_mem 71 (by decide +kernel)) (by decide +kernel) (tb_mem 658 (by decide +kernel)) rfl (by decide +kernel) ⟨Nat.le_of_ble_eq_true rfl, Nat.le_of_ble_eq_true rfl⟩ ⟨Nat.le_of_ble_eq_true rfl, Nat.le_of_ble_eq_true rfl⟩ rfl hl.1 rfl (Nat.le_of_ble_eq_true rfl) dX11_playerOfKind_80 (fun v w1 H locs hp hP hD hS => ?_)
  obtain ⟨rfl, rfl⟩ := hp
  have hP : va_P (dC, dI) vwCl [(q, .inr (6, [.int 0, .int (-1), .int 0, .int 0, .int 0, .int 0]))] H := hP
  have hD : va_D A [(q, .inr (6, [.int 0, .int (-1), .int 0, .int 0, .int 0, .int 0]))] := hD
  refine W.eq (g2 := F0 m 83 ls [.ref q]) rfl ?_
  exact W.aret (v := .ref q) hx hb hr (Or.inl ⟨_, rfl⟩) (Or.inr ⟨_, rfl⟩) (fun t ht hW => ⟨⟨some (.ref q), _, rfl, ⟨q, rfl, rfl⟩, by rw [ht]; exact hP, by rw [hAe]; exact hD⟩, by rw [hAe]; exact hS.F ht⟩) hS.2.2 dX11_playerOfKind_83
set_option maxHeartbeats 4000000 in
set_option maxRecDepth 100000 in
theorem c_kind_1 (l : Launch) (dC : Nat → ClassId) (dI : Nat → Nat → Nat) (cA : Nat → ClassId) (sz : Nat) : Met l yX11_playerOfKind (Cond.code yX11_playerOfKind cX11_playerOfKind 1 (some (.object "WithEyesBound$Player")) :: ev_tb) { frames := 4, cells := 1, slots := 6, locals := 72 } (cn_Pc dC dI cA [.int (nI 1)] [] sz) (cn_Q dC dI [] sz (fun v w1 => ∃ q, v = some (.ref q) ∧ w1 = [(q, .inr (9, [.int 0, .int (-1), .int 0, .int 0, .int 0, .int 0]))])) 1 6 (va_A [] sz) := by
  refine Met.ofW (cc := cX11_playerOfKind) (maxL := 1) (ret := (some (.object "WithEyesBound$Player"))) (by decide) rfl ?_
  intro p e s m args below meth c s₁ B hml hv
  obtain ⟨rfl, hsz, hP, hK, hD0, hG⟩ := hv
  have hx := B.exec
  have hb := B.bytes
  have hr := B.returns
  have hts : ∀ w ∈ ev_tb, w.before _ s = true := fun w hw => atoms_spec (ws := Cond.code yX11_playerOfKind cX11_playerOfKind 1 (some (.object "WithEyesBound$Player")) :: ev_tb) B.pre w (List.mem_cons_of_mem _ hw)
  have hown : s.vm.findClass RX11 = some m.cls := findClass_of_methodNamed B.named
  subst hsz
  have hD := hD0.self (sz := s.heap.size)
  generalize hAe : va_A [] s.heap.size = A at hD ⊢
  have hA : ∀ q : Nat, s.heap.size ≤ q → A q := fun q h => by rw [← hAe]; exact Or.inr h
  have hS : va_S A s.heap s.heap [] := va_S.rf
  have hl := lv_entry ([.int (nI 1)]) (n := 1) (Nat.le_of_ble_eq_true rfl)
  rw [lg_entry_eq]
  generalize (lg_sl ([.int (nI 1)]) ++ List.replicate (1 - (lg_sl ([.int (nI 1)])).length) Slot.unset).toArray = ls at hl ⊢
  have hl : lv_has ls 1 [(0, .int (nI 1))] := hl
  refine lv_iload_n hx hb dX11_playerOfKind_0 rfl (lv_at hl 0 rfl) ?_
  refine lv_tableIn (tgt := 36) (off := 35) hx hb dX11_playerOfKind_1 (by decide) (by decide) (by decide) (by decide) ?_
  refine va_new (ci := 9) (fs := [.int 0, .int 0, .int 0, .int 0, .int 0, .int 0]) (C := RX9) (T := TX9) (N := 6) hx hb hts (ev_lay _ (List.mem_of_getElem? (i := 9) rfl)) tyX9 tyX9_ok hown (hts (.classLink RX11 307 RX9) (tb_mem 652 (by decide +kernel))) (hts (.instantiable RX9 6) (tb_mem 653 (by decide +kernel))) (hts (.initialized RX9) (tb_mem 72 (by decide +kernel))) hK hP hD hS hA rfl (by decide +kernel) (Nat.le_of_ble_eq_true rfl) (Nat.le_of_ble_eq_true rfl) dX11_playerOfKind_36 (fun q H hP hD hS => ?_)
  have hP : va_P (dC, dI) vwCl [(q, .inr (9, [.int 0, .int 0, .int 0, .int 0, .int 0, .int 0]))] H := hP
  have hD : va_D A [(q, .inr (9, [.int 0, .int 0, .int 0, .int 0, .int 0, .int 0]))] := hD
  refine W.widen (k := 1) (n := 6) (Nat.le_of_ble_eq_true rfl) (Nat.le_of_ble_eq_true rfl) ?_
  refine lv_dup hx hb dX11_playerOfKind_39 rfl ?_
  refine cn_IN (ws := []) (wc := [(q, .inr (9, [.int 0, .int 0, .int 0, .int 0, .int 0, .int 0]))]) (b := q) (As := []) (n := 0) ⟨hx, hb, hml, hown, hts⟩ (fun _ h => h) hK hG hP hD hS hA (c_X9_init_9 l dC dI cA q H.size) (tb_mem 656 (by decide +kernel)) rfl rfl (tb_mem 72 (by decide +kernel)) (by decide +kernel) (tb_mem 655 (by decide +kernel)) rfl (by decide +kernel) ⟨Nat.le_of_ble_eq_true rfl, Nat.le_of_ble_eq_true rfl⟩ ⟨Nat.le_of_ble_eq_true rfl, Nat.le_of_ble_eq_true rfl⟩ rfl hl.1 rfl (Nat.le_of_ble_eq_true rfl) dX11_playerOfKind_40 (fun v w1 H locs hp hP hD hS => ?_)
  obtain ⟨rfl, rfl⟩ := hp
  have hP : va_P (dC, dI) vwCl [(q, .inr (9, [.int 0, .int (-1), .int 0, .int 0, .int 0, .int 0]))] H := hP
  have hD : va_D A [(q, .inr (9, [.int 0, .int (-1), .int 0, .int 0, .int 0, .int 0]))] := hD
  refine W.eq (g2 := F0 m 43 ls [.ref q]) rfl ?_
  exact W.aret (v := .ref q) hx hb hr (Or.inl ⟨_, rfl⟩) (Or.inr ⟨_, rfl⟩) (fun t ht hW => ⟨⟨some (.ref q), _, rfl, ⟨q, rfl, rfl⟩, by rw [ht]; exact hP, by rw [hAe]; exact hD⟩, by rw [hAe]; exact hS.F ht⟩) hS.2.2 dX11_playerOfKind_43
set_option maxHeartbeats 4000000 in
set_option maxRecDepth 100000 in
theorem c_kind_2 (l : Launch) (dC : Nat → ClassId) (dI : Nat → Nat → Nat) (cA : Nat → ClassId) (sz : Nat) : Met l yX11_playerOfKind (Cond.code yX11_playerOfKind cX11_playerOfKind 1 (some (.object "WithEyesBound$Player")) :: ev_tb) { frames := 4, cells := 1, slots := 6, locals := 72 } (cn_Pc dC dI cA [.int (nI 2)] [] sz) (cn_Q dC dI [] sz (fun v w1 => ∃ q, v = some (.ref q) ∧ w1 = [(q, .inr (10, [.int 0, .int (-1), .int 0, .int 0, .int 0, .int 0]))])) 1 6 (va_A [] sz) := by
  refine Met.ofW (cc := cX11_playerOfKind) (maxL := 1) (ret := (some (.object "WithEyesBound$Player"))) (by decide) rfl ?_
  intro p e s m args below meth c s₁ B hml hv
  obtain ⟨rfl, hsz, hP, hK, hD0, hG⟩ := hv
  have hx := B.exec
  have hb := B.bytes
  have hr := B.returns
  have hts : ∀ w ∈ ev_tb, w.before _ s = true := fun w hw => atoms_spec (ws := Cond.code yX11_playerOfKind cX11_playerOfKind 1 (some (.object "WithEyesBound$Player")) :: ev_tb) B.pre w (List.mem_cons_of_mem _ hw)
  have hown : s.vm.findClass RX11 = some m.cls := findClass_of_methodNamed B.named
  subst hsz
  have hD := hD0.self (sz := s.heap.size)
  generalize hAe : va_A [] s.heap.size = A at hD ⊢
  have hA : ∀ q : Nat, s.heap.size ≤ q → A q := fun q h => by rw [← hAe]; exact Or.inr h
  have hS : va_S A s.heap s.heap [] := va_S.rf
  have hl := lv_entry ([.int (nI 2)]) (n := 1) (Nat.le_of_ble_eq_true rfl)
  rw [lg_entry_eq]
  generalize (lg_sl ([.int (nI 2)]) ++ List.replicate (1 - (lg_sl ([.int (nI 2)])).length) Slot.unset).toArray = ls at hl ⊢
  have hl : lv_has ls 1 [(0, .int (nI 2))] := hl
  refine lv_iload_n hx hb dX11_playerOfKind_0 rfl (lv_at hl 0 rfl) ?_
  refine lv_tableIn (tgt := 44) (off := 43) hx hb dX11_playerOfKind_1 (by decide) (by decide) (by decide) (by decide) ?_
  refine va_new (ci := 10) (fs := [.int 0, .int 0, .int 0, .int 0, .int 0, .int 0]) (C := RX10) (T := TX10) (N := 6) hx hb hts (ev_lay _ (List.mem_of_getElem? (i := 10) rfl)) tyX10 tyX10_ok hown (hts (.classLink RX11 310 RX10) (tb_mem 697 (by decide +kernel))) (hts (.instantiable RX10 6) (tb_mem 698 (by decide +kernel))) (hts (.initialized RX10) (tb_mem 73 (by decide +kernel))) hK hP hD hS hA rfl (by decide +kernel) (Nat.le_of_ble_eq_true rfl) (Nat.le_of_ble_eq_true rfl) dX11_playerOfKind_44 (fun q H hP hD hS => ?_)
  have hP : va_P (dC, dI) vwCl [(q, .inr (10, [.int 0, .int 0, .int 0, .int 0, .int 0, .int 0]))] H := hP
  have hD : va_D A [(q, .inr (10, [.int 0, .int 0, .int 0, .int 0, .int 0, .int 0]))] := hD
  refine W.widen (k := 1) (n := 6) (Nat.le_of_ble_eq_true rfl) (Nat.le_of_ble_eq_true rfl) ?_
  refine lv_dup hx hb dX11_playerOfKind_47 rfl ?_
  refine cn_IN (ws := []) (wc := [(q, .inr (10, [.int 0, .int 0, .int 0, .int 0, .int 0, .int 0]))]) (b := q) (As := []) (n := 0) ⟨hx, hb, hml, hown, hts⟩ (fun _ h => h) hK hG hP hD hS hA (c_X10_init_10 l dC dI cA q H.size) (tb_mem 701 (by decide +kernel)) rfl rfl (tb_mem 73 (by decide +kernel)) (by decide +kernel) (tb_mem 700 (by decide +kernel)) rfl (by decide +kernel) ⟨Nat.le_of_ble_eq_true rfl, Nat.le_of_ble_eq_true rfl⟩ ⟨Nat.le_of_ble_eq_true rfl, Nat.le_of_ble_eq_true rfl⟩ rfl hl.1 rfl (Nat.le_of_ble_eq_true rfl) dX11_playerOfKind_48 (fun v w1 H locs hp hP hD hS => ?_)
  obtain ⟨rfl, rfl⟩ := hp
  have hP : va_P (dC, dI) vwCl [(q, .inr (10, [.int 0, .int (-1), .int 0, .int 0, .int 0, .int 0]))] H := hP
  have hD : va_D A [(q, .inr (10, [.int 0, .int (-1), .int 0, .int 0, .int 0, .int 0]))] := hD
  refine W.eq (g2 := F0 m 51 ls [.ref q]) rfl ?_
  exact W.aret (v := .ref q) hx hb hr (Or.inl ⟨_, rfl⟩) (Or.inr ⟨_, rfl⟩) (fun t ht hW => ⟨⟨some (.ref q), _, rfl, ⟨q, rfl, rfl⟩, by rw [ht]; exact hP, by rw [hAe]; exact hD⟩, by rw [hAe]; exact hS.F ht⟩) hS.2.2 dX11_playerOfKind_51
set_option maxHeartbeats 4000000 in
set_option maxRecDepth 100000 in
theorem c_kind_3 (l : Launch) (dC : Nat → ClassId) (dI : Nat → Nat → Nat) (cA : Nat → ClassId) (sz : Nat) : Met l yX11_playerOfKind (Cond.code yX11_playerOfKind cX11_playerOfKind 1 (some (.object "WithEyesBound$Player")) :: ev_tb) { frames := 4, cells := 1, slots := 6, locals := 72 } (cn_Pc dC dI cA [.int (nI 3)] [] sz) (cn_Q dC dI [] sz (fun v w1 => ∃ q, v = some (.ref q) ∧ w1 = [(q, .inr (1, [.int 0, .int (-1), .int 0, .int 0, .int 0, .int 0]))])) 1 6 (va_A [] sz) := by
  refine Met.ofW (cc := cX11_playerOfKind) (maxL := 1) (ret := (some (.object "WithEyesBound$Player"))) (by decide) rfl ?_
  intro p e s m args below meth c s₁ B hml hv
  obtain ⟨rfl, hsz, hP, hK, hD0, hG⟩ := hv
  have hx := B.exec
  have hb := B.bytes
  have hr := B.returns
  have hts : ∀ w ∈ ev_tb, w.before _ s = true := fun w hw => atoms_spec (ws := Cond.code yX11_playerOfKind cX11_playerOfKind 1 (some (.object "WithEyesBound$Player")) :: ev_tb) B.pre w (List.mem_cons_of_mem _ hw)
  have hown : s.vm.findClass RX11 = some m.cls := findClass_of_methodNamed B.named
  subst hsz
  have hD := hD0.self (sz := s.heap.size)
  generalize hAe : va_A [] s.heap.size = A at hD ⊢
  have hA : ∀ q : Nat, s.heap.size ≤ q → A q := fun q h => by rw [← hAe]; exact Or.inr h
  have hS : va_S A s.heap s.heap [] := va_S.rf
  have hl := lv_entry ([.int (nI 3)]) (n := 1) (Nat.le_of_ble_eq_true rfl)
  rw [lg_entry_eq]
  generalize (lg_sl ([.int (nI 3)]) ++ List.replicate (1 - (lg_sl ([.int (nI 3)])).length) Slot.unset).toArray = ls at hl ⊢
  have hl : lv_has ls 1 [(0, .int (nI 3))] := hl
  refine lv_iload_n hx hb dX11_playerOfKind_0 rfl (lv_at hl 0 rfl) ?_
  refine lv_tableIn (tgt := 52) (off := 51) hx hb dX11_playerOfKind_1 (by decide) (by decide) (by decide) (by decide) ?_
  refine va_new (ci := 1) (fs := [.int 0, .int 0, .int 0, .int 0, .int 0, .int 0]) (C := RX1) (T := TX1) (N := 6) hx hb hts (ev_lay _ (List.mem_of_getElem? (i := 1) rfl)) tyX1 tyX1_ok hown (hts (.classLink RX11 313 RX1) (tb_mem 710 (by decide +kernel))) (hts (.instantiable RX1 6) (tb_mem 711 (by decide +kernel))) (hts (.initialized RX1) (tb_mem 74 (by decide +kernel))) hK hP hD hS hA rfl (by decide +kernel) (Nat.le_of_ble_eq_true rfl) (Nat.le_of_ble_eq_true rfl) dX11_playerOfKind_52 (fun q H hP hD hS => ?_)
  have hP : va_P (dC, dI) vwCl [(q, .inr (1, [.int 0, .int 0, .int 0, .int 0, .int 0, .int 0]))] H := hP
  have hD : va_D A [(q, .inr (1, [.int 0, .int 0, .int 0, .int 0, .int 0, .int 0]))] := hD
  refine W.widen (k := 1) (n := 6) (Nat.le_of_ble_eq_true rfl) (Nat.le_of_ble_eq_true rfl) ?_
  refine lv_dup hx hb dX11_playerOfKind_55 rfl ?_
  refine cn_IN (ws := []) (wc := [(q, .inr (1, [.int 0, .int 0, .int 0, .int 0, .int 0, .int 0]))]) (b := q) (As := []) (n := 0) ⟨hx, hb, hml, hown, hts⟩ (fun _ h => h) hK hG hP hD hS hA (c_X1_init_1 l dC dI cA q H.size) (tb_mem 714 (by decide +kernel)) rfl rfl (tb_mem 74 (by decide +kernel)) (by decide +kernel) (tb_mem 713 (by decide +kernel)) rfl (by decide +kernel) ⟨Nat.le_of_ble_eq_true rfl, Nat.le_of_ble_eq_true rfl⟩ ⟨Nat.le_of_ble_eq_true rfl, Nat.le_of_ble_eq_true rfl⟩ rfl hl.1 rfl (Nat.le_of_ble_eq_true rfl) dX11_playerOfKind_56 (fun v w1 H locs hp hP hD hS => ?_)
  obtain ⟨rfl, rfl⟩ := hp
  have hP : va_P (dC, dI) vwCl [(q, .inr (1, [.int 0, .int (-1), .int 0, .int 0, .int 0, .int 0]))] H := hP
  have hD : va_D A [(q, .inr (1, [.int 0, .int (-1), .int 0, .int 0, .int 0, .int 0]))] := hD
  refine W.eq (g2 := F0 m 59 ls [.ref q]) rfl ?_
  exact W.aret (v := .ref q) hx hb hr (Or.inl ⟨_, rfl⟩) (Or.inr ⟨_, rfl⟩) (fun t ht hW => ⟨⟨some (.ref q), _, rfl, ⟨q, rfl, rfl⟩, by rw [ht]; exact hP, by rw [hAe]; exact hD⟩, by rw [hAe]; exact hS.F ht⟩) hS.2.2 dX11_playerOfKind_59
set_option maxHeartbeats 4000000 in
set_option maxRecDepth 100000 in
theorem c_kind_4 (l : Launch) (dC : Nat → ClassId) (dI : Nat → Nat → Nat) (cA : Nat → ClassId) (sz : Nat) : Met l yX11_playerOfKind (Cond.code yX11_playerOfKind cX11_playerOfKind 1 (some (.object "WithEyesBound$Player")) :: ev_tb) { frames := 4, cells := 1, slots := 6, locals := 72 } (cn_Pc dC dI cA [.int (nI 4)] [] sz) (cn_Q dC dI [] sz (fun v w1 => ∃ q, v = some (.ref q) ∧ w1 = [(q, .inr (2, [.int 0, .int (-1), .int 0, .int 0, .int 0, .int 0]))])) 1 6 (va_A [] sz) := by
  refine Met.ofW (cc := cX11_playerOfKind) (maxL := 1) (ret := (some (.object "WithEyesBound$Player"))) (by decide) rfl ?_
  intro p e s m args below meth c s₁ B hml hv
  obtain ⟨rfl, hsz, hP, hK, hD0, hG⟩ := hv
  have hx := B.exec
  have hb := B.bytes
  have hr := B.returns
  have hts : ∀ w ∈ ev_tb, w.before _ s = true := fun w hw => atoms_spec (ws := Cond.code yX11_playerOfKind cX11_playerOfKind 1 (some (.object "WithEyesBound$Player")) :: ev_tb) B.pre w (List.mem_cons_of_mem _ hw)
  have hown : s.vm.findClass RX11 = some m.cls := findClass_of_methodNamed B.named
  subst hsz
  have hD := hD0.self (sz := s.heap.size)
  generalize hAe : va_A [] s.heap.size = A at hD ⊢
  have hA : ∀ q : Nat, s.heap.size ≤ q → A q := fun q h => by rw [← hAe]; exact Or.inr h
  have hS : va_S A s.heap s.heap [] := va_S.rf
  have hl := lv_entry ([.int (nI 4)]) (n := 1) (Nat.le_of_ble_eq_true rfl)
  rw [lg_entry_eq]
  generalize (lg_sl ([.int (nI 4)]) ++ List.replicate (1 - (lg_sl ([.int (nI 4)])).length) Slot.unset).toArray = ls at hl ⊢
  have hl : lv_has ls 1 [(0, .int (nI 4))] := hl
  refine lv_iload_n hx hb dX11_playerOfKind_0 rfl (lv_at hl 0 rfl) ?_
  refine lv_tableIn (tgt := 60) (off := 59) hx hb dX11_playerOfKind_1 (by decide) (by decide) (by decide) (by decide) ?_
  refine va_new (ci := 2) (fs := [.int 0, .int 0, .int 0, .int 0, .int 0, .int 0]) (C := RX2) (T := TX2) (N := 6) hx hb hts (ev_lay _ (List.mem_of_getElem? (i := 2) rfl)) tyX2 tyX2_ok hown (hts (.classLink RX11 316 RX2) (tb_mem 723 (by decide +kernel))) (hts (.instantiable RX2 6) (tb_mem 724 (by decide +kernel))) (hts (.initialized RX2) (tb_mem 75 (by decide +kernel))) hK hP hD hS hA rfl (by decide +kernel) (Nat.le_of_ble_eq_true rfl) (Nat.le_of_ble_eq_true rfl) dX11_playerOfKind_60 (fun q H hP hD hS => ?_)
  have hP : va_P (dC, dI) vwCl [(q, .inr (2, [.int 0, .int 0, .int 0, .int 0, .int 0, .int 0]))] H := hP
  have hD : va_D A [(q, .inr (2, [.int 0, .int 0, .int 0, .int 0, .int 0, .int 0]))] := hD
  refine W.widen (k := 1) (n := 6) (Nat.le_of_ble_eq_true rfl) (Nat.le_of_ble_eq_true rfl) ?_
  refine lv_dup hx hb dX11_playerOfKind_63 rfl ?_
  refine cn_IN (ws := []) (wc := [(q, .inr (2, [.int 0, .int 0, .int 0, .int 0, .int 0, .int 0]))]) (b := q) (As := []) (n := 0) ⟨hx, hb, hml, hown, hts⟩ (fun _ h => h) hK hG hP hD hS hA (c_X2_init_2 l dC dI cA q H.size) (tb_mem 727 (by decide +kernel)) rfl rfl (tb_mem 75 (by decide +kernel)) (by decide +kernel) (tb_mem 726 (by decide +kernel)) rfl (by decide +kernel) ⟨Nat.le_of_ble_eq_true rfl, Nat.le_of_ble_eq_true rfl⟩ ⟨Nat.le_of_ble_eq_true rfl, Nat.le_of_ble_eq_true rfl⟩ rfl hl.1 rfl (Nat.le_of_ble_eq_true rfl) dX11_playerOfKind_64 (fun v w1 H locs hp hP hD hS => ?_)
  obtain ⟨rfl, rfl⟩ := hp
  have hP : va_P (dC, dI) vwCl [(q, .inr (2, [.int 0, .int (-1), .int 0, .int 0, .int 0, .int 0]))] H := hP
  have hD : va_D A [(q, .inr (2, [.int 0, .int (-1), .int 0, .int 0, .int 0, .int 0]))] := hD
  refine W.eq (g2 := F0 m 67 ls [.ref q]) rfl ?_
  exact W.aret (v := .ref q) hx hb hr (Or.inl ⟨_, rfl⟩) (Or.inr ⟨_, rfl⟩) (fun t ht hW => ⟨⟨some (.ref q), _, rfl, ⟨q, rfl, rfl⟩, by rw [ht]; exact hP, by rw [hAe]; exact hD⟩, by rw [hAe]; exact hS.F ht⟩) hS.2.2 dX11_playerOfKind_67
set_option maxHeartbeats 4000000 in
set_option maxRecDepth 100000 in
theorem c_kind_5 (l : Launch) (dC : Nat → ClassId) (dI : Nat → Nat → Nat) (cA : Nat → ClassId) (sz : Nat) : Met l yX11_playerOfKind (Cond.code yX11_playerOfKind cX11_playerOfKind 1 (some (.object "WithEyesBound$Player")) :: ev_tb) { frames := 4, cells := 1, slots := 6, locals := 72 } (cn_Pc dC dI cA [.int (nI 5)] [] sz) (cn_Q dC dI [] sz (fun v w1 => ∃ q, v = some (.ref q) ∧ w1 = [(q, .inr (0, [.int 0, .int (-1), .int 0, .int 0, .int 0, .int 0]))])) 1 6 (va_A [] sz) := by
  refine Met.ofW (cc := cX11_playerOfKind) (maxL := 1) (ret := (some (.object "WithEyesBound$Player"))) (by decide) rfl ?_
  intro p e s m args below meth c s₁ B hml hv
  obtain ⟨rfl, hsz, hP, hK, hD0, hG⟩ := hv
  have hx := B.exec
  have hb := B.bytes
  have hr := B.returns
  have hts : ∀ w ∈ ev_tb, w.before _ s = true := fun w hw => atoms_spec (ws := Cond.code yX11_playerOfKind cX11_playerOfKind 1 (some (.object "WithEyesBound$Player")) :: ev_tb) B.pre w (List.mem_cons_of_mem _ hw)
  have hown : s.vm.findClass RX11 = some m.cls := findClass_of_methodNamed B.named
  subst hsz
  have hD := hD0.self (sz := s.heap.size)
  generalize hAe : va_A [] s.heap.size = A at hD ⊢
  have hA : ∀ q : Nat, s.heap.size ≤ q → A q := fun q h => by rw [← hAe]; exact Or.inr h
  have hS : va_S A s.heap s.heap [] := va_S.rf
  have hl := lv_entry ([.int (nI 5)]) (n := 1) (Nat.le_of_ble_eq_true rfl)
  rw [lg_entry_eq]
  generalize (lg_sl ([.int (nI 5)]) ++ List.replicate (1 - (lg_sl ([.int (nI 5)])).length) Slot.unset).toArray = ls at hl ⊢
  have hl : lv_has ls 1 [(0, .int (nI 5))] := hl
  refine lv_iload_n hx hb dX11_playerOfKind_0 rfl (lv_at hl 0 rfl) ?_
  refine lv_tableIn (tgt := 68) (off := 67) hx hb dX11_playerOfKind_1 (by decide) (by decide) (by decide) (by decide) ?_
  refine va_new (ci := 0) (fs := [.int 0, .int 0, .int 0, .int 0, .int 0, .int 0]) (C := RX0) (T := TX0) (N := 6) hx hb hts (ev_lay _ (List.mem_of_getElem? (i := 0) rfl)) tyX0 tyX0_ok hown (hts (.classLink RX11 319 RX0) (tb_mem 736 (by decide +kernel))) (hts (.instantiable RX0 6) (tb_mem 737 (by decide +kernel))) (hts (.initialized RX0) (tb_mem 76 (by decide +kernel))) hK hP hD hS hA rfl (by decide +kernel) (Nat.le_of_ble_eq_true rfl) (Nat.le_of_ble_eq_true rfl) dX11_playerOfKind_68 (fun q H hP hD hS => ?_)
  have hP : va_P (dC, dI) vwCl [(q, .inr (0, [.int 0, .int 0, .int 0, .int 0, .int 0, .int 0]))] H := hP
  have hD : va_D A [(q, .inr (0, [.int 0, .int 0, .int 0, .int 0, .int 0, .int 0]))] := hD
  refine W.widen (k := 1) (n := 6) (Nat.le_of_ble_eq_true rfl) (Nat.le_of_ble_eq_true rfl) ?_
  refine lv_dup hx hb dX11_playerOfKind_71 rfl ?_
  refine cn_IN (ws := []) (wc := [(q, .inr (0, [.int 0, .int 0, .int 0, .int 0, .int 0, .int 0]))]) (b := q) (As := []) (n := 0) ⟨hx, hb, hml, hown, hts⟩ (fun _ h => h) hK hG hP hD hS hA (c_X0_init_0 l dC dI cA q H.size) (tb_mem 740 (by decide +kernel)) rfl rfl (tb_mem 76 (by decide +kernel)) (by decide +kernel) (tb_mem 739 (by decide +kernel)) rfl (by decide +kernel) ⟨Nat.le_of_ble_eq_true rfl, Nat.le_of_ble_eq_true rfl⟩ ⟨Nat.le_of_ble_eq_true rfl, Nat.le_of_ble_eq_true rfl⟩ rfl hl.1 rfl (Nat.le_of_ble_eq_true rfl) dX11_playerOfKind_72 (fun v w1 H locs hp hP hD hS => ?_)
  obtain ⟨rfl, rfl⟩ := hp
  have hP : va_P (dC, dI) vwCl [(q, .inr (0, [.int 0, .int (-1), .int 0, .int 0, .int 0, .int 0]))] H := hP
  have hD : va_D A [(q, .inr (0, [.int 0, .int (-1), .int 0, .int 0, .int 0, .int 0]))] := hD
  refine W.eq (g2 := F0 m 75 ls [.ref q]) rfl ?_
  exact W.aret (v := .ref q) hx hb hr (Or.inl ⟨_, rfl⟩) (Or.inr ⟨_, rfl⟩) (fun t ht hW => ⟨⟨some (.ref q), _, rfl, ⟨q, rfl, rfl⟩, by rw [ht]; exact hP, by rw [hAe]; exact hD⟩, by rw [hAe]; exact hS.F ht⟩) hS.2.2 dX11_playerOfKind_75
