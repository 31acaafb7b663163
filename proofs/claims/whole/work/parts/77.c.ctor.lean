set_option maxHeartbeats 4000000 in
set_option maxRecDepth 100000 in
theorem c_X5_init_5 (l : Launch) (dC : Nat → ClassId) (dI : Nat → Nat → Nat) (cA : Nat → ClassId) (h0 sz : Nat) : Met l yX5_init (Cond.code yX5_init cX5_init 1 none :: ev_tb) { frames := 1, cells := 1, slots := 45, locals := 12 } (cn_Pc dC dI cA [.ref h0] [(h0, .inr (5, [.null, .int 0, .int 0, .int 0, .int 0]))] sz) (cn_Q dC dI [(h0, .inr (5, [.null, .int 0, .int 0, .int 0, .int 0]))] sz (fun v w1 => v = none ∧ ∃ q7, w1 = [(h0, .inr (5, [.ref q7, .int 0, .int 0, .int 0, .int 0])), (q7, .inl (cA 2, 45, .inl (fun _ => 0)))])) 1 45 (va_A [(h0, .inr (5, [.null, .int 0, .int 0, .int 0, .int 0]))] sz) := by
  refine Met.ofW (cc := cX5_init) (maxL := 1) (ret := none) (by decide) rfl ?_
  intro p e s m args below meth c s₁ B hml hv
  obtain ⟨rfl, hsz, hP, hK, hD0, hG⟩ := hv
  have hx := B.exec
  have hb := B.bytes
  have hr := B.returns
  have hts : ∀ w ∈ ev_tb, w.before _ s = true := fun w hw => atoms_spec (ws := Cond.code yX5_init cX5_init 1 none :: ev_tb) B.pre w (List.mem_cons_of_mem _ hw)
  have hown : s.vm.findClass RX5 = some m.cls := findClass_of_methodNamed B.named
  have hin : meth.name = "<init>" := (name_of_methodNamed B.named B.method).1
  subst hsz
  have hD := hD0.self (sz := s.heap.size)
  generalize hAe : va_A [(h0, .inr (5, [.null, .int 0, .int 0, .int 0, .int 0]))] s.heap.size = A at hD ⊢
  have hA : ∀ q : Nat, s.heap.size ≤ q → A q := fun q h => by rw [← hAe]; exact Or.inr h
  have hS : va_S A s.heap s.heap [] := va_S.rf
  have hl := lv_entry ([.ref h0]) (n := 1) (Nat.le_of_ble_eq_true rfl)
  rw [lg_entry_eq]
  generalize (lg_sl ([.ref h0]) ++ List.replicate (1 - (lg_sl ([.ref h0])).length) Slot.unset).toArray = ls at hl ⊢
  have hl : lv_has ls 1 [(0, .ref h0)] := hl
  refine lv_aload_n hx hb dX5_init_0 rfl (lv_at hl 0 rfl) ?_
  refine W.objInit hx hb hown (hts (.methodLink RX5 3 objectInit) (tb_mem 91 (by decide +kernel))) (hts (.instanceMethod objectInit) (tb_mem 84 (by decide +kernel))) (hts (.code objectInit ⟨#[0xb1]⟩ 1 none) (tb_mem 85 (by decide +kernel))) rfl (by rw [hml]; exact hl.1) rfl dX5_init_1 (Nat.le_of_ble_eq_true rfl) (Nat.le_of_ble_eq_true rfl) ?_
  refine W.eq (g2 := F0 m 4 ls []) rfl ?_
  refine lv_aload_n hx hb dX5_init_4 rfl (lv_at hl 0 rfl) ?_
  refine lv_bipush (v := 45) hx hb dX5_init_5 (by decide) ?_
  refine cn_newa (atype := .char) (a0 := (45, .inl (fun _ => 0))) (N' := 45) hx hb (hts (.arrayClass .char) (tb_mem 110 (by decide +kernel))) (ty := .char) rfl 2 hK rfl rfl (fun _ => rfl) hP hD hS hA (fun _ => rfl) (by decide) (by decide) (Nat.le_of_ble_eq_true rfl) (Nat.le_of_ble_eq_true rfl) (Nat.le_of_ble_eq_true rfl) dX5_init_7 (fun q7 H hP hD hS => ?_)
  have hP : va_P (dC, dI) vwCl [(h0, .inr (5, [.null, .int 0, .int 0, .int 0, .int 0])), (q7, .inl (cA 2, 45, .inl (fun _ => 0)))] H := hP
  have hD : va_D A [(h0, .inr (5, [.null, .int 0, .int 0, .int 0, .int 0])), (q7, .inl (cA 2, 45, .inl (fun _ => 0)))] := hD
  refine W.widen (k := 1) (n := 45) (Nat.le_of_ble_eq_true rfl) (Nat.le_of_ble_eq_true rfl) ?_
  refine va_putF (D := (dC, dI)) (ci := 5) (v := .ref q7) (ty := .array .char) (C := RX5) (T := TX5) (N := 5) hx hb hts (ev_lay _ (List.mem_of_getElem? (i := 5) rfl)) tyX5 tyX5_ok nmX5 hown hK hP hD hS 0 rfl rfl 0 (by decide) (hts (.fieldLink RX5 9 "WithEyesBound$Page" "signs" "[C") (tb_mem 92 (by decide +kernel))) (fun _ h9 => h9) rfl hin rfl (by decide +kernel) rfl rfl (Nat.le_of_ble_eq_true rfl) dX5_init_9 (fun H locs hP hD hS => ?_)
  have hP : va_P (dC, dI) vwCl [(h0, .inr (5, [.ref q7, .int 0, .int 0, .int 0, .int 0])), (q7, .inl (cA 2, 45, .inl (fun _ => 0)))] H := hP
  have hD : va_D A [(h0, .inr (5, [.ref q7, .int 0, .int 0, .int 0, .int 0])), (q7, .inl (cA 2, 45, .inl (fun _ => 0)))] := hD
  exact W.vret hx hb hr (fun t ht hW => ⟨⟨none, _, rfl, ⟨rfl, q7, rfl⟩, by rw [ht]; exact hP, by rw [hAe]; exact hD⟩, by rw [hAe]; exact hS.F ht⟩) hS.2.2 dX5_init_12
set_option maxHeartbeats 4000000 in
set_option maxRecDepth 100000 in
theorem c_X7_init_7 (l : Launch) (dC : Nat → ClassId) (dI : Nat → Nat → Nat) (cA : Nat → ClassId) (h0 sz : Nat) : Met l yX7_init (Cond.code yX7_init cX7_init 1 none :: ev_tb) { frames := 1, cells := 4, slots := 252, locals := 12 } (cn_Pc dC dI cA [.ref h0] [(h0, .inr (7, [.null, .null, .null, .null, .int 0, .int 0]))] sz) (cn_Q dC dI [(h0, .inr (7, [.null, .null, .null, .null, .int 0, .int 0]))] sz (fun v w1 => v = none ∧ ∃ q7, ∃ q15, ∃ q23, ∃ q32, w1 = [(h0, .inr (7, [.ref q7, .ref q15, .ref q23, .ref q32, .int 0, .int 0])), (q7, .inl (cA 0, 36, .inl (fun _ => 0))), (q15, .inl (cA 0, 36, .inl (fun _ => 0))), (q23, .inl (cA 0, 36, .inl (fun _ => 0))), (q32, .inl (cA 0, 144, .inl (fun _ => 0)))])) 4 252 (va_A [(h0, .inr (7, [.null, .null, .null, .null, .int 0, .int 0]))] sz) := by
  refine Met.ofW (cc := cX7_init) (maxL := 1) (ret := none) (by decide) rfl ?_
  intro p e s m args below meth c s₁ B hml hv
  obtain ⟨rfl, hsz, hP, hK, hD0, hG⟩ := hv
  have hx := B.exec
  have hb := B.bytes
  have hr := B.returns
  have hts : ∀ w ∈ ev_tb, w.before _ s = true := fun w hw => atoms_spec (ws := Cond.code yX7_init cX7_init 1 none :: ev_tb) B.pre w (List.mem_cons_of_mem _ hw)
  have hown : s.vm.findClass RX7 = some m.cls := findClass_of_methodNamed B.named
  have hin : meth.name = "<init>" := (name_of_methodNamed B.named B.method).1
  subst hsz
  have hD := hD0.self (sz := s.heap.size)
  generalize hAe : va_A [(h0, .inr (7, [.null, .null, .null, .null, .int 0, .int 0]))] s.heap.size = A at hD ⊢
  have hA : ∀ q : Nat, s.heap.size ≤ q → A q := fun q h => by rw [← hAe]; exact Or.inr h
  have hS : va_S A s.heap s.heap [] := va_S.rf
  have hl := lv_entry ([.ref h0]) (n := 1) (Nat.le_of_ble_eq_true rfl)
  rw [lg_entry_eq]
  generalize (lg_sl ([.ref h0]) ++ List.replicate (1 - (lg_sl ([.ref h0])).length) Slot.unset).toArray = ls at hl ⊢
  have hl : lv_has ls 1 [(0, .ref h0)] := hl
  refine lv_aload_n hx hb dX7_init_0 rfl (lv_at hl 0 rfl) ?_
  refine W.objInit hx hb hown (hts (.methodLink RX7 3 objectInit) (tb_mem 116 (by decide +kernel))) (hts (.instanceMethod objectInit) (tb_mem 84 (by decide +kernel))) (hts (.code objectInit ⟨#[0xb1]⟩ 1 none) (tb_mem 85 (by decide +kernel))) rfl (by rw [hml]; exact hl.1) rfl dX7_init_1 (Nat.le_of_ble_eq_true rfl) (Nat.le_of_ble_eq_true rfl) ?_
  refine W.eq (g2 := F0 m 4 ls []) rfl ?_
  refine lv_aload_n hx hb dX7_init_4 rfl (lv_at hl 0 rfl) ?_
  refine lv_bipush (v := 36) hx hb dX7_init_5 (by decide) ?_
  refine cn_newa (atype := .int) (a0 := (36, .inl (fun _ => 0))) (N' := 36) hx hb (hts (.arrayClass .int) (tb_mem 140 (by decide +kernel))) (ty := .int) rfl 0 hK rfl rfl (fun _ => rfl) hP hD hS hA (fun _ => rfl) (by decide) (by decide) (Nat.le_of_ble_eq_true rfl) (Nat.le_of_ble_eq_true rfl) (Nat.le_of_ble_eq_true rfl) dX7_init_7 (fun q7 H hP hD hS => ?_)
  have hP : va_P (dC, dI) vwCl [(h0, .inr (7, [.null, .null, .null, .null, .int 0, .int 0])), (q7, .inl (cA 0, 36, .inl (fun _ => 0)))] H := hP
  have hD : va_D A [(h0, .inr (7, [.null, .null, .null, .null, .int 0, .int 0])), (q7, .inl (cA 0, 36, .inl (fun _ => 0)))] := hD
  refine W.widen (k := 1) (n := 36) (Nat.le_of_ble_eq_true rfl) (Nat.le_of_ble_eq_true rfl) ?_
  refine va_putF (D := (dC, dI)) (ci := 7) (v := .ref q7) (ty := .array .int) (C := RX7) (T := TX7) (N := 6) hx hb hts (ev_lay _ (List.mem_of_getElem? (i := 7) rfl)) tyX7 tyX7_ok nmX7 hown hK hP hD hS 0 rfl rfl 0 (by decide) (hts (.fieldLink RX7 9 "WithEyesBound$Ring" "kinds" "[I") (tb_mem 117 (by decide +kernel))) (fun _ h9 => h9) rfl hin rfl (by decide +kernel) rfl rfl (Nat.le_of_ble_eq_true rfl) dX7_init_9 (fun H locs hP hD hS => ?_)
  have hP : va_P (dC, dI) vwCl [(h0, .inr (7, [.ref q7, .null, .null, .null, .int 0, .int 0])), (q7, .inl (cA 0, 36, .inl (fun _ => 0)))] H := hP
  have hD : va_D A [(h0, .inr (7, [.ref q7, .null, .null, .null, .int 0, .int 0])), (q7, .inl (cA 0, 36, .inl (fun _ => 0)))] := hD
  refine lv_aload_n hx hb dX7_init_12 rfl (lv_at hl 0 rfl) ?_
  refine lv_bipush (v := 36) hx hb dX7_init_13 (by decide) ?_
  refine cn_newa (atype := .int) (a0 := (36, .inl (fun _ => 0))) (N' := 36) hx hb (hts (.arrayClass .int) (tb_mem 140 (by decide +kernel))) (ty := .int) rfl 0 hK rfl rfl (fun _ => rfl) hP hD hS hA (fun _ => rfl) (by decide) (by decide) (Nat.le_of_ble_eq_true rfl) (Nat.le_of_ble_eq_true rfl) (Nat.le_of_ble_eq_true rfl) dX7_init_15 (fun q15 H hP hD hS => ?_)
  have hP : va_P (dC, dI) vwCl [(h0, .inr (7, [.ref q7, .null, .null, .null, .int 0, .int 0])), (q7, .inl (cA 0, 36, .inl (fun _ => 0))), (q15, .inl (cA 0, 36, .inl (fun _ => 0)))] H := hP
  have hD : va_D A [(h0, .inr (7, [.ref q7, .null, .null, .null, .int 0, .int 0])), (q7, .inl (cA 0, 36, .inl (fun _ => 0))), (q15, .inl (cA 0, 36, .inl (fun _ => 0)))] := hD
  refine W.widen (k := 2) (n := 72) (Nat.le_of_ble_eq_true rfl) (Nat.le_of_ble_eq_true rfl) ?_
  refine va_putF (D := (dC, dI)) (ci := 7) (v := .ref q15) (ty := .array .int) (C := RX7) (T := TX7) (N := 6) hx hb hts (ev_lay _ (List.mem_of_getElem? (i := 7) rfl)) tyX7 tyX7_ok nmX7 hown hK hP hD hS 0 rfl rfl 1 (by decide) (hts (.fieldLink RX7 15 "WithEyesBound$Ring" "rows" "[I") (tb_mem 118 (by decide +kernel))) (fun _ h9 => h9) rfl hin rfl (by decide +kernel) rfl rfl (Nat.le_of_ble_eq_true rfl) dX7_init_17 (fun H locs hP hD hS => ?_)
  have hP : va_P (dC, dI) vwCl [(h0, .inr (7, [.ref q7, .ref q15, .null, .null, .int 0, .int 0])), (q7, .inl (cA 0, 36, .inl (fun _ => 0))), (q15, .inl (cA 0, 36, .inl (fun _ => 0)))] H := hP
  have hD : va_D A [(h0, .inr (7, [.ref q7, .ref q15, .null, .null, .int 0, .int 0])), (q7, .inl (cA 0, 36, .inl (fun _ => 0))), (q15, .inl (cA 0, 36, .inl (fun _ => 0)))] := hD
  refine lv_aload_n hx hb dX7_init_20 rfl (lv_at hl 0 rfl) ?_
  refine lv_bipush (v := 36) hx hb dX7_init_21 (by decide) ?_
  refine cn_newa (atype := .int) (a0 := (36, .inl (fun _ => 0))) (N' := 36) hx hb (hts (.arrayClass .int) (tb_mem 140 (by decide +kernel))) (ty := .int) rfl 0 hK rfl rfl (fun _ => rfl) hP hD hS hA (fun _ => rfl) (by decide) (by decide) (Nat.le_of_ble_eq_true rfl) (Nat.le_of_ble_eq_true rfl) (Nat.le_of_ble_eq_true rfl) dX7_init_23 (fun q23 H hP hD hS => ?_)
  have hP : va_P (dC, dI) vwCl [(h0, .inr (7, [.ref q7, .ref q15, .null, .null, .int 0, .int 0])), (q7, .inl (cA 0, 36, .inl (fun _ => 0))), (q15, .inl (cA 0, 36, .inl (fun _ => 0))), (q23, .inl (cA 0, 36, .inl (fun _ => 0)))] H := hP
  have hD : va_D A [(h0, .inr (7, [.ref q7, .ref q15, .null, .null, .int 0, .int 0])), (q7, .inl (cA 0, 36, .inl (fun _ => 0))), (q15, .inl (cA 0, 36, .inl (fun _ => 0))), (q23, .inl (cA 0, 36, .inl (fun _ => 0)))] := hD
  refine W.widen (k := 3) (n := 108) (Nat.le_of_ble_eq_true rfl) (Nat.le_of_ble_eq_true rfl) ?_
  refine va_putF (D := (dC, dI)) (ci := 7) (v := .ref q23) (ty := .array .int) (C := RX7) (T := TX7) (N := 6) hx hb hts (ev_lay _ (List.mem_of_getElem? (i := 7) rfl)) tyX7 tyX7_ok nmX7 hown hK hP hD hS 0 rfl rfl 2 (by decide) (hts (.fieldLink RX7 18 "WithEyesBound$Ring" "columns" "[I") (tb_mem 119 (by decide +kernel))) (fun _ h9 => h9) rfl hin rfl (by decide +kernel) rfl rfl (Nat.le_of_ble_eq_true rfl) dX7_init_25 (fun H locs hP hD hS => ?_)
  have hP : va_P (dC, dI) vwCl [(h0, .inr (7, [.ref q7, .ref q15, .ref q23, .null, .int 0, .int 0])), (q7, .inl (cA 0, 36, .inl (fun _ => 0))), (q15, .inl (cA 0, 36, .inl (fun _ => 0))), (q23, .inl (cA 0, 36, .inl (fun _ => 0)))] H := hP
  have hD : va_D A [(h0, .inr (7, [.ref q7, .ref q15, .ref q23, .null, .int 0, .int 0])), (q7, .inl (cA 0, 36, .inl (fun _ => 0))), (q15, .inl (cA 0, 36, .inl (fun _ => 0))), (q23, .inl (cA 0, 36, .inl (fun _ => 0)))] := hD
  refine lv_aload_n hx hb dX7_init_28 rfl (lv_at hl 0 rfl) ?_
  refine lv_sipush (v := 144) hx hb dX7_init_29 (by decide) ?_
  refine cn_newa (atype := .int) (a0 := (144, .inl (fun _ => 0))) (N' := 144) hx hb (hts (.arrayClass .int) (tb_mem 140 (by decide +kernel))) (ty := .int) rfl 0 hK rfl rfl (fun _ => rfl) hP hD hS hA (fun _ => rfl) (by decide) (by decide) (Nat.le_of_ble_eq_true rfl) (Nat.le_of_ble_eq_true rfl) (Nat.le_of_ble_eq_true rfl) dX7_init_32 (fun q32 H hP hD hS => ?_)
  have hP : va_P (dC, dI) vwCl [(h0, .inr (7, [.ref q7, .ref q15, .ref q23, .null, .int 0, .int 0])), (q7, .inl (cA 0, 36, .inl (fun _ => 0))), (q15, .inl (cA 0, 36, .inl (fun _ => 0))), (q23, .inl (cA 0, 36, .inl (fun _ => 0))), (q32, .inl (cA 0, 144, .inl (fun _ => 0)))] H := hP
  have hD : va_D A [(h0, .inr (7, [.ref q7, .ref q15, .ref q23, .null, .int 0, .int 0])), (q7, .inl (cA 0, 36, .inl (fun _ => 0))), (q15, .inl (cA 0, 36, .inl (fun _ => 0))), (q23, .inl (cA 0, 36, .inl (fun _ => 0))), (q32, .inl (cA 0, 144, .inl (fun _ => 0)))] := hD
  refine W.widen (k := 4) (n := 252) (Nat.le_of_ble_eq_true rfl) (Nat.le_of_ble_eq_true rfl) ?_
  refine va_putF (D := (dC, dI)) (ci := 7) (v := .ref q32) (ty := .array .int) (C := RX7) (T := TX7) (N := 6) hx hb hts (ev_lay _ (List.mem_of_getElem? (i := 7) rfl)) tyX7 tyX7_ok nmX7 hown hK hP hD hS 0 rfl rfl 3 (by decide) (hts (.fieldLink RX7 21 "WithEyesBound$Ring" "beside" "[I") (tb_mem 120 (by decide +kernel))) (fun _ h9 => h9) rfl hin rfl (by decide +kernel) rfl rfl (Nat.le_of_ble_eq_true rfl) dX7_init_34 (fun H locs hP hD hS => ?_)
  have hP : va_P (dC, dI) vwCl [(h0, .inr (7, [.ref q7, .ref q15, .ref q23, .ref q32, .int 0, .int 0])), (q7, .inl (cA 0, 36, .inl (fun _ => 0))), (q15, .inl (cA 0, 36, .inl (fun _ => 0))), (q23, .inl (cA 0, 36, .inl (fun _ => 0))), (q32, .inl (cA 0, 144, .inl (fun _ => 0)))] H := hP
  have hD : va_D A [(h0, .inr (7, [.ref q7, .ref q15, .ref q23, .ref q32, .int 0, .int 0])), (q7, .inl (cA 0, 36, .inl (fun _ => 0))), (q15, .inl (cA 0, 36, .inl (fun _ => 0))), (q23, .inl (cA 0, 36, .inl (fun _ => 0))), (q32, .inl (cA 0, 144, .inl (fun _ => 0)))] := hD
  exact W.vret hx hb hr (fun t ht hW => ⟨⟨none, _, rfl, ⟨rfl, q7, q15, q23, q32, rfl⟩, by rw [ht]; exact hP, by rw [hAe]; exact hD⟩, by rw [hAe]; exact hS.F ht⟩) hS.2.2 dX7_init_37
set_option maxHeartbeats 4000000 in
set_option maxRecDepth 100000 in
theorem c_X4_init_4 (l : Launch) (dC : Nat → ClassId) (dI : Nat → Nat → Nat) (cA : Nat → ClassId) (h0 r1 sz : Nat) : Met l yX4_init (Cond.code yX4_init cX4_init 2 none :: ev_tb) { frames := 1, cells := 7, slots := 868, locals := 12 } (cn_Pc dC dI cA [.ref h0, .ref r1] [(h0, .inr (4, [.null, .null, .null, .null, .int 0, .int 0]))] sz) (cn_Q dC dI [(h0, .inr (4, [.null, .null, .null, .null, .int 0, .int 0]))] sz (fun v w1 => v = none ∧ ∃ q8, ∃ q17, ∃ q27, w1 = [(h0, .inr (4, [.ref r1, .ref q8, .ref q17, .ref q27, .int 0, .int 0])), (q8, .inl (cA 1, 144, .inr (.inl (fun _ => 0)))), (q17, .inl (cA 1, 144, .inr (.inl (fun _ => 0)))), (q27, .inl (cA 5, 4, .inr (.inr (.inr (.inr (fun j => some (q27 + 1 + j))))))), (q27 + 1, .inl (cA 1, 144, .inr (.inl (fun _ => 0)))), (q27 + 2, .inl (cA 1, 144, .inr (.inl (fun _ => 0)))), (q27 + 3, .inl (cA 1, 144, .inr (.inl (fun _ => 0)))), (q27 + 4, .inl (cA 1, 144, .inr (.inl (fun _ => 0))))])) 7 868 (va_A [(h0, .inr (4, [.null, .null, .null, .null, .int 0, .int 0]))] sz) := by
  refine Met.ofW (cc := cX4_init) (maxL := 2) (ret := none) (by decide) rfl ?_
  intro p e s m args below meth c s₁ B hml hv
  obtain ⟨rfl, hsz, hP, hK, hD0, hG⟩ := hv
  have hx := B.exec
  have hb := B.bytes
  have hr := B.returns
  have hts : ∀ w ∈ ev_tb, w.before _ s = true := fun w hw => atoms_spec (ws := Cond.code yX4_init cX4_init 2 none :: ev_tb) B.pre w (List.mem_cons_of_mem _ hw)
  have hown : s.vm.findClass RX4 = some m.cls := findClass_of_methodNamed B.named
  have hin : meth.name = "<init>" := (name_of_methodNamed B.named B.method).1
  subst hsz
  have hD := hD0.self (sz := s.heap.size)
  generalize hAe : va_A [(h0, .inr (4, [.null, .null, .null, .null, .int 0, .int 0]))] s.heap.size = A at hD ⊢
  have hA : ∀ q : Nat, s.heap.size ≤ q → A q := fun q h => by rw [← hAe]; exact Or.inr h
  have hS : va_S A s.heap s.heap [] := va_S.rf
  have hl := lv_entry ([.ref h0, .ref r1]) (n := 2) (Nat.le_of_ble_eq_true rfl)
  rw [lg_entry_eq]
  generalize (lg_sl ([.ref h0, .ref r1]) ++ List.replicate (2 - (lg_sl ([.ref h0, .ref r1])).length) Slot.unset).toArray = ls at hl ⊢
  have hl : lv_has ls 2 [(0, .ref h0), (1, .ref r1)] := hl
  refine lv_aload_n hx hb dX4_init_0 rfl (lv_at hl 0 rfl) ?_
  refine W.objInit hx hb hown (hts (.methodLink RX4 3 objectInit) (tb_mem 146 (by decide +kernel))) (hts (.instanceMethod objectInit) (tb_mem 84 (by decide +kernel))) (hts (.code objectInit ⟨#[0xb1]⟩ 1 none) (tb_mem 85 (by decide +kernel))) rfl (by rw [hml]; exact hl.1) rfl dX4_init_1 (Nat.le_of_ble_eq_true rfl) (Nat.le_of_ble_eq_true rfl) ?_
  refine W.eq (g2 := F0 m 4 ls []) rfl ?_
  refine lv_aload_n hx hb dX4_init_4 rfl (lv_at hl 0 rfl) ?_
  refine lv_sipush (v := 144) hx hb dX4_init_5 (by decide) ?_
  refine cn_newa (atype := .long) (a0 := (144, .inr (.inl (fun _ => 0)))) (N' := 144) hx hb (hts (.arrayClass .long) (tb_mem 169 (by decide +kernel))) (ty := .long) rfl 1 hK rfl rfl (fun _ => rfl) hP hD hS hA (fun _ => rfl) (by decide) (by decide) (Nat.le_of_ble_eq_true rfl) (Nat.le_of_ble_eq_true rfl) (Nat.le_of_ble_eq_true rfl) dX4_init_8 (fun q8 H hP hD hS => ?_)
  have hP : va_P (dC, dI) vwCl [(h0, .inr (4, [.null, .null, .null, .null, .int 0, .int 0])), (q8, .inl (cA 1, 144, .inr (.inl (fun _ => 0))))] H := hP
  have hD : va_D A [(h0, .inr (4, [.null, .null, .null, .null, .int 0, .int 0])), (q8, .inl (cA 1, 144, .inr (.inl (fun _ => 0))))] := hD
  refine W.widen (k := 1) (n := 144) (Nat.le_of_ble_eq_true rfl) (Nat.le_of_ble_eq_true rfl) ?_
  refine va_putF (D := (dC, dI)) (ci := 4) (v := .ref q8) (ty := .array .long) (C := RX4) (T := TX4) (N := 6) hx hb hts (ev_lay _ (List.mem_of_getElem? (i := 4) rfl)) tyX4 tyX4_ok nmX4 hown hK hP hD hS 0 rfl rfl 1 (by decide) (hts (.fieldLink RX4 9 "WithEyesBound$Odds" "weights" "[J") (tb_mem 150 (by decide +kernel))) (fun _ h9 => h9) rfl hin rfl (by decide +kernel) rfl rfl (Nat.le_of_ble_eq_true rfl) dX4_init_10 (fun H locs hP hD hS => ?_)
  have hP : va_P (dC, dI) vwCl [(h0, .inr (4, [.null, .ref q8, .null, .null, .int 0, .int 0])), (q8, .inl (cA 1, 144, .inr (.inl (fun _ => 0))))] H := hP
  have hD : va_D A [(h0, .inr (4, [.null, .ref q8, .null, .null, .int 0, .int 0])), (q8, .inl (cA 1, 144, .inr (.inl (fun _ => 0))))] := hD
  refine lv_aload_n hx hb dX4_init_13 rfl (lv_at hl 0 rfl) ?_
  refine lv_sipush (v := 144) hx hb dX4_init_14 (by decide) ?_
  refine cn_newa (atype := .long) (a0 := (144, .inr (.inl (fun _ => 0)))) (N' := 144) hx hb (hts (.arrayClass .long) (tb_mem 169 (by decide +kernel))) (ty := .long) rfl 1 hK rfl rfl (fun _ => rfl) hP hD hS hA (fun _ => rfl) (by decide) (by decide) (Nat.le_of_ble_eq_true rfl) (Nat.le_of_ble_eq_true rfl) (Nat.le_of_ble_eq_true rfl) dX4_init_17 (fun q17 H hP hD hS => ?_)
  have hP : va_P (dC, dI) vwCl [(h0, .inr (4, [.null, .ref q8, .null, .null, .int 0, .int 0])), (q8, .inl (cA 1, 144, .inr (.inl (fun _ => 0)))), (q17, .inl (cA 1, 144, .inr (.inl (fun _ => 0))))] H := hP
  have hD : va_D A [(h0, .inr (4, [.null, .ref q8, .null, .null, .int 0, .int 0])), (q8, .inl (cA 1, 144, .inr (.inl (fun _ => 0)))), (q17, .inl (cA 1, 144, .inr (.inl (fun _ => 0))))] := hD
  refine W.widen (k := 2) (n := 288) (Nat.le_of_ble_eq_true rfl) (Nat.le_of_ble_eq_true rfl) ?_
  refine va_putF (D := (dC, dI)) (ci := 4) (v := .ref q17) (ty := .array .long) (C := RX4) (T := TX4) (N := 6) hx hb hts (ev_lay _ (List.mem_of_getElem? (i := 4) rfl)) tyX4 tyX4_ok nmX4 hown hK hP hD hS 0 rfl rfl 2 (by decide) (hts (.fieldLink RX4 15 "WithEyesBound$Odds" "kept" "[J") (tb_mem 151 (by decide +kernel))) (fun _ h9 => h9) rfl hin rfl (by decide +kernel) rfl rfl (Nat.le_of_ble_eq_true rfl) dX4_init_19 (fun H locs hP hD hS => ?_)
  have hP : va_P (dC, dI) vwCl [(h0, .inr (4, [.null, .ref q8, .ref q17, .null, .int 0, .int 0])), (q8, .inl (cA 1, 144, .inr (.inl (fun _ => 0)))), (q17, .inl (cA 1, 144, .inr (.inl (fun _ => 0))))] H := hP
  have hD : va_D A [(h0, .inr (4, [.null, .ref q8, .ref q17, .null, .int 0, .int 0])), (q8, .inl (cA 1, 144, .inr (.inl (fun _ => 0)))), (q17, .inl (cA 1, 144, .inr (.inl (fun _ => 0))))] := hD
  refine lv_aload_n hx hb dX4_init_22 rfl (lv_at hl 0 rfl) ?_
  refine lv_iconst (v := 4) hx hb dX4_init_23 (by decide) ?_
  refine lv_sipush (v := 144) hx hb dX4_init_24 (by decide) ?_
  refine cn_multi hx hb hown (hts (.classLink RX4 18 "[[J") (tb_mem 147 (by decide +kernel))) hG (hts (.arrayClass .long) (tb_mem 169 (by decide +kernel))) hK hP hD hS hA (Nat.le_of_ble_eq_true rfl) (Nat.le_of_ble_eq_true rfl) dX4_init_27 (fun q27 H locs hP hD hS => ?_)
  have hP : va_P (dC, dI) vwCl [(h0, .inr (4, [.null, .ref q8, .ref q17, .null, .int 0, .int 0])), (q8, .inl (cA 1, 144, .inr (.inl (fun _ => 0)))), (q17, .inl (cA 1, 144, .inr (.inl (fun _ => 0)))), (q27, .inl (cA 5, 4, .inr (.inr (.inr (.inr (fun j => some (q27 + 1 + j))))))), (q27 + 1, .inl (cA 1, 144, .inr (.inl (fun _ => 0)))), (q27 + 2, .inl (cA 1, 144, .inr (.inl (fun _ => 0)))), (q27 + 3, .inl (cA 1, 144, .inr (.inl (fun _ => 0)))), (q27 + 4, .inl (cA 1, 144, .inr (.inl (fun _ => 0))))] H := hP
  have hD : va_D A [(h0, .inr (4, [.null, .ref q8, .ref q17, .null, .int 0, .int 0])), (q8, .inl (cA 1, 144, .inr (.inl (fun _ => 0)))), (q17, .inl (cA 1, 144, .inr (.inl (fun _ => 0)))), (q27, .inl (cA 5, 4, .inr (.inr (.inr (.inr (fun j => some (q27 + 1 + j))))))), (q27 + 1, .inl (cA 1, 144, .inr (.inl (fun _ => 0)))), (q27 + 2, .inl (cA 1, 144, .inr (.inl (fun _ => 0)))), (q27 + 3, .inl (cA 1, 144, .inr (.inl (fun _ => 0)))), (q27 + 4, .inl (cA 1, 144, .inr (.inl (fun _ => 0))))] := hD
  refine W.widen (k := 7) (n := 868) (Nat.le_of_ble_eq_true rfl) (Nat.le_of_ble_eq_true rfl) ?_
  refine va_putF (D := (dC, dI)) (ci := 4) (v := .ref q27) (ty := .array (.array .long)) (C := RX4) (T := TX4) (N := 6) hx hb hts (ev_lay _ (List.mem_of_getElem? (i := 4) rfl)) tyX4 tyX4_ok nmX4 hown hK hP hD hS 0 rfl rfl 3 (by decide) (hts (.fieldLink RX4 20 "WithEyesBound$Odds" "outcomes" "[[J") (tb_mem 152 (by decide +kernel))) (fun _ h9 => h9) rfl hin rfl (by decide +kernel) rfl rfl (Nat.le_of_ble_eq_true rfl) dX4_init_31 (fun H locs hP hD hS => ?_)
  have hP : va_P (dC, dI) vwCl [(h0, .inr (4, [.null, .ref q8, .ref q17, .ref q27, .int 0, .int 0])), (q8, .inl (cA 1, 144, .inr (.inl (fun _ => 0)))), (q17, .inl (cA 1, 144, .inr (.inl (fun _ => 0)))), (q27, .inl (cA 5, 4, .inr (.inr (.inr (.inr (fun j => some (q27 + 1 + j))))))), (q27 + 1, .inl (cA 1, 144, .inr (.inl (fun _ => 0)))), (q27 + 2, .inl (cA 1, 144, .inr (.inl (fun _ => 0)))), (q27 + 3, .inl (cA 1, 144, .inr (.inl (fun _ => 0)))), (q27 + 4, .inl (cA 1, 144, .inr (.inl (fun _ => 0))))] H := hP
  have hD : va_D A [(h0, .inr (4, [.null, .ref q8, .ref q17, .ref q27, .int 0, .int 0])), (q8, .inl (cA 1, 144, .inr (.inl (fun _ => 0)))), (q17, .inl (cA 1, 144, .inr (.inl (fun _ => 0)))), (q27, .inl (cA 5, 4, .inr (.inr (.inr (.inr (fun j => some (q27 + 1 + j))))))), (q27 + 1, .inl (cA 1, 144, .inr (.inl (fun _ => 0)))), (q27 + 2, .inl (cA 1, 144, .inr (.inl (fun _ => 0)))), (q27 + 3, .inl (cA 1, 144, .inr (.inl (fun _ => 0)))), (q27 + 4, .inl (cA 1, 144, .inr (.inl (fun _ => 0))))] := hD
  refine lv_aload_n hx hb dX4_init_34 rfl (lv_at hl 0 rfl) ?_
  refine lv_aload_n hx hb dX4_init_35 rfl (lv_at hl 1 rfl) ?_
  refine va_putF (D := (dC, dI)) (ci := 4) (v := .ref r1) (ty := .object "WithEyesBound$Ring") (C := RX4) (T := TX4) (N := 6) hx hb hts (ev_lay _ (List.mem_of_getElem? (i := 4) rfl)) tyX4 tyX4_ok nmX4 hown hK hP hD hS 0 rfl rfl 0 (by decide) (hts (.fieldLink RX4 23 "WithEyesBound$Odds" "ring" "LWithEyesBound$Ring;") (tb_mem 149 (by decide +kernel))) (fun _ h9 => h9) rfl hin rfl (by decide +kernel) rfl rfl (Nat.le_of_ble_eq_true rfl) dX4_init_36 (fun H locs hP hD hS => ?_)
  have hP : va_P (dC, dI) vwCl [(h0, .inr (4, [.ref r1, .ref q8, .ref q17, .ref q27, .int 0, .int 0])), (q8, .inl (cA 1, 144, .inr (.inl (fun _ => 0)))), (q17, .inl (cA 1, 144, .inr (.inl (fun _ => 0)))), (q27, .inl (cA 5, 4, .inr (.inr (.inr (.inr (fun j => some (q27 + 1 + j))))))), (q27 + 1, .inl (cA 1, 144, .inr (.inl (fun _ => 0)))), (q27 + 2, .inl (cA 1, 144, .inr (.inl (fun _ => 0)))), (q27 + 3, .inl (cA 1, 144, .inr (.inl (fun _ => 0)))), (q27 + 4, .inl (cA 1, 144, .inr (.inl (fun _ => 0))))] H := hP
  have hD : va_D A [(h0, .inr (4, [.ref r1, .ref q8, .ref q17, .ref q27, .int 0, .int 0])), (q8, .inl (cA 1, 144, .inr (.inl (fun _ => 0)))), (q17, .inl (cA 1, 144, .inr (.inl (fun _ => 0)))), (q27, .inl (cA 5, 4, .inr (.inr (.inr (.inr (fun j => some (q27 + 1 + j))))))), (q27 + 1, .inl (cA 1, 144, .inr (.inl (fun _ => 0)))), (q27 + 2, .inl (cA 1, 144, .inr (.inl (fun _ => 0)))), (q27 + 3, .inl (cA 1, 144, .inr (.inl (fun _ => 0)))), (q27 + 4, .inl (cA 1, 144, .inr (.inl (fun _ => 0))))] := hD
  exact W.vret hx hb hr (fun t ht hW => ⟨⟨none, _, rfl, ⟨rfl, q8, q17, q27, rfl⟩, by rw [ht]; exact hP, by rw [hAe]; exact hD⟩, by rw [hAe]; exact hS.F ht⟩) hS.2.2 dX4_init_39
set_option maxHeartbeats 4000000 in
set_option maxRecDepth 100000 in
theorem c_X8_init_8 (l : Launch) (dC : Nat → ClassId) (dI : Nat → Nat → Nat) (cA : Nat → ClassId) (h0 r1 r2 sz : Nat) : Met l yX8_init (Cond.code yX8_init cX8_init 3 none :: ev_tb) { frames := 1, cells := 0, slots := 0, locals := 12 } (cn_Pc dC dI cA [.ref h0, .ref r1, .ref r2] [(h0, .inr (8, [.null, .null, .int 0, .int 0, .int 0, .int 0, .int 0, .int 0, .int 0, .int 0, .long 0]))] sz) (cn_Q dC dI [(h0, .inr (8, [.null, .null, .int 0, .int 0, .int 0, .int 0, .int 0, .int 0, .int 0, .int 0, .long 0]))] sz (fun v w1 => v = none ∧ w1 = [(h0, .inr (8, [.ref r1, .ref r2, .int 0, .int 0, .int 0, .int 0, .int 0, .int 0, .int 0, .int 0, .long 0]))])) 0 0 (va_A [(h0, .inr (8, [.null, .null, .int 0, .int 0, .int 0, .int 0, .int 0, .int 0, .int 0, .int 0, .long 0]))] sz) := by
  refine Met.ofW (cc := cX8_init) (maxL := 3) (ret := none) (by decide) rfl ?_
  intro p e s m args below meth c s₁ B hml hv
  obtain ⟨rfl, hsz, hP, hK, hD0, hG⟩ := hv
  have hx := B.exec
  have hb := B.bytes
  have hr := B.returns
  have hts : ∀ w ∈ ev_tb, w.before _ s = true := fun w hw => atoms_spec (ws := Cond.code yX8_init cX8_init 3 none :: ev_tb) B.pre w (List.mem_cons_of_mem _ hw)
  have hown : s.vm.findClass RX8 = some m.cls := findClass_of_methodNamed B.named
  have hin : meth.name = "<init>" := (name_of_methodNamed B.named B.method).1
  subst hsz
  have hD := hD0.self (sz := s.heap.size)
  generalize hAe : va_A [(h0, .inr (8, [.null, .null, .int 0, .int 0, .int 0, .int 0, .int 0, .int 0, .int 0, .int 0, .long 0]))] s.heap.size = A at hD ⊢
  have hA : ∀ q : Nat, s.heap.size ≤ q → A q := fun q h => by rw [← hAe]; exact Or.inr h
  have hS : va_S A s.heap s.heap [] := va_S.rf
  have hl := lv_entry ([.ref h0, .ref r1, .ref r2]) (n := 3) (Nat.le_of_ble_eq_true rfl)
  rw [lg_entry_eq]
  generalize (lg_sl ([.ref h0, .ref r1, .ref r2]) ++ List.replicate (3 - (lg_sl ([.ref h0, .ref r1, .ref r2])).length) Slot.unset).toArray = ls at hl ⊢
  have hl : lv_has ls 3 [(0, .ref h0), (1, .ref r1), (2, .ref r2)] := hl
  refine lv_aload_n hx hb dX8_init_0 rfl (lv_at hl 0 rfl) ?_
  refine W.objInit hx hb hown (hts (.methodLink RX8 3 objectInit) (tb_mem 177 (by decide +kernel))) (hts (.instanceMethod objectInit) (tb_mem 84 (by decide +kernel))) (hts (.code objectInit ⟨#[0xb1]⟩ 1 none) (tb_mem 85 (by decide +kernel))) rfl (by rw [hml]; exact hl.1) rfl dX8_init_1 (Nat.le_of_ble_eq_true rfl) (Nat.le_of_ble_eq_true rfl) ?_
  refine W.eq (g2 := F0 m 4 ls []) rfl ?_
  refine lv_aload_n hx hb dX8_init_4 rfl (lv_at hl 0 rfl) ?_
  refine lv_aload_n hx hb dX8_init_5 rfl (lv_at hl 1 rfl) ?_
  refine va_putF (D := (dC, dI)) (ci := 8) (v := .ref r1) (ty := .object "WithEyesBound$Ring") (C := RX8) (T := TX8) (N := 11) hx hb hts (ev_lay _ (List.mem_of_getElem? (i := 8) rfl)) tyX8 tyX8_ok nmX8 hown hK hP hD hS 0 rfl rfl 0 (by decide) (hts (.fieldLink RX8 9 "WithEyesBound$Round" "ring" "LWithEyesBound$Ring;") (tb_mem 178 (by decide +kernel))) (fun _ h9 => h9) rfl hin rfl (by decide +kernel) rfl rfl (Nat.le_of_ble_eq_true rfl) dX8_init_6 (fun H locs hP hD hS => ?_)
  have hP : va_P (dC, dI) vwCl [(h0, .inr (8, [.ref r1, .null, .int 0, .int 0, .int 0, .int 0, .int 0, .int 0, .int 0, .int 0, .long 0]))] H := hP
  have hD : va_D A [(h0, .inr (8, [.ref r1, .null, .int 0, .int 0, .int 0, .int 0, .int 0, .int 0, .int 0, .int 0, .long 0]))] := hD
  refine lv_aload_n hx hb dX8_init_9 rfl (lv_at hl 0 rfl) ?_
  refine lv_aload_n hx hb dX8_init_10 rfl (lv_at hl 2 rfl) ?_
  refine va_putF (D := (dC, dI)) (ci := 8) (v := .ref r2) (ty := .array (.object "WithEyesBound$Player")) (C := RX8) (T := TX8) (N := 11) hx hb hts (ev_lay _ (List.mem_of_getElem? (i := 8) rfl)) tyX8 tyX8_ok nmX8 hown hK hP hD hS 0 rfl rfl 1 (by decide) (hts (.fieldLink RX8 15 "WithEyesBound$Round" "players" "[LWithEyesBound$Player;") (tb_mem 179 (by decide +kernel))) (fun _ h9 => h9) rfl hin rfl (by decide +kernel) rfl rfl (Nat.le_of_ble_eq_true rfl) dX8_init_11 (fun H locs hP hD hS => ?_)
  have hP : va_P (dC, dI) vwCl [(h0, .inr (8, [.ref r1, .ref r2, .int 0, .int 0, .int 0, .int 0, .int 0, .int 0, .int 0, .int 0, .long 0]))] H := hP
  have hD : va_D A [(h0, .inr (8, [.ref r1, .ref r2, .int 0, .int 0, .int 0, .int 0, .int 0, .int 0, .int 0, .int 0, .long 0]))] := hD
  exact W.vret hx hb hr (fun t ht hW => ⟨⟨none, _, rfl, ⟨rfl, rfl⟩, by rw [ht]; exact hP, by rw [hAe]; exact hD⟩, by rw [hAe]; exact hS.F ht⟩) hS.2.2 dX8_init_14
set_option maxHeartbeats 4000000 in
set_option maxRecDepth 100000 in
theorem c_X3_init_3 (l : Launch) (dC : Nat → ClassId) (dI : Nat → Nat → Nat) (cA : Nat → ClassId) (h0 r1 sz : Nat) : Met l yX3_init (Cond.code yX3_init cX3_init 2 none :: ev_tb) { frames := 1, cells := 1, slots := 6, locals := 12 } (cn_Pc dC dI cA [.ref h0, .ref r1] [(h0, .inr (3, [.null, .null, .int 0, .int 0, .int 0, .int 0, .int 0, .int 0, .int 0, .int 0, .int 0]))] sz) (cn_Q dC dI [(h0, .inr (3, [.null, .null, .int 0, .int 0, .int 0, .int 0, .int 0, .int 0, .int 0, .int 0, .int 0]))] sz (fun v w1 => v = none ∧ ∃ q7, w1 = [(h0, .inr (3, [.ref r1, .ref q7, .int 0, .int 10, .int 10, .int (-1), .int (-1), .int 0, .int (-1), .int (-1), .int 0])), (q7, .inl (cA 0, 6, .inl (fun _ => 0)))])) 1 6 (va_A [(h0, .inr (3, [.null, .null, .int 0, .int 0, .int 0, .int 0, .int 0, .int 0, .int 0, .int 0, .int 0]))] sz) := by
  refine Met.ofW (cc := cX3_init) (maxL := 2) (ret := none) (by decide) rfl ?_
  intro p e s m args below meth c s₁ B hml hv
  obtain ⟨rfl, hsz, hP, hK, hD0, hG⟩ := hv
  have hx := B.exec
  have hb := B.bytes
  have hr := B.returns
  have hts : ∀ w ∈ ev_tb, w.before _ s = true := fun w hw => atoms_spec (ws := Cond.code yX3_init cX3_init 2 none :: ev_tb) B.pre w (List.mem_cons_of_mem _ hw)
  have hown : s.vm.findClass RX3 = some m.cls := findClass_of_methodNamed B.named
  have hin : meth.name = "<init>" := (name_of_methodNamed B.named B.method).1
  subst hsz
  have hD := hD0.self (sz := s.heap.size)
  generalize hAe : va_A [(h0, .inr (3, [.null, .null, .int 0, .int 0, .int 0, .int 0, .int 0, .int 0, .int 0, .int 0, .int 0]))] s.heap.size = A at hD ⊢
  have hA : ∀ q : Nat, s.heap.size ≤ q → A q := fun q h => by rw [← hAe]; exact Or.inr h
  have hS : va_S A s.heap s.heap [] := va_S.rf
  have hl := lv_entry ([.ref h0, .ref r1]) (n := 2) (Nat.le_of_ble_eq_true rfl)
  rw [lg_entry_eq]
  generalize (lg_sl ([.ref h0, .ref r1]) ++ List.replicate (2 - (lg_sl ([.ref h0, .ref r1])).length) Slot.unset).toArray = ls at hl ⊢
  have hl : lv_has ls 2 [(0, .ref h0), (1, .ref r1)] := hl
  refine lv_aload_n hx hb dX3_init_0 rfl (lv_at hl 0 rfl) ?_
  refine W.objInit hx hb hown (hts (.methodLink RX3 3 objectInit) (tb_mem 217 (by decide +kernel))) (hts (.instanceMethod objectInit) (tb_mem 84 (by decide +kernel))) (hts (.code objectInit ⟨#[0xb1]⟩ 1 none) (tb_mem 85 (by decide +kernel))) rfl (by rw [hml]; exact hl.1) rfl dX3_init_1 (Nat.le_of_ble_eq_true rfl) (Nat.le_of_ble_eq_true rfl) ?_
  refine W.eq (g2 := F0 m 4 ls []) rfl ?_
  refine lv_aload_n hx hb dX3_init_4 rfl (lv_at hl 0 rfl) ?_
  refine lv_bipush (v := 6) hx hb dX3_init_5 (by decide) ?_
  refine cn_newa (atype := .int) (a0 := (6, .inl (fun _ => 0))) (N' := 6) hx hb (hts (.arrayClass .int) (tb_mem 140 (by decide +kernel))) (ty := .int) rfl 0 hK rfl rfl (fun _ => rfl) hP hD hS hA (fun _ => rfl) (by decide) (by decide) (Nat.le_of_ble_eq_true rfl) (Nat.le_of_ble_eq_true rfl) (Nat.le_of_ble_eq_true rfl) dX3_init_7 (fun q7 H hP hD hS => ?_)
  have hP : va_P (dC, dI) vwCl [(h0, .inr (3, [.null, .null, .int 0, .int 0, .int 0, .int 0, .int 0, .int 0, .int 0, .int 0, .int 0])), (q7, .inl (cA 0, 6, .inl (fun _ => 0)))] H := hP
  have hD : va_D A [(h0, .inr (3, [.null, .null, .int 0, .int 0, .int 0, .int 0, .int 0, .int 0, .int 0, .int 0, .int 0])), (q7, .inl (cA 0, 6, .inl (fun _ => 0)))] := hD
  refine W.widen (k := 1) (n := 6) (Nat.le_of_ble_eq_true rfl) (Nat.le_of_ble_eq_true rfl) ?_
  refine va_putF (D := (dC, dI)) (ci := 3) (v := .ref q7) (ty := .array .int) (C := RX3) (T := TX3) (N := 11) hx hb hts (ev_lay _ (List.mem_of_getElem? (i := 3) rfl)) tyX3 tyX3_ok nmX3 hown hK hP hD hS 0 rfl rfl 1 (by decide) (hts (.fieldLink RX3 9 "WithEyesBound$Naming" "weights" "[I") (tb_mem 219 (by decide +kernel))) (fun _ h9 => h9) rfl hin rfl (by decide +kernel) rfl rfl (Nat.le_of_ble_eq_true rfl) dX3_init_9 (fun H locs hP hD hS => ?_)
  have hP : va_P (dC, dI) vwCl [(h0, .inr (3, [.null, .ref q7, .int 0, .int 0, .int 0, .int 0, .int 0, .int 0, .int 0, .int 0, .int 0])), (q7, .inl (cA 0, 6, .inl (fun _ => 0)))] H := hP
  have hD : va_D A [(h0, .inr (3, [.null, .ref q7, .int 0, .int 0, .int 0, .int 0, .int 0, .int 0, .int 0, .int 0, .int 0])), (q7, .inl (cA 0, 6, .inl (fun _ => 0)))] := hD
  refine lv_aload_n hx hb dX3_init_12 rfl (lv_at hl 0 rfl) ?_
  refine lv_bipush (v := 10) hx hb dX3_init_13 (by decide) ?_
  refine va_put (D := (dC, dI)) (ci := 3) (v := .int 10) (ty := .int) (C := RX3) (T := TX3) (N := 11) hx hb hts (ev_lay _ (List.mem_of_getElem? (i := 3) rfl)) tyX3 tyX3_ok nmX3 hown hK hP hD hS 0 rfl rfl 3 (by decide) (hts (.fieldLink RX3 15 "WithEyesBound$Naming" "clothRight" "I") (tb_mem 222 (by decide +kernel))) (fun _ h9 => h9) rfl (by decide +kernel) rfl rfl (Nat.le_of_ble_eq_true rfl) dX3_init_15 (fun H locs hP hD hS => ?_)
  have hP : va_P (dC, dI) vwCl [(h0, .inr (3, [.null, .ref q7, .int 0, .int 10, .int 0, .int 0, .int 0, .int 0, .int 0, .int 0, .int 0])), (q7, .inl (cA 0, 6, .inl (fun _ => 0)))] H := hP
  have hD : va_D A [(h0, .inr (3, [.null, .ref q7, .int 0, .int 10, .int 0, .int 0, .int 0, .int 0, .int 0, .int 0, .int 0])), (q7, .inl (cA 0, 6, .inl (fun _ => 0)))] := hD
  refine lv_aload_n hx hb dX3_init_18 rfl (lv_at hl 0 rfl) ?_
  refine lv_bipush (v := 10) hx hb dX3_init_19 (by decide) ?_
  refine va_put (D := (dC, dI)) (ci := 3) (v := .int 10) (ty := .int) (C := RX3) (T := TX3) (N := 11) hx hb hts (ev_lay _ (List.mem_of_getElem? (i := 3) rfl)) tyX3 tyX3_ok nmX3 hown hK hP hD hS 0 rfl rfl 4 (by decide) (hts (.fieldLink RX3 19 "WithEyesBound$Naming" "giggleRight" "I") (tb_mem 224 (by decide +kernel))) (fun _ h9 => h9) rfl (by decide +kernel) rfl rfl (Nat.le_of_ble_eq_true rfl) dX3_init_21 (fun H locs hP hD hS => ?_)
  have hP : va_P (dC, dI) vwCl [(h0, .inr (3, [.null, .ref q7, .int 0, .int 10, .int 10, .int 0, .int 0, .int 0, .int 0, .int 0, .int 0])), (q7, .inl (cA 0, 6, .inl (fun _ => 0)))] H := hP
  have hD : va_D A [(h0, .inr (3, [.null, .ref q7, .int 0, .int 10, .int 10, .int 0, .int 0, .int 0, .int 0, .int 0, .int 0])), (q7, .inl (cA 0, 6, .inl (fun _ => 0)))] := hD
  refine lv_aload_n hx hb dX3_init_24 rfl (lv_at hl 0 rfl) ?_
  refine lv_iconst (v := -1) hx hb dX3_init_25 (by decide) ?_
  refine va_put (D := (dC, dI)) (ci := 3) (v := .int (-1)) (ty := .int) (C := RX3) (T := TX3) (N := 11) hx hb hts (ev_lay _ (List.mem_of_getElem? (i := 3) rfl)) tyX3 tyX3_ok nmX3 hown hK hP hD hS 0 rfl rfl 5 (by decide) (hts (.fieldLink RX3 22 "WithEyesBound$Naming" "first" "I") (tb_mem 226 (by decide +kernel))) (fun _ h9 => h9) rfl (by decide +kernel) rfl rfl (Nat.le_of_ble_eq_true rfl) dX3_init_26 (fun H locs hP hD hS => ?_)
  have hP : va_P (dC, dI) vwCl [(h0, .inr (3, [.null, .ref q7, .int 0, .int 10, .int 10, .int (-1), .int 0, .int 0, .int 0, .int 0, .int 0])), (q7, .inl (cA 0, 6, .inl (fun _ => 0)))] H := hP
  have hD : va_D A [(h0, .inr (3, [.null, .ref q7, .int 0, .int 10, .int 10, .int (-1), .int 0, .int 0, .int 0, .int 0, .int 0])), (q7, .inl (cA 0, 6, .inl (fun _ => 0)))] := hD
  refine lv_aload_n hx hb dX3_init_29 rfl (lv_at hl 0 rfl) ?_
  refine lv_iconst (v := -1) hx hb dX3_init_30 (by decide) ?_
  refine va_put (D := (dC, dI)) (ci := 3) (v := .int (-1)) (ty := .int) (C := RX3) (T := TX3) (N := 11) hx hb hts (ev_lay _ (List.mem_of_getElem? (i := 3) rfl)) tyX3 tyX3_ok nmX3 hown hK hP hD hS 0 rfl rfl 6 (by decide) (hts (.fieldLink RX3 25 "WithEyesBound$Naming" "second" "I") (tb_mem 227 (by decide +kernel))) (fun _ h9 => h9) rfl (by decide +kernel) rfl rfl (Nat.le_of_ble_eq_true rfl) dX3_init_31 (fun H locs hP hD hS => ?_)
  have hP : va_P (dC, dI) vwCl [(h0, .inr (3, [.null, .ref q7, .int 0, .int 10, .int 10, .int (-1), .int (-1), .int 0, .int 0, .int 0, .int 0])), (q7, .inl (cA 0, 6, .inl (fun _ => 0)))] H := hP
  have hD : va_D A [(h0, .inr (3, [.null, .ref q7, .int 0, .int 10, .int 10, .int (-1), .int (-1), .int 0, .int 0, .int 0, .int 0])), (q7, .inl (cA 0, 6, .inl (fun _ => 0)))] := hD
  refine lv_aload_n hx hb dX3_init_34 rfl (lv_at hl 0 rfl) ?_
  refine lv_iconst (v := -1) hx hb dX3_init_35 (by decide) ?_
  refine va_put (D := (dC, dI)) (ci := 3) (v := .int (-1)) (ty := .int) (C := RX3) (T := TX3) (N := 11) hx hb hts (ev_lay _ (List.mem_of_getElem? (i := 3) rfl)) tyX3 tyX3_ok nmX3 hown hK hP hD hS 0 rfl rfl 8 (by decide) (hts (.fieldLink RX3 28 "WithEyesBound$Naming" "keptFirst" "I") (tb_mem 229 (by decide +kernel))) (fun _ h9 => h9) rfl (by decide +kernel) rfl rfl (Nat.le_of_ble_eq_true rfl) dX3_init_36 (fun H locs hP hD hS => ?_)
  have hP : va_P (dC, dI) vwCl [(h0, .inr (3, [.null, .ref q7, .int 0, .int 10, .int 10, .int (-1), .int (-1), .int 0, .int (-1), .int 0, .int 0])), (q7, .inl (cA 0, 6, .inl (fun _ => 0)))] H := hP
  have hD : va_D A [(h0, .inr (3, [.null, .ref q7, .int 0, .int 10, .int 10, .int (-1), .int (-1), .int 0, .int (-1), .int 0, .int 0])), (q7, .inl (cA 0, 6, .inl (fun _ => 0)))] := hD
  refine lv_aload_n hx hb dX3_init_39 rfl (lv_at hl 0 rfl) ?_
  refine lv_iconst (v := -1) hx hb dX3_init_40 (by decide) ?_
  refine va_put (D := (dC, dI)) (ci := 3) (v := .int (-1)) (ty := .int) (C := RX3) (T := TX3) (N := 11) hx hb hts (ev_lay _ (List.mem_of_getElem? (i := 3) rfl)) tyX3 tyX3_ok nmX3 hown hK hP hD hS 0 rfl rfl 9 (by decide) (hts (.fieldLink RX3 31 "WithEyesBound$Naming" "keptSecond" "I") (tb_mem 230 (by decide +kernel))) (fun _ h9 => h9) rfl (by decide +kernel) rfl rfl (Nat.le_of_ble_eq_true rfl) dX3_init_41 (fun H locs hP hD hS => ?_)
  have hP : va_P (dC, dI) vwCl [(h0, .inr (3, [.null, .ref q7, .int 0, .int 10, .int 10, .int (-1), .int (-1), .int 0, .int (-1), .int (-1), .int 0])), (q7, .inl (cA 0, 6, .inl (fun _ => 0)))] H := hP
  have hD : va_D A [(h0, .inr (3, [.null, .ref q7, .int 0, .int 10, .int 10, .int (-1), .int (-1), .int 0, .int (-1), .int (-1), .int 0])), (q7, .inl (cA 0, 6, .inl (fun _ => 0)))] := hD
  refine lv_aload_n hx hb dX3_init_44 rfl (lv_at hl 0 rfl) ?_
  refine lv_aload_n hx hb dX3_init_45 rfl (lv_at hl 1 rfl) ?_
  refine va_putF (D := (dC, dI)) (ci := 3) (v := .ref r1) (ty := .array (.object "WithEyesBound$Player")) (C := RX3) (T := TX3) (N := 11) hx hb hts (ev_lay _ (List.mem_of_getElem? (i := 3) rfl)) tyX3 tyX3_ok nmX3 hown hK hP hD hS 0 rfl rfl 0 (by decide) (hts (.fieldLink RX3 34 "WithEyesBound$Naming" "players" "[LWithEyesBound$Player;") (tb_mem 218 (by decide +kernel))) (fun _ h9 => h9) rfl hin rfl (by decide +kernel) rfl rfl (Nat.le_of_ble_eq_true rfl) dX3_init_46 (fun H locs hP hD hS => ?_)
  have hP : va_P (dC, dI) vwCl [(h0, .inr (3, [.ref r1, .ref q7, .int 0, .int 10, .int 10, .int (-1), .int (-1), .int 0, .int (-1), .int (-1), .int 0])), (q7, .inl (cA 0, 6, .inl (fun _ => 0)))] H := hP
  have hD : va_D A [(h0, .inr (3, [.ref r1, .ref q7, .int 0, .int 10, .int 10, .int (-1), .int (-1), .int 0, .int (-1), .int (-1), .int 0])), (q7, .inl (cA 0, 6, .inl (fun _ => 0)))] := hD
  exact W.vret hx hb hr (fun t ht hW => ⟨⟨none, _, rfl, ⟨rfl, q7, rfl⟩, by rw [ht]; exact hP, by rw [hAe]; exact hD⟩, by rw [hAe]; exact hS.F ht⟩) hS.2.2 dX3_init_49
