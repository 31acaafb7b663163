/-! ===== stores, each by one row (by program) ===== -/
theorem oy_put_x_tp_playing {rt : Option FieldType} {pc idx : Nat} {ls : ev_L} {r : List Value} {σ : SX} {v : Int32} {P : List Nat} : ev_one rt (pc, .putfield idx, 3, 6, 0, .null, [(11, 0)], P) ls (.int v :: .ref 0 :: r) (hX σ) = some (.inl (pc + 3, ls, r, hX (sx_tp_playing σ v))) := rfl
theorem oy_put_x_tp_ringsRead {rt : Option FieldType} {pc idx : Nat} {ls : ev_L} {r : List Value} {σ : SX} {v : Int32} {P : List Nat} : ev_one rt (pc, .putfield idx, 3, 7, 0, .null, [(11, 0)], P) ls (.int v :: .ref 0 :: r) (hX σ) = some (.inl (pc + 3, ls, r, hX (sx_tp_ringsRead σ v))) := rfl
theorem oy_put_x_tp_standsDone {rt : Option FieldType} {pc idx : Nat} {ls : ev_L} {r : List Value} {σ : SX} {v : Int32} {P : List Nat} : ev_one rt (pc, .putfield idx, 3, 8, 0, .null, [(11, 0)], P) ls (.int v :: .ref 0 :: r) (hX σ) = some (.inl (pc + 3, ls, r, hX (sx_tp_standsDone σ v))) := rfl
theorem oy_put_x_tp_imageKept {rt : Option FieldType} {pc idx : Nat} {ls : ev_L} {r : List Value} {σ : SX} {v : Int32} {P : List Nat} (hb : v = 0 ∨ v = 1) : ev_one rt (pc, .putfield idx, 3, 9, 2, .null, [(11, 0)], P) ls (.int v :: .ref 0 :: r) (hX σ) = some (.inl (pc + 3, ls, r, hX (sx_tp_imageKept σ v))) := by
  show (if _ ∧ _ ∧ ev_fit 2 (.int v) = true then _ else none) = _
  rw [if_pos ⟨rfl, Nat.le_of_ble_eq_true rfl, decide_eq_true hb⟩]
  rfl
theorem oy_put_x_pg_length {rt : Option FieldType} {pc idx : Nat} {ls : ev_L} {r : List Value} {σ : SX} {v : Int32} {P : List Nat} : ev_one rt (pc, .putfield idx, 3, 1, 0, .null, [(5, 0)], P) ls (.int v :: .ref 1 :: r) (hX σ) = some (.inl (pc + 3, ls, r, hX (sx_pg_length σ v))) := rfl
theorem oy_put_x_pg_row {rt : Option FieldType} {pc idx : Nat} {ls : ev_L} {r : List Value} {σ : SX} {v : Int32} {P : List Nat} : ev_one rt (pc, .putfield idx, 3, 2, 0, .null, [(5, 0)], P) ls (.int v :: .ref 1 :: r) (hX σ) = some (.inl (pc + 3, ls, r, hX (sx_pg_row σ v))) := rfl
theorem oy_put_x_pg_column {rt : Option FieldType} {pc idx : Nat} {ls : ev_L} {r : List Value} {σ : SX} {v : Int32} {P : List Nat} : ev_one rt (pc, .putfield idx, 3, 3, 0, .null, [(5, 0)], P) ls (.int v :: .ref 1 :: r) (hX σ) = some (.inl (pc + 3, ls, r, hX (sx_pg_column σ v))) := rfl
theorem oy_put_x_pg_width {rt : Option FieldType} {pc idx : Nat} {ls : ev_L} {r : List Value} {σ : SX} {v : Int32} {P : List Nat} : ev_one rt (pc, .putfield idx, 3, 4, 0, .null, [(5, 0)], P) ls (.int v :: .ref 1 :: r) (hX σ) = some (.inl (pc + 3, ls, r, hX (sx_pg_width σ v))) := rfl
theorem oy_ast_x_pg_signs {rt : Option FieldType} {pc : Nat} {ls : ev_L} {r : List Value} {σ : SX} {j : Int32} {v : Int32} {D : List (Nat × Nat)} {P : List Nat} (hin : ¬ (j < 0 ∨ 45 ≤ j.toNatClampNeg)) : ev_one rt (pc, .castore, 1, 0, 0, .null, D, P) ls (.int v :: .int j :: .ref 2 :: r) (hX σ) = some (.inl (pc + 1, ls, r, hX (sx_pg_signs σ (upd (gx_pg_signs σ) j.toNatClampNeg (vp_nar .char v))))) := by
  show (if ¬ (j < 0 ∨ 45 ≤ j.toNatClampNeg) then _ else none) = _
  rw [if_pos hin]
  rfl
theorem oy_put_x_rg_size {rt : Option FieldType} {pc idx : Nat} {ls : ev_L} {r : List Value} {σ : SX} {v : Int32} {P : List Nat} : ev_one rt (pc, .putfield idx, 3, 4, 0, .null, [(7, 0)], P) ls (.int v :: .ref 3 :: r) (hX σ) = some (.inl (pc + 3, ls, r, hX (sx_rg_size σ v))) := rfl
theorem oy_put_x_rg_free {rt : Option FieldType} {pc idx : Nat} {ls : ev_L} {r : List Value} {σ : SX} {v : Int32} {P : List Nat} : ev_one rt (pc, .putfield idx, 3, 5, 0, .null, [(7, 0)], P) ls (.int v :: .ref 3 :: r) (hX σ) = some (.inl (pc + 3, ls, r, hX (sx_rg_free σ v))) := rfl
theorem oy_ast_x_rg_kinds {rt : Option FieldType} {pc : Nat} {ls : ev_L} {r : List Value} {σ : SX} {j : Int32} {v : Int32} {D : List (Nat × Nat)} {P : List Nat} (hin : ¬ (j < 0 ∨ 36 ≤ j.toNatClampNeg)) : ev_one rt (pc, .iastore, 1, 0, 0, .null, D, P) ls (.int v :: .int j :: .ref 4 :: r) (hX σ) = some (.inl (pc + 1, ls, r, hX (sx_rg_kinds σ (upd (gx_rg_kinds σ) j.toNatClampNeg v)))) := by
  show (if ¬ (j < 0 ∨ 36 ≤ j.toNatClampNeg) then _ else none) = _
  rw [if_pos hin]
  rfl
theorem oy_ast_x_rg_rows {rt : Option FieldType} {pc : Nat} {ls : ev_L} {r : List Value} {σ : SX} {j : Int32} {v : Int32} {D : List (Nat × Nat)} {P : List Nat} (hin : ¬ (j < 0 ∨ 36 ≤ j.toNatClampNeg)) : ev_one rt (pc, .iastore, 1, 0, 0, .null, D, P) ls (.int v :: .int j :: .ref 5 :: r) (hX σ) = some (.inl (pc + 1, ls, r, hX (sx_rg_rows σ (upd (gx_rg_rows σ) j.toNatClampNeg v)))) := by
  show (if ¬ (j < 0 ∨ 36 ≤ j.toNatClampNeg) then _ else none) = _
  rw [if_pos hin]
  rfl
theorem oy_ast_x_rg_columns {rt : Option FieldType} {pc : Nat} {ls : ev_L} {r : List Value} {σ : SX} {j : Int32} {v : Int32} {D : List (Nat × Nat)} {P : List Nat} (hin : ¬ (j < 0 ∨ 36 ≤ j.toNatClampNeg)) : ev_one rt (pc, .iastore, 1, 0, 0, .null, D, P) ls (.int v :: .int j :: .ref 6 :: r) (hX σ) = some (.inl (pc + 1, ls, r, hX (sx_rg_columns σ (upd (gx_rg_columns σ) j.toNatClampNeg v)))) := by
  show (if ¬ (j < 0 ∨ 36 ≤ j.toNatClampNeg) then _ else none) = _
  rw [if_pos hin]
  rfl
theorem oy_ast_x_rg_beside {rt : Option FieldType} {pc : Nat} {ls : ev_L} {r : List Value} {σ : SX} {j : Int32} {v : Int32} {D : List (Nat × Nat)} {P : List Nat} (hin : ¬ (j < 0 ∨ 144 ≤ j.toNatClampNeg)) : ev_one rt (pc, .iastore, 1, 0, 0, .null, D, P) ls (.int v :: .int j :: .ref 7 :: r) (hX σ) = some (.inl (pc + 1, ls, r, hX (sx_rg_beside σ (upd (gx_rg_beside σ) j.toNatClampNeg v)))) := by
  show (if ¬ (j < 0 ∨ 144 ≤ j.toNatClampNeg) then _ else none) = _
  rw [if_pos hin]
  rfl
theorem oy_put_x_od_updates {rt : Option FieldType} {pc idx : Nat} {ls : ev_L} {r : List Value} {σ : SX} {v : Int32} {P : List Nat} : ev_one rt (pc, .putfield idx, 3, 4, 0, .null, [(4, 0)], P) ls (.int v :: .ref 8 :: r) (hX σ) = some (.inl (pc + 3, ls, r, hX (sx_od_updates σ v))) := rfl
theorem oy_put_x_od_keptUpdates {rt : Option FieldType} {pc idx : Nat} {ls : ev_L} {r : List Value} {σ : SX} {v : Int32} {P : List Nat} : ev_one rt (pc, .putfield idx, 3, 5, 0, .null, [(4, 0)], P) ls (.int v :: .ref 8 :: r) (hX σ) = some (.inl (pc + 3, ls, r, hX (sx_od_keptUpdates σ v))) := rfl
theorem oy_ast_x_od_weights {rt : Option FieldType} {pc : Nat} {ls : ev_L} {r : List Value} {σ : SX} {j : Int32} {v : Int64} {D : List (Nat × Nat)} {P : List Nat} (hin : ¬ (j < 0 ∨ 144 ≤ j.toNatClampNeg)) : ev_one rt (pc, .lastore, 1, 0, 0, .null, D, P) ls (.long v :: .int j :: .ref 9 :: r) (hX σ) = some (.inl (pc + 1, ls, r, hX (sx_od_weights σ (vp_updL (gx_od_weights σ) j.toNatClampNeg v)))) := by
  show (if ¬ (j < 0 ∨ 144 ≤ j.toNatClampNeg) then _ else none) = _
  rw [if_pos hin]
  rfl
theorem oy_ast_x_od_kept {rt : Option FieldType} {pc : Nat} {ls : ev_L} {r : List Value} {σ : SX} {j : Int32} {v : Int64} {D : List (Nat × Nat)} {P : List Nat} (hin : ¬ (j < 0 ∨ 144 ≤ j.toNatClampNeg)) : ev_one rt (pc, .lastore, 1, 0, 0, .null, D, P) ls (.long v :: .int j :: .ref 10 :: r) (hX σ) = some (.inl (pc + 1, ls, r, hX (sx_od_kept σ (vp_updL (gx_od_kept σ) j.toNatClampNeg v)))) := by
  show (if ¬ (j < 0 ∨ 144 ≤ j.toNatClampNeg) then _ else none) = _
  rw [if_pos hin]
  rfl
theorem oy_ast_x_pl_arr {rt : Option FieldType} {pc : Nat} {ls : ev_L} {r : List Value} {σ : SX} {j : Int32} {D : List (Nat × Nat)} {P : List Nat} (hin : ¬ (j < 0 ∨ 6 ≤ j.toNatClampNeg)) : ev_one rt (pc, .aastore, 1, 0, 0, .null, D, P) ls (.null :: .int j :: .ref 16 :: r) (hX σ) = some (.inl (pc + 1, ls, r, hX (sx_pl_arr σ (va_up (gx_pl_arr σ) j.toNatClampNeg none)))) := by
  show (if ¬ (j < 0 ∨ 6 ≤ j.toNatClampNeg) then _ else none) = _
  rw [if_pos hin]
  rfl
theorem oy_put_x_rd_firstCell {rt : Option FieldType} {pc idx : Nat} {ls : ev_L} {r : List Value} {σ : SX} {v : Int32} {P : List Nat} : ev_one rt (pc, .putfield idx, 3, 2, 0, .null, [(8, 0)], P) ls (.int v :: .ref 17 :: r) (hX σ) = some (.inl (pc + 3, ls, r, hX (sx_rd_firstCell σ v))) := rfl
theorem oy_put_x_rd_firstWay {rt : Option FieldType} {pc idx : Nat} {ls : ev_L} {r : List Value} {σ : SX} {v : Int32} {P : List Nat} : ev_one rt (pc, .putfield idx, 3, 3, 0, .null, [(8, 0)], P) ls (.int v :: .ref 17 :: r) (hX σ) = some (.inl (pc + 3, ls, r, hX (sx_rd_firstWay σ v))) := rfl
theorem oy_put_x_rd_drift {rt : Option FieldType} {pc idx : Nat} {ls : ev_L} {r : List Value} {σ : SX} {v : Int32} {P : List Nat} : ev_one rt (pc, .putfield idx, 3, 4, 0, .null, [(8, 0)], P) ls (.int v :: .ref 17 :: r) (hX σ) = some (.inl (pc + 3, ls, r, hX (sx_rd_drift σ v))) := rfl
theorem oy_put_x_rd_tenths {rt : Option FieldType} {pc idx : Nat} {ls : ev_L} {r : List Value} {σ : SX} {v : Int32} {P : List Nat} : ev_one rt (pc, .putfield idx, 3, 5, 0, .null, [(8, 0)], P) ls (.int v :: .ref 17 :: r) (hX σ) = some (.inl (pc + 3, ls, r, hX (sx_rd_tenths σ v))) := rfl
theorem oy_put_x_rd_hisCell {rt : Option FieldType} {pc idx : Nat} {ls : ev_L} {r : List Value} {σ : SX} {v : Int32} {P : List Nat} : ev_one rt (pc, .putfield idx, 3, 6, 0, .null, [(8, 0)], P) ls (.int v :: .ref 17 :: r) (hX σ) = some (.inl (pc + 3, ls, r, hX (sx_rd_hisCell σ v))) := rfl
theorem oy_put_x_rd_hisWay {rt : Option FieldType} {pc idx : Nat} {ls : ev_L} {r : List Value} {σ : SX} {v : Int32} {P : List Nat} : ev_one rt (pc, .putfield idx, 3, 7, 0, .null, [(8, 0)], P) ls (.int v :: .ref 17 :: r) (hX σ) = some (.inl (pc + 3, ls, r, hX (sx_rd_hisWay σ v))) := rfl
theorem oy_put_x_rd_tenth {rt : Option FieldType} {pc idx : Nat} {ls : ev_L} {r : List Value} {σ : SX} {v : Int32} {P : List Nat} : ev_one rt (pc, .putfield idx, 3, 8, 0, .null, [(8, 0)], P) ls (.int v :: .ref 17 :: r) (hX σ) = some (.inl (pc + 3, ls, r, hX (sx_rd_tenth σ v))) := rfl
theorem oy_put_x_rd_touched {rt : Option FieldType} {pc idx : Nat} {ls : ev_L} {r : List Value} {σ : SX} {v : Int32} {P : List Nat} : ev_one rt (pc, .putfield idx, 3, 9, 0, .null, [(8, 0)], P) ls (.int v :: .ref 17 :: r) (hX σ) = some (.inl (pc + 3, ls, r, hX (sx_rd_touched σ v))) := rfl
theorem oy_put_x_rd_seed {rt : Option FieldType} {pc idx : Nat} {ls : ev_L} {r : List Value} {σ : SX} {v : Int64} {P : List Nat} : ev_one rt (pc, .putfield idx, 3, 10, 1, .null, [(8, 0)], P) ls (.long v :: .ref 17 :: r) (hX σ) = some (.inl (pc + 3, ls, r, hX (sx_rd_seed σ v))) := rfl
theorem oy_put_x_nm_sizeOff {rt : Option FieldType} {pc idx : Nat} {ls : ev_L} {r : List Value} {σ : SX} {v : Int32} {P : List Nat} : ev_one rt (pc, .putfield idx, 3, 2, 0, .null, [(3, 0)], P) ls (.int v :: .ref 18 :: r) (hX σ) = some (.inl (pc + 3, ls, r, hX (sx_nm_sizeOff σ v))) := rfl
theorem oy_put_x_nm_clothRight {rt : Option FieldType} {pc idx : Nat} {ls : ev_L} {r : List Value} {σ : SX} {v : Int32} {P : List Nat} : ev_one rt (pc, .putfield idx, 3, 3, 0, .null, [(3, 0)], P) ls (.int v :: .ref 18 :: r) (hX σ) = some (.inl (pc + 3, ls, r, hX (sx_nm_clothRight σ v))) := rfl
theorem oy_put_x_nm_giggleRight {rt : Option FieldType} {pc idx : Nat} {ls : ev_L} {r : List Value} {σ : SX} {v : Int32} {P : List Nat} : ev_one rt (pc, .putfield idx, 3, 4, 0, .null, [(3, 0)], P) ls (.int v :: .ref 18 :: r) (hX σ) = some (.inl (pc + 3, ls, r, hX (sx_nm_giggleRight σ v))) := rfl
theorem oy_put_x_nm_first {rt : Option FieldType} {pc idx : Nat} {ls : ev_L} {r : List Value} {σ : SX} {v : Int32} {P : List Nat} : ev_one rt (pc, .putfield idx, 3, 5, 0, .null, [(3, 0)], P) ls (.int v :: .ref 18 :: r) (hX σ) = some (.inl (pc + 3, ls, r, hX (sx_nm_first σ v))) := rfl
theorem oy_put_x_nm_second {rt : Option FieldType} {pc idx : Nat} {ls : ev_L} {r : List Value} {σ : SX} {v : Int32} {P : List Nat} : ev_one rt (pc, .putfield idx, 3, 6, 0, .null, [(3, 0)], P) ls (.int v :: .ref 18 :: r) (hX σ) = some (.inl (pc + 3, ls, r, hX (sx_nm_second σ v))) := rfl
theorem oy_put_x_nm_changed {rt : Option FieldType} {pc idx : Nat} {ls : ev_L} {r : List Value} {σ : SX} {v : Int32} {P : List Nat} : ev_one rt (pc, .putfield idx, 3, 7, 0, .null, [(3, 0)], P) ls (.int v :: .ref 18 :: r) (hX σ) = some (.inl (pc + 3, ls, r, hX (sx_nm_changed σ v))) := rfl
theorem oy_put_x_nm_keptFirst {rt : Option FieldType} {pc idx : Nat} {ls : ev_L} {r : List Value} {σ : SX} {v : Int32} {P : List Nat} : ev_one rt (pc, .putfield idx, 3, 8, 0, .null, [(3, 0)], P) ls (.int v :: .ref 18 :: r) (hX σ) = some (.inl (pc + 3, ls, r, hX (sx_nm_keptFirst σ v))) := rfl
theorem oy_put_x_nm_keptSecond {rt : Option FieldType} {pc idx : Nat} {ls : ev_L} {r : List Value} {σ : SX} {v : Int32} {P : List Nat} : ev_one rt (pc, .putfield idx, 3, 9, 0, .null, [(3, 0)], P) ls (.int v :: .ref 18 :: r) (hX σ) = some (.inl (pc + 3, ls, r, hX (sx_nm_keptSecond σ v))) := rfl
theorem oy_put_x_nm_keptChanged {rt : Option FieldType} {pc idx : Nat} {ls : ev_L} {r : List Value} {σ : SX} {v : Int32} {P : List Nat} : ev_one rt (pc, .putfield idx, 3, 10, 0, .null, [(3, 0)], P) ls (.int v :: .ref 18 :: r) (hX σ) = some (.inl (pc + 3, ls, r, hX (sx_nm_keptChanged σ v))) := rfl
theorem oy_ast_x_nm_weights {rt : Option FieldType} {pc : Nat} {ls : ev_L} {r : List Value} {σ : SX} {j : Int32} {v : Int32} {D : List (Nat × Nat)} {P : List Nat} (hin : ¬ (j < 0 ∨ 6 ≤ j.toNatClampNeg)) : ev_one rt (pc, .iastore, 1, 0, 0, .null, D, P) ls (.int v :: .int j :: .ref 19 :: r) (hX σ) = some (.inl (pc + 1, ls, r, hX (sx_nm_weights σ (upd (gx_nm_weights σ) j.toNatClampNeg v)))) := by
  show (if ¬ (j < 0 ∨ 6 ≤ j.toNatClampNeg) then _ else none) = _
  rw [if_pos hin]
  rfl
theorem oy_put_m_rg_rows {rt : Option FieldType} {pc idx : Nat} {ls : ev_L} {r : List Value} {σ : SM} {v : Int32} {P : List Nat} : ev_one rt (pc, .putfield idx, 3, 0, 0, .null, [(12, 0)], P) ls (.int v :: .ref 0 :: r) (hM σ) = some (.inl (pc + 3, ls, r, hM (sm_rg_rows σ v))) := rfl
theorem oy_put_m_rg_columns {rt : Option FieldType} {pc idx : Nat} {ls : ev_L} {r : List Value} {σ : SM} {v : Int32} {P : List Nat} : ev_one rt (pc, .putfield idx, 3, 1, 0, .null, [(12, 0)], P) ls (.int v :: .ref 0 :: r) (hM σ) = some (.inl (pc + 3, ls, r, hM (sm_rg_columns σ v))) := rfl
theorem oy_put_m_rg_rings {rt : Option FieldType} {pc idx : Nat} {ls : ev_L} {r : List Value} {σ : SM} {v : Int32} {P : List Nat} : ev_one rt (pc, .putfield idx, 3, 2, 0, .null, [(12, 0)], P) ls (.int v :: .ref 0 :: r) (hM σ) = some (.inl (pc + 3, ls, r, hM (sm_rg_rings σ v))) := rfl
theorem oy_put_m_od_updates {rt : Option FieldType} {pc idx : Nat} {ls : ev_L} {r : List Value} {σ : SM} {v : Int32} {P : List Nat} : ev_one rt (pc, .putfield idx, 3, 6, 0, .null, [(12, 0)], P) ls (.int v :: .ref 0 :: r) (hM σ) = some (.inl (pc + 3, ls, r, hM (sm_od_updates σ v))) := rfl
theorem oy_put_m_pl_players {rt : Option FieldType} {pc idx : Nat} {ls : ev_L} {r : List Value} {σ : SM} {v : Int32} {P : List Nat} : ev_one rt (pc, .putfield idx, 3, 7, 0, .null, [(12, 0)], P) ls (.int v :: .ref 0 :: r) (hM σ) = some (.inl (pc + 3, ls, r, hM (sm_pl_players σ v))) := rfl
theorem oy_put_m_nm_unsure {rt : Option FieldType} {pc idx : Nat} {ls : ev_L} {r : List Value} {σ : SM} {v : Int32} {P : List Nat} : ev_one rt (pc, .putfield idx, 3, 13, 0, .null, [(12, 0)], P) ls (.int v :: .ref 0 :: r) (hM σ) = some (.inl (pc + 3, ls, r, hM (sm_nm_unsure σ v))) := rfl
theorem oy_put_m_nm_clothRight {rt : Option FieldType} {pc idx : Nat} {ls : ev_L} {r : List Value} {σ : SM} {v : Int32} {P : List Nat} : ev_one rt (pc, .putfield idx, 3, 14, 0, .null, [(12, 0)], P) ls (.int v :: .ref 0 :: r) (hM σ) = some (.inl (pc + 3, ls, r, hM (sm_nm_clothRight σ v))) := rfl
theorem oy_put_m_nm_giggleRight {rt : Option FieldType} {pc idx : Nat} {ls : ev_L} {r : List Value} {σ : SM} {v : Int32} {P : List Nat} : ev_one rt (pc, .putfield idx, 3, 15, 0, .null, [(12, 0)], P) ls (.int v :: .ref 0 :: r) (hM σ) = some (.inl (pc + 3, ls, r, hM (sm_nm_giggleRight σ v))) := rfl
theorem oy_put_m_nm_jacketA {rt : Option FieldType} {pc idx : Nat} {ls : ev_L} {r : List Value} {σ : SM} {v : Int32} {P : List Nat} : ev_one rt (pc, .putfield idx, 3, 16, 0, .null, [(12, 0)], P) ls (.int v :: .ref 0 :: r) (hM σ) = some (.inl (pc + 3, ls, r, hM (sm_nm_jacketA σ v))) := rfl
theorem oy_put_m_nm_jacketB {rt : Option FieldType} {pc idx : Nat} {ls : ev_L} {r : List Value} {σ : SM} {v : Int32} {P : List Nat} : ev_one rt (pc, .putfield idx, 3, 17, 0, .null, [(12, 0)], P) ls (.int v :: .ref 0 :: r) (hM σ) = some (.inl (pc + 3, ls, r, hM (sm_nm_jacketB σ v))) := rfl
theorem oy_put_m_nm_jacketTenths {rt : Option FieldType} {pc idx : Nat} {ls : ev_L} {r : List Value} {σ : SM} {v : Int32} {P : List Nat} : ev_one rt (pc, .putfield idx, 3, 18, 0, .null, [(12, 0)], P) ls (.int v :: .ref 0 :: r) (hM σ) = some (.inl (pc + 3, ls, r, hM (sm_nm_jacketTenths σ v))) := rfl
theorem oy_put_m_nm_asks {rt : Option FieldType} {pc idx : Nat} {ls : ev_L} {r : List Value} {σ : SM} {v : Int32} {P : List Nat} : ev_one rt (pc, .putfield idx, 3, 19, 0, .null, [(12, 0)], P) ls (.int v :: .ref 0 :: r) (hM σ) = some (.inl (pc + 3, ls, r, hM (sm_nm_asks σ v))) := rfl
theorem oy_put_m_pg_pageLength {rt : Option FieldType} {pc idx : Nat} {ls : ev_L} {r : List Value} {σ : SM} {v : Int32} {P : List Nat} : ev_one rt (pc, .putfield idx, 3, 20, 0, .null, [(12, 0)], P) ls (.int v :: .ref 0 :: r) (hM σ) = some (.inl (pc + 3, ls, r, hM (sm_pg_pageLength σ v))) := rfl
theorem oy_put_m_kp_isKept {rt : Option FieldType} {pc idx : Nat} {ls : ev_L} {r : List Value} {σ : SM} {v : Int32} {P : List Nat} (hb : v = 0 ∨ v = 1) : ev_one rt (pc, .putfield idx, 3, 22, 2, .null, [(12, 0)], P) ls (.int v :: .ref 0 :: r) (hM σ) = some (.inl (pc + 3, ls, r, hM (sm_kp_isKept σ v))) := by
  show (if _ ∧ _ ∧ ev_fit 2 (.int v) = true then _ else none) = _
  rw [if_pos ⟨rfl, Nat.le_of_ble_eq_true rfl, decide_eq_true hb⟩]
  rfl
theorem oy_put_m_kp_keptRing {rt : Option FieldType} {pc idx : Nat} {ls : ev_L} {r : List Value} {σ : SM} {v : Int32} {P : List Nat} : ev_one rt (pc, .putfield idx, 3, 23, 0, .null, [(12, 0)], P) ls (.int v :: .ref 0 :: r) (hM σ) = some (.inl (pc + 3, ls, r, hM (sm_kp_keptRing σ v))) := rfl
theorem oy_put_m_kp_keptPlayers {rt : Option FieldType} {pc idx : Nat} {ls : ev_L} {r : List Value} {σ : SM} {v : Int32} {P : List Nat} : ev_one rt (pc, .putfield idx, 3, 24, 0, .null, [(12, 0)], P) ls (.int v :: .ref 0 :: r) (hM σ) = some (.inl (pc + 3, ls, r, hM (sm_kp_keptPlayers σ v))) := rfl
theorem oy_put_m_kp_keptUpdates {rt : Option FieldType} {pc idx : Nat} {ls : ev_L} {r : List Value} {σ : SM} {v : Int32} {P : List Nat} : ev_one rt (pc, .putfield idx, 3, 25, 0, .null, [(12, 0)], P) ls (.int v :: .ref 0 :: r) (hM σ) = some (.inl (pc + 3, ls, r, hM (sm_kp_keptUpdates σ v))) := rfl
theorem oy_put_m_kp_keptA {rt : Option FieldType} {pc idx : Nat} {ls : ev_L} {r : List Value} {σ : SM} {v : Int32} {P : List Nat} : ev_one rt (pc, .putfield idx, 3, 26, 0, .null, [(12, 0)], P) ls (.int v :: .ref 0 :: r) (hM σ) = some (.inl (pc + 3, ls, r, hM (sm_kp_keptA σ v))) := rfl
theorem oy_put_m_kp_keptB {rt : Option FieldType} {pc idx : Nat} {ls : ev_L} {r : List Value} {σ : SM} {v : Int32} {P : List Nat} : ev_one rt (pc, .putfield idx, 3, 27, 0, .null, [(12, 0)], P) ls (.int v :: .ref 0 :: r) (hM σ) = some (.inl (pc + 3, ls, r, hM (sm_kp_keptB σ v))) := rfl
theorem oy_put_m_kp_keptTenths {rt : Option FieldType} {pc idx : Nat} {ls : ev_L} {r : List Value} {σ : SM} {v : Int32} {P : List Nat} : ev_one rt (pc, .putfield idx, 3, 28, 0, .null, [(12, 0)], P) ls (.int v :: .ref 0 :: r) (hM σ) = some (.inl (pc + 3, ls, r, hM (sm_kp_keptTenths σ v))) := rfl
theorem oy_put_m_rp_faultAt {rt : Option FieldType} {pc idx : Nat} {ls : ev_L} {r : List Value} {σ : SM} {v : Int32} {P : List Nat} : ev_one rt (pc, .putfield idx, 3, 31, 0, .null, [(12, 0)], P) ls (.int v :: .ref 0 :: r) (hM σ) = some (.inl (pc + 3, ls, r, hM (sm_rp_faultAt σ v))) := rfl
theorem oy_put_m_rp_isWhole {rt : Option FieldType} {pc idx : Nat} {ls : ev_L} {r : List Value} {σ : SM} {v : Int32} {P : List Nat} (hb : v = 0 ∨ v = 1) : ev_one rt (pc, .putfield idx, 3, 32, 2, .null, [(12, 0)], P) ls (.int v :: .ref 0 :: r) (hM σ) = some (.inl (pc + 3, ls, r, hM (sm_rp_isWhole σ v))) := by
  show (if _ ∧ _ ∧ ev_fit 2 (.int v) = true then _ else none) = _
  rw [if_pos ⟨rfl, Nat.le_of_ble_eq_true rfl, decide_eq_true hb⟩]
  rfl
theorem oy_put_m_rp_newRows {rt : Option FieldType} {pc idx : Nat} {ls : ev_L} {r : List Value} {σ : SM} {v : Int32} {P : List Nat} : ev_one rt (pc, .putfield idx, 3, 33, 0, .null, [(12, 0)], P) ls (.int v :: .ref 0 :: r) (hM σ) = some (.inl (pc + 3, ls, r, hM (sm_rp_newRows σ v))) := rfl
theorem oy_put_m_rp_newColumns {rt : Option FieldType} {pc idx : Nat} {ls : ev_L} {r : List Value} {σ : SM} {v : Int32} {P : List Nat} : ev_one rt (pc, .putfield idx, 3, 34, 0, .null, [(12, 0)], P) ls (.int v :: .ref 0 :: r) (hM σ) = some (.inl (pc + 3, ls, r, hM (sm_rp_newColumns σ v))) := rfl
theorem oy_put_m_rp_gonePost {rt : Option FieldType} {pc idx : Nat} {ls : ev_L} {r : List Value} {σ : SM} {v : Int32} {P : List Nat} : ev_one rt (pc, .putfield idx, 3, 36, 0, .null, [(12, 0)], P) ls (.int v :: .ref 0 :: r) (hM σ) = some (.inl (pc + 3, ls, r, hM (sm_rp_gonePost σ v))) := rfl
theorem oy_put_m_gm_his {rt : Option FieldType} {pc idx : Nat} {ls : ev_L} {r : List Value} {σ : SM} {v : Int32} {P : List Nat} : ev_one rt (pc, .putfield idx, 3, 37, 0, .null, [(12, 0)], P) ls (.int v :: .ref 0 :: r) (hM σ) = some (.inl (pc + 3, ls, r, hM (sm_gm_his σ v))) := rfl
theorem oy_put_m_gm_looks {rt : Option FieldType} {pc idx : Nat} {ls : ev_L} {r : List Value} {σ : SM} {v : Int32} {P : List Nat} : ev_one rt (pc, .putfield idx, 3, 38, 0, .null, [(12, 0)], P) ls (.int v :: .ref 0 :: r) (hM σ) = some (.inl (pc + 3, ls, r, hM (sm_gm_looks σ v))) := rfl
theorem oy_put_m_gm_seedNow {rt : Option FieldType} {pc idx : Nat} {ls : ev_L} {r : List Value} {σ : SM} {v : Int64} {P : List Nat} : ev_one rt (pc, .putfield idx, 3, 39, 1, .null, [(12, 0)], P) ls (.long v :: .ref 0 :: r) (hM σ) = some (.inl (pc + 3, ls, r, hM (sm_gm_seedNow σ v))) := rfl
theorem oy_put_m_gm_touched {rt : Option FieldType} {pc idx : Nat} {ls : ev_L} {r : List Value} {σ : SM} {v : Int32} {P : List Nat} : ev_one rt (pc, .putfield idx, 3, 41, 0, .null, [(12, 0)], P) ls (.int v :: .ref 0 :: r) (hM σ) = some (.inl (pc + 3, ls, r, hM (sm_gm_touched σ v))) := rfl
theorem oy_put_m_gm_touchedAt {rt : Option FieldType} {pc idx : Nat} {ls : ev_L} {r : List Value} {σ : SM} {v : Int32} {P : List Nat} : ev_one rt (pc, .putfield idx, 3, 42, 0, .null, [(12, 0)], P) ls (.int v :: .ref 0 :: r) (hM σ) = some (.inl (pc + 3, ls, r, hM (sm_gm_touchedAt σ v))) := rfl
theorem oy_put_m_gm_h {rt : Option FieldType} {pc idx : Nat} {ls : ev_L} {r : List Value} {σ : SM} {v : Int64} {P : List Nat} : ev_one rt (pc, .putfield idx, 3, 43, 1, .null, [(12, 0)], P) ls (.long v :: .ref 0 :: r) (hM σ) = some (.inl (pc + 3, ls, r, hM (sm_gm_h σ v))) := rfl
theorem oy_ast_m_rg_cellOf {rt : Option FieldType} {pc : Nat} {ls : ev_L} {r : List Value} {σ : SM} {j : Int32} {v : Int32} {D : List (Nat × Nat)} {P : List Nat} (hin : ¬ (j < 0 ∨ 36 ≤ j.toNatClampNeg)) : ev_one rt (pc, .iastore, 1, 0, 0, .null, D, P) ls (.int v :: .int j :: .ref 1 :: r) (hM σ) = some (.inl (pc + 1, ls, r, hM (sm_rg_cellOf σ (upd (gm_rg_cellOf σ) j.toNatClampNeg v)))) := by
  show (if ¬ (j < 0 ∨ 36 ≤ j.toNatClampNeg) then _ else none) = _
  rw [if_pos hin]
  rfl
theorem oy_ast_m_od_weight {rt : Option FieldType} {pc : Nat} {ls : ev_L} {r : List Value} {σ : SM} {j : Int32} {v : Int64} {D : List (Nat × Nat)} {P : List Nat} (hin : ¬ (j < 0 ∨ 144 ≤ j.toNatClampNeg)) : ev_one rt (pc, .lastore, 1, 0, 0, .null, D, P) ls (.long v :: .int j :: .ref 2 :: r) (hM σ) = some (.inl (pc + 1, ls, r, hM (sm_od_weight σ (vp_updL (gm_od_weight σ) j.toNatClampNeg v)))) := by
  show (if ¬ (j < 0 ∨ 144 ≤ j.toNatClampNeg) then _ else none) = _
  rw [if_pos hin]
  rfl
theorem oy_ast_m_od_then {rt : Option FieldType} {pc : Nat} {ls : ev_L} {r : List Value} {σ : SM} {j : Int32} {v : Int64} {D : List (Nat × Nat)} {P : List Nat} (hin : ¬ (j < 0 ∨ 144 ≤ j.toNatClampNeg)) : ev_one rt (pc, .lastore, 1, 0, 0, .null, D, P) ls (.long v :: .int j :: .ref 3 :: r) (hM σ) = some (.inl (pc + 1, ls, r, hM (sm_od_then σ (vp_updL (gm_od_then σ) j.toNatClampNeg v)))) := by
  show (if ¬ (j < 0 ∨ 144 ≤ j.toNatClampNeg) then _ else none) = _
  rw [if_pos hin]
  rfl
theorem oy_ast_m_pl_kindOf {rt : Option FieldType} {pc : Nat} {ls : ev_L} {r : List Value} {σ : SM} {j : Int32} {v : Int32} {D : List (Nat × Nat)} {P : List Nat} (hin : ¬ (j < 0 ∨ 6 ≤ j.toNatClampNeg)) : ev_one rt (pc, .iastore, 1, 0, 0, .null, D, P) ls (.int v :: .int j :: .ref 4 :: r) (hM σ) = some (.inl (pc + 1, ls, r, hM (sm_pl_kindOf σ (upd (gm_pl_kindOf σ) j.toNatClampNeg v)))) := by
  show (if ¬ (j < 0 ∨ 6 ≤ j.toNatClampNeg) then _ else none) = _
  rw [if_pos hin]
  rfl
theorem oy_ast_m_pl_placeOf {rt : Option FieldType} {pc : Nat} {ls : ev_L} {r : List Value} {σ : SM} {j : Int32} {v : Int32} {D : List (Nat × Nat)} {P : List Nat} (hin : ¬ (j < 0 ∨ 6 ≤ j.toNatClampNeg)) : ev_one rt (pc, .iastore, 1, 0, 0, .null, D, P) ls (.int v :: .int j :: .ref 5 :: r) (hM σ) = some (.inl (pc + 1, ls, r, hM (sm_pl_placeOf σ (upd (gm_pl_placeOf σ) j.toNatClampNeg v)))) := by
  show (if ¬ (j < 0 ∨ 6 ≤ j.toNatClampNeg) then _ else none) = _
  rw [if_pos hin]
  rfl
theorem oy_ast_m_pl_sizeOf {rt : Option FieldType} {pc : Nat} {ls : ev_L} {r : List Value} {σ : SM} {j : Int32} {v : Int32} {D : List (Nat × Nat)} {P : List Nat} (hin : ¬ (j < 0 ∨ 6 ≤ j.toNatClampNeg)) : ev_one rt (pc, .iastore, 1, 0, 0, .null, D, P) ls (.int v :: .int j :: .ref 6 :: r) (hM σ) = some (.inl (pc + 1, ls, r, hM (sm_pl_sizeOf σ (upd (gm_pl_sizeOf σ) j.toNatClampNeg v)))) := by
  show (if ¬ (j < 0 ∨ 6 ≤ j.toNatClampNeg) then _ else none) = _
  rw [if_pos hin]
  rfl
theorem oy_ast_m_pl_clothOf {rt : Option FieldType} {pc : Nat} {ls : ev_L} {r : List Value} {σ : SM} {j : Int32} {v : Int32} {D : List (Nat × Nat)} {P : List Nat} (hin : ¬ (j < 0 ∨ 6 ≤ j.toNatClampNeg)) : ev_one rt (pc, .iastore, 1, 0, 0, .null, D, P) ls (.int v :: .int j :: .ref 7 :: r) (hM σ) = some (.inl (pc + 1, ls, r, hM (sm_pl_clothOf σ (upd (gm_pl_clothOf σ) j.toNatClampNeg v)))) := by
  show (if ¬ (j < 0 ∨ 6 ≤ j.toNatClampNeg) then _ else none) = _
  rw [if_pos hin]
  rfl
theorem oy_ast_m_pl_giggleOf {rt : Option FieldType} {pc : Nat} {ls : ev_L} {r : List Value} {σ : SM} {j : Int32} {v : Int32} {D : List (Nat × Nat)} {P : List Nat} (hin : ¬ (j < 0 ∨ 6 ≤ j.toNatClampNeg)) : ev_one rt (pc, .iastore, 1, 0, 0, .null, D, P) ls (.int v :: .int j :: .ref 8 :: r) (hM σ) = some (.inl (pc + 1, ls, r, hM (sm_pl_giggleOf σ (upd (gm_pl_giggleOf σ) j.toNatClampNeg v)))) := by
  show (if ¬ (j < 0 ∨ 6 ≤ j.toNatClampNeg) then _ else none) = _
  rw [if_pos hin]
  rfl
theorem oy_ast_m_pg_page {rt : Option FieldType} {pc : Nat} {ls : ev_L} {r : List Value} {σ : SM} {j : Int32} {v : Int32} {D : List (Nat × Nat)} {P : List Nat} (hin : ¬ (j < 0 ∨ 45 ≤ j.toNatClampNeg)) : ev_one rt (pc, .bastore, 1, 0, 0, .null, D, P) ls (.int v :: .int j :: .ref 9 :: r) (hM σ) = some (.inl (pc + 1, ls, r, hM (sm_pg_page σ (upd (gm_pg_page σ) j.toNatClampNeg (vp_nar .byte v))))) := by
  show (if ¬ (j < 0 ∨ 45 ≤ j.toNatClampNeg) then _ else none) = _
  rw [if_pos hin]
  rfl
theorem oy_ast_m_kp_keptWeight {rt : Option FieldType} {pc : Nat} {ls : ev_L} {r : List Value} {σ : SM} {j : Int32} {v : Int64} {D : List (Nat × Nat)} {P : List Nat} (hin : ¬ (j < 0 ∨ 144 ≤ j.toNatClampNeg)) : ev_one rt (pc, .lastore, 1, 0, 0, .null, D, P) ls (.long v :: .int j :: .ref 10 :: r) (hM σ) = some (.inl (pc + 1, ls, r, hM (sm_kp_keptWeight σ (vp_updL (gm_kp_keptWeight σ) j.toNatClampNeg v)))) := by
  show (if ¬ (j < 0 ∨ 144 ≤ j.toNatClampNeg) then _ else none) = _
  rw [if_pos hin]
  rfl
theorem oy_ast_m_kp_keptPlace {rt : Option FieldType} {pc : Nat} {ls : ev_L} {r : List Value} {σ : SM} {j : Int32} {v : Int32} {D : List (Nat × Nat)} {P : List Nat} (hin : ¬ (j < 0 ∨ 6 ≤ j.toNatClampNeg)) : ev_one rt (pc, .iastore, 1, 0, 0, .null, D, P) ls (.int v :: .int j :: .ref 11 :: r) (hM σ) = some (.inl (pc + 1, ls, r, hM (sm_kp_keptPlace σ (upd (gm_kp_keptPlace σ) j.toNatClampNeg v)))) := by
  show (if ¬ (j < 0 ∨ 6 ≤ j.toNatClampNeg) then _ else none) = _
  rw [if_pos hin]
  rfl
theorem oy_ast_m_rp_newCell {rt : Option FieldType} {pc : Nat} {ls : ev_L} {r : List Value} {σ : SM} {j : Int32} {v : Int32} {D : List (Nat × Nat)} {P : List Nat} (hin : ¬ (j < 0 ∨ 36 ≤ j.toNatClampNeg)) : ev_one rt (pc, .iastore, 1, 0, 0, .null, D, P) ls (.int v :: .int j :: .ref 12 :: r) (hM σ) = some (.inl (pc + 1, ls, r, hM (sm_rp_newCell σ (upd (gm_rp_newCell σ) j.toNatClampNeg v)))) := by
  show (if ¬ (j < 0 ∨ 36 ≤ j.toNatClampNeg) then _ else none) = _
  rw [if_pos hin]
  rfl
theorem oy_ast_m_gm_place {rt : Option FieldType} {pc : Nat} {ls : ev_L} {r : List Value} {σ : SM} {j : Int32} {v : Int32} {D : List (Nat × Nat)} {P : List Nat} (hin : ¬ (j < 0 ∨ 6 ≤ j.toNatClampNeg)) : ev_one rt (pc, .iastore, 1, 0, 0, .null, D, P) ls (.int v :: .int j :: .ref 13 :: r) (hM σ) = some (.inl (pc + 1, ls, r, hM (sm_gm_place σ (upd (gm_gm_place σ) j.toNatClampNeg v)))) := by
  show (if ¬ (j < 0 ∨ 6 ≤ j.toNatClampNeg) then _ else none) = _
  rw [if_pos hin]
  rfl
theorem oy_cpy_x_od_weights_od_kept {rt : Option FieldType} {pc idx : Nat} {ls : ev_L} {r : List Value} {σ : SX} {D : List (Nat × Nat)} {P : List Nat} (hc : ev_cat r ≤ 8 := by decide) : ev_one rt (pc, .invokestatic idx, 3, 104, 0, .null, D, P) ls (.int 144 :: .int 0 :: .ref 10 :: .int 0 :: .ref 9 :: r) (hX σ) = some (.inl (pc + 3, ls, r, hX (sx_od_kept σ (va_cpy (gx_od_weights σ) (gx_od_kept σ) 0 0 144)))) := by
  show (if ev_cat r ≤ 8 ∧ _ then _ else none) = _
  rw [if_pos ⟨hc, by decide, by decide, by decide, by decide, by decide⟩]
  rfl
theorem oy_cpy_x_od_kept_od_weights {rt : Option FieldType} {pc idx : Nat} {ls : ev_L} {r : List Value} {σ : SX} {D : List (Nat × Nat)} {P : List Nat} (hc : ev_cat r ≤ 8 := by decide) : ev_one rt (pc, .invokestatic idx, 3, 104, 0, .null, D, P) ls (.int 144 :: .int 0 :: .ref 9 :: .int 0 :: .ref 10 :: r) (hX σ) = some (.inl (pc + 3, ls, r, hX (sx_od_weights σ (va_cpy (gx_od_kept σ) (gx_od_weights σ) 0 0 144)))) := by
  show (if ev_cat r ≤ 8 ∧ _ then _ else none) = _
  rw [if_pos ⟨hc, by decide, by decide, by decide, by decide, by decide⟩]
  rfl
