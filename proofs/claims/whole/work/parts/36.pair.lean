/-! ===== what a getter gives after a setter ===== -/
theorem px_pg_signs_pg_signs (σ : SX) (v : Nat → Int32) : gx_pg_signs (sx_pg_signs σ v) = v := rfl
theorem px_pg_length_pg_signs (σ : SX) (v : Nat → Int32) : gx_pg_length (sx_pg_signs σ v) = gx_pg_length σ := rfl
theorem px_pg_row_pg_signs (σ : SX) (v : Nat → Int32) : gx_pg_row (sx_pg_signs σ v) = gx_pg_row σ := rfl
theorem px_pg_column_pg_signs (σ : SX) (v : Nat → Int32) : gx_pg_column (sx_pg_signs σ v) = gx_pg_column σ := rfl
theorem px_pg_width_pg_signs (σ : SX) (v : Nat → Int32) : gx_pg_width (sx_pg_signs σ v) = gx_pg_width σ := rfl
theorem px_rg_kinds_pg_signs (σ : SX) (v : Nat → Int32) : gx_rg_kinds (sx_pg_signs σ v) = gx_rg_kinds σ := rfl
theorem px_rg_rows_pg_signs (σ : SX) (v : Nat → Int32) : gx_rg_rows (sx_pg_signs σ v) = gx_rg_rows σ := rfl
theorem px_rg_columns_pg_signs (σ : SX) (v : Nat → Int32) : gx_rg_columns (sx_pg_signs σ v) = gx_rg_columns σ := rfl
theorem px_rg_beside_pg_signs (σ : SX) (v : Nat → Int32) : gx_rg_beside (sx_pg_signs σ v) = gx_rg_beside σ := rfl
theorem px_rg_size_pg_signs (σ : SX) (v : Nat → Int32) : gx_rg_size (sx_pg_signs σ v) = gx_rg_size σ := rfl
theorem px_rg_free_pg_signs (σ : SX) (v : Nat → Int32) : gx_rg_free (sx_pg_signs σ v) = gx_rg_free σ := rfl
theorem px_od_weights_pg_signs (σ : SX) (v : Nat → Int32) : gx_od_weights (sx_pg_signs σ v) = gx_od_weights σ := rfl
theorem px_od_kept_pg_signs (σ : SX) (v : Nat → Int32) : gx_od_kept (sx_pg_signs σ v) = gx_od_kept σ := rfl
theorem px_od_outs_pg_signs (σ : SX) (v : Nat → Int32) : gx_od_outs (sx_pg_signs σ v) = gx_od_outs σ := rfl
theorem px_od_updates_pg_signs (σ : SX) (v : Nat → Int32) : gx_od_updates (sx_pg_signs σ v) = gx_od_updates σ := rfl
theorem px_od_keptUpdates_pg_signs (σ : SX) (v : Nat → Int32) : gx_od_keptUpdates (sx_pg_signs σ v) = gx_od_keptUpdates σ := rfl
theorem px_pl_arr_pg_signs (σ : SX) (v : Nat → Int32) : gx_pl_arr (sx_pg_signs σ v) = gx_pl_arr σ := rfl
theorem px_pl_ex_pg_signs (σ : SX) (v : Nat → Int32) : gx_pl_ex (sx_pg_signs σ v) = gx_pl_ex σ := rfl
theorem px_pl_kd_pg_signs (σ : SX) (v : Nat → Int32) : gx_pl_kd (sx_pg_signs σ v) = gx_pl_kd σ := rfl
theorem px_pl_told_pg_signs (σ : SX) (v : Nat → Int32) : gx_pl_told (sx_pg_signs σ v) = gx_pl_told σ := rfl
theorem px_pl_kept_pg_signs (σ : SX) (v : Nat → Int32) : gx_pl_kept (sx_pg_signs σ v) = gx_pl_kept σ := rfl
theorem px_pl_at_pg_signs (σ : SX) (v : Nat → Int32) : gx_pl_at (sx_pg_signs σ v) = gx_pl_at σ := rfl
theorem px_pl_size_pg_signs (σ : SX) (v : Nat → Int32) : gx_pl_size (sx_pg_signs σ v) = gx_pl_size σ := rfl
theorem px_pl_cloth_pg_signs (σ : SX) (v : Nat → Int32) : gx_pl_cloth (sx_pg_signs σ v) = gx_pl_cloth σ := rfl
theorem px_pl_giggle_pg_signs (σ : SX) (v : Nat → Int32) : gx_pl_giggle (sx_pg_signs σ v) = gx_pl_giggle σ := rfl
theorem px_rd_firstCell_pg_signs (σ : SX) (v : Nat → Int32) : gx_rd_firstCell (sx_pg_signs σ v) = gx_rd_firstCell σ := rfl
theorem px_rd_firstWay_pg_signs (σ : SX) (v : Nat → Int32) : gx_rd_firstWay (sx_pg_signs σ v) = gx_rd_firstWay σ := rfl
theorem px_rd_drift_pg_signs (σ : SX) (v : Nat → Int32) : gx_rd_drift (sx_pg_signs σ v) = gx_rd_drift σ := rfl
theorem px_rd_tenths_pg_signs (σ : SX) (v : Nat → Int32) : gx_rd_tenths (sx_pg_signs σ v) = gx_rd_tenths σ := rfl
theorem px_rd_hisCell_pg_signs (σ : SX) (v : Nat → Int32) : gx_rd_hisCell (sx_pg_signs σ v) = gx_rd_hisCell σ := rfl
theorem px_rd_hisWay_pg_signs (σ : SX) (v : Nat → Int32) : gx_rd_hisWay (sx_pg_signs σ v) = gx_rd_hisWay σ := rfl
theorem px_rd_tenth_pg_signs (σ : SX) (v : Nat → Int32) : gx_rd_tenth (sx_pg_signs σ v) = gx_rd_tenth σ := rfl
theorem px_rd_touched_pg_signs (σ : SX) (v : Nat → Int32) : gx_rd_touched (sx_pg_signs σ v) = gx_rd_touched σ := rfl
theorem px_rd_seed_pg_signs (σ : SX) (v : Nat → Int32) : gx_rd_seed (sx_pg_signs σ v) = gx_rd_seed σ := rfl
theorem px_nm_weights_pg_signs (σ : SX) (v : Nat → Int32) : gx_nm_weights (sx_pg_signs σ v) = gx_nm_weights σ := rfl
theorem px_nm_sizeOff_pg_signs (σ : SX) (v : Nat → Int32) : gx_nm_sizeOff (sx_pg_signs σ v) = gx_nm_sizeOff σ := rfl
theorem px_nm_clothRight_pg_signs (σ : SX) (v : Nat → Int32) : gx_nm_clothRight (sx_pg_signs σ v) = gx_nm_clothRight σ := rfl
theorem px_nm_giggleRight_pg_signs (σ : SX) (v : Nat → Int32) : gx_nm_giggleRight (sx_pg_signs σ v) = gx_nm_giggleRight σ := rfl
theorem px_nm_first_pg_signs (σ : SX) (v : Nat → Int32) : gx_nm_first (sx_pg_signs σ v) = gx_nm_first σ := rfl
theorem px_nm_second_pg_signs (σ : SX) (v : Nat → Int32) : gx_nm_second (sx_pg_signs σ v) = gx_nm_second σ := rfl
theorem px_nm_changed_pg_signs (σ : SX) (v : Nat → Int32) : gx_nm_changed (sx_pg_signs σ v) = gx_nm_changed σ := rfl
theorem px_nm_keptFirst_pg_signs (σ : SX) (v : Nat → Int32) : gx_nm_keptFirst (sx_pg_signs σ v) = gx_nm_keptFirst σ := rfl
theorem px_nm_keptSecond_pg_signs (σ : SX) (v : Nat → Int32) : gx_nm_keptSecond (sx_pg_signs σ v) = gx_nm_keptSecond σ := rfl
theorem px_nm_keptChanged_pg_signs (σ : SX) (v : Nat → Int32) : gx_nm_keptChanged (sx_pg_signs σ v) = gx_nm_keptChanged σ := rfl
theorem px_tp_playing_pg_signs (σ : SX) (v : Nat → Int32) : gx_tp_playing (sx_pg_signs σ v) = gx_tp_playing σ := rfl
theorem px_tp_ringsRead_pg_signs (σ : SX) (v : Nat → Int32) : gx_tp_ringsRead (sx_pg_signs σ v) = gx_tp_ringsRead σ := rfl
theorem px_tp_standsDone_pg_signs (σ : SX) (v : Nat → Int32) : gx_tp_standsDone (sx_pg_signs σ v) = gx_tp_standsDone σ := rfl
theorem px_tp_imageKept_pg_signs (σ : SX) (v : Nat → Int32) : gx_tp_imageKept (sx_pg_signs σ v) = gx_tp_imageKept σ := rfl
theorem px_pok_pg_signs (σ : SX) (v : Nat → Int32) (a : Nat) : gx_pok (sx_pg_signs σ v) a = gx_pok σ a := rfl
theorem px_pg_signs_pg_length (σ : SX) (v : Int32) : gx_pg_signs (sx_pg_length σ v) = gx_pg_signs σ := rfl
theorem px_pg_length_pg_length (σ : SX) (v : Int32) : gx_pg_length (sx_pg_length σ v) = v := rfl
theorem px_pg_row_pg_length (σ : SX) (v : Int32) : gx_pg_row (sx_pg_length σ v) = gx_pg_row σ := rfl
theorem px_pg_column_pg_length (σ : SX) (v : Int32) : gx_pg_column (sx_pg_length σ v) = gx_pg_column σ := rfl
theorem px_pg_width_pg_length (σ : SX) (v : Int32) : gx_pg_width (sx_pg_length σ v) = gx_pg_width σ := rfl
theorem px_rg_kinds_pg_length (σ : SX) (v : Int32) : gx_rg_kinds (sx_pg_length σ v) = gx_rg_kinds σ := rfl
theorem px_rg_rows_pg_length (σ : SX) (v : Int32) : gx_rg_rows (sx_pg_length σ v) = gx_rg_rows σ := rfl
theorem px_rg_columns_pg_length (σ : SX) (v : Int32) : gx_rg_columns (sx_pg_length σ v) = gx_rg_columns σ := rfl
theorem px_rg_beside_pg_length (σ : SX) (v : Int32) : gx_rg_beside (sx_pg_length σ v) = gx_rg_beside σ := rfl
theorem px_rg_size_pg_length (σ : SX) (v : Int32) : gx_rg_size (sx_pg_length σ v) = gx_rg_size σ := rfl
theorem px_rg_free_pg_length (σ : SX) (v : Int32) : gx_rg_free (sx_pg_length σ v) = gx_rg_free σ := rfl
theorem px_od_weights_pg_length (σ : SX) (v : Int32) : gx_od_weights (sx_pg_length σ v) = gx_od_weights σ := rfl
theorem px_od_kept_pg_length (σ : SX) (v : Int32) : gx_od_kept (sx_pg_length σ v) = gx_od_kept σ := rfl
theorem px_od_outs_pg_length (σ : SX) (v : Int32) : gx_od_outs (sx_pg_length σ v) = gx_od_outs σ := rfl
theorem px_od_updates_pg_length (σ : SX) (v : Int32) : gx_od_updates (sx_pg_length σ v) = gx_od_updates σ := rfl
theorem px_od_keptUpdates_pg_length (σ : SX) (v : Int32) : gx_od_keptUpdates (sx_pg_length σ v) = gx_od_keptUpdates σ := rfl
theorem px_pl_arr_pg_length (σ : SX) (v : Int32) : gx_pl_arr (sx_pg_length σ v) = gx_pl_arr σ := rfl
theorem px_pl_ex_pg_length (σ : SX) (v : Int32) : gx_pl_ex (sx_pg_length σ v) = gx_pl_ex σ := rfl
theorem px_pl_kd_pg_length (σ : SX) (v : Int32) : gx_pl_kd (sx_pg_length σ v) = gx_pl_kd σ := rfl
theorem px_pl_told_pg_length (σ : SX) (v : Int32) : gx_pl_told (sx_pg_length σ v) = gx_pl_told σ := rfl
theorem px_pl_kept_pg_length (σ : SX) (v : Int32) : gx_pl_kept (sx_pg_length σ v) = gx_pl_kept σ := rfl
theorem px_pl_at_pg_length (σ : SX) (v : Int32) : gx_pl_at (sx_pg_length σ v) = gx_pl_at σ := rfl
theorem px_pl_size_pg_length (σ : SX) (v : Int32) : gx_pl_size (sx_pg_length σ v) = gx_pl_size σ := rfl
theorem px_pl_cloth_pg_length (σ : SX) (v : Int32) : gx_pl_cloth (sx_pg_length σ v) = gx_pl_cloth σ := rfl
theorem px_pl_giggle_pg_length (σ : SX) (v : Int32) : gx_pl_giggle (sx_pg_length σ v) = gx_pl_giggle σ := rfl
theorem px_rd_firstCell_pg_length (σ : SX) (v : Int32) : gx_rd_firstCell (sx_pg_length σ v) = gx_rd_firstCell σ := rfl
theorem px_rd_firstWay_pg_length (σ : SX) (v : Int32) : gx_rd_firstWay (sx_pg_length σ v) = gx_rd_firstWay σ := rfl
theorem px_rd_drift_pg_length (σ : SX) (v : Int32) : gx_rd_drift (sx_pg_length σ v) = gx_rd_drift σ := rfl
theorem px_rd_tenths_pg_length (σ : SX) (v : Int32) : gx_rd_tenths (sx_pg_length σ v) = gx_rd_tenths σ := rfl
theorem px_rd_hisCell_pg_length (σ : SX) (v : Int32) : gx_rd_hisCell (sx_pg_length σ v) = gx_rd_hisCell σ := rfl
theorem px_rd_hisWay_pg_length (σ : SX) (v : Int32) : gx_rd_hisWay (sx_pg_length σ v) = gx_rd_hisWay σ := rfl
theorem px_rd_tenth_pg_length (σ : SX) (v : Int32) : gx_rd_tenth (sx_pg_length σ v) = gx_rd_tenth σ := rfl
theorem px_rd_touched_pg_length (σ : SX) (v : Int32) : gx_rd_touched (sx_pg_length σ v) = gx_rd_touched σ := rfl
theorem px_rd_seed_pg_length (σ : SX) (v : Int32) : gx_rd_seed (sx_pg_length σ v) = gx_rd_seed σ := rfl
theorem px_nm_weights_pg_length (σ : SX) (v : Int32) : gx_nm_weights (sx_pg_length σ v) = gx_nm_weights σ := rfl
theorem px_nm_sizeOff_pg_length (σ : SX) (v : Int32) : gx_nm_sizeOff (sx_pg_length σ v) = gx_nm_sizeOff σ := rfl
theorem px_nm_clothRight_pg_length (σ : SX) (v : Int32) : gx_nm_clothRight (sx_pg_length σ v) = gx_nm_clothRight σ := rfl
theorem px_nm_giggleRight_pg_length (σ : SX) (v : Int32) : gx_nm_giggleRight (sx_pg_length σ v) = gx_nm_giggleRight σ := rfl
theorem px_nm_first_pg_length (σ : SX) (v : Int32) : gx_nm_first (sx_pg_length σ v) = gx_nm_first σ := rfl
theorem px_nm_second_pg_length (σ : SX) (v : Int32) : gx_nm_second (sx_pg_length σ v) = gx_nm_second σ := rfl
theorem px_nm_changed_pg_length (σ : SX) (v : Int32) : gx_nm_changed (sx_pg_length σ v) = gx_nm_changed σ := rfl
theorem px_nm_keptFirst_pg_length (σ : SX) (v : Int32) : gx_nm_keptFirst (sx_pg_length σ v) = gx_nm_keptFirst σ := rfl
theorem px_nm_keptSecond_pg_length (σ : SX) (v : Int32) : gx_nm_keptSecond (sx_pg_length σ v) = gx_nm_keptSecond σ := rfl
theorem px_nm_keptChanged_pg_length (σ : SX) (v : Int32) : gx_nm_keptChanged (sx_pg_length σ v) = gx_nm_keptChanged σ := rfl
theorem px_tp_playing_pg_length (σ : SX) (v : Int32) : gx_tp_playing (sx_pg_length σ v) = gx_tp_playing σ := rfl
theorem px_tp_ringsRead_pg_length (σ : SX) (v : Int32) : gx_tp_ringsRead (sx_pg_length σ v) = gx_tp_ringsRead σ := rfl
theorem px_tp_standsDone_pg_length (σ : SX) (v : Int32) : gx_tp_standsDone (sx_pg_length σ v) = gx_tp_standsDone σ := rfl
theorem px_tp_imageKept_pg_length (σ : SX) (v : Int32) : gx_tp_imageKept (sx_pg_length σ v) = gx_tp_imageKept σ := rfl
theorem px_pok_pg_length (σ : SX) (v : Int32) (a : Nat) : gx_pok (sx_pg_length σ v) a = gx_pok σ a := rfl
theorem px_pg_signs_pg_row (σ : SX) (v : Int32) : gx_pg_signs (sx_pg_row σ v) = gx_pg_signs σ := rfl
theorem px_pg_length_pg_row (σ : SX) (v : Int32) : gx_pg_length (sx_pg_row σ v) = gx_pg_length σ := rfl
theorem px_pg_row_pg_row (σ : SX) (v : Int32) : gx_pg_row (sx_pg_row σ v) = v := rfl
theorem px_pg_column_pg_row (σ : SX) (v : Int32) : gx_pg_column (sx_pg_row σ v) = gx_pg_column σ := rfl
theorem px_pg_width_pg_row (σ : SX) (v : Int32) : gx_pg_width (sx_pg_row σ v) = gx_pg_width σ := rfl
theorem px_rg_kinds_pg_row (σ : SX) (v : Int32) : gx_rg_kinds (sx_pg_row σ v) = gx_rg_kinds σ := rfl
theorem px_rg_rows_pg_row (σ : SX) (v : Int32) : gx_rg_rows (sx_pg_row σ v) = gx_rg_rows σ := rfl
theorem px_rg_columns_pg_row (σ : SX) (v : Int32) : gx_rg_columns (sx_pg_row σ v) = gx_rg_columns σ := rfl
theorem px_rg_beside_pg_row (σ : SX) (v : Int32) : gx_rg_beside (sx_pg_row σ v) = gx_rg_beside σ := rfl
theorem px_rg_size_pg_row (σ : SX) (v : Int32) : gx_rg_size (sx_pg_row σ v) = gx_rg_size σ := rfl
theorem px_rg_free_pg_row (σ : SX) (v : Int32) : gx_rg_free (sx_pg_row σ v) = gx_rg_free σ := rfl
theorem px_od_weights_pg_row (σ : SX) (v : Int32) : gx_od_weights (sx_pg_row σ v) = gx_od_weights σ := rfl
theorem px_od_kept_pg_row (σ : SX) (v : Int32) : gx_od_kept (sx_pg_row σ v) = gx_od_kept σ := rfl
theorem px_od_outs_pg_row (σ : SX) (v : Int32) : gx_od_outs (sx_pg_row σ v) = gx_od_outs σ := rfl
theorem px_od_updates_pg_row (σ : SX) (v : Int32) : gx_od_updates (sx_pg_row σ v) = gx_od_updates σ := rfl
theorem px_od_keptUpdates_pg_row (σ : SX) (v : Int32) : gx_od_keptUpdates (sx_pg_row σ v) = gx_od_keptUpdates σ := rfl
theorem px_pl_arr_pg_row (σ : SX) (v : Int32) : gx_pl_arr (sx_pg_row σ v) = gx_pl_arr σ := rfl
theorem px_pl_ex_pg_row (σ : SX) (v : Int32) : gx_pl_ex (sx_pg_row σ v) = gx_pl_ex σ := rfl
theorem px_pl_kd_pg_row (σ : SX) (v : Int32) : gx_pl_kd (sx_pg_row σ v) = gx_pl_kd σ := rfl
theorem px_pl_told_pg_row (σ : SX) (v : Int32) : gx_pl_told (sx_pg_row σ v) = gx_pl_told σ := rfl
theorem px_pl_kept_pg_row (σ : SX) (v : Int32) : gx_pl_kept (sx_pg_row σ v) = gx_pl_kept σ := rfl
theorem px_pl_at_pg_row (σ : SX) (v : Int32) : gx_pl_at (sx_pg_row σ v) = gx_pl_at σ := rfl
theorem px_pl_size_pg_row (σ : SX) (v : Int32) : gx_pl_size (sx_pg_row σ v) = gx_pl_size σ := rfl
theorem px_pl_cloth_pg_row (σ : SX) (v : Int32) : gx_pl_cloth (sx_pg_row σ v) = gx_pl_cloth σ := rfl
theorem px_pl_giggle_pg_row (σ : SX) (v : Int32) : gx_pl_giggle (sx_pg_row σ v) = gx_pl_giggle σ := rfl
theorem px_rd_firstCell_pg_row (σ : SX) (v : Int32) : gx_rd_firstCell (sx_pg_row σ v) = gx_rd_firstCell σ := rfl
theorem px_rd_firstWay_pg_row (σ : SX) (v : Int32) : gx_rd_firstWay (sx_pg_row σ v) = gx_rd_firstWay σ := rfl
theorem px_rd_drift_pg_row (σ : SX) (v : Int32) : gx_rd_drift (sx_pg_row σ v) = gx_rd_drift σ := rfl
theorem px_rd_tenths_pg_row (σ : SX) (v : Int32) : gx_rd_tenths (sx_pg_row σ v) = gx_rd_tenths σ := rfl
theorem px_rd_hisCell_pg_row (σ : SX) (v : Int32) : gx_rd_hisCell (sx_pg_row σ v) = gx_rd_hisCell σ := rfl
theorem px_rd_hisWay_pg_row (σ : SX) (v : Int32) : gx_rd_hisWay (sx_pg_row σ v) = gx_rd_hisWay σ := rfl
theorem px_rd_tenth_pg_row (σ : SX) (v : Int32) : gx_rd_tenth (sx_pg_row σ v) = gx_rd_tenth σ := rfl
theorem px_rd_touched_pg_row (σ : SX) (v : Int32) : gx_rd_touched (sx_pg_row σ v) = gx_rd_touched σ := rfl
theorem px_rd_seed_pg_row (σ : SX) (v : Int32) : gx_rd_seed (sx_pg_row σ v) = gx_rd_seed σ := rfl
theorem px_nm_weights_pg_row (σ : SX) (v : Int32) : gx_nm_weights (sx_pg_row σ v) = gx_nm_weights σ := rfl
theorem px_nm_sizeOff_pg_row (σ : SX) (v : Int32) : gx_nm_sizeOff (sx_pg_row σ v) = gx_nm_sizeOff σ := rfl
theorem px_nm_clothRight_pg_row (σ : SX) (v : Int32) : gx_nm_clothRight (sx_pg_row σ v) = gx_nm_clothRight σ := rfl
theorem px_nm_giggleRight_pg_row (σ : SX) (v : Int32) : gx_nm_giggleRight (sx_pg_row σ v) = gx_nm_giggleRight σ := rfl
theorem px_nm_first_pg_row (σ : SX) (v : Int32) : gx_nm_first (sx_pg_row σ v) = gx_nm_first σ := rfl
theorem px_nm_second_pg_row (σ : SX) (v : Int32) : gx_nm_second (sx_pg_row σ v) = gx_nm_second σ := rfl
theorem px_nm_changed_pg_row (σ : SX) (v : Int32) : gx_nm_changed (sx_pg_row σ v) = gx_nm_changed σ := rfl
theorem px_nm_keptFirst_pg_row (σ : SX) (v : Int32) : gx_nm_keptFirst (sx_pg_row σ v) = gx_nm_keptFirst σ := rfl
theorem px_nm_keptSecond_pg_row (σ : SX) (v : Int32) : gx_nm_keptSecond (sx_pg_row σ v) = gx_nm_keptSecond σ := rfl
theorem px_nm_keptChanged_pg_row (σ : SX) (v : Int32) : gx_nm_keptChanged (sx_pg_row σ v) = gx_nm_keptChanged σ := rfl
theorem px_tp_playing_pg_row (σ : SX) (v : Int32) : gx_tp_playing (sx_pg_row σ v) = gx_tp_playing σ := rfl
theorem px_tp_ringsRead_pg_row (σ : SX) (v : Int32) : gx_tp_ringsRead (sx_pg_row σ v) = gx_tp_ringsRead σ := rfl
theorem px_tp_standsDone_pg_row (σ : SX) (v : Int32) : gx_tp_standsDone (sx_pg_row σ v) = gx_tp_standsDone σ := rfl
theorem px_tp_imageKept_pg_row (σ : SX) (v : Int32) : gx_tp_imageKept (sx_pg_row σ v) = gx_tp_imageKept σ := rfl
theorem px_pok_pg_row (σ : SX) (v : Int32) (a : Nat) : gx_pok (sx_pg_row σ v) a = gx_pok σ a := rfl
theorem px_pg_signs_pg_column (σ : SX) (v : Int32) : gx_pg_signs (sx_pg_column σ v) = gx_pg_signs σ := rfl
theorem px_pg_length_pg_column (σ : SX) (v : Int32) : gx_pg_length (sx_pg_column σ v) = gx_pg_length σ := rfl
theorem px_pg_row_pg_column (σ : SX) (v : Int32) : gx_pg_row (sx_pg_column σ v) = gx_pg_row σ := rfl
theorem px_pg_column_pg_column (σ : SX) (v : Int32) : gx_pg_column (sx_pg_column σ v) = v := rfl
theorem px_pg_width_pg_column (σ : SX) (v : Int32) : gx_pg_width (sx_pg_column σ v) = gx_pg_width σ := rfl
theorem px_rg_kinds_pg_column (σ : SX) (v : Int32) : gx_rg_kinds (sx_pg_column σ v) = gx_rg_kinds σ := rfl
theorem px_rg_rows_pg_column (σ : SX) (v : Int32) : gx_rg_rows (sx_pg_column σ v) = gx_rg_rows σ := rfl
theorem px_rg_columns_pg_column (σ : SX) (v : Int32) : gx_rg_columns (sx_pg_column σ v) = gx_rg_columns σ := rfl
theorem px_rg_beside_pg_column (σ : SX) (v : Int32) : gx_rg_beside (sx_pg_column σ v) = gx_rg_beside σ := rfl
theorem px_rg_size_pg_column (σ : SX) (v : Int32) : gx_rg_size (sx_pg_column σ v) = gx_rg_size σ := rfl
theorem px_rg_free_pg_column (σ : SX) (v : Int32) : gx_rg_free (sx_pg_column σ v) = gx_rg_free σ := rfl
theorem px_od_weights_pg_column (σ : SX) (v : Int32) : gx_od_weights (sx_pg_column σ v) = gx_od_weights σ := rfl
theorem px_od_kept_pg_column (σ : SX) (v : Int32) : gx_od_kept (sx_pg_column σ v) = gx_od_kept σ := rfl
theorem px_od_outs_pg_column (σ : SX) (v : Int32) : gx_od_outs (sx_pg_column σ v) = gx_od_outs σ := rfl
theorem px_od_updates_pg_column (σ : SX) (v : Int32) : gx_od_updates (sx_pg_column σ v) = gx_od_updates σ := rfl
theorem px_od_keptUpdates_pg_column (σ : SX) (v : Int32) : gx_od_keptUpdates (sx_pg_column σ v) = gx_od_keptUpdates σ := rfl
theorem px_pl_arr_pg_column (σ : SX) (v : Int32) : gx_pl_arr (sx_pg_column σ v) = gx_pl_arr σ := rfl
theorem px_pl_ex_pg_column (σ : SX) (v : Int32) : gx_pl_ex (sx_pg_column σ v) = gx_pl_ex σ := rfl
theorem px_pl_kd_pg_column (σ : SX) (v : Int32) : gx_pl_kd (sx_pg_column σ v) = gx_pl_kd σ := rfl
theorem px_pl_told_pg_column (σ : SX) (v : Int32) : gx_pl_told (sx_pg_column σ v) = gx_pl_told σ := rfl
theorem px_pl_kept_pg_column (σ : SX) (v : Int32) : gx_pl_kept (sx_pg_column σ v) = gx_pl_kept σ := rfl
theorem px_pl_at_pg_column (σ : SX) (v : Int32) : gx_pl_at (sx_pg_column σ v) = gx_pl_at σ := rfl
theorem px_pl_size_pg_column (σ : SX) (v : Int32) : gx_pl_size (sx_pg_column σ v) = gx_pl_size σ := rfl
theorem px_pl_cloth_pg_column (σ : SX) (v : Int32) : gx_pl_cloth (sx_pg_column σ v) = gx_pl_cloth σ := rfl
theorem px_pl_giggle_pg_column (σ : SX) (v : Int32) : gx_pl_giggle (sx_pg_column σ v) = gx_pl_giggle σ := rfl
theorem px_rd_firstCell_pg_column (σ : SX) (v : Int32) : gx_rd_firstCell (sx_pg_column σ v) = gx_rd_firstCell σ := rfl
theorem px_rd_firstWay_pg_column (σ : SX) (v : Int32) : gx_rd_firstWay (sx_pg_column σ v) = gx_rd_firstWay σ := rfl
theorem px_rd_drift_pg_column (σ : SX) (v : Int32) : gx_rd_drift (sx_pg_column σ v) = gx_rd_drift σ := rfl
theorem px_rd_tenths_pg_column (σ : SX) (v : Int32) : gx_rd_tenths (sx_pg_column σ v) = gx_rd_tenths σ := rfl
theorem px_rd_hisCell_pg_column (σ : SX) (v : Int32) : gx_rd_hisCell (sx_pg_column σ v) = gx_rd_hisCell σ := rfl
theorem px_rd_hisWay_pg_column (σ : SX) (v : Int32) : gx_rd_hisWay (sx_pg_column σ v) = gx_rd_hisWay σ := rfl
theorem px_rd_tenth_pg_column (σ : SX) (v : Int32) : gx_rd_tenth (sx_pg_column σ v) = gx_rd_tenth σ := rfl
theorem px_rd_touched_pg_column (σ : SX) (v : Int32) : gx_rd_touched (sx_pg_column σ v) = gx_rd_touched σ := rfl
theorem px_rd_seed_pg_column (σ : SX) (v : Int32) : gx_rd_seed (sx_pg_column σ v) = gx_rd_seed σ := rfl
theorem px_nm_weights_pg_column (σ : SX) (v : Int32) : gx_nm_weights (sx_pg_column σ v) = gx_nm_weights σ := rfl
theorem px_nm_sizeOff_pg_column (σ : SX) (v : Int32) : gx_nm_sizeOff (sx_pg_column σ v) = gx_nm_sizeOff σ := rfl
theorem px_nm_clothRight_pg_column (σ : SX) (v : Int32) : gx_nm_clothRight (sx_pg_column σ v) = gx_nm_clothRight σ := rfl
theorem px_nm_giggleRight_pg_column (σ : SX) (v : Int32) : gx_nm_giggleRight (sx_pg_column σ v) = gx_nm_giggleRight σ := rfl
theorem px_nm_first_pg_column (σ : SX) (v : Int32) : gx_nm_first (sx_pg_column σ v) = gx_nm_first σ := rfl
theorem px_nm_second_pg_column (σ : SX) (v : Int32) : gx_nm_second (sx_pg_column σ v) = gx_nm_second σ := rfl
theorem px_nm_changed_pg_column (σ : SX) (v : Int32) : gx_nm_changed (sx_pg_column σ v) = gx_nm_changed σ := rfl
theorem px_nm_keptFirst_pg_column (σ : SX) (v : Int32) : gx_nm_keptFirst (sx_pg_column σ v) = gx_nm_keptFirst σ := rfl
theorem px_nm_keptSecond_pg_column (σ : SX) (v : Int32) : gx_nm_keptSecond (sx_pg_column σ v) = gx_nm_keptSecond σ := rfl
theorem px_nm_keptChanged_pg_column (σ : SX) (v : Int32) : gx_nm_keptChanged (sx_pg_column σ v) = gx_nm_keptChanged σ := rfl
theorem px_tp_playing_pg_column (σ : SX) (v : Int32) : gx_tp_playing (sx_pg_column σ v) = gx_tp_playing σ := rfl
theorem px_tp_ringsRead_pg_column (σ : SX) (v : Int32) : gx_tp_ringsRead (sx_pg_column σ v) = gx_tp_ringsRead σ := rfl
theorem px_tp_standsDone_pg_column (σ : SX) (v : Int32) : gx_tp_standsDone (sx_pg_column σ v) = gx_tp_standsDone σ := rfl
theorem px_tp_imageKept_pg_column (σ : SX) (v : Int32) : gx_tp_imageKept (sx_pg_column σ v) = gx_tp_imageKept σ := rfl
theorem px_pok_pg_column (σ : SX) (v : Int32) (a : Nat) : gx_pok (sx_pg_column σ v) a = gx_pok σ a := rfl
theorem px_pg_signs_pg_width (σ : SX) (v : Int32) : gx_pg_signs (sx_pg_width σ v) = gx_pg_signs σ := rfl
theorem px_pg_length_pg_width (σ : SX) (v : Int32) : gx_pg_length (sx_pg_width σ v) = gx_pg_length σ := rfl
theorem px_pg_row_pg_width (σ : SX) (v : Int32) : gx_pg_row (sx_pg_width σ v) = gx_pg_row σ := rfl
theorem px_pg_column_pg_width (σ : SX) (v : Int32) : gx_pg_column (sx_pg_width σ v) = gx_pg_column σ := rfl
theorem px_pg_width_pg_width (σ : SX) (v : Int32) : gx_pg_width (sx_pg_width σ v) = v := rfl
theorem px_rg_kinds_pg_width (σ : SX) (v : Int32) : gx_rg_kinds (sx_pg_width σ v) = gx_rg_kinds σ := rfl
theorem px_rg_rows_pg_width (σ : SX) (v : Int32) : gx_rg_rows (sx_pg_width σ v) = gx_rg_rows σ := rfl
theorem px_rg_columns_pg_width (σ : SX) (v : Int32) : gx_rg_columns (sx_pg_width σ v) = gx_rg_columns σ := rfl
theorem px_rg_beside_pg_width (σ : SX) (v : Int32) : gx_rg_beside (sx_pg_width σ v) = gx_rg_beside σ := rfl
theorem px_rg_size_pg_width (σ : SX) (v : Int32) : gx_rg_size (sx_pg_width σ v) = gx_rg_size σ := rfl
theorem px_rg_free_pg_width (σ : SX) (v : Int32) : gx_rg_free (sx_pg_width σ v) = gx_rg_free σ := rfl
theorem px_od_weights_pg_width (σ : SX) (v : Int32) : gx_od_weights (sx_pg_width σ v) = gx_od_weights σ := rfl
theorem px_od_kept_pg_width (σ : SX) (v : Int32) : gx_od_kept (sx_pg_width σ v) = gx_od_kept σ := rfl
theorem px_od_outs_pg_width (σ : SX) (v : Int32) : gx_od_outs (sx_pg_width σ v) = gx_od_outs σ := rfl
theorem px_od_updates_pg_width (σ : SX) (v : Int32) : gx_od_updates (sx_pg_width σ v) = gx_od_updates σ := rfl
theorem px_od_keptUpdates_pg_width (σ : SX) (v : Int32) : gx_od_keptUpdates (sx_pg_width σ v) = gx_od_keptUpdates σ := rfl
theorem px_pl_arr_pg_width (σ : SX) (v : Int32) : gx_pl_arr (sx_pg_width σ v) = gx_pl_arr σ := rfl
theorem px_pl_ex_pg_width (σ : SX) (v : Int32) : gx_pl_ex (sx_pg_width σ v) = gx_pl_ex σ := rfl
theorem px_pl_kd_pg_width (σ : SX) (v : Int32) : gx_pl_kd (sx_pg_width σ v) = gx_pl_kd σ := rfl
theorem px_pl_told_pg_width (σ : SX) (v : Int32) : gx_pl_told (sx_pg_width σ v) = gx_pl_told σ := rfl
theorem px_pl_kept_pg_width (σ : SX) (v : Int32) : gx_pl_kept (sx_pg_width σ v) = gx_pl_kept σ := rfl
theorem px_pl_at_pg_width (σ : SX) (v : Int32) : gx_pl_at (sx_pg_width σ v) = gx_pl_at σ := rfl
theorem px_pl_size_pg_width (σ : SX) (v : Int32) : gx_pl_size (sx_pg_width σ v) = gx_pl_size σ := rfl
theorem px_pl_cloth_pg_width (σ : SX) (v : Int32) : gx_pl_cloth (sx_pg_width σ v) = gx_pl_cloth σ := rfl
theorem px_pl_giggle_pg_width (σ : SX) (v : Int32) : gx_pl_giggle (sx_pg_width σ v) = gx_pl_giggle σ := rfl
theorem px_rd_firstCell_pg_width (σ : SX) (v : Int32) : gx_rd_firstCell (sx_pg_width σ v) = gx_rd_firstCell σ := rfl
theorem px_rd_firstWay_pg_width (σ : SX) (v : Int32) : gx_rd_firstWay (sx_pg_width σ v) = gx_rd_firstWay σ := rfl
theorem px_rd_drift_pg_width (σ : SX) (v : Int32) : gx_rd_drift (sx_pg_width σ v) = gx_rd_drift σ := rfl
theorem px_rd_tenths_pg_width (σ : SX) (v : Int32) : gx_rd_tenths (sx_pg_width σ v) = gx_rd_tenths σ := rfl
theorem px_rd_hisCell_pg_width (σ : SX) (v : Int32) : gx_rd_hisCell (sx_pg_width σ v) = gx_rd_hisCell σ := rfl
theorem px_rd_hisWay_pg_width (σ : SX) (v : Int32) : gx_rd_hisWay (sx_pg_width σ v) = gx_rd_hisWay σ := rfl
theorem px_rd_tenth_pg_width (σ : SX) (v : Int32) : gx_rd_tenth (sx_pg_width σ v) = gx_rd_tenth σ := rfl
theorem px_rd_touched_pg_width (σ : SX) (v : Int32) : gx_rd_touched (sx_pg_width σ v) = gx_rd_touched σ := rfl
theorem px_rd_seed_pg_width (σ : SX) (v : Int32) : gx_rd_seed (sx_pg_width σ v) = gx_rd_seed σ := rfl
theorem px_nm_weights_pg_width (σ : SX) (v : Int32) : gx_nm_weights (sx_pg_width σ v) = gx_nm_weights σ := rfl
theorem px_nm_sizeOff_pg_width (σ : SX) (v : Int32) : gx_nm_sizeOff (sx_pg_width σ v) = gx_nm_sizeOff σ := rfl
theorem px_nm_clothRight_pg_width (σ : SX) (v : Int32) : gx_nm_clothRight (sx_pg_width σ v) = gx_nm_clothRight σ := rfl
theorem px_nm_giggleRight_pg_width (σ : SX) (v : Int32) : gx_nm_giggleRight (sx_pg_width σ v) = gx_nm_giggleRight σ := rfl
theorem px_nm_first_pg_width (σ : SX) (v : Int32) : gx_nm_first (sx_pg_width σ v) = gx_nm_first σ := rfl
theorem px_nm_second_pg_width (σ : SX) (v : Int32) : gx_nm_second (sx_pg_width σ v) = gx_nm_second σ := rfl
theorem px_nm_changed_pg_width (σ : SX) (v : Int32) : gx_nm_changed (sx_pg_width σ v) = gx_nm_changed σ := rfl
theorem px_nm_keptFirst_pg_width (σ : SX) (v : Int32) : gx_nm_keptFirst (sx_pg_width σ v) = gx_nm_keptFirst σ := rfl
theorem px_nm_keptSecond_pg_width (σ : SX) (v : Int32) : gx_nm_keptSecond (sx_pg_width σ v) = gx_nm_keptSecond σ := rfl
theorem px_nm_keptChanged_pg_width (σ : SX) (v : Int32) : gx_nm_keptChanged (sx_pg_width σ v) = gx_nm_keptChanged σ := rfl
theorem px_tp_playing_pg_width (σ : SX) (v : Int32) : gx_tp_playing (sx_pg_width σ v) = gx_tp_playing σ := rfl
theorem px_tp_ringsRead_pg_width (σ : SX) (v : Int32) : gx_tp_ringsRead (sx_pg_width σ v) = gx_tp_ringsRead σ := rfl
theorem px_tp_standsDone_pg_width (σ : SX) (v : Int32) : gx_tp_standsDone (sx_pg_width σ v) = gx_tp_standsDone σ := rfl
theorem px_tp_imageKept_pg_width (σ : SX) (v : Int32) : gx_tp_imageKept (sx_pg_width σ v) = gx_tp_imageKept σ := rfl
theorem px_pok_pg_width (σ : SX) (v : Int32) (a : Nat) : gx_pok (sx_pg_width σ v) a = gx_pok σ a := rfl
theorem px_pg_signs_rg_kinds (σ : SX) (v : Nat → Int32) : gx_pg_signs (sx_rg_kinds σ v) = gx_pg_signs σ := rfl
theorem px_pg_length_rg_kinds (σ : SX) (v : Nat → Int32) : gx_pg_length (sx_rg_kinds σ v) = gx_pg_length σ := rfl
theorem px_pg_row_rg_kinds (σ : SX) (v : Nat → Int32) : gx_pg_row (sx_rg_kinds σ v) = gx_pg_row σ := rfl
theorem px_pg_column_rg_kinds (σ : SX) (v : Nat → Int32) : gx_pg_column (sx_rg_kinds σ v) = gx_pg_column σ := rfl
theorem px_pg_width_rg_kinds (σ : SX) (v : Nat → Int32) : gx_pg_width (sx_rg_kinds σ v) = gx_pg_width σ := rfl
theorem px_rg_kinds_rg_kinds (σ : SX) (v : Nat → Int32) : gx_rg_kinds (sx_rg_kinds σ v) = v := rfl
theorem px_rg_rows_rg_kinds (σ : SX) (v : Nat → Int32) : gx_rg_rows (sx_rg_kinds σ v) = gx_rg_rows σ := rfl
theorem px_rg_columns_rg_kinds (σ : SX) (v : Nat → Int32) : gx_rg_columns (sx_rg_kinds σ v) = gx_rg_columns σ := rfl
theorem px_rg_beside_rg_kinds (σ : SX) (v : Nat → Int32) : gx_rg_beside (sx_rg_kinds σ v) = gx_rg_beside σ := rfl
theorem px_rg_size_rg_kinds (σ : SX) (v : Nat → Int32) : gx_rg_size (sx_rg_kinds σ v) = gx_rg_size σ := rfl
theorem px_rg_free_rg_kinds (σ : SX) (v : Nat → Int32) : gx_rg_free (sx_rg_kinds σ v) = gx_rg_free σ := rfl
theorem px_od_weights_rg_kinds (σ : SX) (v : Nat → Int32) : gx_od_weights (sx_rg_kinds σ v) = gx_od_weights σ := rfl
theorem px_od_kept_rg_kinds (σ : SX) (v : Nat → Int32) : gx_od_kept (sx_rg_kinds σ v) = gx_od_kept σ := rfl
theorem px_od_outs_rg_kinds (σ : SX) (v : Nat → Int32) : gx_od_outs (sx_rg_kinds σ v) = gx_od_outs σ := rfl
theorem px_od_updates_rg_kinds (σ : SX) (v : Nat → Int32) : gx_od_updates (sx_rg_kinds σ v) = gx_od_updates σ := rfl
theorem px_od_keptUpdates_rg_kinds (σ : SX) (v : Nat → Int32) : gx_od_keptUpdates (sx_rg_kinds σ v) = gx_od_keptUpdates σ := rfl
theorem px_pl_arr_rg_kinds (σ : SX) (v : Nat → Int32) : gx_pl_arr (sx_rg_kinds σ v) = gx_pl_arr σ := rfl
theorem px_pl_ex_rg_kinds (σ : SX) (v : Nat → Int32) : gx_pl_ex (sx_rg_kinds σ v) = gx_pl_ex σ := rfl
theorem px_pl_kd_rg_kinds (σ : SX) (v : Nat → Int32) : gx_pl_kd (sx_rg_kinds σ v) = gx_pl_kd σ := rfl
theorem px_pl_told_rg_kinds (σ : SX) (v : Nat → Int32) : gx_pl_told (sx_rg_kinds σ v) = gx_pl_told σ := rfl
theorem px_pl_kept_rg_kinds (σ : SX) (v : Nat → Int32) : gx_pl_kept (sx_rg_kinds σ v) = gx_pl_kept σ := rfl
theorem px_pl_at_rg_kinds (σ : SX) (v : Nat → Int32) : gx_pl_at (sx_rg_kinds σ v) = gx_pl_at σ := rfl
theorem px_pl_size_rg_kinds (σ : SX) (v : Nat → Int32) : gx_pl_size (sx_rg_kinds σ v) = gx_pl_size σ := rfl
theorem px_pl_cloth_rg_kinds (σ : SX) (v : Nat → Int32) : gx_pl_cloth (sx_rg_kinds σ v) = gx_pl_cloth σ := rfl
theorem px_pl_giggle_rg_kinds (σ : SX) (v : Nat → Int32) : gx_pl_giggle (sx_rg_kinds σ v) = gx_pl_giggle σ := rfl
theorem px_rd_firstCell_rg_kinds (σ : SX) (v : Nat → Int32) : gx_rd_firstCell (sx_rg_kinds σ v) = gx_rd_firstCell σ := rfl
theorem px_rd_firstWay_rg_kinds (σ : SX) (v : Nat → Int32) : gx_rd_firstWay (sx_rg_kinds σ v) = gx_rd_firstWay σ := rfl
theorem px_rd_drift_rg_kinds (σ : SX) (v : Nat → Int32) : gx_rd_drift (sx_rg_kinds σ v) = gx_rd_drift σ := rfl
theorem px_rd_tenths_rg_kinds (σ : SX) (v : Nat → Int32) : gx_rd_tenths (sx_rg_kinds σ v) = gx_rd_tenths σ := rfl
theorem px_rd_hisCell_rg_kinds (σ : SX) (v : Nat → Int32) : gx_rd_hisCell (sx_rg_kinds σ v) = gx_rd_hisCell σ := rfl
theorem px_rd_hisWay_rg_kinds (σ : SX) (v : Nat → Int32) : gx_rd_hisWay (sx_rg_kinds σ v) = gx_rd_hisWay σ := rfl
theorem px_rd_tenth_rg_kinds (σ : SX) (v : Nat → Int32) : gx_rd_tenth (sx_rg_kinds σ v) = gx_rd_tenth σ := rfl
theorem px_rd_touched_rg_kinds (σ : SX) (v : Nat → Int32) : gx_rd_touched (sx_rg_kinds σ v) = gx_rd_touched σ := rfl
theorem px_rd_seed_rg_kinds (σ : SX) (v : Nat → Int32) : gx_rd_seed (sx_rg_kinds σ v) = gx_rd_seed σ := rfl
theorem px_nm_weights_rg_kinds (σ : SX) (v : Nat → Int32) : gx_nm_weights (sx_rg_kinds σ v) = gx_nm_weights σ := rfl
theorem px_nm_sizeOff_rg_kinds (σ : SX) (v : Nat → Int32) : gx_nm_sizeOff (sx_rg_kinds σ v) = gx_nm_sizeOff σ := rfl
theorem px_nm_clothRight_rg_kinds (σ : SX) (v : Nat → Int32) : gx_nm_clothRight (sx_rg_kinds σ v) = gx_nm_clothRight σ := rfl
theorem px_nm_giggleRight_rg_kinds (σ : SX) (v : Nat → Int32) : gx_nm_giggleRight (sx_rg_kinds σ v) = gx_nm_giggleRight σ := rfl
theorem px_nm_first_rg_kinds (σ : SX) (v : Nat → Int32) : gx_nm_first (sx_rg_kinds σ v) = gx_nm_first σ := rfl
theorem px_nm_second_rg_kinds (σ : SX) (v : Nat → Int32) : gx_nm_second (sx_rg_kinds σ v) = gx_nm_second σ := rfl
theorem px_nm_changed_rg_kinds (σ : SX) (v : Nat → Int32) : gx_nm_changed (sx_rg_kinds σ v) = gx_nm_changed σ := rfl
theorem px_nm_keptFirst_rg_kinds (σ : SX) (v : Nat → Int32) : gx_nm_keptFirst (sx_rg_kinds σ v) = gx_nm_keptFirst σ := rfl
theorem px_nm_keptSecond_rg_kinds (σ : SX) (v : Nat → Int32) : gx_nm_keptSecond (sx_rg_kinds σ v) = gx_nm_keptSecond σ := rfl
theorem px_nm_keptChanged_rg_kinds (σ : SX) (v : Nat → Int32) : gx_nm_keptChanged (sx_rg_kinds σ v) = gx_nm_keptChanged σ := rfl
theorem px_tp_playing_rg_kinds (σ : SX) (v : Nat → Int32) : gx_tp_playing (sx_rg_kinds σ v) = gx_tp_playing σ := rfl
theorem px_tp_ringsRead_rg_kinds (σ : SX) (v : Nat → Int32) : gx_tp_ringsRead (sx_rg_kinds σ v) = gx_tp_ringsRead σ := rfl
theorem px_tp_standsDone_rg_kinds (σ : SX) (v : Nat → Int32) : gx_tp_standsDone (sx_rg_kinds σ v) = gx_tp_standsDone σ := rfl
theorem px_tp_imageKept_rg_kinds (σ : SX) (v : Nat → Int32) : gx_tp_imageKept (sx_rg_kinds σ v) = gx_tp_imageKept σ := rfl
theorem px_pok_rg_kinds (σ : SX) (v : Nat → Int32) (a : Nat) : gx_pok (sx_rg_kinds σ v) a = gx_pok σ a := rfl
theorem px_pg_signs_rg_rows (σ : SX) (v : Nat → Int32) : gx_pg_signs (sx_rg_rows σ v) = gx_pg_signs σ := rfl
theorem px_pg_length_rg_rows (σ : SX) (v : Nat → Int32) : gx_pg_length (sx_rg_rows σ v) = gx_pg_length σ := rfl
theorem px_pg_row_rg_rows (σ : SX) (v : Nat → Int32) : gx_pg_row (sx_rg_rows σ v) = gx_pg_row σ := rfl
theorem px_pg_column_rg_rows (σ : SX) (v : Nat → Int32) : gx_pg_column (sx_rg_rows σ v) = gx_pg_column σ := rfl
theorem px_pg_width_rg_rows (σ : SX) (v : Nat → Int32) : gx_pg_width (sx_rg_rows σ v) = gx_pg_width σ := rfl
theorem px_rg_kinds_rg_rows (σ : SX) (v : Nat → Int32) : gx_rg_kinds (sx_rg_rows σ v) = gx_rg_kinds σ := rfl
theorem px_rg_rows_rg_rows (σ : SX) (v : Nat → Int32) : gx_rg_rows (sx_rg_rows σ v) = v := rfl
theorem px_rg_columns_rg_rows (σ : SX) (v : Nat → Int32) : gx_rg_columns (sx_rg_rows σ v) = gx_rg_columns σ := rfl
theorem px_rg_beside_rg_rows (σ : SX) (v : Nat → Int32) : gx_rg_beside (sx_rg_rows σ v) = gx_rg_beside σ := rfl
theorem px_rg_size_rg_rows (σ : SX) (v : Nat → Int32) : gx_rg_size (sx_rg_rows σ v) = gx_rg_size σ := rfl
theorem px_rg_free_rg_rows (σ : SX) (v : Nat → Int32) : gx_rg_free (sx_rg_rows σ v) = gx_rg_free σ := rfl
theorem px_od_weights_rg_rows (σ : SX) (v : Nat → Int32) : gx_od_weights (sx_rg_rows σ v) = gx_od_weights σ := rfl
theorem px_od_kept_rg_rows (σ : SX) (v : Nat → Int32) : gx_od_kept (sx_rg_rows σ v) = gx_od_kept σ := rfl
theorem px_od_outs_rg_rows (σ : SX) (v : Nat → Int32) : gx_od_outs (sx_rg_rows σ v) = gx_od_outs σ := rfl
theorem px_od_updates_rg_rows (σ : SX) (v : Nat → Int32) : gx_od_updates (sx_rg_rows σ v) = gx_od_updates σ := rfl
theorem px_od_keptUpdates_rg_rows (σ : SX) (v : Nat → Int32) : gx_od_keptUpdates (sx_rg_rows σ v) = gx_od_keptUpdates σ := rfl
theorem px_pl_arr_rg_rows (σ : SX) (v : Nat → Int32) : gx_pl_arr (sx_rg_rows σ v) = gx_pl_arr σ := rfl
theorem px_pl_ex_rg_rows (σ : SX) (v : Nat → Int32) : gx_pl_ex (sx_rg_rows σ v) = gx_pl_ex σ := rfl
theorem px_pl_kd_rg_rows (σ : SX) (v : Nat → Int32) : gx_pl_kd (sx_rg_rows σ v) = gx_pl_kd σ := rfl
theorem px_pl_told_rg_rows (σ : SX) (v : Nat → Int32) : gx_pl_told (sx_rg_rows σ v) = gx_pl_told σ := rfl
theorem px_pl_kept_rg_rows (σ : SX) (v : Nat → Int32) : gx_pl_kept (sx_rg_rows σ v) = gx_pl_kept σ := rfl
theorem px_pl_at_rg_rows (σ : SX) (v : Nat → Int32) : gx_pl_at (sx_rg_rows σ v) = gx_pl_at σ := rfl
theorem px_pl_size_rg_rows (σ : SX) (v : Nat → Int32) : gx_pl_size (sx_rg_rows σ v) = gx_pl_size σ := rfl
theorem px_pl_cloth_rg_rows (σ : SX) (v : Nat → Int32) : gx_pl_cloth (sx_rg_rows σ v) = gx_pl_cloth σ := rfl
theorem px_pl_giggle_rg_rows (σ : SX) (v : Nat → Int32) : gx_pl_giggle (sx_rg_rows σ v) = gx_pl_giggle σ := rfl
theorem px_rd_firstCell_rg_rows (σ : SX) (v : Nat → Int32) : gx_rd_firstCell (sx_rg_rows σ v) = gx_rd_firstCell σ := rfl
theorem px_rd_firstWay_rg_rows (σ : SX) (v : Nat → Int32) : gx_rd_firstWay (sx_rg_rows σ v) = gx_rd_firstWay σ := rfl
theorem px_rd_drift_rg_rows (σ : SX) (v : Nat → Int32) : gx_rd_drift (sx_rg_rows σ v) = gx_rd_drift σ := rfl
theorem px_rd_tenths_rg_rows (σ : SX) (v : Nat → Int32) : gx_rd_tenths (sx_rg_rows σ v) = gx_rd_tenths σ := rfl
theorem px_rd_hisCell_rg_rows (σ : SX) (v : Nat → Int32) : gx_rd_hisCell (sx_rg_rows σ v) = gx_rd_hisCell σ := rfl
theorem px_rd_hisWay_rg_rows (σ : SX) (v : Nat → Int32) : gx_rd_hisWay (sx_rg_rows σ v) = gx_rd_hisWay σ := rfl
theorem px_rd_tenth_rg_rows (σ : SX) (v : Nat → Int32) : gx_rd_tenth (sx_rg_rows σ v) = gx_rd_tenth σ := rfl
theorem px_rd_touched_rg_rows (σ : SX) (v : Nat → Int32) : gx_rd_touched (sx_rg_rows σ v) = gx_rd_touched σ := rfl
theorem px_rd_seed_rg_rows (σ : SX) (v : Nat → Int32) : gx_rd_seed (sx_rg_rows σ v) = gx_rd_seed σ := rfl
theorem px_nm_weights_rg_rows (σ : SX) (v : Nat → Int32) : gx_nm_weights (sx_rg_rows σ v) = gx_nm_weights σ := rfl
theorem px_nm_sizeOff_rg_rows (σ : SX) (v : Nat → Int32) : gx_nm_sizeOff (sx_rg_rows σ v) = gx_nm_sizeOff σ := rfl
theorem px_nm_clothRight_rg_rows (σ : SX) (v : Nat → Int32) : gx_nm_clothRight (sx_rg_rows σ v) = gx_nm_clothRight σ := rfl
theorem px_nm_giggleRight_rg_rows (σ : SX) (v : Nat → Int32) : gx_nm_giggleRight (sx_rg_rows σ v) = gx_nm_giggleRight σ := rfl
theorem px_nm_first_rg_rows (σ : SX) (v : Nat → Int32) : gx_nm_first (sx_rg_rows σ v) = gx_nm_first σ := rfl
theorem px_nm_second_rg_rows (σ : SX) (v : Nat → Int32) : gx_nm_second (sx_rg_rows σ v) = gx_nm_second σ := rfl
theorem px_nm_changed_rg_rows (σ : SX) (v : Nat → Int32) : gx_nm_changed (sx_rg_rows σ v) = gx_nm_changed σ := rfl
theorem px_nm_keptFirst_rg_rows (σ : SX) (v : Nat → Int32) : gx_nm_keptFirst (sx_rg_rows σ v) = gx_nm_keptFirst σ := rfl
theorem px_nm_keptSecond_rg_rows (σ : SX) (v : Nat → Int32) : gx_nm_keptSecond (sx_rg_rows σ v) = gx_nm_keptSecond σ := rfl
theorem px_nm_keptChanged_rg_rows (σ : SX) (v : Nat → Int32) : gx_nm_keptChanged (sx_rg_rows σ v) = gx_nm_keptChanged σ := rfl
theorem px_tp_playing_rg_rows (σ : SX) (v : Nat → Int32) : gx_tp_playing (sx_rg_rows σ v) = gx_tp_playing σ := rfl
theorem px_tp_ringsRead_rg_rows (σ : SX) (v : Nat → Int32) : gx_tp_ringsRead (sx_rg_rows σ v) = gx_tp_ringsRead σ := rfl
theorem px_tp_standsDone_rg_rows (σ : SX) (v : Nat → Int32) : gx_tp_standsDone (sx_rg_rows σ v) = gx_tp_standsDone σ := rfl
theorem px_tp_imageKept_rg_rows (σ : SX) (v : Nat → Int32) : gx_tp_imageKept (sx_rg_rows σ v) = gx_tp_imageKept σ := rfl
theorem px_pok_rg_rows (σ : SX) (v : Nat → Int32) (a : Nat) : gx_pok (sx_rg_rows σ v) a = gx_pok σ a := rfl
theorem px_pg_signs_rg_columns (σ : SX) (v : Nat → Int32) : gx_pg_signs (sx_rg_columns σ v) = gx_pg_signs σ := rfl
theorem px_pg_length_rg_columns (σ : SX) (v : Nat → Int32) : gx_pg_length (sx_rg_columns σ v) = gx_pg_length σ := rfl
theorem px_pg_row_rg_columns (σ : SX) (v : Nat → Int32) : gx_pg_row (sx_rg_columns σ v) = gx_pg_row σ := rfl
theorem px_pg_column_rg_columns (σ : SX) (v : Nat → Int32) : gx_pg_column (sx_rg_columns σ v) = gx_pg_column σ := rfl
theorem px_pg_width_rg_columns (σ : SX) (v : Nat → Int32) : gx_pg_width (sx_rg_columns σ v) = gx_pg_width σ := rfl
theorem px_rg_kinds_rg_columns (σ : SX) (v : Nat → Int32) : gx_rg_kinds (sx_rg_columns σ v) = gx_rg_kinds σ := rfl
theorem px_rg_rows_rg_columns (σ : SX) (v : Nat → Int32) : gx_rg_rows (sx_rg_columns σ v) = gx_rg_rows σ := rfl
theorem px_rg_columns_rg_columns (σ : SX) (v : Nat → Int32) : gx_rg_columns (sx_rg_columns σ v) = v := rfl
theorem px_rg_beside_rg_columns (σ : SX) (v : Nat → Int32) : gx_rg_beside (sx_rg_columns σ v) = gx_rg_beside σ := rfl
theorem px_rg_size_rg_columns (σ : SX) (v : Nat → Int32) : gx_rg_size (sx_rg_columns σ v) = gx_rg_size σ := rfl
theorem px_rg_free_rg_columns (σ : SX) (v : Nat → Int32) : gx_rg_free (sx_rg_columns σ v) = gx_rg_free σ := rfl
theorem px_od_weights_rg_columns (σ : SX) (v : Nat → Int32) : gx_od_weights (sx_rg_columns σ v) = gx_od_weights σ := rfl
theorem px_od_kept_rg_columns (σ : SX) (v : Nat → Int32) : gx_od_kept (sx_rg_columns σ v) = gx_od_kept σ := rfl
theorem px_od_outs_rg_columns (σ : SX) (v : Nat → Int32) : gx_od_outs (sx_rg_columns σ v) = gx_od_outs σ := rfl
theorem px_od_updates_rg_columns (σ : SX) (v : Nat → Int32) : gx_od_updates (sx_rg_columns σ v) = gx_od_updates σ := rfl
theorem px_od_keptUpdates_rg_columns (σ : SX) (v : Nat → Int32) : gx_od_keptUpdates (sx_rg_columns σ v) = gx_od_keptUpdates σ := rfl
theorem px_pl_arr_rg_columns (σ : SX) (v : Nat → Int32) : gx_pl_arr (sx_rg_columns σ v) = gx_pl_arr σ := rfl
theorem px_pl_ex_rg_columns (σ : SX) (v : Nat → Int32) : gx_pl_ex (sx_rg_columns σ v) = gx_pl_ex σ := rfl
theorem px_pl_kd_rg_columns (σ : SX) (v : Nat → Int32) : gx_pl_kd (sx_rg_columns σ v) = gx_pl_kd σ := rfl
theorem px_pl_told_rg_columns (σ : SX) (v : Nat → Int32) : gx_pl_told (sx_rg_columns σ v) = gx_pl_told σ := rfl
theorem px_pl_kept_rg_columns (σ : SX) (v : Nat → Int32) : gx_pl_kept (sx_rg_columns σ v) = gx_pl_kept σ := rfl
theorem px_pl_at_rg_columns (σ : SX) (v : Nat → Int32) : gx_pl_at (sx_rg_columns σ v) = gx_pl_at σ := rfl
theorem px_pl_size_rg_columns (σ : SX) (v : Nat → Int32) : gx_pl_size (sx_rg_columns σ v) = gx_pl_size σ := rfl
theorem px_pl_cloth_rg_columns (σ : SX) (v : Nat → Int32) : gx_pl_cloth (sx_rg_columns σ v) = gx_pl_cloth σ := rfl
theorem px_pl_giggle_rg_columns (σ : SX) (v : Nat → Int32) : gx_pl_giggle (sx_rg_columns σ v) = gx_pl_giggle σ := rfl
theorem px_rd_firstCell_rg_columns (σ : SX) (v : Nat → Int32) : gx_rd_firstCell (sx_rg_columns σ v) = gx_rd_firstCell σ := rfl
theorem px_rd_firstWay_rg_columns (σ : SX) (v : Nat → Int32) : gx_rd_firstWay (sx_rg_columns σ v) = gx_rd_firstWay σ := rfl
theorem px_rd_drift_rg_columns (σ : SX) (v : Nat → Int32) : gx_rd_drift (sx_rg_columns σ v) = gx_rd_drift σ := rfl
theorem px_rd_tenths_rg_columns (σ : SX) (v : Nat → Int32) : gx_rd_tenths (sx_rg_columns σ v) = gx_rd_tenths σ := rfl
theorem px_rd_hisCell_rg_columns (σ : SX) (v : Nat → Int32) : gx_rd_hisCell (sx_rg_columns σ v) = gx_rd_hisCell σ := rfl
theorem px_rd_hisWay_rg_columns (σ : SX) (v : Nat → Int32) : gx_rd_hisWay (sx_rg_columns σ v) = gx_rd_hisWay σ := rfl
theorem px_rd_tenth_rg_columns (σ : SX) (v : Nat → Int32) : gx_rd_tenth (sx_rg_columns σ v) = gx_rd_tenth σ := rfl
theorem px_rd_touched_rg_columns (σ : SX) (v : Nat → Int32) : gx_rd_touched (sx_rg_columns σ v) = gx_rd_touched σ := rfl
theorem px_rd_seed_rg_columns (σ : SX) (v : Nat → Int32) : gx_rd_seed (sx_rg_columns σ v) = gx_rd_seed σ := rfl
theorem px_nm_weights_rg_columns (σ : SX) (v : Nat → Int32) : gx_nm_weights (sx_rg_columns σ v) = gx_nm_weights σ := rfl
theorem px_nm_sizeOff_rg_columns (σ : SX) (v : Nat → Int32) : gx_nm_sizeOff (sx_rg_columns σ v) = gx_nm_sizeOff σ := rfl
theorem px_nm_clothRight_rg_columns (σ : SX) (v : Nat → Int32) : gx_nm_clothRight (sx_rg_columns σ v) = gx_nm_clothRight σ := rfl
theorem px_nm_giggleRight_rg_columns (σ : SX) (v : Nat → Int32) : gx_nm_giggleRight (sx_rg_columns σ v) = gx_nm_giggleRight σ := rfl
theorem px_nm_first_rg_columns (σ : SX) (v : Nat → Int32) : gx_nm_first (sx_rg_columns σ v) = gx_nm_first σ := rfl
theorem px_nm_second_rg_columns (σ : SX) (v : Nat → Int32) : gx_nm_second (sx_rg_columns σ v) = gx_nm_second σ := rfl
theorem px_nm_changed_rg_columns (σ : SX) (v : Nat → Int32) : gx_nm_changed (sx_rg_columns σ v) = gx_nm_changed σ := rfl
theorem px_nm_keptFirst_rg_columns (σ : SX) (v : Nat → Int32) : gx_nm_keptFirst (sx_rg_columns σ v) = gx_nm_keptFirst σ := rfl
theorem px_nm_keptSecond_rg_columns (σ : SX) (v : Nat → Int32) : gx_nm_keptSecond (sx_rg_columns σ v) = gx_nm_keptSecond σ := rfl
theorem px_nm_keptChanged_rg_columns (σ : SX) (v : Nat → Int32) : gx_nm_keptChanged (sx_rg_columns σ v) = gx_nm_keptChanged σ := rfl
theorem px_tp_playing_rg_columns (σ : SX) (v : Nat → Int32) : gx_tp_playing (sx_rg_columns σ v) = gx_tp_playing σ := rfl
theorem px_tp_ringsRead_rg_columns (σ : SX) (v : Nat → Int32) : gx_tp_ringsRead (sx_rg_columns σ v) = gx_tp_ringsRead σ := rfl
theorem px_tp_standsDone_rg_columns (σ : SX) (v : Nat → Int32) : gx_tp_standsDone (sx_rg_columns σ v) = gx_tp_standsDone σ := rfl
theorem px_tp_imageKept_rg_columns (σ : SX) (v : Nat → Int32) : gx_tp_imageKept (sx_rg_columns σ v) = gx_tp_imageKept σ := rfl
theorem px_pok_rg_columns (σ : SX) (v : Nat → Int32) (a : Nat) : gx_pok (sx_rg_columns σ v) a = gx_pok σ a := rfl
theorem px_pg_signs_rg_beside (σ : SX) (v : Nat → Int32) : gx_pg_signs (sx_rg_beside σ v) = gx_pg_signs σ := rfl
theorem px_pg_length_rg_beside (σ : SX) (v : Nat → Int32) : gx_pg_length (sx_rg_beside σ v) = gx_pg_length σ := rfl
theorem px_pg_row_rg_beside (σ : SX) (v : Nat → Int32) : gx_pg_row (sx_rg_beside σ v) = gx_pg_row σ := rfl
theorem px_pg_column_rg_beside (σ : SX) (v : Nat → Int32) : gx_pg_column (sx_rg_beside σ v) = gx_pg_column σ := rfl
theorem px_pg_width_rg_beside (σ : SX) (v : Nat → Int32) : gx_pg_width (sx_rg_beside σ v) = gx_pg_width σ := rfl
theorem px_rg_kinds_rg_beside (σ : SX) (v : Nat → Int32) : gx_rg_kinds (sx_rg_beside σ v) = gx_rg_kinds σ := rfl
theorem px_rg_rows_rg_beside (σ : SX) (v : Nat → Int32) : gx_rg_rows (sx_rg_beside σ v) = gx_rg_rows σ := rfl
theorem px_rg_columns_rg_beside (σ : SX) (v : Nat → Int32) : gx_rg_columns (sx_rg_beside σ v) = gx_rg_columns σ := rfl
theorem px_rg_beside_rg_beside (σ : SX) (v : Nat → Int32) : gx_rg_beside (sx_rg_beside σ v) = v := rfl
theorem px_rg_size_rg_beside (σ : SX) (v : Nat → Int32) : gx_rg_size (sx_rg_beside σ v) = gx_rg_size σ := rfl
theorem px_rg_free_rg_beside (σ : SX) (v : Nat → Int32) : gx_rg_free (sx_rg_beside σ v) = gx_rg_free σ := rfl
theorem px_od_weights_rg_beside (σ : SX) (v : Nat → Int32) : gx_od_weights (sx_rg_beside σ v) = gx_od_weights σ := rfl
theorem px_od_kept_rg_beside (σ : SX) (v : Nat → Int32) : gx_od_kept (sx_rg_beside σ v) = gx_od_kept σ := rfl
theorem px_od_outs_rg_beside (σ : SX) (v : Nat → Int32) : gx_od_outs (sx_rg_beside σ v) = gx_od_outs σ := rfl
theorem px_od_updates_rg_beside (σ : SX) (v : Nat → Int32) : gx_od_updates (sx_rg_beside σ v) = gx_od_updates σ := rfl
theorem px_od_keptUpdates_rg_beside (σ : SX) (v : Nat → Int32) : gx_od_keptUpdates (sx_rg_beside σ v) = gx_od_keptUpdates σ := rfl
theorem px_pl_arr_rg_beside (σ : SX) (v : Nat → Int32) : gx_pl_arr (sx_rg_beside σ v) = gx_pl_arr σ := rfl
theorem px_pl_ex_rg_beside (σ : SX) (v : Nat → Int32) : gx_pl_ex (sx_rg_beside σ v) = gx_pl_ex σ := rfl
theorem px_pl_kd_rg_beside (σ : SX) (v : Nat → Int32) : gx_pl_kd (sx_rg_beside σ v) = gx_pl_kd σ := rfl
theorem px_pl_told_rg_beside (σ : SX) (v : Nat → Int32) : gx_pl_told (sx_rg_beside σ v) = gx_pl_told σ := rfl
theorem px_pl_kept_rg_beside (σ : SX) (v : Nat → Int32) : gx_pl_kept (sx_rg_beside σ v) = gx_pl_kept σ := rfl
theorem px_pl_at_rg_beside (σ : SX) (v : Nat → Int32) : gx_pl_at (sx_rg_beside σ v) = gx_pl_at σ := rfl
theorem px_pl_size_rg_beside (σ : SX) (v : Nat → Int32) : gx_pl_size (sx_rg_beside σ v) = gx_pl_size σ := rfl
theorem px_pl_cloth_rg_beside (σ : SX) (v : Nat → Int32) : gx_pl_cloth (sx_rg_beside σ v) = gx_pl_cloth σ := rfl
theorem px_pl_giggle_rg_beside (σ : SX) (v : Nat → Int32) : gx_pl_giggle (sx_rg_beside σ v) = gx_pl_giggle σ := rfl
theorem px_rd_firstCell_rg_beside (σ : SX) (v : Nat → Int32) : gx_rd_firstCell (sx_rg_beside σ v) = gx_rd_firstCell σ := rfl
theorem px_rd_firstWay_rg_beside (σ : SX) (v : Nat → Int32) : gx_rd_firstWay (sx_rg_beside σ v) = gx_rd_firstWay σ := rfl
theorem px_rd_drift_rg_beside (σ : SX) (v : Nat → Int32) : gx_rd_drift (sx_rg_beside σ v) = gx_rd_drift σ := rfl
theorem px_rd_tenths_rg_beside (σ : SX) (v : Nat → Int32) : gx_rd_tenths (sx_rg_beside σ v) = gx_rd_tenths σ := rfl
theorem px_rd_hisCell_rg_beside (σ : SX) (v : Nat → Int32) : gx_rd_hisCell (sx_rg_beside σ v) = gx_rd_hisCell σ := rfl
theorem px_rd_hisWay_rg_beside (σ : SX) (v : Nat → Int32) : gx_rd_hisWay (sx_rg_beside σ v) = gx_rd_hisWay σ := rfl
theorem px_rd_tenth_rg_beside (σ : SX) (v : Nat → Int32) : gx_rd_tenth (sx_rg_beside σ v) = gx_rd_tenth σ := rfl
theorem px_rd_touched_rg_beside (σ : SX) (v : Nat → Int32) : gx_rd_touched (sx_rg_beside σ v) = gx_rd_touched σ := rfl
theorem px_rd_seed_rg_beside (σ : SX) (v : Nat → Int32) : gx_rd_seed (sx_rg_beside σ v) = gx_rd_seed σ := rfl
theorem px_nm_weights_rg_beside (σ : SX) (v : Nat → Int32) : gx_nm_weights (sx_rg_beside σ v) = gx_nm_weights σ := rfl
theorem px_nm_sizeOff_rg_beside (σ : SX) (v : Nat → Int32) : gx_nm_sizeOff (sx_rg_beside σ v) = gx_nm_sizeOff σ := rfl
theorem px_nm_clothRight_rg_beside (σ : SX) (v : Nat → Int32) : gx_nm_clothRight (sx_rg_beside σ v) = gx_nm_clothRight σ := rfl
theorem px_nm_giggleRight_rg_beside (σ : SX) (v : Nat → Int32) : gx_nm_giggleRight (sx_rg_beside σ v) = gx_nm_giggleRight σ := rfl
theorem px_nm_first_rg_beside (σ : SX) (v : Nat → Int32) : gx_nm_first (sx_rg_beside σ v) = gx_nm_first σ := rfl
theorem px_nm_second_rg_beside (σ : SX) (v : Nat → Int32) : gx_nm_second (sx_rg_beside σ v) = gx_nm_second σ := rfl
theorem px_nm_changed_rg_beside (σ : SX) (v : Nat → Int32) : gx_nm_changed (sx_rg_beside σ v) = gx_nm_changed σ := rfl
theorem px_nm_keptFirst_rg_beside (σ : SX) (v : Nat → Int32) : gx_nm_keptFirst (sx_rg_beside σ v) = gx_nm_keptFirst σ := rfl
theorem px_nm_keptSecond_rg_beside (σ : SX) (v : Nat → Int32) : gx_nm_keptSecond (sx_rg_beside σ v) = gx_nm_keptSecond σ := rfl
theorem px_nm_keptChanged_rg_beside (σ : SX) (v : Nat → Int32) : gx_nm_keptChanged (sx_rg_beside σ v) = gx_nm_keptChanged σ := rfl
theorem px_tp_playing_rg_beside (σ : SX) (v : Nat → Int32) : gx_tp_playing (sx_rg_beside σ v) = gx_tp_playing σ := rfl
theorem px_tp_ringsRead_rg_beside (σ : SX) (v : Nat → Int32) : gx_tp_ringsRead (sx_rg_beside σ v) = gx_tp_ringsRead σ := rfl
theorem px_tp_standsDone_rg_beside (σ : SX) (v : Nat → Int32) : gx_tp_standsDone (sx_rg_beside σ v) = gx_tp_standsDone σ := rfl
theorem px_tp_imageKept_rg_beside (σ : SX) (v : Nat → Int32) : gx_tp_imageKept (sx_rg_beside σ v) = gx_tp_imageKept σ := rfl
theorem px_pok_rg_beside (σ : SX) (v : Nat → Int32) (a : Nat) : gx_pok (sx_rg_beside σ v) a = gx_pok σ a := rfl
theorem px_pg_signs_rg_size (σ : SX) (v : Int32) : gx_pg_signs (sx_rg_size σ v) = gx_pg_signs σ := rfl
theorem px_pg_length_rg_size (σ : SX) (v : Int32) : gx_pg_length (sx_rg_size σ v) = gx_pg_length σ := rfl
theorem px_pg_row_rg_size (σ : SX) (v : Int32) : gx_pg_row (sx_rg_size σ v) = gx_pg_row σ := rfl
theorem px_pg_column_rg_size (σ : SX) (v : Int32) : gx_pg_column (sx_rg_size σ v) = gx_pg_column σ := rfl
theorem px_pg_width_rg_size (σ : SX) (v : Int32) : gx_pg_width (sx_rg_size σ v) = gx_pg_width σ := rfl
theorem px_rg_kinds_rg_size (σ : SX) (v : Int32) : gx_rg_kinds (sx_rg_size σ v) = gx_rg_kinds σ := rfl
theorem px_rg_rows_rg_size (σ : SX) (v : Int32) : gx_rg_rows (sx_rg_size σ v) = gx_rg_rows σ := rfl
theorem px_rg_columns_rg_size (σ : SX) (v : Int32) : gx_rg_columns (sx_rg_size σ v) = gx_rg_columns σ := rfl
theorem px_rg_beside_rg_size (σ : SX) (v : Int32) : gx_rg_beside (sx_rg_size σ v) = gx_rg_beside σ := rfl
theorem px_rg_size_rg_size (σ : SX) (v : Int32) : gx_rg_size (sx_rg_size σ v) = v := rfl
theorem px_rg_free_rg_size (σ : SX) (v : Int32) : gx_rg_free (sx_rg_size σ v) = gx_rg_free σ := rfl
theorem px_od_weights_rg_size (σ : SX) (v : Int32) : gx_od_weights (sx_rg_size σ v) = gx_od_weights σ := rfl
theorem px_od_kept_rg_size (σ : SX) (v : Int32) : gx_od_kept (sx_rg_size σ v) = gx_od_kept σ := rfl
theorem px_od_outs_rg_size (σ : SX) (v : Int32) : gx_od_outs (sx_rg_size σ v) = gx_od_outs σ := rfl
theorem px_od_updates_rg_size (σ : SX) (v : Int32) : gx_od_updates (sx_rg_size σ v) = gx_od_updates σ := rfl
theorem px_od_keptUpdates_rg_size (σ : SX) (v : Int32) : gx_od_keptUpdates (sx_rg_size σ v) = gx_od_keptUpdates σ := rfl
theorem px_pl_arr_rg_size (σ : SX) (v : Int32) : gx_pl_arr (sx_rg_size σ v) = gx_pl_arr σ := rfl
theorem px_pl_ex_rg_size (σ : SX) (v : Int32) : gx_pl_ex (sx_rg_size σ v) = gx_pl_ex σ := rfl
theorem px_pl_kd_rg_size (σ : SX) (v : Int32) : gx_pl_kd (sx_rg_size σ v) = gx_pl_kd σ := rfl
theorem px_pl_told_rg_size (σ : SX) (v : Int32) : gx_pl_told (sx_rg_size σ v) = gx_pl_told σ := rfl
theorem px_pl_kept_rg_size (σ : SX) (v : Int32) : gx_pl_kept (sx_rg_size σ v) = gx_pl_kept σ := rfl
theorem px_pl_at_rg_size (σ : SX) (v : Int32) : gx_pl_at (sx_rg_size σ v) = gx_pl_at σ := rfl
theorem px_pl_size_rg_size (σ : SX) (v : Int32) : gx_pl_size (sx_rg_size σ v) = gx_pl_size σ := rfl
theorem px_pl_cloth_rg_size (σ : SX) (v : Int32) : gx_pl_cloth (sx_rg_size σ v) = gx_pl_cloth σ := rfl
theorem px_pl_giggle_rg_size (σ : SX) (v : Int32) : gx_pl_giggle (sx_rg_size σ v) = gx_pl_giggle σ := rfl
theorem px_rd_firstCell_rg_size (σ : SX) (v : Int32) : gx_rd_firstCell (sx_rg_size σ v) = gx_rd_firstCell σ := rfl
theorem px_rd_firstWay_rg_size (σ : SX) (v : Int32) : gx_rd_firstWay (sx_rg_size σ v) = gx_rd_firstWay σ := rfl
theorem px_rd_drift_rg_size (σ : SX) (v : Int32) : gx_rd_drift (sx_rg_size σ v) = gx_rd_drift σ := rfl
theorem px_rd_tenths_rg_size (σ : SX) (v : Int32) : gx_rd_tenths (sx_rg_size σ v) = gx_rd_tenths σ := rfl
theorem px_rd_hisCell_rg_size (σ : SX) (v : Int32) : gx_rd_hisCell (sx_rg_size σ v) = gx_rd_hisCell σ := rfl
theorem px_rd_hisWay_rg_size (σ : SX) (v : Int32) : gx_rd_hisWay (sx_rg_size σ v) = gx_rd_hisWay σ := rfl
theorem px_rd_tenth_rg_size (σ : SX) (v : Int32) : gx_rd_tenth (sx_rg_size σ v) = gx_rd_tenth σ := rfl
theorem px_rd_touched_rg_size (σ : SX) (v : Int32) : gx_rd_touched (sx_rg_size σ v) = gx_rd_touched σ := rfl
theorem px_rd_seed_rg_size (σ : SX) (v : Int32) : gx_rd_seed (sx_rg_size σ v) = gx_rd_seed σ := rfl
theorem px_nm_weights_rg_size (σ : SX) (v : Int32) : gx_nm_weights (sx_rg_size σ v) = gx_nm_weights σ := rfl
theorem px_nm_sizeOff_rg_size (σ : SX) (v : Int32) : gx_nm_sizeOff (sx_rg_size σ v) = gx_nm_sizeOff σ := rfl
theorem px_nm_clothRight_rg_size (σ : SX) (v : Int32) : gx_nm_clothRight (sx_rg_size σ v) = gx_nm_clothRight σ := rfl
theorem px_nm_giggleRight_rg_size (σ : SX) (v : Int32) : gx_nm_giggleRight (sx_rg_size σ v) = gx_nm_giggleRight σ := rfl
theorem px_nm_first_rg_size (σ : SX) (v : Int32) : gx_nm_first (sx_rg_size σ v) = gx_nm_first σ := rfl
theorem px_nm_second_rg_size (σ : SX) (v : Int32) : gx_nm_second (sx_rg_size σ v) = gx_nm_second σ := rfl
theorem px_nm_changed_rg_size (σ : SX) (v : Int32) : gx_nm_changed (sx_rg_size σ v) = gx_nm_changed σ := rfl
theorem px_nm_keptFirst_rg_size (σ : SX) (v : Int32) : gx_nm_keptFirst (sx_rg_size σ v) = gx_nm_keptFirst σ := rfl
theorem px_nm_keptSecond_rg_size (σ : SX) (v : Int32) : gx_nm_keptSecond (sx_rg_size σ v) = gx_nm_keptSecond σ := rfl
theorem px_nm_keptChanged_rg_size (σ : SX) (v : Int32) : gx_nm_keptChanged (sx_rg_size σ v) = gx_nm_keptChanged σ := rfl
theorem px_tp_playing_rg_size (σ : SX) (v : Int32) : gx_tp_playing (sx_rg_size σ v) = gx_tp_playing σ := rfl
theorem px_tp_ringsRead_rg_size (σ : SX) (v : Int32) : gx_tp_ringsRead (sx_rg_size σ v) = gx_tp_ringsRead σ := rfl
theorem px_tp_standsDone_rg_size (σ : SX) (v : Int32) : gx_tp_standsDone (sx_rg_size σ v) = gx_tp_standsDone σ := rfl
theorem px_tp_imageKept_rg_size (σ : SX) (v : Int32) : gx_tp_imageKept (sx_rg_size σ v) = gx_tp_imageKept σ := rfl
theorem px_pok_rg_size (σ : SX) (v : Int32) (a : Nat) : gx_pok (sx_rg_size σ v) a = gx_pok σ a := rfl
theorem px_pg_signs_rg_free (σ : SX) (v : Int32) : gx_pg_signs (sx_rg_free σ v) = gx_pg_signs σ := rfl
theorem px_pg_length_rg_free (σ : SX) (v : Int32) : gx_pg_length (sx_rg_free σ v) = gx_pg_length σ := rfl
theorem px_pg_row_rg_free (σ : SX) (v : Int32) : gx_pg_row (sx_rg_free σ v) = gx_pg_row σ := rfl
theorem px_pg_column_rg_free (σ : SX) (v : Int32) : gx_pg_column (sx_rg_free σ v) = gx_pg_column σ := rfl
theorem px_pg_width_rg_free (σ : SX) (v : Int32) : gx_pg_width (sx_rg_free σ v) = gx_pg_width σ := rfl
theorem px_rg_kinds_rg_free (σ : SX) (v : Int32) : gx_rg_kinds (sx_rg_free σ v) = gx_rg_kinds σ := rfl
theorem px_rg_rows_rg_free (σ : SX) (v : Int32) : gx_rg_rows (sx_rg_free σ v) = gx_rg_rows σ := rfl
theorem px_rg_columns_rg_free (σ : SX) (v : Int32) : gx_rg_columns (sx_rg_free σ v) = gx_rg_columns σ := rfl
theorem px_rg_beside_rg_free (σ : SX) (v : Int32) : gx_rg_beside (sx_rg_free σ v) = gx_rg_beside σ := rfl
theorem px_rg_size_rg_free (σ : SX) (v : Int32) : gx_rg_size (sx_rg_free σ v) = gx_rg_size σ := rfl
theorem px_rg_free_rg_free (σ : SX) (v : Int32) : gx_rg_free (sx_rg_free σ v) = v := rfl
theorem px_od_weights_rg_free (σ : SX) (v : Int32) : gx_od_weights (sx_rg_free σ v) = gx_od_weights σ := rfl
theorem px_od_kept_rg_free (σ : SX) (v : Int32) : gx_od_kept (sx_rg_free σ v) = gx_od_kept σ := rfl
theorem px_od_outs_rg_free (σ : SX) (v : Int32) : gx_od_outs (sx_rg_free σ v) = gx_od_outs σ := rfl
theorem px_od_updates_rg_free (σ : SX) (v : Int32) : gx_od_updates (sx_rg_free σ v) = gx_od_updates σ := rfl
theorem px_od_keptUpdates_rg_free (σ : SX) (v : Int32) : gx_od_keptUpdates (sx_rg_free σ v) = gx_od_keptUpdates σ := rfl
theorem px_pl_arr_rg_free (σ : SX) (v : Int32) : gx_pl_arr (sx_rg_free σ v) = gx_pl_arr σ := rfl
theorem px_pl_ex_rg_free (σ : SX) (v : Int32) : gx_pl_ex (sx_rg_free σ v) = gx_pl_ex σ := rfl
theorem px_pl_kd_rg_free (σ : SX) (v : Int32) : gx_pl_kd (sx_rg_free σ v) = gx_pl_kd σ := rfl
theorem px_pl_told_rg_free (σ : SX) (v : Int32) : gx_pl_told (sx_rg_free σ v) = gx_pl_told σ := rfl
theorem px_pl_kept_rg_free (σ : SX) (v : Int32) : gx_pl_kept (sx_rg_free σ v) = gx_pl_kept σ := rfl
theorem px_pl_at_rg_free (σ : SX) (v : Int32) : gx_pl_at (sx_rg_free σ v) = gx_pl_at σ := rfl
theorem px_pl_size_rg_free (σ : SX) (v : Int32) : gx_pl_size (sx_rg_free σ v) = gx_pl_size σ := rfl
theorem px_pl_cloth_rg_free (σ : SX) (v : Int32) : gx_pl_cloth (sx_rg_free σ v) = gx_pl_cloth σ := rfl
theorem px_pl_giggle_rg_free (σ : SX) (v : Int32) : gx_pl_giggle (sx_rg_free σ v) = gx_pl_giggle σ := rfl
theorem px_rd_firstCell_rg_free (σ : SX) (v : Int32) : gx_rd_firstCell (sx_rg_free σ v) = gx_rd_firstCell σ := rfl
theorem px_rd_firstWay_rg_free (σ : SX) (v : Int32) : gx_rd_firstWay (sx_rg_free σ v) = gx_rd_firstWay σ := rfl
theorem px_rd_drift_rg_free (σ : SX) (v : Int32) : gx_rd_drift (sx_rg_free σ v) = gx_rd_drift σ := rfl
theorem px_rd_tenths_rg_free (σ : SX) (v : Int32) : gx_rd_tenths (sx_rg_free σ v) = gx_rd_tenths σ := rfl
theorem px_rd_hisCell_rg_free (σ : SX) (v : Int32) : gx_rd_hisCell (sx_rg_free σ v) = gx_rd_hisCell σ := rfl
theorem px_rd_hisWay_rg_free (σ : SX) (v : Int32) : gx_rd_hisWay (sx_rg_free σ v) = gx_rd_hisWay σ := rfl
theorem px_rd_tenth_rg_free (σ : SX) (v : Int32) : gx_rd_tenth (sx_rg_free σ v) = gx_rd_tenth σ := rfl
theorem px_rd_touched_rg_free (σ : SX) (v : Int32) : gx_rd_touched (sx_rg_free σ v) = gx_rd_touched σ := rfl
theorem px_rd_seed_rg_free (σ : SX) (v : Int32) : gx_rd_seed (sx_rg_free σ v) = gx_rd_seed σ := rfl
theorem px_nm_weights_rg_free (σ : SX) (v : Int32) : gx_nm_weights (sx_rg_free σ v) = gx_nm_weights σ := rfl
theorem px_nm_sizeOff_rg_free (σ : SX) (v : Int32) : gx_nm_sizeOff (sx_rg_free σ v) = gx_nm_sizeOff σ := rfl
theorem px_nm_clothRight_rg_free (σ : SX) (v : Int32) : gx_nm_clothRight (sx_rg_free σ v) = gx_nm_clothRight σ := rfl
theorem px_nm_giggleRight_rg_free (σ : SX) (v : Int32) : gx_nm_giggleRight (sx_rg_free σ v) = gx_nm_giggleRight σ := rfl
theorem px_nm_first_rg_free (σ : SX) (v : Int32) : gx_nm_first (sx_rg_free σ v) = gx_nm_first σ := rfl
theorem px_nm_second_rg_free (σ : SX) (v : Int32) : gx_nm_second (sx_rg_free σ v) = gx_nm_second σ := rfl
theorem px_nm_changed_rg_free (σ : SX) (v : Int32) : gx_nm_changed (sx_rg_free σ v) = gx_nm_changed σ := rfl
theorem px_nm_keptFirst_rg_free (σ : SX) (v : Int32) : gx_nm_keptFirst (sx_rg_free σ v) = gx_nm_keptFirst σ := rfl
theorem px_nm_keptSecond_rg_free (σ : SX) (v : Int32) : gx_nm_keptSecond (sx_rg_free σ v) = gx_nm_keptSecond σ := rfl
theorem px_nm_keptChanged_rg_free (σ : SX) (v : Int32) : gx_nm_keptChanged (sx_rg_free σ v) = gx_nm_keptChanged σ := rfl
theorem px_tp_playing_rg_free (σ : SX) (v : Int32) : gx_tp_playing (sx_rg_free σ v) = gx_tp_playing σ := rfl
theorem px_tp_ringsRead_rg_free (σ : SX) (v : Int32) : gx_tp_ringsRead (sx_rg_free σ v) = gx_tp_ringsRead σ := rfl
theorem px_tp_standsDone_rg_free (σ : SX) (v : Int32) : gx_tp_standsDone (sx_rg_free σ v) = gx_tp_standsDone σ := rfl
theorem px_tp_imageKept_rg_free (σ : SX) (v : Int32) : gx_tp_imageKept (sx_rg_free σ v) = gx_tp_imageKept σ := rfl
theorem px_pok_rg_free (σ : SX) (v : Int32) (a : Nat) : gx_pok (sx_rg_free σ v) a = gx_pok σ a := rfl
theorem px_pg_signs_od_weights (σ : SX) (v : Nat → Int64) : gx_pg_signs (sx_od_weights σ v) = gx_pg_signs σ := rfl
theorem px_pg_length_od_weights (σ : SX) (v : Nat → Int64) : gx_pg_length (sx_od_weights σ v) = gx_pg_length σ := rfl
theorem px_pg_row_od_weights (σ : SX) (v : Nat → Int64) : gx_pg_row (sx_od_weights σ v) = gx_pg_row σ := rfl
theorem px_pg_column_od_weights (σ : SX) (v : Nat → Int64) : gx_pg_column (sx_od_weights σ v) = gx_pg_column σ := rfl
theorem px_pg_width_od_weights (σ : SX) (v : Nat → Int64) : gx_pg_width (sx_od_weights σ v) = gx_pg_width σ := rfl
theorem px_rg_kinds_od_weights (σ : SX) (v : Nat → Int64) : gx_rg_kinds (sx_od_weights σ v) = gx_rg_kinds σ := rfl
theorem px_rg_rows_od_weights (σ : SX) (v : Nat → Int64) : gx_rg_rows (sx_od_weights σ v) = gx_rg_rows σ := rfl
theorem px_rg_columns_od_weights (σ : SX) (v : Nat → Int64) : gx_rg_columns (sx_od_weights σ v) = gx_rg_columns σ := rfl
theorem px_rg_beside_od_weights (σ : SX) (v : Nat → Int64) : gx_rg_beside (sx_od_weights σ v) = gx_rg_beside σ := rfl
theorem px_rg_size_od_weights (σ : SX) (v : Nat → Int64) : gx_rg_size (sx_od_weights σ v) = gx_rg_size σ := rfl
theorem px_rg_free_od_weights (σ : SX) (v : Nat → Int64) : gx_rg_free (sx_od_weights σ v) = gx_rg_free σ := rfl
theorem px_od_weights_od_weights (σ : SX) (v : Nat → Int64) : gx_od_weights (sx_od_weights σ v) = v := rfl
theorem px_od_kept_od_weights (σ : SX) (v : Nat → Int64) : gx_od_kept (sx_od_weights σ v) = gx_od_kept σ := rfl
theorem px_od_outs_od_weights (σ : SX) (v : Nat → Int64) : gx_od_outs (sx_od_weights σ v) = gx_od_outs σ := rfl
theorem px_od_updates_od_weights (σ : SX) (v : Nat → Int64) : gx_od_updates (sx_od_weights σ v) = gx_od_updates σ := rfl
theorem px_od_keptUpdates_od_weights (σ : SX) (v : Nat → Int64) : gx_od_keptUpdates (sx_od_weights σ v) = gx_od_keptUpdates σ := rfl
theorem px_pl_arr_od_weights (σ : SX) (v : Nat → Int64) : gx_pl_arr (sx_od_weights σ v) = gx_pl_arr σ := rfl
theorem px_pl_ex_od_weights (σ : SX) (v : Nat → Int64) : gx_pl_ex (sx_od_weights σ v) = gx_pl_ex σ := rfl
theorem px_pl_kd_od_weights (σ : SX) (v : Nat → Int64) : gx_pl_kd (sx_od_weights σ v) = gx_pl_kd σ := rfl
theorem px_pl_told_od_weights (σ : SX) (v : Nat → Int64) : gx_pl_told (sx_od_weights σ v) = gx_pl_told σ := rfl
theorem px_pl_kept_od_weights (σ : SX) (v : Nat → Int64) : gx_pl_kept (sx_od_weights σ v) = gx_pl_kept σ := rfl
theorem px_pl_at_od_weights (σ : SX) (v : Nat → Int64) : gx_pl_at (sx_od_weights σ v) = gx_pl_at σ := rfl
theorem px_pl_size_od_weights (σ : SX) (v : Nat → Int64) : gx_pl_size (sx_od_weights σ v) = gx_pl_size σ := rfl
theorem px_pl_cloth_od_weights (σ : SX) (v : Nat → Int64) : gx_pl_cloth (sx_od_weights σ v) = gx_pl_cloth σ := rfl
theorem px_pl_giggle_od_weights (σ : SX) (v : Nat → Int64) : gx_pl_giggle (sx_od_weights σ v) = gx_pl_giggle σ := rfl
theorem px_rd_firstCell_od_weights (σ : SX) (v : Nat → Int64) : gx_rd_firstCell (sx_od_weights σ v) = gx_rd_firstCell σ := rfl
theorem px_rd_firstWay_od_weights (σ : SX) (v : Nat → Int64) : gx_rd_firstWay (sx_od_weights σ v) = gx_rd_firstWay σ := rfl
theorem px_rd_drift_od_weights (σ : SX) (v : Nat → Int64) : gx_rd_drift (sx_od_weights σ v) = gx_rd_drift σ := rfl
theorem px_rd_tenths_od_weights (σ : SX) (v : Nat → Int64) : gx_rd_tenths (sx_od_weights σ v) = gx_rd_tenths σ := rfl
theorem px_rd_hisCell_od_weights (σ : SX) (v : Nat → Int64) : gx_rd_hisCell (sx_od_weights σ v) = gx_rd_hisCell σ := rfl
theorem px_rd_hisWay_od_weights (σ : SX) (v : Nat → Int64) : gx_rd_hisWay (sx_od_weights σ v) = gx_rd_hisWay σ := rfl
theorem px_rd_tenth_od_weights (σ : SX) (v : Nat → Int64) : gx_rd_tenth (sx_od_weights σ v) = gx_rd_tenth σ := rfl
theorem px_rd_touched_od_weights (σ : SX) (v : Nat → Int64) : gx_rd_touched (sx_od_weights σ v) = gx_rd_touched σ := rfl
theorem px_rd_seed_od_weights (σ : SX) (v : Nat → Int64) : gx_rd_seed (sx_od_weights σ v) = gx_rd_seed σ := rfl
theorem px_nm_weights_od_weights (σ : SX) (v : Nat → Int64) : gx_nm_weights (sx_od_weights σ v) = gx_nm_weights σ := rfl
theorem px_nm_sizeOff_od_weights (σ : SX) (v : Nat → Int64) : gx_nm_sizeOff (sx_od_weights σ v) = gx_nm_sizeOff σ := rfl
theorem px_nm_clothRight_od_weights (σ : SX) (v : Nat → Int64) : gx_nm_clothRight (sx_od_weights σ v) = gx_nm_clothRight σ := rfl
theorem px_nm_giggleRight_od_weights (σ : SX) (v : Nat → Int64) : gx_nm_giggleRight (sx_od_weights σ v) = gx_nm_giggleRight σ := rfl
theorem px_nm_first_od_weights (σ : SX) (v : Nat → Int64) : gx_nm_first (sx_od_weights σ v) = gx_nm_first σ := rfl
theorem px_nm_second_od_weights (σ : SX) (v : Nat → Int64) : gx_nm_second (sx_od_weights σ v) = gx_nm_second σ := rfl
theorem px_nm_changed_od_weights (σ : SX) (v : Nat → Int64) : gx_nm_changed (sx_od_weights σ v) = gx_nm_changed σ := rfl
theorem px_nm_keptFirst_od_weights (σ : SX) (v : Nat → Int64) : gx_nm_keptFirst (sx_od_weights σ v) = gx_nm_keptFirst σ := rfl
theorem px_nm_keptSecond_od_weights (σ : SX) (v : Nat → Int64) : gx_nm_keptSecond (sx_od_weights σ v) = gx_nm_keptSecond σ := rfl
theorem px_nm_keptChanged_od_weights (σ : SX) (v : Nat → Int64) : gx_nm_keptChanged (sx_od_weights σ v) = gx_nm_keptChanged σ := rfl
theorem px_tp_playing_od_weights (σ : SX) (v : Nat → Int64) : gx_tp_playing (sx_od_weights σ v) = gx_tp_playing σ := rfl
theorem px_tp_ringsRead_od_weights (σ : SX) (v : Nat → Int64) : gx_tp_ringsRead (sx_od_weights σ v) = gx_tp_ringsRead σ := rfl
theorem px_tp_standsDone_od_weights (σ : SX) (v : Nat → Int64) : gx_tp_standsDone (sx_od_weights σ v) = gx_tp_standsDone σ := rfl
theorem px_tp_imageKept_od_weights (σ : SX) (v : Nat → Int64) : gx_tp_imageKept (sx_od_weights σ v) = gx_tp_imageKept σ := rfl
theorem px_pok_od_weights (σ : SX) (v : Nat → Int64) (a : Nat) : gx_pok (sx_od_weights σ v) a = gx_pok σ a := rfl
theorem px_pg_signs_od_kept (σ : SX) (v : Nat → Int64) : gx_pg_signs (sx_od_kept σ v) = gx_pg_signs σ := rfl
theorem px_pg_length_od_kept (σ : SX) (v : Nat → Int64) : gx_pg_length (sx_od_kept σ v) = gx_pg_length σ := rfl
theorem px_pg_row_od_kept (σ : SX) (v : Nat → Int64) : gx_pg_row (sx_od_kept σ v) = gx_pg_row σ := rfl
theorem px_pg_column_od_kept (σ : SX) (v : Nat → Int64) : gx_pg_column (sx_od_kept σ v) = gx_pg_column σ := rfl
theorem px_pg_width_od_kept (σ : SX) (v : Nat → Int64) : gx_pg_width (sx_od_kept σ v) = gx_pg_width σ := rfl
theorem px_rg_kinds_od_kept (σ : SX) (v : Nat → Int64) : gx_rg_kinds (sx_od_kept σ v) = gx_rg_kinds σ := rfl
theorem px_rg_rows_od_kept (σ : SX) (v : Nat → Int64) : gx_rg_rows (sx_od_kept σ v) = gx_rg_rows σ := rfl
theorem px_rg_columns_od_kept (σ : SX) (v : Nat → Int64) : gx_rg_columns (sx_od_kept σ v) = gx_rg_columns σ := rfl
theorem px_rg_beside_od_kept (σ : SX) (v : Nat → Int64) : gx_rg_beside (sx_od_kept σ v) = gx_rg_beside σ := rfl
theorem px_rg_size_od_kept (σ : SX) (v : Nat → Int64) : gx_rg_size (sx_od_kept σ v) = gx_rg_size σ := rfl
theorem px_rg_free_od_kept (σ : SX) (v : Nat → Int64) : gx_rg_free (sx_od_kept σ v) = gx_rg_free σ := rfl
theorem px_od_weights_od_kept (σ : SX) (v : Nat → Int64) : gx_od_weights (sx_od_kept σ v) = gx_od_weights σ := rfl
theorem px_od_kept_od_kept (σ : SX) (v : Nat → Int64) : gx_od_kept (sx_od_kept σ v) = v := rfl
theorem px_od_outs_od_kept (σ : SX) (v : Nat → Int64) : gx_od_outs (sx_od_kept σ v) = gx_od_outs σ := rfl
theorem px_od_updates_od_kept (σ : SX) (v : Nat → Int64) : gx_od_updates (sx_od_kept σ v) = gx_od_updates σ := rfl
theorem px_od_keptUpdates_od_kept (σ : SX) (v : Nat → Int64) : gx_od_keptUpdates (sx_od_kept σ v) = gx_od_keptUpdates σ := rfl
theorem px_pl_arr_od_kept (σ : SX) (v : Nat → Int64) : gx_pl_arr (sx_od_kept σ v) = gx_pl_arr σ := rfl
theorem px_pl_ex_od_kept (σ : SX) (v : Nat → Int64) : gx_pl_ex (sx_od_kept σ v) = gx_pl_ex σ := rfl
theorem px_pl_kd_od_kept (σ : SX) (v : Nat → Int64) : gx_pl_kd (sx_od_kept σ v) = gx_pl_kd σ := rfl
theorem px_pl_told_od_kept (σ : SX) (v : Nat → Int64) : gx_pl_told (sx_od_kept σ v) = gx_pl_told σ := rfl
theorem px_pl_kept_od_kept (σ : SX) (v : Nat → Int64) : gx_pl_kept (sx_od_kept σ v) = gx_pl_kept σ := rfl
theorem px_pl_at_od_kept (σ : SX) (v : Nat → Int64) : gx_pl_at (sx_od_kept σ v) = gx_pl_at σ := rfl
theorem px_pl_size_od_kept (σ : SX) (v : Nat → Int64) : gx_pl_size (sx_od_kept σ v) = gx_pl_size σ := rfl
theorem px_pl_cloth_od_kept (σ : SX) (v : Nat → Int64) : gx_pl_cloth (sx_od_kept σ v) = gx_pl_cloth σ := rfl
theorem px_pl_giggle_od_kept (σ : SX) (v : Nat → Int64) : gx_pl_giggle (sx_od_kept σ v) = gx_pl_giggle σ := rfl
theorem px_rd_firstCell_od_kept (σ : SX) (v : Nat → Int64) : gx_rd_firstCell (sx_od_kept σ v) = gx_rd_firstCell σ := rfl
theorem px_rd_firstWay_od_kept (σ : SX) (v : Nat → Int64) : gx_rd_firstWay (sx_od_kept σ v) = gx_rd_firstWay σ := rfl
theorem px_rd_drift_od_kept (σ : SX) (v : Nat → Int64) : gx_rd_drift (sx_od_kept σ v) = gx_rd_drift σ := rfl
theorem px_rd_tenths_od_kept (σ : SX) (v : Nat → Int64) : gx_rd_tenths (sx_od_kept σ v) = gx_rd_tenths σ := rfl
theorem px_rd_hisCell_od_kept (σ : SX) (v : Nat → Int64) : gx_rd_hisCell (sx_od_kept σ v) = gx_rd_hisCell σ := rfl
theorem px_rd_hisWay_od_kept (σ : SX) (v : Nat → Int64) : gx_rd_hisWay (sx_od_kept σ v) = gx_rd_hisWay σ := rfl
theorem px_rd_tenth_od_kept (σ : SX) (v : Nat → Int64) : gx_rd_tenth (sx_od_kept σ v) = gx_rd_tenth σ := rfl
theorem px_rd_touched_od_kept (σ : SX) (v : Nat → Int64) : gx_rd_touched (sx_od_kept σ v) = gx_rd_touched σ := rfl
theorem px_rd_seed_od_kept (σ : SX) (v : Nat → Int64) : gx_rd_seed (sx_od_kept σ v) = gx_rd_seed σ := rfl
theorem px_nm_weights_od_kept (σ : SX) (v : Nat → Int64) : gx_nm_weights (sx_od_kept σ v) = gx_nm_weights σ := rfl
theorem px_nm_sizeOff_od_kept (σ : SX) (v : Nat → Int64) : gx_nm_sizeOff (sx_od_kept σ v) = gx_nm_sizeOff σ := rfl
theorem px_nm_clothRight_od_kept (σ : SX) (v : Nat → Int64) : gx_nm_clothRight (sx_od_kept σ v) = gx_nm_clothRight σ := rfl
theorem px_nm_giggleRight_od_kept (σ : SX) (v : Nat → Int64) : gx_nm_giggleRight (sx_od_kept σ v) = gx_nm_giggleRight σ := rfl
theorem px_nm_first_od_kept (σ : SX) (v : Nat → Int64) : gx_nm_first (sx_od_kept σ v) = gx_nm_first σ := rfl
theorem px_nm_second_od_kept (σ : SX) (v : Nat → Int64) : gx_nm_second (sx_od_kept σ v) = gx_nm_second σ := rfl
theorem px_nm_changed_od_kept (σ : SX) (v : Nat → Int64) : gx_nm_changed (sx_od_kept σ v) = gx_nm_changed σ := rfl
theorem px_nm_keptFirst_od_kept (σ : SX) (v : Nat → Int64) : gx_nm_keptFirst (sx_od_kept σ v) = gx_nm_keptFirst σ := rfl
theorem px_nm_keptSecond_od_kept (σ : SX) (v : Nat → Int64) : gx_nm_keptSecond (sx_od_kept σ v) = gx_nm_keptSecond σ := rfl
theorem px_nm_keptChanged_od_kept (σ : SX) (v : Nat → Int64) : gx_nm_keptChanged (sx_od_kept σ v) = gx_nm_keptChanged σ := rfl
theorem px_tp_playing_od_kept (σ : SX) (v : Nat → Int64) : gx_tp_playing (sx_od_kept σ v) = gx_tp_playing σ := rfl
theorem px_tp_ringsRead_od_kept (σ : SX) (v : Nat → Int64) : gx_tp_ringsRead (sx_od_kept σ v) = gx_tp_ringsRead σ := rfl
theorem px_tp_standsDone_od_kept (σ : SX) (v : Nat → Int64) : gx_tp_standsDone (sx_od_kept σ v) = gx_tp_standsDone σ := rfl
theorem px_tp_imageKept_od_kept (σ : SX) (v : Nat → Int64) : gx_tp_imageKept (sx_od_kept σ v) = gx_tp_imageKept σ := rfl
theorem px_pok_od_kept (σ : SX) (v : Nat → Int64) (a : Nat) : gx_pok (sx_od_kept σ v) a = gx_pok σ a := rfl
theorem px_pg_signs_od_outs (σ : SX) (v : Nat → Nat → Int64) : gx_pg_signs (sx_od_outs σ v) = gx_pg_signs σ := rfl
theorem px_pg_length_od_outs (σ : SX) (v : Nat → Nat → Int64) : gx_pg_length (sx_od_outs σ v) = gx_pg_length σ := rfl
theorem px_pg_row_od_outs (σ : SX) (v : Nat → Nat → Int64) : gx_pg_row (sx_od_outs σ v) = gx_pg_row σ := rfl
theorem px_pg_column_od_outs (σ : SX) (v : Nat → Nat → Int64) : gx_pg_column (sx_od_outs σ v) = gx_pg_column σ := rfl
theorem px_pg_width_od_outs (σ : SX) (v : Nat → Nat → Int64) : gx_pg_width (sx_od_outs σ v) = gx_pg_width σ := rfl
theorem px_rg_kinds_od_outs (σ : SX) (v : Nat → Nat → Int64) : gx_rg_kinds (sx_od_outs σ v) = gx_rg_kinds σ := rfl
theorem px_rg_rows_od_outs (σ : SX) (v : Nat → Nat → Int64) : gx_rg_rows (sx_od_outs σ v) = gx_rg_rows σ := rfl
theorem px_rg_columns_od_outs (σ : SX) (v : Nat → Nat → Int64) : gx_rg_columns (sx_od_outs σ v) = gx_rg_columns σ := rfl
theorem px_rg_beside_od_outs (σ : SX) (v : Nat → Nat → Int64) : gx_rg_beside (sx_od_outs σ v) = gx_rg_beside σ := rfl
theorem px_rg_size_od_outs (σ : SX) (v : Nat → Nat → Int64) : gx_rg_size (sx_od_outs σ v) = gx_rg_size σ := rfl
theorem px_rg_free_od_outs (σ : SX) (v : Nat → Nat → Int64) : gx_rg_free (sx_od_outs σ v) = gx_rg_free σ := rfl
theorem px_od_weights_od_outs (σ : SX) (v : Nat → Nat → Int64) : gx_od_weights (sx_od_outs σ v) = gx_od_weights σ := rfl
theorem px_od_kept_od_outs (σ : SX) (v : Nat → Nat → Int64) : gx_od_kept (sx_od_outs σ v) = gx_od_kept σ := rfl
theorem px_od_outs_od_outs (σ : SX) (v : Nat → Nat → Int64) : gx_od_outs (sx_od_outs σ v) = v := rfl
theorem px_od_updates_od_outs (σ : SX) (v : Nat → Nat → Int64) : gx_od_updates (sx_od_outs σ v) = gx_od_updates σ := rfl
theorem px_od_keptUpdates_od_outs (σ : SX) (v : Nat → Nat → Int64) : gx_od_keptUpdates (sx_od_outs σ v) = gx_od_keptUpdates σ := rfl
theorem px_pl_arr_od_outs (σ : SX) (v : Nat → Nat → Int64) : gx_pl_arr (sx_od_outs σ v) = gx_pl_arr σ := rfl
theorem px_pl_ex_od_outs (σ : SX) (v : Nat → Nat → Int64) : gx_pl_ex (sx_od_outs σ v) = gx_pl_ex σ := rfl
theorem px_pl_kd_od_outs (σ : SX) (v : Nat → Nat → Int64) : gx_pl_kd (sx_od_outs σ v) = gx_pl_kd σ := rfl
theorem px_pl_told_od_outs (σ : SX) (v : Nat → Nat → Int64) : gx_pl_told (sx_od_outs σ v) = gx_pl_told σ := rfl
theorem px_pl_kept_od_outs (σ : SX) (v : Nat → Nat → Int64) : gx_pl_kept (sx_od_outs σ v) = gx_pl_kept σ := rfl
theorem px_pl_at_od_outs (σ : SX) (v : Nat → Nat → Int64) : gx_pl_at (sx_od_outs σ v) = gx_pl_at σ := rfl
theorem px_pl_size_od_outs (σ : SX) (v : Nat → Nat → Int64) : gx_pl_size (sx_od_outs σ v) = gx_pl_size σ := rfl
theorem px_pl_cloth_od_outs (σ : SX) (v : Nat → Nat → Int64) : gx_pl_cloth (sx_od_outs σ v) = gx_pl_cloth σ := rfl
theorem px_pl_giggle_od_outs (σ : SX) (v : Nat → Nat → Int64) : gx_pl_giggle (sx_od_outs σ v) = gx_pl_giggle σ := rfl
theorem px_rd_firstCell_od_outs (σ : SX) (v : Nat → Nat → Int64) : gx_rd_firstCell (sx_od_outs σ v) = gx_rd_firstCell σ := rfl
theorem px_rd_firstWay_od_outs (σ : SX) (v : Nat → Nat → Int64) : gx_rd_firstWay (sx_od_outs σ v) = gx_rd_firstWay σ := rfl
theorem px_rd_drift_od_outs (σ : SX) (v : Nat → Nat → Int64) : gx_rd_drift (sx_od_outs σ v) = gx_rd_drift σ := rfl
theorem px_rd_tenths_od_outs (σ : SX) (v : Nat → Nat → Int64) : gx_rd_tenths (sx_od_outs σ v) = gx_rd_tenths σ := rfl
theorem px_rd_hisCell_od_outs (σ : SX) (v : Nat → Nat → Int64) : gx_rd_hisCell (sx_od_outs σ v) = gx_rd_hisCell σ := rfl
theorem px_rd_hisWay_od_outs (σ : SX) (v : Nat → Nat → Int64) : gx_rd_hisWay (sx_od_outs σ v) = gx_rd_hisWay σ := rfl
theorem px_rd_tenth_od_outs (σ : SX) (v : Nat → Nat → Int64) : gx_rd_tenth (sx_od_outs σ v) = gx_rd_tenth σ := rfl
theorem px_rd_touched_od_outs (σ : SX) (v : Nat → Nat → Int64) : gx_rd_touched (sx_od_outs σ v) = gx_rd_touched σ := rfl
theorem px_rd_seed_od_outs (σ : SX) (v : Nat → Nat → Int64) : gx_rd_seed (sx_od_outs σ v) = gx_rd_seed σ := rfl
theorem px_nm_weights_od_outs (σ : SX) (v : Nat → Nat → Int64) : gx_nm_weights (sx_od_outs σ v) = gx_nm_weights σ := rfl
theorem px_nm_sizeOff_od_outs (σ : SX) (v : Nat → Nat → Int64) : gx_nm_sizeOff (sx_od_outs σ v) = gx_nm_sizeOff σ := rfl
theorem px_nm_clothRight_od_outs (σ : SX) (v : Nat → Nat → Int64) : gx_nm_clothRight (sx_od_outs σ v) = gx_nm_clothRight σ := rfl
theorem px_nm_giggleRight_od_outs (σ : SX) (v : Nat → Nat → Int64) : gx_nm_giggleRight (sx_od_outs σ v) = gx_nm_giggleRight σ := rfl
theorem px_nm_first_od_outs (σ : SX) (v : Nat → Nat → Int64) : gx_nm_first (sx_od_outs σ v) = gx_nm_first σ := rfl
theorem px_nm_second_od_outs (σ : SX) (v : Nat → Nat → Int64) : gx_nm_second (sx_od_outs σ v) = gx_nm_second σ := rfl
theorem px_nm_changed_od_outs (σ : SX) (v : Nat → Nat → Int64) : gx_nm_changed (sx_od_outs σ v) = gx_nm_changed σ := rfl
theorem px_nm_keptFirst_od_outs (σ : SX) (v : Nat → Nat → Int64) : gx_nm_keptFirst (sx_od_outs σ v) = gx_nm_keptFirst σ := rfl
theorem px_nm_keptSecond_od_outs (σ : SX) (v : Nat → Nat → Int64) : gx_nm_keptSecond (sx_od_outs σ v) = gx_nm_keptSecond σ := rfl
theorem px_nm_keptChanged_od_outs (σ : SX) (v : Nat → Nat → Int64) : gx_nm_keptChanged (sx_od_outs σ v) = gx_nm_keptChanged σ := rfl
theorem px_tp_playing_od_outs (σ : SX) (v : Nat → Nat → Int64) : gx_tp_playing (sx_od_outs σ v) = gx_tp_playing σ := rfl
theorem px_tp_ringsRead_od_outs (σ : SX) (v : Nat → Nat → Int64) : gx_tp_ringsRead (sx_od_outs σ v) = gx_tp_ringsRead σ := rfl
theorem px_tp_standsDone_od_outs (σ : SX) (v : Nat → Nat → Int64) : gx_tp_standsDone (sx_od_outs σ v) = gx_tp_standsDone σ := rfl
theorem px_tp_imageKept_od_outs (σ : SX) (v : Nat → Nat → Int64) : gx_tp_imageKept (sx_od_outs σ v) = gx_tp_imageKept σ := rfl
theorem px_pok_od_outs (σ : SX) (v : Nat → Nat → Int64) (a : Nat) : gx_pok (sx_od_outs σ v) a = gx_pok σ a := rfl
theorem px_pg_signs_od_updates (σ : SX) (v : Int32) : gx_pg_signs (sx_od_updates σ v) = gx_pg_signs σ := rfl
theorem px_pg_length_od_updates (σ : SX) (v : Int32) : gx_pg_length (sx_od_updates σ v) = gx_pg_length σ := rfl
theorem px_pg_row_od_updates (σ : SX) (v : Int32) : gx_pg_row (sx_od_updates σ v) = gx_pg_row σ := rfl
theorem px_pg_column_od_updates (σ : SX) (v : Int32) : gx_pg_column (sx_od_updates σ v) = gx_pg_column σ := rfl
theorem px_pg_width_od_updates (σ : SX) (v : Int32) : gx_pg_width (sx_od_updates σ v) = gx_pg_width σ := rfl
theorem px_rg_kinds_od_updates (σ : SX) (v : Int32) : gx_rg_kinds (sx_od_updates σ v) = gx_rg_kinds σ := rfl
theorem px_rg_rows_od_updates (σ : SX) (v : Int32) : gx_rg_rows (sx_od_updates σ v) = gx_rg_rows σ := rfl
theorem px_rg_columns_od_updates (σ : SX) (v : Int32) : gx_rg_columns (sx_od_updates σ v) = gx_rg_columns σ := rfl
theorem px_rg_beside_od_updates (σ : SX) (v : Int32) : gx_rg_beside (sx_od_updates σ v) = gx_rg_beside σ := rfl
theorem px_rg_size_od_updates (σ : SX) (v : Int32) : gx_rg_size (sx_od_updates σ v) = gx_rg_size σ := rfl
theorem px_rg_free_od_updates (σ : SX) (v : Int32) : gx_rg_free (sx_od_updates σ v) = gx_rg_free σ := rfl
theorem px_od_weights_od_updates (σ : SX) (v : Int32) : gx_od_weights (sx_od_updates σ v) = gx_od_weights σ := rfl
theorem px_od_kept_od_updates (σ : SX) (v : Int32) : gx_od_kept (sx_od_updates σ v) = gx_od_kept σ := rfl
theorem px_od_outs_od_updates (σ : SX) (v : Int32) : gx_od_outs (sx_od_updates σ v) = gx_od_outs σ := rfl
theorem px_od_updates_od_updates (σ : SX) (v : Int32) : gx_od_updates (sx_od_updates σ v) = v := rfl
theorem px_od_keptUpdates_od_updates (σ : SX) (v : Int32) : gx_od_keptUpdates (sx_od_updates σ v) = gx_od_keptUpdates σ := rfl
theorem px_pl_arr_od_updates (σ : SX) (v : Int32) : gx_pl_arr (sx_od_updates σ v) = gx_pl_arr σ := rfl
theorem px_pl_ex_od_updates (σ : SX) (v : Int32) : gx_pl_ex (sx_od_updates σ v) = gx_pl_ex σ := rfl
theorem px_pl_kd_od_updates (σ : SX) (v : Int32) : gx_pl_kd (sx_od_updates σ v) = gx_pl_kd σ := rfl
theorem px_pl_told_od_updates (σ : SX) (v : Int32) : gx_pl_told (sx_od_updates σ v) = gx_pl_told σ := rfl
theorem px_pl_kept_od_updates (σ : SX) (v : Int32) : gx_pl_kept (sx_od_updates σ v) = gx_pl_kept σ := rfl
theorem px_pl_at_od_updates (σ : SX) (v : Int32) : gx_pl_at (sx_od_updates σ v) = gx_pl_at σ := rfl
theorem px_pl_size_od_updates (σ : SX) (v : Int32) : gx_pl_size (sx_od_updates σ v) = gx_pl_size σ := rfl
theorem px_pl_cloth_od_updates (σ : SX) (v : Int32) : gx_pl_cloth (sx_od_updates σ v) = gx_pl_cloth σ := rfl
theorem px_pl_giggle_od_updates (σ : SX) (v : Int32) : gx_pl_giggle (sx_od_updates σ v) = gx_pl_giggle σ := rfl
theorem px_rd_firstCell_od_updates (σ : SX) (v : Int32) : gx_rd_firstCell (sx_od_updates σ v) = gx_rd_firstCell σ := rfl
theorem px_rd_firstWay_od_updates (σ : SX) (v : Int32) : gx_rd_firstWay (sx_od_updates σ v) = gx_rd_firstWay σ := rfl
theorem px_rd_drift_od_updates (σ : SX) (v : Int32) : gx_rd_drift (sx_od_updates σ v) = gx_rd_drift σ := rfl
theorem px_rd_tenths_od_updates (σ : SX) (v : Int32) : gx_rd_tenths (sx_od_updates σ v) = gx_rd_tenths σ := rfl
theorem px_rd_hisCell_od_updates (σ : SX) (v : Int32) : gx_rd_hisCell (sx_od_updates σ v) = gx_rd_hisCell σ := rfl
theorem px_rd_hisWay_od_updates (σ : SX) (v : Int32) : gx_rd_hisWay (sx_od_updates σ v) = gx_rd_hisWay σ := rfl
theorem px_rd_tenth_od_updates (σ : SX) (v : Int32) : gx_rd_tenth (sx_od_updates σ v) = gx_rd_tenth σ := rfl
theorem px_rd_touched_od_updates (σ : SX) (v : Int32) : gx_rd_touched (sx_od_updates σ v) = gx_rd_touched σ := rfl
theorem px_rd_seed_od_updates (σ : SX) (v : Int32) : gx_rd_seed (sx_od_updates σ v) = gx_rd_seed σ := rfl
theorem px_nm_weights_od_updates (σ : SX) (v : Int32) : gx_nm_weights (sx_od_updates σ v) = gx_nm_weights σ := rfl
theorem px_nm_sizeOff_od_updates (σ : SX) (v : Int32) : gx_nm_sizeOff (sx_od_updates σ v) = gx_nm_sizeOff σ := rfl
theorem px_nm_clothRight_od_updates (σ : SX) (v : Int32) : gx_nm_clothRight (sx_od_updates σ v) = gx_nm_clothRight σ := rfl
theorem px_nm_giggleRight_od_updates (σ : SX) (v : Int32) : gx_nm_giggleRight (sx_od_updates σ v) = gx_nm_giggleRight σ := rfl
theorem px_nm_first_od_updates (σ : SX) (v : Int32) : gx_nm_first (sx_od_updates σ v) = gx_nm_first σ := rfl
theorem px_nm_second_od_updates (σ : SX) (v : Int32) : gx_nm_second (sx_od_updates σ v) = gx_nm_second σ := rfl
theorem px_nm_changed_od_updates (σ : SX) (v : Int32) : gx_nm_changed (sx_od_updates σ v) = gx_nm_changed σ := rfl
theorem px_nm_keptFirst_od_updates (σ : SX) (v : Int32) : gx_nm_keptFirst (sx_od_updates σ v) = gx_nm_keptFirst σ := rfl
theorem px_nm_keptSecond_od_updates (σ : SX) (v : Int32) : gx_nm_keptSecond (sx_od_updates σ v) = gx_nm_keptSecond σ := rfl
theorem px_nm_keptChanged_od_updates (σ : SX) (v : Int32) : gx_nm_keptChanged (sx_od_updates σ v) = gx_nm_keptChanged σ := rfl
theorem px_tp_playing_od_updates (σ : SX) (v : Int32) : gx_tp_playing (sx_od_updates σ v) = gx_tp_playing σ := rfl
theorem px_tp_ringsRead_od_updates (σ : SX) (v : Int32) : gx_tp_ringsRead (sx_od_updates σ v) = gx_tp_ringsRead σ := rfl
theorem px_tp_standsDone_od_updates (σ : SX) (v : Int32) : gx_tp_standsDone (sx_od_updates σ v) = gx_tp_standsDone σ := rfl
theorem px_tp_imageKept_od_updates (σ : SX) (v : Int32) : gx_tp_imageKept (sx_od_updates σ v) = gx_tp_imageKept σ := rfl
theorem px_pok_od_updates (σ : SX) (v : Int32) (a : Nat) : gx_pok (sx_od_updates σ v) a = gx_pok σ a := rfl
theorem px_pg_signs_od_keptUpdates (σ : SX) (v : Int32) : gx_pg_signs (sx_od_keptUpdates σ v) = gx_pg_signs σ := rfl
theorem px_pg_length_od_keptUpdates (σ : SX) (v : Int32) : gx_pg_length (sx_od_keptUpdates σ v) = gx_pg_length σ := rfl
theorem px_pg_row_od_keptUpdates (σ : SX) (v : Int32) : gx_pg_row (sx_od_keptUpdates σ v) = gx_pg_row σ := rfl
theorem px_pg_column_od_keptUpdates (σ : SX) (v : Int32) : gx_pg_column (sx_od_keptUpdates σ v) = gx_pg_column σ := rfl
theorem px_pg_width_od_keptUpdates (σ : SX) (v : Int32) : gx_pg_width (sx_od_keptUpdates σ v) = gx_pg_width σ := rfl
theorem px_rg_kinds_od_keptUpdates (σ : SX) (v : Int32) : gx_rg_kinds (sx_od_keptUpdates σ v) = gx_rg_kinds σ := rfl
theorem px_rg_rows_od_keptUpdates (σ : SX) (v : Int32) : gx_rg_rows (sx_od_keptUpdates σ v) = gx_rg_rows σ := rfl
theorem px_rg_columns_od_keptUpdates (σ : SX) (v : Int32) : gx_rg_columns (sx_od_keptUpdates σ v) = gx_rg_columns σ := rfl
theorem px_rg_beside_od_keptUpdates (σ : SX) (v : Int32) : gx_rg_beside (sx_od_keptUpdates σ v) = gx_rg_beside σ := rfl
theorem px_rg_size_od_keptUpdates (σ : SX) (v : Int32) : gx_rg_size (sx_od_keptUpdates σ v) = gx_rg_size σ := rfl
theorem px_rg_free_od_keptUpdates (σ : SX) (v : Int32) : gx_rg_free (sx_od_keptUpdates σ v) = gx_rg_free σ := rfl
theorem px_od_weights_od_keptUpdates (σ : SX) (v : Int32) : gx_od_weights (sx_od_keptUpdates σ v) = gx_od_weights σ := rfl
theorem px_od_kept_od_keptUpdates (σ : SX) (v : Int32) : gx_od_kept (sx_od_keptUpdates σ v) = gx_od_kept σ := rfl
theorem px_od_outs_od_keptUpdates (σ : SX) (v : Int32) : gx_od_outs (sx_od_keptUpdates σ v) = gx_od_outs σ := rfl
theorem px_od_updates_od_keptUpdates (σ : SX) (v : Int32) : gx_od_updates (sx_od_keptUpdates σ v) = gx_od_updates σ := rfl
theorem px_od_keptUpdates_od_keptUpdates (σ : SX) (v : Int32) : gx_od_keptUpdates (sx_od_keptUpdates σ v) = v := rfl
theorem px_pl_arr_od_keptUpdates (σ : SX) (v : Int32) : gx_pl_arr (sx_od_keptUpdates σ v) = gx_pl_arr σ := rfl
theorem px_pl_ex_od_keptUpdates (σ : SX) (v : Int32) : gx_pl_ex (sx_od_keptUpdates σ v) = gx_pl_ex σ := rfl
theorem px_pl_kd_od_keptUpdates (σ : SX) (v : Int32) : gx_pl_kd (sx_od_keptUpdates σ v) = gx_pl_kd σ := rfl
theorem px_pl_told_od_keptUpdates (σ : SX) (v : Int32) : gx_pl_told (sx_od_keptUpdates σ v) = gx_pl_told σ := rfl
theorem px_pl_kept_od_keptUpdates (σ : SX) (v : Int32) : gx_pl_kept (sx_od_keptUpdates σ v) = gx_pl_kept σ := rfl
theorem px_pl_at_od_keptUpdates (σ : SX) (v : Int32) : gx_pl_at (sx_od_keptUpdates σ v) = gx_pl_at σ := rfl
theorem px_pl_size_od_keptUpdates (σ : SX) (v : Int32) : gx_pl_size (sx_od_keptUpdates σ v) = gx_pl_size σ := rfl
theorem px_pl_cloth_od_keptUpdates (σ : SX) (v : Int32) : gx_pl_cloth (sx_od_keptUpdates σ v) = gx_pl_cloth σ := rfl
theorem px_pl_giggle_od_keptUpdates (σ : SX) (v : Int32) : gx_pl_giggle (sx_od_keptUpdates σ v) = gx_pl_giggle σ := rfl
theorem px_rd_firstCell_od_keptUpdates (σ : SX) (v : Int32) : gx_rd_firstCell (sx_od_keptUpdates σ v) = gx_rd_firstCell σ := rfl
theorem px_rd_firstWay_od_keptUpdates (σ : SX) (v : Int32) : gx_rd_firstWay (sx_od_keptUpdates σ v) = gx_rd_firstWay σ := rfl
theorem px_rd_drift_od_keptUpdates (σ : SX) (v : Int32) : gx_rd_drift (sx_od_keptUpdates σ v) = gx_rd_drift σ := rfl
theorem px_rd_tenths_od_keptUpdates (σ : SX) (v : Int32) : gx_rd_tenths (sx_od_keptUpdates σ v) = gx_rd_tenths σ := rfl
theorem px_rd_hisCell_od_keptUpdates (σ : SX) (v : Int32) : gx_rd_hisCell (sx_od_keptUpdates σ v) = gx_rd_hisCell σ := rfl
theorem px_rd_hisWay_od_keptUpdates (σ : SX) (v : Int32) : gx_rd_hisWay (sx_od_keptUpdates σ v) = gx_rd_hisWay σ := rfl
theorem px_rd_tenth_od_keptUpdates (σ : SX) (v : Int32) : gx_rd_tenth (sx_od_keptUpdates σ v) = gx_rd_tenth σ := rfl
theorem px_rd_touched_od_keptUpdates (σ : SX) (v : Int32) : gx_rd_touched (sx_od_keptUpdates σ v) = gx_rd_touched σ := rfl
theorem px_rd_seed_od_keptUpdates (σ : SX) (v : Int32) : gx_rd_seed (sx_od_keptUpdates σ v) = gx_rd_seed σ := rfl
theorem px_nm_weights_od_keptUpdates (σ : SX) (v : Int32) : gx_nm_weights (sx_od_keptUpdates σ v) = gx_nm_weights σ := rfl
theorem px_nm_sizeOff_od_keptUpdates (σ : SX) (v : Int32) : gx_nm_sizeOff (sx_od_keptUpdates σ v) = gx_nm_sizeOff σ := rfl
theorem px_nm_clothRight_od_keptUpdates (σ : SX) (v : Int32) : gx_nm_clothRight (sx_od_keptUpdates σ v) = gx_nm_clothRight σ := rfl
theorem px_nm_giggleRight_od_keptUpdates (σ : SX) (v : Int32) : gx_nm_giggleRight (sx_od_keptUpdates σ v) = gx_nm_giggleRight σ := rfl
theorem px_nm_first_od_keptUpdates (σ : SX) (v : Int32) : gx_nm_first (sx_od_keptUpdates σ v) = gx_nm_first σ := rfl
theorem px_nm_second_od_keptUpdates (σ : SX) (v : Int32) : gx_nm_second (sx_od_keptUpdates σ v) = gx_nm_second σ := rfl
theorem px_nm_changed_od_keptUpdates (σ : SX) (v : Int32) : gx_nm_changed (sx_od_keptUpdates σ v) = gx_nm_changed σ := rfl
theorem px_nm_keptFirst_od_keptUpdates (σ : SX) (v : Int32) : gx_nm_keptFirst (sx_od_keptUpdates σ v) = gx_nm_keptFirst σ := rfl
theorem px_nm_keptSecond_od_keptUpdates (σ : SX) (v : Int32) : gx_nm_keptSecond (sx_od_keptUpdates σ v) = gx_nm_keptSecond σ := rfl
theorem px_nm_keptChanged_od_keptUpdates (σ : SX) (v : Int32) : gx_nm_keptChanged (sx_od_keptUpdates σ v) = gx_nm_keptChanged σ := rfl
theorem px_tp_playing_od_keptUpdates (σ : SX) (v : Int32) : gx_tp_playing (sx_od_keptUpdates σ v) = gx_tp_playing σ := rfl
theorem px_tp_ringsRead_od_keptUpdates (σ : SX) (v : Int32) : gx_tp_ringsRead (sx_od_keptUpdates σ v) = gx_tp_ringsRead σ := rfl
theorem px_tp_standsDone_od_keptUpdates (σ : SX) (v : Int32) : gx_tp_standsDone (sx_od_keptUpdates σ v) = gx_tp_standsDone σ := rfl
theorem px_tp_imageKept_od_keptUpdates (σ : SX) (v : Int32) : gx_tp_imageKept (sx_od_keptUpdates σ v) = gx_tp_imageKept σ := rfl
theorem px_pok_od_keptUpdates (σ : SX) (v : Int32) (a : Nat) : gx_pok (sx_od_keptUpdates σ v) a = gx_pok σ a := rfl
theorem px_pg_signs_pl_arr (σ : SX) (v : Nat → Option Nat) : gx_pg_signs (sx_pl_arr σ v) = gx_pg_signs σ := rfl
theorem px_pg_length_pl_arr (σ : SX) (v : Nat → Option Nat) : gx_pg_length (sx_pl_arr σ v) = gx_pg_length σ := rfl
theorem px_pg_row_pl_arr (σ : SX) (v : Nat → Option Nat) : gx_pg_row (sx_pl_arr σ v) = gx_pg_row σ := rfl
theorem px_pg_column_pl_arr (σ : SX) (v : Nat → Option Nat) : gx_pg_column (sx_pl_arr σ v) = gx_pg_column σ := rfl
theorem px_pg_width_pl_arr (σ : SX) (v : Nat → Option Nat) : gx_pg_width (sx_pl_arr σ v) = gx_pg_width σ := rfl
theorem px_rg_kinds_pl_arr (σ : SX) (v : Nat → Option Nat) : gx_rg_kinds (sx_pl_arr σ v) = gx_rg_kinds σ := rfl
theorem px_rg_rows_pl_arr (σ : SX) (v : Nat → Option Nat) : gx_rg_rows (sx_pl_arr σ v) = gx_rg_rows σ := rfl
theorem px_rg_columns_pl_arr (σ : SX) (v : Nat → Option Nat) : gx_rg_columns (sx_pl_arr σ v) = gx_rg_columns σ := rfl
theorem px_rg_beside_pl_arr (σ : SX) (v : Nat → Option Nat) : gx_rg_beside (sx_pl_arr σ v) = gx_rg_beside σ := rfl
theorem px_rg_size_pl_arr (σ : SX) (v : Nat → Option Nat) : gx_rg_size (sx_pl_arr σ v) = gx_rg_size σ := rfl
theorem px_rg_free_pl_arr (σ : SX) (v : Nat → Option Nat) : gx_rg_free (sx_pl_arr σ v) = gx_rg_free σ := rfl
theorem px_od_weights_pl_arr (σ : SX) (v : Nat → Option Nat) : gx_od_weights (sx_pl_arr σ v) = gx_od_weights σ := rfl
theorem px_od_kept_pl_arr (σ : SX) (v : Nat → Option Nat) : gx_od_kept (sx_pl_arr σ v) = gx_od_kept σ := rfl
theorem px_od_outs_pl_arr (σ : SX) (v : Nat → Option Nat) : gx_od_outs (sx_pl_arr σ v) = gx_od_outs σ := rfl
theorem px_od_updates_pl_arr (σ : SX) (v : Nat → Option Nat) : gx_od_updates (sx_pl_arr σ v) = gx_od_updates σ := rfl
theorem px_od_keptUpdates_pl_arr (σ : SX) (v : Nat → Option Nat) : gx_od_keptUpdates (sx_pl_arr σ v) = gx_od_keptUpdates σ := rfl
theorem px_pl_arr_pl_arr (σ : SX) (v : Nat → Option Nat) : gx_pl_arr (sx_pl_arr σ v) = v := rfl
theorem px_pl_ex_pl_arr (σ : SX) (v : Nat → Option Nat) : gx_pl_ex (sx_pl_arr σ v) = gx_pl_ex σ := rfl
theorem px_pl_kd_pl_arr (σ : SX) (v : Nat → Option Nat) : gx_pl_kd (sx_pl_arr σ v) = gx_pl_kd σ := rfl
theorem px_pl_told_pl_arr (σ : SX) (v : Nat → Option Nat) : gx_pl_told (sx_pl_arr σ v) = gx_pl_told σ := rfl
theorem px_pl_kept_pl_arr (σ : SX) (v : Nat → Option Nat) : gx_pl_kept (sx_pl_arr σ v) = gx_pl_kept σ := rfl
theorem px_pl_at_pl_arr (σ : SX) (v : Nat → Option Nat) : gx_pl_at (sx_pl_arr σ v) = gx_pl_at σ := rfl
theorem px_pl_size_pl_arr (σ : SX) (v : Nat → Option Nat) : gx_pl_size (sx_pl_arr σ v) = gx_pl_size σ := rfl
theorem px_pl_cloth_pl_arr (σ : SX) (v : Nat → Option Nat) : gx_pl_cloth (sx_pl_arr σ v) = gx_pl_cloth σ := rfl
theorem px_pl_giggle_pl_arr (σ : SX) (v : Nat → Option Nat) : gx_pl_giggle (sx_pl_arr σ v) = gx_pl_giggle σ := rfl
theorem px_rd_firstCell_pl_arr (σ : SX) (v : Nat → Option Nat) : gx_rd_firstCell (sx_pl_arr σ v) = gx_rd_firstCell σ := rfl
theorem px_rd_firstWay_pl_arr (σ : SX) (v : Nat → Option Nat) : gx_rd_firstWay (sx_pl_arr σ v) = gx_rd_firstWay σ := rfl
theorem px_rd_drift_pl_arr (σ : SX) (v : Nat → Option Nat) : gx_rd_drift (sx_pl_arr σ v) = gx_rd_drift σ := rfl
theorem px_rd_tenths_pl_arr (σ : SX) (v : Nat → Option Nat) : gx_rd_tenths (sx_pl_arr σ v) = gx_rd_tenths σ := rfl
theorem px_rd_hisCell_pl_arr (σ : SX) (v : Nat → Option Nat) : gx_rd_hisCell (sx_pl_arr σ v) = gx_rd_hisCell σ := rfl
theorem px_rd_hisWay_pl_arr (σ : SX) (v : Nat → Option Nat) : gx_rd_hisWay (sx_pl_arr σ v) = gx_rd_hisWay σ := rfl
theorem px_rd_tenth_pl_arr (σ : SX) (v : Nat → Option Nat) : gx_rd_tenth (sx_pl_arr σ v) = gx_rd_tenth σ := rfl
theorem px_rd_touched_pl_arr (σ : SX) (v : Nat → Option Nat) : gx_rd_touched (sx_pl_arr σ v) = gx_rd_touched σ := rfl
theorem px_rd_seed_pl_arr (σ : SX) (v : Nat → Option Nat) : gx_rd_seed (sx_pl_arr σ v) = gx_rd_seed σ := rfl
theorem px_nm_weights_pl_arr (σ : SX) (v : Nat → Option Nat) : gx_nm_weights (sx_pl_arr σ v) = gx_nm_weights σ := rfl
theorem px_nm_sizeOff_pl_arr (σ : SX) (v : Nat → Option Nat) : gx_nm_sizeOff (sx_pl_arr σ v) = gx_nm_sizeOff σ := rfl
theorem px_nm_clothRight_pl_arr (σ : SX) (v : Nat → Option Nat) : gx_nm_clothRight (sx_pl_arr σ v) = gx_nm_clothRight σ := rfl
theorem px_nm_giggleRight_pl_arr (σ : SX) (v : Nat → Option Nat) : gx_nm_giggleRight (sx_pl_arr σ v) = gx_nm_giggleRight σ := rfl
theorem px_nm_first_pl_arr (σ : SX) (v : Nat → Option Nat) : gx_nm_first (sx_pl_arr σ v) = gx_nm_first σ := rfl
theorem px_nm_second_pl_arr (σ : SX) (v : Nat → Option Nat) : gx_nm_second (sx_pl_arr σ v) = gx_nm_second σ := rfl
theorem px_nm_changed_pl_arr (σ : SX) (v : Nat → Option Nat) : gx_nm_changed (sx_pl_arr σ v) = gx_nm_changed σ := rfl
theorem px_nm_keptFirst_pl_arr (σ : SX) (v : Nat → Option Nat) : gx_nm_keptFirst (sx_pl_arr σ v) = gx_nm_keptFirst σ := rfl
theorem px_nm_keptSecond_pl_arr (σ : SX) (v : Nat → Option Nat) : gx_nm_keptSecond (sx_pl_arr σ v) = gx_nm_keptSecond σ := rfl
theorem px_nm_keptChanged_pl_arr (σ : SX) (v : Nat → Option Nat) : gx_nm_keptChanged (sx_pl_arr σ v) = gx_nm_keptChanged σ := rfl
theorem px_tp_playing_pl_arr (σ : SX) (v : Nat → Option Nat) : gx_tp_playing (sx_pl_arr σ v) = gx_tp_playing σ := rfl
theorem px_tp_ringsRead_pl_arr (σ : SX) (v : Nat → Option Nat) : gx_tp_ringsRead (sx_pl_arr σ v) = gx_tp_ringsRead σ := rfl
theorem px_tp_standsDone_pl_arr (σ : SX) (v : Nat → Option Nat) : gx_tp_standsDone (sx_pl_arr σ v) = gx_tp_standsDone σ := rfl
theorem px_tp_imageKept_pl_arr (σ : SX) (v : Nat → Option Nat) : gx_tp_imageKept (sx_pl_arr σ v) = gx_tp_imageKept σ := rfl
theorem px_pok_pl_arr (σ : SX) (v : Nat → Option Nat) (a : Nat) : gx_pok (sx_pl_arr σ v) a = gx_pok σ a := rfl
theorem px_pg_signs_pl_ex (σ : SX) (v : Nat → Bool) : gx_pg_signs (sx_pl_ex σ v) = gx_pg_signs σ := rfl
theorem px_pg_length_pl_ex (σ : SX) (v : Nat → Bool) : gx_pg_length (sx_pl_ex σ v) = gx_pg_length σ := rfl
theorem px_pg_row_pl_ex (σ : SX) (v : Nat → Bool) : gx_pg_row (sx_pl_ex σ v) = gx_pg_row σ := rfl
theorem px_pg_column_pl_ex (σ : SX) (v : Nat → Bool) : gx_pg_column (sx_pl_ex σ v) = gx_pg_column σ := rfl
theorem px_pg_width_pl_ex (σ : SX) (v : Nat → Bool) : gx_pg_width (sx_pl_ex σ v) = gx_pg_width σ := rfl
theorem px_rg_kinds_pl_ex (σ : SX) (v : Nat → Bool) : gx_rg_kinds (sx_pl_ex σ v) = gx_rg_kinds σ := rfl
theorem px_rg_rows_pl_ex (σ : SX) (v : Nat → Bool) : gx_rg_rows (sx_pl_ex σ v) = gx_rg_rows σ := rfl
theorem px_rg_columns_pl_ex (σ : SX) (v : Nat → Bool) : gx_rg_columns (sx_pl_ex σ v) = gx_rg_columns σ := rfl
theorem px_rg_beside_pl_ex (σ : SX) (v : Nat → Bool) : gx_rg_beside (sx_pl_ex σ v) = gx_rg_beside σ := rfl
theorem px_rg_size_pl_ex (σ : SX) (v : Nat → Bool) : gx_rg_size (sx_pl_ex σ v) = gx_rg_size σ := rfl
theorem px_rg_free_pl_ex (σ : SX) (v : Nat → Bool) : gx_rg_free (sx_pl_ex σ v) = gx_rg_free σ := rfl
theorem px_od_weights_pl_ex (σ : SX) (v : Nat → Bool) : gx_od_weights (sx_pl_ex σ v) = gx_od_weights σ := rfl
theorem px_od_kept_pl_ex (σ : SX) (v : Nat → Bool) : gx_od_kept (sx_pl_ex σ v) = gx_od_kept σ := rfl
theorem px_od_outs_pl_ex (σ : SX) (v : Nat → Bool) : gx_od_outs (sx_pl_ex σ v) = gx_od_outs σ := rfl
theorem px_od_updates_pl_ex (σ : SX) (v : Nat → Bool) : gx_od_updates (sx_pl_ex σ v) = gx_od_updates σ := rfl
theorem px_od_keptUpdates_pl_ex (σ : SX) (v : Nat → Bool) : gx_od_keptUpdates (sx_pl_ex σ v) = gx_od_keptUpdates σ := rfl
theorem px_pl_arr_pl_ex (σ : SX) (v : Nat → Bool) : gx_pl_arr (sx_pl_ex σ v) = gx_pl_arr σ := rfl
theorem px_pl_ex_pl_ex (σ : SX) (v : Nat → Bool) : gx_pl_ex (sx_pl_ex σ v) = v := rfl
theorem px_pl_kd_pl_ex (σ : SX) (v : Nat → Bool) : gx_pl_kd (sx_pl_ex σ v) = gx_pl_kd σ := rfl
theorem px_pl_told_pl_ex (σ : SX) (v : Nat → Bool) : gx_pl_told (sx_pl_ex σ v) = gx_pl_told σ := rfl
theorem px_pl_kept_pl_ex (σ : SX) (v : Nat → Bool) : gx_pl_kept (sx_pl_ex σ v) = gx_pl_kept σ := rfl
theorem px_pl_at_pl_ex (σ : SX) (v : Nat → Bool) : gx_pl_at (sx_pl_ex σ v) = gx_pl_at σ := rfl
theorem px_pl_size_pl_ex (σ : SX) (v : Nat → Bool) : gx_pl_size (sx_pl_ex σ v) = gx_pl_size σ := rfl
theorem px_pl_cloth_pl_ex (σ : SX) (v : Nat → Bool) : gx_pl_cloth (sx_pl_ex σ v) = gx_pl_cloth σ := rfl
theorem px_pl_giggle_pl_ex (σ : SX) (v : Nat → Bool) : gx_pl_giggle (sx_pl_ex σ v) = gx_pl_giggle σ := rfl
theorem px_rd_firstCell_pl_ex (σ : SX) (v : Nat → Bool) : gx_rd_firstCell (sx_pl_ex σ v) = gx_rd_firstCell σ := rfl
theorem px_rd_firstWay_pl_ex (σ : SX) (v : Nat → Bool) : gx_rd_firstWay (sx_pl_ex σ v) = gx_rd_firstWay σ := rfl
theorem px_rd_drift_pl_ex (σ : SX) (v : Nat → Bool) : gx_rd_drift (sx_pl_ex σ v) = gx_rd_drift σ := rfl
theorem px_rd_tenths_pl_ex (σ : SX) (v : Nat → Bool) : gx_rd_tenths (sx_pl_ex σ v) = gx_rd_tenths σ := rfl
theorem px_rd_hisCell_pl_ex (σ : SX) (v : Nat → Bool) : gx_rd_hisCell (sx_pl_ex σ v) = gx_rd_hisCell σ := rfl
theorem px_rd_hisWay_pl_ex (σ : SX) (v : Nat → Bool) : gx_rd_hisWay (sx_pl_ex σ v) = gx_rd_hisWay σ := rfl
theorem px_rd_tenth_pl_ex (σ : SX) (v : Nat → Bool) : gx_rd_tenth (sx_pl_ex σ v) = gx_rd_tenth σ := rfl
theorem px_rd_touched_pl_ex (σ : SX) (v : Nat → Bool) : gx_rd_touched (sx_pl_ex σ v) = gx_rd_touched σ := rfl
theorem px_rd_seed_pl_ex (σ : SX) (v : Nat → Bool) : gx_rd_seed (sx_pl_ex σ v) = gx_rd_seed σ := rfl
theorem px_nm_weights_pl_ex (σ : SX) (v : Nat → Bool) : gx_nm_weights (sx_pl_ex σ v) = gx_nm_weights σ := rfl
theorem px_nm_sizeOff_pl_ex (σ : SX) (v : Nat → Bool) : gx_nm_sizeOff (sx_pl_ex σ v) = gx_nm_sizeOff σ := rfl
theorem px_nm_clothRight_pl_ex (σ : SX) (v : Nat → Bool) : gx_nm_clothRight (sx_pl_ex σ v) = gx_nm_clothRight σ := rfl
theorem px_nm_giggleRight_pl_ex (σ : SX) (v : Nat → Bool) : gx_nm_giggleRight (sx_pl_ex σ v) = gx_nm_giggleRight σ := rfl
theorem px_nm_first_pl_ex (σ : SX) (v : Nat → Bool) : gx_nm_first (sx_pl_ex σ v) = gx_nm_first σ := rfl
theorem px_nm_second_pl_ex (σ : SX) (v : Nat → Bool) : gx_nm_second (sx_pl_ex σ v) = gx_nm_second σ := rfl
theorem px_nm_changed_pl_ex (σ : SX) (v : Nat → Bool) : gx_nm_changed (sx_pl_ex σ v) = gx_nm_changed σ := rfl
theorem px_nm_keptFirst_pl_ex (σ : SX) (v : Nat → Bool) : gx_nm_keptFirst (sx_pl_ex σ v) = gx_nm_keptFirst σ := rfl
theorem px_nm_keptSecond_pl_ex (σ : SX) (v : Nat → Bool) : gx_nm_keptSecond (sx_pl_ex σ v) = gx_nm_keptSecond σ := rfl
theorem px_nm_keptChanged_pl_ex (σ : SX) (v : Nat → Bool) : gx_nm_keptChanged (sx_pl_ex σ v) = gx_nm_keptChanged σ := rfl
theorem px_tp_playing_pl_ex (σ : SX) (v : Nat → Bool) : gx_tp_playing (sx_pl_ex σ v) = gx_tp_playing σ := rfl
theorem px_tp_ringsRead_pl_ex (σ : SX) (v : Nat → Bool) : gx_tp_ringsRead (sx_pl_ex σ v) = gx_tp_ringsRead σ := rfl
theorem px_tp_standsDone_pl_ex (σ : SX) (v : Nat → Bool) : gx_tp_standsDone (sx_pl_ex σ v) = gx_tp_standsDone σ := rfl
theorem px_tp_imageKept_pl_ex (σ : SX) (v : Nat → Bool) : gx_tp_imageKept (sx_pl_ex σ v) = gx_tp_imageKept σ := rfl
theorem px_pg_signs_pl_kd (σ : SX) (v : Nat → Nat) : gx_pg_signs (sx_pl_kd σ v) = gx_pg_signs σ := rfl
theorem px_pg_length_pl_kd (σ : SX) (v : Nat → Nat) : gx_pg_length (sx_pl_kd σ v) = gx_pg_length σ := rfl
theorem px_pg_row_pl_kd (σ : SX) (v : Nat → Nat) : gx_pg_row (sx_pl_kd σ v) = gx_pg_row σ := rfl
theorem px_pg_column_pl_kd (σ : SX) (v : Nat → Nat) : gx_pg_column (sx_pl_kd σ v) = gx_pg_column σ := rfl
theorem px_pg_width_pl_kd (σ : SX) (v : Nat → Nat) : gx_pg_width (sx_pl_kd σ v) = gx_pg_width σ := rfl
theorem px_rg_kinds_pl_kd (σ : SX) (v : Nat → Nat) : gx_rg_kinds (sx_pl_kd σ v) = gx_rg_kinds σ := rfl
theorem px_rg_rows_pl_kd (σ : SX) (v : Nat → Nat) : gx_rg_rows (sx_pl_kd σ v) = gx_rg_rows σ := rfl
theorem px_rg_columns_pl_kd (σ : SX) (v : Nat → Nat) : gx_rg_columns (sx_pl_kd σ v) = gx_rg_columns σ := rfl
theorem px_rg_beside_pl_kd (σ : SX) (v : Nat → Nat) : gx_rg_beside (sx_pl_kd σ v) = gx_rg_beside σ := rfl
theorem px_rg_size_pl_kd (σ : SX) (v : Nat → Nat) : gx_rg_size (sx_pl_kd σ v) = gx_rg_size σ := rfl
theorem px_rg_free_pl_kd (σ : SX) (v : Nat → Nat) : gx_rg_free (sx_pl_kd σ v) = gx_rg_free σ := rfl
theorem px_od_weights_pl_kd (σ : SX) (v : Nat → Nat) : gx_od_weights (sx_pl_kd σ v) = gx_od_weights σ := rfl
theorem px_od_kept_pl_kd (σ : SX) (v : Nat → Nat) : gx_od_kept (sx_pl_kd σ v) = gx_od_kept σ := rfl
theorem px_od_outs_pl_kd (σ : SX) (v : Nat → Nat) : gx_od_outs (sx_pl_kd σ v) = gx_od_outs σ := rfl
theorem px_od_updates_pl_kd (σ : SX) (v : Nat → Nat) : gx_od_updates (sx_pl_kd σ v) = gx_od_updates σ := rfl
theorem px_od_keptUpdates_pl_kd (σ : SX) (v : Nat → Nat) : gx_od_keptUpdates (sx_pl_kd σ v) = gx_od_keptUpdates σ := rfl
theorem px_pl_arr_pl_kd (σ : SX) (v : Nat → Nat) : gx_pl_arr (sx_pl_kd σ v) = gx_pl_arr σ := rfl
theorem px_pl_ex_pl_kd (σ : SX) (v : Nat → Nat) : gx_pl_ex (sx_pl_kd σ v) = gx_pl_ex σ := rfl
theorem px_pl_kd_pl_kd (σ : SX) (v : Nat → Nat) : gx_pl_kd (sx_pl_kd σ v) = v := rfl
theorem px_pl_told_pl_kd (σ : SX) (v : Nat → Nat) : gx_pl_told (sx_pl_kd σ v) = gx_pl_told σ := rfl
theorem px_pl_kept_pl_kd (σ : SX) (v : Nat → Nat) : gx_pl_kept (sx_pl_kd σ v) = gx_pl_kept σ := rfl
theorem px_pl_at_pl_kd (σ : SX) (v : Nat → Nat) : gx_pl_at (sx_pl_kd σ v) = gx_pl_at σ := rfl
theorem px_pl_size_pl_kd (σ : SX) (v : Nat → Nat) : gx_pl_size (sx_pl_kd σ v) = gx_pl_size σ := rfl
theorem px_pl_cloth_pl_kd (σ : SX) (v : Nat → Nat) : gx_pl_cloth (sx_pl_kd σ v) = gx_pl_cloth σ := rfl
theorem px_pl_giggle_pl_kd (σ : SX) (v : Nat → Nat) : gx_pl_giggle (sx_pl_kd σ v) = gx_pl_giggle σ := rfl
theorem px_rd_firstCell_pl_kd (σ : SX) (v : Nat → Nat) : gx_rd_firstCell (sx_pl_kd σ v) = gx_rd_firstCell σ := rfl
theorem px_rd_firstWay_pl_kd (σ : SX) (v : Nat → Nat) : gx_rd_firstWay (sx_pl_kd σ v) = gx_rd_firstWay σ := rfl
theorem px_rd_drift_pl_kd (σ : SX) (v : Nat → Nat) : gx_rd_drift (sx_pl_kd σ v) = gx_rd_drift σ := rfl
theorem px_rd_tenths_pl_kd (σ : SX) (v : Nat → Nat) : gx_rd_tenths (sx_pl_kd σ v) = gx_rd_tenths σ := rfl
theorem px_rd_hisCell_pl_kd (σ : SX) (v : Nat → Nat) : gx_rd_hisCell (sx_pl_kd σ v) = gx_rd_hisCell σ := rfl
theorem px_rd_hisWay_pl_kd (σ : SX) (v : Nat → Nat) : gx_rd_hisWay (sx_pl_kd σ v) = gx_rd_hisWay σ := rfl
theorem px_rd_tenth_pl_kd (σ : SX) (v : Nat → Nat) : gx_rd_tenth (sx_pl_kd σ v) = gx_rd_tenth σ := rfl
theorem px_rd_touched_pl_kd (σ : SX) (v : Nat → Nat) : gx_rd_touched (sx_pl_kd σ v) = gx_rd_touched σ := rfl
theorem px_rd_seed_pl_kd (σ : SX) (v : Nat → Nat) : gx_rd_seed (sx_pl_kd σ v) = gx_rd_seed σ := rfl
theorem px_nm_weights_pl_kd (σ : SX) (v : Nat → Nat) : gx_nm_weights (sx_pl_kd σ v) = gx_nm_weights σ := rfl
theorem px_nm_sizeOff_pl_kd (σ : SX) (v : Nat → Nat) : gx_nm_sizeOff (sx_pl_kd σ v) = gx_nm_sizeOff σ := rfl
theorem px_nm_clothRight_pl_kd (σ : SX) (v : Nat → Nat) : gx_nm_clothRight (sx_pl_kd σ v) = gx_nm_clothRight σ := rfl
theorem px_nm_giggleRight_pl_kd (σ : SX) (v : Nat → Nat) : gx_nm_giggleRight (sx_pl_kd σ v) = gx_nm_giggleRight σ := rfl
theorem px_nm_first_pl_kd (σ : SX) (v : Nat → Nat) : gx_nm_first (sx_pl_kd σ v) = gx_nm_first σ := rfl
theorem px_nm_second_pl_kd (σ : SX) (v : Nat → Nat) : gx_nm_second (sx_pl_kd σ v) = gx_nm_second σ := rfl
theorem px_nm_changed_pl_kd (σ : SX) (v : Nat → Nat) : gx_nm_changed (sx_pl_kd σ v) = gx_nm_changed σ := rfl
theorem px_nm_keptFirst_pl_kd (σ : SX) (v : Nat → Nat) : gx_nm_keptFirst (sx_pl_kd σ v) = gx_nm_keptFirst σ := rfl
theorem px_nm_keptSecond_pl_kd (σ : SX) (v : Nat → Nat) : gx_nm_keptSecond (sx_pl_kd σ v) = gx_nm_keptSecond σ := rfl
theorem px_nm_keptChanged_pl_kd (σ : SX) (v : Nat → Nat) : gx_nm_keptChanged (sx_pl_kd σ v) = gx_nm_keptChanged σ := rfl
theorem px_tp_playing_pl_kd (σ : SX) (v : Nat → Nat) : gx_tp_playing (sx_pl_kd σ v) = gx_tp_playing σ := rfl
theorem px_tp_ringsRead_pl_kd (σ : SX) (v : Nat → Nat) : gx_tp_ringsRead (sx_pl_kd σ v) = gx_tp_ringsRead σ := rfl
theorem px_tp_standsDone_pl_kd (σ : SX) (v : Nat → Nat) : gx_tp_standsDone (sx_pl_kd σ v) = gx_tp_standsDone σ := rfl
theorem px_tp_imageKept_pl_kd (σ : SX) (v : Nat → Nat) : gx_tp_imageKept (sx_pl_kd σ v) = gx_tp_imageKept σ := rfl
theorem px_pg_signs_pl_told (σ : SX) (v : Nat → Int32) : gx_pg_signs (sx_pl_told σ v) = gx_pg_signs σ := rfl
theorem px_pg_length_pl_told (σ : SX) (v : Nat → Int32) : gx_pg_length (sx_pl_told σ v) = gx_pg_length σ := rfl
theorem px_pg_row_pl_told (σ : SX) (v : Nat → Int32) : gx_pg_row (sx_pl_told σ v) = gx_pg_row σ := rfl
theorem px_pg_column_pl_told (σ : SX) (v : Nat → Int32) : gx_pg_column (sx_pl_told σ v) = gx_pg_column σ := rfl
theorem px_pg_width_pl_told (σ : SX) (v : Nat → Int32) : gx_pg_width (sx_pl_told σ v) = gx_pg_width σ := rfl
theorem px_rg_kinds_pl_told (σ : SX) (v : Nat → Int32) : gx_rg_kinds (sx_pl_told σ v) = gx_rg_kinds σ := rfl
theorem px_rg_rows_pl_told (σ : SX) (v : Nat → Int32) : gx_rg_rows (sx_pl_told σ v) = gx_rg_rows σ := rfl
theorem px_rg_columns_pl_told (σ : SX) (v : Nat → Int32) : gx_rg_columns (sx_pl_told σ v) = gx_rg_columns σ := rfl
theorem px_rg_beside_pl_told (σ : SX) (v : Nat → Int32) : gx_rg_beside (sx_pl_told σ v) = gx_rg_beside σ := rfl
theorem px_rg_size_pl_told (σ : SX) (v : Nat → Int32) : gx_rg_size (sx_pl_told σ v) = gx_rg_size σ := rfl
theorem px_rg_free_pl_told (σ : SX) (v : Nat → Int32) : gx_rg_free (sx_pl_told σ v) = gx_rg_free σ := rfl
theorem px_od_weights_pl_told (σ : SX) (v : Nat → Int32) : gx_od_weights (sx_pl_told σ v) = gx_od_weights σ := rfl
theorem px_od_kept_pl_told (σ : SX) (v : Nat → Int32) : gx_od_kept (sx_pl_told σ v) = gx_od_kept σ := rfl
theorem px_od_outs_pl_told (σ : SX) (v : Nat → Int32) : gx_od_outs (sx_pl_told σ v) = gx_od_outs σ := rfl
theorem px_od_updates_pl_told (σ : SX) (v : Nat → Int32) : gx_od_updates (sx_pl_told σ v) = gx_od_updates σ := rfl
theorem px_od_keptUpdates_pl_told (σ : SX) (v : Nat → Int32) : gx_od_keptUpdates (sx_pl_told σ v) = gx_od_keptUpdates σ := rfl
theorem px_pl_arr_pl_told (σ : SX) (v : Nat → Int32) : gx_pl_arr (sx_pl_told σ v) = gx_pl_arr σ := rfl
theorem px_pl_ex_pl_told (σ : SX) (v : Nat → Int32) : gx_pl_ex (sx_pl_told σ v) = gx_pl_ex σ := rfl
theorem px_pl_kd_pl_told (σ : SX) (v : Nat → Int32) : gx_pl_kd (sx_pl_told σ v) = gx_pl_kd σ := rfl
theorem px_pl_told_pl_told (σ : SX) (v : Nat → Int32) : gx_pl_told (sx_pl_told σ v) = v := rfl
theorem px_pl_kept_pl_told (σ : SX) (v : Nat → Int32) : gx_pl_kept (sx_pl_told σ v) = gx_pl_kept σ := rfl
theorem px_pl_at_pl_told (σ : SX) (v : Nat → Int32) : gx_pl_at (sx_pl_told σ v) = gx_pl_at σ := rfl
theorem px_pl_size_pl_told (σ : SX) (v : Nat → Int32) : gx_pl_size (sx_pl_told σ v) = gx_pl_size σ := rfl
theorem px_pl_cloth_pl_told (σ : SX) (v : Nat → Int32) : gx_pl_cloth (sx_pl_told σ v) = gx_pl_cloth σ := rfl
theorem px_pl_giggle_pl_told (σ : SX) (v : Nat → Int32) : gx_pl_giggle (sx_pl_told σ v) = gx_pl_giggle σ := rfl
theorem px_rd_firstCell_pl_told (σ : SX) (v : Nat → Int32) : gx_rd_firstCell (sx_pl_told σ v) = gx_rd_firstCell σ := rfl
theorem px_rd_firstWay_pl_told (σ : SX) (v : Nat → Int32) : gx_rd_firstWay (sx_pl_told σ v) = gx_rd_firstWay σ := rfl
theorem px_rd_drift_pl_told (σ : SX) (v : Nat → Int32) : gx_rd_drift (sx_pl_told σ v) = gx_rd_drift σ := rfl
theorem px_rd_tenths_pl_told (σ : SX) (v : Nat → Int32) : gx_rd_tenths (sx_pl_told σ v) = gx_rd_tenths σ := rfl
theorem px_rd_hisCell_pl_told (σ : SX) (v : Nat → Int32) : gx_rd_hisCell (sx_pl_told σ v) = gx_rd_hisCell σ := rfl
theorem px_rd_hisWay_pl_told (σ : SX) (v : Nat → Int32) : gx_rd_hisWay (sx_pl_told σ v) = gx_rd_hisWay σ := rfl
theorem px_rd_tenth_pl_told (σ : SX) (v : Nat → Int32) : gx_rd_tenth (sx_pl_told σ v) = gx_rd_tenth σ := rfl
theorem px_rd_touched_pl_told (σ : SX) (v : Nat → Int32) : gx_rd_touched (sx_pl_told σ v) = gx_rd_touched σ := rfl
theorem px_rd_seed_pl_told (σ : SX) (v : Nat → Int32) : gx_rd_seed (sx_pl_told σ v) = gx_rd_seed σ := rfl
theorem px_nm_weights_pl_told (σ : SX) (v : Nat → Int32) : gx_nm_weights (sx_pl_told σ v) = gx_nm_weights σ := rfl
theorem px_nm_sizeOff_pl_told (σ : SX) (v : Nat → Int32) : gx_nm_sizeOff (sx_pl_told σ v) = gx_nm_sizeOff σ := rfl
theorem px_nm_clothRight_pl_told (σ : SX) (v : Nat → Int32) : gx_nm_clothRight (sx_pl_told σ v) = gx_nm_clothRight σ := rfl
theorem px_nm_giggleRight_pl_told (σ : SX) (v : Nat → Int32) : gx_nm_giggleRight (sx_pl_told σ v) = gx_nm_giggleRight σ := rfl
theorem px_nm_first_pl_told (σ : SX) (v : Nat → Int32) : gx_nm_first (sx_pl_told σ v) = gx_nm_first σ := rfl
theorem px_nm_second_pl_told (σ : SX) (v : Nat → Int32) : gx_nm_second (sx_pl_told σ v) = gx_nm_second σ := rfl
theorem px_nm_changed_pl_told (σ : SX) (v : Nat → Int32) : gx_nm_changed (sx_pl_told σ v) = gx_nm_changed σ := rfl
theorem px_nm_keptFirst_pl_told (σ : SX) (v : Nat → Int32) : gx_nm_keptFirst (sx_pl_told σ v) = gx_nm_keptFirst σ := rfl
theorem px_nm_keptSecond_pl_told (σ : SX) (v : Nat → Int32) : gx_nm_keptSecond (sx_pl_told σ v) = gx_nm_keptSecond σ := rfl
theorem px_nm_keptChanged_pl_told (σ : SX) (v : Nat → Int32) : gx_nm_keptChanged (sx_pl_told σ v) = gx_nm_keptChanged σ := rfl
theorem px_tp_playing_pl_told (σ : SX) (v : Nat → Int32) : gx_tp_playing (sx_pl_told σ v) = gx_tp_playing σ := rfl
theorem px_tp_ringsRead_pl_told (σ : SX) (v : Nat → Int32) : gx_tp_ringsRead (sx_pl_told σ v) = gx_tp_ringsRead σ := rfl
theorem px_tp_standsDone_pl_told (σ : SX) (v : Nat → Int32) : gx_tp_standsDone (sx_pl_told σ v) = gx_tp_standsDone σ := rfl
theorem px_tp_imageKept_pl_told (σ : SX) (v : Nat → Int32) : gx_tp_imageKept (sx_pl_told σ v) = gx_tp_imageKept σ := rfl
theorem px_pok_pl_told (σ : SX) (v : Nat → Int32) (a : Nat) : gx_pok (sx_pl_told σ v) a = gx_pok σ a := rfl
theorem px_pg_signs_pl_kept (σ : SX) (v : Nat → Int32) : gx_pg_signs (sx_pl_kept σ v) = gx_pg_signs σ := rfl
theorem px_pg_length_pl_kept (σ : SX) (v : Nat → Int32) : gx_pg_length (sx_pl_kept σ v) = gx_pg_length σ := rfl
theorem px_pg_row_pl_kept (σ : SX) (v : Nat → Int32) : gx_pg_row (sx_pl_kept σ v) = gx_pg_row σ := rfl
theorem px_pg_column_pl_kept (σ : SX) (v : Nat → Int32) : gx_pg_column (sx_pl_kept σ v) = gx_pg_column σ := rfl
theorem px_pg_width_pl_kept (σ : SX) (v : Nat → Int32) : gx_pg_width (sx_pl_kept σ v) = gx_pg_width σ := rfl
theorem px_rg_kinds_pl_kept (σ : SX) (v : Nat → Int32) : gx_rg_kinds (sx_pl_kept σ v) = gx_rg_kinds σ := rfl
theorem px_rg_rows_pl_kept (σ : SX) (v : Nat → Int32) : gx_rg_rows (sx_pl_kept σ v) = gx_rg_rows σ := rfl
theorem px_rg_columns_pl_kept (σ : SX) (v : Nat → Int32) : gx_rg_columns (sx_pl_kept σ v) = gx_rg_columns σ := rfl
theorem px_rg_beside_pl_kept (σ : SX) (v : Nat → Int32) : gx_rg_beside (sx_pl_kept σ v) = gx_rg_beside σ := rfl
theorem px_rg_size_pl_kept (σ : SX) (v : Nat → Int32) : gx_rg_size (sx_pl_kept σ v) = gx_rg_size σ := rfl
theorem px_rg_free_pl_kept (σ : SX) (v : Nat → Int32) : gx_rg_free (sx_pl_kept σ v) = gx_rg_free σ := rfl
theorem px_od_weights_pl_kept (σ : SX) (v : Nat → Int32) : gx_od_weights (sx_pl_kept σ v) = gx_od_weights σ := rfl
theorem px_od_kept_pl_kept (σ : SX) (v : Nat → Int32) : gx_od_kept (sx_pl_kept σ v) = gx_od_kept σ := rfl
theorem px_od_outs_pl_kept (σ : SX) (v : Nat → Int32) : gx_od_outs (sx_pl_kept σ v) = gx_od_outs σ := rfl
theorem px_od_updates_pl_kept (σ : SX) (v : Nat → Int32) : gx_od_updates (sx_pl_kept σ v) = gx_od_updates σ := rfl
theorem px_od_keptUpdates_pl_kept (σ : SX) (v : Nat → Int32) : gx_od_keptUpdates (sx_pl_kept σ v) = gx_od_keptUpdates σ := rfl
theorem px_pl_arr_pl_kept (σ : SX) (v : Nat → Int32) : gx_pl_arr (sx_pl_kept σ v) = gx_pl_arr σ := rfl
theorem px_pl_ex_pl_kept (σ : SX) (v : Nat → Int32) : gx_pl_ex (sx_pl_kept σ v) = gx_pl_ex σ := rfl
theorem px_pl_kd_pl_kept (σ : SX) (v : Nat → Int32) : gx_pl_kd (sx_pl_kept σ v) = gx_pl_kd σ := rfl
theorem px_pl_told_pl_kept (σ : SX) (v : Nat → Int32) : gx_pl_told (sx_pl_kept σ v) = gx_pl_told σ := rfl
theorem px_pl_kept_pl_kept (σ : SX) (v : Nat → Int32) : gx_pl_kept (sx_pl_kept σ v) = v := rfl
theorem px_pl_at_pl_kept (σ : SX) (v : Nat → Int32) : gx_pl_at (sx_pl_kept σ v) = gx_pl_at σ := rfl
theorem px_pl_size_pl_kept (σ : SX) (v : Nat → Int32) : gx_pl_size (sx_pl_kept σ v) = gx_pl_size σ := rfl
theorem px_pl_cloth_pl_kept (σ : SX) (v : Nat → Int32) : gx_pl_cloth (sx_pl_kept σ v) = gx_pl_cloth σ := rfl
theorem px_pl_giggle_pl_kept (σ : SX) (v : Nat → Int32) : gx_pl_giggle (sx_pl_kept σ v) = gx_pl_giggle σ := rfl
theorem px_rd_firstCell_pl_kept (σ : SX) (v : Nat → Int32) : gx_rd_firstCell (sx_pl_kept σ v) = gx_rd_firstCell σ := rfl
theorem px_rd_firstWay_pl_kept (σ : SX) (v : Nat → Int32) : gx_rd_firstWay (sx_pl_kept σ v) = gx_rd_firstWay σ := rfl
theorem px_rd_drift_pl_kept (σ : SX) (v : Nat → Int32) : gx_rd_drift (sx_pl_kept σ v) = gx_rd_drift σ := rfl
theorem px_rd_tenths_pl_kept (σ : SX) (v : Nat → Int32) : gx_rd_tenths (sx_pl_kept σ v) = gx_rd_tenths σ := rfl
theorem px_rd_hisCell_pl_kept (σ : SX) (v : Nat → Int32) : gx_rd_hisCell (sx_pl_kept σ v) = gx_rd_hisCell σ := rfl
theorem px_rd_hisWay_pl_kept (σ : SX) (v : Nat → Int32) : gx_rd_hisWay (sx_pl_kept σ v) = gx_rd_hisWay σ := rfl
theorem px_rd_tenth_pl_kept (σ : SX) (v : Nat → Int32) : gx_rd_tenth (sx_pl_kept σ v) = gx_rd_tenth σ := rfl
theorem px_rd_touched_pl_kept (σ : SX) (v : Nat → Int32) : gx_rd_touched (sx_pl_kept σ v) = gx_rd_touched σ := rfl
theorem px_rd_seed_pl_kept (σ : SX) (v : Nat → Int32) : gx_rd_seed (sx_pl_kept σ v) = gx_rd_seed σ := rfl
theorem px_nm_weights_pl_kept (σ : SX) (v : Nat → Int32) : gx_nm_weights (sx_pl_kept σ v) = gx_nm_weights σ := rfl
theorem px_nm_sizeOff_pl_kept (σ : SX) (v : Nat → Int32) : gx_nm_sizeOff (sx_pl_kept σ v) = gx_nm_sizeOff σ := rfl
theorem px_nm_clothRight_pl_kept (σ : SX) (v : Nat → Int32) : gx_nm_clothRight (sx_pl_kept σ v) = gx_nm_clothRight σ := rfl
theorem px_nm_giggleRight_pl_kept (σ : SX) (v : Nat → Int32) : gx_nm_giggleRight (sx_pl_kept σ v) = gx_nm_giggleRight σ := rfl
theorem px_nm_first_pl_kept (σ : SX) (v : Nat → Int32) : gx_nm_first (sx_pl_kept σ v) = gx_nm_first σ := rfl
theorem px_nm_second_pl_kept (σ : SX) (v : Nat → Int32) : gx_nm_second (sx_pl_kept σ v) = gx_nm_second σ := rfl
theorem px_nm_changed_pl_kept (σ : SX) (v : Nat → Int32) : gx_nm_changed (sx_pl_kept σ v) = gx_nm_changed σ := rfl
theorem px_nm_keptFirst_pl_kept (σ : SX) (v : Nat → Int32) : gx_nm_keptFirst (sx_pl_kept σ v) = gx_nm_keptFirst σ := rfl
theorem px_nm_keptSecond_pl_kept (σ : SX) (v : Nat → Int32) : gx_nm_keptSecond (sx_pl_kept σ v) = gx_nm_keptSecond σ := rfl
theorem px_nm_keptChanged_pl_kept (σ : SX) (v : Nat → Int32) : gx_nm_keptChanged (sx_pl_kept σ v) = gx_nm_keptChanged σ := rfl
theorem px_tp_playing_pl_kept (σ : SX) (v : Nat → Int32) : gx_tp_playing (sx_pl_kept σ v) = gx_tp_playing σ := rfl
theorem px_tp_ringsRead_pl_kept (σ : SX) (v : Nat → Int32) : gx_tp_ringsRead (sx_pl_kept σ v) = gx_tp_ringsRead σ := rfl
theorem px_tp_standsDone_pl_kept (σ : SX) (v : Nat → Int32) : gx_tp_standsDone (sx_pl_kept σ v) = gx_tp_standsDone σ := rfl
theorem px_tp_imageKept_pl_kept (σ : SX) (v : Nat → Int32) : gx_tp_imageKept (sx_pl_kept σ v) = gx_tp_imageKept σ := rfl
theorem px_pok_pl_kept (σ : SX) (v : Nat → Int32) (a : Nat) : gx_pok (sx_pl_kept σ v) a = gx_pok σ a := rfl
theorem px_pg_signs_pl_at (σ : SX) (v : Nat → Int32) : gx_pg_signs (sx_pl_at σ v) = gx_pg_signs σ := rfl
theorem px_pg_length_pl_at (σ : SX) (v : Nat → Int32) : gx_pg_length (sx_pl_at σ v) = gx_pg_length σ := rfl
theorem px_pg_row_pl_at (σ : SX) (v : Nat → Int32) : gx_pg_row (sx_pl_at σ v) = gx_pg_row σ := rfl
theorem px_pg_column_pl_at (σ : SX) (v : Nat → Int32) : gx_pg_column (sx_pl_at σ v) = gx_pg_column σ := rfl
theorem px_pg_width_pl_at (σ : SX) (v : Nat → Int32) : gx_pg_width (sx_pl_at σ v) = gx_pg_width σ := rfl
theorem px_rg_kinds_pl_at (σ : SX) (v : Nat → Int32) : gx_rg_kinds (sx_pl_at σ v) = gx_rg_kinds σ := rfl
theorem px_rg_rows_pl_at (σ : SX) (v : Nat → Int32) : gx_rg_rows (sx_pl_at σ v) = gx_rg_rows σ := rfl
theorem px_rg_columns_pl_at (σ : SX) (v : Nat → Int32) : gx_rg_columns (sx_pl_at σ v) = gx_rg_columns σ := rfl
theorem px_rg_beside_pl_at (σ : SX) (v : Nat → Int32) : gx_rg_beside (sx_pl_at σ v) = gx_rg_beside σ := rfl
theorem px_rg_size_pl_at (σ : SX) (v : Nat → Int32) : gx_rg_size (sx_pl_at σ v) = gx_rg_size σ := rfl
theorem px_rg_free_pl_at (σ : SX) (v : Nat → Int32) : gx_rg_free (sx_pl_at σ v) = gx_rg_free σ := rfl
theorem px_od_weights_pl_at (σ : SX) (v : Nat → Int32) : gx_od_weights (sx_pl_at σ v) = gx_od_weights σ := rfl
theorem px_od_kept_pl_at (σ : SX) (v : Nat → Int32) : gx_od_kept (sx_pl_at σ v) = gx_od_kept σ := rfl
theorem px_od_outs_pl_at (σ : SX) (v : Nat → Int32) : gx_od_outs (sx_pl_at σ v) = gx_od_outs σ := rfl
theorem px_od_updates_pl_at (σ : SX) (v : Nat → Int32) : gx_od_updates (sx_pl_at σ v) = gx_od_updates σ := rfl
theorem px_od_keptUpdates_pl_at (σ : SX) (v : Nat → Int32) : gx_od_keptUpdates (sx_pl_at σ v) = gx_od_keptUpdates σ := rfl
theorem px_pl_arr_pl_at (σ : SX) (v : Nat → Int32) : gx_pl_arr (sx_pl_at σ v) = gx_pl_arr σ := rfl
theorem px_pl_ex_pl_at (σ : SX) (v : Nat → Int32) : gx_pl_ex (sx_pl_at σ v) = gx_pl_ex σ := rfl
theorem px_pl_kd_pl_at (σ : SX) (v : Nat → Int32) : gx_pl_kd (sx_pl_at σ v) = gx_pl_kd σ := rfl
theorem px_pl_told_pl_at (σ : SX) (v : Nat → Int32) : gx_pl_told (sx_pl_at σ v) = gx_pl_told σ := rfl
theorem px_pl_kept_pl_at (σ : SX) (v : Nat → Int32) : gx_pl_kept (sx_pl_at σ v) = gx_pl_kept σ := rfl
theorem px_pl_at_pl_at (σ : SX) (v : Nat → Int32) : gx_pl_at (sx_pl_at σ v) = v := rfl
theorem px_pl_size_pl_at (σ : SX) (v : Nat → Int32) : gx_pl_size (sx_pl_at σ v) = gx_pl_size σ := rfl
theorem px_pl_cloth_pl_at (σ : SX) (v : Nat → Int32) : gx_pl_cloth (sx_pl_at σ v) = gx_pl_cloth σ := rfl
theorem px_pl_giggle_pl_at (σ : SX) (v : Nat → Int32) : gx_pl_giggle (sx_pl_at σ v) = gx_pl_giggle σ := rfl
theorem px_rd_firstCell_pl_at (σ : SX) (v : Nat → Int32) : gx_rd_firstCell (sx_pl_at σ v) = gx_rd_firstCell σ := rfl
theorem px_rd_firstWay_pl_at (σ : SX) (v : Nat → Int32) : gx_rd_firstWay (sx_pl_at σ v) = gx_rd_firstWay σ := rfl
theorem px_rd_drift_pl_at (σ : SX) (v : Nat → Int32) : gx_rd_drift (sx_pl_at σ v) = gx_rd_drift σ := rfl
theorem px_rd_tenths_pl_at (σ : SX) (v : Nat → Int32) : gx_rd_tenths (sx_pl_at σ v) = gx_rd_tenths σ := rfl
theorem px_rd_hisCell_pl_at (σ : SX) (v : Nat → Int32) : gx_rd_hisCell (sx_pl_at σ v) = gx_rd_hisCell σ := rfl
theorem px_rd_hisWay_pl_at (σ : SX) (v : Nat → Int32) : gx_rd_hisWay (sx_pl_at σ v) = gx_rd_hisWay σ := rfl
theorem px_rd_tenth_pl_at (σ : SX) (v : Nat → Int32) : gx_rd_tenth (sx_pl_at σ v) = gx_rd_tenth σ := rfl
theorem px_rd_touched_pl_at (σ : SX) (v : Nat → Int32) : gx_rd_touched (sx_pl_at σ v) = gx_rd_touched σ := rfl
theorem px_rd_seed_pl_at (σ : SX) (v : Nat → Int32) : gx_rd_seed (sx_pl_at σ v) = gx_rd_seed σ := rfl
theorem px_nm_weights_pl_at (σ : SX) (v : Nat → Int32) : gx_nm_weights (sx_pl_at σ v) = gx_nm_weights σ := rfl
theorem px_nm_sizeOff_pl_at (σ : SX) (v : Nat → Int32) : gx_nm_sizeOff (sx_pl_at σ v) = gx_nm_sizeOff σ := rfl
theorem px_nm_clothRight_pl_at (σ : SX) (v : Nat → Int32) : gx_nm_clothRight (sx_pl_at σ v) = gx_nm_clothRight σ := rfl
theorem px_nm_giggleRight_pl_at (σ : SX) (v : Nat → Int32) : gx_nm_giggleRight (sx_pl_at σ v) = gx_nm_giggleRight σ := rfl
theorem px_nm_first_pl_at (σ : SX) (v : Nat → Int32) : gx_nm_first (sx_pl_at σ v) = gx_nm_first σ := rfl
theorem px_nm_second_pl_at (σ : SX) (v : Nat → Int32) : gx_nm_second (sx_pl_at σ v) = gx_nm_second σ := rfl
theorem px_nm_changed_pl_at (σ : SX) (v : Nat → Int32) : gx_nm_changed (sx_pl_at σ v) = gx_nm_changed σ := rfl
theorem px_nm_keptFirst_pl_at (σ : SX) (v : Nat → Int32) : gx_nm_keptFirst (sx_pl_at σ v) = gx_nm_keptFirst σ := rfl
theorem px_nm_keptSecond_pl_at (σ : SX) (v : Nat → Int32) : gx_nm_keptSecond (sx_pl_at σ v) = gx_nm_keptSecond σ := rfl
theorem px_nm_keptChanged_pl_at (σ : SX) (v : Nat → Int32) : gx_nm_keptChanged (sx_pl_at σ v) = gx_nm_keptChanged σ := rfl
theorem px_tp_playing_pl_at (σ : SX) (v : Nat → Int32) : gx_tp_playing (sx_pl_at σ v) = gx_tp_playing σ := rfl
theorem px_tp_ringsRead_pl_at (σ : SX) (v : Nat → Int32) : gx_tp_ringsRead (sx_pl_at σ v) = gx_tp_ringsRead σ := rfl
theorem px_tp_standsDone_pl_at (σ : SX) (v : Nat → Int32) : gx_tp_standsDone (sx_pl_at σ v) = gx_tp_standsDone σ := rfl
theorem px_tp_imageKept_pl_at (σ : SX) (v : Nat → Int32) : gx_tp_imageKept (sx_pl_at σ v) = gx_tp_imageKept σ := rfl
theorem px_pok_pl_at (σ : SX) (v : Nat → Int32) (a : Nat) : gx_pok (sx_pl_at σ v) a = gx_pok σ a := rfl
theorem px_pg_signs_pl_size (σ : SX) (v : Nat → Int32) : gx_pg_signs (sx_pl_size σ v) = gx_pg_signs σ := rfl
theorem px_pg_length_pl_size (σ : SX) (v : Nat → Int32) : gx_pg_length (sx_pl_size σ v) = gx_pg_length σ := rfl
theorem px_pg_row_pl_size (σ : SX) (v : Nat → Int32) : gx_pg_row (sx_pl_size σ v) = gx_pg_row σ := rfl
theorem px_pg_column_pl_size (σ : SX) (v : Nat → Int32) : gx_pg_column (sx_pl_size σ v) = gx_pg_column σ := rfl
theorem px_pg_width_pl_size (σ : SX) (v : Nat → Int32) : gx_pg_width (sx_pl_size σ v) = gx_pg_width σ := rfl
theorem px_rg_kinds_pl_size (σ : SX) (v : Nat → Int32) : gx_rg_kinds (sx_pl_size σ v) = gx_rg_kinds σ := rfl
theorem px_rg_rows_pl_size (σ : SX) (v : Nat → Int32) : gx_rg_rows (sx_pl_size σ v) = gx_rg_rows σ := rfl
theorem px_rg_columns_pl_size (σ : SX) (v : Nat → Int32) : gx_rg_columns (sx_pl_size σ v) = gx_rg_columns σ := rfl
theorem px_rg_beside_pl_size (σ : SX) (v : Nat → Int32) : gx_rg_beside (sx_pl_size σ v) = gx_rg_beside σ := rfl
theorem px_rg_size_pl_size (σ : SX) (v : Nat → Int32) : gx_rg_size (sx_pl_size σ v) = gx_rg_size σ := rfl
theorem px_rg_free_pl_size (σ : SX) (v : Nat → Int32) : gx_rg_free (sx_pl_size σ v) = gx_rg_free σ := rfl
theorem px_od_weights_pl_size (σ : SX) (v : Nat → Int32) : gx_od_weights (sx_pl_size σ v) = gx_od_weights σ := rfl
theorem px_od_kept_pl_size (σ : SX) (v : Nat → Int32) : gx_od_kept (sx_pl_size σ v) = gx_od_kept σ := rfl
theorem px_od_outs_pl_size (σ : SX) (v : Nat → Int32) : gx_od_outs (sx_pl_size σ v) = gx_od_outs σ := rfl
theorem px_od_updates_pl_size (σ : SX) (v : Nat → Int32) : gx_od_updates (sx_pl_size σ v) = gx_od_updates σ := rfl
theorem px_od_keptUpdates_pl_size (σ : SX) (v : Nat → Int32) : gx_od_keptUpdates (sx_pl_size σ v) = gx_od_keptUpdates σ := rfl
theorem px_pl_arr_pl_size (σ : SX) (v : Nat → Int32) : gx_pl_arr (sx_pl_size σ v) = gx_pl_arr σ := rfl
theorem px_pl_ex_pl_size (σ : SX) (v : Nat → Int32) : gx_pl_ex (sx_pl_size σ v) = gx_pl_ex σ := rfl
theorem px_pl_kd_pl_size (σ : SX) (v : Nat → Int32) : gx_pl_kd (sx_pl_size σ v) = gx_pl_kd σ := rfl
theorem px_pl_told_pl_size (σ : SX) (v : Nat → Int32) : gx_pl_told (sx_pl_size σ v) = gx_pl_told σ := rfl
theorem px_pl_kept_pl_size (σ : SX) (v : Nat → Int32) : gx_pl_kept (sx_pl_size σ v) = gx_pl_kept σ := rfl
theorem px_pl_at_pl_size (σ : SX) (v : Nat → Int32) : gx_pl_at (sx_pl_size σ v) = gx_pl_at σ := rfl
theorem px_pl_size_pl_size (σ : SX) (v : Nat → Int32) : gx_pl_size (sx_pl_size σ v) = v := rfl
theorem px_pl_cloth_pl_size (σ : SX) (v : Nat → Int32) : gx_pl_cloth (sx_pl_size σ v) = gx_pl_cloth σ := rfl
theorem px_pl_giggle_pl_size (σ : SX) (v : Nat → Int32) : gx_pl_giggle (sx_pl_size σ v) = gx_pl_giggle σ := rfl
theorem px_rd_firstCell_pl_size (σ : SX) (v : Nat → Int32) : gx_rd_firstCell (sx_pl_size σ v) = gx_rd_firstCell σ := rfl
theorem px_rd_firstWay_pl_size (σ : SX) (v : Nat → Int32) : gx_rd_firstWay (sx_pl_size σ v) = gx_rd_firstWay σ := rfl
theorem px_rd_drift_pl_size (σ : SX) (v : Nat → Int32) : gx_rd_drift (sx_pl_size σ v) = gx_rd_drift σ := rfl
theorem px_rd_tenths_pl_size (σ : SX) (v : Nat → Int32) : gx_rd_tenths (sx_pl_size σ v) = gx_rd_tenths σ := rfl
theorem px_rd_hisCell_pl_size (σ : SX) (v : Nat → Int32) : gx_rd_hisCell (sx_pl_size σ v) = gx_rd_hisCell σ := rfl
theorem px_rd_hisWay_pl_size (σ : SX) (v : Nat → Int32) : gx_rd_hisWay (sx_pl_size σ v) = gx_rd_hisWay σ := rfl
theorem px_rd_tenth_pl_size (σ : SX) (v : Nat → Int32) : gx_rd_tenth (sx_pl_size σ v) = gx_rd_tenth σ := rfl
theorem px_rd_touched_pl_size (σ : SX) (v : Nat → Int32) : gx_rd_touched (sx_pl_size σ v) = gx_rd_touched σ := rfl
theorem px_rd_seed_pl_size (σ : SX) (v : Nat → Int32) : gx_rd_seed (sx_pl_size σ v) = gx_rd_seed σ := rfl
theorem px_nm_weights_pl_size (σ : SX) (v : Nat → Int32) : gx_nm_weights (sx_pl_size σ v) = gx_nm_weights σ := rfl
theorem px_nm_sizeOff_pl_size (σ : SX) (v : Nat → Int32) : gx_nm_sizeOff (sx_pl_size σ v) = gx_nm_sizeOff σ := rfl
theorem px_nm_clothRight_pl_size (σ : SX) (v : Nat → Int32) : gx_nm_clothRight (sx_pl_size σ v) = gx_nm_clothRight σ := rfl
theorem px_nm_giggleRight_pl_size (σ : SX) (v : Nat → Int32) : gx_nm_giggleRight (sx_pl_size σ v) = gx_nm_giggleRight σ := rfl
theorem px_nm_first_pl_size (σ : SX) (v : Nat → Int32) : gx_nm_first (sx_pl_size σ v) = gx_nm_first σ := rfl
theorem px_nm_second_pl_size (σ : SX) (v : Nat → Int32) : gx_nm_second (sx_pl_size σ v) = gx_nm_second σ := rfl
theorem px_nm_changed_pl_size (σ : SX) (v : Nat → Int32) : gx_nm_changed (sx_pl_size σ v) = gx_nm_changed σ := rfl
theorem px_nm_keptFirst_pl_size (σ : SX) (v : Nat → Int32) : gx_nm_keptFirst (sx_pl_size σ v) = gx_nm_keptFirst σ := rfl
theorem px_nm_keptSecond_pl_size (σ : SX) (v : Nat → Int32) : gx_nm_keptSecond (sx_pl_size σ v) = gx_nm_keptSecond σ := rfl
theorem px_nm_keptChanged_pl_size (σ : SX) (v : Nat → Int32) : gx_nm_keptChanged (sx_pl_size σ v) = gx_nm_keptChanged σ := rfl
theorem px_tp_playing_pl_size (σ : SX) (v : Nat → Int32) : gx_tp_playing (sx_pl_size σ v) = gx_tp_playing σ := rfl
theorem px_tp_ringsRead_pl_size (σ : SX) (v : Nat → Int32) : gx_tp_ringsRead (sx_pl_size σ v) = gx_tp_ringsRead σ := rfl
theorem px_tp_standsDone_pl_size (σ : SX) (v : Nat → Int32) : gx_tp_standsDone (sx_pl_size σ v) = gx_tp_standsDone σ := rfl
theorem px_tp_imageKept_pl_size (σ : SX) (v : Nat → Int32) : gx_tp_imageKept (sx_pl_size σ v) = gx_tp_imageKept σ := rfl
theorem px_pok_pl_size (σ : SX) (v : Nat → Int32) (a : Nat) : gx_pok (sx_pl_size σ v) a = gx_pok σ a := rfl
theorem px_pg_signs_pl_cloth (σ : SX) (v : Nat → Int32) : gx_pg_signs (sx_pl_cloth σ v) = gx_pg_signs σ := rfl
theorem px_pg_length_pl_cloth (σ : SX) (v : Nat → Int32) : gx_pg_length (sx_pl_cloth σ v) = gx_pg_length σ := rfl
theorem px_pg_row_pl_cloth (σ : SX) (v : Nat → Int32) : gx_pg_row (sx_pl_cloth σ v) = gx_pg_row σ := rfl
theorem px_pg_column_pl_cloth (σ : SX) (v : Nat → Int32) : gx_pg_column (sx_pl_cloth σ v) = gx_pg_column σ := rfl
theorem px_pg_width_pl_cloth (σ : SX) (v : Nat → Int32) : gx_pg_width (sx_pl_cloth σ v) = gx_pg_width σ := rfl
theorem px_rg_kinds_pl_cloth (σ : SX) (v : Nat → Int32) : gx_rg_kinds (sx_pl_cloth σ v) = gx_rg_kinds σ := rfl
theorem px_rg_rows_pl_cloth (σ : SX) (v : Nat → Int32) : gx_rg_rows (sx_pl_cloth σ v) = gx_rg_rows σ := rfl
theorem px_rg_columns_pl_cloth (σ : SX) (v : Nat → Int32) : gx_rg_columns (sx_pl_cloth σ v) = gx_rg_columns σ := rfl
theorem px_rg_beside_pl_cloth (σ : SX) (v : Nat → Int32) : gx_rg_beside (sx_pl_cloth σ v) = gx_rg_beside σ := rfl
theorem px_rg_size_pl_cloth (σ : SX) (v : Nat → Int32) : gx_rg_size (sx_pl_cloth σ v) = gx_rg_size σ := rfl
theorem px_rg_free_pl_cloth (σ : SX) (v : Nat → Int32) : gx_rg_free (sx_pl_cloth σ v) = gx_rg_free σ := rfl
theorem px_od_weights_pl_cloth (σ : SX) (v : Nat → Int32) : gx_od_weights (sx_pl_cloth σ v) = gx_od_weights σ := rfl
theorem px_od_kept_pl_cloth (σ : SX) (v : Nat → Int32) : gx_od_kept (sx_pl_cloth σ v) = gx_od_kept σ := rfl
theorem px_od_outs_pl_cloth (σ : SX) (v : Nat → Int32) : gx_od_outs (sx_pl_cloth σ v) = gx_od_outs σ := rfl
theorem px_od_updates_pl_cloth (σ : SX) (v : Nat → Int32) : gx_od_updates (sx_pl_cloth σ v) = gx_od_updates σ := rfl
theorem px_od_keptUpdates_pl_cloth (σ : SX) (v : Nat → Int32) : gx_od_keptUpdates (sx_pl_cloth σ v) = gx_od_keptUpdates σ := rfl
theorem px_pl_arr_pl_cloth (σ : SX) (v : Nat → Int32) : gx_pl_arr (sx_pl_cloth σ v) = gx_pl_arr σ := rfl
theorem px_pl_ex_pl_cloth (σ : SX) (v : Nat → Int32) : gx_pl_ex (sx_pl_cloth σ v) = gx_pl_ex σ := rfl
theorem px_pl_kd_pl_cloth (σ : SX) (v : Nat → Int32) : gx_pl_kd (sx_pl_cloth σ v) = gx_pl_kd σ := rfl
theorem px_pl_told_pl_cloth (σ : SX) (v : Nat → Int32) : gx_pl_told (sx_pl_cloth σ v) = gx_pl_told σ := rfl
theorem px_pl_kept_pl_cloth (σ : SX) (v : Nat → Int32) : gx_pl_kept (sx_pl_cloth σ v) = gx_pl_kept σ := rfl
theorem px_pl_at_pl_cloth (σ : SX) (v : Nat → Int32) : gx_pl_at (sx_pl_cloth σ v) = gx_pl_at σ := rfl
theorem px_pl_size_pl_cloth (σ : SX) (v : Nat → Int32) : gx_pl_size (sx_pl_cloth σ v) = gx_pl_size σ := rfl
theorem px_pl_cloth_pl_cloth (σ : SX) (v : Nat → Int32) : gx_pl_cloth (sx_pl_cloth σ v) = v := rfl
theorem px_pl_giggle_pl_cloth (σ : SX) (v : Nat → Int32) : gx_pl_giggle (sx_pl_cloth σ v) = gx_pl_giggle σ := rfl
theorem px_rd_firstCell_pl_cloth (σ : SX) (v : Nat → Int32) : gx_rd_firstCell (sx_pl_cloth σ v) = gx_rd_firstCell σ := rfl
theorem px_rd_firstWay_pl_cloth (σ : SX) (v : Nat → Int32) : gx_rd_firstWay (sx_pl_cloth σ v) = gx_rd_firstWay σ := rfl
theorem px_rd_drift_pl_cloth (σ : SX) (v : Nat → Int32) : gx_rd_drift (sx_pl_cloth σ v) = gx_rd_drift σ := rfl
theorem px_rd_tenths_pl_cloth (σ : SX) (v : Nat → Int32) : gx_rd_tenths (sx_pl_cloth σ v) = gx_rd_tenths σ := rfl
theorem px_rd_hisCell_pl_cloth (σ : SX) (v : Nat → Int32) : gx_rd_hisCell (sx_pl_cloth σ v) = gx_rd_hisCell σ := rfl
theorem px_rd_hisWay_pl_cloth (σ : SX) (v : Nat → Int32) : gx_rd_hisWay (sx_pl_cloth σ v) = gx_rd_hisWay σ := rfl
theorem px_rd_tenth_pl_cloth (σ : SX) (v : Nat → Int32) : gx_rd_tenth (sx_pl_cloth σ v) = gx_rd_tenth σ := rfl
theorem px_rd_touched_pl_cloth (σ : SX) (v : Nat → Int32) : gx_rd_touched (sx_pl_cloth σ v) = gx_rd_touched σ := rfl
theorem px_rd_seed_pl_cloth (σ : SX) (v : Nat → Int32) : gx_rd_seed (sx_pl_cloth σ v) = gx_rd_seed σ := rfl
theorem px_nm_weights_pl_cloth (σ : SX) (v : Nat → Int32) : gx_nm_weights (sx_pl_cloth σ v) = gx_nm_weights σ := rfl
theorem px_nm_sizeOff_pl_cloth (σ : SX) (v : Nat → Int32) : gx_nm_sizeOff (sx_pl_cloth σ v) = gx_nm_sizeOff σ := rfl
theorem px_nm_clothRight_pl_cloth (σ : SX) (v : Nat → Int32) : gx_nm_clothRight (sx_pl_cloth σ v) = gx_nm_clothRight σ := rfl
theorem px_nm_giggleRight_pl_cloth (σ : SX) (v : Nat → Int32) : gx_nm_giggleRight (sx_pl_cloth σ v) = gx_nm_giggleRight σ := rfl
theorem px_nm_first_pl_cloth (σ : SX) (v : Nat → Int32) : gx_nm_first (sx_pl_cloth σ v) = gx_nm_first σ := rfl
theorem px_nm_second_pl_cloth (σ : SX) (v : Nat → Int32) : gx_nm_second (sx_pl_cloth σ v) = gx_nm_second σ := rfl
theorem px_nm_changed_pl_cloth (σ : SX) (v : Nat → Int32) : gx_nm_changed (sx_pl_cloth σ v) = gx_nm_changed σ := rfl
theorem px_nm_keptFirst_pl_cloth (σ : SX) (v : Nat → Int32) : gx_nm_keptFirst (sx_pl_cloth σ v) = gx_nm_keptFirst σ := rfl
theorem px_nm_keptSecond_pl_cloth (σ : SX) (v : Nat → Int32) : gx_nm_keptSecond (sx_pl_cloth σ v) = gx_nm_keptSecond σ := rfl
theorem px_nm_keptChanged_pl_cloth (σ : SX) (v : Nat → Int32) : gx_nm_keptChanged (sx_pl_cloth σ v) = gx_nm_keptChanged σ := rfl
theorem px_tp_playing_pl_cloth (σ : SX) (v : Nat → Int32) : gx_tp_playing (sx_pl_cloth σ v) = gx_tp_playing σ := rfl
theorem px_tp_ringsRead_pl_cloth (σ : SX) (v : Nat → Int32) : gx_tp_ringsRead (sx_pl_cloth σ v) = gx_tp_ringsRead σ := rfl
theorem px_tp_standsDone_pl_cloth (σ : SX) (v : Nat → Int32) : gx_tp_standsDone (sx_pl_cloth σ v) = gx_tp_standsDone σ := rfl
theorem px_tp_imageKept_pl_cloth (σ : SX) (v : Nat → Int32) : gx_tp_imageKept (sx_pl_cloth σ v) = gx_tp_imageKept σ := rfl
theorem px_pok_pl_cloth (σ : SX) (v : Nat → Int32) (a : Nat) : gx_pok (sx_pl_cloth σ v) a = gx_pok σ a := rfl
theorem px_pg_signs_pl_giggle (σ : SX) (v : Nat → Int32) : gx_pg_signs (sx_pl_giggle σ v) = gx_pg_signs σ := rfl
theorem px_pg_length_pl_giggle (σ : SX) (v : Nat → Int32) : gx_pg_length (sx_pl_giggle σ v) = gx_pg_length σ := rfl
theorem px_pg_row_pl_giggle (σ : SX) (v : Nat → Int32) : gx_pg_row (sx_pl_giggle σ v) = gx_pg_row σ := rfl
theorem px_pg_column_pl_giggle (σ : SX) (v : Nat → Int32) : gx_pg_column (sx_pl_giggle σ v) = gx_pg_column σ := rfl
theorem px_pg_width_pl_giggle (σ : SX) (v : Nat → Int32) : gx_pg_width (sx_pl_giggle σ v) = gx_pg_width σ := rfl
theorem px_rg_kinds_pl_giggle (σ : SX) (v : Nat → Int32) : gx_rg_kinds (sx_pl_giggle σ v) = gx_rg_kinds σ := rfl
theorem px_rg_rows_pl_giggle (σ : SX) (v : Nat → Int32) : gx_rg_rows (sx_pl_giggle σ v) = gx_rg_rows σ := rfl
theorem px_rg_columns_pl_giggle (σ : SX) (v : Nat → Int32) : gx_rg_columns (sx_pl_giggle σ v) = gx_rg_columns σ := rfl
theorem px_rg_beside_pl_giggle (σ : SX) (v : Nat → Int32) : gx_rg_beside (sx_pl_giggle σ v) = gx_rg_beside σ := rfl
theorem px_rg_size_pl_giggle (σ : SX) (v : Nat → Int32) : gx_rg_size (sx_pl_giggle σ v) = gx_rg_size σ := rfl
theorem px_rg_free_pl_giggle (σ : SX) (v : Nat → Int32) : gx_rg_free (sx_pl_giggle σ v) = gx_rg_free σ := rfl
theorem px_od_weights_pl_giggle (σ : SX) (v : Nat → Int32) : gx_od_weights (sx_pl_giggle σ v) = gx_od_weights σ := rfl
theorem px_od_kept_pl_giggle (σ : SX) (v : Nat → Int32) : gx_od_kept (sx_pl_giggle σ v) = gx_od_kept σ := rfl
theorem px_od_outs_pl_giggle (σ : SX) (v : Nat → Int32) : gx_od_outs (sx_pl_giggle σ v) = gx_od_outs σ := rfl
theorem px_od_updates_pl_giggle (σ : SX) (v : Nat → Int32) : gx_od_updates (sx_pl_giggle σ v) = gx_od_updates σ := rfl
theorem px_od_keptUpdates_pl_giggle (σ : SX) (v : Nat → Int32) : gx_od_keptUpdates (sx_pl_giggle σ v) = gx_od_keptUpdates σ := rfl
theorem px_pl_arr_pl_giggle (σ : SX) (v : Nat → Int32) : gx_pl_arr (sx_pl_giggle σ v) = gx_pl_arr σ := rfl
theorem px_pl_ex_pl_giggle (σ : SX) (v : Nat → Int32) : gx_pl_ex (sx_pl_giggle σ v) = gx_pl_ex σ := rfl
theorem px_pl_kd_pl_giggle (σ : SX) (v : Nat → Int32) : gx_pl_kd (sx_pl_giggle σ v) = gx_pl_kd σ := rfl
theorem px_pl_told_pl_giggle (σ : SX) (v : Nat → Int32) : gx_pl_told (sx_pl_giggle σ v) = gx_pl_told σ := rfl
theorem px_pl_kept_pl_giggle (σ : SX) (v : Nat → Int32) : gx_pl_kept (sx_pl_giggle σ v) = gx_pl_kept σ := rfl
theorem px_pl_at_pl_giggle (σ : SX) (v : Nat → Int32) : gx_pl_at (sx_pl_giggle σ v) = gx_pl_at σ := rfl
theorem px_pl_size_pl_giggle (σ : SX) (v : Nat → Int32) : gx_pl_size (sx_pl_giggle σ v) = gx_pl_size σ := rfl
theorem px_pl_cloth_pl_giggle (σ : SX) (v : Nat → Int32) : gx_pl_cloth (sx_pl_giggle σ v) = gx_pl_cloth σ := rfl
theorem px_pl_giggle_pl_giggle (σ : SX) (v : Nat → Int32) : gx_pl_giggle (sx_pl_giggle σ v) = v := rfl
theorem px_rd_firstCell_pl_giggle (σ : SX) (v : Nat → Int32) : gx_rd_firstCell (sx_pl_giggle σ v) = gx_rd_firstCell σ := rfl
theorem px_rd_firstWay_pl_giggle (σ : SX) (v : Nat → Int32) : gx_rd_firstWay (sx_pl_giggle σ v) = gx_rd_firstWay σ := rfl
theorem px_rd_drift_pl_giggle (σ : SX) (v : Nat → Int32) : gx_rd_drift (sx_pl_giggle σ v) = gx_rd_drift σ := rfl
theorem px_rd_tenths_pl_giggle (σ : SX) (v : Nat → Int32) : gx_rd_tenths (sx_pl_giggle σ v) = gx_rd_tenths σ := rfl
theorem px_rd_hisCell_pl_giggle (σ : SX) (v : Nat → Int32) : gx_rd_hisCell (sx_pl_giggle σ v) = gx_rd_hisCell σ := rfl
theorem px_rd_hisWay_pl_giggle (σ : SX) (v : Nat → Int32) : gx_rd_hisWay (sx_pl_giggle σ v) = gx_rd_hisWay σ := rfl
theorem px_rd_tenth_pl_giggle (σ : SX) (v : Nat → Int32) : gx_rd_tenth (sx_pl_giggle σ v) = gx_rd_tenth σ := rfl
theorem px_rd_touched_pl_giggle (σ : SX) (v : Nat → Int32) : gx_rd_touched (sx_pl_giggle σ v) = gx_rd_touched σ := rfl
theorem px_rd_seed_pl_giggle (σ : SX) (v : Nat → Int32) : gx_rd_seed (sx_pl_giggle σ v) = gx_rd_seed σ := rfl
theorem px_nm_weights_pl_giggle (σ : SX) (v : Nat → Int32) : gx_nm_weights (sx_pl_giggle σ v) = gx_nm_weights σ := rfl
theorem px_nm_sizeOff_pl_giggle (σ : SX) (v : Nat → Int32) : gx_nm_sizeOff (sx_pl_giggle σ v) = gx_nm_sizeOff σ := rfl
theorem px_nm_clothRight_pl_giggle (σ : SX) (v : Nat → Int32) : gx_nm_clothRight (sx_pl_giggle σ v) = gx_nm_clothRight σ := rfl
theorem px_nm_giggleRight_pl_giggle (σ : SX) (v : Nat → Int32) : gx_nm_giggleRight (sx_pl_giggle σ v) = gx_nm_giggleRight σ := rfl
theorem px_nm_first_pl_giggle (σ : SX) (v : Nat → Int32) : gx_nm_first (sx_pl_giggle σ v) = gx_nm_first σ := rfl
theorem px_nm_second_pl_giggle (σ : SX) (v : Nat → Int32) : gx_nm_second (sx_pl_giggle σ v) = gx_nm_second σ := rfl
theorem px_nm_changed_pl_giggle (σ : SX) (v : Nat → Int32) : gx_nm_changed (sx_pl_giggle σ v) = gx_nm_changed σ := rfl
theorem px_nm_keptFirst_pl_giggle (σ : SX) (v : Nat → Int32) : gx_nm_keptFirst (sx_pl_giggle σ v) = gx_nm_keptFirst σ := rfl
theorem px_nm_keptSecond_pl_giggle (σ : SX) (v : Nat → Int32) : gx_nm_keptSecond (sx_pl_giggle σ v) = gx_nm_keptSecond σ := rfl
theorem px_nm_keptChanged_pl_giggle (σ : SX) (v : Nat → Int32) : gx_nm_keptChanged (sx_pl_giggle σ v) = gx_nm_keptChanged σ := rfl
theorem px_tp_playing_pl_giggle (σ : SX) (v : Nat → Int32) : gx_tp_playing (sx_pl_giggle σ v) = gx_tp_playing σ := rfl
theorem px_tp_ringsRead_pl_giggle (σ : SX) (v : Nat → Int32) : gx_tp_ringsRead (sx_pl_giggle σ v) = gx_tp_ringsRead σ := rfl
theorem px_tp_standsDone_pl_giggle (σ : SX) (v : Nat → Int32) : gx_tp_standsDone (sx_pl_giggle σ v) = gx_tp_standsDone σ := rfl
theorem px_tp_imageKept_pl_giggle (σ : SX) (v : Nat → Int32) : gx_tp_imageKept (sx_pl_giggle σ v) = gx_tp_imageKept σ := rfl
theorem px_pok_pl_giggle (σ : SX) (v : Nat → Int32) (a : Nat) : gx_pok (sx_pl_giggle σ v) a = gx_pok σ a := rfl
theorem px_pg_signs_rd_firstCell (σ : SX) (v : Int32) : gx_pg_signs (sx_rd_firstCell σ v) = gx_pg_signs σ := rfl
theorem px_pg_length_rd_firstCell (σ : SX) (v : Int32) : gx_pg_length (sx_rd_firstCell σ v) = gx_pg_length σ := rfl
theorem px_pg_row_rd_firstCell (σ : SX) (v : Int32) : gx_pg_row (sx_rd_firstCell σ v) = gx_pg_row σ := rfl
theorem px_pg_column_rd_firstCell (σ : SX) (v : Int32) : gx_pg_column (sx_rd_firstCell σ v) = gx_pg_column σ := rfl
theorem px_pg_width_rd_firstCell (σ : SX) (v : Int32) : gx_pg_width (sx_rd_firstCell σ v) = gx_pg_width σ := rfl
theorem px_rg_kinds_rd_firstCell (σ : SX) (v : Int32) : gx_rg_kinds (sx_rd_firstCell σ v) = gx_rg_kinds σ := rfl
theorem px_rg_rows_rd_firstCell (σ : SX) (v : Int32) : gx_rg_rows (sx_rd_firstCell σ v) = gx_rg_rows σ := rfl
theorem px_rg_columns_rd_firstCell (σ : SX) (v : Int32) : gx_rg_columns (sx_rd_firstCell σ v) = gx_rg_columns σ := rfl
theorem px_rg_beside_rd_firstCell (σ : SX) (v : Int32) : gx_rg_beside (sx_rd_firstCell σ v) = gx_rg_beside σ := rfl
theorem px_rg_size_rd_firstCell (σ : SX) (v : Int32) : gx_rg_size (sx_rd_firstCell σ v) = gx_rg_size σ := rfl
theorem px_rg_free_rd_firstCell (σ : SX) (v : Int32) : gx_rg_free (sx_rd_firstCell σ v) = gx_rg_free σ := rfl
theorem px_od_weights_rd_firstCell (σ : SX) (v : Int32) : gx_od_weights (sx_rd_firstCell σ v) = gx_od_weights σ := rfl
theorem px_od_kept_rd_firstCell (σ : SX) (v : Int32) : gx_od_kept (sx_rd_firstCell σ v) = gx_od_kept σ := rfl
theorem px_od_outs_rd_firstCell (σ : SX) (v : Int32) : gx_od_outs (sx_rd_firstCell σ v) = gx_od_outs σ := rfl
theorem px_od_updates_rd_firstCell (σ : SX) (v : Int32) : gx_od_updates (sx_rd_firstCell σ v) = gx_od_updates σ := rfl
theorem px_od_keptUpdates_rd_firstCell (σ : SX) (v : Int32) : gx_od_keptUpdates (sx_rd_firstCell σ v) = gx_od_keptUpdates σ := rfl
theorem px_pl_arr_rd_firstCell (σ : SX) (v : Int32) : gx_pl_arr (sx_rd_firstCell σ v) = gx_pl_arr σ := rfl
theorem px_pl_ex_rd_firstCell (σ : SX) (v : Int32) : gx_pl_ex (sx_rd_firstCell σ v) = gx_pl_ex σ := rfl
theorem px_pl_kd_rd_firstCell (σ : SX) (v : Int32) : gx_pl_kd (sx_rd_firstCell σ v) = gx_pl_kd σ := rfl
theorem px_pl_told_rd_firstCell (σ : SX) (v : Int32) : gx_pl_told (sx_rd_firstCell σ v) = gx_pl_told σ := rfl
theorem px_pl_kept_rd_firstCell (σ : SX) (v : Int32) : gx_pl_kept (sx_rd_firstCell σ v) = gx_pl_kept σ := rfl
theorem px_pl_at_rd_firstCell (σ : SX) (v : Int32) : gx_pl_at (sx_rd_firstCell σ v) = gx_pl_at σ := rfl
theorem px_pl_size_rd_firstCell (σ : SX) (v : Int32) : gx_pl_size (sx_rd_firstCell σ v) = gx_pl_size σ := rfl
theorem px_pl_cloth_rd_firstCell (σ : SX) (v : Int32) : gx_pl_cloth (sx_rd_firstCell σ v) = gx_pl_cloth σ := rfl
theorem px_pl_giggle_rd_firstCell (σ : SX) (v : Int32) : gx_pl_giggle (sx_rd_firstCell σ v) = gx_pl_giggle σ := rfl
theorem px_rd_firstCell_rd_firstCell (σ : SX) (v : Int32) : gx_rd_firstCell (sx_rd_firstCell σ v) = v := rfl
theorem px_rd_firstWay_rd_firstCell (σ : SX) (v : Int32) : gx_rd_firstWay (sx_rd_firstCell σ v) = gx_rd_firstWay σ := rfl
theorem px_rd_drift_rd_firstCell (σ : SX) (v : Int32) : gx_rd_drift (sx_rd_firstCell σ v) = gx_rd_drift σ := rfl
theorem px_rd_tenths_rd_firstCell (σ : SX) (v : Int32) : gx_rd_tenths (sx_rd_firstCell σ v) = gx_rd_tenths σ := rfl
theorem px_rd_hisCell_rd_firstCell (σ : SX) (v : Int32) : gx_rd_hisCell (sx_rd_firstCell σ v) = gx_rd_hisCell σ := rfl
theorem px_rd_hisWay_rd_firstCell (σ : SX) (v : Int32) : gx_rd_hisWay (sx_rd_firstCell σ v) = gx_rd_hisWay σ := rfl
theorem px_rd_tenth_rd_firstCell (σ : SX) (v : Int32) : gx_rd_tenth (sx_rd_firstCell σ v) = gx_rd_tenth σ := rfl
theorem px_rd_touched_rd_firstCell (σ : SX) (v : Int32) : gx_rd_touched (sx_rd_firstCell σ v) = gx_rd_touched σ := rfl
theorem px_rd_seed_rd_firstCell (σ : SX) (v : Int32) : gx_rd_seed (sx_rd_firstCell σ v) = gx_rd_seed σ := rfl
theorem px_nm_weights_rd_firstCell (σ : SX) (v : Int32) : gx_nm_weights (sx_rd_firstCell σ v) = gx_nm_weights σ := rfl
theorem px_nm_sizeOff_rd_firstCell (σ : SX) (v : Int32) : gx_nm_sizeOff (sx_rd_firstCell σ v) = gx_nm_sizeOff σ := rfl
theorem px_nm_clothRight_rd_firstCell (σ : SX) (v : Int32) : gx_nm_clothRight (sx_rd_firstCell σ v) = gx_nm_clothRight σ := rfl
theorem px_nm_giggleRight_rd_firstCell (σ : SX) (v : Int32) : gx_nm_giggleRight (sx_rd_firstCell σ v) = gx_nm_giggleRight σ := rfl
theorem px_nm_first_rd_firstCell (σ : SX) (v : Int32) : gx_nm_first (sx_rd_firstCell σ v) = gx_nm_first σ := rfl
theorem px_nm_second_rd_firstCell (σ : SX) (v : Int32) : gx_nm_second (sx_rd_firstCell σ v) = gx_nm_second σ := rfl
theorem px_nm_changed_rd_firstCell (σ : SX) (v : Int32) : gx_nm_changed (sx_rd_firstCell σ v) = gx_nm_changed σ := rfl
theorem px_nm_keptFirst_rd_firstCell (σ : SX) (v : Int32) : gx_nm_keptFirst (sx_rd_firstCell σ v) = gx_nm_keptFirst σ := rfl
theorem px_nm_keptSecond_rd_firstCell (σ : SX) (v : Int32) : gx_nm_keptSecond (sx_rd_firstCell σ v) = gx_nm_keptSecond σ := rfl
theorem px_nm_keptChanged_rd_firstCell (σ : SX) (v : Int32) : gx_nm_keptChanged (sx_rd_firstCell σ v) = gx_nm_keptChanged σ := rfl
theorem px_tp_playing_rd_firstCell (σ : SX) (v : Int32) : gx_tp_playing (sx_rd_firstCell σ v) = gx_tp_playing σ := rfl
theorem px_tp_ringsRead_rd_firstCell (σ : SX) (v : Int32) : gx_tp_ringsRead (sx_rd_firstCell σ v) = gx_tp_ringsRead σ := rfl
theorem px_tp_standsDone_rd_firstCell (σ : SX) (v : Int32) : gx_tp_standsDone (sx_rd_firstCell σ v) = gx_tp_standsDone σ := rfl
theorem px_tp_imageKept_rd_firstCell (σ : SX) (v : Int32) : gx_tp_imageKept (sx_rd_firstCell σ v) = gx_tp_imageKept σ := rfl
theorem px_pok_rd_firstCell (σ : SX) (v : Int32) (a : Nat) : gx_pok (sx_rd_firstCell σ v) a = gx_pok σ a := rfl
theorem px_pg_signs_rd_firstWay (σ : SX) (v : Int32) : gx_pg_signs (sx_rd_firstWay σ v) = gx_pg_signs σ := rfl
theorem px_pg_length_rd_firstWay (σ : SX) (v : Int32) : gx_pg_length (sx_rd_firstWay σ v) = gx_pg_length σ := rfl
theorem px_pg_row_rd_firstWay (σ : SX) (v : Int32) : gx_pg_row (sx_rd_firstWay σ v) = gx_pg_row σ := rfl
theorem px_pg_column_rd_firstWay (σ : SX) (v : Int32) : gx_pg_column (sx_rd_firstWay σ v) = gx_pg_column σ := rfl
theorem px_pg_width_rd_firstWay (σ : SX) (v : Int32) : gx_pg_width (sx_rd_firstWay σ v) = gx_pg_width σ := rfl
theorem px_rg_kinds_rd_firstWay (σ : SX) (v : Int32) : gx_rg_kinds (sx_rd_firstWay σ v) = gx_rg_kinds σ := rfl
theorem px_rg_rows_rd_firstWay (σ : SX) (v : Int32) : gx_rg_rows (sx_rd_firstWay σ v) = gx_rg_rows σ := rfl
theorem px_rg_columns_rd_firstWay (σ : SX) (v : Int32) : gx_rg_columns (sx_rd_firstWay σ v) = gx_rg_columns σ := rfl
theorem px_rg_beside_rd_firstWay (σ : SX) (v : Int32) : gx_rg_beside (sx_rd_firstWay σ v) = gx_rg_beside σ := rfl
theorem px_rg_size_rd_firstWay (σ : SX) (v : Int32) : gx_rg_size (sx_rd_firstWay σ v) = gx_rg_size σ := rfl
theorem px_rg_free_rd_firstWay (σ : SX) (v : Int32) : gx_rg_free (sx_rd_firstWay σ v) = gx_rg_free σ := rfl
theorem px_od_weights_rd_firstWay (σ : SX) (v : Int32) : gx_od_weights (sx_rd_firstWay σ v) = gx_od_weights σ := rfl
theorem px_od_kept_rd_firstWay (σ : SX) (v : Int32) : gx_od_kept (sx_rd_firstWay σ v) = gx_od_kept σ := rfl
theorem px_od_outs_rd_firstWay (σ : SX) (v : Int32) : gx_od_outs (sx_rd_firstWay σ v) = gx_od_outs σ := rfl
theorem px_od_updates_rd_firstWay (σ : SX) (v : Int32) : gx_od_updates (sx_rd_firstWay σ v) = gx_od_updates σ := rfl
theorem px_od_keptUpdates_rd_firstWay (σ : SX) (v : Int32) : gx_od_keptUpdates (sx_rd_firstWay σ v) = gx_od_keptUpdates σ := rfl
theorem px_pl_arr_rd_firstWay (σ : SX) (v : Int32) : gx_pl_arr (sx_rd_firstWay σ v) = gx_pl_arr σ := rfl
theorem px_pl_ex_rd_firstWay (σ : SX) (v : Int32) : gx_pl_ex (sx_rd_firstWay σ v) = gx_pl_ex σ := rfl
theorem px_pl_kd_rd_firstWay (σ : SX) (v : Int32) : gx_pl_kd (sx_rd_firstWay σ v) = gx_pl_kd σ := rfl
theorem px_pl_told_rd_firstWay (σ : SX) (v : Int32) : gx_pl_told (sx_rd_firstWay σ v) = gx_pl_told σ := rfl
theorem px_pl_kept_rd_firstWay (σ : SX) (v : Int32) : gx_pl_kept (sx_rd_firstWay σ v) = gx_pl_kept σ := rfl
theorem px_pl_at_rd_firstWay (σ : SX) (v : Int32) : gx_pl_at (sx_rd_firstWay σ v) = gx_pl_at σ := rfl
theorem px_pl_size_rd_firstWay (σ : SX) (v : Int32) : gx_pl_size (sx_rd_firstWay σ v) = gx_pl_size σ := rfl
theorem px_pl_cloth_rd_firstWay (σ : SX) (v : Int32) : gx_pl_cloth (sx_rd_firstWay σ v) = gx_pl_cloth σ := rfl
theorem px_pl_giggle_rd_firstWay (σ : SX) (v : Int32) : gx_pl_giggle (sx_rd_firstWay σ v) = gx_pl_giggle σ := rfl
theorem px_rd_firstCell_rd_firstWay (σ : SX) (v : Int32) : gx_rd_firstCell (sx_rd_firstWay σ v) = gx_rd_firstCell σ := rfl
theorem px_rd_firstWay_rd_firstWay (σ : SX) (v : Int32) : gx_rd_firstWay (sx_rd_firstWay σ v) = v := rfl
theorem px_rd_drift_rd_firstWay (σ : SX) (v : Int32) : gx_rd_drift (sx_rd_firstWay σ v) = gx_rd_drift σ := rfl
theorem px_rd_tenths_rd_firstWay (σ : SX) (v : Int32) : gx_rd_tenths (sx_rd_firstWay σ v) = gx_rd_tenths σ := rfl
theorem px_rd_hisCell_rd_firstWay (σ : SX) (v : Int32) : gx_rd_hisCell (sx_rd_firstWay σ v) = gx_rd_hisCell σ := rfl
theorem px_rd_hisWay_rd_firstWay (σ : SX) (v : Int32) : gx_rd_hisWay (sx_rd_firstWay σ v) = gx_rd_hisWay σ := rfl
theorem px_rd_tenth_rd_firstWay (σ : SX) (v : Int32) : gx_rd_tenth (sx_rd_firstWay σ v) = gx_rd_tenth σ := rfl
theorem px_rd_touched_rd_firstWay (σ : SX) (v : Int32) : gx_rd_touched (sx_rd_firstWay σ v) = gx_rd_touched σ := rfl
theorem px_rd_seed_rd_firstWay (σ : SX) (v : Int32) : gx_rd_seed (sx_rd_firstWay σ v) = gx_rd_seed σ := rfl
theorem px_nm_weights_rd_firstWay (σ : SX) (v : Int32) : gx_nm_weights (sx_rd_firstWay σ v) = gx_nm_weights σ := rfl
theorem px_nm_sizeOff_rd_firstWay (σ : SX) (v : Int32) : gx_nm_sizeOff (sx_rd_firstWay σ v) = gx_nm_sizeOff σ := rfl
theorem px_nm_clothRight_rd_firstWay (σ : SX) (v : Int32) : gx_nm_clothRight (sx_rd_firstWay σ v) = gx_nm_clothRight σ := rfl
theorem px_nm_giggleRight_rd_firstWay (σ : SX) (v : Int32) : gx_nm_giggleRight (sx_rd_firstWay σ v) = gx_nm_giggleRight σ := rfl
theorem px_nm_first_rd_firstWay (σ : SX) (v : Int32) : gx_nm_first (sx_rd_firstWay σ v) = gx_nm_first σ := rfl
theorem px_nm_second_rd_firstWay (σ : SX) (v : Int32) : gx_nm_second (sx_rd_firstWay σ v) = gx_nm_second σ := rfl
theorem px_nm_changed_rd_firstWay (σ : SX) (v : Int32) : gx_nm_changed (sx_rd_firstWay σ v) = gx_nm_changed σ := rfl
theorem px_nm_keptFirst_rd_firstWay (σ : SX) (v : Int32) : gx_nm_keptFirst (sx_rd_firstWay σ v) = gx_nm_keptFirst σ := rfl
theorem px_nm_keptSecond_rd_firstWay (σ : SX) (v : Int32) : gx_nm_keptSecond (sx_rd_firstWay σ v) = gx_nm_keptSecond σ := rfl
theorem px_nm_keptChanged_rd_firstWay (σ : SX) (v : Int32) : gx_nm_keptChanged (sx_rd_firstWay σ v) = gx_nm_keptChanged σ := rfl
theorem px_tp_playing_rd_firstWay (σ : SX) (v : Int32) : gx_tp_playing (sx_rd_firstWay σ v) = gx_tp_playing σ := rfl
theorem px_tp_ringsRead_rd_firstWay (σ : SX) (v : Int32) : gx_tp_ringsRead (sx_rd_firstWay σ v) = gx_tp_ringsRead σ := rfl
theorem px_tp_standsDone_rd_firstWay (σ : SX) (v : Int32) : gx_tp_standsDone (sx_rd_firstWay σ v) = gx_tp_standsDone σ := rfl
theorem px_tp_imageKept_rd_firstWay (σ : SX) (v : Int32) : gx_tp_imageKept (sx_rd_firstWay σ v) = gx_tp_imageKept σ := rfl
theorem px_pok_rd_firstWay (σ : SX) (v : Int32) (a : Nat) : gx_pok (sx_rd_firstWay σ v) a = gx_pok σ a := rfl
theorem px_pg_signs_rd_drift (σ : SX) (v : Int32) : gx_pg_signs (sx_rd_drift σ v) = gx_pg_signs σ := rfl
theorem px_pg_length_rd_drift (σ : SX) (v : Int32) : gx_pg_length (sx_rd_drift σ v) = gx_pg_length σ := rfl
theorem px_pg_row_rd_drift (σ : SX) (v : Int32) : gx_pg_row (sx_rd_drift σ v) = gx_pg_row σ := rfl
theorem px_pg_column_rd_drift (σ : SX) (v : Int32) : gx_pg_column (sx_rd_drift σ v) = gx_pg_column σ := rfl
theorem px_pg_width_rd_drift (σ : SX) (v : Int32) : gx_pg_width (sx_rd_drift σ v) = gx_pg_width σ := rfl
theorem px_rg_kinds_rd_drift (σ : SX) (v : Int32) : gx_rg_kinds (sx_rd_drift σ v) = gx_rg_kinds σ := rfl
theorem px_rg_rows_rd_drift (σ : SX) (v : Int32) : gx_rg_rows (sx_rd_drift σ v) = gx_rg_rows σ := rfl
theorem px_rg_columns_rd_drift (σ : SX) (v : Int32) : gx_rg_columns (sx_rd_drift σ v) = gx_rg_columns σ := rfl
theorem px_rg_beside_rd_drift (σ : SX) (v : Int32) : gx_rg_beside (sx_rd_drift σ v) = gx_rg_beside σ := rfl
theorem px_rg_size_rd_drift (σ : SX) (v : Int32) : gx_rg_size (sx_rd_drift σ v) = gx_rg_size σ := rfl
theorem px_rg_free_rd_drift (σ : SX) (v : Int32) : gx_rg_free (sx_rd_drift σ v) = gx_rg_free σ := rfl
theorem px_od_weights_rd_drift (σ : SX) (v : Int32) : gx_od_weights (sx_rd_drift σ v) = gx_od_weights σ := rfl
theorem px_od_kept_rd_drift (σ : SX) (v : Int32) : gx_od_kept (sx_rd_drift σ v) = gx_od_kept σ := rfl
theorem px_od_outs_rd_drift (σ : SX) (v : Int32) : gx_od_outs (sx_rd_drift σ v) = gx_od_outs σ := rfl
theorem px_od_updates_rd_drift (σ : SX) (v : Int32) : gx_od_updates (sx_rd_drift σ v) = gx_od_updates σ := rfl
theorem px_od_keptUpdates_rd_drift (σ : SX) (v : Int32) : gx_od_keptUpdates (sx_rd_drift σ v) = gx_od_keptUpdates σ := rfl
theorem px_pl_arr_rd_drift (σ : SX) (v : Int32) : gx_pl_arr (sx_rd_drift σ v) = gx_pl_arr σ := rfl
theorem px_pl_ex_rd_drift (σ : SX) (v : Int32) : gx_pl_ex (sx_rd_drift σ v) = gx_pl_ex σ := rfl
theorem px_pl_kd_rd_drift (σ : SX) (v : Int32) : gx_pl_kd (sx_rd_drift σ v) = gx_pl_kd σ := rfl
theorem px_pl_told_rd_drift (σ : SX) (v : Int32) : gx_pl_told (sx_rd_drift σ v) = gx_pl_told σ := rfl
theorem px_pl_kept_rd_drift (σ : SX) (v : Int32) : gx_pl_kept (sx_rd_drift σ v) = gx_pl_kept σ := rfl
theorem px_pl_at_rd_drift (σ : SX) (v : Int32) : gx_pl_at (sx_rd_drift σ v) = gx_pl_at σ := rfl
theorem px_pl_size_rd_drift (σ : SX) (v : Int32) : gx_pl_size (sx_rd_drift σ v) = gx_pl_size σ := rfl
theorem px_pl_cloth_rd_drift (σ : SX) (v : Int32) : gx_pl_cloth (sx_rd_drift σ v) = gx_pl_cloth σ := rfl
theorem px_pl_giggle_rd_drift (σ : SX) (v : Int32) : gx_pl_giggle (sx_rd_drift σ v) = gx_pl_giggle σ := rfl
theorem px_rd_firstCell_rd_drift (σ : SX) (v : Int32) : gx_rd_firstCell (sx_rd_drift σ v) = gx_rd_firstCell σ := rfl
theorem px_rd_firstWay_rd_drift (σ : SX) (v : Int32) : gx_rd_firstWay (sx_rd_drift σ v) = gx_rd_firstWay σ := rfl
theorem px_rd_drift_rd_drift (σ : SX) (v : Int32) : gx_rd_drift (sx_rd_drift σ v) = v := rfl
theorem px_rd_tenths_rd_drift (σ : SX) (v : Int32) : gx_rd_tenths (sx_rd_drift σ v) = gx_rd_tenths σ := rfl
theorem px_rd_hisCell_rd_drift (σ : SX) (v : Int32) : gx_rd_hisCell (sx_rd_drift σ v) = gx_rd_hisCell σ := rfl
theorem px_rd_hisWay_rd_drift (σ : SX) (v : Int32) : gx_rd_hisWay (sx_rd_drift σ v) = gx_rd_hisWay σ := rfl
theorem px_rd_tenth_rd_drift (σ : SX) (v : Int32) : gx_rd_tenth (sx_rd_drift σ v) = gx_rd_tenth σ := rfl
theorem px_rd_touched_rd_drift (σ : SX) (v : Int32) : gx_rd_touched (sx_rd_drift σ v) = gx_rd_touched σ := rfl
theorem px_rd_seed_rd_drift (σ : SX) (v : Int32) : gx_rd_seed (sx_rd_drift σ v) = gx_rd_seed σ := rfl
theorem px_nm_weights_rd_drift (σ : SX) (v : Int32) : gx_nm_weights (sx_rd_drift σ v) = gx_nm_weights σ := rfl
theorem px_nm_sizeOff_rd_drift (σ : SX) (v : Int32) : gx_nm_sizeOff (sx_rd_drift σ v) = gx_nm_sizeOff σ := rfl
theorem px_nm_clothRight_rd_drift (σ : SX) (v : Int32) : gx_nm_clothRight (sx_rd_drift σ v) = gx_nm_clothRight σ := rfl
theorem px_nm_giggleRight_rd_drift (σ : SX) (v : Int32) : gx_nm_giggleRight (sx_rd_drift σ v) = gx_nm_giggleRight σ := rfl
theorem px_nm_first_rd_drift (σ : SX) (v : Int32) : gx_nm_first (sx_rd_drift σ v) = gx_nm_first σ := rfl
theorem px_nm_second_rd_drift (σ : SX) (v : Int32) : gx_nm_second (sx_rd_drift σ v) = gx_nm_second σ := rfl
theorem px_nm_changed_rd_drift (σ : SX) (v : Int32) : gx_nm_changed (sx_rd_drift σ v) = gx_nm_changed σ := rfl
theorem px_nm_keptFirst_rd_drift (σ : SX) (v : Int32) : gx_nm_keptFirst (sx_rd_drift σ v) = gx_nm_keptFirst σ := rfl
theorem px_nm_keptSecond_rd_drift (σ : SX) (v : Int32) : gx_nm_keptSecond (sx_rd_drift σ v) = gx_nm_keptSecond σ := rfl
theorem px_nm_keptChanged_rd_drift (σ : SX) (v : Int32) : gx_nm_keptChanged (sx_rd_drift σ v) = gx_nm_keptChanged σ := rfl
theorem px_tp_playing_rd_drift (σ : SX) (v : Int32) : gx_tp_playing (sx_rd_drift σ v) = gx_tp_playing σ := rfl
theorem px_tp_ringsRead_rd_drift (σ : SX) (v : Int32) : gx_tp_ringsRead (sx_rd_drift σ v) = gx_tp_ringsRead σ := rfl
theorem px_tp_standsDone_rd_drift (σ : SX) (v : Int32) : gx_tp_standsDone (sx_rd_drift σ v) = gx_tp_standsDone σ := rfl
theorem px_tp_imageKept_rd_drift (σ : SX) (v : Int32) : gx_tp_imageKept (sx_rd_drift σ v) = gx_tp_imageKept σ := rfl
theorem px_pok_rd_drift (σ : SX) (v : Int32) (a : Nat) : gx_pok (sx_rd_drift σ v) a = gx_pok σ a := rfl
theorem px_pg_signs_rd_tenths (σ : SX) (v : Int32) : gx_pg_signs (sx_rd_tenths σ v) = gx_pg_signs σ := rfl
theorem px_pg_length_rd_tenths (σ : SX) (v : Int32) : gx_pg_length (sx_rd_tenths σ v) = gx_pg_length σ := rfl
theorem px_pg_row_rd_tenths (σ : SX) (v : Int32) : gx_pg_row (sx_rd_tenths σ v) = gx_pg_row σ := rfl
theorem px_pg_column_rd_tenths (σ : SX) (v : Int32) : gx_pg_column (sx_rd_tenths σ v) = gx_pg_column σ := rfl
theorem px_pg_width_rd_tenths (σ : SX) (v : Int32) : gx_pg_width (sx_rd_tenths σ v) = gx_pg_width σ := rfl
theorem px_rg_kinds_rd_tenths (σ : SX) (v : Int32) : gx_rg_kinds (sx_rd_tenths σ v) = gx_rg_kinds σ := rfl
theorem px_rg_rows_rd_tenths (σ : SX) (v : Int32) : gx_rg_rows (sx_rd_tenths σ v) = gx_rg_rows σ := rfl
theorem px_rg_columns_rd_tenths (σ : SX) (v : Int32) : gx_rg_columns (sx_rd_tenths σ v) = gx_rg_columns σ := rfl
theorem px_rg_beside_rd_tenths (σ : SX) (v : Int32) : gx_rg_beside (sx_rd_tenths σ v) = gx_rg_beside σ := rfl
theorem px_rg_size_rd_tenths (σ : SX) (v : Int32) : gx_rg_size (sx_rd_tenths σ v) = gx_rg_size σ := rfl
theorem px_rg_free_rd_tenths (σ : SX) (v : Int32) : gx_rg_free (sx_rd_tenths σ v) = gx_rg_free σ := rfl
theorem px_od_weights_rd_tenths (σ : SX) (v : Int32) : gx_od_weights (sx_rd_tenths σ v) = gx_od_weights σ := rfl
theorem px_od_kept_rd_tenths (σ : SX) (v : Int32) : gx_od_kept (sx_rd_tenths σ v) = gx_od_kept σ := rfl
theorem px_od_outs_rd_tenths (σ : SX) (v : Int32) : gx_od_outs (sx_rd_tenths σ v) = gx_od_outs σ := rfl
theorem px_od_updates_rd_tenths (σ : SX) (v : Int32) : gx_od_updates (sx_rd_tenths σ v) = gx_od_updates σ := rfl
theorem px_od_keptUpdates_rd_tenths (σ : SX) (v : Int32) : gx_od_keptUpdates (sx_rd_tenths σ v) = gx_od_keptUpdates σ := rfl
theorem px_pl_arr_rd_tenths (σ : SX) (v : Int32) : gx_pl_arr (sx_rd_tenths σ v) = gx_pl_arr σ := rfl
theorem px_pl_ex_rd_tenths (σ : SX) (v : Int32) : gx_pl_ex (sx_rd_tenths σ v) = gx_pl_ex σ := rfl
theorem px_pl_kd_rd_tenths (σ : SX) (v : Int32) : gx_pl_kd (sx_rd_tenths σ v) = gx_pl_kd σ := rfl
theorem px_pl_told_rd_tenths (σ : SX) (v : Int32) : gx_pl_told (sx_rd_tenths σ v) = gx_pl_told σ := rfl
theorem px_pl_kept_rd_tenths (σ : SX) (v : Int32) : gx_pl_kept (sx_rd_tenths σ v) = gx_pl_kept σ := rfl
theorem px_pl_at_rd_tenths (σ : SX) (v : Int32) : gx_pl_at (sx_rd_tenths σ v) = gx_pl_at σ := rfl
theorem px_pl_size_rd_tenths (σ : SX) (v : Int32) : gx_pl_size (sx_rd_tenths σ v) = gx_pl_size σ := rfl
theorem px_pl_cloth_rd_tenths (σ : SX) (v : Int32) : gx_pl_cloth (sx_rd_tenths σ v) = gx_pl_cloth σ := rfl
theorem px_pl_giggle_rd_tenths (σ : SX) (v : Int32) : gx_pl_giggle (sx_rd_tenths σ v) = gx_pl_giggle σ := rfl
theorem px_rd_firstCell_rd_tenths (σ : SX) (v : Int32) : gx_rd_firstCell (sx_rd_tenths σ v) = gx_rd_firstCell σ := rfl
theorem px_rd_firstWay_rd_tenths (σ : SX) (v : Int32) : gx_rd_firstWay (sx_rd_tenths σ v) = gx_rd_firstWay σ := rfl
theorem px_rd_drift_rd_tenths (σ : SX) (v : Int32) : gx_rd_drift (sx_rd_tenths σ v) = gx_rd_drift σ := rfl
theorem px_rd_tenths_rd_tenths (σ : SX) (v : Int32) : gx_rd_tenths (sx_rd_tenths σ v) = v := rfl
theorem px_rd_hisCell_rd_tenths (σ : SX) (v : Int32) : gx_rd_hisCell (sx_rd_tenths σ v) = gx_rd_hisCell σ := rfl
theorem px_rd_hisWay_rd_tenths (σ : SX) (v : Int32) : gx_rd_hisWay (sx_rd_tenths σ v) = gx_rd_hisWay σ := rfl
theorem px_rd_tenth_rd_tenths (σ : SX) (v : Int32) : gx_rd_tenth (sx_rd_tenths σ v) = gx_rd_tenth σ := rfl
theorem px_rd_touched_rd_tenths (σ : SX) (v : Int32) : gx_rd_touched (sx_rd_tenths σ v) = gx_rd_touched σ := rfl
theorem px_rd_seed_rd_tenths (σ : SX) (v : Int32) : gx_rd_seed (sx_rd_tenths σ v) = gx_rd_seed σ := rfl
theorem px_nm_weights_rd_tenths (σ : SX) (v : Int32) : gx_nm_weights (sx_rd_tenths σ v) = gx_nm_weights σ := rfl
theorem px_nm_sizeOff_rd_tenths (σ : SX) (v : Int32) : gx_nm_sizeOff (sx_rd_tenths σ v) = gx_nm_sizeOff σ := rfl
theorem px_nm_clothRight_rd_tenths (σ : SX) (v : Int32) : gx_nm_clothRight (sx_rd_tenths σ v) = gx_nm_clothRight σ := rfl
theorem px_nm_giggleRight_rd_tenths (σ : SX) (v : Int32) : gx_nm_giggleRight (sx_rd_tenths σ v) = gx_nm_giggleRight σ := rfl
theorem px_nm_first_rd_tenths (σ : SX) (v : Int32) : gx_nm_first (sx_rd_tenths σ v) = gx_nm_first σ := rfl
theorem px_nm_second_rd_tenths (σ : SX) (v : Int32) : gx_nm_second (sx_rd_tenths σ v) = gx_nm_second σ := rfl
theorem px_nm_changed_rd_tenths (σ : SX) (v : Int32) : gx_nm_changed (sx_rd_tenths σ v) = gx_nm_changed σ := rfl
theorem px_nm_keptFirst_rd_tenths (σ : SX) (v : Int32) : gx_nm_keptFirst (sx_rd_tenths σ v) = gx_nm_keptFirst σ := rfl
theorem px_nm_keptSecond_rd_tenths (σ : SX) (v : Int32) : gx_nm_keptSecond (sx_rd_tenths σ v) = gx_nm_keptSecond σ := rfl
theorem px_nm_keptChanged_rd_tenths (σ : SX) (v : Int32) : gx_nm_keptChanged (sx_rd_tenths σ v) = gx_nm_keptChanged σ := rfl
theorem px_tp_playing_rd_tenths (σ : SX) (v : Int32) : gx_tp_playing (sx_rd_tenths σ v) = gx_tp_playing σ := rfl
theorem px_tp_ringsRead_rd_tenths (σ : SX) (v : Int32) : gx_tp_ringsRead (sx_rd_tenths σ v) = gx_tp_ringsRead σ := rfl
theorem px_tp_standsDone_rd_tenths (σ : SX) (v : Int32) : gx_tp_standsDone (sx_rd_tenths σ v) = gx_tp_standsDone σ := rfl
theorem px_tp_imageKept_rd_tenths (σ : SX) (v : Int32) : gx_tp_imageKept (sx_rd_tenths σ v) = gx_tp_imageKept σ := rfl
theorem px_pok_rd_tenths (σ : SX) (v : Int32) (a : Nat) : gx_pok (sx_rd_tenths σ v) a = gx_pok σ a := rfl
theorem px_pg_signs_rd_hisCell (σ : SX) (v : Int32) : gx_pg_signs (sx_rd_hisCell σ v) = gx_pg_signs σ := rfl
theorem px_pg_length_rd_hisCell (σ : SX) (v : Int32) : gx_pg_length (sx_rd_hisCell σ v) = gx_pg_length σ := rfl
theorem px_pg_row_rd_hisCell (σ : SX) (v : Int32) : gx_pg_row (sx_rd_hisCell σ v) = gx_pg_row σ := rfl
theorem px_pg_column_rd_hisCell (σ : SX) (v : Int32) : gx_pg_column (sx_rd_hisCell σ v) = gx_pg_column σ := rfl
theorem px_pg_width_rd_hisCell (σ : SX) (v : Int32) : gx_pg_width (sx_rd_hisCell σ v) = gx_pg_width σ := rfl
theorem px_rg_kinds_rd_hisCell (σ : SX) (v : Int32) : gx_rg_kinds (sx_rd_hisCell σ v) = gx_rg_kinds σ := rfl
theorem px_rg_rows_rd_hisCell (σ : SX) (v : Int32) : gx_rg_rows (sx_rd_hisCell σ v) = gx_rg_rows σ := rfl
theorem px_rg_columns_rd_hisCell (σ : SX) (v : Int32) : gx_rg_columns (sx_rd_hisCell σ v) = gx_rg_columns σ := rfl
theorem px_rg_beside_rd_hisCell (σ : SX) (v : Int32) : gx_rg_beside (sx_rd_hisCell σ v) = gx_rg_beside σ := rfl
theorem px_rg_size_rd_hisCell (σ : SX) (v : Int32) : gx_rg_size (sx_rd_hisCell σ v) = gx_rg_size σ := rfl
theorem px_rg_free_rd_hisCell (σ : SX) (v : Int32) : gx_rg_free (sx_rd_hisCell σ v) = gx_rg_free σ := rfl
theorem px_od_weights_rd_hisCell (σ : SX) (v : Int32) : gx_od_weights (sx_rd_hisCell σ v) = gx_od_weights σ := rfl
theorem px_od_kept_rd_hisCell (σ : SX) (v : Int32) : gx_od_kept (sx_rd_hisCell σ v) = gx_od_kept σ := rfl
theorem px_od_outs_rd_hisCell (σ : SX) (v : Int32) : gx_od_outs (sx_rd_hisCell σ v) = gx_od_outs σ := rfl
theorem px_od_updates_rd_hisCell (σ : SX) (v : Int32) : gx_od_updates (sx_rd_hisCell σ v) = gx_od_updates σ := rfl
theorem px_od_keptUpdates_rd_hisCell (σ : SX) (v : Int32) : gx_od_keptUpdates (sx_rd_hisCell σ v) = gx_od_keptUpdates σ := rfl
theorem px_pl_arr_rd_hisCell (σ : SX) (v : Int32) : gx_pl_arr (sx_rd_hisCell σ v) = gx_pl_arr σ := rfl
theorem px_pl_ex_rd_hisCell (σ : SX) (v : Int32) : gx_pl_ex (sx_rd_hisCell σ v) = gx_pl_ex σ := rfl
theorem px_pl_kd_rd_hisCell (σ : SX) (v : Int32) : gx_pl_kd (sx_rd_hisCell σ v) = gx_pl_kd σ := rfl
theorem px_pl_told_rd_hisCell (σ : SX) (v : Int32) : gx_pl_told (sx_rd_hisCell σ v) = gx_pl_told σ := rfl
theorem px_pl_kept_rd_hisCell (σ : SX) (v : Int32) : gx_pl_kept (sx_rd_hisCell σ v) = gx_pl_kept σ := rfl
theorem px_pl_at_rd_hisCell (σ : SX) (v : Int32) : gx_pl_at (sx_rd_hisCell σ v) = gx_pl_at σ := rfl
theorem px_pl_size_rd_hisCell (σ : SX) (v : Int32) : gx_pl_size (sx_rd_hisCell σ v) = gx_pl_size σ := rfl
theorem px_pl_cloth_rd_hisCell (σ : SX) (v : Int32) : gx_pl_cloth (sx_rd_hisCell σ v) = gx_pl_cloth σ := rfl
theorem px_pl_giggle_rd_hisCell (σ : SX) (v : Int32) : gx_pl_giggle (sx_rd_hisCell σ v) = gx_pl_giggle σ := rfl
theorem px_rd_firstCell_rd_hisCell (σ : SX) (v : Int32) : gx_rd_firstCell (sx_rd_hisCell σ v) = gx_rd_firstCell σ := rfl
theorem px_rd_firstWay_rd_hisCell (σ : SX) (v : Int32) : gx_rd_firstWay (sx_rd_hisCell σ v) = gx_rd_firstWay σ := rfl
theorem px_rd_drift_rd_hisCell (σ : SX) (v : Int32) : gx_rd_drift (sx_rd_hisCell σ v) = gx_rd_drift σ := rfl
theorem px_rd_tenths_rd_hisCell (σ : SX) (v : Int32) : gx_rd_tenths (sx_rd_hisCell σ v) = gx_rd_tenths σ := rfl
theorem px_rd_hisCell_rd_hisCell (σ : SX) (v : Int32) : gx_rd_hisCell (sx_rd_hisCell σ v) = v := rfl
theorem px_rd_hisWay_rd_hisCell (σ : SX) (v : Int32) : gx_rd_hisWay (sx_rd_hisCell σ v) = gx_rd_hisWay σ := rfl
theorem px_rd_tenth_rd_hisCell (σ : SX) (v : Int32) : gx_rd_tenth (sx_rd_hisCell σ v) = gx_rd_tenth σ := rfl
theorem px_rd_touched_rd_hisCell (σ : SX) (v : Int32) : gx_rd_touched (sx_rd_hisCell σ v) = gx_rd_touched σ := rfl
theorem px_rd_seed_rd_hisCell (σ : SX) (v : Int32) : gx_rd_seed (sx_rd_hisCell σ v) = gx_rd_seed σ := rfl
theorem px_nm_weights_rd_hisCell (σ : SX) (v : Int32) : gx_nm_weights (sx_rd_hisCell σ v) = gx_nm_weights σ := rfl
theorem px_nm_sizeOff_rd_hisCell (σ : SX) (v : Int32) : gx_nm_sizeOff (sx_rd_hisCell σ v) = gx_nm_sizeOff σ := rfl
theorem px_nm_clothRight_rd_hisCell (σ : SX) (v : Int32) : gx_nm_clothRight (sx_rd_hisCell σ v) = gx_nm_clothRight σ := rfl
theorem px_nm_giggleRight_rd_hisCell (σ : SX) (v : Int32) : gx_nm_giggleRight (sx_rd_hisCell σ v) = gx_nm_giggleRight σ := rfl
theorem px_nm_first_rd_hisCell (σ : SX) (v : Int32) : gx_nm_first (sx_rd_hisCell σ v) = gx_nm_first σ := rfl
theorem px_nm_second_rd_hisCell (σ : SX) (v : Int32) : gx_nm_second (sx_rd_hisCell σ v) = gx_nm_second σ := rfl
theorem px_nm_changed_rd_hisCell (σ : SX) (v : Int32) : gx_nm_changed (sx_rd_hisCell σ v) = gx_nm_changed σ := rfl
theorem px_nm_keptFirst_rd_hisCell (σ : SX) (v : Int32) : gx_nm_keptFirst (sx_rd_hisCell σ v) = gx_nm_keptFirst σ := rfl
theorem px_nm_keptSecond_rd_hisCell (σ : SX) (v : Int32) : gx_nm_keptSecond (sx_rd_hisCell σ v) = gx_nm_keptSecond σ := rfl
theorem px_nm_keptChanged_rd_hisCell (σ : SX) (v : Int32) : gx_nm_keptChanged (sx_rd_hisCell σ v) = gx_nm_keptChanged σ := rfl
theorem px_tp_playing_rd_hisCell (σ : SX) (v : Int32) : gx_tp_playing (sx_rd_hisCell σ v) = gx_tp_playing σ := rfl
theorem px_tp_ringsRead_rd_hisCell (σ : SX) (v : Int32) : gx_tp_ringsRead (sx_rd_hisCell σ v) = gx_tp_ringsRead σ := rfl
theorem px_tp_standsDone_rd_hisCell (σ : SX) (v : Int32) : gx_tp_standsDone (sx_rd_hisCell σ v) = gx_tp_standsDone σ := rfl
theorem px_tp_imageKept_rd_hisCell (σ : SX) (v : Int32) : gx_tp_imageKept (sx_rd_hisCell σ v) = gx_tp_imageKept σ := rfl
theorem px_pok_rd_hisCell (σ : SX) (v : Int32) (a : Nat) : gx_pok (sx_rd_hisCell σ v) a = gx_pok σ a := rfl
theorem px_pg_signs_rd_hisWay (σ : SX) (v : Int32) : gx_pg_signs (sx_rd_hisWay σ v) = gx_pg_signs σ := rfl
theorem px_pg_length_rd_hisWay (σ : SX) (v : Int32) : gx_pg_length (sx_rd_hisWay σ v) = gx_pg_length σ := rfl
theorem px_pg_row_rd_hisWay (σ : SX) (v : Int32) : gx_pg_row (sx_rd_hisWay σ v) = gx_pg_row σ := rfl
theorem px_pg_column_rd_hisWay (σ : SX) (v : Int32) : gx_pg_column (sx_rd_hisWay σ v) = gx_pg_column σ := rfl
theorem px_pg_width_rd_hisWay (σ : SX) (v : Int32) : gx_pg_width (sx_rd_hisWay σ v) = gx_pg_width σ := rfl
theorem px_rg_kinds_rd_hisWay (σ : SX) (v : Int32) : gx_rg_kinds (sx_rd_hisWay σ v) = gx_rg_kinds σ := rfl
theorem px_rg_rows_rd_hisWay (σ : SX) (v : Int32) : gx_rg_rows (sx_rd_hisWay σ v) = gx_rg_rows σ := rfl
theorem px_rg_columns_rd_hisWay (σ : SX) (v : Int32) : gx_rg_columns (sx_rd_hisWay σ v) = gx_rg_columns σ := rfl
theorem px_rg_beside_rd_hisWay (σ : SX) (v : Int32) : gx_rg_beside (sx_rd_hisWay σ v) = gx_rg_beside σ := rfl
theorem px_rg_size_rd_hisWay (σ : SX) (v : Int32) : gx_rg_size (sx_rd_hisWay σ v) = gx_rg_size σ := rfl
theorem px_rg_free_rd_hisWay (σ : SX) (v : Int32) : gx_rg_free (sx_rd_hisWay σ v) = gx_rg_free σ := rfl
theorem px_od_weights_rd_hisWay (σ : SX) (v : Int32) : gx_od_weights (sx_rd_hisWay σ v) = gx_od_weights σ := rfl
theorem px_od_kept_rd_hisWay (σ : SX) (v : Int32) : gx_od_kept (sx_rd_hisWay σ v) = gx_od_kept σ := rfl
theorem px_od_outs_rd_hisWay (σ : SX) (v : Int32) : gx_od_outs (sx_rd_hisWay σ v) = gx_od_outs σ := rfl
theorem px_od_updates_rd_hisWay (σ : SX) (v : Int32) : gx_od_updates (sx_rd_hisWay σ v) = gx_od_updates σ := rfl
theorem px_od_keptUpdates_rd_hisWay (σ : SX) (v : Int32) : gx_od_keptUpdates (sx_rd_hisWay σ v) = gx_od_keptUpdates σ := rfl
theorem px_pl_arr_rd_hisWay (σ : SX) (v : Int32) : gx_pl_arr (sx_rd_hisWay σ v) = gx_pl_arr σ := rfl
theorem px_pl_ex_rd_hisWay (σ : SX) (v : Int32) : gx_pl_ex (sx_rd_hisWay σ v) = gx_pl_ex σ := rfl
theorem px_pl_kd_rd_hisWay (σ : SX) (v : Int32) : gx_pl_kd (sx_rd_hisWay σ v) = gx_pl_kd σ := rfl
theorem px_pl_told_rd_hisWay (σ : SX) (v : Int32) : gx_pl_told (sx_rd_hisWay σ v) = gx_pl_told σ := rfl
theorem px_pl_kept_rd_hisWay (σ : SX) (v : Int32) : gx_pl_kept (sx_rd_hisWay σ v) = gx_pl_kept σ := rfl
theorem px_pl_at_rd_hisWay (σ : SX) (v : Int32) : gx_pl_at (sx_rd_hisWay σ v) = gx_pl_at σ := rfl
theorem px_pl_size_rd_hisWay (σ : SX) (v : Int32) : gx_pl_size (sx_rd_hisWay σ v) = gx_pl_size σ := rfl
theorem px_pl_cloth_rd_hisWay (σ : SX) (v : Int32) : gx_pl_cloth (sx_rd_hisWay σ v) = gx_pl_cloth σ := rfl
theorem px_pl_giggle_rd_hisWay (σ : SX) (v : Int32) : gx_pl_giggle (sx_rd_hisWay σ v) = gx_pl_giggle σ := rfl
theorem px_rd_firstCell_rd_hisWay (σ : SX) (v : Int32) : gx_rd_firstCell (sx_rd_hisWay σ v) = gx_rd_firstCell σ := rfl
theorem px_rd_firstWay_rd_hisWay (σ : SX) (v : Int32) : gx_rd_firstWay (sx_rd_hisWay σ v) = gx_rd_firstWay σ := rfl
theorem px_rd_drift_rd_hisWay (σ : SX) (v : Int32) : gx_rd_drift (sx_rd_hisWay σ v) = gx_rd_drift σ := rfl
theorem px_rd_tenths_rd_hisWay (σ : SX) (v : Int32) : gx_rd_tenths (sx_rd_hisWay σ v) = gx_rd_tenths σ := rfl
theorem px_rd_hisCell_rd_hisWay (σ : SX) (v : Int32) : gx_rd_hisCell (sx_rd_hisWay σ v) = gx_rd_hisCell σ := rfl
theorem px_rd_hisWay_rd_hisWay (σ : SX) (v : Int32) : gx_rd_hisWay (sx_rd_hisWay σ v) = v := rfl
theorem px_rd_tenth_rd_hisWay (σ : SX) (v : Int32) : gx_rd_tenth (sx_rd_hisWay σ v) = gx_rd_tenth σ := rfl
theorem px_rd_touched_rd_hisWay (σ : SX) (v : Int32) : gx_rd_touched (sx_rd_hisWay σ v) = gx_rd_touched σ := rfl
theorem px_rd_seed_rd_hisWay (σ : SX) (v : Int32) : gx_rd_seed (sx_rd_hisWay σ v) = gx_rd_seed σ := rfl
theorem px_nm_weights_rd_hisWay (σ : SX) (v : Int32) : gx_nm_weights (sx_rd_hisWay σ v) = gx_nm_weights σ := rfl
theorem px_nm_sizeOff_rd_hisWay (σ : SX) (v : Int32) : gx_nm_sizeOff (sx_rd_hisWay σ v) = gx_nm_sizeOff σ := rfl
theorem px_nm_clothRight_rd_hisWay (σ : SX) (v : Int32) : gx_nm_clothRight (sx_rd_hisWay σ v) = gx_nm_clothRight σ := rfl
theorem px_nm_giggleRight_rd_hisWay (σ : SX) (v : Int32) : gx_nm_giggleRight (sx_rd_hisWay σ v) = gx_nm_giggleRight σ := rfl
theorem px_nm_first_rd_hisWay (σ : SX) (v : Int32) : gx_nm_first (sx_rd_hisWay σ v) = gx_nm_first σ := rfl
theorem px_nm_second_rd_hisWay (σ : SX) (v : Int32) : gx_nm_second (sx_rd_hisWay σ v) = gx_nm_second σ := rfl
theorem px_nm_changed_rd_hisWay (σ : SX) (v : Int32) : gx_nm_changed (sx_rd_hisWay σ v) = gx_nm_changed σ := rfl
theorem px_nm_keptFirst_rd_hisWay (σ : SX) (v : Int32) : gx_nm_keptFirst (sx_rd_hisWay σ v) = gx_nm_keptFirst σ := rfl
theorem px_nm_keptSecond_rd_hisWay (σ : SX) (v : Int32) : gx_nm_keptSecond (sx_rd_hisWay σ v) = gx_nm_keptSecond σ := rfl
theorem px_nm_keptChanged_rd_hisWay (σ : SX) (v : Int32) : gx_nm_keptChanged (sx_rd_hisWay σ v) = gx_nm_keptChanged σ := rfl
theorem px_tp_playing_rd_hisWay (σ : SX) (v : Int32) : gx_tp_playing (sx_rd_hisWay σ v) = gx_tp_playing σ := rfl
theorem px_tp_ringsRead_rd_hisWay (σ : SX) (v : Int32) : gx_tp_ringsRead (sx_rd_hisWay σ v) = gx_tp_ringsRead σ := rfl
theorem px_tp_standsDone_rd_hisWay (σ : SX) (v : Int32) : gx_tp_standsDone (sx_rd_hisWay σ v) = gx_tp_standsDone σ := rfl
theorem px_tp_imageKept_rd_hisWay (σ : SX) (v : Int32) : gx_tp_imageKept (sx_rd_hisWay σ v) = gx_tp_imageKept σ := rfl
theorem px_pok_rd_hisWay (σ : SX) (v : Int32) (a : Nat) : gx_pok (sx_rd_hisWay σ v) a = gx_pok σ a := rfl
theorem px_pg_signs_rd_tenth (σ : SX) (v : Int32) : gx_pg_signs (sx_rd_tenth σ v) = gx_pg_signs σ := rfl
theorem px_pg_length_rd_tenth (σ : SX) (v : Int32) : gx_pg_length (sx_rd_tenth σ v) = gx_pg_length σ := rfl
theorem px_pg_row_rd_tenth (σ : SX) (v : Int32) : gx_pg_row (sx_rd_tenth σ v) = gx_pg_row σ := rfl
theorem px_pg_column_rd_tenth (σ : SX) (v : Int32) : gx_pg_column (sx_rd_tenth σ v) = gx_pg_column σ := rfl
theorem px_pg_width_rd_tenth (σ : SX) (v : Int32) : gx_pg_width (sx_rd_tenth σ v) = gx_pg_width σ := rfl
theorem px_rg_kinds_rd_tenth (σ : SX) (v : Int32) : gx_rg_kinds (sx_rd_tenth σ v) = gx_rg_kinds σ := rfl
theorem px_rg_rows_rd_tenth (σ : SX) (v : Int32) : gx_rg_rows (sx_rd_tenth σ v) = gx_rg_rows σ := rfl
theorem px_rg_columns_rd_tenth (σ : SX) (v : Int32) : gx_rg_columns (sx_rd_tenth σ v) = gx_rg_columns σ := rfl
theorem px_rg_beside_rd_tenth (σ : SX) (v : Int32) : gx_rg_beside (sx_rd_tenth σ v) = gx_rg_beside σ := rfl
theorem px_rg_size_rd_tenth (σ : SX) (v : Int32) : gx_rg_size (sx_rd_tenth σ v) = gx_rg_size σ := rfl
theorem px_rg_free_rd_tenth (σ : SX) (v : Int32) : gx_rg_free (sx_rd_tenth σ v) = gx_rg_free σ := rfl
theorem px_od_weights_rd_tenth (σ : SX) (v : Int32) : gx_od_weights (sx_rd_tenth σ v) = gx_od_weights σ := rfl
theorem px_od_kept_rd_tenth (σ : SX) (v : Int32) : gx_od_kept (sx_rd_tenth σ v) = gx_od_kept σ := rfl
theorem px_od_outs_rd_tenth (σ : SX) (v : Int32) : gx_od_outs (sx_rd_tenth σ v) = gx_od_outs σ := rfl
theorem px_od_updates_rd_tenth (σ : SX) (v : Int32) : gx_od_updates (sx_rd_tenth σ v) = gx_od_updates σ := rfl
theorem px_od_keptUpdates_rd_tenth (σ : SX) (v : Int32) : gx_od_keptUpdates (sx_rd_tenth σ v) = gx_od_keptUpdates σ := rfl
theorem px_pl_arr_rd_tenth (σ : SX) (v : Int32) : gx_pl_arr (sx_rd_tenth σ v) = gx_pl_arr σ := rfl
theorem px_pl_ex_rd_tenth (σ : SX) (v : Int32) : gx_pl_ex (sx_rd_tenth σ v) = gx_pl_ex σ := rfl
theorem px_pl_kd_rd_tenth (σ : SX) (v : Int32) : gx_pl_kd (sx_rd_tenth σ v) = gx_pl_kd σ := rfl
theorem px_pl_told_rd_tenth (σ : SX) (v : Int32) : gx_pl_told (sx_rd_tenth σ v) = gx_pl_told σ := rfl
theorem px_pl_kept_rd_tenth (σ : SX) (v : Int32) : gx_pl_kept (sx_rd_tenth σ v) = gx_pl_kept σ := rfl
theorem px_pl_at_rd_tenth (σ : SX) (v : Int32) : gx_pl_at (sx_rd_tenth σ v) = gx_pl_at σ := rfl
theorem px_pl_size_rd_tenth (σ : SX) (v : Int32) : gx_pl_size (sx_rd_tenth σ v) = gx_pl_size σ := rfl
theorem px_pl_cloth_rd_tenth (σ : SX) (v : Int32) : gx_pl_cloth (sx_rd_tenth σ v) = gx_pl_cloth σ := rfl
theorem px_pl_giggle_rd_tenth (σ : SX) (v : Int32) : gx_pl_giggle (sx_rd_tenth σ v) = gx_pl_giggle σ := rfl
theorem px_rd_firstCell_rd_tenth (σ : SX) (v : Int32) : gx_rd_firstCell (sx_rd_tenth σ v) = gx_rd_firstCell σ := rfl
theorem px_rd_firstWay_rd_tenth (σ : SX) (v : Int32) : gx_rd_firstWay (sx_rd_tenth σ v) = gx_rd_firstWay σ := rfl
theorem px_rd_drift_rd_tenth (σ : SX) (v : Int32) : gx_rd_drift (sx_rd_tenth σ v) = gx_rd_drift σ := rfl
theorem px_rd_tenths_rd_tenth (σ : SX) (v : Int32) : gx_rd_tenths (sx_rd_tenth σ v) = gx_rd_tenths σ := rfl
theorem px_rd_hisCell_rd_tenth (σ : SX) (v : Int32) : gx_rd_hisCell (sx_rd_tenth σ v) = gx_rd_hisCell σ := rfl
theorem px_rd_hisWay_rd_tenth (σ : SX) (v : Int32) : gx_rd_hisWay (sx_rd_tenth σ v) = gx_rd_hisWay σ := rfl
theorem px_rd_tenth_rd_tenth (σ : SX) (v : Int32) : gx_rd_tenth (sx_rd_tenth σ v) = v := rfl
theorem px_rd_touched_rd_tenth (σ : SX) (v : Int32) : gx_rd_touched (sx_rd_tenth σ v) = gx_rd_touched σ := rfl
theorem px_rd_seed_rd_tenth (σ : SX) (v : Int32) : gx_rd_seed (sx_rd_tenth σ v) = gx_rd_seed σ := rfl
theorem px_nm_weights_rd_tenth (σ : SX) (v : Int32) : gx_nm_weights (sx_rd_tenth σ v) = gx_nm_weights σ := rfl
theorem px_nm_sizeOff_rd_tenth (σ : SX) (v : Int32) : gx_nm_sizeOff (sx_rd_tenth σ v) = gx_nm_sizeOff σ := rfl
theorem px_nm_clothRight_rd_tenth (σ : SX) (v : Int32) : gx_nm_clothRight (sx_rd_tenth σ v) = gx_nm_clothRight σ := rfl
theorem px_nm_giggleRight_rd_tenth (σ : SX) (v : Int32) : gx_nm_giggleRight (sx_rd_tenth σ v) = gx_nm_giggleRight σ := rfl
theorem px_nm_first_rd_tenth (σ : SX) (v : Int32) : gx_nm_first (sx_rd_tenth σ v) = gx_nm_first σ := rfl
theorem px_nm_second_rd_tenth (σ : SX) (v : Int32) : gx_nm_second (sx_rd_tenth σ v) = gx_nm_second σ := rfl
theorem px_nm_changed_rd_tenth (σ : SX) (v : Int32) : gx_nm_changed (sx_rd_tenth σ v) = gx_nm_changed σ := rfl
theorem px_nm_keptFirst_rd_tenth (σ : SX) (v : Int32) : gx_nm_keptFirst (sx_rd_tenth σ v) = gx_nm_keptFirst σ := rfl
theorem px_nm_keptSecond_rd_tenth (σ : SX) (v : Int32) : gx_nm_keptSecond (sx_rd_tenth σ v) = gx_nm_keptSecond σ := rfl
theorem px_nm_keptChanged_rd_tenth (σ : SX) (v : Int32) : gx_nm_keptChanged (sx_rd_tenth σ v) = gx_nm_keptChanged σ := rfl
theorem px_tp_playing_rd_tenth (σ : SX) (v : Int32) : gx_tp_playing (sx_rd_tenth σ v) = gx_tp_playing σ := rfl
theorem px_tp_ringsRead_rd_tenth (σ : SX) (v : Int32) : gx_tp_ringsRead (sx_rd_tenth σ v) = gx_tp_ringsRead σ := rfl
theorem px_tp_standsDone_rd_tenth (σ : SX) (v : Int32) : gx_tp_standsDone (sx_rd_tenth σ v) = gx_tp_standsDone σ := rfl
theorem px_tp_imageKept_rd_tenth (σ : SX) (v : Int32) : gx_tp_imageKept (sx_rd_tenth σ v) = gx_tp_imageKept σ := rfl
theorem px_pok_rd_tenth (σ : SX) (v : Int32) (a : Nat) : gx_pok (sx_rd_tenth σ v) a = gx_pok σ a := rfl
theorem px_pg_signs_rd_touched (σ : SX) (v : Int32) : gx_pg_signs (sx_rd_touched σ v) = gx_pg_signs σ := rfl
theorem px_pg_length_rd_touched (σ : SX) (v : Int32) : gx_pg_length (sx_rd_touched σ v) = gx_pg_length σ := rfl
theorem px_pg_row_rd_touched (σ : SX) (v : Int32) : gx_pg_row (sx_rd_touched σ v) = gx_pg_row σ := rfl
theorem px_pg_column_rd_touched (σ : SX) (v : Int32) : gx_pg_column (sx_rd_touched σ v) = gx_pg_column σ := rfl
theorem px_pg_width_rd_touched (σ : SX) (v : Int32) : gx_pg_width (sx_rd_touched σ v) = gx_pg_width σ := rfl
theorem px_rg_kinds_rd_touched (σ : SX) (v : Int32) : gx_rg_kinds (sx_rd_touched σ v) = gx_rg_kinds σ := rfl
theorem px_rg_rows_rd_touched (σ : SX) (v : Int32) : gx_rg_rows (sx_rd_touched σ v) = gx_rg_rows σ := rfl
theorem px_rg_columns_rd_touched (σ : SX) (v : Int32) : gx_rg_columns (sx_rd_touched σ v) = gx_rg_columns σ := rfl
theorem px_rg_beside_rd_touched (σ : SX) (v : Int32) : gx_rg_beside (sx_rd_touched σ v) = gx_rg_beside σ := rfl
theorem px_rg_size_rd_touched (σ : SX) (v : Int32) : gx_rg_size (sx_rd_touched σ v) = gx_rg_size σ := rfl
theorem px_rg_free_rd_touched (σ : SX) (v : Int32) : gx_rg_free (sx_rd_touched σ v) = gx_rg_free σ := rfl
theorem px_od_weights_rd_touched (σ : SX) (v : Int32) : gx_od_weights (sx_rd_touched σ v) = gx_od_weights σ := rfl
theorem px_od_kept_rd_touched (σ : SX) (v : Int32) : gx_od_kept (sx_rd_touched σ v) = gx_od_kept σ := rfl
theorem px_od_outs_rd_touched (σ : SX) (v : Int32) : gx_od_outs (sx_rd_touched σ v) = gx_od_outs σ := rfl
theorem px_od_updates_rd_touched (σ : SX) (v : Int32) : gx_od_updates (sx_rd_touched σ v) = gx_od_updates σ := rfl
theorem px_od_keptUpdates_rd_touched (σ : SX) (v : Int32) : gx_od_keptUpdates (sx_rd_touched σ v) = gx_od_keptUpdates σ := rfl
theorem px_pl_arr_rd_touched (σ : SX) (v : Int32) : gx_pl_arr (sx_rd_touched σ v) = gx_pl_arr σ := rfl
theorem px_pl_ex_rd_touched (σ : SX) (v : Int32) : gx_pl_ex (sx_rd_touched σ v) = gx_pl_ex σ := rfl
theorem px_pl_kd_rd_touched (σ : SX) (v : Int32) : gx_pl_kd (sx_rd_touched σ v) = gx_pl_kd σ := rfl
theorem px_pl_told_rd_touched (σ : SX) (v : Int32) : gx_pl_told (sx_rd_touched σ v) = gx_pl_told σ := rfl
theorem px_pl_kept_rd_touched (σ : SX) (v : Int32) : gx_pl_kept (sx_rd_touched σ v) = gx_pl_kept σ := rfl
theorem px_pl_at_rd_touched (σ : SX) (v : Int32) : gx_pl_at (sx_rd_touched σ v) = gx_pl_at σ := rfl
theorem px_pl_size_rd_touched (σ : SX) (v : Int32) : gx_pl_size (sx_rd_touched σ v) = gx_pl_size σ := rfl
theorem px_pl_cloth_rd_touched (σ : SX) (v : Int32) : gx_pl_cloth (sx_rd_touched σ v) = gx_pl_cloth σ := rfl
theorem px_pl_giggle_rd_touched (σ : SX) (v : Int32) : gx_pl_giggle (sx_rd_touched σ v) = gx_pl_giggle σ := rfl
theorem px_rd_firstCell_rd_touched (σ : SX) (v : Int32) : gx_rd_firstCell (sx_rd_touched σ v) = gx_rd_firstCell σ := rfl
theorem px_rd_firstWay_rd_touched (σ : SX) (v : Int32) : gx_rd_firstWay (sx_rd_touched σ v) = gx_rd_firstWay σ := rfl
theorem px_rd_drift_rd_touched (σ : SX) (v : Int32) : gx_rd_drift (sx_rd_touched σ v) = gx_rd_drift σ := rfl
theorem px_rd_tenths_rd_touched (σ : SX) (v : Int32) : gx_rd_tenths (sx_rd_touched σ v) = gx_rd_tenths σ := rfl
theorem px_rd_hisCell_rd_touched (σ : SX) (v : Int32) : gx_rd_hisCell (sx_rd_touched σ v) = gx_rd_hisCell σ := rfl
theorem px_rd_hisWay_rd_touched (σ : SX) (v : Int32) : gx_rd_hisWay (sx_rd_touched σ v) = gx_rd_hisWay σ := rfl
theorem px_rd_tenth_rd_touched (σ : SX) (v : Int32) : gx_rd_tenth (sx_rd_touched σ v) = gx_rd_tenth σ := rfl
theorem px_rd_touched_rd_touched (σ : SX) (v : Int32) : gx_rd_touched (sx_rd_touched σ v) = v := rfl
theorem px_rd_seed_rd_touched (σ : SX) (v : Int32) : gx_rd_seed (sx_rd_touched σ v) = gx_rd_seed σ := rfl
theorem px_nm_weights_rd_touched (σ : SX) (v : Int32) : gx_nm_weights (sx_rd_touched σ v) = gx_nm_weights σ := rfl
theorem px_nm_sizeOff_rd_touched (σ : SX) (v : Int32) : gx_nm_sizeOff (sx_rd_touched σ v) = gx_nm_sizeOff σ := rfl
theorem px_nm_clothRight_rd_touched (σ : SX) (v : Int32) : gx_nm_clothRight (sx_rd_touched σ v) = gx_nm_clothRight σ := rfl
theorem px_nm_giggleRight_rd_touched (σ : SX) (v : Int32) : gx_nm_giggleRight (sx_rd_touched σ v) = gx_nm_giggleRight σ := rfl
theorem px_nm_first_rd_touched (σ : SX) (v : Int32) : gx_nm_first (sx_rd_touched σ v) = gx_nm_first σ := rfl
theorem px_nm_second_rd_touched (σ : SX) (v : Int32) : gx_nm_second (sx_rd_touched σ v) = gx_nm_second σ := rfl
theorem px_nm_changed_rd_touched (σ : SX) (v : Int32) : gx_nm_changed (sx_rd_touched σ v) = gx_nm_changed σ := rfl
theorem px_nm_keptFirst_rd_touched (σ : SX) (v : Int32) : gx_nm_keptFirst (sx_rd_touched σ v) = gx_nm_keptFirst σ := rfl
theorem px_nm_keptSecond_rd_touched (σ : SX) (v : Int32) : gx_nm_keptSecond (sx_rd_touched σ v) = gx_nm_keptSecond σ := rfl
theorem px_nm_keptChanged_rd_touched (σ : SX) (v : Int32) : gx_nm_keptChanged (sx_rd_touched σ v) = gx_nm_keptChanged σ := rfl
theorem px_tp_playing_rd_touched (σ : SX) (v : Int32) : gx_tp_playing (sx_rd_touched σ v) = gx_tp_playing σ := rfl
theorem px_tp_ringsRead_rd_touched (σ : SX) (v : Int32) : gx_tp_ringsRead (sx_rd_touched σ v) = gx_tp_ringsRead σ := rfl
theorem px_tp_standsDone_rd_touched (σ : SX) (v : Int32) : gx_tp_standsDone (sx_rd_touched σ v) = gx_tp_standsDone σ := rfl
theorem px_tp_imageKept_rd_touched (σ : SX) (v : Int32) : gx_tp_imageKept (sx_rd_touched σ v) = gx_tp_imageKept σ := rfl
theorem px_pok_rd_touched (σ : SX) (v : Int32) (a : Nat) : gx_pok (sx_rd_touched σ v) a = gx_pok σ a := rfl
theorem px_pg_signs_rd_seed (σ : SX) (v : Int64) : gx_pg_signs (sx_rd_seed σ v) = gx_pg_signs σ := rfl
theorem px_pg_length_rd_seed (σ : SX) (v : Int64) : gx_pg_length (sx_rd_seed σ v) = gx_pg_length σ := rfl
theorem px_pg_row_rd_seed (σ : SX) (v : Int64) : gx_pg_row (sx_rd_seed σ v) = gx_pg_row σ := rfl
theorem px_pg_column_rd_seed (σ : SX) (v : Int64) : gx_pg_column (sx_rd_seed σ v) = gx_pg_column σ := rfl
theorem px_pg_width_rd_seed (σ : SX) (v : Int64) : gx_pg_width (sx_rd_seed σ v) = gx_pg_width σ := rfl
theorem px_rg_kinds_rd_seed (σ : SX) (v : Int64) : gx_rg_kinds (sx_rd_seed σ v) = gx_rg_kinds σ := rfl
theorem px_rg_rows_rd_seed (σ : SX) (v : Int64) : gx_rg_rows (sx_rd_seed σ v) = gx_rg_rows σ := rfl
theorem px_rg_columns_rd_seed (σ : SX) (v : Int64) : gx_rg_columns (sx_rd_seed σ v) = gx_rg_columns σ := rfl
theorem px_rg_beside_rd_seed (σ : SX) (v : Int64) : gx_rg_beside (sx_rd_seed σ v) = gx_rg_beside σ := rfl
theorem px_rg_size_rd_seed (σ : SX) (v : Int64) : gx_rg_size (sx_rd_seed σ v) = gx_rg_size σ := rfl
theorem px_rg_free_rd_seed (σ : SX) (v : Int64) : gx_rg_free (sx_rd_seed σ v) = gx_rg_free σ := rfl
theorem px_od_weights_rd_seed (σ : SX) (v : Int64) : gx_od_weights (sx_rd_seed σ v) = gx_od_weights σ := rfl
theorem px_od_kept_rd_seed (σ : SX) (v : Int64) : gx_od_kept (sx_rd_seed σ v) = gx_od_kept σ := rfl
theorem px_od_outs_rd_seed (σ : SX) (v : Int64) : gx_od_outs (sx_rd_seed σ v) = gx_od_outs σ := rfl
theorem px_od_updates_rd_seed (σ : SX) (v : Int64) : gx_od_updates (sx_rd_seed σ v) = gx_od_updates σ := rfl
theorem px_od_keptUpdates_rd_seed (σ : SX) (v : Int64) : gx_od_keptUpdates (sx_rd_seed σ v) = gx_od_keptUpdates σ := rfl
theorem px_pl_arr_rd_seed (σ : SX) (v : Int64) : gx_pl_arr (sx_rd_seed σ v) = gx_pl_arr σ := rfl
theorem px_pl_ex_rd_seed (σ : SX) (v : Int64) : gx_pl_ex (sx_rd_seed σ v) = gx_pl_ex σ := rfl
theorem px_pl_kd_rd_seed (σ : SX) (v : Int64) : gx_pl_kd (sx_rd_seed σ v) = gx_pl_kd σ := rfl
theorem px_pl_told_rd_seed (σ : SX) (v : Int64) : gx_pl_told (sx_rd_seed σ v) = gx_pl_told σ := rfl
theorem px_pl_kept_rd_seed (σ : SX) (v : Int64) : gx_pl_kept (sx_rd_seed σ v) = gx_pl_kept σ := rfl
theorem px_pl_at_rd_seed (σ : SX) (v : Int64) : gx_pl_at (sx_rd_seed σ v) = gx_pl_at σ := rfl
theorem px_pl_size_rd_seed (σ : SX) (v : Int64) : gx_pl_size (sx_rd_seed σ v) = gx_pl_size σ := rfl
theorem px_pl_cloth_rd_seed (σ : SX) (v : Int64) : gx_pl_cloth (sx_rd_seed σ v) = gx_pl_cloth σ := rfl
theorem px_pl_giggle_rd_seed (σ : SX) (v : Int64) : gx_pl_giggle (sx_rd_seed σ v) = gx_pl_giggle σ := rfl
theorem px_rd_firstCell_rd_seed (σ : SX) (v : Int64) : gx_rd_firstCell (sx_rd_seed σ v) = gx_rd_firstCell σ := rfl
theorem px_rd_firstWay_rd_seed (σ : SX) (v : Int64) : gx_rd_firstWay (sx_rd_seed σ v) = gx_rd_firstWay σ := rfl
theorem px_rd_drift_rd_seed (σ : SX) (v : Int64) : gx_rd_drift (sx_rd_seed σ v) = gx_rd_drift σ := rfl
theorem px_rd_tenths_rd_seed (σ : SX) (v : Int64) : gx_rd_tenths (sx_rd_seed σ v) = gx_rd_tenths σ := rfl
theorem px_rd_hisCell_rd_seed (σ : SX) (v : Int64) : gx_rd_hisCell (sx_rd_seed σ v) = gx_rd_hisCell σ := rfl
theorem px_rd_hisWay_rd_seed (σ : SX) (v : Int64) : gx_rd_hisWay (sx_rd_seed σ v) = gx_rd_hisWay σ := rfl
theorem px_rd_tenth_rd_seed (σ : SX) (v : Int64) : gx_rd_tenth (sx_rd_seed σ v) = gx_rd_tenth σ := rfl
theorem px_rd_touched_rd_seed (σ : SX) (v : Int64) : gx_rd_touched (sx_rd_seed σ v) = gx_rd_touched σ := rfl
theorem px_rd_seed_rd_seed (σ : SX) (v : Int64) : gx_rd_seed (sx_rd_seed σ v) = v := rfl
theorem px_nm_weights_rd_seed (σ : SX) (v : Int64) : gx_nm_weights (sx_rd_seed σ v) = gx_nm_weights σ := rfl
theorem px_nm_sizeOff_rd_seed (σ : SX) (v : Int64) : gx_nm_sizeOff (sx_rd_seed σ v) = gx_nm_sizeOff σ := rfl
theorem px_nm_clothRight_rd_seed (σ : SX) (v : Int64) : gx_nm_clothRight (sx_rd_seed σ v) = gx_nm_clothRight σ := rfl
theorem px_nm_giggleRight_rd_seed (σ : SX) (v : Int64) : gx_nm_giggleRight (sx_rd_seed σ v) = gx_nm_giggleRight σ := rfl
theorem px_nm_first_rd_seed (σ : SX) (v : Int64) : gx_nm_first (sx_rd_seed σ v) = gx_nm_first σ := rfl
theorem px_nm_second_rd_seed (σ : SX) (v : Int64) : gx_nm_second (sx_rd_seed σ v) = gx_nm_second σ := rfl
theorem px_nm_changed_rd_seed (σ : SX) (v : Int64) : gx_nm_changed (sx_rd_seed σ v) = gx_nm_changed σ := rfl
theorem px_nm_keptFirst_rd_seed (σ : SX) (v : Int64) : gx_nm_keptFirst (sx_rd_seed σ v) = gx_nm_keptFirst σ := rfl
theorem px_nm_keptSecond_rd_seed (σ : SX) (v : Int64) : gx_nm_keptSecond (sx_rd_seed σ v) = gx_nm_keptSecond σ := rfl
theorem px_nm_keptChanged_rd_seed (σ : SX) (v : Int64) : gx_nm_keptChanged (sx_rd_seed σ v) = gx_nm_keptChanged σ := rfl
theorem px_tp_playing_rd_seed (σ : SX) (v : Int64) : gx_tp_playing (sx_rd_seed σ v) = gx_tp_playing σ := rfl
theorem px_tp_ringsRead_rd_seed (σ : SX) (v : Int64) : gx_tp_ringsRead (sx_rd_seed σ v) = gx_tp_ringsRead σ := rfl
theorem px_tp_standsDone_rd_seed (σ : SX) (v : Int64) : gx_tp_standsDone (sx_rd_seed σ v) = gx_tp_standsDone σ := rfl
theorem px_tp_imageKept_rd_seed (σ : SX) (v : Int64) : gx_tp_imageKept (sx_rd_seed σ v) = gx_tp_imageKept σ := rfl
theorem px_pok_rd_seed (σ : SX) (v : Int64) (a : Nat) : gx_pok (sx_rd_seed σ v) a = gx_pok σ a := rfl
theorem px_pg_signs_nm_weights (σ : SX) (v : Nat → Int32) : gx_pg_signs (sx_nm_weights σ v) = gx_pg_signs σ := rfl
theorem px_pg_length_nm_weights (σ : SX) (v : Nat → Int32) : gx_pg_length (sx_nm_weights σ v) = gx_pg_length σ := rfl
theorem px_pg_row_nm_weights (σ : SX) (v : Nat → Int32) : gx_pg_row (sx_nm_weights σ v) = gx_pg_row σ := rfl
theorem px_pg_column_nm_weights (σ : SX) (v : Nat → Int32) : gx_pg_column (sx_nm_weights σ v) = gx_pg_column σ := rfl
theorem px_pg_width_nm_weights (σ : SX) (v : Nat → Int32) : gx_pg_width (sx_nm_weights σ v) = gx_pg_width σ := rfl
theorem px_rg_kinds_nm_weights (σ : SX) (v : Nat → Int32) : gx_rg_kinds (sx_nm_weights σ v) = gx_rg_kinds σ := rfl
theorem px_rg_rows_nm_weights (σ : SX) (v : Nat → Int32) : gx_rg_rows (sx_nm_weights σ v) = gx_rg_rows σ := rfl
theorem px_rg_columns_nm_weights (σ : SX) (v : Nat → Int32) : gx_rg_columns (sx_nm_weights σ v) = gx_rg_columns σ := rfl
theorem px_rg_beside_nm_weights (σ : SX) (v : Nat → Int32) : gx_rg_beside (sx_nm_weights σ v) = gx_rg_beside σ := rfl
theorem px_rg_size_nm_weights (σ : SX) (v : Nat → Int32) : gx_rg_size (sx_nm_weights σ v) = gx_rg_size σ := rfl
theorem px_rg_free_nm_weights (σ : SX) (v : Nat → Int32) : gx_rg_free (sx_nm_weights σ v) = gx_rg_free σ := rfl
theorem px_od_weights_nm_weights (σ : SX) (v : Nat → Int32) : gx_od_weights (sx_nm_weights σ v) = gx_od_weights σ := rfl
theorem px_od_kept_nm_weights (σ : SX) (v : Nat → Int32) : gx_od_kept (sx_nm_weights σ v) = gx_od_kept σ := rfl
theorem px_od_outs_nm_weights (σ : SX) (v : Nat → Int32) : gx_od_outs (sx_nm_weights σ v) = gx_od_outs σ := rfl
theorem px_od_updates_nm_weights (σ : SX) (v : Nat → Int32) : gx_od_updates (sx_nm_weights σ v) = gx_od_updates σ := rfl
theorem px_od_keptUpdates_nm_weights (σ : SX) (v : Nat → Int32) : gx_od_keptUpdates (sx_nm_weights σ v) = gx_od_keptUpdates σ := rfl
theorem px_pl_arr_nm_weights (σ : SX) (v : Nat → Int32) : gx_pl_arr (sx_nm_weights σ v) = gx_pl_arr σ := rfl
theorem px_pl_ex_nm_weights (σ : SX) (v : Nat → Int32) : gx_pl_ex (sx_nm_weights σ v) = gx_pl_ex σ := rfl
theorem px_pl_kd_nm_weights (σ : SX) (v : Nat → Int32) : gx_pl_kd (sx_nm_weights σ v) = gx_pl_kd σ := rfl
theorem px_pl_told_nm_weights (σ : SX) (v : Nat → Int32) : gx_pl_told (sx_nm_weights σ v) = gx_pl_told σ := rfl
theorem px_pl_kept_nm_weights (σ : SX) (v : Nat → Int32) : gx_pl_kept (sx_nm_weights σ v) = gx_pl_kept σ := rfl
theorem px_pl_at_nm_weights (σ : SX) (v : Nat → Int32) : gx_pl_at (sx_nm_weights σ v) = gx_pl_at σ := rfl
theorem px_pl_size_nm_weights (σ : SX) (v : Nat → Int32) : gx_pl_size (sx_nm_weights σ v) = gx_pl_size σ := rfl
theorem px_pl_cloth_nm_weights (σ : SX) (v : Nat → Int32) : gx_pl_cloth (sx_nm_weights σ v) = gx_pl_cloth σ := rfl
theorem px_pl_giggle_nm_weights (σ : SX) (v : Nat → Int32) : gx_pl_giggle (sx_nm_weights σ v) = gx_pl_giggle σ := rfl
theorem px_rd_firstCell_nm_weights (σ : SX) (v : Nat → Int32) : gx_rd_firstCell (sx_nm_weights σ v) = gx_rd_firstCell σ := rfl
theorem px_rd_firstWay_nm_weights (σ : SX) (v : Nat → Int32) : gx_rd_firstWay (sx_nm_weights σ v) = gx_rd_firstWay σ := rfl
theorem px_rd_drift_nm_weights (σ : SX) (v : Nat → Int32) : gx_rd_drift (sx_nm_weights σ v) = gx_rd_drift σ := rfl
theorem px_rd_tenths_nm_weights (σ : SX) (v : Nat → Int32) : gx_rd_tenths (sx_nm_weights σ v) = gx_rd_tenths σ := rfl
theorem px_rd_hisCell_nm_weights (σ : SX) (v : Nat → Int32) : gx_rd_hisCell (sx_nm_weights σ v) = gx_rd_hisCell σ := rfl
theorem px_rd_hisWay_nm_weights (σ : SX) (v : Nat → Int32) : gx_rd_hisWay (sx_nm_weights σ v) = gx_rd_hisWay σ := rfl
theorem px_rd_tenth_nm_weights (σ : SX) (v : Nat → Int32) : gx_rd_tenth (sx_nm_weights σ v) = gx_rd_tenth σ := rfl
theorem px_rd_touched_nm_weights (σ : SX) (v : Nat → Int32) : gx_rd_touched (sx_nm_weights σ v) = gx_rd_touched σ := rfl
theorem px_rd_seed_nm_weights (σ : SX) (v : Nat → Int32) : gx_rd_seed (sx_nm_weights σ v) = gx_rd_seed σ := rfl
theorem px_nm_weights_nm_weights (σ : SX) (v : Nat → Int32) : gx_nm_weights (sx_nm_weights σ v) = v := rfl
theorem px_nm_sizeOff_nm_weights (σ : SX) (v : Nat → Int32) : gx_nm_sizeOff (sx_nm_weights σ v) = gx_nm_sizeOff σ := rfl
theorem px_nm_clothRight_nm_weights (σ : SX) (v : Nat → Int32) : gx_nm_clothRight (sx_nm_weights σ v) = gx_nm_clothRight σ := rfl
theorem px_nm_giggleRight_nm_weights (σ : SX) (v : Nat → Int32) : gx_nm_giggleRight (sx_nm_weights σ v) = gx_nm_giggleRight σ := rfl
theorem px_nm_first_nm_weights (σ : SX) (v : Nat → Int32) : gx_nm_first (sx_nm_weights σ v) = gx_nm_first σ := rfl
theorem px_nm_second_nm_weights (σ : SX) (v : Nat → Int32) : gx_nm_second (sx_nm_weights σ v) = gx_nm_second σ := rfl
theorem px_nm_changed_nm_weights (σ : SX) (v : Nat → Int32) : gx_nm_changed (sx_nm_weights σ v) = gx_nm_changed σ := rfl
theorem px_nm_keptFirst_nm_weights (σ : SX) (v : Nat → Int32) : gx_nm_keptFirst (sx_nm_weights σ v) = gx_nm_keptFirst σ := rfl
theorem px_nm_keptSecond_nm_weights (σ : SX) (v : Nat → Int32) : gx_nm_keptSecond (sx_nm_weights σ v) = gx_nm_keptSecond σ := rfl
theorem px_nm_keptChanged_nm_weights (σ : SX) (v : Nat → Int32) : gx_nm_keptChanged (sx_nm_weights σ v) = gx_nm_keptChanged σ := rfl
theorem px_tp_playing_nm_weights (σ : SX) (v : Nat → Int32) : gx_tp_playing (sx_nm_weights σ v) = gx_tp_playing σ := rfl
theorem px_tp_ringsRead_nm_weights (σ : SX) (v : Nat → Int32) : gx_tp_ringsRead (sx_nm_weights σ v) = gx_tp_ringsRead σ := rfl
theorem px_tp_standsDone_nm_weights (σ : SX) (v : Nat → Int32) : gx_tp_standsDone (sx_nm_weights σ v) = gx_tp_standsDone σ := rfl
theorem px_tp_imageKept_nm_weights (σ : SX) (v : Nat → Int32) : gx_tp_imageKept (sx_nm_weights σ v) = gx_tp_imageKept σ := rfl
theorem px_pok_nm_weights (σ : SX) (v : Nat → Int32) (a : Nat) : gx_pok (sx_nm_weights σ v) a = gx_pok σ a := rfl
theorem px_pg_signs_nm_sizeOff (σ : SX) (v : Int32) : gx_pg_signs (sx_nm_sizeOff σ v) = gx_pg_signs σ := rfl
theorem px_pg_length_nm_sizeOff (σ : SX) (v : Int32) : gx_pg_length (sx_nm_sizeOff σ v) = gx_pg_length σ := rfl
theorem px_pg_row_nm_sizeOff (σ : SX) (v : Int32) : gx_pg_row (sx_nm_sizeOff σ v) = gx_pg_row σ := rfl
theorem px_pg_column_nm_sizeOff (σ : SX) (v : Int32) : gx_pg_column (sx_nm_sizeOff σ v) = gx_pg_column σ := rfl
theorem px_pg_width_nm_sizeOff (σ : SX) (v : Int32) : gx_pg_width (sx_nm_sizeOff σ v) = gx_pg_width σ := rfl
theorem px_rg_kinds_nm_sizeOff (σ : SX) (v : Int32) : gx_rg_kinds (sx_nm_sizeOff σ v) = gx_rg_kinds σ := rfl
theorem px_rg_rows_nm_sizeOff (σ : SX) (v : Int32) : gx_rg_rows (sx_nm_sizeOff σ v) = gx_rg_rows σ := rfl
theorem px_rg_columns_nm_sizeOff (σ : SX) (v : Int32) : gx_rg_columns (sx_nm_sizeOff σ v) = gx_rg_columns σ := rfl
theorem px_rg_beside_nm_sizeOff (σ : SX) (v : Int32) : gx_rg_beside (sx_nm_sizeOff σ v) = gx_rg_beside σ := rfl
theorem px_rg_size_nm_sizeOff (σ : SX) (v : Int32) : gx_rg_size (sx_nm_sizeOff σ v) = gx_rg_size σ := rfl
theorem px_rg_free_nm_sizeOff (σ : SX) (v : Int32) : gx_rg_free (sx_nm_sizeOff σ v) = gx_rg_free σ := rfl
theorem px_od_weights_nm_sizeOff (σ : SX) (v : Int32) : gx_od_weights (sx_nm_sizeOff σ v) = gx_od_weights σ := rfl
theorem px_od_kept_nm_sizeOff (σ : SX) (v : Int32) : gx_od_kept (sx_nm_sizeOff σ v) = gx_od_kept σ := rfl
theorem px_od_outs_nm_sizeOff (σ : SX) (v : Int32) : gx_od_outs (sx_nm_sizeOff σ v) = gx_od_outs σ := rfl
theorem px_od_updates_nm_sizeOff (σ : SX) (v : Int32) : gx_od_updates (sx_nm_sizeOff σ v) = gx_od_updates σ := rfl
theorem px_od_keptUpdates_nm_sizeOff (σ : SX) (v : Int32) : gx_od_keptUpdates (sx_nm_sizeOff σ v) = gx_od_keptUpdates σ := rfl
theorem px_pl_arr_nm_sizeOff (σ : SX) (v : Int32) : gx_pl_arr (sx_nm_sizeOff σ v) = gx_pl_arr σ := rfl
theorem px_pl_ex_nm_sizeOff (σ : SX) (v : Int32) : gx_pl_ex (sx_nm_sizeOff σ v) = gx_pl_ex σ := rfl
theorem px_pl_kd_nm_sizeOff (σ : SX) (v : Int32) : gx_pl_kd (sx_nm_sizeOff σ v) = gx_pl_kd σ := rfl
theorem px_pl_told_nm_sizeOff (σ : SX) (v : Int32) : gx_pl_told (sx_nm_sizeOff σ v) = gx_pl_told σ := rfl
theorem px_pl_kept_nm_sizeOff (σ : SX) (v : Int32) : gx_pl_kept (sx_nm_sizeOff σ v) = gx_pl_kept σ := rfl
theorem px_pl_at_nm_sizeOff (σ : SX) (v : Int32) : gx_pl_at (sx_nm_sizeOff σ v) = gx_pl_at σ := rfl
theorem px_pl_size_nm_sizeOff (σ : SX) (v : Int32) : gx_pl_size (sx_nm_sizeOff σ v) = gx_pl_size σ := rfl
theorem px_pl_cloth_nm_sizeOff (σ : SX) (v : Int32) : gx_pl_cloth (sx_nm_sizeOff σ v) = gx_pl_cloth σ := rfl
theorem px_pl_giggle_nm_sizeOff (σ : SX) (v : Int32) : gx_pl_giggle (sx_nm_sizeOff σ v) = gx_pl_giggle σ := rfl
theorem px_rd_firstCell_nm_sizeOff (σ : SX) (v : Int32) : gx_rd_firstCell (sx_nm_sizeOff σ v) = gx_rd_firstCell σ := rfl
theorem px_rd_firstWay_nm_sizeOff (σ : SX) (v : Int32) : gx_rd_firstWay (sx_nm_sizeOff σ v) = gx_rd_firstWay σ := rfl
theorem px_rd_drift_nm_sizeOff (σ : SX) (v : Int32) : gx_rd_drift (sx_nm_sizeOff σ v) = gx_rd_drift σ := rfl
theorem px_rd_tenths_nm_sizeOff (σ : SX) (v : Int32) : gx_rd_tenths (sx_nm_sizeOff σ v) = gx_rd_tenths σ := rfl
theorem px_rd_hisCell_nm_sizeOff (σ : SX) (v : Int32) : gx_rd_hisCell (sx_nm_sizeOff σ v) = gx_rd_hisCell σ := rfl
theorem px_rd_hisWay_nm_sizeOff (σ : SX) (v : Int32) : gx_rd_hisWay (sx_nm_sizeOff σ v) = gx_rd_hisWay σ := rfl
theorem px_rd_tenth_nm_sizeOff (σ : SX) (v : Int32) : gx_rd_tenth (sx_nm_sizeOff σ v) = gx_rd_tenth σ := rfl
theorem px_rd_touched_nm_sizeOff (σ : SX) (v : Int32) : gx_rd_touched (sx_nm_sizeOff σ v) = gx_rd_touched σ := rfl
theorem px_rd_seed_nm_sizeOff (σ : SX) (v : Int32) : gx_rd_seed (sx_nm_sizeOff σ v) = gx_rd_seed σ := rfl
theorem px_nm_weights_nm_sizeOff (σ : SX) (v : Int32) : gx_nm_weights (sx_nm_sizeOff σ v) = gx_nm_weights σ := rfl
theorem px_nm_sizeOff_nm_sizeOff (σ : SX) (v : Int32) : gx_nm_sizeOff (sx_nm_sizeOff σ v) = v := rfl
theorem px_nm_clothRight_nm_sizeOff (σ : SX) (v : Int32) : gx_nm_clothRight (sx_nm_sizeOff σ v) = gx_nm_clothRight σ := rfl
theorem px_nm_giggleRight_nm_sizeOff (σ : SX) (v : Int32) : gx_nm_giggleRight (sx_nm_sizeOff σ v) = gx_nm_giggleRight σ := rfl
theorem px_nm_first_nm_sizeOff (σ : SX) (v : Int32) : gx_nm_first (sx_nm_sizeOff σ v) = gx_nm_first σ := rfl
theorem px_nm_second_nm_sizeOff (σ : SX) (v : Int32) : gx_nm_second (sx_nm_sizeOff σ v) = gx_nm_second σ := rfl
theorem px_nm_changed_nm_sizeOff (σ : SX) (v : Int32) : gx_nm_changed (sx_nm_sizeOff σ v) = gx_nm_changed σ := rfl
theorem px_nm_keptFirst_nm_sizeOff (σ : SX) (v : Int32) : gx_nm_keptFirst (sx_nm_sizeOff σ v) = gx_nm_keptFirst σ := rfl
theorem px_nm_keptSecond_nm_sizeOff (σ : SX) (v : Int32) : gx_nm_keptSecond (sx_nm_sizeOff σ v) = gx_nm_keptSecond σ := rfl
theorem px_nm_keptChanged_nm_sizeOff (σ : SX) (v : Int32) : gx_nm_keptChanged (sx_nm_sizeOff σ v) = gx_nm_keptChanged σ := rfl
theorem px_tp_playing_nm_sizeOff (σ : SX) (v : Int32) : gx_tp_playing (sx_nm_sizeOff σ v) = gx_tp_playing σ := rfl
theorem px_tp_ringsRead_nm_sizeOff (σ : SX) (v : Int32) : gx_tp_ringsRead (sx_nm_sizeOff σ v) = gx_tp_ringsRead σ := rfl
theorem px_tp_standsDone_nm_sizeOff (σ : SX) (v : Int32) : gx_tp_standsDone (sx_nm_sizeOff σ v) = gx_tp_standsDone σ := rfl
theorem px_tp_imageKept_nm_sizeOff (σ : SX) (v : Int32) : gx_tp_imageKept (sx_nm_sizeOff σ v) = gx_tp_imageKept σ := rfl
theorem px_pok_nm_sizeOff (σ : SX) (v : Int32) (a : Nat) : gx_pok (sx_nm_sizeOff σ v) a = gx_pok σ a := rfl
theorem px_pg_signs_nm_clothRight (σ : SX) (v : Int32) : gx_pg_signs (sx_nm_clothRight σ v) = gx_pg_signs σ := rfl
theorem px_pg_length_nm_clothRight (σ : SX) (v : Int32) : gx_pg_length (sx_nm_clothRight σ v) = gx_pg_length σ := rfl
theorem px_pg_row_nm_clothRight (σ : SX) (v : Int32) : gx_pg_row (sx_nm_clothRight σ v) = gx_pg_row σ := rfl
theorem px_pg_column_nm_clothRight (σ : SX) (v : Int32) : gx_pg_column (sx_nm_clothRight σ v) = gx_pg_column σ := rfl
theorem px_pg_width_nm_clothRight (σ : SX) (v : Int32) : gx_pg_width (sx_nm_clothRight σ v) = gx_pg_width σ := rfl
theorem px_rg_kinds_nm_clothRight (σ : SX) (v : Int32) : gx_rg_kinds (sx_nm_clothRight σ v) = gx_rg_kinds σ := rfl
theorem px_rg_rows_nm_clothRight (σ : SX) (v : Int32) : gx_rg_rows (sx_nm_clothRight σ v) = gx_rg_rows σ := rfl
theorem px_rg_columns_nm_clothRight (σ : SX) (v : Int32) : gx_rg_columns (sx_nm_clothRight σ v) = gx_rg_columns σ := rfl
theorem px_rg_beside_nm_clothRight (σ : SX) (v : Int32) : gx_rg_beside (sx_nm_clothRight σ v) = gx_rg_beside σ := rfl
theorem px_rg_size_nm_clothRight (σ : SX) (v : Int32) : gx_rg_size (sx_nm_clothRight σ v) = gx_rg_size σ := rfl
theorem px_rg_free_nm_clothRight (σ : SX) (v : Int32) : gx_rg_free (sx_nm_clothRight σ v) = gx_rg_free σ := rfl
theorem px_od_weights_nm_clothRight (σ : SX) (v : Int32) : gx_od_weights (sx_nm_clothRight σ v) = gx_od_weights σ := rfl
theorem px_od_kept_nm_clothRight (σ : SX) (v : Int32) : gx_od_kept (sx_nm_clothRight σ v) = gx_od_kept σ := rfl
theorem px_od_outs_nm_clothRight (σ : SX) (v : Int32) : gx_od_outs (sx_nm_clothRight σ v) = gx_od_outs σ := rfl
theorem px_od_updates_nm_clothRight (σ : SX) (v : Int32) : gx_od_updates (sx_nm_clothRight σ v) = gx_od_updates σ := rfl
theorem px_od_keptUpdates_nm_clothRight (σ : SX) (v : Int32) : gx_od_keptUpdates (sx_nm_clothRight σ v) = gx_od_keptUpdates σ := rfl
theorem px_pl_arr_nm_clothRight (σ : SX) (v : Int32) : gx_pl_arr (sx_nm_clothRight σ v) = gx_pl_arr σ := rfl
theorem px_pl_ex_nm_clothRight (σ : SX) (v : Int32) : gx_pl_ex (sx_nm_clothRight σ v) = gx_pl_ex σ := rfl
theorem px_pl_kd_nm_clothRight (σ : SX) (v : Int32) : gx_pl_kd (sx_nm_clothRight σ v) = gx_pl_kd σ := rfl
theorem px_pl_told_nm_clothRight (σ : SX) (v : Int32) : gx_pl_told (sx_nm_clothRight σ v) = gx_pl_told σ := rfl
theorem px_pl_kept_nm_clothRight (σ : SX) (v : Int32) : gx_pl_kept (sx_nm_clothRight σ v) = gx_pl_kept σ := rfl
theorem px_pl_at_nm_clothRight (σ : SX) (v : Int32) : gx_pl_at (sx_nm_clothRight σ v) = gx_pl_at σ := rfl
theorem px_pl_size_nm_clothRight (σ : SX) (v : Int32) : gx_pl_size (sx_nm_clothRight σ v) = gx_pl_size σ := rfl
theorem px_pl_cloth_nm_clothRight (σ : SX) (v : Int32) : gx_pl_cloth (sx_nm_clothRight σ v) = gx_pl_cloth σ := rfl
theorem px_pl_giggle_nm_clothRight (σ : SX) (v : Int32) : gx_pl_giggle (sx_nm_clothRight σ v) = gx_pl_giggle σ := rfl
theorem px_rd_firstCell_nm_clothRight (σ : SX) (v : Int32) : gx_rd_firstCell (sx_nm_clothRight σ v) = gx_rd_firstCell σ := rfl
theorem px_rd_firstWay_nm_clothRight (σ : SX) (v : Int32) : gx_rd_firstWay (sx_nm_clothRight σ v) = gx_rd_firstWay σ := rfl
theorem px_rd_drift_nm_clothRight (σ : SX) (v : Int32) : gx_rd_drift (sx_nm_clothRight σ v) = gx_rd_drift σ := rfl
theorem px_rd_tenths_nm_clothRight (σ : SX) (v : Int32) : gx_rd_tenths (sx_nm_clothRight σ v) = gx_rd_tenths σ := rfl
theorem px_rd_hisCell_nm_clothRight (σ : SX) (v : Int32) : gx_rd_hisCell (sx_nm_clothRight σ v) = gx_rd_hisCell σ := rfl
theorem px_rd_hisWay_nm_clothRight (σ : SX) (v : Int32) : gx_rd_hisWay (sx_nm_clothRight σ v) = gx_rd_hisWay σ := rfl
theorem px_rd_tenth_nm_clothRight (σ : SX) (v : Int32) : gx_rd_tenth (sx_nm_clothRight σ v) = gx_rd_tenth σ := rfl
theorem px_rd_touched_nm_clothRight (σ : SX) (v : Int32) : gx_rd_touched (sx_nm_clothRight σ v) = gx_rd_touched σ := rfl
theorem px_rd_seed_nm_clothRight (σ : SX) (v : Int32) : gx_rd_seed (sx_nm_clothRight σ v) = gx_rd_seed σ := rfl
theorem px_nm_weights_nm_clothRight (σ : SX) (v : Int32) : gx_nm_weights (sx_nm_clothRight σ v) = gx_nm_weights σ := rfl
theorem px_nm_sizeOff_nm_clothRight (σ : SX) (v : Int32) : gx_nm_sizeOff (sx_nm_clothRight σ v) = gx_nm_sizeOff σ := rfl
theorem px_nm_clothRight_nm_clothRight (σ : SX) (v : Int32) : gx_nm_clothRight (sx_nm_clothRight σ v) = v := rfl
theorem px_nm_giggleRight_nm_clothRight (σ : SX) (v : Int32) : gx_nm_giggleRight (sx_nm_clothRight σ v) = gx_nm_giggleRight σ := rfl
theorem px_nm_first_nm_clothRight (σ : SX) (v : Int32) : gx_nm_first (sx_nm_clothRight σ v) = gx_nm_first σ := rfl
theorem px_nm_second_nm_clothRight (σ : SX) (v : Int32) : gx_nm_second (sx_nm_clothRight σ v) = gx_nm_second σ := rfl
theorem px_nm_changed_nm_clothRight (σ : SX) (v : Int32) : gx_nm_changed (sx_nm_clothRight σ v) = gx_nm_changed σ := rfl
theorem px_nm_keptFirst_nm_clothRight (σ : SX) (v : Int32) : gx_nm_keptFirst (sx_nm_clothRight σ v) = gx_nm_keptFirst σ := rfl
theorem px_nm_keptSecond_nm_clothRight (σ : SX) (v : Int32) : gx_nm_keptSecond (sx_nm_clothRight σ v) = gx_nm_keptSecond σ := rfl
theorem px_nm_keptChanged_nm_clothRight (σ : SX) (v : Int32) : gx_nm_keptChanged (sx_nm_clothRight σ v) = gx_nm_keptChanged σ := rfl
theorem px_tp_playing_nm_clothRight (σ : SX) (v : Int32) : gx_tp_playing (sx_nm_clothRight σ v) = gx_tp_playing σ := rfl
theorem px_tp_ringsRead_nm_clothRight (σ : SX) (v : Int32) : gx_tp_ringsRead (sx_nm_clothRight σ v) = gx_tp_ringsRead σ := rfl
theorem px_tp_standsDone_nm_clothRight (σ : SX) (v : Int32) : gx_tp_standsDone (sx_nm_clothRight σ v) = gx_tp_standsDone σ := rfl
theorem px_tp_imageKept_nm_clothRight (σ : SX) (v : Int32) : gx_tp_imageKept (sx_nm_clothRight σ v) = gx_tp_imageKept σ := rfl
theorem px_pok_nm_clothRight (σ : SX) (v : Int32) (a : Nat) : gx_pok (sx_nm_clothRight σ v) a = gx_pok σ a := rfl
theorem px_pg_signs_nm_giggleRight (σ : SX) (v : Int32) : gx_pg_signs (sx_nm_giggleRight σ v) = gx_pg_signs σ := rfl
theorem px_pg_length_nm_giggleRight (σ : SX) (v : Int32) : gx_pg_length (sx_nm_giggleRight σ v) = gx_pg_length σ := rfl
theorem px_pg_row_nm_giggleRight (σ : SX) (v : Int32) : gx_pg_row (sx_nm_giggleRight σ v) = gx_pg_row σ := rfl
theorem px_pg_column_nm_giggleRight (σ : SX) (v : Int32) : gx_pg_column (sx_nm_giggleRight σ v) = gx_pg_column σ := rfl
theorem px_pg_width_nm_giggleRight (σ : SX) (v : Int32) : gx_pg_width (sx_nm_giggleRight σ v) = gx_pg_width σ := rfl
theorem px_rg_kinds_nm_giggleRight (σ : SX) (v : Int32) : gx_rg_kinds (sx_nm_giggleRight σ v) = gx_rg_kinds σ := rfl
theorem px_rg_rows_nm_giggleRight (σ : SX) (v : Int32) : gx_rg_rows (sx_nm_giggleRight σ v) = gx_rg_rows σ := rfl
theorem px_rg_columns_nm_giggleRight (σ : SX) (v : Int32) : gx_rg_columns (sx_nm_giggleRight σ v) = gx_rg_columns σ := rfl
theorem px_rg_beside_nm_giggleRight (σ : SX) (v : Int32) : gx_rg_beside (sx_nm_giggleRight σ v) = gx_rg_beside σ := rfl
theorem px_rg_size_nm_giggleRight (σ : SX) (v : Int32) : gx_rg_size (sx_nm_giggleRight σ v) = gx_rg_size σ := rfl
theorem px_rg_free_nm_giggleRight (σ : SX) (v : Int32) : gx_rg_free (sx_nm_giggleRight σ v) = gx_rg_free σ := rfl
theorem px_od_weights_nm_giggleRight (σ : SX) (v : Int32) : gx_od_weights (sx_nm_giggleRight σ v) = gx_od_weights σ := rfl
theorem px_od_kept_nm_giggleRight (σ : SX) (v : Int32) : gx_od_kept (sx_nm_giggleRight σ v) = gx_od_kept σ := rfl
theorem px_od_outs_nm_giggleRight (σ : SX) (v : Int32) : gx_od_outs (sx_nm_giggleRight σ v) = gx_od_outs σ := rfl
theorem px_od_updates_nm_giggleRight (σ : SX) (v : Int32) : gx_od_updates (sx_nm_giggleRight σ v) = gx_od_updates σ := rfl
theorem px_od_keptUpdates_nm_giggleRight (σ : SX) (v : Int32) : gx_od_keptUpdates (sx_nm_giggleRight σ v) = gx_od_keptUpdates σ := rfl
theorem px_pl_arr_nm_giggleRight (σ : SX) (v : Int32) : gx_pl_arr (sx_nm_giggleRight σ v) = gx_pl_arr σ := rfl
theorem px_pl_ex_nm_giggleRight (σ : SX) (v : Int32) : gx_pl_ex (sx_nm_giggleRight σ v) = gx_pl_ex σ := rfl
theorem px_pl_kd_nm_giggleRight (σ : SX) (v : Int32) : gx_pl_kd (sx_nm_giggleRight σ v) = gx_pl_kd σ := rfl
theorem px_pl_told_nm_giggleRight (σ : SX) (v : Int32) : gx_pl_told (sx_nm_giggleRight σ v) = gx_pl_told σ := rfl
theorem px_pl_kept_nm_giggleRight (σ : SX) (v : Int32) : gx_pl_kept (sx_nm_giggleRight σ v) = gx_pl_kept σ := rfl
theorem px_pl_at_nm_giggleRight (σ : SX) (v : Int32) : gx_pl_at (sx_nm_giggleRight σ v) = gx_pl_at σ := rfl
theorem px_pl_size_nm_giggleRight (σ : SX) (v : Int32) : gx_pl_size (sx_nm_giggleRight σ v) = gx_pl_size σ := rfl
theorem px_pl_cloth_nm_giggleRight (σ : SX) (v : Int32) : gx_pl_cloth (sx_nm_giggleRight σ v) = gx_pl_cloth σ := rfl
theorem px_pl_giggle_nm_giggleRight (σ : SX) (v : Int32) : gx_pl_giggle (sx_nm_giggleRight σ v) = gx_pl_giggle σ := rfl
theorem px_rd_firstCell_nm_giggleRight (σ : SX) (v : Int32) : gx_rd_firstCell (sx_nm_giggleRight σ v) = gx_rd_firstCell σ := rfl
theorem px_rd_firstWay_nm_giggleRight (σ : SX) (v : Int32) : gx_rd_firstWay (sx_nm_giggleRight σ v) = gx_rd_firstWay σ := rfl
theorem px_rd_drift_nm_giggleRight (σ : SX) (v : Int32) : gx_rd_drift (sx_nm_giggleRight σ v) = gx_rd_drift σ := rfl
theorem px_rd_tenths_nm_giggleRight (σ : SX) (v : Int32) : gx_rd_tenths (sx_nm_giggleRight σ v) = gx_rd_tenths σ := rfl
theorem px_rd_hisCell_nm_giggleRight (σ : SX) (v : Int32) : gx_rd_hisCell (sx_nm_giggleRight σ v) = gx_rd_hisCell σ := rfl
theorem px_rd_hisWay_nm_giggleRight (σ : SX) (v : Int32) : gx_rd_hisWay (sx_nm_giggleRight σ v) = gx_rd_hisWay σ := rfl
theorem px_rd_tenth_nm_giggleRight (σ : SX) (v : Int32) : gx_rd_tenth (sx_nm_giggleRight σ v) = gx_rd_tenth σ := rfl
theorem px_rd_touched_nm_giggleRight (σ : SX) (v : Int32) : gx_rd_touched (sx_nm_giggleRight σ v) = gx_rd_touched σ := rfl
theorem px_rd_seed_nm_giggleRight (σ : SX) (v : Int32) : gx_rd_seed (sx_nm_giggleRight σ v) = gx_rd_seed σ := rfl
theorem px_nm_weights_nm_giggleRight (σ : SX) (v : Int32) : gx_nm_weights (sx_nm_giggleRight σ v) = gx_nm_weights σ := rfl
theorem px_nm_sizeOff_nm_giggleRight (σ : SX) (v : Int32) : gx_nm_sizeOff (sx_nm_giggleRight σ v) = gx_nm_sizeOff σ := rfl
theorem px_nm_clothRight_nm_giggleRight (σ : SX) (v : Int32) : gx_nm_clothRight (sx_nm_giggleRight σ v) = gx_nm_clothRight σ := rfl
theorem px_nm_giggleRight_nm_giggleRight (σ : SX) (v : Int32) : gx_nm_giggleRight (sx_nm_giggleRight σ v) = v := rfl
theorem px_nm_first_nm_giggleRight (σ : SX) (v : Int32) : gx_nm_first (sx_nm_giggleRight σ v) = gx_nm_first σ := rfl
theorem px_nm_second_nm_giggleRight (σ : SX) (v : Int32) : gx_nm_second (sx_nm_giggleRight σ v) = gx_nm_second σ := rfl
theorem px_nm_changed_nm_giggleRight (σ : SX) (v : Int32) : gx_nm_changed (sx_nm_giggleRight σ v) = gx_nm_changed σ := rfl
theorem px_nm_keptFirst_nm_giggleRight (σ : SX) (v : Int32) : gx_nm_keptFirst (sx_nm_giggleRight σ v) = gx_nm_keptFirst σ := rfl
theorem px_nm_keptSecond_nm_giggleRight (σ : SX) (v : Int32) : gx_nm_keptSecond (sx_nm_giggleRight σ v) = gx_nm_keptSecond σ := rfl
theorem px_nm_keptChanged_nm_giggleRight (σ : SX) (v : Int32) : gx_nm_keptChanged (sx_nm_giggleRight σ v) = gx_nm_keptChanged σ := rfl
theorem px_tp_playing_nm_giggleRight (σ : SX) (v : Int32) : gx_tp_playing (sx_nm_giggleRight σ v) = gx_tp_playing σ := rfl
theorem px_tp_ringsRead_nm_giggleRight (σ : SX) (v : Int32) : gx_tp_ringsRead (sx_nm_giggleRight σ v) = gx_tp_ringsRead σ := rfl
theorem px_tp_standsDone_nm_giggleRight (σ : SX) (v : Int32) : gx_tp_standsDone (sx_nm_giggleRight σ v) = gx_tp_standsDone σ := rfl
theorem px_tp_imageKept_nm_giggleRight (σ : SX) (v : Int32) : gx_tp_imageKept (sx_nm_giggleRight σ v) = gx_tp_imageKept σ := rfl
theorem px_pok_nm_giggleRight (σ : SX) (v : Int32) (a : Nat) : gx_pok (sx_nm_giggleRight σ v) a = gx_pok σ a := rfl
theorem px_pg_signs_nm_first (σ : SX) (v : Int32) : gx_pg_signs (sx_nm_first σ v) = gx_pg_signs σ := rfl
theorem px_pg_length_nm_first (σ : SX) (v : Int32) : gx_pg_length (sx_nm_first σ v) = gx_pg_length σ := rfl
theorem px_pg_row_nm_first (σ : SX) (v : Int32) : gx_pg_row (sx_nm_first σ v) = gx_pg_row σ := rfl
theorem px_pg_column_nm_first (σ : SX) (v : Int32) : gx_pg_column (sx_nm_first σ v) = gx_pg_column σ := rfl
theorem px_pg_width_nm_first (σ : SX) (v : Int32) : gx_pg_width (sx_nm_first σ v) = gx_pg_width σ := rfl
theorem px_rg_kinds_nm_first (σ : SX) (v : Int32) : gx_rg_kinds (sx_nm_first σ v) = gx_rg_kinds σ := rfl
theorem px_rg_rows_nm_first (σ : SX) (v : Int32) : gx_rg_rows (sx_nm_first σ v) = gx_rg_rows σ := rfl
theorem px_rg_columns_nm_first (σ : SX) (v : Int32) : gx_rg_columns (sx_nm_first σ v) = gx_rg_columns σ := rfl
theorem px_rg_beside_nm_first (σ : SX) (v : Int32) : gx_rg_beside (sx_nm_first σ v) = gx_rg_beside σ := rfl
theorem px_rg_size_nm_first (σ : SX) (v : Int32) : gx_rg_size (sx_nm_first σ v) = gx_rg_size σ := rfl
theorem px_rg_free_nm_first (σ : SX) (v : Int32) : gx_rg_free (sx_nm_first σ v) = gx_rg_free σ := rfl
theorem px_od_weights_nm_first (σ : SX) (v : Int32) : gx_od_weights (sx_nm_first σ v) = gx_od_weights σ := rfl
theorem px_od_kept_nm_first (σ : SX) (v : Int32) : gx_od_kept (sx_nm_first σ v) = gx_od_kept σ := rfl
theorem px_od_outs_nm_first (σ : SX) (v : Int32) : gx_od_outs (sx_nm_first σ v) = gx_od_outs σ := rfl
theorem px_od_updates_nm_first (σ : SX) (v : Int32) : gx_od_updates (sx_nm_first σ v) = gx_od_updates σ := rfl
theorem px_od_keptUpdates_nm_first (σ : SX) (v : Int32) : gx_od_keptUpdates (sx_nm_first σ v) = gx_od_keptUpdates σ := rfl
theorem px_pl_arr_nm_first (σ : SX) (v : Int32) : gx_pl_arr (sx_nm_first σ v) = gx_pl_arr σ := rfl
theorem px_pl_ex_nm_first (σ : SX) (v : Int32) : gx_pl_ex (sx_nm_first σ v) = gx_pl_ex σ := rfl
theorem px_pl_kd_nm_first (σ : SX) (v : Int32) : gx_pl_kd (sx_nm_first σ v) = gx_pl_kd σ := rfl
theorem px_pl_told_nm_first (σ : SX) (v : Int32) : gx_pl_told (sx_nm_first σ v) = gx_pl_told σ := rfl
theorem px_pl_kept_nm_first (σ : SX) (v : Int32) : gx_pl_kept (sx_nm_first σ v) = gx_pl_kept σ := rfl
theorem px_pl_at_nm_first (σ : SX) (v : Int32) : gx_pl_at (sx_nm_first σ v) = gx_pl_at σ := rfl
theorem px_pl_size_nm_first (σ : SX) (v : Int32) : gx_pl_size (sx_nm_first σ v) = gx_pl_size σ := rfl
theorem px_pl_cloth_nm_first (σ : SX) (v : Int32) : gx_pl_cloth (sx_nm_first σ v) = gx_pl_cloth σ := rfl
theorem px_pl_giggle_nm_first (σ : SX) (v : Int32) : gx_pl_giggle (sx_nm_first σ v) = gx_pl_giggle σ := rfl
theorem px_rd_firstCell_nm_first (σ : SX) (v : Int32) : gx_rd_firstCell (sx_nm_first σ v) = gx_rd_firstCell σ := rfl
theorem px_rd_firstWay_nm_first (σ : SX) (v : Int32) : gx_rd_firstWay (sx_nm_first σ v) = gx_rd_firstWay σ := rfl
theorem px_rd_drift_nm_first (σ : SX) (v : Int32) : gx_rd_drift (sx_nm_first σ v) = gx_rd_drift σ := rfl
theorem px_rd_tenths_nm_first (σ : SX) (v : Int32) : gx_rd_tenths (sx_nm_first σ v) = gx_rd_tenths σ := rfl
theorem px_rd_hisCell_nm_first (σ : SX) (v : Int32) : gx_rd_hisCell (sx_nm_first σ v) = gx_rd_hisCell σ := rfl
theorem px_rd_hisWay_nm_first (σ : SX) (v : Int32) : gx_rd_hisWay (sx_nm_first σ v) = gx_rd_hisWay σ := rfl
theorem px_rd_tenth_nm_first (σ : SX) (v : Int32) : gx_rd_tenth (sx_nm_first σ v) = gx_rd_tenth σ := rfl
theorem px_rd_touched_nm_first (σ : SX) (v : Int32) : gx_rd_touched (sx_nm_first σ v) = gx_rd_touched σ := rfl
theorem px_rd_seed_nm_first (σ : SX) (v : Int32) : gx_rd_seed (sx_nm_first σ v) = gx_rd_seed σ := rfl
theorem px_nm_weights_nm_first (σ : SX) (v : Int32) : gx_nm_weights (sx_nm_first σ v) = gx_nm_weights σ := rfl
theorem px_nm_sizeOff_nm_first (σ : SX) (v : Int32) : gx_nm_sizeOff (sx_nm_first σ v) = gx_nm_sizeOff σ := rfl
theorem px_nm_clothRight_nm_first (σ : SX) (v : Int32) : gx_nm_clothRight (sx_nm_first σ v) = gx_nm_clothRight σ := rfl
theorem px_nm_giggleRight_nm_first (σ : SX) (v : Int32) : gx_nm_giggleRight (sx_nm_first σ v) = gx_nm_giggleRight σ := rfl
theorem px_nm_first_nm_first (σ : SX) (v : Int32) : gx_nm_first (sx_nm_first σ v) = v := rfl
theorem px_nm_second_nm_first (σ : SX) (v : Int32) : gx_nm_second (sx_nm_first σ v) = gx_nm_second σ := rfl
theorem px_nm_changed_nm_first (σ : SX) (v : Int32) : gx_nm_changed (sx_nm_first σ v) = gx_nm_changed σ := rfl
theorem px_nm_keptFirst_nm_first (σ : SX) (v : Int32) : gx_nm_keptFirst (sx_nm_first σ v) = gx_nm_keptFirst σ := rfl
theorem px_nm_keptSecond_nm_first (σ : SX) (v : Int32) : gx_nm_keptSecond (sx_nm_first σ v) = gx_nm_keptSecond σ := rfl
theorem px_nm_keptChanged_nm_first (σ : SX) (v : Int32) : gx_nm_keptChanged (sx_nm_first σ v) = gx_nm_keptChanged σ := rfl
theorem px_tp_playing_nm_first (σ : SX) (v : Int32) : gx_tp_playing (sx_nm_first σ v) = gx_tp_playing σ := rfl
theorem px_tp_ringsRead_nm_first (σ : SX) (v : Int32) : gx_tp_ringsRead (sx_nm_first σ v) = gx_tp_ringsRead σ := rfl
theorem px_tp_standsDone_nm_first (σ : SX) (v : Int32) : gx_tp_standsDone (sx_nm_first σ v) = gx_tp_standsDone σ := rfl
theorem px_tp_imageKept_nm_first (σ : SX) (v : Int32) : gx_tp_imageKept (sx_nm_first σ v) = gx_tp_imageKept σ := rfl
theorem px_pok_nm_first (σ : SX) (v : Int32) (a : Nat) : gx_pok (sx_nm_first σ v) a = gx_pok σ a := rfl
theorem px_pg_signs_nm_second (σ : SX) (v : Int32) : gx_pg_signs (sx_nm_second σ v) = gx_pg_signs σ := rfl
theorem px_pg_length_nm_second (σ : SX) (v : Int32) : gx_pg_length (sx_nm_second σ v) = gx_pg_length σ := rfl
theorem px_pg_row_nm_second (σ : SX) (v : Int32) : gx_pg_row (sx_nm_second σ v) = gx_pg_row σ := rfl
theorem px_pg_column_nm_second (σ : SX) (v : Int32) : gx_pg_column (sx_nm_second σ v) = gx_pg_column σ := rfl
theorem px_pg_width_nm_second (σ : SX) (v : Int32) : gx_pg_width (sx_nm_second σ v) = gx_pg_width σ := rfl
theorem px_rg_kinds_nm_second (σ : SX) (v : Int32) : gx_rg_kinds (sx_nm_second σ v) = gx_rg_kinds σ := rfl
theorem px_rg_rows_nm_second (σ : SX) (v : Int32) : gx_rg_rows (sx_nm_second σ v) = gx_rg_rows σ := rfl
theorem px_rg_columns_nm_second (σ : SX) (v : Int32) : gx_rg_columns (sx_nm_second σ v) = gx_rg_columns σ := rfl
theorem px_rg_beside_nm_second (σ : SX) (v : Int32) : gx_rg_beside (sx_nm_second σ v) = gx_rg_beside σ := rfl
theorem px_rg_size_nm_second (σ : SX) (v : Int32) : gx_rg_size (sx_nm_second σ v) = gx_rg_size σ := rfl
theorem px_rg_free_nm_second (σ : SX) (v : Int32) : gx_rg_free (sx_nm_second σ v) = gx_rg_free σ := rfl
theorem px_od_weights_nm_second (σ : SX) (v : Int32) : gx_od_weights (sx_nm_second σ v) = gx_od_weights σ := rfl
theorem px_od_kept_nm_second (σ : SX) (v : Int32) : gx_od_kept (sx_nm_second σ v) = gx_od_kept σ := rfl
theorem px_od_outs_nm_second (σ : SX) (v : Int32) : gx_od_outs (sx_nm_second σ v) = gx_od_outs σ := rfl
theorem px_od_updates_nm_second (σ : SX) (v : Int32) : gx_od_updates (sx_nm_second σ v) = gx_od_updates σ := rfl
theorem px_od_keptUpdates_nm_second (σ : SX) (v : Int32) : gx_od_keptUpdates (sx_nm_second σ v) = gx_od_keptUpdates σ := rfl
theorem px_pl_arr_nm_second (σ : SX) (v : Int32) : gx_pl_arr (sx_nm_second σ v) = gx_pl_arr σ := rfl
theorem px_pl_ex_nm_second (σ : SX) (v : Int32) : gx_pl_ex (sx_nm_second σ v) = gx_pl_ex σ := rfl
theorem px_pl_kd_nm_second (σ : SX) (v : Int32) : gx_pl_kd (sx_nm_second σ v) = gx_pl_kd σ := rfl
theorem px_pl_told_nm_second (σ : SX) (v : Int32) : gx_pl_told (sx_nm_second σ v) = gx_pl_told σ := rfl
theorem px_pl_kept_nm_second (σ : SX) (v : Int32) : gx_pl_kept (sx_nm_second σ v) = gx_pl_kept σ := rfl
theorem px_pl_at_nm_second (σ : SX) (v : Int32) : gx_pl_at (sx_nm_second σ v) = gx_pl_at σ := rfl
theorem px_pl_size_nm_second (σ : SX) (v : Int32) : gx_pl_size (sx_nm_second σ v) = gx_pl_size σ := rfl
theorem px_pl_cloth_nm_second (σ : SX) (v : Int32) : gx_pl_cloth (sx_nm_second σ v) = gx_pl_cloth σ := rfl
theorem px_pl_giggle_nm_second (σ : SX) (v : Int32) : gx_pl_giggle (sx_nm_second σ v) = gx_pl_giggle σ := rfl
theorem px_rd_firstCell_nm_second (σ : SX) (v : Int32) : gx_rd_firstCell (sx_nm_second σ v) = gx_rd_firstCell σ := rfl
theorem px_rd_firstWay_nm_second (σ : SX) (v : Int32) : gx_rd_firstWay (sx_nm_second σ v) = gx_rd_firstWay σ := rfl
theorem px_rd_drift_nm_second (σ : SX) (v : Int32) : gx_rd_drift (sx_nm_second σ v) = gx_rd_drift σ := rfl
theorem px_rd_tenths_nm_second (σ : SX) (v : Int32) : gx_rd_tenths (sx_nm_second σ v) = gx_rd_tenths σ := rfl
theorem px_rd_hisCell_nm_second (σ : SX) (v : Int32) : gx_rd_hisCell (sx_nm_second σ v) = gx_rd_hisCell σ := rfl
theorem px_rd_hisWay_nm_second (σ : SX) (v : Int32) : gx_rd_hisWay (sx_nm_second σ v) = gx_rd_hisWay σ := rfl
theorem px_rd_tenth_nm_second (σ : SX) (v : Int32) : gx_rd_tenth (sx_nm_second σ v) = gx_rd_tenth σ := rfl
theorem px_rd_touched_nm_second (σ : SX) (v : Int32) : gx_rd_touched (sx_nm_second σ v) = gx_rd_touched σ := rfl
theorem px_rd_seed_nm_second (σ : SX) (v : Int32) : gx_rd_seed (sx_nm_second σ v) = gx_rd_seed σ := rfl
theorem px_nm_weights_nm_second (σ : SX) (v : Int32) : gx_nm_weights (sx_nm_second σ v) = gx_nm_weights σ := rfl
theorem px_nm_sizeOff_nm_second (σ : SX) (v : Int32) : gx_nm_sizeOff (sx_nm_second σ v) = gx_nm_sizeOff σ := rfl
theorem px_nm_clothRight_nm_second (σ : SX) (v : Int32) : gx_nm_clothRight (sx_nm_second σ v) = gx_nm_clothRight σ := rfl
theorem px_nm_giggleRight_nm_second (σ : SX) (v : Int32) : gx_nm_giggleRight (sx_nm_second σ v) = gx_nm_giggleRight σ := rfl
theorem px_nm_first_nm_second (σ : SX) (v : Int32) : gx_nm_first (sx_nm_second σ v) = gx_nm_first σ := rfl
theorem px_nm_second_nm_second (σ : SX) (v : Int32) : gx_nm_second (sx_nm_second σ v) = v := rfl
theorem px_nm_changed_nm_second (σ : SX) (v : Int32) : gx_nm_changed (sx_nm_second σ v) = gx_nm_changed σ := rfl
theorem px_nm_keptFirst_nm_second (σ : SX) (v : Int32) : gx_nm_keptFirst (sx_nm_second σ v) = gx_nm_keptFirst σ := rfl
theorem px_nm_keptSecond_nm_second (σ : SX) (v : Int32) : gx_nm_keptSecond (sx_nm_second σ v) = gx_nm_keptSecond σ := rfl
theorem px_nm_keptChanged_nm_second (σ : SX) (v : Int32) : gx_nm_keptChanged (sx_nm_second σ v) = gx_nm_keptChanged σ := rfl
theorem px_tp_playing_nm_second (σ : SX) (v : Int32) : gx_tp_playing (sx_nm_second σ v) = gx_tp_playing σ := rfl
theorem px_tp_ringsRead_nm_second (σ : SX) (v : Int32) : gx_tp_ringsRead (sx_nm_second σ v) = gx_tp_ringsRead σ := rfl
theorem px_tp_standsDone_nm_second (σ : SX) (v : Int32) : gx_tp_standsDone (sx_nm_second σ v) = gx_tp_standsDone σ := rfl
theorem px_tp_imageKept_nm_second (σ : SX) (v : Int32) : gx_tp_imageKept (sx_nm_second σ v) = gx_tp_imageKept σ := rfl
theorem px_pok_nm_second (σ : SX) (v : Int32) (a : Nat) : gx_pok (sx_nm_second σ v) a = gx_pok σ a := rfl
theorem px_pg_signs_nm_changed (σ : SX) (v : Int32) : gx_pg_signs (sx_nm_changed σ v) = gx_pg_signs σ := rfl
theorem px_pg_length_nm_changed (σ : SX) (v : Int32) : gx_pg_length (sx_nm_changed σ v) = gx_pg_length σ := rfl
theorem px_pg_row_nm_changed (σ : SX) (v : Int32) : gx_pg_row (sx_nm_changed σ v) = gx_pg_row σ := rfl
theorem px_pg_column_nm_changed (σ : SX) (v : Int32) : gx_pg_column (sx_nm_changed σ v) = gx_pg_column σ := rfl
theorem px_pg_width_nm_changed (σ : SX) (v : Int32) : gx_pg_width (sx_nm_changed σ v) = gx_pg_width σ := rfl
theorem px_rg_kinds_nm_changed (σ : SX) (v : Int32) : gx_rg_kinds (sx_nm_changed σ v) = gx_rg_kinds σ := rfl
theorem px_rg_rows_nm_changed (σ : SX) (v : Int32) : gx_rg_rows (sx_nm_changed σ v) = gx_rg_rows σ := rfl
theorem px_rg_columns_nm_changed (σ : SX) (v : Int32) : gx_rg_columns (sx_nm_changed σ v) = gx_rg_columns σ := rfl
theorem px_rg_beside_nm_changed (σ : SX) (v : Int32) : gx_rg_beside (sx_nm_changed σ v) = gx_rg_beside σ := rfl
theorem px_rg_size_nm_changed (σ : SX) (v : Int32) : gx_rg_size (sx_nm_changed σ v) = gx_rg_size σ := rfl
theorem px_rg_free_nm_changed (σ : SX) (v : Int32) : gx_rg_free (sx_nm_changed σ v) = gx_rg_free σ := rfl
theorem px_od_weights_nm_changed (σ : SX) (v : Int32) : gx_od_weights (sx_nm_changed σ v) = gx_od_weights σ := rfl
theorem px_od_kept_nm_changed (σ : SX) (v : Int32) : gx_od_kept (sx_nm_changed σ v) = gx_od_kept σ := rfl
theorem px_od_outs_nm_changed (σ : SX) (v : Int32) : gx_od_outs (sx_nm_changed σ v) = gx_od_outs σ := rfl
theorem px_od_updates_nm_changed (σ : SX) (v : Int32) : gx_od_updates (sx_nm_changed σ v) = gx_od_updates σ := rfl
theorem px_od_keptUpdates_nm_changed (σ : SX) (v : Int32) : gx_od_keptUpdates (sx_nm_changed σ v) = gx_od_keptUpdates σ := rfl
theorem px_pl_arr_nm_changed (σ : SX) (v : Int32) : gx_pl_arr (sx_nm_changed σ v) = gx_pl_arr σ := rfl
theorem px_pl_ex_nm_changed (σ : SX) (v : Int32) : gx_pl_ex (sx_nm_changed σ v) = gx_pl_ex σ := rfl
theorem px_pl_kd_nm_changed (σ : SX) (v : Int32) : gx_pl_kd (sx_nm_changed σ v) = gx_pl_kd σ := rfl
theorem px_pl_told_nm_changed (σ : SX) (v : Int32) : gx_pl_told (sx_nm_changed σ v) = gx_pl_told σ := rfl
theorem px_pl_kept_nm_changed (σ : SX) (v : Int32) : gx_pl_kept (sx_nm_changed σ v) = gx_pl_kept σ := rfl
theorem px_pl_at_nm_changed (σ : SX) (v : Int32) : gx_pl_at (sx_nm_changed σ v) = gx_pl_at σ := rfl
theorem px_pl_size_nm_changed (σ : SX) (v : Int32) : gx_pl_size (sx_nm_changed σ v) = gx_pl_size σ := rfl
theorem px_pl_cloth_nm_changed (σ : SX) (v : Int32) : gx_pl_cloth (sx_nm_changed σ v) = gx_pl_cloth σ := rfl
theorem px_pl_giggle_nm_changed (σ : SX) (v : Int32) : gx_pl_giggle (sx_nm_changed σ v) = gx_pl_giggle σ := rfl
theorem px_rd_firstCell_nm_changed (σ : SX) (v : Int32) : gx_rd_firstCell (sx_nm_changed σ v) = gx_rd_firstCell σ := rfl
theorem px_rd_firstWay_nm_changed (σ : SX) (v : Int32) : gx_rd_firstWay (sx_nm_changed σ v) = gx_rd_firstWay σ := rfl
theorem px_rd_drift_nm_changed (σ : SX) (v : Int32) : gx_rd_drift (sx_nm_changed σ v) = gx_rd_drift σ := rfl
theorem px_rd_tenths_nm_changed (σ : SX) (v : Int32) : gx_rd_tenths (sx_nm_changed σ v) = gx_rd_tenths σ := rfl
theorem px_rd_hisCell_nm_changed (σ : SX) (v : Int32) : gx_rd_hisCell (sx_nm_changed σ v) = gx_rd_hisCell σ := rfl
theorem px_rd_hisWay_nm_changed (σ : SX) (v : Int32) : gx_rd_hisWay (sx_nm_changed σ v) = gx_rd_hisWay σ := rfl
theorem px_rd_tenth_nm_changed (σ : SX) (v : Int32) : gx_rd_tenth (sx_nm_changed σ v) = gx_rd_tenth σ := rfl
theorem px_rd_touched_nm_changed (σ : SX) (v : Int32) : gx_rd_touched (sx_nm_changed σ v) = gx_rd_touched σ := rfl
theorem px_rd_seed_nm_changed (σ : SX) (v : Int32) : gx_rd_seed (sx_nm_changed σ v) = gx_rd_seed σ := rfl
theorem px_nm_weights_nm_changed (σ : SX) (v : Int32) : gx_nm_weights (sx_nm_changed σ v) = gx_nm_weights σ := rfl
theorem px_nm_sizeOff_nm_changed (σ : SX) (v : Int32) : gx_nm_sizeOff (sx_nm_changed σ v) = gx_nm_sizeOff σ := rfl
theorem px_nm_clothRight_nm_changed (σ : SX) (v : Int32) : gx_nm_clothRight (sx_nm_changed σ v) = gx_nm_clothRight σ := rfl
theorem px_nm_giggleRight_nm_changed (σ : SX) (v : Int32) : gx_nm_giggleRight (sx_nm_changed σ v) = gx_nm_giggleRight σ := rfl
theorem px_nm_first_nm_changed (σ : SX) (v : Int32) : gx_nm_first (sx_nm_changed σ v) = gx_nm_first σ := rfl
theorem px_nm_second_nm_changed (σ : SX) (v : Int32) : gx_nm_second (sx_nm_changed σ v) = gx_nm_second σ := rfl
theorem px_nm_changed_nm_changed (σ : SX) (v : Int32) : gx_nm_changed (sx_nm_changed σ v) = v := rfl
theorem px_nm_keptFirst_nm_changed (σ : SX) (v : Int32) : gx_nm_keptFirst (sx_nm_changed σ v) = gx_nm_keptFirst σ := rfl
theorem px_nm_keptSecond_nm_changed (σ : SX) (v : Int32) : gx_nm_keptSecond (sx_nm_changed σ v) = gx_nm_keptSecond σ := rfl
theorem px_nm_keptChanged_nm_changed (σ : SX) (v : Int32) : gx_nm_keptChanged (sx_nm_changed σ v) = gx_nm_keptChanged σ := rfl
theorem px_tp_playing_nm_changed (σ : SX) (v : Int32) : gx_tp_playing (sx_nm_changed σ v) = gx_tp_playing σ := rfl
theorem px_tp_ringsRead_nm_changed (σ : SX) (v : Int32) : gx_tp_ringsRead (sx_nm_changed σ v) = gx_tp_ringsRead σ := rfl
theorem px_tp_standsDone_nm_changed (σ : SX) (v : Int32) : gx_tp_standsDone (sx_nm_changed σ v) = gx_tp_standsDone σ := rfl
theorem px_tp_imageKept_nm_changed (σ : SX) (v : Int32) : gx_tp_imageKept (sx_nm_changed σ v) = gx_tp_imageKept σ := rfl
theorem px_pok_nm_changed (σ : SX) (v : Int32) (a : Nat) : gx_pok (sx_nm_changed σ v) a = gx_pok σ a := rfl
theorem px_pg_signs_nm_keptFirst (σ : SX) (v : Int32) : gx_pg_signs (sx_nm_keptFirst σ v) = gx_pg_signs σ := rfl
theorem px_pg_length_nm_keptFirst (σ : SX) (v : Int32) : gx_pg_length (sx_nm_keptFirst σ v) = gx_pg_length σ := rfl
theorem px_pg_row_nm_keptFirst (σ : SX) (v : Int32) : gx_pg_row (sx_nm_keptFirst σ v) = gx_pg_row σ := rfl
theorem px_pg_column_nm_keptFirst (σ : SX) (v : Int32) : gx_pg_column (sx_nm_keptFirst σ v) = gx_pg_column σ := rfl
theorem px_pg_width_nm_keptFirst (σ : SX) (v : Int32) : gx_pg_width (sx_nm_keptFirst σ v) = gx_pg_width σ := rfl
theorem px_rg_kinds_nm_keptFirst (σ : SX) (v : Int32) : gx_rg_kinds (sx_nm_keptFirst σ v) = gx_rg_kinds σ := rfl
theorem px_rg_rows_nm_keptFirst (σ : SX) (v : Int32) : gx_rg_rows (sx_nm_keptFirst σ v) = gx_rg_rows σ := rfl
theorem px_rg_columns_nm_keptFirst (σ : SX) (v : Int32) : gx_rg_columns (sx_nm_keptFirst σ v) = gx_rg_columns σ := rfl
theorem px_rg_beside_nm_keptFirst (σ : SX) (v : Int32) : gx_rg_beside (sx_nm_keptFirst σ v) = gx_rg_beside σ := rfl
theorem px_rg_size_nm_keptFirst (σ : SX) (v : Int32) : gx_rg_size (sx_nm_keptFirst σ v) = gx_rg_size σ := rfl
theorem px_rg_free_nm_keptFirst (σ : SX) (v : Int32) : gx_rg_free (sx_nm_keptFirst σ v) = gx_rg_free σ := rfl
theorem px_od_weights_nm_keptFirst (σ : SX) (v : Int32) : gx_od_weights (sx_nm_keptFirst σ v) = gx_od_weights σ := rfl
theorem px_od_kept_nm_keptFirst (σ : SX) (v : Int32) : gx_od_kept (sx_nm_keptFirst σ v) = gx_od_kept σ := rfl
theorem px_od_outs_nm_keptFirst (σ : SX) (v : Int32) : gx_od_outs (sx_nm_keptFirst σ v) = gx_od_outs σ := rfl
theorem px_od_updates_nm_keptFirst (σ : SX) (v : Int32) : gx_od_updates (sx_nm_keptFirst σ v) = gx_od_updates σ := rfl
theorem px_od_keptUpdates_nm_keptFirst (σ : SX) (v : Int32) : gx_od_keptUpdates (sx_nm_keptFirst σ v) = gx_od_keptUpdates σ := rfl
theorem px_pl_arr_nm_keptFirst (σ : SX) (v : Int32) : gx_pl_arr (sx_nm_keptFirst σ v) = gx_pl_arr σ := rfl
theorem px_pl_ex_nm_keptFirst (σ : SX) (v : Int32) : gx_pl_ex (sx_nm_keptFirst σ v) = gx_pl_ex σ := rfl
theorem px_pl_kd_nm_keptFirst (σ : SX) (v : Int32) : gx_pl_kd (sx_nm_keptFirst σ v) = gx_pl_kd σ := rfl
theorem px_pl_told_nm_keptFirst (σ : SX) (v : Int32) : gx_pl_told (sx_nm_keptFirst σ v) = gx_pl_told σ := rfl
theorem px_pl_kept_nm_keptFirst (σ : SX) (v : Int32) : gx_pl_kept (sx_nm_keptFirst σ v) = gx_pl_kept σ := rfl
theorem px_pl_at_nm_keptFirst (σ : SX) (v : Int32) : gx_pl_at (sx_nm_keptFirst σ v) = gx_pl_at σ := rfl
theorem px_pl_size_nm_keptFirst (σ : SX) (v : Int32) : gx_pl_size (sx_nm_keptFirst σ v) = gx_pl_size σ := rfl
theorem px_pl_cloth_nm_keptFirst (σ : SX) (v : Int32) : gx_pl_cloth (sx_nm_keptFirst σ v) = gx_pl_cloth σ := rfl
theorem px_pl_giggle_nm_keptFirst (σ : SX) (v : Int32) : gx_pl_giggle (sx_nm_keptFirst σ v) = gx_pl_giggle σ := rfl
theorem px_rd_firstCell_nm_keptFirst (σ : SX) (v : Int32) : gx_rd_firstCell (sx_nm_keptFirst σ v) = gx_rd_firstCell σ := rfl
theorem px_rd_firstWay_nm_keptFirst (σ : SX) (v : Int32) : gx_rd_firstWay (sx_nm_keptFirst σ v) = gx_rd_firstWay σ := rfl
theorem px_rd_drift_nm_keptFirst (σ : SX) (v : Int32) : gx_rd_drift (sx_nm_keptFirst σ v) = gx_rd_drift σ := rfl
theorem px_rd_tenths_nm_keptFirst (σ : SX) (v : Int32) : gx_rd_tenths (sx_nm_keptFirst σ v) = gx_rd_tenths σ := rfl
theorem px_rd_hisCell_nm_keptFirst (σ : SX) (v : Int32) : gx_rd_hisCell (sx_nm_keptFirst σ v) = gx_rd_hisCell σ := rfl
theorem px_rd_hisWay_nm_keptFirst (σ : SX) (v : Int32) : gx_rd_hisWay (sx_nm_keptFirst σ v) = gx_rd_hisWay σ := rfl
theorem px_rd_tenth_nm_keptFirst (σ : SX) (v : Int32) : gx_rd_tenth (sx_nm_keptFirst σ v) = gx_rd_tenth σ := rfl
theorem px_rd_touched_nm_keptFirst (σ : SX) (v : Int32) : gx_rd_touched (sx_nm_keptFirst σ v) = gx_rd_touched σ := rfl
theorem px_rd_seed_nm_keptFirst (σ : SX) (v : Int32) : gx_rd_seed (sx_nm_keptFirst σ v) = gx_rd_seed σ := rfl
theorem px_nm_weights_nm_keptFirst (σ : SX) (v : Int32) : gx_nm_weights (sx_nm_keptFirst σ v) = gx_nm_weights σ := rfl
theorem px_nm_sizeOff_nm_keptFirst (σ : SX) (v : Int32) : gx_nm_sizeOff (sx_nm_keptFirst σ v) = gx_nm_sizeOff σ := rfl
theorem px_nm_clothRight_nm_keptFirst (σ : SX) (v : Int32) : gx_nm_clothRight (sx_nm_keptFirst σ v) = gx_nm_clothRight σ := rfl
theorem px_nm_giggleRight_nm_keptFirst (σ : SX) (v : Int32) : gx_nm_giggleRight (sx_nm_keptFirst σ v) = gx_nm_giggleRight σ := rfl
theorem px_nm_first_nm_keptFirst (σ : SX) (v : Int32) : gx_nm_first (sx_nm_keptFirst σ v) = gx_nm_first σ := rfl
theorem px_nm_second_nm_keptFirst (σ : SX) (v : Int32) : gx_nm_second (sx_nm_keptFirst σ v) = gx_nm_second σ := rfl
theorem px_nm_changed_nm_keptFirst (σ : SX) (v : Int32) : gx_nm_changed (sx_nm_keptFirst σ v) = gx_nm_changed σ := rfl
theorem px_nm_keptFirst_nm_keptFirst (σ : SX) (v : Int32) : gx_nm_keptFirst (sx_nm_keptFirst σ v) = v := rfl
theorem px_nm_keptSecond_nm_keptFirst (σ : SX) (v : Int32) : gx_nm_keptSecond (sx_nm_keptFirst σ v) = gx_nm_keptSecond σ := rfl
theorem px_nm_keptChanged_nm_keptFirst (σ : SX) (v : Int32) : gx_nm_keptChanged (sx_nm_keptFirst σ v) = gx_nm_keptChanged σ := rfl
theorem px_tp_playing_nm_keptFirst (σ : SX) (v : Int32) : gx_tp_playing (sx_nm_keptFirst σ v) = gx_tp_playing σ := rfl
theorem px_tp_ringsRead_nm_keptFirst (σ : SX) (v : Int32) : gx_tp_ringsRead (sx_nm_keptFirst σ v) = gx_tp_ringsRead σ := rfl
theorem px_tp_standsDone_nm_keptFirst (σ : SX) (v : Int32) : gx_tp_standsDone (sx_nm_keptFirst σ v) = gx_tp_standsDone σ := rfl
theorem px_tp_imageKept_nm_keptFirst (σ : SX) (v : Int32) : gx_tp_imageKept (sx_nm_keptFirst σ v) = gx_tp_imageKept σ := rfl
theorem px_pok_nm_keptFirst (σ : SX) (v : Int32) (a : Nat) : gx_pok (sx_nm_keptFirst σ v) a = gx_pok σ a := rfl
theorem px_pg_signs_nm_keptSecond (σ : SX) (v : Int32) : gx_pg_signs (sx_nm_keptSecond σ v) = gx_pg_signs σ := rfl
theorem px_pg_length_nm_keptSecond (σ : SX) (v : Int32) : gx_pg_length (sx_nm_keptSecond σ v) = gx_pg_length σ := rfl
theorem px_pg_row_nm_keptSecond (σ : SX) (v : Int32) : gx_pg_row (sx_nm_keptSecond σ v) = gx_pg_row σ := rfl
theorem px_pg_column_nm_keptSecond (σ : SX) (v : Int32) : gx_pg_column (sx_nm_keptSecond σ v) = gx_pg_column σ := rfl
theorem px_pg_width_nm_keptSecond (σ : SX) (v : Int32) : gx_pg_width (sx_nm_keptSecond σ v) = gx_pg_width σ := rfl
theorem px_rg_kinds_nm_keptSecond (σ : SX) (v : Int32) : gx_rg_kinds (sx_nm_keptSecond σ v) = gx_rg_kinds σ := rfl
theorem px_rg_rows_nm_keptSecond (σ : SX) (v : Int32) : gx_rg_rows (sx_nm_keptSecond σ v) = gx_rg_rows σ := rfl
theorem px_rg_columns_nm_keptSecond (σ : SX) (v : Int32) : gx_rg_columns (sx_nm_keptSecond σ v) = gx_rg_columns σ := rfl
theorem px_rg_beside_nm_keptSecond (σ : SX) (v : Int32) : gx_rg_beside (sx_nm_keptSecond σ v) = gx_rg_beside σ := rfl
theorem px_rg_size_nm_keptSecond (σ : SX) (v : Int32) : gx_rg_size (sx_nm_keptSecond σ v) = gx_rg_size σ := rfl
theorem px_rg_free_nm_keptSecond (σ : SX) (v : Int32) : gx_rg_free (sx_nm_keptSecond σ v) = gx_rg_free σ := rfl
theorem px_od_weights_nm_keptSecond (σ : SX) (v : Int32) : gx_od_weights (sx_nm_keptSecond σ v) = gx_od_weights σ := rfl
theorem px_od_kept_nm_keptSecond (σ : SX) (v : Int32) : gx_od_kept (sx_nm_keptSecond σ v) = gx_od_kept σ := rfl
theorem px_od_outs_nm_keptSecond (σ : SX) (v : Int32) : gx_od_outs (sx_nm_keptSecond σ v) = gx_od_outs σ := rfl
theorem px_od_updates_nm_keptSecond (σ : SX) (v : Int32) : gx_od_updates (sx_nm_keptSecond σ v) = gx_od_updates σ := rfl
theorem px_od_keptUpdates_nm_keptSecond (σ : SX) (v : Int32) : gx_od_keptUpdates (sx_nm_keptSecond σ v) = gx_od_keptUpdates σ := rfl
theorem px_pl_arr_nm_keptSecond (σ : SX) (v : Int32) : gx_pl_arr (sx_nm_keptSecond σ v) = gx_pl_arr σ := rfl
theorem px_pl_ex_nm_keptSecond (σ : SX) (v : Int32) : gx_pl_ex (sx_nm_keptSecond σ v) = gx_pl_ex σ := rfl
theorem px_pl_kd_nm_keptSecond (σ : SX) (v : Int32) : gx_pl_kd (sx_nm_keptSecond σ v) = gx_pl_kd σ := rfl
theorem px_pl_told_nm_keptSecond (σ : SX) (v : Int32) : gx_pl_told (sx_nm_keptSecond σ v) = gx_pl_told σ := rfl
theorem px_pl_kept_nm_keptSecond (σ : SX) (v : Int32) : gx_pl_kept (sx_nm_keptSecond σ v) = gx_pl_kept σ := rfl
theorem px_pl_at_nm_keptSecond (σ : SX) (v : Int32) : gx_pl_at (sx_nm_keptSecond σ v) = gx_pl_at σ := rfl
theorem px_pl_size_nm_keptSecond (σ : SX) (v : Int32) : gx_pl_size (sx_nm_keptSecond σ v) = gx_pl_size σ := rfl
theorem px_pl_cloth_nm_keptSecond (σ : SX) (v : Int32) : gx_pl_cloth (sx_nm_keptSecond σ v) = gx_pl_cloth σ := rfl
theorem px_pl_giggle_nm_keptSecond (σ : SX) (v : Int32) : gx_pl_giggle (sx_nm_keptSecond σ v) = gx_pl_giggle σ := rfl
theorem px_rd_firstCell_nm_keptSecond (σ : SX) (v : Int32) : gx_rd_firstCell (sx_nm_keptSecond σ v) = gx_rd_firstCell σ := rfl
theorem px_rd_firstWay_nm_keptSecond (σ : SX) (v : Int32) : gx_rd_firstWay (sx_nm_keptSecond σ v) = gx_rd_firstWay σ := rfl
theorem px_rd_drift_nm_keptSecond (σ : SX) (v : Int32) : gx_rd_drift (sx_nm_keptSecond σ v) = gx_rd_drift σ := rfl
theorem px_rd_tenths_nm_keptSecond (σ : SX) (v : Int32) : gx_rd_tenths (sx_nm_keptSecond σ v) = gx_rd_tenths σ := rfl
theorem px_rd_hisCell_nm_keptSecond (σ : SX) (v : Int32) : gx_rd_hisCell (sx_nm_keptSecond σ v) = gx_rd_hisCell σ := rfl
theorem px_rd_hisWay_nm_keptSecond (σ : SX) (v : Int32) : gx_rd_hisWay (sx_nm_keptSecond σ v) = gx_rd_hisWay σ := rfl
theorem px_rd_tenth_nm_keptSecond (σ : SX) (v : Int32) : gx_rd_tenth (sx_nm_keptSecond σ v) = gx_rd_tenth σ := rfl
theorem px_rd_touched_nm_keptSecond (σ : SX) (v : Int32) : gx_rd_touched (sx_nm_keptSecond σ v) = gx_rd_touched σ := rfl
theorem px_rd_seed_nm_keptSecond (σ : SX) (v : Int32) : gx_rd_seed (sx_nm_keptSecond σ v) = gx_rd_seed σ := rfl
theorem px_nm_weights_nm_keptSecond (σ : SX) (v : Int32) : gx_nm_weights (sx_nm_keptSecond σ v) = gx_nm_weights σ := rfl
theorem px_nm_sizeOff_nm_keptSecond (σ : SX) (v : Int32) : gx_nm_sizeOff (sx_nm_keptSecond σ v) = gx_nm_sizeOff σ := rfl
theorem px_nm_clothRight_nm_keptSecond (σ : SX) (v : Int32) : gx_nm_clothRight (sx_nm_keptSecond σ v) = gx_nm_clothRight σ := rfl
theorem px_nm_giggleRight_nm_keptSecond (σ : SX) (v : Int32) : gx_nm_giggleRight (sx_nm_keptSecond σ v) = gx_nm_giggleRight σ := rfl
theorem px_nm_first_nm_keptSecond (σ : SX) (v : Int32) : gx_nm_first (sx_nm_keptSecond σ v) = gx_nm_first σ := rfl
theorem px_nm_second_nm_keptSecond (σ : SX) (v : Int32) : gx_nm_second (sx_nm_keptSecond σ v) = gx_nm_second σ := rfl
theorem px_nm_changed_nm_keptSecond (σ : SX) (v : Int32) : gx_nm_changed (sx_nm_keptSecond σ v) = gx_nm_changed σ := rfl
theorem px_nm_keptFirst_nm_keptSecond (σ : SX) (v : Int32) : gx_nm_keptFirst (sx_nm_keptSecond σ v) = gx_nm_keptFirst σ := rfl
theorem px_nm_keptSecond_nm_keptSecond (σ : SX) (v : Int32) : gx_nm_keptSecond (sx_nm_keptSecond σ v) = v := rfl
theorem px_nm_keptChanged_nm_keptSecond (σ : SX) (v : Int32) : gx_nm_keptChanged (sx_nm_keptSecond σ v) = gx_nm_keptChanged σ := rfl
theorem px_tp_playing_nm_keptSecond (σ : SX) (v : Int32) : gx_tp_playing (sx_nm_keptSecond σ v) = gx_tp_playing σ := rfl
theorem px_tp_ringsRead_nm_keptSecond (σ : SX) (v : Int32) : gx_tp_ringsRead (sx_nm_keptSecond σ v) = gx_tp_ringsRead σ := rfl
theorem px_tp_standsDone_nm_keptSecond (σ : SX) (v : Int32) : gx_tp_standsDone (sx_nm_keptSecond σ v) = gx_tp_standsDone σ := rfl
theorem px_tp_imageKept_nm_keptSecond (σ : SX) (v : Int32) : gx_tp_imageKept (sx_nm_keptSecond σ v) = gx_tp_imageKept σ := rfl
theorem px_pok_nm_keptSecond (σ : SX) (v : Int32) (a : Nat) : gx_pok (sx_nm_keptSecond σ v) a = gx_pok σ a := rfl
theorem px_pg_signs_nm_keptChanged (σ : SX) (v : Int32) : gx_pg_signs (sx_nm_keptChanged σ v) = gx_pg_signs σ := rfl
theorem px_pg_length_nm_keptChanged (σ : SX) (v : Int32) : gx_pg_length (sx_nm_keptChanged σ v) = gx_pg_length σ := rfl
theorem px_pg_row_nm_keptChanged (σ : SX) (v : Int32) : gx_pg_row (sx_nm_keptChanged σ v) = gx_pg_row σ := rfl
theorem px_pg_column_nm_keptChanged (σ : SX) (v : Int32) : gx_pg_column (sx_nm_keptChanged σ v) = gx_pg_column σ := rfl
theorem px_pg_width_nm_keptChanged (σ : SX) (v : Int32) : gx_pg_width (sx_nm_keptChanged σ v) = gx_pg_width σ := rfl
theorem px_rg_kinds_nm_keptChanged (σ : SX) (v : Int32) : gx_rg_kinds (sx_nm_keptChanged σ v) = gx_rg_kinds σ := rfl
theorem px_rg_rows_nm_keptChanged (σ : SX) (v : Int32) : gx_rg_rows (sx_nm_keptChanged σ v) = gx_rg_rows σ := rfl
theorem px_rg_columns_nm_keptChanged (σ : SX) (v : Int32) : gx_rg_columns (sx_nm_keptChanged σ v) = gx_rg_columns σ := rfl
theorem px_rg_beside_nm_keptChanged (σ : SX) (v : Int32) : gx_rg_beside (sx_nm_keptChanged σ v) = gx_rg_beside σ := rfl
theorem px_rg_size_nm_keptChanged (σ : SX) (v : Int32) : gx_rg_size (sx_nm_keptChanged σ v) = gx_rg_size σ := rfl
theorem px_rg_free_nm_keptChanged (σ : SX) (v : Int32) : gx_rg_free (sx_nm_keptChanged σ v) = gx_rg_free σ := rfl
theorem px_od_weights_nm_keptChanged (σ : SX) (v : Int32) : gx_od_weights (sx_nm_keptChanged σ v) = gx_od_weights σ := rfl
theorem px_od_kept_nm_keptChanged (σ : SX) (v : Int32) : gx_od_kept (sx_nm_keptChanged σ v) = gx_od_kept σ := rfl
theorem px_od_outs_nm_keptChanged (σ : SX) (v : Int32) : gx_od_outs (sx_nm_keptChanged σ v) = gx_od_outs σ := rfl
theorem px_od_updates_nm_keptChanged (σ : SX) (v : Int32) : gx_od_updates (sx_nm_keptChanged σ v) = gx_od_updates σ := rfl
theorem px_od_keptUpdates_nm_keptChanged (σ : SX) (v : Int32) : gx_od_keptUpdates (sx_nm_keptChanged σ v) = gx_od_keptUpdates σ := rfl
theorem px_pl_arr_nm_keptChanged (σ : SX) (v : Int32) : gx_pl_arr (sx_nm_keptChanged σ v) = gx_pl_arr σ := rfl
theorem px_pl_ex_nm_keptChanged (σ : SX) (v : Int32) : gx_pl_ex (sx_nm_keptChanged σ v) = gx_pl_ex σ := rfl
theorem px_pl_kd_nm_keptChanged (σ : SX) (v : Int32) : gx_pl_kd (sx_nm_keptChanged σ v) = gx_pl_kd σ := rfl
theorem px_pl_told_nm_keptChanged (σ : SX) (v : Int32) : gx_pl_told (sx_nm_keptChanged σ v) = gx_pl_told σ := rfl
theorem px_pl_kept_nm_keptChanged (σ : SX) (v : Int32) : gx_pl_kept (sx_nm_keptChanged σ v) = gx_pl_kept σ := rfl
theorem px_pl_at_nm_keptChanged (σ : SX) (v : Int32) : gx_pl_at (sx_nm_keptChanged σ v) = gx_pl_at σ := rfl
theorem px_pl_size_nm_keptChanged (σ : SX) (v : Int32) : gx_pl_size (sx_nm_keptChanged σ v) = gx_pl_size σ := rfl
theorem px_pl_cloth_nm_keptChanged (σ : SX) (v : Int32) : gx_pl_cloth (sx_nm_keptChanged σ v) = gx_pl_cloth σ := rfl
theorem px_pl_giggle_nm_keptChanged (σ : SX) (v : Int32) : gx_pl_giggle (sx_nm_keptChanged σ v) = gx_pl_giggle σ := rfl
theorem px_rd_firstCell_nm_keptChanged (σ : SX) (v : Int32) : gx_rd_firstCell (sx_nm_keptChanged σ v) = gx_rd_firstCell σ := rfl
theorem px_rd_firstWay_nm_keptChanged (σ : SX) (v : Int32) : gx_rd_firstWay (sx_nm_keptChanged σ v) = gx_rd_firstWay σ := rfl
theorem px_rd_drift_nm_keptChanged (σ : SX) (v : Int32) : gx_rd_drift (sx_nm_keptChanged σ v) = gx_rd_drift σ := rfl
theorem px_rd_tenths_nm_keptChanged (σ : SX) (v : Int32) : gx_rd_tenths (sx_nm_keptChanged σ v) = gx_rd_tenths σ := rfl
theorem px_rd_hisCell_nm_keptChanged (σ : SX) (v : Int32) : gx_rd_hisCell (sx_nm_keptChanged σ v) = gx_rd_hisCell σ := rfl
theorem px_rd_hisWay_nm_keptChanged (σ : SX) (v : Int32) : gx_rd_hisWay (sx_nm_keptChanged σ v) = gx_rd_hisWay σ := rfl
theorem px_rd_tenth_nm_keptChanged (σ : SX) (v : Int32) : gx_rd_tenth (sx_nm_keptChanged σ v) = gx_rd_tenth σ := rfl
theorem px_rd_touched_nm_keptChanged (σ : SX) (v : Int32) : gx_rd_touched (sx_nm_keptChanged σ v) = gx_rd_touched σ := rfl
theorem px_rd_seed_nm_keptChanged (σ : SX) (v : Int32) : gx_rd_seed (sx_nm_keptChanged σ v) = gx_rd_seed σ := rfl
theorem px_nm_weights_nm_keptChanged (σ : SX) (v : Int32) : gx_nm_weights (sx_nm_keptChanged σ v) = gx_nm_weights σ := rfl
theorem px_nm_sizeOff_nm_keptChanged (σ : SX) (v : Int32) : gx_nm_sizeOff (sx_nm_keptChanged σ v) = gx_nm_sizeOff σ := rfl
theorem px_nm_clothRight_nm_keptChanged (σ : SX) (v : Int32) : gx_nm_clothRight (sx_nm_keptChanged σ v) = gx_nm_clothRight σ := rfl
theorem px_nm_giggleRight_nm_keptChanged (σ : SX) (v : Int32) : gx_nm_giggleRight (sx_nm_keptChanged σ v) = gx_nm_giggleRight σ := rfl
theorem px_nm_first_nm_keptChanged (σ : SX) (v : Int32) : gx_nm_first (sx_nm_keptChanged σ v) = gx_nm_first σ := rfl
theorem px_nm_second_nm_keptChanged (σ : SX) (v : Int32) : gx_nm_second (sx_nm_keptChanged σ v) = gx_nm_second σ := rfl
theorem px_nm_changed_nm_keptChanged (σ : SX) (v : Int32) : gx_nm_changed (sx_nm_keptChanged σ v) = gx_nm_changed σ := rfl
theorem px_nm_keptFirst_nm_keptChanged (σ : SX) (v : Int32) : gx_nm_keptFirst (sx_nm_keptChanged σ v) = gx_nm_keptFirst σ := rfl
theorem px_nm_keptSecond_nm_keptChanged (σ : SX) (v : Int32) : gx_nm_keptSecond (sx_nm_keptChanged σ v) = gx_nm_keptSecond σ := rfl
theorem px_nm_keptChanged_nm_keptChanged (σ : SX) (v : Int32) : gx_nm_keptChanged (sx_nm_keptChanged σ v) = v := rfl
theorem px_tp_playing_nm_keptChanged (σ : SX) (v : Int32) : gx_tp_playing (sx_nm_keptChanged σ v) = gx_tp_playing σ := rfl
theorem px_tp_ringsRead_nm_keptChanged (σ : SX) (v : Int32) : gx_tp_ringsRead (sx_nm_keptChanged σ v) = gx_tp_ringsRead σ := rfl
theorem px_tp_standsDone_nm_keptChanged (σ : SX) (v : Int32) : gx_tp_standsDone (sx_nm_keptChanged σ v) = gx_tp_standsDone σ := rfl
theorem px_tp_imageKept_nm_keptChanged (σ : SX) (v : Int32) : gx_tp_imageKept (sx_nm_keptChanged σ v) = gx_tp_imageKept σ := rfl
theorem px_pok_nm_keptChanged (σ : SX) (v : Int32) (a : Nat) : gx_pok (sx_nm_keptChanged σ v) a = gx_pok σ a := rfl
theorem px_pg_signs_tp_playing (σ : SX) (v : Int32) : gx_pg_signs (sx_tp_playing σ v) = gx_pg_signs σ := rfl
theorem px_pg_length_tp_playing (σ : SX) (v : Int32) : gx_pg_length (sx_tp_playing σ v) = gx_pg_length σ := rfl
theorem px_pg_row_tp_playing (σ : SX) (v : Int32) : gx_pg_row (sx_tp_playing σ v) = gx_pg_row σ := rfl
theorem px_pg_column_tp_playing (σ : SX) (v : Int32) : gx_pg_column (sx_tp_playing σ v) = gx_pg_column σ := rfl
theorem px_pg_width_tp_playing (σ : SX) (v : Int32) : gx_pg_width (sx_tp_playing σ v) = gx_pg_width σ := rfl
theorem px_rg_kinds_tp_playing (σ : SX) (v : Int32) : gx_rg_kinds (sx_tp_playing σ v) = gx_rg_kinds σ := rfl
theorem px_rg_rows_tp_playing (σ : SX) (v : Int32) : gx_rg_rows (sx_tp_playing σ v) = gx_rg_rows σ := rfl
theorem px_rg_columns_tp_playing (σ : SX) (v : Int32) : gx_rg_columns (sx_tp_playing σ v) = gx_rg_columns σ := rfl
theorem px_rg_beside_tp_playing (σ : SX) (v : Int32) : gx_rg_beside (sx_tp_playing σ v) = gx_rg_beside σ := rfl
theorem px_rg_size_tp_playing (σ : SX) (v : Int32) : gx_rg_size (sx_tp_playing σ v) = gx_rg_size σ := rfl
theorem px_rg_free_tp_playing (σ : SX) (v : Int32) : gx_rg_free (sx_tp_playing σ v) = gx_rg_free σ := rfl
theorem px_od_weights_tp_playing (σ : SX) (v : Int32) : gx_od_weights (sx_tp_playing σ v) = gx_od_weights σ := rfl
theorem px_od_kept_tp_playing (σ : SX) (v : Int32) : gx_od_kept (sx_tp_playing σ v) = gx_od_kept σ := rfl
theorem px_od_outs_tp_playing (σ : SX) (v : Int32) : gx_od_outs (sx_tp_playing σ v) = gx_od_outs σ := rfl
theorem px_od_updates_tp_playing (σ : SX) (v : Int32) : gx_od_updates (sx_tp_playing σ v) = gx_od_updates σ := rfl
theorem px_od_keptUpdates_tp_playing (σ : SX) (v : Int32) : gx_od_keptUpdates (sx_tp_playing σ v) = gx_od_keptUpdates σ := rfl
theorem px_pl_arr_tp_playing (σ : SX) (v : Int32) : gx_pl_arr (sx_tp_playing σ v) = gx_pl_arr σ := rfl
theorem px_pl_ex_tp_playing (σ : SX) (v : Int32) : gx_pl_ex (sx_tp_playing σ v) = gx_pl_ex σ := rfl
theorem px_pl_kd_tp_playing (σ : SX) (v : Int32) : gx_pl_kd (sx_tp_playing σ v) = gx_pl_kd σ := rfl
theorem px_pl_told_tp_playing (σ : SX) (v : Int32) : gx_pl_told (sx_tp_playing σ v) = gx_pl_told σ := rfl
theorem px_pl_kept_tp_playing (σ : SX) (v : Int32) : gx_pl_kept (sx_tp_playing σ v) = gx_pl_kept σ := rfl
theorem px_pl_at_tp_playing (σ : SX) (v : Int32) : gx_pl_at (sx_tp_playing σ v) = gx_pl_at σ := rfl
theorem px_pl_size_tp_playing (σ : SX) (v : Int32) : gx_pl_size (sx_tp_playing σ v) = gx_pl_size σ := rfl
theorem px_pl_cloth_tp_playing (σ : SX) (v : Int32) : gx_pl_cloth (sx_tp_playing σ v) = gx_pl_cloth σ := rfl
theorem px_pl_giggle_tp_playing (σ : SX) (v : Int32) : gx_pl_giggle (sx_tp_playing σ v) = gx_pl_giggle σ := rfl
theorem px_rd_firstCell_tp_playing (σ : SX) (v : Int32) : gx_rd_firstCell (sx_tp_playing σ v) = gx_rd_firstCell σ := rfl
theorem px_rd_firstWay_tp_playing (σ : SX) (v : Int32) : gx_rd_firstWay (sx_tp_playing σ v) = gx_rd_firstWay σ := rfl
theorem px_rd_drift_tp_playing (σ : SX) (v : Int32) : gx_rd_drift (sx_tp_playing σ v) = gx_rd_drift σ := rfl
theorem px_rd_tenths_tp_playing (σ : SX) (v : Int32) : gx_rd_tenths (sx_tp_playing σ v) = gx_rd_tenths σ := rfl
theorem px_rd_hisCell_tp_playing (σ : SX) (v : Int32) : gx_rd_hisCell (sx_tp_playing σ v) = gx_rd_hisCell σ := rfl
theorem px_rd_hisWay_tp_playing (σ : SX) (v : Int32) : gx_rd_hisWay (sx_tp_playing σ v) = gx_rd_hisWay σ := rfl
theorem px_rd_tenth_tp_playing (σ : SX) (v : Int32) : gx_rd_tenth (sx_tp_playing σ v) = gx_rd_tenth σ := rfl
theorem px_rd_touched_tp_playing (σ : SX) (v : Int32) : gx_rd_touched (sx_tp_playing σ v) = gx_rd_touched σ := rfl
theorem px_rd_seed_tp_playing (σ : SX) (v : Int32) : gx_rd_seed (sx_tp_playing σ v) = gx_rd_seed σ := rfl
theorem px_nm_weights_tp_playing (σ : SX) (v : Int32) : gx_nm_weights (sx_tp_playing σ v) = gx_nm_weights σ := rfl
theorem px_nm_sizeOff_tp_playing (σ : SX) (v : Int32) : gx_nm_sizeOff (sx_tp_playing σ v) = gx_nm_sizeOff σ := rfl
theorem px_nm_clothRight_tp_playing (σ : SX) (v : Int32) : gx_nm_clothRight (sx_tp_playing σ v) = gx_nm_clothRight σ := rfl
theorem px_nm_giggleRight_tp_playing (σ : SX) (v : Int32) : gx_nm_giggleRight (sx_tp_playing σ v) = gx_nm_giggleRight σ := rfl
theorem px_nm_first_tp_playing (σ : SX) (v : Int32) : gx_nm_first (sx_tp_playing σ v) = gx_nm_first σ := rfl
theorem px_nm_second_tp_playing (σ : SX) (v : Int32) : gx_nm_second (sx_tp_playing σ v) = gx_nm_second σ := rfl
theorem px_nm_changed_tp_playing (σ : SX) (v : Int32) : gx_nm_changed (sx_tp_playing σ v) = gx_nm_changed σ := rfl
theorem px_nm_keptFirst_tp_playing (σ : SX) (v : Int32) : gx_nm_keptFirst (sx_tp_playing σ v) = gx_nm_keptFirst σ := rfl
theorem px_nm_keptSecond_tp_playing (σ : SX) (v : Int32) : gx_nm_keptSecond (sx_tp_playing σ v) = gx_nm_keptSecond σ := rfl
theorem px_nm_keptChanged_tp_playing (σ : SX) (v : Int32) : gx_nm_keptChanged (sx_tp_playing σ v) = gx_nm_keptChanged σ := rfl
theorem px_tp_playing_tp_playing (σ : SX) (v : Int32) : gx_tp_playing (sx_tp_playing σ v) = v := rfl
theorem px_tp_ringsRead_tp_playing (σ : SX) (v : Int32) : gx_tp_ringsRead (sx_tp_playing σ v) = gx_tp_ringsRead σ := rfl
theorem px_tp_standsDone_tp_playing (σ : SX) (v : Int32) : gx_tp_standsDone (sx_tp_playing σ v) = gx_tp_standsDone σ := rfl
theorem px_tp_imageKept_tp_playing (σ : SX) (v : Int32) : gx_tp_imageKept (sx_tp_playing σ v) = gx_tp_imageKept σ := rfl
theorem px_pok_tp_playing (σ : SX) (v : Int32) (a : Nat) : gx_pok (sx_tp_playing σ v) a = gx_pok σ a := rfl
theorem px_pg_signs_tp_ringsRead (σ : SX) (v : Int32) : gx_pg_signs (sx_tp_ringsRead σ v) = gx_pg_signs σ := rfl
theorem px_pg_length_tp_ringsRead (σ : SX) (v : Int32) : gx_pg_length (sx_tp_ringsRead σ v) = gx_pg_length σ := rfl
theorem px_pg_row_tp_ringsRead (σ : SX) (v : Int32) : gx_pg_row (sx_tp_ringsRead σ v) = gx_pg_row σ := rfl
theorem px_pg_column_tp_ringsRead (σ : SX) (v : Int32) : gx_pg_column (sx_tp_ringsRead σ v) = gx_pg_column σ := rfl
theorem px_pg_width_tp_ringsRead (σ : SX) (v : Int32) : gx_pg_width (sx_tp_ringsRead σ v) = gx_pg_width σ := rfl
theorem px_rg_kinds_tp_ringsRead (σ : SX) (v : Int32) : gx_rg_kinds (sx_tp_ringsRead σ v) = gx_rg_kinds σ := rfl
theorem px_rg_rows_tp_ringsRead (σ : SX) (v : Int32) : gx_rg_rows (sx_tp_ringsRead σ v) = gx_rg_rows σ := rfl
theorem px_rg_columns_tp_ringsRead (σ : SX) (v : Int32) : gx_rg_columns (sx_tp_ringsRead σ v) = gx_rg_columns σ := rfl
theorem px_rg_beside_tp_ringsRead (σ : SX) (v : Int32) : gx_rg_beside (sx_tp_ringsRead σ v) = gx_rg_beside σ := rfl
theorem px_rg_size_tp_ringsRead (σ : SX) (v : Int32) : gx_rg_size (sx_tp_ringsRead σ v) = gx_rg_size σ := rfl
theorem px_rg_free_tp_ringsRead (σ : SX) (v : Int32) : gx_rg_free (sx_tp_ringsRead σ v) = gx_rg_free σ := rfl
theorem px_od_weights_tp_ringsRead (σ : SX) (v : Int32) : gx_od_weights (sx_tp_ringsRead σ v) = gx_od_weights σ := rfl
theorem px_od_kept_tp_ringsRead (σ : SX) (v : Int32) : gx_od_kept (sx_tp_ringsRead σ v) = gx_od_kept σ := rfl
theorem px_od_outs_tp_ringsRead (σ : SX) (v : Int32) : gx_od_outs (sx_tp_ringsRead σ v) = gx_od_outs σ := rfl
theorem px_od_updates_tp_ringsRead (σ : SX) (v : Int32) : gx_od_updates (sx_tp_ringsRead σ v) = gx_od_updates σ := rfl
theorem px_od_keptUpdates_tp_ringsRead (σ : SX) (v : Int32) : gx_od_keptUpdates (sx_tp_ringsRead σ v) = gx_od_keptUpdates σ := rfl
theorem px_pl_arr_tp_ringsRead (σ : SX) (v : Int32) : gx_pl_arr (sx_tp_ringsRead σ v) = gx_pl_arr σ := rfl
theorem px_pl_ex_tp_ringsRead (σ : SX) (v : Int32) : gx_pl_ex (sx_tp_ringsRead σ v) = gx_pl_ex σ := rfl
theorem px_pl_kd_tp_ringsRead (σ : SX) (v : Int32) : gx_pl_kd (sx_tp_ringsRead σ v) = gx_pl_kd σ := rfl
theorem px_pl_told_tp_ringsRead (σ : SX) (v : Int32) : gx_pl_told (sx_tp_ringsRead σ v) = gx_pl_told σ := rfl
theorem px_pl_kept_tp_ringsRead (σ : SX) (v : Int32) : gx_pl_kept (sx_tp_ringsRead σ v) = gx_pl_kept σ := rfl
theorem px_pl_at_tp_ringsRead (σ : SX) (v : Int32) : gx_pl_at (sx_tp_ringsRead σ v) = gx_pl_at σ := rfl
theorem px_pl_size_tp_ringsRead (σ : SX) (v : Int32) : gx_pl_size (sx_tp_ringsRead σ v) = gx_pl_size σ := rfl
theorem px_pl_cloth_tp_ringsRead (σ : SX) (v : Int32) : gx_pl_cloth (sx_tp_ringsRead σ v) = gx_pl_cloth σ := rfl
theorem px_pl_giggle_tp_ringsRead (σ : SX) (v : Int32) : gx_pl_giggle (sx_tp_ringsRead σ v) = gx_pl_giggle σ := rfl
theorem px_rd_firstCell_tp_ringsRead (σ : SX) (v : Int32) : gx_rd_firstCell (sx_tp_ringsRead σ v) = gx_rd_firstCell σ := rfl
theorem px_rd_firstWay_tp_ringsRead (σ : SX) (v : Int32) : gx_rd_firstWay (sx_tp_ringsRead σ v) = gx_rd_firstWay σ := rfl
theorem px_rd_drift_tp_ringsRead (σ : SX) (v : Int32) : gx_rd_drift (sx_tp_ringsRead σ v) = gx_rd_drift σ := rfl
theorem px_rd_tenths_tp_ringsRead (σ : SX) (v : Int32) : gx_rd_tenths (sx_tp_ringsRead σ v) = gx_rd_tenths σ := rfl
theorem px_rd_hisCell_tp_ringsRead (σ : SX) (v : Int32) : gx_rd_hisCell (sx_tp_ringsRead σ v) = gx_rd_hisCell σ := rfl
theorem px_rd_hisWay_tp_ringsRead (σ : SX) (v : Int32) : gx_rd_hisWay (sx_tp_ringsRead σ v) = gx_rd_hisWay σ := rfl
theorem px_rd_tenth_tp_ringsRead (σ : SX) (v : Int32) : gx_rd_tenth (sx_tp_ringsRead σ v) = gx_rd_tenth σ := rfl
theorem px_rd_touched_tp_ringsRead (σ : SX) (v : Int32) : gx_rd_touched (sx_tp_ringsRead σ v) = gx_rd_touched σ := rfl
theorem px_rd_seed_tp_ringsRead (σ : SX) (v : Int32) : gx_rd_seed (sx_tp_ringsRead σ v) = gx_rd_seed σ := rfl
theorem px_nm_weights_tp_ringsRead (σ : SX) (v : Int32) : gx_nm_weights (sx_tp_ringsRead σ v) = gx_nm_weights σ := rfl
theorem px_nm_sizeOff_tp_ringsRead (σ : SX) (v : Int32) : gx_nm_sizeOff (sx_tp_ringsRead σ v) = gx_nm_sizeOff σ := rfl
theorem px_nm_clothRight_tp_ringsRead (σ : SX) (v : Int32) : gx_nm_clothRight (sx_tp_ringsRead σ v) = gx_nm_clothRight σ := rfl
theorem px_nm_giggleRight_tp_ringsRead (σ : SX) (v : Int32) : gx_nm_giggleRight (sx_tp_ringsRead σ v) = gx_nm_giggleRight σ := rfl
theorem px_nm_first_tp_ringsRead (σ : SX) (v : Int32) : gx_nm_first (sx_tp_ringsRead σ v) = gx_nm_first σ := rfl
theorem px_nm_second_tp_ringsRead (σ : SX) (v : Int32) : gx_nm_second (sx_tp_ringsRead σ v) = gx_nm_second σ := rfl
theorem px_nm_changed_tp_ringsRead (σ : SX) (v : Int32) : gx_nm_changed (sx_tp_ringsRead σ v) = gx_nm_changed σ := rfl
theorem px_nm_keptFirst_tp_ringsRead (σ : SX) (v : Int32) : gx_nm_keptFirst (sx_tp_ringsRead σ v) = gx_nm_keptFirst σ := rfl
theorem px_nm_keptSecond_tp_ringsRead (σ : SX) (v : Int32) : gx_nm_keptSecond (sx_tp_ringsRead σ v) = gx_nm_keptSecond σ := rfl
theorem px_nm_keptChanged_tp_ringsRead (σ : SX) (v : Int32) : gx_nm_keptChanged (sx_tp_ringsRead σ v) = gx_nm_keptChanged σ := rfl
theorem px_tp_playing_tp_ringsRead (σ : SX) (v : Int32) : gx_tp_playing (sx_tp_ringsRead σ v) = gx_tp_playing σ := rfl
theorem px_tp_ringsRead_tp_ringsRead (σ : SX) (v : Int32) : gx_tp_ringsRead (sx_tp_ringsRead σ v) = v := rfl
theorem px_tp_standsDone_tp_ringsRead (σ : SX) (v : Int32) : gx_tp_standsDone (sx_tp_ringsRead σ v) = gx_tp_standsDone σ := rfl
theorem px_tp_imageKept_tp_ringsRead (σ : SX) (v : Int32) : gx_tp_imageKept (sx_tp_ringsRead σ v) = gx_tp_imageKept σ := rfl
theorem px_pok_tp_ringsRead (σ : SX) (v : Int32) (a : Nat) : gx_pok (sx_tp_ringsRead σ v) a = gx_pok σ a := rfl
theorem px_pg_signs_tp_standsDone (σ : SX) (v : Int32) : gx_pg_signs (sx_tp_standsDone σ v) = gx_pg_signs σ := rfl
theorem px_pg_length_tp_standsDone (σ : SX) (v : Int32) : gx_pg_length (sx_tp_standsDone σ v) = gx_pg_length σ := rfl
theorem px_pg_row_tp_standsDone (σ : SX) (v : Int32) : gx_pg_row (sx_tp_standsDone σ v) = gx_pg_row σ := rfl
theorem px_pg_column_tp_standsDone (σ : SX) (v : Int32) : gx_pg_column (sx_tp_standsDone σ v) = gx_pg_column σ := rfl
theorem px_pg_width_tp_standsDone (σ : SX) (v : Int32) : gx_pg_width (sx_tp_standsDone σ v) = gx_pg_width σ := rfl
theorem px_rg_kinds_tp_standsDone (σ : SX) (v : Int32) : gx_rg_kinds (sx_tp_standsDone σ v) = gx_rg_kinds σ := rfl
theorem px_rg_rows_tp_standsDone (σ : SX) (v : Int32) : gx_rg_rows (sx_tp_standsDone σ v) = gx_rg_rows σ := rfl
theorem px_rg_columns_tp_standsDone (σ : SX) (v : Int32) : gx_rg_columns (sx_tp_standsDone σ v) = gx_rg_columns σ := rfl
theorem px_rg_beside_tp_standsDone (σ : SX) (v : Int32) : gx_rg_beside (sx_tp_standsDone σ v) = gx_rg_beside σ := rfl
theorem px_rg_size_tp_standsDone (σ : SX) (v : Int32) : gx_rg_size (sx_tp_standsDone σ v) = gx_rg_size σ := rfl
theorem px_rg_free_tp_standsDone (σ : SX) (v : Int32) : gx_rg_free (sx_tp_standsDone σ v) = gx_rg_free σ := rfl
theorem px_od_weights_tp_standsDone (σ : SX) (v : Int32) : gx_od_weights (sx_tp_standsDone σ v) = gx_od_weights σ := rfl
theorem px_od_kept_tp_standsDone (σ : SX) (v : Int32) : gx_od_kept (sx_tp_standsDone σ v) = gx_od_kept σ := rfl
theorem px_od_outs_tp_standsDone (σ : SX) (v : Int32) : gx_od_outs (sx_tp_standsDone σ v) = gx_od_outs σ := rfl
theorem px_od_updates_tp_standsDone (σ : SX) (v : Int32) : gx_od_updates (sx_tp_standsDone σ v) = gx_od_updates σ := rfl
theorem px_od_keptUpdates_tp_standsDone (σ : SX) (v : Int32) : gx_od_keptUpdates (sx_tp_standsDone σ v) = gx_od_keptUpdates σ := rfl
theorem px_pl_arr_tp_standsDone (σ : SX) (v : Int32) : gx_pl_arr (sx_tp_standsDone σ v) = gx_pl_arr σ := rfl
theorem px_pl_ex_tp_standsDone (σ : SX) (v : Int32) : gx_pl_ex (sx_tp_standsDone σ v) = gx_pl_ex σ := rfl
theorem px_pl_kd_tp_standsDone (σ : SX) (v : Int32) : gx_pl_kd (sx_tp_standsDone σ v) = gx_pl_kd σ := rfl
theorem px_pl_told_tp_standsDone (σ : SX) (v : Int32) : gx_pl_told (sx_tp_standsDone σ v) = gx_pl_told σ := rfl
theorem px_pl_kept_tp_standsDone (σ : SX) (v : Int32) : gx_pl_kept (sx_tp_standsDone σ v) = gx_pl_kept σ := rfl
theorem px_pl_at_tp_standsDone (σ : SX) (v : Int32) : gx_pl_at (sx_tp_standsDone σ v) = gx_pl_at σ := rfl
theorem px_pl_size_tp_standsDone (σ : SX) (v : Int32) : gx_pl_size (sx_tp_standsDone σ v) = gx_pl_size σ := rfl
theorem px_pl_cloth_tp_standsDone (σ : SX) (v : Int32) : gx_pl_cloth (sx_tp_standsDone σ v) = gx_pl_cloth σ := rfl
theorem px_pl_giggle_tp_standsDone (σ : SX) (v : Int32) : gx_pl_giggle (sx_tp_standsDone σ v) = gx_pl_giggle σ := rfl
theorem px_rd_firstCell_tp_standsDone (σ : SX) (v : Int32) : gx_rd_firstCell (sx_tp_standsDone σ v) = gx_rd_firstCell σ := rfl
theorem px_rd_firstWay_tp_standsDone (σ : SX) (v : Int32) : gx_rd_firstWay (sx_tp_standsDone σ v) = gx_rd_firstWay σ := rfl
theorem px_rd_drift_tp_standsDone (σ : SX) (v : Int32) : gx_rd_drift (sx_tp_standsDone σ v) = gx_rd_drift σ := rfl
theorem px_rd_tenths_tp_standsDone (σ : SX) (v : Int32) : gx_rd_tenths (sx_tp_standsDone σ v) = gx_rd_tenths σ := rfl
theorem px_rd_hisCell_tp_standsDone (σ : SX) (v : Int32) : gx_rd_hisCell (sx_tp_standsDone σ v) = gx_rd_hisCell σ := rfl
theorem px_rd_hisWay_tp_standsDone (σ : SX) (v : Int32) : gx_rd_hisWay (sx_tp_standsDone σ v) = gx_rd_hisWay σ := rfl
theorem px_rd_tenth_tp_standsDone (σ : SX) (v : Int32) : gx_rd_tenth (sx_tp_standsDone σ v) = gx_rd_tenth σ := rfl
theorem px_rd_touched_tp_standsDone (σ : SX) (v : Int32) : gx_rd_touched (sx_tp_standsDone σ v) = gx_rd_touched σ := rfl
theorem px_rd_seed_tp_standsDone (σ : SX) (v : Int32) : gx_rd_seed (sx_tp_standsDone σ v) = gx_rd_seed σ := rfl
theorem px_nm_weights_tp_standsDone (σ : SX) (v : Int32) : gx_nm_weights (sx_tp_standsDone σ v) = gx_nm_weights σ := rfl
theorem px_nm_sizeOff_tp_standsDone (σ : SX) (v : Int32) : gx_nm_sizeOff (sx_tp_standsDone σ v) = gx_nm_sizeOff σ := rfl
theorem px_nm_clothRight_tp_standsDone (σ : SX) (v : Int32) : gx_nm_clothRight (sx_tp_standsDone σ v) = gx_nm_clothRight σ := rfl
theorem px_nm_giggleRight_tp_standsDone (σ : SX) (v : Int32) : gx_nm_giggleRight (sx_tp_standsDone σ v) = gx_nm_giggleRight σ := rfl
theorem px_nm_first_tp_standsDone (σ : SX) (v : Int32) : gx_nm_first (sx_tp_standsDone σ v) = gx_nm_first σ := rfl
theorem px_nm_second_tp_standsDone (σ : SX) (v : Int32) : gx_nm_second (sx_tp_standsDone σ v) = gx_nm_second σ := rfl
theorem px_nm_changed_tp_standsDone (σ : SX) (v : Int32) : gx_nm_changed (sx_tp_standsDone σ v) = gx_nm_changed σ := rfl
theorem px_nm_keptFirst_tp_standsDone (σ : SX) (v : Int32) : gx_nm_keptFirst (sx_tp_standsDone σ v) = gx_nm_keptFirst σ := rfl
theorem px_nm_keptSecond_tp_standsDone (σ : SX) (v : Int32) : gx_nm_keptSecond (sx_tp_standsDone σ v) = gx_nm_keptSecond σ := rfl
theorem px_nm_keptChanged_tp_standsDone (σ : SX) (v : Int32) : gx_nm_keptChanged (sx_tp_standsDone σ v) = gx_nm_keptChanged σ := rfl
theorem px_tp_playing_tp_standsDone (σ : SX) (v : Int32) : gx_tp_playing (sx_tp_standsDone σ v) = gx_tp_playing σ := rfl
theorem px_tp_ringsRead_tp_standsDone (σ : SX) (v : Int32) : gx_tp_ringsRead (sx_tp_standsDone σ v) = gx_tp_ringsRead σ := rfl
theorem px_tp_standsDone_tp_standsDone (σ : SX) (v : Int32) : gx_tp_standsDone (sx_tp_standsDone σ v) = v := rfl
theorem px_tp_imageKept_tp_standsDone (σ : SX) (v : Int32) : gx_tp_imageKept (sx_tp_standsDone σ v) = gx_tp_imageKept σ := rfl
theorem px_pok_tp_standsDone (σ : SX) (v : Int32) (a : Nat) : gx_pok (sx_tp_standsDone σ v) a = gx_pok σ a := rfl
theorem px_pg_signs_tp_imageKept (σ : SX) (v : Int32) : gx_pg_signs (sx_tp_imageKept σ v) = gx_pg_signs σ := rfl
theorem px_pg_length_tp_imageKept (σ : SX) (v : Int32) : gx_pg_length (sx_tp_imageKept σ v) = gx_pg_length σ := rfl
theorem px_pg_row_tp_imageKept (σ : SX) (v : Int32) : gx_pg_row (sx_tp_imageKept σ v) = gx_pg_row σ := rfl
theorem px_pg_column_tp_imageKept (σ : SX) (v : Int32) : gx_pg_column (sx_tp_imageKept σ v) = gx_pg_column σ := rfl
theorem px_pg_width_tp_imageKept (σ : SX) (v : Int32) : gx_pg_width (sx_tp_imageKept σ v) = gx_pg_width σ := rfl
theorem px_rg_kinds_tp_imageKept (σ : SX) (v : Int32) : gx_rg_kinds (sx_tp_imageKept σ v) = gx_rg_kinds σ := rfl
theorem px_rg_rows_tp_imageKept (σ : SX) (v : Int32) : gx_rg_rows (sx_tp_imageKept σ v) = gx_rg_rows σ := rfl
theorem px_rg_columns_tp_imageKept (σ : SX) (v : Int32) : gx_rg_columns (sx_tp_imageKept σ v) = gx_rg_columns σ := rfl
theorem px_rg_beside_tp_imageKept (σ : SX) (v : Int32) : gx_rg_beside (sx_tp_imageKept σ v) = gx_rg_beside σ := rfl
theorem px_rg_size_tp_imageKept (σ : SX) (v : Int32) : gx_rg_size (sx_tp_imageKept σ v) = gx_rg_size σ := rfl
theorem px_rg_free_tp_imageKept (σ : SX) (v : Int32) : gx_rg_free (sx_tp_imageKept σ v) = gx_rg_free σ := rfl
theorem px_od_weights_tp_imageKept (σ : SX) (v : Int32) : gx_od_weights (sx_tp_imageKept σ v) = gx_od_weights σ := rfl
theorem px_od_kept_tp_imageKept (σ : SX) (v : Int32) : gx_od_kept (sx_tp_imageKept σ v) = gx_od_kept σ := rfl
theorem px_od_outs_tp_imageKept (σ : SX) (v : Int32) : gx_od_outs (sx_tp_imageKept σ v) = gx_od_outs σ := rfl
theorem px_od_updates_tp_imageKept (σ : SX) (v : Int32) : gx_od_updates (sx_tp_imageKept σ v) = gx_od_updates σ := rfl
theorem px_od_keptUpdates_tp_imageKept (σ : SX) (v : Int32) : gx_od_keptUpdates (sx_tp_imageKept σ v) = gx_od_keptUpdates σ := rfl
theorem px_pl_arr_tp_imageKept (σ : SX) (v : Int32) : gx_pl_arr (sx_tp_imageKept σ v) = gx_pl_arr σ := rfl
theorem px_pl_ex_tp_imageKept (σ : SX) (v : Int32) : gx_pl_ex (sx_tp_imageKept σ v) = gx_pl_ex σ := rfl
theorem px_pl_kd_tp_imageKept (σ : SX) (v : Int32) : gx_pl_kd (sx_tp_imageKept σ v) = gx_pl_kd σ := rfl
theorem px_pl_told_tp_imageKept (σ : SX) (v : Int32) : gx_pl_told (sx_tp_imageKept σ v) = gx_pl_told σ := rfl
theorem px_pl_kept_tp_imageKept (σ : SX) (v : Int32) : gx_pl_kept (sx_tp_imageKept σ v) = gx_pl_kept σ := rfl
theorem px_pl_at_tp_imageKept (σ : SX) (v : Int32) : gx_pl_at (sx_tp_imageKept σ v) = gx_pl_at σ := rfl
theorem px_pl_size_tp_imageKept (σ : SX) (v : Int32) : gx_pl_size (sx_tp_imageKept σ v) = gx_pl_size σ := rfl
theorem px_pl_cloth_tp_imageKept (σ : SX) (v : Int32) : gx_pl_cloth (sx_tp_imageKept σ v) = gx_pl_cloth σ := rfl
theorem px_pl_giggle_tp_imageKept (σ : SX) (v : Int32) : gx_pl_giggle (sx_tp_imageKept σ v) = gx_pl_giggle σ := rfl
theorem px_rd_firstCell_tp_imageKept (σ : SX) (v : Int32) : gx_rd_firstCell (sx_tp_imageKept σ v) = gx_rd_firstCell σ := rfl
theorem px_rd_firstWay_tp_imageKept (σ : SX) (v : Int32) : gx_rd_firstWay (sx_tp_imageKept σ v) = gx_rd_firstWay σ := rfl
theorem px_rd_drift_tp_imageKept (σ : SX) (v : Int32) : gx_rd_drift (sx_tp_imageKept σ v) = gx_rd_drift σ := rfl
theorem px_rd_tenths_tp_imageKept (σ : SX) (v : Int32) : gx_rd_tenths (sx_tp_imageKept σ v) = gx_rd_tenths σ := rfl
theorem px_rd_hisCell_tp_imageKept (σ : SX) (v : Int32) : gx_rd_hisCell (sx_tp_imageKept σ v) = gx_rd_hisCell σ := rfl
theorem px_rd_hisWay_tp_imageKept (σ : SX) (v : Int32) : gx_rd_hisWay (sx_tp_imageKept σ v) = gx_rd_hisWay σ := rfl
theorem px_rd_tenth_tp_imageKept (σ : SX) (v : Int32) : gx_rd_tenth (sx_tp_imageKept σ v) = gx_rd_tenth σ := rfl
theorem px_rd_touched_tp_imageKept (σ : SX) (v : Int32) : gx_rd_touched (sx_tp_imageKept σ v) = gx_rd_touched σ := rfl
theorem px_rd_seed_tp_imageKept (σ : SX) (v : Int32) : gx_rd_seed (sx_tp_imageKept σ v) = gx_rd_seed σ := rfl
theorem px_nm_weights_tp_imageKept (σ : SX) (v : Int32) : gx_nm_weights (sx_tp_imageKept σ v) = gx_nm_weights σ := rfl
theorem px_nm_sizeOff_tp_imageKept (σ : SX) (v : Int32) : gx_nm_sizeOff (sx_tp_imageKept σ v) = gx_nm_sizeOff σ := rfl
theorem px_nm_clothRight_tp_imageKept (σ : SX) (v : Int32) : gx_nm_clothRight (sx_tp_imageKept σ v) = gx_nm_clothRight σ := rfl
theorem px_nm_giggleRight_tp_imageKept (σ : SX) (v : Int32) : gx_nm_giggleRight (sx_tp_imageKept σ v) = gx_nm_giggleRight σ := rfl
theorem px_nm_first_tp_imageKept (σ : SX) (v : Int32) : gx_nm_first (sx_tp_imageKept σ v) = gx_nm_first σ := rfl
theorem px_nm_second_tp_imageKept (σ : SX) (v : Int32) : gx_nm_second (sx_tp_imageKept σ v) = gx_nm_second σ := rfl
theorem px_nm_changed_tp_imageKept (σ : SX) (v : Int32) : gx_nm_changed (sx_tp_imageKept σ v) = gx_nm_changed σ := rfl
theorem px_nm_keptFirst_tp_imageKept (σ : SX) (v : Int32) : gx_nm_keptFirst (sx_tp_imageKept σ v) = gx_nm_keptFirst σ := rfl
theorem px_nm_keptSecond_tp_imageKept (σ : SX) (v : Int32) : gx_nm_keptSecond (sx_tp_imageKept σ v) = gx_nm_keptSecond σ := rfl
theorem px_nm_keptChanged_tp_imageKept (σ : SX) (v : Int32) : gx_nm_keptChanged (sx_tp_imageKept σ v) = gx_nm_keptChanged σ := rfl
theorem px_tp_playing_tp_imageKept (σ : SX) (v : Int32) : gx_tp_playing (sx_tp_imageKept σ v) = gx_tp_playing σ := rfl
theorem px_tp_ringsRead_tp_imageKept (σ : SX) (v : Int32) : gx_tp_ringsRead (sx_tp_imageKept σ v) = gx_tp_ringsRead σ := rfl
theorem px_tp_standsDone_tp_imageKept (σ : SX) (v : Int32) : gx_tp_standsDone (sx_tp_imageKept σ v) = gx_tp_standsDone σ := rfl
theorem px_tp_imageKept_tp_imageKept (σ : SX) (v : Int32) : gx_tp_imageKept (sx_tp_imageKept σ v) = v := rfl
theorem px_pok_tp_imageKept (σ : SX) (v : Int32) (a : Nat) : gx_pok (sx_tp_imageKept σ v) a = gx_pok σ a := rfl
theorem pm_rg_rows_rg_rows (σ : SM) (v : Int32) : gm_rg_rows (sm_rg_rows σ v) = v := rfl
theorem pm_rg_columns_rg_rows (σ : SM) (v : Int32) : gm_rg_columns (sm_rg_rows σ v) = gm_rg_columns σ := rfl
theorem pm_rg_rings_rg_rows (σ : SM) (v : Int32) : gm_rg_rings (sm_rg_rows σ v) = gm_rg_rings σ := rfl
theorem pm_rg_cellOf_rg_rows (σ : SM) (v : Int32) : gm_rg_cellOf (sm_rg_rows σ v) = gm_rg_cellOf σ := rfl
theorem pm_od_weight_rg_rows (σ : SM) (v : Int32) : gm_od_weight (sm_rg_rows σ v) = gm_od_weight σ := rfl
theorem pm_od_then_rg_rows (σ : SM) (v : Int32) : gm_od_then (sm_rg_rows σ v) = gm_od_then σ := rfl
theorem pm_od_updates_rg_rows (σ : SM) (v : Int32) : gm_od_updates (sm_rg_rows σ v) = gm_od_updates σ := rfl
theorem pm_pl_players_rg_rows (σ : SM) (v : Int32) : gm_pl_players (sm_rg_rows σ v) = gm_pl_players σ := rfl
theorem pm_pl_kindOf_rg_rows (σ : SM) (v : Int32) : gm_pl_kindOf (sm_rg_rows σ v) = gm_pl_kindOf σ := rfl
theorem pm_pl_placeOf_rg_rows (σ : SM) (v : Int32) : gm_pl_placeOf (sm_rg_rows σ v) = gm_pl_placeOf σ := rfl
theorem pm_pl_sizeOf_rg_rows (σ : SM) (v : Int32) : gm_pl_sizeOf (sm_rg_rows σ v) = gm_pl_sizeOf σ := rfl
theorem pm_pl_clothOf_rg_rows (σ : SM) (v : Int32) : gm_pl_clothOf (sm_rg_rows σ v) = gm_pl_clothOf σ := rfl
theorem pm_pl_giggleOf_rg_rows (σ : SM) (v : Int32) : gm_pl_giggleOf (sm_rg_rows σ v) = gm_pl_giggleOf σ := rfl
theorem pm_nm_unsure_rg_rows (σ : SM) (v : Int32) : gm_nm_unsure (sm_rg_rows σ v) = gm_nm_unsure σ := rfl
theorem pm_nm_clothRight_rg_rows (σ : SM) (v : Int32) : gm_nm_clothRight (sm_rg_rows σ v) = gm_nm_clothRight σ := rfl
theorem pm_nm_giggleRight_rg_rows (σ : SM) (v : Int32) : gm_nm_giggleRight (sm_rg_rows σ v) = gm_nm_giggleRight σ := rfl
theorem pm_nm_jacketA_rg_rows (σ : SM) (v : Int32) : gm_nm_jacketA (sm_rg_rows σ v) = gm_nm_jacketA σ := rfl
theorem pm_nm_jacketB_rg_rows (σ : SM) (v : Int32) : gm_nm_jacketB (sm_rg_rows σ v) = gm_nm_jacketB σ := rfl
theorem pm_nm_jacketTenths_rg_rows (σ : SM) (v : Int32) : gm_nm_jacketTenths (sm_rg_rows σ v) = gm_nm_jacketTenths σ := rfl
theorem pm_nm_asks_rg_rows (σ : SM) (v : Int32) : gm_nm_asks (sm_rg_rows σ v) = gm_nm_asks σ := rfl
theorem pm_pg_pageLength_rg_rows (σ : SM) (v : Int32) : gm_pg_pageLength (sm_rg_rows σ v) = gm_pg_pageLength σ := rfl
theorem pm_pg_page_rg_rows (σ : SM) (v : Int32) : gm_pg_page (sm_rg_rows σ v) = gm_pg_page σ := rfl
theorem pm_kp_isKept_rg_rows (σ : SM) (v : Int32) : gm_kp_isKept (sm_rg_rows σ v) = gm_kp_isKept σ := rfl
theorem pm_kp_keptRing_rg_rows (σ : SM) (v : Int32) : gm_kp_keptRing (sm_rg_rows σ v) = gm_kp_keptRing σ := rfl
theorem pm_kp_keptPlayers_rg_rows (σ : SM) (v : Int32) : gm_kp_keptPlayers (sm_rg_rows σ v) = gm_kp_keptPlayers σ := rfl
theorem pm_kp_keptUpdates_rg_rows (σ : SM) (v : Int32) : gm_kp_keptUpdates (sm_rg_rows σ v) = gm_kp_keptUpdates σ := rfl
theorem pm_kp_keptA_rg_rows (σ : SM) (v : Int32) : gm_kp_keptA (sm_rg_rows σ v) = gm_kp_keptA σ := rfl
theorem pm_kp_keptB_rg_rows (σ : SM) (v : Int32) : gm_kp_keptB (sm_rg_rows σ v) = gm_kp_keptB σ := rfl
theorem pm_kp_keptTenths_rg_rows (σ : SM) (v : Int32) : gm_kp_keptTenths (sm_rg_rows σ v) = gm_kp_keptTenths σ := rfl
theorem pm_kp_keptWeight_rg_rows (σ : SM) (v : Int32) : gm_kp_keptWeight (sm_rg_rows σ v) = gm_kp_keptWeight σ := rfl
theorem pm_kp_keptPlace_rg_rows (σ : SM) (v : Int32) : gm_kp_keptPlace (sm_rg_rows σ v) = gm_kp_keptPlace σ := rfl
theorem pm_rp_faultAt_rg_rows (σ : SM) (v : Int32) : gm_rp_faultAt (sm_rg_rows σ v) = gm_rp_faultAt σ := rfl
theorem pm_rp_isWhole_rg_rows (σ : SM) (v : Int32) : gm_rp_isWhole (sm_rg_rows σ v) = gm_rp_isWhole σ := rfl
theorem pm_rp_newRows_rg_rows (σ : SM) (v : Int32) : gm_rp_newRows (sm_rg_rows σ v) = gm_rp_newRows σ := rfl
theorem pm_rp_newColumns_rg_rows (σ : SM) (v : Int32) : gm_rp_newColumns (sm_rg_rows σ v) = gm_rp_newColumns σ := rfl
theorem pm_rp_newCell_rg_rows (σ : SM) (v : Int32) : gm_rp_newCell (sm_rg_rows σ v) = gm_rp_newCell σ := rfl
theorem pm_rp_gonePost_rg_rows (σ : SM) (v : Int32) : gm_rp_gonePost (sm_rg_rows σ v) = gm_rp_gonePost σ := rfl
theorem pm_gm_his_rg_rows (σ : SM) (v : Int32) : gm_gm_his (sm_rg_rows σ v) = gm_gm_his σ := rfl
theorem pm_gm_looks_rg_rows (σ : SM) (v : Int32) : gm_gm_looks (sm_rg_rows σ v) = gm_gm_looks σ := rfl
theorem pm_gm_seedNow_rg_rows (σ : SM) (v : Int32) : gm_gm_seedNow (sm_rg_rows σ v) = gm_gm_seedNow σ := rfl
theorem pm_gm_place_rg_rows (σ : SM) (v : Int32) : gm_gm_place (sm_rg_rows σ v) = gm_gm_place σ := rfl
theorem pm_gm_touched_rg_rows (σ : SM) (v : Int32) : gm_gm_touched (sm_rg_rows σ v) = gm_gm_touched σ := rfl
theorem pm_gm_touchedAt_rg_rows (σ : SM) (v : Int32) : gm_gm_touchedAt (sm_rg_rows σ v) = gm_gm_touchedAt σ := rfl
theorem pm_gm_h_rg_rows (σ : SM) (v : Int32) : gm_gm_h (sm_rg_rows σ v) = gm_gm_h σ := rfl
theorem pm_rg_rows_rg_columns (σ : SM) (v : Int32) : gm_rg_rows (sm_rg_columns σ v) = gm_rg_rows σ := rfl
theorem pm_rg_columns_rg_columns (σ : SM) (v : Int32) : gm_rg_columns (sm_rg_columns σ v) = v := rfl
theorem pm_rg_rings_rg_columns (σ : SM) (v : Int32) : gm_rg_rings (sm_rg_columns σ v) = gm_rg_rings σ := rfl
theorem pm_rg_cellOf_rg_columns (σ : SM) (v : Int32) : gm_rg_cellOf (sm_rg_columns σ v) = gm_rg_cellOf σ := rfl
theorem pm_od_weight_rg_columns (σ : SM) (v : Int32) : gm_od_weight (sm_rg_columns σ v) = gm_od_weight σ := rfl
theorem pm_od_then_rg_columns (σ : SM) (v : Int32) : gm_od_then (sm_rg_columns σ v) = gm_od_then σ := rfl
theorem pm_od_updates_rg_columns (σ : SM) (v : Int32) : gm_od_updates (sm_rg_columns σ v) = gm_od_updates σ := rfl
theorem pm_pl_players_rg_columns (σ : SM) (v : Int32) : gm_pl_players (sm_rg_columns σ v) = gm_pl_players σ := rfl
theorem pm_pl_kindOf_rg_columns (σ : SM) (v : Int32) : gm_pl_kindOf (sm_rg_columns σ v) = gm_pl_kindOf σ := rfl
theorem pm_pl_placeOf_rg_columns (σ : SM) (v : Int32) : gm_pl_placeOf (sm_rg_columns σ v) = gm_pl_placeOf σ := rfl
theorem pm_pl_sizeOf_rg_columns (σ : SM) (v : Int32) : gm_pl_sizeOf (sm_rg_columns σ v) = gm_pl_sizeOf σ := rfl
theorem pm_pl_clothOf_rg_columns (σ : SM) (v : Int32) : gm_pl_clothOf (sm_rg_columns σ v) = gm_pl_clothOf σ := rfl
theorem pm_pl_giggleOf_rg_columns (σ : SM) (v : Int32) : gm_pl_giggleOf (sm_rg_columns σ v) = gm_pl_giggleOf σ := rfl
theorem pm_nm_unsure_rg_columns (σ : SM) (v : Int32) : gm_nm_unsure (sm_rg_columns σ v) = gm_nm_unsure σ := rfl
theorem pm_nm_clothRight_rg_columns (σ : SM) (v : Int32) : gm_nm_clothRight (sm_rg_columns σ v) = gm_nm_clothRight σ := rfl
theorem pm_nm_giggleRight_rg_columns (σ : SM) (v : Int32) : gm_nm_giggleRight (sm_rg_columns σ v) = gm_nm_giggleRight σ := rfl
theorem pm_nm_jacketA_rg_columns (σ : SM) (v : Int32) : gm_nm_jacketA (sm_rg_columns σ v) = gm_nm_jacketA σ := rfl
theorem pm_nm_jacketB_rg_columns (σ : SM) (v : Int32) : gm_nm_jacketB (sm_rg_columns σ v) = gm_nm_jacketB σ := rfl
theorem pm_nm_jacketTenths_rg_columns (σ : SM) (v : Int32) : gm_nm_jacketTenths (sm_rg_columns σ v) = gm_nm_jacketTenths σ := rfl
theorem pm_nm_asks_rg_columns (σ : SM) (v : Int32) : gm_nm_asks (sm_rg_columns σ v) = gm_nm_asks σ := rfl
theorem pm_pg_pageLength_rg_columns (σ : SM) (v : Int32) : gm_pg_pageLength (sm_rg_columns σ v) = gm_pg_pageLength σ := rfl
theorem pm_pg_page_rg_columns (σ : SM) (v : Int32) : gm_pg_page (sm_rg_columns σ v) = gm_pg_page σ := rfl
theorem pm_kp_isKept_rg_columns (σ : SM) (v : Int32) : gm_kp_isKept (sm_rg_columns σ v) = gm_kp_isKept σ := rfl
theorem pm_kp_keptRing_rg_columns (σ : SM) (v : Int32) : gm_kp_keptRing (sm_rg_columns σ v) = gm_kp_keptRing σ := rfl
theorem pm_kp_keptPlayers_rg_columns (σ : SM) (v : Int32) : gm_kp_keptPlayers (sm_rg_columns σ v) = gm_kp_keptPlayers σ := rfl
theorem pm_kp_keptUpdates_rg_columns (σ : SM) (v : Int32) : gm_kp_keptUpdates (sm_rg_columns σ v) = gm_kp_keptUpdates σ := rfl
theorem pm_kp_keptA_rg_columns (σ : SM) (v : Int32) : gm_kp_keptA (sm_rg_columns σ v) = gm_kp_keptA σ := rfl
theorem pm_kp_keptB_rg_columns (σ : SM) (v : Int32) : gm_kp_keptB (sm_rg_columns σ v) = gm_kp_keptB σ := rfl
theorem pm_kp_keptTenths_rg_columns (σ : SM) (v : Int32) : gm_kp_keptTenths (sm_rg_columns σ v) = gm_kp_keptTenths σ := rfl
theorem pm_kp_keptWeight_rg_columns (σ : SM) (v : Int32) : gm_kp_keptWeight (sm_rg_columns σ v) = gm_kp_keptWeight σ := rfl
theorem pm_kp_keptPlace_rg_columns (σ : SM) (v : Int32) : gm_kp_keptPlace (sm_rg_columns σ v) = gm_kp_keptPlace σ := rfl
theorem pm_rp_faultAt_rg_columns (σ : SM) (v : Int32) : gm_rp_faultAt (sm_rg_columns σ v) = gm_rp_faultAt σ := rfl
theorem pm_rp_isWhole_rg_columns (σ : SM) (v : Int32) : gm_rp_isWhole (sm_rg_columns σ v) = gm_rp_isWhole σ := rfl
theorem pm_rp_newRows_rg_columns (σ : SM) (v : Int32) : gm_rp_newRows (sm_rg_columns σ v) = gm_rp_newRows σ := rfl
theorem pm_rp_newColumns_rg_columns (σ : SM) (v : Int32) : gm_rp_newColumns (sm_rg_columns σ v) = gm_rp_newColumns σ := rfl
theorem pm_rp_newCell_rg_columns (σ : SM) (v : Int32) : gm_rp_newCell (sm_rg_columns σ v) = gm_rp_newCell σ := rfl
theorem pm_rp_gonePost_rg_columns (σ : SM) (v : Int32) : gm_rp_gonePost (sm_rg_columns σ v) = gm_rp_gonePost σ := rfl
theorem pm_gm_his_rg_columns (σ : SM) (v : Int32) : gm_gm_his (sm_rg_columns σ v) = gm_gm_his σ := rfl
theorem pm_gm_looks_rg_columns (σ : SM) (v : Int32) : gm_gm_looks (sm_rg_columns σ v) = gm_gm_looks σ := rfl
theorem pm_gm_seedNow_rg_columns (σ : SM) (v : Int32) : gm_gm_seedNow (sm_rg_columns σ v) = gm_gm_seedNow σ := rfl
theorem pm_gm_place_rg_columns (σ : SM) (v : Int32) : gm_gm_place (sm_rg_columns σ v) = gm_gm_place σ := rfl
theorem pm_gm_touched_rg_columns (σ : SM) (v : Int32) : gm_gm_touched (sm_rg_columns σ v) = gm_gm_touched σ := rfl
theorem pm_gm_touchedAt_rg_columns (σ : SM) (v : Int32) : gm_gm_touchedAt (sm_rg_columns σ v) = gm_gm_touchedAt σ := rfl
theorem pm_gm_h_rg_columns (σ : SM) (v : Int32) : gm_gm_h (sm_rg_columns σ v) = gm_gm_h σ := rfl
theorem pm_rg_rows_rg_rings (σ : SM) (v : Int32) : gm_rg_rows (sm_rg_rings σ v) = gm_rg_rows σ := rfl
theorem pm_rg_columns_rg_rings (σ : SM) (v : Int32) : gm_rg_columns (sm_rg_rings σ v) = gm_rg_columns σ := rfl
theorem pm_rg_rings_rg_rings (σ : SM) (v : Int32) : gm_rg_rings (sm_rg_rings σ v) = v := rfl
theorem pm_rg_cellOf_rg_rings (σ : SM) (v : Int32) : gm_rg_cellOf (sm_rg_rings σ v) = gm_rg_cellOf σ := rfl
theorem pm_od_weight_rg_rings (σ : SM) (v : Int32) : gm_od_weight (sm_rg_rings σ v) = gm_od_weight σ := rfl
theorem pm_od_then_rg_rings (σ : SM) (v : Int32) : gm_od_then (sm_rg_rings σ v) = gm_od_then σ := rfl
theorem pm_od_updates_rg_rings (σ : SM) (v : Int32) : gm_od_updates (sm_rg_rings σ v) = gm_od_updates σ := rfl
theorem pm_pl_players_rg_rings (σ : SM) (v : Int32) : gm_pl_players (sm_rg_rings σ v) = gm_pl_players σ := rfl
theorem pm_pl_kindOf_rg_rings (σ : SM) (v : Int32) : gm_pl_kindOf (sm_rg_rings σ v) = gm_pl_kindOf σ := rfl
theorem pm_pl_placeOf_rg_rings (σ : SM) (v : Int32) : gm_pl_placeOf (sm_rg_rings σ v) = gm_pl_placeOf σ := rfl
theorem pm_pl_sizeOf_rg_rings (σ : SM) (v : Int32) : gm_pl_sizeOf (sm_rg_rings σ v) = gm_pl_sizeOf σ := rfl
theorem pm_pl_clothOf_rg_rings (σ : SM) (v : Int32) : gm_pl_clothOf (sm_rg_rings σ v) = gm_pl_clothOf σ := rfl
theorem pm_pl_giggleOf_rg_rings (σ : SM) (v : Int32) : gm_pl_giggleOf (sm_rg_rings σ v) = gm_pl_giggleOf σ := rfl
theorem pm_nm_unsure_rg_rings (σ : SM) (v : Int32) : gm_nm_unsure (sm_rg_rings σ v) = gm_nm_unsure σ := rfl
theorem pm_nm_clothRight_rg_rings (σ : SM) (v : Int32) : gm_nm_clothRight (sm_rg_rings σ v) = gm_nm_clothRight σ := rfl
theorem pm_nm_giggleRight_rg_rings (σ : SM) (v : Int32) : gm_nm_giggleRight (sm_rg_rings σ v) = gm_nm_giggleRight σ := rfl
theorem pm_nm_jacketA_rg_rings (σ : SM) (v : Int32) : gm_nm_jacketA (sm_rg_rings σ v) = gm_nm_jacketA σ := rfl
theorem pm_nm_jacketB_rg_rings (σ : SM) (v : Int32) : gm_nm_jacketB (sm_rg_rings σ v) = gm_nm_jacketB σ := rfl
theorem pm_nm_jacketTenths_rg_rings (σ : SM) (v : Int32) : gm_nm_jacketTenths (sm_rg_rings σ v) = gm_nm_jacketTenths σ := rfl
theorem pm_nm_asks_rg_rings (σ : SM) (v : Int32) : gm_nm_asks (sm_rg_rings σ v) = gm_nm_asks σ := rfl
theorem pm_pg_pageLength_rg_rings (σ : SM) (v : Int32) : gm_pg_pageLength (sm_rg_rings σ v) = gm_pg_pageLength σ := rfl
theorem pm_pg_page_rg_rings (σ : SM) (v : Int32) : gm_pg_page (sm_rg_rings σ v) = gm_pg_page σ := rfl
theorem pm_kp_isKept_rg_rings (σ : SM) (v : Int32) : gm_kp_isKept (sm_rg_rings σ v) = gm_kp_isKept σ := rfl
theorem pm_kp_keptRing_rg_rings (σ : SM) (v : Int32) : gm_kp_keptRing (sm_rg_rings σ v) = gm_kp_keptRing σ := rfl
theorem pm_kp_keptPlayers_rg_rings (σ : SM) (v : Int32) : gm_kp_keptPlayers (sm_rg_rings σ v) = gm_kp_keptPlayers σ := rfl
theorem pm_kp_keptUpdates_rg_rings (σ : SM) (v : Int32) : gm_kp_keptUpdates (sm_rg_rings σ v) = gm_kp_keptUpdates σ := rfl
theorem pm_kp_keptA_rg_rings (σ : SM) (v : Int32) : gm_kp_keptA (sm_rg_rings σ v) = gm_kp_keptA σ := rfl
theorem pm_kp_keptB_rg_rings (σ : SM) (v : Int32) : gm_kp_keptB (sm_rg_rings σ v) = gm_kp_keptB σ := rfl
theorem pm_kp_keptTenths_rg_rings (σ : SM) (v : Int32) : gm_kp_keptTenths (sm_rg_rings σ v) = gm_kp_keptTenths σ := rfl
theorem pm_kp_keptWeight_rg_rings (σ : SM) (v : Int32) : gm_kp_keptWeight (sm_rg_rings σ v) = gm_kp_keptWeight σ := rfl
theorem pm_kp_keptPlace_rg_rings (σ : SM) (v : Int32) : gm_kp_keptPlace (sm_rg_rings σ v) = gm_kp_keptPlace σ := rfl
theorem pm_rp_faultAt_rg_rings (σ : SM) (v : Int32) : gm_rp_faultAt (sm_rg_rings σ v) = gm_rp_faultAt σ := rfl
theorem pm_rp_isWhole_rg_rings (σ : SM) (v : Int32) : gm_rp_isWhole (sm_rg_rings σ v) = gm_rp_isWhole σ := rfl
theorem pm_rp_newRows_rg_rings (σ : SM) (v : Int32) : gm_rp_newRows (sm_rg_rings σ v) = gm_rp_newRows σ := rfl
theorem pm_rp_newColumns_rg_rings (σ : SM) (v : Int32) : gm_rp_newColumns (sm_rg_rings σ v) = gm_rp_newColumns σ := rfl
theorem pm_rp_newCell_rg_rings (σ : SM) (v : Int32) : gm_rp_newCell (sm_rg_rings σ v) = gm_rp_newCell σ := rfl
theorem pm_rp_gonePost_rg_rings (σ : SM) (v : Int32) : gm_rp_gonePost (sm_rg_rings σ v) = gm_rp_gonePost σ := rfl
theorem pm_gm_his_rg_rings (σ : SM) (v : Int32) : gm_gm_his (sm_rg_rings σ v) = gm_gm_his σ := rfl
theorem pm_gm_looks_rg_rings (σ : SM) (v : Int32) : gm_gm_looks (sm_rg_rings σ v) = gm_gm_looks σ := rfl
theorem pm_gm_seedNow_rg_rings (σ : SM) (v : Int32) : gm_gm_seedNow (sm_rg_rings σ v) = gm_gm_seedNow σ := rfl
theorem pm_gm_place_rg_rings (σ : SM) (v : Int32) : gm_gm_place (sm_rg_rings σ v) = gm_gm_place σ := rfl
theorem pm_gm_touched_rg_rings (σ : SM) (v : Int32) : gm_gm_touched (sm_rg_rings σ v) = gm_gm_touched σ := rfl
theorem pm_gm_touchedAt_rg_rings (σ : SM) (v : Int32) : gm_gm_touchedAt (sm_rg_rings σ v) = gm_gm_touchedAt σ := rfl
theorem pm_gm_h_rg_rings (σ : SM) (v : Int32) : gm_gm_h (sm_rg_rings σ v) = gm_gm_h σ := rfl
theorem pm_rg_rows_rg_cellOf (σ : SM) (v : Nat → Int32) : gm_rg_rows (sm_rg_cellOf σ v) = gm_rg_rows σ := rfl
theorem pm_rg_columns_rg_cellOf (σ : SM) (v : Nat → Int32) : gm_rg_columns (sm_rg_cellOf σ v) = gm_rg_columns σ := rfl
theorem pm_rg_rings_rg_cellOf (σ : SM) (v : Nat → Int32) : gm_rg_rings (sm_rg_cellOf σ v) = gm_rg_rings σ := rfl
theorem pm_rg_cellOf_rg_cellOf (σ : SM) (v : Nat → Int32) : gm_rg_cellOf (sm_rg_cellOf σ v) = v := rfl
theorem pm_od_weight_rg_cellOf (σ : SM) (v : Nat → Int32) : gm_od_weight (sm_rg_cellOf σ v) = gm_od_weight σ := rfl
theorem pm_od_then_rg_cellOf (σ : SM) (v : Nat → Int32) : gm_od_then (sm_rg_cellOf σ v) = gm_od_then σ := rfl
theorem pm_od_updates_rg_cellOf (σ : SM) (v : Nat → Int32) : gm_od_updates (sm_rg_cellOf σ v) = gm_od_updates σ := rfl
theorem pm_pl_players_rg_cellOf (σ : SM) (v : Nat → Int32) : gm_pl_players (sm_rg_cellOf σ v) = gm_pl_players σ := rfl
theorem pm_pl_kindOf_rg_cellOf (σ : SM) (v : Nat → Int32) : gm_pl_kindOf (sm_rg_cellOf σ v) = gm_pl_kindOf σ := rfl
theorem pm_pl_placeOf_rg_cellOf (σ : SM) (v : Nat → Int32) : gm_pl_placeOf (sm_rg_cellOf σ v) = gm_pl_placeOf σ := rfl
theorem pm_pl_sizeOf_rg_cellOf (σ : SM) (v : Nat → Int32) : gm_pl_sizeOf (sm_rg_cellOf σ v) = gm_pl_sizeOf σ := rfl
theorem pm_pl_clothOf_rg_cellOf (σ : SM) (v : Nat → Int32) : gm_pl_clothOf (sm_rg_cellOf σ v) = gm_pl_clothOf σ := rfl
theorem pm_pl_giggleOf_rg_cellOf (σ : SM) (v : Nat → Int32) : gm_pl_giggleOf (sm_rg_cellOf σ v) = gm_pl_giggleOf σ := rfl
theorem pm_nm_unsure_rg_cellOf (σ : SM) (v : Nat → Int32) : gm_nm_unsure (sm_rg_cellOf σ v) = gm_nm_unsure σ := rfl
theorem pm_nm_clothRight_rg_cellOf (σ : SM) (v : Nat → Int32) : gm_nm_clothRight (sm_rg_cellOf σ v) = gm_nm_clothRight σ := rfl
theorem pm_nm_giggleRight_rg_cellOf (σ : SM) (v : Nat → Int32) : gm_nm_giggleRight (sm_rg_cellOf σ v) = gm_nm_giggleRight σ := rfl
theorem pm_nm_jacketA_rg_cellOf (σ : SM) (v : Nat → Int32) : gm_nm_jacketA (sm_rg_cellOf σ v) = gm_nm_jacketA σ := rfl
theorem pm_nm_jacketB_rg_cellOf (σ : SM) (v : Nat → Int32) : gm_nm_jacketB (sm_rg_cellOf σ v) = gm_nm_jacketB σ := rfl
theorem pm_nm_jacketTenths_rg_cellOf (σ : SM) (v : Nat → Int32) : gm_nm_jacketTenths (sm_rg_cellOf σ v) = gm_nm_jacketTenths σ := rfl
theorem pm_nm_asks_rg_cellOf (σ : SM) (v : Nat → Int32) : gm_nm_asks (sm_rg_cellOf σ v) = gm_nm_asks σ := rfl
theorem pm_pg_pageLength_rg_cellOf (σ : SM) (v : Nat → Int32) : gm_pg_pageLength (sm_rg_cellOf σ v) = gm_pg_pageLength σ := rfl
theorem pm_pg_page_rg_cellOf (σ : SM) (v : Nat → Int32) : gm_pg_page (sm_rg_cellOf σ v) = gm_pg_page σ := rfl
theorem pm_kp_isKept_rg_cellOf (σ : SM) (v : Nat → Int32) : gm_kp_isKept (sm_rg_cellOf σ v) = gm_kp_isKept σ := rfl
theorem pm_kp_keptRing_rg_cellOf (σ : SM) (v : Nat → Int32) : gm_kp_keptRing (sm_rg_cellOf σ v) = gm_kp_keptRing σ := rfl
theorem pm_kp_keptPlayers_rg_cellOf (σ : SM) (v : Nat → Int32) : gm_kp_keptPlayers (sm_rg_cellOf σ v) = gm_kp_keptPlayers σ := rfl
theorem pm_kp_keptUpdates_rg_cellOf (σ : SM) (v : Nat → Int32) : gm_kp_keptUpdates (sm_rg_cellOf σ v) = gm_kp_keptUpdates σ := rfl
theorem pm_kp_keptA_rg_cellOf (σ : SM) (v : Nat → Int32) : gm_kp_keptA (sm_rg_cellOf σ v) = gm_kp_keptA σ := rfl
theorem pm_kp_keptB_rg_cellOf (σ : SM) (v : Nat → Int32) : gm_kp_keptB (sm_rg_cellOf σ v) = gm_kp_keptB σ := rfl
theorem pm_kp_keptTenths_rg_cellOf (σ : SM) (v : Nat → Int32) : gm_kp_keptTenths (sm_rg_cellOf σ v) = gm_kp_keptTenths σ := rfl
theorem pm_kp_keptWeight_rg_cellOf (σ : SM) (v : Nat → Int32) : gm_kp_keptWeight (sm_rg_cellOf σ v) = gm_kp_keptWeight σ := rfl
theorem pm_kp_keptPlace_rg_cellOf (σ : SM) (v : Nat → Int32) : gm_kp_keptPlace (sm_rg_cellOf σ v) = gm_kp_keptPlace σ := rfl
theorem pm_rp_faultAt_rg_cellOf (σ : SM) (v : Nat → Int32) : gm_rp_faultAt (sm_rg_cellOf σ v) = gm_rp_faultAt σ := rfl
theorem pm_rp_isWhole_rg_cellOf (σ : SM) (v : Nat → Int32) : gm_rp_isWhole (sm_rg_cellOf σ v) = gm_rp_isWhole σ := rfl
theorem pm_rp_newRows_rg_cellOf (σ : SM) (v : Nat → Int32) : gm_rp_newRows (sm_rg_cellOf σ v) = gm_rp_newRows σ := rfl
theorem pm_rp_newColumns_rg_cellOf (σ : SM) (v : Nat → Int32) : gm_rp_newColumns (sm_rg_cellOf σ v) = gm_rp_newColumns σ := rfl
theorem pm_rp_newCell_rg_cellOf (σ : SM) (v : Nat → Int32) : gm_rp_newCell (sm_rg_cellOf σ v) = gm_rp_newCell σ := rfl
theorem pm_rp_gonePost_rg_cellOf (σ : SM) (v : Nat → Int32) : gm_rp_gonePost (sm_rg_cellOf σ v) = gm_rp_gonePost σ := rfl
theorem pm_gm_his_rg_cellOf (σ : SM) (v : Nat → Int32) : gm_gm_his (sm_rg_cellOf σ v) = gm_gm_his σ := rfl
theorem pm_gm_looks_rg_cellOf (σ : SM) (v : Nat → Int32) : gm_gm_looks (sm_rg_cellOf σ v) = gm_gm_looks σ := rfl
theorem pm_gm_seedNow_rg_cellOf (σ : SM) (v : Nat → Int32) : gm_gm_seedNow (sm_rg_cellOf σ v) = gm_gm_seedNow σ := rfl
theorem pm_gm_place_rg_cellOf (σ : SM) (v : Nat → Int32) : gm_gm_place (sm_rg_cellOf σ v) = gm_gm_place σ := rfl
theorem pm_gm_touched_rg_cellOf (σ : SM) (v : Nat → Int32) : gm_gm_touched (sm_rg_cellOf σ v) = gm_gm_touched σ := rfl
theorem pm_gm_touchedAt_rg_cellOf (σ : SM) (v : Nat → Int32) : gm_gm_touchedAt (sm_rg_cellOf σ v) = gm_gm_touchedAt σ := rfl
theorem pm_gm_h_rg_cellOf (σ : SM) (v : Nat → Int32) : gm_gm_h (sm_rg_cellOf σ v) = gm_gm_h σ := rfl
theorem pm_rg_rows_od_weight (σ : SM) (v : Nat → Int64) : gm_rg_rows (sm_od_weight σ v) = gm_rg_rows σ := rfl
theorem pm_rg_columns_od_weight (σ : SM) (v : Nat → Int64) : gm_rg_columns (sm_od_weight σ v) = gm_rg_columns σ := rfl
theorem pm_rg_rings_od_weight (σ : SM) (v : Nat → Int64) : gm_rg_rings (sm_od_weight σ v) = gm_rg_rings σ := rfl
theorem pm_rg_cellOf_od_weight (σ : SM) (v : Nat → Int64) : gm_rg_cellOf (sm_od_weight σ v) = gm_rg_cellOf σ := rfl
theorem pm_od_weight_od_weight (σ : SM) (v : Nat → Int64) : gm_od_weight (sm_od_weight σ v) = v := rfl
theorem pm_od_then_od_weight (σ : SM) (v : Nat → Int64) : gm_od_then (sm_od_weight σ v) = gm_od_then σ := rfl
theorem pm_od_updates_od_weight (σ : SM) (v : Nat → Int64) : gm_od_updates (sm_od_weight σ v) = gm_od_updates σ := rfl
theorem pm_pl_players_od_weight (σ : SM) (v : Nat → Int64) : gm_pl_players (sm_od_weight σ v) = gm_pl_players σ := rfl
theorem pm_pl_kindOf_od_weight (σ : SM) (v : Nat → Int64) : gm_pl_kindOf (sm_od_weight σ v) = gm_pl_kindOf σ := rfl
theorem pm_pl_placeOf_od_weight (σ : SM) (v : Nat → Int64) : gm_pl_placeOf (sm_od_weight σ v) = gm_pl_placeOf σ := rfl
theorem pm_pl_sizeOf_od_weight (σ : SM) (v : Nat → Int64) : gm_pl_sizeOf (sm_od_weight σ v) = gm_pl_sizeOf σ := rfl
theorem pm_pl_clothOf_od_weight (σ : SM) (v : Nat → Int64) : gm_pl_clothOf (sm_od_weight σ v) = gm_pl_clothOf σ := rfl
theorem pm_pl_giggleOf_od_weight (σ : SM) (v : Nat → Int64) : gm_pl_giggleOf (sm_od_weight σ v) = gm_pl_giggleOf σ := rfl
theorem pm_nm_unsure_od_weight (σ : SM) (v : Nat → Int64) : gm_nm_unsure (sm_od_weight σ v) = gm_nm_unsure σ := rfl
theorem pm_nm_clothRight_od_weight (σ : SM) (v : Nat → Int64) : gm_nm_clothRight (sm_od_weight σ v) = gm_nm_clothRight σ := rfl
theorem pm_nm_giggleRight_od_weight (σ : SM) (v : Nat → Int64) : gm_nm_giggleRight (sm_od_weight σ v) = gm_nm_giggleRight σ := rfl
theorem pm_nm_jacketA_od_weight (σ : SM) (v : Nat → Int64) : gm_nm_jacketA (sm_od_weight σ v) = gm_nm_jacketA σ := rfl
theorem pm_nm_jacketB_od_weight (σ : SM) (v : Nat → Int64) : gm_nm_jacketB (sm_od_weight σ v) = gm_nm_jacketB σ := rfl
theorem pm_nm_jacketTenths_od_weight (σ : SM) (v : Nat → Int64) : gm_nm_jacketTenths (sm_od_weight σ v) = gm_nm_jacketTenths σ := rfl
theorem pm_nm_asks_od_weight (σ : SM) (v : Nat → Int64) : gm_nm_asks (sm_od_weight σ v) = gm_nm_asks σ := rfl
theorem pm_pg_pageLength_od_weight (σ : SM) (v : Nat → Int64) : gm_pg_pageLength (sm_od_weight σ v) = gm_pg_pageLength σ := rfl
theorem pm_pg_page_od_weight (σ : SM) (v : Nat → Int64) : gm_pg_page (sm_od_weight σ v) = gm_pg_page σ := rfl
theorem pm_kp_isKept_od_weight (σ : SM) (v : Nat → Int64) : gm_kp_isKept (sm_od_weight σ v) = gm_kp_isKept σ := rfl
theorem pm_kp_keptRing_od_weight (σ : SM) (v : Nat → Int64) : gm_kp_keptRing (sm_od_weight σ v) = gm_kp_keptRing σ := rfl
theorem pm_kp_keptPlayers_od_weight (σ : SM) (v : Nat → Int64) : gm_kp_keptPlayers (sm_od_weight σ v) = gm_kp_keptPlayers σ := rfl
theorem pm_kp_keptUpdates_od_weight (σ : SM) (v : Nat → Int64) : gm_kp_keptUpdates (sm_od_weight σ v) = gm_kp_keptUpdates σ := rfl
theorem pm_kp_keptA_od_weight (σ : SM) (v : Nat → Int64) : gm_kp_keptA (sm_od_weight σ v) = gm_kp_keptA σ := rfl
theorem pm_kp_keptB_od_weight (σ : SM) (v : Nat → Int64) : gm_kp_keptB (sm_od_weight σ v) = gm_kp_keptB σ := rfl
theorem pm_kp_keptTenths_od_weight (σ : SM) (v : Nat → Int64) : gm_kp_keptTenths (sm_od_weight σ v) = gm_kp_keptTenths σ := rfl
theorem pm_kp_keptWeight_od_weight (σ : SM) (v : Nat → Int64) : gm_kp_keptWeight (sm_od_weight σ v) = gm_kp_keptWeight σ := rfl
theorem pm_kp_keptPlace_od_weight (σ : SM) (v : Nat → Int64) : gm_kp_keptPlace (sm_od_weight σ v) = gm_kp_keptPlace σ := rfl
theorem pm_rp_faultAt_od_weight (σ : SM) (v : Nat → Int64) : gm_rp_faultAt (sm_od_weight σ v) = gm_rp_faultAt σ := rfl
theorem pm_rp_isWhole_od_weight (σ : SM) (v : Nat → Int64) : gm_rp_isWhole (sm_od_weight σ v) = gm_rp_isWhole σ := rfl
theorem pm_rp_newRows_od_weight (σ : SM) (v : Nat → Int64) : gm_rp_newRows (sm_od_weight σ v) = gm_rp_newRows σ := rfl
theorem pm_rp_newColumns_od_weight (σ : SM) (v : Nat → Int64) : gm_rp_newColumns (sm_od_weight σ v) = gm_rp_newColumns σ := rfl
theorem pm_rp_newCell_od_weight (σ : SM) (v : Nat → Int64) : gm_rp_newCell (sm_od_weight σ v) = gm_rp_newCell σ := rfl
theorem pm_rp_gonePost_od_weight (σ : SM) (v : Nat → Int64) : gm_rp_gonePost (sm_od_weight σ v) = gm_rp_gonePost σ := rfl
theorem pm_gm_his_od_weight (σ : SM) (v : Nat → Int64) : gm_gm_his (sm_od_weight σ v) = gm_gm_his σ := rfl
theorem pm_gm_looks_od_weight (σ : SM) (v : Nat → Int64) : gm_gm_looks (sm_od_weight σ v) = gm_gm_looks σ := rfl
theorem pm_gm_seedNow_od_weight (σ : SM) (v : Nat → Int64) : gm_gm_seedNow (sm_od_weight σ v) = gm_gm_seedNow σ := rfl
theorem pm_gm_place_od_weight (σ : SM) (v : Nat → Int64) : gm_gm_place (sm_od_weight σ v) = gm_gm_place σ := rfl
theorem pm_gm_touched_od_weight (σ : SM) (v : Nat → Int64) : gm_gm_touched (sm_od_weight σ v) = gm_gm_touched σ := rfl
theorem pm_gm_touchedAt_od_weight (σ : SM) (v : Nat → Int64) : gm_gm_touchedAt (sm_od_weight σ v) = gm_gm_touchedAt σ := rfl
theorem pm_gm_h_od_weight (σ : SM) (v : Nat → Int64) : gm_gm_h (sm_od_weight σ v) = gm_gm_h σ := rfl
theorem pm_rg_rows_od_then (σ : SM) (v : Nat → Int64) : gm_rg_rows (sm_od_then σ v) = gm_rg_rows σ := rfl
theorem pm_rg_columns_od_then (σ : SM) (v : Nat → Int64) : gm_rg_columns (sm_od_then σ v) = gm_rg_columns σ := rfl
theorem pm_rg_rings_od_then (σ : SM) (v : Nat → Int64) : gm_rg_rings (sm_od_then σ v) = gm_rg_rings σ := rfl
theorem pm_rg_cellOf_od_then (σ : SM) (v : Nat → Int64) : gm_rg_cellOf (sm_od_then σ v) = gm_rg_cellOf σ := rfl
theorem pm_od_weight_od_then (σ : SM) (v : Nat → Int64) : gm_od_weight (sm_od_then σ v) = gm_od_weight σ := rfl
theorem pm_od_then_od_then (σ : SM) (v : Nat → Int64) : gm_od_then (sm_od_then σ v) = v := rfl
theorem pm_od_updates_od_then (σ : SM) (v : Nat → Int64) : gm_od_updates (sm_od_then σ v) = gm_od_updates σ := rfl
theorem pm_pl_players_od_then (σ : SM) (v : Nat → Int64) : gm_pl_players (sm_od_then σ v) = gm_pl_players σ := rfl
theorem pm_pl_kindOf_od_then (σ : SM) (v : Nat → Int64) : gm_pl_kindOf (sm_od_then σ v) = gm_pl_kindOf σ := rfl
theorem pm_pl_placeOf_od_then (σ : SM) (v : Nat → Int64) : gm_pl_placeOf (sm_od_then σ v) = gm_pl_placeOf σ := rfl
theorem pm_pl_sizeOf_od_then (σ : SM) (v : Nat → Int64) : gm_pl_sizeOf (sm_od_then σ v) = gm_pl_sizeOf σ := rfl
theorem pm_pl_clothOf_od_then (σ : SM) (v : Nat → Int64) : gm_pl_clothOf (sm_od_then σ v) = gm_pl_clothOf σ := rfl
theorem pm_pl_giggleOf_od_then (σ : SM) (v : Nat → Int64) : gm_pl_giggleOf (sm_od_then σ v) = gm_pl_giggleOf σ := rfl
theorem pm_nm_unsure_od_then (σ : SM) (v : Nat → Int64) : gm_nm_unsure (sm_od_then σ v) = gm_nm_unsure σ := rfl
theorem pm_nm_clothRight_od_then (σ : SM) (v : Nat → Int64) : gm_nm_clothRight (sm_od_then σ v) = gm_nm_clothRight σ := rfl
theorem pm_nm_giggleRight_od_then (σ : SM) (v : Nat → Int64) : gm_nm_giggleRight (sm_od_then σ v) = gm_nm_giggleRight σ := rfl
theorem pm_nm_jacketA_od_then (σ : SM) (v : Nat → Int64) : gm_nm_jacketA (sm_od_then σ v) = gm_nm_jacketA σ := rfl
theorem pm_nm_jacketB_od_then (σ : SM) (v : Nat → Int64) : gm_nm_jacketB (sm_od_then σ v) = gm_nm_jacketB σ := rfl
theorem pm_nm_jacketTenths_od_then (σ : SM) (v : Nat → Int64) : gm_nm_jacketTenths (sm_od_then σ v) = gm_nm_jacketTenths σ := rfl
theorem pm_nm_asks_od_then (σ : SM) (v : Nat → Int64) : gm_nm_asks (sm_od_then σ v) = gm_nm_asks σ := rfl
theorem pm_pg_pageLength_od_then (σ : SM) (v : Nat → Int64) : gm_pg_pageLength (sm_od_then σ v) = gm_pg_pageLength σ := rfl
theorem pm_pg_page_od_then (σ : SM) (v : Nat → Int64) : gm_pg_page (sm_od_then σ v) = gm_pg_page σ := rfl
theorem pm_kp_isKept_od_then (σ : SM) (v : Nat → Int64) : gm_kp_isKept (sm_od_then σ v) = gm_kp_isKept σ := rfl
theorem pm_kp_keptRing_od_then (σ : SM) (v : Nat → Int64) : gm_kp_keptRing (sm_od_then σ v) = gm_kp_keptRing σ := rfl
theorem pm_kp_keptPlayers_od_then (σ : SM) (v : Nat → Int64) : gm_kp_keptPlayers (sm_od_then σ v) = gm_kp_keptPlayers σ := rfl
theorem pm_kp_keptUpdates_od_then (σ : SM) (v : Nat → Int64) : gm_kp_keptUpdates (sm_od_then σ v) = gm_kp_keptUpdates σ := rfl
theorem pm_kp_keptA_od_then (σ : SM) (v : Nat → Int64) : gm_kp_keptA (sm_od_then σ v) = gm_kp_keptA σ := rfl
theorem pm_kp_keptB_od_then (σ : SM) (v : Nat → Int64) : gm_kp_keptB (sm_od_then σ v) = gm_kp_keptB σ := rfl
theorem pm_kp_keptTenths_od_then (σ : SM) (v : Nat → Int64) : gm_kp_keptTenths (sm_od_then σ v) = gm_kp_keptTenths σ := rfl
theorem pm_kp_keptWeight_od_then (σ : SM) (v : Nat → Int64) : gm_kp_keptWeight (sm_od_then σ v) = gm_kp_keptWeight σ := rfl
theorem pm_kp_keptPlace_od_then (σ : SM) (v : Nat → Int64) : gm_kp_keptPlace (sm_od_then σ v) = gm_kp_keptPlace σ := rfl
theorem pm_rp_faultAt_od_then (σ : SM) (v : Nat → Int64) : gm_rp_faultAt (sm_od_then σ v) = gm_rp_faultAt σ := rfl
theorem pm_rp_isWhole_od_then (σ : SM) (v : Nat → Int64) : gm_rp_isWhole (sm_od_then σ v) = gm_rp_isWhole σ := rfl
theorem pm_rp_newRows_od_then (σ : SM) (v : Nat → Int64) : gm_rp_newRows (sm_od_then σ v) = gm_rp_newRows σ := rfl
theorem pm_rp_newColumns_od_then (σ : SM) (v : Nat → Int64) : gm_rp_newColumns (sm_od_then σ v) = gm_rp_newColumns σ := rfl
theorem pm_rp_newCell_od_then (σ : SM) (v : Nat → Int64) : gm_rp_newCell (sm_od_then σ v) = gm_rp_newCell σ := rfl
theorem pm_rp_gonePost_od_then (σ : SM) (v : Nat → Int64) : gm_rp_gonePost (sm_od_then σ v) = gm_rp_gonePost σ := rfl
theorem pm_gm_his_od_then (σ : SM) (v : Nat → Int64) : gm_gm_his (sm_od_then σ v) = gm_gm_his σ := rfl
theorem pm_gm_looks_od_then (σ : SM) (v : Nat → Int64) : gm_gm_looks (sm_od_then σ v) = gm_gm_looks σ := rfl
theorem pm_gm_seedNow_od_then (σ : SM) (v : Nat → Int64) : gm_gm_seedNow (sm_od_then σ v) = gm_gm_seedNow σ := rfl
theorem pm_gm_place_od_then (σ : SM) (v : Nat → Int64) : gm_gm_place (sm_od_then σ v) = gm_gm_place σ := rfl
theorem pm_gm_touched_od_then (σ : SM) (v : Nat → Int64) : gm_gm_touched (sm_od_then σ v) = gm_gm_touched σ := rfl
theorem pm_gm_touchedAt_od_then (σ : SM) (v : Nat → Int64) : gm_gm_touchedAt (sm_od_then σ v) = gm_gm_touchedAt σ := rfl
theorem pm_gm_h_od_then (σ : SM) (v : Nat → Int64) : gm_gm_h (sm_od_then σ v) = gm_gm_h σ := rfl
theorem pm_rg_rows_od_updates (σ : SM) (v : Int32) : gm_rg_rows (sm_od_updates σ v) = gm_rg_rows σ := rfl
theorem pm_rg_columns_od_updates (σ : SM) (v : Int32) : gm_rg_columns (sm_od_updates σ v) = gm_rg_columns σ := rfl
theorem pm_rg_rings_od_updates (σ : SM) (v : Int32) : gm_rg_rings (sm_od_updates σ v) = gm_rg_rings σ := rfl
theorem pm_rg_cellOf_od_updates (σ : SM) (v : Int32) : gm_rg_cellOf (sm_od_updates σ v) = gm_rg_cellOf σ := rfl
theorem pm_od_weight_od_updates (σ : SM) (v : Int32) : gm_od_weight (sm_od_updates σ v) = gm_od_weight σ := rfl
theorem pm_od_then_od_updates (σ : SM) (v : Int32) : gm_od_then (sm_od_updates σ v) = gm_od_then σ := rfl
theorem pm_od_updates_od_updates (σ : SM) (v : Int32) : gm_od_updates (sm_od_updates σ v) = v := rfl
theorem pm_pl_players_od_updates (σ : SM) (v : Int32) : gm_pl_players (sm_od_updates σ v) = gm_pl_players σ := rfl
theorem pm_pl_kindOf_od_updates (σ : SM) (v : Int32) : gm_pl_kindOf (sm_od_updates σ v) = gm_pl_kindOf σ := rfl
theorem pm_pl_placeOf_od_updates (σ : SM) (v : Int32) : gm_pl_placeOf (sm_od_updates σ v) = gm_pl_placeOf σ := rfl
theorem pm_pl_sizeOf_od_updates (σ : SM) (v : Int32) : gm_pl_sizeOf (sm_od_updates σ v) = gm_pl_sizeOf σ := rfl
theorem pm_pl_clothOf_od_updates (σ : SM) (v : Int32) : gm_pl_clothOf (sm_od_updates σ v) = gm_pl_clothOf σ := rfl
theorem pm_pl_giggleOf_od_updates (σ : SM) (v : Int32) : gm_pl_giggleOf (sm_od_updates σ v) = gm_pl_giggleOf σ := rfl
theorem pm_nm_unsure_od_updates (σ : SM) (v : Int32) : gm_nm_unsure (sm_od_updates σ v) = gm_nm_unsure σ := rfl
theorem pm_nm_clothRight_od_updates (σ : SM) (v : Int32) : gm_nm_clothRight (sm_od_updates σ v) = gm_nm_clothRight σ := rfl
theorem pm_nm_giggleRight_od_updates (σ : SM) (v : Int32) : gm_nm_giggleRight (sm_od_updates σ v) = gm_nm_giggleRight σ := rfl
theorem pm_nm_jacketA_od_updates (σ : SM) (v : Int32) : gm_nm_jacketA (sm_od_updates σ v) = gm_nm_jacketA σ := rfl
theorem pm_nm_jacketB_od_updates (σ : SM) (v : Int32) : gm_nm_jacketB (sm_od_updates σ v) = gm_nm_jacketB σ := rfl
theorem pm_nm_jacketTenths_od_updates (σ : SM) (v : Int32) : gm_nm_jacketTenths (sm_od_updates σ v) = gm_nm_jacketTenths σ := rfl
theorem pm_nm_asks_od_updates (σ : SM) (v : Int32) : gm_nm_asks (sm_od_updates σ v) = gm_nm_asks σ := rfl
theorem pm_pg_pageLength_od_updates (σ : SM) (v : Int32) : gm_pg_pageLength (sm_od_updates σ v) = gm_pg_pageLength σ := rfl
theorem pm_pg_page_od_updates (σ : SM) (v : Int32) : gm_pg_page (sm_od_updates σ v) = gm_pg_page σ := rfl
theorem pm_kp_isKept_od_updates (σ : SM) (v : Int32) : gm_kp_isKept (sm_od_updates σ v) = gm_kp_isKept σ := rfl
theorem pm_kp_keptRing_od_updates (σ : SM) (v : Int32) : gm_kp_keptRing (sm_od_updates σ v) = gm_kp_keptRing σ := rfl
theorem pm_kp_keptPlayers_od_updates (σ : SM) (v : Int32) : gm_kp_keptPlayers (sm_od_updates σ v) = gm_kp_keptPlayers σ := rfl
theorem pm_kp_keptUpdates_od_updates (σ : SM) (v : Int32) : gm_kp_keptUpdates (sm_od_updates σ v) = gm_kp_keptUpdates σ := rfl
theorem pm_kp_keptA_od_updates (σ : SM) (v : Int32) : gm_kp_keptA (sm_od_updates σ v) = gm_kp_keptA σ := rfl
theorem pm_kp_keptB_od_updates (σ : SM) (v : Int32) : gm_kp_keptB (sm_od_updates σ v) = gm_kp_keptB σ := rfl
theorem pm_kp_keptTenths_od_updates (σ : SM) (v : Int32) : gm_kp_keptTenths (sm_od_updates σ v) = gm_kp_keptTenths σ := rfl
theorem pm_kp_keptWeight_od_updates (σ : SM) (v : Int32) : gm_kp_keptWeight (sm_od_updates σ v) = gm_kp_keptWeight σ := rfl
theorem pm_kp_keptPlace_od_updates (σ : SM) (v : Int32) : gm_kp_keptPlace (sm_od_updates σ v) = gm_kp_keptPlace σ := rfl
theorem pm_rp_faultAt_od_updates (σ : SM) (v : Int32) : gm_rp_faultAt (sm_od_updates σ v) = gm_rp_faultAt σ := rfl
theorem pm_rp_isWhole_od_updates (σ : SM) (v : Int32) : gm_rp_isWhole (sm_od_updates σ v) = gm_rp_isWhole σ := rfl
theorem pm_rp_newRows_od_updates (σ : SM) (v : Int32) : gm_rp_newRows (sm_od_updates σ v) = gm_rp_newRows σ := rfl
theorem pm_rp_newColumns_od_updates (σ : SM) (v : Int32) : gm_rp_newColumns (sm_od_updates σ v) = gm_rp_newColumns σ := rfl
theorem pm_rp_newCell_od_updates (σ : SM) (v : Int32) : gm_rp_newCell (sm_od_updates σ v) = gm_rp_newCell σ := rfl
theorem pm_rp_gonePost_od_updates (σ : SM) (v : Int32) : gm_rp_gonePost (sm_od_updates σ v) = gm_rp_gonePost σ := rfl
theorem pm_gm_his_od_updates (σ : SM) (v : Int32) : gm_gm_his (sm_od_updates σ v) = gm_gm_his σ := rfl
theorem pm_gm_looks_od_updates (σ : SM) (v : Int32) : gm_gm_looks (sm_od_updates σ v) = gm_gm_looks σ := rfl
theorem pm_gm_seedNow_od_updates (σ : SM) (v : Int32) : gm_gm_seedNow (sm_od_updates σ v) = gm_gm_seedNow σ := rfl
theorem pm_gm_place_od_updates (σ : SM) (v : Int32) : gm_gm_place (sm_od_updates σ v) = gm_gm_place σ := rfl
theorem pm_gm_touched_od_updates (σ : SM) (v : Int32) : gm_gm_touched (sm_od_updates σ v) = gm_gm_touched σ := rfl
theorem pm_gm_touchedAt_od_updates (σ : SM) (v : Int32) : gm_gm_touchedAt (sm_od_updates σ v) = gm_gm_touchedAt σ := rfl
theorem pm_gm_h_od_updates (σ : SM) (v : Int32) : gm_gm_h (sm_od_updates σ v) = gm_gm_h σ := rfl
theorem pm_rg_rows_pl_players (σ : SM) (v : Int32) : gm_rg_rows (sm_pl_players σ v) = gm_rg_rows σ := rfl
theorem pm_rg_columns_pl_players (σ : SM) (v : Int32) : gm_rg_columns (sm_pl_players σ v) = gm_rg_columns σ := rfl
theorem pm_rg_rings_pl_players (σ : SM) (v : Int32) : gm_rg_rings (sm_pl_players σ v) = gm_rg_rings σ := rfl
theorem pm_rg_cellOf_pl_players (σ : SM) (v : Int32) : gm_rg_cellOf (sm_pl_players σ v) = gm_rg_cellOf σ := rfl
theorem pm_od_weight_pl_players (σ : SM) (v : Int32) : gm_od_weight (sm_pl_players σ v) = gm_od_weight σ := rfl
theorem pm_od_then_pl_players (σ : SM) (v : Int32) : gm_od_then (sm_pl_players σ v) = gm_od_then σ := rfl
theorem pm_od_updates_pl_players (σ : SM) (v : Int32) : gm_od_updates (sm_pl_players σ v) = gm_od_updates σ := rfl
theorem pm_pl_players_pl_players (σ : SM) (v : Int32) : gm_pl_players (sm_pl_players σ v) = v := rfl
theorem pm_pl_kindOf_pl_players (σ : SM) (v : Int32) : gm_pl_kindOf (sm_pl_players σ v) = gm_pl_kindOf σ := rfl
theorem pm_pl_placeOf_pl_players (σ : SM) (v : Int32) : gm_pl_placeOf (sm_pl_players σ v) = gm_pl_placeOf σ := rfl
theorem pm_pl_sizeOf_pl_players (σ : SM) (v : Int32) : gm_pl_sizeOf (sm_pl_players σ v) = gm_pl_sizeOf σ := rfl
theorem pm_pl_clothOf_pl_players (σ : SM) (v : Int32) : gm_pl_clothOf (sm_pl_players σ v) = gm_pl_clothOf σ := rfl
theorem pm_pl_giggleOf_pl_players (σ : SM) (v : Int32) : gm_pl_giggleOf (sm_pl_players σ v) = gm_pl_giggleOf σ := rfl
theorem pm_nm_unsure_pl_players (σ : SM) (v : Int32) : gm_nm_unsure (sm_pl_players σ v) = gm_nm_unsure σ := rfl
theorem pm_nm_clothRight_pl_players (σ : SM) (v : Int32) : gm_nm_clothRight (sm_pl_players σ v) = gm_nm_clothRight σ := rfl
theorem pm_nm_giggleRight_pl_players (σ : SM) (v : Int32) : gm_nm_giggleRight (sm_pl_players σ v) = gm_nm_giggleRight σ := rfl
theorem pm_nm_jacketA_pl_players (σ : SM) (v : Int32) : gm_nm_jacketA (sm_pl_players σ v) = gm_nm_jacketA σ := rfl
theorem pm_nm_jacketB_pl_players (σ : SM) (v : Int32) : gm_nm_jacketB (sm_pl_players σ v) = gm_nm_jacketB σ := rfl
theorem pm_nm_jacketTenths_pl_players (σ : SM) (v : Int32) : gm_nm_jacketTenths (sm_pl_players σ v) = gm_nm_jacketTenths σ := rfl
theorem pm_nm_asks_pl_players (σ : SM) (v : Int32) : gm_nm_asks (sm_pl_players σ v) = gm_nm_asks σ := rfl
theorem pm_pg_pageLength_pl_players (σ : SM) (v : Int32) : gm_pg_pageLength (sm_pl_players σ v) = gm_pg_pageLength σ := rfl
theorem pm_pg_page_pl_players (σ : SM) (v : Int32) : gm_pg_page (sm_pl_players σ v) = gm_pg_page σ := rfl
theorem pm_kp_isKept_pl_players (σ : SM) (v : Int32) : gm_kp_isKept (sm_pl_players σ v) = gm_kp_isKept σ := rfl
theorem pm_kp_keptRing_pl_players (σ : SM) (v : Int32) : gm_kp_keptRing (sm_pl_players σ v) = gm_kp_keptRing σ := rfl
theorem pm_kp_keptPlayers_pl_players (σ : SM) (v : Int32) : gm_kp_keptPlayers (sm_pl_players σ v) = gm_kp_keptPlayers σ := rfl
theorem pm_kp_keptUpdates_pl_players (σ : SM) (v : Int32) : gm_kp_keptUpdates (sm_pl_players σ v) = gm_kp_keptUpdates σ := rfl
theorem pm_kp_keptA_pl_players (σ : SM) (v : Int32) : gm_kp_keptA (sm_pl_players σ v) = gm_kp_keptA σ := rfl
theorem pm_kp_keptB_pl_players (σ : SM) (v : Int32) : gm_kp_keptB (sm_pl_players σ v) = gm_kp_keptB σ := rfl
theorem pm_kp_keptTenths_pl_players (σ : SM) (v : Int32) : gm_kp_keptTenths (sm_pl_players σ v) = gm_kp_keptTenths σ := rfl
theorem pm_kp_keptWeight_pl_players (σ : SM) (v : Int32) : gm_kp_keptWeight (sm_pl_players σ v) = gm_kp_keptWeight σ := rfl
theorem pm_kp_keptPlace_pl_players (σ : SM) (v : Int32) : gm_kp_keptPlace (sm_pl_players σ v) = gm_kp_keptPlace σ := rfl
theorem pm_rp_faultAt_pl_players (σ : SM) (v : Int32) : gm_rp_faultAt (sm_pl_players σ v) = gm_rp_faultAt σ := rfl
theorem pm_rp_isWhole_pl_players (σ : SM) (v : Int32) : gm_rp_isWhole (sm_pl_players σ v) = gm_rp_isWhole σ := rfl
theorem pm_rp_newRows_pl_players (σ : SM) (v : Int32) : gm_rp_newRows (sm_pl_players σ v) = gm_rp_newRows σ := rfl
theorem pm_rp_newColumns_pl_players (σ : SM) (v : Int32) : gm_rp_newColumns (sm_pl_players σ v) = gm_rp_newColumns σ := rfl
theorem pm_rp_newCell_pl_players (σ : SM) (v : Int32) : gm_rp_newCell (sm_pl_players σ v) = gm_rp_newCell σ := rfl
theorem pm_rp_gonePost_pl_players (σ : SM) (v : Int32) : gm_rp_gonePost (sm_pl_players σ v) = gm_rp_gonePost σ := rfl
theorem pm_gm_his_pl_players (σ : SM) (v : Int32) : gm_gm_his (sm_pl_players σ v) = gm_gm_his σ := rfl
theorem pm_gm_looks_pl_players (σ : SM) (v : Int32) : gm_gm_looks (sm_pl_players σ v) = gm_gm_looks σ := rfl
theorem pm_gm_seedNow_pl_players (σ : SM) (v : Int32) : gm_gm_seedNow (sm_pl_players σ v) = gm_gm_seedNow σ := rfl
theorem pm_gm_place_pl_players (σ : SM) (v : Int32) : gm_gm_place (sm_pl_players σ v) = gm_gm_place σ := rfl
theorem pm_gm_touched_pl_players (σ : SM) (v : Int32) : gm_gm_touched (sm_pl_players σ v) = gm_gm_touched σ := rfl
theorem pm_gm_touchedAt_pl_players (σ : SM) (v : Int32) : gm_gm_touchedAt (sm_pl_players σ v) = gm_gm_touchedAt σ := rfl
theorem pm_gm_h_pl_players (σ : SM) (v : Int32) : gm_gm_h (sm_pl_players σ v) = gm_gm_h σ := rfl
theorem pm_rg_rows_pl_kindOf (σ : SM) (v : Nat → Int32) : gm_rg_rows (sm_pl_kindOf σ v) = gm_rg_rows σ := rfl
theorem pm_rg_columns_pl_kindOf (σ : SM) (v : Nat → Int32) : gm_rg_columns (sm_pl_kindOf σ v) = gm_rg_columns σ := rfl
theorem pm_rg_rings_pl_kindOf (σ : SM) (v : Nat → Int32) : gm_rg_rings (sm_pl_kindOf σ v) = gm_rg_rings σ := rfl
theorem pm_rg_cellOf_pl_kindOf (σ : SM) (v : Nat → Int32) : gm_rg_cellOf (sm_pl_kindOf σ v) = gm_rg_cellOf σ := rfl
theorem pm_od_weight_pl_kindOf (σ : SM) (v : Nat → Int32) : gm_od_weight (sm_pl_kindOf σ v) = gm_od_weight σ := rfl
theorem pm_od_then_pl_kindOf (σ : SM) (v : Nat → Int32) : gm_od_then (sm_pl_kindOf σ v) = gm_od_then σ := rfl
theorem pm_od_updates_pl_kindOf (σ : SM) (v : Nat → Int32) : gm_od_updates (sm_pl_kindOf σ v) = gm_od_updates σ := rfl
theorem pm_pl_players_pl_kindOf (σ : SM) (v : Nat → Int32) : gm_pl_players (sm_pl_kindOf σ v) = gm_pl_players σ := rfl
theorem pm_pl_kindOf_pl_kindOf (σ : SM) (v : Nat → Int32) : gm_pl_kindOf (sm_pl_kindOf σ v) = v := rfl
theorem pm_pl_placeOf_pl_kindOf (σ : SM) (v : Nat → Int32) : gm_pl_placeOf (sm_pl_kindOf σ v) = gm_pl_placeOf σ := rfl
theorem pm_pl_sizeOf_pl_kindOf (σ : SM) (v : Nat → Int32) : gm_pl_sizeOf (sm_pl_kindOf σ v) = gm_pl_sizeOf σ := rfl
theorem pm_pl_clothOf_pl_kindOf (σ : SM) (v : Nat → Int32) : gm_pl_clothOf (sm_pl_kindOf σ v) = gm_pl_clothOf σ := rfl
theorem pm_pl_giggleOf_pl_kindOf (σ : SM) (v : Nat → Int32) : gm_pl_giggleOf (sm_pl_kindOf σ v) = gm_pl_giggleOf σ := rfl
theorem pm_nm_unsure_pl_kindOf (σ : SM) (v : Nat → Int32) : gm_nm_unsure (sm_pl_kindOf σ v) = gm_nm_unsure σ := rfl
theorem pm_nm_clothRight_pl_kindOf (σ : SM) (v : Nat → Int32) : gm_nm_clothRight (sm_pl_kindOf σ v) = gm_nm_clothRight σ := rfl
theorem pm_nm_giggleRight_pl_kindOf (σ : SM) (v : Nat → Int32) : gm_nm_giggleRight (sm_pl_kindOf σ v) = gm_nm_giggleRight σ := rfl
theorem pm_nm_jacketA_pl_kindOf (σ : SM) (v : Nat → Int32) : gm_nm_jacketA (sm_pl_kindOf σ v) = gm_nm_jacketA σ := rfl
theorem pm_nm_jacketB_pl_kindOf (σ : SM) (v : Nat → Int32) : gm_nm_jacketB (sm_pl_kindOf σ v) = gm_nm_jacketB σ := rfl
theorem pm_nm_jacketTenths_pl_kindOf (σ : SM) (v : Nat → Int32) : gm_nm_jacketTenths (sm_pl_kindOf σ v) = gm_nm_jacketTenths σ := rfl
theorem pm_nm_asks_pl_kindOf (σ : SM) (v : Nat → Int32) : gm_nm_asks (sm_pl_kindOf σ v) = gm_nm_asks σ := rfl
theorem pm_pg_pageLength_pl_kindOf (σ : SM) (v : Nat → Int32) : gm_pg_pageLength (sm_pl_kindOf σ v) = gm_pg_pageLength σ := rfl
theorem pm_pg_page_pl_kindOf (σ : SM) (v : Nat → Int32) : gm_pg_page (sm_pl_kindOf σ v) = gm_pg_page σ := rfl
theorem pm_kp_isKept_pl_kindOf (σ : SM) (v : Nat → Int32) : gm_kp_isKept (sm_pl_kindOf σ v) = gm_kp_isKept σ := rfl
theorem pm_kp_keptRing_pl_kindOf (σ : SM) (v : Nat → Int32) : gm_kp_keptRing (sm_pl_kindOf σ v) = gm_kp_keptRing σ := rfl
theorem pm_kp_keptPlayers_pl_kindOf (σ : SM) (v : Nat → Int32) : gm_kp_keptPlayers (sm_pl_kindOf σ v) = gm_kp_keptPlayers σ := rfl
theorem pm_kp_keptUpdates_pl_kindOf (σ : SM) (v : Nat → Int32) : gm_kp_keptUpdates (sm_pl_kindOf σ v) = gm_kp_keptUpdates σ := rfl
theorem pm_kp_keptA_pl_kindOf (σ : SM) (v : Nat → Int32) : gm_kp_keptA (sm_pl_kindOf σ v) = gm_kp_keptA σ := rfl
theorem pm_kp_keptB_pl_kindOf (σ : SM) (v : Nat → Int32) : gm_kp_keptB (sm_pl_kindOf σ v) = gm_kp_keptB σ := rfl
theorem pm_kp_keptTenths_pl_kindOf (σ : SM) (v : Nat → Int32) : gm_kp_keptTenths (sm_pl_kindOf σ v) = gm_kp_keptTenths σ := rfl
theorem pm_kp_keptWeight_pl_kindOf (σ : SM) (v : Nat → Int32) : gm_kp_keptWeight (sm_pl_kindOf σ v) = gm_kp_keptWeight σ := rfl
theorem pm_kp_keptPlace_pl_kindOf (σ : SM) (v : Nat → Int32) : gm_kp_keptPlace (sm_pl_kindOf σ v) = gm_kp_keptPlace σ := rfl
theorem pm_rp_faultAt_pl_kindOf (σ : SM) (v : Nat → Int32) : gm_rp_faultAt (sm_pl_kindOf σ v) = gm_rp_faultAt σ := rfl
theorem pm_rp_isWhole_pl_kindOf (σ : SM) (v : Nat → Int32) : gm_rp_isWhole (sm_pl_kindOf σ v) = gm_rp_isWhole σ := rfl
theorem pm_rp_newRows_pl_kindOf (σ : SM) (v : Nat → Int32) : gm_rp_newRows (sm_pl_kindOf σ v) = gm_rp_newRows σ := rfl
theorem pm_rp_newColumns_pl_kindOf (σ : SM) (v : Nat → Int32) : gm_rp_newColumns (sm_pl_kindOf σ v) = gm_rp_newColumns σ := rfl
theorem pm_rp_newCell_pl_kindOf (σ : SM) (v : Nat → Int32) : gm_rp_newCell (sm_pl_kindOf σ v) = gm_rp_newCell σ := rfl
theorem pm_rp_gonePost_pl_kindOf (σ : SM) (v : Nat → Int32) : gm_rp_gonePost (sm_pl_kindOf σ v) = gm_rp_gonePost σ := rfl
theorem pm_gm_his_pl_kindOf (σ : SM) (v : Nat → Int32) : gm_gm_his (sm_pl_kindOf σ v) = gm_gm_his σ := rfl
theorem pm_gm_looks_pl_kindOf (σ : SM) (v : Nat → Int32) : gm_gm_looks (sm_pl_kindOf σ v) = gm_gm_looks σ := rfl
theorem pm_gm_seedNow_pl_kindOf (σ : SM) (v : Nat → Int32) : gm_gm_seedNow (sm_pl_kindOf σ v) = gm_gm_seedNow σ := rfl
theorem pm_gm_place_pl_kindOf (σ : SM) (v : Nat → Int32) : gm_gm_place (sm_pl_kindOf σ v) = gm_gm_place σ := rfl
theorem pm_gm_touched_pl_kindOf (σ : SM) (v : Nat → Int32) : gm_gm_touched (sm_pl_kindOf σ v) = gm_gm_touched σ := rfl
theorem pm_gm_touchedAt_pl_kindOf (σ : SM) (v : Nat → Int32) : gm_gm_touchedAt (sm_pl_kindOf σ v) = gm_gm_touchedAt σ := rfl
theorem pm_gm_h_pl_kindOf (σ : SM) (v : Nat → Int32) : gm_gm_h (sm_pl_kindOf σ v) = gm_gm_h σ := rfl
theorem pm_rg_rows_pl_placeOf (σ : SM) (v : Nat → Int32) : gm_rg_rows (sm_pl_placeOf σ v) = gm_rg_rows σ := rfl
theorem pm_rg_columns_pl_placeOf (σ : SM) (v : Nat → Int32) : gm_rg_columns (sm_pl_placeOf σ v) = gm_rg_columns σ := rfl
theorem pm_rg_rings_pl_placeOf (σ : SM) (v : Nat → Int32) : gm_rg_rings (sm_pl_placeOf σ v) = gm_rg_rings σ := rfl
theorem pm_rg_cellOf_pl_placeOf (σ : SM) (v : Nat → Int32) : gm_rg_cellOf (sm_pl_placeOf σ v) = gm_rg_cellOf σ := rfl
theorem pm_od_weight_pl_placeOf (σ : SM) (v : Nat → Int32) : gm_od_weight (sm_pl_placeOf σ v) = gm_od_weight σ := rfl
theorem pm_od_then_pl_placeOf (σ : SM) (v : Nat → Int32) : gm_od_then (sm_pl_placeOf σ v) = gm_od_then σ := rfl
theorem pm_od_updates_pl_placeOf (σ : SM) (v : Nat → Int32) : gm_od_updates (sm_pl_placeOf σ v) = gm_od_updates σ := rfl
theorem pm_pl_players_pl_placeOf (σ : SM) (v : Nat → Int32) : gm_pl_players (sm_pl_placeOf σ v) = gm_pl_players σ := rfl
theorem pm_pl_kindOf_pl_placeOf (σ : SM) (v : Nat → Int32) : gm_pl_kindOf (sm_pl_placeOf σ v) = gm_pl_kindOf σ := rfl
theorem pm_pl_placeOf_pl_placeOf (σ : SM) (v : Nat → Int32) : gm_pl_placeOf (sm_pl_placeOf σ v) = v := rfl
theorem pm_pl_sizeOf_pl_placeOf (σ : SM) (v : Nat → Int32) : gm_pl_sizeOf (sm_pl_placeOf σ v) = gm_pl_sizeOf σ := rfl
theorem pm_pl_clothOf_pl_placeOf (σ : SM) (v : Nat → Int32) : gm_pl_clothOf (sm_pl_placeOf σ v) = gm_pl_clothOf σ := rfl
theorem pm_pl_giggleOf_pl_placeOf (σ : SM) (v : Nat → Int32) : gm_pl_giggleOf (sm_pl_placeOf σ v) = gm_pl_giggleOf σ := rfl
theorem pm_nm_unsure_pl_placeOf (σ : SM) (v : Nat → Int32) : gm_nm_unsure (sm_pl_placeOf σ v) = gm_nm_unsure σ := rfl
theorem pm_nm_clothRight_pl_placeOf (σ : SM) (v : Nat → Int32) : gm_nm_clothRight (sm_pl_placeOf σ v) = gm_nm_clothRight σ := rfl
theorem pm_nm_giggleRight_pl_placeOf (σ : SM) (v : Nat → Int32) : gm_nm_giggleRight (sm_pl_placeOf σ v) = gm_nm_giggleRight σ := rfl
theorem pm_nm_jacketA_pl_placeOf (σ : SM) (v : Nat → Int32) : gm_nm_jacketA (sm_pl_placeOf σ v) = gm_nm_jacketA σ := rfl
theorem pm_nm_jacketB_pl_placeOf (σ : SM) (v : Nat → Int32) : gm_nm_jacketB (sm_pl_placeOf σ v) = gm_nm_jacketB σ := rfl
theorem pm_nm_jacketTenths_pl_placeOf (σ : SM) (v : Nat → Int32) : gm_nm_jacketTenths (sm_pl_placeOf σ v) = gm_nm_jacketTenths σ := rfl
theorem pm_nm_asks_pl_placeOf (σ : SM) (v : Nat → Int32) : gm_nm_asks (sm_pl_placeOf σ v) = gm_nm_asks σ := rfl
theorem pm_pg_pageLength_pl_placeOf (σ : SM) (v : Nat → Int32) : gm_pg_pageLength (sm_pl_placeOf σ v) = gm_pg_pageLength σ := rfl
theorem pm_pg_page_pl_placeOf (σ : SM) (v : Nat → Int32) : gm_pg_page (sm_pl_placeOf σ v) = gm_pg_page σ := rfl
theorem pm_kp_isKept_pl_placeOf (σ : SM) (v : Nat → Int32) : gm_kp_isKept (sm_pl_placeOf σ v) = gm_kp_isKept σ := rfl
theorem pm_kp_keptRing_pl_placeOf (σ : SM) (v : Nat → Int32) : gm_kp_keptRing (sm_pl_placeOf σ v) = gm_kp_keptRing σ := rfl
theorem pm_kp_keptPlayers_pl_placeOf (σ : SM) (v : Nat → Int32) : gm_kp_keptPlayers (sm_pl_placeOf σ v) = gm_kp_keptPlayers σ := rfl
theorem pm_kp_keptUpdates_pl_placeOf (σ : SM) (v : Nat → Int32) : gm_kp_keptUpdates (sm_pl_placeOf σ v) = gm_kp_keptUpdates σ := rfl
theorem pm_kp_keptA_pl_placeOf (σ : SM) (v : Nat → Int32) : gm_kp_keptA (sm_pl_placeOf σ v) = gm_kp_keptA σ := rfl
theorem pm_kp_keptB_pl_placeOf (σ : SM) (v : Nat → Int32) : gm_kp_keptB (sm_pl_placeOf σ v) = gm_kp_keptB σ := rfl
theorem pm_kp_keptTenths_pl_placeOf (σ : SM) (v : Nat → Int32) : gm_kp_keptTenths (sm_pl_placeOf σ v) = gm_kp_keptTenths σ := rfl
theorem pm_kp_keptWeight_pl_placeOf (σ : SM) (v : Nat → Int32) : gm_kp_keptWeight (sm_pl_placeOf σ v) = gm_kp_keptWeight σ := rfl
theorem pm_kp_keptPlace_pl_placeOf (σ : SM) (v : Nat → Int32) : gm_kp_keptPlace (sm_pl_placeOf σ v) = gm_kp_keptPlace σ := rfl
theorem pm_rp_faultAt_pl_placeOf (σ : SM) (v : Nat → Int32) : gm_rp_faultAt (sm_pl_placeOf σ v) = gm_rp_faultAt σ := rfl
theorem pm_rp_isWhole_pl_placeOf (σ : SM) (v : Nat → Int32) : gm_rp_isWhole (sm_pl_placeOf σ v) = gm_rp_isWhole σ := rfl
theorem pm_rp_newRows_pl_placeOf (σ : SM) (v : Nat → Int32) : gm_rp_newRows (sm_pl_placeOf σ v) = gm_rp_newRows σ := rfl
theorem pm_rp_newColumns_pl_placeOf (σ : SM) (v : Nat → Int32) : gm_rp_newColumns (sm_pl_placeOf σ v) = gm_rp_newColumns σ := rfl
theorem pm_rp_newCell_pl_placeOf (σ : SM) (v : Nat → Int32) : gm_rp_newCell (sm_pl_placeOf σ v) = gm_rp_newCell σ := rfl
theorem pm_rp_gonePost_pl_placeOf (σ : SM) (v : Nat → Int32) : gm_rp_gonePost (sm_pl_placeOf σ v) = gm_rp_gonePost σ := rfl
theorem pm_gm_his_pl_placeOf (σ : SM) (v : Nat → Int32) : gm_gm_his (sm_pl_placeOf σ v) = gm_gm_his σ := rfl
theorem pm_gm_looks_pl_placeOf (σ : SM) (v : Nat → Int32) : gm_gm_looks (sm_pl_placeOf σ v) = gm_gm_looks σ := rfl
theorem pm_gm_seedNow_pl_placeOf (σ : SM) (v : Nat → Int32) : gm_gm_seedNow (sm_pl_placeOf σ v) = gm_gm_seedNow σ := rfl
theorem pm_gm_place_pl_placeOf (σ : SM) (v : Nat → Int32) : gm_gm_place (sm_pl_placeOf σ v) = gm_gm_place σ := rfl
theorem pm_gm_touched_pl_placeOf (σ : SM) (v : Nat → Int32) : gm_gm_touched (sm_pl_placeOf σ v) = gm_gm_touched σ := rfl
theorem pm_gm_touchedAt_pl_placeOf (σ : SM) (v : Nat → Int32) : gm_gm_touchedAt (sm_pl_placeOf σ v) = gm_gm_touchedAt σ := rfl
theorem pm_gm_h_pl_placeOf (σ : SM) (v : Nat → Int32) : gm_gm_h (sm_pl_placeOf σ v) = gm_gm_h σ := rfl
theorem pm_rg_rows_pl_sizeOf (σ : SM) (v : Nat → Int32) : gm_rg_rows (sm_pl_sizeOf σ v) = gm_rg_rows σ := rfl
theorem pm_rg_columns_pl_sizeOf (σ : SM) (v : Nat → Int32) : gm_rg_columns (sm_pl_sizeOf σ v) = gm_rg_columns σ := rfl
theorem pm_rg_rings_pl_sizeOf (σ : SM) (v : Nat → Int32) : gm_rg_rings (sm_pl_sizeOf σ v) = gm_rg_rings σ := rfl
theorem pm_rg_cellOf_pl_sizeOf (σ : SM) (v : Nat → Int32) : gm_rg_cellOf (sm_pl_sizeOf σ v) = gm_rg_cellOf σ := rfl
theorem pm_od_weight_pl_sizeOf (σ : SM) (v : Nat → Int32) : gm_od_weight (sm_pl_sizeOf σ v) = gm_od_weight σ := rfl
theorem pm_od_then_pl_sizeOf (σ : SM) (v : Nat → Int32) : gm_od_then (sm_pl_sizeOf σ v) = gm_od_then σ := rfl
theorem pm_od_updates_pl_sizeOf (σ : SM) (v : Nat → Int32) : gm_od_updates (sm_pl_sizeOf σ v) = gm_od_updates σ := rfl
theorem pm_pl_players_pl_sizeOf (σ : SM) (v : Nat → Int32) : gm_pl_players (sm_pl_sizeOf σ v) = gm_pl_players σ := rfl
theorem pm_pl_kindOf_pl_sizeOf (σ : SM) (v : Nat → Int32) : gm_pl_kindOf (sm_pl_sizeOf σ v) = gm_pl_kindOf σ := rfl
theorem pm_pl_placeOf_pl_sizeOf (σ : SM) (v : Nat → Int32) : gm_pl_placeOf (sm_pl_sizeOf σ v) = gm_pl_placeOf σ := rfl
theorem pm_pl_sizeOf_pl_sizeOf (σ : SM) (v : Nat → Int32) : gm_pl_sizeOf (sm_pl_sizeOf σ v) = v := rfl
theorem pm_pl_clothOf_pl_sizeOf (σ : SM) (v : Nat → Int32) : gm_pl_clothOf (sm_pl_sizeOf σ v) = gm_pl_clothOf σ := rfl
theorem pm_pl_giggleOf_pl_sizeOf (σ : SM) (v : Nat → Int32) : gm_pl_giggleOf (sm_pl_sizeOf σ v) = gm_pl_giggleOf σ := rfl
theorem pm_nm_unsure_pl_sizeOf (σ : SM) (v : Nat → Int32) : gm_nm_unsure (sm_pl_sizeOf σ v) = gm_nm_unsure σ := rfl
theorem pm_nm_clothRight_pl_sizeOf (σ : SM) (v : Nat → Int32) : gm_nm_clothRight (sm_pl_sizeOf σ v) = gm_nm_clothRight σ := rfl
theorem pm_nm_giggleRight_pl_sizeOf (σ : SM) (v : Nat → Int32) : gm_nm_giggleRight (sm_pl_sizeOf σ v) = gm_nm_giggleRight σ := rfl
theorem pm_nm_jacketA_pl_sizeOf (σ : SM) (v : Nat → Int32) : gm_nm_jacketA (sm_pl_sizeOf σ v) = gm_nm_jacketA σ := rfl
theorem pm_nm_jacketB_pl_sizeOf (σ : SM) (v : Nat → Int32) : gm_nm_jacketB (sm_pl_sizeOf σ v) = gm_nm_jacketB σ := rfl
theorem pm_nm_jacketTenths_pl_sizeOf (σ : SM) (v : Nat → Int32) : gm_nm_jacketTenths (sm_pl_sizeOf σ v) = gm_nm_jacketTenths σ := rfl
theorem pm_nm_asks_pl_sizeOf (σ : SM) (v : Nat → Int32) : gm_nm_asks (sm_pl_sizeOf σ v) = gm_nm_asks σ := rfl
theorem pm_pg_pageLength_pl_sizeOf (σ : SM) (v : Nat → Int32) : gm_pg_pageLength (sm_pl_sizeOf σ v) = gm_pg_pageLength σ := rfl
theorem pm_pg_page_pl_sizeOf (σ : SM) (v : Nat → Int32) : gm_pg_page (sm_pl_sizeOf σ v) = gm_pg_page σ := rfl
theorem pm_kp_isKept_pl_sizeOf (σ : SM) (v : Nat → Int32) : gm_kp_isKept (sm_pl_sizeOf σ v) = gm_kp_isKept σ := rfl
theorem pm_kp_keptRing_pl_sizeOf (σ : SM) (v : Nat → Int32) : gm_kp_keptRing (sm_pl_sizeOf σ v) = gm_kp_keptRing σ := rfl
theorem pm_kp_keptPlayers_pl_sizeOf (σ : SM) (v : Nat → Int32) : gm_kp_keptPlayers (sm_pl_sizeOf σ v) = gm_kp_keptPlayers σ := rfl
theorem pm_kp_keptUpdates_pl_sizeOf (σ : SM) (v : Nat → Int32) : gm_kp_keptUpdates (sm_pl_sizeOf σ v) = gm_kp_keptUpdates σ := rfl
theorem pm_kp_keptA_pl_sizeOf (σ : SM) (v : Nat → Int32) : gm_kp_keptA (sm_pl_sizeOf σ v) = gm_kp_keptA σ := rfl
theorem pm_kp_keptB_pl_sizeOf (σ : SM) (v : Nat → Int32) : gm_kp_keptB (sm_pl_sizeOf σ v) = gm_kp_keptB σ := rfl
theorem pm_kp_keptTenths_pl_sizeOf (σ : SM) (v : Nat → Int32) : gm_kp_keptTenths (sm_pl_sizeOf σ v) = gm_kp_keptTenths σ := rfl
theorem pm_kp_keptWeight_pl_sizeOf (σ : SM) (v : Nat → Int32) : gm_kp_keptWeight (sm_pl_sizeOf σ v) = gm_kp_keptWeight σ := rfl
theorem pm_kp_keptPlace_pl_sizeOf (σ : SM) (v : Nat → Int32) : gm_kp_keptPlace (sm_pl_sizeOf σ v) = gm_kp_keptPlace σ := rfl
theorem pm_rp_faultAt_pl_sizeOf (σ : SM) (v : Nat → Int32) : gm_rp_faultAt (sm_pl_sizeOf σ v) = gm_rp_faultAt σ := rfl
theorem pm_rp_isWhole_pl_sizeOf (σ : SM) (v : Nat → Int32) : gm_rp_isWhole (sm_pl_sizeOf σ v) = gm_rp_isWhole σ := rfl
theorem pm_rp_newRows_pl_sizeOf (σ : SM) (v : Nat → Int32) : gm_rp_newRows (sm_pl_sizeOf σ v) = gm_rp_newRows σ := rfl
theorem pm_rp_newColumns_pl_sizeOf (σ : SM) (v : Nat → Int32) : gm_rp_newColumns (sm_pl_sizeOf σ v) = gm_rp_newColumns σ := rfl
theorem pm_rp_newCell_pl_sizeOf (σ : SM) (v : Nat → Int32) : gm_rp_newCell (sm_pl_sizeOf σ v) = gm_rp_newCell σ := rfl
theorem pm_rp_gonePost_pl_sizeOf (σ : SM) (v : Nat → Int32) : gm_rp_gonePost (sm_pl_sizeOf σ v) = gm_rp_gonePost σ := rfl
theorem pm_gm_his_pl_sizeOf (σ : SM) (v : Nat → Int32) : gm_gm_his (sm_pl_sizeOf σ v) = gm_gm_his σ := rfl
theorem pm_gm_looks_pl_sizeOf (σ : SM) (v : Nat → Int32) : gm_gm_looks (sm_pl_sizeOf σ v) = gm_gm_looks σ := rfl
theorem pm_gm_seedNow_pl_sizeOf (σ : SM) (v : Nat → Int32) : gm_gm_seedNow (sm_pl_sizeOf σ v) = gm_gm_seedNow σ := rfl
theorem pm_gm_place_pl_sizeOf (σ : SM) (v : Nat → Int32) : gm_gm_place (sm_pl_sizeOf σ v) = gm_gm_place σ := rfl
theorem pm_gm_touched_pl_sizeOf (σ : SM) (v : Nat → Int32) : gm_gm_touched (sm_pl_sizeOf σ v) = gm_gm_touched σ := rfl
theorem pm_gm_touchedAt_pl_sizeOf (σ : SM) (v : Nat → Int32) : gm_gm_touchedAt (sm_pl_sizeOf σ v) = gm_gm_touchedAt σ := rfl
theorem pm_gm_h_pl_sizeOf (σ : SM) (v : Nat → Int32) : gm_gm_h (sm_pl_sizeOf σ v) = gm_gm_h σ := rfl
theorem pm_rg_rows_pl_clothOf (σ : SM) (v : Nat → Int32) : gm_rg_rows (sm_pl_clothOf σ v) = gm_rg_rows σ := rfl
theorem pm_rg_columns_pl_clothOf (σ : SM) (v : Nat → Int32) : gm_rg_columns (sm_pl_clothOf σ v) = gm_rg_columns σ := rfl
theorem pm_rg_rings_pl_clothOf (σ : SM) (v : Nat → Int32) : gm_rg_rings (sm_pl_clothOf σ v) = gm_rg_rings σ := rfl
theorem pm_rg_cellOf_pl_clothOf (σ : SM) (v : Nat → Int32) : gm_rg_cellOf (sm_pl_clothOf σ v) = gm_rg_cellOf σ := rfl
theorem pm_od_weight_pl_clothOf (σ : SM) (v : Nat → Int32) : gm_od_weight (sm_pl_clothOf σ v) = gm_od_weight σ := rfl
theorem pm_od_then_pl_clothOf (σ : SM) (v : Nat → Int32) : gm_od_then (sm_pl_clothOf σ v) = gm_od_then σ := rfl
theorem pm_od_updates_pl_clothOf (σ : SM) (v : Nat → Int32) : gm_od_updates (sm_pl_clothOf σ v) = gm_od_updates σ := rfl
theorem pm_pl_players_pl_clothOf (σ : SM) (v : Nat → Int32) : gm_pl_players (sm_pl_clothOf σ v) = gm_pl_players σ := rfl
theorem pm_pl_kindOf_pl_clothOf (σ : SM) (v : Nat → Int32) : gm_pl_kindOf (sm_pl_clothOf σ v) = gm_pl_kindOf σ := rfl
theorem pm_pl_placeOf_pl_clothOf (σ : SM) (v : Nat → Int32) : gm_pl_placeOf (sm_pl_clothOf σ v) = gm_pl_placeOf σ := rfl
theorem pm_pl_sizeOf_pl_clothOf (σ : SM) (v : Nat → Int32) : gm_pl_sizeOf (sm_pl_clothOf σ v) = gm_pl_sizeOf σ := rfl
theorem pm_pl_clothOf_pl_clothOf (σ : SM) (v : Nat → Int32) : gm_pl_clothOf (sm_pl_clothOf σ v) = v := rfl
theorem pm_pl_giggleOf_pl_clothOf (σ : SM) (v : Nat → Int32) : gm_pl_giggleOf (sm_pl_clothOf σ v) = gm_pl_giggleOf σ := rfl
theorem pm_nm_unsure_pl_clothOf (σ : SM) (v : Nat → Int32) : gm_nm_unsure (sm_pl_clothOf σ v) = gm_nm_unsure σ := rfl
theorem pm_nm_clothRight_pl_clothOf (σ : SM) (v : Nat → Int32) : gm_nm_clothRight (sm_pl_clothOf σ v) = gm_nm_clothRight σ := rfl
theorem pm_nm_giggleRight_pl_clothOf (σ : SM) (v : Nat → Int32) : gm_nm_giggleRight (sm_pl_clothOf σ v) = gm_nm_giggleRight σ := rfl
theorem pm_nm_jacketA_pl_clothOf (σ : SM) (v : Nat → Int32) : gm_nm_jacketA (sm_pl_clothOf σ v) = gm_nm_jacketA σ := rfl
theorem pm_nm_jacketB_pl_clothOf (σ : SM) (v : Nat → Int32) : gm_nm_jacketB (sm_pl_clothOf σ v) = gm_nm_jacketB σ := rfl
theorem pm_nm_jacketTenths_pl_clothOf (σ : SM) (v : Nat → Int32) : gm_nm_jacketTenths (sm_pl_clothOf σ v) = gm_nm_jacketTenths σ := rfl
theorem pm_nm_asks_pl_clothOf (σ : SM) (v : Nat → Int32) : gm_nm_asks (sm_pl_clothOf σ v) = gm_nm_asks σ := rfl
theorem pm_pg_pageLength_pl_clothOf (σ : SM) (v : Nat → Int32) : gm_pg_pageLength (sm_pl_clothOf σ v) = gm_pg_pageLength σ := rfl
theorem pm_pg_page_pl_clothOf (σ : SM) (v : Nat → Int32) : gm_pg_page (sm_pl_clothOf σ v) = gm_pg_page σ := rfl
theorem pm_kp_isKept_pl_clothOf (σ : SM) (v : Nat → Int32) : gm_kp_isKept (sm_pl_clothOf σ v) = gm_kp_isKept σ := rfl
theorem pm_kp_keptRing_pl_clothOf (σ : SM) (v : Nat → Int32) : gm_kp_keptRing (sm_pl_clothOf σ v) = gm_kp_keptRing σ := rfl
theorem pm_kp_keptPlayers_pl_clothOf (σ : SM) (v : Nat → Int32) : gm_kp_keptPlayers (sm_pl_clothOf σ v) = gm_kp_keptPlayers σ := rfl
theorem pm_kp_keptUpdates_pl_clothOf (σ : SM) (v : Nat → Int32) : gm_kp_keptUpdates (sm_pl_clothOf σ v) = gm_kp_keptUpdates σ := rfl
theorem pm_kp_keptA_pl_clothOf (σ : SM) (v : Nat → Int32) : gm_kp_keptA (sm_pl_clothOf σ v) = gm_kp_keptA σ := rfl
theorem pm_kp_keptB_pl_clothOf (σ : SM) (v : Nat → Int32) : gm_kp_keptB (sm_pl_clothOf σ v) = gm_kp_keptB σ := rfl
theorem pm_kp_keptTenths_pl_clothOf (σ : SM) (v : Nat → Int32) : gm_kp_keptTenths (sm_pl_clothOf σ v) = gm_kp_keptTenths σ := rfl
theorem pm_kp_keptWeight_pl_clothOf (σ : SM) (v : Nat → Int32) : gm_kp_keptWeight (sm_pl_clothOf σ v) = gm_kp_keptWeight σ := rfl
theorem pm_kp_keptPlace_pl_clothOf (σ : SM) (v : Nat → Int32) : gm_kp_keptPlace (sm_pl_clothOf σ v) = gm_kp_keptPlace σ := rfl
theorem pm_rp_faultAt_pl_clothOf (σ : SM) (v : Nat → Int32) : gm_rp_faultAt (sm_pl_clothOf σ v) = gm_rp_faultAt σ := rfl
theorem pm_rp_isWhole_pl_clothOf (σ : SM) (v : Nat → Int32) : gm_rp_isWhole (sm_pl_clothOf σ v) = gm_rp_isWhole σ := rfl
theorem pm_rp_newRows_pl_clothOf (σ : SM) (v : Nat → Int32) : gm_rp_newRows (sm_pl_clothOf σ v) = gm_rp_newRows σ := rfl
theorem pm_rp_newColumns_pl_clothOf (σ : SM) (v : Nat → Int32) : gm_rp_newColumns (sm_pl_clothOf σ v) = gm_rp_newColumns σ := rfl
theorem pm_rp_newCell_pl_clothOf (σ : SM) (v : Nat → Int32) : gm_rp_newCell (sm_pl_clothOf σ v) = gm_rp_newCell σ := rfl
theorem pm_rp_gonePost_pl_clothOf (σ : SM) (v : Nat → Int32) : gm_rp_gonePost (sm_pl_clothOf σ v) = gm_rp_gonePost σ := rfl
theorem pm_gm_his_pl_clothOf (σ : SM) (v : Nat → Int32) : gm_gm_his (sm_pl_clothOf σ v) = gm_gm_his σ := rfl
theorem pm_gm_looks_pl_clothOf (σ : SM) (v : Nat → Int32) : gm_gm_looks (sm_pl_clothOf σ v) = gm_gm_looks σ := rfl
theorem pm_gm_seedNow_pl_clothOf (σ : SM) (v : Nat → Int32) : gm_gm_seedNow (sm_pl_clothOf σ v) = gm_gm_seedNow σ := rfl
theorem pm_gm_place_pl_clothOf (σ : SM) (v : Nat → Int32) : gm_gm_place (sm_pl_clothOf σ v) = gm_gm_place σ := rfl
theorem pm_gm_touched_pl_clothOf (σ : SM) (v : Nat → Int32) : gm_gm_touched (sm_pl_clothOf σ v) = gm_gm_touched σ := rfl
theorem pm_gm_touchedAt_pl_clothOf (σ : SM) (v : Nat → Int32) : gm_gm_touchedAt (sm_pl_clothOf σ v) = gm_gm_touchedAt σ := rfl
theorem pm_gm_h_pl_clothOf (σ : SM) (v : Nat → Int32) : gm_gm_h (sm_pl_clothOf σ v) = gm_gm_h σ := rfl
theorem pm_rg_rows_pl_giggleOf (σ : SM) (v : Nat → Int32) : gm_rg_rows (sm_pl_giggleOf σ v) = gm_rg_rows σ := rfl
theorem pm_rg_columns_pl_giggleOf (σ : SM) (v : Nat → Int32) : gm_rg_columns (sm_pl_giggleOf σ v) = gm_rg_columns σ := rfl
theorem pm_rg_rings_pl_giggleOf (σ : SM) (v : Nat → Int32) : gm_rg_rings (sm_pl_giggleOf σ v) = gm_rg_rings σ := rfl
theorem pm_rg_cellOf_pl_giggleOf (σ : SM) (v : Nat → Int32) : gm_rg_cellOf (sm_pl_giggleOf σ v) = gm_rg_cellOf σ := rfl
theorem pm_od_weight_pl_giggleOf (σ : SM) (v : Nat → Int32) : gm_od_weight (sm_pl_giggleOf σ v) = gm_od_weight σ := rfl
theorem pm_od_then_pl_giggleOf (σ : SM) (v : Nat → Int32) : gm_od_then (sm_pl_giggleOf σ v) = gm_od_then σ := rfl
theorem pm_od_updates_pl_giggleOf (σ : SM) (v : Nat → Int32) : gm_od_updates (sm_pl_giggleOf σ v) = gm_od_updates σ := rfl
theorem pm_pl_players_pl_giggleOf (σ : SM) (v : Nat → Int32) : gm_pl_players (sm_pl_giggleOf σ v) = gm_pl_players σ := rfl
theorem pm_pl_kindOf_pl_giggleOf (σ : SM) (v : Nat → Int32) : gm_pl_kindOf (sm_pl_giggleOf σ v) = gm_pl_kindOf σ := rfl
theorem pm_pl_placeOf_pl_giggleOf (σ : SM) (v : Nat → Int32) : gm_pl_placeOf (sm_pl_giggleOf σ v) = gm_pl_placeOf σ := rfl
theorem pm_pl_sizeOf_pl_giggleOf (σ : SM) (v : Nat → Int32) : gm_pl_sizeOf (sm_pl_giggleOf σ v) = gm_pl_sizeOf σ := rfl
theorem pm_pl_clothOf_pl_giggleOf (σ : SM) (v : Nat → Int32) : gm_pl_clothOf (sm_pl_giggleOf σ v) = gm_pl_clothOf σ := rfl
theorem pm_pl_giggleOf_pl_giggleOf (σ : SM) (v : Nat → Int32) : gm_pl_giggleOf (sm_pl_giggleOf σ v) = v := rfl
theorem pm_nm_unsure_pl_giggleOf (σ : SM) (v : Nat → Int32) : gm_nm_unsure (sm_pl_giggleOf σ v) = gm_nm_unsure σ := rfl
theorem pm_nm_clothRight_pl_giggleOf (σ : SM) (v : Nat → Int32) : gm_nm_clothRight (sm_pl_giggleOf σ v) = gm_nm_clothRight σ := rfl
theorem pm_nm_giggleRight_pl_giggleOf (σ : SM) (v : Nat → Int32) : gm_nm_giggleRight (sm_pl_giggleOf σ v) = gm_nm_giggleRight σ := rfl
theorem pm_nm_jacketA_pl_giggleOf (σ : SM) (v : Nat → Int32) : gm_nm_jacketA (sm_pl_giggleOf σ v) = gm_nm_jacketA σ := rfl
theorem pm_nm_jacketB_pl_giggleOf (σ : SM) (v : Nat → Int32) : gm_nm_jacketB (sm_pl_giggleOf σ v) = gm_nm_jacketB σ := rfl
theorem pm_nm_jacketTenths_pl_giggleOf (σ : SM) (v : Nat → Int32) : gm_nm_jacketTenths (sm_pl_giggleOf σ v) = gm_nm_jacketTenths σ := rfl
theorem pm_nm_asks_pl_giggleOf (σ : SM) (v : Nat → Int32) : gm_nm_asks (sm_pl_giggleOf σ v) = gm_nm_asks σ := rfl
theorem pm_pg_pageLength_pl_giggleOf (σ : SM) (v : Nat → Int32) : gm_pg_pageLength (sm_pl_giggleOf σ v) = gm_pg_pageLength σ := rfl
theorem pm_pg_page_pl_giggleOf (σ : SM) (v : Nat → Int32) : gm_pg_page (sm_pl_giggleOf σ v) = gm_pg_page σ := rfl
theorem pm_kp_isKept_pl_giggleOf (σ : SM) (v : Nat → Int32) : gm_kp_isKept (sm_pl_giggleOf σ v) = gm_kp_isKept σ := rfl
theorem pm_kp_keptRing_pl_giggleOf (σ : SM) (v : Nat → Int32) : gm_kp_keptRing (sm_pl_giggleOf σ v) = gm_kp_keptRing σ := rfl
theorem pm_kp_keptPlayers_pl_giggleOf (σ : SM) (v : Nat → Int32) : gm_kp_keptPlayers (sm_pl_giggleOf σ v) = gm_kp_keptPlayers σ := rfl
theorem pm_kp_keptUpdates_pl_giggleOf (σ : SM) (v : Nat → Int32) : gm_kp_keptUpdates (sm_pl_giggleOf σ v) = gm_kp_keptUpdates σ := rfl
theorem pm_kp_keptA_pl_giggleOf (σ : SM) (v : Nat → Int32) : gm_kp_keptA (sm_pl_giggleOf σ v) = gm_kp_keptA σ := rfl
theorem pm_kp_keptB_pl_giggleOf (σ : SM) (v : Nat → Int32) : gm_kp_keptB (sm_pl_giggleOf σ v) = gm_kp_keptB σ := rfl
theorem pm_kp_keptTenths_pl_giggleOf (σ : SM) (v : Nat → Int32) : gm_kp_keptTenths (sm_pl_giggleOf σ v) = gm_kp_keptTenths σ := rfl
theorem pm_kp_keptWeight_pl_giggleOf (σ : SM) (v : Nat → Int32) : gm_kp_keptWeight (sm_pl_giggleOf σ v) = gm_kp_keptWeight σ := rfl
theorem pm_kp_keptPlace_pl_giggleOf (σ : SM) (v : Nat → Int32) : gm_kp_keptPlace (sm_pl_giggleOf σ v) = gm_kp_keptPlace σ := rfl
theorem pm_rp_faultAt_pl_giggleOf (σ : SM) (v : Nat → Int32) : gm_rp_faultAt (sm_pl_giggleOf σ v) = gm_rp_faultAt σ := rfl
theorem pm_rp_isWhole_pl_giggleOf (σ : SM) (v : Nat → Int32) : gm_rp_isWhole (sm_pl_giggleOf σ v) = gm_rp_isWhole σ := rfl
theorem pm_rp_newRows_pl_giggleOf (σ : SM) (v : Nat → Int32) : gm_rp_newRows (sm_pl_giggleOf σ v) = gm_rp_newRows σ := rfl
theorem pm_rp_newColumns_pl_giggleOf (σ : SM) (v : Nat → Int32) : gm_rp_newColumns (sm_pl_giggleOf σ v) = gm_rp_newColumns σ := rfl
theorem pm_rp_newCell_pl_giggleOf (σ : SM) (v : Nat → Int32) : gm_rp_newCell (sm_pl_giggleOf σ v) = gm_rp_newCell σ := rfl
theorem pm_rp_gonePost_pl_giggleOf (σ : SM) (v : Nat → Int32) : gm_rp_gonePost (sm_pl_giggleOf σ v) = gm_rp_gonePost σ := rfl
theorem pm_gm_his_pl_giggleOf (σ : SM) (v : Nat → Int32) : gm_gm_his (sm_pl_giggleOf σ v) = gm_gm_his σ := rfl
theorem pm_gm_looks_pl_giggleOf (σ : SM) (v : Nat → Int32) : gm_gm_looks (sm_pl_giggleOf σ v) = gm_gm_looks σ := rfl
theorem pm_gm_seedNow_pl_giggleOf (σ : SM) (v : Nat → Int32) : gm_gm_seedNow (sm_pl_giggleOf σ v) = gm_gm_seedNow σ := rfl
theorem pm_gm_place_pl_giggleOf (σ : SM) (v : Nat → Int32) : gm_gm_place (sm_pl_giggleOf σ v) = gm_gm_place σ := rfl
theorem pm_gm_touched_pl_giggleOf (σ : SM) (v : Nat → Int32) : gm_gm_touched (sm_pl_giggleOf σ v) = gm_gm_touched σ := rfl
theorem pm_gm_touchedAt_pl_giggleOf (σ : SM) (v : Nat → Int32) : gm_gm_touchedAt (sm_pl_giggleOf σ v) = gm_gm_touchedAt σ := rfl
theorem pm_gm_h_pl_giggleOf (σ : SM) (v : Nat → Int32) : gm_gm_h (sm_pl_giggleOf σ v) = gm_gm_h σ := rfl
theorem pm_rg_rows_nm_unsure (σ : SM) (v : Int32) : gm_rg_rows (sm_nm_unsure σ v) = gm_rg_rows σ := rfl
theorem pm_rg_columns_nm_unsure (σ : SM) (v : Int32) : gm_rg_columns (sm_nm_unsure σ v) = gm_rg_columns σ := rfl
theorem pm_rg_rings_nm_unsure (σ : SM) (v : Int32) : gm_rg_rings (sm_nm_unsure σ v) = gm_rg_rings σ := rfl
theorem pm_rg_cellOf_nm_unsure (σ : SM) (v : Int32) : gm_rg_cellOf (sm_nm_unsure σ v) = gm_rg_cellOf σ := rfl
theorem pm_od_weight_nm_unsure (σ : SM) (v : Int32) : gm_od_weight (sm_nm_unsure σ v) = gm_od_weight σ := rfl
theorem pm_od_then_nm_unsure (σ : SM) (v : Int32) : gm_od_then (sm_nm_unsure σ v) = gm_od_then σ := rfl
theorem pm_od_updates_nm_unsure (σ : SM) (v : Int32) : gm_od_updates (sm_nm_unsure σ v) = gm_od_updates σ := rfl
theorem pm_pl_players_nm_unsure (σ : SM) (v : Int32) : gm_pl_players (sm_nm_unsure σ v) = gm_pl_players σ := rfl
theorem pm_pl_kindOf_nm_unsure (σ : SM) (v : Int32) : gm_pl_kindOf (sm_nm_unsure σ v) = gm_pl_kindOf σ := rfl
theorem pm_pl_placeOf_nm_unsure (σ : SM) (v : Int32) : gm_pl_placeOf (sm_nm_unsure σ v) = gm_pl_placeOf σ := rfl
theorem pm_pl_sizeOf_nm_unsure (σ : SM) (v : Int32) : gm_pl_sizeOf (sm_nm_unsure σ v) = gm_pl_sizeOf σ := rfl
theorem pm_pl_clothOf_nm_unsure (σ : SM) (v : Int32) : gm_pl_clothOf (sm_nm_unsure σ v) = gm_pl_clothOf σ := rfl
theorem pm_pl_giggleOf_nm_unsure (σ : SM) (v : Int32) : gm_pl_giggleOf (sm_nm_unsure σ v) = gm_pl_giggleOf σ := rfl
theorem pm_nm_unsure_nm_unsure (σ : SM) (v : Int32) : gm_nm_unsure (sm_nm_unsure σ v) = v := rfl
theorem pm_nm_clothRight_nm_unsure (σ : SM) (v : Int32) : gm_nm_clothRight (sm_nm_unsure σ v) = gm_nm_clothRight σ := rfl
theorem pm_nm_giggleRight_nm_unsure (σ : SM) (v : Int32) : gm_nm_giggleRight (sm_nm_unsure σ v) = gm_nm_giggleRight σ := rfl
theorem pm_nm_jacketA_nm_unsure (σ : SM) (v : Int32) : gm_nm_jacketA (sm_nm_unsure σ v) = gm_nm_jacketA σ := rfl
theorem pm_nm_jacketB_nm_unsure (σ : SM) (v : Int32) : gm_nm_jacketB (sm_nm_unsure σ v) = gm_nm_jacketB σ := rfl
theorem pm_nm_jacketTenths_nm_unsure (σ : SM) (v : Int32) : gm_nm_jacketTenths (sm_nm_unsure σ v) = gm_nm_jacketTenths σ := rfl
theorem pm_nm_asks_nm_unsure (σ : SM) (v : Int32) : gm_nm_asks (sm_nm_unsure σ v) = gm_nm_asks σ := rfl
theorem pm_pg_pageLength_nm_unsure (σ : SM) (v : Int32) : gm_pg_pageLength (sm_nm_unsure σ v) = gm_pg_pageLength σ := rfl
theorem pm_pg_page_nm_unsure (σ : SM) (v : Int32) : gm_pg_page (sm_nm_unsure σ v) = gm_pg_page σ := rfl
theorem pm_kp_isKept_nm_unsure (σ : SM) (v : Int32) : gm_kp_isKept (sm_nm_unsure σ v) = gm_kp_isKept σ := rfl
theorem pm_kp_keptRing_nm_unsure (σ : SM) (v : Int32) : gm_kp_keptRing (sm_nm_unsure σ v) = gm_kp_keptRing σ := rfl
theorem pm_kp_keptPlayers_nm_unsure (σ : SM) (v : Int32) : gm_kp_keptPlayers (sm_nm_unsure σ v) = gm_kp_keptPlayers σ := rfl
theorem pm_kp_keptUpdates_nm_unsure (σ : SM) (v : Int32) : gm_kp_keptUpdates (sm_nm_unsure σ v) = gm_kp_keptUpdates σ := rfl
theorem pm_kp_keptA_nm_unsure (σ : SM) (v : Int32) : gm_kp_keptA (sm_nm_unsure σ v) = gm_kp_keptA σ := rfl
theorem pm_kp_keptB_nm_unsure (σ : SM) (v : Int32) : gm_kp_keptB (sm_nm_unsure σ v) = gm_kp_keptB σ := rfl
theorem pm_kp_keptTenths_nm_unsure (σ : SM) (v : Int32) : gm_kp_keptTenths (sm_nm_unsure σ v) = gm_kp_keptTenths σ := rfl
theorem pm_kp_keptWeight_nm_unsure (σ : SM) (v : Int32) : gm_kp_keptWeight (sm_nm_unsure σ v) = gm_kp_keptWeight σ := rfl
theorem pm_kp_keptPlace_nm_unsure (σ : SM) (v : Int32) : gm_kp_keptPlace (sm_nm_unsure σ v) = gm_kp_keptPlace σ := rfl
theorem pm_rp_faultAt_nm_unsure (σ : SM) (v : Int32) : gm_rp_faultAt (sm_nm_unsure σ v) = gm_rp_faultAt σ := rfl
theorem pm_rp_isWhole_nm_unsure (σ : SM) (v : Int32) : gm_rp_isWhole (sm_nm_unsure σ v) = gm_rp_isWhole σ := rfl
theorem pm_rp_newRows_nm_unsure (σ : SM) (v : Int32) : gm_rp_newRows (sm_nm_unsure σ v) = gm_rp_newRows σ := rfl
theorem pm_rp_newColumns_nm_unsure (σ : SM) (v : Int32) : gm_rp_newColumns (sm_nm_unsure σ v) = gm_rp_newColumns σ := rfl
theorem pm_rp_newCell_nm_unsure (σ : SM) (v : Int32) : gm_rp_newCell (sm_nm_unsure σ v) = gm_rp_newCell σ := rfl
theorem pm_rp_gonePost_nm_unsure (σ : SM) (v : Int32) : gm_rp_gonePost (sm_nm_unsure σ v) = gm_rp_gonePost σ := rfl
theorem pm_gm_his_nm_unsure (σ : SM) (v : Int32) : gm_gm_his (sm_nm_unsure σ v) = gm_gm_his σ := rfl
theorem pm_gm_looks_nm_unsure (σ : SM) (v : Int32) : gm_gm_looks (sm_nm_unsure σ v) = gm_gm_looks σ := rfl
theorem pm_gm_seedNow_nm_unsure (σ : SM) (v : Int32) : gm_gm_seedNow (sm_nm_unsure σ v) = gm_gm_seedNow σ := rfl
theorem pm_gm_place_nm_unsure (σ : SM) (v : Int32) : gm_gm_place (sm_nm_unsure σ v) = gm_gm_place σ := rfl
theorem pm_gm_touched_nm_unsure (σ : SM) (v : Int32) : gm_gm_touched (sm_nm_unsure σ v) = gm_gm_touched σ := rfl
theorem pm_gm_touchedAt_nm_unsure (σ : SM) (v : Int32) : gm_gm_touchedAt (sm_nm_unsure σ v) = gm_gm_touchedAt σ := rfl
theorem pm_gm_h_nm_unsure (σ : SM) (v : Int32) : gm_gm_h (sm_nm_unsure σ v) = gm_gm_h σ := rfl
theorem pm_rg_rows_nm_clothRight (σ : SM) (v : Int32) : gm_rg_rows (sm_nm_clothRight σ v) = gm_rg_rows σ := rfl
theorem pm_rg_columns_nm_clothRight (σ : SM) (v : Int32) : gm_rg_columns (sm_nm_clothRight σ v) = gm_rg_columns σ := rfl
theorem pm_rg_rings_nm_clothRight (σ : SM) (v : Int32) : gm_rg_rings (sm_nm_clothRight σ v) = gm_rg_rings σ := rfl
theorem pm_rg_cellOf_nm_clothRight (σ : SM) (v : Int32) : gm_rg_cellOf (sm_nm_clothRight σ v) = gm_rg_cellOf σ := rfl
theorem pm_od_weight_nm_clothRight (σ : SM) (v : Int32) : gm_od_weight (sm_nm_clothRight σ v) = gm_od_weight σ := rfl
theorem pm_od_then_nm_clothRight (σ : SM) (v : Int32) : gm_od_then (sm_nm_clothRight σ v) = gm_od_then σ := rfl
theorem pm_od_updates_nm_clothRight (σ : SM) (v : Int32) : gm_od_updates (sm_nm_clothRight σ v) = gm_od_updates σ := rfl
theorem pm_pl_players_nm_clothRight (σ : SM) (v : Int32) : gm_pl_players (sm_nm_clothRight σ v) = gm_pl_players σ := rfl
theorem pm_pl_kindOf_nm_clothRight (σ : SM) (v : Int32) : gm_pl_kindOf (sm_nm_clothRight σ v) = gm_pl_kindOf σ := rfl
theorem pm_pl_placeOf_nm_clothRight (σ : SM) (v : Int32) : gm_pl_placeOf (sm_nm_clothRight σ v) = gm_pl_placeOf σ := rfl
theorem pm_pl_sizeOf_nm_clothRight (σ : SM) (v : Int32) : gm_pl_sizeOf (sm_nm_clothRight σ v) = gm_pl_sizeOf σ := rfl
theorem pm_pl_clothOf_nm_clothRight (σ : SM) (v : Int32) : gm_pl_clothOf (sm_nm_clothRight σ v) = gm_pl_clothOf σ := rfl
theorem pm_pl_giggleOf_nm_clothRight (σ : SM) (v : Int32) : gm_pl_giggleOf (sm_nm_clothRight σ v) = gm_pl_giggleOf σ := rfl
theorem pm_nm_unsure_nm_clothRight (σ : SM) (v : Int32) : gm_nm_unsure (sm_nm_clothRight σ v) = gm_nm_unsure σ := rfl
theorem pm_nm_clothRight_nm_clothRight (σ : SM) (v : Int32) : gm_nm_clothRight (sm_nm_clothRight σ v) = v := rfl
theorem pm_nm_giggleRight_nm_clothRight (σ : SM) (v : Int32) : gm_nm_giggleRight (sm_nm_clothRight σ v) = gm_nm_giggleRight σ := rfl
theorem pm_nm_jacketA_nm_clothRight (σ : SM) (v : Int32) : gm_nm_jacketA (sm_nm_clothRight σ v) = gm_nm_jacketA σ := rfl
theorem pm_nm_jacketB_nm_clothRight (σ : SM) (v : Int32) : gm_nm_jacketB (sm_nm_clothRight σ v) = gm_nm_jacketB σ := rfl
theorem pm_nm_jacketTenths_nm_clothRight (σ : SM) (v : Int32) : gm_nm_jacketTenths (sm_nm_clothRight σ v) = gm_nm_jacketTenths σ := rfl
theorem pm_nm_asks_nm_clothRight (σ : SM) (v : Int32) : gm_nm_asks (sm_nm_clothRight σ v) = gm_nm_asks σ := rfl
theorem pm_pg_pageLength_nm_clothRight (σ : SM) (v : Int32) : gm_pg_pageLength (sm_nm_clothRight σ v) = gm_pg_pageLength σ := rfl
theorem pm_pg_page_nm_clothRight (σ : SM) (v : Int32) : gm_pg_page (sm_nm_clothRight σ v) = gm_pg_page σ := rfl
theorem pm_kp_isKept_nm_clothRight (σ : SM) (v : Int32) : gm_kp_isKept (sm_nm_clothRight σ v) = gm_kp_isKept σ := rfl
theorem pm_kp_keptRing_nm_clothRight (σ : SM) (v : Int32) : gm_kp_keptRing (sm_nm_clothRight σ v) = gm_kp_keptRing σ := rfl
theorem pm_kp_keptPlayers_nm_clothRight (σ : SM) (v : Int32) : gm_kp_keptPlayers (sm_nm_clothRight σ v) = gm_kp_keptPlayers σ := rfl
theorem pm_kp_keptUpdates_nm_clothRight (σ : SM) (v : Int32) : gm_kp_keptUpdates (sm_nm_clothRight σ v) = gm_kp_keptUpdates σ := rfl
theorem pm_kp_keptA_nm_clothRight (σ : SM) (v : Int32) : gm_kp_keptA (sm_nm_clothRight σ v) = gm_kp_keptA σ := rfl
theorem pm_kp_keptB_nm_clothRight (σ : SM) (v : Int32) : gm_kp_keptB (sm_nm_clothRight σ v) = gm_kp_keptB σ := rfl
theorem pm_kp_keptTenths_nm_clothRight (σ : SM) (v : Int32) : gm_kp_keptTenths (sm_nm_clothRight σ v) = gm_kp_keptTenths σ := rfl
theorem pm_kp_keptWeight_nm_clothRight (σ : SM) (v : Int32) : gm_kp_keptWeight (sm_nm_clothRight σ v) = gm_kp_keptWeight σ := rfl
theorem pm_kp_keptPlace_nm_clothRight (σ : SM) (v : Int32) : gm_kp_keptPlace (sm_nm_clothRight σ v) = gm_kp_keptPlace σ := rfl
theorem pm_rp_faultAt_nm_clothRight (σ : SM) (v : Int32) : gm_rp_faultAt (sm_nm_clothRight σ v) = gm_rp_faultAt σ := rfl
theorem pm_rp_isWhole_nm_clothRight (σ : SM) (v : Int32) : gm_rp_isWhole (sm_nm_clothRight σ v) = gm_rp_isWhole σ := rfl
theorem pm_rp_newRows_nm_clothRight (σ : SM) (v : Int32) : gm_rp_newRows (sm_nm_clothRight σ v) = gm_rp_newRows σ := rfl
theorem pm_rp_newColumns_nm_clothRight (σ : SM) (v : Int32) : gm_rp_newColumns (sm_nm_clothRight σ v) = gm_rp_newColumns σ := rfl
theorem pm_rp_newCell_nm_clothRight (σ : SM) (v : Int32) : gm_rp_newCell (sm_nm_clothRight σ v) = gm_rp_newCell σ := rfl
theorem pm_rp_gonePost_nm_clothRight (σ : SM) (v : Int32) : gm_rp_gonePost (sm_nm_clothRight σ v) = gm_rp_gonePost σ := rfl
theorem pm_gm_his_nm_clothRight (σ : SM) (v : Int32) : gm_gm_his (sm_nm_clothRight σ v) = gm_gm_his σ := rfl
theorem pm_gm_looks_nm_clothRight (σ : SM) (v : Int32) : gm_gm_looks (sm_nm_clothRight σ v) = gm_gm_looks σ := rfl
theorem pm_gm_seedNow_nm_clothRight (σ : SM) (v : Int32) : gm_gm_seedNow (sm_nm_clothRight σ v) = gm_gm_seedNow σ := rfl
theorem pm_gm_place_nm_clothRight (σ : SM) (v : Int32) : gm_gm_place (sm_nm_clothRight σ v) = gm_gm_place σ := rfl
theorem pm_gm_touched_nm_clothRight (σ : SM) (v : Int32) : gm_gm_touched (sm_nm_clothRight σ v) = gm_gm_touched σ := rfl
theorem pm_gm_touchedAt_nm_clothRight (σ : SM) (v : Int32) : gm_gm_touchedAt (sm_nm_clothRight σ v) = gm_gm_touchedAt σ := rfl
theorem pm_gm_h_nm_clothRight (σ : SM) (v : Int32) : gm_gm_h (sm_nm_clothRight σ v) = gm_gm_h σ := rfl
theorem pm_rg_rows_nm_giggleRight (σ : SM) (v : Int32) : gm_rg_rows (sm_nm_giggleRight σ v) = gm_rg_rows σ := rfl
theorem pm_rg_columns_nm_giggleRight (σ : SM) (v : Int32) : gm_rg_columns (sm_nm_giggleRight σ v) = gm_rg_columns σ := rfl
theorem pm_rg_rings_nm_giggleRight (σ : SM) (v : Int32) : gm_rg_rings (sm_nm_giggleRight σ v) = gm_rg_rings σ := rfl
theorem pm_rg_cellOf_nm_giggleRight (σ : SM) (v : Int32) : gm_rg_cellOf (sm_nm_giggleRight σ v) = gm_rg_cellOf σ := rfl
theorem pm_od_weight_nm_giggleRight (σ : SM) (v : Int32) : gm_od_weight (sm_nm_giggleRight σ v) = gm_od_weight σ := rfl
theorem pm_od_then_nm_giggleRight (σ : SM) (v : Int32) : gm_od_then (sm_nm_giggleRight σ v) = gm_od_then σ := rfl
theorem pm_od_updates_nm_giggleRight (σ : SM) (v : Int32) : gm_od_updates (sm_nm_giggleRight σ v) = gm_od_updates σ := rfl
theorem pm_pl_players_nm_giggleRight (σ : SM) (v : Int32) : gm_pl_players (sm_nm_giggleRight σ v) = gm_pl_players σ := rfl
theorem pm_pl_kindOf_nm_giggleRight (σ : SM) (v : Int32) : gm_pl_kindOf (sm_nm_giggleRight σ v) = gm_pl_kindOf σ := rfl
theorem pm_pl_placeOf_nm_giggleRight (σ : SM) (v : Int32) : gm_pl_placeOf (sm_nm_giggleRight σ v) = gm_pl_placeOf σ := rfl
theorem pm_pl_sizeOf_nm_giggleRight (σ : SM) (v : Int32) : gm_pl_sizeOf (sm_nm_giggleRight σ v) = gm_pl_sizeOf σ := rfl
theorem pm_pl_clothOf_nm_giggleRight (σ : SM) (v : Int32) : gm_pl_clothOf (sm_nm_giggleRight σ v) = gm_pl_clothOf σ := rfl
theorem pm_pl_giggleOf_nm_giggleRight (σ : SM) (v : Int32) : gm_pl_giggleOf (sm_nm_giggleRight σ v) = gm_pl_giggleOf σ := rfl
theorem pm_nm_unsure_nm_giggleRight (σ : SM) (v : Int32) : gm_nm_unsure (sm_nm_giggleRight σ v) = gm_nm_unsure σ := rfl
theorem pm_nm_clothRight_nm_giggleRight (σ : SM) (v : Int32) : gm_nm_clothRight (sm_nm_giggleRight σ v) = gm_nm_clothRight σ := rfl
theorem pm_nm_giggleRight_nm_giggleRight (σ : SM) (v : Int32) : gm_nm_giggleRight (sm_nm_giggleRight σ v) = v := rfl
theorem pm_nm_jacketA_nm_giggleRight (σ : SM) (v : Int32) : gm_nm_jacketA (sm_nm_giggleRight σ v) = gm_nm_jacketA σ := rfl
theorem pm_nm_jacketB_nm_giggleRight (σ : SM) (v : Int32) : gm_nm_jacketB (sm_nm_giggleRight σ v) = gm_nm_jacketB σ := rfl
theorem pm_nm_jacketTenths_nm_giggleRight (σ : SM) (v : Int32) : gm_nm_jacketTenths (sm_nm_giggleRight σ v) = gm_nm_jacketTenths σ := rfl
theorem pm_nm_asks_nm_giggleRight (σ : SM) (v : Int32) : gm_nm_asks (sm_nm_giggleRight σ v) = gm_nm_asks σ := rfl
theorem pm_pg_pageLength_nm_giggleRight (σ : SM) (v : Int32) : gm_pg_pageLength (sm_nm_giggleRight σ v) = gm_pg_pageLength σ := rfl
theorem pm_pg_page_nm_giggleRight (σ : SM) (v : Int32) : gm_pg_page (sm_nm_giggleRight σ v) = gm_pg_page σ := rfl
theorem pm_kp_isKept_nm_giggleRight (σ : SM) (v : Int32) : gm_kp_isKept (sm_nm_giggleRight σ v) = gm_kp_isKept σ := rfl
theorem pm_kp_keptRing_nm_giggleRight (σ : SM) (v : Int32) : gm_kp_keptRing (sm_nm_giggleRight σ v) = gm_kp_keptRing σ := rfl
theorem pm_kp_keptPlayers_nm_giggleRight (σ : SM) (v : Int32) : gm_kp_keptPlayers (sm_nm_giggleRight σ v) = gm_kp_keptPlayers σ := rfl
theorem pm_kp_keptUpdates_nm_giggleRight (σ : SM) (v : Int32) : gm_kp_keptUpdates (sm_nm_giggleRight σ v) = gm_kp_keptUpdates σ := rfl
theorem pm_kp_keptA_nm_giggleRight (σ : SM) (v : Int32) : gm_kp_keptA (sm_nm_giggleRight σ v) = gm_kp_keptA σ := rfl
theorem pm_kp_keptB_nm_giggleRight (σ : SM) (v : Int32) : gm_kp_keptB (sm_nm_giggleRight σ v) = gm_kp_keptB σ := rfl
theorem pm_kp_keptTenths_nm_giggleRight (σ : SM) (v : Int32) : gm_kp_keptTenths (sm_nm_giggleRight σ v) = gm_kp_keptTenths σ := rfl
theorem pm_kp_keptWeight_nm_giggleRight (σ : SM) (v : Int32) : gm_kp_keptWeight (sm_nm_giggleRight σ v) = gm_kp_keptWeight σ := rfl
theorem pm_kp_keptPlace_nm_giggleRight (σ : SM) (v : Int32) : gm_kp_keptPlace (sm_nm_giggleRight σ v) = gm_kp_keptPlace σ := rfl
theorem pm_rp_faultAt_nm_giggleRight (σ : SM) (v : Int32) : gm_rp_faultAt (sm_nm_giggleRight σ v) = gm_rp_faultAt σ := rfl
theorem pm_rp_isWhole_nm_giggleRight (σ : SM) (v : Int32) : gm_rp_isWhole (sm_nm_giggleRight σ v) = gm_rp_isWhole σ := rfl
theorem pm_rp_newRows_nm_giggleRight (σ : SM) (v : Int32) : gm_rp_newRows (sm_nm_giggleRight σ v) = gm_rp_newRows σ := rfl
theorem pm_rp_newColumns_nm_giggleRight (σ : SM) (v : Int32) : gm_rp_newColumns (sm_nm_giggleRight σ v) = gm_rp_newColumns σ := rfl
theorem pm_rp_newCell_nm_giggleRight (σ : SM) (v : Int32) : gm_rp_newCell (sm_nm_giggleRight σ v) = gm_rp_newCell σ := rfl
theorem pm_rp_gonePost_nm_giggleRight (σ : SM) (v : Int32) : gm_rp_gonePost (sm_nm_giggleRight σ v) = gm_rp_gonePost σ := rfl
theorem pm_gm_his_nm_giggleRight (σ : SM) (v : Int32) : gm_gm_his (sm_nm_giggleRight σ v) = gm_gm_his σ := rfl
theorem pm_gm_looks_nm_giggleRight (σ : SM) (v : Int32) : gm_gm_looks (sm_nm_giggleRight σ v) = gm_gm_looks σ := rfl
theorem pm_gm_seedNow_nm_giggleRight (σ : SM) (v : Int32) : gm_gm_seedNow (sm_nm_giggleRight σ v) = gm_gm_seedNow σ := rfl
theorem pm_gm_place_nm_giggleRight (σ : SM) (v : Int32) : gm_gm_place (sm_nm_giggleRight σ v) = gm_gm_place σ := rfl
theorem pm_gm_touched_nm_giggleRight (σ : SM) (v : Int32) : gm_gm_touched (sm_nm_giggleRight σ v) = gm_gm_touched σ := rfl
theorem pm_gm_touchedAt_nm_giggleRight (σ : SM) (v : Int32) : gm_gm_touchedAt (sm_nm_giggleRight σ v) = gm_gm_touchedAt σ := rfl
theorem pm_gm_h_nm_giggleRight (σ : SM) (v : Int32) : gm_gm_h (sm_nm_giggleRight σ v) = gm_gm_h σ := rfl
theorem pm_rg_rows_nm_jacketA (σ : SM) (v : Int32) : gm_rg_rows (sm_nm_jacketA σ v) = gm_rg_rows σ := rfl
theorem pm_rg_columns_nm_jacketA (σ : SM) (v : Int32) : gm_rg_columns (sm_nm_jacketA σ v) = gm_rg_columns σ := rfl
theorem pm_rg_rings_nm_jacketA (σ : SM) (v : Int32) : gm_rg_rings (sm_nm_jacketA σ v) = gm_rg_rings σ := rfl
theorem pm_rg_cellOf_nm_jacketA (σ : SM) (v : Int32) : gm_rg_cellOf (sm_nm_jacketA σ v) = gm_rg_cellOf σ := rfl
theorem pm_od_weight_nm_jacketA (σ : SM) (v : Int32) : gm_od_weight (sm_nm_jacketA σ v) = gm_od_weight σ := rfl
theorem pm_od_then_nm_jacketA (σ : SM) (v : Int32) : gm_od_then (sm_nm_jacketA σ v) = gm_od_then σ := rfl
theorem pm_od_updates_nm_jacketA (σ : SM) (v : Int32) : gm_od_updates (sm_nm_jacketA σ v) = gm_od_updates σ := rfl
theorem pm_pl_players_nm_jacketA (σ : SM) (v : Int32) : gm_pl_players (sm_nm_jacketA σ v) = gm_pl_players σ := rfl
theorem pm_pl_kindOf_nm_jacketA (σ : SM) (v : Int32) : gm_pl_kindOf (sm_nm_jacketA σ v) = gm_pl_kindOf σ := rfl
theorem pm_pl_placeOf_nm_jacketA (σ : SM) (v : Int32) : gm_pl_placeOf (sm_nm_jacketA σ v) = gm_pl_placeOf σ := rfl
theorem pm_pl_sizeOf_nm_jacketA (σ : SM) (v : Int32) : gm_pl_sizeOf (sm_nm_jacketA σ v) = gm_pl_sizeOf σ := rfl
theorem pm_pl_clothOf_nm_jacketA (σ : SM) (v : Int32) : gm_pl_clothOf (sm_nm_jacketA σ v) = gm_pl_clothOf σ := rfl
theorem pm_pl_giggleOf_nm_jacketA (σ : SM) (v : Int32) : gm_pl_giggleOf (sm_nm_jacketA σ v) = gm_pl_giggleOf σ := rfl
theorem pm_nm_unsure_nm_jacketA (σ : SM) (v : Int32) : gm_nm_unsure (sm_nm_jacketA σ v) = gm_nm_unsure σ := rfl
theorem pm_nm_clothRight_nm_jacketA (σ : SM) (v : Int32) : gm_nm_clothRight (sm_nm_jacketA σ v) = gm_nm_clothRight σ := rfl
theorem pm_nm_giggleRight_nm_jacketA (σ : SM) (v : Int32) : gm_nm_giggleRight (sm_nm_jacketA σ v) = gm_nm_giggleRight σ := rfl
theorem pm_nm_jacketA_nm_jacketA (σ : SM) (v : Int32) : gm_nm_jacketA (sm_nm_jacketA σ v) = v := rfl
theorem pm_nm_jacketB_nm_jacketA (σ : SM) (v : Int32) : gm_nm_jacketB (sm_nm_jacketA σ v) = gm_nm_jacketB σ := rfl
theorem pm_nm_jacketTenths_nm_jacketA (σ : SM) (v : Int32) : gm_nm_jacketTenths (sm_nm_jacketA σ v) = gm_nm_jacketTenths σ := rfl
theorem pm_nm_asks_nm_jacketA (σ : SM) (v : Int32) : gm_nm_asks (sm_nm_jacketA σ v) = gm_nm_asks σ := rfl
theorem pm_pg_pageLength_nm_jacketA (σ : SM) (v : Int32) : gm_pg_pageLength (sm_nm_jacketA σ v) = gm_pg_pageLength σ := rfl
theorem pm_pg_page_nm_jacketA (σ : SM) (v : Int32) : gm_pg_page (sm_nm_jacketA σ v) = gm_pg_page σ := rfl
theorem pm_kp_isKept_nm_jacketA (σ : SM) (v : Int32) : gm_kp_isKept (sm_nm_jacketA σ v) = gm_kp_isKept σ := rfl
theorem pm_kp_keptRing_nm_jacketA (σ : SM) (v : Int32) : gm_kp_keptRing (sm_nm_jacketA σ v) = gm_kp_keptRing σ := rfl
theorem pm_kp_keptPlayers_nm_jacketA (σ : SM) (v : Int32) : gm_kp_keptPlayers (sm_nm_jacketA σ v) = gm_kp_keptPlayers σ := rfl
theorem pm_kp_keptUpdates_nm_jacketA (σ : SM) (v : Int32) : gm_kp_keptUpdates (sm_nm_jacketA σ v) = gm_kp_keptUpdates σ := rfl
theorem pm_kp_keptA_nm_jacketA (σ : SM) (v : Int32) : gm_kp_keptA (sm_nm_jacketA σ v) = gm_kp_keptA σ := rfl
theorem pm_kp_keptB_nm_jacketA (σ : SM) (v : Int32) : gm_kp_keptB (sm_nm_jacketA σ v) = gm_kp_keptB σ := rfl
theorem pm_kp_keptTenths_nm_jacketA (σ : SM) (v : Int32) : gm_kp_keptTenths (sm_nm_jacketA σ v) = gm_kp_keptTenths σ := rfl
theorem pm_kp_keptWeight_nm_jacketA (σ : SM) (v : Int32) : gm_kp_keptWeight (sm_nm_jacketA σ v) = gm_kp_keptWeight σ := rfl
theorem pm_kp_keptPlace_nm_jacketA (σ : SM) (v : Int32) : gm_kp_keptPlace (sm_nm_jacketA σ v) = gm_kp_keptPlace σ := rfl
theorem pm_rp_faultAt_nm_jacketA (σ : SM) (v : Int32) : gm_rp_faultAt (sm_nm_jacketA σ v) = gm_rp_faultAt σ := rfl
theorem pm_rp_isWhole_nm_jacketA (σ : SM) (v : Int32) : gm_rp_isWhole (sm_nm_jacketA σ v) = gm_rp_isWhole σ := rfl
theorem pm_rp_newRows_nm_jacketA (σ : SM) (v : Int32) : gm_rp_newRows (sm_nm_jacketA σ v) = gm_rp_newRows σ := rfl
theorem pm_rp_newColumns_nm_jacketA (σ : SM) (v : Int32) : gm_rp_newColumns (sm_nm_jacketA σ v) = gm_rp_newColumns σ := rfl
theorem pm_rp_newCell_nm_jacketA (σ : SM) (v : Int32) : gm_rp_newCell (sm_nm_jacketA σ v) = gm_rp_newCell σ := rfl
theorem pm_rp_gonePost_nm_jacketA (σ : SM) (v : Int32) : gm_rp_gonePost (sm_nm_jacketA σ v) = gm_rp_gonePost σ := rfl
theorem pm_gm_his_nm_jacketA (σ : SM) (v : Int32) : gm_gm_his (sm_nm_jacketA σ v) = gm_gm_his σ := rfl
theorem pm_gm_looks_nm_jacketA (σ : SM) (v : Int32) : gm_gm_looks (sm_nm_jacketA σ v) = gm_gm_looks σ := rfl
theorem pm_gm_seedNow_nm_jacketA (σ : SM) (v : Int32) : gm_gm_seedNow (sm_nm_jacketA σ v) = gm_gm_seedNow σ := rfl
theorem pm_gm_place_nm_jacketA (σ : SM) (v : Int32) : gm_gm_place (sm_nm_jacketA σ v) = gm_gm_place σ := rfl
theorem pm_gm_touched_nm_jacketA (σ : SM) (v : Int32) : gm_gm_touched (sm_nm_jacketA σ v) = gm_gm_touched σ := rfl
theorem pm_gm_touchedAt_nm_jacketA (σ : SM) (v : Int32) : gm_gm_touchedAt (sm_nm_jacketA σ v) = gm_gm_touchedAt σ := rfl
theorem pm_gm_h_nm_jacketA (σ : SM) (v : Int32) : gm_gm_h (sm_nm_jacketA σ v) = gm_gm_h σ := rfl
theorem pm_rg_rows_nm_jacketB (σ : SM) (v : Int32) : gm_rg_rows (sm_nm_jacketB σ v) = gm_rg_rows σ := rfl
theorem pm_rg_columns_nm_jacketB (σ : SM) (v : Int32) : gm_rg_columns (sm_nm_jacketB σ v) = gm_rg_columns σ := rfl
theorem pm_rg_rings_nm_jacketB (σ : SM) (v : Int32) : gm_rg_rings (sm_nm_jacketB σ v) = gm_rg_rings σ := rfl
theorem pm_rg_cellOf_nm_jacketB (σ : SM) (v : Int32) : gm_rg_cellOf (sm_nm_jacketB σ v) = gm_rg_cellOf σ := rfl
theorem pm_od_weight_nm_jacketB (σ : SM) (v : Int32) : gm_od_weight (sm_nm_jacketB σ v) = gm_od_weight σ := rfl
theorem pm_od_then_nm_jacketB (σ : SM) (v : Int32) : gm_od_then (sm_nm_jacketB σ v) = gm_od_then σ := rfl
theorem pm_od_updates_nm_jacketB (σ : SM) (v : Int32) : gm_od_updates (sm_nm_jacketB σ v) = gm_od_updates σ := rfl
theorem pm_pl_players_nm_jacketB (σ : SM) (v : Int32) : gm_pl_players (sm_nm_jacketB σ v) = gm_pl_players σ := rfl
theorem pm_pl_kindOf_nm_jacketB (σ : SM) (v : Int32) : gm_pl_kindOf (sm_nm_jacketB σ v) = gm_pl_kindOf σ := rfl
theorem pm_pl_placeOf_nm_jacketB (σ : SM) (v : Int32) : gm_pl_placeOf (sm_nm_jacketB σ v) = gm_pl_placeOf σ := rfl
theorem pm_pl_sizeOf_nm_jacketB (σ : SM) (v : Int32) : gm_pl_sizeOf (sm_nm_jacketB σ v) = gm_pl_sizeOf σ := rfl
theorem pm_pl_clothOf_nm_jacketB (σ : SM) (v : Int32) : gm_pl_clothOf (sm_nm_jacketB σ v) = gm_pl_clothOf σ := rfl
theorem pm_pl_giggleOf_nm_jacketB (σ : SM) (v : Int32) : gm_pl_giggleOf (sm_nm_jacketB σ v) = gm_pl_giggleOf σ := rfl
theorem pm_nm_unsure_nm_jacketB (σ : SM) (v : Int32) : gm_nm_unsure (sm_nm_jacketB σ v) = gm_nm_unsure σ := rfl
theorem pm_nm_clothRight_nm_jacketB (σ : SM) (v : Int32) : gm_nm_clothRight (sm_nm_jacketB σ v) = gm_nm_clothRight σ := rfl
theorem pm_nm_giggleRight_nm_jacketB (σ : SM) (v : Int32) : gm_nm_giggleRight (sm_nm_jacketB σ v) = gm_nm_giggleRight σ := rfl
theorem pm_nm_jacketA_nm_jacketB (σ : SM) (v : Int32) : gm_nm_jacketA (sm_nm_jacketB σ v) = gm_nm_jacketA σ := rfl
theorem pm_nm_jacketB_nm_jacketB (σ : SM) (v : Int32) : gm_nm_jacketB (sm_nm_jacketB σ v) = v := rfl
theorem pm_nm_jacketTenths_nm_jacketB (σ : SM) (v : Int32) : gm_nm_jacketTenths (sm_nm_jacketB σ v) = gm_nm_jacketTenths σ := rfl
theorem pm_nm_asks_nm_jacketB (σ : SM) (v : Int32) : gm_nm_asks (sm_nm_jacketB σ v) = gm_nm_asks σ := rfl
theorem pm_pg_pageLength_nm_jacketB (σ : SM) (v : Int32) : gm_pg_pageLength (sm_nm_jacketB σ v) = gm_pg_pageLength σ := rfl
theorem pm_pg_page_nm_jacketB (σ : SM) (v : Int32) : gm_pg_page (sm_nm_jacketB σ v) = gm_pg_page σ := rfl
theorem pm_kp_isKept_nm_jacketB (σ : SM) (v : Int32) : gm_kp_isKept (sm_nm_jacketB σ v) = gm_kp_isKept σ := rfl
theorem pm_kp_keptRing_nm_jacketB (σ : SM) (v : Int32) : gm_kp_keptRing (sm_nm_jacketB σ v) = gm_kp_keptRing σ := rfl
theorem pm_kp_keptPlayers_nm_jacketB (σ : SM) (v : Int32) : gm_kp_keptPlayers (sm_nm_jacketB σ v) = gm_kp_keptPlayers σ := rfl
theorem pm_kp_keptUpdates_nm_jacketB (σ : SM) (v : Int32) : gm_kp_keptUpdates (sm_nm_jacketB σ v) = gm_kp_keptUpdates σ := rfl
theorem pm_kp_keptA_nm_jacketB (σ : SM) (v : Int32) : gm_kp_keptA (sm_nm_jacketB σ v) = gm_kp_keptA σ := rfl
theorem pm_kp_keptB_nm_jacketB (σ : SM) (v : Int32) : gm_kp_keptB (sm_nm_jacketB σ v) = gm_kp_keptB σ := rfl
theorem pm_kp_keptTenths_nm_jacketB (σ : SM) (v : Int32) : gm_kp_keptTenths (sm_nm_jacketB σ v) = gm_kp_keptTenths σ := rfl
theorem pm_kp_keptWeight_nm_jacketB (σ : SM) (v : Int32) : gm_kp_keptWeight (sm_nm_jacketB σ v) = gm_kp_keptWeight σ := rfl
theorem pm_kp_keptPlace_nm_jacketB (σ : SM) (v : Int32) : gm_kp_keptPlace (sm_nm_jacketB σ v) = gm_kp_keptPlace σ := rfl
theorem pm_rp_faultAt_nm_jacketB (σ : SM) (v : Int32) : gm_rp_faultAt (sm_nm_jacketB σ v) = gm_rp_faultAt σ := rfl
theorem pm_rp_isWhole_nm_jacketB (σ : SM) (v : Int32) : gm_rp_isWhole (sm_nm_jacketB σ v) = gm_rp_isWhole σ := rfl
theorem pm_rp_newRows_nm_jacketB (σ : SM) (v : Int32) : gm_rp_newRows (sm_nm_jacketB σ v) = gm_rp_newRows σ := rfl
theorem pm_rp_newColumns_nm_jacketB (σ : SM) (v : Int32) : gm_rp_newColumns (sm_nm_jacketB σ v) = gm_rp_newColumns σ := rfl
theorem pm_rp_newCell_nm_jacketB (σ : SM) (v : Int32) : gm_rp_newCell (sm_nm_jacketB σ v) = gm_rp_newCell σ := rfl
theorem pm_rp_gonePost_nm_jacketB (σ : SM) (v : Int32) : gm_rp_gonePost (sm_nm_jacketB σ v) = gm_rp_gonePost σ := rfl
theorem pm_gm_his_nm_jacketB (σ : SM) (v : Int32) : gm_gm_his (sm_nm_jacketB σ v) = gm_gm_his σ := rfl
theorem pm_gm_looks_nm_jacketB (σ : SM) (v : Int32) : gm_gm_looks (sm_nm_jacketB σ v) = gm_gm_looks σ := rfl
theorem pm_gm_seedNow_nm_jacketB (σ : SM) (v : Int32) : gm_gm_seedNow (sm_nm_jacketB σ v) = gm_gm_seedNow σ := rfl
theorem pm_gm_place_nm_jacketB (σ : SM) (v : Int32) : gm_gm_place (sm_nm_jacketB σ v) = gm_gm_place σ := rfl
theorem pm_gm_touched_nm_jacketB (σ : SM) (v : Int32) : gm_gm_touched (sm_nm_jacketB σ v) = gm_gm_touched σ := rfl
theorem pm_gm_touchedAt_nm_jacketB (σ : SM) (v : Int32) : gm_gm_touchedAt (sm_nm_jacketB σ v) = gm_gm_touchedAt σ := rfl
theorem pm_gm_h_nm_jacketB (σ : SM) (v : Int32) : gm_gm_h (sm_nm_jacketB σ v) = gm_gm_h σ := rfl
theorem pm_rg_rows_nm_jacketTenths (σ : SM) (v : Int32) : gm_rg_rows (sm_nm_jacketTenths σ v) = gm_rg_rows σ := rfl
theorem pm_rg_columns_nm_jacketTenths (σ : SM) (v : Int32) : gm_rg_columns (sm_nm_jacketTenths σ v) = gm_rg_columns σ := rfl
theorem pm_rg_rings_nm_jacketTenths (σ : SM) (v : Int32) : gm_rg_rings (sm_nm_jacketTenths σ v) = gm_rg_rings σ := rfl
theorem pm_rg_cellOf_nm_jacketTenths (σ : SM) (v : Int32) : gm_rg_cellOf (sm_nm_jacketTenths σ v) = gm_rg_cellOf σ := rfl
theorem pm_od_weight_nm_jacketTenths (σ : SM) (v : Int32) : gm_od_weight (sm_nm_jacketTenths σ v) = gm_od_weight σ := rfl
theorem pm_od_then_nm_jacketTenths (σ : SM) (v : Int32) : gm_od_then (sm_nm_jacketTenths σ v) = gm_od_then σ := rfl
theorem pm_od_updates_nm_jacketTenths (σ : SM) (v : Int32) : gm_od_updates (sm_nm_jacketTenths σ v) = gm_od_updates σ := rfl
theorem pm_pl_players_nm_jacketTenths (σ : SM) (v : Int32) : gm_pl_players (sm_nm_jacketTenths σ v) = gm_pl_players σ := rfl
theorem pm_pl_kindOf_nm_jacketTenths (σ : SM) (v : Int32) : gm_pl_kindOf (sm_nm_jacketTenths σ v) = gm_pl_kindOf σ := rfl
theorem pm_pl_placeOf_nm_jacketTenths (σ : SM) (v : Int32) : gm_pl_placeOf (sm_nm_jacketTenths σ v) = gm_pl_placeOf σ := rfl
theorem pm_pl_sizeOf_nm_jacketTenths (σ : SM) (v : Int32) : gm_pl_sizeOf (sm_nm_jacketTenths σ v) = gm_pl_sizeOf σ := rfl
theorem pm_pl_clothOf_nm_jacketTenths (σ : SM) (v : Int32) : gm_pl_clothOf (sm_nm_jacketTenths σ v) = gm_pl_clothOf σ := rfl
theorem pm_pl_giggleOf_nm_jacketTenths (σ : SM) (v : Int32) : gm_pl_giggleOf (sm_nm_jacketTenths σ v) = gm_pl_giggleOf σ := rfl
theorem pm_nm_unsure_nm_jacketTenths (σ : SM) (v : Int32) : gm_nm_unsure (sm_nm_jacketTenths σ v) = gm_nm_unsure σ := rfl
theorem pm_nm_clothRight_nm_jacketTenths (σ : SM) (v : Int32) : gm_nm_clothRight (sm_nm_jacketTenths σ v) = gm_nm_clothRight σ := rfl
theorem pm_nm_giggleRight_nm_jacketTenths (σ : SM) (v : Int32) : gm_nm_giggleRight (sm_nm_jacketTenths σ v) = gm_nm_giggleRight σ := rfl
theorem pm_nm_jacketA_nm_jacketTenths (σ : SM) (v : Int32) : gm_nm_jacketA (sm_nm_jacketTenths σ v) = gm_nm_jacketA σ := rfl
theorem pm_nm_jacketB_nm_jacketTenths (σ : SM) (v : Int32) : gm_nm_jacketB (sm_nm_jacketTenths σ v) = gm_nm_jacketB σ := rfl
theorem pm_nm_jacketTenths_nm_jacketTenths (σ : SM) (v : Int32) : gm_nm_jacketTenths (sm_nm_jacketTenths σ v) = v := rfl
theorem pm_nm_asks_nm_jacketTenths (σ : SM) (v : Int32) : gm_nm_asks (sm_nm_jacketTenths σ v) = gm_nm_asks σ := rfl
theorem pm_pg_pageLength_nm_jacketTenths (σ : SM) (v : Int32) : gm_pg_pageLength (sm_nm_jacketTenths σ v) = gm_pg_pageLength σ := rfl
theorem pm_pg_page_nm_jacketTenths (σ : SM) (v : Int32) : gm_pg_page (sm_nm_jacketTenths σ v) = gm_pg_page σ := rfl
theorem pm_kp_isKept_nm_jacketTenths (σ : SM) (v : Int32) : gm_kp_isKept (sm_nm_jacketTenths σ v) = gm_kp_isKept σ := rfl
theorem pm_kp_keptRing_nm_jacketTenths (σ : SM) (v : Int32) : gm_kp_keptRing (sm_nm_jacketTenths σ v) = gm_kp_keptRing σ := rfl
theorem pm_kp_keptPlayers_nm_jacketTenths (σ : SM) (v : Int32) : gm_kp_keptPlayers (sm_nm_jacketTenths σ v) = gm_kp_keptPlayers σ := rfl
theorem pm_kp_keptUpdates_nm_jacketTenths (σ : SM) (v : Int32) : gm_kp_keptUpdates (sm_nm_jacketTenths σ v) = gm_kp_keptUpdates σ := rfl
theorem pm_kp_keptA_nm_jacketTenths (σ : SM) (v : Int32) : gm_kp_keptA (sm_nm_jacketTenths σ v) = gm_kp_keptA σ := rfl
theorem pm_kp_keptB_nm_jacketTenths (σ : SM) (v : Int32) : gm_kp_keptB (sm_nm_jacketTenths σ v) = gm_kp_keptB σ := rfl
theorem pm_kp_keptTenths_nm_jacketTenths (σ : SM) (v : Int32) : gm_kp_keptTenths (sm_nm_jacketTenths σ v) = gm_kp_keptTenths σ := rfl
theorem pm_kp_keptWeight_nm_jacketTenths (σ : SM) (v : Int32) : gm_kp_keptWeight (sm_nm_jacketTenths σ v) = gm_kp_keptWeight σ := rfl
theorem pm_kp_keptPlace_nm_jacketTenths (σ : SM) (v : Int32) : gm_kp_keptPlace (sm_nm_jacketTenths σ v) = gm_kp_keptPlace σ := rfl
theorem pm_rp_faultAt_nm_jacketTenths (σ : SM) (v : Int32) : gm_rp_faultAt (sm_nm_jacketTenths σ v) = gm_rp_faultAt σ := rfl
theorem pm_rp_isWhole_nm_jacketTenths (σ : SM) (v : Int32) : gm_rp_isWhole (sm_nm_jacketTenths σ v) = gm_rp_isWhole σ := rfl
theorem pm_rp_newRows_nm_jacketTenths (σ : SM) (v : Int32) : gm_rp_newRows (sm_nm_jacketTenths σ v) = gm_rp_newRows σ := rfl
theorem pm_rp_newColumns_nm_jacketTenths (σ : SM) (v : Int32) : gm_rp_newColumns (sm_nm_jacketTenths σ v) = gm_rp_newColumns σ := rfl
theorem pm_rp_newCell_nm_jacketTenths (σ : SM) (v : Int32) : gm_rp_newCell (sm_nm_jacketTenths σ v) = gm_rp_newCell σ := rfl
theorem pm_rp_gonePost_nm_jacketTenths (σ : SM) (v : Int32) : gm_rp_gonePost (sm_nm_jacketTenths σ v) = gm_rp_gonePost σ := rfl
theorem pm_gm_his_nm_jacketTenths (σ : SM) (v : Int32) : gm_gm_his (sm_nm_jacketTenths σ v) = gm_gm_his σ := rfl
theorem pm_gm_looks_nm_jacketTenths (σ : SM) (v : Int32) : gm_gm_looks (sm_nm_jacketTenths σ v) = gm_gm_looks σ := rfl
theorem pm_gm_seedNow_nm_jacketTenths (σ : SM) (v : Int32) : gm_gm_seedNow (sm_nm_jacketTenths σ v) = gm_gm_seedNow σ := rfl
theorem pm_gm_place_nm_jacketTenths (σ : SM) (v : Int32) : gm_gm_place (sm_nm_jacketTenths σ v) = gm_gm_place σ := rfl
theorem pm_gm_touched_nm_jacketTenths (σ : SM) (v : Int32) : gm_gm_touched (sm_nm_jacketTenths σ v) = gm_gm_touched σ := rfl
theorem pm_gm_touchedAt_nm_jacketTenths (σ : SM) (v : Int32) : gm_gm_touchedAt (sm_nm_jacketTenths σ v) = gm_gm_touchedAt σ := rfl
theorem pm_gm_h_nm_jacketTenths (σ : SM) (v : Int32) : gm_gm_h (sm_nm_jacketTenths σ v) = gm_gm_h σ := rfl
theorem pm_rg_rows_nm_asks (σ : SM) (v : Int32) : gm_rg_rows (sm_nm_asks σ v) = gm_rg_rows σ := rfl
theorem pm_rg_columns_nm_asks (σ : SM) (v : Int32) : gm_rg_columns (sm_nm_asks σ v) = gm_rg_columns σ := rfl
theorem pm_rg_rings_nm_asks (σ : SM) (v : Int32) : gm_rg_rings (sm_nm_asks σ v) = gm_rg_rings σ := rfl
theorem pm_rg_cellOf_nm_asks (σ : SM) (v : Int32) : gm_rg_cellOf (sm_nm_asks σ v) = gm_rg_cellOf σ := rfl
theorem pm_od_weight_nm_asks (σ : SM) (v : Int32) : gm_od_weight (sm_nm_asks σ v) = gm_od_weight σ := rfl
theorem pm_od_then_nm_asks (σ : SM) (v : Int32) : gm_od_then (sm_nm_asks σ v) = gm_od_then σ := rfl
theorem pm_od_updates_nm_asks (σ : SM) (v : Int32) : gm_od_updates (sm_nm_asks σ v) = gm_od_updates σ := rfl
theorem pm_pl_players_nm_asks (σ : SM) (v : Int32) : gm_pl_players (sm_nm_asks σ v) = gm_pl_players σ := rfl
theorem pm_pl_kindOf_nm_asks (σ : SM) (v : Int32) : gm_pl_kindOf (sm_nm_asks σ v) = gm_pl_kindOf σ := rfl
theorem pm_pl_placeOf_nm_asks (σ : SM) (v : Int32) : gm_pl_placeOf (sm_nm_asks σ v) = gm_pl_placeOf σ := rfl
theorem pm_pl_sizeOf_nm_asks (σ : SM) (v : Int32) : gm_pl_sizeOf (sm_nm_asks σ v) = gm_pl_sizeOf σ := rfl
theorem pm_pl_clothOf_nm_asks (σ : SM) (v : Int32) : gm_pl_clothOf (sm_nm_asks σ v) = gm_pl_clothOf σ := rfl
theorem pm_pl_giggleOf_nm_asks (σ : SM) (v : Int32) : gm_pl_giggleOf (sm_nm_asks σ v) = gm_pl_giggleOf σ := rfl
theorem pm_nm_unsure_nm_asks (σ : SM) (v : Int32) : gm_nm_unsure (sm_nm_asks σ v) = gm_nm_unsure σ := rfl
theorem pm_nm_clothRight_nm_asks (σ : SM) (v : Int32) : gm_nm_clothRight (sm_nm_asks σ v) = gm_nm_clothRight σ := rfl
theorem pm_nm_giggleRight_nm_asks (σ : SM) (v : Int32) : gm_nm_giggleRight (sm_nm_asks σ v) = gm_nm_giggleRight σ := rfl
theorem pm_nm_jacketA_nm_asks (σ : SM) (v : Int32) : gm_nm_jacketA (sm_nm_asks σ v) = gm_nm_jacketA σ := rfl
theorem pm_nm_jacketB_nm_asks (σ : SM) (v : Int32) : gm_nm_jacketB (sm_nm_asks σ v) = gm_nm_jacketB σ := rfl
theorem pm_nm_jacketTenths_nm_asks (σ : SM) (v : Int32) : gm_nm_jacketTenths (sm_nm_asks σ v) = gm_nm_jacketTenths σ := rfl
theorem pm_nm_asks_nm_asks (σ : SM) (v : Int32) : gm_nm_asks (sm_nm_asks σ v) = v := rfl
theorem pm_pg_pageLength_nm_asks (σ : SM) (v : Int32) : gm_pg_pageLength (sm_nm_asks σ v) = gm_pg_pageLength σ := rfl
theorem pm_pg_page_nm_asks (σ : SM) (v : Int32) : gm_pg_page (sm_nm_asks σ v) = gm_pg_page σ := rfl
theorem pm_kp_isKept_nm_asks (σ : SM) (v : Int32) : gm_kp_isKept (sm_nm_asks σ v) = gm_kp_isKept σ := rfl
theorem pm_kp_keptRing_nm_asks (σ : SM) (v : Int32) : gm_kp_keptRing (sm_nm_asks σ v) = gm_kp_keptRing σ := rfl
theorem pm_kp_keptPlayers_nm_asks (σ : SM) (v : Int32) : gm_kp_keptPlayers (sm_nm_asks σ v) = gm_kp_keptPlayers σ := rfl
theorem pm_kp_keptUpdates_nm_asks (σ : SM) (v : Int32) : gm_kp_keptUpdates (sm_nm_asks σ v) = gm_kp_keptUpdates σ := rfl
theorem pm_kp_keptA_nm_asks (σ : SM) (v : Int32) : gm_kp_keptA (sm_nm_asks σ v) = gm_kp_keptA σ := rfl
theorem pm_kp_keptB_nm_asks (σ : SM) (v : Int32) : gm_kp_keptB (sm_nm_asks σ v) = gm_kp_keptB σ := rfl
theorem pm_kp_keptTenths_nm_asks (σ : SM) (v : Int32) : gm_kp_keptTenths (sm_nm_asks σ v) = gm_kp_keptTenths σ := rfl
theorem pm_kp_keptWeight_nm_asks (σ : SM) (v : Int32) : gm_kp_keptWeight (sm_nm_asks σ v) = gm_kp_keptWeight σ := rfl
theorem pm_kp_keptPlace_nm_asks (σ : SM) (v : Int32) : gm_kp_keptPlace (sm_nm_asks σ v) = gm_kp_keptPlace σ := rfl
theorem pm_rp_faultAt_nm_asks (σ : SM) (v : Int32) : gm_rp_faultAt (sm_nm_asks σ v) = gm_rp_faultAt σ := rfl
theorem pm_rp_isWhole_nm_asks (σ : SM) (v : Int32) : gm_rp_isWhole (sm_nm_asks σ v) = gm_rp_isWhole σ := rfl
theorem pm_rp_newRows_nm_asks (σ : SM) (v : Int32) : gm_rp_newRows (sm_nm_asks σ v) = gm_rp_newRows σ := rfl
theorem pm_rp_newColumns_nm_asks (σ : SM) (v : Int32) : gm_rp_newColumns (sm_nm_asks σ v) = gm_rp_newColumns σ := rfl
theorem pm_rp_newCell_nm_asks (σ : SM) (v : Int32) : gm_rp_newCell (sm_nm_asks σ v) = gm_rp_newCell σ := rfl
theorem pm_rp_gonePost_nm_asks (σ : SM) (v : Int32) : gm_rp_gonePost (sm_nm_asks σ v) = gm_rp_gonePost σ := rfl
theorem pm_gm_his_nm_asks (σ : SM) (v : Int32) : gm_gm_his (sm_nm_asks σ v) = gm_gm_his σ := rfl
theorem pm_gm_looks_nm_asks (σ : SM) (v : Int32) : gm_gm_looks (sm_nm_asks σ v) = gm_gm_looks σ := rfl
theorem pm_gm_seedNow_nm_asks (σ : SM) (v : Int32) : gm_gm_seedNow (sm_nm_asks σ v) = gm_gm_seedNow σ := rfl
theorem pm_gm_place_nm_asks (σ : SM) (v : Int32) : gm_gm_place (sm_nm_asks σ v) = gm_gm_place σ := rfl
theorem pm_gm_touched_nm_asks (σ : SM) (v : Int32) : gm_gm_touched (sm_nm_asks σ v) = gm_gm_touched σ := rfl
theorem pm_gm_touchedAt_nm_asks (σ : SM) (v : Int32) : gm_gm_touchedAt (sm_nm_asks σ v) = gm_gm_touchedAt σ := rfl
theorem pm_gm_h_nm_asks (σ : SM) (v : Int32) : gm_gm_h (sm_nm_asks σ v) = gm_gm_h σ := rfl
theorem pm_rg_rows_pg_pageLength (σ : SM) (v : Int32) : gm_rg_rows (sm_pg_pageLength σ v) = gm_rg_rows σ := rfl
theorem pm_rg_columns_pg_pageLength (σ : SM) (v : Int32) : gm_rg_columns (sm_pg_pageLength σ v) = gm_rg_columns σ := rfl
theorem pm_rg_rings_pg_pageLength (σ : SM) (v : Int32) : gm_rg_rings (sm_pg_pageLength σ v) = gm_rg_rings σ := rfl
theorem pm_rg_cellOf_pg_pageLength (σ : SM) (v : Int32) : gm_rg_cellOf (sm_pg_pageLength σ v) = gm_rg_cellOf σ := rfl
theorem pm_od_weight_pg_pageLength (σ : SM) (v : Int32) : gm_od_weight (sm_pg_pageLength σ v) = gm_od_weight σ := rfl
theorem pm_od_then_pg_pageLength (σ : SM) (v : Int32) : gm_od_then (sm_pg_pageLength σ v) = gm_od_then σ := rfl
theorem pm_od_updates_pg_pageLength (σ : SM) (v : Int32) : gm_od_updates (sm_pg_pageLength σ v) = gm_od_updates σ := rfl
theorem pm_pl_players_pg_pageLength (σ : SM) (v : Int32) : gm_pl_players (sm_pg_pageLength σ v) = gm_pl_players σ := rfl
theorem pm_pl_kindOf_pg_pageLength (σ : SM) (v : Int32) : gm_pl_kindOf (sm_pg_pageLength σ v) = gm_pl_kindOf σ := rfl
theorem pm_pl_placeOf_pg_pageLength (σ : SM) (v : Int32) : gm_pl_placeOf (sm_pg_pageLength σ v) = gm_pl_placeOf σ := rfl
theorem pm_pl_sizeOf_pg_pageLength (σ : SM) (v : Int32) : gm_pl_sizeOf (sm_pg_pageLength σ v) = gm_pl_sizeOf σ := rfl
theorem pm_pl_clothOf_pg_pageLength (σ : SM) (v : Int32) : gm_pl_clothOf (sm_pg_pageLength σ v) = gm_pl_clothOf σ := rfl
theorem pm_pl_giggleOf_pg_pageLength (σ : SM) (v : Int32) : gm_pl_giggleOf (sm_pg_pageLength σ v) = gm_pl_giggleOf σ := rfl
theorem pm_nm_unsure_pg_pageLength (σ : SM) (v : Int32) : gm_nm_unsure (sm_pg_pageLength σ v) = gm_nm_unsure σ := rfl
theorem pm_nm_clothRight_pg_pageLength (σ : SM) (v : Int32) : gm_nm_clothRight (sm_pg_pageLength σ v) = gm_nm_clothRight σ := rfl
theorem pm_nm_giggleRight_pg_pageLength (σ : SM) (v : Int32) : gm_nm_giggleRight (sm_pg_pageLength σ v) = gm_nm_giggleRight σ := rfl
theorem pm_nm_jacketA_pg_pageLength (σ : SM) (v : Int32) : gm_nm_jacketA (sm_pg_pageLength σ v) = gm_nm_jacketA σ := rfl
theorem pm_nm_jacketB_pg_pageLength (σ : SM) (v : Int32) : gm_nm_jacketB (sm_pg_pageLength σ v) = gm_nm_jacketB σ := rfl
theorem pm_nm_jacketTenths_pg_pageLength (σ : SM) (v : Int32) : gm_nm_jacketTenths (sm_pg_pageLength σ v) = gm_nm_jacketTenths σ := rfl
theorem pm_nm_asks_pg_pageLength (σ : SM) (v : Int32) : gm_nm_asks (sm_pg_pageLength σ v) = gm_nm_asks σ := rfl
theorem pm_pg_pageLength_pg_pageLength (σ : SM) (v : Int32) : gm_pg_pageLength (sm_pg_pageLength σ v) = v := rfl
theorem pm_pg_page_pg_pageLength (σ : SM) (v : Int32) : gm_pg_page (sm_pg_pageLength σ v) = gm_pg_page σ := rfl
theorem pm_kp_isKept_pg_pageLength (σ : SM) (v : Int32) : gm_kp_isKept (sm_pg_pageLength σ v) = gm_kp_isKept σ := rfl
theorem pm_kp_keptRing_pg_pageLength (σ : SM) (v : Int32) : gm_kp_keptRing (sm_pg_pageLength σ v) = gm_kp_keptRing σ := rfl
theorem pm_kp_keptPlayers_pg_pageLength (σ : SM) (v : Int32) : gm_kp_keptPlayers (sm_pg_pageLength σ v) = gm_kp_keptPlayers σ := rfl
theorem pm_kp_keptUpdates_pg_pageLength (σ : SM) (v : Int32) : gm_kp_keptUpdates (sm_pg_pageLength σ v) = gm_kp_keptUpdates σ := rfl
theorem pm_kp_keptA_pg_pageLength (σ : SM) (v : Int32) : gm_kp_keptA (sm_pg_pageLength σ v) = gm_kp_keptA σ := rfl
theorem pm_kp_keptB_pg_pageLength (σ : SM) (v : Int32) : gm_kp_keptB (sm_pg_pageLength σ v) = gm_kp_keptB σ := rfl
theorem pm_kp_keptTenths_pg_pageLength (σ : SM) (v : Int32) : gm_kp_keptTenths (sm_pg_pageLength σ v) = gm_kp_keptTenths σ := rfl
theorem pm_kp_keptWeight_pg_pageLength (σ : SM) (v : Int32) : gm_kp_keptWeight (sm_pg_pageLength σ v) = gm_kp_keptWeight σ := rfl
theorem pm_kp_keptPlace_pg_pageLength (σ : SM) (v : Int32) : gm_kp_keptPlace (sm_pg_pageLength σ v) = gm_kp_keptPlace σ := rfl
theorem pm_rp_faultAt_pg_pageLength (σ : SM) (v : Int32) : gm_rp_faultAt (sm_pg_pageLength σ v) = gm_rp_faultAt σ := rfl
theorem pm_rp_isWhole_pg_pageLength (σ : SM) (v : Int32) : gm_rp_isWhole (sm_pg_pageLength σ v) = gm_rp_isWhole σ := rfl
theorem pm_rp_newRows_pg_pageLength (σ : SM) (v : Int32) : gm_rp_newRows (sm_pg_pageLength σ v) = gm_rp_newRows σ := rfl
theorem pm_rp_newColumns_pg_pageLength (σ : SM) (v : Int32) : gm_rp_newColumns (sm_pg_pageLength σ v) = gm_rp_newColumns σ := rfl
theorem pm_rp_newCell_pg_pageLength (σ : SM) (v : Int32) : gm_rp_newCell (sm_pg_pageLength σ v) = gm_rp_newCell σ := rfl
theorem pm_rp_gonePost_pg_pageLength (σ : SM) (v : Int32) : gm_rp_gonePost (sm_pg_pageLength σ v) = gm_rp_gonePost σ := rfl
theorem pm_gm_his_pg_pageLength (σ : SM) (v : Int32) : gm_gm_his (sm_pg_pageLength σ v) = gm_gm_his σ := rfl
theorem pm_gm_looks_pg_pageLength (σ : SM) (v : Int32) : gm_gm_looks (sm_pg_pageLength σ v) = gm_gm_looks σ := rfl
theorem pm_gm_seedNow_pg_pageLength (σ : SM) (v : Int32) : gm_gm_seedNow (sm_pg_pageLength σ v) = gm_gm_seedNow σ := rfl
theorem pm_gm_place_pg_pageLength (σ : SM) (v : Int32) : gm_gm_place (sm_pg_pageLength σ v) = gm_gm_place σ := rfl
theorem pm_gm_touched_pg_pageLength (σ : SM) (v : Int32) : gm_gm_touched (sm_pg_pageLength σ v) = gm_gm_touched σ := rfl
theorem pm_gm_touchedAt_pg_pageLength (σ : SM) (v : Int32) : gm_gm_touchedAt (sm_pg_pageLength σ v) = gm_gm_touchedAt σ := rfl
theorem pm_gm_h_pg_pageLength (σ : SM) (v : Int32) : gm_gm_h (sm_pg_pageLength σ v) = gm_gm_h σ := rfl
theorem pm_rg_rows_pg_page (σ : SM) (v : Nat → Int32) : gm_rg_rows (sm_pg_page σ v) = gm_rg_rows σ := rfl
theorem pm_rg_columns_pg_page (σ : SM) (v : Nat → Int32) : gm_rg_columns (sm_pg_page σ v) = gm_rg_columns σ := rfl
theorem pm_rg_rings_pg_page (σ : SM) (v : Nat → Int32) : gm_rg_rings (sm_pg_page σ v) = gm_rg_rings σ := rfl
theorem pm_rg_cellOf_pg_page (σ : SM) (v : Nat → Int32) : gm_rg_cellOf (sm_pg_page σ v) = gm_rg_cellOf σ := rfl
theorem pm_od_weight_pg_page (σ : SM) (v : Nat → Int32) : gm_od_weight (sm_pg_page σ v) = gm_od_weight σ := rfl
theorem pm_od_then_pg_page (σ : SM) (v : Nat → Int32) : gm_od_then (sm_pg_page σ v) = gm_od_then σ := rfl
theorem pm_od_updates_pg_page (σ : SM) (v : Nat → Int32) : gm_od_updates (sm_pg_page σ v) = gm_od_updates σ := rfl
theorem pm_pl_players_pg_page (σ : SM) (v : Nat → Int32) : gm_pl_players (sm_pg_page σ v) = gm_pl_players σ := rfl
theorem pm_pl_kindOf_pg_page (σ : SM) (v : Nat → Int32) : gm_pl_kindOf (sm_pg_page σ v) = gm_pl_kindOf σ := rfl
theorem pm_pl_placeOf_pg_page (σ : SM) (v : Nat → Int32) : gm_pl_placeOf (sm_pg_page σ v) = gm_pl_placeOf σ := rfl
theorem pm_pl_sizeOf_pg_page (σ : SM) (v : Nat → Int32) : gm_pl_sizeOf (sm_pg_page σ v) = gm_pl_sizeOf σ := rfl
theorem pm_pl_clothOf_pg_page (σ : SM) (v : Nat → Int32) : gm_pl_clothOf (sm_pg_page σ v) = gm_pl_clothOf σ := rfl
theorem pm_pl_giggleOf_pg_page (σ : SM) (v : Nat → Int32) : gm_pl_giggleOf (sm_pg_page σ v) = gm_pl_giggleOf σ := rfl
theorem pm_nm_unsure_pg_page (σ : SM) (v : Nat → Int32) : gm_nm_unsure (sm_pg_page σ v) = gm_nm_unsure σ := rfl
theorem pm_nm_clothRight_pg_page (σ : SM) (v : Nat → Int32) : gm_nm_clothRight (sm_pg_page σ v) = gm_nm_clothRight σ := rfl
theorem pm_nm_giggleRight_pg_page (σ : SM) (v : Nat → Int32) : gm_nm_giggleRight (sm_pg_page σ v) = gm_nm_giggleRight σ := rfl
theorem pm_nm_jacketA_pg_page (σ : SM) (v : Nat → Int32) : gm_nm_jacketA (sm_pg_page σ v) = gm_nm_jacketA σ := rfl
theorem pm_nm_jacketB_pg_page (σ : SM) (v : Nat → Int32) : gm_nm_jacketB (sm_pg_page σ v) = gm_nm_jacketB σ := rfl
theorem pm_nm_jacketTenths_pg_page (σ : SM) (v : Nat → Int32) : gm_nm_jacketTenths (sm_pg_page σ v) = gm_nm_jacketTenths σ := rfl
theorem pm_nm_asks_pg_page (σ : SM) (v : Nat → Int32) : gm_nm_asks (sm_pg_page σ v) = gm_nm_asks σ := rfl
theorem pm_pg_pageLength_pg_page (σ : SM) (v : Nat → Int32) : gm_pg_pageLength (sm_pg_page σ v) = gm_pg_pageLength σ := rfl
theorem pm_pg_page_pg_page (σ : SM) (v : Nat → Int32) : gm_pg_page (sm_pg_page σ v) = v := rfl
theorem pm_kp_isKept_pg_page (σ : SM) (v : Nat → Int32) : gm_kp_isKept (sm_pg_page σ v) = gm_kp_isKept σ := rfl
theorem pm_kp_keptRing_pg_page (σ : SM) (v : Nat → Int32) : gm_kp_keptRing (sm_pg_page σ v) = gm_kp_keptRing σ := rfl
theorem pm_kp_keptPlayers_pg_page (σ : SM) (v : Nat → Int32) : gm_kp_keptPlayers (sm_pg_page σ v) = gm_kp_keptPlayers σ := rfl
theorem pm_kp_keptUpdates_pg_page (σ : SM) (v : Nat → Int32) : gm_kp_keptUpdates (sm_pg_page σ v) = gm_kp_keptUpdates σ := rfl
theorem pm_kp_keptA_pg_page (σ : SM) (v : Nat → Int32) : gm_kp_keptA (sm_pg_page σ v) = gm_kp_keptA σ := rfl
theorem pm_kp_keptB_pg_page (σ : SM) (v : Nat → Int32) : gm_kp_keptB (sm_pg_page σ v) = gm_kp_keptB σ := rfl
theorem pm_kp_keptTenths_pg_page (σ : SM) (v : Nat → Int32) : gm_kp_keptTenths (sm_pg_page σ v) = gm_kp_keptTenths σ := rfl
theorem pm_kp_keptWeight_pg_page (σ : SM) (v : Nat → Int32) : gm_kp_keptWeight (sm_pg_page σ v) = gm_kp_keptWeight σ := rfl
theorem pm_kp_keptPlace_pg_page (σ : SM) (v : Nat → Int32) : gm_kp_keptPlace (sm_pg_page σ v) = gm_kp_keptPlace σ := rfl
theorem pm_rp_faultAt_pg_page (σ : SM) (v : Nat → Int32) : gm_rp_faultAt (sm_pg_page σ v) = gm_rp_faultAt σ := rfl
theorem pm_rp_isWhole_pg_page (σ : SM) (v : Nat → Int32) : gm_rp_isWhole (sm_pg_page σ v) = gm_rp_isWhole σ := rfl
theorem pm_rp_newRows_pg_page (σ : SM) (v : Nat → Int32) : gm_rp_newRows (sm_pg_page σ v) = gm_rp_newRows σ := rfl
theorem pm_rp_newColumns_pg_page (σ : SM) (v : Nat → Int32) : gm_rp_newColumns (sm_pg_page σ v) = gm_rp_newColumns σ := rfl
theorem pm_rp_newCell_pg_page (σ : SM) (v : Nat → Int32) : gm_rp_newCell (sm_pg_page σ v) = gm_rp_newCell σ := rfl
theorem pm_rp_gonePost_pg_page (σ : SM) (v : Nat → Int32) : gm_rp_gonePost (sm_pg_page σ v) = gm_rp_gonePost σ := rfl
theorem pm_gm_his_pg_page (σ : SM) (v : Nat → Int32) : gm_gm_his (sm_pg_page σ v) = gm_gm_his σ := rfl
theorem pm_gm_looks_pg_page (σ : SM) (v : Nat → Int32) : gm_gm_looks (sm_pg_page σ v) = gm_gm_looks σ := rfl
theorem pm_gm_seedNow_pg_page (σ : SM) (v : Nat → Int32) : gm_gm_seedNow (sm_pg_page σ v) = gm_gm_seedNow σ := rfl
theorem pm_gm_place_pg_page (σ : SM) (v : Nat → Int32) : gm_gm_place (sm_pg_page σ v) = gm_gm_place σ := rfl
theorem pm_gm_touched_pg_page (σ : SM) (v : Nat → Int32) : gm_gm_touched (sm_pg_page σ v) = gm_gm_touched σ := rfl
theorem pm_gm_touchedAt_pg_page (σ : SM) (v : Nat → Int32) : gm_gm_touchedAt (sm_pg_page σ v) = gm_gm_touchedAt σ := rfl
theorem pm_gm_h_pg_page (σ : SM) (v : Nat → Int32) : gm_gm_h (sm_pg_page σ v) = gm_gm_h σ := rfl
theorem pm_rg_rows_kp_isKept (σ : SM) (v : Int32) : gm_rg_rows (sm_kp_isKept σ v) = gm_rg_rows σ := rfl
theorem pm_rg_columns_kp_isKept (σ : SM) (v : Int32) : gm_rg_columns (sm_kp_isKept σ v) = gm_rg_columns σ := rfl
theorem pm_rg_rings_kp_isKept (σ : SM) (v : Int32) : gm_rg_rings (sm_kp_isKept σ v) = gm_rg_rings σ := rfl
theorem pm_rg_cellOf_kp_isKept (σ : SM) (v : Int32) : gm_rg_cellOf (sm_kp_isKept σ v) = gm_rg_cellOf σ := rfl
theorem pm_od_weight_kp_isKept (σ : SM) (v : Int32) : gm_od_weight (sm_kp_isKept σ v) = gm_od_weight σ := rfl
theorem pm_od_then_kp_isKept (σ : SM) (v : Int32) : gm_od_then (sm_kp_isKept σ v) = gm_od_then σ := rfl
theorem pm_od_updates_kp_isKept (σ : SM) (v : Int32) : gm_od_updates (sm_kp_isKept σ v) = gm_od_updates σ := rfl
theorem pm_pl_players_kp_isKept (σ : SM) (v : Int32) : gm_pl_players (sm_kp_isKept σ v) = gm_pl_players σ := rfl
theorem pm_pl_kindOf_kp_isKept (σ : SM) (v : Int32) : gm_pl_kindOf (sm_kp_isKept σ v) = gm_pl_kindOf σ := rfl
theorem pm_pl_placeOf_kp_isKept (σ : SM) (v : Int32) : gm_pl_placeOf (sm_kp_isKept σ v) = gm_pl_placeOf σ := rfl
theorem pm_pl_sizeOf_kp_isKept (σ : SM) (v : Int32) : gm_pl_sizeOf (sm_kp_isKept σ v) = gm_pl_sizeOf σ := rfl
theorem pm_pl_clothOf_kp_isKept (σ : SM) (v : Int32) : gm_pl_clothOf (sm_kp_isKept σ v) = gm_pl_clothOf σ := rfl
theorem pm_pl_giggleOf_kp_isKept (σ : SM) (v : Int32) : gm_pl_giggleOf (sm_kp_isKept σ v) = gm_pl_giggleOf σ := rfl
theorem pm_nm_unsure_kp_isKept (σ : SM) (v : Int32) : gm_nm_unsure (sm_kp_isKept σ v) = gm_nm_unsure σ := rfl
theorem pm_nm_clothRight_kp_isKept (σ : SM) (v : Int32) : gm_nm_clothRight (sm_kp_isKept σ v) = gm_nm_clothRight σ := rfl
theorem pm_nm_giggleRight_kp_isKept (σ : SM) (v : Int32) : gm_nm_giggleRight (sm_kp_isKept σ v) = gm_nm_giggleRight σ := rfl
theorem pm_nm_jacketA_kp_isKept (σ : SM) (v : Int32) : gm_nm_jacketA (sm_kp_isKept σ v) = gm_nm_jacketA σ := rfl
theorem pm_nm_jacketB_kp_isKept (σ : SM) (v : Int32) : gm_nm_jacketB (sm_kp_isKept σ v) = gm_nm_jacketB σ := rfl
theorem pm_nm_jacketTenths_kp_isKept (σ : SM) (v : Int32) : gm_nm_jacketTenths (sm_kp_isKept σ v) = gm_nm_jacketTenths σ := rfl
theorem pm_nm_asks_kp_isKept (σ : SM) (v : Int32) : gm_nm_asks (sm_kp_isKept σ v) = gm_nm_asks σ := rfl
theorem pm_pg_pageLength_kp_isKept (σ : SM) (v : Int32) : gm_pg_pageLength (sm_kp_isKept σ v) = gm_pg_pageLength σ := rfl
theorem pm_pg_page_kp_isKept (σ : SM) (v : Int32) : gm_pg_page (sm_kp_isKept σ v) = gm_pg_page σ := rfl
theorem pm_kp_isKept_kp_isKept (σ : SM) (v : Int32) : gm_kp_isKept (sm_kp_isKept σ v) = v := rfl
theorem pm_kp_keptRing_kp_isKept (σ : SM) (v : Int32) : gm_kp_keptRing (sm_kp_isKept σ v) = gm_kp_keptRing σ := rfl
theorem pm_kp_keptPlayers_kp_isKept (σ : SM) (v : Int32) : gm_kp_keptPlayers (sm_kp_isKept σ v) = gm_kp_keptPlayers σ := rfl
theorem pm_kp_keptUpdates_kp_isKept (σ : SM) (v : Int32) : gm_kp_keptUpdates (sm_kp_isKept σ v) = gm_kp_keptUpdates σ := rfl
theorem pm_kp_keptA_kp_isKept (σ : SM) (v : Int32) : gm_kp_keptA (sm_kp_isKept σ v) = gm_kp_keptA σ := rfl
theorem pm_kp_keptB_kp_isKept (σ : SM) (v : Int32) : gm_kp_keptB (sm_kp_isKept σ v) = gm_kp_keptB σ := rfl
theorem pm_kp_keptTenths_kp_isKept (σ : SM) (v : Int32) : gm_kp_keptTenths (sm_kp_isKept σ v) = gm_kp_keptTenths σ := rfl
theorem pm_kp_keptWeight_kp_isKept (σ : SM) (v : Int32) : gm_kp_keptWeight (sm_kp_isKept σ v) = gm_kp_keptWeight σ := rfl
theorem pm_kp_keptPlace_kp_isKept (σ : SM) (v : Int32) : gm_kp_keptPlace (sm_kp_isKept σ v) = gm_kp_keptPlace σ := rfl
theorem pm_rp_faultAt_kp_isKept (σ : SM) (v : Int32) : gm_rp_faultAt (sm_kp_isKept σ v) = gm_rp_faultAt σ := rfl
theorem pm_rp_isWhole_kp_isKept (σ : SM) (v : Int32) : gm_rp_isWhole (sm_kp_isKept σ v) = gm_rp_isWhole σ := rfl
theorem pm_rp_newRows_kp_isKept (σ : SM) (v : Int32) : gm_rp_newRows (sm_kp_isKept σ v) = gm_rp_newRows σ := rfl
theorem pm_rp_newColumns_kp_isKept (σ : SM) (v : Int32) : gm_rp_newColumns (sm_kp_isKept σ v) = gm_rp_newColumns σ := rfl
theorem pm_rp_newCell_kp_isKept (σ : SM) (v : Int32) : gm_rp_newCell (sm_kp_isKept σ v) = gm_rp_newCell σ := rfl
theorem pm_rp_gonePost_kp_isKept (σ : SM) (v : Int32) : gm_rp_gonePost (sm_kp_isKept σ v) = gm_rp_gonePost σ := rfl
theorem pm_gm_his_kp_isKept (σ : SM) (v : Int32) : gm_gm_his (sm_kp_isKept σ v) = gm_gm_his σ := rfl
theorem pm_gm_looks_kp_isKept (σ : SM) (v : Int32) : gm_gm_looks (sm_kp_isKept σ v) = gm_gm_looks σ := rfl
theorem pm_gm_seedNow_kp_isKept (σ : SM) (v : Int32) : gm_gm_seedNow (sm_kp_isKept σ v) = gm_gm_seedNow σ := rfl
theorem pm_gm_place_kp_isKept (σ : SM) (v : Int32) : gm_gm_place (sm_kp_isKept σ v) = gm_gm_place σ := rfl
theorem pm_gm_touched_kp_isKept (σ : SM) (v : Int32) : gm_gm_touched (sm_kp_isKept σ v) = gm_gm_touched σ := rfl
theorem pm_gm_touchedAt_kp_isKept (σ : SM) (v : Int32) : gm_gm_touchedAt (sm_kp_isKept σ v) = gm_gm_touchedAt σ := rfl
theorem pm_gm_h_kp_isKept (σ : SM) (v : Int32) : gm_gm_h (sm_kp_isKept σ v) = gm_gm_h σ := rfl
theorem pm_rg_rows_kp_keptRing (σ : SM) (v : Int32) : gm_rg_rows (sm_kp_keptRing σ v) = gm_rg_rows σ := rfl
theorem pm_rg_columns_kp_keptRing (σ : SM) (v : Int32) : gm_rg_columns (sm_kp_keptRing σ v) = gm_rg_columns σ := rfl
theorem pm_rg_rings_kp_keptRing (σ : SM) (v : Int32) : gm_rg_rings (sm_kp_keptRing σ v) = gm_rg_rings σ := rfl
theorem pm_rg_cellOf_kp_keptRing (σ : SM) (v : Int32) : gm_rg_cellOf (sm_kp_keptRing σ v) = gm_rg_cellOf σ := rfl
theorem pm_od_weight_kp_keptRing (σ : SM) (v : Int32) : gm_od_weight (sm_kp_keptRing σ v) = gm_od_weight σ := rfl
theorem pm_od_then_kp_keptRing (σ : SM) (v : Int32) : gm_od_then (sm_kp_keptRing σ v) = gm_od_then σ := rfl
theorem pm_od_updates_kp_keptRing (σ : SM) (v : Int32) : gm_od_updates (sm_kp_keptRing σ v) = gm_od_updates σ := rfl
theorem pm_pl_players_kp_keptRing (σ : SM) (v : Int32) : gm_pl_players (sm_kp_keptRing σ v) = gm_pl_players σ := rfl
theorem pm_pl_kindOf_kp_keptRing (σ : SM) (v : Int32) : gm_pl_kindOf (sm_kp_keptRing σ v) = gm_pl_kindOf σ := rfl
theorem pm_pl_placeOf_kp_keptRing (σ : SM) (v : Int32) : gm_pl_placeOf (sm_kp_keptRing σ v) = gm_pl_placeOf σ := rfl
theorem pm_pl_sizeOf_kp_keptRing (σ : SM) (v : Int32) : gm_pl_sizeOf (sm_kp_keptRing σ v) = gm_pl_sizeOf σ := rfl
theorem pm_pl_clothOf_kp_keptRing (σ : SM) (v : Int32) : gm_pl_clothOf (sm_kp_keptRing σ v) = gm_pl_clothOf σ := rfl
theorem pm_pl_giggleOf_kp_keptRing (σ : SM) (v : Int32) : gm_pl_giggleOf (sm_kp_keptRing σ v) = gm_pl_giggleOf σ := rfl
theorem pm_nm_unsure_kp_keptRing (σ : SM) (v : Int32) : gm_nm_unsure (sm_kp_keptRing σ v) = gm_nm_unsure σ := rfl
theorem pm_nm_clothRight_kp_keptRing (σ : SM) (v : Int32) : gm_nm_clothRight (sm_kp_keptRing σ v) = gm_nm_clothRight σ := rfl
theorem pm_nm_giggleRight_kp_keptRing (σ : SM) (v : Int32) : gm_nm_giggleRight (sm_kp_keptRing σ v) = gm_nm_giggleRight σ := rfl
theorem pm_nm_jacketA_kp_keptRing (σ : SM) (v : Int32) : gm_nm_jacketA (sm_kp_keptRing σ v) = gm_nm_jacketA σ := rfl
theorem pm_nm_jacketB_kp_keptRing (σ : SM) (v : Int32) : gm_nm_jacketB (sm_kp_keptRing σ v) = gm_nm_jacketB σ := rfl
theorem pm_nm_jacketTenths_kp_keptRing (σ : SM) (v : Int32) : gm_nm_jacketTenths (sm_kp_keptRing σ v) = gm_nm_jacketTenths σ := rfl
theorem pm_nm_asks_kp_keptRing (σ : SM) (v : Int32) : gm_nm_asks (sm_kp_keptRing σ v) = gm_nm_asks σ := rfl
theorem pm_pg_pageLength_kp_keptRing (σ : SM) (v : Int32) : gm_pg_pageLength (sm_kp_keptRing σ v) = gm_pg_pageLength σ := rfl
theorem pm_pg_page_kp_keptRing (σ : SM) (v : Int32) : gm_pg_page (sm_kp_keptRing σ v) = gm_pg_page σ := rfl
theorem pm_kp_isKept_kp_keptRing (σ : SM) (v : Int32) : gm_kp_isKept (sm_kp_keptRing σ v) = gm_kp_isKept σ := rfl
theorem pm_kp_keptRing_kp_keptRing (σ : SM) (v : Int32) : gm_kp_keptRing (sm_kp_keptRing σ v) = v := rfl
theorem pm_kp_keptPlayers_kp_keptRing (σ : SM) (v : Int32) : gm_kp_keptPlayers (sm_kp_keptRing σ v) = gm_kp_keptPlayers σ := rfl
theorem pm_kp_keptUpdates_kp_keptRing (σ : SM) (v : Int32) : gm_kp_keptUpdates (sm_kp_keptRing σ v) = gm_kp_keptUpdates σ := rfl
theorem pm_kp_keptA_kp_keptRing (σ : SM) (v : Int32) : gm_kp_keptA (sm_kp_keptRing σ v) = gm_kp_keptA σ := rfl
theorem pm_kp_keptB_kp_keptRing (σ : SM) (v : Int32) : gm_kp_keptB (sm_kp_keptRing σ v) = gm_kp_keptB σ := rfl
theorem pm_kp_keptTenths_kp_keptRing (σ : SM) (v : Int32) : gm_kp_keptTenths (sm_kp_keptRing σ v) = gm_kp_keptTenths σ := rfl
theorem pm_kp_keptWeight_kp_keptRing (σ : SM) (v : Int32) : gm_kp_keptWeight (sm_kp_keptRing σ v) = gm_kp_keptWeight σ := rfl
theorem pm_kp_keptPlace_kp_keptRing (σ : SM) (v : Int32) : gm_kp_keptPlace (sm_kp_keptRing σ v) = gm_kp_keptPlace σ := rfl
theorem pm_rp_faultAt_kp_keptRing (σ : SM) (v : Int32) : gm_rp_faultAt (sm_kp_keptRing σ v) = gm_rp_faultAt σ := rfl
theorem pm_rp_isWhole_kp_keptRing (σ : SM) (v : Int32) : gm_rp_isWhole (sm_kp_keptRing σ v) = gm_rp_isWhole σ := rfl
theorem pm_rp_newRows_kp_keptRing (σ : SM) (v : Int32) : gm_rp_newRows (sm_kp_keptRing σ v) = gm_rp_newRows σ := rfl
theorem pm_rp_newColumns_kp_keptRing (σ : SM) (v : Int32) : gm_rp_newColumns (sm_kp_keptRing σ v) = gm_rp_newColumns σ := rfl
theorem pm_rp_newCell_kp_keptRing (σ : SM) (v : Int32) : gm_rp_newCell (sm_kp_keptRing σ v) = gm_rp_newCell σ := rfl
theorem pm_rp_gonePost_kp_keptRing (σ : SM) (v : Int32) : gm_rp_gonePost (sm_kp_keptRing σ v) = gm_rp_gonePost σ := rfl
theorem pm_gm_his_kp_keptRing (σ : SM) (v : Int32) : gm_gm_his (sm_kp_keptRing σ v) = gm_gm_his σ := rfl
theorem pm_gm_looks_kp_keptRing (σ : SM) (v : Int32) : gm_gm_looks (sm_kp_keptRing σ v) = gm_gm_looks σ := rfl
theorem pm_gm_seedNow_kp_keptRing (σ : SM) (v : Int32) : gm_gm_seedNow (sm_kp_keptRing σ v) = gm_gm_seedNow σ := rfl
theorem pm_gm_place_kp_keptRing (σ : SM) (v : Int32) : gm_gm_place (sm_kp_keptRing σ v) = gm_gm_place σ := rfl
theorem pm_gm_touched_kp_keptRing (σ : SM) (v : Int32) : gm_gm_touched (sm_kp_keptRing σ v) = gm_gm_touched σ := rfl
theorem pm_gm_touchedAt_kp_keptRing (σ : SM) (v : Int32) : gm_gm_touchedAt (sm_kp_keptRing σ v) = gm_gm_touchedAt σ := rfl
theorem pm_gm_h_kp_keptRing (σ : SM) (v : Int32) : gm_gm_h (sm_kp_keptRing σ v) = gm_gm_h σ := rfl
theorem pm_rg_rows_kp_keptPlayers (σ : SM) (v : Int32) : gm_rg_rows (sm_kp_keptPlayers σ v) = gm_rg_rows σ := rfl
theorem pm_rg_columns_kp_keptPlayers (σ : SM) (v : Int32) : gm_rg_columns (sm_kp_keptPlayers σ v) = gm_rg_columns σ := rfl
theorem pm_rg_rings_kp_keptPlayers (σ : SM) (v : Int32) : gm_rg_rings (sm_kp_keptPlayers σ v) = gm_rg_rings σ := rfl
theorem pm_rg_cellOf_kp_keptPlayers (σ : SM) (v : Int32) : gm_rg_cellOf (sm_kp_keptPlayers σ v) = gm_rg_cellOf σ := rfl
theorem pm_od_weight_kp_keptPlayers (σ : SM) (v : Int32) : gm_od_weight (sm_kp_keptPlayers σ v) = gm_od_weight σ := rfl
theorem pm_od_then_kp_keptPlayers (σ : SM) (v : Int32) : gm_od_then (sm_kp_keptPlayers σ v) = gm_od_then σ := rfl
theorem pm_od_updates_kp_keptPlayers (σ : SM) (v : Int32) : gm_od_updates (sm_kp_keptPlayers σ v) = gm_od_updates σ := rfl
theorem pm_pl_players_kp_keptPlayers (σ : SM) (v : Int32) : gm_pl_players (sm_kp_keptPlayers σ v) = gm_pl_players σ := rfl
theorem pm_pl_kindOf_kp_keptPlayers (σ : SM) (v : Int32) : gm_pl_kindOf (sm_kp_keptPlayers σ v) = gm_pl_kindOf σ := rfl
theorem pm_pl_placeOf_kp_keptPlayers (σ : SM) (v : Int32) : gm_pl_placeOf (sm_kp_keptPlayers σ v) = gm_pl_placeOf σ := rfl
theorem pm_pl_sizeOf_kp_keptPlayers (σ : SM) (v : Int32) : gm_pl_sizeOf (sm_kp_keptPlayers σ v) = gm_pl_sizeOf σ := rfl
theorem pm_pl_clothOf_kp_keptPlayers (σ : SM) (v : Int32) : gm_pl_clothOf (sm_kp_keptPlayers σ v) = gm_pl_clothOf σ := rfl
theorem pm_pl_giggleOf_kp_keptPlayers (σ : SM) (v : Int32) : gm_pl_giggleOf (sm_kp_keptPlayers σ v) = gm_pl_giggleOf σ := rfl
theorem pm_nm_unsure_kp_keptPlayers (σ : SM) (v : Int32) : gm_nm_unsure (sm_kp_keptPlayers σ v) = gm_nm_unsure σ := rfl
theorem pm_nm_clothRight_kp_keptPlayers (σ : SM) (v : Int32) : gm_nm_clothRight (sm_kp_keptPlayers σ v) = gm_nm_clothRight σ := rfl
theorem pm_nm_giggleRight_kp_keptPlayers (σ : SM) (v : Int32) : gm_nm_giggleRight (sm_kp_keptPlayers σ v) = gm_nm_giggleRight σ := rfl
theorem pm_nm_jacketA_kp_keptPlayers (σ : SM) (v : Int32) : gm_nm_jacketA (sm_kp_keptPlayers σ v) = gm_nm_jacketA σ := rfl
theorem pm_nm_jacketB_kp_keptPlayers (σ : SM) (v : Int32) : gm_nm_jacketB (sm_kp_keptPlayers σ v) = gm_nm_jacketB σ := rfl
theorem pm_nm_jacketTenths_kp_keptPlayers (σ : SM) (v : Int32) : gm_nm_jacketTenths (sm_kp_keptPlayers σ v) = gm_nm_jacketTenths σ := rfl
theorem pm_nm_asks_kp_keptPlayers (σ : SM) (v : Int32) : gm_nm_asks (sm_kp_keptPlayers σ v) = gm_nm_asks σ := rfl
theorem pm_pg_pageLength_kp_keptPlayers (σ : SM) (v : Int32) : gm_pg_pageLength (sm_kp_keptPlayers σ v) = gm_pg_pageLength σ := rfl
theorem pm_pg_page_kp_keptPlayers (σ : SM) (v : Int32) : gm_pg_page (sm_kp_keptPlayers σ v) = gm_pg_page σ := rfl
theorem pm_kp_isKept_kp_keptPlayers (σ : SM) (v : Int32) : gm_kp_isKept (sm_kp_keptPlayers σ v) = gm_kp_isKept σ := rfl
theorem pm_kp_keptRing_kp_keptPlayers (σ : SM) (v : Int32) : gm_kp_keptRing (sm_kp_keptPlayers σ v) = gm_kp_keptRing σ := rfl
theorem pm_kp_keptPlayers_kp_keptPlayers (σ : SM) (v : Int32) : gm_kp_keptPlayers (sm_kp_keptPlayers σ v) = v := rfl
theorem pm_kp_keptUpdates_kp_keptPlayers (σ : SM) (v : Int32) : gm_kp_keptUpdates (sm_kp_keptPlayers σ v) = gm_kp_keptUpdates σ := rfl
theorem pm_kp_keptA_kp_keptPlayers (σ : SM) (v : Int32) : gm_kp_keptA (sm_kp_keptPlayers σ v) = gm_kp_keptA σ := rfl
theorem pm_kp_keptB_kp_keptPlayers (σ : SM) (v : Int32) : gm_kp_keptB (sm_kp_keptPlayers σ v) = gm_kp_keptB σ := rfl
theorem pm_kp_keptTenths_kp_keptPlayers (σ : SM) (v : Int32) : gm_kp_keptTenths (sm_kp_keptPlayers σ v) = gm_kp_keptTenths σ := rfl
theorem pm_kp_keptWeight_kp_keptPlayers (σ : SM) (v : Int32) : gm_kp_keptWeight (sm_kp_keptPlayers σ v) = gm_kp_keptWeight σ := rfl
theorem pm_kp_keptPlace_kp_keptPlayers (σ : SM) (v : Int32) : gm_kp_keptPlace (sm_kp_keptPlayers σ v) = gm_kp_keptPlace σ := rfl
theorem pm_rp_faultAt_kp_keptPlayers (σ : SM) (v : Int32) : gm_rp_faultAt (sm_kp_keptPlayers σ v) = gm_rp_faultAt σ := rfl
theorem pm_rp_isWhole_kp_keptPlayers (σ : SM) (v : Int32) : gm_rp_isWhole (sm_kp_keptPlayers σ v) = gm_rp_isWhole σ := rfl
theorem pm_rp_newRows_kp_keptPlayers (σ : SM) (v : Int32) : gm_rp_newRows (sm_kp_keptPlayers σ v) = gm_rp_newRows σ := rfl
theorem pm_rp_newColumns_kp_keptPlayers (σ : SM) (v : Int32) : gm_rp_newColumns (sm_kp_keptPlayers σ v) = gm_rp_newColumns σ := rfl
theorem pm_rp_newCell_kp_keptPlayers (σ : SM) (v : Int32) : gm_rp_newCell (sm_kp_keptPlayers σ v) = gm_rp_newCell σ := rfl
theorem pm_rp_gonePost_kp_keptPlayers (σ : SM) (v : Int32) : gm_rp_gonePost (sm_kp_keptPlayers σ v) = gm_rp_gonePost σ := rfl
theorem pm_gm_his_kp_keptPlayers (σ : SM) (v : Int32) : gm_gm_his (sm_kp_keptPlayers σ v) = gm_gm_his σ := rfl
theorem pm_gm_looks_kp_keptPlayers (σ : SM) (v : Int32) : gm_gm_looks (sm_kp_keptPlayers σ v) = gm_gm_looks σ := rfl
theorem pm_gm_seedNow_kp_keptPlayers (σ : SM) (v : Int32) : gm_gm_seedNow (sm_kp_keptPlayers σ v) = gm_gm_seedNow σ := rfl
theorem pm_gm_place_kp_keptPlayers (σ : SM) (v : Int32) : gm_gm_place (sm_kp_keptPlayers σ v) = gm_gm_place σ := rfl
theorem pm_gm_touched_kp_keptPlayers (σ : SM) (v : Int32) : gm_gm_touched (sm_kp_keptPlayers σ v) = gm_gm_touched σ := rfl
theorem pm_gm_touchedAt_kp_keptPlayers (σ : SM) (v : Int32) : gm_gm_touchedAt (sm_kp_keptPlayers σ v) = gm_gm_touchedAt σ := rfl
theorem pm_gm_h_kp_keptPlayers (σ : SM) (v : Int32) : gm_gm_h (sm_kp_keptPlayers σ v) = gm_gm_h σ := rfl
theorem pm_rg_rows_kp_keptUpdates (σ : SM) (v : Int32) : gm_rg_rows (sm_kp_keptUpdates σ v) = gm_rg_rows σ := rfl
theorem pm_rg_columns_kp_keptUpdates (σ : SM) (v : Int32) : gm_rg_columns (sm_kp_keptUpdates σ v) = gm_rg_columns σ := rfl
theorem pm_rg_rings_kp_keptUpdates (σ : SM) (v : Int32) : gm_rg_rings (sm_kp_keptUpdates σ v) = gm_rg_rings σ := rfl
theorem pm_rg_cellOf_kp_keptUpdates (σ : SM) (v : Int32) : gm_rg_cellOf (sm_kp_keptUpdates σ v) = gm_rg_cellOf σ := rfl
theorem pm_od_weight_kp_keptUpdates (σ : SM) (v : Int32) : gm_od_weight (sm_kp_keptUpdates σ v) = gm_od_weight σ := rfl
theorem pm_od_then_kp_keptUpdates (σ : SM) (v : Int32) : gm_od_then (sm_kp_keptUpdates σ v) = gm_od_then σ := rfl
theorem pm_od_updates_kp_keptUpdates (σ : SM) (v : Int32) : gm_od_updates (sm_kp_keptUpdates σ v) = gm_od_updates σ := rfl
theorem pm_pl_players_kp_keptUpdates (σ : SM) (v : Int32) : gm_pl_players (sm_kp_keptUpdates σ v) = gm_pl_players σ := rfl
theorem pm_pl_kindOf_kp_keptUpdates (σ : SM) (v : Int32) : gm_pl_kindOf (sm_kp_keptUpdates σ v) = gm_pl_kindOf σ := rfl
theorem pm_pl_placeOf_kp_keptUpdates (σ : SM) (v : Int32) : gm_pl_placeOf (sm_kp_keptUpdates σ v) = gm_pl_placeOf σ := rfl
theorem pm_pl_sizeOf_kp_keptUpdates (σ : SM) (v : Int32) : gm_pl_sizeOf (sm_kp_keptUpdates σ v) = gm_pl_sizeOf σ := rfl
theorem pm_pl_clothOf_kp_keptUpdates (σ : SM) (v : Int32) : gm_pl_clothOf (sm_kp_keptUpdates σ v) = gm_pl_clothOf σ := rfl
theorem pm_pl_giggleOf_kp_keptUpdates (σ : SM) (v : Int32) : gm_pl_giggleOf (sm_kp_keptUpdates σ v) = gm_pl_giggleOf σ := rfl
theorem pm_nm_unsure_kp_keptUpdates (σ : SM) (v : Int32) : gm_nm_unsure (sm_kp_keptUpdates σ v) = gm_nm_unsure σ := rfl
theorem pm_nm_clothRight_kp_keptUpdates (σ : SM) (v : Int32) : gm_nm_clothRight (sm_kp_keptUpdates σ v) = gm_nm_clothRight σ := rfl
theorem pm_nm_giggleRight_kp_keptUpdates (σ : SM) (v : Int32) : gm_nm_giggleRight (sm_kp_keptUpdates σ v) = gm_nm_giggleRight σ := rfl
theorem pm_nm_jacketA_kp_keptUpdates (σ : SM) (v : Int32) : gm_nm_jacketA (sm_kp_keptUpdates σ v) = gm_nm_jacketA σ := rfl
theorem pm_nm_jacketB_kp_keptUpdates (σ : SM) (v : Int32) : gm_nm_jacketB (sm_kp_keptUpdates σ v) = gm_nm_jacketB σ := rfl
theorem pm_nm_jacketTenths_kp_keptUpdates (σ : SM) (v : Int32) : gm_nm_jacketTenths (sm_kp_keptUpdates σ v) = gm_nm_jacketTenths σ := rfl
theorem pm_nm_asks_kp_keptUpdates (σ : SM) (v : Int32) : gm_nm_asks (sm_kp_keptUpdates σ v) = gm_nm_asks σ := rfl
theorem pm_pg_pageLength_kp_keptUpdates (σ : SM) (v : Int32) : gm_pg_pageLength (sm_kp_keptUpdates σ v) = gm_pg_pageLength σ := rfl
theorem pm_pg_page_kp_keptUpdates (σ : SM) (v : Int32) : gm_pg_page (sm_kp_keptUpdates σ v) = gm_pg_page σ := rfl
theorem pm_kp_isKept_kp_keptUpdates (σ : SM) (v : Int32) : gm_kp_isKept (sm_kp_keptUpdates σ v) = gm_kp_isKept σ := rfl
theorem pm_kp_keptRing_kp_keptUpdates (σ : SM) (v : Int32) : gm_kp_keptRing (sm_kp_keptUpdates σ v) = gm_kp_keptRing σ := rfl
theorem pm_kp_keptPlayers_kp_keptUpdates (σ : SM) (v : Int32) : gm_kp_keptPlayers (sm_kp_keptUpdates σ v) = gm_kp_keptPlayers σ := rfl
theorem pm_kp_keptUpdates_kp_keptUpdates (σ : SM) (v : Int32) : gm_kp_keptUpdates (sm_kp_keptUpdates σ v) = v := rfl
theorem pm_kp_keptA_kp_keptUpdates (σ : SM) (v : Int32) : gm_kp_keptA (sm_kp_keptUpdates σ v) = gm_kp_keptA σ := rfl
theorem pm_kp_keptB_kp_keptUpdates (σ : SM) (v : Int32) : gm_kp_keptB (sm_kp_keptUpdates σ v) = gm_kp_keptB σ := rfl
theorem pm_kp_keptTenths_kp_keptUpdates (σ : SM) (v : Int32) : gm_kp_keptTenths (sm_kp_keptUpdates σ v) = gm_kp_keptTenths σ := rfl
theorem pm_kp_keptWeight_kp_keptUpdates (σ : SM) (v : Int32) : gm_kp_keptWeight (sm_kp_keptUpdates σ v) = gm_kp_keptWeight σ := rfl
theorem pm_kp_keptPlace_kp_keptUpdates (σ : SM) (v : Int32) : gm_kp_keptPlace (sm_kp_keptUpdates σ v) = gm_kp_keptPlace σ := rfl
theorem pm_rp_faultAt_kp_keptUpdates (σ : SM) (v : Int32) : gm_rp_faultAt (sm_kp_keptUpdates σ v) = gm_rp_faultAt σ := rfl
theorem pm_rp_isWhole_kp_keptUpdates (σ : SM) (v : Int32) : gm_rp_isWhole (sm_kp_keptUpdates σ v) = gm_rp_isWhole σ := rfl
theorem pm_rp_newRows_kp_keptUpdates (σ : SM) (v : Int32) : gm_rp_newRows (sm_kp_keptUpdates σ v) = gm_rp_newRows σ := rfl
theorem pm_rp_newColumns_kp_keptUpdates (σ : SM) (v : Int32) : gm_rp_newColumns (sm_kp_keptUpdates σ v) = gm_rp_newColumns σ := rfl
theorem pm_rp_newCell_kp_keptUpdates (σ : SM) (v : Int32) : gm_rp_newCell (sm_kp_keptUpdates σ v) = gm_rp_newCell σ := rfl
theorem pm_rp_gonePost_kp_keptUpdates (σ : SM) (v : Int32) : gm_rp_gonePost (sm_kp_keptUpdates σ v) = gm_rp_gonePost σ := rfl
theorem pm_gm_his_kp_keptUpdates (σ : SM) (v : Int32) : gm_gm_his (sm_kp_keptUpdates σ v) = gm_gm_his σ := rfl
theorem pm_gm_looks_kp_keptUpdates (σ : SM) (v : Int32) : gm_gm_looks (sm_kp_keptUpdates σ v) = gm_gm_looks σ := rfl
theorem pm_gm_seedNow_kp_keptUpdates (σ : SM) (v : Int32) : gm_gm_seedNow (sm_kp_keptUpdates σ v) = gm_gm_seedNow σ := rfl
theorem pm_gm_place_kp_keptUpdates (σ : SM) (v : Int32) : gm_gm_place (sm_kp_keptUpdates σ v) = gm_gm_place σ := rfl
theorem pm_gm_touched_kp_keptUpdates (σ : SM) (v : Int32) : gm_gm_touched (sm_kp_keptUpdates σ v) = gm_gm_touched σ := rfl
theorem pm_gm_touchedAt_kp_keptUpdates (σ : SM) (v : Int32) : gm_gm_touchedAt (sm_kp_keptUpdates σ v) = gm_gm_touchedAt σ := rfl
theorem pm_gm_h_kp_keptUpdates (σ : SM) (v : Int32) : gm_gm_h (sm_kp_keptUpdates σ v) = gm_gm_h σ := rfl
theorem pm_rg_rows_kp_keptA (σ : SM) (v : Int32) : gm_rg_rows (sm_kp_keptA σ v) = gm_rg_rows σ := rfl
theorem pm_rg_columns_kp_keptA (σ : SM) (v : Int32) : gm_rg_columns (sm_kp_keptA σ v) = gm_rg_columns σ := rfl
theorem pm_rg_rings_kp_keptA (σ : SM) (v : Int32) : gm_rg_rings (sm_kp_keptA σ v) = gm_rg_rings σ := rfl
theorem pm_rg_cellOf_kp_keptA (σ : SM) (v : Int32) : gm_rg_cellOf (sm_kp_keptA σ v) = gm_rg_cellOf σ := rfl
theorem pm_od_weight_kp_keptA (σ : SM) (v : Int32) : gm_od_weight (sm_kp_keptA σ v) = gm_od_weight σ := rfl
theorem pm_od_then_kp_keptA (σ : SM) (v : Int32) : gm_od_then (sm_kp_keptA σ v) = gm_od_then σ := rfl
theorem pm_od_updates_kp_keptA (σ : SM) (v : Int32) : gm_od_updates (sm_kp_keptA σ v) = gm_od_updates σ := rfl
theorem pm_pl_players_kp_keptA (σ : SM) (v : Int32) : gm_pl_players (sm_kp_keptA σ v) = gm_pl_players σ := rfl
theorem pm_pl_kindOf_kp_keptA (σ : SM) (v : Int32) : gm_pl_kindOf (sm_kp_keptA σ v) = gm_pl_kindOf σ := rfl
theorem pm_pl_placeOf_kp_keptA (σ : SM) (v : Int32) : gm_pl_placeOf (sm_kp_keptA σ v) = gm_pl_placeOf σ := rfl
theorem pm_pl_sizeOf_kp_keptA (σ : SM) (v : Int32) : gm_pl_sizeOf (sm_kp_keptA σ v) = gm_pl_sizeOf σ := rfl
theorem pm_pl_clothOf_kp_keptA (σ : SM) (v : Int32) : gm_pl_clothOf (sm_kp_keptA σ v) = gm_pl_clothOf σ := rfl
theorem pm_pl_giggleOf_kp_keptA (σ : SM) (v : Int32) : gm_pl_giggleOf (sm_kp_keptA σ v) = gm_pl_giggleOf σ := rfl
theorem pm_nm_unsure_kp_keptA (σ : SM) (v : Int32) : gm_nm_unsure (sm_kp_keptA σ v) = gm_nm_unsure σ := rfl
theorem pm_nm_clothRight_kp_keptA (σ : SM) (v : Int32) : gm_nm_clothRight (sm_kp_keptA σ v) = gm_nm_clothRight σ := rfl
theorem pm_nm_giggleRight_kp_keptA (σ : SM) (v : Int32) : gm_nm_giggleRight (sm_kp_keptA σ v) = gm_nm_giggleRight σ := rfl
theorem pm_nm_jacketA_kp_keptA (σ : SM) (v : Int32) : gm_nm_jacketA (sm_kp_keptA σ v) = gm_nm_jacketA σ := rfl
theorem pm_nm_jacketB_kp_keptA (σ : SM) (v : Int32) : gm_nm_jacketB (sm_kp_keptA σ v) = gm_nm_jacketB σ := rfl
theorem pm_nm_jacketTenths_kp_keptA (σ : SM) (v : Int32) : gm_nm_jacketTenths (sm_kp_keptA σ v) = gm_nm_jacketTenths σ := rfl
theorem pm_nm_asks_kp_keptA (σ : SM) (v : Int32) : gm_nm_asks (sm_kp_keptA σ v) = gm_nm_asks σ := rfl
theorem pm_pg_pageLength_kp_keptA (σ : SM) (v : Int32) : gm_pg_pageLength (sm_kp_keptA σ v) = gm_pg_pageLength σ := rfl
theorem pm_pg_page_kp_keptA (σ : SM) (v : Int32) : gm_pg_page (sm_kp_keptA σ v) = gm_pg_page σ := rfl
theorem pm_kp_isKept_kp_keptA (σ : SM) (v : Int32) : gm_kp_isKept (sm_kp_keptA σ v) = gm_kp_isKept σ := rfl
theorem pm_kp_keptRing_kp_keptA (σ : SM) (v : Int32) : gm_kp_keptRing (sm_kp_keptA σ v) = gm_kp_keptRing σ := rfl
theorem pm_kp_keptPlayers_kp_keptA (σ : SM) (v : Int32) : gm_kp_keptPlayers (sm_kp_keptA σ v) = gm_kp_keptPlayers σ := rfl
theorem pm_kp_keptUpdates_kp_keptA (σ : SM) (v : Int32) : gm_kp_keptUpdates (sm_kp_keptA σ v) = gm_kp_keptUpdates σ := rfl
theorem pm_kp_keptA_kp_keptA (σ : SM) (v : Int32) : gm_kp_keptA (sm_kp_keptA σ v) = v := rfl
theorem pm_kp_keptB_kp_keptA (σ : SM) (v : Int32) : gm_kp_keptB (sm_kp_keptA σ v) = gm_kp_keptB σ := rfl
theorem pm_kp_keptTenths_kp_keptA (σ : SM) (v : Int32) : gm_kp_keptTenths (sm_kp_keptA σ v) = gm_kp_keptTenths σ := rfl
theorem pm_kp_keptWeight_kp_keptA (σ : SM) (v : Int32) : gm_kp_keptWeight (sm_kp_keptA σ v) = gm_kp_keptWeight σ := rfl
theorem pm_kp_keptPlace_kp_keptA (σ : SM) (v : Int32) : gm_kp_keptPlace (sm_kp_keptA σ v) = gm_kp_keptPlace σ := rfl
theorem pm_rp_faultAt_kp_keptA (σ : SM) (v : Int32) : gm_rp_faultAt (sm_kp_keptA σ v) = gm_rp_faultAt σ := rfl
theorem pm_rp_isWhole_kp_keptA (σ : SM) (v : Int32) : gm_rp_isWhole (sm_kp_keptA σ v) = gm_rp_isWhole σ := rfl
theorem pm_rp_newRows_kp_keptA (σ : SM) (v : Int32) : gm_rp_newRows (sm_kp_keptA σ v) = gm_rp_newRows σ := rfl
theorem pm_rp_newColumns_kp_keptA (σ : SM) (v : Int32) : gm_rp_newColumns (sm_kp_keptA σ v) = gm_rp_newColumns σ := rfl
theorem pm_rp_newCell_kp_keptA (σ : SM) (v : Int32) : gm_rp_newCell (sm_kp_keptA σ v) = gm_rp_newCell σ := rfl
theorem pm_rp_gonePost_kp_keptA (σ : SM) (v : Int32) : gm_rp_gonePost (sm_kp_keptA σ v) = gm_rp_gonePost σ := rfl
theorem pm_gm_his_kp_keptA (σ : SM) (v : Int32) : gm_gm_his (sm_kp_keptA σ v) = gm_gm_his σ := rfl
theorem pm_gm_looks_kp_keptA (σ : SM) (v : Int32) : gm_gm_looks (sm_kp_keptA σ v) = gm_gm_looks σ := rfl
theorem pm_gm_seedNow_kp_keptA (σ : SM) (v : Int32) : gm_gm_seedNow (sm_kp_keptA σ v) = gm_gm_seedNow σ := rfl
theorem pm_gm_place_kp_keptA (σ : SM) (v : Int32) : gm_gm_place (sm_kp_keptA σ v) = gm_gm_place σ := rfl
theorem pm_gm_touched_kp_keptA (σ : SM) (v : Int32) : gm_gm_touched (sm_kp_keptA σ v) = gm_gm_touched σ := rfl
theorem pm_gm_touchedAt_kp_keptA (σ : SM) (v : Int32) : gm_gm_touchedAt (sm_kp_keptA σ v) = gm_gm_touchedAt σ := rfl
theorem pm_gm_h_kp_keptA (σ : SM) (v : Int32) : gm_gm_h (sm_kp_keptA σ v) = gm_gm_h σ := rfl
theorem pm_rg_rows_kp_keptB (σ : SM) (v : Int32) : gm_rg_rows (sm_kp_keptB σ v) = gm_rg_rows σ := rfl
theorem pm_rg_columns_kp_keptB (σ : SM) (v : Int32) : gm_rg_columns (sm_kp_keptB σ v) = gm_rg_columns σ := rfl
theorem pm_rg_rings_kp_keptB (σ : SM) (v : Int32) : gm_rg_rings (sm_kp_keptB σ v) = gm_rg_rings σ := rfl
theorem pm_rg_cellOf_kp_keptB (σ : SM) (v : Int32) : gm_rg_cellOf (sm_kp_keptB σ v) = gm_rg_cellOf σ := rfl
theorem pm_od_weight_kp_keptB (σ : SM) (v : Int32) : gm_od_weight (sm_kp_keptB σ v) = gm_od_weight σ := rfl
theorem pm_od_then_kp_keptB (σ : SM) (v : Int32) : gm_od_then (sm_kp_keptB σ v) = gm_od_then σ := rfl
theorem pm_od_updates_kp_keptB (σ : SM) (v : Int32) : gm_od_updates (sm_kp_keptB σ v) = gm_od_updates σ := rfl
theorem pm_pl_players_kp_keptB (σ : SM) (v : Int32) : gm_pl_players (sm_kp_keptB σ v) = gm_pl_players σ := rfl
theorem pm_pl_kindOf_kp_keptB (σ : SM) (v : Int32) : gm_pl_kindOf (sm_kp_keptB σ v) = gm_pl_kindOf σ := rfl
theorem pm_pl_placeOf_kp_keptB (σ : SM) (v : Int32) : gm_pl_placeOf (sm_kp_keptB σ v) = gm_pl_placeOf σ := rfl
theorem pm_pl_sizeOf_kp_keptB (σ : SM) (v : Int32) : gm_pl_sizeOf (sm_kp_keptB σ v) = gm_pl_sizeOf σ := rfl
theorem pm_pl_clothOf_kp_keptB (σ : SM) (v : Int32) : gm_pl_clothOf (sm_kp_keptB σ v) = gm_pl_clothOf σ := rfl
theorem pm_pl_giggleOf_kp_keptB (σ : SM) (v : Int32) : gm_pl_giggleOf (sm_kp_keptB σ v) = gm_pl_giggleOf σ := rfl
theorem pm_nm_unsure_kp_keptB (σ : SM) (v : Int32) : gm_nm_unsure (sm_kp_keptB σ v) = gm_nm_unsure σ := rfl
theorem pm_nm_clothRight_kp_keptB (σ : SM) (v : Int32) : gm_nm_clothRight (sm_kp_keptB σ v) = gm_nm_clothRight σ := rfl
theorem pm_nm_giggleRight_kp_keptB (σ : SM) (v : Int32) : gm_nm_giggleRight (sm_kp_keptB σ v) = gm_nm_giggleRight σ := rfl
theorem pm_nm_jacketA_kp_keptB (σ : SM) (v : Int32) : gm_nm_jacketA (sm_kp_keptB σ v) = gm_nm_jacketA σ := rfl
theorem pm_nm_jacketB_kp_keptB (σ : SM) (v : Int32) : gm_nm_jacketB (sm_kp_keptB σ v) = gm_nm_jacketB σ := rfl
theorem pm_nm_jacketTenths_kp_keptB (σ : SM) (v : Int32) : gm_nm_jacketTenths (sm_kp_keptB σ v) = gm_nm_jacketTenths σ := rfl
theorem pm_nm_asks_kp_keptB (σ : SM) (v : Int32) : gm_nm_asks (sm_kp_keptB σ v) = gm_nm_asks σ := rfl
theorem pm_pg_pageLength_kp_keptB (σ : SM) (v : Int32) : gm_pg_pageLength (sm_kp_keptB σ v) = gm_pg_pageLength σ := rfl
theorem pm_pg_page_kp_keptB (σ : SM) (v : Int32) : gm_pg_page (sm_kp_keptB σ v) = gm_pg_page σ := rfl
theorem pm_kp_isKept_kp_keptB (σ : SM) (v : Int32) : gm_kp_isKept (sm_kp_keptB σ v) = gm_kp_isKept σ := rfl
theorem pm_kp_keptRing_kp_keptB (σ : SM) (v : Int32) : gm_kp_keptRing (sm_kp_keptB σ v) = gm_kp_keptRing σ := rfl
theorem pm_kp_keptPlayers_kp_keptB (σ : SM) (v : Int32) : gm_kp_keptPlayers (sm_kp_keptB σ v) = gm_kp_keptPlayers σ := rfl
theorem pm_kp_keptUpdates_kp_keptB (σ : SM) (v : Int32) : gm_kp_keptUpdates (sm_kp_keptB σ v) = gm_kp_keptUpdates σ := rfl
theorem pm_kp_keptA_kp_keptB (σ : SM) (v : Int32) : gm_kp_keptA (sm_kp_keptB σ v) = gm_kp_keptA σ := rfl
theorem pm_kp_keptB_kp_keptB (σ : SM) (v : Int32) : gm_kp_keptB (sm_kp_keptB σ v) = v := rfl
theorem pm_kp_keptTenths_kp_keptB (σ : SM) (v : Int32) : gm_kp_keptTenths (sm_kp_keptB σ v) = gm_kp_keptTenths σ := rfl
theorem pm_kp_keptWeight_kp_keptB (σ : SM) (v : Int32) : gm_kp_keptWeight (sm_kp_keptB σ v) = gm_kp_keptWeight σ := rfl
theorem pm_kp_keptPlace_kp_keptB (σ : SM) (v : Int32) : gm_kp_keptPlace (sm_kp_keptB σ v) = gm_kp_keptPlace σ := rfl
theorem pm_rp_faultAt_kp_keptB (σ : SM) (v : Int32) : gm_rp_faultAt (sm_kp_keptB σ v) = gm_rp_faultAt σ := rfl
theorem pm_rp_isWhole_kp_keptB (σ : SM) (v : Int32) : gm_rp_isWhole (sm_kp_keptB σ v) = gm_rp_isWhole σ := rfl
theorem pm_rp_newRows_kp_keptB (σ : SM) (v : Int32) : gm_rp_newRows (sm_kp_keptB σ v) = gm_rp_newRows σ := rfl
theorem pm_rp_newColumns_kp_keptB (σ : SM) (v : Int32) : gm_rp_newColumns (sm_kp_keptB σ v) = gm_rp_newColumns σ := rfl
theorem pm_rp_newCell_kp_keptB (σ : SM) (v : Int32) : gm_rp_newCell (sm_kp_keptB σ v) = gm_rp_newCell σ := rfl
theorem pm_rp_gonePost_kp_keptB (σ : SM) (v : Int32) : gm_rp_gonePost (sm_kp_keptB σ v) = gm_rp_gonePost σ := rfl
theorem pm_gm_his_kp_keptB (σ : SM) (v : Int32) : gm_gm_his (sm_kp_keptB σ v) = gm_gm_his σ := rfl
theorem pm_gm_looks_kp_keptB (σ : SM) (v : Int32) : gm_gm_looks (sm_kp_keptB σ v) = gm_gm_looks σ := rfl
theorem pm_gm_seedNow_kp_keptB (σ : SM) (v : Int32) : gm_gm_seedNow (sm_kp_keptB σ v) = gm_gm_seedNow σ := rfl
theorem pm_gm_place_kp_keptB (σ : SM) (v : Int32) : gm_gm_place (sm_kp_keptB σ v) = gm_gm_place σ := rfl
theorem pm_gm_touched_kp_keptB (σ : SM) (v : Int32) : gm_gm_touched (sm_kp_keptB σ v) = gm_gm_touched σ := rfl
theorem pm_gm_touchedAt_kp_keptB (σ : SM) (v : Int32) : gm_gm_touchedAt (sm_kp_keptB σ v) = gm_gm_touchedAt σ := rfl
theorem pm_gm_h_kp_keptB (σ : SM) (v : Int32) : gm_gm_h (sm_kp_keptB σ v) = gm_gm_h σ := rfl
theorem pm_rg_rows_kp_keptTenths (σ : SM) (v : Int32) : gm_rg_rows (sm_kp_keptTenths σ v) = gm_rg_rows σ := rfl
theorem pm_rg_columns_kp_keptTenths (σ : SM) (v : Int32) : gm_rg_columns (sm_kp_keptTenths σ v) = gm_rg_columns σ := rfl
theorem pm_rg_rings_kp_keptTenths (σ : SM) (v : Int32) : gm_rg_rings (sm_kp_keptTenths σ v) = gm_rg_rings σ := rfl
theorem pm_rg_cellOf_kp_keptTenths (σ : SM) (v : Int32) : gm_rg_cellOf (sm_kp_keptTenths σ v) = gm_rg_cellOf σ := rfl
theorem pm_od_weight_kp_keptTenths (σ : SM) (v : Int32) : gm_od_weight (sm_kp_keptTenths σ v) = gm_od_weight σ := rfl
theorem pm_od_then_kp_keptTenths (σ : SM) (v : Int32) : gm_od_then (sm_kp_keptTenths σ v) = gm_od_then σ := rfl
theorem pm_od_updates_kp_keptTenths (σ : SM) (v : Int32) : gm_od_updates (sm_kp_keptTenths σ v) = gm_od_updates σ := rfl
theorem pm_pl_players_kp_keptTenths (σ : SM) (v : Int32) : gm_pl_players (sm_kp_keptTenths σ v) = gm_pl_players σ := rfl
theorem pm_pl_kindOf_kp_keptTenths (σ : SM) (v : Int32) : gm_pl_kindOf (sm_kp_keptTenths σ v) = gm_pl_kindOf σ := rfl
theorem pm_pl_placeOf_kp_keptTenths (σ : SM) (v : Int32) : gm_pl_placeOf (sm_kp_keptTenths σ v) = gm_pl_placeOf σ := rfl
theorem pm_pl_sizeOf_kp_keptTenths (σ : SM) (v : Int32) : gm_pl_sizeOf (sm_kp_keptTenths σ v) = gm_pl_sizeOf σ := rfl
theorem pm_pl_clothOf_kp_keptTenths (σ : SM) (v : Int32) : gm_pl_clothOf (sm_kp_keptTenths σ v) = gm_pl_clothOf σ := rfl
theorem pm_pl_giggleOf_kp_keptTenths (σ : SM) (v : Int32) : gm_pl_giggleOf (sm_kp_keptTenths σ v) = gm_pl_giggleOf σ := rfl
theorem pm_nm_unsure_kp_keptTenths (σ : SM) (v : Int32) : gm_nm_unsure (sm_kp_keptTenths σ v) = gm_nm_unsure σ := rfl
theorem pm_nm_clothRight_kp_keptTenths (σ : SM) (v : Int32) : gm_nm_clothRight (sm_kp_keptTenths σ v) = gm_nm_clothRight σ := rfl
theorem pm_nm_giggleRight_kp_keptTenths (σ : SM) (v : Int32) : gm_nm_giggleRight (sm_kp_keptTenths σ v) = gm_nm_giggleRight σ := rfl
theorem pm_nm_jacketA_kp_keptTenths (σ : SM) (v : Int32) : gm_nm_jacketA (sm_kp_keptTenths σ v) = gm_nm_jacketA σ := rfl
theorem pm_nm_jacketB_kp_keptTenths (σ : SM) (v : Int32) : gm_nm_jacketB (sm_kp_keptTenths σ v) = gm_nm_jacketB σ := rfl
theorem pm_nm_jacketTenths_kp_keptTenths (σ : SM) (v : Int32) : gm_nm_jacketTenths (sm_kp_keptTenths σ v) = gm_nm_jacketTenths σ := rfl
theorem pm_nm_asks_kp_keptTenths (σ : SM) (v : Int32) : gm_nm_asks (sm_kp_keptTenths σ v) = gm_nm_asks σ := rfl
theorem pm_pg_pageLength_kp_keptTenths (σ : SM) (v : Int32) : gm_pg_pageLength (sm_kp_keptTenths σ v) = gm_pg_pageLength σ := rfl
theorem pm_pg_page_kp_keptTenths (σ : SM) (v : Int32) : gm_pg_page (sm_kp_keptTenths σ v) = gm_pg_page σ := rfl
theorem pm_kp_isKept_kp_keptTenths (σ : SM) (v : Int32) : gm_kp_isKept (sm_kp_keptTenths σ v) = gm_kp_isKept σ := rfl
theorem pm_kp_keptRing_kp_keptTenths (σ : SM) (v : Int32) : gm_kp_keptRing (sm_kp_keptTenths σ v) = gm_kp_keptRing σ := rfl
theorem pm_kp_keptPlayers_kp_keptTenths (σ : SM) (v : Int32) : gm_kp_keptPlayers (sm_kp_keptTenths σ v) = gm_kp_keptPlayers σ := rfl
theorem pm_kp_keptUpdates_kp_keptTenths (σ : SM) (v : Int32) : gm_kp_keptUpdates (sm_kp_keptTenths σ v) = gm_kp_keptUpdates σ := rfl
theorem pm_kp_keptA_kp_keptTenths (σ : SM) (v : Int32) : gm_kp_keptA (sm_kp_keptTenths σ v) = gm_kp_keptA σ := rfl
theorem pm_kp_keptB_kp_keptTenths (σ : SM) (v : Int32) : gm_kp_keptB (sm_kp_keptTenths σ v) = gm_kp_keptB σ := rfl
theorem pm_kp_keptTenths_kp_keptTenths (σ : SM) (v : Int32) : gm_kp_keptTenths (sm_kp_keptTenths σ v) = v := rfl
theorem pm_kp_keptWeight_kp_keptTenths (σ : SM) (v : Int32) : gm_kp_keptWeight (sm_kp_keptTenths σ v) = gm_kp_keptWeight σ := rfl
theorem pm_kp_keptPlace_kp_keptTenths (σ : SM) (v : Int32) : gm_kp_keptPlace (sm_kp_keptTenths σ v) = gm_kp_keptPlace σ := rfl
theorem pm_rp_faultAt_kp_keptTenths (σ : SM) (v : Int32) : gm_rp_faultAt (sm_kp_keptTenths σ v) = gm_rp_faultAt σ := rfl
theorem pm_rp_isWhole_kp_keptTenths (σ : SM) (v : Int32) : gm_rp_isWhole (sm_kp_keptTenths σ v) = gm_rp_isWhole σ := rfl
theorem pm_rp_newRows_kp_keptTenths (σ : SM) (v : Int32) : gm_rp_newRows (sm_kp_keptTenths σ v) = gm_rp_newRows σ := rfl
theorem pm_rp_newColumns_kp_keptTenths (σ : SM) (v : Int32) : gm_rp_newColumns (sm_kp_keptTenths σ v) = gm_rp_newColumns σ := rfl
theorem pm_rp_newCell_kp_keptTenths (σ : SM) (v : Int32) : gm_rp_newCell (sm_kp_keptTenths σ v) = gm_rp_newCell σ := rfl
theorem pm_rp_gonePost_kp_keptTenths (σ : SM) (v : Int32) : gm_rp_gonePost (sm_kp_keptTenths σ v) = gm_rp_gonePost σ := rfl
theorem pm_gm_his_kp_keptTenths (σ : SM) (v : Int32) : gm_gm_his (sm_kp_keptTenths σ v) = gm_gm_his σ := rfl
theorem pm_gm_looks_kp_keptTenths (σ : SM) (v : Int32) : gm_gm_looks (sm_kp_keptTenths σ v) = gm_gm_looks σ := rfl
theorem pm_gm_seedNow_kp_keptTenths (σ : SM) (v : Int32) : gm_gm_seedNow (sm_kp_keptTenths σ v) = gm_gm_seedNow σ := rfl
theorem pm_gm_place_kp_keptTenths (σ : SM) (v : Int32) : gm_gm_place (sm_kp_keptTenths σ v) = gm_gm_place σ := rfl
theorem pm_gm_touched_kp_keptTenths (σ : SM) (v : Int32) : gm_gm_touched (sm_kp_keptTenths σ v) = gm_gm_touched σ := rfl
theorem pm_gm_touchedAt_kp_keptTenths (σ : SM) (v : Int32) : gm_gm_touchedAt (sm_kp_keptTenths σ v) = gm_gm_touchedAt σ := rfl
theorem pm_gm_h_kp_keptTenths (σ : SM) (v : Int32) : gm_gm_h (sm_kp_keptTenths σ v) = gm_gm_h σ := rfl
theorem pm_rg_rows_kp_keptWeight (σ : SM) (v : Nat → Int64) : gm_rg_rows (sm_kp_keptWeight σ v) = gm_rg_rows σ := rfl
theorem pm_rg_columns_kp_keptWeight (σ : SM) (v : Nat → Int64) : gm_rg_columns (sm_kp_keptWeight σ v) = gm_rg_columns σ := rfl
theorem pm_rg_rings_kp_keptWeight (σ : SM) (v : Nat → Int64) : gm_rg_rings (sm_kp_keptWeight σ v) = gm_rg_rings σ := rfl
theorem pm_rg_cellOf_kp_keptWeight (σ : SM) (v : Nat → Int64) : gm_rg_cellOf (sm_kp_keptWeight σ v) = gm_rg_cellOf σ := rfl
theorem pm_od_weight_kp_keptWeight (σ : SM) (v : Nat → Int64) : gm_od_weight (sm_kp_keptWeight σ v) = gm_od_weight σ := rfl
theorem pm_od_then_kp_keptWeight (σ : SM) (v : Nat → Int64) : gm_od_then (sm_kp_keptWeight σ v) = gm_od_then σ := rfl
theorem pm_od_updates_kp_keptWeight (σ : SM) (v : Nat → Int64) : gm_od_updates (sm_kp_keptWeight σ v) = gm_od_updates σ := rfl
theorem pm_pl_players_kp_keptWeight (σ : SM) (v : Nat → Int64) : gm_pl_players (sm_kp_keptWeight σ v) = gm_pl_players σ := rfl
theorem pm_pl_kindOf_kp_keptWeight (σ : SM) (v : Nat → Int64) : gm_pl_kindOf (sm_kp_keptWeight σ v) = gm_pl_kindOf σ := rfl
theorem pm_pl_placeOf_kp_keptWeight (σ : SM) (v : Nat → Int64) : gm_pl_placeOf (sm_kp_keptWeight σ v) = gm_pl_placeOf σ := rfl
theorem pm_pl_sizeOf_kp_keptWeight (σ : SM) (v : Nat → Int64) : gm_pl_sizeOf (sm_kp_keptWeight σ v) = gm_pl_sizeOf σ := rfl
theorem pm_pl_clothOf_kp_keptWeight (σ : SM) (v : Nat → Int64) : gm_pl_clothOf (sm_kp_keptWeight σ v) = gm_pl_clothOf σ := rfl
theorem pm_pl_giggleOf_kp_keptWeight (σ : SM) (v : Nat → Int64) : gm_pl_giggleOf (sm_kp_keptWeight σ v) = gm_pl_giggleOf σ := rfl
theorem pm_nm_unsure_kp_keptWeight (σ : SM) (v : Nat → Int64) : gm_nm_unsure (sm_kp_keptWeight σ v) = gm_nm_unsure σ := rfl
theorem pm_nm_clothRight_kp_keptWeight (σ : SM) (v : Nat → Int64) : gm_nm_clothRight (sm_kp_keptWeight σ v) = gm_nm_clothRight σ := rfl
theorem pm_nm_giggleRight_kp_keptWeight (σ : SM) (v : Nat → Int64) : gm_nm_giggleRight (sm_kp_keptWeight σ v) = gm_nm_giggleRight σ := rfl
theorem pm_nm_jacketA_kp_keptWeight (σ : SM) (v : Nat → Int64) : gm_nm_jacketA (sm_kp_keptWeight σ v) = gm_nm_jacketA σ := rfl
theorem pm_nm_jacketB_kp_keptWeight (σ : SM) (v : Nat → Int64) : gm_nm_jacketB (sm_kp_keptWeight σ v) = gm_nm_jacketB σ := rfl
theorem pm_nm_jacketTenths_kp_keptWeight (σ : SM) (v : Nat → Int64) : gm_nm_jacketTenths (sm_kp_keptWeight σ v) = gm_nm_jacketTenths σ := rfl
theorem pm_nm_asks_kp_keptWeight (σ : SM) (v : Nat → Int64) : gm_nm_asks (sm_kp_keptWeight σ v) = gm_nm_asks σ := rfl
theorem pm_pg_pageLength_kp_keptWeight (σ : SM) (v : Nat → Int64) : gm_pg_pageLength (sm_kp_keptWeight σ v) = gm_pg_pageLength σ := rfl
theorem pm_pg_page_kp_keptWeight (σ : SM) (v : Nat → Int64) : gm_pg_page (sm_kp_keptWeight σ v) = gm_pg_page σ := rfl
theorem pm_kp_isKept_kp_keptWeight (σ : SM) (v : Nat → Int64) : gm_kp_isKept (sm_kp_keptWeight σ v) = gm_kp_isKept σ := rfl
theorem pm_kp_keptRing_kp_keptWeight (σ : SM) (v : Nat → Int64) : gm_kp_keptRing (sm_kp_keptWeight σ v) = gm_kp_keptRing σ := rfl
theorem pm_kp_keptPlayers_kp_keptWeight (σ : SM) (v : Nat → Int64) : gm_kp_keptPlayers (sm_kp_keptWeight σ v) = gm_kp_keptPlayers σ := rfl
theorem pm_kp_keptUpdates_kp_keptWeight (σ : SM) (v : Nat → Int64) : gm_kp_keptUpdates (sm_kp_keptWeight σ v) = gm_kp_keptUpdates σ := rfl
theorem pm_kp_keptA_kp_keptWeight (σ : SM) (v : Nat → Int64) : gm_kp_keptA (sm_kp_keptWeight σ v) = gm_kp_keptA σ := rfl
theorem pm_kp_keptB_kp_keptWeight (σ : SM) (v : Nat → Int64) : gm_kp_keptB (sm_kp_keptWeight σ v) = gm_kp_keptB σ := rfl
theorem pm_kp_keptTenths_kp_keptWeight (σ : SM) (v : Nat → Int64) : gm_kp_keptTenths (sm_kp_keptWeight σ v) = gm_kp_keptTenths σ := rfl
theorem pm_kp_keptWeight_kp_keptWeight (σ : SM) (v : Nat → Int64) : gm_kp_keptWeight (sm_kp_keptWeight σ v) = v := rfl
theorem pm_kp_keptPlace_kp_keptWeight (σ : SM) (v : Nat → Int64) : gm_kp_keptPlace (sm_kp_keptWeight σ v) = gm_kp_keptPlace σ := rfl
theorem pm_rp_faultAt_kp_keptWeight (σ : SM) (v : Nat → Int64) : gm_rp_faultAt (sm_kp_keptWeight σ v) = gm_rp_faultAt σ := rfl
theorem pm_rp_isWhole_kp_keptWeight (σ : SM) (v : Nat → Int64) : gm_rp_isWhole (sm_kp_keptWeight σ v) = gm_rp_isWhole σ := rfl
theorem pm_rp_newRows_kp_keptWeight (σ : SM) (v : Nat → Int64) : gm_rp_newRows (sm_kp_keptWeight σ v) = gm_rp_newRows σ := rfl
theorem pm_rp_newColumns_kp_keptWeight (σ : SM) (v : Nat → Int64) : gm_rp_newColumns (sm_kp_keptWeight σ v) = gm_rp_newColumns σ := rfl
theorem pm_rp_newCell_kp_keptWeight (σ : SM) (v : Nat → Int64) : gm_rp_newCell (sm_kp_keptWeight σ v) = gm_rp_newCell σ := rfl
theorem pm_rp_gonePost_kp_keptWeight (σ : SM) (v : Nat → Int64) : gm_rp_gonePost (sm_kp_keptWeight σ v) = gm_rp_gonePost σ := rfl
theorem pm_gm_his_kp_keptWeight (σ : SM) (v : Nat → Int64) : gm_gm_his (sm_kp_keptWeight σ v) = gm_gm_his σ := rfl
theorem pm_gm_looks_kp_keptWeight (σ : SM) (v : Nat → Int64) : gm_gm_looks (sm_kp_keptWeight σ v) = gm_gm_looks σ := rfl
theorem pm_gm_seedNow_kp_keptWeight (σ : SM) (v : Nat → Int64) : gm_gm_seedNow (sm_kp_keptWeight σ v) = gm_gm_seedNow σ := rfl
theorem pm_gm_place_kp_keptWeight (σ : SM) (v : Nat → Int64) : gm_gm_place (sm_kp_keptWeight σ v) = gm_gm_place σ := rfl
theorem pm_gm_touched_kp_keptWeight (σ : SM) (v : Nat → Int64) : gm_gm_touched (sm_kp_keptWeight σ v) = gm_gm_touched σ := rfl
theorem pm_gm_touchedAt_kp_keptWeight (σ : SM) (v : Nat → Int64) : gm_gm_touchedAt (sm_kp_keptWeight σ v) = gm_gm_touchedAt σ := rfl
theorem pm_gm_h_kp_keptWeight (σ : SM) (v : Nat → Int64) : gm_gm_h (sm_kp_keptWeight σ v) = gm_gm_h σ := rfl
theorem pm_rg_rows_kp_keptPlace (σ : SM) (v : Nat → Int32) : gm_rg_rows (sm_kp_keptPlace σ v) = gm_rg_rows σ := rfl
theorem pm_rg_columns_kp_keptPlace (σ : SM) (v : Nat → Int32) : gm_rg_columns (sm_kp_keptPlace σ v) = gm_rg_columns σ := rfl
theorem pm_rg_rings_kp_keptPlace (σ : SM) (v : Nat → Int32) : gm_rg_rings (sm_kp_keptPlace σ v) = gm_rg_rings σ := rfl
theorem pm_rg_cellOf_kp_keptPlace (σ : SM) (v : Nat → Int32) : gm_rg_cellOf (sm_kp_keptPlace σ v) = gm_rg_cellOf σ := rfl
theorem pm_od_weight_kp_keptPlace (σ : SM) (v : Nat → Int32) : gm_od_weight (sm_kp_keptPlace σ v) = gm_od_weight σ := rfl
theorem pm_od_then_kp_keptPlace (σ : SM) (v : Nat → Int32) : gm_od_then (sm_kp_keptPlace σ v) = gm_od_then σ := rfl
theorem pm_od_updates_kp_keptPlace (σ : SM) (v : Nat → Int32) : gm_od_updates (sm_kp_keptPlace σ v) = gm_od_updates σ := rfl
theorem pm_pl_players_kp_keptPlace (σ : SM) (v : Nat → Int32) : gm_pl_players (sm_kp_keptPlace σ v) = gm_pl_players σ := rfl
theorem pm_pl_kindOf_kp_keptPlace (σ : SM) (v : Nat → Int32) : gm_pl_kindOf (sm_kp_keptPlace σ v) = gm_pl_kindOf σ := rfl
theorem pm_pl_placeOf_kp_keptPlace (σ : SM) (v : Nat → Int32) : gm_pl_placeOf (sm_kp_keptPlace σ v) = gm_pl_placeOf σ := rfl
theorem pm_pl_sizeOf_kp_keptPlace (σ : SM) (v : Nat → Int32) : gm_pl_sizeOf (sm_kp_keptPlace σ v) = gm_pl_sizeOf σ := rfl
theorem pm_pl_clothOf_kp_keptPlace (σ : SM) (v : Nat → Int32) : gm_pl_clothOf (sm_kp_keptPlace σ v) = gm_pl_clothOf σ := rfl
theorem pm_pl_giggleOf_kp_keptPlace (σ : SM) (v : Nat → Int32) : gm_pl_giggleOf (sm_kp_keptPlace σ v) = gm_pl_giggleOf σ := rfl
theorem pm_nm_unsure_kp_keptPlace (σ : SM) (v : Nat → Int32) : gm_nm_unsure (sm_kp_keptPlace σ v) = gm_nm_unsure σ := rfl
theorem pm_nm_clothRight_kp_keptPlace (σ : SM) (v : Nat → Int32) : gm_nm_clothRight (sm_kp_keptPlace σ v) = gm_nm_clothRight σ := rfl
theorem pm_nm_giggleRight_kp_keptPlace (σ : SM) (v : Nat → Int32) : gm_nm_giggleRight (sm_kp_keptPlace σ v) = gm_nm_giggleRight σ := rfl
theorem pm_nm_jacketA_kp_keptPlace (σ : SM) (v : Nat → Int32) : gm_nm_jacketA (sm_kp_keptPlace σ v) = gm_nm_jacketA σ := rfl
theorem pm_nm_jacketB_kp_keptPlace (σ : SM) (v : Nat → Int32) : gm_nm_jacketB (sm_kp_keptPlace σ v) = gm_nm_jacketB σ := rfl
theorem pm_nm_jacketTenths_kp_keptPlace (σ : SM) (v : Nat → Int32) : gm_nm_jacketTenths (sm_kp_keptPlace σ v) = gm_nm_jacketTenths σ := rfl
theorem pm_nm_asks_kp_keptPlace (σ : SM) (v : Nat → Int32) : gm_nm_asks (sm_kp_keptPlace σ v) = gm_nm_asks σ := rfl
theorem pm_pg_pageLength_kp_keptPlace (σ : SM) (v : Nat → Int32) : gm_pg_pageLength (sm_kp_keptPlace σ v) = gm_pg_pageLength σ := rfl
theorem pm_pg_page_kp_keptPlace (σ : SM) (v : Nat → Int32) : gm_pg_page (sm_kp_keptPlace σ v) = gm_pg_page σ := rfl
theorem pm_kp_isKept_kp_keptPlace (σ : SM) (v : Nat → Int32) : gm_kp_isKept (sm_kp_keptPlace σ v) = gm_kp_isKept σ := rfl
theorem pm_kp_keptRing_kp_keptPlace (σ : SM) (v : Nat → Int32) : gm_kp_keptRing (sm_kp_keptPlace σ v) = gm_kp_keptRing σ := rfl
theorem pm_kp_keptPlayers_kp_keptPlace (σ : SM) (v : Nat → Int32) : gm_kp_keptPlayers (sm_kp_keptPlace σ v) = gm_kp_keptPlayers σ := rfl
theorem pm_kp_keptUpdates_kp_keptPlace (σ : SM) (v : Nat → Int32) : gm_kp_keptUpdates (sm_kp_keptPlace σ v) = gm_kp_keptUpdates σ := rfl
theorem pm_kp_keptA_kp_keptPlace (σ : SM) (v : Nat → Int32) : gm_kp_keptA (sm_kp_keptPlace σ v) = gm_kp_keptA σ := rfl
theorem pm_kp_keptB_kp_keptPlace (σ : SM) (v : Nat → Int32) : gm_kp_keptB (sm_kp_keptPlace σ v) = gm_kp_keptB σ := rfl
theorem pm_kp_keptTenths_kp_keptPlace (σ : SM) (v : Nat → Int32) : gm_kp_keptTenths (sm_kp_keptPlace σ v) = gm_kp_keptTenths σ := rfl
theorem pm_kp_keptWeight_kp_keptPlace (σ : SM) (v : Nat → Int32) : gm_kp_keptWeight (sm_kp_keptPlace σ v) = gm_kp_keptWeight σ := rfl
theorem pm_kp_keptPlace_kp_keptPlace (σ : SM) (v : Nat → Int32) : gm_kp_keptPlace (sm_kp_keptPlace σ v) = v := rfl
theorem pm_rp_faultAt_kp_keptPlace (σ : SM) (v : Nat → Int32) : gm_rp_faultAt (sm_kp_keptPlace σ v) = gm_rp_faultAt σ := rfl
theorem pm_rp_isWhole_kp_keptPlace (σ : SM) (v : Nat → Int32) : gm_rp_isWhole (sm_kp_keptPlace σ v) = gm_rp_isWhole σ := rfl
theorem pm_rp_newRows_kp_keptPlace (σ : SM) (v : Nat → Int32) : gm_rp_newRows (sm_kp_keptPlace σ v) = gm_rp_newRows σ := rfl
theorem pm_rp_newColumns_kp_keptPlace (σ : SM) (v : Nat → Int32) : gm_rp_newColumns (sm_kp_keptPlace σ v) = gm_rp_newColumns σ := rfl
theorem pm_rp_newCell_kp_keptPlace (σ : SM) (v : Nat → Int32) : gm_rp_newCell (sm_kp_keptPlace σ v) = gm_rp_newCell σ := rfl
theorem pm_rp_gonePost_kp_keptPlace (σ : SM) (v : Nat → Int32) : gm_rp_gonePost (sm_kp_keptPlace σ v) = gm_rp_gonePost σ := rfl
theorem pm_gm_his_kp_keptPlace (σ : SM) (v : Nat → Int32) : gm_gm_his (sm_kp_keptPlace σ v) = gm_gm_his σ := rfl
theorem pm_gm_looks_kp_keptPlace (σ : SM) (v : Nat → Int32) : gm_gm_looks (sm_kp_keptPlace σ v) = gm_gm_looks σ := rfl
theorem pm_gm_seedNow_kp_keptPlace (σ : SM) (v : Nat → Int32) : gm_gm_seedNow (sm_kp_keptPlace σ v) = gm_gm_seedNow σ := rfl
theorem pm_gm_place_kp_keptPlace (σ : SM) (v : Nat → Int32) : gm_gm_place (sm_kp_keptPlace σ v) = gm_gm_place σ := rfl
theorem pm_gm_touched_kp_keptPlace (σ : SM) (v : Nat → Int32) : gm_gm_touched (sm_kp_keptPlace σ v) = gm_gm_touched σ := rfl
theorem pm_gm_touchedAt_kp_keptPlace (σ : SM) (v : Nat → Int32) : gm_gm_touchedAt (sm_kp_keptPlace σ v) = gm_gm_touchedAt σ := rfl
theorem pm_gm_h_kp_keptPlace (σ : SM) (v : Nat → Int32) : gm_gm_h (sm_kp_keptPlace σ v) = gm_gm_h σ := rfl
theorem pm_rg_rows_rp_faultAt (σ : SM) (v : Int32) : gm_rg_rows (sm_rp_faultAt σ v) = gm_rg_rows σ := rfl
theorem pm_rg_columns_rp_faultAt (σ : SM) (v : Int32) : gm_rg_columns (sm_rp_faultAt σ v) = gm_rg_columns σ := rfl
theorem pm_rg_rings_rp_faultAt (σ : SM) (v : Int32) : gm_rg_rings (sm_rp_faultAt σ v) = gm_rg_rings σ := rfl
theorem pm_rg_cellOf_rp_faultAt (σ : SM) (v : Int32) : gm_rg_cellOf (sm_rp_faultAt σ v) = gm_rg_cellOf σ := rfl
theorem pm_od_weight_rp_faultAt (σ : SM) (v : Int32) : gm_od_weight (sm_rp_faultAt σ v) = gm_od_weight σ := rfl
theorem pm_od_then_rp_faultAt (σ : SM) (v : Int32) : gm_od_then (sm_rp_faultAt σ v) = gm_od_then σ := rfl
theorem pm_od_updates_rp_faultAt (σ : SM) (v : Int32) : gm_od_updates (sm_rp_faultAt σ v) = gm_od_updates σ := rfl
theorem pm_pl_players_rp_faultAt (σ : SM) (v : Int32) : gm_pl_players (sm_rp_faultAt σ v) = gm_pl_players σ := rfl
theorem pm_pl_kindOf_rp_faultAt (σ : SM) (v : Int32) : gm_pl_kindOf (sm_rp_faultAt σ v) = gm_pl_kindOf σ := rfl
theorem pm_pl_placeOf_rp_faultAt (σ : SM) (v : Int32) : gm_pl_placeOf (sm_rp_faultAt σ v) = gm_pl_placeOf σ := rfl
theorem pm_pl_sizeOf_rp_faultAt (σ : SM) (v : Int32) : gm_pl_sizeOf (sm_rp_faultAt σ v) = gm_pl_sizeOf σ := rfl
theorem pm_pl_clothOf_rp_faultAt (σ : SM) (v : Int32) : gm_pl_clothOf (sm_rp_faultAt σ v) = gm_pl_clothOf σ := rfl
theorem pm_pl_giggleOf_rp_faultAt (σ : SM) (v : Int32) : gm_pl_giggleOf (sm_rp_faultAt σ v) = gm_pl_giggleOf σ := rfl
theorem pm_nm_unsure_rp_faultAt (σ : SM) (v : Int32) : gm_nm_unsure (sm_rp_faultAt σ v) = gm_nm_unsure σ := rfl
theorem pm_nm_clothRight_rp_faultAt (σ : SM) (v : Int32) : gm_nm_clothRight (sm_rp_faultAt σ v) = gm_nm_clothRight σ := rfl
theorem pm_nm_giggleRight_rp_faultAt (σ : SM) (v : Int32) : gm_nm_giggleRight (sm_rp_faultAt σ v) = gm_nm_giggleRight σ := rfl
theorem pm_nm_jacketA_rp_faultAt (σ : SM) (v : Int32) : gm_nm_jacketA (sm_rp_faultAt σ v) = gm_nm_jacketA σ := rfl
theorem pm_nm_jacketB_rp_faultAt (σ : SM) (v : Int32) : gm_nm_jacketB (sm_rp_faultAt σ v) = gm_nm_jacketB σ := rfl
theorem pm_nm_jacketTenths_rp_faultAt (σ : SM) (v : Int32) : gm_nm_jacketTenths (sm_rp_faultAt σ v) = gm_nm_jacketTenths σ := rfl
theorem pm_nm_asks_rp_faultAt (σ : SM) (v : Int32) : gm_nm_asks (sm_rp_faultAt σ v) = gm_nm_asks σ := rfl
theorem pm_pg_pageLength_rp_faultAt (σ : SM) (v : Int32) : gm_pg_pageLength (sm_rp_faultAt σ v) = gm_pg_pageLength σ := rfl
theorem pm_pg_page_rp_faultAt (σ : SM) (v : Int32) : gm_pg_page (sm_rp_faultAt σ v) = gm_pg_page σ := rfl
theorem pm_kp_isKept_rp_faultAt (σ : SM) (v : Int32) : gm_kp_isKept (sm_rp_faultAt σ v) = gm_kp_isKept σ := rfl
theorem pm_kp_keptRing_rp_faultAt (σ : SM) (v : Int32) : gm_kp_keptRing (sm_rp_faultAt σ v) = gm_kp_keptRing σ := rfl
theorem pm_kp_keptPlayers_rp_faultAt (σ : SM) (v : Int32) : gm_kp_keptPlayers (sm_rp_faultAt σ v) = gm_kp_keptPlayers σ := rfl
theorem pm_kp_keptUpdates_rp_faultAt (σ : SM) (v : Int32) : gm_kp_keptUpdates (sm_rp_faultAt σ v) = gm_kp_keptUpdates σ := rfl
theorem pm_kp_keptA_rp_faultAt (σ : SM) (v : Int32) : gm_kp_keptA (sm_rp_faultAt σ v) = gm_kp_keptA σ := rfl
theorem pm_kp_keptB_rp_faultAt (σ : SM) (v : Int32) : gm_kp_keptB (sm_rp_faultAt σ v) = gm_kp_keptB σ := rfl
theorem pm_kp_keptTenths_rp_faultAt (σ : SM) (v : Int32) : gm_kp_keptTenths (sm_rp_faultAt σ v) = gm_kp_keptTenths σ := rfl
theorem pm_kp_keptWeight_rp_faultAt (σ : SM) (v : Int32) : gm_kp_keptWeight (sm_rp_faultAt σ v) = gm_kp_keptWeight σ := rfl
theorem pm_kp_keptPlace_rp_faultAt (σ : SM) (v : Int32) : gm_kp_keptPlace (sm_rp_faultAt σ v) = gm_kp_keptPlace σ := rfl
theorem pm_rp_faultAt_rp_faultAt (σ : SM) (v : Int32) : gm_rp_faultAt (sm_rp_faultAt σ v) = v := rfl
theorem pm_rp_isWhole_rp_faultAt (σ : SM) (v : Int32) : gm_rp_isWhole (sm_rp_faultAt σ v) = gm_rp_isWhole σ := rfl
theorem pm_rp_newRows_rp_faultAt (σ : SM) (v : Int32) : gm_rp_newRows (sm_rp_faultAt σ v) = gm_rp_newRows σ := rfl
theorem pm_rp_newColumns_rp_faultAt (σ : SM) (v : Int32) : gm_rp_newColumns (sm_rp_faultAt σ v) = gm_rp_newColumns σ := rfl
theorem pm_rp_newCell_rp_faultAt (σ : SM) (v : Int32) : gm_rp_newCell (sm_rp_faultAt σ v) = gm_rp_newCell σ := rfl
theorem pm_rp_gonePost_rp_faultAt (σ : SM) (v : Int32) : gm_rp_gonePost (sm_rp_faultAt σ v) = gm_rp_gonePost σ := rfl
theorem pm_gm_his_rp_faultAt (σ : SM) (v : Int32) : gm_gm_his (sm_rp_faultAt σ v) = gm_gm_his σ := rfl
theorem pm_gm_looks_rp_faultAt (σ : SM) (v : Int32) : gm_gm_looks (sm_rp_faultAt σ v) = gm_gm_looks σ := rfl
theorem pm_gm_seedNow_rp_faultAt (σ : SM) (v : Int32) : gm_gm_seedNow (sm_rp_faultAt σ v) = gm_gm_seedNow σ := rfl
theorem pm_gm_place_rp_faultAt (σ : SM) (v : Int32) : gm_gm_place (sm_rp_faultAt σ v) = gm_gm_place σ := rfl
theorem pm_gm_touched_rp_faultAt (σ : SM) (v : Int32) : gm_gm_touched (sm_rp_faultAt σ v) = gm_gm_touched σ := rfl
theorem pm_gm_touchedAt_rp_faultAt (σ : SM) (v : Int32) : gm_gm_touchedAt (sm_rp_faultAt σ v) = gm_gm_touchedAt σ := rfl
theorem pm_gm_h_rp_faultAt (σ : SM) (v : Int32) : gm_gm_h (sm_rp_faultAt σ v) = gm_gm_h σ := rfl
theorem pm_rg_rows_rp_isWhole (σ : SM) (v : Int32) : gm_rg_rows (sm_rp_isWhole σ v) = gm_rg_rows σ := rfl
theorem pm_rg_columns_rp_isWhole (σ : SM) (v : Int32) : gm_rg_columns (sm_rp_isWhole σ v) = gm_rg_columns σ := rfl
theorem pm_rg_rings_rp_isWhole (σ : SM) (v : Int32) : gm_rg_rings (sm_rp_isWhole σ v) = gm_rg_rings σ := rfl
theorem pm_rg_cellOf_rp_isWhole (σ : SM) (v : Int32) : gm_rg_cellOf (sm_rp_isWhole σ v) = gm_rg_cellOf σ := rfl
theorem pm_od_weight_rp_isWhole (σ : SM) (v : Int32) : gm_od_weight (sm_rp_isWhole σ v) = gm_od_weight σ := rfl
theorem pm_od_then_rp_isWhole (σ : SM) (v : Int32) : gm_od_then (sm_rp_isWhole σ v) = gm_od_then σ := rfl
theorem pm_od_updates_rp_isWhole (σ : SM) (v : Int32) : gm_od_updates (sm_rp_isWhole σ v) = gm_od_updates σ := rfl
theorem pm_pl_players_rp_isWhole (σ : SM) (v : Int32) : gm_pl_players (sm_rp_isWhole σ v) = gm_pl_players σ := rfl
theorem pm_pl_kindOf_rp_isWhole (σ : SM) (v : Int32) : gm_pl_kindOf (sm_rp_isWhole σ v) = gm_pl_kindOf σ := rfl
theorem pm_pl_placeOf_rp_isWhole (σ : SM) (v : Int32) : gm_pl_placeOf (sm_rp_isWhole σ v) = gm_pl_placeOf σ := rfl
theorem pm_pl_sizeOf_rp_isWhole (σ : SM) (v : Int32) : gm_pl_sizeOf (sm_rp_isWhole σ v) = gm_pl_sizeOf σ := rfl
theorem pm_pl_clothOf_rp_isWhole (σ : SM) (v : Int32) : gm_pl_clothOf (sm_rp_isWhole σ v) = gm_pl_clothOf σ := rfl
theorem pm_pl_giggleOf_rp_isWhole (σ : SM) (v : Int32) : gm_pl_giggleOf (sm_rp_isWhole σ v) = gm_pl_giggleOf σ := rfl
theorem pm_nm_unsure_rp_isWhole (σ : SM) (v : Int32) : gm_nm_unsure (sm_rp_isWhole σ v) = gm_nm_unsure σ := rfl
theorem pm_nm_clothRight_rp_isWhole (σ : SM) (v : Int32) : gm_nm_clothRight (sm_rp_isWhole σ v) = gm_nm_clothRight σ := rfl
theorem pm_nm_giggleRight_rp_isWhole (σ : SM) (v : Int32) : gm_nm_giggleRight (sm_rp_isWhole σ v) = gm_nm_giggleRight σ := rfl
theorem pm_nm_jacketA_rp_isWhole (σ : SM) (v : Int32) : gm_nm_jacketA (sm_rp_isWhole σ v) = gm_nm_jacketA σ := rfl
theorem pm_nm_jacketB_rp_isWhole (σ : SM) (v : Int32) : gm_nm_jacketB (sm_rp_isWhole σ v) = gm_nm_jacketB σ := rfl
theorem pm_nm_jacketTenths_rp_isWhole (σ : SM) (v : Int32) : gm_nm_jacketTenths (sm_rp_isWhole σ v) = gm_nm_jacketTenths σ := rfl
theorem pm_nm_asks_rp_isWhole (σ : SM) (v : Int32) : gm_nm_asks (sm_rp_isWhole σ v) = gm_nm_asks σ := rfl
theorem pm_pg_pageLength_rp_isWhole (σ : SM) (v : Int32) : gm_pg_pageLength (sm_rp_isWhole σ v) = gm_pg_pageLength σ := rfl
theorem pm_pg_page_rp_isWhole (σ : SM) (v : Int32) : gm_pg_page (sm_rp_isWhole σ v) = gm_pg_page σ := rfl
theorem pm_kp_isKept_rp_isWhole (σ : SM) (v : Int32) : gm_kp_isKept (sm_rp_isWhole σ v) = gm_kp_isKept σ := rfl
theorem pm_kp_keptRing_rp_isWhole (σ : SM) (v : Int32) : gm_kp_keptRing (sm_rp_isWhole σ v) = gm_kp_keptRing σ := rfl
theorem pm_kp_keptPlayers_rp_isWhole (σ : SM) (v : Int32) : gm_kp_keptPlayers (sm_rp_isWhole σ v) = gm_kp_keptPlayers σ := rfl
theorem pm_kp_keptUpdates_rp_isWhole (σ : SM) (v : Int32) : gm_kp_keptUpdates (sm_rp_isWhole σ v) = gm_kp_keptUpdates σ := rfl
theorem pm_kp_keptA_rp_isWhole (σ : SM) (v : Int32) : gm_kp_keptA (sm_rp_isWhole σ v) = gm_kp_keptA σ := rfl
theorem pm_kp_keptB_rp_isWhole (σ : SM) (v : Int32) : gm_kp_keptB (sm_rp_isWhole σ v) = gm_kp_keptB σ := rfl
theorem pm_kp_keptTenths_rp_isWhole (σ : SM) (v : Int32) : gm_kp_keptTenths (sm_rp_isWhole σ v) = gm_kp_keptTenths σ := rfl
theorem pm_kp_keptWeight_rp_isWhole (σ : SM) (v : Int32) : gm_kp_keptWeight (sm_rp_isWhole σ v) = gm_kp_keptWeight σ := rfl
theorem pm_kp_keptPlace_rp_isWhole (σ : SM) (v : Int32) : gm_kp_keptPlace (sm_rp_isWhole σ v) = gm_kp_keptPlace σ := rfl
theorem pm_rp_faultAt_rp_isWhole (σ : SM) (v : Int32) : gm_rp_faultAt (sm_rp_isWhole σ v) = gm_rp_faultAt σ := rfl
theorem pm_rp_isWhole_rp_isWhole (σ : SM) (v : Int32) : gm_rp_isWhole (sm_rp_isWhole σ v) = v := rfl
theorem pm_rp_newRows_rp_isWhole (σ : SM) (v : Int32) : gm_rp_newRows (sm_rp_isWhole σ v) = gm_rp_newRows σ := rfl
theorem pm_rp_newColumns_rp_isWhole (σ : SM) (v : Int32) : gm_rp_newColumns (sm_rp_isWhole σ v) = gm_rp_newColumns σ := rfl
theorem pm_rp_newCell_rp_isWhole (σ : SM) (v : Int32) : gm_rp_newCell (sm_rp_isWhole σ v) = gm_rp_newCell σ := rfl
theorem pm_rp_gonePost_rp_isWhole (σ : SM) (v : Int32) : gm_rp_gonePost (sm_rp_isWhole σ v) = gm_rp_gonePost σ := rfl
theorem pm_gm_his_rp_isWhole (σ : SM) (v : Int32) : gm_gm_his (sm_rp_isWhole σ v) = gm_gm_his σ := rfl
theorem pm_gm_looks_rp_isWhole (σ : SM) (v : Int32) : gm_gm_looks (sm_rp_isWhole σ v) = gm_gm_looks σ := rfl
theorem pm_gm_seedNow_rp_isWhole (σ : SM) (v : Int32) : gm_gm_seedNow (sm_rp_isWhole σ v) = gm_gm_seedNow σ := rfl
theorem pm_gm_place_rp_isWhole (σ : SM) (v : Int32) : gm_gm_place (sm_rp_isWhole σ v) = gm_gm_place σ := rfl
theorem pm_gm_touched_rp_isWhole (σ : SM) (v : Int32) : gm_gm_touched (sm_rp_isWhole σ v) = gm_gm_touched σ := rfl
theorem pm_gm_touchedAt_rp_isWhole (σ : SM) (v : Int32) : gm_gm_touchedAt (sm_rp_isWhole σ v) = gm_gm_touchedAt σ := rfl
theorem pm_gm_h_rp_isWhole (σ : SM) (v : Int32) : gm_gm_h (sm_rp_isWhole σ v) = gm_gm_h σ := rfl
theorem pm_rg_rows_rp_newRows (σ : SM) (v : Int32) : gm_rg_rows (sm_rp_newRows σ v) = gm_rg_rows σ := rfl
theorem pm_rg_columns_rp_newRows (σ : SM) (v : Int32) : gm_rg_columns (sm_rp_newRows σ v) = gm_rg_columns σ := rfl
theorem pm_rg_rings_rp_newRows (σ : SM) (v : Int32) : gm_rg_rings (sm_rp_newRows σ v) = gm_rg_rings σ := rfl
theorem pm_rg_cellOf_rp_newRows (σ : SM) (v : Int32) : gm_rg_cellOf (sm_rp_newRows σ v) = gm_rg_cellOf σ := rfl
theorem pm_od_weight_rp_newRows (σ : SM) (v : Int32) : gm_od_weight (sm_rp_newRows σ v) = gm_od_weight σ := rfl
theorem pm_od_then_rp_newRows (σ : SM) (v : Int32) : gm_od_then (sm_rp_newRows σ v) = gm_od_then σ := rfl
theorem pm_od_updates_rp_newRows (σ : SM) (v : Int32) : gm_od_updates (sm_rp_newRows σ v) = gm_od_updates σ := rfl
theorem pm_pl_players_rp_newRows (σ : SM) (v : Int32) : gm_pl_players (sm_rp_newRows σ v) = gm_pl_players σ := rfl
theorem pm_pl_kindOf_rp_newRows (σ : SM) (v : Int32) : gm_pl_kindOf (sm_rp_newRows σ v) = gm_pl_kindOf σ := rfl
theorem pm_pl_placeOf_rp_newRows (σ : SM) (v : Int32) : gm_pl_placeOf (sm_rp_newRows σ v) = gm_pl_placeOf σ := rfl
theorem pm_pl_sizeOf_rp_newRows (σ : SM) (v : Int32) : gm_pl_sizeOf (sm_rp_newRows σ v) = gm_pl_sizeOf σ := rfl
theorem pm_pl_clothOf_rp_newRows (σ : SM) (v : Int32) : gm_pl_clothOf (sm_rp_newRows σ v) = gm_pl_clothOf σ := rfl
theorem pm_pl_giggleOf_rp_newRows (σ : SM) (v : Int32) : gm_pl_giggleOf (sm_rp_newRows σ v) = gm_pl_giggleOf σ := rfl
theorem pm_nm_unsure_rp_newRows (σ : SM) (v : Int32) : gm_nm_unsure (sm_rp_newRows σ v) = gm_nm_unsure σ := rfl
theorem pm_nm_clothRight_rp_newRows (σ : SM) (v : Int32) : gm_nm_clothRight (sm_rp_newRows σ v) = gm_nm_clothRight σ := rfl
theorem pm_nm_giggleRight_rp_newRows (σ : SM) (v : Int32) : gm_nm_giggleRight (sm_rp_newRows σ v) = gm_nm_giggleRight σ := rfl
theorem pm_nm_jacketA_rp_newRows (σ : SM) (v : Int32) : gm_nm_jacketA (sm_rp_newRows σ v) = gm_nm_jacketA σ := rfl
theorem pm_nm_jacketB_rp_newRows (σ : SM) (v : Int32) : gm_nm_jacketB (sm_rp_newRows σ v) = gm_nm_jacketB σ := rfl
theorem pm_nm_jacketTenths_rp_newRows (σ : SM) (v : Int32) : gm_nm_jacketTenths (sm_rp_newRows σ v) = gm_nm_jacketTenths σ := rfl
theorem pm_nm_asks_rp_newRows (σ : SM) (v : Int32) : gm_nm_asks (sm_rp_newRows σ v) = gm_nm_asks σ := rfl
theorem pm_pg_pageLength_rp_newRows (σ : SM) (v : Int32) : gm_pg_pageLength (sm_rp_newRows σ v) = gm_pg_pageLength σ := rfl
theorem pm_pg_page_rp_newRows (σ : SM) (v : Int32) : gm_pg_page (sm_rp_newRows σ v) = gm_pg_page σ := rfl
theorem pm_kp_isKept_rp_newRows (σ : SM) (v : Int32) : gm_kp_isKept (sm_rp_newRows σ v) = gm_kp_isKept σ := rfl
theorem pm_kp_keptRing_rp_newRows (σ : SM) (v : Int32) : gm_kp_keptRing (sm_rp_newRows σ v) = gm_kp_keptRing σ := rfl
theorem pm_kp_keptPlayers_rp_newRows (σ : SM) (v : Int32) : gm_kp_keptPlayers (sm_rp_newRows σ v) = gm_kp_keptPlayers σ := rfl
theorem pm_kp_keptUpdates_rp_newRows (σ : SM) (v : Int32) : gm_kp_keptUpdates (sm_rp_newRows σ v) = gm_kp_keptUpdates σ := rfl
theorem pm_kp_keptA_rp_newRows (σ : SM) (v : Int32) : gm_kp_keptA (sm_rp_newRows σ v) = gm_kp_keptA σ := rfl
theorem pm_kp_keptB_rp_newRows (σ : SM) (v : Int32) : gm_kp_keptB (sm_rp_newRows σ v) = gm_kp_keptB σ := rfl
theorem pm_kp_keptTenths_rp_newRows (σ : SM) (v : Int32) : gm_kp_keptTenths (sm_rp_newRows σ v) = gm_kp_keptTenths σ := rfl
theorem pm_kp_keptWeight_rp_newRows (σ : SM) (v : Int32) : gm_kp_keptWeight (sm_rp_newRows σ v) = gm_kp_keptWeight σ := rfl
theorem pm_kp_keptPlace_rp_newRows (σ : SM) (v : Int32) : gm_kp_keptPlace (sm_rp_newRows σ v) = gm_kp_keptPlace σ := rfl
theorem pm_rp_faultAt_rp_newRows (σ : SM) (v : Int32) : gm_rp_faultAt (sm_rp_newRows σ v) = gm_rp_faultAt σ := rfl
theorem pm_rp_isWhole_rp_newRows (σ : SM) (v : Int32) : gm_rp_isWhole (sm_rp_newRows σ v) = gm_rp_isWhole σ := rfl
theorem pm_rp_newRows_rp_newRows (σ : SM) (v : Int32) : gm_rp_newRows (sm_rp_newRows σ v) = v := rfl
theorem pm_rp_newColumns_rp_newRows (σ : SM) (v : Int32) : gm_rp_newColumns (sm_rp_newRows σ v) = gm_rp_newColumns σ := rfl
theorem pm_rp_newCell_rp_newRows (σ : SM) (v : Int32) : gm_rp_newCell (sm_rp_newRows σ v) = gm_rp_newCell σ := rfl
theorem pm_rp_gonePost_rp_newRows (σ : SM) (v : Int32) : gm_rp_gonePost (sm_rp_newRows σ v) = gm_rp_gonePost σ := rfl
theorem pm_gm_his_rp_newRows (σ : SM) (v : Int32) : gm_gm_his (sm_rp_newRows σ v) = gm_gm_his σ := rfl
theorem pm_gm_looks_rp_newRows (σ : SM) (v : Int32) : gm_gm_looks (sm_rp_newRows σ v) = gm_gm_looks σ := rfl
theorem pm_gm_seedNow_rp_newRows (σ : SM) (v : Int32) : gm_gm_seedNow (sm_rp_newRows σ v) = gm_gm_seedNow σ := rfl
theorem pm_gm_place_rp_newRows (σ : SM) (v : Int32) : gm_gm_place (sm_rp_newRows σ v) = gm_gm_place σ := rfl
theorem pm_gm_touched_rp_newRows (σ : SM) (v : Int32) : gm_gm_touched (sm_rp_newRows σ v) = gm_gm_touched σ := rfl
theorem pm_gm_touchedAt_rp_newRows (σ : SM) (v : Int32) : gm_gm_touchedAt (sm_rp_newRows σ v) = gm_gm_touchedAt σ := rfl
theorem pm_gm_h_rp_newRows (σ : SM) (v : Int32) : gm_gm_h (sm_rp_newRows σ v) = gm_gm_h σ := rfl
theorem pm_rg_rows_rp_newColumns (σ : SM) (v : Int32) : gm_rg_rows (sm_rp_newColumns σ v) = gm_rg_rows σ := rfl
theorem pm_rg_columns_rp_newColumns (σ : SM) (v : Int32) : gm_rg_columns (sm_rp_newColumns σ v) = gm_rg_columns σ := rfl
theorem pm_rg_rings_rp_newColumns (σ : SM) (v : Int32) : gm_rg_rings (sm_rp_newColumns σ v) = gm_rg_rings σ := rfl
theorem pm_rg_cellOf_rp_newColumns (σ : SM) (v : Int32) : gm_rg_cellOf (sm_rp_newColumns σ v) = gm_rg_cellOf σ := rfl
theorem pm_od_weight_rp_newColumns (σ : SM) (v : Int32) : gm_od_weight (sm_rp_newColumns σ v) = gm_od_weight σ := rfl
theorem pm_od_then_rp_newColumns (σ : SM) (v : Int32) : gm_od_then (sm_rp_newColumns σ v) = gm_od_then σ := rfl
theorem pm_od_updates_rp_newColumns (σ : SM) (v : Int32) : gm_od_updates (sm_rp_newColumns σ v) = gm_od_updates σ := rfl
theorem pm_pl_players_rp_newColumns (σ : SM) (v : Int32) : gm_pl_players (sm_rp_newColumns σ v) = gm_pl_players σ := rfl
theorem pm_pl_kindOf_rp_newColumns (σ : SM) (v : Int32) : gm_pl_kindOf (sm_rp_newColumns σ v) = gm_pl_kindOf σ := rfl
theorem pm_pl_placeOf_rp_newColumns (σ : SM) (v : Int32) : gm_pl_placeOf (sm_rp_newColumns σ v) = gm_pl_placeOf σ := rfl
theorem pm_pl_sizeOf_rp_newColumns (σ : SM) (v : Int32) : gm_pl_sizeOf (sm_rp_newColumns σ v) = gm_pl_sizeOf σ := rfl
theorem pm_pl_clothOf_rp_newColumns (σ : SM) (v : Int32) : gm_pl_clothOf (sm_rp_newColumns σ v) = gm_pl_clothOf σ := rfl
theorem pm_pl_giggleOf_rp_newColumns (σ : SM) (v : Int32) : gm_pl_giggleOf (sm_rp_newColumns σ v) = gm_pl_giggleOf σ := rfl
theorem pm_nm_unsure_rp_newColumns (σ : SM) (v : Int32) : gm_nm_unsure (sm_rp_newColumns σ v) = gm_nm_unsure σ := rfl
theorem pm_nm_clothRight_rp_newColumns (σ : SM) (v : Int32) : gm_nm_clothRight (sm_rp_newColumns σ v) = gm_nm_clothRight σ := rfl
theorem pm_nm_giggleRight_rp_newColumns (σ : SM) (v : Int32) : gm_nm_giggleRight (sm_rp_newColumns σ v) = gm_nm_giggleRight σ := rfl
theorem pm_nm_jacketA_rp_newColumns (σ : SM) (v : Int32) : gm_nm_jacketA (sm_rp_newColumns σ v) = gm_nm_jacketA σ := rfl
theorem pm_nm_jacketB_rp_newColumns (σ : SM) (v : Int32) : gm_nm_jacketB (sm_rp_newColumns σ v) = gm_nm_jacketB σ := rfl
theorem pm_nm_jacketTenths_rp_newColumns (σ : SM) (v : Int32) : gm_nm_jacketTenths (sm_rp_newColumns σ v) = gm_nm_jacketTenths σ := rfl
theorem pm_nm_asks_rp_newColumns (σ : SM) (v : Int32) : gm_nm_asks (sm_rp_newColumns σ v) = gm_nm_asks σ := rfl
theorem pm_pg_pageLength_rp_newColumns (σ : SM) (v : Int32) : gm_pg_pageLength (sm_rp_newColumns σ v) = gm_pg_pageLength σ := rfl
theorem pm_pg_page_rp_newColumns (σ : SM) (v : Int32) : gm_pg_page (sm_rp_newColumns σ v) = gm_pg_page σ := rfl
theorem pm_kp_isKept_rp_newColumns (σ : SM) (v : Int32) : gm_kp_isKept (sm_rp_newColumns σ v) = gm_kp_isKept σ := rfl
theorem pm_kp_keptRing_rp_newColumns (σ : SM) (v : Int32) : gm_kp_keptRing (sm_rp_newColumns σ v) = gm_kp_keptRing σ := rfl
theorem pm_kp_keptPlayers_rp_newColumns (σ : SM) (v : Int32) : gm_kp_keptPlayers (sm_rp_newColumns σ v) = gm_kp_keptPlayers σ := rfl
theorem pm_kp_keptUpdates_rp_newColumns (σ : SM) (v : Int32) : gm_kp_keptUpdates (sm_rp_newColumns σ v) = gm_kp_keptUpdates σ := rfl
theorem pm_kp_keptA_rp_newColumns (σ : SM) (v : Int32) : gm_kp_keptA (sm_rp_newColumns σ v) = gm_kp_keptA σ := rfl
theorem pm_kp_keptB_rp_newColumns (σ : SM) (v : Int32) : gm_kp_keptB (sm_rp_newColumns σ v) = gm_kp_keptB σ := rfl
theorem pm_kp_keptTenths_rp_newColumns (σ : SM) (v : Int32) : gm_kp_keptTenths (sm_rp_newColumns σ v) = gm_kp_keptTenths σ := rfl
theorem pm_kp_keptWeight_rp_newColumns (σ : SM) (v : Int32) : gm_kp_keptWeight (sm_rp_newColumns σ v) = gm_kp_keptWeight σ := rfl
theorem pm_kp_keptPlace_rp_newColumns (σ : SM) (v : Int32) : gm_kp_keptPlace (sm_rp_newColumns σ v) = gm_kp_keptPlace σ := rfl
theorem pm_rp_faultAt_rp_newColumns (σ : SM) (v : Int32) : gm_rp_faultAt (sm_rp_newColumns σ v) = gm_rp_faultAt σ := rfl
theorem pm_rp_isWhole_rp_newColumns (σ : SM) (v : Int32) : gm_rp_isWhole (sm_rp_newColumns σ v) = gm_rp_isWhole σ := rfl
theorem pm_rp_newRows_rp_newColumns (σ : SM) (v : Int32) : gm_rp_newRows (sm_rp_newColumns σ v) = gm_rp_newRows σ := rfl
theorem pm_rp_newColumns_rp_newColumns (σ : SM) (v : Int32) : gm_rp_newColumns (sm_rp_newColumns σ v) = v := rfl
theorem pm_rp_newCell_rp_newColumns (σ : SM) (v : Int32) : gm_rp_newCell (sm_rp_newColumns σ v) = gm_rp_newCell σ := rfl
theorem pm_rp_gonePost_rp_newColumns (σ : SM) (v : Int32) : gm_rp_gonePost (sm_rp_newColumns σ v) = gm_rp_gonePost σ := rfl
theorem pm_gm_his_rp_newColumns (σ : SM) (v : Int32) : gm_gm_his (sm_rp_newColumns σ v) = gm_gm_his σ := rfl
theorem pm_gm_looks_rp_newColumns (σ : SM) (v : Int32) : gm_gm_looks (sm_rp_newColumns σ v) = gm_gm_looks σ := rfl
theorem pm_gm_seedNow_rp_newColumns (σ : SM) (v : Int32) : gm_gm_seedNow (sm_rp_newColumns σ v) = gm_gm_seedNow σ := rfl
theorem pm_gm_place_rp_newColumns (σ : SM) (v : Int32) : gm_gm_place (sm_rp_newColumns σ v) = gm_gm_place σ := rfl
theorem pm_gm_touched_rp_newColumns (σ : SM) (v : Int32) : gm_gm_touched (sm_rp_newColumns σ v) = gm_gm_touched σ := rfl
theorem pm_gm_touchedAt_rp_newColumns (σ : SM) (v : Int32) : gm_gm_touchedAt (sm_rp_newColumns σ v) = gm_gm_touchedAt σ := rfl
theorem pm_gm_h_rp_newColumns (σ : SM) (v : Int32) : gm_gm_h (sm_rp_newColumns σ v) = gm_gm_h σ := rfl
theorem pm_rg_rows_rp_newCell (σ : SM) (v : Nat → Int32) : gm_rg_rows (sm_rp_newCell σ v) = gm_rg_rows σ := rfl
theorem pm_rg_columns_rp_newCell (σ : SM) (v : Nat → Int32) : gm_rg_columns (sm_rp_newCell σ v) = gm_rg_columns σ := rfl
theorem pm_rg_rings_rp_newCell (σ : SM) (v : Nat → Int32) : gm_rg_rings (sm_rp_newCell σ v) = gm_rg_rings σ := rfl
theorem pm_rg_cellOf_rp_newCell (σ : SM) (v : Nat → Int32) : gm_rg_cellOf (sm_rp_newCell σ v) = gm_rg_cellOf σ := rfl
theorem pm_od_weight_rp_newCell (σ : SM) (v : Nat → Int32) : gm_od_weight (sm_rp_newCell σ v) = gm_od_weight σ := rfl
theorem pm_od_then_rp_newCell (σ : SM) (v : Nat → Int32) : gm_od_then (sm_rp_newCell σ v) = gm_od_then σ := rfl
theorem pm_od_updates_rp_newCell (σ : SM) (v : Nat → Int32) : gm_od_updates (sm_rp_newCell σ v) = gm_od_updates σ := rfl
theorem pm_pl_players_rp_newCell (σ : SM) (v : Nat → Int32) : gm_pl_players (sm_rp_newCell σ v) = gm_pl_players σ := rfl
theorem pm_pl_kindOf_rp_newCell (σ : SM) (v : Nat → Int32) : gm_pl_kindOf (sm_rp_newCell σ v) = gm_pl_kindOf σ := rfl
theorem pm_pl_placeOf_rp_newCell (σ : SM) (v : Nat → Int32) : gm_pl_placeOf (sm_rp_newCell σ v) = gm_pl_placeOf σ := rfl
theorem pm_pl_sizeOf_rp_newCell (σ : SM) (v : Nat → Int32) : gm_pl_sizeOf (sm_rp_newCell σ v) = gm_pl_sizeOf σ := rfl
theorem pm_pl_clothOf_rp_newCell (σ : SM) (v : Nat → Int32) : gm_pl_clothOf (sm_rp_newCell σ v) = gm_pl_clothOf σ := rfl
theorem pm_pl_giggleOf_rp_newCell (σ : SM) (v : Nat → Int32) : gm_pl_giggleOf (sm_rp_newCell σ v) = gm_pl_giggleOf σ := rfl
theorem pm_nm_unsure_rp_newCell (σ : SM) (v : Nat → Int32) : gm_nm_unsure (sm_rp_newCell σ v) = gm_nm_unsure σ := rfl
theorem pm_nm_clothRight_rp_newCell (σ : SM) (v : Nat → Int32) : gm_nm_clothRight (sm_rp_newCell σ v) = gm_nm_clothRight σ := rfl
theorem pm_nm_giggleRight_rp_newCell (σ : SM) (v : Nat → Int32) : gm_nm_giggleRight (sm_rp_newCell σ v) = gm_nm_giggleRight σ := rfl
theorem pm_nm_jacketA_rp_newCell (σ : SM) (v : Nat → Int32) : gm_nm_jacketA (sm_rp_newCell σ v) = gm_nm_jacketA σ := rfl
theorem pm_nm_jacketB_rp_newCell (σ : SM) (v : Nat → Int32) : gm_nm_jacketB (sm_rp_newCell σ v) = gm_nm_jacketB σ := rfl
theorem pm_nm_jacketTenths_rp_newCell (σ : SM) (v : Nat → Int32) : gm_nm_jacketTenths (sm_rp_newCell σ v) = gm_nm_jacketTenths σ := rfl
theorem pm_nm_asks_rp_newCell (σ : SM) (v : Nat → Int32) : gm_nm_asks (sm_rp_newCell σ v) = gm_nm_asks σ := rfl
theorem pm_pg_pageLength_rp_newCell (σ : SM) (v : Nat → Int32) : gm_pg_pageLength (sm_rp_newCell σ v) = gm_pg_pageLength σ := rfl
theorem pm_pg_page_rp_newCell (σ : SM) (v : Nat → Int32) : gm_pg_page (sm_rp_newCell σ v) = gm_pg_page σ := rfl
theorem pm_kp_isKept_rp_newCell (σ : SM) (v : Nat → Int32) : gm_kp_isKept (sm_rp_newCell σ v) = gm_kp_isKept σ := rfl
theorem pm_kp_keptRing_rp_newCell (σ : SM) (v : Nat → Int32) : gm_kp_keptRing (sm_rp_newCell σ v) = gm_kp_keptRing σ := rfl
theorem pm_kp_keptPlayers_rp_newCell (σ : SM) (v : Nat → Int32) : gm_kp_keptPlayers (sm_rp_newCell σ v) = gm_kp_keptPlayers σ := rfl
theorem pm_kp_keptUpdates_rp_newCell (σ : SM) (v : Nat → Int32) : gm_kp_keptUpdates (sm_rp_newCell σ v) = gm_kp_keptUpdates σ := rfl
theorem pm_kp_keptA_rp_newCell (σ : SM) (v : Nat → Int32) : gm_kp_keptA (sm_rp_newCell σ v) = gm_kp_keptA σ := rfl
theorem pm_kp_keptB_rp_newCell (σ : SM) (v : Nat → Int32) : gm_kp_keptB (sm_rp_newCell σ v) = gm_kp_keptB σ := rfl
theorem pm_kp_keptTenths_rp_newCell (σ : SM) (v : Nat → Int32) : gm_kp_keptTenths (sm_rp_newCell σ v) = gm_kp_keptTenths σ := rfl
theorem pm_kp_keptWeight_rp_newCell (σ : SM) (v : Nat → Int32) : gm_kp_keptWeight (sm_rp_newCell σ v) = gm_kp_keptWeight σ := rfl
theorem pm_kp_keptPlace_rp_newCell (σ : SM) (v : Nat → Int32) : gm_kp_keptPlace (sm_rp_newCell σ v) = gm_kp_keptPlace σ := rfl
theorem pm_rp_faultAt_rp_newCell (σ : SM) (v : Nat → Int32) : gm_rp_faultAt (sm_rp_newCell σ v) = gm_rp_faultAt σ := rfl
theorem pm_rp_isWhole_rp_newCell (σ : SM) (v : Nat → Int32) : gm_rp_isWhole (sm_rp_newCell σ v) = gm_rp_isWhole σ := rfl
theorem pm_rp_newRows_rp_newCell (σ : SM) (v : Nat → Int32) : gm_rp_newRows (sm_rp_newCell σ v) = gm_rp_newRows σ := rfl
theorem pm_rp_newColumns_rp_newCell (σ : SM) (v : Nat → Int32) : gm_rp_newColumns (sm_rp_newCell σ v) = gm_rp_newColumns σ := rfl
theorem pm_rp_newCell_rp_newCell (σ : SM) (v : Nat → Int32) : gm_rp_newCell (sm_rp_newCell σ v) = v := rfl
theorem pm_rp_gonePost_rp_newCell (σ : SM) (v : Nat → Int32) : gm_rp_gonePost (sm_rp_newCell σ v) = gm_rp_gonePost σ := rfl
theorem pm_gm_his_rp_newCell (σ : SM) (v : Nat → Int32) : gm_gm_his (sm_rp_newCell σ v) = gm_gm_his σ := rfl
theorem pm_gm_looks_rp_newCell (σ : SM) (v : Nat → Int32) : gm_gm_looks (sm_rp_newCell σ v) = gm_gm_looks σ := rfl
theorem pm_gm_seedNow_rp_newCell (σ : SM) (v : Nat → Int32) : gm_gm_seedNow (sm_rp_newCell σ v) = gm_gm_seedNow σ := rfl
theorem pm_gm_place_rp_newCell (σ : SM) (v : Nat → Int32) : gm_gm_place (sm_rp_newCell σ v) = gm_gm_place σ := rfl
theorem pm_gm_touched_rp_newCell (σ : SM) (v : Nat → Int32) : gm_gm_touched (sm_rp_newCell σ v) = gm_gm_touched σ := rfl
theorem pm_gm_touchedAt_rp_newCell (σ : SM) (v : Nat → Int32) : gm_gm_touchedAt (sm_rp_newCell σ v) = gm_gm_touchedAt σ := rfl
theorem pm_gm_h_rp_newCell (σ : SM) (v : Nat → Int32) : gm_gm_h (sm_rp_newCell σ v) = gm_gm_h σ := rfl
theorem pm_rg_rows_rp_gonePost (σ : SM) (v : Int32) : gm_rg_rows (sm_rp_gonePost σ v) = gm_rg_rows σ := rfl
theorem pm_rg_columns_rp_gonePost (σ : SM) (v : Int32) : gm_rg_columns (sm_rp_gonePost σ v) = gm_rg_columns σ := rfl
theorem pm_rg_rings_rp_gonePost (σ : SM) (v : Int32) : gm_rg_rings (sm_rp_gonePost σ v) = gm_rg_rings σ := rfl
theorem pm_rg_cellOf_rp_gonePost (σ : SM) (v : Int32) : gm_rg_cellOf (sm_rp_gonePost σ v) = gm_rg_cellOf σ := rfl
theorem pm_od_weight_rp_gonePost (σ : SM) (v : Int32) : gm_od_weight (sm_rp_gonePost σ v) = gm_od_weight σ := rfl
theorem pm_od_then_rp_gonePost (σ : SM) (v : Int32) : gm_od_then (sm_rp_gonePost σ v) = gm_od_then σ := rfl
theorem pm_od_updates_rp_gonePost (σ : SM) (v : Int32) : gm_od_updates (sm_rp_gonePost σ v) = gm_od_updates σ := rfl
theorem pm_pl_players_rp_gonePost (σ : SM) (v : Int32) : gm_pl_players (sm_rp_gonePost σ v) = gm_pl_players σ := rfl
theorem pm_pl_kindOf_rp_gonePost (σ : SM) (v : Int32) : gm_pl_kindOf (sm_rp_gonePost σ v) = gm_pl_kindOf σ := rfl
theorem pm_pl_placeOf_rp_gonePost (σ : SM) (v : Int32) : gm_pl_placeOf (sm_rp_gonePost σ v) = gm_pl_placeOf σ := rfl
theorem pm_pl_sizeOf_rp_gonePost (σ : SM) (v : Int32) : gm_pl_sizeOf (sm_rp_gonePost σ v) = gm_pl_sizeOf σ := rfl
theorem pm_pl_clothOf_rp_gonePost (σ : SM) (v : Int32) : gm_pl_clothOf (sm_rp_gonePost σ v) = gm_pl_clothOf σ := rfl
theorem pm_pl_giggleOf_rp_gonePost (σ : SM) (v : Int32) : gm_pl_giggleOf (sm_rp_gonePost σ v) = gm_pl_giggleOf σ := rfl
theorem pm_nm_unsure_rp_gonePost (σ : SM) (v : Int32) : gm_nm_unsure (sm_rp_gonePost σ v) = gm_nm_unsure σ := rfl
theorem pm_nm_clothRight_rp_gonePost (σ : SM) (v : Int32) : gm_nm_clothRight (sm_rp_gonePost σ v) = gm_nm_clothRight σ := rfl
theorem pm_nm_giggleRight_rp_gonePost (σ : SM) (v : Int32) : gm_nm_giggleRight (sm_rp_gonePost σ v) = gm_nm_giggleRight σ := rfl
theorem pm_nm_jacketA_rp_gonePost (σ : SM) (v : Int32) : gm_nm_jacketA (sm_rp_gonePost σ v) = gm_nm_jacketA σ := rfl
theorem pm_nm_jacketB_rp_gonePost (σ : SM) (v : Int32) : gm_nm_jacketB (sm_rp_gonePost σ v) = gm_nm_jacketB σ := rfl
theorem pm_nm_jacketTenths_rp_gonePost (σ : SM) (v : Int32) : gm_nm_jacketTenths (sm_rp_gonePost σ v) = gm_nm_jacketTenths σ := rfl
theorem pm_nm_asks_rp_gonePost (σ : SM) (v : Int32) : gm_nm_asks (sm_rp_gonePost σ v) = gm_nm_asks σ := rfl
theorem pm_pg_pageLength_rp_gonePost (σ : SM) (v : Int32) : gm_pg_pageLength (sm_rp_gonePost σ v) = gm_pg_pageLength σ := rfl
theorem pm_pg_page_rp_gonePost (σ : SM) (v : Int32) : gm_pg_page (sm_rp_gonePost σ v) = gm_pg_page σ := rfl
theorem pm_kp_isKept_rp_gonePost (σ : SM) (v : Int32) : gm_kp_isKept (sm_rp_gonePost σ v) = gm_kp_isKept σ := rfl
theorem pm_kp_keptRing_rp_gonePost (σ : SM) (v : Int32) : gm_kp_keptRing (sm_rp_gonePost σ v) = gm_kp_keptRing σ := rfl
theorem pm_kp_keptPlayers_rp_gonePost (σ : SM) (v : Int32) : gm_kp_keptPlayers (sm_rp_gonePost σ v) = gm_kp_keptPlayers σ := rfl
theorem pm_kp_keptUpdates_rp_gonePost (σ : SM) (v : Int32) : gm_kp_keptUpdates (sm_rp_gonePost σ v) = gm_kp_keptUpdates σ := rfl
theorem pm_kp_keptA_rp_gonePost (σ : SM) (v : Int32) : gm_kp_keptA (sm_rp_gonePost σ v) = gm_kp_keptA σ := rfl
theorem pm_kp_keptB_rp_gonePost (σ : SM) (v : Int32) : gm_kp_keptB (sm_rp_gonePost σ v) = gm_kp_keptB σ := rfl
theorem pm_kp_keptTenths_rp_gonePost (σ : SM) (v : Int32) : gm_kp_keptTenths (sm_rp_gonePost σ v) = gm_kp_keptTenths σ := rfl
theorem pm_kp_keptWeight_rp_gonePost (σ : SM) (v : Int32) : gm_kp_keptWeight (sm_rp_gonePost σ v) = gm_kp_keptWeight σ := rfl
theorem pm_kp_keptPlace_rp_gonePost (σ : SM) (v : Int32) : gm_kp_keptPlace (sm_rp_gonePost σ v) = gm_kp_keptPlace σ := rfl
theorem pm_rp_faultAt_rp_gonePost (σ : SM) (v : Int32) : gm_rp_faultAt (sm_rp_gonePost σ v) = gm_rp_faultAt σ := rfl
theorem pm_rp_isWhole_rp_gonePost (σ : SM) (v : Int32) : gm_rp_isWhole (sm_rp_gonePost σ v) = gm_rp_isWhole σ := rfl
theorem pm_rp_newRows_rp_gonePost (σ : SM) (v : Int32) : gm_rp_newRows (sm_rp_gonePost σ v) = gm_rp_newRows σ := rfl
theorem pm_rp_newColumns_rp_gonePost (σ : SM) (v : Int32) : gm_rp_newColumns (sm_rp_gonePost σ v) = gm_rp_newColumns σ := rfl
theorem pm_rp_newCell_rp_gonePost (σ : SM) (v : Int32) : gm_rp_newCell (sm_rp_gonePost σ v) = gm_rp_newCell σ := rfl
theorem pm_rp_gonePost_rp_gonePost (σ : SM) (v : Int32) : gm_rp_gonePost (sm_rp_gonePost σ v) = v := rfl
theorem pm_gm_his_rp_gonePost (σ : SM) (v : Int32) : gm_gm_his (sm_rp_gonePost σ v) = gm_gm_his σ := rfl
theorem pm_gm_looks_rp_gonePost (σ : SM) (v : Int32) : gm_gm_looks (sm_rp_gonePost σ v) = gm_gm_looks σ := rfl
theorem pm_gm_seedNow_rp_gonePost (σ : SM) (v : Int32) : gm_gm_seedNow (sm_rp_gonePost σ v) = gm_gm_seedNow σ := rfl
theorem pm_gm_place_rp_gonePost (σ : SM) (v : Int32) : gm_gm_place (sm_rp_gonePost σ v) = gm_gm_place σ := rfl
theorem pm_gm_touched_rp_gonePost (σ : SM) (v : Int32) : gm_gm_touched (sm_rp_gonePost σ v) = gm_gm_touched σ := rfl
theorem pm_gm_touchedAt_rp_gonePost (σ : SM) (v : Int32) : gm_gm_touchedAt (sm_rp_gonePost σ v) = gm_gm_touchedAt σ := rfl
theorem pm_gm_h_rp_gonePost (σ : SM) (v : Int32) : gm_gm_h (sm_rp_gonePost σ v) = gm_gm_h σ := rfl
theorem pm_rg_rows_gm_his (σ : SM) (v : Int32) : gm_rg_rows (sm_gm_his σ v) = gm_rg_rows σ := rfl
theorem pm_rg_columns_gm_his (σ : SM) (v : Int32) : gm_rg_columns (sm_gm_his σ v) = gm_rg_columns σ := rfl
theorem pm_rg_rings_gm_his (σ : SM) (v : Int32) : gm_rg_rings (sm_gm_his σ v) = gm_rg_rings σ := rfl
theorem pm_rg_cellOf_gm_his (σ : SM) (v : Int32) : gm_rg_cellOf (sm_gm_his σ v) = gm_rg_cellOf σ := rfl
theorem pm_od_weight_gm_his (σ : SM) (v : Int32) : gm_od_weight (sm_gm_his σ v) = gm_od_weight σ := rfl
theorem pm_od_then_gm_his (σ : SM) (v : Int32) : gm_od_then (sm_gm_his σ v) = gm_od_then σ := rfl
theorem pm_od_updates_gm_his (σ : SM) (v : Int32) : gm_od_updates (sm_gm_his σ v) = gm_od_updates σ := rfl
theorem pm_pl_players_gm_his (σ : SM) (v : Int32) : gm_pl_players (sm_gm_his σ v) = gm_pl_players σ := rfl
theorem pm_pl_kindOf_gm_his (σ : SM) (v : Int32) : gm_pl_kindOf (sm_gm_his σ v) = gm_pl_kindOf σ := rfl
theorem pm_pl_placeOf_gm_his (σ : SM) (v : Int32) : gm_pl_placeOf (sm_gm_his σ v) = gm_pl_placeOf σ := rfl
theorem pm_pl_sizeOf_gm_his (σ : SM) (v : Int32) : gm_pl_sizeOf (sm_gm_his σ v) = gm_pl_sizeOf σ := rfl
theorem pm_pl_clothOf_gm_his (σ : SM) (v : Int32) : gm_pl_clothOf (sm_gm_his σ v) = gm_pl_clothOf σ := rfl
theorem pm_pl_giggleOf_gm_his (σ : SM) (v : Int32) : gm_pl_giggleOf (sm_gm_his σ v) = gm_pl_giggleOf σ := rfl
theorem pm_nm_unsure_gm_his (σ : SM) (v : Int32) : gm_nm_unsure (sm_gm_his σ v) = gm_nm_unsure σ := rfl
theorem pm_nm_clothRight_gm_his (σ : SM) (v : Int32) : gm_nm_clothRight (sm_gm_his σ v) = gm_nm_clothRight σ := rfl
theorem pm_nm_giggleRight_gm_his (σ : SM) (v : Int32) : gm_nm_giggleRight (sm_gm_his σ v) = gm_nm_giggleRight σ := rfl
theorem pm_nm_jacketA_gm_his (σ : SM) (v : Int32) : gm_nm_jacketA (sm_gm_his σ v) = gm_nm_jacketA σ := rfl
theorem pm_nm_jacketB_gm_his (σ : SM) (v : Int32) : gm_nm_jacketB (sm_gm_his σ v) = gm_nm_jacketB σ := rfl
theorem pm_nm_jacketTenths_gm_his (σ : SM) (v : Int32) : gm_nm_jacketTenths (sm_gm_his σ v) = gm_nm_jacketTenths σ := rfl
theorem pm_nm_asks_gm_his (σ : SM) (v : Int32) : gm_nm_asks (sm_gm_his σ v) = gm_nm_asks σ := rfl
theorem pm_pg_pageLength_gm_his (σ : SM) (v : Int32) : gm_pg_pageLength (sm_gm_his σ v) = gm_pg_pageLength σ := rfl
theorem pm_pg_page_gm_his (σ : SM) (v : Int32) : gm_pg_page (sm_gm_his σ v) = gm_pg_page σ := rfl
theorem pm_kp_isKept_gm_his (σ : SM) (v : Int32) : gm_kp_isKept (sm_gm_his σ v) = gm_kp_isKept σ := rfl
theorem pm_kp_keptRing_gm_his (σ : SM) (v : Int32) : gm_kp_keptRing (sm_gm_his σ v) = gm_kp_keptRing σ := rfl
theorem pm_kp_keptPlayers_gm_his (σ : SM) (v : Int32) : gm_kp_keptPlayers (sm_gm_his σ v) = gm_kp_keptPlayers σ := rfl
theorem pm_kp_keptUpdates_gm_his (σ : SM) (v : Int32) : gm_kp_keptUpdates (sm_gm_his σ v) = gm_kp_keptUpdates σ := rfl
theorem pm_kp_keptA_gm_his (σ : SM) (v : Int32) : gm_kp_keptA (sm_gm_his σ v) = gm_kp_keptA σ := rfl
theorem pm_kp_keptB_gm_his (σ : SM) (v : Int32) : gm_kp_keptB (sm_gm_his σ v) = gm_kp_keptB σ := rfl
theorem pm_kp_keptTenths_gm_his (σ : SM) (v : Int32) : gm_kp_keptTenths (sm_gm_his σ v) = gm_kp_keptTenths σ := rfl
theorem pm_kp_keptWeight_gm_his (σ : SM) (v : Int32) : gm_kp_keptWeight (sm_gm_his σ v) = gm_kp_keptWeight σ := rfl
theorem pm_kp_keptPlace_gm_his (σ : SM) (v : Int32) : gm_kp_keptPlace (sm_gm_his σ v) = gm_kp_keptPlace σ := rfl
theorem pm_rp_faultAt_gm_his (σ : SM) (v : Int32) : gm_rp_faultAt (sm_gm_his σ v) = gm_rp_faultAt σ := rfl
theorem pm_rp_isWhole_gm_his (σ : SM) (v : Int32) : gm_rp_isWhole (sm_gm_his σ v) = gm_rp_isWhole σ := rfl
theorem pm_rp_newRows_gm_his (σ : SM) (v : Int32) : gm_rp_newRows (sm_gm_his σ v) = gm_rp_newRows σ := rfl
theorem pm_rp_newColumns_gm_his (σ : SM) (v : Int32) : gm_rp_newColumns (sm_gm_his σ v) = gm_rp_newColumns σ := rfl
theorem pm_rp_newCell_gm_his (σ : SM) (v : Int32) : gm_rp_newCell (sm_gm_his σ v) = gm_rp_newCell σ := rfl
theorem pm_rp_gonePost_gm_his (σ : SM) (v : Int32) : gm_rp_gonePost (sm_gm_his σ v) = gm_rp_gonePost σ := rfl
theorem pm_gm_his_gm_his (σ : SM) (v : Int32) : gm_gm_his (sm_gm_his σ v) = v := rfl
theorem pm_gm_looks_gm_his (σ : SM) (v : Int32) : gm_gm_looks (sm_gm_his σ v) = gm_gm_looks σ := rfl
theorem pm_gm_seedNow_gm_his (σ : SM) (v : Int32) : gm_gm_seedNow (sm_gm_his σ v) = gm_gm_seedNow σ := rfl
theorem pm_gm_place_gm_his (σ : SM) (v : Int32) : gm_gm_place (sm_gm_his σ v) = gm_gm_place σ := rfl
theorem pm_gm_touched_gm_his (σ : SM) (v : Int32) : gm_gm_touched (sm_gm_his σ v) = gm_gm_touched σ := rfl
theorem pm_gm_touchedAt_gm_his (σ : SM) (v : Int32) : gm_gm_touchedAt (sm_gm_his σ v) = gm_gm_touchedAt σ := rfl
theorem pm_gm_h_gm_his (σ : SM) (v : Int32) : gm_gm_h (sm_gm_his σ v) = gm_gm_h σ := rfl
theorem pm_rg_rows_gm_looks (σ : SM) (v : Int32) : gm_rg_rows (sm_gm_looks σ v) = gm_rg_rows σ := rfl
theorem pm_rg_columns_gm_looks (σ : SM) (v : Int32) : gm_rg_columns (sm_gm_looks σ v) = gm_rg_columns σ := rfl
theorem pm_rg_rings_gm_looks (σ : SM) (v : Int32) : gm_rg_rings (sm_gm_looks σ v) = gm_rg_rings σ := rfl
theorem pm_rg_cellOf_gm_looks (σ : SM) (v : Int32) : gm_rg_cellOf (sm_gm_looks σ v) = gm_rg_cellOf σ := rfl
theorem pm_od_weight_gm_looks (σ : SM) (v : Int32) : gm_od_weight (sm_gm_looks σ v) = gm_od_weight σ := rfl
theorem pm_od_then_gm_looks (σ : SM) (v : Int32) : gm_od_then (sm_gm_looks σ v) = gm_od_then σ := rfl
theorem pm_od_updates_gm_looks (σ : SM) (v : Int32) : gm_od_updates (sm_gm_looks σ v) = gm_od_updates σ := rfl
theorem pm_pl_players_gm_looks (σ : SM) (v : Int32) : gm_pl_players (sm_gm_looks σ v) = gm_pl_players σ := rfl
theorem pm_pl_kindOf_gm_looks (σ : SM) (v : Int32) : gm_pl_kindOf (sm_gm_looks σ v) = gm_pl_kindOf σ := rfl
theorem pm_pl_placeOf_gm_looks (σ : SM) (v : Int32) : gm_pl_placeOf (sm_gm_looks σ v) = gm_pl_placeOf σ := rfl
theorem pm_pl_sizeOf_gm_looks (σ : SM) (v : Int32) : gm_pl_sizeOf (sm_gm_looks σ v) = gm_pl_sizeOf σ := rfl
theorem pm_pl_clothOf_gm_looks (σ : SM) (v : Int32) : gm_pl_clothOf (sm_gm_looks σ v) = gm_pl_clothOf σ := rfl
theorem pm_pl_giggleOf_gm_looks (σ : SM) (v : Int32) : gm_pl_giggleOf (sm_gm_looks σ v) = gm_pl_giggleOf σ := rfl
theorem pm_nm_unsure_gm_looks (σ : SM) (v : Int32) : gm_nm_unsure (sm_gm_looks σ v) = gm_nm_unsure σ := rfl
theorem pm_nm_clothRight_gm_looks (σ : SM) (v : Int32) : gm_nm_clothRight (sm_gm_looks σ v) = gm_nm_clothRight σ := rfl
theorem pm_nm_giggleRight_gm_looks (σ : SM) (v : Int32) : gm_nm_giggleRight (sm_gm_looks σ v) = gm_nm_giggleRight σ := rfl
theorem pm_nm_jacketA_gm_looks (σ : SM) (v : Int32) : gm_nm_jacketA (sm_gm_looks σ v) = gm_nm_jacketA σ := rfl
theorem pm_nm_jacketB_gm_looks (σ : SM) (v : Int32) : gm_nm_jacketB (sm_gm_looks σ v) = gm_nm_jacketB σ := rfl
theorem pm_nm_jacketTenths_gm_looks (σ : SM) (v : Int32) : gm_nm_jacketTenths (sm_gm_looks σ v) = gm_nm_jacketTenths σ := rfl
theorem pm_nm_asks_gm_looks (σ : SM) (v : Int32) : gm_nm_asks (sm_gm_looks σ v) = gm_nm_asks σ := rfl
theorem pm_pg_pageLength_gm_looks (σ : SM) (v : Int32) : gm_pg_pageLength (sm_gm_looks σ v) = gm_pg_pageLength σ := rfl
theorem pm_pg_page_gm_looks (σ : SM) (v : Int32) : gm_pg_page (sm_gm_looks σ v) = gm_pg_page σ := rfl
theorem pm_kp_isKept_gm_looks (σ : SM) (v : Int32) : gm_kp_isKept (sm_gm_looks σ v) = gm_kp_isKept σ := rfl
theorem pm_kp_keptRing_gm_looks (σ : SM) (v : Int32) : gm_kp_keptRing (sm_gm_looks σ v) = gm_kp_keptRing σ := rfl
theorem pm_kp_keptPlayers_gm_looks (σ : SM) (v : Int32) : gm_kp_keptPlayers (sm_gm_looks σ v) = gm_kp_keptPlayers σ := rfl
theorem pm_kp_keptUpdates_gm_looks (σ : SM) (v : Int32) : gm_kp_keptUpdates (sm_gm_looks σ v) = gm_kp_keptUpdates σ := rfl
theorem pm_kp_keptA_gm_looks (σ : SM) (v : Int32) : gm_kp_keptA (sm_gm_looks σ v) = gm_kp_keptA σ := rfl
theorem pm_kp_keptB_gm_looks (σ : SM) (v : Int32) : gm_kp_keptB (sm_gm_looks σ v) = gm_kp_keptB σ := rfl
theorem pm_kp_keptTenths_gm_looks (σ : SM) (v : Int32) : gm_kp_keptTenths (sm_gm_looks σ v) = gm_kp_keptTenths σ := rfl
theorem pm_kp_keptWeight_gm_looks (σ : SM) (v : Int32) : gm_kp_keptWeight (sm_gm_looks σ v) = gm_kp_keptWeight σ := rfl
theorem pm_kp_keptPlace_gm_looks (σ : SM) (v : Int32) : gm_kp_keptPlace (sm_gm_looks σ v) = gm_kp_keptPlace σ := rfl
theorem pm_rp_faultAt_gm_looks (σ : SM) (v : Int32) : gm_rp_faultAt (sm_gm_looks σ v) = gm_rp_faultAt σ := rfl
theorem pm_rp_isWhole_gm_looks (σ : SM) (v : Int32) : gm_rp_isWhole (sm_gm_looks σ v) = gm_rp_isWhole σ := rfl
theorem pm_rp_newRows_gm_looks (σ : SM) (v : Int32) : gm_rp_newRows (sm_gm_looks σ v) = gm_rp_newRows σ := rfl
theorem pm_rp_newColumns_gm_looks (σ : SM) (v : Int32) : gm_rp_newColumns (sm_gm_looks σ v) = gm_rp_newColumns σ := rfl
theorem pm_rp_newCell_gm_looks (σ : SM) (v : Int32) : gm_rp_newCell (sm_gm_looks σ v) = gm_rp_newCell σ := rfl
theorem pm_rp_gonePost_gm_looks (σ : SM) (v : Int32) : gm_rp_gonePost (sm_gm_looks σ v) = gm_rp_gonePost σ := rfl
theorem pm_gm_his_gm_looks (σ : SM) (v : Int32) : gm_gm_his (sm_gm_looks σ v) = gm_gm_his σ := rfl
theorem pm_gm_looks_gm_looks (σ : SM) (v : Int32) : gm_gm_looks (sm_gm_looks σ v) = v := rfl
theorem pm_gm_seedNow_gm_looks (σ : SM) (v : Int32) : gm_gm_seedNow (sm_gm_looks σ v) = gm_gm_seedNow σ := rfl
theorem pm_gm_place_gm_looks (σ : SM) (v : Int32) : gm_gm_place (sm_gm_looks σ v) = gm_gm_place σ := rfl
theorem pm_gm_touched_gm_looks (σ : SM) (v : Int32) : gm_gm_touched (sm_gm_looks σ v) = gm_gm_touched σ := rfl
theorem pm_gm_touchedAt_gm_looks (σ : SM) (v : Int32) : gm_gm_touchedAt (sm_gm_looks σ v) = gm_gm_touchedAt σ := rfl
theorem pm_gm_h_gm_looks (σ : SM) (v : Int32) : gm_gm_h (sm_gm_looks σ v) = gm_gm_h σ := rfl
theorem pm_rg_rows_gm_seedNow (σ : SM) (v : Int64) : gm_rg_rows (sm_gm_seedNow σ v) = gm_rg_rows σ := rfl
theorem pm_rg_columns_gm_seedNow (σ : SM) (v : Int64) : gm_rg_columns (sm_gm_seedNow σ v) = gm_rg_columns σ := rfl
theorem pm_rg_rings_gm_seedNow (σ : SM) (v : Int64) : gm_rg_rings (sm_gm_seedNow σ v) = gm_rg_rings σ := rfl
theorem pm_rg_cellOf_gm_seedNow (σ : SM) (v : Int64) : gm_rg_cellOf (sm_gm_seedNow σ v) = gm_rg_cellOf σ := rfl
theorem pm_od_weight_gm_seedNow (σ : SM) (v : Int64) : gm_od_weight (sm_gm_seedNow σ v) = gm_od_weight σ := rfl
theorem pm_od_then_gm_seedNow (σ : SM) (v : Int64) : gm_od_then (sm_gm_seedNow σ v) = gm_od_then σ := rfl
theorem pm_od_updates_gm_seedNow (σ : SM) (v : Int64) : gm_od_updates (sm_gm_seedNow σ v) = gm_od_updates σ := rfl
theorem pm_pl_players_gm_seedNow (σ : SM) (v : Int64) : gm_pl_players (sm_gm_seedNow σ v) = gm_pl_players σ := rfl
theorem pm_pl_kindOf_gm_seedNow (σ : SM) (v : Int64) : gm_pl_kindOf (sm_gm_seedNow σ v) = gm_pl_kindOf σ := rfl
theorem pm_pl_placeOf_gm_seedNow (σ : SM) (v : Int64) : gm_pl_placeOf (sm_gm_seedNow σ v) = gm_pl_placeOf σ := rfl
theorem pm_pl_sizeOf_gm_seedNow (σ : SM) (v : Int64) : gm_pl_sizeOf (sm_gm_seedNow σ v) = gm_pl_sizeOf σ := rfl
theorem pm_pl_clothOf_gm_seedNow (σ : SM) (v : Int64) : gm_pl_clothOf (sm_gm_seedNow σ v) = gm_pl_clothOf σ := rfl
theorem pm_pl_giggleOf_gm_seedNow (σ : SM) (v : Int64) : gm_pl_giggleOf (sm_gm_seedNow σ v) = gm_pl_giggleOf σ := rfl
theorem pm_nm_unsure_gm_seedNow (σ : SM) (v : Int64) : gm_nm_unsure (sm_gm_seedNow σ v) = gm_nm_unsure σ := rfl
theorem pm_nm_clothRight_gm_seedNow (σ : SM) (v : Int64) : gm_nm_clothRight (sm_gm_seedNow σ v) = gm_nm_clothRight σ := rfl
theorem pm_nm_giggleRight_gm_seedNow (σ : SM) (v : Int64) : gm_nm_giggleRight (sm_gm_seedNow σ v) = gm_nm_giggleRight σ := rfl
theorem pm_nm_jacketA_gm_seedNow (σ : SM) (v : Int64) : gm_nm_jacketA (sm_gm_seedNow σ v) = gm_nm_jacketA σ := rfl
theorem pm_nm_jacketB_gm_seedNow (σ : SM) (v : Int64) : gm_nm_jacketB (sm_gm_seedNow σ v) = gm_nm_jacketB σ := rfl
theorem pm_nm_jacketTenths_gm_seedNow (σ : SM) (v : Int64) : gm_nm_jacketTenths (sm_gm_seedNow σ v) = gm_nm_jacketTenths σ := rfl
theorem pm_nm_asks_gm_seedNow (σ : SM) (v : Int64) : gm_nm_asks (sm_gm_seedNow σ v) = gm_nm_asks σ := rfl
theorem pm_pg_pageLength_gm_seedNow (σ : SM) (v : Int64) : gm_pg_pageLength (sm_gm_seedNow σ v) = gm_pg_pageLength σ := rfl
theorem pm_pg_page_gm_seedNow (σ : SM) (v : Int64) : gm_pg_page (sm_gm_seedNow σ v) = gm_pg_page σ := rfl
theorem pm_kp_isKept_gm_seedNow (σ : SM) (v : Int64) : gm_kp_isKept (sm_gm_seedNow σ v) = gm_kp_isKept σ := rfl
theorem pm_kp_keptRing_gm_seedNow (σ : SM) (v : Int64) : gm_kp_keptRing (sm_gm_seedNow σ v) = gm_kp_keptRing σ := rfl
theorem pm_kp_keptPlayers_gm_seedNow (σ : SM) (v : Int64) : gm_kp_keptPlayers (sm_gm_seedNow σ v) = gm_kp_keptPlayers σ := rfl
theorem pm_kp_keptUpdates_gm_seedNow (σ : SM) (v : Int64) : gm_kp_keptUpdates (sm_gm_seedNow σ v) = gm_kp_keptUpdates σ := rfl
theorem pm_kp_keptA_gm_seedNow (σ : SM) (v : Int64) : gm_kp_keptA (sm_gm_seedNow σ v) = gm_kp_keptA σ := rfl
theorem pm_kp_keptB_gm_seedNow (σ : SM) (v : Int64) : gm_kp_keptB (sm_gm_seedNow σ v) = gm_kp_keptB σ := rfl
theorem pm_kp_keptTenths_gm_seedNow (σ : SM) (v : Int64) : gm_kp_keptTenths (sm_gm_seedNow σ v) = gm_kp_keptTenths σ := rfl
theorem pm_kp_keptWeight_gm_seedNow (σ : SM) (v : Int64) : gm_kp_keptWeight (sm_gm_seedNow σ v) = gm_kp_keptWeight σ := rfl
theorem pm_kp_keptPlace_gm_seedNow (σ : SM) (v : Int64) : gm_kp_keptPlace (sm_gm_seedNow σ v) = gm_kp_keptPlace σ := rfl
theorem pm_rp_faultAt_gm_seedNow (σ : SM) (v : Int64) : gm_rp_faultAt (sm_gm_seedNow σ v) = gm_rp_faultAt σ := rfl
theorem pm_rp_isWhole_gm_seedNow (σ : SM) (v : Int64) : gm_rp_isWhole (sm_gm_seedNow σ v) = gm_rp_isWhole σ := rfl
theorem pm_rp_newRows_gm_seedNow (σ : SM) (v : Int64) : gm_rp_newRows (sm_gm_seedNow σ v) = gm_rp_newRows σ := rfl
theorem pm_rp_newColumns_gm_seedNow (σ : SM) (v : Int64) : gm_rp_newColumns (sm_gm_seedNow σ v) = gm_rp_newColumns σ := rfl
theorem pm_rp_newCell_gm_seedNow (σ : SM) (v : Int64) : gm_rp_newCell (sm_gm_seedNow σ v) = gm_rp_newCell σ := rfl
theorem pm_rp_gonePost_gm_seedNow (σ : SM) (v : Int64) : gm_rp_gonePost (sm_gm_seedNow σ v) = gm_rp_gonePost σ := rfl
theorem pm_gm_his_gm_seedNow (σ : SM) (v : Int64) : gm_gm_his (sm_gm_seedNow σ v) = gm_gm_his σ := rfl
theorem pm_gm_looks_gm_seedNow (σ : SM) (v : Int64) : gm_gm_looks (sm_gm_seedNow σ v) = gm_gm_looks σ := rfl
theorem pm_gm_seedNow_gm_seedNow (σ : SM) (v : Int64) : gm_gm_seedNow (sm_gm_seedNow σ v) = v := rfl
theorem pm_gm_place_gm_seedNow (σ : SM) (v : Int64) : gm_gm_place (sm_gm_seedNow σ v) = gm_gm_place σ := rfl
theorem pm_gm_touched_gm_seedNow (σ : SM) (v : Int64) : gm_gm_touched (sm_gm_seedNow σ v) = gm_gm_touched σ := rfl
theorem pm_gm_touchedAt_gm_seedNow (σ : SM) (v : Int64) : gm_gm_touchedAt (sm_gm_seedNow σ v) = gm_gm_touchedAt σ := rfl
theorem pm_gm_h_gm_seedNow (σ : SM) (v : Int64) : gm_gm_h (sm_gm_seedNow σ v) = gm_gm_h σ := rfl
theorem pm_rg_rows_gm_place (σ : SM) (v : Nat → Int32) : gm_rg_rows (sm_gm_place σ v) = gm_rg_rows σ := rfl
theorem pm_rg_columns_gm_place (σ : SM) (v : Nat → Int32) : gm_rg_columns (sm_gm_place σ v) = gm_rg_columns σ := rfl
theorem pm_rg_rings_gm_place (σ : SM) (v : Nat → Int32) : gm_rg_rings (sm_gm_place σ v) = gm_rg_rings σ := rfl
theorem pm_rg_cellOf_gm_place (σ : SM) (v : Nat → Int32) : gm_rg_cellOf (sm_gm_place σ v) = gm_rg_cellOf σ := rfl
theorem pm_od_weight_gm_place (σ : SM) (v : Nat → Int32) : gm_od_weight (sm_gm_place σ v) = gm_od_weight σ := rfl
theorem pm_od_then_gm_place (σ : SM) (v : Nat → Int32) : gm_od_then (sm_gm_place σ v) = gm_od_then σ := rfl
theorem pm_od_updates_gm_place (σ : SM) (v : Nat → Int32) : gm_od_updates (sm_gm_place σ v) = gm_od_updates σ := rfl
theorem pm_pl_players_gm_place (σ : SM) (v : Nat → Int32) : gm_pl_players (sm_gm_place σ v) = gm_pl_players σ := rfl
theorem pm_pl_kindOf_gm_place (σ : SM) (v : Nat → Int32) : gm_pl_kindOf (sm_gm_place σ v) = gm_pl_kindOf σ := rfl
theorem pm_pl_placeOf_gm_place (σ : SM) (v : Nat → Int32) : gm_pl_placeOf (sm_gm_place σ v) = gm_pl_placeOf σ := rfl
theorem pm_pl_sizeOf_gm_place (σ : SM) (v : Nat → Int32) : gm_pl_sizeOf (sm_gm_place σ v) = gm_pl_sizeOf σ := rfl
theorem pm_pl_clothOf_gm_place (σ : SM) (v : Nat → Int32) : gm_pl_clothOf (sm_gm_place σ v) = gm_pl_clothOf σ := rfl
theorem pm_pl_giggleOf_gm_place (σ : SM) (v : Nat → Int32) : gm_pl_giggleOf (sm_gm_place σ v) = gm_pl_giggleOf σ := rfl
theorem pm_nm_unsure_gm_place (σ : SM) (v : Nat → Int32) : gm_nm_unsure (sm_gm_place σ v) = gm_nm_unsure σ := rfl
theorem pm_nm_clothRight_gm_place (σ : SM) (v : Nat → Int32) : gm_nm_clothRight (sm_gm_place σ v) = gm_nm_clothRight σ := rfl
theorem pm_nm_giggleRight_gm_place (σ : SM) (v : Nat → Int32) : gm_nm_giggleRight (sm_gm_place σ v) = gm_nm_giggleRight σ := rfl
theorem pm_nm_jacketA_gm_place (σ : SM) (v : Nat → Int32) : gm_nm_jacketA (sm_gm_place σ v) = gm_nm_jacketA σ := rfl
theorem pm_nm_jacketB_gm_place (σ : SM) (v : Nat → Int32) : gm_nm_jacketB (sm_gm_place σ v) = gm_nm_jacketB σ := rfl
theorem pm_nm_jacketTenths_gm_place (σ : SM) (v : Nat → Int32) : gm_nm_jacketTenths (sm_gm_place σ v) = gm_nm_jacketTenths σ := rfl
theorem pm_nm_asks_gm_place (σ : SM) (v : Nat → Int32) : gm_nm_asks (sm_gm_place σ v) = gm_nm_asks σ := rfl
theorem pm_pg_pageLength_gm_place (σ : SM) (v : Nat → Int32) : gm_pg_pageLength (sm_gm_place σ v) = gm_pg_pageLength σ := rfl
theorem pm_pg_page_gm_place (σ : SM) (v : Nat → Int32) : gm_pg_page (sm_gm_place σ v) = gm_pg_page σ := rfl
theorem pm_kp_isKept_gm_place (σ : SM) (v : Nat → Int32) : gm_kp_isKept (sm_gm_place σ v) = gm_kp_isKept σ := rfl
theorem pm_kp_keptRing_gm_place (σ : SM) (v : Nat → Int32) : gm_kp_keptRing (sm_gm_place σ v) = gm_kp_keptRing σ := rfl
theorem pm_kp_keptPlayers_gm_place (σ : SM) (v : Nat → Int32) : gm_kp_keptPlayers (sm_gm_place σ v) = gm_kp_keptPlayers σ := rfl
theorem pm_kp_keptUpdates_gm_place (σ : SM) (v : Nat → Int32) : gm_kp_keptUpdates (sm_gm_place σ v) = gm_kp_keptUpdates σ := rfl
theorem pm_kp_keptA_gm_place (σ : SM) (v : Nat → Int32) : gm_kp_keptA (sm_gm_place σ v) = gm_kp_keptA σ := rfl
theorem pm_kp_keptB_gm_place (σ : SM) (v : Nat → Int32) : gm_kp_keptB (sm_gm_place σ v) = gm_kp_keptB σ := rfl
theorem pm_kp_keptTenths_gm_place (σ : SM) (v : Nat → Int32) : gm_kp_keptTenths (sm_gm_place σ v) = gm_kp_keptTenths σ := rfl
theorem pm_kp_keptWeight_gm_place (σ : SM) (v : Nat → Int32) : gm_kp_keptWeight (sm_gm_place σ v) = gm_kp_keptWeight σ := rfl
theorem pm_kp_keptPlace_gm_place (σ : SM) (v : Nat → Int32) : gm_kp_keptPlace (sm_gm_place σ v) = gm_kp_keptPlace σ := rfl
theorem pm_rp_faultAt_gm_place (σ : SM) (v : Nat → Int32) : gm_rp_faultAt (sm_gm_place σ v) = gm_rp_faultAt σ := rfl
theorem pm_rp_isWhole_gm_place (σ : SM) (v : Nat → Int32) : gm_rp_isWhole (sm_gm_place σ v) = gm_rp_isWhole σ := rfl
theorem pm_rp_newRows_gm_place (σ : SM) (v : Nat → Int32) : gm_rp_newRows (sm_gm_place σ v) = gm_rp_newRows σ := rfl
theorem pm_rp_newColumns_gm_place (σ : SM) (v : Nat → Int32) : gm_rp_newColumns (sm_gm_place σ v) = gm_rp_newColumns σ := rfl
theorem pm_rp_newCell_gm_place (σ : SM) (v : Nat → Int32) : gm_rp_newCell (sm_gm_place σ v) = gm_rp_newCell σ := rfl
theorem pm_rp_gonePost_gm_place (σ : SM) (v : Nat → Int32) : gm_rp_gonePost (sm_gm_place σ v) = gm_rp_gonePost σ := rfl
theorem pm_gm_his_gm_place (σ : SM) (v : Nat → Int32) : gm_gm_his (sm_gm_place σ v) = gm_gm_his σ := rfl
theorem pm_gm_looks_gm_place (σ : SM) (v : Nat → Int32) : gm_gm_looks (sm_gm_place σ v) = gm_gm_looks σ := rfl
theorem pm_gm_seedNow_gm_place (σ : SM) (v : Nat → Int32) : gm_gm_seedNow (sm_gm_place σ v) = gm_gm_seedNow σ := rfl
theorem pm_gm_place_gm_place (σ : SM) (v : Nat → Int32) : gm_gm_place (sm_gm_place σ v) = v := rfl
theorem pm_gm_touched_gm_place (σ : SM) (v : Nat → Int32) : gm_gm_touched (sm_gm_place σ v) = gm_gm_touched σ := rfl
theorem pm_gm_touchedAt_gm_place (σ : SM) (v : Nat → Int32) : gm_gm_touchedAt (sm_gm_place σ v) = gm_gm_touchedAt σ := rfl
theorem pm_gm_h_gm_place (σ : SM) (v : Nat → Int32) : gm_gm_h (sm_gm_place σ v) = gm_gm_h σ := rfl
theorem pm_rg_rows_gm_touched (σ : SM) (v : Int32) : gm_rg_rows (sm_gm_touched σ v) = gm_rg_rows σ := rfl
theorem pm_rg_columns_gm_touched (σ : SM) (v : Int32) : gm_rg_columns (sm_gm_touched σ v) = gm_rg_columns σ := rfl
theorem pm_rg_rings_gm_touched (σ : SM) (v : Int32) : gm_rg_rings (sm_gm_touched σ v) = gm_rg_rings σ := rfl
theorem pm_rg_cellOf_gm_touched (σ : SM) (v : Int32) : gm_rg_cellOf (sm_gm_touched σ v) = gm_rg_cellOf σ := rfl
theorem pm_od_weight_gm_touched (σ : SM) (v : Int32) : gm_od_weight (sm_gm_touched σ v) = gm_od_weight σ := rfl
theorem pm_od_then_gm_touched (σ : SM) (v : Int32) : gm_od_then (sm_gm_touched σ v) = gm_od_then σ := rfl
theorem pm_od_updates_gm_touched (σ : SM) (v : Int32) : gm_od_updates (sm_gm_touched σ v) = gm_od_updates σ := rfl
theorem pm_pl_players_gm_touched (σ : SM) (v : Int32) : gm_pl_players (sm_gm_touched σ v) = gm_pl_players σ := rfl
theorem pm_pl_kindOf_gm_touched (σ : SM) (v : Int32) : gm_pl_kindOf (sm_gm_touched σ v) = gm_pl_kindOf σ := rfl
theorem pm_pl_placeOf_gm_touched (σ : SM) (v : Int32) : gm_pl_placeOf (sm_gm_touched σ v) = gm_pl_placeOf σ := rfl
theorem pm_pl_sizeOf_gm_touched (σ : SM) (v : Int32) : gm_pl_sizeOf (sm_gm_touched σ v) = gm_pl_sizeOf σ := rfl
theorem pm_pl_clothOf_gm_touched (σ : SM) (v : Int32) : gm_pl_clothOf (sm_gm_touched σ v) = gm_pl_clothOf σ := rfl
theorem pm_pl_giggleOf_gm_touched (σ : SM) (v : Int32) : gm_pl_giggleOf (sm_gm_touched σ v) = gm_pl_giggleOf σ := rfl
theorem pm_nm_unsure_gm_touched (σ : SM) (v : Int32) : gm_nm_unsure (sm_gm_touched σ v) = gm_nm_unsure σ := rfl
theorem pm_nm_clothRight_gm_touched (σ : SM) (v : Int32) : gm_nm_clothRight (sm_gm_touched σ v) = gm_nm_clothRight σ := rfl
theorem pm_nm_giggleRight_gm_touched (σ : SM) (v : Int32) : gm_nm_giggleRight (sm_gm_touched σ v) = gm_nm_giggleRight σ := rfl
theorem pm_nm_jacketA_gm_touched (σ : SM) (v : Int32) : gm_nm_jacketA (sm_gm_touched σ v) = gm_nm_jacketA σ := rfl
theorem pm_nm_jacketB_gm_touched (σ : SM) (v : Int32) : gm_nm_jacketB (sm_gm_touched σ v) = gm_nm_jacketB σ := rfl
theorem pm_nm_jacketTenths_gm_touched (σ : SM) (v : Int32) : gm_nm_jacketTenths (sm_gm_touched σ v) = gm_nm_jacketTenths σ := rfl
theorem pm_nm_asks_gm_touched (σ : SM) (v : Int32) : gm_nm_asks (sm_gm_touched σ v) = gm_nm_asks σ := rfl
theorem pm_pg_pageLength_gm_touched (σ : SM) (v : Int32) : gm_pg_pageLength (sm_gm_touched σ v) = gm_pg_pageLength σ := rfl
theorem pm_pg_page_gm_touched (σ : SM) (v : Int32) : gm_pg_page (sm_gm_touched σ v) = gm_pg_page σ := rfl
theorem pm_kp_isKept_gm_touched (σ : SM) (v : Int32) : gm_kp_isKept (sm_gm_touched σ v) = gm_kp_isKept σ := rfl
theorem pm_kp_keptRing_gm_touched (σ : SM) (v : Int32) : gm_kp_keptRing (sm_gm_touched σ v) = gm_kp_keptRing σ := rfl
theorem pm_kp_keptPlayers_gm_touched (σ : SM) (v : Int32) : gm_kp_keptPlayers (sm_gm_touched σ v) = gm_kp_keptPlayers σ := rfl
theorem pm_kp_keptUpdates_gm_touched (σ : SM) (v : Int32) : gm_kp_keptUpdates (sm_gm_touched σ v) = gm_kp_keptUpdates σ := rfl
theorem pm_kp_keptA_gm_touched (σ : SM) (v : Int32) : gm_kp_keptA (sm_gm_touched σ v) = gm_kp_keptA σ := rfl
theorem pm_kp_keptB_gm_touched (σ : SM) (v : Int32) : gm_kp_keptB (sm_gm_touched σ v) = gm_kp_keptB σ := rfl
theorem pm_kp_keptTenths_gm_touched (σ : SM) (v : Int32) : gm_kp_keptTenths (sm_gm_touched σ v) = gm_kp_keptTenths σ := rfl
theorem pm_kp_keptWeight_gm_touched (σ : SM) (v : Int32) : gm_kp_keptWeight (sm_gm_touched σ v) = gm_kp_keptWeight σ := rfl
theorem pm_kp_keptPlace_gm_touched (σ : SM) (v : Int32) : gm_kp_keptPlace (sm_gm_touched σ v) = gm_kp_keptPlace σ := rfl
theorem pm_rp_faultAt_gm_touched (σ : SM) (v : Int32) : gm_rp_faultAt (sm_gm_touched σ v) = gm_rp_faultAt σ := rfl
theorem pm_rp_isWhole_gm_touched (σ : SM) (v : Int32) : gm_rp_isWhole (sm_gm_touched σ v) = gm_rp_isWhole σ := rfl
theorem pm_rp_newRows_gm_touched (σ : SM) (v : Int32) : gm_rp_newRows (sm_gm_touched σ v) = gm_rp_newRows σ := rfl
theorem pm_rp_newColumns_gm_touched (σ : SM) (v : Int32) : gm_rp_newColumns (sm_gm_touched σ v) = gm_rp_newColumns σ := rfl
theorem pm_rp_newCell_gm_touched (σ : SM) (v : Int32) : gm_rp_newCell (sm_gm_touched σ v) = gm_rp_newCell σ := rfl
theorem pm_rp_gonePost_gm_touched (σ : SM) (v : Int32) : gm_rp_gonePost (sm_gm_touched σ v) = gm_rp_gonePost σ := rfl
theorem pm_gm_his_gm_touched (σ : SM) (v : Int32) : gm_gm_his (sm_gm_touched σ v) = gm_gm_his σ := rfl
theorem pm_gm_looks_gm_touched (σ : SM) (v : Int32) : gm_gm_looks (sm_gm_touched σ v) = gm_gm_looks σ := rfl
theorem pm_gm_seedNow_gm_touched (σ : SM) (v : Int32) : gm_gm_seedNow (sm_gm_touched σ v) = gm_gm_seedNow σ := rfl
theorem pm_gm_place_gm_touched (σ : SM) (v : Int32) : gm_gm_place (sm_gm_touched σ v) = gm_gm_place σ := rfl
theorem pm_gm_touched_gm_touched (σ : SM) (v : Int32) : gm_gm_touched (sm_gm_touched σ v) = v := rfl
theorem pm_gm_touchedAt_gm_touched (σ : SM) (v : Int32) : gm_gm_touchedAt (sm_gm_touched σ v) = gm_gm_touchedAt σ := rfl
theorem pm_gm_h_gm_touched (σ : SM) (v : Int32) : gm_gm_h (sm_gm_touched σ v) = gm_gm_h σ := rfl
theorem pm_rg_rows_gm_touchedAt (σ : SM) (v : Int32) : gm_rg_rows (sm_gm_touchedAt σ v) = gm_rg_rows σ := rfl
theorem pm_rg_columns_gm_touchedAt (σ : SM) (v : Int32) : gm_rg_columns (sm_gm_touchedAt σ v) = gm_rg_columns σ := rfl
theorem pm_rg_rings_gm_touchedAt (σ : SM) (v : Int32) : gm_rg_rings (sm_gm_touchedAt σ v) = gm_rg_rings σ := rfl
theorem pm_rg_cellOf_gm_touchedAt (σ : SM) (v : Int32) : gm_rg_cellOf (sm_gm_touchedAt σ v) = gm_rg_cellOf σ := rfl
theorem pm_od_weight_gm_touchedAt (σ : SM) (v : Int32) : gm_od_weight (sm_gm_touchedAt σ v) = gm_od_weight σ := rfl
theorem pm_od_then_gm_touchedAt (σ : SM) (v : Int32) : gm_od_then (sm_gm_touchedAt σ v) = gm_od_then σ := rfl
theorem pm_od_updates_gm_touchedAt (σ : SM) (v : Int32) : gm_od_updates (sm_gm_touchedAt σ v) = gm_od_updates σ := rfl
theorem pm_pl_players_gm_touchedAt (σ : SM) (v : Int32) : gm_pl_players (sm_gm_touchedAt σ v) = gm_pl_players σ := rfl
theorem pm_pl_kindOf_gm_touchedAt (σ : SM) (v : Int32) : gm_pl_kindOf (sm_gm_touchedAt σ v) = gm_pl_kindOf σ := rfl
theorem pm_pl_placeOf_gm_touchedAt (σ : SM) (v : Int32) : gm_pl_placeOf (sm_gm_touchedAt σ v) = gm_pl_placeOf σ := rfl
theorem pm_pl_sizeOf_gm_touchedAt (σ : SM) (v : Int32) : gm_pl_sizeOf (sm_gm_touchedAt σ v) = gm_pl_sizeOf σ := rfl
theorem pm_pl_clothOf_gm_touchedAt (σ : SM) (v : Int32) : gm_pl_clothOf (sm_gm_touchedAt σ v) = gm_pl_clothOf σ := rfl
theorem pm_pl_giggleOf_gm_touchedAt (σ : SM) (v : Int32) : gm_pl_giggleOf (sm_gm_touchedAt σ v) = gm_pl_giggleOf σ := rfl
theorem pm_nm_unsure_gm_touchedAt (σ : SM) (v : Int32) : gm_nm_unsure (sm_gm_touchedAt σ v) = gm_nm_unsure σ := rfl
theorem pm_nm_clothRight_gm_touchedAt (σ : SM) (v : Int32) : gm_nm_clothRight (sm_gm_touchedAt σ v) = gm_nm_clothRight σ := rfl
theorem pm_nm_giggleRight_gm_touchedAt (σ : SM) (v : Int32) : gm_nm_giggleRight (sm_gm_touchedAt σ v) = gm_nm_giggleRight σ := rfl
theorem pm_nm_jacketA_gm_touchedAt (σ : SM) (v : Int32) : gm_nm_jacketA (sm_gm_touchedAt σ v) = gm_nm_jacketA σ := rfl
theorem pm_nm_jacketB_gm_touchedAt (σ : SM) (v : Int32) : gm_nm_jacketB (sm_gm_touchedAt σ v) = gm_nm_jacketB σ := rfl
theorem pm_nm_jacketTenths_gm_touchedAt (σ : SM) (v : Int32) : gm_nm_jacketTenths (sm_gm_touchedAt σ v) = gm_nm_jacketTenths σ := rfl
theorem pm_nm_asks_gm_touchedAt (σ : SM) (v : Int32) : gm_nm_asks (sm_gm_touchedAt σ v) = gm_nm_asks σ := rfl
theorem pm_pg_pageLength_gm_touchedAt (σ : SM) (v : Int32) : gm_pg_pageLength (sm_gm_touchedAt σ v) = gm_pg_pageLength σ := rfl
theorem pm_pg_page_gm_touchedAt (σ : SM) (v : Int32) : gm_pg_page (sm_gm_touchedAt σ v) = gm_pg_page σ := rfl
theorem pm_kp_isKept_gm_touchedAt (σ : SM) (v : Int32) : gm_kp_isKept (sm_gm_touchedAt σ v) = gm_kp_isKept σ := rfl
theorem pm_kp_keptRing_gm_touchedAt (σ : SM) (v : Int32) : gm_kp_keptRing (sm_gm_touchedAt σ v) = gm_kp_keptRing σ := rfl
theorem pm_kp_keptPlayers_gm_touchedAt (σ : SM) (v : Int32) : gm_kp_keptPlayers (sm_gm_touchedAt σ v) = gm_kp_keptPlayers σ := rfl
theorem pm_kp_keptUpdates_gm_touchedAt (σ : SM) (v : Int32) : gm_kp_keptUpdates (sm_gm_touchedAt σ v) = gm_kp_keptUpdates σ := rfl
theorem pm_kp_keptA_gm_touchedAt (σ : SM) (v : Int32) : gm_kp_keptA (sm_gm_touchedAt σ v) = gm_kp_keptA σ := rfl
theorem pm_kp_keptB_gm_touchedAt (σ : SM) (v : Int32) : gm_kp_keptB (sm_gm_touchedAt σ v) = gm_kp_keptB σ := rfl
theorem pm_kp_keptTenths_gm_touchedAt (σ : SM) (v : Int32) : gm_kp_keptTenths (sm_gm_touchedAt σ v) = gm_kp_keptTenths σ := rfl
theorem pm_kp_keptWeight_gm_touchedAt (σ : SM) (v : Int32) : gm_kp_keptWeight (sm_gm_touchedAt σ v) = gm_kp_keptWeight σ := rfl
theorem pm_kp_keptPlace_gm_touchedAt (σ : SM) (v : Int32) : gm_kp_keptPlace (sm_gm_touchedAt σ v) = gm_kp_keptPlace σ := rfl
theorem pm_rp_faultAt_gm_touchedAt (σ : SM) (v : Int32) : gm_rp_faultAt (sm_gm_touchedAt σ v) = gm_rp_faultAt σ := rfl
theorem pm_rp_isWhole_gm_touchedAt (σ : SM) (v : Int32) : gm_rp_isWhole (sm_gm_touchedAt σ v) = gm_rp_isWhole σ := rfl
theorem pm_rp_newRows_gm_touchedAt (σ : SM) (v : Int32) : gm_rp_newRows (sm_gm_touchedAt σ v) = gm_rp_newRows σ := rfl
theorem pm_rp_newColumns_gm_touchedAt (σ : SM) (v : Int32) : gm_rp_newColumns (sm_gm_touchedAt σ v) = gm_rp_newColumns σ := rfl
theorem pm_rp_newCell_gm_touchedAt (σ : SM) (v : Int32) : gm_rp_newCell (sm_gm_touchedAt σ v) = gm_rp_newCell σ := rfl
theorem pm_rp_gonePost_gm_touchedAt (σ : SM) (v : Int32) : gm_rp_gonePost (sm_gm_touchedAt σ v) = gm_rp_gonePost σ := rfl
theorem pm_gm_his_gm_touchedAt (σ : SM) (v : Int32) : gm_gm_his (sm_gm_touchedAt σ v) = gm_gm_his σ := rfl
theorem pm_gm_looks_gm_touchedAt (σ : SM) (v : Int32) : gm_gm_looks (sm_gm_touchedAt σ v) = gm_gm_looks σ := rfl
theorem pm_gm_seedNow_gm_touchedAt (σ : SM) (v : Int32) : gm_gm_seedNow (sm_gm_touchedAt σ v) = gm_gm_seedNow σ := rfl
theorem pm_gm_place_gm_touchedAt (σ : SM) (v : Int32) : gm_gm_place (sm_gm_touchedAt σ v) = gm_gm_place σ := rfl
theorem pm_gm_touched_gm_touchedAt (σ : SM) (v : Int32) : gm_gm_touched (sm_gm_touchedAt σ v) = gm_gm_touched σ := rfl
theorem pm_gm_touchedAt_gm_touchedAt (σ : SM) (v : Int32) : gm_gm_touchedAt (sm_gm_touchedAt σ v) = v := rfl
theorem pm_gm_h_gm_touchedAt (σ : SM) (v : Int32) : gm_gm_h (sm_gm_touchedAt σ v) = gm_gm_h σ := rfl
theorem pm_rg_rows_gm_h (σ : SM) (v : Int64) : gm_rg_rows (sm_gm_h σ v) = gm_rg_rows σ := rfl
theorem pm_rg_columns_gm_h (σ : SM) (v : Int64) : gm_rg_columns (sm_gm_h σ v) = gm_rg_columns σ := rfl
theorem pm_rg_rings_gm_h (σ : SM) (v : Int64) : gm_rg_rings (sm_gm_h σ v) = gm_rg_rings σ := rfl
theorem pm_rg_cellOf_gm_h (σ : SM) (v : Int64) : gm_rg_cellOf (sm_gm_h σ v) = gm_rg_cellOf σ := rfl
theorem pm_od_weight_gm_h (σ : SM) (v : Int64) : gm_od_weight (sm_gm_h σ v) = gm_od_weight σ := rfl
theorem pm_od_then_gm_h (σ : SM) (v : Int64) : gm_od_then (sm_gm_h σ v) = gm_od_then σ := rfl
theorem pm_od_updates_gm_h (σ : SM) (v : Int64) : gm_od_updates (sm_gm_h σ v) = gm_od_updates σ := rfl
theorem pm_pl_players_gm_h (σ : SM) (v : Int64) : gm_pl_players (sm_gm_h σ v) = gm_pl_players σ := rfl
theorem pm_pl_kindOf_gm_h (σ : SM) (v : Int64) : gm_pl_kindOf (sm_gm_h σ v) = gm_pl_kindOf σ := rfl
theorem pm_pl_placeOf_gm_h (σ : SM) (v : Int64) : gm_pl_placeOf (sm_gm_h σ v) = gm_pl_placeOf σ := rfl
theorem pm_pl_sizeOf_gm_h (σ : SM) (v : Int64) : gm_pl_sizeOf (sm_gm_h σ v) = gm_pl_sizeOf σ := rfl
theorem pm_pl_clothOf_gm_h (σ : SM) (v : Int64) : gm_pl_clothOf (sm_gm_h σ v) = gm_pl_clothOf σ := rfl
theorem pm_pl_giggleOf_gm_h (σ : SM) (v : Int64) : gm_pl_giggleOf (sm_gm_h σ v) = gm_pl_giggleOf σ := rfl
theorem pm_nm_unsure_gm_h (σ : SM) (v : Int64) : gm_nm_unsure (sm_gm_h σ v) = gm_nm_unsure σ := rfl
theorem pm_nm_clothRight_gm_h (σ : SM) (v : Int64) : gm_nm_clothRight (sm_gm_h σ v) = gm_nm_clothRight σ := rfl
theorem pm_nm_giggleRight_gm_h (σ : SM) (v : Int64) : gm_nm_giggleRight (sm_gm_h σ v) = gm_nm_giggleRight σ := rfl
theorem pm_nm_jacketA_gm_h (σ : SM) (v : Int64) : gm_nm_jacketA (sm_gm_h σ v) = gm_nm_jacketA σ := rfl
theorem pm_nm_jacketB_gm_h (σ : SM) (v : Int64) : gm_nm_jacketB (sm_gm_h σ v) = gm_nm_jacketB σ := rfl
theorem pm_nm_jacketTenths_gm_h (σ : SM) (v : Int64) : gm_nm_jacketTenths (sm_gm_h σ v) = gm_nm_jacketTenths σ := rfl
theorem pm_nm_asks_gm_h (σ : SM) (v : Int64) : gm_nm_asks (sm_gm_h σ v) = gm_nm_asks σ := rfl
theorem pm_pg_pageLength_gm_h (σ : SM) (v : Int64) : gm_pg_pageLength (sm_gm_h σ v) = gm_pg_pageLength σ := rfl
theorem pm_pg_page_gm_h (σ : SM) (v : Int64) : gm_pg_page (sm_gm_h σ v) = gm_pg_page σ := rfl
theorem pm_kp_isKept_gm_h (σ : SM) (v : Int64) : gm_kp_isKept (sm_gm_h σ v) = gm_kp_isKept σ := rfl
theorem pm_kp_keptRing_gm_h (σ : SM) (v : Int64) : gm_kp_keptRing (sm_gm_h σ v) = gm_kp_keptRing σ := rfl
theorem pm_kp_keptPlayers_gm_h (σ : SM) (v : Int64) : gm_kp_keptPlayers (sm_gm_h σ v) = gm_kp_keptPlayers σ := rfl
theorem pm_kp_keptUpdates_gm_h (σ : SM) (v : Int64) : gm_kp_keptUpdates (sm_gm_h σ v) = gm_kp_keptUpdates σ := rfl
theorem pm_kp_keptA_gm_h (σ : SM) (v : Int64) : gm_kp_keptA (sm_gm_h σ v) = gm_kp_keptA σ := rfl
theorem pm_kp_keptB_gm_h (σ : SM) (v : Int64) : gm_kp_keptB (sm_gm_h σ v) = gm_kp_keptB σ := rfl
theorem pm_kp_keptTenths_gm_h (σ : SM) (v : Int64) : gm_kp_keptTenths (sm_gm_h σ v) = gm_kp_keptTenths σ := rfl
theorem pm_kp_keptWeight_gm_h (σ : SM) (v : Int64) : gm_kp_keptWeight (sm_gm_h σ v) = gm_kp_keptWeight σ := rfl
theorem pm_kp_keptPlace_gm_h (σ : SM) (v : Int64) : gm_kp_keptPlace (sm_gm_h σ v) = gm_kp_keptPlace σ := rfl
theorem pm_rp_faultAt_gm_h (σ : SM) (v : Int64) : gm_rp_faultAt (sm_gm_h σ v) = gm_rp_faultAt σ := rfl
theorem pm_rp_isWhole_gm_h (σ : SM) (v : Int64) : gm_rp_isWhole (sm_gm_h σ v) = gm_rp_isWhole σ := rfl
theorem pm_rp_newRows_gm_h (σ : SM) (v : Int64) : gm_rp_newRows (sm_gm_h σ v) = gm_rp_newRows σ := rfl
theorem pm_rp_newColumns_gm_h (σ : SM) (v : Int64) : gm_rp_newColumns (sm_gm_h σ v) = gm_rp_newColumns σ := rfl
theorem pm_rp_newCell_gm_h (σ : SM) (v : Int64) : gm_rp_newCell (sm_gm_h σ v) = gm_rp_newCell σ := rfl
theorem pm_rp_gonePost_gm_h (σ : SM) (v : Int64) : gm_rp_gonePost (sm_gm_h σ v) = gm_rp_gonePost σ := rfl
theorem pm_gm_his_gm_h (σ : SM) (v : Int64) : gm_gm_his (sm_gm_h σ v) = gm_gm_his σ := rfl
theorem pm_gm_looks_gm_h (σ : SM) (v : Int64) : gm_gm_looks (sm_gm_h σ v) = gm_gm_looks σ := rfl
theorem pm_gm_seedNow_gm_h (σ : SM) (v : Int64) : gm_gm_seedNow (sm_gm_h σ v) = gm_gm_seedNow σ := rfl
theorem pm_gm_place_gm_h (σ : SM) (v : Int64) : gm_gm_place (sm_gm_h σ v) = gm_gm_place σ := rfl
theorem pm_gm_touched_gm_h (σ : SM) (v : Int64) : gm_gm_touched (sm_gm_h σ v) = gm_gm_touched σ := rfl
theorem pm_gm_touchedAt_gm_h (σ : SM) (v : Int64) : gm_gm_touchedAt (sm_gm_h σ v) = gm_gm_touchedAt σ := rfl
theorem pm_gm_h_gm_h (σ : SM) (v : Int64) : gm_gm_h (sm_gm_h σ v) = v := rfl
