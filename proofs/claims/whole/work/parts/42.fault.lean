/-! ===== fault ===== -/
def wholeB (F L : Nat) (q : RdS) : Bool := decide (F = L ∧ 0 < q.1 ∧ q.2.1 = q.2.2.1)
theorem m_end {μ : SM} {L i : Nat} {q : RdS} {f : Nat → Int32} (hI : rdI q) (hL : gm_pg_pageLength μ = nI L) (hi : i ≤ L) (h45 : L ≤ 45) : fX12_readPage_b172 (mS μ q f) (nI q.2.1) (nI i) = some (sm_rp_isWhole (sm_rp_faultAt (mS μ q f) (nI i)) (zb (wholeB i L q))) := by
  obtain ⟨r, c, wd, ce⟩ := q
  obtain ⟨h1, h2, h3, -⟩ := hI
  simp only at h1 h2 h3
  have a1 : gm_pg_pageLength (mS μ (r, c, wd, ce) f) = nI L := by unfold mS; rw [pm_pg_pageLength_rp_newCell, pm_pg_pageLength_rp_newRows, pm_pg_pageLength_rp_newColumns]; exact hL
  have a3 : gm_rp_newRows (mS μ (r, c, wd, ce) f) = nI r := by unfold mS; rw [pm_rp_newRows_rp_newCell, pm_rp_newRows_rp_newRows]
  have a5 : gm_rp_newColumns (mS μ (r, c, wd, ce) f) = nI wd := by unfold mS; rw [pm_rp_newColumns_rp_newCell, pm_rp_newColumns_rp_newRows, pm_rp_newColumns_rp_newColumns]
  unfold fX12_readPage_b172 fX12_readPage_b205 fX12_readPage_b206 wholeB
  rw [a1, a3, a5]
  show (if nI i = nI L then (if 0 < nI r then (if nI c = nI wd then _ else _) else _) else _) = some (sm_rp_isWhole _ (zb (decide (i = L ∧ 0 < r ∧ c = wd))))
  by_cases e : i = L
  · rw [if_pos (by rw [e])]
    by_cases r0 : 0 < r
    · rw [if_pos (show (0 : Int32) < nI r from ltE 0 r r0 (by omega))]
      by_cases cw : c = wd
      · rw [if_pos (by rw [cw]), if_pos (Or.inr rfl), decide_eq_true ⟨e, r0, cw⟩]; rfl
      · rw [if_neg (neE c wd cw (by omega) (by omega)), if_pos (Or.inl rfl), decide_eq_false (fun z => cw z.2.2)]; rfl
    · rw [if_neg (show ¬ (0 : Int32) < nI r from nltE 0 r (by omega) (by omega)), if_pos (Or.inl rfl), decide_eq_false (fun z => r0 z.2.1)]; rfl
  · rw [if_neg (neE i L e (by omega) (by omega)), if_pos (Or.inl rfl), decide_eq_false (fun z => e z.1)]; rfl
/-- both read the page from a place on, and stop at the same place -/
theorem xm_readL {σ : SX} {μ : SM} {pg : Nat → Nat} {L : Nat} (hP : RelPg σ μ pg L) : ∀ (d i n : Nat) (q : RdS) (f : Nat → Int32), i + d = L → rdI q → rdS pg i = some q → (∀ k, k < q.1 * q.2.2.1 + q.2.1 → f k = nI (q.2.2.2 k)) →
    ∃ (F : Nat) (q' : RdS) (f' : Nat → Int32), F ≤ L ∧ rdI q' ∧ rdS pg F = some q' ∧ (∀ k, k < q'.1 * q'.2.2.1 + q'.2.1 → f' k = nI (q'.2.2.2 k)) ∧ fX5_readOn_l17 (n + d + 2) (xS σ q) (nI i) = some (nI F, xS σ q') ∧ fX12_readPage_l16 (n + d + 2) (mS μ q f) (nI q.2.1) (nI i) 1 = some (sm_rp_isWhole (sm_rp_faultAt (mS μ q' f') (nI F)) (zb (wholeB F L q')))
  | 0, i, n, q, f, hi, hI, hq, hf => by
    obtain ⟨h45, hx, hm, hp⟩ := hP
    obtain rfl : i = L := by omega
    refine ⟨i, q, f, Nat.le_refl _, hI, hq, hf, ?_, ?_⟩
    · show fX5_readOn_b17 _ _ _ = _
      unfold fX5_readOn_b17 fX5_readOn_b130
      have a1 : gx_pg_length (xS σ q) = nI i := hx
      rw [a1, if_neg (nltE i i (Nat.le_refl _) (by omega))]
    · show fX12_readPage_b16 _ _ _ _ _ = _
      unfold fX12_readPage_b16
      have a1 : gm_pg_pageLength (mS μ q f) = nI i := by unfold mS; rw [pm_pg_pageLength_rp_newCell, pm_pg_pageLength_rp_newRows, pm_pg_pageLength_rp_newColumns]; exact hm
      rw [a1, if_neg (nltE i i (Nat.le_refl _) (by omega)), m_end hI hm (Nat.le_refl _) h45]
  | d + 1, i, n, q, f, hi, hI, hq, hf => by
    obtain ⟨h45, hx, hm, hp⟩ := id hP
    obtain ⟨p1, p2, p3, p4⟩ := hp i (by omega)
    have ex : fX5_readOn_l17 (n + (d + 1) + 2) (xS σ q) (nI i) = fX5_readOn_b17 (fX5_readOn_l17 (n + d + 2)) (xS σ q) (nI i) := rfl
    have em : fX12_readPage_l16 (n + (d + 1) + 2) (mS μ q f) (nI q.2.1) (nI i) 1 = fX12_readPage_b16 (fX12_readPage_l16 (n + d + 2)) (mS μ q f) (nI q.2.1) (nI i) 1 := rfl
    rw [ex, em, x_one hI hx (by omega) h45 p2 p3, m_one hI hm (by omega) h45 p2 p4]
    cases hs : stp (pg i) q with
    | none =>
      refine ⟨i, q, f, by omega, hI, hq, hf, rfl, ?_⟩
      show fX12_readPage_b16 _ _ _ _ _ = _
      unfold fX12_readPage_b16
      have a1 : gm_pg_pageLength (mS μ q f) = nI L := by unfold mS; rw [pm_pg_pageLength_rp_newCell, pm_pg_pageLength_rp_newRows, pm_pg_pageLength_rp_newColumns]; exact hm
      rw [a1, if_pos (ltE i L (by omega) (by omega)), if_pos rfl, m_end hI hm (by omega) h45]
    | some q' =>
      refine xm_readL hP d (i + 1) n q' (fS (pg i) q f) (by omega) (stp_I hI hs) (by show (rdS pg i).bind _ = _; rw [hq]; exact hs) ?_
      unfold stp at hs
      unfold fS
      cases hr : srt (pg i) with
      | some s =>
        rw [hr] at hs
        simp only [] at hs ⊢
        by_cases hc : q.2.1 < (if q.1 = 0 then 6 else q.2.2.1)
        · rw [if_pos hc] at hs
          cases hs
          intro k hk
          simp only [] at hk ⊢
          unfold updN'
          by_cases e : k = q.1 * q.2.2.1 + q.2.1
          · rw [e, updS, if_pos rfl]
          · rw [updN e, if_neg e]
            exact hf k (by omega)
        · rw [if_neg hc] at hs; cases hs
      | none =>
        rw [hr] at hs
        simp only [] at hs ⊢
        by_cases hc : pg i = 47 ∧ q.1 < 5 ∧ (if q.1 = 0 then 2 ≤ q.2.1 else q.2.1 = q.2.2.1)
        · rw [if_pos hc] at hs
          cases hs
          intro k hk
          simp only [] at hk ⊢
          refine hf k ?_
          obtain ⟨-, -, c3⟩ := hc
          by_cases e : q.1 = 0
          · rw [e] at hk ⊢; omega
          · rw [if_neg e] at c3
            rw [c3] at hk ⊢
            rw [Nat.succ_mul] at hk
            omega
        · rw [if_neg hc] at hs; cases hs
theorem xm_readP {σ : SX} {μ : SM} {pg : Nat → Nat} {L : Nat} (hP : RelPg σ μ pg L) : ∃ (F : Nat) (q : RdS) (f : Nat → Int32), F ≤ L ∧ rdI q ∧ rdS pg F = some q ∧ (∀ k, k < q.1 * q.2.2.1 + q.2.1 → f k = nI (q.2.2.2 k)) ∧ fX5_readOn σ = some (nI F, xS σ q) ∧ fX12_readPage μ = some (sm_rp_isWhole (sm_rp_faultAt (mS μ q f) (nI F)) (zb (wholeB F L q))) := by
  have h45 := hP.1
  obtain ⟨F, q, f, h1, h2, h3, h4, h5, h6⟩ := xm_readL hP L 0 (998 - L) (0, 0, 0, fun _ => 0) (gm_rp_newCell μ) (Nat.zero_add L) ⟨Nat.zero_le _, Nat.zero_le _, Nat.zero_le _, fun _ => rfl, fun z => absurd z (Nat.lt_irrefl 0), fun k hk => absurd (show k < 0 from Nat.lt_of_lt_of_eq hk rfl) (Nat.not_lt_zero k)⟩ rfl (fun k hk => absurd (show k < 0 from Nat.lt_of_lt_of_eq hk rfl) (Nat.not_lt_zero k))
  rw [show 998 - L + L + 2 = 1000 by omega] at h5 h6
  refine ⟨F, q, f, h1, h2, h3, h4, ?_, ?_⟩
  · exact Eq.trans rfl h5
  · refine Eq.trans ?_ h6
    unfold fX12_readPage mS
    rfl
theorem sim_fault (N : Nat) : SimW N fX11_fault fX12_fault := by
  intro σ μ hR
  obtain ⟨R, C, kn, w', u, n, pg, L, r1, r2, r3, r4, r5, r6⟩ := id hR
  have r1' := r1.mono (Nat.le_succ N)
  obtain ⟨F, q, f, -, -, -, -, h5, h6⟩ := xm_readP r6
  unfold fX11_fault fX12_fault
  rw [h5, h6, bindS, bindS, pm_rp_faultAt_rp_isWhole, pm_rp_faultAt_rp_faultAt]
  refine ⟨_, _, _, rfl, rfl, R, C, kn, w', u, n, pg, L, ?_⟩
  unfold xS mS
  simp only [RelRg, RelOd, RelPl, RelNm, RelKp, RelPg, px_pg_signs_pg_row, px_pg_length_pg_row, px_pg_row_pg_row, px_pg_column_pg_row, px_pg_width_pg_row, px_rg_kinds_pg_row, px_rg_rows_pg_row, px_rg_columns_pg_row, px_rg_beside_pg_row, px_rg_size_pg_row, px_rg_free_pg_row, px_od_weights_pg_row, px_od_kept_pg_row, px_od_outs_pg_row, px_od_updates_pg_row, px_od_keptUpdates_pg_row, px_pl_arr_pg_row, px_pl_ex_pg_row, px_pl_kd_pg_row, px_pl_told_pg_row, px_pl_kept_pg_row, px_pl_at_pg_row, px_pl_size_pg_row, px_pl_cloth_pg_row, px_pl_giggle_pg_row, px_rd_firstCell_pg_row, px_rd_firstWay_pg_row, px_rd_drift_pg_row, px_rd_tenths_pg_row, px_rd_hisCell_pg_row, px_rd_hisWay_pg_row, px_rd_tenth_pg_row, px_rd_touched_pg_row, px_rd_seed_pg_row, px_nm_weights_pg_row, px_nm_sizeOff_pg_row, px_nm_clothRight_pg_row, px_nm_giggleRight_pg_row, px_nm_first_pg_row, px_nm_second_pg_row, px_nm_changed_pg_row, px_nm_keptFirst_pg_row, px_nm_keptSecond_pg_row, px_nm_keptChanged_pg_row, px_tp_playing_pg_row, px_tp_ringsRead_pg_row, px_tp_standsDone_pg_row, px_tp_imageKept_pg_row, px_pok_pg_row, px_pg_signs_pg_column, px_pg_length_pg_column, px_pg_row_pg_column, px_pg_column_pg_column, px_pg_width_pg_column, px_rg_kinds_pg_column, px_rg_rows_pg_column, px_rg_columns_pg_column, px_rg_beside_pg_column, px_rg_size_pg_column, px_rg_free_pg_column, px_od_weights_pg_column, px_od_kept_pg_column, px_od_outs_pg_column, px_od_updates_pg_column, px_od_keptUpdates_pg_column, px_pl_arr_pg_column, px_pl_ex_pg_column, px_pl_kd_pg_column, px_pl_told_pg_column, px_pl_kept_pg_column, px_pl_at_pg_column, px_pl_size_pg_column, px_pl_cloth_pg_column, px_pl_giggle_pg_column, px_rd_firstCell_pg_column, px_rd_firstWay_pg_column, px_rd_drift_pg_column, px_rd_tenths_pg_column, px_rd_hisCell_pg_column, px_rd_hisWay_pg_column, px_rd_tenth_pg_column, px_rd_touched_pg_column, px_rd_seed_pg_column, px_nm_weights_pg_column, px_nm_sizeOff_pg_column, px_nm_clothRight_pg_column, px_nm_giggleRight_pg_column, px_nm_first_pg_column, px_nm_second_pg_column, px_nm_changed_pg_column, px_nm_keptFirst_pg_column, px_nm_keptSecond_pg_column, px_nm_keptChanged_pg_column, px_tp_playing_pg_column, px_tp_ringsRead_pg_column, px_tp_standsDone_pg_column, px_tp_imageKept_pg_column, px_pok_pg_column, px_pg_signs_pg_width, px_pg_length_pg_width, px_pg_row_pg_width, px_pg_column_pg_width, px_pg_width_pg_width, px_rg_kinds_pg_width, px_rg_rows_pg_width, px_rg_columns_pg_width, px_rg_beside_pg_width, px_rg_size_pg_width, px_rg_free_pg_width, px_od_weights_pg_width, px_od_kept_pg_width, px_od_outs_pg_width, px_od_updates_pg_width, px_od_keptUpdates_pg_width, px_pl_arr_pg_width, px_pl_ex_pg_width, px_pl_kd_pg_width, px_pl_told_pg_width, px_pl_kept_pg_width, px_pl_at_pg_width, px_pl_size_pg_width, px_pl_cloth_pg_width, px_pl_giggle_pg_width, px_rd_firstCell_pg_width, px_rd_firstWay_pg_width, px_rd_drift_pg_width, px_rd_tenths_pg_width, px_rd_hisCell_pg_width, px_rd_hisWay_pg_width, px_rd_tenth_pg_width, px_rd_touched_pg_width, px_rd_seed_pg_width, px_nm_weights_pg_width, px_nm_sizeOff_pg_width, px_nm_clothRight_pg_width, px_nm_giggleRight_pg_width, px_nm_first_pg_width, px_nm_second_pg_width, px_nm_changed_pg_width, px_nm_keptFirst_pg_width, px_nm_keptSecond_pg_width, px_nm_keptChanged_pg_width, px_tp_playing_pg_width, px_tp_ringsRead_pg_width, px_tp_standsDone_pg_width, px_tp_imageKept_pg_width, px_pok_pg_width, pm_rg_rows_rp_newRows, pm_rg_columns_rp_newRows, pm_rg_rings_rp_newRows, pm_rg_cellOf_rp_newRows, pm_od_weight_rp_newRows, pm_od_then_rp_newRows, pm_od_updates_rp_newRows, pm_pl_players_rp_newRows, pm_pl_kindOf_rp_newRows, pm_pl_placeOf_rp_newRows, pm_pl_sizeOf_rp_newRows, pm_pl_clothOf_rp_newRows, pm_pl_giggleOf_rp_newRows, pm_nm_unsure_rp_newRows, pm_nm_clothRight_rp_newRows, pm_nm_giggleRight_rp_newRows, pm_nm_jacketA_rp_newRows, pm_nm_jacketB_rp_newRows, pm_nm_jacketTenths_rp_newRows, pm_nm_asks_rp_newRows, pm_pg_pageLength_rp_newRows, pm_pg_page_rp_newRows, pm_kp_isKept_rp_newRows, pm_kp_keptRing_rp_newRows, pm_kp_keptPlayers_rp_newRows, pm_kp_keptUpdates_rp_newRows, pm_kp_keptA_rp_newRows, pm_kp_keptB_rp_newRows, pm_kp_keptTenths_rp_newRows, pm_kp_keptWeight_rp_newRows, pm_kp_keptPlace_rp_newRows, pm_rp_faultAt_rp_newRows, pm_rp_isWhole_rp_newRows, pm_rp_newRows_rp_newRows, pm_rp_newColumns_rp_newRows, pm_rp_newCell_rp_newRows, pm_rp_gonePost_rp_newRows, pm_gm_his_rp_newRows, pm_gm_looks_rp_newRows, pm_gm_seedNow_rp_newRows, pm_gm_place_rp_newRows, pm_gm_touched_rp_newRows, pm_gm_touchedAt_rp_newRows, pm_gm_h_rp_newRows, pm_rg_rows_rp_newColumns, pm_rg_columns_rp_newColumns, pm_rg_rings_rp_newColumns, pm_rg_cellOf_rp_newColumns, pm_od_weight_rp_newColumns, pm_od_then_rp_newColumns, pm_od_updates_rp_newColumns, pm_pl_players_rp_newColumns, pm_pl_kindOf_rp_newColumns, pm_pl_placeOf_rp_newColumns, pm_pl_sizeOf_rp_newColumns, pm_pl_clothOf_rp_newColumns, pm_pl_giggleOf_rp_newColumns, pm_nm_unsure_rp_newColumns, pm_nm_clothRight_rp_newColumns, pm_nm_giggleRight_rp_newColumns, pm_nm_jacketA_rp_newColumns, pm_nm_jacketB_rp_newColumns, pm_nm_jacketTenths_rp_newColumns, pm_nm_asks_rp_newColumns, pm_pg_pageLength_rp_newColumns, pm_pg_page_rp_newColumns, pm_kp_isKept_rp_newColumns, pm_kp_keptRing_rp_newColumns, pm_kp_keptPlayers_rp_newColumns, pm_kp_keptUpdates_rp_newColumns, pm_kp_keptA_rp_newColumns, pm_kp_keptB_rp_newColumns, pm_kp_keptTenths_rp_newColumns, pm_kp_keptWeight_rp_newColumns, pm_kp_keptPlace_rp_newColumns, pm_rp_faultAt_rp_newColumns, pm_rp_isWhole_rp_newColumns, pm_rp_newRows_rp_newColumns, pm_rp_newColumns_rp_newColumns, pm_rp_newCell_rp_newColumns, pm_rp_gonePost_rp_newColumns, pm_gm_his_rp_newColumns, pm_gm_looks_rp_newColumns, pm_gm_seedNow_rp_newColumns, pm_gm_place_rp_newColumns, pm_gm_touched_rp_newColumns, pm_gm_touchedAt_rp_newColumns, pm_gm_h_rp_newColumns, pm_rg_rows_rp_newCell, pm_rg_columns_rp_newCell, pm_rg_rings_rp_newCell, pm_rg_cellOf_rp_newCell, pm_od_weight_rp_newCell, pm_od_then_rp_newCell, pm_od_updates_rp_newCell, pm_pl_players_rp_newCell, pm_pl_kindOf_rp_newCell, pm_pl_placeOf_rp_newCell, pm_pl_sizeOf_rp_newCell, pm_pl_clothOf_rp_newCell, pm_pl_giggleOf_rp_newCell, pm_nm_unsure_rp_newCell, pm_nm_clothRight_rp_newCell, pm_nm_giggleRight_rp_newCell, pm_nm_jacketA_rp_newCell, pm_nm_jacketB_rp_newCell, pm_nm_jacketTenths_rp_newCell, pm_nm_asks_rp_newCell, pm_pg_pageLength_rp_newCell, pm_pg_page_rp_newCell, pm_kp_isKept_rp_newCell, pm_kp_keptRing_rp_newCell, pm_kp_keptPlayers_rp_newCell, pm_kp_keptUpdates_rp_newCell, pm_kp_keptA_rp_newCell, pm_kp_keptB_rp_newCell, pm_kp_keptTenths_rp_newCell, pm_kp_keptWeight_rp_newCell, pm_kp_keptPlace_rp_newCell, pm_rp_faultAt_rp_newCell, pm_rp_isWhole_rp_newCell, pm_rp_newRows_rp_newCell, pm_rp_newColumns_rp_newCell, pm_rp_newCell_rp_newCell, pm_rp_gonePost_rp_newCell, pm_gm_his_rp_newCell, pm_gm_looks_rp_newCell, pm_gm_seedNow_rp_newCell, pm_gm_place_rp_newCell, pm_gm_touched_rp_newCell, pm_gm_touchedAt_rp_newCell, pm_gm_h_rp_newCell, pm_rg_rows_rp_faultAt, pm_rg_columns_rp_faultAt, pm_rg_rings_rp_faultAt, pm_rg_cellOf_rp_faultAt, pm_od_weight_rp_faultAt, pm_od_then_rp_faultAt, pm_od_updates_rp_faultAt, pm_pl_players_rp_faultAt, pm_pl_kindOf_rp_faultAt, pm_pl_placeOf_rp_faultAt, pm_pl_sizeOf_rp_faultAt, pm_pl_clothOf_rp_faultAt, pm_pl_giggleOf_rp_faultAt, pm_nm_unsure_rp_faultAt, pm_nm_clothRight_rp_faultAt, pm_nm_giggleRight_rp_faultAt, pm_nm_jacketA_rp_faultAt, pm_nm_jacketB_rp_faultAt, pm_nm_jacketTenths_rp_faultAt, pm_nm_asks_rp_faultAt, pm_pg_pageLength_rp_faultAt, pm_pg_page_rp_faultAt, pm_kp_isKept_rp_faultAt, pm_kp_keptRing_rp_faultAt, pm_kp_keptPlayers_rp_faultAt, pm_kp_keptUpdates_rp_faultAt, pm_kp_keptA_rp_faultAt, pm_kp_keptB_rp_faultAt, pm_kp_keptTenths_rp_faultAt, pm_kp_keptWeight_rp_faultAt, pm_kp_keptPlace_rp_faultAt, pm_rp_faultAt_rp_faultAt, pm_rp_isWhole_rp_faultAt, pm_rp_newRows_rp_faultAt, pm_rp_newColumns_rp_faultAt, pm_rp_newCell_rp_faultAt, pm_rp_gonePost_rp_faultAt, pm_gm_his_rp_faultAt, pm_gm_looks_rp_faultAt, pm_gm_seedNow_rp_faultAt, pm_gm_place_rp_faultAt, pm_gm_touched_rp_faultAt, pm_gm_touchedAt_rp_faultAt, pm_gm_h_rp_faultAt, pm_rg_rows_rp_isWhole, pm_rg_columns_rp_isWhole, pm_rg_rings_rp_isWhole, pm_rg_cellOf_rp_isWhole, pm_od_weight_rp_isWhole, pm_od_then_rp_isWhole, pm_od_updates_rp_isWhole, pm_pl_players_rp_isWhole, pm_pl_kindOf_rp_isWhole, pm_pl_placeOf_rp_isWhole, pm_pl_sizeOf_rp_isWhole, pm_pl_clothOf_rp_isWhole, pm_pl_giggleOf_rp_isWhole, pm_nm_unsure_rp_isWhole, pm_nm_clothRight_rp_isWhole, pm_nm_giggleRight_rp_isWhole, pm_nm_jacketA_rp_isWhole, pm_nm_jacketB_rp_isWhole, pm_nm_jacketTenths_rp_isWhole, pm_nm_asks_rp_isWhole, pm_pg_pageLength_rp_isWhole, pm_pg_page_rp_isWhole, pm_kp_isKept_rp_isWhole, pm_kp_keptRing_rp_isWhole, pm_kp_keptPlayers_rp_isWhole, pm_kp_keptUpdates_rp_isWhole, pm_kp_keptA_rp_isWhole, pm_kp_keptB_rp_isWhole, pm_kp_keptTenths_rp_isWhole, pm_kp_keptWeight_rp_isWhole, pm_kp_keptPlace_rp_isWhole, pm_rp_faultAt_rp_isWhole, pm_rp_isWhole_rp_isWhole, pm_rp_newRows_rp_isWhole, pm_rp_newColumns_rp_isWhole, pm_rp_newCell_rp_isWhole, pm_rp_gonePost_rp_isWhole, pm_gm_his_rp_isWhole, pm_gm_looks_rp_isWhole, pm_gm_seedNow_rp_isWhole, pm_gm_place_rp_isWhole, pm_gm_touched_rp_isWhole, pm_gm_touchedAt_rp_isWhole, pm_gm_h_rp_isWhole]
  exact ⟨r1', r2, r3, r4, r5, r6⟩
