/-! ===== letters ===== -/
/-- the code of the letter at a place -/
def cdN (w : Int64) (i : Nat) : Nat := w.toBitVec.toNat / 2 ^ (8 * i) % 256
theorem cd_lt (w : Int64) (i : Nat) : cdN w i < 256 := Nat.mod_lt _ (by decide)
theorem shU : ∀ i : Nat, i < 8 → (((8 : Int32) * nI i).toInt64.toUInt64 &&& Int64.toUInt64 63) = UInt64.ofNat (8 * i) := by decide +kernel
theorem shI : ∀ i : Nat, i < 8 → (((8 : Int32) * nI i).toInt64 &&& 63) = Int64.ofNat (8 * i) := by decide +kernel
theorem cd_bit (w : Int64) (i j : Nat) : (cdN w i).testBit j = (decide (j < 8) && w.toBitVec.getLsbD (8 * i + j)) := by
  unfold cdN
  rw [show (256 : Nat) = 2 ^ 8 from rfl, Nat.testBit_mod_two_pow, ← Nat.shiftRight_eq_div_pow, Nat.testBit_shiftRight]
  rfl
theorem b255 (j : Nat) : (255 : Nat).testBit j = decide (j < 8) := by
  rw [show (255 : Nat) = 2 ^ 8 - 1 from rfl, Nat.testBit_two_pow_sub_one]
theorem x_codeAt (w : Int64) {i : Nat} (hi : i < 8) : fX5_codeAt w (nI i) = some (nI (cdN w i)) := by
  unfold fX5_codeAt
  rw [shU i hi]
  congr 1
  apply Int32.toBitVec_inj.mp
  apply BitVec.eq_of_getLsbD_eq
  intro j hj
  show _ = (BitVec.ofNat 32 (cdN w i)).getLsbD j
  rw [BitVec.getLsbD_ofNat, cd_bit]
  have e : (w.toUInt64 >>> UInt64.ofNat (8 * i)).toInt64.toBitVec = w.toBitVec >>> (8 * i) := by
    rcases (by omega : i = 0 ∨ i = 1 ∨ i = 2 ∨ i = 3 ∨ i = 4 ∨ i = 5 ∨ i = 6 ∨ i = 7) with rfl | rfl | rfl | rfl | rfl | rfl | rfl | rfl <;> rfl
  show (((w.toUInt64 >>> UInt64.ofNat (8 * i)).toInt64.toBitVec.signExtend 32) &&& BitVec.ofNat 32 255).getLsbD j = _
  rw [e, BitVec.getLsbD_and, BitVec.getLsbD_ofNat, b255, BitVec.getLsbD_signExtend, if_pos (by omega), BitVec.getLsbD_ushiftRight]
  simp only [hj, decide_true, Bool.true_and, Bool.and_comm]
theorem m_codeAt (w : Int64) {i : Nat} (hi : i < 8) : ((w >>> (((8 : Int32) * nI i).toInt64 &&& 63)) &&& (255 : Int64)).toInt32 = nI (cdN w i) := by
  rw [shI i hi]
  apply Int32.toBitVec_inj.mp
  apply BitVec.eq_of_getLsbD_eq
  intro j hj
  show _ = (BitVec.ofNat 32 (cdN w i)).getLsbD j
  rw [BitVec.getLsbD_ofNat, cd_bit]
  have e : (w >>> Int64.ofNat (8 * i)).toBitVec = w.toBitVec.sshiftRight (8 * i) := by
    show w.toBitVec.sshiftRight' ((BitVec.ofNat 64 (8 * i)).smod 64) = _
    unfold BitVec.sshiftRight'
    rcases (by omega : i = 0 ∨ i = 1 ∨ i = 2 ∨ i = 3 ∨ i = 4 ∨ i = 5 ∨ i = 6 ∨ i = 7) with rfl | rfl | rfl | rfl | rfl | rfl | rfl | rfl <;> rfl
  show ((((w >>> Int64.ofNat (8 * i)).toBitVec &&& BitVec.ofNat 64 255)).signExtend 32).getLsbD j = _
  rw [e, BitVec.getLsbD_signExtend, if_pos (by omega), BitVec.getLsbD_and, BitVec.getLsbD_ofNat, b255, BitVec.getLsbD_sshiftRight]
  by_cases h8 : j < 8
  · simp only [hj, h8, decide_true, Bool.true_and, Bool.and_true]
    rw [decide_eq_false (by omega), decide_eq_true (by omega), if_pos (by omega)]
    simp
  · simp only [hj, h8, decide_true, decide_false, Bool.and_false, Bool.false_and, Bool.true_and]
theorem m_byteAt (w : Int64) {i : Nat} (hi : i < 8) (h : cdN w i < 127) : vp_nar .byte (w >>> (((8 : Int32) * nI i).toInt64 &&& 63)).toInt32.toInt8.toInt32 = nI (cdN w i) := by
  have e1 : (w >>> (((8 : Int32) * nI i).toInt64 &&& 63)).toInt32.toInt8 = (((w >>> (((8 : Int32) * nI i).toInt64 &&& 63)) &&& (255 : Int64)).toInt32).toInt8 := by
    generalize w >>> (((8 : Int32) * nI i).toInt64 &&& 63) = z
    apply Int8.toBitVec_inj.mp
    apply BitVec.eq_of_getLsbD_eq
    intro j hj
    show ((z.toBitVec.signExtend 32).signExtend 8).getLsbD j = (((z.toBitVec &&& BitVec.ofNat 64 255).signExtend 32).signExtend 8).getLsbD j
    rw [BitVec.getLsbD_signExtend, BitVec.getLsbD_signExtend, BitVec.getLsbD_signExtend, BitVec.getLsbD_signExtend, if_pos (by omega), if_pos (by omega), if_pos (by omega), BitVec.getLsbD_and, BitVec.getLsbD_ofNat, b255]
    rw [decide_eq_true hj, decide_eq_true (show j < 32 by omega), decide_eq_true (show j < 64 by omega)]
    simp
    omega
  rw [e1, m_codeAt w hi]
  exact (show ∀ k : Nat, k < 127 → vp_nar .byte (nI k).toInt8.toInt32 = nI k by decide +kernel) _ h
theorem x_charAt {k : Nat} (h : k < 127) : vp_nar .char ((nI k).toUInt32 % 65536).toInt32 = nI k := (show ∀ k : Nat, k < 127 → vp_nar .char ((nI k).toUInt32 % 65536).toInt32 = nI k by decide +kernel) _ h
/-- what both make of the letters from a place on -/
theorem xm_lettersL (μ : SM) (w : Int64) : ∀ (d i t n : Nat) (e : Int32), i + d = 8 → t ≤ i → (e = 0 ∧ t = i ∨ e = 1 ∧ t < i) → (∀ k, k < t → 0 < cdN w k ∧ cdN w k < 127) →
    (fX5_lettersIn_l4 (n + d + 1) w (nI t) (nI i) = some (-102) ∧ fX12_letters_l8 (n + d + 1) μ w (nI t) e (nI i) = some (-102, μ)) ∨
    ∃ t', t' ≤ 8 ∧ (∀ k, k < t' → 0 < cdN w k ∧ cdN w k < 127) ∧ fX5_lettersIn_l4 (n + d + 1) w (nI t) (nI i) = some (nI t') ∧ fX12_letters_l8 (n + d + 1) μ w (nI t) e (nI i) = if (45 : Int32) < gm_pg_pageLength μ + nI t' then some (-104, μ) else fX12_letters_l102 1000 μ w (nI t') 0
  | 0, i, t, n, e, hi, ht, he, hk => by
    obtain rfl : i = 8 := by omega
    refine Or.inr ⟨t, ht, hk, ?_, ?_⟩
    · show fX5_lettersIn_b4 _ _ _ _ = _
      unfold fX5_lettersIn_b4
      rw [if_neg (show ¬ nI 8 < (8 : Int32) by decide)]
    · show fX12_letters_b8 _ _ _ _ _ _ = _
      unfold fX12_letters_b8
      rw [if_neg (show ¬ nI 8 < (8 : Int32) by decide)]
  | d + 1, i, t, n, e, hi, ht, he, hk => by
    have hi8 : i < 8 := by omega
    have hc := cd_lt w i
    have ex : fX5_lettersIn_l4 (n + (d + 1) + 1) w (nI t) (nI i) = fX5_lettersIn_b4 (fX5_lettersIn_l4 (n + d + 1)) w (nI t) (nI i) := rfl
    have em : fX12_letters_l8 (n + (d + 1) + 1) μ w (nI t) e (nI i) = fX12_letters_b8 (fX12_letters_l8 (n + d + 1)) μ w (nI t) e (nI i) := rfl
    rw [ex, em]
    unfold fX5_lettersIn_b4 fX12_letters_b8 fX12_letters_b46 fX5_lettersIn_b34
    rw [if_pos (show nI i < (8 : Int32) from ltE i 8 hi8 (by omega)), if_pos (show nI i < (8 : Int32) from ltE i 8 hi8 (by omega)), x_codeAt w hi8, bindS, m_codeAt w hi8]
    by_cases c1 : 126 < cdN w i
    · rw [if_pos (show (126 : Int32) < nI (cdN w i) from ltE 126 _ c1 (by omega)), if_pos (show (126 : Int32) < nI (cdN w i) from ltE 126 _ c1 (by omega))]
      exact Or.inl ⟨rfl, rfl⟩
    rw [if_neg (show ¬ (126 : Int32) < nI (cdN w i) from nltE 126 _ (by omega) (by omega)), if_neg (show ¬ (126 : Int32) < nI (cdN w i) from nltE 126 _ (by omega) (by omega))]
    unfold fX5_lettersIn_b37 fX5_lettersIn_b45 fX12_letters_b49 fX12_letters_b59 fX12_letters_b64 fX12_letters_b77
    rw [nI_1]
    by_cases c0 : cdN w i = 0
    · have z : nI (cdN w i) = 0 := by rw [c0]; rfl
      rw [z, if_pos rfl, if_pos rfl, if_pos rfl, if_pos rfl, if_pos rfl, ite_self, ite_self]
      have IH := xm_lettersL μ w d (i + 1) t n 1 (by omega) (by omega) (Or.inr ⟨rfl, by omega⟩) hk
      rw [show nI t + 0 = nI t from nI_add t 0]
      exact IH
    · have z : ¬ nI (cdN w i) = 0 := neE _ 0 c0 (by omega) (by decide)
      rw [if_neg z, if_neg z, if_neg z]
      rcases he with ⟨rfl, rfl⟩ | ⟨rfl, h⟩
      · rw [if_neg (nltE t t (Nat.le_refl _) (by omega)), if_pos rfl, if_pos rfl, if_neg z, nI_1]
        exact xm_lettersL μ w d (t + 1) (t + 1) n 0 (by omega) (by omega) (Or.inl ⟨rfl, rfl⟩) (fun k q => by
          by_cases e : k = t
          · subst e; omega
          · exact hk k (by omega))
      · rw [if_pos (ltE t i h (by omega)), if_neg (by decide), if_neg z]
        exact Or.inl ⟨rfl, rfl⟩
/-- an array with letters laid from L on -/
def laO (f g : Nat → Int32) (L p : Nat) : Nat → Int32 := fun k => if L ≤ k ∧ k < L + p then f (k - L) else g k
theorem laO_0 (f g : Nat → Int32) (L : Nat) : laO f g L 0 = g := by funext k; unfold laO; rw [if_neg (by omega)]
theorem laO_s (f g : Nat → Int32) (L p : Nat) : upd (laO f g L p) (L + p) (f p) = laO f g L (p + 1) := by
  funext k
  by_cases e : k = L + p
  · subst e
    rw [pk_us]
    unfold laO
    rw [if_pos (by omega), Nat.add_sub_cancel_left]
  · rw [pk_un e]
    unfold laO
    by_cases q : L ≤ k ∧ k < L + p
    · rw [if_pos q, if_pos (by omega)]
    · rw [if_neg q, if_neg (by omega)]
theorem x_write (σ : SX) (w : Int64) {L t : Nat} (hL : gx_pg_length σ = nI L) (ht : t ≤ 8) (hLt : L + t ≤ 45) (hc : ∀ k, k < t → 0 < cdN w k ∧ cdN w k < 127) : fX5_write σ w (nI t) = some (sx_pg_length (sx_pg_signs σ (laO (fun k => nI (cdN w k)) (gx_pg_signs σ) L t)) (nI (L + t))) := by
  unfold fX5_write
  have := lp_go (fun m (q : SX × Int32) => fX5_write_l3 m q.1 w (nI t) q.2) (fun i => (sx_pg_length (sx_pg_signs σ (laO (fun k => nI (cdN w k)) (gx_pg_signs σ) L i)) (nI (L + i)), nI i)) t (fun i m hi => by
    show fX5_write_b3 _ (sx_pg_length _ _) _ _ _ = fX5_write_l3 m (sx_pg_length _ (nI (L + (i + 1)))) _ _ (nI (i + 1))
    unfold fX5_write_b3
    rw [px_pg_length_pg_length, if_pos (ltE i t hi (by omega)), if_pos (show nI (L + i) < (45 : Int32) from ltE _ 45 (by omega) (by omega)), x_codeAt w (by omega), bindS, if_pos (inb (show L + i < 45 by omega) (by omega)), cl_nI (by omega), x_charAt (hc i hi).2, nI_1, nI_1, ← laO_s]
    rfl) (1000 - t)
  rw [laO_0, show 1000 - t + t = 1000 by omega] at this
  have e : sx_pg_length (sx_pg_signs σ (gx_pg_signs σ)) (nI (L + 0)) = σ := by rw [show nI (L + 0) = gx_pg_length σ from hL.symm]; rfl
  rw [e] at this
  refine Eq.trans (show fX5_write_l3 1000 σ w (nI t) 0 = _ from rfl) (this.trans ?_)
  rw [show 1000 - t = (999 - t) + 1 by omega]
  show fX5_write_b3 _ _ _ _ _ = _
  unfold fX5_write_b3 fX5_write_b53
  rw [if_neg (nltE t t (Nat.le_refl _) (by omega))]
theorem m_write (μ : SM) (w : Int64) {L t : Nat} (hL : gm_pg_pageLength μ = nI L) (ht : t ≤ 8) (hLt : L + t ≤ 45) (hc : ∀ k, k < t → 0 < cdN w k ∧ cdN w k < 127) : fX12_letters_l102 1000 μ w (nI t) 0 = some (nI (L + t), sm_pg_pageLength (sm_pg_page μ (laO (fun k => nI (cdN w k)) (gm_pg_page μ) L t)) (nI (L + t))) := by
  have := lp_go (fun m (q : SM × Int32) => fX12_letters_l102 m q.1 w (nI t) q.2) (fun i => (sm_pg_page μ (laO (fun k => nI (cdN w k)) (gm_pg_page μ) L i), nI i)) t (fun i m hi => by
    show fX12_letters_b102 _ (sm_pg_page _ _) _ _ _ = fX12_letters_l102 m (sm_pg_page _ _) _ _ (nI (i + 1))
    unfold fX12_letters_b102
    rw [pm_pg_pageLength_pg_page, hL, if_pos (ltE i t hi (by omega)), nI_add, if_pos (inb (show L + i < 45 by omega) (by omega)), cl_nI (by omega), m_byteAt w (by omega) (hc i hi).2, nI_1, ← laO_s]
    rfl) (1000 - t)
  rw [laO_0, show 1000 - t + t = 1000 by omega] at this
  refine Eq.trans (show fX12_letters_l102 1000 μ w (nI t) 0 = _ from rfl) (this.trans ?_)
  rw [show 1000 - t = (999 - t) + 1 by omega]
  show fX12_letters_b102 _ _ _ _ _ = _
  unfold fX12_letters_b102
  rw [if_neg (nltE t t (Nat.le_refl _) (by omega)), pm_pg_pageLength_pg_page, hL, nI_add]
theorem sim_letters (N : Nat) (w : Int64) : SimW N (fun σ => fX11_letters σ w) (fun μ => fX12_letters μ w) := by
  intro σ μ hR
  have hR1 := hR.mono (Nat.le_succ N)
  obtain ⟨R, C, kn, w', u, n, pg, L, r1, r2, r3, r4, r5, r6⟩ := id hR
  have r1' := r1.mono (Nat.le_succ N)
  show ∃ r σ' μ', fX11_letters σ w = _ ∧ fX12_letters μ w = _ ∧ _
  unfold fX11_letters fX12_letters
  have hL := r6.1
  rcases xm_lettersL μ w 8 0 0 991 0 rfl (Nat.le_refl _) (Or.inl ⟨rfl, rfl⟩) (fun k q => absurd q (Nat.not_lt_zero k)) with ⟨e1, e2⟩ | ⟨t, t1, t2, e1, e2⟩
  · rw [show fX5_lettersIn w = _ from e1, bindS, if_pos (by decide)]
    exact ⟨_, _, _, rfl, e2, hR1⟩
  · rw [show fX5_lettersIn w = _ from e1, bindS, if_neg (nI_pos (by omega)), r6.2.1, nI_add]
    rw [r6.2.2.1, nI_add] at e2
    by_cases c : 45 < L + t
    · rw [if_pos (show (45 : Int32) < nI (L + t) from ltE 45 _ c (by omega))] at e2 ⊢
      exact ⟨_, _, _, rfl, e2, hR1⟩
    · rw [if_neg (show ¬ (45 : Int32) < nI (L + t) from nltE 45 _ (by omega) (by omega))] at e2 ⊢
      rw [x_write σ w r6.2.1 t1 (by omega) t2, bindS, px_pg_length_pg_length]
      rw [m_write μ w r6.2.2.1 t1 (by omega) t2] at e2
      refine ⟨_, _, _, rfl, e2, R, C, kn, w', u, n, (fun k => if k < L then pg k else cdN w (k - L)), L + t, ?_⟩
      simp only [RelRg, RelOd, RelPl, RelNm, RelKp, RelPg, px_pg_signs_pg_length, px_pg_length_pg_length, px_pg_row_pg_length, px_pg_column_pg_length, px_pg_width_pg_length, px_rg_kinds_pg_length, px_rg_rows_pg_length, px_rg_columns_pg_length, px_rg_beside_pg_length, px_rg_size_pg_length, px_rg_free_pg_length, px_od_weights_pg_length, px_od_kept_pg_length, px_od_outs_pg_length, px_od_updates_pg_length, px_od_keptUpdates_pg_length, px_pl_arr_pg_length, px_pl_ex_pg_length, px_pl_kd_pg_length, px_pl_told_pg_length, px_pl_kept_pg_length, px_pl_at_pg_length, px_pl_size_pg_length, px_pl_cloth_pg_length, px_pl_giggle_pg_length, px_rd_firstCell_pg_length, px_rd_firstWay_pg_length, px_rd_drift_pg_length, px_rd_tenths_pg_length, px_rd_hisCell_pg_length, px_rd_hisWay_pg_length, px_rd_tenth_pg_length, px_rd_touched_pg_length, px_rd_seed_pg_length, px_nm_weights_pg_length, px_nm_sizeOff_pg_length, px_nm_clothRight_pg_length, px_nm_giggleRight_pg_length, px_nm_first_pg_length, px_nm_second_pg_length, px_nm_changed_pg_length, px_nm_keptFirst_pg_length, px_nm_keptSecond_pg_length, px_nm_keptChanged_pg_length, px_tp_playing_pg_length, px_tp_ringsRead_pg_length, px_tp_standsDone_pg_length, px_tp_imageKept_pg_length, px_pok_pg_length, px_pg_signs_pg_signs, px_pg_length_pg_signs, px_pg_row_pg_signs, px_pg_column_pg_signs, px_pg_width_pg_signs, px_rg_kinds_pg_signs, px_rg_rows_pg_signs, px_rg_columns_pg_signs, px_rg_beside_pg_signs, px_rg_size_pg_signs, px_rg_free_pg_signs, px_od_weights_pg_signs, px_od_kept_pg_signs, px_od_outs_pg_signs, px_od_updates_pg_signs, px_od_keptUpdates_pg_signs, px_pl_arr_pg_signs, px_pl_ex_pg_signs, px_pl_kd_pg_signs, px_pl_told_pg_signs, px_pl_kept_pg_signs, px_pl_at_pg_signs, px_pl_size_pg_signs, px_pl_cloth_pg_signs, px_pl_giggle_pg_signs, px_rd_firstCell_pg_signs, px_rd_firstWay_pg_signs, px_rd_drift_pg_signs, px_rd_tenths_pg_signs, px_rd_hisCell_pg_signs, px_rd_hisWay_pg_signs, px_rd_tenth_pg_signs, px_rd_touched_pg_signs, px_rd_seed_pg_signs, px_nm_weights_pg_signs, px_nm_sizeOff_pg_signs, px_nm_clothRight_pg_signs, px_nm_giggleRight_pg_signs, px_nm_first_pg_signs, px_nm_second_pg_signs, px_nm_changed_pg_signs, px_nm_keptFirst_pg_signs, px_nm_keptSecond_pg_signs, px_nm_keptChanged_pg_signs, px_tp_playing_pg_signs, px_tp_ringsRead_pg_signs, px_tp_standsDone_pg_signs, px_tp_imageKept_pg_signs, px_pok_pg_signs, pm_rg_rows_pg_page, pm_rg_columns_pg_page, pm_rg_rings_pg_page, pm_rg_cellOf_pg_page, pm_od_weight_pg_page, pm_od_then_pg_page, pm_od_updates_pg_page, pm_pl_players_pg_page, pm_pl_kindOf_pg_page, pm_pl_placeOf_pg_page, pm_pl_sizeOf_pg_page, pm_pl_clothOf_pg_page, pm_pl_giggleOf_pg_page, pm_nm_unsure_pg_page, pm_nm_clothRight_pg_page, pm_nm_giggleRight_pg_page, pm_nm_jacketA_pg_page, pm_nm_jacketB_pg_page, pm_nm_jacketTenths_pg_page, pm_nm_asks_pg_page, pm_pg_pageLength_pg_page, pm_pg_page_pg_page, pm_kp_isKept_pg_page, pm_kp_keptRing_pg_page, pm_kp_keptPlayers_pg_page, pm_kp_keptUpdates_pg_page, pm_kp_keptA_pg_page, pm_kp_keptB_pg_page, pm_kp_keptTenths_pg_page, pm_kp_keptWeight_pg_page, pm_kp_keptPlace_pg_page, pm_rp_faultAt_pg_page, pm_rp_isWhole_pg_page, pm_rp_newRows_pg_page, pm_rp_newColumns_pg_page, pm_rp_newCell_pg_page, pm_rp_gonePost_pg_page, pm_gm_his_pg_page, pm_gm_looks_pg_page, pm_gm_seedNow_pg_page, pm_gm_place_pg_page, pm_gm_touched_pg_page, pm_gm_touchedAt_pg_page, pm_gm_h_pg_page, pm_rg_rows_pg_pageLength, pm_rg_columns_pg_pageLength, pm_rg_rings_pg_pageLength, pm_rg_cellOf_pg_pageLength, pm_od_weight_pg_pageLength, pm_od_then_pg_pageLength, pm_od_updates_pg_pageLength, pm_pl_players_pg_pageLength, pm_pl_kindOf_pg_pageLength, pm_pl_placeOf_pg_pageLength, pm_pl_sizeOf_pg_pageLength, pm_pl_clothOf_pg_pageLength, pm_pl_giggleOf_pg_pageLength, pm_nm_unsure_pg_pageLength, pm_nm_clothRight_pg_pageLength, pm_nm_giggleRight_pg_pageLength, pm_nm_jacketA_pg_pageLength, pm_nm_jacketB_pg_pageLength, pm_nm_jacketTenths_pg_pageLength, pm_nm_asks_pg_pageLength, pm_pg_pageLength_pg_pageLength, pm_pg_page_pg_pageLength, pm_kp_isKept_pg_pageLength, pm_kp_keptRing_pg_pageLength, pm_kp_keptPlayers_pg_pageLength, pm_kp_keptUpdates_pg_pageLength, pm_kp_keptA_pg_pageLength, pm_kp_keptB_pg_pageLength, pm_kp_keptTenths_pg_pageLength, pm_kp_keptWeight_pg_pageLength, pm_kp_keptPlace_pg_pageLength, pm_rp_faultAt_pg_pageLength, pm_rp_isWhole_pg_pageLength, pm_rp_newRows_pg_pageLength, pm_rp_newColumns_pg_pageLength, pm_rp_newCell_pg_pageLength, pm_rp_gonePost_pg_pageLength, pm_gm_his_pg_pageLength, pm_gm_looks_pg_pageLength, pm_gm_seedNow_pg_pageLength, pm_gm_place_pg_pageLength, pm_gm_touched_pg_pageLength, pm_gm_touchedAt_pg_pageLength, pm_gm_h_pg_pageLength]
      refine ⟨r1', r2, r3, r4, r5, by omega, trivial, trivial, fun i hi => ?_⟩
      unfold laO
      by_cases q : i < L
      · simp only [if_pos q, if_neg (show ¬ (L ≤ i ∧ i < L + t) by omega)]
        exact r6.2.2.2 i q
      · simp only [if_neg q, if_pos (show L ≤ i ∧ i < L + t by omega)]
        have := t2 (i - L) (by omega)
        exact ⟨this.1, this.2, trivial, trivial⟩
