/-! ===== game, lasts ===== -/
def BgX (σ : SX) (hc y d t : Nat) : Prop := gx_rd_firstCell σ = nI hc ∧ gx_rd_firstWay σ = nI y ∧ gx_rd_drift σ = nI d ∧ gx_rd_tenths σ = nI t
theorem BgX.k {σ σ' : SX} {hc y d t : Nat} (h : BgX σ hc y d t) (k : KX σ σ') : BgX σ' hc y d t := ⟨k.2.1.trans h.1, k.2.2.1.trans h.2.1, k.2.2.2.1.trans h.2.2.1, k.2.2.2.2.trans h.2.2.2⟩
def PX (σ σ' : SX) : Prop := ∀ N R C kn w u n pg L μ, RP N R C kn w u n pg L σ μ → RP N R C kn w u n pg L σ' μ
theorem px_a (σ : SX) (v : Int32) : PX σ (sx_rd_firstCell σ v) := fun _ _ _ _ _ _ _ _ _ _ h => h
theorem px_b (σ : SX) (v : Int32) : PX σ (sx_rd_firstWay σ v) := fun _ _ _ _ _ _ _ _ _ _ h => h
theorem px_c (σ : SX) (v : Int32) : PX σ (sx_rd_drift σ v) := fun _ _ _ _ _ _ _ _ _ _ h => h
theorem px_d (σ : SX) (v : Int32) : PX σ (sx_rd_tenths σ v) := fun _ _ _ _ _ _ _ _ _ _ h => h
theorem x_begin (σ : SX) (hc y d t : Nat) : ∃ σ', fX8_begin σ (nI hc) (nI y) (nI d) (nI t) = some σ' ∧ PX σ σ' ∧ BgX σ' hc y d t := by
  refine ⟨_, rfl, fun N R C kn w u n pg L μ h => px_d _ _ _ _ _ _ _ _ _ _ _ _ (px_c _ _ _ _ _ _ _ _ _ _ _ _ (px_b _ _ _ _ _ _ _ _ _ _ _ _ (px_a σ _ _ _ _ _ _ _ _ _ _ _ h))), ?_⟩
  unfold BgX
  simp only [px_pg_signs_rd_tenths, px_pg_length_rd_tenths, px_pg_row_rd_tenths, px_pg_column_rd_tenths, px_pg_width_rd_tenths, px_rg_kinds_rd_tenths, px_rg_rows_rd_tenths, px_rg_columns_rd_tenths, px_rg_beside_rd_tenths, px_rg_size_rd_tenths, px_rg_free_rd_tenths, px_od_weights_rd_tenths, px_od_kept_rd_tenths, px_od_outs_rd_tenths, px_od_updates_rd_tenths, px_od_keptUpdates_rd_tenths, px_pl_arr_rd_tenths, px_pl_ex_rd_tenths, px_pl_kd_rd_tenths, px_pl_told_rd_tenths, px_pl_kept_rd_tenths, px_pl_at_rd_tenths, px_pl_size_rd_tenths, px_pl_cloth_rd_tenths, px_pl_giggle_rd_tenths, px_rd_firstCell_rd_tenths, px_rd_firstWay_rd_tenths, px_rd_drift_rd_tenths, px_rd_tenths_rd_tenths, px_rd_hisCell_rd_tenths, px_rd_hisWay_rd_tenths, px_rd_tenth_rd_tenths, px_rd_touched_rd_tenths, px_rd_seed_rd_tenths, px_nm_weights_rd_tenths, px_nm_sizeOff_rd_tenths, px_nm_clothRight_rd_tenths, px_nm_giggleRight_rd_tenths, px_nm_first_rd_tenths, px_nm_second_rd_tenths, px_nm_changed_rd_tenths, px_nm_keptFirst_rd_tenths, px_nm_keptSecond_rd_tenths, px_nm_keptChanged_rd_tenths, px_tp_playing_rd_tenths, px_tp_ringsRead_rd_tenths, px_tp_standsDone_rd_tenths, px_tp_imageKept_rd_tenths, px_pok_rd_tenths, px_pg_signs_rd_drift, px_pg_length_rd_drift, px_pg_row_rd_drift, px_pg_column_rd_drift, px_pg_width_rd_drift, px_rg_kinds_rd_drift, px_rg_rows_rd_drift, px_rg_columns_rd_drift, px_rg_beside_rd_drift, px_rg_size_rd_drift, px_rg_free_rd_drift, px_od_weights_rd_drift, px_od_kept_rd_drift, px_od_outs_rd_drift, px_od_updates_rd_drift, px_od_keptUpdates_rd_drift, px_pl_arr_rd_drift, px_pl_ex_rd_drift, px_pl_kd_rd_drift, px_pl_told_rd_drift, px_pl_kept_rd_drift, px_pl_at_rd_drift, px_pl_size_rd_drift, px_pl_cloth_rd_drift, px_pl_giggle_rd_drift, px_rd_firstCell_rd_drift, px_rd_firstWay_rd_drift, px_rd_drift_rd_drift, px_rd_tenths_rd_drift, px_rd_hisCell_rd_drift, px_rd_hisWay_rd_drift, px_rd_tenth_rd_drift, px_rd_touched_rd_drift, px_rd_seed_rd_drift, px_nm_weights_rd_drift, px_nm_sizeOff_rd_drift, px_nm_clothRight_rd_drift, px_nm_giggleRight_rd_drift, px_nm_first_rd_drift, px_nm_second_rd_drift, px_nm_changed_rd_drift, px_nm_keptFirst_rd_drift, px_nm_keptSecond_rd_drift, px_nm_keptChanged_rd_drift, px_tp_playing_rd_drift, px_tp_ringsRead_rd_drift, px_tp_standsDone_rd_drift, px_tp_imageKept_rd_drift, px_pok_rd_drift, px_pg_signs_rd_firstWay, px_pg_length_rd_firstWay, px_pg_row_rd_firstWay, px_pg_column_rd_firstWay, px_pg_width_rd_firstWay, px_rg_kinds_rd_firstWay, px_rg_rows_rd_firstWay, px_rg_columns_rd_firstWay, px_rg_beside_rd_firstWay, px_rg_size_rd_firstWay, px_rg_free_rd_firstWay, px_od_weights_rd_firstWay, px_od_kept_rd_firstWay, px_od_outs_rd_firstWay, px_od_updates_rd_firstWay, px_od_keptUpdates_rd_firstWay, px_pl_arr_rd_firstWay, px_pl_ex_rd_firstWay, px_pl_kd_rd_firstWay, px_pl_told_rd_firstWay, px_pl_kept_rd_firstWay, px_pl_at_rd_firstWay, px_pl_size_rd_firstWay, px_pl_cloth_rd_firstWay, px_pl_giggle_rd_firstWay, px_rd_firstCell_rd_firstWay, px_rd_firstWay_rd_firstWay, px_rd_drift_rd_firstWay, px_rd_tenths_rd_firstWay, px_rd_hisCell_rd_firstWay, px_rd_hisWay_rd_firstWay, px_rd_tenth_rd_firstWay, px_rd_touched_rd_firstWay, px_rd_seed_rd_firstWay, px_nm_weights_rd_firstWay, px_nm_sizeOff_rd_firstWay, px_nm_clothRight_rd_firstWay, px_nm_giggleRight_rd_firstWay, px_nm_first_rd_firstWay, px_nm_second_rd_firstWay, px_nm_changed_rd_firstWay, px_nm_keptFirst_rd_firstWay, px_nm_keptSecond_rd_firstWay, px_nm_keptChanged_rd_firstWay, px_tp_playing_rd_firstWay, px_tp_ringsRead_rd_firstWay, px_tp_standsDone_rd_firstWay, px_tp_imageKept_rd_firstWay, px_pok_rd_firstWay, px_pg_signs_rd_firstCell, px_pg_length_rd_firstCell, px_pg_row_rd_firstCell, px_pg_column_rd_firstCell, px_pg_width_rd_firstCell, px_rg_kinds_rd_firstCell, px_rg_rows_rd_firstCell, px_rg_columns_rd_firstCell, px_rg_beside_rd_firstCell, px_rg_size_rd_firstCell, px_rg_free_rd_firstCell, px_od_weights_rd_firstCell, px_od_kept_rd_firstCell, px_od_outs_rd_firstCell, px_od_updates_rd_firstCell, px_od_keptUpdates_rd_firstCell, px_pl_arr_rd_firstCell, px_pl_ex_rd_firstCell, px_pl_kd_rd_firstCell, px_pl_told_rd_firstCell, px_pl_kept_rd_firstCell, px_pl_at_rd_firstCell, px_pl_size_rd_firstCell, px_pl_cloth_rd_firstCell, px_pl_giggle_rd_firstCell, px_rd_firstCell_rd_firstCell, px_rd_firstWay_rd_firstCell, px_rd_drift_rd_firstCell, px_rd_tenths_rd_firstCell, px_rd_hisCell_rd_firstCell, px_rd_hisWay_rd_firstCell, px_rd_tenth_rd_firstCell, px_rd_touched_rd_firstCell, px_rd_seed_rd_firstCell, px_nm_weights_rd_firstCell, px_nm_sizeOff_rd_firstCell, px_nm_clothRight_rd_firstCell, px_nm_giggleRight_rd_firstCell, px_nm_first_rd_firstCell, px_nm_second_rd_firstCell, px_nm_changed_rd_firstCell, px_nm_keptFirst_rd_firstCell, px_nm_keptSecond_rd_firstCell, px_nm_keptChanged_rd_firstCell, px_tp_playing_rd_firstCell, px_tp_ringsRead_rd_firstCell, px_tp_standsDone_rd_firstCell, px_tp_imageKept_rd_firstCell, px_pok_rd_firstCell]
  exact ⟨trivial, trivial, trivial, trivial⟩
theorem rp_rel {N R C : Nat} {kn w : Nat → Nat} {u n : Nat} {pg : Nat → Nat} {L : Nat} {σ : SX} {μ : SM} (h : RP N R C kn w u n pg L σ μ) : Rel (N + 1) σ μ := ⟨R, C, kn, w, u, n, pg, L, h.1.mono (Nat.le_succ N), h.2⟩
theorem in_range1 {a : Int32} {m : Nat} (hm : m < 2 ^ 31) (h : ¬ a < (1 : Int32) ∧ ¬ nI m < a) : ∃ k, 1 ≤ k ∧ k ≤ m ∧ a = nI k := by
  have h0 : ¬ a < 0 := fun q => h.1 (by
    rw [Int32.lt_iff_toInt_lt] at q ⊢
    have h1 : (1 : Int32).toInt = 1 := rfl
    have h0 : (0 : Int32).toInt = 0 := rfl
    omega)
  obtain ⟨k, hk, rfl⟩ := in_range hm ⟨h0, h.2⟩
  refine ⟨k, ?_, hk, rfl⟩
  have := h.1
  rw [show (1 : Int32) = nI 1 from rfl, nI_ltI (by omega) (by decide)] at this
  omega
theorem p_mayStart (a b c m : Int32) : fX11_mayStart a b c m = some (zb (decide ((¬ a < 0 ∧ ¬ (3 : Int32) < a) ∧ (¬ b < 0 ∧ ¬ (9 : Int32) < b) ∧ ¬ c < (1 : Int32) ∧ ¬ m < c))) := by
  simp only [fX11_mayStart_b32, fX11_mayStart_b31, fX11_mayStart, p_isWithin, bindS, zb_if]
  by_cases h1 : ¬ a < 0 ∧ ¬ (3 : Int32) < a
  · simp only [if_pos (decide_eq_true h1)]
    by_cases h2 : ¬ b < 0 ∧ ¬ (9 : Int32) < b
    · simp only [if_pos (decide_eq_true h2)]
      by_cases h3 : c < (1 : Int32)
      · rw [if_pos h3, decide_eq_false (fun q => q.2.2.1 h3)]; rfl
      · rw [if_neg h3]
        by_cases h4 : m < c
        · rw [if_pos h4, decide_eq_false (fun q => q.2.2.2 h4)]; rfl
        · rw [if_neg h4, decide_eq_true ⟨h1, h2, h3, h4⟩]; rfl
    · rw [if_neg (by simpa using h2), decide_eq_false (fun q => h2 q.2.1)]; rfl
  · rw [if_neg (by simpa using h1), decide_eq_false (fun q => h1 q.1)]; rfl
theorem sim_game (N : Nat) (a b c s e q : Int32) : SimW N (fun σ => fX11_game σ a b c s e q) (fun μ => fX12_game μ a b c s e q) := by
  intro σ μ hR
  have hR1 := hR.mono (Nat.le_succ N)
  obtain ⟨R, C, kn, w, u, n, pg, L, r1, r2, r3, r4, r5, r6⟩ := id hR
  simp only [fX11_game_b41, fX11_game, fX12_game_b112, fX12_game_b55, fX12_game, p_isWay, p_mayStart]
  rcases xm_free r1 a with ⟨h1, h2⟩ | ⟨hc, hf, rfl, h1, h2⟩
  · simp only [h1, h2, bindS, i00]; exact ⟨_, _, _, rfl, rfl, hR1⟩
  simp only [h1, h2, bindS, i10, p_isWithin, p_within, zb_if]
  have h0 : R ≠ 0 := fun q => by have := hf.1; rw [q, Nat.zero_mul] at this; omega
  by_cases k1 : ¬ b < 0 ∧ ¬ (3 : Int32) < b
  rotate_left
  · simp only [decide_eq_false k1, decide_eq_false (fun z => k1 z.1 : ¬ ((¬ b < 0 ∧ ¬ (3 : Int32) < b) ∧ (¬ c < 0 ∧ ¬ (9 : Int32) < c) ∧ ¬ e < (1 : Int32) ∧ ¬ (200 : Int32) < e))]; exact ⟨_, _, _, rfl, rfl, hR1⟩
  by_cases k2 : ¬ c < 0 ∧ ¬ (9 : Int32) < c
  rotate_left
  · simp only [decide_eq_true k1, decide_eq_false k2, decide_eq_false (fun z => k2 z.2.1 : ¬ ((¬ b < 0 ∧ ¬ (3 : Int32) < b) ∧ (¬ c < 0 ∧ ¬ (9 : Int32) < c) ∧ ¬ e < (1 : Int32) ∧ ¬ (200 : Int32) < e))]; exact ⟨_, _, _, rfl, rfl, hR1⟩
  by_cases k3 : ¬ e < (1 : Int32) ∧ ¬ (200 : Int32) < e
  rotate_left
  · simp only [decide_eq_true k1, decide_eq_true k2, decide_eq_false k3, decide_eq_false (fun z => k3 z.2.2 : ¬ ((¬ b < 0 ∧ ¬ (3 : Int32) < b) ∧ (¬ c < 0 ∧ ¬ (9 : Int32) < c) ∧ ¬ e < (1 : Int32) ∧ ¬ (200 : Int32) < e))]
    by_cases k4 : s < 0
    · simp only [if_pos k4]; exact ⟨_, _, _, rfl, rfl, hR1⟩
    · simp only [if_neg k4]; exact ⟨_, _, _, rfl, rfl, hR1⟩
  simp only [decide_eq_true k1, decide_eq_true k2, decide_eq_true k3, decide_eq_true (⟨k1, k2, k3⟩ : (¬ b < 0 ∧ ¬ (3 : Int32) < b) ∧ (¬ c < 0 ∧ ¬ (9 : Int32) < c) ∧ ¬ e < (1 : Int32) ∧ ¬ (200 : Int32) < e), if_true]
  by_cases k4 : s < 0
  · simp only [if_pos k4]; exact ⟨_, _, _, rfl, rfl, hR1⟩
  simp only [if_neg k4]
  by_cases k5 : ¬ q < 0 ∧ ¬ (3 : Int32) < q
  rotate_left
  · simp only [decide_eq_false k5]; exact ⟨_, _, _, rfl, rfl, hR1⟩
  simp only [if_pos (decide_eq_true k5)]
  obtain ⟨y, hy, rfl⟩ := in_range (m := 3) (by decide) k1
  obtain ⟨d, hd, rfl⟩ := in_range (m := 9) (by decide) k2
  obtain ⟨t, ht1, ht2, rfl⟩ := in_range1 (m := 200) (by decide) k3
  obtain ⟨σ1, e1, p1, bg⟩ := x_begin σ hc y d t
  have hP : RP N R C kn w u n pg L σ1 μ := p1 _ _ _ _ _ _ _ _ _ _ ⟨r1, r2, r3, r4, r5, r6⟩
  obtain ⟨σ', μ', f1, f2, f3, f4, f5⟩ := play_sim h0 hP hf.1 (by omega) ht1 ht2 bg.1 bg.2.1 bg.2.2.1 bg.2.2.2 s
  rw [e1, bindS, f1, bindS, f2, bindS]
  have hR' : Rel (N + 1) σ' μ' := rp_rel (f4.1 _ _ _ _ _ _ _ _ _ _ (f3.1 _ _ _ _ _ _ _ _ _ _ hP))
  unfold fX8_outcome
  obtain ⟨j1, j2, j3, j4, -⟩ := f5
  rw [j1, j2, j3, j4]
  obtain ⟨z, hz, rfl⟩ := in_range (m := 3) (by decide) k5
  rcases (show z = 0 ∨ z = 1 ∨ z = 2 ∨ z = 3 by omega) with rfl | rfl | rfl | rfl <;> exact ⟨_, _, _, rfl, rfl, hR'⟩
/-- games by seed after seed, the reference's -/
def mqS (a b c t p : Int32) : Nat → SM → Nat → Nat → Option (Nat × SM)
  | 0, μ, x, _ => some (x, μ)
  | k + 1, μ, x, i => (fX12_play μ a b c (nI i) t).bind fun μ' => mqS a b c t p k μ' (x + if gm_gm_touched μ' = p then 1 else 0) (i + 1)
section SEEDS
variable {N R C : Nat} {kn w : Nat → Nat} {u n : Nat} {pg : Nat → Nat} {L : Nat}
theorem mqS_tot (h0 : R ≠ 0) {hc y d t : Nat} (hhc : hc < R * C) (hy : y < 4) (ht : 1 ≤ t) (ht2 : t ≤ 200) (p : Int32) (k : Nat) : ∀ (σ : SX) (μ : SM) (x i : Nat), RP N R C kn w u n pg L σ μ → BgX σ hc y d t → ∃ X μ', mqS (nI hc) (nI y) (nI d) (nI t) p k μ x i = some (X, μ') ∧ KM μ μ' ∧ x ≤ X ∧ X ≤ x + k := by
  induction k with
  | zero => exact fun σ μ x i _ _ => ⟨x, μ, rfl, KM.refl _, Nat.le_refl _, Nat.le_refl _⟩
  | succ k ih =>
    intro σ μ x i hP bg
    obtain ⟨σ1, μ1, f1, f2, f3, f4, f5⟩ := play_sim h0 hP hhc hy ht ht2 bg.1 bg.2.1 bg.2.2.1 bg.2.2.2 (nI i)
    obtain ⟨X, μ', e1, e2, e3, e4⟩ := ih σ1 μ1 (x + if gm_gm_touched μ1 = p then 1 else 0) (i + 1) (f4.1 _ _ _ _ _ _ _ _ _ _ (f3.1 _ _ _ _ _ _ _ _ _ _ hP)) (bg.k f3)
    refine ⟨X, μ', ?_, f4.trans e2, ?_, ?_⟩
    · show (fX12_play μ _ _ _ _ _).bind _ = _
      rw [f2, bindS]; exact e1
    · split at e3 <;> omega
    · split at e4 <;> omega
theorem x_seeds (h0 : R ≠ 0) {hc y d t : Nat} (hhc : hc < R * C) (hy : y < 4) (ht : 1 ≤ t) (ht2 : t ≤ 200) (p : Int32) {m E : Nat} (hm : m ≤ 20) (hE : E ≤ 20) (k : Nat) : ∀ (σ : SX) (μ μ' : SM) (x i X f : Nat), i + k = m → x ≤ E → RP N R C kn w u n pg L σ μ → BgX σ hc y d t → mqS (nI hc) (nI y) (nI d) (nI t) p k μ x i = some (X, μ') → ∃ σ', fX8_seedsThatTouch_l6 (f + k + 1) σ p (nI m) (nI E) (nI x) (nI i) = some (nI (min X E), σ') ∧ KX σ σ' := by
  induction k with
  | zero =>
    intro σ μ μ' x i X f hi hx hP bg e
    cases e
    refine ⟨σ, ?_, KX.refl _⟩
    show fX8_seedsThatTouch_b6 _ _ _ _ _ _ _ = _
    unfold fX8_seedsThatTouch_b6 fX8_seedsThatTouch_b48
    rw [if_neg (nltE i m (by omega) (by omega)), Nat.min_eq_left hx]
  | succ k ih =>
    intro σ μ μ' x i X f hi hx hP bg e
    have e0 : fX8_seedsThatTouch_l6 (f + (k + 1) + 1) σ p (nI m) (nI E) (nI x) (nI i) = fX8_seedsThatTouch_b6 (fX8_seedsThatTouch_l6 (f + k + 1)) σ p (nI m) (nI E) (nI x) (nI i) := rfl
    rw [e0]
    unfold fX8_seedsThatTouch_b6 fX8_seedsThatTouch_b48 fX8_seedsThatTouch_b39
    rw [if_pos (ltE i m (by omega) (by omega))]
    by_cases hxE : x < E
    · rw [if_pos (ltE x E hxE (by omega))]
      obtain ⟨σ1, μ1, f1, f2, f3, f4, f5⟩ := play_sim h0 hP hhc hy ht ht2 bg.1 bg.2.1 bg.2.2.1 bg.2.2.2 (nI i)
      rw [f1, bindS, f5.1]
      have e' : mqS (nI hc) (nI y) (nI d) (nI t) p k μ1 (x + if gm_gm_touched μ1 = p then 1 else 0) (i + 1) = some (X, μ') := by
        have : (fX12_play μ (nI hc) (nI y) (nI d) (nI i) (nI t)).bind (fun μ' => mqS (nI hc) (nI y) (nI d) (nI t) p k μ' (x + if gm_gm_touched μ' = p then 1 else 0) (i + 1)) = some (X, μ') := e
        rw [f2, bindS] at this
        exact this
      obtain ⟨σ', g1, g2⟩ := ih σ1 μ1 μ' (x + if gm_gm_touched μ1 = p then 1 else 0) (i + 1) X f (by omega) (by split <;> omega) (f4.1 _ _ _ _ _ _ _ _ _ _ (f3.1 _ _ _ _ _ _ _ _ _ _ hP)) (bg.k f3) e'
      refine ⟨σ', ?_, f3.trans g2⟩
      by_cases c : gm_gm_touched μ1 = p
      · rw [if_pos c] at g1 ⊢
        rw [nI_1, nI_1]; exact g1
      · rw [if_neg c] at g1 ⊢
        rw [nI_1]
        exact (congrArg (fun z => fX8_seedsThatTouch_l6 (f + k + 1) σ1 p (nI m) (nI E) z (nI (i + 1))) (nI_add x 0)).trans g1
    · rw [if_neg (nltE x E (by omega) (by omega))]
      obtain ⟨X', μ2, g1, -, g3, -⟩ := mqS_tot (N := N) (kn := kn) (w := w) (u := u) (n := n) (pg := pg) (L := L) h0 hhc hy ht ht2 p (k + 1) σ μ x i hP bg
      rw [e] at g1
      cases g1
      exact ⟨σ, by rw [show min X E = x by omega], KX.refl _⟩
theorem m_lastsL {a b c t : Int32} {m : Nat} (hm : m ≤ 20) (k : Nat) : ∀ (μ μ' : SM) (x i X f : Nat), i + k = m → mqS a b c t (-1) k μ x i = some (X, μ') → fX12_lasts_l60 (f + k + 1) μ a b c t (nI m) (nI x) (nI i) = some (nI X, μ') := by
  induction k with
  | zero =>
    intro μ μ' x i X f hi e
    cases e
    show fX12_lasts_b60 _ _ _ _ _ _ _ _ _ = _
    unfold fX12_lasts_b60
    rw [if_neg (nltE i m (by omega) (by omega))]
  | succ k ih =>
    intro μ μ' x i X f hi e
    have e0 : fX12_lasts_l60 (f + (k + 1) + 1) μ a b c t (nI m) (nI x) (nI i) = fX12_lasts_b60 (fX12_lasts_l60 (f + k + 1)) μ a b c t (nI m) (nI x) (nI i) := rfl
    rw [e0]
    unfold fX12_lasts_b60 fX12_lasts_b93
    rw [if_pos (ltE i m (by omega) (by omega))]
    change (fX12_play μ a b c (nI i) t).bind (fun μ' => mqS a b c t (-1) k μ' (x + if gm_gm_touched μ' = -1 then 1 else 0) (i + 1)) = some (X, μ') at e
    cases hp : fX12_play μ a b c (nI i) t with
    | none => rw [hp] at e; cases e
    | some μ1 =>
      rw [hp, bindS] at e
      rw [bindS]
      have g1 := ih μ1 μ' _ (i + 1) X f (by omega) e
      by_cases q : gm_gm_touched μ1 = -1
      · rw [if_pos q] at g1 ⊢
        rw [nI_1, nI_1]; exact g1
      · rw [if_neg q] at g1 ⊢
        rw [nI_1]
        exact (congrArg (fun z => fX12_lasts_l60 (f + k + 1) μ1 a b c t (nI m) z (nI (i + 1))) (nI_add x 0)).trans g1
end SEEDS
theorem sim_lasts (N : Nat) (a b c e q : Int32) : SimW N (fun σ => fX11_lasts σ a b c e q) (fun μ => fX12_lasts μ a b c e q) := by
  intro σ μ hR
  have hR1 := hR.mono (Nat.le_succ N)
  obtain ⟨R, C, kn, w, u, n, pg, L, r1, r2, r3, r4, r5, r6⟩ := id hR
  simp only [fX11_lasts_b40, fX11_lasts, fX12_lasts_b93, fX12_lasts_b60, fX12_lasts_b51, fX12_lasts, p_isWay, p_mayStart]
  rcases xm_free r1 a with ⟨h1, h2⟩ | ⟨hc, hf, rfl, h1, h2⟩
  · simp only [h1, h2, bindS, i00]; exact ⟨_, _, _, rfl, rfl, hR1⟩
  simp only [h1, h2, bindS, i10, p_isWithin, p_within, zb_if]
  have h0 : R ≠ 0 := fun q => by have := hf.1; rw [q, Nat.zero_mul] at this; omega
  by_cases k1 : ¬ b < 0 ∧ ¬ (3 : Int32) < b
  rotate_left
  · simp only [decide_eq_false k1, decide_eq_false (fun z => k1 z.1 : ¬ ((¬ b < 0 ∧ ¬ (3 : Int32) < b) ∧ (¬ c < 0 ∧ ¬ (9 : Int32) < c) ∧ ¬ e < (1 : Int32) ∧ ¬ (200 : Int32) < e))]; exact ⟨_, _, _, rfl, rfl, hR1⟩
  by_cases k2 : ¬ c < 0 ∧ ¬ (9 : Int32) < c
  rotate_left
  · simp only [decide_eq_true k1, decide_eq_false k2, decide_eq_false (fun z => k2 z.2.1 : ¬ ((¬ b < 0 ∧ ¬ (3 : Int32) < b) ∧ (¬ c < 0 ∧ ¬ (9 : Int32) < c) ∧ ¬ e < (1 : Int32) ∧ ¬ (200 : Int32) < e))]; exact ⟨_, _, _, rfl, rfl, hR1⟩
  by_cases k3 : ¬ e < (1 : Int32) ∧ ¬ (200 : Int32) < e
  rotate_left
  · simp only [decide_eq_true k1, decide_eq_true k2, decide_eq_false k3, decide_eq_false (fun z => k3 z.2.2 : ¬ ((¬ b < 0 ∧ ¬ (3 : Int32) < b) ∧ (¬ c < 0 ∧ ¬ (9 : Int32) < c) ∧ ¬ e < (1 : Int32) ∧ ¬ (200 : Int32) < e))]; exact ⟨_, _, _, rfl, rfl, hR1⟩
  simp only [decide_eq_true k1, decide_eq_true k2, decide_eq_true k3, decide_eq_true (⟨k1, k2, k3⟩ : (¬ b < 0 ∧ ¬ (3 : Int32) < b) ∧ (¬ c < 0 ∧ ¬ (9 : Int32) < c) ∧ ¬ e < (1 : Int32) ∧ ¬ (200 : Int32) < e), if_true]
  by_cases k4 : q < (1 : Int32)
  · simp only [if_pos k4, decide_eq_false (fun z => z.1 k4 : ¬ (¬ q < (1 : Int32) ∧ ¬ (20 : Int32) < q))]; exact ⟨_, _, _, rfl, rfl, hR1⟩
  by_cases k5 : (20 : Int32) < q
  · simp only [if_neg k4, if_pos k5, decide_eq_false (fun z => z.2 k5 : ¬ (¬ q < (1 : Int32) ∧ ¬ (20 : Int32) < q))]; exact ⟨_, _, _, rfl, rfl, hR1⟩
  simp only [if_neg k4, if_neg k5, decide_eq_true (⟨k4, k5⟩ : ¬ q < (1 : Int32) ∧ ¬ (20 : Int32) < q), if_true]
  obtain ⟨y, hy, rfl⟩ := in_range (m := 3) (by decide) k1
  obtain ⟨d, hd, rfl⟩ := in_range (m := 9) (by decide) k2
  obtain ⟨t, ht1, ht2, rfl⟩ := in_range1 (m := 200) (by decide) k3
  obtain ⟨m, hm1, hm2, rfl⟩ := in_range1 (m := 20) (by decide) ⟨k4, k5⟩
  obtain ⟨σ1, e1, p1, bg⟩ := x_begin σ hc y d t
  have hP : RP N R C kn w u n pg L σ1 μ := p1 _ _ _ _ _ _ _ _ _ _ ⟨r1, r2, r3, r4, r5, r6⟩
  obtain ⟨X, μ', f1, f2, f3, f4⟩ := mqS_tot h0 hf.1 (show y < 4 by omega) ht1 ht2 (-1) m σ1 μ 0 0 hP bg
  obtain ⟨σ', g1, g2⟩ := x_seeds h0 hf.1 (show y < 4 by omega) ht1 ht2 (-1) hm2 hm2 m σ1 μ μ' 0 0 X (999 - m) (by omega) (Nat.zero_le _) hP bg f1
  have g3 := m_lastsL hm2 m μ μ' 0 0 X (999 - m) (by omega) f1
  rw [show 999 - m + m + 1 = 1000 by omega] at g1 g3
  rw [e1, bindS]
  unfold fX8_seedsThatTouch
  have g1' : fX8_seedsThatTouch_l6 1000 σ1 (-1) (nI m) (nI m) 0 0 = some (nI (min X m), σ') := g1
  have g3' : fX12_lasts_l60 1000 μ (nI hc) (nI y) (nI d) (nI t) (nI m) 0 0 = some (nI X, μ') := g3
  rw [g1', g3', bindS, Nat.min_eq_left (show X ≤ m by omega)]
  exact ⟨_, _, _, rfl, rfl, rp_rel (f2.1 _ _ _ _ _ _ _ _ _ _ (g2.1 _ _ _ _ _ _ _ _ _ _ hP))⟩
