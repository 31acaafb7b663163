/-! ===== ring, the reference's loops; both together ===== -/
theorem m_isFreeG {μ : SM} {R C : Nat} {kn : Nat → Nat} (h36 : R * C ≤ 36) (hR : gm_rg_rows μ = nI R) (hC : gm_rg_columns μ = nI C) (hk : ∀ c, c < R * C → kn c < 4 ∧ gm_rg_cellOf μ c = nI (kn c)) {j : Nat} (hj : j < 36) : fX12_isFree μ (nI j) = some (zb (decide (frC R C kn j))) := by
  unfold fX12_isFree fX12_isFree_b22 fX12_isFree_b23 fX12_isCell fX12_cells
  rw [hR, hC, pk_mul, bindS, p_within]
  by_cases e : j < R * C
  · obtain ⟨k1, k2⟩ := hk j e
    have e1 : nI (R * C) - 1 = nI (R * C - 1) := by
      rw [show R * C = (R * C - 1) + 1 by omega, ← nI_1, Int32.add_sub_cancel]; rfl
    rw [e1, decide_eq_true (show ¬ nI j < 0 ∧ ¬ nI (R * C - 1) < nI j from ⟨nI_pos (by omega), nltE _ _ (by omega) (by omega)⟩)]
    simp only [zb, if_true, bindS, i10, or_true, if_neg (show ¬ (1 : Int32) = 0 by decide), if_pos (inb hj (show 36 < 2 ^ 31 by omega)), cl_nI (show j < 2 ^ 31 by omega), k2]
    by_cases k3 : kn j < 2
    · have := ltE (kn j) 2 k3 (by omega)
      simp [show nI (kn j) < (2 : Int32) from this, show frC R C kn j from ⟨e, k3⟩]
      exact ⟨Int32.not_lt.mp (nI_pos (by omega)), hj⟩
    · have := nltE (kn j) 2 (by omega) (by omega)
      simp [show ¬ nI (kn j) < (2 : Int32) from this, show ¬ frC R C kn j from fun z => k3 z.2]
      exact ⟨Int32.not_lt.mp (nI_pos (by omega)), hj⟩
  · have : ¬ (¬ nI j < 0 ∧ ¬ nI (R * C) - 1 < nI j) := fun z => z.2 (by
      by_cases z0 : R * C = 0
      · rw [z0]
        exact Int32.lt_of_lt_of_le (show nI 0 - 1 < 0 by decide) (Int32.not_lt.mp (nI_pos (by omega)))
      · have e1 : nI (R * C) - 1 = nI (R * C - 1) := by
          rw [show R * C = (R * C - 1) + 1 by omega, ← nI_1, Int32.add_sub_cancel]; rfl
        rw [e1]
        exact ltE _ _ (by omega) (by omega))
    rw [decide_eq_false this, decide_eq_false (fun z : frC R C kn j => e z.1)]
    rfl
theorem m_ringCount {μ : SM} {r wd : Nat} {ce : Nat → Nat} (h36 : (r + 1) * wd ≤ 36) (h1 : gm_rp_isWhole μ = 1) (hr : gm_rp_newRows μ = nI r) (hw : gm_rp_newColumns μ = nI wd) (hf : ∀ k, k < (r + 1) * wd → ce k < 4 ∧ gm_rp_newCell μ k = nI (ce k)) : fX12_ring_l8 1000 μ 0 0 = fX12_ring_b54 μ (nI (smN (fun c => if ce c < 2 then 1 else 0) ((r + 1) * wd))) := by
  have := lp_go (fun m (q : Int32 × Int32) => fX12_ring_l8 m μ q.1 q.2) (fun i => (nI (smN (fun c => if ce c < 2 then 1 else 0) i), nI i)) ((r + 1) * wd) (fun i m hi => by
    obtain ⟨k1, k2⟩ := hf i hi
    show fX12_ring_b8 _ _ _ _ = fX12_ring_l8 m μ (nI (smN (fun c => if ce c < 2 then 1 else 0) i + (if ce i < 2 then 1 else 0))) (nI (i + 1))
    unfold fX12_ring_b8 fX12_ring_b46
    rw [h1, if_neg (by decide), hr, hw, nI_1, pk_mul, if_pos (ltE i _ hi (by omega)), if_pos (inb (show i < 36 by omega) (by omega)), cl_nI (by omega), k2, nI_1]
    by_cases e : ce i < 2
    · rw [if_pos (show nI (ce i) < (2 : Int32) from ltE _ 2 e (by omega)), if_pos e, nI_1]
    · rw [if_neg (show ¬ nI (ce i) < (2 : Int32) from nltE _ 2 (by omega) (by omega)), if_neg e, nI_add0]; exact congrArg _ (nI_1 i)) (1000 - (r + 1) * wd)
  rw [show 1000 - (r + 1) * wd + (r + 1) * wd = 1000 by omega] at this
  refine this.trans ?_
  rw [show 1000 - (r + 1) * wd = (999 - (r + 1) * wd) + 1 by omega]
  show fX12_ring_b8 _ _ _ _ = _
  unfold fX12_ring_b8
  rw [h1, if_neg (by decide), hr, hw, nI_1, pk_mul, if_neg (nltE _ _ (Nat.le_refl _) (by omega))]
theorem m_ringCopy {μ : SM} {R C : Nat} (h36 : R * C ≤ 36) (hR : gm_rg_rows μ = nI R) (hC : gm_rg_columns μ = nI C) : fX12_ring_l81 1000 μ 0 = (fX12_layLost (sm_nm_jacketTenths (sm_nm_jacketB (sm_nm_jacketA (sm_pl_players (sm_rg_rings (sm_rg_cellOf μ (laid (gm_rp_newCell μ) (gm_rg_cellOf μ) (R * C))) (gm_rg_rings μ + 1)) 0) (-1)) (-1)) 0)).bind (fun r2 => some (gm_rg_rows r2.2 * gm_rg_columns r2.2, sm_pg_pageLength r2.2 0)) := by
  have := lp_go (fun m (q : SM × Int32) => fX12_ring_l81 m q.1 q.2) (fun i => (sm_rg_cellOf μ (laid (gm_rp_newCell μ) (gm_rg_cellOf μ) i), nI i)) (R * C) (fun i m hi => by
    show fX12_ring_b81 _ (sm_rg_cellOf μ _) _ = fX12_ring_l81 m (sm_rg_cellOf μ _) (nI (i + 1))
    unfold fX12_ring_b81
    rw [pm_rg_rows_rg_cellOf, pm_rg_columns_rg_cellOf, hR, hC, pk_mul, if_pos (ltE i _ hi (by omega)), if_pos (inb (show i < 36 by omega) (by omega)), if_pos (inb (show i < 36 by omega) (by omega)), cl_nI (by omega), nI_1, ← laid_I]
    rfl) (1000 - R * C)
  rw [laid_0, show 1000 - R * C + R * C = 1000 by omega] at this
  refine Eq.trans (show fX12_ring_l81 1000 μ 0 = _ from rfl) (this.trans ?_)
  rw [show 1000 - R * C = (999 - R * C) + 1 by omega]
  show fX12_ring_b81 _ _ _ = _
  unfold fX12_ring_b81
  rw [pm_rg_rows_rg_cellOf, pm_rg_columns_rg_cellOf, hR, hC, pk_mul, if_neg (nltE _ _ (Nat.le_refl _) (by omega)), pm_rg_rings_rg_cellOf]
theorem laid_O {α : Type} (f g : Nat → α) (i : Nat) : va_up (laid f g i) i (f i) = laid f g (i + 1) := by
  funext k
  unfold laid
  by_cases e : k = i
  · subst e; rw [va_up_self, if_pos (by omega)]
  · rw [va_up_ne _ _ e]
    by_cases q : k < i
    · rw [if_pos q, if_pos (by omega)]
    · rw [if_neg q, if_neg (by omega)]
theorem x_ringClear (σ : SX) : fX11_ring_l44 1000 σ 0 = (fX3_forgetJackets (sx_tp_playing (sx_pl_arr σ (laid (fun _ => none) (gx_pl_arr σ) 6)) 0)).bind (fun r4 => (fX4_loseHim r4).bind (fun r5 => some (gx_rg_size r5, sx_tp_ringsRead (sx_tp_imageKept r5 0) (gx_tp_ringsRead r5 + 1)))) := by
  have := lp_go (fun m (q : SX × Int32) => fX11_ring_l44 m q.1 q.2) (fun i => (sx_pl_arr σ (laid (fun _ => none) (gx_pl_arr σ) i), nI i)) 6 (fun i m hi => by
    show fX11_ring_b44 _ (sx_pl_arr σ _) _ = fX11_ring_l44 m (sx_pl_arr σ _) (nI (i + 1))
    unfold fX11_ring_b44
    rw [if_pos (show nI i < (6 : Int32) from ltE i 6 hi (by omega)), if_pos (inb hi (by omega)), cl_nI (by omega), nI_1, ← laid_O]
    rfl) 994
  rw [laid_0] at this
  refine Eq.trans (show fX11_ring_l44 1000 σ 0 = _ from rfl) (this.trans ?_)
  show fX11_ring_b44 _ _ _ = _
  unfold fX11_ring_b44
  rw [if_neg (show ¬ nI 6 < (6 : Int32) by decide)]
