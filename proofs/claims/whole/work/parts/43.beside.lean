/-! ===== what is beside each cell ===== -/
def geoB (R C c y : Nat) : Bool := !(decide (2 ≤ R) && decide (2 ≤ C) && decide (c < R * C)) || decide ((if (¬ nI (c / C) + ev_sf 1001 y < 0 ∧ ¬ nI R - 1 < nI (c / C) + ev_sf 1001 y) ∧ (¬ nI (c % C) + ev_sf 1002 y < 0 ∧ ¬ nI C - 1 < nI (c % C) + ev_sf 1002 y) then (nI (c / C) + ev_sf 1001 y) * nI C + (nI (c % C) + ev_sf 1002 y) else -1) = oI (onN R C c y))
theorem geoA : ∀ R, R < 7 → ∀ C, C < 7 → ∀ c, c < 36 → ∀ y, y < 4 → geoB R C c y = true := by decide +kernel
theorem geo (R : Nat) (h1 : R < 7) (C : Nat) (h2 : C < 7) (h3 : 2 ≤ R) (h4 : 2 ≤ C) (c : Nat) (hc : c < R * C) (y : Nat) (hy : y < 4) :
    (if (¬ nI (c / C) + ev_sf 1001 y < 0 ∧ ¬ nI R - 1 < nI (c / C) + ev_sf 1001 y) ∧ (¬ nI (c % C) + ev_sf 1002 y < 0 ∧ ¬ nI C - 1 < nI (c % C) + ev_sf 1002 y) then (nI (c / C) + ev_sf 1001 y) * nI C + (nI (c % C) + ev_sf 1002 y) else -1) = oI (onN R C c y) := by
  have h36 : R * C ≤ 6 * 6 := Nat.mul_le_mul (by omega) (by omega)
  have h := geoA R h1 C h2 c (by omega) y hy
  unfold geoB at h
  rw [decide_eq_true h3, decide_eq_true h4, decide_eq_true hc] at h
  exact of_decide_eq_true h
/-- the row of what is beside -/
def bsF (R C : Nat) : Nat → Int32 := fun k => if k / 4 < R * C then oI (onN R C (k / 4) (k % 4)) else -1
theorem x_rowOf {σ : SX} {c : Nat} (h : c < 36) : fX7_rowOf σ (nI c) = some (gx_rg_rows σ c) := by
  unfold fX7_rowOf fX7_rowOf_b23
  rw [if_neg (nI_pos (by omega)), if_pos (show nI c < (36 : Int32) from ltE c 36 h (by omega)), if_pos (inb h (by omega)), cl_nI (by omega)]
theorem x_columnOf {σ : SX} {c : Nat} (h : c < 36) : fX7_columnOf σ (nI c) = some (gx_rg_columns σ c) := by
  unfold fX7_columnOf fX7_columnOf_b23
  rw [if_neg (nI_pos (by omega)), if_pos (show nI c < (36 : Int32) from ltE c 36 h (by omega)), if_pos (inb h (by omega)), cl_nI (by omega)]
theorem x_hasS {σ : SX} {n c : Nat} (hs : gx_rg_size σ = nI n) (hn : n ≤ 36) (h : c < 36) : fX7_has σ (nI c) = some (zb (decide (c < n))) := by
  unfold fX7_has fX7_has_b16 fX7_has_b17
  rw [if_neg (nI_pos (by omega)), hs]
  by_cases e : c < n
  · rw [if_pos (ltE c n e (by omega)), if_pos (Or.inr rfl), decide_eq_true e]; rfl
  · rw [if_neg (nltE c n (by omega) (by omega)), if_pos (Or.inl rfl), decide_eq_false e]; rfl
theorem x_findBeside {σ : SX} {R C : Nat} (hR : 2 ≤ R) (hR6 : R ≤ 6) (hC : 2 ≤ C) (hC6 : C ≤ 6) (hs : gx_rg_size σ = nI (R * C)) (hr : ∀ c, c < R * C → gx_rg_rows σ c = nI (c / C) ∧ gx_rg_columns σ c = nI (c % C)) : fX7_findBeside σ (nI R) (nI C) = some (sx_rg_beside σ (laid (bsF R C) (gx_rg_beside σ) 144)) := by
  have h36 : R * C ≤ 36 := Nat.mul_le_mul hR6 hC6
  unfold fX7_findBeside
  have := lp_go (fun m (q : SX × Int32) => fX7_findBeside_l2 m q.1 (nI R) (nI C) q.2) (fun i => (sx_rg_beside σ (laid (bsF R C) (gx_rg_beside σ) i), nI i)) 144 (fun i m hi => by
    show fX7_findBeside_b2 _ (sx_rg_beside σ _) _ _ _ = fX7_findBeside_l2 m (sx_rg_beside σ _) _ _ (nI (i + 1))
    rw [← laid_I]
    unfold fX7_findBeside_b2 fX7_findBeside_b83 fX7_findBeside_b84 fX7_findBeside_b107
    rw [if_pos (show nI i < (144 : Int32) from ltE i 144 hi (by omega)), nI_div4 (by omega), and3 i hi, x_rowOf (by omega), bindS, x_columnOf (by omega), x_hasS (σ := sx_rg_beside σ (laid (bsF R C) (gx_rg_beside σ) i)) (n := R * C) (by rw [px_rg_size_rg_beside]; exact hs) h36 (by omega), px_rg_rows_rg_beside, px_rg_columns_rg_beside, px_rg_beside_rg_beside]
    simp only [bindS, if_pos (inbN (show i % 4 < 4 by omega) (show i % 4 < 2 ^ 31 by omega)), p_isWithin, zb_if, if_true, cl_nI (show i < 2 ^ 31 by omega), cl_nI (show i % 4 < 2 ^ 31 by omega), if_pos (inbN hi (show i < 2 ^ 31 by omega)), if_neg (show ¬ (1 : Int32) = 0 by decide), nI_lit1, decide_eq_true_eq]
    have hb : ∀ v, sx_rg_beside (sx_rg_beside σ (laid (bsF R C) (gx_rg_beside σ) i)) v = sx_rg_beside σ v := fun v => rfl
    simp only [hb]
    unfold bsF
    by_cases e : i / 4 < R * C
    · have g := geo R (by omega) C (by omega) hR hC (i / 4) e (i % 4) (by omega)
      rw [if_pos e, if_pos e, (hr _ e).1, (hr _ e).2, ← g]
      by_cases c1 : ¬ nI (i / 4 / C) + ev_sf 1001 (i % 4) < 0 ∧ ¬ nI R - 1 < nI (i / 4 / C) + ev_sf 1001 (i % 4)
      · rw [if_pos c1]
        by_cases c2 : ¬ nI (i / 4 % C) + ev_sf 1002 (i % 4) < 0 ∧ ¬ nI C - 1 < nI (i / 4 % C) + ev_sf 1002 (i % 4)
        · rw [if_pos c2, if_pos ⟨c1, c2⟩]
        · rw [if_neg c2, if_neg (fun z => c2 z.2)]
      · rw [if_neg c1, if_neg (fun z => c1 z.1)]
    · rw [if_neg e, if_neg e]) 856
  rw [laid_0] at this
  refine Eq.trans (show fX7_findBeside_l2 1000 σ (nI R) (nI C) 0 = _ from rfl) (this.trans ?_)
  show fX7_findBeside_b2 _ _ _ _ _ = _
  unfold fX7_findBeside_b2
  rw [if_neg (show ¬ nI 144 < (144 : Int32) by decide)]
