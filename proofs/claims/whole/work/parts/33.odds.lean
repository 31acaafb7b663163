/-! ===== sums of weights; odds, ways, likeliest, knows ===== -/
theorem lN_addE (a b : Nat) : lN a + lN b = lN (a + b) := lN_add a b
theorem smL_lN {f : Nat → Int64} {w : Nat → Nat} : ∀ {n : Nat}, (∀ k, k < n → f k = lN (w k)) → smL f n = lN (smN w n)
  | 0, _ => rfl
  | n + 1, h => by
    show smL f n + f n = lN (smN w n + w n)
    rw [smL_lN (fun k hk => h k (by omega)), h n (by omega), lN_addE]
theorem smN_le {f g : Nat → Nat} : ∀ {n : Nat}, (∀ k, k < n → f k ≤ g k) → smN f n ≤ smN g n
  | 0, _ => Nat.le_refl _
  | n + 1, h => Nat.add_le_add (smN_le (fun k hk => h k (by omega))) (h n (by omega))
theorem smN_cong {f g : Nat → Nat} : ∀ {n : Nat}, (∀ k, k < n → f k = g k) → smN f n = smN g n
  | 0, _ => rfl
  | n + 1, h => by
    show smN f n + f n = smN g n + g n
    rw [smN_cong (fun k hk => h k (by omega)), h n (by omega)]
theorem smN_mono (f : Nat → Nat) {m n : Nat} (h : m ≤ n) : smN f m ≤ smN f n := by
  induction n with
  | zero => rw [Nat.le_zero.mp h]; exact Nat.le_refl _
  | succ n ih =>
    rcases Nat.lt_or_ge m (n + 1) with q | q
    · exact Nat.le_trans (ih (by omega)) (Nat.le_add_right _ _)
    · rw [show m = n + 1 by omega]; exact Nat.le_refl _
theorem smN_one (f : Nat → Nat) {k n : Nat} (h : k < n) : f k ≤ smN f n := Nat.le_trans (Nat.le_add_left _ _) (show smN f (k + 1) ≤ smN f n from smN_mono f h)
theorem pow60 {u : Nat} (h : u ≤ 9) : 144 * 60 ^ u ≤ 144 * 60 ^ 9 := Nat.mul_le_mul_left _ (Nat.pow_le_pow_right (by decide) h)
theorem p60_9 : 144 * 60 ^ 9 < 2 ^ 61 := by decide
/-- four weights of a cell -/
def wC (w : Nat → Nat) (c : Nat) : Nat := w (c * 4) + w (c * 4 + 1) + w (c * 4 + 2) + w (c * 4 + 3)
theorem wC_le {w : Nat → Nat} {c : Nat} (h : c < 36) : wC w c ≤ smN w 144 := by
  have h1 : smN w (c * 4 + 4) ≤ smN w 144 := smN_mono w (by omega)
  have e : smN w (c * 4 + 4) = smN w (c * 4) + w (c * 4) + w (c * 4 + 1) + w (c * 4 + 2) + w (c * 4 + 3) := rfl
  unfold wC
  omega
section OD
variable {N : Nat} {σ : SX} {μ : SM} {R C : Nat} {kn w : Nat → Nat} {u : Nat}
theorem od_lt (h : RelOd σ μ R C kn w u) : smN w 144 < 2 ^ 61 := Nat.lt_of_le_of_lt (Nat.le_trans h.2.2.2.2.1 (pow60 h.1)) p60_9
theorem x_total (h : RelOd σ μ R C kn w u) : fX4_total σ = some (lN (smN w 144)) := by
  have hs := smL_lN (n := 144) (fun k hk => (h.2.2.2.1 k hk).1)
  rw [← hs]
  unfold fX4_total
  have := lp_go (fun n (p : Int64 × Int32) => fX4_total_l14 σ n p.1 p.2) (fun i => (smL (gx_od_weights σ) i, nI i)) 144 (fun i n hi => by
    show fX4_total_b14 σ _ _ _ = _
    unfold fX4_total_b14
    rw [if_pos (show nI i < (144 : Int32) from ltE i 144 hi (by omega)), if_pos (inb hi (by omega)), cl_nI (by omega), nI_1]
    rfl) 856
  refine this.trans ?_
  show fX4_total_b14 σ _ _ _ = _
  unfold fX4_total_b14
  rw [if_neg (show ¬ nI 144 < (144 : Int32) by decide)]
theorem m_all (h : RelOd σ μ R C kn w u) : fX12_all μ = some (lN (smN w 144)) := by
  have hs := smL_lN (n := 144) (fun k hk => (h.2.2.2.1 k hk).2.1)
  rw [← hs]
  unfold fX12_all
  have := lp_go (fun n (p : Int64 × Int32) => fX12_all_l4 μ n p.1 p.2) (fun i => (smL (gm_od_weight μ) i, nI i)) 144 (fun i n hi => by
    show fX12_all_b4 μ _ _ _ = _
    unfold fX12_all_b4
    rw [if_pos (show nI i < (144 : Int32) from ltE i 144 hi (by omega)), if_pos (inb hi (by omega)), cl_nI (by omega), nI_1]
    rfl) 856
  refine this.trans ?_
  show fX12_all_b4 μ _ _ _ = _
  unfold fX12_all_b4
  rw [if_neg (show ¬ nI 144 < (144 : Int32) by decide)]
/-- how many are above 0 -/
def abN (w : Nat → Nat) : Nat → Nat := smN (fun k => if 0 < w k then 1 else 0)
theorem x_above (h : RelOd σ μ R C kn w u) : fX4_aboveNought σ = some (nI (abN w 144)) := by
  have hlt := od_lt h
  unfold fX4_aboveNought
  have := lp_go (fun n (p : Int32 × Int32) => fX4_aboveNought_l13 σ n p.1 p.2) (fun i => (nI (abN w i), nI i)) 144 (fun i n hi => by
    show fX4_aboveNought_b13 σ _ _ _ = _
    unfold fX4_aboveNought_b13 fX4_aboveNought_b38
    have hw := smN_one w hi
    rw [if_pos (show nI i < (144 : Int32) from ltE i 144 hi (by omega)), if_pos (inb hi (by omega)), cl_nI (by omega), nI_1, (h.2.2.2.1 i hi).1]
    show _ = fX4_aboveNought_l13 σ n (nI (abN w i + if 0 < w i then 1 else 0)) (nI (i + 1))
    by_cases h0 : 0 < w i
    · rw [if_pos (show (0 : Int64) < lN (w i) from (pk_lLT (a := 0) (by decide) (by omega)).mpr h0), if_pos h0, nI_1]
    · rw [if_neg (show ¬ (0 : Int64) < lN (w i) from fun q => h0 ((pk_lLT (a := 0) (by decide) (by omega)).mp q)), if_neg h0]
      show fX4_aboveNought_l13 σ n (nI _ + nI 0) (nI i + 1) = _
      rw [nI_add, nI_1]) 856
  refine this.trans ?_
  show fX4_aboveNought_b13 σ _ _ _ = _
  unfold fX4_aboveNought_b13
  rw [if_neg (show ¬ nI 144 < (144 : Int32) by decide)]
theorem m_above (h : RelOd σ μ R C kn w u) : fX12_above μ = some (nI (abN w 144)) := by
  have hlt := od_lt h
  unfold fX12_above
  have := lp_go (fun n (p : Int32 × Int32) => fX12_above_l4 μ n p.1 p.2) (fun i => (nI (abN w i), nI i)) 144 (fun i n hi => by
    show fX12_above_b4 μ _ _ _ = _
    unfold fX12_above_b4 fX12_above_b28
    have hw := smN_one w hi
    rw [if_pos (show nI i < (144 : Int32) from ltE i 144 hi (by omega)), if_pos (inb hi (by omega)), cl_nI (by omega), nI_1, (h.2.2.2.1 i hi).2.1]
    show _ = fX12_above_l4 μ n (nI (abN w i + if 0 < w i then 1 else 0)) (nI (i + 1))
    by_cases h0 : 0 < w i
    · rw [if_pos (show (0 : Int64) < lN (w i) from (pk_lLT (a := 0) (by decide) (by omega)).mpr h0), if_pos h0, nI_1]
    · rw [if_neg (show ¬ (0 : Int64) < lN (w i) from fun q => h0 ((pk_lLT (a := 0) (by decide) (by omega)).mp q)), if_neg h0]
      show fX12_above_l4 μ n (nI _ + nI 0) (nI i + 1) = _
      rw [nI_add, nI_1]) 856
  refine this.trans ?_
  show fX12_above_b4 μ _ _ _ = _
  unfold fX12_above_b4
  rw [if_neg (show ¬ nI 144 < (144 : Int32) by decide)]
theorem nI_lit1 (n : Nat) : nI n + (1 : Int32) = nI (n + 1) := nI_1 n
theorem nI_lit2 (n : Nat) : nI n + (2 : Int32) = nI (n + 2) := nI_add n 2
theorem nI_lit3 (n : Nat) : nI n + (3 : Int32) = nI (n + 3) := nI_add n 3
theorem nI_mul4 (n : Nat) : nI n * (4 : Int32) = nI (n * 4) := pk_mul n 4
theorem nI_4mul (n : Nat) : (4 : Int32) * nI n = nI (n * 4) := by rw [Nat.mul_comm]; exact pk_mul 4 n
theorem x_ofCell (h : RelOd σ μ R C kn w u) {c : Nat} (hc : c < 36) : fX4_ofCell σ (nI c) = some (lN (wC w c)) := by
  unfold fX4_ofCell fX4_sumOfCell_w
  simp only [nI_mul4, nI_lit1, nI_lit2, nI_lit3]
  rw [if_neg (nI_pos (by omega)), if_pos (show nI (c * 4 + 3) < (144 : Int32) from ltE _ 144 (by omega) (by omega)), if_pos (inb (by omega) (by omega)), if_pos (inb (by omega) (by omega)), if_pos (inb (by omega) (by omega)), if_pos (inb (by omega) (by omega)), cl_nI (by omega), cl_nI (by omega), cl_nI (by omega), cl_nI (by omega), bindS]
  rw [(h.2.2.2.1 _ (by omega)).1, (h.2.2.2.1 _ (by omega)).1, (h.2.2.2.1 _ (by omega)).1, (h.2.2.2.1 _ (by omega)).1, lN_addE, lN_addE, lN_addE]
  rfl
theorem m_ofCell (h : RelOd σ μ R C kn w u) {c : Nat} (hc : c < 36) : fX12_ofCell μ (nI c) = some (lN (wC w c)) := by
  unfold fX12_ofCell
  simp only [nI_4mul, nI_lit1, nI_lit2, nI_lit3]
  rw [if_pos (inb (by omega) (by omega)), if_pos (inb (by omega) (by omega)), if_pos (inb (by omega) (by omega)), if_pos (inb (by omega) (by omega)), cl_nI (by omega), cl_nI (by omega), cl_nI (by omega), cl_nI (by omega)]
  rw [(h.2.2.2.1 _ (by omega)).2.1, (h.2.2.2.1 _ (by omega)).2.1, (h.2.2.2.1 _ (by omega)).2.1, (h.2.2.2.1 _ (by omega)).2.1, lN_addE, lN_addE, lN_addE]
  rfl
/-- the best of the cells below i -/
def bsC (w : Nat → Nat) : Nat → Nat
  | 0 => 0
  | 1 => 0
  | i + 2 => if wC w (bsC w (i + 1)) < wC w (i + 1) then i + 1 else bsC w (i + 1)
theorem bsC_lt (w : Nat → Nat) : ∀ i, bsC w (i + 1) < i + 1
  | 0 => Nat.zero_lt_one
  | i + 1 => by
    unfold bsC
    split
    · omega
    · exact Nat.lt_succ_of_lt (bsC_lt w i)
theorem x_best (hr : RelRg N σ μ R C kn) (h : RelOd σ μ R C kn w u) (h0 : 0 < R * C) : fX4_bestCell σ = some (nI (bsC w (R * C))) := by
  have h36 := rc36 hr
  have hlt := od_lt h
  unfold fX4_bestCell
  have := lp_go (fun n (p : Int32 × Int32) => fX4_bestCell_l4 σ n p.1 p.2) (fun i => (nI (bsC w (i + 1)), nI (i + 1))) (R * C - 1) (fun i n hi => by
    show fX4_bestCell_b4 σ _ _ _ = _
    unfold fX4_bestCell_b4 fX4_bestCell_b31
    have hb := bsC_lt w i
    have k1 := wC_le (w := w) (c := i + 1) (by omega)
    have k2 := wC_le (w := w) (c := bsC w (i + 1)) (by omega)
    rw [hr.2.2.2.1, if_pos (ltE (i + 1) (R * C) (by omega) (by omega)), x_ofCell h (by omega), x_ofCell h (by omega), bindS, bindS, nI_1]
    show _ = fX4_bestCell_l4 σ n (nI (if wC w (bsC w (i + 1)) < wC w (i + 1) then i + 1 else bsC w (i + 1))) (nI (i + 1 + 1))
    by_cases hq : wC w (bsC w (i + 1)) < wC w (i + 1)
    · rw [if_pos ((pk_lLT (by omega) (by omega)).mpr hq), if_pos hq]
    · rw [if_neg (fun q => hq ((pk_lLT (by omega) (by omega)).mp q)), if_neg hq]) (1000 - (R * C - 1))
  rw [show 1000 - (R * C - 1) + (R * C - 1) = 1000 by omega] at this
  refine this.trans ?_
  rw [show R * C - 1 + 1 = R * C by omega, show 1000 - (R * C - 1) = (999 - (R * C - 1)) + 1 by omega]
  show fX4_bestCell_b4 σ _ _ _ = _
  unfold fX4_bestCell_b4
  rw [hr.2.2.2.1, if_neg (nltE _ _ (Nat.le_refl _) (by omega))]
theorem m_best (hr : RelRg N σ μ R C kn) (h : RelOd σ μ R C kn w u) (h0 : 0 < R * C) : fX12_likeliestNow μ = some (nI (bsC w (R * C))) := by
  have h36 := rc36 hr
  have hlt := od_lt h
  unfold fX12_likeliestNow
  have := lp_go (fun n (p : Int32 × Int32) => fX12_likeliestNow_l4 μ n p.1 p.2) (fun i => (nI (bsC w (i + 1)), nI (i + 1))) (R * C - 1) (fun i n hi => by
    show fX12_likeliestNow_b4 μ _ _ _ = _
    unfold fX12_likeliestNow_b4 fX12_likeliestNow_b31
    have hb := bsC_lt w i
    have k1 := wC_le (w := w) (c := i + 1) (by omega)
    have k2 := wC_le (w := w) (c := bsC w (i + 1)) (by omega)
    rw [m_cells hr, bindS, if_pos (ltE (i + 1) (R * C) (by omega) (by omega)), m_ofCell h (by omega), m_ofCell h (by omega), bindS, bindS, nI_1]
    show _ = fX12_likeliestNow_l4 μ n (nI (if wC w (bsC w (i + 1)) < wC w (i + 1) then i + 1 else bsC w (i + 1))) (nI (i + 1 + 1))
    by_cases hq : wC w (bsC w (i + 1)) < wC w (i + 1)
    · rw [if_pos ((pk_lLT (by omega) (by omega)).mpr hq), if_pos hq]
    · rw [if_neg (fun q => hq ((pk_lLT (by omega) (by omega)).mp q)), if_neg hq]) (1000 - (R * C - 1))
  rw [show 1000 - (R * C - 1) + (R * C - 1) = 1000 by omega] at this
  refine this.trans ?_
  rw [show R * C - 1 + 1 = R * C by omega, show 1000 - (R * C - 1) = (999 - (R * C - 1)) + 1 by omega]
  show fX12_likeliestNow_b4 μ _ _ _ = _
  unfold fX12_likeliestNow_b4
  rw [m_cells hr, bindS, if_neg (nltE _ _ (Nat.le_refl _) (by omega))]
/-- is there a ring: both know -/
theorem xm_read (hN : N ≤ 512) (hr : RelRg N σ μ R C kn) : (R = 0 ∧ fX7_isRead σ = some 0 ∧ gm_rg_rings μ = 0) ∨ (R ≠ 0 ∧ 0 < R * C ∧ fX7_isRead σ = some 1 ∧ ¬ gm_rg_rings μ = 0) := by
  have h36 := rc36 hr
  have hs := hr.2.2.2.1
  rcases hr.1 with ⟨rfl, rfl, h0⟩ | ⟨a, a', b, b', -, r, c1, c2, c3⟩
  · refine Or.inl ⟨rfl, ?_, h0⟩
    unfold fX7_isRead fX7_isRead_b12
    rw [hs]
    rfl
  · have hp : 0 < R * C := Nat.mul_pos (by omega) (by omega)
    refine Or.inr ⟨by omega, hp, ?_, ?_⟩
    · unfold fX7_isRead fX7_isRead_b12
      rw [hs, if_pos (show (0 : Int32) < nI (R * C) from ltE 0 _ hp (by omega))]
      rfl
    · rw [c3]
      exact neE r 0 (by omega) (by omega) (by decide)
end OD
theorem p_isPart (p : Int32) : fX12_isPart p = fX11_isWithin p 1 := by
  unfold fX12_isPart
  rw [p_within, p_isWithin, bindS, if_pos (zb_01 _)]
theorem p_isWay (p : Int32) : fX12_isWay p = fX11_isWithin p 3 := by
  unfold fX12_isWay
  rw [p_within, p_isWithin, bindS, if_pos (zb_01 _)]
theorem sim_likeliest (N : Nat) (hN : N ≤ 512) : SimR N fX11_likeliest fX12_likeliest := by
  intro σ μ hR
  obtain ⟨R, C, kn, w, u, n, pg, L, r1, r2, -⟩ := hR
  simp only [fX11_likeliest_b22, fX11_likeliest, fX12_likeliest_b16, fX12_likeliest]
  rcases xm_read hN r1 with ⟨-, h1, h2⟩ | ⟨h0, hp, h1, h2⟩
  · rw [h1, if_pos h2]; exact ⟨_, rfl, rfl⟩
  · simp only [h1, if_neg h2, bindS, i10, x_best r1 r2 hp, m_best r1 r2 hp]; exact ⟨_, rfl, rfl⟩
theorem sim_knows (N : Nat) (hN : N ≤ 512) (p : Int32) : SimR N (fun σ => fX11_knows σ p) (fun μ => fX12_knows μ p) := by
  intro σ μ hR
  obtain ⟨R, C, kn, w, u, n, pg, L, r1, r2, -⟩ := hR
  have h36 := rc36 r1
  have hlt := od_lt r2
  simp only [fX11_knows, fX12_knows_b40, fX12_knows, p_isPart]
  rcases xm_read hN r1 with ⟨-, h1, h2⟩ | ⟨h0, hp, h1, h2⟩
  · rw [h1, if_pos h2]; exact ⟨_, rfl, rfl⟩
  · have hb : bsC w (R * C) < 36 := by
      have := bsC_lt w (R * C - 1)
      rw [show R * C - 1 + 1 = R * C by omega] at this
      omega
    have hc := wC_le (w := w) hb
    simp only [h1, if_neg h2, bindS, i10, p_isWithin, zb_if]
    split
    · simp only [x_best r1 r2 hp, m_best r1 r2 hp, x_ofCell r2 hb, m_ofCell r2 hb, x_total r2, m_all r2, bindS, x_term (show wC w (bsC w (R * C)) < 2 ^ 63 by omega) (r2.2.2.2.2.2 h0) (by omega), m_lowest (show wC w (bsC w (R * C)) < 2 ^ 63 by omega) (r2.2.2.2.2.2 h0) (by omega)]
      exact ⟨_, rfl, rfl⟩
    · exact ⟨_, rfl, rfl⟩
theorem sim_odds (N : Nat) (x p : Int32) : SimR N (fun σ => fX11_odds σ x p) (fun μ => fX12_odds μ x p) := by
  intro σ μ hR
  obtain ⟨R, C, kn, w, u, n, pg, L, r1, r2, -⟩ := hR
  have h36 := rc36 r1
  have hlt := od_lt r2
  simp only [fX11_odds, fX12_odds_b38, fX12_odds, p_isPart]
  rcases pk_ix x (n := R * C) (by omega) with hx | hx | ⟨j, hj, rfl⟩
  · rw [x_hasN r1 (Or.inl hx), m_isCellN r1 (Or.inl hx)]; exact ⟨_, rfl, rfl⟩
  · rw [x_hasN r1 (Or.inr hx), m_isCellN r1 (Or.inr hx)]; exact ⟨_, rfl, rfl⟩
  · have h0 : R ≠ 0 := fun q => by rw [q, Nat.zero_mul] at hj; omega
    have hc := wC_le (w := w) (show j < 36 by omega)
    simp only [x_has r1 hj, m_isCell r1 hj, bindS, i10, p_isWithin, zb_if]
    split
    · simp only [x_ofCell r2 (show j < 36 by omega), m_ofCell r2 (show j < 36 by omega), x_total r2, m_all r2, bindS, x_term (show wC w j < 2 ^ 63 by omega) (r2.2.2.2.2.2 h0) (by omega), m_lowest (show wC w j < 2 ^ 63 by omega) (r2.2.2.2.2.2 h0) (by omega)]
      exact ⟨_, rfl, rfl⟩
    · exact ⟨_, rfl, rfl⟩
