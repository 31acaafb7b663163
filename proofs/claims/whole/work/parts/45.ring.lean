/-! ===== ring: whole, and with a free cell ===== -/
theorem x_isWhole {σ : SX} {L F : Nat} {q : RdS} (hI : rdI q) (hL : gx_pg_length σ = nI L) (hF : F ≤ L) (h45 : L ≤ 45) (h : fX5_readOn σ = some (nI F, xS σ q)) : fX5_isWhole σ = some (zb (wholeB F L q), xS σ q) := by
  unfold fX5_isWhole fX5_isWhole_b33 fX5_isWhole_b34
  rw [h, bindS]
  have a1 : gx_pg_length (xS σ q) = nI L := hL
  have a3 : gx_pg_row (xS σ q) = nI q.1 := rfl
  have a4 : gx_pg_column (xS σ q) = nI q.2.1 := rfl
  have a5 : gx_pg_width (xS σ q) = nI q.2.2.1 := rfl
  obtain ⟨h1, h2, h3, -⟩ := hI
  show (if nI F = gx_pg_length (xS σ q) then (if 0 < gx_pg_row (xS σ q) then (if gx_pg_column (xS σ q) = gx_pg_width (xS σ q) then _ else _) else _) else _) = _
  rw [a1, a3, a4, a5]
  unfold wholeB
  by_cases e : F = L
  · rw [if_pos (by rw [e])]
    by_cases r0 : 0 < q.1
    · rw [if_pos (show (0 : Int32) < nI q.1 from ltE 0 _ r0 (by omega))]
      by_cases cw : q.2.1 = q.2.2.1
      · rw [if_pos (by rw [cw]), if_pos (Or.inr rfl), decide_eq_true ⟨e, r0, cw⟩]; rfl
      · rw [if_neg (neE _ _ cw (by omega) (by omega)), if_pos (Or.inl rfl), decide_eq_false (fun z => cw z.2.2)]; rfl
    · rw [if_neg (show ¬ (0 : Int32) < nI q.1 from nltE 0 _ (by omega) (by omega)), if_pos (Or.inl rfl), decide_eq_false (fun z => r0 z.2.1)]; rfl
  · rw [if_neg (neE F L e (by omega) (by omega)), if_pos (Or.inl rfl), decide_eq_false (fun z => e z.1)]; rfl
/-- a letter of a free cell -/
def fre (c : Nat) : Bool := decide (c = 46) || decide (c = 98)
def hasF (pg : Nat → Nat) : Nat → Bool
  | 0 => false
  | i + 1 => hasF pg i || fre (pg i)
theorem hasF_mono {pg : Nat → Nat} {i : Nat} (h : hasF pg i = true) : ∀ k, hasF pg (i + k) = true
  | 0 => h
  | k + 1 => by show (hasF pg (i + k) || _) = true; rw [hasF_mono h k]; rfl
theorem fre_srt (c : Nat) : fre c = (match srt c with | some s => decide (s < 2) | none => false) := by
  unfold fre srt
  by_cases h1 : c = 46
  · subst h1; rfl
  · rw [if_neg h1, decide_eq_false h1]
    by_cases h2 : c = 98
    · subst h2; rfl
    · rw [if_neg h2, decide_eq_false h2]
      by_cases h3 : c = 112
      · subst h3; rfl
      · rw [if_neg h3]
        by_cases h4 : c = 120
        · subst h4; rfl
        · rw [if_neg h4]; rfl
theorem x_hasFreeL {σ : SX} {pg : Nat → Nat} {L : Nat} (h45 : L ≤ 45) (hL : gx_pg_length σ = nI L) (hp : ∀ i, i < L → pg i < 127 ∧ gx_pg_signs σ i = nI (pg i)) : ∀ (d i n : Nat), i + d = L → hasF pg i = false → fX5_hasFree_l2 σ (n + d + 1) (nI i) = some (zb (hasF pg L))
  | 0, i, n, hi, hf => by
    obtain rfl : i = L := by omega
    show fX5_hasFree_b2 σ _ _ = _
    unfold fX5_hasFree_b2
    rw [hL, if_neg (nltE i i (Nat.le_refl _) (by omega)), hf]; rfl
  | d + 1, i, n, hi, hf => by
    obtain ⟨p1, p2⟩ := hp i (by omega)
    show fX5_hasFree_b2 σ (fX5_hasFree_l2 σ (n + d + 1)) (nI i) = _
    unfold fX5_hasFree_b2 fX5_hasFree_b25
    rw [hL, if_pos (ltE i L (by omega) (by omega)), x_kindAt (by omega) p1 p2, bindS, nI_1]
    have hs := fre_srt (pg i)
    cases hr : srt (pg i) with
    | none =>
      rw [hr] at hs
      rw [if_neg (show ¬ oI none = 0 by decide), if_neg (show ¬ oI none = 1 by decide)]
      exact x_hasFreeL h45 hL hp d (i + 1) n (by omega) (by show (hasF pg i || fre (pg i)) = false; rw [hf, hs]; rfl)
    | some s =>
      rw [hr] at hs
      have h4 := srt_lt hr
      by_cases s2 : s < 2
      · have ht : hasF pg L = true := by
          rw [show L = i + 1 + d by omega]
          refine hasF_mono ?_ d
          show (hasF pg i || fre (pg i)) = true
          rw [hs]
          simp [s2]
        rw [ht]
        rcases (by omega : s = 0 ∨ s = 1) with rfl | rfl
        · rw [if_pos (show oI (some 0) = 0 from rfl)]; rfl
        · rw [if_neg (show ¬ oI (some 1) = 0 by decide), if_pos (show oI (some 1) = 1 from rfl)]; rfl
      · rw [if_neg (show ¬ oI (some s) = 0 from neE s 0 (by omega) (by omega) (by decide)), if_neg (show ¬ oI (some s) = 1 from neE s 1 (by omega) (by omega) (by decide))]
        exact x_hasFreeL h45 hL hp d (i + 1) n (by omega) (by show (hasF pg i || fre (pg i)) = false; rw [hf, hs]; simp [s2])
/-- how many free cells the reader has -/
def frQ (q : RdS) : Nat := smN (fun c => if q.2.2.2 c < 2 then 1 else 0) (q.1 * q.2.2.1 + q.2.1)
theorem rd_free {pg : Nat → Nat} : ∀ {i : Nat} {q : RdS}, rdS pg i = some q → hasF pg i = decide (0 < frQ q)
  | 0, q, h => by cases h; rfl
  | i + 1, q', h => by
    have h' : (rdS pg i).bind (stp (pg i)) = some q' := h
    cases e : rdS pg i with
    | none => rw [e] at h'; cases h'
    | some q =>
      rw [e] at h'
      have hs : stp (pg i) q = some q' := h'
      have IH := rd_free e
      have hr := fre_srt (pg i)
      show (hasF pg i || fre (pg i)) = _
      rw [IH, hr]
      unfold stp at hs
      cases hq : srt (pg i) with
      | some s =>
        rw [hq] at hs
        simp only [] at hs
        by_cases hc : q.2.1 < (if q.1 = 0 then 6 else q.2.2.1)
        · rw [if_pos hc] at hs
          cases hs
          have e1 : frQ (q.1, q.2.1 + 1, q.2.2.1, updN' q.2.2.2 (q.1 * q.2.2.1 + q.2.1) s) = frQ q + if s < 2 then 1 else 0 := smN_put _ _ _
          rw [e1]
          by_cases s2 : s < 2
          · simp [s2]
          · simp [s2]
        · rw [if_neg hc] at hs; cases hs
      | none =>
        rw [hq] at hs
        simp only [] at hs
        by_cases hc : pg i = 47 ∧ q.1 < 5 ∧ (if q.1 = 0 then 2 ≤ q.2.1 else q.2.1 = q.2.2.1)
        · rw [if_pos hc] at hs
          cases hs
          obtain ⟨-, -, c3⟩ := hc
          have e1 : (q.1 + 1) * q.2.1 + 0 = q.1 * q.2.2.1 + q.2.1 := by
            by_cases r0 : q.1 = 0
            · rw [r0]; omega
            · rw [if_neg r0] at c3
              rw [c3, Nat.succ_mul]; rfl
          have e2 : frQ (q.1 + 1, 0, q.2.1, q.2.2.2) = frQ q := by
            unfold frQ
            simp only []
            rw [e1]
          rw [e2, Bool.or_false]
        · rw [if_neg hc] at hs; cases hs
/-- one who is lost, where only the ring is known -/
theorem x_isFreeG {σ : SX} {R C : Nat} {kn : Nat → Nat} (h36 : R * C ≤ 36) (hs : gx_rg_size σ = nI (R * C)) (hk : ∀ c, c < R * C → kn c < 4 ∧ gx_rg_kinds σ c = nI (kn c)) {j : Nat} (hj : j < 36) : fX7_isFree σ (nI j) = some (zb (decide (frC R C kn j))) := by
  unfold fX7_isFree fX7_isFree_b35 fX7_isFree_b36
  rw [if_neg (nI_pos (by omega)), hs]
  by_cases e : j < R * C
  · obtain ⟨k1, k2⟩ := hk j e
    rw [if_pos (ltE j _ e (by omega)), if_pos (show nI j < (36 : Int32) from ltE j 36 hj (by omega)), if_pos (inb hj (by omega)), cl_nI (by omega), k2]
    by_cases k3 : kn j < 2
    · rw [if_neg (show ¬ (1 : Int32) < nI (kn j) from nltE 1 _ (by omega) (by omega)), if_pos (Or.inr rfl), decide_eq_true (show frC R C kn j from ⟨e, k3⟩)]; rfl
    · rw [if_pos (show (1 : Int32) < nI (kn j) from ltE 1 _ (by omega) (by omega)), if_pos (Or.inl rfl), decide_eq_false (fun z : frC R C kn j => k3 z.2)]; rfl
  · rw [if_neg (nltE j _ (by omega) (by omega)), if_pos (Or.inl rfl), decide_eq_false (fun z : frC R C kn j => e z.1)]; rfl
theorem x_loseG {σ : SX} {R C : Nat} {kn : Nat → Nat} (hF : ∀ j, j < 36 → fX7_isFree σ (nI j) = some (zb (decide (frC R C kn j)))) : fX4_loseHim σ = some (sx_od_updates (sx_od_weights σ (laid (fun k => lN (lsW R C kn k)) (gx_od_weights σ) 144)) 0) := by
  unfold fX4_loseHim
  have := lp_go (fun m (q : SX × Int32) => fX4_loseHim_l2 m q.1 q.2) (fun i => (sx_od_weights σ (laid (fun k => lN (lsW R C kn k)) (gx_od_weights σ) i), nI i)) 144 (fun i m hi => by
    show fX4_loseHim_b2 _ (sx_od_weights σ _) _ = fX4_loseHim_l2 m (sx_od_weights σ _) (nI (i + 1))
    rw [← laid_L]
    unfold fX4_loseHim_b2 fX4_loseHim_b34
    have hf : fX7_isFree (sx_od_weights σ (laid (fun k => lN (lsW R C kn k)) (gx_od_weights σ) i)) (nI (i / 4)) = some (zb (decide (frC R C kn (i / 4)))) := hF (i / 4) (by omega)
    rw [if_pos (show nI i < (144 : Int32) from ltE i 144 hi (by omega)), nI_div4 (by omega), hf, bindS, zb_if, if_pos (inb hi (by omega)), cl_nI (by omega), nI_1]
    unfold lsW
    by_cases e : frC R C kn (i / 4)
    · rw [if_pos (decide_eq_true e)]
      simp only [if_pos e]
      rfl
    · rw [if_neg (by simpa using e), if_pos (inbN hi (by omega))]
      simp only [if_neg e]
      rfl) 856
  rw [laid_0] at this
  refine Eq.trans (show fX4_loseHim_l2 1000 σ 0 = _ from rfl) (this.trans ?_)
  show fX4_loseHim_b2 _ _ _ = _
  unfold fX4_loseHim_b2
  rw [if_neg (show ¬ nI 144 < (144 : Int32) by decide)]
theorem m_loseG {μ : SM} {R C : Nat} {kn : Nat → Nat} (hF : ∀ j, j < 36 → fX12_isFree μ (nI j) = some (zb (decide (frC R C kn j)))) : fX12_layLost μ = some (nI (smN (lsW R C kn) 144), sm_od_updates (sm_od_weight μ (laid (fun k => lN (lsW R C kn k)) (gm_od_weight μ) 144)) 0) := by
  unfold fX12_layLost
  have := lp_go (fun m (q : SM × Int32 × Int32) => fX12_layLost_l4 m q.1 q.2.1 q.2.2) (fun i => (sm_od_weight μ (laid (fun k => lN (lsW R C kn k)) (gm_od_weight μ) i), nI (smN (lsW R C kn) i), nI i)) 144 (fun i m hi => by
    show fX12_layLost_b4 _ (sm_od_weight μ _) _ _ = fX12_layLost_l4 m (sm_od_weight μ _) (nI (smN (lsW R C kn) i + lsW R C kn i)) (nI (i + 1))
    rw [← laid_L]
    unfold fX12_layLost_b4 fX12_layLost_b33 fX12_layLost_b44
    have hf : fX12_isFree (sm_od_weight μ (laid (fun k => lN (lsW R C kn k)) (gm_od_weight μ) i)) (nI (i / 4)) = some (zb (decide (frC R C kn (i / 4)))) := hF (i / 4) (by omega)
    rw [if_pos (show nI i < (144 : Int32) from ltE i 144 hi (by omega)), nI_div4 (by omega), hf, bindS, if_pos (inb hi (by omega)), cl_nI (by omega), nI_1]
    by_cases e : frC R C kn (i / 4)
    · have e2 : lsW R C kn i = 1 := by unfold lsW; rw [if_pos e]
      rw [decide_eq_true e, e2]
      simp only [zb, if_true, i10]
      rw [nI_1, if_pos (inbN hi (by omega))]
      rfl
    · have e2 : lsW R C kn i = 0 := by unfold lsW; rw [if_neg e]
      rw [decide_eq_false e, e2]
      simp only [zb, Bool.false_eq_true, if_false, i00]
      show fX12_layLost_l4 m _ (nI _ + nI 0) _ = _
      rw [nI_add]
      rfl) 856
  rw [laid_0] at this
  refine Eq.trans (show fX12_layLost_l4 1000 μ 0 0 = _ from rfl) (this.trans ?_)
  show fX12_layLost_b4 _ _ _ _ = _
  unfold fX12_layLost_b4
  rw [if_neg (show ¬ nI 144 < (144 : Int32) by decide)]
