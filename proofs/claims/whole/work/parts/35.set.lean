/-! ===== set, lost, image, restore ===== -/
theorem fillL (f g : Nat → Int64) (i : Nat) : vp_updL (fun k => if k < i then f k else g k) i (f i) = fun k => if k < i + 1 then f k else g k := by
  funext k
  by_cases e : k = i
  · subst e; rw [pk_uLs, if_pos (by omega)]
  · rw [pk_uLn e]
    by_cases q : k < i
    · rw [if_pos q, if_pos (by omega)]
    · rw [if_neg q, if_neg (by omega)]
theorem inbN {i n : Nat} (h : i < n) (h2 : i < 2 ^ 31) : ¬ (nI i < 0 ∨ n ≤ i) := by
  intro q
  rcases q with q | q
  · exact nI_pos h2 q
  · omega
/-- an array laid up to i -/
def laid {α : Type} (f g : Nat → α) (i : Nat) : Nat → α := fun k => if k < i then f k else g k
theorem laid_0 {α : Type} (f g : Nat → α) : laid f g 0 = g := by funext k; unfold laid; rw [if_neg (Nat.not_lt_zero k)]
theorem laid_in {α : Type} {f g : Nat → α} {i k : Nat} (h : k < i) : laid f g i k = f k := by unfold laid; rw [if_pos h]
theorem laid_out {α : Type} {f g : Nat → α} {i k : Nat} (h : i ≤ k) : laid f g i k = g k := by unfold laid; rw [if_neg (by omega)]
theorem laid_L (f g : Nat → Int64) (i : Nat) : vp_updL (laid f g i) i (f i) = laid f g (i + 1) := fillL f g i
theorem laid_I (f g : Nat → Int32) (i : Nat) : upd (laid f g i) i (f i) = laid f g (i + 1) := fillS f g i
theorem x_fill (σ : SX) (v : Int64) : fJ7_fill_w σ v = some (sx_od_weights σ (laid (fun _ => v) (gx_od_weights σ) 144)) := by
  unfold fJ7_fill_w
  have := lp_go (fun m (p : SX × Int32) => fJ7_fill_w_l6 m p.1 v p.2) (fun i => (sx_od_weights σ (laid (fun _ => v) (gx_od_weights σ) i), nI i)) 144 (fun i m hi => by
    show fJ7_fill_w_b6 _ (sx_od_weights σ _) _ _ = fJ7_fill_w_l6 m (sx_od_weights σ _) _ (nI (i + 1))
    rw [← laid_L]
    unfold fJ7_fill_w_b6
    rw [if_pos (show nI i < (144 : Int32) from ltE i 144 hi (by omega)), if_pos (inb hi (by omega)), cl_nI (by omega), nI_1]
    rfl) 856
  rw [laid_0] at this
  refine Eq.trans (show fJ7_fill_w_l6 1000 σ v 0 = _ from rfl) (this.trans ?_)
  show fJ7_fill_w_b6 _ _ _ _ = _
  unfold fJ7_fill_w_b6
  rw [if_neg (show ¬ nI 144 < (144 : Int32) by decide)]
theorem smN_0 : ∀ n, smN (fun _ => 0) n = 0
  | 0 => rfl
  | n + 1 => by show smN _ n + 0 = 0; rw [smN_0 n]
theorem smN_zero {f : Nat → Nat} : ∀ {n : Nat}, (∀ k, k < n → f k = 0) → smN f n = 0
  | 0, _ => rfl
  | n + 1, h => by show smN f n + f n = 0; rw [smN_zero (fun k hk => h k (by omega)), h n (by omega)]
theorem smN_unit {p : Nat} : ∀ {n : Nat}, smN (fun k => if k = p then 1 else 0) n = if p < n then 1 else 0
  | 0 => by rw [if_neg (Nat.not_lt_zero p)]; rfl
  | n + 1 => by
    show smN _ n + (if n = p then 1 else 0) = _
    rw [smN_unit]
    by_cases h1 : n = p
    · rw [if_neg (by omega), if_pos h1, if_pos (by omega)]
    · rw [if_neg h1]
      by_cases h2 : p < n
      · rw [if_pos h2, if_pos (by omega)]
      · rw [if_neg h2, if_neg (by omega)]
theorem m_setL (μ : SM) {p : Nat} (hp : p < 144) {v1 v2 : Int32} (hv : (4 : Int32) * v1 + v2 = nI p) : fX12_set_l23 1000 μ v1 v2 0 = some (1, sm_od_updates (sm_od_weight μ (laid (fun k => if k = p then 1 else 0) (gm_od_weight μ) 144)) 0) := by
  have := lp_go (fun m (q : SM × Int32) => fX12_set_l23 m q.1 v1 v2 q.2) (fun i => (sm_od_weight μ (laid (fun k => if k = p then 1 else 0) (gm_od_weight μ) i), nI i)) 144 (fun i m hi => by
    show fX12_set_b23 _ (sm_od_weight μ _) _ _ _ = fX12_set_l23 m (sm_od_weight μ _) _ _ (nI (i + 1))
    rw [← laid_L]
    unfold fX12_set_b23 fX12_set_b49
    rw [if_pos (show nI i < (144 : Int32) from ltE i 144 hi (by omega)), if_pos (inb hi (by omega)), cl_nI (by omega), nI_1, hv]
    by_cases e : i = p
    · rw [if_pos (by rw [e])]
      simp only [if_pos e]
      rfl
    · rw [if_neg (neE i p e (by omega) (by omega)), if_pos (inbN hi (by omega))]
      simp only [if_neg e]
      rfl) 856
  rw [laid_0] at this
  refine Eq.trans (show fX12_set_l23 1000 μ v1 v2 0 = _ from rfl) (this.trans ?_)
  show fX12_set_b23 _ _ _ _ _ = _
  unfold fX12_set_b23
  rw [if_neg (show ¬ nI 144 < (144 : Int32) by decide)]
theorem sim_set (N : Nat) (a b : Int32) : SimW N (fun σ => fX11_set σ a b) (fun μ => fX12_set μ a b) := by
  intro σ μ hR
  have hR1 := hR.mono (Nat.le_succ N)
  obtain ⟨R, C, kn, w, u, n, pg, L, r1, r2, r3, r4, r5, r6⟩ := id hR1
  have h36 := rc36 r1
  simp only [fX11_set, fX12_set_b49, fX12_set_b23, fX12_set, fX4_putHim_b34, fX4_putHim, p_isWay]
  rcases xm_free r1 a with ⟨h3, h4⟩ | ⟨c, hc, rfl, h3, h4⟩
  · simp only [h3, h4, bindS, i00]; exact ⟨_, _, _, rfl, rfl, hR1⟩
  simp only [h3, h4, bindS, i10, p_isWithin, zb_if]
  by_cases h5 : ¬ b < 0 ∧ ¬ (3 : Int32) < b
  · simp only [if_pos (decide_eq_true h5)]
    obtain ⟨y, y1, rfl⟩ := in_range (m := 3) (by decide) h5
    have hc1 := hc.1
    have hp : c * 4 + y < 144 := by omega
    rw [x_fill, m_setL μ hp (by rw [nI_4mul, nI_add])]
    simp only [bindS, nI_mul4, nI_add]
    rw [if_neg (nI_pos (by omega)), if_pos (show nI (c * 4 + y) < (144 : Int32) from ltE _ 144 hp (by omega)), if_pos (inb hp (by omega)), cl_nI (by omega)]
    refine ⟨_, _, _, rfl, rfl, R, C, kn, (fun k => if k = c * 4 + y then 1 else 0), 0, n, pg, L, r1, ⟨by omega, rfl, rfl, fun k hk => ⟨?_, ?_, fun hf => ?_⟩, ?_, fun _ => ?_⟩, r3, r4, r5, r6⟩
    · show vp_updL (laid (fun _ => 0) (gx_od_weights σ) 144) (c * 4 + y) 1 k = _
      by_cases e : k = c * 4 + y
      · subst e; rw [pk_uLs]; show _ = lN (if c * 4 + y = c * 4 + y then 1 else 0); rw [if_pos rfl]; rfl
      · rw [pk_uLn e, laid_in hk]; show _ = lN (if k = c * 4 + y then 1 else 0); rw [if_neg e]; rfl
    · show laid (fun k => if k = c * 4 + y then 1 else 0) (gm_od_weight μ) 144 k = lN (if k = c * 4 + y then 1 else 0)
      rw [laid_in hk]
      show (if k = c * 4 + y then 1 else 0) = _
      split <;> rfl
    · show (if k = c * 4 + y then 1 else 0) = 0
      by_cases e : k = c * 4 + y
      · subst e
        rw [show (c * 4 + y) / 4 = c by omega] at hf
        exact absurd hc hf
      · rw [if_neg e]
    · rw [smN_unit, if_pos hp]; decide
    · rw [smN_unit, if_pos hp]; decide
  · simp only [decide_eq_false h5]
    exact ⟨_, _, _, rfl, rfl, hR1⟩
/-- the weights of one who is lost -/
def lsW (R C : Nat) (kn : Nat → Nat) : Nat → Nat := fun k => if frC R C kn (k / 4) then 1 else 0
theorem nI_div4 {i : Nat} (h : i < 2 ^ 31) : nI i / (4 : Int32) = nI (i / 4) := pk_div (d := 4) h (by decide) (by decide)
theorem x_isFree36 {N : Nat} {σ : SX} {μ : SM} {R C : Nat} {kn : Nat → Nat} (h : RelRg N σ μ R C kn) {j : Nat} (hj : j < 36) : fX7_isFree σ (nI j) = some (zb (decide (frC R C kn j))) ∧ fX12_isFree μ (nI j) = some (zb (decide (frC R C kn j))) := by
  have h36 := rc36 h
  by_cases hr : j < R * C
  · rw [x_isFree h hr, m_isFree h hr]
    by_cases hk : kn j < 2
    · rw [decide_eq_true hk, decide_eq_true (show frC R C kn j from ⟨hr, hk⟩)]; exact ⟨rfl, rfl⟩
    · rw [decide_eq_false hk, decide_eq_false (fun q : frC R C kn j => hk q.2)]; exact ⟨rfl, rfl⟩
  · have hle : nI (R * C) ≤ nI j := nI_le (by omega) (by omega)
    rw [x_isFreeN h (Or.inr hle), m_isFreeN h (Or.inr hle), decide_eq_false (fun q : frC R C kn j => hr q.1)]; exact ⟨rfl, rfl⟩
theorem x_lose {N : Nat} {σ : SX} {μ : SM} {R C : Nat} {kn : Nat → Nat} (h : RelRg N σ μ R C kn) : fX4_loseHim σ = some (sx_od_updates (sx_od_weights σ (laid (fun k => lN (lsW R C kn k)) (gx_od_weights σ) 144)) 0) := by
  unfold fX4_loseHim
  have := lp_go (fun m (q : SX × Int32) => fX4_loseHim_l2 m q.1 q.2) (fun i => (sx_od_weights σ (laid (fun k => lN (lsW R C kn k)) (gx_od_weights σ) i), nI i)) 144 (fun i m hi => by
    show fX4_loseHim_b2 _ (sx_od_weights σ _) _ = fX4_loseHim_l2 m (sx_od_weights σ _) (nI (i + 1))
    rw [← laid_L]
    unfold fX4_loseHim_b2 fX4_loseHim_b34
    have hf : fX7_isFree (sx_od_weights σ (laid (fun k => lN (lsW R C kn k)) (gx_od_weights σ) i)) (nI (i / 4)) = some (zb (decide (frC R C kn (i / 4)))) := (x_isFree36 h (by omega)).1
    rw [if_pos (show nI i < (144 : Int32) from ltE i 144 hi (by omega)), nI_div4 (by omega), hf, bindS, zb_if, if_pos (inb hi (by omega)), cl_nI (by omega), nI_1]
    unfold lsW
    by_cases e : frC R C kn (i / 4)
    · rw [if_pos (decide_eq_true e)]
      simp only [if_pos e]
      rfl
    · rw [if_neg (by simpa using e), if_pos (inbN hi (by omega))]
      simp only [if_neg e]
      rfl) 856
  rw [laid_0] at this
  refine Eq.trans (show fX4_loseHim_l2 1000 σ 0 = _ from rfl) (this.trans ?_)
  show fX4_loseHim_b2 _ _ _ = _
  unfold fX4_loseHim_b2
  rw [if_neg (show ¬ nI 144 < (144 : Int32) by decide)]
theorem m_lose {N : Nat} {σ : SX} {μ : SM} {R C : Nat} {kn : Nat → Nat} (h : RelRg N σ μ R C kn) : fX12_layLost μ = some (nI (smN (lsW R C kn) 144), sm_od_updates (sm_od_weight μ (laid (fun k => lN (lsW R C kn k)) (gm_od_weight μ) 144)) 0) := by
  unfold fX12_layLost
  have := lp_go (fun m (q : SM × Int32 × Int32) => fX12_layLost_l4 m q.1 q.2.1 q.2.2) (fun i => (sm_od_weight μ (laid (fun k => lN (lsW R C kn k)) (gm_od_weight μ) i), nI (smN (lsW R C kn) i), nI i)) 144 (fun i m hi => by
    show fX12_layLost_b4 _ (sm_od_weight μ _) _ _ = fX12_layLost_l4 m (sm_od_weight μ _) (nI (smN (lsW R C kn) i + lsW R C kn i)) (nI (i + 1))
    rw [← laid_L]
    unfold fX12_layLost_b4 fX12_layLost_b33 fX12_layLost_b44
    have hf : fX12_isFree (sm_od_weight μ (laid (fun k => lN (lsW R C kn k)) (gm_od_weight μ) i)) (nI (i / 4)) = some (zb (decide (frC R C kn (i / 4)))) := (x_isFree36 h (by omega)).2
    rw [if_pos (show nI i < (144 : Int32) from ltE i 144 hi (by omega)), nI_div4 (by omega), hf, bindS, if_pos (inb hi (by omega)), cl_nI (by omega), nI_1]
    by_cases e : frC R C kn (i / 4)
    · have e2 : lsW R C kn i = 1 := by unfold lsW; rw [if_pos e]
      rw [decide_eq_true e, e2]
      simp only [zb, if_true, i10]
      rw [nI_1, if_pos (inbN hi (by omega))]
      rfl
    · have e2 : lsW R C kn i = 0 := by unfold lsW; rw [if_neg e]
      rw [decide_eq_false e, e2]
      simp only [zb, Bool.false_eq_true, if_false, i00]
      show fX12_layLost_l4 m _ (nI _ + nI 0) _ = _
      rw [nI_add]
      rfl) 856
  rw [laid_0] at this
  refine Eq.trans (show fX12_layLost_l4 1000 μ 0 0 = _ from rfl) (this.trans ?_)
  show fX12_layLost_b4 _ _ _ _ = _
  unfold fX12_layLost_b4
  rw [if_neg (show ¬ nI 144 < (144 : Int32) by decide)]
theorem lsW_ab (R C : Nat) (kn : Nat → Nat) (n : Nat) : abN (lsW R C kn) n = smN (lsW R C kn) n := by
  unfold abN
  apply smN_cong
  intro k _
  unfold lsW
  split <;> rfl
theorem lsW_le (R C : Nat) (kn : Nat → Nat) : smN (lsW R C kn) 144 ≤ 144 := by
  have := smN_le_mul (f := lsW R C kn) (b := 1) (m := 144) (fun k _ => by unfold lsW; split <;> omega)
  omega
/-- the odds of one who is lost belong together -/
theorem lost_od {N : Nat} {σ : SX} {μ : SM} {R C : Nat} {kn : Nat → Nat} (h : RelRg N σ μ R C kn) {σ' : SX} {μ' : SM} (hx : gx_od_updates σ' = 0) (hm : gm_od_updates μ' = 0) (hw : ∀ k, k < 144 → gx_od_weights σ' k = lN (lsW R C kn k)) (hv : ∀ k, k < 144 → gm_od_weight μ' k = lN (lsW R C kn k)) : RelOd σ' μ' R C kn (lsW R C kn) 0 := by
  refine ⟨by omega, hx, hm, fun k hk => ⟨hw k hk, hv k hk, fun hf => by unfold lsW; rw [if_neg hf]⟩, by have := lsW_le R C kn; omega, fun h0 => ?_⟩
  have h36 := rc36 h
  rcases h.1 with ⟨e, -⟩ | ⟨-, -, -, -, ⟨c, hc⟩, -⟩
  · exact absurd e h0
  · have h1 := smN_one (lsW R C kn) (k := c * 4) (n := 144) (by have := hc.1; omega)
    have h2 : lsW R C kn (c * 4) = 1 := by unfold lsW; rw [show c * 4 / 4 = c by omega, if_pos hc]
    omega
theorem sim_lost (N : Nat) (hN : N ≤ 512) : SimW N fX11_lost fX12_lost := by
  intro σ μ hR
  have hR1 := hR.mono (Nat.le_succ N)
  obtain ⟨R, C, kn, w, u, n, pg, L, r1, r2, r3, r4, r5, r6⟩ := id hR
  have r1' := r1.mono (Nat.le_succ N)
  simp only [fX11_lost, fX12_lost_b16, fX12_lost]
  rcases xm_read hN r1 with ⟨-, h1, h2⟩ | ⟨h0, hp, h1, h2⟩
  · simp only [h1, if_pos h2, bindS, i00]; exact ⟨_, _, _, rfl, rfl, hR1⟩
  · have hod := lost_od (σ' := sx_od_updates (sx_od_weights σ (laid (fun k => lN (lsW R C kn k)) (gx_od_weights σ) 144)) 0) (μ' := sm_od_updates (sm_od_weight μ (laid (fun k => lN (lsW R C kn k)) (gm_od_weight μ) 144)) 0) r1 rfl rfl (fun k hk => laid_in (f := fun k => lN (lsW R C kn k)) (g := gx_od_weights σ) hk) (fun k hk => laid_in (f := fun k => lN (lsW R C kn k)) (g := gm_od_weight μ) hk)
    simp only [h1, if_neg h2, bindS, i10, x_lose r1, m_lose r1, x_above hod, lsW_ab]
    exact ⟨_, _, _, rfl, rfl, R, C, kn, lsW R C kn, 0, n, pg, L, r1', hod, r3, r4, r5, r6⟩
