theorem rel_od {N : Nat} {σ : SX} {μ : SM} (h : Rel N σ μ) (O : Nat → Nat → Int64) (T : Nat → Int64) : Rel N (sx_od_outs σ O) (sm_od_then μ T) := h
theorem sim_expected (N : Nat) (hN : N ≤ 512) (a b c d e : Int32) : SimW N (fun σ => fX11_expected σ a b c d e) (fun μ => fX12_expected μ a b c d e) := by
  intro σ μ hR
  have hR1 := hR.mono (Nat.le_succ N)
  obtain ⟨R, C, kn, w, u, n, pg, L, r1, r2, r3, r4, r5, r6⟩ := id hR
  obtain ⟨mm, mx⟩ := m_many r2
  simp only [fX11_expected_b82, fX11_expected_b63, fX11_expected_b39, fX11_expected, fX12_expected_b112, fX12_expected_b78, fX12_expected_b58, fX12_expected_b37, fX12_expected, p_isPart]
  rcases xm_read hN r1 with ⟨-, h1, h2⟩ | ⟨h0, hp, h1, h2⟩
  · simp only [h1, if_pos h2, bindS, i00]; exact ⟨_, _, _, rfl, rfl, hR1⟩
  simp only [h1, if_neg h2, bindS, i10, p_isWithin, p_within, zb_if, mm, mx]
  by_cases h3 : ¬ a < 0 ∧ ¬ (3 : Int32) < a
  rotate_left
  · simp only [decide_eq_false h3]; exact ⟨_, _, _, rfl, rfl, hR1⟩
  simp only [if_pos (decide_eq_true h3)]
  by_cases h4 : ¬ b < 0 ∧ ¬ (5 : Int32) < b
  rotate_left
  · simp only [decide_eq_false h4]; exact ⟨_, _, _, rfl, rfl, hR1⟩
  simp only [if_pos (decide_eq_true h4)]
  by_cases h5 : ¬ e < 0 ∧ ¬ (1 : Int32) < e
  rotate_left
  · simp only [decide_eq_false h5]; exact ⟨_, _, _, rfl, rfl, hR1⟩
  simp only [if_pos (decide_eq_true h5)]
  obtain ⟨g, hg, rfl⟩ := in_range (m := 3) (by decide) h3
  obtain ⟨q, hq, rfl⟩ := in_range (m := 5) (by decide) h4
  obtain ⟨rx, rm⟩ := rg_x r1 h0
  obtain ⟨wx, wm⟩ := od_w r2
  have h36 := rc36 r1
  have hpos := r2.2.2.2.2.2 h0
  have main : ∀ f r : Nat, (g = 3 → c = nI f ∧ d = nI r ∧ f < R * C ∧ r ≤ 10) → ∃ r σ' μ', (if 7 < u then some ((-103 : Int64), σ) else (fX11_sixtiethsExpected σ (nI g) (nI q) c d).bind fun r6 => (fX4_total r6.2).bind fun r7 => (fX11_term r6.1 ((60 : Int64) * r7) e).bind fun r8 => some (r8, r6.2)) = some (r, σ') ∧ (if (decide (7 < u)) = true then some ((-103 : Int64), μ) else (fX12_expectedNow μ (nI g) (nI q) c d).bind fun r8 => if nI g = (3 : Int32) then (fX12_all r8.2).bind fun r5 => (fX12_lowest r8.1 ((60 : Int64) * r5) e).bind fun r6 => some (r6, r8.2) else (fX12_all r8.2).bind fun r5 => (fX12_lowest r8.1 ((10 : Int64) * r5) e).bind fun r6 => some (r6, r8.2)) = some (r, μ') ∧ Rel (N + 1) σ' μ' := by
    intro f r hab
    by_cases hu : 7 < u
    · rw [if_pos hu, if_pos (decide_eq_true hu)]; exact ⟨_, _, _, rfl, rfl, hR1⟩
    rw [if_neg hu, if_neg (by simpa using hu)]
    have hW := Nat.lt_of_le_of_lt (w7 r2 (by omega)) p60_7
    obtain ⟨O, e1⟩ := x_sixt (f := f) (r := r) rx wx hW (g := g) (by omega) hq hab
    obtain ⟨T, e2⟩ := m_expNow (f := f) (r := r) rm (fun d h => by cases h) wm hW (g := g) (by omega) hq hab
    have hex := exN_le (R := R) (C := C) (kn := kn) (qo := none) (w := w) (g := g) (d := q) (f := f) (r := r) h36 hq (fun e => (hab e).2.2.2)
    rw [e1, e2, bindS, bindS]
    dsimp only
    rw [x_total (σ := sx_od_outs σ O) (μ := μ) (R := R) (C := C) (kn := kn) (w := w) (u := u) r2, m_all (σ := σ) (μ := sm_od_then μ T) (R := R) (C := C) (kn := kn) (w := w) (u := u) r2]
    simp only [bindS]
    rw [show (60 : Int64) * lN (smN w 144) = lN (60 * smN w 144) from lN_mul 60 _, show (10 : Int64) * lN (smN w 144) = lN (10 * smN w 144) from lN_mul 10 _]
    by_cases e3 : g = 3
    · rw [if_pos (show nI g = (3 : Int32) by rw [e3]; rfl), if_pos e3, Nat.one_mul, x_term (by omega) (by omega) (by omega), m_lowest (by omega) (by omega) (by omega), bindS, bindS]
      exact ⟨_, _, _, rfl, rfl, rel_od hR1 _ _⟩
    · rw [if_neg (show ¬ nI g = (3 : Int32) from neE g 3 e3 (by omega) (by decide)), if_neg e3, x_term (by omega) (by omega) (by omega), m_lowest (by omega) (by omega) (by omega), bindS, bindS, show 60 * smN w 144 = 6 * (10 * smN w 144) by omega, lowT_mul (by decide)]
      exact ⟨_, _, _, rfl, rfl, rel_od hR1 _ _⟩
  by_cases e3 : g = 3
  · have c3 : nI g = (3 : Int32) := by rw [e3]; rfl
    simp only [if_pos c3] at main ⊢
    rcases xm_free r1 c with ⟨k1, k2⟩ | ⟨f, hf, rfl, k1, k2⟩
    · simp only [k1, k2, bindS, i00]; exact ⟨_, _, _, rfl, rfl, hR1⟩
    simp only [k1, k2, bindS, i10]
    by_cases h6 : ¬ d < 0 ∧ ¬ (10 : Int32) < d
    rotate_left
    · simp only [decide_eq_false h6]; exact ⟨_, _, _, rfl, rfl, hR1⟩
    simp only [if_pos (decide_eq_true h6)]
    obtain ⟨r, hr, rfl⟩ := in_range (m := 10) (by decide) h6
    exact main f r (fun _ => ⟨rfl, rfl, hf.1, hr⟩)
  · have c3 : ¬ nI g = (3 : Int32) := neE g 3 e3 (by omega) (by decide)
    simp only [if_neg c3] at main ⊢
    exact main 0 0 (fun q => absurd q e3)
/-- the best of the doings below i + 1 -/
def bdN (v : Nat → Nat) : Nat → Nat
  | 0 => 0
  | i + 1 => if v (bdN v i) < v (i + 1) then i + 1 else bdN v i
theorem bdN_le (v : Nat → Nat) : ∀ i, bdN v i ≤ i
  | 0 => Nat.le_refl _
  | i + 1 => by
    show (if v (bdN v i) < v (i + 1) then i + 1 else bdN v i) ≤ i + 1
    have := bdN_le v i
    split <;> omega
theorem x_bestD {σ : SX} {v : Nat → Nat} {a b c : Int32} (hv : ∀ g, g < 4 → v g < 2 ^ 63) (h : ∀ O g, g < 4 → ∃ O', fX11_sixtiethsExpected (sx_od_outs σ O) (nI g) a b c = some (lN (v g), sx_od_outs σ O')) : ∃ O, fX11_bestDoing σ a b c = some (nI (bdN v 3), sx_od_outs σ O) := by
  unfold fX11_bestDoing
  obtain ⟨O0, e0⟩ := h (gx_od_outs σ) 0 (by decide)
  have s0 : fX11_bestDoing_l11 1000 σ a b c 0 (-1) 0 = fX11_bestDoing_l11 999 (sx_od_outs σ O0) a b c (nI 0) (lN (v 0)) (nI 1) := by
    show fX11_bestDoing_b11 _ _ _ _ _ _ _ _ = _
    unfold fX11_bestDoing_b11 fX11_bestDoing_b44
    have e0' : fX11_sixtiethsExpected σ 0 a b c = some (lN (v 0), sx_od_outs σ O0) := e0
    rw [if_neg (by decide), e0', bindS]
    dsimp only
    have hlt : (-1 : Int64) < lN (v 0) := by
      rw [Int64.lt_iff_toInt_lt, pk_lT (hv 0 (by decide))]
      have : (-1 : Int64).toInt = -1 := rfl
      rw [this]; omega
    rw [if_pos hlt]
    rfl
  rw [s0]
  obtain ⟨⟨σ', x, y, z⟩, ⟨O, e⟩, hL⟩ := lp_iv (fun n (p : SX × Int32 × Int64 × Int32) => fX11_bestDoing_l11 n p.1 a b c p.2.1 p.2.2.1 p.2.2.2) (fun i p => ∃ O, p = (sx_od_outs σ O, nI (bdN v i), lN (v (bdN v i)), nI (i + 1))) 3 (fun i n q hi hq => by
    obtain ⟨O, rfl⟩ := hq
    obtain ⟨O1, e1⟩ := h O (i + 1) (by omega)
    have hb := bdN_le v i
    refine ⟨(sx_od_outs σ O1, nI (bdN v (i + 1)), lN (v (bdN v (i + 1))), nI (i + 2)), ⟨O1, rfl⟩, ?_⟩
    show fX11_bestDoing_b11 _ (sx_od_outs σ O) _ _ _ _ _ _ = fX11_bestDoing_l11 n (sx_od_outs σ O1) _ _ _ (nI (if v (bdN v i) < v (i + 1) then i + 1 else bdN v i)) (lN (v (if v (bdN v i) < v (i + 1) then i + 1 else bdN v i))) (nI (i + 2))
    unfold fX11_bestDoing_b11 fX11_bestDoing_b44
    rw [if_neg (show ¬ (3 : Int32) < nI (i + 1) from nltE 3 (i + 1) (by omega) (by decide)), e1, bindS, nI_1]
    dsimp only
    by_cases q : v (bdN v i) < v (i + 1)
    · rw [if_pos ((pk_lLT (hv _ (by omega)) (hv _ (by omega))).mpr q), if_pos q]
    · rw [if_neg (fun z => q ((pk_lLT (hv _ (by omega)) (hv _ (by omega))).mp z)), if_neg q]) 996 (sx_od_outs σ O0, nI 0, lN (v 0), nI 1) ⟨O0, rfl⟩
  cases e
  refine ⟨O, hL.trans ?_⟩
  show fX11_bestDoing_b11 _ _ _ _ _ _ _ _ = _
  unfold fX11_bestDoing_b11
  rw [if_pos (show (3 : Int32) < nI (3 + 1) by decide)]
theorem m_nextL {μ : SM} {v y : Nat → Nat} {a b c : Int32} (hv : ∀ g, g < 4 → v g < 2 ^ 63) (hy : ∀ g, g < 4 → v g = y g * (if g = 3 then 1 else 6)) (h : ∀ T g, g < 4 → ∃ T', fX12_expectedNow (sm_od_then μ T) (nI g) a b c = some (lN (y g), sm_od_then μ T')) : ∃ T, fX12_next_l65 1000 μ a b c (-1) 0 0 = some (nI (bdN v 3), sm_od_then μ T) := by
  obtain ⟨T0, e0⟩ := h (gm_od_then μ) 0 (by decide)
  have s0 : fX12_next_l65 1000 μ a b c (-1) 0 0 = fX12_next_l65 999 (sm_od_then μ T0) a b c (nI 0) (lN (v 0)) (nI 1) := by
    show fX12_next_b65 _ _ _ _ _ _ _ _ = _
    unfold fX12_next_b65 fX12_next_b93 fX12_next_b110 fX12_next_b115 fX12_next_b129 fX12_next_b143
    have e0' : fX12_expectedNow μ 0 a b c = some (lN (y 0), sm_od_then μ T0) := e0
    rw [if_pos (by decide), e0', bindS]
    dsimp only
    rw [if_neg (by decide), if_pos rfl, if_neg (by decide), if_neg (by decide), show lN (y 0) * (6 : Int64) = lN (v 0) by rw [hy 0 (by decide), if_neg (by decide)]; exact lN_mul _ 6]
    rfl
  rw [s0]
  obtain ⟨⟨σ', x, z, t⟩, ⟨T, e⟩, hL⟩ := lp_iv (fun n (p : SM × Int32 × Int64 × Int32) => fX12_next_l65 n p.1 a b c p.2.1 p.2.2.1 p.2.2.2) (fun i p => ∃ T, p = (sm_od_then μ T, nI (bdN v i), lN (v (bdN v i)), nI (i + 1))) 3 (fun i n q hi hq => by
    obtain ⟨T, rfl⟩ := hq
    obtain ⟨T1, e1⟩ := h T (i + 1) (by omega)
    have hb := bdN_le v i
    refine ⟨(sm_od_then μ T1, nI (bdN v (i + 1)), lN (v (bdN v (i + 1))), nI (i + 2)), ⟨T1, rfl⟩, ?_⟩
    show fX12_next_b65 _ (sm_od_then μ T) _ _ _ _ _ _ = fX12_next_l65 n (sm_od_then μ T1) _ _ _ (nI (if v (bdN v i) < v (i + 1) then i + 1 else bdN v i)) (lN (v (if v (bdN v i) < v (i + 1) then i + 1 else bdN v i))) (nI (i + 2))
    unfold fX12_next_b65 fX12_next_b93 fX12_next_b110 fX12_next_b115 fX12_next_b129 fX12_next_b143
    rw [if_pos (show nI (i + 1) < (4 : Int32) from ltE (i + 1) 4 (by omega) (by decide)), e1, bindS]
    dsimp only
    have hm : lN (y (i + 1)) * (if nI (i + 1) = (3 : Int32) then (1 : Int64) else 6) = lN (v (i + 1)) := by
      rw [hy (i + 1) (by omega)]
      by_cases e3 : i + 1 = 3
      · rw [if_pos (show nI (i + 1) = (3 : Int32) by rw [e3]; rfl), if_pos e3]; exact lN_mul _ 1
      · rw [if_neg (show ¬ nI (i + 1) = (3 : Int32) from neE _ 3 e3 (by omega) (by decide)), if_neg e3]; exact lN_mul _ 6
    rw [if_neg (nI_nm1 (by omega))]
    by_cases q : v (bdN v i) < v (i + 1)
    · have ql := (pk_lLT (hv (bdN v i) (by omega)) (hv (i + 1) (by omega))).mpr q
      by_cases e3 : nI (i + 1) = (3 : Int32)
      · rw [if_pos e3] at hm ⊢
        rw [hm, if_pos ql, if_neg (by decide), if_neg (by decide), nI_1, if_pos q]
      · rw [if_neg e3] at hm ⊢
        rw [if_neg (nI_nm1 (by omega)), hm, if_pos ql, if_neg (by decide), if_neg (by decide), nI_1, if_pos q]
    · have ql : ¬ lN (v (bdN v i)) < lN (v (i + 1)) := fun z => q ((pk_lLT (hv (bdN v i) (by omega)) (hv (i + 1) (by omega))).mp z)
      by_cases e3 : nI (i + 1) = (3 : Int32)
      · rw [if_pos e3] at hm ⊢
        rw [hm, if_neg ql, if_pos rfl, if_pos rfl, nI_1, if_neg q]
      · rw [if_neg e3] at hm ⊢
        rw [if_neg (nI_nm1 (by omega)), hm, if_neg ql, if_pos rfl, if_pos rfl, nI_1, if_neg q]) 996 (sm_od_then μ T0, nI 0, lN (v 0), nI 1) ⟨T0, rfl⟩
  cases e
  refine ⟨T, hL.trans ?_⟩
  show fX12_next_b65 _ _ _ _ _ _ _ _ = _
  unfold fX12_next_b65
  rw [if_neg (show ¬ nI (3 + 1) < (4 : Int32) by decide)]
theorem sim_next (N : Nat) (hN : N ≤ 512) (a b c : Int32) : SimW N (fun σ => fX11_next σ a b c) (fun μ => fX12_next μ a b c) := by
  intro σ μ hR
  have hR1 := hR.mono (Nat.le_succ N)
  obtain ⟨R, C, kn, w, u, n, pg, L, r1, r2, r3, r4, r5, r6⟩ := id hR
  obtain ⟨mm, mx⟩ := m_many r2
  dsimp only
  unfold fX11_next fX12_next
  rcases xm_read hN r1 with ⟨-, h1, h2⟩ | ⟨h0, hp, h1, h2⟩
  · simp only [h1, if_pos h2, bindS, i00]; exact ⟨_, _, _, rfl, rfl, hR1⟩
  simp only [h1, if_neg h2, bindS, i10, p_isWithin, p_within, zb_if, mm, mx]
  by_cases h3 : ¬ a < 0 ∧ ¬ (5 : Int32) < a
  rotate_left
  · simp only [decide_eq_false h3]; exact ⟨_, _, _, rfl, rfl, hR1⟩
  simp only [if_pos (decide_eq_true h3)]
  rcases xm_free r1 b with ⟨k1, k2⟩ | ⟨f, hf, rfl, k1, k2⟩
  · simp only [k1, k2, bindS, i00]; exact ⟨_, _, _, rfl, rfl, hR1⟩
  simp only [k1, k2, bindS, i10]
  by_cases h6 : ¬ c < 0 ∧ ¬ (10 : Int32) < c
  rotate_left
  · simp only [decide_eq_false h6]; exact ⟨_, _, _, rfl, rfl, hR1⟩
  simp only [if_pos (decide_eq_true h6)]
  obtain ⟨d, hd, rfl⟩ := in_range (m := 5) (by decide) h3
  obtain ⟨r, hr, rfl⟩ := in_range (m := 10) (by decide) h6
  by_cases hu : 7 < u
  · rw [if_pos hu, if_pos (decide_eq_true hu)]; exact ⟨_, _, _, rfl, rfl, hR1⟩
  rw [if_neg hu, if_neg (by simpa using hu)]
  obtain ⟨rx, rm⟩ := rg_x r1 h0
  obtain ⟨wx, wm⟩ := od_w r2
  have h36 := rc36 r1
  have hW := Nat.lt_of_le_of_lt (w7 r2 (by omega)) p60_7
  have hv : ∀ g, g < 4 → (if g = 3 then 1 else 6) * exN R C kn none w g d f r < 2 ^ 63 := fun g hg => by
    have hex := exN_le (R := R) (C := C) (kn := kn) (qo := none) (w := w) (g := g) (d := d) (f := f) (r := r) h36 hd (fun e => hr)
    split <;> omega
  obtain ⟨O, e1⟩ := x_bestD (σ := σ) (v := fun g => (if g = 3 then 1 else 6) * exN R C kn none w g d f r) hv (a := nI d) (b := nI f) (c := nI r) (fun O g hg => x_sixt (σ := sx_od_outs σ O) (R := R) (C := C) (kn := kn) (w := w) rx wx hW hg hd (fun _ => ⟨rfl, rfl, hf.1, hr⟩))
  obtain ⟨T, e2⟩ := m_nextL (μ := μ) (v := fun g => (if g = 3 then 1 else 6) * exN R C kn none w g d f r) (y := fun g => exN R C kn none w g d f r) hv (fun g hg => Nat.mul_comm _ _) (a := nI d) (b := nI f) (c := nI r) (fun T g hg => m_expNow (μ := sm_od_then μ T) (R := R) (C := C) (kn := kn) (w := w) (qo := none) rm (fun d h => by cases h) wm hW hg hd (fun _ => ⟨rfl, rfl, hf.1, hr⟩))
  rw [e1, e2, bindS]
  exact ⟨_, _, _, rfl, rfl, rel_od hR1 _ _⟩
theorem m_gp1 (μ : SM) (T : Nat → Int64) (v : Int32) : sm_rp_gonePost (sm_od_then μ T) v = sm_od_then (sm_rp_gonePost μ v) T := rfl
theorem m_gp2 (μ : SM) (T T' : Nat → Int64) : sm_od_then (sm_od_then μ T) T' = sm_od_then μ T' := rfl
theorem m_gp3 (μ : SM) (v v' : Int32) : sm_rp_gonePost (sm_rp_gonePost μ v) v' = sm_rp_gonePost μ v' := rfl
theorem m_gp4 (μ : SM) : sm_rp_gonePost μ (gm_rp_gonePost μ) = μ := rfl
theorem lN_subN {a b : Nat} (h : a ≤ b) : lN a - lN b = -lN (b - a) := by
  rw [← lN_sub h, Int64.neg_sub]
theorem xm_term {a b t : Nat} (ha : a < 2 ^ 62) (hb : b < 2 ^ 62) (h0 : 0 < t) (ht : t < 2 ^ 62) (p : Int32) : ∃ r, fX11_term (lN a - lN b) (lN t) p = some r ∧ fX12_lowest (lN a - lN b) (lN t) p = some r := by
  rcases Nat.lt_or_ge a b with q | q
  · rw [lN_subN (by omega)]
    exact xm_termN (by omega) (by omega) h0 (by omega) p
  · rw [lN_sub q]
    exact ⟨_, x_term (by omega) h0 (by omega) p, m_lowest (by omega) h0 (by omega) p⟩
theorem x_forelike {σ : SX} {R C : Nat} {kn w : Nat → Nat} (h : RgX σ R C kn) (hw : ∀ k, k < 144 → gx_od_weights σ k = lN (w k) ∧ w k < 2 ^ 63 ∧ (¬ frC R C kn (k / 4) → w k = 0)) (hW : smN w 144 < 2 ^ 49) {d : Nat} (hd : d ≤ 5) {qo : Option Nat} (hq : ∀ d, qo = some d → d < R * C) : ∃ O, fX4_foretellStep σ 0 (nI d) (oI qo) = some (sx_od_outs σ O) ∧ fX4_likeliestOfAll (sx_od_outs σ O) = some (lN (exN R C kn qo w 0 d 0 0)) := by
  obtain ⟨O, e1, f1⟩ := x_foreStep h hw (t := 0) (by decide) hd (qo := qo) hq
  have b1 : ∀ s, s < 4 → smN (ouD R C kn qo w 0 d 0 0 s) 144 < 2 ^ 60 := fun s _ => by
    have := ouD_sum (R := R) (C := C) (kn := kn) (qo := qo) (w := w) (g := 0) (d := d) (f := 0) (r := 0) (s := s) hd (fun e => by omega)
    omega
  have e36 := exN_36 (R := R) (C := C) (kn := kn) (qo := qo) (w := w) (g := 0) (d := d) (f := 0) (r := 0) (by have := h.2.1; omega) (by have := h.2.2.2.1; omega) h.1 h.2.2.1 (fun k hk => (hw k hk).2.2)
  refine ⟨O, e1, ?_⟩
  rw [x_likeAll (σ := sx_od_outs σ O) (o := ouD R C kn qo w 0 d 0 0) (fun s hs p hp => f1 s hs p hp) b1, e36]
theorem sim_post (N : Nat) (a b c : Int32) : SimW N (fun σ => fX11_post σ a b c) (fun μ => fX12_post μ a b c) := by
  intro σ μ hR
  have hR1 := hR.mono (Nat.le_succ N)
  obtain ⟨R, C, kn, w, u, n, pg, L, r1, r2, r3, r4, r5, r6⟩ := id hR
  obtain ⟨mm, mx⟩ := m_many r2
  have h36 := rc36 r1
  simp only [fX11_post_b43, fX11_post_b23, fX11_post, fX12_post_b38, fX12_post_b18, fX12_post, p_isPart]
  rcases pk_ix a (n := R * C) (by omega) with hx | hx | ⟨j, hj, rfl⟩
  · simp only [x_hasN r1 (Or.inl hx), m_isCellN r1 (Or.inl hx), bindS, i00]; exact ⟨_, _, _, rfl, rfl, hR1⟩
  · simp only [x_hasN r1 (Or.inr hx), m_isCellN r1 (Or.inr hx), bindS, i00]; exact ⟨_, _, _, rfl, rfl, hR1⟩
  have h0 : R ≠ 0 := fun q => by rw [q, Nat.zero_mul] at hj; omega
  have hkj := r1.2.2.2.2.2.1 j hj
  simp only [x_has r1 hj, m_isCell r1 hj, x_kindOf r1 hj, bindS, i10, if_pos (inbN (show j < 36 by omega) (show j < 2 ^ 31 by omega)), cl_nI (show j < 2 ^ 31 by omega), hkj.2.2.1]
  by_cases k2 : kn j = 2
  rotate_left
  · have k3 : ¬ nI (kn j) = (2 : Int32) := neE _ 2 k2 (by have := hkj.1; omega) (by decide)
    simp only [if_neg k3]; exact ⟨_, _, _, rfl, rfl, hR1⟩
  have k3 : nI (kn j) = (2 : Int32) := by rw [k2]; rfl
  simp only [if_pos k3, p_isWithin, p_within, bindS, zb_if, mm, mx]
  by_cases h3 : ¬ b < 0 ∧ ¬ (5 : Int32) < b
  rotate_left
  · simp only [decide_eq_false h3]; exact ⟨_, _, _, rfl, rfl, hR1⟩
  simp only [if_pos (decide_eq_true h3)]
  by_cases h6 : ¬ c < 0 ∧ ¬ (1 : Int32) < c
  rotate_left
  · simp only [decide_eq_false h6]; exact ⟨_, _, _, rfl, rfl, hR1⟩
  simp only [if_pos (decide_eq_true h6)]
  obtain ⟨d, hd, rfl⟩ := in_range (m := 5) (by decide) h3
  by_cases hu : 7 < u
  · rw [if_pos hu, if_pos (decide_eq_true hu)]; exact ⟨_, _, _, rfl, rfl, hR1⟩
  rw [if_neg hu, if_neg (by simpa using hu)]
  obtain ⟨rx, rm⟩ := rg_x r1 h0
  obtain ⟨wx, wm⟩ := od_w r2
  have hpos := r2.2.2.2.2.2 h0
  have hW := Nat.lt_of_le_of_lt (w7 r2 (by omega)) p60_7
  have hex := fun qo => exN_le (R := R) (C := C) (kn := kn) (qo := qo) (w := w) (g := 0) (d := d) (f := 0) (r := 0) h36 hd (fun e => by omega)
  have hqj : ∀ d, some j = some d → d < R * C := fun d h => by cases h; exact hj
  obtain ⟨O1, e1, f1⟩ := x_forelike rx wx hW hd (qo := none) (fun d h => by cases h)
  obtain ⟨O2, e2, f2⟩ := x_forelike (σ := sx_od_outs σ O1) (R := R) (C := C) (kn := kn) (w := w) rx wx hW hd (qo := some j) hqj
  obtain ⟨T1, e3⟩ := m_expNow (f := 0) (r := 0) rm (fun d h => by cases h) wm hW (g := 0) (by decide) hd (a := 0) (b := 0) (fun e => by omega)
  have rm2 : RgM (sm_rp_gonePost (sm_od_then μ T1) (nI j)) R C kn (some j) := ⟨rm.1, rm.2.1, rm.2.2.1, rm.2.2.2.1, rm.2.2.2.2.1, rm.2.2.2.2.2.1, rm.2.2.2.2.2.2.1, rfl⟩
  obtain ⟨T2, e4⟩ := m_expNow (μ := sm_rp_gonePost (sm_od_then μ T1) (nI j)) (w := w) (f := 0) (r := 0) rm2 hqj wm hW (g := 0) (by decide) hd (a := 0) (b := 0) (fun e => by omega)
  have e1' : fX4_foretellStep σ 0 (nI d) (-1) = some (sx_od_outs σ O1) := e1
  have e2' : fX4_foretellStep (sx_od_outs σ O1) 0 (nI d) (nI j) = some (sx_od_outs σ O2) := e2
  have f2' : fX4_likeliestOfAll (sx_od_outs σ O2) = some (lN (exN R C kn (some j) w 0 d 0 0)) := f2
  have e3' : fX12_expectedNow μ 0 (nI d) 0 0 = some (lN (exN R C kn none w 0 d 0 0), sm_od_then μ T1) := e3
  have e4' : fX12_expectedNow (sm_rp_gonePost (sm_od_then μ T1) (nI j)) 0 (nI d) 0 0 = some (lN (exN R C kn (some j) w 0 d 0 0), sm_od_then (sm_rp_gonePost (sm_od_then μ T1) (nI j)) T2) := e4
  have gp : sm_rp_gonePost (sm_od_then (sm_rp_gonePost (sm_od_then μ T1) (nI j)) T2) (-1) = sm_od_then μ T2 := by
    rw [m_gp1 μ T1, m_gp2, m_gp1, m_gp3]
    have : gm_rp_gonePost μ = -1 := rm.2.2.2.2.2.2.2
    rw [← this, m_gp4]
  rw [e1', bindS, f1, bindS, e2', bindS, f2', bindS, x_total (σ := sx_od_outs σ O2) (μ := μ) (R := R) (C := C) (kn := kn) (w := w) (u := u) r2, bindS, e3', bindS]
  dsimp only
  rw [e4', bindS]
  dsimp only
  rw [gp, m_all (σ := σ) (μ := sm_od_then μ T2) (R := R) (C := C) (kn := kn) (w := w) (u := u) r2, bindS, show (10 : Int64) * lN (smN w 144) = lN (10 * smN w 144) from lN_mul 10 _]
  have x1 := hex none
  have x2 := hex (some j)
  obtain ⟨r, t1, t2⟩ := xm_term (a := exN R C kn none w 0 d 0 0) (b := exN R C kn (some j) w 0 d 0 0) (t := 10 * smN w 144) (by omega) (by omega) (by omega) (by omega) c
  rw [t1, t2, bindS, bindS]
  exact ⟨_, _, _, rfl, rfl, rel_od hR1 _ _⟩
