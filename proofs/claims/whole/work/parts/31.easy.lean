/-! ===== cells, players: who is one ===== -/
theorem inb {j n : Nat} (h : j < n) (hn : n < 2 ^ 31) : ¬ (nI j < 0 ∨ n ≤ (nI j).toNatClampNeg) := vp_in_nI h hn
theorem inb2 {j n : Nat} (h : j < n) (hn : n < 2 ^ 31) : ¬ (nI j < 0 ∨ n ≤ j) := fun q => by
  rcases q with q | q
  · exact nI_pos (by omega) q
  · omega
theorem cl_nI {j : Nat} (h : j < 2 ^ 31) : (nI j).toNatClampNeg = j := nI_clamp h
theorem lit {n : Nat} : (OfNat.ofNat n : Int32) = nI n := rfl
theorem ltI {a b : Nat} (ha : a < 2 ^ 31) (hb : b < 2 ^ 31) (h : a < b) : nI a < nI b := (nI_ltI ha hb).mpr h
theorem nltI {a b : Nat} (ha : a < 2 ^ 31) (hb : b < 2 ^ 31) (h : b ≤ a) : ¬ nI a < nI b := fun q => by
  have := (nI_ltI ha hb).mp q
  omega
theorem neI {a b : Nat} (ha : a < 2 ^ 31) (hb : b < 2 ^ 31) (h : a ≠ b) : ¬ nI a = nI b := fun q => h ((nI_eq ha hb).mp q)
theorem ltE (a b : Nat) (h : a < b) (hb : b < 2 ^ 31) : nI a < nI b := ltI (by omega) hb h
theorem nltE (a b : Nat) (h : b ≤ a) (ha : a < 2 ^ 31) : ¬ nI a < nI b := nltI ha (by omega) h
theorem neE (a b : Nat) (h : a ≠ b) (ha : a < 2 ^ 31) (hb : b < 2 ^ 31) : ¬ nI a = nI b := neI ha hb h
theorem rc36 {N : Nat} {σ : SX} {μ : SM} {R C : Nat} {kn : Nat → Nat} (h : RelRg N σ μ R C kn) : R * C ≤ 36 := by
  rcases h.1 with ⟨rfl, rfl, -⟩ | ⟨-, a, -, b, -⟩
  · decide
  · exact Nat.mul_le_mul a b
theorem i10 {α : Type} (a b : α) : (if (1 : Int32) = 0 then a else b) = b := if_neg (by decide)
theorem i00 {α : Type} (a b : α) : (if (0 : Int32) = 0 then a else b) = a := if_pos rfl
section CELL
variable {N : Nat} {σ : SX} {μ : SM} {R C : Nat} {kn : Nat → Nat}
theorem x_has (h : RelRg N σ μ R C kn) {j : Nat} (hj : j < R * C) : fX7_has σ (nI j) = some 1 := by
  have h36 := rc36 h
  obtain ⟨-, -, -, hs, -⟩ := h
  unfold fX7_has fX7_has_b17
  rw [if_neg (nI_pos (by omega)), hs, if_pos (ltI (by omega) (by omega) hj)]
  rfl
theorem x_hasN (h : RelRg N σ μ R C kn) {x : Int32} (hx : x < 0 ∨ nI (R * C) ≤ x) : fX7_has σ x = some 0 := by
  obtain ⟨-, -, -, hs, -⟩ := h
  unfold fX7_has fX7_has_b16 fX7_has_b17
  rcases hx with hx | hx
  · rw [if_pos hx]; rfl
  · by_cases h0 : x < 0
    · rw [if_pos h0]; rfl
    · rw [if_neg h0, hs, if_neg (Int32.not_lt.mpr hx)]; rfl
theorem x_kindOf (h : RelRg N σ μ R C kn) {j : Nat} (hj : j < R * C) : fX7_kindOf σ (nI j) = some (nI (kn j)) := by
  have h36 := rc36 h
  obtain ⟨-, -, -, hs, -, hc, -⟩ := h
  unfold fX7_kindOf fX7_kindOf_b31
  rw [if_neg (nI_pos (by omega)), hs, if_pos (ltI (by omega) (by omega) hj), if_pos (show nI j < (36 : Int32) from ltE j 36 (by omega) (by omega)), if_pos (inb (by omega) (by omega)), cl_nI (by omega), (hc j hj).2.1]
theorem x_kindOfN (h : RelRg N σ μ R C kn) {x : Int32} (hx : x < 0 ∨ nI (R * C) ≤ x) : fX7_kindOf σ x = some 3 := by
  obtain ⟨-, -, -, hs, -⟩ := h
  unfold fX7_kindOf fX7_kindOf_b30 fX7_kindOf_b31
  rcases hx with hx | hx
  · rw [if_pos hx]
  · by_cases h0 : x < 0
    · rw [if_pos h0]
    · rw [if_neg h0, hs, if_neg (Int32.not_lt.mpr hx)]
theorem x_isFree (h : RelRg N σ μ R C kn) {j : Nat} (hj : j < R * C) : fX7_isFree σ (nI j) = some (zb (decide (kn j < 2))) := by
  have h36 := rc36 h
  obtain ⟨-, -, -, hs, -, hc, -⟩ := h
  unfold fX7_isFree fX7_isFree_b35 fX7_isFree_b36
  rw [if_neg (nI_pos (by omega)), hs, if_pos (ltI (by omega) (by omega) hj), if_pos (show nI j < (36 : Int32) from ltE j 36 (by omega) (by omega)), if_pos (inb (by omega) (by omega)), cl_nI (by omega), (hc j hj).2.1]
  have hk := (hc j hj).1
  by_cases hk2 : kn j < 2
  · rw [if_neg (show ¬ (1 : Int32) < nI (kn j) from nltE 1 (kn j) (by omega) (by omega))]
    simp [zb, hk2]
  · rw [if_pos (show (1 : Int32) < nI (kn j) from ltE 1 (kn j) (by omega) (by omega))]
    simp [zb, hk2]
theorem x_isFreeN (h : RelRg N σ μ R C kn) {x : Int32} (hx : x < 0 ∨ nI (R * C) ≤ x) : fX7_isFree σ x = some 0 := by
  obtain ⟨-, -, -, hs, -⟩ := h
  unfold fX7_isFree fX7_isFree_b35 fX7_isFree_b36
  rcases hx with hx | hx
  · rw [if_pos hx]; rfl
  · by_cases h0 : x < 0
    · rw [if_pos h0]; rfl
    · rw [if_neg h0, hs, if_neg (Int32.not_lt.mpr hx)]; rfl
theorem m_cells (h : RelRg N σ μ R C kn) : fX12_cells μ = some (nI (R * C)) := by
  obtain ⟨-, hr, hc, -⟩ := h
  unfold fX12_cells
  rw [hr, hc, pk_mul]
theorem nI_m1 (n : Nat) (h : 0 < n) : nI n - 1 = nI (n - 1) := by
  obtain ⟨m, rfl⟩ : ∃ m, n = m + 1 := ⟨n - 1, by omega⟩
  rw [nI_pred]; rfl
theorem m_isCell (h : RelRg N σ μ R C kn) {j : Nat} (hj : j < R * C) : fX12_isCell μ (nI j) = some 1 := by
  have h36 := rc36 h
  unfold fX12_isCell
  rw [m_cells h, bindS, p_within, bindS, nI_m1 _ (by omega)]
  have : (decide (¬ nI j < 0 ∧ ¬ nI (R * C - 1) < nI j)) = true := decide_eq_true (range_in (by omega) (by omega))
  rw [this]
  rfl
theorem m_isCellN (h : RelRg N σ μ R C kn) {x : Int32} (hx : x < 0 ∨ nI (R * C) ≤ x) : fX12_isCell μ x = some 0 := by
  have h36 := rc36 h
  unfold fX12_isCell
  rw [m_cells h, bindS, p_within, bindS]
  have hn : ¬ (¬ x < 0 ∧ ¬ nI (R * C) - 1 < x) := by
    rintro ⟨a, b⟩
    rcases hx with hx | hx
    · exact a hx
    · apply b
      rcases Nat.eq_zero_or_pos (R * C) with e | e
      · rw [e]
        have : (nI 0 - 1 : Int32) = -1 := by decide
        rw [this]
        rw [Int32.lt_iff_toInt_lt] at a ⊢
        have h1 : (-1 : Int32).toInt = -1 := by decide
        have h0 : (0 : Int32).toInt = 0 := by decide
        rw [h1]; rw [h0] at a; omega
      · rw [nI_m1 _ e]
        rw [Int32.le_iff_toInt_le, nI_toInt (by omega)] at hx
        rw [Int32.lt_iff_toInt_lt, nI_toInt (by omega)]
        omega
  rw [decide_eq_false hn]
  rfl
theorem m_isFree (h : RelRg N σ μ R C kn) {j : Nat} (hj : j < R * C) : fX12_isFree μ (nI j) = some (zb (decide (kn j < 2))) := by
  have h36 := rc36 h
  unfold fX12_isFree fX12_isFree_b22 fX12_isFree_b23
  rw [m_isCell h hj, bindS, if_neg (by decide), if_pos (inb (by omega) (by omega)), cl_nI (by omega)]
  obtain ⟨-, -, -, -, -, hc, -⟩ := h
  rw [(hc j hj).2.2.1]
  have hk := (hc j hj).1
  by_cases hk2 : kn j < 2
  · rw [if_pos (show nI (kn j) < (2 : Int32) from ltE (kn j) 2 (by omega) (by omega))]
    simp [zb, hk2]
  · rw [if_neg (show ¬ nI (kn j) < (2 : Int32) from nltE (kn j) 2 (by omega) (by omega))]
    simp [zb, hk2]
theorem m_isFreeN (h : RelRg N σ μ R C kn) {x : Int32} (hx : x < 0 ∨ nI (R * C) ≤ x) : fX12_isFree μ x = some 0 := by
  unfold fX12_isFree fX12_isFree_b22 fX12_isFree_b23
  rw [m_isCellN h hx]
  rfl
/-- a cell that is free, or both say no -/
theorem xm_free (h : RelRg N σ μ R C kn) (x : Int32) : (fX7_isFree σ x = some 0 ∧ fX12_isFree μ x = some 0) ∨ ∃ j, frC R C kn j ∧ x = nI j ∧ fX7_isFree σ x = some 1 ∧ fX12_isFree μ x = some 1 := by
  have h36 := rc36 h
  rcases pk_ix x (n := R * C) (by omega) with hx | hx | ⟨j, hj, rfl⟩
  · exact Or.inl ⟨x_isFreeN h (Or.inl hx), m_isFreeN h (Or.inl hx)⟩
  · exact Or.inl ⟨x_isFreeN h (Or.inr hx), m_isFreeN h (Or.inr hx)⟩
  · by_cases hk : kn j < 2
    · refine Or.inr ⟨j, ⟨hj, hk⟩, rfl, ?_, ?_⟩
      · rw [x_isFree h hj, decide_eq_true hk]; rfl
      · rw [m_isFree h hj, decide_eq_true hk]; rfl
    · refine Or.inl ⟨?_, ?_⟩
      · rw [x_isFree h hj, decide_eq_false hk]; rfl
      · rw [m_isFree h hj, decide_eq_false hk]; rfl
end CELL
section PLY
variable {σ : SX} {μ : SM} {R C : Nat} {kn : Nat → Nat} {n : Nat}
theorem x_playerOf (h : RelPl σ μ R C kn n) {i : Nat} (hi : i < 6) : fX11_playerOf σ (nI i) = some (if i < n then some (20 + i) else none) := by
  unfold fX11_playerOf fX11_playerOf_b23
  rw [if_neg (nI_pos (by omega)), if_pos (show nI i < (6 : Int32) from ltE i 6 hi (by omega)), if_pos (inb hi (by omega)), cl_nI (by omega), h.2.2.2.2.1 i hi]
  split <;> rfl
theorem x_playerOfN {x : Int32} (hx : x < 0 ∨ nI 6 ≤ x) : fX11_playerOf σ x = some none := by
  unfold fX11_playerOf fX11_playerOf_b22 fX11_playerOf_b23
  rcases hx with hx | hx
  · rw [if_pos hx]; rfl
  · by_cases h0 : x < 0
    · rw [if_pos h0]; rfl
    · rw [if_neg h0, if_neg (show ¬ x < (6 : Int32) from Int32.not_lt.mpr hx)]; rfl
theorem x_pok (h : RelPl σ μ R C kn n) {i : Nat} (hi : i < n) : gx_pok σ (20 + i) = true := by
  have h6 := h.1
  obtain ⟨a, b, -⟩ := h.2.2.2.2.2 i hi
  unfold gx_pok
  rw [Nat.add_sub_cancel_left, a]
  simp [b]
  omega
/-- a player, or both say no -/
theorem xm_player (h : RelPl σ μ R C kn n) (x : Int32) : (fX11_playerOf σ x = some none ∧ fX12_isPlayer μ x = some 0) ∨ ∃ i, i < n ∧ i < 6 ∧ x = nI i ∧ fX11_playerOf σ x = some (some (20 + i)) ∧ fX12_isPlayer μ x = some 1 ∧ gx_pok σ (20 + i) = true := by
  have h6 := h.1
  have hp := h.2.2.2.1
  have no : ∀ y : Int32, (y < 0 ∨ nI n ≤ y) → fX12_isPlayer μ y = some 0 := by
    intro y hy
    unfold fX12_isPlayer
    rw [p_within, bindS, hp]
    have hn : ¬ (¬ y < 0 ∧ ¬ nI n - 1 < y) := by
      rintro ⟨a, b⟩
      rcases hy with hy | hy
      · exact a hy
      · apply b
        rcases Nat.eq_zero_or_pos n with e | e
        · rw [e]
          have : (nI 0 - 1 : Int32) = -1 := by decide
          rw [this]
          rw [Int32.lt_iff_toInt_lt] at a ⊢
          have h1 : (-1 : Int32).toInt = -1 := by decide
          have h0 : (0 : Int32).toInt = 0 := by decide
          rw [h1]; rw [h0] at a; omega
        · rw [nI_m1 _ e]
          rw [Int32.le_iff_toInt_le, nI_toInt (by omega)] at hy
          rw [Int32.lt_iff_toInt_lt, nI_toInt (by omega)]
          omega
    rw [decide_eq_false hn]
    rfl
  rcases pk_ix x (n := 6) (by omega) with hx | hx | ⟨i, hi, rfl⟩
  · exact Or.inl ⟨x_playerOfN (Or.inl hx), no x (Or.inl hx)⟩
  · refine Or.inl ⟨x_playerOfN (Or.inr hx), no x (Or.inr ?_)⟩
    rw [Int32.le_iff_toInt_le, nI_toInt (by omega)] at hx ⊢
    omega
  · by_cases hin : i < n
    · refine Or.inr ⟨i, hin, hi, rfl, ?_, ?_, x_pok h hin⟩
      · rw [x_playerOf h hi, if_pos hin]
      · unfold fX12_isPlayer
        rw [p_within, bindS, hp, nI_m1 _ (by omega)]
        have : (decide (¬ nI i < 0 ∧ ¬ nI (n - 1) < nI i)) = true := decide_eq_true (range_in (by omega) (by omega))
        rw [this]
        rfl
    · refine Or.inl ⟨?_, no _ (Or.inr (nI_le (by omega) (by omega)))⟩
      rw [x_playerOf h hi, if_neg hin]
end PLY
/-! ===== feels, blank, cell, jackets, about, as, move ===== -/
theorem sim_feels (N : Nat) (a b c : Int32) : SimW N (fun σ => fX11_feels σ a b c) (fun μ => fX12_feels μ a b c) := by
  intro σ μ hR
  dsimp only
  unfold fX11_feels fX12_feels fX11_feels_b26 fX12_feels_b29
  simp only [p_isWithin, p_within, bindS, zb_if]
  have hR1 := hR.mono (Nat.le_succ N)
  by_cases h1 : ¬ a < 0 ∧ ¬ (5 : Int32) < a
  · rw [if_pos (decide_eq_true h1), if_pos (decide_eq_true h1)]
    by_cases h2 : ¬ b < 0 ∧ ¬ (10 : Int32) < b
    · rw [if_pos (decide_eq_true h2), if_pos (decide_eq_true h2)]
      by_cases h3 : ¬ c < 0 ∧ ¬ (10 : Int32) < c
      · rw [if_pos (decide_eq_true h3), if_pos (decide_eq_true h3)]
        refine ⟨_, _, _, rfl, rfl, ?_⟩
        obtain ⟨ka, a1, a2⟩ := in_range (m := 5) (by decide) h1
        obtain ⟨kb, b1, b2⟩ := in_range (m := 10) (by decide) h2
        obtain ⟨kc, c1, c2⟩ := in_range (m := 10) (by decide) h3
        obtain ⟨R, C, kn, w, u, n, pg, L, r1, r2, r3, r4, r5, r6⟩ := hR1
        exact ⟨R, C, kn, w, u, n, pg, L, r1, r2, r3, ⟨⟨ka, a1, a2, a2⟩, ⟨kb, b1, b2, b2⟩, ⟨kc, c1, c2, c2⟩, r4.2.2.2⟩, r5, r6⟩
      · rw [if_neg (by simpa using h3), if_neg (by simpa using h3)]
        exact ⟨_, _, _, rfl, rfl, hR1⟩
    · rw [if_neg (by simpa using h2), if_neg (by simpa using h2)]
      exact ⟨_, _, _, rfl, rfl, hR1⟩
  · rw [if_neg (by simpa using h1), if_neg (by simpa using h1)]
    exact ⟨_, _, _, rfl, rfl, hR1⟩
theorem sim_blank (N : Nat) : SimW N fX11_blank fX12_blank := by
  intro σ μ hR
  obtain ⟨R, C, kn, w, u, n, pg, L, r1, r2, r3, r4, r5, r6⟩ := hR.mono (Nat.le_succ N)
  refine ⟨nI L, sx_pg_length σ 0, sm_pg_pageLength μ 0, ?_, ?_, ?_⟩
  · unfold fX11_blank; rw [r6.2.1]
  · unfold fX12_blank; rw [r6.2.2.1]
  · exact ⟨R, C, kn, w, u, n, pg, 0, r1, r2, r3, r4, r5, ⟨Nat.zero_le _, rfl, rfl, fun i hi => absurd hi (Nat.not_lt_zero i)⟩⟩
theorem sim_cell (N : Nat) (x : Int32) : SimR N (fun σ => fX11_cell σ x) (fun μ => fX12_cell μ x) := by
  intro σ μ hR
  obtain ⟨R, C, kn, w, u, n, pg, L, r1, r2⟩ := hR
  have h36 := rc36 r1
  dsimp only
  unfold fX11_cell fX12_cell fX11_cell_b24 fX12_cell_b19
  rcases pk_ix x (n := R * C) (by omega) with hx | hx | ⟨j, hj, rfl⟩
  · rw [x_hasN r1 (Or.inl hx), m_isCellN r1 (Or.inl hx)]
    exact ⟨_, rfl, rfl⟩
  · rw [x_hasN r1 (Or.inr hx), m_isCellN r1 (Or.inr hx)]
    exact ⟨_, rfl, rfl⟩
  · rw [x_has r1 hj, m_isCell r1 hj, bindS, bindS, if_neg (by decide), if_neg (by decide), x_kindOf r1 hj, bindS, if_pos (inb (by omega) (by omega)), cl_nI (by omega), (r1.2.2.2.2.2.1 j hj).2.2.1]
    exact ⟨_, rfl, rfl⟩
theorem sim_jackets (N : Nat) (a b j : Int32) : SimW N (fun σ => fX11_jackets σ a b j) (fun μ => fX12_jackets μ a b j) := by
  intro σ μ hR
  have hR1 := hR.mono (Nat.le_succ N)
  obtain ⟨R, C, kn, w, u, n, pg, L, r1, r2, r3, r4, r5, r6⟩ := id hR1
  have h6 := r3.1
  simp only [fX11_jackets_b21, fX11_jackets, fX12_jackets_b21, fX12_jackets, fX3_changeJackets]
  rcases xm_player r3 a with ⟨h1, h2⟩ | ⟨p, hp, hp6, rfl, h1, h2, -⟩
  · simp only [h1, h2, bindS, ev_q, i00]; exact ⟨_, _, _, rfl, rfl, hR1⟩
  simp only [h1, h2, bindS, ev_q, i10]
  rcases xm_player r3 b with ⟨h3, h4⟩ | ⟨q, hq, hq6, rfl, h3, h4, -⟩
  · simp only [h3, h4, bindS, i00]; exact ⟨_, _, _, rfl, rfl, hR1⟩
  simp only [h3, h4, bindS, i10]
  by_cases hpq : p = q
  · subst hpq
    simp only [if_true]; exact ⟨_, _, _, rfl, rfl, hR1⟩
  simp only [if_neg (neE p q hpq (by omega) (by omega)), p_isWithin, p_within, bindS, zb_if]
  by_cases h5 : ¬ j < 0 ∧ ¬ (10 : Int32) < j
  · simp only [if_pos (decide_eq_true h5)]
    refine ⟨_, _, _, rfl, rfl, ?_⟩
    obtain ⟨t, t1, t2⟩ := in_range (m := 10) (by decide) h5
    exact ⟨R, C, kn, w, u, n, pg, L, r1, r2, r3, ⟨r4.1, r4.2.1, r4.2.2.1, rfl, rfl, rfl, Or.inr ⟨p, q, t, hp, hq, hpq, t1, rfl, rfl, t2⟩, r4.2.2.2.2.2.2.2⟩, r5, r6⟩
  · simp only [decide_eq_false h5]
    exact ⟨_, _, _, rfl, rfl, hR1⟩
theorem updS {f : Nat → Int32} {k : Nat} {x : Int32} : upd f k x k = x := pk_us
theorem updN {f : Nat → Int32} {k j : Nat} {x : Int32} (h : j ≠ k) : upd f k x j = f j := pk_un h
theorem sim_move (N : Nat) (a c : Int32) : SimW N (fun σ => fX11_move σ a c) (fun μ => fX12_move μ a c) := by
  intro σ μ hR
  have hR1 := hR.mono (Nat.le_succ N)
  obtain ⟨R, C, kn, w, u, n, pg, L, r1, r2, r3, r4, r5, r6⟩ := id hR1
  simp only [fX11_move_b21, fX11_move, fX12_move_b16, fX12_move]
  rcases xm_player r3 a with ⟨h1, h2⟩ | ⟨p, hp, hp6, rfl, h1, h2, hok⟩
  · simp only [h1, h2, bindS, ev_q, i00]; exact ⟨_, _, _, rfl, rfl, hR1⟩
  simp only [h1, h2, bindS, ev_q, i10]
  rcases xm_free r1 c with ⟨h3, h4⟩ | ⟨t, ht, rfl, h3, h4⟩
  · simp only [h3, h4, bindS, i00]; exact ⟨_, _, _, rfl, rfl, hR1⟩
  simp only [h3, h4, bindS, i10, hok, if_true, if_pos (inb2 hp6 (by decide)), cl_nI (show p < 2 ^ 31 by omega), Nat.add_sub_cancel_left]
  obtain ⟨g1, g2, g3, g4, g5, g6⟩ := r3
  obtain ⟨k1, k2, k3, ⟨o, k4, k5, k6⟩, k7⟩ := g6 p hp
  rw [k5, k6]
  refine ⟨_, _, _, rfl, rfl, R, C, kn, w, u, n, pg, L, r1, r2, ⟨g1, g2, g3, g4, g5, fun i hi => ?_⟩, r4, r5, r6⟩
  obtain ⟨j1, j2, j3, j4, j5⟩ := g6 i hi
  refine ⟨j1, j2, j3, ?_, j5⟩
  by_cases e : i = p
  · subst e
    exact ⟨t, ht, updS, updS⟩
  · obtain ⟨o, q1, q2, q3⟩ := j4
    exact ⟨o, q1, (updN e).trans q2, (updN e).trans q3⟩
theorem x_dkind {σ : SX} {a : Nat} (h : gx_pl_kd σ (a - 20) < 6) : d_kind σ a = some (nI (gx_pl_kd σ (a - 20))) := by
  unfold d_kind
  generalize gx_pl_kd σ (a - 20) = k at h ⊢
  rcases (show k = 0 ∨ k = 1 ∨ k = 2 ∨ k = 3 ∨ k = 4 ∨ k = 5 by omega) with rfl | rfl | rfl | rfl | rfl | rfl <;> rfl
theorem sim_about (N : Nat) (a q : Int32) : SimR N (fun σ => fX11_about σ a q) (fun μ => fX12_about μ a q) := by
  intro σ μ hR
  obtain ⟨R, C, kn, w, u, n, pg, L, r1, r2, r3, r4, r5, r6⟩ := id hR
  simp only [fX11_about_b31, fX11_about, fX12_about_b33, fX12_about, fX6_detail, fX12_playerTold]
  rcases xm_player r3 a with ⟨h1, h2⟩ | ⟨p, hp, hp6, rfl, h1, h2, hok⟩
  · simp only [h1, h2, bindS, ev_q, i00]; exact ⟨_, rfl, rfl⟩
  simp only [h1, h2, bindS, ev_q, i10, p_isWithin, p_within, zb_if]
  obtain ⟨g1, g2, g3, g4, g5, g6⟩ := r3
  obtain ⟨k1, k2, k3, ⟨o, k4, k5, k6⟩, ⟨o2, l4, l5, l6⟩, ⟨o3, m4, m5, m6⟩, ⟨o4, n4, n5, n6⟩⟩ := g6 p hp
  have hdk := x_dkind (σ := σ) (a := 20 + p) (by rw [Nat.add_sub_cancel_left]; exact k2)
  rw [Nat.add_sub_cancel_left] at hdk
  by_cases h5 : ¬ q < 0 ∧ ¬ (4 : Int32) < q
  · simp only [if_pos (decide_eq_true h5), hok, if_true, hdk, bindS, if_pos (inb2 hp6 (by decide)), cl_nI (show p < 2 ^ 31 by omega), Nat.add_sub_cancel_left, k3, k5, k6, l5, l6, m5, m6, n5, n6]
    obtain ⟨t, t1, rfl⟩ := in_range (m := 4) (by decide) h5
    rcases (show t = 0 ∨ t = 1 ∨ t = 2 ∨ t = 3 ∨ t = 4 by omega) with rfl | rfl | rfl | rfl | rfl <;> exact ⟨_, rfl, rfl⟩
  · simp only [decide_eq_false h5]
    exact ⟨_, rfl, rfl⟩
theorem x_isOfKind {σ : SX} {p k : Nat} (hok : gx_pok σ (20 + p) = true) (hk : k < 6) : fX11_isOfKind σ (20 + p) (nI k) = some (zb (decide (k = 0 ∨ gx_pl_kd σ p = k ∨ k = 1 ∧ gx_pl_kd σ p = 2 ∨ k = 3 ∧ gx_pl_kd σ p = 4))) := by
  have h6 := ox_kd hok
  simp only [fX11_isOfKind, hok, if_true]
  rw [Nat.add_sub_cancel_left] at h6 ⊢
  generalize gx_pl_kd σ p = d at h6 ⊢
  rcases (show k = 0 ∨ k = 1 ∨ k = 2 ∨ k = 3 ∨ k = 4 ∨ k = 5 by omega) with rfl | rfl | rfl | rfl | rfl | rfl <;>
  rcases (show d = 0 ∨ d = 1 ∨ d = 2 ∨ d = 3 ∨ d = 4 ∨ d = 5 by omega) with rfl | rfl | rfl | rfl | rfl | rfl <;> rfl
theorem sim_as (N : Nat) (a q : Int32) : SimR N (fun σ => fX11_as σ a q) (fun μ => fX12_as μ a q) := by
  intro σ μ hR
  obtain ⟨R, C, kn, w, u, n, pg, L, r1, r2, r3, r4, r5, r6⟩ := id hR
  simp only [fX11_as_b37, fX11_as, fX12_as_b64, fX12_as_b63, fX12_as_b59, fX12_as_b49, fX12_as]
  rcases xm_player r3 a with ⟨h1, h2⟩ | ⟨p, hp, hp6, rfl, h1, h2, hok⟩
  · simp only [h1, h2, bindS, ev_q, i00]; exact ⟨_, rfl, rfl⟩
  simp only [h1, h2, bindS, ev_q, i10, p_isWithin, p_within, zb_if]
  obtain ⟨g1, g2, g3, g4, g5, g6⟩ := r3
  obtain ⟨k1, k2, k3, -⟩ := g6 p hp
  by_cases h5 : ¬ q < 0 ∧ ¬ (5 : Int32) < q
  · simp only [if_pos (decide_eq_true h5)]
    obtain ⟨t, t1, rfl⟩ := in_range (m := 5) (by decide) h5
    rw [x_isOfKind hok (by omega)]
    simp only [bindS, zb_if, if_pos (inb2 hp6 (by decide)), cl_nI (show p < 2 ^ 31 by omega), k3]
    generalize gx_pl_kd σ p = d at k2 ⊢
    rcases (show t = 0 ∨ t = 1 ∨ t = 2 ∨ t = 3 ∨ t = 4 ∨ t = 5 by omega) with rfl | rfl | rfl | rfl | rfl | rfl <;>
    rcases (show d = 0 ∨ d = 1 ∨ d = 2 ∨ d = 3 ∨ d = 4 ∨ d = 5 by omega) with rfl | rfl | rfl | rfl | rfl | rfl <;> exact ⟨_, rfl, rfl⟩
  · simp only [decide_eq_false h5]
    exact ⟨_, rfl, rfl⟩
