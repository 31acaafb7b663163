/-! ===== loops, and the greatest divisor ===== -/
theorem lp_it {α β : Type} (L : Nat → α → β) (s : Nat → α) (N : Nat) (h : ∀ i n, i < N → L (n + 1) (s i) = L n (s (i + 1))) : ∀ m n, m ≤ N → L (n + m) (s (N - m)) = L n (s N)
  | 0, n, _ => rfl
  | m + 1, n, hm => by
    have e : N - (m + 1) + 1 = N - m := by omega
    rw [← Nat.add_assoc, h _ _ (by omega), e]
    exact lp_it L s N h m n (by omega)
theorem lp_go {α β : Type} (L : Nat → α → β) (s : Nat → α) (N : Nat) (h : ∀ i n, i < N → L (n + 1) (s i) = L n (s (i + 1))) (n : Nat) : L (n + N) (s 0) = L n (s N) := by
  have := lp_it L s N h N n (Nat.le_refl N)
  rwa [Nat.sub_self] at this
def fbN : Nat → Nat
  | 0 => 0
  | 1 => 1
  | n + 2 => fbN (n + 1) + fbN n
/-- within k rounds the rest is 0 -/
def euT : Nat → Nat → Nat → Prop
  | 0, _, y => y = 0
  | k + 1, x, y => y = 0 ∨ euT k y (x % y)
theorem euT_fb : ∀ (k x y : Nat), y < x → (x < fbN (k + 2) ∨ y < fbN (k + 1)) → euT k x y
  | 0, x, y, h, hf => by
    show y = 0
    rcases hf with q | q
    · have : fbN 2 = 1 := rfl
      rw [this] at q; omega
    · have : fbN 1 = 1 := rfl
      rw [this] at q; omega
  | k + 1, x, y, h, hf => by
    show y = 0 ∨ euT k y (x % y)
    by_cases h0 : y = 0
    · exact Or.inl h0
    · refine Or.inr (euT_fb k y (x % y) (Nat.mod_lt _ (by omega)) ?_)
      by_cases hy : y < fbN (k + 2)
      · exact Or.inl hy
      · rcases hf with q | q
        · right
          have e : fbN (k + 3) = fbN (k + 2) + fbN (k + 1) := rfl
          have q' : x < fbN (k + 2) + fbN (k + 1) := e ▸ q
          have hle : x % y ≤ x - y := by
            have h1 := Nat.mod_eq_sub_mod (Nat.le_of_lt h)
            rw [h1]
            exact Nat.mod_le _ _
          omega
        · exact absurd q hy
theorem fb93 : 2 ^ 63 ≤ fbN 93 := by decide +kernel
theorem euT_all {x y : Nat} (hy : y < 2 ^ 63) : euT 92 x y := by
  show y = 0 ∨ euT 91 y (x % y)
  by_cases h0 : y = 0
  · exact Or.inl h0
  · exact Or.inr (euT_fb 91 y (x % y) (Nat.mod_lt _ (by omega)) (Or.inl (Nat.lt_of_lt_of_le hy fb93)))
theorem gcd_st (x y : Nat) : Nat.gcd x y = Nat.gcd y (x % y) := by
  rw [Nat.gcd_comm x y, Nat.gcd_rec, Nat.gcd_comm]
theorem lN_0 : lN 0 = 0 := rfl
theorem m_div_l : ∀ (k n x y : Nat), x < 2 ^ 63 → y < 2 ^ 63 → euT k x y → k < n → fX12_divisor_l17 n (lN x) (lN y) = some (lN (Nat.gcd x y))
  | k, 0, x, y, _, _, _, h => absurd h (Nat.not_lt_zero k)
  | k, n + 1, x, y, hx, hy, he, hn => by
    show fX12_divisor_b17 _ _ _ = _
    unfold fX12_divisor_b17
    by_cases h0 : y = 0
    · subst h0
      rw [if_pos (show lN 0 = (0 : Int64) from rfl), Nat.gcd_zero_right]
    · have hne : ¬ lN y = (0 : Int64) := fun q => h0 ((pk_lEQ hy (by decide)).mp (q.trans lN_0.symm))
      rw [if_neg hne, if_pos hne, pk_lRem hx (by omega) hy, gcd_st x y]
      cases k with
      | zero => exact absurd he h0
      | succ k =>
        rcases he with q | q
        · exact absurd q h0
        · exact m_div_l k n y (x % y) hy (Nat.lt_trans (Nat.mod_lt _ (by omega)) hy) q (by omega)
theorem x_div_l : ∀ (k n i x y : Nat), x < 2 ^ 63 → y < 2 ^ 63 → euT k x y → k < n → i + k < 100 → fX11_commonDivisor_l31 n (lN x) (lN y) (nI i) = some (lN (Nat.gcd x y))
  | k, 0, i, x, y, _, _, _, h, _ => absurd h (Nat.not_lt_zero k)
  | k, n + 1, i, x, y, hx, hy, he, hn, hi => by
    show fX11_commonDivisor_b31 _ _ _ _ = _
    unfold fX11_commonDivisor_b31 fX11_commonDivisor_b66
    rw [if_pos (show nI i < (100 : Int32) from ltE i 100 (by omega) (by omega))]
    by_cases h0 : y = 0
    · subst h0
      rw [if_pos (show lN 0 = (0 : Int64) from rfl), Nat.gcd_zero_right]
    · have hne : ¬ lN y = (0 : Int64) := fun q => h0 ((pk_lEQ hy (by decide)).mp (q.trans lN_0.symm))
      rw [if_neg hne, if_pos hne, pk_lRem hx (by omega) hy, gcd_st x y, nI_1]
      cases k with
      | zero => exact absurd he h0
      | succ k =>
        rcases he with q | q
        · exact absurd q h0
        · exact x_div_l k n (i + 1) y (x % y) hy (Nat.lt_trans (Nat.mod_lt _ (by omega)) hy) q (by omega) (by omega)
theorem lN_nneg {x : Nat} (hx : x < 2 ^ 63) : ¬ lN x < (0 : Int64) := fun q => by
  have := (pk_lLT hx (by decide)).mp (show lN x < lN 0 from q)
  omega
theorem m_divisor {x y : Nat} (hx : x < 2 ^ 63) (hy : y < 2 ^ 63) : fX12_divisor (lN x) (lN y) = some (lN (Nat.gcd x y)) := by
  unfold fX12_divisor fX12_divisor_b12
  rw [if_neg (lN_nneg hx)]
  exact m_div_l 92 1000 x y hx hy (euT_all hy) (by decide)
theorem x_divisor {x y : Nat} (hx : x < 2 ^ 63) (hy : y < 2 ^ 63) : fX11_commonDivisor (lN x) (lN y) = some (lN (Nat.gcd x y)) := by
  unfold fX11_commonDivisor fX11_commonDivisor_b12 fX11_commonDivisor_b26
  rw [if_neg (lN_nneg hx), if_neg (lN_nneg hy)]
  exact x_div_l 92 1000 0 x y hx hy (euT_all hy) (by decide) (by decide)
theorem lN_neg_neg (x : Nat) : -(-lN x) = lN x := Int64.neg_neg
theorem m_divisorN {x y : Nat} (h0 : 0 < x) (hx : x < 2 ^ 63) (hy : y < 2 ^ 63) : fX12_divisor (-lN x) (lN y) = some (lN (Nat.gcd x y)) := by
  have hn : -lN x < (0 : Int64) := by
    rw [Int64.lt_iff_toInt_lt, Int64.toInt_neg, pk_lT hx]
    have : (0 : Int64).toInt = 0 := rfl
    rw [this, Int.bmod_eq_of_le (by omega) (by omega)]
    omega
  unfold fX12_divisor fX12_divisor_b12
  rw [if_pos hn, lN_neg_neg]
  exact m_div_l 92 1000 x y hx hy (euT_all hy) (by decide)
theorem x_divisorN {x y : Nat} (h0 : 0 < x) (hx : x < 2 ^ 63) (hy : y < 2 ^ 63) : fX11_commonDivisor (-lN x) (lN y) = some (lN (Nat.gcd x y)) := by
  have hn : -lN x < (0 : Int64) := by
    rw [Int64.lt_iff_toInt_lt, Int64.toInt_neg, pk_lT hx]
    have : (0 : Int64).toInt = 0 := rfl
    rw [this, Int.bmod_eq_of_le (by omega) (by omega)]
    omega
  unfold fX11_commonDivisor fX11_commonDivisor_b12 fX11_commonDivisor_b26
  rw [if_pos hn, if_neg (lN_nneg hy), lN_neg_neg]
  exact x_div_l 92 1000 0 x y hx hy (euT_all hy) (by decide) (by decide)
theorem gcd_lt {x y : Nat} (h0 : 0 < y) (hy : y < 2 ^ 63) : Nat.gcd x y < 2 ^ 63 := Nat.lt_of_le_of_lt (Nat.gcd_le_right x h0) hy
theorem gcd_ne {x y : Nat} (h0 : 0 < y) (hy : y < 2 ^ 63) : ¬ lN (Nat.gcd x y) = (0 : Int64) := fun q => by
  have h1 := (pk_lEQ (gcd_lt h0 hy) (by decide)).mp (q.trans lN_0.symm)
  have := Nat.gcd_pos_of_pos_right x h0
  omega
/-- in lowest terms -/
def lowT (a b : Nat) (p : Int32) : Int64 := if p = 0 then lN (a / Nat.gcd a b) else lN (b / Nat.gcd a b)
theorem x_term {a b : Nat} (ha : a < 2 ^ 63) (h0 : 0 < b) (hb : b < 2 ^ 63) (p : Int32) : fX11_term (lN a) (lN b) p = some (lowT a b p) := by
  unfold fX11_term fX11_term_b17 fX11_term_b36 lowT
  rw [x_divisor ha hb, bindS]
  by_cases hp : p = 0
  · rw [if_pos hp, if_pos hp, if_neg (gcd_ne h0 hb), if_pos (gcd_ne h0 hb), pk_lDiv ha (Nat.gcd_pos_of_pos_right a h0) (gcd_lt h0 hb)]
  · rw [if_neg hp, if_neg hp, if_neg (gcd_ne h0 hb), if_pos (gcd_ne h0 hb), pk_lDiv hb (Nat.gcd_pos_of_pos_right a h0) (gcd_lt h0 hb)]
theorem m_lowest {a b : Nat} (ha : a < 2 ^ 63) (h0 : 0 < b) (hb : b < 2 ^ 63) (p : Int32) : fX12_lowest (lN a) (lN b) p = some (lowT a b p) := by
  unfold fX12_lowest fX12_lowest_b23 lowT
  rw [m_divisor ha hb, bindS]
  by_cases hp : p = 0
  · rw [if_pos hp, if_pos hp, if_pos (gcd_ne h0 hb), pk_lDiv ha (Nat.gcd_pos_of_pos_right a h0) (gcd_lt h0 hb)]
  · rw [if_neg hp, if_neg hp, if_pos (gcd_ne h0 hb), pk_lDiv hb (Nat.gcd_pos_of_pos_right a h0) (gcd_lt h0 hb)]
/-- a number above that is below 0: both say the same -/
theorem xm_termN {a b : Nat} (ha0 : 0 < a) (ha : a < 2 ^ 63) (h0 : 0 < b) (hb : b < 2 ^ 63) (p : Int32) : ∃ r, fX11_term (-lN a) (lN b) p = some r ∧ fX12_lowest (-lN a) (lN b) p = some r := by
  unfold fX11_term fX11_term_b17 fX11_term_b36 fX12_lowest fX12_lowest_b23
  rw [x_divisorN ha0 ha hb, m_divisorN ha0 ha hb]
  simp only [bindS]
  by_cases hp : p = 0
  · simp only [if_pos hp, if_neg (gcd_ne (x := a) h0 hb), if_pos (gcd_ne (x := a) h0 hb)]
    exact ⟨_, rfl, rfl⟩
  · simp only [if_neg hp, if_neg (gcd_ne (x := a) h0 hb), if_pos (gcd_ne (x := a) h0 hb)]
    exact ⟨_, rfl, rfl⟩
