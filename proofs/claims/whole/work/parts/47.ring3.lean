/-! ===== ring ===== -/
theorem smN_posE {f : Nat → Nat} : ∀ {n : Nat}, 0 < smN f n → ∃ k, k < n ∧ 0 < f k
  | 0, h => absurd h (Nat.lt_irrefl 0)
  | n + 1, h => by
    by_cases e : 0 < f n
    · exact ⟨n, Nat.lt_succ_self n, e⟩
    · have h' : 0 < smN f n + f n := h
      obtain ⟨k, k1, k2⟩ := smN_posE (f := f) (n := n) (by omega)
      exact ⟨k, by omega, k2⟩
theorem gG_a (σ : SX) (g : RgT) : gx_nm_sizeOff (xG σ g) = gx_nm_sizeOff σ := rfl
theorem gG_b (σ : SX) (g : RgT) : gx_nm_clothRight (xG σ g) = gx_nm_clothRight σ := rfl
theorem gG_c (σ : SX) (g : RgT) : gx_nm_giggleRight (xG σ g) = gx_nm_giggleRight σ := rfl
theorem gG_d (σ : SX) (g : RgT) : gx_tp_standsDone (xG σ g) = gx_tp_standsDone σ := rfl
theorem gG_e (σ : SX) (g : RgT) : gx_tp_ringsRead (xG σ g) = gx_tp_ringsRead σ := rfl
theorem x_readFrom {σ : SX} {pg : Nat → Nat} {L : Nat} (h45 : L ≤ 45) (hL : gx_pg_length σ = nI L) (hp : ∀ i, i < L → pg i < 127 ∧ gx_pg_signs σ i = nI (pg i)) {q : RdS} (hq : rdS pg L = some q) (h0 : 0 < q.1) (hc : q.2.1 = q.2.2.1) : ∃ K Rr Cc, (∀ k, k < (q.1 + 1) * q.2.2.1 → K k = nI (q.2.2.2 k) ∧ Rr k = nI (k / q.2.2.1) ∧ Cc k = nI (k % q.2.2.1)) ∧ fX7_readFrom σ = some (xG σ (K, Rr, Cc, laid (bsF (q.1 + 1) q.2.2.1) (gx_rg_beside σ) 144, nI ((q.1 + 1) * q.2.2.1), nI (smN (fun c => if q.2.2.2 c < 2 then 1 else 0) ((q.1 + 1) * q.2.2.1)))) := by
  have hI := rdS_I hq
  obtain ⟨i1, i2, i3, i4, i5, i6⟩ := hI
  have hw := i5 h0
  have en : q.1 * q.2.2.1 + q.2.1 = (q.1 + 1) * q.2.2.1 := by rw [hc, Nat.succ_mul]
  obtain ⟨K, Rr, Cc, j1, j2⟩ := x_fromL h45 hL hp hq (gx_rg_beside σ) L 0 (999 - L) (0, 0, 0, fun _ => 0) (gx_rg_kinds σ) (gx_rg_rows σ) (gx_rg_columns σ) (Nat.zero_add L) rfl (fun k hk => absurd (show k < 0 from Nat.lt_of_lt_of_eq hk rfl) (Nat.not_lt_zero k))
  rw [show 999 - L + L + 1 = 1000 by omega] at j2
  have hJ : ∀ k, k < (q.1 + 1) * q.2.2.1 → K k = nI (q.2.2.2 k) ∧ Rr k = nI (k / q.2.2.1) ∧ Cc k = nI (k % q.2.2.1) := fun k hk => by
    have := j1 k (by rw [en]; exact hk)
    rw [if_neg (by omega), if_neg (by omega)] at this
    exact this
  refine ⟨K, Rr, Cc, hJ, ?_⟩
  refine Eq.trans (show fX7_readFrom σ = _ from rfl) (j2.trans ?_)
  rw [en, show nI q.2.1 = nI q.2.2.1 by rw [hc], x_findBeside (R := q.1 + 1) (C := q.2.2.1) (by omega) (by omega) hw.1 i3 (by rw [gG_5]) (fun c h => ⟨by rw [gG_2]; exact (hJ c h).2.1, by rw [gG_3]; exact (hJ c h).2.2⟩), xG_4, gG_4]
