/-! ===== an update: what is left, by its greatest divisor ===== -/
theorem x_aboveG {σ : SX} {w : Nat → Nat} (h : ∀ k, k < 144 → w k < 2 ^ 63 ∧ gx_od_weights σ k = lN (w k)) : fX4_aboveNought σ = some (nI (abN w 144)) := by
  unfold fX4_aboveNought
  have := lp_go (fun n (p : Int32 × Int32) => fX4_aboveNought_l13 σ n p.1 p.2) (fun i => (nI (abN w i), nI i)) 144 (fun i n hi => by
    show fX4_aboveNought_b13 σ _ _ _ = _
    unfold fX4_aboveNought_b13 fX4_aboveNought_b38
    have hw := (h i hi).1
    rw [if_pos (show nI i < (144 : Int32) from ltE i 144 hi (by omega)), if_pos (inb hi (by omega)), cl_nI (by omega), nI_1, (h i hi).2]
    show _ = fX4_aboveNought_l13 σ n (nI (abN w i + if 0 < w i then 1 else 0)) (nI (i + 1))
    by_cases h0 : 0 < w i
    · rw [if_pos (show (0 : Int64) < lN (w i) from (pk_lLT (a := 0) (by decide) (by omega)).mpr h0), if_pos h0, nI_1]
    · rw [if_neg (show ¬ (0 : Int64) < lN (w i) from fun q => h0 ((pk_lLT (a := 0) (by decide) (by omega)).mp q)), if_neg h0]
      show fX4_aboveNought_l13 σ n (nI _ + nI 0) (nI i + 1) = _
      rw [nI_add, nI_1]) 856
  refine this.trans ?_
  show fX4_aboveNought_b13 σ _ _ _ = _
  unfold fX4_aboveNought_b13
  rw [if_neg (show ¬ nI 144 < (144 : Int32) by decide)]
theorem m_aboveG {μ : SM} {w : Nat → Nat} (h : ∀ k, k < 144 → w k < 2 ^ 63 ∧ gm_od_weight μ k = lN (w k)) : fX12_above μ = some (nI (abN w 144)) := by
  unfold fX12_above
  have := lp_go (fun n (p : Int32 × Int32) => fX12_above_l4 μ n p.1 p.2) (fun i => (nI (abN w i), nI i)) 144 (fun i n hi => by
    show fX12_above_b4 μ _ _ _ = _
    unfold fX12_above_b4 fX12_above_b28
    have hw := (h i hi).1
    rw [if_pos (show nI i < (144 : Int32) from ltE i 144 hi (by omega)), if_pos (inb hi (by omega)), cl_nI (by omega), nI_1, (h i hi).2]
    show _ = fX12_above_l4 μ n (nI (abN w i + if 0 < w i then 1 else 0)) (nI (i + 1))
    by_cases h0 : 0 < w i
    · rw [if_pos (show (0 : Int64) < lN (w i) from (pk_lLT (a := 0) (by decide) (by omega)).mpr h0), if_pos h0, nI_1]
    · rw [if_neg (show ¬ (0 : Int64) < lN (w i) from fun q => h0 ((pk_lLT (a := 0) (by decide) (by omega)).mp q)), if_neg h0]
      show fX12_above_l4 μ n (nI _ + nI 0) (nI i + 1) = _
      rw [nI_add, nI_1]) 856
  refine this.trans ?_
  show fX12_above_b4 μ _ _ _ = _
  unfold fX12_above_b4
  rw [if_neg (show ¬ nI 144 < (144 : Int32) by decide)]
/-- the greatest divisor of the first n -/
def gcN (o : Nat → Nat) : Nat → Nat
  | 0 => 0
  | n + 1 => Nat.gcd (gcN o n) (o n)
theorem gcN_lt {o : Nat → Nat} : ∀ {n : Nat}, (∀ k, k < n → o k < 2 ^ 63) → gcN o n < 2 ^ 63
  | 0, _ => by show (0 : Nat) < 2 ^ 63; decide
  | n + 1, h => by
    show Nat.gcd (gcN o n) (o n) < 2 ^ 63
    by_cases z : o n = 0
    · rw [z, Nat.gcd_zero_right]; exact gcN_lt (fun k hk => h k (by omega))
    · exact Nat.lt_of_le_of_lt (Nat.gcd_le_right _ (by omega)) (h n (by omega))
theorem gcN_1 {o : Nat → Nat} {i : Nat} (h : gcN o i = 1) : ∀ k, gcN o (i + k) = 1
  | 0 => h
  | k + 1 => by show Nat.gcd (gcN o (i + k)) (o (i + k)) = 1; rw [gcN_1 h k, Nat.gcd_one_left]
theorem gcN_0 {o : Nat → Nat} : ∀ {n : Nat}, gcN o n = 0 ↔ ∀ k, k < n → o k = 0
  | 0 => ⟨fun _ k hk => absurd hk (Nat.not_lt_zero k), fun _ => rfl⟩
  | n + 1 => by
    show Nat.gcd (gcN o n) (o n) = 0 ↔ _
    rw [Nat.gcd_eq_zero_iff, gcN_0]
    constructor
    · intro ⟨a, b⟩ k hk
      by_cases e : k = n
      · rw [e]; exact b
      · exact a k (by omega)
    · intro h
      exact ⟨fun k hk => h k (by omega), h n (by omega)⟩
theorem m_take {μ : SM} {o : Nat → Nat} (h : ∀ k, k < 144 → o k < 2 ^ 63 ∧ gm_od_then μ k = lN (o k)) : fX12_take μ = if gcN o 144 = 0 then some (-1, μ) else some (nI (abN (fun k => o k / gcN o 144) 144), sm_od_updates (sm_od_weight μ (laid (fun k => lN (o k / gcN o 144)) (gm_od_weight μ) 144)) (gm_od_updates μ + 1)) := by
  have hg := gcN_lt (o := o) (n := 144) (fun k hk => (h k hk).1)
  unfold fX12_take
  have L1 := lp_go (fun n (p : Int64 × Int32) => fX12_take_l4 n μ p.1 p.2) (fun i => (lN (gcN o i), nI i)) 144 (fun i n hi => by
    show fX12_take_b4 _ _ _ _ = fX12_take_l4 n μ (lN (Nat.gcd (gcN o i) (o i))) (nI (i + 1))
    unfold fX12_take_b4
    rw [if_pos (show nI i < (144 : Int32) from ltE i 144 hi (by omega)), if_pos (inb hi (by omega)), cl_nI (by omega), (h i hi).2, m_divisor (gcN_lt (fun k hk => (h k (by omega)).1)) (h i hi).1, bindS, nI_1]) 856
  refine L1.trans ?_
  show fX12_take_b4 _ _ _ _ = _
  unfold fX12_take_b4
  rw [if_neg (show ¬ nI 144 < (144 : Int32) by decide)]
  by_cases z : gcN o 144 = 0
  · rw [if_pos z, if_pos (by rw [z]; rfl)]
  · have hz : ¬ lN (gcN o 144) = 0 := fun q => by
      have := (pk_lLT (a := 0) (b := gcN o 144) (by decide) hg).mpr (by omega)
      rw [q] at this
      exact absurd this (by decide)
    rw [if_neg z, if_neg hz]
    have L2 := lp_go (fun n (p : SM × Int32) => fX12_take_l38 n p.1 (lN (gcN o 144)) p.2) (fun i => (sm_od_weight μ (laid (fun k => lN (o k / gcN o 144)) (gm_od_weight μ) i), nI i)) 144 (fun i n hi => by
      show fX12_take_b38 _ (sm_od_weight μ _) _ _ = fX12_take_l38 n (sm_od_weight μ _) _ (nI (i + 1))
      unfold fX12_take_b38
      rw [if_pos (show nI i < (144 : Int32) from ltE i 144 hi (by omega)), if_pos (inb hi (by omega)), if_pos hz, if_pos (inb hi (by omega)), cl_nI (by omega), nI_1, pm_od_then_od_weight, (h i hi).2, pk_lDiv (h i hi).1 (by omega) hg, ← laid_L]
      rfl) 856
    rw [laid_0] at L2
    refine Eq.trans (show fX12_take_l38 1000 μ _ 0 = _ from rfl) (L2.trans ?_)
    show fX12_take_b38 _ _ _ _ = _
    unfold fX12_take_b38
    rw [if_neg (show ¬ nI 144 < (144 : Int32) by decide), m_aboveG (w := fun k => o k / gcN o 144) (fun k hk => ⟨Nat.lt_of_le_of_lt (Nat.div_le_self _ _) (h k hk).1, by rw [pm_od_weight_od_updates, pm_od_weight_od_weight]; exact laid_in hk⟩), bindS, pm_od_updates_od_weight]
