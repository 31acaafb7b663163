theorem and3s : ∀ s : Nat, s < 4 → nI s &&& (3 : Int32) = nI s := by decide +kernel
theorem x_narrowL {σ : SX} {o : Nat → Nat} {s : Nat} (hs : s < 4) (h : ∀ k, k < 144 → o k < 2 ^ 63 ∧ gx_od_outs σ s k = lN (o k)) : ∀ (d i n : Nat), i + d = 144 → fX4_narrowTo_l14 (n + d + 1) σ s (lN (gcN o i)) (nI i) = fX4_narrowTo_b42 σ s (lN (gcN o 144))
  | 0, i, n, hi => by
    obtain rfl : i = 144 := by omega
    show fX4_narrowTo_b14 _ _ _ _ _ = _
    unfold fX4_narrowTo_b14
    rw [if_pos hs, if_neg (show ¬ nI 144 < (144 : Int32) by decide)]
  | d + 1, i, n, hi => by
    have hi' : i < 144 := by omega
    have hg := gcN_lt (o := o) (n := i) (fun k hk => (h k (by omega)).1)
    show fX4_narrowTo_b14 (fX4_narrowTo_l14 (n + d + 1)) _ _ _ _ = _
    unfold fX4_narrowTo_b14
    rw [if_pos hs, if_pos (show nI i < (144 : Int32) from ltE i 144 hi' (by omega))]
    by_cases e : gcN o i = 1
    · have := gcN_1 e (144 - i)
      rw [show i + (144 - i) = 144 by omega] at this
      rw [e, this, if_pos (show lN 1 = (1 : Int64) from rfl)]
    · have e1 : ¬ lN (gcN o i) = 1 := fun q => by
        rcases Nat.lt_or_gt_of_ne e with z | z
        · have := (pk_lLT (a := gcN o i) (b := 1) hg (by decide)).mpr z
          rw [q] at this
          exact absurd this (by decide)
        · have := (pk_lLT (a := 1) (b := gcN o i) (by decide) hg).mpr z
          rw [q] at this
          exact absurd this (by decide)
      rw [if_neg e1, if_pos hs, if_pos (inb hi' (by omega)), cl_nI (by omega), (h i hi').2, x_divisor (h i hi').1 hg, bindS, nI_1, Nat.gcd_comm]
      exact x_narrowL hs h d (i + 1) n (by omega)
theorem x_narrow {σ : SX} {o : Nat → Nat} {s : Nat} (hs : s < 4) (h : ∀ k, k < 144 → o k < 2 ^ 63 ∧ gx_od_outs σ s k = lN (o k)) : fX4_narrowTo σ (nI s) = if gcN o 144 = 0 then some (-103, σ) else some (nI (abN (fun k => o k / gcN o 144) 144), sx_od_updates (sx_od_weights σ (laid (fun k => lN (o k / gcN o 144)) (gx_od_weights σ) 144)) (gx_od_updates σ + 1)) := by
  have hg := gcN_lt (o := o) (n := 144) (fun k hk => (h k hk).1)
  unfold fX4_narrowTo
  rw [and3s s hs, if_pos (inb hs (by omega)), cl_nI (by omega)]
  refine Eq.trans (x_narrowL hs h 144 0 855 rfl) ?_
  unfold fX4_narrowTo_b42
  by_cases z : gcN o 144 = 0
  · rw [if_pos z, if_pos (by rw [z]; rfl)]
  · have hz : ¬ lN (gcN o 144) = 0 := fun q => by
      have := (pk_lLT (a := 0) (b := gcN o 144) (by decide) hg).mpr (by omega)
      rw [q] at this
      exact absurd this (by decide)
    rw [if_neg z, if_neg hz]
    have L2 := lp_go (fun n (p : SX × Int32) => fX4_narrowTo_l54 n p.1 s (lN (gcN o 144)) p.2) (fun i => (sx_od_weights σ (laid (fun k => lN (o k / gcN o 144)) (gx_od_weights σ) i), nI i)) 144 (fun i n hi => by
      show fX4_narrowTo_b54 _ (sx_od_weights σ _) _ _ _ = fX4_narrowTo_l54 n (sx_od_weights σ _) _ _ (nI (i + 1))
      unfold fX4_narrowTo_b54
      simp only [if_pos (show nI i < (144 : Int32) from ltE i 144 hi (by omega)), if_pos hs, if_pos hz]
      rw [if_pos (inb hi (by omega)), if_pos (inb hi (by omega)), cl_nI (by omega), nI_1, px_od_outs_od_weights, (h i hi).2, pk_lDiv (h i hi).1 (by omega) hg, ← laid_L]
      rfl) 856
    rw [laid_0] at L2
    refine Eq.trans (show fX4_narrowTo_l54 1000 σ s _ 0 = _ from rfl) (L2.trans ?_)
    show fX4_narrowTo_b54 _ _ _ _ _ = _
    unfold fX4_narrowTo_b54 fX4_narrowTo_b90
    rw [if_neg (show ¬ nI 144 < (144 : Int32) by decide), x_aboveG (w := fun k => o k / gcN o 144) (fun k hk => ⟨Nat.lt_of_le_of_lt (Nat.div_le_self _ _) (h k hk).1, by rw [px_od_weights_od_updates, px_od_weights_od_weights]; exact laid_in hk⟩), bindS, px_od_updates_od_weights]
