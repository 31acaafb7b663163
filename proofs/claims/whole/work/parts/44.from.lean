/-! ===== the ring out of a whole page ===== -/
abbrev RgT : Type := (Nat → Int32) × (Nat → Int32) × (Nat → Int32) × (Nat → Int32) × Int32 × Int32
def xG (σ : SX) (g : RgT) : SX := (σ.1, g, σ.2.2)
theorem xG_id (σ : SX) : xG σ (gx_rg_kinds σ, gx_rg_rows σ, gx_rg_columns σ, gx_rg_beside σ, gx_rg_size σ, gx_rg_free σ) = σ := rfl
theorem xG_1 (σ : SX) (g : RgT) (v : Nat → Int32) : sx_rg_kinds (xG σ g) v = xG σ (v, g.2) := rfl
theorem xG_2 (σ : SX) (g : RgT) (v : Nat → Int32) : sx_rg_rows (xG σ g) v = xG σ (g.1, v, g.2.2) := rfl
theorem xG_3 (σ : SX) (g : RgT) (v : Nat → Int32) : sx_rg_columns (xG σ g) v = xG σ (g.1, g.2.1, v, g.2.2.2) := rfl
theorem xG_4 (σ : SX) (g : RgT) (v : Nat → Int32) : sx_rg_beside (xG σ g) v = xG σ (g.1, g.2.1, g.2.2.1, v, g.2.2.2.2) := rfl
theorem xG_5 (σ : SX) (g : RgT) (v : Int32) : sx_rg_size (xG σ g) v = xG σ (g.1, g.2.1, g.2.2.1, g.2.2.2.1, v, g.2.2.2.2.2) := rfl
theorem xG_6 (σ : SX) (g : RgT) (v : Int32) : sx_rg_free (xG σ g) v = xG σ (g.1, g.2.1, g.2.2.1, g.2.2.2.1, g.2.2.2.2.1, v) := rfl
theorem gG_1 (σ : SX) (g : RgT) : gx_rg_kinds (xG σ g) = g.1 := rfl
theorem gG_2 (σ : SX) (g : RgT) : gx_rg_rows (xG σ g) = g.2.1 := rfl
theorem gG_3 (σ : SX) (g : RgT) : gx_rg_columns (xG σ g) = g.2.2.1 := rfl
theorem gG_4 (σ : SX) (g : RgT) : gx_rg_beside (xG σ g) = g.2.2.2.1 := rfl
theorem gG_5 (σ : SX) (g : RgT) : gx_rg_size (xG σ g) = g.2.2.2.2.1 := rfl
theorem gG_6 (σ : SX) (g : RgT) : gx_rg_free (xG σ g) = g.2.2.2.2.2 := rfl
theorem gG_7 (σ : SX) (g : RgT) : gx_pg_length (xG σ g) = gx_pg_length σ := rfl
theorem gG_8 (σ : SX) (g : RgT) : gx_pg_signs (xG σ g) = gx_pg_signs σ := rfl
theorem x_put (σ : SX) (K Rr Cc B : Nat → Int32) {s fr kd r c : Nat} (hs : s < 36) (hk : kd < 4) : fX7_put (xG σ (K, Rr, Cc, B, nI s, nI fr)) (nI kd) (nI r) (nI c) = some (xG σ (upd K s (nI kd), upd Rr s (nI r), upd Cc s (nI c), B, nI (s + 1), nI (fr + if kd < 2 then 1 else 0))) := by
  unfold fX7_put fX7_put_b66 fX7_put_b71 fX7_put_b75
  simp only [xG_1, xG_2, xG_3, xG_5, xG_6, gG_1, gG_2, gG_3, gG_5, gG_6]
  simp only [if_pos (show nI s < (36 : Int32) from ltE s 36 hs (by omega)), cl_nI (show s < 2 ^ 31 by omega), if_pos (inbN hs (show s < 2 ^ 31 by omega)), nI_lit1, nI_add0]
  rcases (by omega : kd = 0 ∨ kd = 1 ∨ kd = 2 ∨ kd = 3) with rfl | rfl | rfl | rfl
  · rfl
  · rfl
  · rfl
  · rfl
theorem rdS_some {pg : Nat → Nat} {i : Nat} : ∀ {k : Nat} {q : RdS}, rdS pg (i + k) = some q → ∃ q', rdS pg i = some q'
  | 0, q, h => ⟨q, h⟩
  | k + 1, q, h => by
    have h' : (rdS pg (i + k)).bind (stp (pg (i + k))) = some q := h
    cases e : rdS pg (i + k) with
    | none => rw [e] at h'; cases h'
    | some q2 => exact rdS_some e
theorem rdS_I {pg : Nat → Nat} : ∀ {i : Nat} {q : RdS}, rdS pg i = some q → rdI q
  | 0, q, h => by
    cases h
    exact ⟨Nat.zero_le _, Nat.zero_le _, Nat.zero_le _, fun _ => rfl, fun z => absurd z (Nat.lt_irrefl 0), fun k hk => absurd (show k < 0 from Nat.lt_of_lt_of_eq hk rfl) (Nat.not_lt_zero k)⟩
  | i + 1, q, h => by
    have h' : (rdS pg i).bind (stp (pg i)) = some q := h
    cases e : rdS pg i with
    | none => rw [e] at h'; cases h'
    | some q2 => rw [e] at h'; exact stp_I (rdS_I e) h'
def rgJ (q : RdS) (K Rr Cc : Nat → Int32) : Prop := ∀ k, k < q.1 * q.2.2.1 + q.2.1 → K k = nI (q.2.2.2 k) ∧ Rr k = nI (if q.1 = 0 then 0 else k / q.2.2.1) ∧ Cc k = nI (if q.1 = 0 then k else k % q.2.2.1)
theorem smN_put (ce : Nat → Nat) (n s : Nat) : smN (fun c => if updN' ce n s c < 2 then 1 else 0) (n + 1) = smN (fun c => if ce c < 2 then 1 else 0) n + if s < 2 then 1 else 0 := by
  show smN _ n + (if updN' ce n s n < 2 then 1 else 0) = _
  rw [show updN' ce n s n = s from if_pos rfl]
  congr 1
  apply smN_cong
  intro k hk
  show (if updN' ce n s k < 2 then 1 else 0) = _
  rw [show updN' ce n s k = ce k from if_neg (by omega)]
theorem x_fromL {σ : SX} {pg : Nat → Nat} {L : Nat} (h45 : L ≤ 45) (hL : gx_pg_length σ = nI L) (hp : ∀ i, i < L → pg i < 127 ∧ gx_pg_signs σ i = nI (pg i)) {qL : RdS} (hq : rdS pg L = some qL) (B : Nat → Int32) : ∀ (d i n : Nat) (q : RdS) (K Rr Cc : Nat → Int32), i + d = L → rdS pg i = some q → rgJ q K Rr Cc →
    ∃ K' Rr' Cc', rgJ qL K' Rr' Cc' ∧ fX7_readFrom_l17 (n + d + 1) (xG σ (K, Rr, Cc, B, nI (q.1 * q.2.2.1 + q.2.1), nI (smN (fun c => if q.2.2.2 c < 2 then 1 else 0) (q.1 * q.2.2.1 + q.2.1)))) (nI q.1) (nI q.2.1) (nI i) = fX7_findBeside (xG σ (K', Rr', Cc', B, nI (qL.1 * qL.2.2.1 + qL.2.1), nI (smN (fun c => if qL.2.2.2 c < 2 then 1 else 0) (qL.1 * qL.2.2.1 + qL.2.1)))) (nI (qL.1 + 1)) (nI qL.2.1)
  | 0, i, n, q, K, Rr, Cc, hi, hqi, hJ => by
    obtain rfl : i = L := by omega
    rw [hq] at hqi
    cases hqi
    refine ⟨K, Rr, Cc, hJ, ?_⟩
    show fX7_readFrom_b17 _ _ _ _ _ = _
    unfold fX7_readFrom_b17
    rw [gG_7, hL, if_neg (nltE i i (Nat.le_refl _) (by omega)), nI_1]
    cases fX7_findBeside _ _ _ <;> rfl
  | d + 1, i, n, q, K, Rr, Cc, hi, hqi, hJ => by
    obtain ⟨p1, p2⟩ := hp i (by omega)
    have hI := rdS_I hqi
    have ex : ∀ s a b, fX7_readFrom_l17 (n + (d + 1) + 1) s a b (nI i) = fX7_readFrom_b17 (fX7_readFrom_l17 (n + d + 1)) s a b (nI i) := fun _ _ _ => rfl
    obtain ⟨q', hq'⟩ := rdS_some (i := i + 1) (k := d) (q := qL) (by rw [show i + 1 + d = L by omega]; exact hq)
    have hs : stp (pg i) q = some q' := by
      have h' : (rdS pg i).bind (stp (pg i)) = some q' := hq'
      rw [hqi] at h'
      exact h'
    rw [ex]
    unfold fX7_readFrom_b17 fX7_readFrom_b59
    rw [gG_7, hL, if_pos (ltE i L (by omega) (by omega)), x_kindAt (by omega) p1 (by rw [gG_8]; exact p2), bindS, nI_1, nI_1, nI_1]
    unfold stp at hs
    cases hr : srt (pg i) with
    | some s =>
      rw [hr] at hs
      simp only [] at hs
      by_cases hc : q.2.1 < (if q.1 = 0 then 6 else q.2.2.1)
      · rw [if_pos hc] at hs
        have h36 := rd_36 hI hc
        cases hs
        rw [if_neg (oI_m1 (by have := srt_lt hr; omega)), show oI (some s) = nI s from rfl, x_put σ K Rr Cc B h36 (srt_lt hr), bindS]
        have IH := x_fromL h45 hL hp hq B d (i + 1) n _ (upd K (q.1 * q.2.2.1 + q.2.1) (nI s)) (upd Rr (q.1 * q.2.2.1 + q.2.1) (nI q.1)) (upd Cc (q.1 * q.2.2.1 + q.2.1) (nI q.2.1)) (by omega) hq' (by
          intro k hk
          simp only [] at hk ⊢
          unfold updN'
          by_cases e : k = q.1 * q.2.2.1 + q.2.1
          · rw [e, updS, updS, updS, if_pos rfl]
            refine ⟨rfl, ?_, ?_⟩
            · by_cases r0 : q.1 = 0
              · rw [if_pos r0, r0]
              · rw [if_neg r0] at hc ⊢
                rw [Nat.mul_comm, Nat.mul_add_div (by omega), Nat.div_eq_of_lt hc, Nat.add_zero]
            · by_cases r0 : q.1 = 0
              · rw [if_pos r0, r0, Nat.zero_mul, Nat.zero_add]
              · rw [if_neg r0] at hc ⊢
                rw [Nat.mul_comm, Nat.mul_add_mod, Nat.mod_eq_of_lt hc]
          · rw [updN e, updN e, updN e, if_neg e]
            exact hJ k (by omega))
        obtain ⟨K', Rr', Cc', j1, j2⟩ := IH
        refine ⟨K', Rr', Cc', j1, ?_⟩
        rw [← j2]
        simp only []
        have e1 : smN (fun c => if updN' q.2.2.2 (q.1 * q.2.2.1 + q.2.1) s c < 2 then 1 else 0) (q.1 * q.2.2.1 + (q.2.1 + 1)) = smN (fun c => if q.2.2.2 c < 2 then 1 else 0) (q.1 * q.2.2.1 + q.2.1) + if s < 2 then 1 else 0 := by
          exact smN_put _ _ _
        rw [e1]
        rfl
      · rw [if_neg hc] at hs; cases hs
    | none =>
      rw [hr] at hs
      simp only [] at hs
      by_cases hc : pg i = 47 ∧ q.1 < 5 ∧ (if q.1 = 0 then 2 ≤ q.2.1 else q.2.1 = q.2.2.1)
      · rw [if_pos hc] at hs
        cases hs
        rw [if_pos (show oI none = -1 from rfl)]
        obtain ⟨-, -, c3⟩ := hc
        have e1 : (q.1 + 1) * q.2.1 + 0 = q.1 * q.2.2.1 + q.2.1 := by
          by_cases r0 : q.1 = 0
          · rw [r0]; omega
          · rw [if_neg r0] at c3
            rw [c3, Nat.succ_mul]; rfl
        have IH := x_fromL h45 hL hp hq B d (i + 1) n _ K Rr Cc (by omega) hq' (by
          intro k hk
          simp only [] at hk ⊢
          rw [e1] at hk
          obtain ⟨a, b, c⟩ := hJ k hk
          refine ⟨a, ?_, ?_⟩
          · rw [b, if_neg (Nat.succ_ne_zero _)]
            by_cases r0 : q.1 = 0
            · rw [if_pos r0, Nat.div_eq_of_lt (by rw [r0] at hk; omega)]
            · rw [if_neg r0] at c3 ⊢
              rw [c3]
          · rw [c, if_neg (Nat.succ_ne_zero _)]
            by_cases r0 : q.1 = 0
            · rw [if_pos r0, Nat.mod_eq_of_lt (by rw [r0] at hk; omega)]
            · rw [if_neg r0] at c3 ⊢
              rw [c3])
        obtain ⟨K', Rr', Cc', j1, j2⟩ := IH
        refine ⟨K', Rr', Cc', j1, ?_⟩
        rw [← j2]
        simp only []
        rw [e1]
        rfl
      · rw [if_neg hc] at hs; cases hs
