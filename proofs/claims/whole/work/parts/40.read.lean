/-! ===== reading the page ===== -/
/-- which kind of cell a letter tells -/
def srt (c : Nat) : Option Nat := if c = 46 then some 0 else if c = 98 then some 1 else if c = 112 then some 2 else if c = 120 then some 3 else none
theorem srt_lt {c s : Nat} (h : srt c = some s) : s < 4 := by
  unfold srt at h
  split at h
  · cases h; omega
  split at h
  · cases h; omega
  split at h
  · cases h; omega
  split at h
  · cases h; omega
  · cases h
theorem x_idx : ∀ c : Nat, c < 127 → fJ0_indexOf1 (nI c) = some (oI (srt c)) := by decide +kernel
theorem m_idx : ∀ c : Nat, c < 127 → fX12_sortOf (nI c) = some (oI (srt c)) := by decide +kernel
abbrev RdS : Type := Nat × Nat × Nat × (Nat → Nat)
def updN' (f : Nat → Nat) (k x : Nat) : Nat → Nat := fun j => if j = k then x else f j
/-- one letter: rows ended, columns of this row, width, cells -/
def stp (ch : Nat) (q : RdS) : Option RdS := match srt ch with
  | some s => if q.2.1 < (if q.1 = 0 then 6 else q.2.2.1) then some (q.1, q.2.1 + 1, q.2.2.1, updN' q.2.2.2 (q.1 * q.2.2.1 + q.2.1) s) else none
  | none => if ch = 47 ∧ q.1 < 5 ∧ (if q.1 = 0 then 2 ≤ q.2.1 else q.2.1 = q.2.2.1) then some (q.1 + 1, 0, q.2.1, q.2.2.2) else none
def rdS (pg : Nat → Nat) : Nat → Option RdS
  | 0 => some (0, 0, 0, fun _ => 0)
  | i + 1 => (rdS pg i).bind (stp (pg i))
def rdI (q : RdS) : Prop := q.1 ≤ 5 ∧ q.2.1 ≤ 6 ∧ q.2.2.1 ≤ 6 ∧ (q.1 = 0 → q.2.2.1 = 0) ∧ (0 < q.1 → 2 ≤ q.2.2.1 ∧ q.2.1 ≤ q.2.2.1) ∧ ∀ k, k < q.1 * q.2.2.1 + q.2.1 → q.2.2.2 k < 4
theorem rd_36 {q : RdS} (h : rdI q) (hc : q.2.1 < (if q.1 = 0 then 6 else q.2.2.1)) : q.1 * q.2.2.1 + q.2.1 < 36 := by
  obtain ⟨h1, h2, h3, h4, h5, -⟩ := h
  by_cases e : q.1 = 0
  · rw [e, if_pos rfl] at hc
    rw [e]
    omega
  · rw [if_neg e] at hc
    have : q.1 * q.2.2.1 ≤ 5 * 6 := Nat.mul_le_mul h1 h3
    omega
theorem stp_I {ch : Nat} {q q' : RdS} (h : rdI q) (hs : stp ch q = some q') : rdI q' := by
  obtain ⟨h1, h2, h3, h4, h5, h6⟩ := h
  cases hq : srt ch with
  | some s =>
    have hs' : (if q.2.1 < (if q.1 = 0 then 6 else q.2.2.1) then some (q.1, q.2.1 + 1, q.2.2.1, updN' q.2.2.2 (q.1 * q.2.2.1 + q.2.1) s) else none) = some q' := by
      rw [← hs]; unfold stp; rw [hq]
    by_cases hc : q.2.1 < (if q.1 = 0 then 6 else q.2.2.1)
    · rw [if_pos hc] at hs'
      cases hs'
      refine ⟨h1, ?_, h3, h4, fun z => ⟨(h5 z).1, ?_⟩, fun k hk => ?_⟩
      · show q.2.1 + 1 ≤ 6
        by_cases e : q.1 = 0
        · rw [if_pos e] at hc; omega
        · rw [if_neg e] at hc; omega
      · show q.2.1 + 1 ≤ q.2.2.1
        have z' : 0 < q.1 := z
        rw [if_neg (by omega)] at hc
        omega
      · show updN' q.2.2.2 (q.1 * q.2.2.1 + q.2.1) s k < 4
        unfold updN'
        by_cases e : k = q.1 * q.2.2.1 + q.2.1
        · rw [if_pos e]; exact srt_lt hq
        · rw [if_neg e]
          have : k < q.1 * q.2.2.1 + (q.2.1 + 1) := hk
          exact h6 k (by omega)
    · rw [if_neg hc] at hs'; cases hs'
  | none =>
    have hs' : (if ch = 47 ∧ q.1 < 5 ∧ (if q.1 = 0 then 2 ≤ q.2.1 else q.2.1 = q.2.2.1) then some (q.1 + 1, 0, q.2.1, q.2.2.2) else none) = some q' := by
      rw [← hs]; unfold stp; rw [hq]
    by_cases hc : ch = 47 ∧ q.1 < 5 ∧ (if q.1 = 0 then 2 ≤ q.2.1 else q.2.1 = q.2.2.1)
    · rw [if_pos hc] at hs'
      cases hs'
      obtain ⟨c1, c2, c3⟩ := hc
      refine ⟨c2, Nat.zero_le _, h2, fun z => absurd z (Nat.succ_ne_zero _), fun _ => ⟨?_, Nat.zero_le _⟩, fun k hk => ?_⟩
      · show 2 ≤ q.2.1
        by_cases e : q.1 = 0
        · rw [if_pos e] at c3; exact c3
        · rw [if_neg e] at c3
          have := (h5 (by omega)).1
          omega
      · have hk' : k < (q.1 + 1) * q.2.1 + 0 := hk
        refine h6 k ?_
        by_cases e : q.1 = 0
        · rw [e] at hk' ⊢; omega
        · rw [if_neg e] at c3
          rw [c3] at hk' ⊢
          rw [Nat.succ_mul] at hk'
          omega
    · rw [if_neg hc] at hs'; cases hs'
def xS (σ : SX) (q : RdS) : SX := sx_pg_row (sx_pg_column (sx_pg_width σ (nI q.2.2.1)) (nI q.2.1)) (nI q.1)
def mS (μ : SM) (q : RdS) (f : Nat → Int32) : SM := sm_rp_newCell (sm_rp_newRows (sm_rp_newColumns μ (nI q.2.2.1)) (nI q.1)) f
theorem x_kindAt {σ : SX} {p c : Nat} (hp : p < 45) (hc : c < 127) (h : gx_pg_signs σ p = nI c) : fX5_kindAt σ (nI p) = some (oI (srt c)) := by
  unfold fX5_kindAt fX5_kindAt_b28
  rw [if_neg (nI_pos (by omega)), if_pos (show nI p < (45 : Int32) from ltE p 45 hp (by omega)), if_pos (inb hp (by omega)), cl_nI (by omega), h, x_idx c hc, bindS]
theorem oI_m1 {s : Nat} (h : s < 100) : ¬ oI (some s) = -1 := by
  intro q
  have := congrArg (fun x : Int32 => decide (x < 0)) q
  rw [show decide (oI (some s) < 0) = false from decide_eq_false (nI_pos (by omega))] at this
  exact absurd this (by decide)
/-- one letter, the class -/
theorem x_one {σ : SX} {k : SX → Int32 → Option (Int32 × SX)} {L i ch : Nat} {q : RdS} (hI : rdI q) (hL : gx_pg_length σ = nI L) (hi : i < L) (h45 : L ≤ 45) (hc : ch < 127) (hs : gx_pg_signs σ i = nI ch) :
    fX5_readOn_b17 k (xS σ q) (nI i) = match stp ch q with
      | some q' => k (xS σ q') (nI (i + 1))
      | none => some (nI i, xS σ q) := by
  obtain ⟨r, c, wd, ce⟩ := q
  obtain ⟨h1, h2, h3, h4, h5, h6⟩ := hI
  simp only at h1 h2 h3 h4 h5 h6
  have a1 : gx_pg_length (xS σ (r, c, wd, ce)) = nI L := hL
  have a2 : gx_pg_signs (xS σ (r, c, wd, ce)) i = nI ch := hs
  have a3 : gx_pg_row (xS σ (r, c, wd, ce)) = nI r := rfl
  have a4 : gx_pg_column (xS σ (r, c, wd, ce)) = nI c := rfl
  have a5 : gx_pg_width (xS σ (r, c, wd, ce)) = nI wd := rfl
  unfold fX5_readOn_b17 fX5_readOn_b109 fX5_readOn_b112 fX5_readOn_b124
  rw [a1, if_pos (ltE i L hi (by omega)), if_pos (show nI i < (45 : Int32) from ltE i 45 (by omega) (by omega)), if_pos (inb (show i < 45 by omega) (by omega)), cl_nI (by omega), a2, a3, a4, a5, nI_1, nI_1, nI_1, x_kindAt (by omega) hc a2, bindS]
  by_cases e : ch = 47
  · subst e
    rw [if_pos (show nI 47 = 47 from rfl), show stp 47 (r, c, wd, ce) = if 47 = 47 ∧ r < 5 ∧ (if r = 0 then 2 ≤ c else c = wd) then some (r + 1, 0, c, ce) else none from rfl]
    unfold fX5_mayEndRow fX5_mayEndRow_b41 fX5_mayEndRow_b37 fX5_mayEndRow_b42
    rw [a3, a4, a5]
    by_cases r5 : r < 5
    · rw [if_pos (show nI r < (5 : Int32) from ltE r 5 r5 (by omega))]
      by_cases r0 : r = 0
      · subst r0
        rw [if_pos (show nI 0 = 0 from rfl)]
        by_cases c2 : 2 ≤ c
        · rw [if_neg (show ¬ nI c < (2 : Int32) from nltE c 2 c2 (by omega)), if_pos (Or.inr rfl), bindS, if_neg (by decide), if_pos ⟨rfl, r5, by rw [if_pos rfl]; exact c2⟩]
          rfl
        · rw [if_pos (show nI c < (2 : Int32) from ltE c 2 (by omega) (by omega)), if_pos (Or.inl rfl), bindS, if_pos rfl, if_neg (fun z => c2 (by have := z.2.2; rwa [if_pos rfl] at this))]
      · rw [if_neg (show ¬ nI r = 0 from neE r 0 r0 (by omega) (by decide))]
        by_cases cw : c = wd
        · rw [if_pos (by rw [cw]), if_pos (Or.inr rfl), bindS, if_neg (by decide), if_pos ⟨rfl, r5, by rw [if_neg r0]; exact cw⟩]
          rfl
        · rw [if_neg (neE c wd cw (by omega) (by omega)), if_pos (Or.inl rfl), bindS, if_pos rfl, if_neg (fun z => cw (by have := z.2.2; rwa [if_neg r0] at this))]
    · rw [if_neg (show ¬ nI r < (5 : Int32) from nltE r 5 (by omega) (by omega)), if_pos (Or.inl rfl), bindS, if_pos rfl, if_neg (fun z => r5 z.2.1)]
  · rw [if_neg (show ¬ nI ch = (47 : Int32) from neE ch 47 e (by omega) (by omega))]
    unfold stp
    cases hq : srt ch with
    | none =>
      rw [if_pos (show oI none = -1 from rfl)]
      simp only []
      rw [if_neg (fun z => e z.1)]
    | some s =>
      rw [if_neg (oI_m1 (by have := srt_lt hq; omega))]
      simp only []
      by_cases r0 : r = 0
      · subst r0
        rw [if_pos (show nI 0 = 0 from rfl), if_pos rfl]
        by_cases c6 : c < 6
        · rw [if_pos (show nI c < (6 : Int32) from ltE c 6 c6 (by omega)), if_pos c6]
          rfl
        · rw [if_neg (show ¬ nI c < (6 : Int32) from nltE c 6 (by omega) (by omega)), if_neg c6]
      · rw [if_neg (show ¬ nI r = 0 from neE r 0 r0 (by omega) (by decide)), if_neg r0]
        by_cases c6 : c < wd
        · rw [if_pos (ltE c wd c6 (by omega)), if_pos c6]
          rfl
        · rw [if_neg (nltE c wd (by omega) (by omega)), if_neg c6]
