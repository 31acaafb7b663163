/-! ===== expected, next, post ===== -/
/-- the greatest of the cells below n -/
def mxN (o : Nat → Nat) : Nat → Nat
  | 0 => 0
  | n + 1 => if mxN o n < wC o n then wC o n else mxN o n
theorem mxN_le {o : Nat → Nat} : ∀ {n : Nat}, n ≤ 36 → mxN o n ≤ smN o 144
  | 0, _ => Nat.zero_le _
  | n + 1, h => by
    show (if mxN o n < wC o n then wC o n else mxN o n) ≤ _
    split
    · exact wC_le (by omega)
    · exact mxN_le (by omega)
theorem mxN_tail {o : Nat → Nat} {m n : Nat} (hm : m ≤ n) (h : ∀ c, m ≤ c → c < n → wC o c = 0) : mxN o n = mxN o m := by
  induction n with
  | zero => rw [Nat.le_zero.mp hm]
  | succ n ih =>
    rcases Nat.lt_or_ge m (n + 1) with q | q
    · show (if mxN o n < wC o n then wC o n else mxN o n) = _
      rw [h n (by omega) (by omega), if_neg (Nat.not_lt_zero _)]
      exact ih (by omega) (fun k h1 h2 => h k h1 (by omega))
    · rw [show m = n + 1 by omega]
theorem x_sumO {σ : SX} {o : Nat → Nat} {s c : Nat} (hs : s < 4) (hc : c < 36) (h : ∀ p, p < 144 → gx_od_outs σ s p = lN (o p)) : fX4_sumOfCell_o σ s (nI (c * 4)) = some (lN (wC o c)) := by
  unfold fX4_sumOfCell_o
  rw [nI_lit1, nI_lit2, nI_lit3, if_neg (nI_pos (by omega)), if_pos (show nI (c * 4 + 3) < (144 : Int32) from ltE _ 144 (by omega) (by omega))]
  simp only [if_pos hs]
  rw [if_pos (inb (by omega) (by omega)), if_pos (inb (by omega) (by omega)), if_pos (inb (by omega) (by omega)), if_pos (inb (by omega) (by omega)), cl_nI (by omega), cl_nI (by omega), cl_nI (by omega), cl_nI (by omega), h _ (by omega), h _ (by omega), h _ (by omega), h _ (by omega), lN_addE, lN_addE, lN_addE]
  rfl
theorem x_likeAll {σ : SX} {o : Nat → Nat → Nat} (h : ∀ s, s < 4 → ∀ p, p < 144 → gx_od_outs σ s p = lN (o s p)) (hb : ∀ s, s < 4 → smN (o s) 144 < 2 ^ 60) : fX4_likeliestOfAll σ = some (lN (smN (fun s => mxN (o s) 36) 4)) := by
  unfold fX4_likeliestOfAll
  have L := lp_go (fun n (p : Int64 × Int32) => fX4_likeliestOfAll_l4 σ n p.1 p.2) (fun i => (lN (smN (fun s => mxN (o s) 36) i), nI i)) 4 (fun s n hs => by
    show fX4_likeliestOfAll_b4 σ _ _ _ = fX4_likeliestOfAll_l4 σ n (lN (smN (fun s => mxN (o s) 36) s + mxN (o s) 36)) (nI (s + 1))
    unfold fX4_likeliestOfAll_b4
    rw [if_pos (show nI s < (4 : Int32) from ltE s 4 hs (by decide))]
    have L2 := lp_go (fun m (p : Int64 × Int32) => fX4_likeliestOfAll_l15 σ (fX4_likeliestOfAll_l4 σ n) m (lN (smN (fun s => mxN (o s) 36) s)) (nI s) p.1 p.2) (fun i => (lN (mxN (o s) i), nI (i * 4))) 36 (fun i m hi => by
      show fX4_likeliestOfAll_b15 σ _ _ _ _ _ _ = fX4_likeliestOfAll_l15 σ _ m _ _ (lN (if mxN (o s) i < wC (o s) i then wC (o s) i else mxN (o s) i)) (nI ((i + 1) * 4))
      unfold fX4_likeliestOfAll_b15
      have b1 := mxN_le (o := o s) (n := i) (by omega)
      have b2 := wC_le (w := o s) hi
      have b3 := hb s hs
      rw [if_pos (show nI (i * 4) < (144 : Int32) from ltE _ 144 (by omega) (by decide)), if_pos (inb hs (by decide)), cl_nI (by omega), x_sumO hs hi (h s hs), bindS, show nI (i * 4) + (4 : Int32) = nI ((i + 1) * 4) by rw [Nat.add_mul]; exact nI_add _ 4]
      by_cases e : wC (o s) i < mxN (o s) i
      · rw [if_pos ((pk_lLT (by omega) (by omega)).mpr e), if_neg (by omega)]
      · rw [if_neg (fun q => e ((pk_lLT (by omega) (by omega)).mp q))]
        by_cases e2 : mxN (o s) i < wC (o s) i
        · rw [if_pos e2]
        · rw [if_neg e2, show wC (o s) i = mxN (o s) i by omega]) 964
    refine L2.trans ?_
    show fX4_likeliestOfAll_b15 σ _ _ _ _ _ _ = _
    unfold fX4_likeliestOfAll_b15
    rw [if_neg (show ¬ nI (36 * 4) < (144 : Int32) by decide), lN_addE, nI_1]) 996
  refine L.trans ?_
  show fX4_likeliestOfAll_b4 σ _ _ _ = _
  unfold fX4_likeliestOfAll_b4
  rw [if_neg (show ¬ nI 4 < (4 : Int32) by decide)]
theorem m_greatest {μ : SM} {R C : Nat} {o : Nat → Nat} (hcl : fX12_cells μ = some (nI (R * C))) (h36 : R * C ≤ 36) (h : ∀ p, p < 144 → gm_od_then μ p = lN (o p)) (hb : smN o 144 < 2 ^ 60) : fX12_greatestThen μ = some (lN (mxN o (R * C))) := by
  unfold fX12_greatestThen
  have L := lp_go (fun n (p : Int64 × Int32) => fX12_greatestThen_l4 μ n p.1 p.2) (fun i => (lN (mxN o i), nI i)) (R * C) (fun i n hi => by
    show fX12_greatestThen_b4 μ _ _ _ = fX12_greatestThen_l4 μ n (lN (if mxN o i < wC o i then wC o i else mxN o i)) (nI (i + 1))
    unfold fX12_greatestThen_b4 fX12_greatestThen_b68
    have b1 := mxN_le (o := o) (n := i) (by omega)
    have b2 := wC_le (w := o) (c := i) (by omega)
    have hw : lN (o (i * 4)) + lN (o (i * 4 + 1)) + lN (o (i * 4 + 2)) + lN (o (i * 4 + 3)) = lN (wC o i) := by rw [lN_addE, lN_addE, lN_addE]; rfl
    rw [hcl, bindS, if_pos (ltE i _ hi (by omega)), nI_4mul, nI_lit1, nI_lit2, nI_lit3, if_pos (inb (by omega) (by omega)), if_pos (inb (by omega) (by omega)), if_pos (inb (by omega) (by omega)), if_pos (inb (by omega) (by omega)), cl_nI (by omega), cl_nI (by omega), cl_nI (by omega), cl_nI (by omega), h _ (by omega), h _ (by omega), h _ (by omega), h _ (by omega), hw, nI_1]
    by_cases e : mxN o i < wC o i
    · rw [if_pos ((pk_lLT (by omega) (by omega)).mpr e), if_pos e]
    · rw [if_neg (fun q => e ((pk_lLT (by omega) (by omega)).mp q)), if_neg e]) (1000 - R * C)
  rw [show 1000 - R * C + R * C = 1000 by omega] at L
  refine L.trans ?_
  rw [show 1000 - R * C = (999 - R * C) + 1 by omega]
  show fX12_greatestThen_b4 μ _ _ _ = _
  unfold fX12_greatestThen_b4
  rw [hcl, bindS, if_neg (nltE _ _ (Nat.le_refl _) (by omega))]
/-- what a doing may lead to -/
def trN (g : Nat) : Nat := if g = 1 then 3 else if g = 2 then 1 else 0
theorem trN_lt (g : Nat) : trN g < 4 := by unfold trN; split; decide; split <;> decide
def ouD (R C : Nat) (kn : Nat → Nat) (qo : Option Nat) (w : Nat → Nat) (g d f r s p : Nat) : Nat := if g = 3 then faN C f r s p * w p else ouN (tgS R C kn qo (trN g)) d w 144 s p
def exN (R C : Nat) (kn : Nat → Nat) (qo : Option Nat) (w : Nat → Nat) (g d f r : Nat) : Nat := smN (fun s => mxN (ouD R C kn qo w g d f r s) (R * C)) 4
theorem ouD_sum {R C : Nat} {kn : Nat → Nat} {qo : Option Nat} {w : Nat → Nat} {g d f r s : Nat} (hd : d ≤ 5) (hr : g = 3 → r ≤ 10) : smN (ouD R C kn qo w g d f r s) 144 ≤ 60 * smN w 144 := by
  by_cases e : g = 3
  · have : ouD R C kn qo w g d f r s = fun p => faN C f r s p * w p := by funext p; unfold ouD; rw [if_pos e]
    rw [this]
    exact fa_sum (hr e) 144
  · have : ouD R C kn qo w g d f r s = fun p => ouN (tgS R C kn qo (trN g)) d w 144 s p := by funext p; unfold ouD; rw [if_neg e]
    rw [this]
    have := ou_sum (tg := tgS R C kn qo (trN g)) (w := w) (n := 144) (s := s) (m := 144) hd
    omega
theorem ouD_0 {R C : Nat} {kn : Nat → Nat} {qo : Option Nat} {w : Nat → Nat} {g d f r s p : Nat} (h1 : R < 7) (h2 : C < 7) (h3 : 2 ≤ R) (h4 : 2 ≤ C) (hw : ∀ k, k < 144 → ¬ frC R C kn (k / 4) → w k = 0) (hp : p < 144) (hf : ¬ frC R C kn (p / 4)) : ouD R C kn qo w g d f r s p = 0 := by
  unfold ouD
  split
  · rw [hw p hp hf, Nat.mul_zero]
  · exact ou_S h1 h2 h3 h4 hw hf
theorem exN_36 {R C : Nat} {kn : Nat → Nat} {qo : Option Nat} {w : Nat → Nat} {g d f r : Nat} (h1 : R < 7) (h2 : C < 7) (h3 : 2 ≤ R) (h4 : 2 ≤ C) (hw : ∀ k, k < 144 → ¬ frC R C kn (k / 4) → w k = 0) : smN (fun s => mxN (ouD R C kn qo w g d f r s) 36) 4 = exN R C kn qo w g d f r := by
  have h36 : R * C ≤ 6 * 6 := Nat.mul_le_mul (by omega) (by omega)
  unfold exN
  refine smN_cong (fun s _ => mxN_tail (by omega) (fun c hc1 hc2 => ?_))
  have z : ∀ j, j < 4 → ouD R C kn qo w g d f r s (c * 4 + j) = 0 := fun j hj => ouD_0 h1 h2 h3 h4 hw (by omega) (fun q => by have := q.1; omega)
  unfold wC
  rw [show ouD R C kn qo w g d f r s (c * 4) = 0 from z 0 (by decide), z 1 (by decide), z 2 (by decide), z 3 (by decide)]
theorem exN_le {R C : Nat} {kn : Nat → Nat} {qo : Option Nat} {w : Nat → Nat} {g d f r : Nat} (h36 : R * C ≤ 36) (hd : d ≤ 5) (hr : g = 3 → r ≤ 10) : exN R C kn qo w g d f r ≤ 240 * smN w 144 := by
  have hs : ∀ s, mxN (ouD R C kn qo w g d f r s) (R * C) ≤ 60 * smN w 144 := fun s => Nat.le_trans (mxN_le h36) (ouD_sum hd hr)
  have a0 := hs 0
  have a1 := hs 1
  have a2 := hs 2
  have a3 := hs 3
  have e : exN R C kn qo w g d f r = 0 + mxN (ouD R C kn qo w g d f r 0) (R * C) + mxN (ouD R C kn qo w g d f r 1) (R * C) + mxN (ouD R C kn qo w g d f r 2) (R * C) + mxN (ouD R C kn qo w g d f r 3) (R * C) := rfl
  omega
theorem w7 {σ : SX} {μ : SM} {R C : Nat} {kn w : Nat → Nat} {u : Nat} (h : RelOd σ μ R C kn w u) (hu : u ≤ 7) : smN w 144 ≤ 144 * 60 ^ 7 := Nat.le_trans h.2.2.2.2.1 (Nat.mul_le_mul_left _ (Nat.pow_le_pow_right (by decide) hu))
theorem p60_7 : 144 * 60 ^ 7 < 2 ^ 49 := by decide
theorem x_sixt {σ : SX} {R C : Nat} {kn w : Nat → Nat} (h : RgX σ R C kn) (hw : ∀ k, k < 144 → gx_od_weights σ k = lN (w k) ∧ w k < 2 ^ 63 ∧ (¬ frC R C kn (k / 4) → w k = 0)) (hW : smN w 144 < 2 ^ 49) {g d f r : Nat} (hg : g < 4) (hd : d ≤ 5) {a b : Int32} (hab : g = 3 → a = nI f ∧ b = nI r ∧ f < R * C ∧ r ≤ 10) : ∃ O, fX11_sixtiethsExpected σ (nI g) (nI d) a b = some (lN ((if g = 3 then 1 else 6) * exN R C kn none w g d f r), sx_od_outs σ O) := by
  have b1 : ∀ s, s < 4 → smN (ouD R C kn none w g d f r s) 144 < 2 ^ 60 := fun s _ => by
    have := ouD_sum (R := R) (C := C) (kn := kn) (qo := none) (w := w) (g := g) (d := d) (f := f) (r := r) (s := s) hd (fun e => (hab e).2.2.2)
    omega
  have e36 := exN_36 (R := R) (C := C) (kn := kn) (qo := none) (w := w) (g := g) (d := d) (f := f) (r := r) (by have := h.2.1; omega) (by have := h.2.2.2.1; omega) h.1 h.2.2.1 (fun k hk => (hw k hk).2.2)
  unfold fX11_sixtiethsExpected fX11_sixtiethsExpected_b42
  by_cases e3 : g = 3
  · obtain ⟨rfl, rfl, hf, hr⟩ := hab e3
    subst e3
    obtain ⟨O, e1, f1⟩ := x_foreCall h hw hf hr
    rw [if_pos (show nI 3 = (3 : Int32) from rfl), e1, bindS, x_likeAll (σ := sx_od_outs σ O) (o := ouD R C kn none w 3 d f r) (fun s hs p hp => f1 s hs p hp) b1, bindS, e36]
    refine ⟨O, ?_⟩
    rw [if_pos rfl, Nat.one_mul]
  · obtain ⟨O, e1, f1⟩ := x_foreStep h hw (t := trN g) (trN_lt g) hd (qo := none) (fun d h => by cases h)
    have e1' : fX4_foretellStep σ (nI (trN g)) (nI d) (-1) = some (sx_od_outs σ O) := e1
    have key : (if nI g = (3 : Int32) then (fX4_foretellCall σ a b).bind (fun r1 => (fX4_likeliestOfAll r1).bind (fun r2 => some (r2, r1))) else if nI g = (1 : Int32) then (fX4_foretellStep σ (3 : Int32) (nI d) (-1 : Int32)).bind (fun r3 => (fX4_likeliestOfAll r3).bind (fun r4 => some (((6 : Int64) * r4), r3))) else if nI g = (2 : Int32) then (fX4_foretellStep σ (1 : Int32) (nI d) (-1 : Int32)).bind (fun r3 => (fX4_likeliestOfAll r3).bind (fun r4 => some (((6 : Int64) * r4), r3))) else (fX4_foretellStep σ (0 : Int32) (nI d) (-1 : Int32)).bind (fun r3 => (fX4_likeliestOfAll r3).bind (fun r4 => some (((6 : Int64) * r4), r3)))) = (fX4_foretellStep σ (nI (trN g)) (nI d) (-1 : Int32)).bind (fun r3 => (fX4_likeliestOfAll r3).bind (fun r4 => some (((6 : Int64) * r4), r3))) := by
      rcases (show g = 0 ∨ g = 1 ∨ g = 2 by omega) with rfl | rfl | rfl
      · rw [if_neg (by decide), if_neg (by decide), if_neg (by decide)]; rfl
      · rw [if_neg (by decide), if_pos (by decide)]; rfl
      · rw [if_neg (by decide), if_neg (by decide), if_pos (by decide)]; rfl
    refine ⟨O, key.trans ?_⟩
    rw [e1', bindS, x_likeAll (σ := sx_od_outs σ O) (o := ouD R C kn none w g d f r) (fun s hs p hp => by unfold ouD; rw [if_neg e3]; exact f1 s hs p hp) b1, bindS, e36, if_neg e3, show (6 : Int64) = lN 6 from rfl, lN_mul]
theorem m_expNow {μ : SM} {R C : Nat} {kn w : Nat → Nat} {qo : Option Nat} (h : RgM μ R C kn qo) (hq : ∀ d, qo = some d → d < R * C) (hw : ∀ k, k < 144 → gm_od_weight μ k = lN (w k) ∧ w k < 2 ^ 63 ∧ (¬ frC R C kn (k / 4) → w k = 0)) (hW : smN w 144 < 2 ^ 49) {g d f r : Nat} (hg : g < 4) (hd : d ≤ 5) {a b : Int32} (hab : g = 3 → a = nI f ∧ b = nI r ∧ f < R * C ∧ r ≤ 10) : ∃ T, fX12_expectedNow μ (nI g) (nI d) a b = some (lN (exN R C kn qo w g d f r), sm_od_then μ T) := by
  have h36 := rm36 h
  unfold fX12_expectedNow
  obtain ⟨⟨σ', x, y⟩, ⟨T, e⟩, hL⟩ := lp_iv (fun n (p : SM × Int64 × Int32) => fX12_expectedNow_l6 n p.1 (nI g) (nI d) a b p.2.1 p.2.2) (fun i p => ∃ T, p = (sm_od_then μ T, lN (smN (fun s => mxN (ouD R C kn qo w g d f r s) (R * C)) i), nI i)) 4 (fun s n q hs hq' => by
    obtain ⟨T, rfl⟩ := hq'
    have b1 : smN (ouD R C kn qo w g d f r s) 144 < 2 ^ 60 := by
      have := ouD_sum (R := R) (C := C) (kn := kn) (qo := qo) (w := w) (g := g) (d := d) (f := f) (r := r) (s := s) hd (fun e => (hab e).2.2.2)
      omega
    have lay : ∃ T1, (if nI g = (3 : Int32) then fX12_layHeard (sm_od_then μ T) a (nI s) b else if nI g = 0 then fX12_layStep (sm_od_then μ T) 0 (nI d) (nI s) else if nI g = (1 : Int32) then fX12_layStep (sm_od_then μ T) 3 (nI d) (nI s) else fX12_layStep (sm_od_then μ T) 1 (nI d) (nI s)) = some (sm_od_then μ T1) ∧ ∀ p, p < 144 → T1 p = lN (ouD R C kn qo w g d f r s p) := by
      by_cases e3 : g = 3
      · obtain ⟨rfl, rfl, hf, hr⟩ := hab e3
        subst e3
        obtain ⟨T1, e1, f1⟩ := m_layHeard (μ := sm_od_then μ T) (R := R) (kn := kn) (qo := qo) h hw hf hr hs
        exact ⟨T1, by rw [if_pos (show nI 3 = (3 : Int32) from rfl), e1]; rfl, fun p hp => f1 p hp⟩
      · obtain ⟨T1, e1, f1⟩ := m_layStep (μ := sm_od_then μ T) (R := R) (kn := kn) (qo := qo) h hq hw (t := trN g) (trN_lt g) hd hs
        refine ⟨T1, ?_, fun p hp => by unfold ouD; rw [if_neg e3]; exact f1 p hp⟩
        refine Eq.trans ?_ (e1.trans rfl)
        rcases (show g = 0 ∨ g = 1 ∨ g = 2 by omega) with rfl | rfl | rfl
        · rw [if_neg (by decide), if_pos (by decide)]; rfl
        · rw [if_neg (by decide), if_neg (by decide), if_pos (by decide)]; rfl
        · rw [if_neg (by decide), if_neg (by decide), if_neg (by decide)]; rfl
    obtain ⟨T1, e1, f1⟩ := lay
    refine ⟨(sm_od_then μ T1, lN (smN (fun s => mxN (ouD R C kn qo w g d f r s) (R * C)) (s + 1)), nI (s + 1)), ⟨T1, rfl⟩, ?_⟩
    show fX12_expectedNow_b6 _ (sm_od_then μ T) _ _ _ _ _ _ = fX12_expectedNow_l6 n (sm_od_then μ T1) _ _ _ _ (lN (smN (fun s => mxN (ouD R C kn qo w g d f r s) (R * C)) s + mxN (ouD R C kn qo w g d f r s) (R * C))) (nI (s + 1))
    unfold fX12_expectedNow_b6 fX12_expectedNow_b48 fX12_expectedNow_b54
    rw [if_pos (show nI s < (4 : Int32) from ltE s 4 hs (by decide))]
    have fin : ∀ (z : Option SM), z = some (sm_od_then μ T1) → (z.bind fun r2 => (fX12_greatestThen r2).bind fun r1 => fX12_expectedNow_l6 n r2 (nI g) (nI d) a b (lN (smN (fun s => mxN (ouD R C kn qo w g d f r s) (R * C)) s) + r1) (nI s + (1 : Int32))) = fX12_expectedNow_l6 n (sm_od_then μ T1) (nI g) (nI d) a b (lN (smN (fun s => mxN (ouD R C kn qo w g d f r s) (R * C)) s + mxN (ouD R C kn qo w g d f r s) (R * C))) (nI (s + 1)) := by
      intro z hz
      rw [hz, bindS, m_greatest (μ := sm_od_then μ T1) (R := R) (C := C) (m_cells2 (kn := kn) (qo := qo) h) h36 (fun p hp => f1 p hp) b1, bindS, lN_addE, nI_1]
    by_cases c3 : nI g = (3 : Int32)
    · rw [if_pos c3] at e1 ⊢
      exact fin _ e1
    · rw [if_neg c3] at e1 ⊢
      by_cases c0 : nI g = 0
      · rw [if_pos c0] at e1 ⊢
        exact fin _ e1
      · rw [if_neg c0] at e1 ⊢
        by_cases c1 : nI g = (1 : Int32)
        · rw [if_pos c1] at e1 ⊢
          exact fin _ e1
        · rw [if_neg c1] at e1 ⊢
          exact fin _ e1) 996 (μ, 0, 0) ⟨gm_od_then μ, rfl⟩
  cases e
  refine ⟨T, hL.trans ?_⟩
  show fX12_expectedNow_b6 _ _ _ _ _ _ _ _ = _
  unfold fX12_expectedNow_b6
  rw [if_neg (show ¬ nI 4 < (4 : Int32) by decide)]
  rfl
theorem lowT_mul {a b c : Nat} (hc : 0 < c) (p : Int32) : lowT (c * a) (c * b) p = lowT a b p := by
  unfold lowT
  rw [Nat.gcd_mul_left, Nat.mul_div_mul_left _ _ hc, Nat.mul_div_mul_left _ _ hc]
theorem m_many {σ : SX} {μ : SM} {R C : Nat} {kn w : Nat → Nat} {u : Nat} (h : RelOd σ μ R C kn w u) : fX12_areMany μ = some (zb (decide (7 < u))) ∧ ((7 : Int32) < gx_od_updates σ ↔ 7 < u) := by
  have hu := h.1
  have e : (7 : Int32) < nI u ↔ 7 < u := nI_ltI (a := 7) (by decide) (by omega)
  constructor
  · unfold fX12_areMany fX12_areMany_b14
    rw [h.2.2.1]
    by_cases q : 7 < u
    · rw [if_pos (e.mpr q), if_pos (Or.inr rfl), decide_eq_true q]; rfl
    · rw [if_neg (fun z => q (e.mp z)), if_pos (Or.inl rfl), decide_eq_false q]; rfl
  · rw [h.2.1]; exact e
