/-! ===== the reference's step ===== -/
theorem m_onB {μ : SM} {R C : Nat} (hr : gm_rg_rows μ = nI R) (hc : gm_rg_columns μ = nI C) (a b c : Int32) : fX12_on_b51 μ a b c = some (if (¬ a < 0 ∧ ¬ nI R - 1 < a) ∧ (¬ c + b < 0 ∧ ¬ nI C - 1 < c + b) then a * nI C + (c + b) else -1) := by
  unfold fX12_on_b51 fX12_on_b95 fX12_on_b96
  rw [hr, hc, p_within, p_within]
  simp only [bindS, zb_if, decide_eq_true_eq]
  by_cases c1 : ¬ a < 0 ∧ ¬ nI R - 1 < a
  · rw [if_pos c1]
    by_cases c2 : ¬ c + b < 0 ∧ ¬ nI C - 1 < c + b
    · rw [if_pos c2, if_pos ⟨c1, c2⟩]
    · rw [if_neg c2, if_neg (fun z => c2 z.2)]
  · rw [if_neg c1, if_neg (fun z => c1 z.1)]
theorem m_on {μ : SM} {R C : Nat} {kn : Nat → Nat} {qo : Option Nat} (h : RgM μ R C kn qo) {c y : Nat} (hc : c < R * C) (hy : y < 4) : fX12_on μ (nI c) (nI y) = some (oI (onN R C c y)) := by
  have h36 := rm36 h
  obtain ⟨a1, a2, a3, a4, hr, hcc, -, -⟩ := h
  have g := geo R (by omega) C (by omega) a1 a3 c hc y hy
  have hc0 : ¬ nI C = 0 := nI_ne0 (by omega) (by omega)
  unfold fX12_on fX12_on_b24
  rw [hcc, if_pos hc0, if_pos hc0, pk_rem (by omega) (by omega) (by omega), pk_div (by omega) (by omega) (by omega), ← g]
  rcases (show y = 0 ∨ y = 1 ∨ y = 2 ∨ y = 3 by omega) with rfl | rfl | rfl | rfl
  · rw [if_pos (show nI 0 = 0 from rfl), if_neg (show ¬ nI 0 = (1 : Int32) by decide), if_neg (show ¬ nI 0 = (3 : Int32) by decide), m_onB hr hcc]; rfl
  · rw [if_neg (show ¬ nI 1 = (0 : Int32) by decide), if_neg (show ¬ nI 1 = (2 : Int32) by decide), if_pos (show nI 1 = (1 : Int32) from rfl), m_onB hr hcc, if_pos hc0]; rfl
  · rw [if_neg (show ¬ nI 2 = (0 : Int32) by decide), if_pos (show nI 2 = (2 : Int32) from rfl), if_neg (show ¬ nI 2 = (1 : Int32) by decide), if_neg (show ¬ nI 2 = (3 : Int32) by decide), m_onB hr hcc, if_pos hc0]; rfl
  · rw [if_neg (show ¬ nI 3 = (0 : Int32) by decide), if_neg (show ¬ nI 3 = (2 : Int32) by decide), if_neg (show ¬ nI 3 = (1 : Int32) by decide), if_pos (show nI 3 = (3 : Int32) from rfl), m_onB hr hcc, if_pos hc0]; rfl
theorem m_sortAt {μ : SM} {R C : Nat} {kn : Nat → Nat} {qo : Option Nat} (h : RgM μ R C kn qo) (hq : ∀ d, qo = some d → d < R * C) {o : Option Nat} (ho : ∀ d, o = some d → d < R * C) : fX12_sortAt μ (oI o) = some (nI (kdQ kn qo o)) := by
  have h36 := rm36 h
  obtain ⟨-, -, -, -, -, -, hk, hg⟩ := h
  unfold fX12_sortAt fX12_sortAt_b13 fX12_sortAt_b23
  cases o with
  | none => rw [if_pos (show oI none = (-1 : Int32) from rfl)]; rfl
  | some d =>
    have hd := ho d rfl
    have z : ∀ d : Nat, d < 36 → ¬ nI d = -1 := by decide +kernel
    rw [if_neg (show ¬ oI (some d) = (-1 : Int32) from z d (by omega)), hg]
    show _ = some (nI (if qo = some d then 3 else kn d))
    by_cases e : qo = some d
    · rw [if_pos (by rw [e]), if_pos e]; rfl
    · rw [if_neg (fun q => e ((oI_eq (fun x hx => by have := ho x hx; omega) (fun x hx => by have := hq x hx; omega)).mp q).symm), if_neg e]
      show (if ¬ (nI d < 0 ∨ 36 ≤ (nI d).toNatClampNeg) then _ else none) = _
      rw [if_pos (inb (by omega) (by decide))]
      show some (gm_rg_cellOf μ (nI d).toNatClampNeg) = _
      rw [cl_nI (by omega), (hk d hd).2]
theorem m_feltOf {k : Nat} (h : k < 4) : fX12_feltOf (nI k) = some (nI (feN k)) := by
  rcases (show k = 0 ∨ k = 1 ∨ k = 2 ∨ k = 3 by omega) with rfl | rfl | rfl | rfl <;> rfl
theorem m_stepOne {μ : SM} {R C : Nat} {kn w : Nat → Nat} {qo : Option Nat} (h : RgM μ R C kn qo) (hq : ∀ d, qo = some d → d < R * C) {f : Nat → Nat} (hf : ∀ p, p < 144 → gm_od_then μ p = lN (f p)) {k y m s : Nat} (hk : k < 144) (hc : k / 4 < R * C) (hy : y < 4) (hm : m ≤ 10) (hs : s < 4) (hw : gm_od_weight μ k = lN (w k)) : ∃ T, fX12_stepOne μ (nI k) (nI y) (nI m) (nI s) = some (sm_od_then μ T) ∧ ∀ p, p < 144 → T p = lN (f p + if (feN (kdQ kn qo (onN R C (k / 4) y)), tcN (k / 4) kn qo (onN R C (k / 4) y) * 4 + y) = (s, p) then m * w k else 0) := by
  have h36 := rm36 h
  have ho : ∀ d, onN R C (k / 4) y = some d → d < R * C := fun d hd => on_lt (by have := h.2.1; omega) (by have := h.2.2.2.1; omega) h.1 h.2.2.1 hc hy hd
  have hk4 := kdQ_lt (fun c hc => (h.2.2.2.2.2.2.1 c hc).1) (qo := qo) ho
  have htc := tcN_lt (kn := kn) (qo := qo) hc ho
  unfold fX12_stepOne
  rw [nI_div4 (by omega), m_on h hc hy, bindS, m_sortAt h hq ho, bindS, m_feltOf hk4, bindS]
  by_cases e : feN (kdQ kn qo (onN R C (k / 4) y)) = s
  · rw [if_pos (by rw [e])]
    have key : (if nI (kdQ kn qo (onN R C (k / 4) y)) < (2 : Int32) then fX12_stepOne_b42 μ (nI k) (nI y) (nI m) (oI (onN R C (k / 4) y)) else fX12_stepOne_b42 μ (nI k) (nI y) (nI m) (nI (k / 4))) = fX12_stepOne_b42 μ (nI k) (nI y) (nI m) (nI (tcN (k / 4) kn qo (onN R C (k / 4) y))) := by
      generalize onN R C (k / 4) y = o at ho hk4 ⊢
      cases o with
      | none => rw [if_neg (show ¬ nI (kdQ kn qo none) < (2 : Int32) by show ¬ nI 3 < (2 : Int32); decide)]; rfl
      | some d =>
        show _ = fX12_stepOne_b42 μ (nI k) (nI y) (nI m) (nI (if kdQ kn qo (some d) < 2 then d else k / 4))
        by_cases g : kdQ kn qo (some d) < 2
        · rw [if_pos (show nI (kdQ kn qo (some d)) < (2 : Int32) from ltE _ 2 g (by decide)), if_pos g]; rfl
        · rw [if_neg (show ¬ nI (kdQ kn qo (some d)) < (2 : Int32) from nltE _ 2 (by omega) (by omega)), if_neg g]
    rw [key]
    unfold fX12_stepOne_b42 fX12_stepOne_b67
    rw [nI_4mul, nI_add, if_pos (inb (by omega) (by decide)), if_pos (inb hk (by decide)), if_pos (inb (by omega) (by decide)), cl_nI (by omega), cl_nI (by omega), hw, nI_l (by omega), lN_mul]
    refine ⟨_, rfl, fun p hp => ?_⟩
    rw [up_adm hf (by omega) (m * w k) p hp]
    by_cases g : tcN (k / 4) kn qo (onN R C (k / 4) y) * 4 + y = p
    · rw [if_pos g, if_pos (by rw [e, g])]
    · rw [if_neg g, if_neg (fun q => g (Prod.mk.inj q).2)]
  · rw [if_neg (neE _ _ e (by have := feN_lt (kdQ kn qo (onN R C (k / 4) y)); omega) (by omega))]
    refine ⟨gm_od_then μ, rfl, fun p hp => ?_⟩
    rw [hf p hp, if_neg (fun q => e (Prod.mk.inj q).1)]; rfl
theorem nI_rem4 {n : Nat} (h : n < 2 ^ 31) : nI n - nI n / (4 : Int32) * (4 : Int32) = nI (n % 4) := pk_rem (d := 4) h (by decide) (by decide)
theorem m_cells2 {μ : SM} {R C : Nat} {kn : Nat → Nat} {qo : Option Nat} (h : RgM μ R C kn qo) : fX12_cells μ = some (nI (R * C)) := by
  unfold fX12_cells
  rw [h.2.2.2.2.1, h.2.2.2.2.2.1, pk_mul]
theorem ad3 (a b c d : Nat) : a + b + c + d = a + (c + b + d) := by omega
theorem mod3 (a b : Nat) : (a % 4 + b) % 4 = (a + b) % 4 := by omega
/-- a step laid by the reference: what is felt so -/
theorem m_layStep {μ : SM} {R C : Nat} {kn w : Nat → Nat} {qo : Option Nat} (h : RgM μ R C kn qo) (hq : ∀ d, qo = some d → d < R * C) (hw : ∀ k, k < 144 → gm_od_weight μ k = lN (w k) ∧ w k < 2 ^ 63 ∧ (¬ frC R C kn (k / 4) → w k = 0)) {t d s : Nat} (ht : t < 4) (hd : d ≤ 5) (hs : s < 4) : ∃ T, fX12_layStep μ (nI t) (nI d) (nI s) = some (sm_od_then μ T) ∧ ∀ p, p < 144 → T p = lN (ouN (tgS R C kn qo t) d w 144 s p) := by
  have h36 := rm36 h
  unfold fX12_layStep
  obtain ⟨T0, e0, z0⟩ := m_clear μ
  rw [e0, bindS]
  obtain ⟨⟨σ', x⟩, ⟨T, e, h1⟩, hL⟩ := lp_iv (fun n (p : SM × Int32) => fX12_layStep_l7 n p.1 (nI t) (nI d) (nI s) p.2) (fun i p => ∃ T, p = (sm_od_then μ T, nI i) ∧ ∀ p, p < 144 → T p = lN (ouN (tgS R C kn qo t) d w i s p)) (R * C * 4) (fun i n a hi ha => by
    obtain ⟨T, rfl, h1⟩ := ha
    have hi4 : i < 144 := by omega
    obtain ⟨w1, w2, w3⟩ := hw i hi4
    have hcl : fX12_cells (sm_od_then μ T) = some (nI (R * C)) := m_cells2 h
    by_cases z : 0 < w i
    · have hf : frC R C kn (i / 4) := Classical.byContradiction fun q => by have := w3 q; omega
      obtain ⟨T1, a1, b1⟩ := m_stepOne (μ := sm_od_then μ T) (w := w) (show RgM (sm_od_then μ T) R C kn qo from h) hq h1 (k := i) (y := (i + t) % 4) (m := 10 - 2 * d) (s := s) hi4 hf.1 (Nat.mod_lt _ (by decide)) (by omega) hs w1
      obtain ⟨T2, a2, b2⟩ := m_stepOne (μ := sm_od_then μ T1) (w := w) (show RgM (sm_od_then μ T1) R C kn qo from h) hq b1 (k := i) (y := (i + t + 3) % 4) (m := d) (s := s) hi4 hf.1 (Nat.mod_lt _ (by decide)) (by omega) hs w1
      obtain ⟨T3, a3, b3⟩ := m_stepOne (μ := sm_od_then μ T2) (w := w) (show RgM (sm_od_then μ T2) R C kn qo from h) hq b2 (k := i) (y := (i + t + 1) % 4) (m := d) (s := s) hi4 hf.1 (Nat.mod_lt _ (by decide)) (by omega) hs w1
      refine ⟨(sm_od_then μ T3, nI (i + 1)), ⟨_, rfl, fun p hp => ?_⟩, ?_⟩
      · rw [b3 p hp]
        show lN (ouN (tgS R C kn qo t) d w i s p + (if tgS R C kn qo t i 0 = (s, p) then (10 - 2 * d) * w i else 0) + (if tgS R C kn qo t i 3 = (s, p) then d * w i else 0) + (if tgS R C kn qo t i 1 = (s, p) then d * w i else 0)) = lN (ouN (tgS R C kn qo t) d w i s p + ((if tgS R C kn qo t i 3 = (s, p) then d * w i else 0) + (if tgS R C kn qo t i 0 = (s, p) then (10 - 2 * d) * w i else 0) + (if tgS R C kn qo t i 1 = (s, p) then d * w i else 0)))
        exact congrArg lN (ad3 _ _ _ _)
      · show fX12_layStep_b7 _ (sm_od_then μ T) _ _ _ _ = fX12_layStep_l7 n (sm_od_then μ T3) _ _ _ (nI (i + 1))
        unfold fX12_layStep_b7 fX12_layStep_b81
        rw [hcl, bindS, nI_4mul, if_pos (ltE i _ hi (by omega)), if_pos (inb hi4 (by decide)), cl_nI (by omega), pm_od_weight_od_then, w1, if_pos ((lpos w2).mpr z), nI_add, nI_rem4 (by omega), nI_lit3, nI_lit1, nI_rem4 (by omega), nI_rem4 (by omega), nI_10d hd, mod3, mod3, a1, bindS]
        rw [show sm_od_then (sm_od_then μ T) T1 = sm_od_then μ T1 from rfl, a2, bindS, show sm_od_then (sm_od_then μ T1) T2 = sm_od_then μ T2 from rfl, a3, bindS, nI_1]
        rfl
    · refine ⟨(sm_od_then μ T, nI (i + 1)), ⟨_, rfl, fun p hp => ?_⟩, ?_⟩
      · rw [h1 p hp]
        show _ = lN (ouN (tgS R C kn qo t) d w i s p + cnN (tgS R C kn qo t) d w s p i)
        rw [cn_w0 (by omega)]; rfl
      · show fX12_layStep_b7 _ (sm_od_then μ T) _ _ _ _ = fX12_layStep_l7 n (sm_od_then μ T) _ _ _ (nI (i + 1))
        unfold fX12_layStep_b7 fX12_layStep_b81
        rw [hcl, bindS, nI_4mul, if_pos (ltE i _ hi (by omega)), if_pos (inb hi4 (by decide)), cl_nI (by omega), pm_od_weight_od_then, w1, if_neg (fun q => z ((lpos w2).mp q)), nI_1]) (1000 - R * C * 4) (sm_od_then μ T0, 0) ⟨T0, rfl, fun p hp => z0 p hp⟩
  cases e
  refine ⟨T, ?_, fun p hp => ?_⟩
  · rw [show 1000 - R * C * 4 + R * C * 4 = 1000 by omega] at hL
    refine hL.trans ?_
    rw [show 1000 - R * C * 4 = (999 - R * C * 4) + 1 by omega]
    show fX12_layStep_b7 _ (sm_od_then μ T) _ _ _ _ = _
    unfold fX12_layStep_b7
    have hcl : fX12_cells (sm_od_then μ T) = some (nI (R * C)) := m_cells2 h
    rw [hcl, bindS, nI_4mul, if_neg (nltE _ _ (Nat.le_refl _) (by omega))]
  · rw [h1 p hp]
    refine congrArg lN (smN_tail (by omega) (fun k hk1 hk2 => cn_w0 ?_)).symm
    exact (hw k hk2).2.2 (fun q => by have := q.1; omega)
