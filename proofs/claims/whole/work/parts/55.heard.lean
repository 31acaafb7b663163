/-! ===== a call heard ===== -/
/-- the way in which f lies from c -/
def wyN (C c f : Nat) : Nat := if c / C ≠ f / C ∧ (f % C - c % C) + (c % C - f % C) ≤ (f / C - c / C) + (c / C - f / C) then (if f / C < c / C then 0 else 2) else (if c % C < f % C then 1 else 3)
def xwB (r1 r2 r3 r4 : Int32) : Int32 := if (r1 - r2) = 0 then (if 0 < r3 - r4 then 1 else 3) else (if (if 0 ≤ (r1 - r2) then (r1 - r2) else 0 - (r1 - r2)) < (if 0 ≤ (r3 - r4) then (r3 - r4) else 0 - (r3 - r4)) then (if 0 < r3 - r4 then 1 else 3) else (if (r1 - r2) < 0 then 0 else 2))
def wyX (r2 r1 q2 q1 : Nat) : Nat := if r2 ≠ r1 ∧ (q1 - q2) + (q2 - q1) ≤ (r1 - r2) + (r2 - r1) then (if r1 < r2 then 0 else 2) else (if q2 < q1 then 1 else 3)
theorem xwA : ∀ r1, r1 < 18 → ∀ r2, r2 < 18 → ∀ q1, q1 < 6 → ∀ q2, q2 < 6 → xwB (nI r1) (nI r2) (nI q1) (nI q2) = nI (wyX r2 r1 q2 q1) := by decide +kernel
theorem x_wayToR {σ : SX} {C : Nat} (hC : 2 ≤ C) (hC6 : C ≤ 6) {c f : Nat} (hc : c < 36) (hf : f < 36) (h1 : gx_rg_rows σ c = nI (c / C)) (h2 : gx_rg_rows σ f = nI (f / C)) (h3 : gx_rg_columns σ c = nI (c % C)) (h4 : gx_rg_columns σ f = nI (f % C)) : fX7_wayTo σ (nI c) (nI f) = some (nI (wyN C c f)) := by
  have d1 : c / C ≤ c / 2 := Nat.div_le_div_left hC (by decide)
  have d2 : f / C ≤ f / 2 := Nat.div_le_div_left hC (by decide)
  have m1 : c % C < C := Nat.mod_lt _ (by omega)
  have m2 : f % C < C := Nat.mod_lt _ (by omega)
  have g := xwA (f / C) (by omega) (c / C) (by omega) (f % C) (by omega) (c % C) (by omega)
  show _ = some (nI (wyX (c / C) (f / C) (c % C) (f % C)))
  rw [← g]
  unfold fX7_wayTo fX7_wayTo_b51 fX7_wayTo_b50 fX7_wayTo_b61 xwB
  rw [x_rowOf hf, bindS, x_rowOf hc, bindS, x_columnOf hf, bindS, x_columnOf hc, bindS, h1, h2, h3, h4]
  generalize (if 0 ≤ nI (f / C) - nI (c / C) then nI (f / C) - nI (c / C) else 0 - (nI (f / C) - nI (c / C))) = z1
  generalize (if 0 ≤ nI (f % C) - nI (c % C) then nI (f % C) - nI (c % C) else 0 - (nI (f % C) - nI (c % C))) = z2
  split
  · split <;> rfl
  · split
    · split <;> rfl
    · split <;> rfl
theorem x_wayTo {σ : SX} {R C : Nat} {kn : Nat → Nat} (h : RgX σ R C kn) {c f : Nat} (hc : c < R * C) (hf : f < R * C) : fX7_wayTo σ (nI c) (nI f) = some (nI (wyN C c f)) := by
  have h36 := rx36 h
  obtain ⟨-, -, a, b, -, g, -⟩ := h
  exact x_wayToR a b (by omega) (by omega) (g c hc).2.2.1 (g f hf).2.2.1 (g c hc).2.2.2 (g f hf).2.2.2
def mwB (a b : Int32) : Option Int32 := if a = 0 then (if b = 0 then some (-1) else (fX12_size a).bind fun r1 => (fX12_size b).bind fun r2 => if r1 < r2 then (if 0 < b then some 1 else some 3) else (if a < 0 then some 0 else some 2)) else (fX12_size a).bind fun r1 => (fX12_size b).bind fun r2 => if r1 < r2 then (if 0 < b then some 1 else some 3) else (if a < 0 then some 0 else some 2)
theorem mwA : ∀ r1, r1 < 18 → ∀ r2, r2 < 18 → ∀ q1, q1 < 6 → ∀ q2, q2 < 6 → mwB (nI r1 - nI r2) (nI q1 - nI q2) = some (if r1 = r2 ∧ q1 = q2 then -1 else nI (wyX r2 r1 q2 q1)) := by decide +kernel
theorem dm_eq {C c f : Nat} : (f / C = c / C ∧ f % C = c % C) ↔ c = f := by
  constructor
  · intro ⟨a, b⟩
    have e1 := Nat.div_add_mod c C
    have e2 := Nat.div_add_mod f C
    rw [a, b] at e2
    omega
  · intro e; rw [e]; exact ⟨rfl, rfl⟩
theorem m_liesC {μ : SM} {C : Nat} (hcc : gm_rg_columns μ = nI C) (hC : 2 ≤ C) (hC6 : C ≤ 6) {c f : Nat} (hc : c < 36) (hf : f < 36) : fX12_liesFrom μ (nI c) (nI f) = some (if c = f then -1 else nI (wyN C c f)) := by
  have d1 : c / C ≤ c / 2 := Nat.div_le_div_left hC (by decide)
  have d2 : f / C ≤ f / 2 := Nat.div_le_div_left hC (by decide)
  have m1 : c % C < C := Nat.mod_lt _ (by omega)
  have m2 : f % C < C := Nat.mod_lt _ (by omega)
  have g := mwA (f / C) (by omega) (c / C) (by omega) (f % C) (by omega) (c % C) (by omega)
  have hc0 : ¬ nI C = 0 := nI_ne0 (by omega) (by omega)
  simp only [dm_eq] at g
  show _ = some (if c = f then -1 else nI (wyX (c / C) (f / C) (c % C) (f % C)))
  rw [← g]
  unfold fX12_liesFrom fX12_liesFrom_b40 fX12_liesFrom_b74 mwB
  rw [hcc, if_pos hc0, if_pos hc0, if_pos hc0, if_pos hc0, pk_rem (by omega) (by omega) (by omega), pk_rem (by omega) (by omega) (by omega), pk_div (by omega) (by omega) (by omega), pk_div (by omega) (by omega) (by omega)]
theorem m_lies {μ : SM} {R C : Nat} {kn : Nat → Nat} {qo : Option Nat} (h : RgM μ R C kn qo) {c f : Nat} (hc : c < R * C) (hf : f < R * C) : fX12_liesFrom μ (nI c) (nI f) = some (if c = f then -1 else nI (wyN C c f)) := by
  have h36 := rm36 h
  exact m_liesC h.2.2.2.2.2.1 h.2.2.1 h.2.2.2.1 (by omega) (by omega)
theorem wyN_lt (C c f : Nat) : wyN C c f < 4 := by
  unfold wyN
  split
  · split <;> decide
  · split <;> decide
/-- by how much a weight is multiplied -/
def faN (C f r s k : Nat) : Nat := if k / 4 = f then 15 else if (wyN C (k / 4) f + 4 - k % 4) % 4 = s then 6 * r else 2 * (10 - r)
theorem faN_le {C f r s k : Nat} (h : r ≤ 10) : faN C f r s k ≤ 60 := by
  unfold faN
  split
  · decide
  · split <;> omega
theorem sdA : ∀ y, y < 4 → ∀ k, k < 144 → (nI y - nI k) &&& (3 : Int32) = nI ((y + 4 - k % 4) % 4) := by decide +kernel
theorem x_hearFrom {σ : SX} {R C : Nat} {kn : Nat → Nat} (h : RgX σ R C kn) {g : Nat → Nat → Nat} (hg : ∀ s, s < 4 → ∀ p, p < 144 → gx_od_outs σ s p = lN (g s p)) {f r k v : Nat} (hf : f < R * C) (hr : r ≤ 10) (hk : k < 144) (hc : k / 4 < R * C) : ∃ O, fX4_hearFrom σ (nI f) (nI r) (nI k) (lN v) = some (sx_od_outs σ O) ∧ ∀ s, s < 4 → ∀ p, p < 144 → O s p = lN (g s p + if k = p then faN C f r s k * v else 0) := by
  have h36 := rx36 h
  unfold fX4_hearFrom
  rw [nI_div4 (by omega), x_wayTo h hc hf, bindS, sdA _ (wyN_lt _ _ _) k hk]
  obtain ⟨⟨σ', x⟩, ⟨O, e, h1⟩, hL⟩ := lp_iv (fun n (p : SX × Int32) => fX4_hearFrom_l24 n p.1 (nI f) (nI r) (nI k) (lN v) (nI (k / 4)) (nI ((wyN C (k / 4) f + 4 - k % 4) % 4)) p.2) (fun i p => ∃ O, p = (sx_od_outs σ O, nI i) ∧ ∀ s, s < 4 → ∀ p, p < 144 → O s p = lN (g s p + if s < i ∧ k = p then faN C f r s k * v else 0)) 4 (fun i n a hi ha => by
    obtain ⟨O, rfl, h1⟩ := ha
    obtain ⟨O1, a1, b1⟩ := x_addE (σ := sx_od_outs σ O) h1 (s := i) (c := k / 4) (y := k) hi (by omega) (by omega) (faN C f r i k * v)
    refine ⟨(sx_od_outs σ O1, nI (i + 1)), ⟨_, rfl, fun s hs p hp => ?_⟩, ?_⟩
    · rw [b1 s hs p hp]
      rw [show k / 4 * 4 + k % 4 = k by omega, Nat.add_assoc]
      refine congrArg lN (congrArg (fun z => g s p + z) ?_)
      by_cases e1 : i = s
      · subst e1
        by_cases e2 : k = p
        · subst e2; simp
        · rw [if_neg (fun q => e2 q.2), if_neg (fun q => e2 (Prod.mk.inj q).2), if_neg (fun q => e2 q.2)]
      · rw [if_neg (show ¬ (i, k) = (s, p) from fun q => e1 (Prod.mk.inj q).1)]
        by_cases e2 : s < i ∧ k = p
        · rw [if_pos e2, if_pos ⟨by omega, e2.2⟩]; rfl
        · rw [if_neg e2, if_neg (fun q => e2 ⟨by omega, q.2⟩)]
    · show fX4_hearFrom_b24 _ (sx_od_outs σ O) _ _ _ _ _ _ _ = fX4_hearFrom_l24 n (sx_od_outs σ O1) _ _ _ _ _ _ (nI (i + 1))
      unfold fX4_hearFrom_b24 fX4_hearFrom_b61
      have hm : (wyN C (k / 4) f + 4 - k % 4) % 4 < 4 := Nat.mod_lt _ (by decide)
      rw [if_pos (show nI i < (4 : Int32) from ltE i 4 hi (by decide))]
      unfold faN at a1
      by_cases e1 : k / 4 = f
      · rw [if_pos e1] at a1
        rw [if_pos (by rw [e1]), show ((15 : Int32).toInt64) = lN 15 from rfl, lN_mul, a1, bindS, nI_1]; rfl
      · rw [if_neg e1] at a1
        rw [if_neg (neE _ _ e1 (by omega) (by omega))]
        by_cases e2 : (wyN C (k / 4) f + 4 - k % 4) % 4 = i
        · rw [if_pos e2] at a1
          rw [if_pos (by rw [e2]), show (6 : Int32) * nI r = nI (6 * r) from pk_mul 6 r, nI_l (by omega), lN_mul, a1, bindS, nI_1]; rfl
        · rw [if_neg e2] at a1
          rw [if_neg (neE _ _ (fun q => e2 q.symm) (by omega) (by omega)), nI_10m hr, nI_2t, nI_l (by omega), lN_mul, a1, bindS, nI_1]; rfl) 996 (σ, 0) ⟨gx_od_outs σ, rfl, fun s hs p hp => by rw [hg s hs p hp, if_neg (fun q => Nat.not_lt_zero _ q.1)]; rfl⟩
  cases e
  refine ⟨O, hL.trans ?_, fun s hs p hp => ?_⟩
  · show fX4_hearFrom_b24 _ _ _ _ _ _ _ _ _ = _
    unfold fX4_hearFrom_b24
    rw [if_neg (show ¬ nI 4 < (4 : Int32) by decide)]
  · rw [h1 s hs p hp]
    refine congrArg lN (congrArg (fun z => g s p + z) ?_)
    by_cases e2 : k = p
    · rw [if_pos ⟨hs, e2⟩, if_pos e2]
    · rw [if_neg (fun q => e2 q.2), if_neg e2]
theorem x_foreCall {σ : SX} {R C : Nat} {kn w : Nat → Nat} (h : RgX σ R C kn) (hw : ∀ k, k < 144 → gx_od_weights σ k = lN (w k) ∧ w k < 2 ^ 63 ∧ (¬ frC R C kn (k / 4) → w k = 0)) {f r : Nat} (hf : f < R * C) (hr : r ≤ 10) : ∃ O, fX4_foretellCall σ (nI f) (nI r) = some (sx_od_outs σ O) ∧ ∀ s, s < 4 → ∀ p, p < 144 → O s p = lN (faN C f r s p * w p) := by
  unfold fX4_foretellCall
  obtain ⟨O0, e0, z0⟩ := x_clearO σ
  rw [e0, bindS]
  obtain ⟨⟨σ', x⟩, ⟨O, e, h1⟩, hL⟩ := lp_iv (fun n (p : SX × Int32) => fX4_foretellCall_l6 n p.1 (nI f) (nI r) p.2) (fun i p => ∃ O, p = (sx_od_outs σ O, nI i) ∧ ∀ s, s < 4 → ∀ p, p < 144 → O s p = lN (if p < i then faN C f r s p * w p else 0)) 144 (fun i n a hi ha => by
    obtain ⟨O, rfl, h1⟩ := ha
    obtain ⟨w1, w2, w3⟩ := hw i hi
    by_cases z : 0 < w i
    · have hfr : frC R C kn (i / 4) := Classical.byContradiction fun q => by have := w3 q; omega
      obtain ⟨O1, a1, b1⟩ := x_hearFrom (σ := sx_od_outs σ O) (show RgX (sx_od_outs σ O) R C kn from h) h1 (v := w i) hf hr hi hfr.1
      refine ⟨(sx_od_outs σ O1, nI (i + 1)), ⟨_, rfl, fun s hs p hp => ?_⟩, ?_⟩
      · rw [b1 s hs p hp]
        refine congrArg lN ?_
        by_cases e1 : i = p
        · subst e1
          rw [if_neg (Nat.lt_irrefl _), if_pos rfl, if_pos (Nat.lt_succ_self _), Nat.zero_add]
        · rw [if_neg e1]
          by_cases e2 : p < i
          · rw [if_pos e2, if_pos (by omega)]; rfl
          · rw [if_neg e2, if_neg (by omega)]
      · show fX4_foretellCall_b6 _ (sx_od_outs σ O) _ _ _ = fX4_foretellCall_l6 n (sx_od_outs σ O1) _ _ (nI (i + 1))
        unfold fX4_foretellCall_b6 fX4_foretellCall_b39
        rw [if_pos (show nI i < (144 : Int32) from ltE i 144 hi (by decide)), if_pos (inb hi (by decide)), cl_nI (by omega), px_od_weights_od_outs, w1, if_pos ((lpos w2).mpr z), a1, bindS, nI_1]
        rfl
    · refine ⟨(sx_od_outs σ O, nI (i + 1)), ⟨_, rfl, fun s hs p hp => ?_⟩, ?_⟩
      · rw [h1 s hs p hp]
        refine congrArg lN ?_
        by_cases e1 : i = p
        · subst e1
          rw [if_neg (Nat.lt_irrefl _), if_pos (Nat.lt_succ_self _), show w i = 0 by omega, Nat.mul_zero]
        · by_cases e2 : p < i
          · rw [if_pos e2, if_pos (by omega)]
          · rw [if_neg e2, if_neg (by omega)]
      · show fX4_foretellCall_b6 _ (sx_od_outs σ O) _ _ _ = fX4_foretellCall_l6 n (sx_od_outs σ O) _ _ (nI (i + 1))
        unfold fX4_foretellCall_b6 fX4_foretellCall_b39
        rw [if_pos (show nI i < (144 : Int32) from ltE i 144 hi (by decide)), if_pos (inb hi (by decide)), cl_nI (by omega), px_od_weights_od_outs, w1, if_neg (fun q => z ((lpos w2).mp q)), nI_1]) 856 (sx_od_outs σ O0, 0) ⟨O0, rfl, fun s hs p hp => by rw [if_neg (Nat.not_lt_zero p)]; exact z0 s hs p hp⟩
  cases e
  refine ⟨O, hL.trans ?_, fun s hs p hp => by rw [h1 s hs p hp, if_pos hp]⟩
  show fX4_foretellCall_b6 _ _ _ _ _ = _
  unfold fX4_foretellCall_b6
  rw [if_neg (show ¬ nI 144 < (144 : Int32) by decide)]
theorem sdM : ∀ y, y < 4 → ∀ k, k < 4 → ((nI y + (4 : Int32)) - nI k) - ((nI y + (4 : Int32)) - nI k) / (4 : Int32) * (4 : Int32) = nI ((y + 4 - k) % 4) := by decide +kernel
theorem m_layHeard {μ : SM} {R C : Nat} {kn w : Nat → Nat} {qo : Option Nat} (h : RgM μ R C kn qo) (hw : ∀ k, k < 144 → gm_od_weight μ k = lN (w k) ∧ w k < 2 ^ 63 ∧ (¬ frC R C kn (k / 4) → w k = 0)) {f r s : Nat} (hf : f < R * C) (hr : r ≤ 10) (hs : s < 4) : ∃ T, fX12_layHeard μ (nI f) (nI s) (nI r) = some (sm_od_then μ T) ∧ ∀ p, p < 144 → T p = lN (faN C f r s p * w p) := by
  have h36 := rm36 h
  unfold fX12_layHeard
  obtain ⟨T0, e0, z0⟩ := m_clear μ
  rw [e0, bindS]
  obtain ⟨⟨σ', x⟩, ⟨T, e, h1⟩, hL⟩ := lp_iv (fun n (p : SM × Int32) => fX12_layHeard_l7 n p.1 (nI f) (nI s) (nI r) p.2) (fun i p => ∃ T, p = (sm_od_then μ T, nI i) ∧ ∀ p, p < 144 → T p = lN (if p < i then faN C f r s p * w p else 0)) (R * C * 4) (fun i n a hi ha => by
    obtain ⟨T, rfl, h1⟩ := ha
    have hi4 : i < 144 := by omega
    obtain ⟨w1, w2, w3⟩ := hw i hi4
    have hcl : fX12_cells (sm_od_then μ T) = some (nI (R * C)) := m_cells2 h
    have hli : fX12_liesFrom (sm_od_then μ T) (nI (i / 4)) (nI f) = some (if i / 4 = f then -1 else nI (wyN C (i / 4) f)) := m_lies (μ := sm_od_then μ T) (R := R) (kn := kn) (qo := qo) h (by omega) hf
    have hfa : faN C f r s i ≤ 60 := faN_le hr
    have hm : (wyN C (i / 4) f + 4 - i % 4) % 4 < 4 := Nat.mod_lt _ (by decide)
    have hwy := wyN_lt C (i / 4) f
    refine ⟨(sm_od_then μ (vp_updL T i (lN (faN C f r s i * w i))), nI (i + 1)), ⟨_, rfl, fun p hp => ?_⟩, ?_⟩
    · by_cases e1 : p = i
      · subst e1
        rw [pk_uLs, if_pos (Nat.lt_succ_self _)]
      · rw [pk_uLn e1, h1 p hp]
        by_cases e2 : p < i
        · rw [if_pos e2, if_pos (by omega)]
        · rw [if_neg e2, if_neg (by omega)]
    · show fX12_layHeard_b7 _ (sm_od_then μ T) _ _ _ _ = fX12_layHeard_l7 n (sm_od_then μ _) _ _ _ (nI (i + 1))
      unfold fX12_layHeard_b7 fX12_layHeard_b68
      rw [hcl, bindS, nI_4mul, if_pos (ltE i _ hi (by omega)), nI_rem4 (by omega), nI_div4 (by omega), hli, bindS]
      have key : ∀ z : Int32, z.toInt64 * gm_od_weight (sm_od_then μ T) (nI i).toNatClampNeg = lN (faN C f r s i * w i) → (if ¬ (nI i < 0 ∨ 144 ≤ (nI i).toNatClampNeg) then (if ¬ (nI i < 0 ∨ 144 ≤ (nI i).toNatClampNeg) then fX12_layHeard_l7 n (sm_od_then (sm_od_then μ T) (vp_updL (gm_od_then (sm_od_then μ T)) (nI i).toNatClampNeg (z.toInt64 * gm_od_weight (sm_od_then μ T) (nI i).toNatClampNeg))) (nI f) (nI s) (nI r) (nI i + (1 : Int32)) else none) else none) = fX12_layHeard_l7 n (sm_od_then μ (vp_updL T i (lN (faN C f r s i * w i)))) (nI f) (nI s) (nI r) (nI (i + 1)) := by
        intro z hz
        rw [if_pos (inb hi4 (by decide)), if_pos (inb hi4 (by decide)), hz, cl_nI (by omega), nI_1]
        rfl
      have hwt : gm_od_weight (sm_od_then μ T) (nI i).toNatClampNeg = lN (w i) := by rw [pm_od_weight_od_then, cl_nI (by omega)]; exact w1
      by_cases e1 : i / 4 = f
      · rw [if_pos e1, if_pos rfl]
        exact key 15 (by rw [hwt, show ((15 : Int32).toInt64) = lN 15 from rfl, lN_mul]; unfold faN; rw [if_pos e1])
      · rw [if_neg e1, if_neg (nI_nm1 (by omega)), sdM _ hwy (i % 4) (by omega)]
        by_cases e2 : (wyN C (i / 4) f + 4 - i % 4) % 4 = s
        · rw [if_pos (by rw [e2])]
          exact key _ (by rw [hwt, show (6 : Int32) * nI r = nI (6 * r) from pk_mul 6 r, nI_l (by omega), lN_mul]; unfold faN; rw [if_neg e1, if_pos e2])
        · rw [if_neg (neE _ _ e2 (by omega) (by omega))]
          exact key _ (by rw [hwt, nI_10m hr, nI_2t, nI_l (by omega), lN_mul]; unfold faN; rw [if_neg e1, if_neg e2])) (1000 - R * C * 4) (sm_od_then μ T0, 0) ⟨T0, rfl, fun p hp => by rw [if_neg (Nat.not_lt_zero p)]; exact z0 p hp⟩
  cases e
  refine ⟨T, ?_, fun p hp => ?_⟩
  · rw [show 1000 - R * C * 4 + R * C * 4 = 1000 by omega] at hL
    refine hL.trans ?_
    rw [show 1000 - R * C * 4 = (999 - R * C * 4) + 1 by omega]
    show fX12_layHeard_b7 _ (sm_od_then μ T) _ _ _ _ = _
    unfold fX12_layHeard_b7
    have hcl : fX12_cells (sm_od_then μ T) = some (nI (R * C)) := m_cells2 h
    rw [hcl, bindS, nI_4mul, if_neg (nltE _ _ (Nat.le_refl _) (by omega))]
  · rw [h1 p hp]
    refine congrArg lN ?_
    by_cases e : p < R * C * 4
    · rw [if_pos e]
    · rw [if_neg e, (hw p hp).2.2 (fun q => by have := q.1; omega), Nat.mul_zero]
theorem fa_sum {C f r s : Nat} {w : Nat → Nat} (hr : r ≤ 10) (n : Nat) : smN (fun p => faN C f r s p * w p) n ≤ 60 * smN w n := by
  rw [← smN_mulc]
  exact smN_le (fun k _ => Nat.mul_le_mul_right _ (faN_le hr))
theorem sim_heard (N : Nat) (a b c : Int32) : SimW N (fun σ => fX11_heard σ a b c) (fun μ => fX12_heard μ a b c) := by
  intro σ μ hR
  have hR1 := hR.mono (Nat.le_succ N)
  obtain ⟨R, C, kn, w, u, n, pg, L, r1, r2, r3, r4, r5, r6⟩ := id hR
  simp only [fX11_heard_b31, fX11_heard, fX12_heard_b69, fX12_heard_b28, fX12_heard, p_isWay]
  rcases xm_free r1 a with ⟨h1, h2⟩ | ⟨f, hf, rfl, h1, h2⟩
  · simp only [h1, h2, bindS, i00]; exact ⟨_, _, _, rfl, rfl, hR1⟩
  simp only [h1, h2, bindS, i10, p_isWithin, p_within, zb_if]
  have h0 : R ≠ 0 := fun q => by have := hf.1; rw [q, Nat.zero_mul] at this; omega
  by_cases h3 : ¬ b < 0 ∧ ¬ (3 : Int32) < b
  rotate_left
  · simp only [decide_eq_false h3]; exact ⟨_, _, _, rfl, rfl, hR1⟩
  simp only [if_pos (decide_eq_true h3)]
  by_cases h4 : ¬ c < 0 ∧ ¬ (10 : Int32) < c
  rotate_left
  · simp only [decide_eq_false h4]; exact ⟨_, _, _, rfl, rfl, hR1⟩
  simp only [if_pos (decide_eq_true h4)]
  obtain ⟨s, hs, rfl⟩ := in_range (m := 3) (by decide) h3
  obtain ⟨r, hr, rfl⟩ := in_range (m := 10) (by decide) h4
  have hu := r2.1
  by_cases hu9 : u < 9
  rotate_left
  · have e9 : u = 9 := by omega
    rw [r2.2.1, r2.2.2.1, e9, if_neg (show ¬ nI 9 < (9 : Int32) by decide), if_pos (show nI 9 = (9 : Int32) from rfl)]
    exact ⟨_, _, _, rfl, rfl, hR1⟩
  rw [r2.2.1, r2.2.2.1, if_pos (show nI u < (9 : Int32) from ltE u 9 hu9 (by decide)), if_neg (show ¬ nI u = (9 : Int32) from neE u 9 (by omega) (by omega) (by decide))]
  obtain ⟨rx, rm⟩ := rg_x r1 h0
  obtain ⟨wx, wm⟩ := od_w r2
  obtain ⟨O, e1, f1⟩ := x_foreCall rx wx hf.1 hr
  obtain ⟨T, e2, f2⟩ := m_layHeard rm wm hf.1 hr (s := s) (by omega)
  rw [e1, e2, bindS, bindS]
  rcases upd_sim (σ := sx_od_outs σ O) (μ := sm_od_then μ T) (s := s) (o := fun p => faN C f r s p * w p) (N := N) (R := R) (C := C) (kn := kn) (w := w) (u := u) (n := n) (pg := pg) (L := L) r1 r2 r3 r4 r5 r6 h0 hu9 (by omega) (fa_sum hr 144) (fun k hk q => by show faN C f r s k * w k = 0; rw [(wx k hk).2.2 q, Nat.mul_zero]) (fun p hp => f1 s (by omega) p hp) (fun p hp => f2 p hp) with ⟨-, g1, g2, g3⟩ | ⟨-, c, σ', μ', g0, g1, g2, g3⟩
  · rw [g1, g2, bindS, bindS, if_pos rfl]
    exact ⟨_, _, _, rfl, rfl, g3⟩
  · rw [g1, g2, bindS, bindS, if_neg (nI_nm1 g0)]
    exact ⟨_, _, _, rfl, rfl, g3⟩
