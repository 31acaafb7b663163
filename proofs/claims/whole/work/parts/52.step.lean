/-! ===== a step: where each weight goes ===== -/
theorem opt_id {α : Type} (x : Option α) : (x.bind fun r => some r) = x := by cases x <;> rfl
def kdQ (kn : Nat → Nat) (qo o : Option Nat) : Nat := match o with
  | none => 3
  | some c => if qo = some c then 3 else kn c
def feN (k : Nat) : Nat := if k = 0 then 0 else if k = 3 then 1 else if k = 2 then 2 else 3
theorem feN_lt (k : Nat) : feN k < 4 := by unfold feN; split; decide; split; decide; split <;> decide
def tcN (c : Nat) (kn : Nat → Nat) (qo o : Option Nat) : Nat := match o with
  | none => c
  | some c' => if kdQ kn qo (some c') < 2 then c' else c
/-- where the weight k goes that has turned by t and drifts by e -/
def tgS (R C : Nat) (kn : Nat → Nat) (qo : Option Nat) (t k e : Nat) : Nat × Nat := (feN (kdQ kn qo (onN R C (k / 4) ((k + t + e) % 4))), tcN (k / 4) kn qo (onN R C (k / 4) ((k + t + e) % 4)) * 4 + (k + t + e) % 4)
def onB (R C c y : Nat) : Bool := !(decide (2 ≤ R) && decide (2 ≤ C) && decide (c < R * C)) || (match onN R C c y with | none => true | some d => decide (d < R * C))
theorem onA : ∀ R, R < 7 → ∀ C, C < 7 → ∀ c, c < 36 → ∀ y, y < 4 → onB R C c y = true := by decide +kernel
theorem on_lt {R C c y d : Nat} (h1 : R < 7) (h2 : C < 7) (h3 : 2 ≤ R) (h4 : 2 ≤ C) (hc : c < R * C) (hy : y < 4) (h : onN R C c y = some d) : d < R * C := by
  have h36 : R * C ≤ 6 * 6 := Nat.mul_le_mul (by omega) (by omega)
  have q := onA R h1 C h2 c (by omega) y hy
  unfold onB at q
  rw [decide_eq_true h3, decide_eq_true h4, decide_eq_true hc, h] at q
  exact of_decide_eq_true q
/-- what the class, and the reference, know of the ring -/
def RgX (σ : SX) (R C : Nat) (kn : Nat → Nat) : Prop := 2 ≤ R ∧ R ≤ 6 ∧ 2 ≤ C ∧ C ≤ 6 ∧ gx_rg_size σ = nI (R * C) ∧ (∀ c, c < R * C → kn c < 4 ∧ gx_rg_kinds σ c = nI (kn c) ∧ gx_rg_rows σ c = nI (c / C) ∧ gx_rg_columns σ c = nI (c % C)) ∧ ∀ c w, c < 36 → w < 4 → gx_rg_beside σ (c * 4 + w) = if c < R * C then oI (onN R C c w) else -1
def RgM (μ : SM) (R C : Nat) (kn : Nat → Nat) (qo : Option Nat) : Prop := 2 ≤ R ∧ R ≤ 6 ∧ 2 ≤ C ∧ C ≤ 6 ∧ gm_rg_rows μ = nI R ∧ gm_rg_columns μ = nI C ∧ (∀ c, c < R * C → kn c < 4 ∧ gm_rg_cellOf μ c = nI (kn c)) ∧ gm_rp_gonePost μ = oI qo
theorem rg_x {N : Nat} {σ : SX} {μ : SM} {R C : Nat} {kn : Nat → Nat} (h : RelRg N σ μ R C kn) (h0 : R ≠ 0) : RgX σ R C kn ∧ RgM μ R C kn none := by
  obtain ⟨a, b, c, d, -, f, g, -, i⟩ := h
  rcases a with ⟨e, -⟩ | ⟨a1, a2, a3, a4, -⟩
  · exact absurd e h0
  · exact ⟨⟨a1, a2, a3, a4, d, fun c hc => ⟨(f c hc).1, (f c hc).2.1, (f c hc).2.2.2.1, (f c hc).2.2.2.2⟩, g.resolve_left h0⟩, ⟨a1, a2, a3, a4, b, c, fun c hc => ⟨(f c hc).1, (f c hc).2.2.1⟩, i⟩⟩
theorem rx36 {σ : SX} {R C : Nat} {kn : Nat → Nat} (h : RgX σ R C kn) : R * C ≤ 36 := Nat.mul_le_mul h.2.1 h.2.2.2.1
theorem rm36 {μ : SM} {R C : Nat} {kn : Nat → Nat} {qo : Option Nat} (h : RgM μ R C kn qo) : R * C ≤ 36 := Nat.mul_le_mul h.2.1 h.2.2.2.1
theorem kdQ_lt {R C : Nat} {kn : Nat → Nat} (hk : ∀ c, c < R * C → kn c < 4) {qo o : Option Nat} (ho : ∀ d, o = some d → d < R * C) : kdQ kn qo o < 4 := by
  cases o with
  | none => exact (show 3 < 4 by decide)
  | some d =>
    show (if qo = some d then 3 else kn d) < 4
    split
    · decide
    · exact hk d (ho d rfl)
theorem oI_eq {o q : Option Nat} (ho : ∀ d, o = some d → d < 36) (hq : ∀ d, q = some d → d < 36) : oI o = oI q ↔ o = q := by
  have z : ∀ d : Nat, d < 36 → ¬ nI d = -1 := by decide +kernel
  cases o with
  | none =>
    cases q with
    | none => exact ⟨fun _ => rfl, fun _ => rfl⟩
    | some d => exact ⟨fun e => absurd e.symm (z d (hq d rfl)), fun e => by cases e⟩
  | some c =>
    cases q with
    | none => exact ⟨fun e => absurd e (z c (ho c rfl)), fun e => by cases e⟩
    | some d =>
      have h1 := ho c rfl
      have h2 := hq d rfl
      constructor
      · intro e
        rw [(nI_eq (by omega) (by omega)).mp e]
      · intro e; rw [e]
theorem x_ahead {σ : SX} {R C : Nat} {kn : Nat → Nat} (h : RgX σ R C kn) {c y : Nat} (hc : c < R * C) (hy : y < 2 ^ 31) : fX7_ahead σ (nI c) (nI y) = some (oI (onN R C c (y % 4))) := by
  have h36 := rx36 h
  have hm : y % 4 < 4 := Nat.mod_lt _ (by decide)
  unfold fX7_ahead fX7_ahead_b31
  rw [and3g hy, nI_mul4, nI_add, if_neg (nI_pos (by omega)), if_pos (show nI (c * 4 + y % 4) < (144 : Int32) from ltE _ 144 (by omega) (by decide)), if_pos (inb (by omega) (by decide)), cl_nI (by omega), h.2.2.2.2.2.2 c (y % 4) (by omega) hm, if_pos hc]
theorem x_kindO {σ : SX} {R C : Nat} {kn : Nat → Nat} (h : RgX σ R C kn) {o : Option Nat} (ho : ∀ d, o = some d → d < R * C) : fX7_kindOf σ (oI o) = some (nI (kdQ kn none o)) := by
  have h36 := rx36 h
  obtain ⟨-, -, -, -, hs, hc, -⟩ := h
  unfold fX7_kindOf fX7_kindOf_b30 fX7_kindOf_b31
  cases o with
  | none => rw [if_pos (show oI none < (0 : Int32) by decide)]; rfl
  | some j =>
    have hj := ho j rfl
    rw [show oI (some j) = nI j from rfl, if_neg (nI_pos (by omega)), hs, if_pos (ltI (by omega) (by omega) hj), if_pos (show nI j < (36 : Int32) from ltE j 36 (by omega) (by omega)), if_pos (inb (by omega) (by omega)), cl_nI (by omega), (hc j hj).2.1]
    rfl
theorem x_walkB {σ : SX} {k : Nat} (hk : k < 4) (a b : Int32) (v : Int64) (z : Int32) : fX4_walk_b31 σ a b v z (nI k) = fX4_add σ (nI (feN k)) (if k < 2 then z else a) b v := by
  unfold fX4_walk_b31 fX4_walk_b58
  rcases (show k = 0 ∨ k = 1 ∨ k = 2 ∨ k = 3 by omega) with rfl | rfl | rfl | rfl
  · rw [if_pos (by decide), if_neg (by decide), opt_id]; rfl
  · rw [if_pos (by decide), if_neg (by decide), opt_id]; rfl
  · rw [if_pos (by decide), if_pos (by decide), opt_id]; rfl
  · rw [if_pos (by decide), if_pos (by decide), opt_id]; rfl
theorem x_walk {σ : SX} {R C : Nat} {kn : Nat → Nat} (h : RgX σ R C kn) {c y : Nat} (hc : c < R * C) (hy : y < 2 ^ 31) {qo : Option Nat} (hq : ∀ d, qo = some d → d < R * C) (v : Int64) : fX4_walk σ (nI c) (nI y) v (oI qo) = fX4_add σ (nI (feN (kdQ kn qo (onN R C c (y % 4))))) (nI (tcN c kn qo (onN R C c (y % 4)))) (nI y) v := by
  have h36 := rx36 h
  have hm : y % 4 < 4 := Nat.mod_lt _ (by decide)
  have ho : ∀ d, onN R C c (y % 4) = some d → d < R * C := fun d hd => on_lt (by have := h.2.1; omega) (by have := h.2.2.2.1; omega) h.1 h.2.2.1 hc hm hd
  have hk := kdQ_lt (fun c hc => (h.2.2.2.2.2.1 c hc).1) (qo := qo) ho
  have hk0 := kdQ_lt (fun c hc => (h.2.2.2.2.2.1 c hc).1) (qo := none) ho
  unfold fX4_walk
  rw [x_ahead h hc hy, bindS, x_kindO h ho]
  generalize onN R C c (y % 4) = o at ho hk hk0 ⊢
  have key : (if oI o = oI qo then fX4_walk_b31 σ (nI c) (nI y) v (oI o) 3 else (some (nI (kdQ kn none o))).bind fun r2 => fX4_walk_b31 σ (nI c) (nI y) v (oI o) r2) = fX4_walk_b31 σ (nI c) (nI y) v (oI o) (nI (kdQ kn qo o)) := by
    rw [bindS]
    by_cases e : o = qo
    · rw [if_pos (by rw [e])]
      cases o with
      | none => rfl
      | some d =>
        have : kdQ kn qo (some d) = 3 := by
          show (if qo = some d then 3 else kn d) = 3
          rw [if_pos e.symm]
        rw [this]; rfl
    · rw [if_neg (fun q => e ((oI_eq (fun d hd => by have := ho d hd; omega) (fun d hd => by have := hq d hd; omega)).mp q))]
      cases o with
      | none => rfl
      | some d =>
        have h1 : kdQ kn qo (some d) = kn d := by
          show (if qo = some d then 3 else kn d) = kn d
          rw [if_neg (fun q => e q.symm)]
        rw [h1]; rfl
  rw [key, x_walkB hk]
  cases o with
  | none => rfl
  | some d =>
    show fX4_add σ _ (if kdQ kn qo (some d) < 2 then nI d else nI c) _ _ = fX4_add σ _ (nI (if kdQ kn qo (some d) < 2 then d else c)) _ _
    split <;> rfl
theorem tcN_lt {R C c : Nat} {kn : Nat → Nat} {qo o : Option Nat} (hc : c < R * C) (ho : ∀ d, o = some d → d < R * C) : tcN c kn qo o < R * C := by
  cases o with
  | none => exact hc
  | some d =>
    show (if kdQ kn qo (some d) < 2 then d else c) < R * C
    split
    · exact ho d rfl
    · exact hc
theorem x_walkE {σ : SX} {R C : Nat} {kn : Nat → Nat} (h : RgX σ R C kn) {f : Nat → Nat → Nat} (hf : ∀ s, s < 4 → ∀ p, p < 144 → gx_od_outs σ s p = lN (f s p)) {c y : Nat} (hc : c < R * C) (hy : y < 2 ^ 31) {qo : Option Nat} (hq : ∀ d, qo = some d → d < R * C) (v : Nat) : ∃ O, fX4_walk σ (nI c) (nI y) (lN v) (oI qo) = some (sx_od_outs σ O) ∧ ∀ t, t < 4 → ∀ p, p < 144 → O t p = lN (f t p + if (feN (kdQ kn qo (onN R C c (y % 4))), tcN c kn qo (onN R C c (y % 4)) * 4 + y % 4) = (t, p) then v else 0) := by
  have h36 := rx36 h
  have hm : y % 4 < 4 := Nat.mod_lt _ (by decide)
  have ho : ∀ d, onN R C c (y % 4) = some d → d < R * C := fun d hd => on_lt (by have := h.2.1; omega) (by have := h.2.2.2.1; omega) h.1 h.2.2.1 hc hm hd
  rw [x_walk h hc hy hq]
  exact x_addE hf (feN_lt _) (by have := tcN_lt (kn := kn) (qo := qo) hc ho; omega) hy v
theorem nI_10d {d : Nat} (h : d ≤ 5) : (10 : Int32) - (2 : Int32) * nI d = nI (10 - 2 * d) := by rw [nI_2t, nI_10m (by omega)]
theorem lpos {a : Nat} (h : a < 2 ^ 63) : (0 : Int64) < lN a ↔ 0 < a := pk_lLT (a := 0) (by decide) h
/-- a step foretold by the class: all that may be felt -/
theorem x_foreStep {σ : SX} {R C : Nat} {kn w : Nat → Nat} (h : RgX σ R C kn) (hw : ∀ k, k < 144 → gx_od_weights σ k = lN (w k) ∧ w k < 2 ^ 63 ∧ (¬ frC R C kn (k / 4) → w k = 0)) {t d : Nat} (ht : t < 4) (hd : d ≤ 5) {qo : Option Nat} (hq : ∀ d, qo = some d → d < R * C) : ∃ O, fX4_foretellStep σ (nI t) (nI d) (oI qo) = some (sx_od_outs σ O) ∧ ∀ s, s < 4 → ∀ p, p < 144 → O s p = lN (ouN (tgS R C kn qo t) d w 144 s p) := by
  unfold fX4_foretellStep
  obtain ⟨O0, e0, z0⟩ := x_clearO σ
  rw [e0, bindS]
  obtain ⟨⟨σ', x⟩, ⟨O, e, h1⟩, hL⟩ := lp_iv (fun n (p : SX × Int32) => fX4_foretellStep_l7 n p.1 (nI t) (nI d) (oI qo) p.2) (fun i p => ∃ O, p = (sx_od_outs σ O, nI i) ∧ ∀ s, s < 4 → ∀ p, p < 144 → O s p = lN (ouN (tgS R C kn qo t) d w i s p)) 144 (fun i n a hi ha => by
    obtain ⟨O, rfl, h1⟩ := ha
    obtain ⟨w1, w2, w3⟩ := hw i hi
    by_cases z : 0 < w i
    · have hf : frC R C kn (i / 4) := Classical.byContradiction fun q => by have := w3 q; omega
      obtain ⟨O1, a1, b1⟩ := x_walkE (σ := sx_od_outs σ O) (show RgX (sx_od_outs σ O) R C kn from h) h1 (c := i / 4) (y := i + t + 3) hf.1 (by omega) hq (d * w i)
      obtain ⟨O2, a2, b2⟩ := x_walkE (σ := sx_od_outs σ O1) (show RgX (sx_od_outs σ O1) R C kn from h) b1 (c := i / 4) (y := i + t) hf.1 (by omega) hq ((10 - 2 * d) * w i)
      obtain ⟨O3, a3, b3⟩ := x_walkE (σ := sx_od_outs σ O2) (show RgX (sx_od_outs σ O2) R C kn from h) b2 (c := i / 4) (y := i + t + 1) hf.1 (by omega) hq (d * w i)
      refine ⟨(sx_od_outs σ O3, nI (i + 1)), ⟨_, rfl, fun s hs p hp => ?_⟩, ?_⟩
      · rw [b3 s hs p hp]
        show lN (ouN (tgS R C kn qo t) d w i s p + (if tgS R C kn qo t i 3 = (s, p) then d * w i else 0) + (if tgS R C kn qo t i 0 = (s, p) then (10 - 2 * d) * w i else 0) + (if tgS R C kn qo t i 1 = (s, p) then d * w i else 0)) = lN (ouN (tgS R C kn qo t) d w i s p + ((if tgS R C kn qo t i 3 = (s, p) then d * w i else 0) + (if tgS R C kn qo t i 0 = (s, p) then (10 - 2 * d) * w i else 0) + (if tgS R C kn qo t i 1 = (s, p) then d * w i else 0)))
        rw [Nat.add_assoc, Nat.add_assoc, Nat.add_assoc]
      · show fX4_foretellStep_b7 _ (sx_od_outs σ O) _ _ _ _ = fX4_foretellStep_l7 n (sx_od_outs σ O3) _ _ _ (nI (i + 1))
        unfold fX4_foretellStep_b7 fX4_foretellStep_b96
        rw [if_pos (show nI i < (144 : Int32) from ltE i 144 hi (by decide)), if_pos (inb hi (by decide)), cl_nI (by omega), px_od_weights_od_outs, w1, if_pos ((lpos w2).mpr z), nI_div4 (by omega), nI_add, nI_lit3, nI_lit1, nI_10d hd, nI_l (by omega), nI_l (by omega), lN_mul, lN_mul, a1, bindS]
        rw [show sx_od_outs (sx_od_outs σ O) O1 = sx_od_outs σ O1 from rfl, a2, bindS, show sx_od_outs (sx_od_outs σ O1) O2 = sx_od_outs σ O2 from rfl, a3, bindS, nI_1]
        rfl
    · refine ⟨(sx_od_outs σ O, nI (i + 1)), ⟨_, rfl, fun s hs p hp => ?_⟩, ?_⟩
      · rw [h1 s hs p hp]
        show _ = lN (ouN (tgS R C kn qo t) d w i s p + cnN (tgS R C kn qo t) d w s p i)
        rw [cn_w0 (by omega)]; rfl
      · show fX4_foretellStep_b7 _ (sx_od_outs σ O) _ _ _ _ = fX4_foretellStep_l7 n (sx_od_outs σ O) _ _ _ (nI (i + 1))
        unfold fX4_foretellStep_b7 fX4_foretellStep_b96
        rw [if_pos (show nI i < (144 : Int32) from ltE i 144 hi (by decide)), if_pos (inb hi (by decide)), cl_nI (by omega), px_od_weights_od_outs, w1, if_neg (fun q => z ((lpos w2).mp q)), nI_1]) 856 (sx_od_outs σ O0, 0) ⟨O0, rfl, fun s hs p hp => z0 s hs p hp⟩
  cases e
  refine ⟨O, hL.trans ?_, h1⟩
  show fX4_foretellStep_b7 _ _ _ _ _ _ = _
  unfold fX4_foretellStep_b7
  rw [if_neg (show ¬ nI 144 < (144 : Int32) by decide)]
