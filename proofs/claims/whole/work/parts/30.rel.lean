/-! ===== HOW THE STATES OF THE CLASS AND OF THE REFERENCE BELONG TOGETHER ===== -/
def zb (b : Bool) : Int32 := if b then 1 else 0
theorem zb_0 (b : Bool) : zb b = 0 ↔ b = false := by cases b <;> simp [zb]
theorem zb_01 (b : Bool) : zb b = 0 ∨ zb b = 1 := by cases b <;> simp [zb]
def smN (f : Nat → Nat) : Nat → Nat
  | 0 => 0
  | n + 1 => smN f n + f n
def smL (f : Nat → Int64) : Nat → Int64
  | 0 => 0
  | n + 1 => smL f n + f n
/-- the cell a way on in a ring of R rows of C -/
def onN (R C c w : Nat) : Option Nat :=
  if w = 0 then (if C ≤ c then some (c - C) else none)
  else if w = 1 then (if c % C + 1 < C then some (c + 1) else none)
  else if w = 2 then (if c + C < R * C then some (c + C) else none)
  else (if 0 < c % C then some (c - 1) else none)
def oI (o : Option Nat) : Int32 := match o with
  | none => -1
  | some c => nI c
abbrev frC (R C : Nat) (kn : Nat → Nat) (c : Nat) : Prop := c < R * C ∧ kn c < 2
def RelRg (N : Nat) (σ : SX) (μ : SM) (R C : Nat) (kn : Nat → Nat) : Prop :=
  (R = 0 ∧ C = 0 ∧ gm_rg_rings μ = 0 ∨ 2 ≤ R ∧ R ≤ 6 ∧ 2 ≤ C ∧ C ≤ 6 ∧ (∃ c, frC R C kn c) ∧ ∃ r, 0 < r ∧ r ≤ N ∧ gm_rg_rings μ = nI r) ∧
  gm_rg_rows μ = nI R ∧ gm_rg_columns μ = nI C ∧ gx_rg_size σ = nI (R * C) ∧ gx_tp_ringsRead σ = gm_rg_rings μ ∧
  (∀ c, c < R * C → kn c < 4 ∧ gx_rg_kinds σ c = nI (kn c) ∧ gm_rg_cellOf μ c = nI (kn c) ∧ gx_rg_rows σ c = nI (c / C) ∧ gx_rg_columns σ c = nI (c % C)) ∧
  (R = 0 ∨ ∀ c w, c < 36 → w < 4 → gx_rg_beside σ (c * 4 + w) = if c < R * C then oI (onN R C c w) else -1) ∧
  gx_rg_free σ = nI (smN (fun c => if kn c < 2 then 1 else 0) (R * C)) ∧ gm_rp_gonePost μ = -1
def RelOd (σ : SX) (μ : SM) (R C : Nat) (kn : Nat → Nat) (w : Nat → Nat) (u : Nat) : Prop :=
  u ≤ 9 ∧ gx_od_updates σ = nI u ∧ gm_od_updates μ = nI u ∧ (∀ k, k < 144 → gx_od_weights σ k = lN (w k) ∧ gm_od_weight μ k = lN (w k) ∧ (¬ frC R C kn (k / 4) → w k = 0)) ∧ smN w 144 ≤ 144 * 60 ^ u ∧ (R ≠ 0 → 0 < smN w 144)
def RelPl (σ : SX) (μ : SM) (R C : Nat) (kn : Nat → Nat) (n : Nat) : Prop :=
  n ≤ 6 ∧ (R = 0 → n = 0) ∧ gx_tp_playing σ = nI n ∧ gm_pl_players μ = nI n ∧ (∀ i, i < 6 → gx_pl_arr σ i = if i < n then some (20 + i) else none) ∧
  ∀ i, i < n → gx_pl_ex σ i = true ∧ gx_pl_kd σ i < 6 ∧ gm_pl_kindOf μ i = nI (gx_pl_kd σ i) ∧ (∃ t, frC R C kn t ∧ gx_pl_told σ i = nI t ∧ gm_pl_placeOf μ i = nI t) ∧ (∃ t, t ≤ 9 ∧ gx_pl_size σ i = nI t ∧ gm_pl_sizeOf μ i = nI t) ∧ (∃ t, t ≤ 4 ∧ gx_pl_cloth σ i = nI t ∧ gm_pl_clothOf μ i = nI t) ∧ (∃ t, t ≤ 4 ∧ gx_pl_giggle σ i = nI t ∧ gm_pl_giggleOf μ i = nI t)
/-- jackets: two players and tenths, or none -/
def jkOk (n : Nat) (a b j : Int32) : Prop := (a = -1 ∧ b = -1 ∧ j = 0) ∨ ∃ p q t : Nat, p < n ∧ q < n ∧ p ≠ q ∧ t ≤ 10 ∧ a = nI p ∧ b = nI q ∧ j = nI t
def RelNm (σ : SX) (μ : SM) (n : Nat) : Prop :=
  (∃ t, t ≤ 5 ∧ gx_nm_sizeOff σ = nI t ∧ gm_nm_unsure μ = nI t) ∧ (∃ t, t ≤ 10 ∧ gx_nm_clothRight σ = nI t ∧ gm_nm_clothRight μ = nI t) ∧ (∃ t, t ≤ 10 ∧ gx_nm_giggleRight σ = nI t ∧ gm_nm_giggleRight μ = nI t) ∧
  gx_nm_first σ = gm_nm_jacketA μ ∧ gx_nm_second σ = gm_nm_jacketB μ ∧ gx_nm_changed σ = gm_nm_jacketTenths μ ∧ jkOk n (gx_nm_first σ) (gx_nm_second σ) (gx_nm_changed σ) ∧
  ∃ t, t ≤ 20 ∧ gx_tp_standsDone σ = nI t ∧ gm_nm_asks μ = nI t
def RelKp (σ : SX) (μ : SM) (R C : Nat) (kn : Nat → Nat) (n : Nat) : Prop :=
  (gx_tp_imageKept σ = 0 ∧ ¬ (gm_kp_isKept μ = 1 ∧ gm_kp_keptRing μ = gm_rg_rings μ) ∨ gx_tp_imageKept σ = 1 ∧ gm_kp_isKept μ = 1 ∧ gm_kp_keptRing μ = gm_rg_rings μ ∧ R ≠ 0 ∧
    (∃ w u, u ≤ 9 ∧ gx_od_keptUpdates σ = nI u ∧ gm_kp_keptUpdates μ = nI u ∧ (∀ k, k < 144 → gx_od_kept σ k = lN (w k) ∧ gm_kp_keptWeight μ k = lN (w k) ∧ (¬ frC R C kn (k / 4) → w k = 0)) ∧ smN w 144 ≤ 144 * 60 ^ u ∧ 0 < smN w 144) ∧
    gx_nm_keptFirst σ = gm_kp_keptA μ ∧ gx_nm_keptSecond σ = gm_kp_keptB μ ∧ gx_nm_keptChanged σ = gm_kp_keptTenths μ ∧
    ∃ m, m ≤ n ∧ gm_kp_keptPlayers μ = nI m ∧ jkOk m (gx_nm_keptFirst σ) (gx_nm_keptSecond σ) (gx_nm_keptChanged σ) ∧ (∀ i, i < m → ∃ t, frC R C kn t ∧ gx_pl_kept σ i = nI t ∧ gm_kp_keptPlace μ i = nI t) ∧ ∀ i, m ≤ i → i < n → gx_pl_kept σ i = -1) ∧
  (gm_kp_isKept μ = 0 ∨ gm_kp_isKept μ = 1) ∧ (gm_kp_isKept μ = 1 → ∃ r r', r < 2 ^ 31 ∧ gm_rg_rings μ = nI r ∧ gm_kp_keptRing μ = nI r' ∧ 0 < r' ∧ r' ≤ r)
def RelPg (σ : SX) (μ : SM) (pg : Nat → Nat) (L : Nat) : Prop :=
  L ≤ 45 ∧ gx_pg_length σ = nI L ∧ gm_pg_pageLength μ = nI L ∧ ∀ i, i < L → 0 < pg i ∧ pg i < 127 ∧ gx_pg_signs σ i = nI (pg i) ∧ gm_pg_page μ i = nI (pg i)
/-- after N calls -/
def Rel (N : Nat) (σ : SX) (μ : SM) : Prop := ∃ (R C : Nat) (kn w : Nat → Nat) (u n : Nat) (pg : Nat → Nat) (L : Nat), RelRg N σ μ R C kn ∧ RelOd σ μ R C kn w u ∧ RelPl σ μ R C kn n ∧ RelNm σ μ n ∧ RelKp σ μ R C kn n ∧ RelPg σ μ pg L
theorem RelRg.mono {N M : Nat} {σ : SX} {μ : SM} {R C : Nat} {kn : Nat → Nat} (h : RelRg N σ μ R C kn) (hm : N ≤ M) : RelRg M σ μ R C kn := by
  obtain ⟨h1, h2⟩ := h
  refine ⟨?_, h2⟩
  rcases h1 with h1 | ⟨a, b, c, d, f, r, e1, e2, e3⟩
  · exact Or.inl h1
  · exact Or.inr ⟨a, b, c, d, f, r, e1, Nat.le_trans e2 hm, e3⟩
theorem Rel.mono {N M : Nat} {σ : SX} {μ : SM} (h : Rel N σ μ) (hm : N ≤ M) : Rel M σ μ := by
  obtain ⟨R, C, kn, w, u, n, pg, L, h1, h2⟩ := h
  exact ⟨R, C, kn, w, u, n, pg, L, h1.mono hm, h2⟩
/-- a call that reads, one that changes: both answer, alike -/
def SimR {α : Type} (N : Nat) (fx : SX → Option α) (fm : SM → Option α) : Prop := ∀ σ μ, Rel N σ μ → ∃ r, fx σ = some r ∧ fm μ = some r
def SimW {α : Type} (N : Nat) (fx : SX → Option (α × SX)) (fm : SM → Option (α × SM)) : Prop := ∀ σ μ, Rel N σ μ → ∃ r σ' μ', fx σ = some (r, σ') ∧ fm μ = some (r, μ') ∧ Rel (N + 1) σ' μ'
/-! ===== the smallest functions ===== -/
theorem p_isWithin (a m : Int32) : fX11_isWithin a m = some (zb (decide (¬ a < 0 ∧ ¬ m < a))) := by
  unfold fX11_isWithin fX11_isWithin_b13 fX11_isWithin_b14
  by_cases h1 : a < 0
  · simp [h1, zb]
  · by_cases h2 : m < a
    · simp [h1, h2, zb]
    · simp [h1, h2, zb]
theorem p_within (a l m : Int32) : fX12_within a l m = some (zb (decide (¬ a < l ∧ ¬ m < a))) := by
  unfold fX12_within fX12_within_b14 fX12_within_b15
  by_cases h1 : a < l
  · simp [h1, zb]
  · by_cases h2 : m < a
    · simp [h1, h2, zb]
    · simp [h1, h2, zb]
theorem bindS {α β : Type} (a : α) (f : α → Option β) : (some a).bind f = f a := rfl
theorem zb_if (b : Bool) {α : Type} (x y : α) : (if zb b = 0 then x else y) = if b = true then y else x := by cases b <;> simp [zb]
/-- a number that is in a range, as a natural number -/
theorem in_range {a : Int32} {m : Nat} (hm : m < 2 ^ 31) (h : ¬ a < 0 ∧ ¬ nI m < a) : ∃ k, k ≤ m ∧ a = nI k := by
  obtain ⟨j, hj, rfl⟩ := nI_of h.1
  refine ⟨j, ?_, rfl⟩
  have := h.2
  rw [nI_ltI hm hj] at this
  omega
theorem range_in {k m : Nat} (hm : m < 2 ^ 31) (h : k ≤ m) : ¬ nI k < 0 ∧ ¬ nI m < nI k := ⟨nI_pos (by omega), by rw [nI_ltI hm (by omega)]; omega⟩
