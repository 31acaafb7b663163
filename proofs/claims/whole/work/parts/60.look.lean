/-! ===== he hears a call, he goes, he touches ===== -/
def clO (R C kd a : Nat) : Option Nat := if kd = 3 then some a else if kd = 4 then some (R * C - 1 - a) else none
def nrS (C hc : Nat) (b c : Option Nat) : Option Nat := match c with
  | none => b
  | some c => match b with
    | none => some c
    | some b => if dsN C c (hc / C + 1) (hc % C + 1) < dsN C b (hc / C + 1) (hc % C + 1) then some c else some b
def nrN (R C hc : Nat) (kd pl : Nat → Nat) : Nat → Option Nat
  | 0 => none
  | i + 1 => nrS C hc (nrN R C hc kd pl i) (clO R C (kd i) (pl i))
def dvO (C hc : Nat) (b : Option Nat) : Int32 := match b with
  | none => 0
  | some b => nI (dsN C b (hc / C + 1) (hc % C + 1))
theorem clO_lt {R C kd a d : Nat} (ha : a < R * C) (h : clO R C kd a = some d) : d < R * C := by
  unfold clO at h
  by_cases e1 : kd = 3
  · rw [if_pos e1] at h; cases h; exact ha
  · rw [if_neg e1] at h
    by_cases e2 : kd = 4
    · rw [if_pos e2] at h; cases h; omega
    · rw [if_neg e2] at h; cases h
theorem nrN_lt {R C hc : Nat} {kd pl : Nat → Nat} {n : Nat} (hp : ∀ i, i < n → pl i < R * C) : ∀ i, i ≤ n → ∀ d, nrN R C hc kd pl i = some d → d < R * C
  | 0, _, d, h => by cases h
  | i + 1, hi, d, h => by
    have ih := nrN_lt (hc := hc) (kd := kd) hp i (by omega)
    have hcl : ∀ d, clO R C (kd i) (pl i) = some d → d < R * C := fun d hd => clO_lt (hp i (by omega)) hd
    change nrS C hc (nrN R C hc kd pl i) (clO R C (kd i) (pl i)) = some d at h
    generalize nrN R C hc kd pl i = b at ih h
    generalize clO R C (kd i) (pl i) = c at hcl h
    cases c with
    | none => exact ih d h
    | some c =>
      cases b with
      | none => cases h; exact hcl _ rfl
      | some b =>
        unfold nrS at h
        dsimp only at h
        by_cases g : dsN C c (hc / C + 1) (hc % C + 1) < dsN C b (hc / C + 1) (hc % C + 1)
        · rw [if_pos g] at h; cases h; exact hcl _ rfl
        · rw [if_neg g] at h; cases h; exact ih _ rfl
section LOOK
variable {N : Nat} {σ : SX} {μ : SM} {R C : Nat} {kn : Nat → Nat} {n : Nat}
theorem x_calls (h : RelRg N σ μ R C kn) {i a : Nat} (hok : gx_pok σ (20 + i) = true) (hat : gx_pl_at σ i = nI a) (ha : a < R * C) : d_callsFrom σ (20 + i) = some (oI (clO R C (gx_pl_kd σ i) a)) := by
  have h36 := rc36 h
  have hk := ox_kd hok
  rw [Nat.add_sub_cancel_left] at hk
  unfold d_callsFrom fX6_callsFrom fX1_callsFrom fX2_callsFrom
  rw [Nat.add_sub_cancel_left, hat, h.2.2.2.1, nI_m1 _ (by omega), pk_sub (by omega)]
  simp only [hok, if_true]
  generalize gx_pl_kd σ i = k at hk ⊢
  rcases (show k = 0 ∨ k = 1 ∨ k = 2 ∨ k = 3 ∨ k = 4 ∨ k = 5 by omega) with rfl | rfl | rfl | rfl | rfl | rfl <;> rfl
/-- the way in which he looks when he has heard -/
def lkW (C hc y : Nat) (o : Option Nat) : Nat := match o with
  | none => y
  | some c => if c = hc then y else wyN C hc c
theorem lkW_lt {C hc y : Nat} (o : Option Nat) (hy : y < 4) : lkW C hc y o < 4 := by
  cases o with
  | none => exact hy
  | some c =>
    unfold lkW
    dsimp only
    split
    · exact hy
    · exact wyN_lt _ _ _
theorem x_look (h : RelRg N σ μ R C kn) (h0 : R ≠ 0) (hp : RelPl σ μ R C kn n) {hc y : Nat} {pl : Nat → Nat} (g1 : gx_rd_hisCell σ = nI hc) (g2 : hc < R * C) (g3 : gx_rd_hisWay σ = nI y) (g5 : ∀ i, i < n → gx_pl_at σ i = nI (pl i) ∧ pl i < R * C) : fX8_lookToCall σ = some (sx_rd_hisWay σ (nI (lkW C hc y (nrN R C hc (gx_pl_kd σ) pl n)))) := by
  have h6 := hp.1
  obtain ⟨b1, b2, b3, b4, b5, b6, b7⟩ := rc_dm h h0 g2
  obtain ⟨rx, -⟩ := rg_x h h0
  have h36 := rc36 h
  have hlt := nrN_lt (R := R) (C := C) (hc := hc) (kd := gx_pl_kd σ) (pl := pl) (n := n) (fun i hi => (g5 i hi).2)
  unfold fX8_lookToCall
  have L := lp_go (fun m (p : Int32 × Int32 × Int32) => fX8_lookToCall_l16 m σ p.1 p.2.1 p.2.2) (fun i => (oI (nrN R C hc (gx_pl_kd σ) pl (min i n)), dvO C hc (nrN R C hc (gx_pl_kd σ) pl (min i n)), nI i)) 6 (fun i m hi => by
    show fX8_lookToCall_b16 _ _ _ _ _ = fX8_lookToCall_l16 m σ _ _ (nI (i + 1))
    unfold fX8_lookToCall_b16
    rw [if_pos (show nI i < (6 : Int32) from ltE i 6 hi (by decide)), if_pos (inb hi (by decide)), cl_nI (by omega), hp.2.2.2.2.1 i hi]
    by_cases hn : i < n
    · rw [if_pos hn]
      have hok := x_pok hp hn
      simp only [ev_q, hok, if_true, x_calls h hok (g5 i hn).1 (g5 i hn).2, bindS]
      rw [Nat.min_eq_left (by omega : i ≤ n), Nat.min_eq_left (by omega : i + 1 ≤ n)]
      have hb := hlt i (by omega)
      have hcl : ∀ d, clO R C (gx_pl_kd σ i) (pl i) = some d → d < R * C := fun d hd => clO_lt (g5 i hn).2 hd
      show _ = fX8_lookToCall_l16 m σ (oI (nrS C hc (nrN R C hc (gx_pl_kd σ) pl i) (clO R C (gx_pl_kd σ i) (pl i)))) (dvO C hc (nrS C hc (nrN R C hc (gx_pl_kd σ) pl i) (clO R C (gx_pl_kd σ i) (pl i)))) (nI (i + 1))
      generalize nrN R C hc (gx_pl_kd σ) pl i = b at hb ⊢
      generalize clO R C (gx_pl_kd σ i) (pl i) = c at hcl ⊢
      unfold fX8_lookToCall_b47 fX8_lookToCall_b99 fX8_lookToCall_b105
      cases c with
      | none => rw [if_pos (show oI none = (-1 : Int32) from rfl), nI_1]; rfl
      | some c =>
        have hc' := hcl c rfl
        rw [show oI (some c) = nI c from rfl, if_neg (nI_nm1 (by omega)), g1, x_rowOf b3, bindS, x_columnOf b3, bindS, (rx.2.2.2.2.2.1 hc g2).2.2.1, (rx.2.2.2.2.2.1 hc g2).2.2.2, nI_s1 (hc / C), nI_s1 (hc % C), x_apart rx hc' (by omega) (by omega), bindS, nI_1]
        cases b with
        | none => rw [if_pos (show oI none = (-1 : Int32) from rfl)]; rfl
        | some b =>
          have hb' := hb b rfl
          have l1 := dsN_lt (R := R) (c := c) (r := hc / C + 1) (q := hc % C + 1) b7 (by omega) (by omega) (by omega) (by omega)
          have l2 := dsN_lt (R := R) (c := b) (r := hc / C + 1) (q := hc % C + 1) b7 (by omega) (by omega) (by omega) (by omega)
          rw [show oI (some b) = nI b from rfl, if_neg (nI_nm1 (by omega))]
          unfold nrS
          dsimp only
          by_cases g : dsN C c (hc / C + 1) (hc % C + 1) < dsN C b (hc / C + 1) (hc % C + 1)
          · rw [if_pos g, if_pos (show nI (dsN C c (hc / C + 1) (hc % C + 1)) < dvO C hc (some b) from (nI_ltI (by omega) (by omega)).mpr g)]; rfl
          · rw [if_neg g, if_neg (show ¬ nI (dsN C c (hc / C + 1) (hc % C + 1)) < dvO C hc (some b) from fun z => g ((nI_ltI (by omega) (by omega)).mp z))]; rfl
    · rw [if_neg hn]
      simp only [ev_q]
      rw [Nat.min_eq_right (by omega : n ≤ i), Nat.min_eq_right (by omega : n ≤ i + 1)]
      unfold fX8_lookToCall_b47 fX8_lookToCall_b105
      rw [if_pos rfl, nI_1]) 994
  have hz : min 0 n = 0 := Nat.zero_min n
  have L' : fX8_lookToCall_l16 1000 σ (-1) 0 0 = fX8_lookToCall_l16 994 σ (oI (nrN R C hc (gx_pl_kd σ) pl (min 6 n))) (dvO C hc (nrN R C hc (gx_pl_kd σ) pl (min 6 n))) (nI 6) := by
    refine Eq.trans ?_ L
    dsimp only
    rw [hz]; rfl
  rw [L', Nat.min_eq_right h6]
  have hb := hlt n (Nat.le_refl n)
  show fX8_lookToCall_b16 _ _ _ _ _ = _
  unfold fX8_lookToCall_b16 fX8_lookToCall_b140
  rw [if_neg (show ¬ nI 6 < (6 : Int32) by decide), g1]
  have same : sx_rd_hisWay σ (nI y) = σ := by rw [← g3]; rfl
  generalize nrN R C hc (gx_pl_kd σ) pl n = o at hb ⊢
  cases o with
  | none => rw [if_pos (show oI none = (-1 : Int32) from rfl)]; exact congrArg some same.symm
  | some c =>
    have hc' := hb c rfl
    rw [show oI (some c) = nI c from rfl, if_neg (nI_nm1 (by omega))]
    unfold lkW
    dsimp only
    by_cases e : c = hc
    · rw [if_pos (by rw [e]), if_pos e, same]
    · rw [if_neg (neE _ _ e (by omega) (by omega)), if_neg e, x_wayTo rx g2 hc', bindS]
theorem m_callOf (h : RelRg N σ μ R C kn) (h0 : R ≠ 0) (hp : RelPl σ μ R C kn n) {i a : Nat} (hi : i < n) (hat : gm_gm_place μ i = nI a) (ha : a < R * C) (hk : gx_pl_kd σ i = 3 ∨ gx_pl_kd σ i = 4) : ∃ c, clO R C (gx_pl_kd σ i) a = some c ∧ fX12_callOf μ (nI i) = some (nI c) := by
  have h6 := hp.1
  have h36 := rc36 h
  obtain ⟨b1, b2, b3, b4, b5, b6, b7⟩ := rc_dm h h0 ha
  obtain ⟨rx, rm⟩ := rg_x h h0
  obtain ⟨-, -, k3, -⟩ := hp.2.2.2.2.2 i hi
  have hc0 : ¬ nI C = 0 := nI_ne0 (by omega) (by omega)
  unfold fX12_callOf fX12_callOf_b65
  rw [rm.2.2.2.2.2.1, rm.2.2.2.2.1]
  simp only [if_pos (inb (show i < 6 by omega) (show 6 < 2 ^ 31 by decide)), if_pos (inbN (show i < 6 by omega) (show i < 2 ^ 31 by omega)), if_pos hc0, cl_nI (show i < 2 ^ 31 by omega), k3, hat]
  rcases hk with e | e
  · rw [e]
    exact ⟨a, rfl, rfl⟩
  · rw [e]
    refine ⟨R * C - 1 - a, rfl, ?_⟩
    rw [if_pos (show nI 4 = (4 : Int32) from rfl), pk_rem (by omega) (by omega) (by omega), pk_div (by omega) (by omega) (by omega)]
    have hd := Nat.div_add_mod a C
    have hr : a / C < R := Nat.div_lt_of_lt_mul (by rw [Nat.mul_comm]; exact ha)
    have hm : a % C < C := Nat.mod_lt _ (by omega)
    rw [nI_m1 _ (by omega), pk_sub (by omega), pk_mul, nI_add, nI_m1 _ (by omega), pk_sub (by omega)]
    congr 2
    have e1 : (R - 1 - a / C) * C = R * C - C - C * (a / C) := by
      rw [Nat.mul_comm, Nat.mul_sub, Nat.mul_sub, Nat.mul_one, Nat.mul_comm C R]
    have e2 : C * (a / C) + C ≤ R * C := by
      have := Nat.mul_le_mul_left C (show a / C + 1 ≤ R by omega)
      rw [Nat.mul_add, Nat.mul_one, Nat.mul_comm C R] at this
      exact this
    rw [e1]
    omega
theorem m_nearest (h : RelRg N σ μ R C kn) (h0 : R ≠ 0) (hp : RelPl σ μ R C kn n) {hc : Nat} {pl : Nat → Nat} (g1 : gm_gm_his μ = nI hc) (g2 : hc < R * C) (g5 : ∀ i, i < n → gm_gm_place μ i = nI (pl i) ∧ pl i < R * C) : fX12_nearestCall μ = some (oI (nrN R C hc (gx_pl_kd σ) pl n)) := by
  have h6 := hp.1
  obtain ⟨b1, b2, b3, b4, b5, b6, b7⟩ := rc_dm h h0 g2
  obtain ⟨rx, rm⟩ := rg_x h h0
  have h36 := rc36 h
  have hc0 : ¬ nI C = 0 := nI_ne0 (by omega) (by omega)
  have hlt := nrN_lt (R := R) (C := C) (hc := hc) (kd := gx_pl_kd σ) (pl := pl) (n := n) (fun i hi => (g5 i hi).2)
  unfold fX12_nearestCall
  have L := lp_go (fun m (p : Int32 × Int32) => fX12_nearestCall_l4 μ m p.1 p.2) (fun i => (oI (nrN R C hc (gx_pl_kd σ) pl i), nI i)) n (fun i m hi => by
    show fX12_nearestCall_b4 μ _ _ _ = fX12_nearestCall_l4 μ m (oI (nrS C hc (nrN R C hc (gx_pl_kd σ) pl i) (clO R C (gx_pl_kd σ i) (pl i)))) (nI (i + 1))
    obtain ⟨-, k2, k3, -⟩ := hp.2.2.2.2.2 i hi
    have hb := hlt i (by omega)
    have main : (gx_pl_kd σ i = 3 ∨ gx_pl_kd σ i = 4) → fX12_nearestCall_b32 μ (fX12_nearestCall_l4 μ m) (oI (nrN R C hc (gx_pl_kd σ) pl i)) (nI i) = fX12_nearestCall_l4 μ m (oI (nrS C hc (nrN R C hc (gx_pl_kd σ) pl i) (clO R C (gx_pl_kd σ i) (pl i)))) (nI (i + 1)) := by
      intro hk
      obtain ⟨c, e1, e2⟩ := m_callOf h h0 hp hi (g5 i hi).1 (g5 i hi).2 hk
      have hc' := clO_lt (g5 i hi).2 e1
      unfold fX12_nearestCall_b32 fX12_nearestCall_b92 fX12_nearestCall_b97 fX12_nearestCall_b98
      rw [e2, bindS, e1, nI_1]
      generalize nrN R C hc (gx_pl_kd σ) pl i = b at hb ⊢
      cases b with
      | none => rw [if_pos (show oI none = (-1 : Int32) from rfl)]; rfl
      | some b =>
        have hb' := hb b rfl
        have l1 := dsN_lt (R := R) (c := c) (r := hc / C + 1) (q := hc % C + 1) b7 (by omega) (by omega) (by omega) (by omega)
        have l2 := dsN_lt (R := R) (c := b) (r := hc / C + 1) (q := hc % C + 1) b7 (by omega) (by omega) (by omega) (by omega)
        rw [show oI (some b) = nI b from rfl, if_neg (nI_nm1 (by omega)), rm.2.2.2.2.2.1, g1]
        simp only [if_pos hc0]
        rw [pk_rem (by omega) (by omega) (by omega), pk_div (by omega) (by omega) (by omega), nI_s1 (hc / C), nI_s1 (hc % C), m_far rm hc' (by omega) (by omega), bindS, m_far rm hb' (by omega) (by omega), bindS]
        unfold nrS
        dsimp only
        by_cases g : dsN C c (hc / C + 1) (hc % C + 1) < dsN C b (hc / C + 1) (hc % C + 1)
        · rw [if_pos g, if_pos ((nI_ltI (by omega) (by omega)).mpr g)]; rfl
        · rw [if_neg g, if_neg (fun z => g ((nI_ltI (by omega) (by omega)).mp z))]; rfl
    unfold fX12_nearestCall_b4 fX12_nearestCall_b98
    rw [hp.2.2.2.1, if_pos (ltE i n hi (by omega)), if_pos (inb (show i < 6 by omega) (by decide)), if_pos (inb (show i < 6 by omega) (by decide)), cl_nI (by omega), k3]
    by_cases e3 : gx_pl_kd σ i = 3
    · rw [if_pos (show nI (gx_pl_kd σ i) = (3 : Int32) by rw [e3]; rfl)]
      exact main (Or.inl e3)
    · rw [if_neg (show ¬ nI (gx_pl_kd σ i) = (3 : Int32) from neE _ 3 e3 (by omega) (by decide))]
      by_cases e4 : gx_pl_kd σ i = 4
      · rw [if_pos (show nI (gx_pl_kd σ i) = (4 : Int32) by rw [e4]; rfl)]
        exact main (Or.inr e4)
      · rw [if_neg (show ¬ nI (gx_pl_kd σ i) = (4 : Int32) from neE _ 4 e4 (by omega) (by decide)), nI_1]
        have : clO R C (gx_pl_kd σ i) (pl i) = none := by unfold clO; rw [if_neg e3, if_neg e4]
        rw [this]; rfl) (1000 - n)
  rw [show 1000 - n + n = 1000 by omega] at L
  refine L.trans ?_
  rw [show 1000 - n = (999 - n) + 1 by omega]
  show fX12_nearestCall_b4 μ _ _ _ = _
  unfold fX12_nearestCall_b4
  rw [hp.2.2.2.1, if_neg (nltE _ _ (Nat.le_refl _) (by omega))]
theorem m_goB14 (h : RelRg N σ μ R C kn) (h0 : R ≠ 0) {hc y : Nat} (g1 : gm_gm_his μ = nI hc) (g2 : hc < R * C) (g3 : gm_gm_looks μ = nI y) {o : Option Nat} (ho : ∀ d, o = some d → d < R * C) (v : Int32) : fX12_goHim_b14 μ v (oI o) = fX12_goHim_b41 (sm_gm_looks μ (nI (lkW C hc y o))) v := by
  obtain ⟨rx, rm⟩ := rg_x h h0
  have h36 := rc36 h
  unfold fX12_goHim_b14
  have same : sm_gm_looks μ (nI y) = μ := by rw [← g3]; rfl
  cases o with
  | none => rw [if_pos (show oI none = (-1 : Int32) from rfl)]; exact congrArg (fun z => fX12_goHim_b41 z v) same.symm
  | some c =>
    have hc' := ho c rfl
    rw [show oI (some c) = nI c from rfl, if_neg (nI_nm1 (by omega)), g1]
    unfold lkW
    dsimp only
    by_cases e : c = hc
    · rw [if_pos (by rw [e]), if_pos e, same]
    · rw [if_neg (neE _ _ e (by omega) (by omega)), if_neg e, m_lies rm g2 hc', bindS, if_neg (fun q => e q.symm)]
end LOOK
