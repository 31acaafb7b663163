/-! ===== the game: what each of its steps does ===== -/
def RP (N R C : Nat) (kn w : Nat → Nat) (u n : Nat) (pg : Nat → Nat) (L : Nat) (σ : SX) (μ : SM) : Prop := RelRg N σ μ R C kn ∧ RelOd σ μ R C kn w u ∧ RelPl σ μ R C kn n ∧ RelNm σ μ n ∧ RelKp σ μ R C kn n ∧ RelPg σ μ pg L
/-- only what a game uses has changed -/
def KX (σ σ' : SX) : Prop := (∀ N R C kn w u n pg L μ, RP N R C kn w u n pg L σ μ → RP N R C kn w u n pg L σ' μ) ∧ gx_rd_firstCell σ' = gx_rd_firstCell σ ∧ gx_rd_firstWay σ' = gx_rd_firstWay σ ∧ gx_rd_drift σ' = gx_rd_drift σ ∧ gx_rd_tenths σ' = gx_rd_tenths σ
def KM (μ μ' : SM) : Prop := (∀ N R C kn w u n pg L σ, RP N R C kn w u n pg L σ μ → RP N R C kn w u n pg L σ μ') ∧ gm_gm_h μ' = gm_gm_h μ
theorem KX.refl (σ : SX) : KX σ σ := ⟨fun _ _ _ _ _ _ _ _ _ _ h => h, rfl, rfl, rfl, rfl⟩
theorem KM.refl (μ : SM) : KM μ μ := ⟨fun _ _ _ _ _ _ _ _ _ _ h => h, rfl⟩
theorem KX.trans {a b c : SX} (h : KX a b) (k : KX b c) : KX a c := ⟨fun N R C kn w u n pg L μ q => k.1 N R C kn w u n pg L μ (h.1 N R C kn w u n pg L μ q), k.2.1.trans h.2.1, k.2.2.1.trans h.2.2.1, k.2.2.2.1.trans h.2.2.2.1, k.2.2.2.2.trans h.2.2.2.2⟩
theorem KM.trans {a b c : SM} (h : KM a b) (k : KM b c) : KM a c := ⟨fun N R C kn w u n pg L σ q => k.1 N R C kn w u n pg L σ (h.1 N R C kn w u n pg L σ q), k.2.trans h.2⟩
theorem kx_at (σ : SX) (v : Nat → Int32) : KX σ (sx_pl_at σ v) := ⟨fun _ _ _ _ _ _ _ _ _ _ h => h, rfl, rfl, rfl, rfl⟩
theorem kx_cell (σ : SX) (v : Int32) : KX σ (sx_rd_hisCell σ v) := ⟨fun _ _ _ _ _ _ _ _ _ _ h => h, rfl, rfl, rfl, rfl⟩
theorem kx_way (σ : SX) (v : Int32) : KX σ (sx_rd_hisWay σ v) := ⟨fun _ _ _ _ _ _ _ _ _ _ h => h, rfl, rfl, rfl, rfl⟩
theorem kx_seed (σ : SX) (v : Int64) : KX σ (sx_rd_seed σ v) := ⟨fun _ _ _ _ _ _ _ _ _ _ h => h, rfl, rfl, rfl, rfl⟩
theorem kx_touched (σ : SX) (v : Int32) : KX σ (sx_rd_touched σ v) := ⟨fun _ _ _ _ _ _ _ _ _ _ h => h, rfl, rfl, rfl, rfl⟩
theorem kx_tenth (σ : SX) (v : Int32) : KX σ (sx_rd_tenth σ v) := ⟨fun _ _ _ _ _ _ _ _ _ _ h => h, rfl, rfl, rfl, rfl⟩
theorem km_place (μ : SM) (v : Nat → Int32) : KM μ (sm_gm_place μ v) := ⟨fun _ _ _ _ _ _ _ _ _ _ h => h, rfl⟩
theorem km_his (μ : SM) (v : Int32) : KM μ (sm_gm_his μ v) := ⟨fun _ _ _ _ _ _ _ _ _ _ h => h, rfl⟩
theorem km_looks (μ : SM) (v : Int32) : KM μ (sm_gm_looks μ v) := ⟨fun _ _ _ _ _ _ _ _ _ _ h => h, rfl⟩
theorem km_seed (μ : SM) (v : Int64) : KM μ (sm_gm_seedNow μ v) := ⟨fun _ _ _ _ _ _ _ _ _ _ h => h, rfl⟩
theorem km_touched (μ : SM) (v : Int32) : KM μ (sm_gm_touched μ v) := ⟨fun _ _ _ _ _ _ _ _ _ _ h => h, rfl⟩
theorem km_at (μ : SM) (v : Int32) : KM μ (sm_gm_touchedAt μ v) := ⟨fun _ _ _ _ _ _ _ _ _ _ h => h, rfl⟩
/-! how far one is; where one goes -/
def abI (x : Int32) : Int32 := if x < 0 then -x else x
theorem abA : ∀ x, x < 18 → ∀ r, r < 9 → abI (nI x - (nI r - 1)) = nI ((x + 1 - r) + (r - (x + 1))) := by decide +kernel
def dsN (C c r q : Nat) : Nat := ((c / C + 1 - r) + (r - (c / C + 1))) + ((c % C + 1 - q) + (q - (c % C + 1)))
theorem x_apart {σ : SX} {R C : Nat} {kn : Nat → Nat} (h : RgX σ R C kn) {c r q : Nat} (hc : c < R * C) (hr : r < 9) (hq : q < 9) : fX7_apart σ (nI c) (nI r - 1) (nI q - 1) = some (nI (dsN C c r q)) := by
  have h36 := rx36 h
  obtain ⟨-, -, a3, a4, -, hk, -⟩ := h
  have d1 : c / C ≤ c / 2 := Nat.div_le_div_left a3 (by decide)
  have m1 : c % C < C := Nat.mod_lt _ (by omega)
  have e1 := abA (c / C) (by omega) r hr
  have e2 := abA (c % C) (by omega) q hq
  unfold fX7_apart fX7_apart_b57 fX7_apart_b70
  rw [if_neg (nI_pos (by omega)), if_pos (show nI c < (36 : Int32) from ltE c 36 (by omega) (by decide)), if_pos (show nI c < (36 : Int32) from ltE c 36 (by omega) (by decide)), if_pos (inb (by omega) (by decide)), if_pos (inb (by omega) (by decide)), cl_nI (by omega), (hk c hc).2.2.1, (hk c hc).2.2.2]
  unfold dsN
  rw [← nI_add, ← e1, ← e2]
  unfold abI
  by_cases g1 : nI (c / C) - (nI r - 1) < 0
  · rw [if_pos g1, if_pos g1]
    by_cases g2 : nI (c % C) - (nI q - 1) < 0
    · rw [if_pos g2, if_pos g2]
    · rw [if_neg g2, if_neg g2]
  · rw [if_neg g1, if_neg g1]
    by_cases g2 : nI (c % C) - (nI q - 1) < 0
    · rw [if_pos g2, if_pos g2]
    · rw [if_neg g2, if_neg g2]
theorem m_size (x : Int32) : fX12_size x = some (abI x) := by
  simp only [fX12_size_b10, fX12_size]
  unfold abI
  split <;> rfl
theorem m_far {μ : SM} {R C : Nat} {kn : Nat → Nat} {qo : Option Nat} (h : RgM μ R C kn qo) {c r q : Nat} (hc : c < R * C) (hr : r < 9) (hq : q < 9) : fX12_far μ (nI c) (nI r - 1) (nI q - 1) = some (nI (dsN C c r q)) := by
  have h36 := rm36 h
  obtain ⟨-, -, a3, a4, -, hcc, -, -⟩ := h
  have d1 : c / C ≤ c / 2 := Nat.div_le_div_left a3 (by decide)
  have m1 : c % C < C := Nat.mod_lt _ (by omega)
  have e1 := abA (c / C) (by omega) r hr
  have e2 := abA (c % C) (by omega) q hq
  have hc0 : ¬ nI C = 0 := nI_ne0 (by omega) (by omega)
  unfold fX12_far
  rw [hcc, if_pos hc0, m_size, bindS, if_pos hc0, pk_rem (by omega) (by omega) (by omega), pk_div (by omega) (by omega) (by omega), m_size, bindS, e1, e2, nI_add]
  rfl
theorem dsN_lt {R C c r q : Nat} (h2 : 2 ≤ C) (h6 : C ≤ 6) (hc : c < 36) (hr : r < 9) (hq : q < 9) : dsN C c r q < 64 := by
  have d1 : c / C ≤ c / 2 := Nat.div_le_div_left h2 (by decide)
  have m1 : c % C < C := Nat.mod_lt _ (by omega)
  unfold dsN
  generalize c / C = a at *
  generalize c % C = b at *
  omega
/-- where one goes: far off, or near -/
def chS (fr : Bool) (C : Nat) (kn : Nat → Nat) (r q b : Nat) (o : Option Nat) : Nat := match o with
  | none => b
  | some d => if kn d < 2 ∧ (if fr then dsN C b r q < dsN C d r q else dsN C d r q < dsN C b r q) then d else b
def chN (fr : Bool) (R C : Nat) (kn : Nat → Nat) (r q c : Nat) : Nat → Nat
  | 0 => c
  | i + 1 => chS fr C kn r q (chN fr R C kn r q c i) (onN R C c i)
theorem chS_y {fr : Bool} {C : Nat} {kn : Nat → Nat} {r q b d : Nat} (k2 : kn d < 2) (g : if fr = true then dsN C b r q < dsN C d r q else dsN C d r q < dsN C b r q) : chS fr C kn r q b (some d) = d := if_pos ⟨k2, g⟩
theorem chS_n {fr : Bool} {C : Nat} {kn : Nat → Nat} {r q b d : Nat} (g : ¬ if fr = true then dsN C b r q < dsN C d r q else dsN C d r q < dsN C b r q) : chS fr C kn r q b (some d) = b := if_neg (fun z => g z.2)
theorem chS_k {fr : Bool} {C : Nat} {kn : Nat → Nat} {r q b d : Nat} (k2 : ¬ kn d < 2) : chS fr C kn r q b (some d) = b := if_neg (fun z => k2 z.1)
theorem chN_s (fr : Bool) (R C : Nat) (kn : Nat → Nat) (r q c i : Nat) : chN fr R C kn r q c (i + 1) = chS fr C kn r q (chN fr R C kn r q c i) (onN R C c i) := rfl
theorem chN_lt {fr : Bool} {R C : Nat} {kn : Nat → Nat} {r q c : Nat} (h1 : R < 7) (h2 : C < 7) (h3 : 2 ≤ R) (h4 : 2 ≤ C) (hc : c < R * C) : ∀ i, i ≤ 4 → chN fr R C kn r q c i < R * C
  | 0, _ => hc
  | i + 1, hi => by
    have ih := chN_lt (fr := fr) (kn := kn) (r := r) (q := q) h1 h2 h3 h4 hc i (by omega)
    have hon : ∀ d, onN R C c i = some d → d < R * C := fun d hd => on_lt h1 h2 h3 h4 hc (show i < 4 by omega) hd
    rw [chN_s]
    generalize onN R C c i = o at hon
    cases o with
    | none => exact ih
    | some d =>
      unfold chS
      dsimp only
      by_cases g : (kn d < 2 ∧ (if fr then dsN C (chN fr R C kn r q c i) r q < dsN C d r q else dsN C d r q < dsN C (chN fr R C kn r q c i) r q))
      · rw [if_pos g]; exact hon d rfl
      · rw [if_neg g]; exact ih
/-- is there a free cell -/
def frO (kn : Nat → Nat) (o : Option Nat) : Bool := match o with
  | none => false
  | some d => decide (kn d < 2)
def sgI (fr : Bool) (x : Int32) : Int32 := (if fr then -1 else 1) * x
theorem sgA : ∀ a, a < 64 → ∀ b, b < 64 → ((sgI true (nI a) < sgI true (nI b)) ↔ b < a) ∧ ((sgI false (nI a) < sgI false (nI b)) ↔ a < b) := by decide +kernel
theorem x_freeO {N : Nat} {σ : SX} {μ : SM} {R C : Nat} {kn : Nat → Nat} (h : RelRg N σ μ R C kn) {o : Option Nat} (ho : ∀ d, o = some d → d < R * C) : fX7_isFree σ (oI o) = some (zb (frO kn o)) ∧ fX12_isFree μ (oI o) = some (zb (frO kn o)) := by
  cases o with
  | none => exact ⟨x_isFreeN h (Or.inl (by decide)), m_isFreeN h (Or.inl (by decide))⟩
  | some d => exact ⟨x_isFree h (ho d rfl), m_isFree h (ho d rfl)⟩
theorem x_choose {N : Nat} {σ : SX} {μ : SM} {R C : Nat} {kn : Nat → Nat} (h : RelRg N σ μ R C kn) (h0 : R ≠ 0) {c r q : Nat} (fr : Bool) (hc : c < R * C) (hr : r < 9) (hq : q < 9) : fX7_choose σ (nI c) (nI r - 1) (nI q - 1) (if fr then -1 else 1) = some (nI (chN fr R C kn r q c 4)) := by
  obtain ⟨rx, rm⟩ := rg_x h h0
  have h36 := rx36 rx
  obtain ⟨q1, q2, q3, q4, -⟩ := id rx
  unfold fX7_choose
  rw [x_apart rx hc hr hq, bindS]
  have L := lp_go (fun n (p : Int32 × Int32 × Int32) => fX7_choose_l18 σ n (nI c) (nI r - 1) (nI q - 1) (if fr then -1 else 1) p.1 p.2.1 p.2.2) (fun i => (nI (chN fr R C kn r q c i), sgI fr (nI (dsN C (chN fr R C kn r q c i) r q)), nI i)) 4 (fun i n hi => by
    have ho : ∀ d, onN R C c i = some d → d < R * C := fun d hd => on_lt (by omega) (by omega) q1 q3 hc hi hd
    have hch := chN_lt (fr := fr) (kn := kn) (r := r) (q := q) (show R < 7 by omega) (show C < 7 by omega) q1 q3 hc i (by omega)
    show fX7_choose_b18 σ _ _ _ _ _ _ _ _ = fX7_choose_l18 σ n _ _ _ _ _ _ (nI (i + 1))
    unfold fX7_choose_b18 fX7_choose_b70
    have ha := x_ahead rx (c := c) (y := i) hc (by omega)
    rw [Nat.mod_eq_of_lt hi] at ha
    rw [if_pos (show nI i < (4 : Int32) from ltE i 4 hi (by decide)), ha, bindS, (x_freeO h ho).1, bindS, nI_1]
    show _ = fX7_choose_l18 σ n (nI c) (nI r - 1) (nI q - 1) (if fr then -1 else 1) (nI (chN fr R C kn r q c (i + 1))) (sgI fr (nI (dsN C (chN fr R C kn r q c (i + 1)) r q))) (nI (i + 1))
    rw [chN_s]
    generalize onN R C c i = o at ho
    cases o with
    | none => rw [if_pos (show zb (frO kn none) = 0 from rfl)]; rfl
    | some d =>
      have hd := ho d rfl
      by_cases k2 : kn d < 2
      · rw [show frO kn (some d) = true from decide_eq_true k2, if_neg (show ¬ zb true = 0 by decide)]
        show ((fX7_apart σ (nI d) (nI r - 1) (nI q - 1)).bind _) = _
        rw [x_apart rx hd hr hq, bindS]
        have l1 := dsN_lt (R := R) (c := d) q3 q4 (by omega) hr hq
        have l2 := dsN_lt (R := R) (c := chN fr R C kn r q c i) q3 q4 (by omega) hr hq
        have sA := sgA (dsN C d r q) l1 (dsN C (chN fr R C kn r q c i) r q) l2
        show (if sgI fr (nI (dsN C d r q)) < sgI fr (nI (dsN C (chN fr R C kn r q c i) r q)) then fX7_choose_l18 σ n (nI c) (nI r - 1) (nI q - 1) (if fr then -1 else 1) (nI d) (sgI fr (nI (dsN C d r q))) (nI (i + 1)) else _) = _
        cases fr with
        | true =>
          by_cases g : dsN C (chN true R C kn r q c i) r q < dsN C d r q
          · rw [chS_y (fr := true) k2 g, if_pos (sA.1.mpr g)]
          · rw [chS_n (fr := true) g, if_neg (fun z => g (sA.1.mp z))]
        | false =>
          by_cases g : dsN C d r q < dsN C (chN false R C kn r q c i) r q
          · rw [chS_y (fr := false) k2 (by simpa using g), if_pos (sA.2.mpr g)]
          · rw [chS_n (fr := false) (by simpa using g), if_neg (fun z => g (sA.2.mp z))]
      · rw [show frO kn (some d) = false from decide_eq_false k2, if_pos (show zb false = 0 from rfl), chS_k k2]) 996
  refine Eq.trans (show _ = fX7_choose_l18 σ (996 + 4) (nI c) (nI r - 1) (nI q - 1) (if fr then -1 else 1) (nI c) (sgI fr (nI (dsN C c r q))) (nI 0) from rfl) (L.trans ?_)
  show fX7_choose_b18 σ _ _ _ _ _ _ _ _ = _
  unfold fX7_choose_b18
  rw [if_neg (show ¬ nI 4 < (4 : Int32) by decide)]
theorem m_goes {N : Nat} {σ : SX} {μ : SM} {R C : Nat} {kn : Nat → Nat} (h : RelRg N σ μ R C kn) (h0 : R ≠ 0) {c r q : Nat} (fr : Bool) (hc : c < R * C) (hr : r < 9) (hq : q < 9) : fX12_goes μ (nI c) (nI r - 1) (nI q - 1) (if fr then 1 else 0) = some (nI (chN fr R C kn r q c 4)) := by
  obtain ⟨rx, rm⟩ := rg_x h h0
  have h36 := rx36 rx
  obtain ⟨q1, q2, q3, q4, -⟩ := id rx
  unfold fX12_goes
  have L := lp_go (fun n (p : Int32 × Int32) => fX12_goes_l6 μ n (nI c) (nI r - 1) (nI q - 1) (if fr then 1 else 0) p.1 p.2) (fun i => (nI (chN fr R C kn r q c i), nI i)) 4 (fun i n hi => by
    have ho : ∀ d, onN R C c i = some d → d < R * C := fun d hd => on_lt (by omega) (by omega) q1 q3 hc hi hd
    have hch := chN_lt (fr := fr) (kn := kn) (r := r) (q := q) (show R < 7 by omega) (show C < 7 by omega) q1 q3 hc i (by omega)
    show fX12_goes_b6 μ _ _ _ _ _ _ _ = fX12_goes_l6 μ n _ _ _ _ (nI (chN fr R C kn r q c (i + 1))) (nI (i + 1))
    unfold fX12_goes_b6 fX12_goes_b39 fX12_goes_b88 fX12_goes_b93 fX12_goes_b95
    rw [if_pos (show nI i < (4 : Int32) from ltE i 4 hi (by decide)), m_on rm hc hi, bindS, m_far rm hch hr hq, nI_1]
    rw [chN_s]
    generalize onN R C c i = o at ho
    cases o with
    | none => rw [if_pos (show oI none = (-1 : Int32) from rfl), bindS, if_pos (show oI none = (-1 : Int32) from rfl)]; rfl
    | some d =>
      have hd := ho d rfl
      have hf : fX12_isFree μ (nI d) = some (zb (decide (kn d < 2))) := m_isFree h hd
      show (if nI d = (-1 : Int32) then _ else (fX12_far μ (nI d) (nI r - 1) (nI q - 1)).bind fun r4 => (some (nI (dsN C (chN fr R C kn r q c i) r q))).bind fun r1 => if nI d = (-1 : Int32) then _ else (fX12_isFree μ (nI d)).bind fun r2 => _) = _
      rw [if_neg (nI_nm1 (by omega)), m_far rm hd hr hq, bindS, bindS, if_neg (nI_nm1 (by omega)), hf, bindS]
      have l1 := dsN_lt (R := R) (c := d) q3 q4 (by omega) hr hq
      have l2 := dsN_lt (R := R) (c := chN fr R C kn r q c i) q3 q4 (by omega) hr hq
      by_cases k2 : kn d < 2
      · rw [decide_eq_true k2, if_neg (show ¬ zb true = 0 by decide)]
        cases fr with
        | true =>
          rw [if_neg (show ¬ (if true = true then (1 : Int32) else 0) = 0 by decide)]
          by_cases g : dsN C (chN true R C kn r q c i) r q < dsN C d r q
          · rw [chS_y (fr := true) k2 g, if_pos ((nI_ltI (by omega) (by omega)).mpr g)]; rfl
          · rw [chS_n (fr := true) g, if_neg (fun z => g ((nI_ltI (by omega) (by omega)).mp z))]
        | false =>
          rw [if_pos (show (if false = true then (1 : Int32) else 0) = 0 by decide)]
          by_cases g : dsN C d r q < dsN C (chN false R C kn r q c i) r q
          · rw [chS_y (fr := false) k2 (by simpa using g), if_pos ((nI_ltI (by omega) (by omega)).mpr g)]; rfl
          · rw [chS_n (fr := false) (by simpa using g), if_neg (fun z => g ((nI_ltI (by omega) (by omega)).mp z))]
      · rw [decide_eq_false k2, if_pos (show zb false = 0 from rfl), chS_k k2]) 996
  refine Eq.trans (show _ = fX12_goes_l6 μ (996 + 4) (nI c) (nI r - 1) (nI q - 1) (if fr then 1 else 0) (nI c) (nI 0) from rfl) (L.trans ?_)
  show fX12_goes_b6 μ _ _ _ _ _ _ _ = _
  unfold fX12_goes_b6
  rw [if_neg (show ¬ nI 4 < (4 : Int32) by decide)]
