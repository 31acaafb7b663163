/-! ===== the players go ===== -/
def GS (R C n : Nat) (σ : SX) (μ : SM) (hc y : Nat) (pl : Nat → Nat) : Prop := gx_rd_hisCell σ = nI hc ∧ gm_gm_his μ = nI hc ∧ hc < R * C ∧ gx_rd_hisWay σ = nI y ∧ gm_gm_looks μ = nI y ∧ y < 4 ∧ gx_rd_seed σ = gm_gm_seedNow μ ∧ (∀ i, i < n → gx_pl_at σ i = nI (pl i) ∧ gm_gm_place μ i = nI (pl i) ∧ pl i < R * C) ∧ gx_rd_touched σ = -1 ∧ gm_gm_touched μ = -1
def brN (r y : Nat) : Nat := if y = 0 then r + 2 else if y = 2 then r else r + 1
def bcN (q y : Nat) : Nat := if y = 1 then q else if y = 3 then q + 2 else q + 1
theorem brX : ∀ r, r < 6 → ∀ y, y < 4 → nI r - ev_sf 1001 y = nI (brN r y) - 1 := by decide +kernel
theorem bcX : ∀ r, r < 6 → ∀ y, y < 4 → nI r - ev_sf 1002 y = nI (bcN r y) - 1 := by decide +kernel
theorem brM : ∀ r, r < 6 → ∀ y, y < 4 → nI r + (if nI y = 0 then (1 : Int32) else if nI y = 2 then -1 else 0) = nI (brN r y) - 1 := by decide +kernel
theorem bcM : ∀ r, r < 6 → ∀ y, y < 4 → nI r + (if nI y = 1 then (-1 : Int32) else if nI y = 3 then 1 else 0) = nI (bcN r y) - 1 := by decide +kernel
theorem br_lt {r y : Nat} (h : r < 6) : brN r y < 9 := by unfold brN; split; omega; split <;> omega
theorem bc_lt {r y : Nat} (h : r < 6) : bcN r y < 9 := by unfold bcN; split; omega; split <;> omega
theorem nI_s1 (r : Nat) : nI r = nI (r + 1) - 1 := (nI_pred r).symm
def goN (R C : Nat) (kn : Nat → Nat) (hc y k a : Nat) : Nat := if k = 1 ∨ k = 2 then chN true R C kn (hc / C + 1) (hc % C + 1) a 4 else if k = 5 then chN false R C kn (brN (hc / C) y) (bcN (hc % C) y) a 4 else a
section GO
variable {N : Nat} {σ : SX} {μ : SM} {R C : Nat} {kn : Nat → Nat} {n : Nat}
theorem rc_dm (h : RelRg N σ μ R C kn) (h0 : R ≠ 0) {c : Nat} (hc : c < R * C) : c / C < 6 ∧ c % C < 6 ∧ c < 36 ∧ R < 7 ∧ C < 7 ∧ 2 ≤ R ∧ 2 ≤ C := by
  have h36 := rc36 h
  obtain ⟨rx, -⟩ := rg_x h h0
  obtain ⟨q1, q2, q3, q4, -⟩ := id rx
  have a1 : c / C < R := Nat.div_lt_of_lt_mul (by rw [Nat.mul_comm]; exact hc)
  have a2 : c % C < C := Nat.mod_lt _ (by omega)
  omega
theorem goN_lt (h : RelRg N σ μ R C kn) (h0 : R ≠ 0) {hc y k a : Nat} (ha : a < R * C) : goN R C kn hc y k a < R * C := by
  obtain ⟨-, -, -, b1, b2, b3, b4⟩ := rc_dm h h0 ha
  unfold goN
  split
  · exact chN_lt b1 b2 b3 b4 ha 4 (Nat.le_refl _)
  · split
    · exact chN_lt b1 b2 b3 b4 ha 4 (Nat.le_refl _)
    · exact ha
theorem x_goOn (h : RelRg N σ μ R C kn) (h0 : R ≠ 0) {i hc y a : Nat} (hok : gx_pok σ (20 + i) = true) (hat : gx_pl_at σ i = nI a) (ha : a < R * C) (hhc : hc < R * C) (hy : y < 4) : ∃ f, d_goOn σ (20 + i) (nI (hc / C)) (nI (hc % C)) (nI y) = some (sx_pl_at σ f) ∧ f i = nI (goN R C kn hc y (gx_pl_kd σ i) a) ∧ ∀ j, j ≠ i → f j = gx_pl_at σ j := by
  obtain ⟨b1, b2, -, -⟩ := rc_dm h h0 hhc
  have hk := ox_kd hok
  rw [Nat.add_sub_cancel_left] at hk
  have c1 := x_choose h h0 (c := a) (r := hc / C + 1) (q := hc % C + 1) true ha (by omega) (by omega)
  have c2 := x_choose h h0 (c := a) (r := brN (hc / C) y) (q := bcN (hc % C) y) false ha (br_lt b1) (bc_lt b2)
  have c1' : fX7_choose σ (nI a) (nI (hc / C)) (nI (hc % C)) (-1) = some (nI (chN true R C kn (hc / C + 1) (hc % C + 1) a 4)) := by
    rw [nI_s1 (hc / C), nI_s1 (hc % C)]; exact c1
  have c2' : fX7_choose σ (nI a) (nI (hc / C) - ev_sf 1001 y) (nI (hc % C) - ev_sf 1002 y) 1 = some (nI (chN false R C kn (brN (hc / C) y) (bcN (hc % C) y) a 4)) := by
    rw [brX _ b1 y hy, bcX _ b2 y hy]; exact c2
  unfold d_goOn fX6_goOn fX9_goOn fX0_goOn
  rw [Nat.add_sub_cancel_left, hat, and3s y hy, cl_nI (by omega), c1', c2']
  simp only [hok, if_true, bindS, if_pos (inbN hy (show y < 2 ^ 31 by omega))]
  unfold goN
  generalize gx_pl_kd σ i = k at hk ⊢
  rcases (show k = 0 ∨ k = 1 ∨ k = 2 ∨ k = 3 ∨ k = 4 ∨ k = 5 by omega) with rfl | rfl | rfl | rfl | rfl | rfl
  · exact ⟨gx_pl_at σ, rfl, hat, fun _ _ => rfl⟩
  · exact ⟨_, rfl, updS, fun _ hj => updN hj⟩
  · exact ⟨_, rfl, updS, fun _ hj => updN hj⟩
  · exact ⟨gx_pl_at σ, rfl, hat, fun _ _ => rfl⟩
  · exact ⟨gx_pl_at σ, rfl, hat, fun _ _ => rfl⟩
  · exact ⟨_, rfl, updS, fun _ hj => updN hj⟩
theorem x_playersGo (h : RelRg N σ μ R C kn) (h0 : R ≠ 0) (hp : RelPl σ μ R C kn n) {hc y : Nat} {pl : Nat → Nat} (g1 : gx_rd_hisCell σ = nI hc) (g2 : hc < R * C) (g3 : gx_rd_hisWay σ = nI y) (g4 : y < 4) (g5 : ∀ i, i < n → gx_pl_at σ i = nI (pl i) ∧ pl i < R * C) : ∃ f, fX8_playersGo σ = some (sx_pl_at σ f) ∧ ∀ i, i < n → f i = nI (goN R C kn hc y (gx_pl_kd σ i) (pl i)) := by
  have h6 := hp.1
  obtain ⟨b1, b2, b3, -⟩ := rc_dm h h0 g2
  obtain ⟨rx, -⟩ := rg_x h h0
  unfold fX8_playersGo
  rw [g1, x_rowOf b3, bindS, x_columnOf b3, bindS, (rx.2.2.2.2.2.1 hc g2).2.2.1, (rx.2.2.2.2.2.1 hc g2).2.2.2]
  obtain ⟨⟨σ', x⟩, ⟨f, e, h1⟩, hL⟩ := lp_iv (fun m (p : SX × Int32) => fX8_playersGo_l36 m p.1 (nI (hc / C)) (nI (hc % C)) p.2) (fun i p => ∃ f, p = (sx_pl_at σ f, nI i) ∧ ∀ j, j < n → f j = nI (if j < i then goN R C kn hc y (gx_pl_kd σ j) (pl j) else pl j)) 6 (fun i m a hi ha => by
    obtain ⟨f, rfl, h1⟩ := ha
    by_cases hn : i < n
    · have hok : gx_pok (sx_pl_at σ f) (20 + i) = true := x_pok (σ := sx_pl_at σ f) (μ := μ) (R := R) (C := C) (kn := kn) hp hn
      have hat : gx_pl_at (sx_pl_at σ f) i = nI (pl i) := by
        have := h1 i hn
        rw [if_neg (Nat.lt_irrefl i)] at this
        exact this
      obtain ⟨f2, e1, e2, e3⟩ := x_goOn (σ := sx_pl_at σ f) (μ := μ) (N := N) (R := R) (C := C) (kn := kn) h h0 hok hat (g5 i hn).2 g2 g4
      refine ⟨(sx_pl_at σ f2, nI (i + 1)), ⟨f2, rfl, fun j hj => ?_⟩, ?_⟩
      · by_cases ej : j = i
        · subst ej
          rw [if_pos (Nat.lt_succ_self j)]; exact e2
        · refine (e3 j ej).trans ((h1 j hj).trans ?_)
          by_cases c : j < i
          · rw [if_pos c, if_pos (by omega)]
          · rw [if_neg c, if_neg (by omega)]
      · show fX8_playersGo_b36 _ (sx_pl_at σ f) _ _ _ = fX8_playersGo_l36 m (sx_pl_at σ f2) _ _ (nI (i + 1))
        unfold fX8_playersGo_b36 fX8_playersGo_b69
        have harr : gx_pl_arr (sx_pl_at σ f) i = some (20 + i) := by
          have := hp.2.2.2.2.1 i hi
          rw [if_pos hn] at this
          exact this
        have hw : gx_rd_hisWay (sx_pl_at σ f) = nI y := g3
        rw [if_pos (show nI i < (6 : Int32) from ltE i 6 hi (by decide)), if_pos (inb hi (by decide)), cl_nI (by omega), harr, hw]
        simp only [ev_q, hok, if_true, e1, bindS, nI_1]
        rfl
    · refine ⟨(sx_pl_at σ f, nI (i + 1)), ⟨f, rfl, fun j hj => ?_⟩, ?_⟩
      · rw [h1 j hj, if_pos (by omega), if_pos (by omega)]
      · show fX8_playersGo_b36 _ (sx_pl_at σ f) _ _ _ = fX8_playersGo_l36 m (sx_pl_at σ f) _ _ (nI (i + 1))
        unfold fX8_playersGo_b36 fX8_playersGo_b69
        have harr : gx_pl_arr (sx_pl_at σ f) i = none := by
          have := hp.2.2.2.2.1 i hi
          rw [if_neg hn] at this
          exact this
        rw [if_pos (show nI i < (6 : Int32) from ltE i 6 hi (by decide)), if_pos (inb hi (by decide)), cl_nI (by omega), harr]
        simp only [ev_q, nI_1]) 994 (σ, 0) ⟨gx_pl_at σ, rfl, fun j hj => by rw [if_neg (Nat.not_lt_zero j)]; exact (g5 j hj).1⟩
  cases e
  refine ⟨f, hL.trans ?_, fun i hi => by rw [h1 i hi, if_pos (by omega)]⟩
  show fX8_playersGo_b36 _ _ _ _ _ = _
  unfold fX8_playersGo_b36
  rw [if_neg (show ¬ nI 6 < (6 : Int32) by decide)]
theorem m_goPlayers (h : RelRg N σ μ R C kn) (h0 : R ≠ 0) (hp : RelPl σ μ R C kn n) {hc y : Nat} {pl : Nat → Nat} (g1 : gm_gm_his μ = nI hc) (g2 : hc < R * C) (g3 : gm_gm_looks μ = nI y) (g4 : y < 4) (g5 : ∀ i, i < n → gm_gm_place μ i = nI (pl i) ∧ pl i < R * C) : ∃ f, fX12_goPlayers μ = some (sm_gm_place μ f) ∧ ∀ i, i < n → f i = nI (goN R C kn hc y (gx_pl_kd σ i) (pl i)) := by
  have h6 := hp.1
  obtain ⟨b1, b2, b3, b4, b5, b6, b7⟩ := rc_dm h h0 g2
  obtain ⟨rx, rm⟩ := rg_x h h0
  have hc0 : ¬ nI C = 0 := nI_ne0 (by omega) (by omega)
  have hcc := rm.2.2.2.2.2.1
  have start : fX12_goPlayers μ = fX12_goPlayers_l79 1000 μ (nI (hc / C)) (nI (hc % C)) (nI (brN (hc / C) y) - 1) (nI (bcN (hc % C) y) - 1) 0 := by
    have r1 := brM (hc / C) b1 y g4
    have r2 := bcM (hc % C) b2 y g4
    unfold fX12_goPlayers fX12_goPlayers_b45 fX12_goPlayers_b73
    rw [hcc, if_pos hc0, if_pos hc0, g1, g3, pk_rem (by omega) (by omega) (by omega), pk_div (by omega) (by omega) (by omega), ← r1, ← r2]
    rcases (show y = 0 ∨ y = 1 ∨ y = 2 ∨ y = 3 by omega) with rfl | rfl | rfl | rfl <;> rfl
  rw [start]
  obtain ⟨⟨σ', x⟩, ⟨f, e, h1⟩, hL⟩ := lp_iv (fun m (p : SM × Int32) => fX12_goPlayers_l79 m p.1 (nI (hc / C)) (nI (hc % C)) (nI (brN (hc / C) y) - 1) (nI (bcN (hc % C) y) - 1) p.2) (fun i p => ∃ f, p = (sm_gm_place μ f, nI i) ∧ ∀ j, j < n → f j = nI (if j < i then goN R C kn hc y (gx_pl_kd σ j) (pl j) else pl j)) n (fun i m a hi ha => by
    obtain ⟨f, rfl, h1⟩ := ha
    obtain ⟨k1, k2, k3, -⟩ := hp.2.2.2.2.2 i hi
    have hat : f i = nI (pl i) := by
      have := h1 i hi
      rw [if_neg (Nat.lt_irrefl i)] at this
      exact this
    have ha := (g5 i hi).2
    have c1 := m_goes (σ := σ) (μ := sm_gm_place μ f) (N := N) (R := R) (C := C) (kn := kn) h h0 (c := pl i) (r := hc / C + 1) (q := hc % C + 1) true ha (by omega) (by omega)
    have c2 := m_goes (σ := σ) (μ := sm_gm_place μ f) (N := N) (R := R) (C := C) (kn := kn) h h0 (c := pl i) (r := brN (hc / C) y) (q := bcN (hc % C) y) false ha (br_lt b1) (bc_lt b2)
    have c1' : fX12_goes (sm_gm_place μ f) (nI (pl i)) (nI (hc / C)) (nI (hc % C)) 1 = some (nI (chN true R C kn (hc / C + 1) (hc % C + 1) (pl i) 4)) := by
      rw [nI_s1 (hc / C), nI_s1 (hc % C)]; exact c1
    have c2' : fX12_goes (sm_gm_place μ f) (nI (pl i)) (nI (brN (hc / C) y) - 1) (nI (bcN (hc % C) y) - 1) 0 = some (nI (chN false R C kn (brN (hc / C) y) (bcN (hc % C) y) (pl i) 4)) := c2
    have hkd : gm_pl_kindOf (sm_gm_place μ f) i = nI (gx_pl_kd σ i) := k3
    have hpl : gm_gm_place (sm_gm_place μ f) i = nI (pl i) := hat
    have hpn : gm_pl_players (sm_gm_place μ f) = nI n := hp.2.2.2.1
    have key : ∃ f2, fX12_goPlayers_l79 (m + 1) (sm_gm_place μ f) (nI (hc / C)) (nI (hc % C)) (nI (brN (hc / C) y) - 1) (nI (bcN (hc % C) y) - 1) (nI i) = fX12_goPlayers_l79 m (sm_gm_place μ f2) (nI (hc / C)) (nI (hc % C)) (nI (brN (hc / C) y) - 1) (nI (bcN (hc % C) y) - 1) (nI (i + 1)) ∧ f2 i = nI (goN R C kn hc y (gx_pl_kd σ i) (pl i)) ∧ ∀ j, j ≠ i → f2 j = f j := by
      show ∃ f2, fX12_goPlayers_b79 _ (sm_gm_place μ f) _ _ _ _ _ = _ ∧ _
      unfold fX12_goPlayers_b79 fX12_goPlayers_b110 fX12_goPlayers_b167
      rw [hpn, if_pos (ltE i n hi (by omega))]
      simp only [if_pos (inb (show i < 6 by omega) (show 6 < 2 ^ 31 by decide)), if_pos (inbN (show i < 6 by omega) (show i < 2 ^ 31 by omega)), cl_nI (show i < 2 ^ 31 by omega), hkd, hpl, c1', c2', bindS, nI_1]
      unfold goN
      generalize gx_pl_kd σ i = k at k2 ⊢
      rcases (show k = 0 ∨ k = 1 ∨ k = 2 ∨ k = 3 ∨ k = 4 ∨ k = 5 by omega) with rfl | rfl | rfl | rfl | rfl | rfl
      · exact ⟨f, rfl, hat, fun _ _ => rfl⟩
      · exact ⟨_, rfl, updS, fun _ hj => updN hj⟩
      · exact ⟨_, rfl, updS, fun _ hj => updN hj⟩
      · exact ⟨f, rfl, hat, fun _ _ => rfl⟩
      · exact ⟨f, rfl, hat, fun _ _ => rfl⟩
      · exact ⟨_, rfl, updS, fun _ hj => updN hj⟩
    obtain ⟨f2, e1, e2, e3⟩ := key
    refine ⟨(sm_gm_place μ f2, nI (i + 1)), ⟨f2, rfl, fun j hj => ?_⟩, e1⟩
    by_cases ej : j = i
    · subst ej
      rw [if_pos (Nat.lt_succ_self j)]; exact e2
    · refine (e3 j ej).trans ((h1 j hj).trans ?_)
      by_cases c : j < i
      · rw [if_pos c, if_pos (by omega)]
      · rw [if_neg c, if_neg (by omega)]) (1000 - n) (μ, 0) ⟨gm_gm_place μ, rfl, fun j hj => by rw [if_neg (Nat.not_lt_zero j)]; exact (g5 j hj).1⟩
  cases e
  rw [show 1000 - n + n = 1000 by omega] at hL
  refine ⟨f, hL.trans ?_, fun i hi => by rw [h1 i hi, if_pos hi]⟩
  rw [show 1000 - n = (999 - n) + 1 by omega]
  show fX12_goPlayers_b79 _ (sm_gm_place μ f) _ _ _ _ _ = _
  unfold fX12_goPlayers_b79
  have hpn : gm_pl_players (sm_gm_place μ f) = nI n := hp.2.2.2.1
  rw [hpn, if_neg (nltE _ _ (Nat.le_refl _) (by omega))]
end GO
