/-! ===== stand ===== -/
def tX (p : Nat) (σ : SX) (a : Nat) : SX := sx_pl_told σ (upd (gx_pl_told σ) p (nI a))
def tM (p : Nat) (μ : SM) (a : Nat) : SM := sm_pl_placeOf μ (upd (gm_pl_placeOf μ) p (nI a))
theorem upd2 {f : Nat → Int32} {k : Nat} {x y : Int32} : upd (upd f k x) k y = upd f k y := by
  funext j
  by_cases e : j = k
  · subst e; rw [updS, updS]
  · rw [updN e, updN e, updN e]
theorem tX_tX (p : Nat) (σ : SX) (a b : Nat) : tX p (tX p σ a) b = tX p σ b := by
  show sx_pl_told σ (upd (upd (gx_pl_told σ) p (nI a)) p (nI b)) = sx_pl_told σ _
  rw [upd2]
theorem tM_tM (p : Nat) (μ : SM) (a b : Nat) : tM p (tM p μ a) b = tM p μ b := by
  show sm_pl_placeOf μ (upd (upd (gm_pl_placeOf μ) p (nI a)) p (nI b)) = sm_pl_placeOf μ _
  rw [upd2]
section STAND
variable {N R C : Nat} {kn w : Nat → Nat} {u n : Nat} {pg : Nat → Nat} {L : Nat}
theorem rp_told {σ : SX} {μ : SM} (h : RP N R C kn w u n pg L σ μ) {p a : Nat} (ha : frC R C kn a) : RP N R C kn w u n pg L (tX p σ a) (tM p μ a) := by
  obtain ⟨r1, r2, r3, r4, r5, r6⟩ := h
  obtain ⟨g1, g2, g3, g4, g5, g6⟩ := r3
  refine ⟨r1, r2, ⟨g1, g2, g3, g4, g5, fun i hi => ?_⟩, r4, r5, r6⟩
  obtain ⟨j1, j2, j3, j4, j5⟩ := g6 i hi
  refine ⟨j1, j2, j3, ?_, j5⟩
  by_cases e : i = p
  · subst e
    exact ⟨a, ha, updS, updS⟩
  · obtain ⟨o, q1, q2, q3⟩ := j4
    exact ⟨o, q1, (updN e).trans q2, (updN e).trans q3⟩
theorem bg_told {σ : SX} {hc y d t : Nat} (h : BgX σ hc y d t) (p a : Nat) : BgX (tX p σ a) hc y d t := h
theorem m_standS {k103 : SM → Int32 → Int32 → Int32 → Int32 → Int32 → Int32 → Int32 → Int32 → Int32 → Int32 → Option (Int32 × SM)} {p a b c t v7 v8 v9 v10 : Int32} {m : Nat} (hm : m ≤ 20) (k : Nat) : ∀ (μ μ' : SM) (x i X f : Nat), i + k = m → mqS a b c t p k μ x i = some (X, μ') → fX12_stand_l135 k103 (f + k + 1) μ p a b c t (nI m) v7 v8 v9 v10 (nI x) (nI i) = if nI X < v9 then k103 μ' p a b c t (nI m) v7 v10 (nI X) (v10 + 1) else k103 μ' p a b c t (nI m) v7 v8 v9 (v10 + 1) := by
  induction k with
  | zero =>
    intro μ μ' x i X f hi e
    cases e
    show fX12_stand_b135 _ _ _ _ _ _ _ _ _ _ _ _ _ _ _ = _
    unfold fX12_stand_b135 fX12_stand_b192 fX12_stand_b208 fX12_stand_b210
    rw [if_neg (nltE i m (by omega) (by omega))]
    by_cases q : nI x < v9
    · rw [if_pos q, if_pos q, if_pos q]
    · rw [if_neg q, if_neg q, if_neg q]
  | succ k ih =>
    intro μ μ' x i X f hi e
    have e0 : fX12_stand_l135 k103 (f + (k + 1) + 1) μ p a b c t (nI m) v7 v8 v9 v10 (nI x) (nI i) = fX12_stand_b135 k103 (fX12_stand_l135 k103 (f + k + 1)) μ p a b c t (nI m) v7 v8 v9 v10 (nI x) (nI i) := rfl
    rw [e0]
    unfold fX12_stand_b135 fX12_stand_b169
    rw [if_pos (ltE i m (by omega) (by omega))]
    change (fX12_play μ a b c (nI i) t).bind (fun μ' => mqS a b c t p k μ' (x + if gm_gm_touched μ' = p then 1 else 0) (i + 1)) = some (X, μ') at e
    cases hp : fX12_play μ a b c (nI i) t with
    | none => rw [hp] at e; cases e
    | some μ1 =>
      rw [hp, bindS] at e
      rw [bindS]
      have g1 := ih μ1 μ' _ (i + 1) X f (by omega) e
      by_cases q : gm_gm_touched μ1 = p
      · rw [if_pos q] at g1 ⊢
        rw [nI_1, nI_1]; exact g1
      · rw [if_neg q] at g1 ⊢
        rw [nI_1]
        exact (congrArg (fun z => fX12_stand_l135 k103 (f + k + 1) μ1 p a b c t (nI m) v7 v8 v9 v10 z (nI (i + 1))) (nI_add x 0)).trans g1
/-- one cell of the reference's loop -/
theorem m_standC {σ : SX} {μ : SM} (h0 : R ≠ 0) {hc y d t p m b0 c f : Nat} {v8 v9 : Int32} (hhc : hc < R * C) (hy : y < 4) (ht : 1 ≤ t) (ht2 : t ≤ 200) (hp : p < n) (hm : m ≤ 9) (hP : RP N R C kn w u n pg L σ μ) (bg : BgX σ hc y d t) (hc' : c < R * C) : (¬ kn c < 2 ∧ fX12_stand_l103 (f + 1) μ (nI p) (nI hc) (nI y) (nI d) (nI t) (nI m) (nI b0) v8 v9 (nI c) = fX12_stand_l103 f μ (nI p) (nI hc) (nI y) (nI d) (nI t) (nI m) (nI b0) v8 v9 (nI (c + 1))) ∨ (kn c < 2 ∧ ∃ X μ', mqS (nI hc) (nI y) (nI d) (nI t) (nI p) m (tM p μ c) 0 0 = some (X, μ') ∧ X ≤ m ∧ RP N R C kn w u n pg L (tX p σ c) μ' ∧ fX12_stand_l103 (f + 1) μ (nI p) (nI hc) (nI y) (nI d) (nI t) (nI m) (nI b0) v8 v9 (nI c) = if nI X < v9 then fX12_stand_l103 f μ' (nI p) (nI hc) (nI y) (nI d) (nI t) (nI m) (nI b0) (nI c) (nI X) (nI (c + 1)) else fX12_stand_l103 f μ' (nI p) (nI hc) (nI y) (nI d) (nI t) (nI m) (nI b0) v8 v9 (nI (c + 1))) := by
  have h36 := rc36 hP.1
  have h6 := hP.2.2.1.1
  have e0 : fX12_stand_l103 (f + 1) μ (nI p) (nI hc) (nI y) (nI d) (nI t) (nI m) (nI b0) v8 v9 (nI c) = fX12_stand_b103 (fX12_stand_l103 f) μ (nI p) (nI hc) (nI y) (nI d) (nI t) (nI m) (nI b0) v8 v9 (nI c) := rfl
  rw [e0]
  unfold fX12_stand_b103 fX12_stand_b210
  rw [m_cells hP.1, bindS, if_pos (ltE c _ hc' (by omega)), m_isFree hP.1 hc', bindS]
  by_cases k2 : kn c < 2
  · refine Or.inr ⟨k2, ?_⟩
    rw [decide_eq_true k2, if_neg (show ¬ zb true = 0 by decide), if_pos (inb (show p < 6 by omega) (by decide)), cl_nI (by omega)]
    have hPc := rp_told hP (p := p) (show frC R C kn c from ⟨hc', k2⟩)
    obtain ⟨X, μ', f1, f2, f3, f4⟩ := mqS_tot h0 hhc hy ht ht2 (nI p) m (tX p σ c) (tM p μ c) 0 0 hPc (bg_told bg p c)
    refine ⟨X, μ', f1, by omega, f2.1 _ _ _ _ _ _ _ _ _ _ hPc, ?_⟩
    have g := m_standS (k103 := fX12_stand_l103 f) (v7 := nI b0) (v8 := v8) (v9 := v9) (v10 := nI c) (show m ≤ 20 by omega) m (tM p μ c) μ' 0 0 X (999 - m) (by omega) f1
    rw [show 999 - m + m + 1 = 1000 by omega, nI_1] at g
    exact g
  · refine Or.inl ⟨k2, ?_⟩
    rw [decide_eq_false k2, if_pos (show zb false = 0 from rfl), nI_1]
theorem m_standE {σ : SX} {μ : SM} {p f : Nat} {a b c t m v7 v8 v9 : Int32} (hP : RP N R C kn w u n pg L σ μ) (hp : p < n) : fX12_stand_l103 (f + 1) μ (nI p) a b c t m v7 v8 v9 (nI (R * C)) = some (v8, sm_pl_placeOf μ (upd (gm_pl_placeOf μ) p v7)) := by
  have h36 := rc36 hP.1
  have h6 := hP.2.2.1.1
  show fX12_stand_b103 _ _ _ _ _ _ _ _ _ _ _ _ = _
  unfold fX12_stand_b103
  rw [m_cells hP.1, bindS, if_neg (nltE _ _ (Nat.le_refl _) (by omega)), if_pos (inb (show p < 6 by omega) (by decide)), cl_nI (by omega)]
/-- the reference goes on where nothing can be better -/
theorem stand_tail (h0 : R ≠ 0) {hc y d t p m b0 : Nat} {v8 : Int32} (hhc : hc < R * C) (hy : y < 4) (ht : 1 ≤ t) (ht2 : t ≤ 200) (hp : p < n) (hm : m ≤ 9) (k : Nat) : ∀ (σ : SX) (μ : SM) (c f : Nat), c + k = R * C → RP N R C kn w u n pg L σ μ → BgX σ hc y d t → ∃ μ', fX12_stand_l103 (f + k + 1) μ (nI p) (nI hc) (nI y) (nI d) (nI t) (nI m) (nI b0) v8 (nI 0) (nI c) = some (v8, tM p μ' b0) ∧ ∀ b, frC R C kn b → RP N R C kn w u n pg L (tX p σ b) (tM p μ' b) := by
  induction k with
  | zero =>
    intro σ μ c f hc' hP bg
    obtain rfl : c = R * C := by omega
    exact ⟨μ, m_standE hP hp, fun b hb => rp_told hP hb⟩
  | succ k ih =>
    intro σ μ c f hc' hP bg
    rcases m_standC (f := f + k + 1) (b0 := b0) (v8 := v8) (v9 := nI 0) h0 hhc hy ht ht2 hp hm hP bg (show c < R * C by omega) with ⟨k2, e⟩ | ⟨k2, X, μ1, e1, e2, e3, e4⟩
    · obtain ⟨μ', g1, g2⟩ := ih σ μ (c + 1) f (by omega) hP bg
      exact ⟨μ', e.trans g1, g2⟩
    · rw [if_neg (nltE X 0 (Nat.zero_le _) (by omega))] at e4
      obtain ⟨μ', g1, g2⟩ := ih (tX p σ c) μ1 (c + 1) f (by omega) e3 (bg_told bg p c)
      refine ⟨μ', e4.trans g1, fun b hb => ?_⟩
      have := g2 b hb
      rw [tX_tX] at this
      exact this
theorem x_standE {σ : SX} {p f : Nat} {v1 v6 v9 v10 v11 : Int32} {b0 : Nat} (hok : gx_pok σ (20 + p) = true) (h : ¬ v11 < gx_rg_size σ ∨ ¬ 0 < v10) : fX11_stand_l109 (f + 1) σ v1 v6 (20 + p) (nI b0) v9 v10 v11 = some (v9, tX p σ b0) := by
  show fX11_stand_b109 _ _ _ _ _ _ _ _ _ = _
  unfold fX11_stand_b109 fX11_stand_b190
  simp only [hok, if_true, Nat.add_sub_cancel_left]
  by_cases c : v11 < gx_rg_size σ
  · rw [if_pos c]
    rcases h with h | h
    · exact absurd c h
    · rw [if_neg h]; rfl
  · rw [if_neg c]; rfl
theorem stand_sim (h0 : R ≠ 0) {hc y d t p m b0 : Nat} (hhc : hc < R * C) (hy : y < 4) (ht : 1 ≤ t) (ht2 : t ≤ 200) (hp : p < n) (hm : m ≤ 9) (k : Nat) : ∀ (σ : SX) (μ : SM) (c f f' F G : Nat) (v : Int32), c + k = R * C → RP N R C kn w u n pg L σ μ → BgX σ hc y d t → F ≤ m + 1 → (F = G ∨ F = m + 1 ∧ G = 268435456) → ∃ r σ' μ', fX11_stand_l109 (f + k + 1) σ (nI p) (nI m) (20 + p) (nI b0) v (nI F) (nI c) = some (r, tX p σ' b0) ∧ fX12_stand_l103 (f' + k + 1) μ (nI p) (nI hc) (nI y) (nI d) (nI t) (nI m) (nI b0) v (nI G) (nI c) = some (r, tM p μ' b0) ∧ ∀ b, frC R C kn b → RP N R C kn w u n pg L (tX p σ' b) (tM p μ' b) := by
  induction k with
  | zero =>
    intro σ μ c f f' F G v hc' hP bg hF hG
    obtain rfl : c = R * C := by omega
    have h36 := rc36 hP.1
    exact ⟨v, σ, μ, x_standE (x_pok hP.2.2.1 hp) (Or.inl (by rw [hP.1.2.2.2.1]; exact nltE _ _ (Nat.le_refl _) (by omega))), m_standE hP hp, fun b hb => rp_told hP hb⟩
  | succ k ih =>
    intro σ μ c f f' F G v hc' hP bg hF hG
    have h36 := rc36 hP.1
    have hcl : c < R * C := by omega
    have hok := x_pok hP.2.2.1 hp
    by_cases hF0 : F = 0
    · subst hF0
      obtain rfl : G = 0 := by omega
      obtain ⟨μ', g1, g2⟩ := stand_tail (b0 := b0) (v8 := v) h0 hhc hy ht ht2 hp hm (k + 1) σ μ c f' hc' hP bg
      exact ⟨v, σ, μ', x_standE hok (Or.inr (by decide)), g1, g2⟩
    have ex : fX11_stand_l109 (f + (k + 1) + 1) σ (nI p) (nI m) (20 + p) (nI b0) v (nI F) (nI c) = if zb (decide (kn c < 2)) = 0 then fX11_stand_l109 (f + k + 1) σ (nI p) (nI m) (20 + p) (nI b0) v (nI F) (nI (c + 1)) else (fX8_seedsThatTouch (tX p σ c) (nI p) (nI m) (nI F)).bind fun r7 => if r7.1 < nI F then fX11_stand_l109 (f + k + 1) r7.2 (nI p) (nI m) (20 + p) (nI b0) (nI c) (if nI F < r7.1 then nI F else r7.1) (nI (c + 1)) else fX11_stand_l109 (f + k + 1) r7.2 (nI p) (nI m) (20 + p) (nI b0) v (if nI F < r7.1 then nI F else r7.1) (nI (c + 1)) := by
      show fX11_stand_b109 _ _ _ _ _ _ _ _ _ = _
      unfold fX11_stand_b109 fX11_stand_b184 fX11_stand_b173 fX11_stand_b184
      rw [hP.1.2.2.2.1, if_pos (ltE c _ hcl (by omega)), if_pos (show (0 : Int32) < nI F from ltE 0 F (by omega) (by omega)), x_isFree hP.1 hcl, bindS, nI_1]
      simp only [hok, if_true, Nat.add_sub_cancel_left]
      rfl
    rw [ex]
    rcases m_standC (f := f' + k + 1) (b0 := b0) (v8 := v) (v9 := nI G) h0 hhc hy ht ht2 hp hm hP bg hcl with ⟨k2, e⟩ | ⟨k2, X, μ1, e1, e2, e3, e4⟩
    · rw [if_pos (by rw [decide_eq_false k2]; rfl), show f' + (k + 1) + 1 = f' + k + 1 + 1 from rfl, e]
      exact ih σ μ (c + 1) f f' F G v (by omega) hP bg hF hG
    · have hPc := rp_told hP (p := p) (show frC R C kn c from ⟨hcl, k2⟩)
      obtain ⟨σ1, g1, g2⟩ := x_seeds h0 hhc hy ht ht2 (nI p) (show m ≤ 20 by omega) (show F ≤ 20 by omega) m (tX p σ c) (tM p μ c) μ1 0 0 X (999 - m) (by omega) (Nat.zero_le _) hPc (bg_told bg p c) e1
      rw [show 999 - m + m + 1 = 1000 by omega] at g1
      have g1' : fX8_seedsThatTouch (tX p σ c) (nI p) (nI m) (nI F) = some (nI (min X F), σ1) := g1
      have hP1 : RP N R C kn w u n pg L σ1 μ1 := g2.1 _ _ _ _ _ _ _ _ _ _ e3
      rw [if_neg (by rw [decide_eq_true k2]; decide), g1', bindS, show f' + (k + 1) + 1 = f' + k + 1 + 1 from rfl, e4]
      dsimp only
      have hmin : (if nI F < nI (min X F) then nI F else nI (min X F)) = nI (min X F) := if_neg (nltE _ _ (by omega) (by omega))
      rw [hmin]
      by_cases q : X < F
      · rw [if_pos (ltE (min X F) F (by omega) (by omega)), if_pos (ltE X G (by omega) (by omega)), Nat.min_eq_left (by omega : X ≤ F)]
        exact ih σ1 μ1 (c + 1) f f' X X (nI c) (by omega) hP1 ((bg_told bg p c).k g2) (by omega) (Or.inl rfl)
      · have hFG : F = G := by
          rcases hG with h | ⟨h, -⟩
          · exact h
          · omega
        subst hFG
        rw [if_neg (nltE (min X F) F (by omega) (by omega)), if_neg (nltE X F (by omega) (by omega)), Nat.min_eq_right (by omega : F ≤ X)]
        exact ih σ1 μ1 (c + 1) f f' F F v (by omega) hP1 ((bg_told bg p c).k g2) hF (Or.inl rfl)
end STAND
theorem rp_ask {N R C : Nat} {kn w : Nat → Nat} {u n : Nat} {pg : Nat → Nat} {L : Nat} {σ : SX} {μ : SM} (h : RP N R C kn w u n pg L σ μ) {s : Nat} (hs : s ≤ 20) : RP N R C kn w u n pg L (sx_tp_standsDone σ (nI s)) (sm_nm_asks μ (nI s)) := by
  obtain ⟨r1, r2, r3, r4, r5, r6⟩ := h
  obtain ⟨a1, a2, a3, a4, a5, a6, a7, -⟩ := r4
  exact ⟨r1, r2, r3, ⟨a1, a2, a3, a4, a5, a6, a7, s, hs, rfl, rfl⟩, r5, r6⟩
theorem sim_stand (N : Nat) (z a b c e q : Int32) : SimW N (fun σ => fX11_stand σ z a b c e q) (fun μ => fX12_stand μ z a b c e q) := by
  intro σ μ hR
  have hR1 := hR.mono (Nat.le_succ N)
  obtain ⟨R, C, kn, w, u, n, pg, L, r1, r2, r3, r4, r5, r6⟩ := id hR
  have hP0 : RP N R C kn w u n pg L σ μ := ⟨r1, r2, r3, r4, r5, r6⟩
  have h36 := rc36 r1
  simp only [fX11_stand_b190, fX11_stand_b184, fX11_stand_b173, fX11_stand_b109, fX11_stand_b52, fX11_stand_b23, fX11_stand, fX12_stand_b210, fX12_stand_b208, fX12_stand_b192, fX12_stand_b169, fX12_stand_b135, fX12_stand_b103, fX12_stand_b59, fX12_stand_b16, fX12_stand, p_isWay, p_mayStart]
  rcases xm_player r3 z with ⟨j1, j2⟩ | ⟨p, hp, hp6, rfl, j1, j2, hok⟩
  · simp only [j1, j2, bindS, ev_q, i00]; exact ⟨_, _, _, rfl, rfl, hR1⟩
  simp only [j1, j2, bindS, ev_q, i10]
  rcases xm_free r1 a with ⟨h1, h2⟩ | ⟨hc, hf, rfl, h1, h2⟩
  · simp only [h1, h2, bindS, i00]; exact ⟨_, _, _, rfl, rfl, hR1⟩
  simp only [h1, h2, bindS, i10, p_isWithin, p_within, zb_if]
  have h0 : R ≠ 0 := fun q => by have := hf.1; rw [q, Nat.zero_mul] at this; omega
  by_cases k1 : ¬ b < 0 ∧ ¬ (3 : Int32) < b
  rotate_left
  · simp only [decide_eq_false k1, decide_eq_false (fun z => k1 z.1 : ¬ ((¬ b < 0 ∧ ¬ (3 : Int32) < b) ∧ (¬ c < 0 ∧ ¬ (9 : Int32) < c) ∧ ¬ e < (1 : Int32) ∧ ¬ (50 : Int32) < e))]; exact ⟨_, _, _, rfl, rfl, hR1⟩
  by_cases k2 : ¬ c < 0 ∧ ¬ (9 : Int32) < c
  rotate_left
  · simp only [decide_eq_true k1, decide_eq_false k2, decide_eq_false (fun z => k2 z.2.1 : ¬ ((¬ b < 0 ∧ ¬ (3 : Int32) < b) ∧ (¬ c < 0 ∧ ¬ (9 : Int32) < c) ∧ ¬ e < (1 : Int32) ∧ ¬ (50 : Int32) < e))]; exact ⟨_, _, _, rfl, rfl, hR1⟩
  by_cases k3 : ¬ e < (1 : Int32) ∧ ¬ (50 : Int32) < e
  rotate_left
  · simp only [decide_eq_true k1, decide_eq_true k2, decide_eq_false k3, decide_eq_false (fun z => k3 z.2.2 : ¬ ((¬ b < 0 ∧ ¬ (3 : Int32) < b) ∧ (¬ c < 0 ∧ ¬ (9 : Int32) < c) ∧ ¬ e < (1 : Int32) ∧ ¬ (50 : Int32) < e))]; exact ⟨_, _, _, rfl, rfl, hR1⟩
  simp only [decide_eq_true k1, decide_eq_true k2, decide_eq_true k3, decide_eq_true (⟨k1, k2, k3⟩ : (¬ b < 0 ∧ ¬ (3 : Int32) < b) ∧ (¬ c < 0 ∧ ¬ (9 : Int32) < c) ∧ ¬ e < (1 : Int32) ∧ ¬ (50 : Int32) < e), if_true]
  by_cases k4 : q < (1 : Int32)
  · simp only [if_pos k4, decide_eq_false (fun z => z.1 k4 : ¬ (¬ q < (1 : Int32) ∧ ¬ (9 : Int32) < q))]; exact ⟨_, _, _, rfl, rfl, hR1⟩
  by_cases k5 : (9 : Int32) < q
  · simp only [if_neg k4, if_pos k5, decide_eq_false (fun z => z.2 k5 : ¬ (¬ q < (1 : Int32) ∧ ¬ (9 : Int32) < q))]; exact ⟨_, _, _, rfl, rfl, hR1⟩
  simp only [if_neg k4, if_neg k5, decide_eq_true (⟨k4, k5⟩ : ¬ q < (1 : Int32) ∧ ¬ (9 : Int32) < q), if_true]
  obtain ⟨y, hy, rfl⟩ := in_range (m := 3) (by decide) k1
  obtain ⟨d, hd, rfl⟩ := in_range (m := 9) (by decide) k2
  obtain ⟨t, ht1, ht2, rfl⟩ := in_range1 (m := 50) (by decide) k3
  obtain ⟨m, hm1, hm2, rfl⟩ := in_range1 (m := 9) (by decide) ⟨k4, k5⟩
  obtain ⟨s, hs, s1, s2⟩ := r4.2.2.2.2.2.2.2
  rw [s1, s2]
  by_cases hs20 : s = 20
  · subst hs20
    rw [if_neg (show ¬ nI 20 < (20 : Int32) by decide), if_pos (show nI 20 = (20 : Int32) from rfl)]; exact ⟨_, _, _, rfl, rfl, hR1⟩
  rw [if_pos (show nI s < (20 : Int32) from ltE s 20 (by omega) (by decide)), if_neg (show ¬ nI s = (20 : Int32) from neE s 20 hs20 (by omega) (by decide)), nI_1, if_pos (inb hp6 (by decide)), cl_nI (by omega)]
  have hPs := rp_ask hP0 (s := s + 1) (by omega)
  obtain ⟨σ1, e1, p1, bg⟩ := x_begin (sx_tp_standsDone σ (nI (s + 1))) hc y d t
  have hP : RP N R C kn w u n pg L σ1 (sm_nm_asks μ (nI (s + 1))) := p1 _ _ _ _ _ _ _ _ _ _ hPs
  have hok1 := x_pok hP.2.2.1 hp
  obtain ⟨-, -, -, ⟨b0, w1, w2, w3⟩, -⟩ := hP.2.2.1.2.2.2.2.2 p hp
  have w3' : gm_pl_placeOf μ p = nI b0 := w3
  rw [e1, bindS, if_pos hok1, Nat.add_sub_cancel_left, w2, w3', nI_lit1]
  obtain ⟨r, σ', μ', g1, g2, g3⟩ := stand_sim (b0 := b0) h0 hf.1 (show y < 4 by omega) ht1 (show t ≤ 200 by omega) hp hm2 (R * C) σ1 (sm_nm_asks μ (nI (s + 1))) 0 (999 - R * C) (999 - R * C) (m + 1) 268435456 (-1) (by omega) hP bg (Nat.le_refl _) (Or.inr ⟨rfl, rfl⟩)
  rw [show 999 - R * C + R * C + 1 = 1000 by omega] at g1 g2
  have g1' : fX11_stand_l109 1000 σ1 (nI p) (nI m) (20 + p) (nI b0) (-1) (nI (m + 1)) 0 = some (r, tX p σ' b0) := g1
  have g2' : fX12_stand_l103 1000 (sm_nm_asks μ (nI (s + 1))) (nI p) (nI hc) (nI y) (nI d) (nI t) (nI m) (nI b0) (-1) 268435456 0 = some (r, tM p μ' b0) := g2
  rw [g1', g2']
  exact ⟨_, _, _, rfl, rfl, rp_rel (g3 b0 w1)⟩
