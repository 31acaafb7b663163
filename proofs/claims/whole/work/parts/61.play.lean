/-! ===== he goes, he touches; a game ===== -/
def dnI (s : Int64) : Int64 := ((1103515245 : Int64) * s + (12345 : Int64)) &&& (2147483647 : Int64)
def dvI (s : Int64) : Int32 := (dnI s / (65536 : Int64) - dnI s / (65536 : Int64) / (10 : Int64) * (10 : Int64)).toInt32
theorem x_draw (σ : SX) : fX8_draw σ = some (dvI (gx_rd_seed σ), sx_rd_seed σ (dnI (gx_rd_seed σ))) := rfl
theorem m_draw (μ : SM) : fX12_draw μ 10 = some (dvI (gm_gm_seedNow μ), sm_gm_seedNow μ (dnI (gm_gm_seedNow μ))) := by
  unfold fX12_draw
  rw [if_pos (show ¬ (10 : Int32).toInt64 = 0 by decide), show (10 : Int32).toInt64 = (10 : Int64) from rfl]
  rfl
section HE
variable {N : Nat} {σ : SX} {μ : SM} {R C : Nat} {kn : Nat → Nat} {n : Nat}
/-- he goes on: the class and the reference alike -/
theorem he_b (h : RelRg N σ μ R C kn) (h0 : R ≠ 0) {hc y : Nat} {pl : Nat → Nat} (g : GS R C n σ μ hc y pl) : ∃ σ' μ' hc' y', fX8_heGoes_b23 σ = some σ' ∧ fX12_goHim_b67 μ (nI y) = some μ' ∧ KX σ σ' ∧ KM μ μ' ∧ GS R C n σ' μ' hc' y' pl := by
  obtain ⟨g1, g2, g3, g4, g5, g6, g7, g8, g9, g10⟩ := g
  obtain ⟨b1, b2, b3, b4, b5, b6, b7⟩ := rc_dm h h0 g3
  obtain ⟨rx, rm⟩ := rg_x h h0
  have ho : ∀ d, onN R C hc y = some d → d < R * C := fun d hd => on_lt b4 b5 b6 b7 g3 g6 hd
  have ha := x_ahead rx (c := hc) (y := y) g3 (by omega)
  rw [Nat.mod_eq_of_lt g6] at ha
  have hl : sm_gm_looks μ (nI y) = μ := by rw [← g5]; rfl
  have hm : (y + 1) % 4 < 4 := Nat.mod_lt _ (by decide)
  unfold fX8_heGoes_b23 fX8_heGoes_b70 fX12_goHim_b67 fX12_goHim_b114
  rw [g1, g4, ha, bindS, (x_freeO h ho).1, bindS, hl, g2, m_on rm g3 g6, bindS, (x_freeO h ho).2, bindS, nI_lit1, and3g (by omega), nI_rem4 (by omega)]
  generalize onN R C hc y = o at ho ⊢
  cases o with
  | none =>
    rw [if_pos (show zb (frO kn none) = 0 from rfl), if_pos (show zb (frO kn none) = 0 from rfl)]
    exact ⟨_, _, hc, (y + 1) % 4, rfl, rfl, kx_way _ _, km_looks _ _, g1, g2, g3, rfl, rfl, hm, g7, g8, g9, g10⟩
  | some d =>
    by_cases k2 : kn d < 2
    · rw [show frO kn (some d) = true from decide_eq_true k2, if_neg (show ¬ zb true = 0 by decide), if_neg (show ¬ zb true = 0 by decide)]
      exact ⟨_, _, d, y, rfl, rfl, kx_cell _ _, km_his _ _, rfl, rfl, ho d rfl, g4, g5, g6, g7, g8, g9, g10⟩
    · rw [show frO kn (some d) = false from decide_eq_false k2, if_pos (show zb false = 0 from rfl), if_pos (show zb false = 0 from rfl)]
      exact ⟨_, _, hc, (y + 1) % 4, rfl, rfl, kx_way _ _, km_looks _ _, g1, g2, g3, rfl, rfl, hm, g7, g8, g9, g10⟩
theorem he_go (h : RelRg N σ μ R C kn) (h0 : R ≠ 0) {hc y : Nat} {pl : Nat → Nat} (g : GS R C n σ μ hc y pl) {v : Int32} (hv : gx_rd_drift σ = v) : ∃ σ' μ' hc' y', fX8_heGoes σ = some σ' ∧ fX12_goHim_b41 μ v = some μ' ∧ KX σ σ' ∧ KM μ μ' ∧ GS R C n σ' μ' hc' y' pl := by
  obtain ⟨g1, g2, g3, g4, g5, g6, g7, g8, g9, g10⟩ := id g
  have hm : (y + 1) % 4 < 4 := Nat.mod_lt _ (by decide)
  have hd : gx_rd_drift (sx_rd_seed σ (dnI (gx_rd_seed σ))) = v := hv
  have hy1 : gx_rd_hisWay (sx_rd_seed σ (dnI (gx_rd_seed σ))) = nI y := g4
  have hy2 : gm_gm_looks (sm_gm_seedNow μ (dnI (gm_gm_seedNow μ))) = nI y := g5
  unfold fX8_heGoes fX12_goHim_b41
  rw [x_draw, m_draw, bindS, bindS]
  dsimp only
  rw [hd, hy1, hy2, nI_lit1, and3g (by omega), nI_rem4 (by omega), ← g7]
  by_cases c : dvI (gx_rd_seed σ) < v
  · rw [if_pos c, if_pos c]
    have g' : GS R C n (sx_rd_hisWay (sx_rd_seed σ (dnI (gx_rd_seed σ))) (nI ((y + 1) % 4))) (sm_gm_looks (sm_gm_seedNow μ (dnI (gx_rd_seed σ))) (nI ((y + 1) % 4))) hc ((y + 1) % 4) pl := ⟨g1, g2, g3, rfl, rfl, hm, rfl, g8, g9, g10⟩
    obtain ⟨σ', μ', hc', y', e1, e2, e3, e4, e5⟩ := he_b (σ := sx_rd_hisWay (sx_rd_seed σ (dnI (gx_rd_seed σ))) (nI ((y + 1) % 4))) (μ := sm_gm_looks (sm_gm_seedNow μ (dnI (gx_rd_seed σ))) (nI ((y + 1) % 4))) (N := N) (R := R) (C := C) (kn := kn) h h0 g'
    refine ⟨σ', μ', hc', y', e1, e2, ((kx_seed _ _).trans (kx_way _ _)).trans e3, ((km_seed _ _).trans (km_looks _ _)).trans e4, e5⟩
  · rw [if_neg c, if_neg c]
    have g' : GS R C n (sx_rd_seed σ (dnI (gx_rd_seed σ))) (sm_gm_seedNow μ (dnI (gx_rd_seed σ))) hc y pl := ⟨g1, g2, g3, g4, g5, g6, rfl, g8, g9, g10⟩
    obtain ⟨σ', μ', hc', y', e1, e2, e3, e4, e5⟩ := he_b (σ := sx_rd_seed σ (dnI (gx_rd_seed σ))) (μ := sm_gm_seedNow μ (dnI (gx_rd_seed σ))) (N := N) (R := R) (C := C) (kn := kn) h h0 g'
    exact ⟨σ', μ', hc', y', e1, e2, (kx_seed _ _).trans e3, (km_seed _ _).trans e4, e5⟩
end HE
theorem lt5 (x : Int32) : (4 : Int32) < x ↔ ¬ x < (5 : Int32) := by
  rw [Int32.lt_iff_toInt_lt, Int32.lt_iff_toInt_lt]
  have h4 : (4 : Int32).toInt = 4 := rfl
  have h5 : (5 : Int32).toInt = 5 := rfl
  rw [h4, h5]
  omega
section TOUCH
variable {R C : Nat} {kn : Nat → Nat} {n : Nat}
theorem x_touch0 {σ : SX} {μ : SM} (hp : RelPl σ μ R C kn n) : ∀ (k i m : Nat), i + k = 6 → n ≤ i → fX8_touch_l2 (m + k + 1) σ (nI i) = some σ
  | 0, i, m, hi, hn => by
    obtain rfl : i = 6 := by omega
    show fX8_touch_b2 _ _ _ = _
    unfold fX8_touch_b2 fX8_touch_b60
    rw [if_neg (show ¬ nI 6 < (6 : Int32) by decide)]
  | k + 1, i, m, hi, hn => by
    have hi6 : i < 6 := by omega
    show fX8_touch_b2 _ _ _ = _
    unfold fX8_touch_b2 fX8_touch_b60 fX8_touch_b54
    rw [if_pos (show nI i < (6 : Int32) from ltE i 6 hi6 (by decide)), if_pos (inb hi6 (by decide)), cl_nI (by omega), hp.2.2.2.2.1 i hi6, if_neg (by omega : ¬ i < n)]
    by_cases c : gx_rd_touched σ = -1
    · rw [if_pos c]
      simp only [ev_q, nI_1]
      exact x_touch0 hp k (i + 1) m (by omega) (by omega)
    · rw [if_neg c]
theorem x_touchE {σ : SX} (h : ¬ gx_rd_touched σ = -1) (m : Nat) (x : Int32) : fX8_touch_l2 (m + 1) σ x = some σ := by
  show fX8_touch_b2 _ _ _ = _
  unfold fX8_touch_b2 fX8_touch_b60
  rw [if_neg h]
  split <;> rfl
theorem touch_sim : ∀ (k i : Nat), i + k = n → ∀ {N : Nat} {w : Nat → Nat} {u : Nat} {pg : Nat → Nat} {L : Nat} {σ : SX} {μ : SM} {hc y : Nat} {pl : Nat → Nat} (m m' : Nat), RP N R C kn w u n pg L σ μ → GS R C n σ μ hc y pl → ∃ σ' μ' q, fX8_touch_l2 (m + (6 - i) + 1) σ (nI i) = some σ' ∧ fX12_touchedNow_l2 (m' + k + 1) μ (nI i) = some (q, μ') ∧ KX σ σ' ∧ KM μ μ' ∧ gx_rd_touched σ' = q ∧ (q = -1 ∨ ∃ j, j < n ∧ q = nI j) ∧ GS R C n (sx_rd_touched σ' (-1)) μ' hc y pl
  | 0, i, hk, N, w, u, pg, L, σ, μ, hc, y, pl, m, m', hP, g => by
    obtain rfl : i = n := by omega
    have hp := hP.2.2.1
    have h6 := hp.1
    obtain ⟨g1, g2, g3, g4, g5, g6, g7, g8, g9, g10⟩ := g
    refine ⟨σ, μ, -1, x_touch0 hp (6 - i) i m (by omega) (Nat.le_refl _), ?_, KX.refl _, KM.refl _, g9, Or.inl rfl, g1, g2, g3, g4, g5, g6, g7, g8, rfl, g10⟩
    show fX12_touchedNow_b2 _ _ _ = _
    unfold fX12_touchedNow_b2
    rw [hp.2.2.2.1, if_neg (nltE _ _ (Nat.le_refl _) (by omega))]
  | k + 1, i, hk, N, w, u, pg, L, σ, μ, hc, y, pl, m, m', hP, g => by
    have hi : i < n := by omega
    have hp := hP.2.2.1
    have h36 := rc36 hP.1
    have h6 := hp.1
    have hi6 : i < 6 := by omega
    have hok := x_pok hp hi
    obtain ⟨g1, g2, g3, g4, g5, g6, g7, g8, g9, g10⟩ := id g
    obtain ⟨p1, p2, p3⟩ := g8 i hi
    obtain ⟨-, k2, k3, -⟩ := hp.2.2.2.2.2 i hi
    have ex : fX8_touch_l2 (m + (6 - i) + 1) σ (nI i) = (if nI (pl i) = nI hc then (d_isCaught σ (20 + i)).bind fun r2 => if r2.1 = 0 then fX8_touch_l2 (m + (6 - (i + 1)) + 1) r2.2 (nI (i + 1)) else fX8_touch_l2 (m + (6 - (i + 1)) + 1) (sx_rd_touched r2.2 (nI i)) (nI (i + 1)) else fX8_touch_l2 (m + (6 - (i + 1)) + 1) σ (nI (i + 1))) := by
      rw [show m + (6 - i) + 1 = (m + (6 - (i + 1)) + 1) + 1 by omega]
      show fX8_touch_b2 _ _ _ = _
      unfold fX8_touch_b2 fX8_touch_b54
      rw [if_pos (show nI i < (6 : Int32) from ltE i 6 hi6 (by decide)), if_pos g9, if_pos (inb hi6 (by decide)), cl_nI (by omega), hp.2.2.2.2.1 i hi6, if_pos hi]
      simp only [ev_q, hok, if_true, Nat.add_sub_cancel_left, p1, g1, nI_1]
    have em : fX12_touchedNow_l2 (m' + (k + 1) + 1) μ (nI i) = (if nI (pl i) = nI hc then (if nI (gx_pl_kd σ i) = (2 : Int32) then (fX12_draw μ 10).bind fun r1 => if (4 : Int32) < r1.1 then some (nI i, r1.2) else fX12_touchedNow_l2 (m' + k + 1) r1.2 (nI (i + 1)) else some (nI i, μ)) else fX12_touchedNow_l2 (m' + k + 1) μ (nI (i + 1))) := by
      show fX12_touchedNow_b2 _ _ _ = _
      unfold fX12_touchedNow_b2 fX12_touchedNow_b43 fX12_touchedNow_b45
      rw [hp.2.2.2.1, if_pos (ltE i n hi (by omega)), if_pos (inb hi6 (by decide)), if_pos (inb hi6 (by decide)), cl_nI (by omega), p2, g2, k3, nI_1]
      rfl
    rw [ex, em]
    by_cases e : pl i = hc
    · rw [if_pos (by rw [e]), if_pos (by rw [e])]
      by_cases e2 : gx_pl_kd σ i = 2
      · have hca : d_isCaught σ (20 + i) = fX10_isCaught σ (20 + i) := by
          unfold d_isCaught
          rw [Nat.add_sub_cancel_left, e2]; rfl
        rw [hca, if_pos (show nI (gx_pl_kd σ i) = (2 : Int32) by rw [e2]; rfl), m_draw, bindS]
        unfold fX10_isCaught fX10_isCaught_b13
        rw [x_draw, bindS]
        dsimp only
        rw [← g7]
        have g' : GS R C n (sx_rd_seed σ (dnI (gx_rd_seed σ))) (sm_gm_seedNow μ (dnI (gx_rd_seed σ))) hc y pl := ⟨g1, g2, g3, g4, g5, g6, rfl, g8, g9, g10⟩
        by_cases c : dvI (gx_rd_seed σ) < (5 : Int32)
        · rw [if_pos c, if_pos (Or.inl rfl), bindS]
          dsimp only
          rw [if_pos rfl, if_neg (fun z => ((lt5 _).mp z) c)]
          have hP' : RP N R C kn w u n pg L (sx_rd_seed σ (dnI (gx_rd_seed σ))) (sm_gm_seedNow μ (dnI (gx_rd_seed σ))) := (km_seed _ _).1 _ _ _ _ _ _ _ _ _ _ ((kx_seed σ _).1 _ _ _ _ _ _ _ _ _ _ hP)
          obtain ⟨σ', μ', q, f1, f2, f3, f4, f5, f6, f7⟩ := touch_sim k (i + 1) (by omega) m m' hP' g'
          exact ⟨σ', μ', q, f1, f2, (kx_seed _ _).trans f3, (km_seed _ _).trans f4, f5, f6, f7⟩
        · rw [if_neg c, if_pos (Or.inr rfl), bindS]
          dsimp only
          rw [if_neg (by decide), if_pos ((lt5 _).mpr c)]
          refine ⟨_, _, nI i, x_touchE ?_ _ _, rfl, (kx_seed _ _).trans (kx_touched _ _), km_seed _ _, rfl, Or.inr ⟨i, hi, rfl⟩, ⟨g1, g2, g3, g4, g5, g6, rfl, g8, rfl, g10⟩⟩
          exact nI_nm1 (by omega)
      · have hca : d_isCaught σ (20 + i) = some (1, σ) := by
          unfold d_isCaught fX6_isCaught
          rw [Nat.add_sub_cancel_left]
          generalize gx_pl_kd σ i = kk at k2 e2 ⊢
          rcases (show kk = 0 ∨ kk = 1 ∨ kk = 3 ∨ kk = 4 ∨ kk = 5 by omega) with rfl | rfl | rfl | rfl | rfl <;> rfl
        rw [hca, bindS, if_neg (show ¬ nI (gx_pl_kd σ i) = (2 : Int32) from neE _ 2 e2 (by omega) (by decide))]
        dsimp only
        rw [if_neg (by decide)]
        refine ⟨_, _, nI i, x_touchE ?_ _ _, rfl, kx_touched _ _, KM.refl _, rfl, Or.inr ⟨i, hi, rfl⟩, ⟨g1, g2, g3, g4, g5, g6, g7, g8, rfl, g10⟩⟩
        exact nI_nm1 (by omega)
    · have ne : ¬ nI (pl i) = nI hc := neE _ _ e (by omega) (by omega)
      rw [if_neg ne, if_neg ne]
      exact touch_sim k (i + 1) (by omega) m m' hP g
end TOUCH
/-- one tenth of a game -/
theorem tenth_sim {N R C : Nat} {kn w : Nat → Nat} {u n : Nat} {pg : Nat → Nat} {L : Nat} {σ : SX} {μ : SM} {hc y : Nat} {pl : Nat → Nat} (hP : RP N R C kn w u n pg L σ μ) (h0 : R ≠ 0) (g : GS R C n σ μ hc y pl) {v : Int32} (hv : gx_rd_drift σ = v) (b : Int32) : ∃ σ' μ' q hc' y' pl', ((fX8_playersGo σ).bind fun r3 => if (b - b / (3 : Int32) * (3 : Int32)) = 0 then (fX8_lookToCall r3).bind fun r4 => (fX8_heGoes r4).bind fX8_touch else (fX8_heGoes r3).bind fX8_touch) = some σ' ∧ ((fX12_goPlayers μ).bind fun r1 => (fX12_goHim r1 b v).bind fX12_touchedNow) = some (q, μ') ∧ KX σ σ' ∧ KM μ μ' ∧ gx_rd_touched σ' = q ∧ (q = -1 ∨ ∃ j, j < n ∧ q = nI j) ∧ GS R C n (sx_rd_touched σ' (-1)) μ' hc' y' pl' := by
  obtain ⟨g1, g2, g3, g4, g5, g6, g7, g8, g9, g10⟩ := id g
  obtain ⟨f, e1, f1⟩ := x_playersGo hP.1 h0 hP.2.2.1 g1 g3 g4 g6 (fun i hi => ⟨(g8 i hi).1, (g8 i hi).2.2⟩)
  obtain ⟨f', e2, f2⟩ := m_goPlayers hP.1 h0 hP.2.2.1 g2 g3 g5 g6 (fun i hi => ⟨(g8 i hi).2.1, (g8 i hi).2.2⟩)
  have k1 : KX σ (sx_pl_at σ f) := kx_at _ _
  have k2 : KM μ (sm_gm_place μ f') := km_place _ _
  have hP1 : RP N R C kn w u n pg L (sx_pl_at σ f) (sm_gm_place μ f') := k2.1 _ _ _ _ _ _ _ _ _ _ (k1.1 _ _ _ _ _ _ _ _ _ _ hP)
  have hv1 : gx_rd_drift (sx_pl_at σ f) = v := hv
  have gA : GS R C n (sx_pl_at σ f) (sm_gm_place μ f') hc y (fun i => if i < n then goN R C kn hc y (gx_pl_kd σ i) (pl i) else 0) := by
    refine ⟨g1, g2, g3, g4, g5, g6, g7, fun i hi => ?_, g9, g10⟩
    dsimp only
    rw [if_pos hi]
    exact ⟨f1 i hi, f2 i hi, goN_lt hP.1 h0 (g8 i hi).2.2⟩
  rw [e1, e2, bindS, bindS]
  generalize sx_pl_at σ f = σ1 at k1 hP1 gA hv1 ⊢
  generalize sm_gm_place μ f' = μ1 at k2 hP1 gA ⊢
  generalize (fun i => if i < n then goN R C kn hc y (gx_pl_kd σ i) (pl i) else 0) = pl1 at gA
  obtain ⟨a1, a2, a3, a4, a5, a6, a7, a8, a9, a10⟩ := id gA
  -- he hears
  have hear : ∃ σ2 μ2 y2, (if (b - b / (3 : Int32) * (3 : Int32)) = 0 then (fX8_lookToCall σ1).bind fun r4 => (fX8_heGoes r4).bind fX8_touch else (fX8_heGoes σ1).bind fX8_touch) = (fX8_heGoes σ2).bind fX8_touch ∧ fX12_goHim μ1 b v = fX12_goHim_b41 μ2 v ∧ KX σ1 σ2 ∧ KM μ1 μ2 ∧ GS R C n σ2 μ2 hc y2 pl1 := by
    unfold fX12_goHim
    by_cases c : (b - b / (3 : Int32) * (3 : Int32)) = 0
    · rw [if_pos c, if_pos c]
      have hlt := nrN_lt (R := R) (C := C) (hc := hc) (kd := gx_pl_kd σ1) (pl := pl1) (n := n) (fun i hi => (a8 i hi).2.2)
      rw [x_look hP1.1 h0 hP1.2.2.1 a1 a3 a4 (fun i hi => ⟨(a8 i hi).1, (a8 i hi).2.2⟩), m_nearest hP1.1 h0 hP1.2.2.1 a2 a3 (fun i hi => ⟨(a8 i hi).2.1, (a8 i hi).2.2⟩), bindS, bindS, m_goB14 hP1.1 h0 a2 a3 a5 (hlt n (Nat.le_refl n))]
      exact ⟨_, _, lkW C hc y (nrN R C hc (gx_pl_kd σ1) pl1 n), rfl, rfl, kx_way _ _, km_looks _ _, a1, a2, a3, rfl, rfl, lkW_lt _ a6, a7, a8, a9, a10⟩
    · rw [if_neg c, if_neg c]
      refine ⟨σ1, μ1, y, rfl, ?_, KX.refl _, KM.refl _, gA⟩
      unfold fX12_goHim_b14
      rw [if_pos rfl]
  obtain ⟨σ2, μ2, y2, c1, c2, c3, c4, c5⟩ := hear
  rw [c1, c2]
  have hP2 : RP N R C kn w u n pg L σ2 μ2 := c4.1 _ _ _ _ _ _ _ _ _ _ (c3.1 _ _ _ _ _ _ _ _ _ _ hP1)
  obtain ⟨σ3, μ3, hc3, y3, d1, d2, d3, d4, d5⟩ := he_go hP2.1 h0 c5 (v := v) (c3.2.2.2.1.trans hv1)
  rw [d1, d2, bindS, bindS]
  have hP3 : RP N R C kn w u n pg L σ3 μ3 := d4.1 _ _ _ _ _ _ _ _ _ _ (d3.1 _ _ _ _ _ _ _ _ _ _ hP2)
  have h6 := hP.2.2.1.1
  obtain ⟨σ4, μ4, q, t1, t2, t3, t4, t5, t6, t7⟩ := touch_sim n 0 (by omega) 993 (999 - n) hP3 d5
  rw [show 999 - n + n + 1 = 1000 by omega] at t2
  refine ⟨σ4, μ4, q, hc3, y3, pl1, t1, t2, ((k1.trans c3).trans d3).trans t3, ((k2.trans c4).trans d4).trans t4, t5, t6, t7⟩
