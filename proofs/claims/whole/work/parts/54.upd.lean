/-! ===== step, turned ===== -/
theorem gcN_dvd {o : Nat → Nat} : ∀ {n : Nat} (k : Nat), k < n → gcN o n ∣ o k
  | 0, k, h => absurd h (Nat.not_lt_zero k)
  | n + 1, k, h => by
    show Nat.gcd (gcN o n) (o n) ∣ o k
    by_cases e : k = n
    · rw [e]; exact Nat.gcd_dvd_right _ _
    · exact Nat.dvd_trans (Nat.gcd_dvd_left _ _) (gcN_dvd k (by omega))
/-- what an update leaves: the class and the reference, and what belongs together -/
theorem od_after {N : Nat} {σ : SX} {μ : SM} {R C : Nat} {kn w : Nat → Nat} {u : Nat} (h : RelOd σ μ R C kn w u) (hr : R ≠ 0) (hu : u < 9) {o : Nat → Nat} (hs : smN o 144 ≤ 60 * smN w 144) (hf : ∀ k, k < 144 → ¬ frC R C kn (k / 4) → o k = 0) (hz : gcN o 144 ≠ 0) {σ' : SX} {μ' : SM} (x1 : gx_od_updates σ' = gx_od_updates σ + 1) (m1 : gm_od_updates μ' = gm_od_updates μ + 1) (x2 : ∀ k, k < 144 → gx_od_weights σ' k = lN (o k / gcN o 144)) (m2 : ∀ k, k < 144 → gm_od_weight μ' k = lN (o k / gcN o 144)) : RelOd σ' μ' R C kn (fun k => o k / gcN o 144) (u + 1) := by
  obtain ⟨h1, h2, h3, h4, h5, h6⟩ := h
  refine ⟨by omega, by rw [x1, h2, nI_1], by rw [m1, h3, nI_1], fun k hk => ⟨x2 k hk, m2 k hk, fun q => ?_⟩, ?_, fun _ => ?_⟩
  · show o k / gcN o 144 = 0
    rw [hf k hk q, Nat.zero_div]
  · have a1 : smN (fun k => o k / gcN o 144) 144 ≤ smN o 144 := smN_le (fun k _ => Nat.div_le_self _ _)
    have a2 : 60 * smN w 144 ≤ 60 * (144 * 60 ^ u) := Nat.mul_le_mul_left _ h5
    have a3 : 60 * (144 * 60 ^ u) = 144 * 60 ^ (u + 1) := by rw [Nat.pow_succ]; omega
    omega
  · have hne : ∃ k, k < 144 ∧ o k ≠ 0 := Classical.byContradiction fun q => hz (gcN_0.mpr (fun k hk => Classical.byContradiction fun z => q ⟨k, hk, z⟩))
    obtain ⟨k, hk, hk0⟩ := hne
    have hd := gcN_dvd (o := o) (n := 144) k hk
    have hp : 0 < o k / gcN o 144 := Nat.div_pos (Nat.le_of_dvd (by omega) hd) (by omega)
    have := smN_one (fun k => o k / gcN o 144) hk
    omega
theorem abN_le (w : Nat → Nat) : ∀ n, abN w n ≤ n
  | 0 => Nat.le_refl 0
  | n + 1 => by
    show abN w n + (if 0 < w n then 1 else 0) ≤ n + 1
    have := abN_le w n
    split <;> omega
theorem upd_sim {N : Nat} {σ : SX} {μ : SM} {R C : Nat} {kn w : Nat → Nat} {u n : Nat} {pg : Nat → Nat} {L : Nat} (r1 : RelRg N σ μ R C kn) (r2 : RelOd σ μ R C kn w u) (r3 : RelPl σ μ R C kn n) (r4 : RelNm σ μ n) (r5 : RelKp σ μ R C kn n) (r6 : RelPg σ μ pg L) (h0 : R ≠ 0) (hu : u < 9) {s : Nat} (hs : s < 4) {o : Nat → Nat} (hsum : smN o 144 ≤ 60 * smN w 144) (hf : ∀ k, k < 144 → ¬ frC R C kn (k / 4) → o k = 0) (hO : ∀ p, p < 144 → gx_od_outs σ s p = lN (o p)) (hT : ∀ p, p < 144 → gm_od_then μ p = lN (o p)) :
    (gcN o 144 = 0 ∧ fX4_narrowTo σ (nI s) = some (-103, σ) ∧ fX12_take μ = some (-1, μ) ∧ Rel (N + 1) σ μ) ∨ (gcN o 144 ≠ 0 ∧ ∃ a σ' μ', a ≤ 144 ∧ fX4_narrowTo σ (nI s) = some (nI a, σ') ∧ fX12_take μ = some (nI a, μ') ∧ Rel (N + 1) σ' μ') := by
  have r1' := r1.mono (Nat.le_succ N)
  have hlt : ∀ k, k < 144 → o k < 2 ^ 63 := fun k hk => by
    have a1 := smN_one o hk
    have a2 := Nat.le_trans r2.2.2.2.2.1 (pow60 (u := u) (by omega))
    have a3 := r2.2.2.2.2.1
    have a4 : 144 * 60 ^ u ≤ 144 * 60 ^ 8 := Nat.mul_le_mul_left _ (Nat.pow_le_pow_right (by decide) (by omega))
    have a5 : 60 * (144 * 60 ^ 8) < 2 ^ 63 := by decide
    omega
  have hx := x_narrow (σ := σ) (o := o) hs (fun k hk => ⟨hlt k hk, hO k hk⟩)
  have hm := m_take (μ := μ) (o := o) (fun k hk => ⟨hlt k hk, hT k hk⟩)
  by_cases z : gcN o 144 = 0
  · rw [if_pos z] at hx hm
    exact Or.inl ⟨z, hx, hm, R, C, kn, w, u, n, pg, L, r1', r2, r3, r4, r5, r6⟩
  · rw [if_neg z] at hx hm
    refine Or.inr ⟨z, _, _, _, abN_le _ 144, hx, hm, R, C, kn, _, u + 1, n, pg, L, r1', od_after (N := N) r2 h0 hu hsum hf z rfl rfl (fun k hk => laid_in (f := fun k => lN (o k / gcN o 144)) (g := gx_od_weights σ) hk) (fun k hk => laid_in (f := fun k => lN (o k / gcN o 144)) (g := gm_od_weight μ) hk), r3, r4, r5, r6⟩
theorem tgS_free {R C : Nat} {kn : Nat → Nat} {qo : Option Nat} {t k e : Nat} (h1 : R < 7) (h2 : C < 7) (h3 : 2 ≤ R) (h4 : 2 ≤ C) (hk : frC R C kn (k / 4)) : frC R C kn ((tgS R C kn qo t k e).2 / 4) := by
  have hm : (k + t + e) % 4 < 4 := Nat.mod_lt _ (by decide)
  unfold tgS
  dsimp only
  rw [show (tcN (k / 4) kn qo (onN R C (k / 4) ((k + t + e) % 4)) * 4 + (k + t + e) % 4) / 4 = tcN (k / 4) kn qo (onN R C (k / 4) ((k + t + e) % 4)) by omega]
  cases ho : onN R C (k / 4) ((k + t + e) % 4) with
  | none => exact hk
  | some d =>
    show frC R C kn (if (if qo = some d then 3 else kn d) < 2 then d else k / 4)
    by_cases q : qo = some d
    · rw [if_pos q, if_neg (by decide)]; exact hk
    · rw [if_neg q]
      by_cases g : kn d < 2
      · rw [if_pos g]; exact ⟨on_lt h1 h2 h3 h4 hk.1 hm ho, g⟩
      · rw [if_neg g]; exact hk
theorem ou_S {R C : Nat} {kn w : Nat → Nat} {qo : Option Nat} {t d s : Nat} (h1 : R < 7) (h2 : C < 7) (h3 : 2 ≤ R) (h4 : 2 ≤ C) (hw : ∀ k, k < 144 → ¬ frC R C kn (k / 4) → w k = 0) {p : Nat} (hp : ¬ frC R C kn (p / 4)) : ouN (tgS R C kn qo t) d w 144 s p = 0 := by
  refine ou_free (fun k hk hw0 e q => hp ?_)
  rw [← q]
  exact tgS_free h1 h2 h3 h4 (Classical.byContradiction fun z => by have := hw k hk z; omega)
/-- weights, as the class and the reference have them -/
theorem od_w {σ : SX} {μ : SM} {R C : Nat} {kn w : Nat → Nat} {u : Nat} (h : RelOd σ μ R C kn w u) : (∀ k, k < 144 → gx_od_weights σ k = lN (w k) ∧ w k < 2 ^ 63 ∧ (¬ frC R C kn (k / 4) → w k = 0)) ∧ ∀ k, k < 144 → gm_od_weight μ k = lN (w k) ∧ w k < 2 ^ 63 ∧ (¬ frC R C kn (k / 4) → w k = 0) := by
  have hlt := od_lt h
  exact ⟨fun k hk => ⟨(h.2.2.2.1 k hk).1, by have := smN_one w hk; omega, (h.2.2.2.1 k hk).2.2⟩, fun k hk => ⟨(h.2.2.2.1 k hk).2.1, by have := smN_one w hk; omega, (h.2.2.2.1 k hk).2.2⟩⟩
theorem nI_nm1 {a : Nat} (h : a ≤ 144) : ¬ nI a = (-1 : Int32) := by
  have z : ∀ d : Nat, d < 145 → ¬ nI d = -1 := by decide +kernel
  exact z a (by omega)
theorem sim_step (N : Nat) (hN : N ≤ 512) (a b : Int32) : SimW N (fun σ => fX11_step σ a b) (fun μ => fX12_step μ a b) := by
  intro σ μ hR
  have hR1 := hR.mono (Nat.le_succ N)
  obtain ⟨R, C, kn, w, u, n, pg, L, r1, r2, r3, r4, r5, r6⟩ := id hR
  simp only [fX11_step_b29, fX11_step, fX12_step_b66, fX12_step_b28, fX12_step]
  rcases xm_read hN r1 with ⟨-, h1, h2⟩ | ⟨h0, hp, h1, h2⟩
  · simp only [h1, if_pos h2, bindS, i00]; exact ⟨_, _, _, rfl, rfl, hR1⟩
  simp only [h1, if_neg h2, bindS, i10, p_isWithin, p_within, zb_if]
  by_cases h3 : ¬ a < 0 ∧ ¬ (5 : Int32) < a
  rotate_left
  · simp only [decide_eq_false h3]; exact ⟨_, _, _, rfl, rfl, hR1⟩
  simp only [if_pos (decide_eq_true h3)]
  by_cases h4 : ¬ b < 0 ∧ ¬ (3 : Int32) < b
  rotate_left
  · simp only [decide_eq_false h4]; exact ⟨_, _, _, rfl, rfl, hR1⟩
  simp only [if_pos (decide_eq_true h4)]
  obtain ⟨d, hd, rfl⟩ := in_range (m := 5) (by decide) h3
  obtain ⟨s, hs, rfl⟩ := in_range (m := 3) (by decide) h4
  have hu := r2.1
  by_cases hu9 : u < 9
  rotate_left
  · have e9 : u = 9 := by omega
    rw [r2.2.1, r2.2.2.1, e9, if_neg (show ¬ nI 9 < (9 : Int32) by decide), if_pos (show nI 9 = (9 : Int32) from rfl)]
    exact ⟨_, _, _, rfl, rfl, hR1⟩
  rw [r2.2.1, r2.2.2.1, if_pos (show nI u < (9 : Int32) from ltE u 9 hu9 (by decide)), if_neg (show ¬ nI u = (9 : Int32) from neE u 9 (by omega) (by omega) (by decide))]
  obtain ⟨rx, rm⟩ := rg_x r1 h0
  obtain ⟨wx, wm⟩ := od_w r2
  obtain ⟨O, e1, f1⟩ := x_foreStep rx wx (t := 0) (by decide) hd (qo := none) (fun d h => by cases h)
  obtain ⟨T, e2, f2⟩ := m_layStep rm (fun d h => by cases h) wm (t := 0) (by decide) hd (s := s) (by omega)
  have e1' : fX4_foretellStep σ 0 (nI d) (-1) = some (sx_od_outs σ O) := e1
  have e2' : fX12_layStep μ 0 (nI d) (nI s) = some (sm_od_then μ T) := e2
  rw [e1', e2', bindS, bindS]
  have hle : smN (ouN (tgS R C kn none 0) d w 144 s) 144 ≤ 60 * smN w 144 := by
    have := ou_sum (tg := tgS R C kn none 0) (w := w) (n := 144) (s := s) (m := 144) hd
    have e : smN (ouN (tgS R C kn none 0) d w 144 s) 144 = smN (fun p => ouN (tgS R C kn none 0) d w 144 s p) 144 := rfl
    omega
  have hfr : ∀ k, k < 144 → ¬ frC R C kn (k / 4) → ouN (tgS R C kn none 0) d w 144 s k = 0 := fun k hk q => ou_S (by have := rx.2.1; omega) (by have := rx.2.2.2.1; omega) rx.1 rx.2.2.1 (fun k hk => (wx k hk).2.2) q
  rcases upd_sim (σ := sx_od_outs σ O) (μ := sm_od_then μ T) (s := s) (o := ouN (tgS R C kn none 0) d w 144 s) (N := N) (R := R) (C := C) (kn := kn) (w := w) (u := u) (n := n) (pg := pg) (L := L) r1 r2 r3 r4 r5 r6 h0 hu9 (by omega) hle hfr (fun p hp => f1 s (by omega) p hp) (fun p hp => f2 p hp) with ⟨-, g1, g2, g3⟩ | ⟨-, c, σ', μ', g0, g1, g2, g3⟩
  · rw [g1, g2, bindS, bindS, if_pos rfl]
    exact ⟨_, _, _, rfl, rfl, g3⟩
  · rw [g1, g2, bindS, bindS, if_neg (nI_nm1 g0)]
    exact ⟨_, _, _, rfl, rfl, g3⟩
/-! turned -/
theorem ad4 (a b c d : Nat) : a + b + c + d = a + (b + c + d) := by omega
theorem ad5 (a b c d : Nat) : a + b + c + d = a + (d + b + c) := by omega
theorem opt_id2 {α β : Type} (x : Option (α × β)) : (x.bind fun r => some (r.1, r.2)) = x := by cases x <;> rfl
def tgT (k e : Nat) : Nat × Nat := (0, k / 4 * 4 + (k + e) % 4)
theorem x_foreTurn {σ : SX} {w : Nat → Nat} (hw : ∀ k, k < 144 → gx_od_weights σ k = lN (w k) ∧ w k < 2 ^ 63) {d : Nat} (hd : d ≤ 5) : ∃ O, fX4_foretellTurn σ (nI d) = some (sx_od_outs σ O) ∧ ∀ s, s < 4 → ∀ p, p < 144 → O s p = lN (ouN tgT d w 144 s p) := by
  unfold fX4_foretellTurn
  obtain ⟨O0, e0, z0⟩ := x_clearO σ
  rw [e0, bindS]
  obtain ⟨⟨σ', x⟩, ⟨O, e, h1⟩, hL⟩ := lp_iv (fun n (p : SX × Int32) => fX4_foretellTurn_l6 n p.1 (nI d) p.2) (fun i p => ∃ O, p = (sx_od_outs σ O, nI i) ∧ ∀ s, s < 4 → ∀ p, p < 144 → O s p = lN (ouN tgT d w i s p)) 144 (fun i n a hi ha => by
    obtain ⟨O, rfl, h1⟩ := ha
    obtain ⟨w1, w2⟩ := hw i hi
    by_cases z : 0 < w i
    · obtain ⟨O1, a1, b1⟩ := x_addE (σ := sx_od_outs σ O) h1 (s := 0) (c := i / 4) (y := i + 3) (by decide) (by omega) (by omega) (d * w i)
      obtain ⟨O2, a2, b2⟩ := x_addE (σ := sx_od_outs σ O1) b1 (s := 0) (c := i / 4) (y := i) (by decide) (by omega) (by omega) ((10 - 2 * d) * w i)
      obtain ⟨O3, a3, b3⟩ := x_addE (σ := sx_od_outs σ O2) b2 (s := 0) (c := i / 4) (y := i + 1) (by decide) (by omega) (by omega) (d * w i)
      have a1' : fX4_add (sx_od_outs σ O) 0 (nI (i / 4)) (nI (i + 3)) (lN (d * w i)) = some (sx_od_outs σ O1) := a1
      have a2' : fX4_add (sx_od_outs σ O1) 0 (nI (i / 4)) (nI i) (lN ((10 - 2 * d) * w i)) = some (sx_od_outs σ O2) := a2
      have a3' : fX4_add (sx_od_outs σ O2) 0 (nI (i / 4)) (nI (i + 1)) (lN (d * w i)) = some (sx_od_outs σ O3) := a3
      refine ⟨(sx_od_outs σ O3, nI (i + 1)), ⟨_, rfl, fun s hs p hp => ?_⟩, ?_⟩
      · rw [b3 s hs p hp]
        show lN (ouN tgT d w i s p + (if tgT i 3 = (s, p) then d * w i else 0) + (if tgT i 0 = (s, p) then (10 - 2 * d) * w i else 0) + (if tgT i 1 = (s, p) then d * w i else 0)) = lN (ouN tgT d w i s p + ((if tgT i 3 = (s, p) then d * w i else 0) + (if tgT i 0 = (s, p) then (10 - 2 * d) * w i else 0) + (if tgT i 1 = (s, p) then d * w i else 0)))
        exact congrArg lN (ad4 _ _ _ _)
      · show fX4_foretellTurn_b6 _ (sx_od_outs σ O) _ _ = fX4_foretellTurn_l6 n (sx_od_outs σ O3) _ (nI (i + 1))
        unfold fX4_foretellTurn_b6 fX4_foretellTurn_b78
        rw [if_pos (show nI i < (144 : Int32) from ltE i 144 hi (by decide)), if_pos (inb hi (by decide)), cl_nI (by omega), px_od_weights_od_outs, w1, if_pos ((lpos w2).mpr z), nI_div4 (by omega), nI_lit3, nI_lit1, nI_10d hd, nI_l (by omega), nI_l (by omega), lN_mul, lN_mul, a1', bindS]
        rw [a2', bindS, a3', bindS]
    · refine ⟨(sx_od_outs σ O, nI (i + 1)), ⟨_, rfl, fun s hs p hp => ?_⟩, ?_⟩
      · rw [h1 s hs p hp]
        show _ = lN (ouN tgT d w i s p + cnN tgT d w s p i)
        rw [cn_w0 (by omega)]; rfl
      · show fX4_foretellTurn_b6 _ (sx_od_outs σ O) _ _ = fX4_foretellTurn_l6 n (sx_od_outs σ O) _ (nI (i + 1))
        unfold fX4_foretellTurn_b6 fX4_foretellTurn_b78
        rw [if_pos (show nI i < (144 : Int32) from ltE i 144 hi (by decide)), if_pos (inb hi (by decide)), cl_nI (by omega), px_od_weights_od_outs, w1, if_neg (fun q => z ((lpos w2).mp q)), nI_1]) 856 (sx_od_outs σ O0, 0) ⟨O0, rfl, fun s hs p hp => z0 s hs p hp⟩
  cases e
  refine ⟨O, hL.trans ?_, h1⟩
  show fX4_foretellTurn_b6 _ _ _ _ = _
  unfold fX4_foretellTurn_b6
  rw [if_neg (show ¬ nI 144 < (144 : Int32) by decide)]
theorem m_turnL {μ : SM} {w : Nat → Nat} (hw : ∀ k, k < 144 → gm_od_weight μ k = lN (w k)) {d : Nat} (hd : d ≤ 5) {T0 : Nat → Int64} (z0 : ∀ p, p < 144 → T0 p = 0) : ∃ T, fX12_turned_l40 1000 (sm_od_then μ T0) (nI d) 0 = fX12_take (sm_od_then μ T) ∧ ∀ p, p < 144 → T p = lN (ouN tgT d w 144 0 p) := by
  obtain ⟨⟨σ', x⟩, ⟨T, e, h1⟩, hL⟩ := lp_iv (fun n (p : SM × Int32) => fX12_turned_l40 n p.1 (nI d) p.2) (fun i p => ∃ T, p = (sm_od_then μ T, nI i) ∧ ∀ p, p < 144 → T p = lN (ouN tgT d w i 0 p)) 144 (fun i n a hi ha => by
    obtain ⟨T, rfl, h1⟩ := ha
    have w1 := hw i hi
    have k1 : i / 4 * 4 + (i % 4 + 1) % 4 < 144 := by omega
    have k3 : i / 4 * 4 + (i % 4 + 3) % 4 < 144 := by omega
    have b1 := up_adm h1 hi ((10 - 2 * d) * w i)
    have b2 := up_adm b1 k1 (d * w i)
    have b3 := up_adm b2 k3 (d * w i)
    refine ⟨(sm_od_then μ (vp_updL (vp_updL (vp_updL T i (T i + lN ((10 - 2 * d) * w i))) (i / 4 * 4 + (i % 4 + 1) % 4) ((vp_updL T i (T i + lN ((10 - 2 * d) * w i))) (i / 4 * 4 + (i % 4 + 1) % 4) + lN (d * w i))) (i / 4 * 4 + (i % 4 + 3) % 4) ((vp_updL (vp_updL T i (T i + lN ((10 - 2 * d) * w i))) (i / 4 * 4 + (i % 4 + 1) % 4) ((vp_updL T i (T i + lN ((10 - 2 * d) * w i))) (i / 4 * 4 + (i % 4 + 1) % 4) + lN (d * w i))) (i / 4 * 4 + (i % 4 + 3) % 4) + lN (d * w i))), nI (i + 1)), ⟨(vp_updL (vp_updL (vp_updL T i (T i + lN ((10 - 2 * d) * w i))) (i / 4 * 4 + (i % 4 + 1) % 4) ((vp_updL T i (T i + lN ((10 - 2 * d) * w i))) (i / 4 * 4 + (i % 4 + 1) % 4) + lN (d * w i))) (i / 4 * 4 + (i % 4 + 3) % 4) ((vp_updL (vp_updL T i (T i + lN ((10 - 2 * d) * w i))) (i / 4 * 4 + (i % 4 + 1) % 4) ((vp_updL T i (T i + lN ((10 - 2 * d) * w i))) (i / 4 * 4 + (i % 4 + 1) % 4) + lN (d * w i))) (i / 4 * 4 + (i % 4 + 3) % 4) + lN (d * w i))), rfl, fun p hp => ?_⟩, ?_⟩
    rotate_left
    · show fX12_turned_b40 _ (sm_od_then μ T) _ _ = fX12_turned_l40 n (sm_od_then μ _) _ (nI (i + 1))
      unfold fX12_turned_b40
      rw [if_pos (show nI i < (144 : Int32) from ltE i 144 hi (by decide)), nI_rem4 (n := i) (by omega), nI_lit1, nI_lit3, nI_rem4 (n := i % 4 + 1) (by omega), nI_rem4 (n := i % 4 + 3) (by omega), nI_div4 (by omega), nI_mul4, nI_add, nI_add, nI_10d hd, nI_l (by omega), nI_l (by omega)]
      simp only [if_pos (inbN hi (show i < 2 ^ 31 by omega)), if_pos (inbN k1 (show i / 4 * 4 + (i % 4 + 1) % 4 < 2 ^ 31 by omega)), if_pos (inbN k3 (show i / 4 * 4 + (i % 4 + 3) % 4 < 2 ^ 31 by omega)), cl_nI (show i < 2 ^ 31 by omega), cl_nI (show i / 4 * 4 + (i % 4 + 1) % 4 < 2 ^ 31 by omega), cl_nI (show i / 4 * 4 + (i % 4 + 3) % 4 < 2 ^ 31 by omega), pm_od_weight_od_then, pm_od_then_od_then, w1, lN_mul, nI_lit1]
      rfl
    · refine (b3 p hp).trans ?_
      show _ = lN (ouN tgT d w i 0 p + ((if tgT i 3 = (0, p) then d * w i else 0) + (if tgT i 0 = (0, p) then (10 - 2 * d) * w i else 0) + (if tgT i 1 = (0, p) then d * w i else 0)))
      have q3 : tgT i 3 = (0, i / 4 * 4 + (i % 4 + 3) % 4) := by unfold tgT; rw [mod3]
      have q1 : tgT i 1 = (0, i / 4 * 4 + (i % 4 + 1) % 4) := by unfold tgT; rw [mod3]
      have q0 : tgT i 0 = (0, i) := by unfold tgT; congr 1; omega
      rw [q3, q1, q0]
      simp only [Prod.mk.injEq, true_and]
      exact congrArg lN (ad5 _ _ _ _)) 856 (sm_od_then μ T0, 0) ⟨T0, rfl, fun p hp => z0 p hp⟩
  cases e
  refine ⟨T, hL.trans ?_, h1⟩
  show fX12_turned_b40 _ (sm_od_then μ T) _ _ = _
  unfold fX12_turned_b40
  rw [if_neg (show ¬ nI 144 < (144 : Int32) by decide)]
  exact opt_id2 _
theorem ou_T0 {R C : Nat} {kn w : Nat → Nat} {d s : Nat} (hw : ∀ k, k < 144 → ¬ frC R C kn (k / 4) → w k = 0) {p : Nat} (hp : ¬ frC R C kn (p / 4)) : ouN tgT d w 144 s p = 0 := by
  refine ou_free (fun k hk hw0 e q => hp ?_)
  have hm : (k + e) % 4 < 4 := Nat.mod_lt _ (by decide)
  have : p / 4 = k / 4 := by rw [← q]; show (k / 4 * 4 + (k + e) % 4) / 4 = k / 4; omega
  rw [this]
  exact Classical.byContradiction fun z => by have := hw k hk z; omega
theorem ou_Tpos {w : Nat → Nat} {d : Nat} (hd : d ≤ 5) (h : 0 < smN w 144) : gcN (ouN tgT d w 144 0) 144 ≠ 0 := by
  intro z
  have hz := gcN_0.mp z
  have hk : ∃ k, k < 144 ∧ 0 < w k := Classical.byContradiction fun q => by
    have : smN w 144 = 0 := smN_z (fun k hk => Classical.byContradiction fun y => q ⟨k, hk, by omega⟩)
    omega
  obtain ⟨k, hk, hp⟩ := hk
  have key : ∀ e, (e = 0 ∨ e = 1 ∨ e = 3) → (tgT k e).2 < 144 := fun e _ => by
    have hm : (k + e) % 4 < 4 := Nat.mod_lt _ (by decide)
    show k / 4 * 4 + (k + e) % 4 < 144
    omega
  have c1 : ∀ p, p < 144 → cnN tgT d w 0 p k = 0 := fun p hp2 => by
    have a1 := hz p hp2
    have a2 := smN_one (cnN tgT d w 0 p) hk
    have a3 : smN (cnN tgT d w 0 p) 144 = ouN tgT d w 144 0 p := rfl
    omega
  by_cases d5 : d = 5
  · have a := c1 (tgT k 1).2 (key 1 (by omega))
    unfold cnN at a
    rw [if_pos (show tgT k 1 = (0, (tgT k 1).2) from rfl)] at a
    have : 0 < d * w k := Nat.mul_pos (by omega) hp
    omega
  · have a := c1 (tgT k 0).2 (key 0 (by omega))
    unfold cnN at a
    rw [if_pos (show tgT k 0 = (0, (tgT k 0).2) from rfl)] at a
    have : 0 < (10 - 2 * d) * w k := Nat.mul_pos (by omega) hp
    omega
theorem sim_turned (N : Nat) (hN : N ≤ 512) (a : Int32) : SimW N (fun σ => fX11_turned σ a) (fun μ => fX12_turned μ a) := by
  intro σ μ hR
  have hR1 := hR.mono (Nat.le_succ N)
  obtain ⟨R, C, kn, w, u, n, pg, L, r1, r2, r3, r4, r5, r6⟩ := id hR
  dsimp only
  unfold fX11_turned fX12_turned
  rcases xm_read hN r1 with ⟨-, h1, h2⟩ | ⟨h0, hp, h1, h2⟩
  · simp only [h1, if_pos h2, bindS, i00]; exact ⟨_, _, _, rfl, rfl, hR1⟩
  simp only [h1, if_neg h2, bindS, i10, p_isWithin, p_within, zb_if]
  by_cases h3 : ¬ a < 0 ∧ ¬ (5 : Int32) < a
  rotate_left
  · simp only [decide_eq_false h3]; exact ⟨_, _, _, rfl, rfl, hR1⟩
  simp only [if_pos (decide_eq_true h3)]
  obtain ⟨d, hd, rfl⟩ := in_range (m := 5) (by decide) h3
  have hu := r2.1
  by_cases hu9 : u < 9
  rotate_left
  · have e9 : u = 9 := by omega
    rw [r2.2.1, r2.2.2.1, e9, if_neg (show ¬ nI 9 < (9 : Int32) by decide), if_pos (show nI 9 = (9 : Int32) from rfl)]
    exact ⟨_, _, _, rfl, rfl, hR1⟩
  rw [r2.2.1, r2.2.2.1, if_pos (show nI u < (9 : Int32) from ltE u 9 hu9 (by decide)), if_neg (show ¬ nI u = (9 : Int32) from neE u 9 (by omega) (by omega) (by decide))]
  obtain ⟨wx, wm⟩ := od_w r2
  obtain ⟨O, e1, f1⟩ := x_foreTurn (fun k hk => ⟨(wx k hk).1, (wx k hk).2.1⟩) hd
  obtain ⟨T0, e0, z0⟩ := m_clear μ
  obtain ⟨T, e2, f2⟩ := m_turnL (μ := μ) (fun k hk => (wm k hk).1) hd z0
  rw [e1, e0, bindS, bindS, e2]
  have hle : smN (ouN tgT d w 144 0) 144 ≤ 60 * smN w 144 := by
    have := ou_sum (tg := tgT) (w := w) (n := 144) (s := 0) (m := 144) hd
    have e : smN (ouN tgT d w 144 0) 144 = smN (fun p => ouN tgT d w 144 0 p) 144 := rfl
    omega
  have hfr : ∀ k, k < 144 → ¬ frC R C kn (k / 4) → ouN tgT d w 144 0 k = 0 := fun k hk q => ou_T0 (fun k hk => (wx k hk).2.2) q
  rcases upd_sim (σ := sx_od_outs σ O) (μ := sm_od_then μ T) (s := 0) (o := ouN tgT d w 144 0) (N := N) (R := R) (C := C) (kn := kn) (w := w) (u := u) (n := n) (pg := pg) (L := L) r1 r2 r3 r4 r5 r6 h0 hu9 (by decide) hle hfr (fun p hp => f1 0 (by decide) p hp) (fun p hp => f2 p hp) with ⟨g0, -⟩ | ⟨-, c, σ', μ', g0, g1, g2, g3⟩
  · exact absurd g0 (ou_Tpos hd (r2.2.2.2.2.2 h0))
  · have g1' : fX4_narrowTo (sx_od_outs σ O) 0 = some (nI c, σ') := g1
    rw [g1', g2, bindS]
    exact ⟨_, _, _, rfl, rfl, g3⟩
