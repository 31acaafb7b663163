/-! ===== what is laid: each weight goes to places, by tenths ===== -/
theorem lp_inv {α β : Type} (L : Nat → α → β) (I : Nat → α → Prop) (N : Nat) (h : ∀ i n a, i < N → I i a → ∃ a', I (i + 1) a' ∧ L (n + 1) a = L n a') : ∀ m n a, m ≤ N → I (N - m) a → ∃ a', I N a' ∧ L (n + m) a = L n a'
  | 0, n, a, _, ha => ⟨a, ha, rfl⟩
  | m + 1, n, a, hm, ha => by
    obtain ⟨b, hb, e⟩ := h (N - (m + 1)) (n + m) a (by omega) ha
    rw [show N - (m + 1) + 1 = N - m by omega] at hb
    obtain ⟨c, hc, e2⟩ := lp_inv L I N h m n b (by omega) hb
    exact ⟨c, hc, e.trans e2⟩
theorem lp_iv {α β : Type} (L : Nat → α → β) (I : Nat → α → Prop) (N : Nat) (h : ∀ i n a, i < N → I i a → ∃ a', I (i + 1) a' ∧ L (n + 1) a = L n a') (n : Nat) (a : α) (ha : I 0 a) : ∃ a', I N a' ∧ L (n + N) a = L n a' := lp_inv L I N h N n a (Nat.le_refl N) (by rw [Nat.sub_self]; exact ha)
/-! sums -/
theorem smN_add (f g : Nat → Nat) : ∀ n, smN (fun k => f k + g k) n = smN f n + smN g n
  | 0 => rfl
  | n + 1 => by
    show smN (fun k => f k + g k) n + (f n + g n) = smN f n + f n + (smN g n + g n)
    rw [smN_add f g n]; omega
theorem smN_zz : ∀ n, smN (fun _ => 0) n = 0
  | 0 => rfl
  | n + 1 => smN_zz n
theorem smN_swap (f : Nat → Nat → Nat) (m : Nat) : ∀ n, smN (fun p => smN (fun k => f p k) m) n = smN (fun k => smN (fun p => f p k) n) m
  | 0 => (smN_zz m).symm
  | n + 1 => by
    show smN (fun p => smN (fun k => f p k) m) n + smN (fun k => f n k) m = smN (fun k => smN (fun p => f p k) n + f n k) m
    rw [smN_swap f m n, smN_add]
theorem smN_mulc (c : Nat) (f : Nat → Nat) : ∀ n, smN (fun k => c * f k) n = c * smN f n
  | 0 => (Nat.mul_zero c).symm
  | n + 1 => by
    show smN (fun k => c * f k) n + c * f n = c * (smN f n + f n)
    rw [smN_mulc c f n, Nat.mul_add]
theorem smN_if (x : Nat × Nat) (s a : Nat) : ∀ n, smN (fun p => if x = (s, p) then a else 0) n = if x.1 = s ∧ x.2 < n then a else 0
  | 0 => by rw [if_neg (fun q => Nat.not_lt_zero _ q.2)]; rfl
  | n + 1 => by
    show smN (fun p => if x = (s, p) then a else 0) n + (if x = (s, n) then a else 0) = _
    rw [smN_if x s a n]
    obtain ⟨x1, x2⟩ := x
    by_cases e1 : x1 = s
    · subst e1
      by_cases e2 : x2 = n
      · subst e2
        simp
      · have : ¬ ((x1, x2) = (x1, n)) := fun q => e2 (Prod.mk.inj q).2
        rw [if_neg this]
        by_cases e3 : x2 < n
        · rw [if_pos ⟨rfl, e3⟩, if_pos ⟨rfl, Nat.lt_succ_of_lt e3⟩]; rfl
        · rw [if_neg (fun q => e3 q.2), if_neg (fun q => e3 (by have := q.2; dsimp only at this; omega))]
    · have : ¬ ((x1, x2) = (s, n)) := fun q => e1 (Prod.mk.inj q).1
      rw [if_neg this, if_neg (fun q => e1 q.1), if_neg (fun q => e1 q.1)]
theorem smN_if_le (x : Nat × Nat) (s a n : Nat) : smN (fun p => if x = (s, p) then a else 0) n ≤ a := by
  rw [smN_if]; split <;> omega
/-- what the weight k gives to the place p of the sign s -/
def cnN (tg : Nat → Nat → Nat × Nat) (d : Nat) (w : Nat → Nat) (s p k : Nat) : Nat := (if tg k 3 = (s, p) then d * w k else 0) + (if tg k 0 = (s, p) then (10 - 2 * d) * w k else 0) + (if tg k 1 = (s, p) then d * w k else 0)
def ouN (tg : Nat → Nat → Nat × Nat) (d : Nat) (w : Nat → Nat) (n s p : Nat) : Nat := smN (cnN tg d w s p) n
theorem cn_sum {tg : Nat → Nat → Nat × Nat} {d : Nat} {w : Nat → Nat} {s k m : Nat} (hd : d ≤ 5) : smN (fun p => cnN tg d w s p k) m ≤ 10 * w k := by
  unfold cnN
  rw [smN_add (fun p => (if tg k 3 = (s, p) then d * w k else 0) + (if tg k 0 = (s, p) then (10 - 2 * d) * w k else 0)) (fun p => if tg k 1 = (s, p) then d * w k else 0), smN_add]
  have h1 := smN_if_le (tg k 3) s (d * w k) m
  have h2 := smN_if_le (tg k 0) s ((10 - 2 * d) * w k) m
  have h3 := smN_if_le (tg k 1) s (d * w k) m
  have e : 10 * w k = d * w k + (10 - 2 * d) * w k + d * w k := by
    rw [← Nat.add_mul, ← Nat.add_mul]; congr 1; omega
  omega
theorem ou_sum {tg : Nat → Nat → Nat × Nat} {d : Nat} {w : Nat → Nat} {n s m : Nat} (hd : d ≤ 5) : smN (fun p => ouN tg d w n s p) m ≤ 10 * smN w n := by
  unfold ouN
  rw [smN_swap, ← smN_mulc]
  exact smN_le (fun k _ => cn_sum hd)
theorem ou_le {tg : Nat → Nat → Nat × Nat} {d : Nat} {w : Nat → Nat} {n s p : Nat} (hd : d ≤ 5) : ouN tg d w n s p ≤ 10 * smN w n := Nat.le_trans (smN_one (fun p => ouN tg d w n s p) (Nat.lt_succ_self p)) (ou_sum hd)
theorem cn_w0 {tg : Nat → Nat → Nat × Nat} {d : Nat} {w : Nat → Nat} {s p k : Nat} (h : w k = 0) : cnN tg d w s p k = 0 := by
  unfold cnN
  rw [h, Nat.mul_zero, Nat.mul_zero, ite_self, ite_self, ite_self]
theorem smN_z {f : Nat → Nat} : ∀ {n : Nat}, (∀ k, k < n → f k = 0) → smN f n = 0
  | 0, _ => rfl
  | n + 1, h => by
    show smN f n + f n = 0
    rw [smN_z (fun k hk => h k (by omega)), h n (by omega)]
theorem ou_free {tg : Nat → Nat → Nat × Nat} {d : Nat} {w : Nat → Nat} {n s p : Nat} (h : ∀ k, k < n → 0 < w k → ∀ e, (tg k e).2 ≠ p) : ouN tg d w n s p = 0 := by
  unfold ouN
  refine smN_z (fun k hk => ?_)
  by_cases z : w k = 0
  · exact cn_w0 z
  · have hh := fun e => h k hk (by omega) e
    have hn : ∀ e, ¬ tg k e = (s, p) := fun e q => hh e (by rw [q])
    unfold cnN
    rw [if_neg (hn 3), if_neg (hn 0), if_neg (hn 1)]
/-! ===== the class's rows of outcomes ===== -/
theorem and3g {y : Nat} (h : y < 2 ^ 31) : nI y &&& (3 : Int32) = nI (y % 4) := pk_andN (k := 2) (by omega) (by decide)
theorem x_add {σ : SX} {s c y : Nat} (hs : s < 4) (hc : c < 36) (hy : y < 2 ^ 31) (v : Int64) : fX4_add σ (nI s) (nI c) (nI y) v = some (sx_od_outs σ (ox_up (gx_od_outs σ) s (c * 4 + y % 4) (gx_od_outs σ s (c * 4 + y % 4) + v))) := by
  have hm : y % 4 < 4 := Nat.mod_lt _ (by decide)
  unfold fX4_add fX4_add_b38
  rw [and3g hy, nI_mul4, nI_add, and3s s hs, if_neg (nI_pos (by omega)), if_pos (show nI (c * 4 + y % 4) < (144 : Int32) from ltE _ 144 (by omega) (by decide)), if_pos (inb hs (by decide)), cl_nI (show s < 2 ^ 31 by omega), if_pos hs, if_pos (inb (show c * 4 + y % 4 < 144 by omega) (by decide)), if_pos hs, if_pos (inb (show c * 4 + y % 4 < 144 by omega) (by decide)), cl_nI (by omega)]
theorem up_ad {O : Nat → Nat → Int64} {f : Nat → Nat → Nat} (h : ∀ s, s < 4 → ∀ p, p < 144 → O s p = lN (f s p)) {a b : Nat} (ha : a < 4) (hb : b < 144) (v : Nat) : ∀ s, s < 4 → ∀ p, p < 144 → ox_up O a b (O a b + lN v) s p = lN (f s p + if (a, b) = (s, p) then v else 0) := by
  intro s hs p hp
  unfold ox_up
  by_cases e1 : s = a
  · subst e1
    rw [if_pos rfl]
    by_cases e2 : p = b
    · subst e2
      rw [pk_uLs, h s hs p hp, lN_addE, if_pos rfl]
    · rw [pk_uLn e2, h s hs p hp, if_neg (fun q => e2 (Prod.mk.inj q).2.symm)]; rfl
  · rw [if_neg e1, h s hs p hp, if_neg (fun q => e1 (Prod.mk.inj q).1.symm)]; rfl
/-- an outcome is added -/
theorem x_addE {σ : SX} {f : Nat → Nat → Nat} (h : ∀ s, s < 4 → ∀ p, p < 144 → gx_od_outs σ s p = lN (f s p)) {s c y : Nat} (hs : s < 4) (hc : c < 36) (hy : y < 2 ^ 31) (v : Nat) : ∃ O, fX4_add σ (nI s) (nI c) (nI y) (lN v) = some (sx_od_outs σ O) ∧ ∀ t, t < 4 → ∀ p, p < 144 → O t p = lN (f t p + if (s, c * 4 + y % 4) = (t, p) then v else 0) := by
  have hm : y % 4 < 4 := Nat.mod_lt _ (by decide)
  exact ⟨_, x_add hs hc hy _, up_ad h hs (by omega) v⟩
theorem x_fillo {σ : SX} {s : Nat} (hs : s < 4) : ∃ O, fJ7_fill_o σ s 0 = some (sx_od_outs σ O) ∧ (∀ p, p < 144 → O s p = 0) ∧ ∀ t, t ≠ s → O t = gx_od_outs σ t := by
  unfold fJ7_fill_o
  rw [if_pos hs]
  obtain ⟨⟨σ', x⟩, ⟨O, e, h1, h2⟩, hL⟩ := lp_iv (fun n (p : SX × Int32) => fJ7_fill_o_l6 n p.1 s 0 p.2) (fun i p => ∃ O, p = (sx_od_outs σ O, nI i) ∧ (∀ p, p < i → O s p = 0) ∧ ∀ t, t ≠ s → O t = gx_od_outs σ t) 144 (fun i n a hi ha => by
    obtain ⟨O, rfl, h1, h2⟩ := ha
    refine ⟨(sx_od_outs σ (ox_up O s i 0), nI (i + 1)), ⟨_, rfl, fun p hp => ?_, fun t ht => ?_⟩, ?_⟩
    · unfold ox_up
      rw [if_pos rfl]
      by_cases e : p = i
      · rw [e, pk_uLs]
      · rw [pk_uLn e, h1 p (by omega)]
    · unfold ox_up
      rw [if_neg ht, h2 t ht]
    · show fJ7_fill_o_b6 _ (sx_od_outs σ O) _ _ _ = fJ7_fill_o_l6 n (sx_od_outs σ _) _ _ (nI (i + 1))
      unfold fJ7_fill_o_b6
      rw [if_pos (show nI i < (144 : Int32) from ltE i 144 hi (by decide)), if_pos hs, if_pos (inb hi (by decide)), cl_nI (by omega), nI_1]
      rfl) 856 (σ, 0) ⟨gx_od_outs σ, rfl, fun p hp => absurd hp (Nat.not_lt_zero p), fun _ _ => rfl⟩
  cases e
  refine ⟨O, hL.trans ?_, h1, h2⟩
  show fJ7_fill_o_b6 _ _ _ _ _ = _
  unfold fJ7_fill_o_b6
  rw [if_neg (show ¬ nI 144 < (144 : Int32) by decide)]
theorem x_clearO (σ : SX) : ∃ O, fX4_clearOutcomes σ = some (sx_od_outs σ O) ∧ ∀ s, s < 4 → ∀ p, p < 144 → O s p = 0 := by
  unfold fX4_clearOutcomes
  obtain ⟨⟨σ', x⟩, ⟨O, e, h1⟩, hL⟩ := lp_iv (fun n (p : SX × Int32) => fX4_clearOutcomes_l2 n p.1 p.2) (fun i p => ∃ O, p = (sx_od_outs σ O, nI i) ∧ ∀ s, s < i → ∀ p, p < 144 → O s p = 0) 4 (fun i n a hi ha => by
    obtain ⟨O, rfl, h1⟩ := ha
    obtain ⟨O', e1, e2, e3⟩ := x_fillo (σ := sx_od_outs σ O) hi
    refine ⟨(sx_od_outs σ O', nI (i + 1)), ⟨_, rfl, fun s hs p hp => ?_⟩, ?_⟩
    · by_cases e : s = i
      · rw [e]; exact e2 p hp
      · rw [e3 s e]; exact h1 s (by omega) p hp
    · show fX4_clearOutcomes_b2 _ (sx_od_outs σ O) _ = fX4_clearOutcomes_l2 n (sx_od_outs σ O') (nI (i + 1))
      unfold fX4_clearOutcomes_b2
      rw [if_pos (show nI i < (4 : Int32) from ltE i 4 hi (by decide)), if_pos (inb hi (by decide)), cl_nI (by omega), e1, bindS, nI_1]
      rfl) 996 (σ, 0) ⟨gx_od_outs σ, rfl, fun s hs => absurd hs (Nat.not_lt_zero s)⟩
  cases e
  refine ⟨O, hL.trans ?_, h1⟩
  show fX4_clearOutcomes_b2 _ _ _ = _
  unfold fX4_clearOutcomes_b2
  rw [if_neg (show ¬ nI 4 < (4 : Int32) by decide)]
theorem m_clear (μ : SM) : ∃ T, fX12_clear μ = some (sm_od_then μ T) ∧ ∀ p, p < 144 → T p = 0 := by
  unfold fX12_clear
  obtain ⟨⟨σ', x⟩, ⟨T, e, h1⟩, hL⟩ := lp_iv (fun n (p : SM × Int32) => fX12_clear_l2 n p.1 p.2) (fun i p => ∃ T, p = (sm_od_then μ T, nI i) ∧ ∀ p, p < i → T p = 0) 144 (fun i n a hi ha => by
    obtain ⟨T, rfl, h1⟩ := ha
    refine ⟨(sm_od_then μ (vp_updL T i 0), nI (i + 1)), ⟨_, rfl, fun p hp => ?_⟩, ?_⟩
    · by_cases e : p = i
      · rw [e, pk_uLs]
      · rw [pk_uLn e, h1 p (by omega)]
    · show fX12_clear_b2 _ (sm_od_then μ T) _ = fX12_clear_l2 n (sm_od_then μ _) (nI (i + 1))
      unfold fX12_clear_b2
      rw [if_pos (show nI i < (144 : Int32) from ltE i 144 hi (by decide)), if_pos (inb hi (by decide)), cl_nI (by omega), nI_1]
      rfl) 856 (μ, 0) ⟨gm_od_then μ, rfl, fun s hs => absurd hs (Nat.not_lt_zero s)⟩
  cases e
  refine ⟨T, hL.trans ?_, h1⟩
  show fX12_clear_b2 _ _ _ = _
  unfold fX12_clear_b2
  rw [if_neg (show ¬ nI 144 < (144 : Int32) by decide)]
theorem up_adm {T : Nat → Int64} {f : Nat → Nat} (h : ∀ p, p < 144 → T p = lN (f p)) {b : Nat} (hb : b < 144) (v : Nat) : ∀ p, p < 144 → vp_updL T b (T b + lN v) p = lN (f p + if b = p then v else 0) := by
  intro p hp
  by_cases e2 : p = b
  · subst e2
    rw [pk_uLs, h p hp, lN_addE, if_pos rfl]
  · rw [pk_uLn e2, h p hp, if_neg (fun q => e2 q.symm)]; rfl
