/-! ===== digest ===== -/
def hhI (f : Nat → Int64) (h : Int64) : Nat → Int64
  | 0 => h
  | i + 1 => (31 : Int64) * hhI f h i + f i
theorem p_mixed (a b : Int64) : fX11_mixed a b = some ((31 : Int64) * a + b) := rfl
theorem m_mix (μ : SM) (h v : Int64) : fX12_mix (sm_gm_h μ h) v = some (sm_gm_h μ ((31 : Int64) * h + v)) := rfl
section DIG
variable {N R C : Nat} {kn w : Nat → Nat} {u n : Nat} {pg : Nat → Nat} {L : Nat} {σ : SX} {μ : SM}
theorem x_mixRing (r1 : RelRg N σ μ R C kn) (h : Int64) : fX7_mixInto σ h = some (hhI (fun c => (nI (kn c)).toInt64) h (R * C)) := by
  have h36 := rc36 r1
  unfold fX7_mixInto
  have L := lp_go (fun m (p : Int64 × Int32) => fX7_mixInto_l5 σ m p.1 p.2) (fun i => (hhI (fun c => (nI (kn c)).toInt64) h i, nI i)) (R * C) (fun i m hi => by
    show fX7_mixInto_b5 σ _ _ _ = fX7_mixInto_l5 σ m _ (nI (i + 1))
    unfold fX7_mixInto_b5
    rw [r1.2.2.2.1, if_pos (ltE i _ hi (by omega)), x_kindOf r1 hi, bindS, p_mixed, bindS, nI_1]
    rfl) (1000 - R * C)
  rw [show 1000 - R * C + R * C = 1000 by omega] at L
  refine L.trans ?_
  rw [show 1000 - R * C = (999 - R * C) + 1 by omega]
  show fX7_mixInto_b5 σ _ _ _ = _
  unfold fX7_mixInto_b5
  rw [r1.2.2.2.1, if_neg (nltE _ _ (Nat.le_refl _) (by omega))]
theorem x_mixOdds (r1 : RelRg N σ μ R C kn) (r2 : RelOd σ μ R C kn w u) (h : Int64) : fX4_mixInto σ h = some (hhI (fun k => lN (w k)) h (R * C * 4)) := by
  have h36 := rc36 r1
  unfold fX4_mixInto
  have L := lp_go (fun m (p : Int64 × Int32) => fX4_mixInto_l5 σ m p.1 p.2) (fun i => (hhI (fun k => lN (w k)) h i, nI i)) (R * C * 4) (fun i m hi => by
    show fX4_mixInto_b5 σ _ _ _ = fX4_mixInto_l5 σ m _ (nI (i + 1))
    unfold fX4_mixInto_b5
    rw [r1.2.2.2.1, nI_mul4, if_pos (ltE i _ hi (by omega)), if_pos (show nI i < (144 : Int32) from ltE i 144 (by omega) (by decide)), if_pos (inb (by omega) (by decide)), cl_nI (by omega), (r2.2.2.2.1 i (by omega)).1, p_mixed, bindS, nI_1]
    rfl) (1000 - R * C * 4)
  rw [show 1000 - R * C * 4 + R * C * 4 = 1000 by omega] at L
  refine L.trans ?_
  rw [show 1000 - R * C * 4 = (999 - R * C * 4) + 1 by omega]
  show fX4_mixInto_b5 σ _ _ _ = _
  unfold fX4_mixInto_b5 fX4_mixInto_b47
  rw [r1.2.2.2.1, nI_mul4, if_neg (nltE _ _ (Nat.le_refl _) (by omega))]
theorem x_mixPage (r6 : RelPg σ μ pg L) (h : Int64) : fX5_mixInto σ h = some (hhI (fun i => (nI (pg i)).toInt64) h L) := by
  have hL := r6.1
  unfold fX5_mixInto
  have Lp := lp_go (fun m (p : Int64 × Int32) => fX5_mixInto_l5 σ m p.1 p.2) (fun i => (hhI (fun i => (nI (pg i)).toInt64) h i, nI i)) L (fun i m hi => by
    show fX5_mixInto_b5 σ _ _ _ = fX5_mixInto_l5 σ m _ (nI (i + 1))
    unfold fX5_mixInto_b5
    rw [r6.2.1, if_pos (ltE i _ hi (by omega)), if_pos (show nI i < (45 : Int32) from ltE i 45 (by omega) (by decide)), if_pos (inb (by omega) (by decide)), cl_nI (by omega), (r6.2.2.2 i hi).2.2.1, p_mixed, bindS, nI_1]
    rfl) (1000 - L)
  rw [show 1000 - L + L = 1000 by omega] at Lp
  refine Lp.trans ?_
  rw [show 1000 - L = (999 - L) + 1 by omega]
  show fX5_mixInto_b5 σ _ _ _ = _
  unfold fX5_mixInto_b5 fX5_mixInto_b43
  rw [r6.2.1, if_neg (nltE _ _ (Nat.le_refl _) (by omega))]
/-- what is told of a player -/
def dtI (σ : SX) (i q : Nat) : Int32 := if q = 0 then nI (gx_pl_kd σ i) else if q = 1 then gx_pl_told σ i else if q = 2 then gx_pl_size σ i else if q = 3 then gx_pl_cloth σ i else gx_pl_giggle σ i
theorem x_dt (r3 : RelPl σ μ R C kn n) {i q : Nat} (hi : i < n) (hq : q < 5) : fX6_detail σ (20 + i) (nI q) = some (dtI σ i q) := by
  have hok := x_pok r3 hi
  have hk := ox_kd hok
  have hdk := x_dkind (σ := σ) (a := 20 + i) hk
  rw [Nat.add_sub_cancel_left] at hdk
  unfold fX6_detail dtI
  simp only [hok, if_true, hdk, bindS, Nat.add_sub_cancel_left]
  rcases (show q = 0 ∨ q = 1 ∨ q = 2 ∨ q = 3 ∨ q = 4 by omega) with rfl | rfl | rfl | rfl | rfl <;> rfl
theorem m_dt (r3 : RelPl σ μ R C kn n) {i q : Nat} (hi : i < n) (hq : q < 5) : fX12_playerTold μ (nI i) (nI q) = some (dtI σ i q) := by
  have h6 := r3.1
  obtain ⟨k1, k2, k3, ⟨o, k4, k5, k6⟩, ⟨o2, l4, l5, l6⟩, ⟨o3, m4, m5, m6⟩, ⟨o4, n4, n5, n6⟩⟩ := r3.2.2.2.2.2 i hi
  simp only [fX12_playerTold]
  unfold dtI
  simp only [if_pos (inb (show i < 6 by omega) (show 6 < 2 ^ 31 by decide)), if_pos (inbN (show i < 6 by omega) (show i < 2 ^ 31 by omega)), cl_nI (show i < 2 ^ 31 by omega), k3, k5, k6, l5, l6, m5, m6, n5, n6]
  rcases (show q = 0 ∨ q = 1 ∨ q = 2 ∨ q = 3 ∨ q = 4 by omega) with rfl | rfl | rfl | rfl | rfl <;> rfl
def plI (σ : SX) (h : Int64) : Nat → Int64
  | 0 => h
  | i + 1 => hhI (fun q => (dtI σ i q).toInt64) (plI σ h i) 5
theorem x_digP (r3 : RelPl σ μ R C kn n) (h : Int64) : fX11_digest_l30 1000 σ h 0 = fX11_digest_l30 994 σ (plI σ h n) (nI 6) := by
  have h6 := r3.1
  have L := lp_go (fun m (p : Int64 × Int32) => fX11_digest_l30 m σ p.1 p.2) (fun i => (plI σ h (min i n), nI i)) 6 (fun i m hi => by
    show fX11_digest_b30 _ σ _ _ = fX11_digest_l30 m σ _ (nI (i + 1))
    unfold fX11_digest_b30
    rw [if_pos (show nI i < (6 : Int32) from ltE i 6 hi (by decide)), if_pos (inb hi (by decide)), cl_nI (by omega), r3.2.2.2.2.1 i hi]
    by_cases hn : i < n
    · rw [if_pos hn, Nat.min_eq_left (by omega : i ≤ n), Nat.min_eq_left (by omega : i + 1 ≤ n)]
      simp only [ev_q]
      have L2 := lp_go (fun m' (p : Int64 × Int32) => fX11_digest_l46 (fX11_digest_l30 m) m' σ p.1 (nI i) (some (20 + i)) p.2) (fun q => (hhI (fun q => (dtI σ i q).toInt64) (plI σ h i) q, nI q)) 5 (fun q m' hq => by
        show fX11_digest_b46 _ _ σ _ _ _ _ = fX11_digest_l46 _ m' σ _ _ _ (nI (q + 1))
        unfold fX11_digest_b46
        simp only [ev_q]
        rw [if_neg (show ¬ (4 : Int32) < nI q from nltE 4 q (by omega) (by decide)), if_pos (x_pok r3 hn), x_dt r3 hn hq, bindS, p_mixed, bindS, nI_1]
        rfl) 995
      refine L2.trans ?_
      show fX11_digest_b46 _ _ σ _ _ _ _ = _
      unfold fX11_digest_b46 fX11_digest_b76
      simp only [ev_q]
      rw [if_pos (show (4 : Int32) < nI 5 by decide), nI_1]
      rfl
    · rw [if_neg hn, Nat.min_eq_right (by omega : n ≤ i), Nat.min_eq_right (by omega : n ≤ i + 1)]
      simp only [ev_q]
      show fX11_digest_b46 _ _ σ _ _ _ _ = _
      unfold fX11_digest_b46 fX11_digest_b76
      simp only [ev_q, nI_1]) 994
  rw [Nat.zero_min, Nat.min_eq_right h6] at L
  exact L
theorem m_digP (r3 : RelPl σ μ R C kn n) (h : Int64) : fX12_digest_l64 1000 (sm_gm_h μ h) 0 = fX12_digest_l64 (1000 - n) (sm_gm_h μ (plI σ h n)) (nI n) := by
  have h6 := r3.1
  have L := lp_go (fun m (p : Int64 × Int32) => fX12_digest_l64 m (sm_gm_h μ p.1) p.2) (fun i => (plI σ h i, nI i)) n (fun i m hi => by
    show fX12_digest_b64 _ (sm_gm_h μ _) _ = fX12_digest_l64 m (sm_gm_h μ _) (nI (i + 1))
    unfold fX12_digest_b64
    have hpn : gm_pl_players (sm_gm_h μ (plI σ h i)) = nI n := r3.2.2.2.1
    rw [hpn, if_pos (ltE i n hi (by omega))]
    have L2 := lp_go (fun m' (p : Int64 × Int32) => fX12_digest_l74 (fX12_digest_l64 m) m' (sm_gm_h μ p.1) (nI i) p.2) (fun q => (hhI (fun q => (dtI σ i q).toInt64) (plI σ h i) q, nI q)) 5 (fun q m' hq => by
      show fX12_digest_b74 _ _ (sm_gm_h μ _) _ _ = fX12_digest_l74 _ m' (sm_gm_h μ _) _ (nI (q + 1))
      unfold fX12_digest_b74
      have hd := m_dt (σ := σ) (μ := sm_gm_h μ (hhI (fun q => (dtI σ i q).toInt64) (plI σ h i) q)) (R := R) (C := C) (kn := kn) r3 hi hq
      rw [if_pos (show nI q < (5 : Int32) from ltE q 5 hq (by decide)), hd, bindS, m_mix, bindS, nI_1]
      rfl) 995
    refine L2.trans ?_
    show fX12_digest_b74 _ _ (sm_gm_h μ _) _ _ = _
    unfold fX12_digest_b74
    rw [if_neg (show ¬ nI 5 < (5 : Int32) by decide), nI_1]
    rfl) (1000 - n)
  rw [show 1000 - n + n = 1000 by omega] at L
  exact L
theorem m_digR (r1 : RelRg N σ μ R C kn) (h : Int64) : fX12_digest_l9 1000 (sm_gm_h μ h) 0 = fX12_digest_l36 1000 (sm_gm_h μ (hhI (fun c => (nI (kn c)).toInt64) h (R * C))) 0 := by
  have h36 := rc36 r1
  have L := lp_go (fun m (p : Int64 × Int32) => fX12_digest_l9 m (sm_gm_h μ p.1) p.2) (fun i => (hhI (fun c => (nI (kn c)).toInt64) h i, nI i)) (R * C) (fun i m hi => by
    show fX12_digest_b9 _ (sm_gm_h μ _) _ = fX12_digest_l9 m (sm_gm_h μ _) (nI (i + 1))
    unfold fX12_digest_b9
    have hcl := m_cells (σ := σ) (μ := sm_gm_h μ (hhI (fun c => (nI (kn c)).toInt64) h i)) (N := N) (R := R) (C := C) (kn := kn) r1
    have hk : gm_rg_cellOf (sm_gm_h μ (hhI (fun c => (nI (kn c)).toInt64) h i)) i = nI (kn i) := (r1.2.2.2.2.2.1 i hi).2.2.1
    rw [hcl, bindS, if_pos (ltE i _ hi (by omega)), if_pos (inb (by omega) (by decide)), cl_nI (by omega), hk, m_mix, bindS, nI_1]
    rfl) (1000 - R * C)
  rw [show 1000 - R * C + R * C = 1000 by omega] at L
  refine L.trans ?_
  rw [show 1000 - R * C = (999 - R * C) + 1 by omega]
  show fX12_digest_b9 _ (sm_gm_h μ _) _ = _
  unfold fX12_digest_b9
  have hcl := m_cells (σ := σ) (μ := sm_gm_h μ (hhI (fun c => (nI (kn c)).toInt64) h (R * C))) (N := N) (R := R) (C := C) (kn := kn) r1
  rw [hcl, bindS, if_neg (nltE _ _ (Nat.le_refl _) (by omega))]
theorem m_digO (r1 : RelRg N σ μ R C kn) (r2 : RelOd σ μ R C kn w u) (h : Int64) : fX12_digest_l36 1000 (sm_gm_h μ h) 0 = fX12_digest_l64 1000 (sm_gm_h μ (hhI (fun k => lN (w k)) h (R * C * 4))) 0 := by
  have h36 := rc36 r1
  have L := lp_go (fun m (p : Int64 × Int32) => fX12_digest_l36 m (sm_gm_h μ p.1) p.2) (fun i => (hhI (fun k => lN (w k)) h i, nI i)) (R * C * 4) (fun i m hi => by
    show fX12_digest_b36 _ (sm_gm_h μ _) _ = fX12_digest_l36 m (sm_gm_h μ _) (nI (i + 1))
    unfold fX12_digest_b36
    have hcl := m_cells (σ := σ) (μ := sm_gm_h μ (hhI (fun k => lN (w k)) h i)) (N := N) (R := R) (C := C) (kn := kn) r1
    have hk : gm_od_weight (sm_gm_h μ (hhI (fun k => lN (w k)) h i)) i = lN (w i) := (r2.2.2.2.1 i (by omega)).2.1
    rw [hcl, bindS, nI_4mul, if_pos (ltE i _ hi (by omega)), if_pos (inb (by omega) (by decide)), cl_nI (by omega), hk, m_mix, bindS, nI_1]
    rfl) (1000 - R * C * 4)
  rw [show 1000 - R * C * 4 + R * C * 4 = 1000 by omega] at L
  refine L.trans ?_
  rw [show 1000 - R * C * 4 = (999 - R * C * 4) + 1 by omega]
  show fX12_digest_b36 _ (sm_gm_h μ _) _ = _
  unfold fX12_digest_b36
  have hcl := m_cells (σ := σ) (μ := sm_gm_h μ (hhI (fun k => lN (w k)) h (R * C * 4))) (N := N) (R := R) (C := C) (kn := kn) r1
  rw [hcl, bindS, nI_4mul, if_neg (nltE _ _ (Nat.le_refl _) (by omega))]
/-- the page and the counts -/
theorem dig_tail (hP : RP N R C kn w u n pg L σ μ) (h : Int64) : ∃ r, fX11_digest_b150 σ h = some (r, σ) ∧ fX12_digest_b174 (sm_gm_h μ h) = some (r, sm_gm_h μ r) := by
  have r6 := hP.2.2.2.2.2
  have hL := r6.1
  have hR : ∀ z, Rel N σ (sm_gm_h μ z) := fun z => ⟨R, C, kn, w, u, n, pg, L, hP⟩
  have cf : ∃ f : Nat → Int32, ∀ q, fX11_count σ (nI q) = some (f q) ∧ ∀ z, fX12_howMany (sm_gm_h μ z) (nI q) = some (f q) := by
    refine ⟨fun q => (xm_count (hR 0) (nI q)).choose, fun q => ⟨(xm_count (hR 0) (nI q)).choose_spec.1, fun z => ?_⟩⟩
    obtain ⟨r, a, b⟩ := xm_count (hR z) (nI q)
    have := (xm_count (hR 0) (nI q)).choose_spec.1
    have e := Option.some.inj (a.symm.trans this)
    rw [b]; exact congrArg some e
  obtain ⟨f, hf⟩ := cf
  generalize hH : hhI (fun i => (nI (pg i)).toInt64) h L = H
  refine ⟨hhI (fun q => (f q).toInt64) H 8, ?_, ?_⟩
  · unfold fX11_digest_b150
    rw [x_mixPage r6, bindS, hH]
    have Lp := lp_go (fun m (p : Int64 × Int32) => fX11_digest_l161 m σ p.1 p.2) (fun i => (hhI (fun q => (f q).toInt64) H i, nI i)) 8 (fun i m hi => by
      show fX11_digest_b161 _ σ _ _ = fX11_digest_l161 m σ _ (nI (i + 1))
      unfold fX11_digest_b161
      rw [if_neg (show ¬ (7 : Int32) < nI i from nltE 7 i (by omega) (by decide)), (hf i).1, bindS, p_mixed, bindS, nI_1]
      rfl) 992
    refine Lp.trans ?_
    show fX11_digest_b161 _ σ _ _ = _
    unfold fX11_digest_b161
    rw [if_pos (show (7 : Int32) < nI 8 by decide)]
  · unfold fX12_digest_b174
    have Lp := lp_go (fun m (p : Int64 × Int32) => fX12_digest_l176 m (sm_gm_h μ p.1) p.2) (fun i => (hhI (fun i => (nI (pg i)).toInt64) h i, nI i)) L (fun i m hi => by
      show fX12_digest_b176 _ (sm_gm_h μ _) _ = fX12_digest_l176 m (sm_gm_h μ _) (nI (i + 1))
      unfold fX12_digest_b176
      have e1 : gm_pg_pageLength (sm_gm_h μ (hhI (fun i => (nI (pg i)).toInt64) h i)) = nI L := r6.2.2.1
      have e2 : gm_pg_page (sm_gm_h μ (hhI (fun i => (nI (pg i)).toInt64) h i)) i = nI (pg i) := (r6.2.2.2 i hi).2.2.2
      rw [e1, if_pos (ltE i _ hi (by omega)), if_pos (inb (by omega) (by decide)), cl_nI (by omega), e2, m_mix, bindS, nI_1]
      rfl) (1000 - L)
    rw [show 1000 - L + L = 1000 by omega] at Lp
    refine Lp.trans ?_
    rw [show 1000 - L = (999 - L) + 1 by omega]
    show fX12_digest_b176 _ (sm_gm_h μ _) _ = _
    unfold fX12_digest_b176
    have e1 : gm_pg_pageLength (sm_gm_h μ (hhI (fun i => (nI (pg i)).toInt64) h L)) = nI L := r6.2.2.1
    rw [e1, if_neg (nltE _ _ (Nat.le_refl _) (by omega)), hH]
    have Lq := lp_go (fun m (p : Int64 × Int32) => fX12_digest_l203 m (sm_gm_h μ p.1) p.2) (fun i => (hhI (fun q => (f q).toInt64) H i, nI i)) 8 (fun i m hi => by
      show fX12_digest_b203 _ (sm_gm_h μ _) _ = fX12_digest_l203 m (sm_gm_h μ _) (nI (i + 1))
      unfold fX12_digest_b203
      rw [if_pos (show nI i < (8 : Int32) from ltE i 8 hi (by decide)), (hf i).2, bindS, m_mix, bindS, nI_1]
      rfl) 992
    refine Lq.trans ?_
    show fX12_digest_b203 _ (sm_gm_h μ _) _ = _
    unfold fX12_digest_b203
    rw [if_neg (show ¬ nI 8 < (8 : Int32) by decide)]
    rfl
theorem x_first (r1 : RelRg N σ μ R C kn) {c : Nat} (hc : frC R C kn c) (hl : ∀ j, j < c → ¬ kn j < 2) : fX7_firstFree σ = some (nI c) := by
  have h36 := rc36 r1
  have hc' := hc.1
  unfold fX7_firstFree
  have L := lp_go (fun m (p : Int32) => fX7_firstFree_l2 σ m p) (fun i => nI i) c (fun i m hi => by
    show fX7_firstFree_b2 σ _ _ = fX7_firstFree_l2 σ m (nI (i + 1))
    unfold fX7_firstFree_b2
    rw [r1.2.2.2.1, if_pos (ltE i _ (by omega) (by omega)), x_isFree r1 (by omega), bindS, decide_eq_false (hl i hi), if_pos (show zb false = 0 from rfl), nI_1]) (1000 - c)
  rw [show 1000 - c + c = 1000 by omega] at L
  refine L.trans ?_
  rw [show 1000 - c = (999 - c) + 1 by omega]
  show fX7_firstFree_b2 σ _ _ = _
  unfold fX7_firstFree_b2
  rw [r1.2.2.2.1, if_pos (ltE c _ hc' (by omega)), x_isFree r1 hc', bindS, decide_eq_true hc.2, if_neg (show ¬ zb true = 0 by decide)]
theorem m_first (r1 : RelRg N σ μ R C kn) {c : Nat} (hc : frC R C kn c) (hl : ∀ j, j < c → ¬ kn j < 2) : fX12_mixGame μ = (fX12_play μ (nI c) (nI 0) (nI 2) (nI 1) (nI 20)).bind fun r2 => (fX12_mix r2 ((gm_gm_touched r2).toInt64)).bind fun r3 => fX12_mix r3 ((gm_gm_touchedAt r3).toInt64) := by
  have h36 := rc36 r1
  have hc' := hc.1
  unfold fX12_mixGame
  have L := lp_go (fun m (p : Int32) => fX12_mixGame_l2 m μ p) (fun i => nI i) c (fun i m hi => by
    show fX12_mixGame_b2 _ μ _ = fX12_mixGame_l2 m μ (nI (i + 1))
    unfold fX12_mixGame_b2
    rw [m_isFree r1 (by omega), bindS, decide_eq_false (hl i hi), if_pos (show zb false = 0 from rfl), nI_1]) (1000 - c)
  rw [show 1000 - c + c = 1000 by omega] at L
  refine L.trans ?_
  rw [show 1000 - c = (999 - c) + 1 by omega]
  show fX12_mixGame_b2 _ μ _ = _
  unfold fX12_mixGame_b2
  rw [m_isFree r1 hc', bindS, decide_eq_true hc.2, if_neg (show ¬ zb true = 0 by decide)]
  simp only [opt_id]
  rfl
theorem x_out0 (σ : SX) : fX8_outcome σ 0 = some (gx_rd_touched σ) := by
  unfold fX8_outcome
  rw [if_pos rfl]
theorem x_out1 (σ : SX) : fX8_outcome σ 1 = some (gx_rd_tenth σ) := by
  unfold fX8_outcome
  rw [if_neg (by decide), if_pos rfl]
theorem dig_mid (hP : RP N R C kn w u n pg L σ μ) (h0 : R ≠ 0) (z : Int64) : ∃ r σ' μ', ((fX7_firstFree σ).bind fun r11 => (fX8_begin σ r11 0 2 20).bind fun r12 => (fX8_play r12 1).bind fun r13 => (fX8_outcome r13 0).bind fun r14 => (fX11_mixed z r14.toInt64).bind fun r15 => (fX8_outcome r13 1).bind fun r16 => (fX11_mixed r15 r16.toInt64).bind fun r17 => fX11_digest_b150 r13 r17) = some (r, σ') ∧ ((fX12_mixGame (sm_gm_h μ z)).bind fun r12 => fX12_digest_b174 r12) = some (r, μ') ∧ RP N R C kn w u n pg L σ' μ' := by
  have r1 := hP.1
  have hfc : ∃ c, frC R C kn c := by
    rcases r1.1 with ⟨e, -⟩ | ⟨-, -, -, -, e, -⟩
    · exact absurd e h0
    · exact e
  obtain ⟨c, hc, hl⟩ := pk_least (fun c => frC R C kn c) hfc
  have hl' : ∀ j, j < c → ¬ kn j < 2 := fun j hj q => hl j hj ⟨by have := hc.1; omega, q⟩
  obtain ⟨σ1, e1, p1, bg⟩ := x_begin σ c 0 2 20
  have e1' : fX8_begin σ (nI c) 0 2 20 = some σ1 := e1
  have hPz : RP N R C kn w u n pg L σ (sm_gm_h μ z) := hP
  have hz : gm_gm_h (sm_gm_h μ z) = z := rfl
  generalize sm_gm_h μ z = μ0 at hPz hz
  have hP1 : RP N R C kn w u n pg L σ1 μ0 := p1 _ _ _ _ _ _ _ _ _ _ hPz
  obtain ⟨σ2, μ2, f1, f2, f3, f4, f5⟩ := play_sim h0 hP1 hc.1 (show 0 < 4 by decide) (show 1 ≤ 20 by decide) (by decide) bg.1 bg.2.1 bg.2.2.1 bg.2.2.2 (nI 1)
  have f1' : fX8_play σ1 1 = some σ2 := f1
  have hP2 : RP N R C kn w u n pg L σ2 μ2 := f4.1 _ _ _ _ _ _ _ _ _ _ (f3.1 _ _ _ _ _ _ _ _ _ _ hP1)
  have hh : gm_gm_h μ2 = z := f4.2.trans hz
  have hs : ∀ v, fX12_mix μ2 v = some (sm_gm_h μ2 ((31 : Int64) * z + v)) := fun v => by rw [← hh]; rfl
  have hta : ∀ v, gm_gm_touchedAt (sm_gm_h μ2 v) = gm_gm_touchedAt μ2 := fun v => rfl
  rw [x_first r1 hc hl', bindS, e1', bindS, f1', bindS, m_first hPz.1 hc hl', f2, bindS, hs, bindS, m_mix, hta, bindS, x_out0, x_out1]
  simp only [bindS, p_mixed, f5.1, f5.2.1]
  obtain ⟨r, g1, g2⟩ := dig_tail hP2 ((31 : Int64) * ((31 : Int64) * z + (gm_gm_touched μ2).toInt64) + (gm_gm_touchedAt μ2).toInt64)
  rw [g1, g2]
  have hP3 : RP N R C kn w u n pg L σ2 (sm_gm_h μ2 r) := hP2
  exact ⟨_, _, _, rfl, rfl, hP3⟩
def nmI (h a b c d e f : Int64) : Int64 := (31 : Int64) * ((31 : Int64) * ((31 : Int64) * ((31 : Int64) * ((31 : Int64) * ((31 : Int64) * h + a) + b) + c) + d) + e) + f
theorem x_mixNm (r4 : RelNm σ μ n) (h : Int64) : fX3_mixInto σ h = some (nmI h (gx_nm_sizeOff σ).toInt64 (gx_nm_clothRight σ).toInt64 (gx_nm_giggleRight σ).toInt64 (gx_nm_first σ).toInt64 (gx_nm_second σ).toInt64 (gx_nm_changed σ).toInt64) := by
  unfold fX3_mixInto nmI
  rw [p_mixed, bindS, p_mixed, bindS, p_mixed, bindS, p_mixed, bindS, p_mixed, bindS, p_mixed, bindS]
theorem m_mixNm (r3 : RelPl σ μ R C kn n) (r4 : RelNm σ μ n) (h : Int64) (k : SM → Int32 → Option (Int64 × SM)) (z : Int64) (hz : nmI h (gx_nm_sizeOff σ).toInt64 (gx_nm_clothRight σ).toInt64 (gx_nm_giggleRight σ).toInt64 (gx_nm_first σ).toInt64 (gx_nm_second σ).toInt64 (gx_nm_changed σ).toInt64 = z) : fX12_digest_b64 k (sm_gm_h μ h) (nI n) = if 0 < gm_rg_rings μ then (if 0 < nI n then (fX12_mixGame (sm_gm_h μ z)).bind (fun r12 => fX12_digest_b174 r12) else fX12_digest_b174 (sm_gm_h μ z)) else fX12_digest_b174 (sm_gm_h μ z) := by
  have h6 := r3.1
  obtain ⟨⟨t1, -, a1, a2⟩, ⟨t2, -, b1, b2⟩, ⟨t3, -, c1, c2⟩, d1, d2, d3, -⟩ := r4
  have q1 : ∀ z, gm_nm_unsure (sm_gm_h μ z) = gx_nm_sizeOff σ := fun z => a2.trans a1.symm
  have q2 : ∀ z, gm_nm_clothRight (sm_gm_h μ z) = gx_nm_clothRight σ := fun z => b2.trans b1.symm
  have q3 : ∀ z, gm_nm_giggleRight (sm_gm_h μ z) = gx_nm_giggleRight σ := fun z => c2.trans c1.symm
  have q4 : ∀ z, gm_nm_jacketA (sm_gm_h μ z) = gx_nm_first σ := fun z => d1.symm
  have q5 : ∀ z, gm_nm_jacketB (sm_gm_h μ z) = gx_nm_second σ := fun z => d2.symm
  have q6 : ∀ z, gm_nm_jacketTenths (sm_gm_h μ z) = gx_nm_changed σ := fun z => d3.symm
  have q7 : ∀ z, gm_rg_rings (sm_gm_h μ z) = gm_rg_rings μ := fun z => rfl
  have q8 : ∀ z, gm_pl_players (sm_gm_h μ z) = nI n := fun z => r3.2.2.2.1
  subst hz
  unfold fX12_digest_b64
  rw [q8, if_neg (nltE _ _ (Nat.le_refl _) (by omega)), q1, m_mix, bindS, q2, m_mix, bindS, q3, m_mix, bindS, q4, m_mix, bindS, q5, m_mix, bindS, q6, m_mix, bindS, q7, q8]
  unfold nmI
  rfl
end DIG
theorem sim_digest (N : Nat) (hN : N ≤ 512) : SimW N fX11_digest fX12_digest := by
  intro σ μ hR
  obtain ⟨R, C, kn, w, u, n, pg, L, r1, r2, r3, r4, r5, r6⟩ := id hR
  have hP : RP N R C kn w u n pg L σ μ := ⟨r1, r2, r3, r4, r5, r6⟩
  have h6 := r3.1
  have h1 : ∃ h, fX11_digest σ = fX11_digest_l30 994 σ h (nI 6) ∧ fX12_digest μ = fX12_digest_l64 (1000 - n) (sm_gm_h μ h) (nI n) := by
    refine ⟨plI σ (hhI (fun k => lN (w k)) (hhI (fun c => (nI (kn c)).toInt64) 457 (R * C)) (R * C * 4)) n, ?_, ?_⟩
    · unfold fX11_digest
      rw [x_mixRing r1, bindS, x_mixOdds r1 r2, bindS, x_digP r3]
    · unfold fX12_digest
      rw [m_digR r1, m_digO r1 r2, m_digP r3]
  obtain ⟨h, e1, e2⟩ := h1
  have x30 : ∀ k, fX11_digest_l30 (k + 1) σ h (nI 6) = fX11_digest_b30 (fX11_digest_l30 k) σ h (nI 6) := fun k => rfl
  have m64 : ∀ k, fX12_digest_l64 (k + 1) (sm_gm_h μ h) (nI n) = fX12_digest_b64 (fX12_digest_l64 k) (sm_gm_h μ h) (nI n) := fun k => rfl
  generalize hz : nmI h (gx_nm_sizeOff σ).toInt64 (gx_nm_clothRight σ).toInt64 (gx_nm_giggleRight σ).toInt64 (gx_nm_first σ).toInt64 (gx_nm_second σ).toInt64 (gx_nm_changed σ).toInt64 = z
  have b30 : ∀ k, fX11_digest_b30 k σ h (nI 6) = if 0 < nI n then ((fX7_firstFree σ).bind fun r11 => (fX8_begin σ r11 0 2 20).bind fun r12 => (fX8_play r12 1).bind fun r13 => (fX8_outcome r13 0).bind fun r14 => (fX11_mixed z r14.toInt64).bind fun r15 => (fX8_outcome r13 1).bind fun r16 => (fX11_mixed r15 r16.toInt64).bind fun r17 => fX11_digest_b150 r13 r17) else fX11_digest_b150 σ z := by
    intro k
    unfold fX11_digest_b30
    rw [if_neg (show ¬ nI 6 < (6 : Int32) by decide), x_mixNm r4, hz, bindS, r3.2.2.1]
  rw [e1, e2, show 1000 - n = (999 - n) + 1 by omega, m64, m_mixNm r3 r4 h _ z hz, x30 993, b30]
  by_cases hn : 0 < n
  · have h0 : R ≠ 0 := fun e => by have := r3.2.1 e; omega
    have hrg : (0 : Int32) < gm_rg_rings μ := by
      rcases r1.1 with ⟨e, -⟩ | ⟨-, -, -, -, -, r, z1, z2, z3⟩
      · exact absurd e h0
      · rw [z3]; exact ltE 0 r z1 (by omega)
    rw [if_pos (show (0 : Int32) < nI n from ltE 0 n hn (by omega)), if_pos hrg, if_pos (show (0 : Int32) < nI n from ltE 0 n hn (by omega))]
    obtain ⟨r, σ', μ', g1, g2, g3⟩ := dig_mid hP h0 z
    exact ⟨r, σ', μ', g1, g2, rp_rel g3⟩
  · obtain rfl : n = 0 := by omega
    rw [if_neg (show ¬ (0 : Int32) < nI 0 by decide), if_neg (show ¬ (0 : Int32) < nI 0 by decide), ite_self]
    obtain ⟨r, g1, g2⟩ := dig_tail hP z
    rw [g1, g2]
    have hP3 : RP N R C kn w u 0 pg L σ (sm_gm_h μ r) := hP
    exact ⟨_, _, _, rfl, rfl, rp_rel hP3⟩
