/-! ===== naming: named, says, when ===== -/
/-- a call that changes what is only the class's own -/
def SimX {α : Type} (N : Nat) (fx : SX → Option (α × SX)) (fm : SM → Option α) : Prop := ∀ σ μ, Rel N σ μ → ∃ r σ', fx σ = some (r, σ') ∧ fm μ = some r ∧ Rel (N + 1) σ' μ
theorem nz_d : ∀ s : Fin 10, ∀ t : Fin 10, (nI s.val - nI t.val = 0 ↔ s.val = t.val) ∧ (nI s.val - nI t.val = 1 ↔ s.val = t.val + 1) ∧ (nI s.val - nI t.val = -1 ↔ t.val = s.val + 1) ∧ fX12_size (nI t.val - nI s.val) = some (nI ((t.val - s.val) + (s.val - t.val))) := by decide +kernel
def nzS (t s si : Nat) : Nat := if s = si then 10 - 2 * t else if s = si + 1 ∨ si = s + 1 then t else 0
def nzL (b : Bool) (r : Nat) : Nat := if b then 4 * r else 10 - r
theorem nI_10m {t : Nat} (h : t ≤ 10) : (10 : Int32) - nI t = nI (10 - t) := pk_sub (a := 10) h
theorem nI_2t (t : Nat) : (2 : Int32) * nI t = nI (2 * t) := pk_mul 2 t
theorem nI_4t (t : Nat) : (4 : Int32) * nI t = nI (4 * t) := pk_mul 4 t
theorem nI_10t (t : Nat) : (10 : Int32) * nI t = nI (10 * t) := pk_mul 10 t
theorem x_sizeW {σ : SX} {t s si : Nat} (ht : t ≤ 5) (hs : s ≤ 9) (hi : si ≤ 9) (h : gx_nm_sizeOff σ = nI t) : fX3_sizeWeight σ (nI s - nI si) = some (nI (nzS t s si)) := by
  obtain ⟨d1, d2, d3, -⟩ := nz_d ⟨s, by omega⟩ ⟨si, by omega⟩
  dsimp only at d1 d2 d3
  unfold fX3_sizeWeight fX3_sizeWeight_b26 fX3_sizeWeight_b34 nzS
  rw [h, nI_2t, nI_10m (by omega)]
  simp only [d1, d2, d3]
  by_cases e1 : s = si
  · simp only [if_pos e1]
  · simp only [if_neg e1]
    by_cases e2 : s = si + 1
    · simp only [if_pos e2, if_pos (Or.inl e2 : s = si + 1 ∨ si = s + 1)]
    · simp only [if_neg e2]
      by_cases e3 : si = s + 1
      · simp only [if_pos e3, if_pos (Or.inr e3 : s = si + 1 ∨ si = s + 1)]
      · simp only [if_neg e3, if_neg (fun q => q.elim e2 e3 : ¬ (s = si + 1 ∨ si = s + 1))]
        rfl
theorem x_likeW {b : Bool} {r : Nat} (hr : r ≤ 10) : fX3_likeWeight (zb b) (nI r) = some (nI (nzL b r)) := by
  unfold fX3_likeWeight fX3_likeWeight_b14 nzL
  rw [zb_if, nI_10m hr, nI_4t]
  cases b <;> rfl
theorem x_likeW1 {r : Nat} (hr : r ≤ 10) : fX3_likeWeight 1 (nI r) = some (nI (nzL true r)) := x_likeW (b := true) hr
theorem x_likeW0 {r : Nat} (hr : r ≤ 10) : fX3_likeWeight 0 (nI r) = some (nI (nzL false r)) := x_likeW (b := false) hr
theorem nzL_le {b : Bool} {r : Nat} (h : r ≤ 10) : nzL b r ≤ 40 := by unfold nzL; split <;> omega
theorem nzS_le {t s si : Nat} (h : t ≤ 5) : nzS t s si ≤ 10 := by
  unfold nzS
  split
  · omega
  · split <;> omega
theorem x_clothOf {σ : SX} {μ : SM} {R C : Nat} {kn : Nat → Nat} {n i ci : Nat} (h : RelPl σ μ R C kn n) (hi : i < n) (hc : gx_pl_cloth σ i = nI ci) : fX3_clothOf σ (nI i) = some (nI ci) := by
  have h6 := h.1
  unfold fX3_clothOf fX3_clothOf_b23 fX3_clothOf_b36
  rw [if_neg (nI_pos (by omega)), if_pos (show nI i < (6 : Int32) from ltE i 6 (by omega) (by omega)), if_pos (inb (by omega) (by omega)), cl_nI (by omega), h.2.2.2.2.1 i (by omega), if_pos hi]
  simp only [ev_q, x_pok h hi, if_true, Nat.add_sub_cancel_left, hc]
theorem m_byCloth {μ : SM} {i ci c r : Nat} (h6 : i < 6) (hc : gm_pl_clothOf μ i = nI ci) (hci : ci ≤ 4) (hcc : c ≤ 4) (hr : gm_nm_clothRight μ = nI r) (hr10 : r ≤ 10) : fX12_byCloth μ (nI i) (nI c) = some (nI (nzL (decide (ci = c)) r)) := by
  unfold fX12_byCloth fX12_byCloth_b26 nzL
  rw [if_pos (inb h6 (by decide)), cl_nI (by omega), hc, hr, nI_4t, nI_10m hr10]
  by_cases e : ci = c
  · rw [if_pos (by rw [e]), decide_eq_true e]; rfl
  · rw [if_neg (neE ci c e (by omega) (by omega)), decide_eq_false e]; rfl
theorem x_clothB {σ : SX} {v3 k ci c r j : Nat} (hk : fX3_clothOf σ (nI k) = some (nI ci)) (hci : ci ≤ 4) (hcc : c ≤ 4) (hr : gx_nm_clothRight σ = nI r) (hr10 : r ≤ 10) (hj : gx_nm_changed σ = nI j) (hj10 : j ≤ 10) : fX3_clothWeight_b64 σ (nI v3) (nI k) (nI c) = some (nI ((10 - j) * v3 + j * nzL (decide (ci = c)) r)) := by
  unfold fX3_clothWeight_b64 fX3_clothWeight_b75
  rw [hk, bindS, hr, hj, x_likeW1 hr10, x_likeW0 hr10]
  simp only [bindS, nI_10m hj10, pk_mul, nI_add]
  by_cases e : ci = c
  · rw [if_pos (by rw [e]), decide_eq_true e]
  · rw [if_neg (neE c ci (fun q => e q.symm) (by omega) (by omega)), decide_eq_false e]
section NM
variable {σ : SX} {μ : SM} {R C : Nat} {kn : Nat → Nat} {n : Nat}
/-- what a player's cloth tells: the class, and the reference, alike -/
theorem nm_cloth (h : RelPl σ μ R C kn n) (hn : RelNm σ μ n) {i c : Nat} (hi : i < n) (hc : c ≤ 4) : ∃ K, K ≤ 400 ∧ fX3_clothWeight σ (nI i) (nI c) = some (nI K) ∧ ∀ v6 v7 : Nat, fX12_likely_b73 μ (nI i) (nI c) (nI v6) (nI v7) = some (nI (v6 * v7 * K)) := by
  have h6 := h.1
  obtain ⟨-, ⟨r, r1, r2, r3⟩, -, e1, e2, e3, hj, -⟩ := hn
  obtain ⟨-, -, -, -, -, ⟨ci, q1, q2, q3⟩, -⟩ := h.2.2.2.2.2 i hi
  have own := x_clothOf h hi q2
  have ownM := m_byCloth (c := c) (show i < 6 by omega) q3 q1 hc r3 r1
  have hx : fX3_clothWeight σ (nI i) (nI c) = fX3_clothWeight_b14 σ (nI i) (nI c) (zb (decide (ci = c))) := by
    unfold fX3_clothWeight
    rw [own, bindS]
    by_cases e : ci = c
    · rw [if_pos (by rw [e]), decide_eq_true e]; rfl
    · rw [if_neg (neE c ci (fun q => e q.symm) (by omega) (by omega)), decide_eq_false e]; rfl
  have hl := nzL_le (b := decide (ci = c)) r1
  rcases hj with ⟨j1, j2, j3⟩ | ⟨p, q, t, p1, p2, p3, p4, p5, p6, p7⟩
  · -- no jackets
    have n1 : ¬ nI i = (-1 : Int32) := fun z => by
      have := nI_pos (n := i) (by omega)
      rw [z] at this
      exact this (by decide)
    refine ⟨10 * nzL (decide (ci = c)) r, by omega, ?_, fun v6 v7 => ?_⟩
    · rw [hx]
      unfold fX3_clothWeight_b14
      rw [r2, x_likeW r1, bindS, j1, j2, if_neg n1, if_neg n1, nI_10t]
    · unfold fX12_likely_b73 fX12_likely_b106 fX12_likely_b122
      rw [← e1, ← e2, j1, j2, if_neg n1, if_neg n1, if_pos rfl, ownM]
      simp only [bindS]
      show some (nI v6 * nI v7 * ((nI 10 - nI 0) * nI _ + nI 0 * nI _)) = _
      rw [pk_sub (Nat.zero_le _), pk_mul, pk_mul, pk_mul, nI_add, pk_mul]
      simp
  · have hpn : ¬ nI p = nI q := neE p q p3 (by omega) (by omega)
    obtain ⟨-, -, -, -, -, ⟨cp, a1, a2, a3⟩, -⟩ := h.2.2.2.2.2 p p1
    obtain ⟨-, -, -, -, -, ⟨cq, b1, b2, b3⟩, -⟩ := h.2.2.2.2.2 q p2
    by_cases ep : i = p
    · subst ep
      have hl2 := nzL_le (b := decide (cq = c)) r1
      refine ⟨(10 - t) * nzL (decide (ci = c)) r + t * nzL (decide (cq = c)) r, ?_, ?_, fun v6 v7 => ?_⟩
      · have := Nat.mul_le_mul_left (10 - t) hl
        have := Nat.mul_le_mul_left t hl2
        omega
      · rw [hx]
        unfold fX3_clothWeight_b14 fX3_clothWeight_b43
        rw [r2, x_likeW r1, bindS, p5, if_pos rfl, if_pos rfl, p6]
        exact x_clothB (x_clothOf h p2 b2) b1 hc r2 r1 p7 p4
      · unfold fX12_likely_b73 fX12_likely_b106 fX12_likely_b122
        rw [← e1, ← e2, ← e3, p5, p6, p7, if_pos rfl, if_neg (fun z => hpn z.symm), ownM, m_byCloth (c := c) (show q < 6 by omega) b3 b1 hc r3 r1]
        simp only [bindS, nI_10m p4, pk_mul, nI_add]
    · have nip : ¬ nI i = nI p := neE i p ep (by omega) (by omega)
      by_cases eq : i = q
      · subst eq
        have hl2 := nzL_le (b := decide (cp = c)) r1
        refine ⟨(10 - t) * nzL (decide (ci = c)) r + t * nzL (decide (cp = c)) r, ?_, ?_, fun v6 v7 => ?_⟩
        · have := Nat.mul_le_mul_left (10 - t) hl
          have := Nat.mul_le_mul_left t hl2
          omega
        · rw [hx]
          unfold fX3_clothWeight_b14 fX3_clothWeight_b43
          rw [r2, x_likeW r1, bindS, p5, p6, if_neg nip, if_pos rfl, if_neg nip]
          exact x_clothB (x_clothOf h p1 a2) a1 hc r2 r1 p7 p4
        · unfold fX12_likely_b73 fX12_likely_b106 fX12_likely_b122
          rw [← e1, ← e2, ← e3, p5, p6, p7, if_neg nip, if_pos rfl, if_neg hpn, ownM, m_byCloth (c := c) (show p < 6 by omega) a3 a1 hc r3 r1]
          simp only [bindS, nI_10m p4, pk_mul, nI_add]
      · have niq : ¬ nI i = nI q := neE i q eq (by omega) (by omega)
        refine ⟨10 * nzL (decide (ci = c)) r, by omega, ?_, fun v6 v7 => ?_⟩
        · rw [hx]
          unfold fX3_clothWeight_b14
          rw [r2, x_likeW r1, bindS, p5, p6, if_neg nip, if_neg niq, nI_10t]
        · unfold fX12_likely_b73 fX12_likely_b106 fX12_likely_b122
          rw [← e1, ← e2, p5, p6, if_neg nip, if_neg niq, if_pos rfl, ownM]
          simp only [bindS]
          show some (nI v6 * nI v7 * ((nI 10 - nI 0) * nI _ + nI 0 * nI _)) = _
          rw [pk_sub (Nat.zero_le _), pk_mul, pk_mul, pk_mul, nI_add, pk_mul]
          simp
/-- what was felt, of one player -/
theorem nm_one (h : RelPl σ μ R C kn n) (hn : RelNm σ μ n) {i s c g : Nat} (hi : i < n) (hs : s ≤ 9) (hc : c ≤ 4) (hg : g ≤ 4) : ∃ V, V ≤ 160000 ∧ fX12_likely μ (nI i) (nI s) (nI c) (nI g) = some (nI V) ∧ ∃ a b e gi, fX3_sizeWeight σ (nI s - gx_pl_size σ i) = some (nI a) ∧ fX3_clothWeight σ (nI i) (nI c) = some (nI b) ∧ gx_pl_giggle σ i = nI gi ∧ gi ≤ 4 ∧ fX3_likeWeight (zb (decide (gi = g))) (gx_nm_giggleRight σ) = some (nI e) ∧ a * b * e = V := by
  have h6 := h.1
  obtain ⟨K, k1, k2, k3⟩ := nm_cloth h hn hi hc
  obtain ⟨⟨t, t1, t2, t3⟩, -, ⟨r, r1, r2, r3⟩, -⟩ := hn
  obtain ⟨-, -, -, -, ⟨si, q1, q2, q3⟩, -, ⟨gi, u1, u2, u3⟩⟩ := h.2.2.2.2.2 i hi
  have hl := nzL_le (b := decide (gi = g)) r1
  have hz := nzS_le (t := t) (s := s) (si := si) t1
  refine ⟨nzS t s si * nzL (decide (gi = g)) r * K, ?_, ?_, nzS t s si, K, nzL (decide (gi = g)) r, gi, ?_, k2, u2, u1, ?_, ?_⟩
  · have a1 : nzS t s si * nzL (decide (gi = g)) r ≤ 10 * 40 := Nat.mul_le_mul hz hl
    have a2 : nzS t s si * nzL (decide (gi = g)) r * K ≤ 400 * 400 := Nat.mul_le_mul a1 k1
    exact a2
  · obtain ⟨-, -, -, d4⟩ := nz_d ⟨s, by omega⟩ ⟨si, by omega⟩
    dsimp only at d4
    have hg73 : ∀ a : Nat, fX12_likely_b44 μ (nI i) (nI c) (nI g) (nI a) = some (nI (a * nzL (decide (gi = g)) r * K)) := by
      intro a
      unfold fX12_likely_b44
      rw [if_pos (inb (show i < 6 by omega) (by decide)), cl_nI (by omega), u3, r3, nI_4t, nI_10m r1]
      by_cases e : gi = g
      · rw [if_pos (by rw [e]), decide_eq_true e]; exact k3 _ _
      · rw [if_neg (neE gi g e (by omega) (by omega)), decide_eq_false e]; exact k3 _ _
    unfold fX12_likely
    rw [if_pos (inb (show i < 6 by omega) (by decide)), cl_nI (by omega), q3, d4, bindS, t3, nI_2t, nI_10m (by omega)]
    unfold nzS
    by_cases e1 : s = si
    · rw [if_pos (by rw [e1, Nat.sub_self]; rfl), if_pos e1]
      exact hg73 _
    · rw [if_neg (show ¬ nI (si - s + (s - si)) = (0 : Int32) from neE (si - s + (s - si)) 0 (by omega) (by omega) (by decide)), if_neg e1]
      by_cases e2 : s = si + 1 ∨ si = s + 1
      · rw [if_pos (by rcases e2 with e | e <;> rw [e] <;> simp <;> rfl), if_pos e2]
        exact hg73 _
      · rw [if_neg (show ¬ nI (si - s + (s - si)) = (1 : Int32) from neE (si - s + (s - si)) 1 (by omega) (by omega) (by decide)), if_neg e2]
        exact hg73 0
  · rw [q2]; exact x_sizeW t1 hs q1 t2
  · rw [r2]; exact x_likeW r1
  · rw [Nat.mul_assoc, Nat.mul_comm K, ← Nat.mul_assoc]
/-- how likely a player is: the reference's number -/
def nmV (μ : SM) (s c g i : Nat) : Nat := ((fX12_likely μ (nI i) (nI s) (nI c) (nI g)).getD 0).toNatClampNeg
theorem nmV_eq {μ : SM} {s c g i V : Nat} (h : fX12_likely μ (nI i) (nI s) (nI c) (nI g) = some (nI V)) (hV : V ≤ 160000) : nmV μ s c g i = V := by
  unfold nmV
  rw [h]
  exact nI_clamp (by omega)
def nmF (μ : SM) (n s c g : Nat) : Nat → Nat := fun k => if k < n then nmV μ s c g k else 0
theorem fillS (f g : Nat → Int32) (i : Nat) : upd (fun k => if k < i then f k else g k) i (f i) = fun k => if k < i + 1 then f k else g k := by
  funext k
  by_cases e : k = i
  · subst e; rw [updS, if_pos (by omega)]
  · rw [updN e]
    by_cases q : k < i
    · rw [if_pos q, if_pos (by omega)]
    · rw [if_neg q, if_neg (by omega)]
theorem x_weigh (h : RelPl σ μ R C kn n) (hn : RelNm σ μ n) {s c g : Nat} (hs : s ≤ 9) (hc : c ≤ 4) (hg : g ≤ 4) : fX3_weigh σ (nI s) (nI c) (nI g) = some (sx_nm_weights σ (fun k => if k < 6 then nI (nmF μ n s c g k) else gx_nm_weights σ k)) := by
  have h6 := h.1
  unfold fX3_weigh
  have := lp_go (fun m (p : SX × Int32) => fX3_weigh_l3 m p.1 (nI s) (nI c) (nI g) p.2) (fun i => (sx_nm_weights σ (fun k => if k < i then nI (nmF μ n s c g k) else gx_nm_weights σ k), nI i)) 6 (fun i m hi => by
    show fX3_weigh_b3 _ (sx_nm_weights σ _) _ _ _ _ = fX3_weigh_l3 m (sx_nm_weights σ _) _ _ _ (nI (i + 1))
    rw [← fillS]
    unfold fX3_weigh_b3 fX3_weigh_b80 fX3_weigh_b88
    rw [if_pos (show nI i < (6 : Int32) from ltE i 6 hi (by omega)), if_pos (show nI i < (6 : Int32) from ltE i 6 hi (by omega)), if_pos (inb hi (by omega)), cl_nI (by omega), nI_1]
    have ha : gx_pl_arr (sx_nm_weights σ (fun k => if k < i then nI (nmF μ n s c g k) else gx_nm_weights σ k)) i = if i < n then some (20 + i) else none := h.2.2.2.2.1 i hi
    rw [ha]
    by_cases hin : i < n
    · obtain ⟨V, v1, v2, a, b, e, gi, w1, w2, w3, w4, w5, w6⟩ := nm_one h hn hin hs hc hg
      have hpok : gx_pok (sx_nm_weights σ (fun k => if k < i then nI (nmF μ n s c g k) else gx_nm_weights σ k)) (20 + i) = true := x_pok h hin
      rw [if_pos hin]
      simp only [ev_q, hpok, if_true, Nat.add_sub_cancel_left]
      have w1' : fX3_sizeWeight (sx_nm_weights σ (fun k => if k < i then nI (nmF μ n s c g k) else gx_nm_weights σ k)) (nI s - gx_pl_size (sx_nm_weights σ (fun k => if k < i then nI (nmF μ n s c g k) else gx_nm_weights σ k)) i) = some (nI a) := w1
      have w2' : fX3_clothWeight (sx_nm_weights σ (fun k => if k < i then nI (nmF μ n s c g k) else gx_nm_weights σ k)) (nI i) (nI c) = some (nI b) := w2
      have w3' : gx_pl_giggle (sx_nm_weights σ (fun k => if k < i then nI (nmF μ n s c g k) else gx_nm_weights σ k)) i = nI gi := w3
      have w5' : fX3_likeWeight (zb (decide (gi = g))) (gx_nm_giggleRight (sx_nm_weights σ (fun k => if k < i then nI (nmF μ n s c g k) else gx_nm_weights σ k))) = some (nI e) := w5
      rw [w1', w2', w3']
      simp only [bindS]
      have hV : nmF μ n s c g i = V := by unfold nmF; rw [if_pos hin, nmV_eq v2 v1]
      rw [hV, ← w6]
      by_cases eg : gi = g
      · rw [decide_eq_true eg] at w5'
        have w5'' : fX3_likeWeight 1 (gx_nm_giggleRight (sx_nm_weights σ (fun k => if k < i then nI (nmF μ n s c g k) else gx_nm_weights σ k))) = some (nI e) := w5'
        rw [if_pos (by rw [eg]), w5'']
        simp only [bindS, pk_mul, if_pos (inb2 hi (show 6 < 2 ^ 31 by decide))]
        rfl
      · rw [decide_eq_false eg] at w5'
        have w5'' : fX3_likeWeight 0 (gx_nm_giggleRight (sx_nm_weights σ (fun k => if k < i then nI (nmF μ n s c g k) else gx_nm_weights σ k))) = some (nI e) := w5'
        rw [if_neg (neE g gi (fun z => eg z.symm) (by omega) (by omega)), w5'']
        simp only [bindS, pk_mul, if_pos (inb2 hi (show 6 < 2 ^ 31 by decide))]
        rfl
    · rw [if_neg hin]
      simp only [ev_q]
      have hV : nmF μ n s c g i = 0 := by unfold nmF; rw [if_neg hin]
      rw [hV, if_pos (inb2 hi (show 6 < 2 ^ 31 by decide))]
      rfl) 994
  refine Eq.trans (?_ : _ = _) (this.trans ?_)
  · show fX3_weigh_l3 1000 σ _ _ _ _ = fX3_weigh_l3 1000 (sx_nm_weights σ (fun k => if k < 0 then nI (nmF μ n s c g k) else gx_nm_weights σ k)) _ _ _ _
    have e : (fun k => if k < 0 then nI (nmF μ n s c g k) else gx_nm_weights σ k) = gx_nm_weights σ := by
      funext k
      rw [if_neg (Nat.not_lt_zero k)]
    rw [e]
    rfl
  · show fX3_weigh_b3 _ _ _ _ _ _ = _
    unfold fX3_weigh_b3 fX3_weigh_b95
    rw [if_neg (show ¬ nI 6 < (6 : Int32) by decide)]
theorem smN_le_mul {f : Nat → Nat} {b : Nat} : ∀ {m : Nat}, (∀ k, k < m → f k ≤ b) → smN f m ≤ m * b
  | 0, _ => Nat.zero_le _
  | m + 1, h => by
    show smN f m + f m ≤ (m + 1) * b
    rw [Nat.succ_mul]
    exact Nat.add_le_add (smN_le_mul (fun k hk => h k (by omega))) (h m (by omega))
theorem nmF_le (h : RelPl σ μ R C kn n) (hn : RelNm σ μ n) {s c g : Nat} (hs : s ≤ 9) (hc : c ≤ 4) (hg : g ≤ 4) (i : Nat) : nmF μ n s c g i ≤ 160000 := by
  unfold nmF
  split
  · rename_i hi
    obtain ⟨V, v1, v2, -⟩ := nm_one h hn hi hs hc hg
    rw [nmV_eq v2 v1]; exact v1
  · omega
theorem m_likely (h : RelPl σ μ R C kn n) (hn : RelNm σ μ n) {i s c g : Nat} (hi : i < n) (hs : s ≤ 9) (hc : c ≤ 4) (hg : g ≤ 4) : fX12_likely μ (nI i) (nI s) (nI c) (nI g) = some (nI (nmF μ n s c g i)) := by
  obtain ⟨V, v1, v2, -⟩ := nm_one h hn hi hs hc hg
  unfold nmF
  rw [if_pos hi, nmV_eq v2 v1]; exact v2
/-- the state behind weigh() -/
abbrev nmS (σ : SX) (μ : SM) (n s c g : Nat) : SX := sx_nm_weights σ (fun k => if k < 6 then nI (nmF μ n s c g k) else gx_nm_weights σ k)
theorem x_wOf (h : RelPl σ μ R C kn n) (hn : RelNm σ μ n) {s c g : Nat} (hs : s ≤ 9) (hc : c ≤ 4) (hg : g ≤ 4) {i : Nat} (hi : i < 6) : fX3_weightOf (nmS σ μ n s c g) (nI i) = some (lN (nmF μ n s c g i)) := by
  have hl := nmF_le h hn hs hc hg i
  unfold fX3_weightOf fX3_weightOf_b24
  rw [if_neg (nI_pos (by omega)), if_pos (show nI i < (6 : Int32) from ltE i 6 hi (by omega)), if_pos (inb hi (by omega)), cl_nI (by omega)]
  show some ((if i < 6 then nI (nmF μ n s c g i) else gx_nm_weights σ i).toInt64) = _
  rw [if_pos hi, nI_l (by omega)]
theorem x_nmTotal (h : RelPl σ μ R C kn n) (hn : RelNm σ μ n) {s c g : Nat} (hs : s ≤ 9) (hc : c ≤ 4) (hg : g ≤ 4) : fX3_total (nmS σ μ n s c g) = some (lN (smN (nmF μ n s c g) 6)) := by
  unfold fX3_total
  have := lp_go (fun m (p : Int64 × Int32) => fX3_total_l14 (nmS σ μ n s c g) m p.1 p.2) (fun i => (lN (smN (nmF μ n s c g) i), nI i)) 6 (fun i m hi => by
    have hl := nmF_le h hn hs hc hg i
    show fX3_total_b14 _ _ _ _ = _
    unfold fX3_total_b14
    rw [if_pos (show nI i < (6 : Int32) from ltE i 6 hi (by omega)), if_pos (inb hi (by omega)), cl_nI (by omega), nI_1]
    show fX3_total_l14 _ m (lN _ + (if i < 6 then nI (nmF μ n s c g i) else gx_nm_weights σ i).toInt64) _ = fX3_total_l14 _ m (lN (smN (nmF μ n s c g) i + nmF μ n s c g i)) _
    rw [if_pos hi, nI_l (by omega), lN_addE]) 994
  refine this.trans ?_
  show fX3_total_b14 _ _ _ _ = _
  unfold fX3_total_b14
  rw [if_neg (show ¬ nI 6 < (6 : Int32) by decide)]
theorem smN_cut {f : Nat → Nat} {m : Nat} : ∀ {k : Nat}, m ≤ k → (∀ i, m ≤ i → f i = 0) → smN f k = smN f m
  | 0, h, _ => by rw [Nat.le_zero.mp h]
  | k + 1, h, hz => by
    rcases Nat.lt_or_ge m (k + 1) with q | q
    · show smN f k + f k = _
      rw [smN_cut (k := k) (by omega) hz, hz k (by omega)]; rfl
    · rw [show m = k + 1 by omega]
theorem nmF_out {μ : SM} {n s c g i : Nat} (h : n ≤ i) : nmF μ n s c g i = 0 := by unfold nmF; rw [if_neg (by omega)]
theorem m_likelyAll (h : RelPl σ μ R C kn n) (hn : RelNm σ μ n) {s c g : Nat} (hs : s ≤ 9) (hc : c ≤ 4) (hg : g ≤ 4) : fX12_likelyAll μ (nI s) (nI c) (nI g) = some (nI (smN (nmF μ n s c g) 6)) := by
  have h6 := h.1
  rw [smN_cut h6 (fun i hi => nmF_out hi)]
  unfold fX12_likelyAll
  have := lp_go (fun m (p : Int32 × Int32) => fX12_likelyAll_l6 μ m (nI s) (nI c) (nI g) p.1 p.2) (fun i => (nI (smN (nmF μ n s c g) i), nI i)) n (fun i m hi => by
    show fX12_likelyAll_b6 _ _ _ _ _ _ _ = _
    unfold fX12_likelyAll_b6
    rw [h.2.2.2.1, if_pos (ltE i n hi (by omega)), m_likely h hn hi hs hc hg, bindS, nI_1, nI_add]
    rfl) (1000 - n)
  rw [show 1000 - n + n = 1000 by omega, show 1000 - n = (999 - n) + 1 by omega] at this
  refine this.trans ?_
  show fX12_likelyAll_b6 _ _ _ _ _ _ _ = _
  unfold fX12_likelyAll_b6
  rw [h.2.2.2.1, if_neg (nltE n n (Nat.le_refl _) (by omega))]
/-- the best of those below i: none as long as all are 0 -/
def bsP (f : Nat → Nat) : Nat → Option Nat
  | 0 => none
  | i + 1 => match bsP f i with
    | none => if 0 < f i then some i else none
    | some b => if f b < f i then some i else some b
def bsV (f : Nat → Nat) (i : Nat) : Nat := match bsP f i with
  | none => 0
  | some b => f b
theorem bsP_lt {f : Nat → Nat} : ∀ {i b : Nat}, bsP f i = some b → b < i ∧ 0 < f b
  | 0, b, h => by cases h
  | i + 1, b, h => by
    unfold bsP at h
    split at h
    · split at h
      · cases h; exact ⟨Nat.lt_succ_self _, by assumption⟩
      · cases h
    · rename_i b0 hb
      have := bsP_lt hb
      split at h
      · cases h; exact ⟨Nat.lt_succ_self _, by omega⟩
      · cases h; exact ⟨by omega, this.2⟩
theorem bsP_cut {f : Nat → Nat} {m : Nat} : ∀ {k : Nat}, m ≤ k → (∀ i, m ≤ i → f i = 0) → bsP f k = bsP f m
  | 0, h, _ => by rw [Nat.le_zero.mp h]
  | k + 1, h, hz => by
    rcases Nat.lt_or_ge m (k + 1) with q | q
    · have ih := bsP_cut (k := k) (by omega) hz
      have e : bsP f (k + 1) = (match bsP f k with
        | none => if 0 < f k then some k else none
        | some b => if f b < f k then some k else some b) := rfl
      rw [e, hz k (by omega), ih]
      cases bsP f m <;> simp
    · rw [show m = k + 1 by omega]
theorem x_wOfM (τ : SX) : fX3_weightOf τ (-1) = some 0 := rfl
theorem x_likeliestP (h : RelPl σ μ R C kn n) (hn : RelNm σ μ n) {s c g : Nat} (hs : s ≤ 9) (hc : c ≤ 4) (hg : g ≤ 4) : fX3_likeliestPlayer (nmS σ μ n s c g) = some (oI (bsP (nmF μ n s c g) 6)) := by
  unfold fX3_likeliestPlayer
  have := lp_go (fun m (p : Int32 × Int32) => fX3_likeliestPlayer_l4 (nmS σ μ n s c g) m p.1 p.2) (fun i => (oI (bsP (nmF μ n s c g) i), nI i)) 6 (fun i m hi => by
    have hl := nmF_le h hn hs hc hg i
    show fX3_likeliestPlayer_b4 _ _ _ _ = fX3_likeliestPlayer_l4 _ m (oI (bsP (nmF μ n s c g) (i + 1))) (nI (i + 1))
    unfold fX3_likeliestPlayer_b4 fX3_likeliestPlayer_b29
    rw [if_pos (show nI i < (6 : Int32) from ltE i 6 hi (by omega)), x_wOf h hn hs hc hg hi, bindS]
    show _ = fX3_likeliestPlayer_l4 _ m (oI (match bsP (nmF μ n s c g) i with
      | none => if 0 < nmF μ n s c g i then some i else none
      | some b => if nmF μ n s c g b < nmF μ n s c g i then some i else some b)) (nI (i + 1))
    cases hb : bsP (nmF μ n s c g) i with
    | none =>
      show ((fX3_weightOf _ (-1)).bind _) = _
      rw [x_wOfM, bindS, nI_1]
      by_cases h0 : 0 < nmF μ n s c g i
      · rw [if_pos (show (0 : Int64) < lN _ from (pk_lLT (a := 0) (by decide) (by omega)).mpr h0)]
        simp only [if_pos h0]; rfl
      · rw [if_neg (show ¬ (0 : Int64) < lN _ from fun q => h0 ((pk_lLT (a := 0) (by decide) (by omega)).mp q))]
        simp only [if_neg h0]
    | some b =>
      have hb1 := (bsP_lt hb).1
      have hl2 := nmF_le h hn hs hc hg b
      show ((fX3_weightOf _ (nI b)).bind _) = _
      rw [x_wOf h hn hs hc hg (show b < 6 by omega), bindS, nI_1]
      by_cases h0 : nmF μ n s c g b < nmF μ n s c g i
      · rw [if_pos ((pk_lLT (by omega) (by omega)).mpr h0)]
        simp only [if_pos h0]; rfl
      · rw [if_neg (fun q => h0 ((pk_lLT (by omega) (by omega)).mp q))]
        simp only [if_neg h0]) 994
  refine this.trans ?_
  show fX3_likeliestPlayer_b4 _ _ _ _ = _
  unfold fX3_likeliestPlayer_b4
  rw [if_neg (show ¬ nI 6 < (6 : Int32) by decide)]
theorem m_saysNow (h : RelPl σ μ R C kn n) (hn : RelNm σ μ n) {s c g : Nat} (hs : s ≤ 9) (hc : c ≤ 4) (hg : g ≤ 4) : fX12_saysNow μ (nI s) (nI c) (nI g) = some (oI (bsP (nmF μ n s c g) 6)) := by
  have h6 := h.1
  rw [bsP_cut h6 (fun i hi => nmF_out hi)]
  unfold fX12_saysNow
  have := lp_go (fun m (p : Int32 × Int32 × Int32) => fX12_saysNow_l9 μ m (nI s) (nI c) (nI g) p.1 p.2.1 p.2.2) (fun i => (oI (bsP (nmF μ n s c g) i), nI (bsV (nmF μ n s c g) i), nI i)) n (fun i m hi => by
    have hl := nmF_le h hn hs hc hg i
    show fX12_saysNow_b9 _ _ _ _ _ _ _ _ = fX12_saysNow_l9 μ m _ _ _ (oI (bsP (nmF μ n s c g) (i + 1))) (nI (bsV (nmF μ n s c g) (i + 1))) (nI (i + 1))
    unfold fX12_saysNow_b9 fX12_saysNow_b43 fX12_saysNow_b59
    rw [h.2.2.2.1, if_pos (ltE i n hi (by omega)), m_likely h hn hi hs hc hg, bindS, nI_1]
    have e1 : bsP (nmF μ n s c g) (i + 1) = (match bsP (nmF μ n s c g) i with
      | none => if 0 < nmF μ n s c g i then some i else none
      | some b => if nmF μ n s c g b < nmF μ n s c g i then some i else some b) := rfl
    cases hb : bsP (nmF μ n s c g) i with
    | none =>
      rw [hb] at e1
      have v0 : bsV (nmF μ n s c g) i = 0 := by unfold bsV; rw [hb]
      rw [v0]
      by_cases h0 : 0 < nmF μ n s c g i
      · simp only [if_pos h0] at e1
        have v1 : bsV (nmF μ n s c g) (i + 1) = nmF μ n s c g i := by unfold bsV; rw [e1]
        rw [if_pos (ltE 0 _ h0 (by omega)), if_pos (ltE 0 _ h0 (by omega)), e1, v1]; rfl
      · simp only [if_neg h0] at e1
        have v1 : bsV (nmF μ n s c g) (i + 1) = 0 := by unfold bsV; rw [e1]
        rw [if_neg (nltE 0 _ (by omega) (by decide)), if_neg (nltE 0 _ (by omega) (by decide)), e1, v1]
    | some b =>
      rw [hb] at e1
      have hl2 := nmF_le h hn hs hc hg b
      have v0 : bsV (nmF μ n s c g) i = nmF μ n s c g b := by unfold bsV; rw [hb]
      rw [v0]
      by_cases h0 : nmF μ n s c g b < nmF μ n s c g i
      · simp only [if_pos h0] at e1
        have v1 : bsV (nmF μ n s c g) (i + 1) = nmF μ n s c g i := by unfold bsV; rw [e1]
        rw [if_pos (ltE _ _ h0 (by omega)), if_pos (ltE _ _ h0 (by omega)), e1, v1]; rfl
      · simp only [if_neg h0] at e1
        have v1 : bsV (nmF μ n s c g) (i + 1) = nmF μ n s c g b := by unfold bsV; rw [e1]
        rw [if_neg (nltE _ _ (by omega) (by omega)), if_neg (nltE _ _ (by omega) (by omega)), e1, v1]) (1000 - n)
  rw [show 1000 - n + n = 1000 by omega, show 1000 - n = (999 - n) + 1 by omega] at this
  refine this.trans ?_
  show fX12_saysNow_b9 _ _ _ _ _ _ _ _ = _
  unfold fX12_saysNow_b9
  rw [h.2.2.2.1, if_neg (nltE n n (Nat.le_refl _) (by omega))]
end NM
/-- could that be felt: both say so -/
theorem xm_felt (a b c : Int32) : (fX11_couldBeFelt a b c = some 0 ∧ fX12_isFelt a b c = some 0) ∨ ∃ s k g : Nat, s ≤ 9 ∧ k ≤ 4 ∧ g ≤ 4 ∧ a = nI s ∧ b = nI k ∧ c = nI g ∧ fX11_couldBeFelt a b c = some 1 ∧ fX12_isFelt a b c = some 1 := by
  simp only [fX11_couldBeFelt_b30, fX11_couldBeFelt_b29, fX11_couldBeFelt, fX12_isFelt_b33, fX12_isFelt_b32, fX12_isFelt, p_isWithin, p_within, bindS, zb_if]
  by_cases h1 : ¬ a < 0 ∧ ¬ (9 : Int32) < a
  · by_cases h2 : ¬ b < 0 ∧ ¬ (4 : Int32) < b
    · by_cases h3 : ¬ c < 0 ∧ ¬ (4 : Int32) < c
      · obtain ⟨s, s1, s2⟩ := in_range (m := 9) (by decide) h1
        obtain ⟨k, k1, k2⟩ := in_range (m := 4) (by decide) h2
        obtain ⟨g, g1, g2⟩ := in_range (m := 4) (by decide) h3
        refine Or.inr ⟨s, k, g, s1, k1, g1, s2, k2, g2, ?_, ?_⟩ <;> simp only [if_pos (decide_eq_true h1), if_pos (decide_eq_true h2), if_pos (decide_eq_true h3)] <;> rfl
      · refine Or.inl ⟨?_, ?_⟩ <;> simp only [if_pos (decide_eq_true h1), if_pos (decide_eq_true h2), decide_eq_false h3] <;> rfl
    · refine Or.inl ⟨?_, ?_⟩ <;> simp only [if_pos (decide_eq_true h1), decide_eq_false h2] <;> rfl
  · refine Or.inl ⟨?_, ?_⟩ <;> simp only [decide_eq_false h1] <;> rfl
theorem sim_says (N : Nat) (a b c : Int32) : SimX N (fun σ => fX11_says σ a b c) (fun μ => fX12_says μ a b c) := by
  intro σ μ hR
  have hR1 := hR.mono (Nat.le_succ N)
  obtain ⟨R, C, kn, w, u, n, pg, L, r1, r2, r3, r4, r5, r6⟩ := id hR1
  simp only [fX11_says, fX12_says_b21, fX12_says]
  rcases xm_felt a b c with ⟨h1, h2⟩ | ⟨s, k, g, hs, hk, hg, rfl, rfl, rfl, h1, h2⟩
  · simp only [h1, h2, bindS, i00]; exact ⟨_, _, rfl, rfl, hR1⟩
  · simp only [h1, h2, bindS, i10, x_weigh r3 r4 hs hk hg, x_likeliestP r3 r4 hs hk hg, m_saysNow r3 r4 hs hk hg]
    exact ⟨_, _, rfl, rfl, hR1⟩
theorem lN_int {V : Nat} (h : V < 2 ^ 31) : (lN V).toInt32 = nI V := lN_i V
theorem sim_named (N : Nat) (p a b c q : Int32) : SimX N (fun σ => fX11_named σ p a b c q) (fun μ => fX12_named μ p a b c q) := by
  intro σ μ hR
  have hR1 := hR.mono (Nat.le_succ N)
  obtain ⟨R, C, kn, w, u, n, pg, L, r1, r2, r3, r4, r5, r6⟩ := id hR1
  simp only [fX11_named_b80, fX11_named_b30, fX11_named, fX12_named_b70, fX12_named_b29, fX12_named, p_isPart]
  rcases xm_player r3 p with ⟨h1, h2⟩ | ⟨i, hi, hi6, rfl, h1, h2, hok⟩
  · simp only [h1, h2, bindS, ev_q, i00]; exact ⟨_, _, rfl, rfl, hR1⟩
  simp only [h1, h2, bindS, ev_q, i10]
  rcases xm_felt a b c with ⟨h3, h4⟩ | ⟨s, k, g, hs, hk, hg, rfl, rfl, rfl, h3, h4⟩
  · simp only [h3, h4, bindS, i00]; exact ⟨_, _, rfl, rfl, hR1⟩
  simp only [h3, h4, bindS, i10, p_isWithin, zb_if]
  split
  · have hl := nmF_le r3 r4 hs hk hg i
    have hb : smN (nmF μ n s k g) 6 ≤ 6 * 160000 := smN_le_mul (fun j _ => nmF_le r3 r4 hs hk hg j)
    simp only [x_weigh r3 r4 hs hk hg, x_nmTotal r3 r4 hs hk hg, x_wOf r3 r4 hs hk hg hi6, m_likelyAll r3 r4 hs hk hg, m_likely r3 r4 hi hs hk hg, bindS]
    rcases Nat.eq_zero_or_pos (smN (nmF μ n s k g) 6) with e | e
    · rw [e, if_pos (show lN 0 = (0 : Int64) from rfl), if_pos (show nI 0 = (0 : Int32) from rfl)]
      exact ⟨_, _, rfl, rfl, hR1⟩
    · have z1 : ¬ lN (smN (nmF μ n s k g) 6) = (0 : Int64) := fun z => by
        have := (pk_lEQ (a := smN (nmF μ n s k g) 6) (b := 0) (by omega) (by decide)).mp z
        omega
      have z2 : ¬ nI (smN (nmF μ n s k g) 6) = (0 : Int32) := neE _ 0 (by omega) (by omega) (by decide)
      rw [if_neg z1, if_neg z2, nI_l (show nmF μ n s k g i < 2 ^ 31 by omega), nI_l (show smN (nmF μ n s k g) 6 < 2 ^ 31 by omega), x_term (by omega) e (by omega), m_lowest (by omega) e (by omega)]
      exact ⟨_, _, rfl, rfl, hR1⟩
  · exact ⟨_, _, rfl, rfl, hR1⟩
theorem smN_at {f : Nat → Nat} {k n : Nat} (h : k < n) : f k ≤ smN f n := smN_one f h
theorem sim_when (N : Nat) (a b c x y : Int32) : SimX N (fun σ => fX11_when σ a b c x y) (fun μ => fX12_when μ a b c x y) := by
  intro σ μ hR
  have hR1 := hR.mono (Nat.le_succ N)
  obtain ⟨R, C, kn, w, u, n, pg, L, r1, r2, r3, r4, r5, r6⟩ := id hR1
  simp only [fX11_when_b91, fX11_when_b29, fX11_when, fX12_when_b88, fX12_when_b31, fX12_when]
  rcases xm_felt a b c with ⟨h3, h4⟩ | ⟨s, k, g, hs, hk, hg, rfl, rfl, rfl, h3, h4⟩
  · simp only [h3, h4, bindS, i00]; exact ⟨_, _, rfl, rfl, hR1⟩
  simp only [h3, h4, bindS, i10, p_isWithin, p_within, zb_if]
  by_cases h5 : ¬ x < 0 ∧ ¬ (99 : Int32) < x
  · simp only [if_pos (decide_eq_true h5)]
    by_cases h7 : ¬ y < 0 ∧ ¬ (99 : Int32) < y
    · simp only [if_pos (decide_eq_true h7)]
      obtain ⟨tx, x1, rfl⟩ := in_range (m := 99) (by decide) h5
      obtain ⟨ty, y1, rfl⟩ := in_range (m := 99) (by decide) h7
      have hb : smN (nmF μ n s k g) 6 ≤ 6 * 160000 := smN_le_mul (fun j _ => nmF_le r3 r4 hs hk hg j)
      simp only [x_weigh r3 r4 hs hk hg, x_nmTotal r3 r4 hs hk hg, m_likelyAll r3 r4 hs hk hg, x_likeliestP r3 r4 hs hk hg, m_saysNow r3 r4 hs hk hg, bindS]
      cases hbs : bsP (nmF μ n s k g) 6 with
      | none =>
        show ∃ r σ', ((fX3_weightOf _ (-1)).bind _) = _ ∧ (if (-1 : Int32) = -1 then some 0 else _) = _ ∧ _
        rw [x_wOfM, bindS, if_pos rfl, nI_l (show tx < 2 ^ 31 by omega), nI_l (show ty < 2 ^ 31 by omega)]
        have e1 : ¬ lN ty * (lN (smN (nmF μ n s k g) 6) - 0) < lN tx * 0 := by
          show ¬ lN ty * (lN (smN (nmF μ n s k g) 6) - lN 0) < lN tx * lN 0
          rw [lN_sub (Nat.zero_le _), lN_mul, lN_mul]
          have h0 : ty * (smN (nmF μ n s k g) 6 - 0) ≤ 99 * (6 * 160000) := Nat.mul_le_mul y1 (by omega)
          exact fun q => by
            have := (pk_lLT (by omega) (by rw [Nat.mul_zero]; decide)).mp q
            omega
        rw [if_neg e1]
        exact ⟨_, _, rfl, rfl, hR1⟩
      | some i =>
        have hi := (bsP_lt hbs)
        have hin : i < n := by
          rcases Nat.lt_or_ge i n with q | q
          · exact q
          · have := nmF_out (μ := μ) (s := s) (c := k) (g := g) q
            omega
        have hl := nmF_le r3 r4 hs hk hg i
        have hle := smN_at (f := nmF μ n s k g) hi.1
        have hm1 : ¬ nI i = (-1 : Int32) := fun z => by
          have := nI_pos (n := i) (by omega)
          rw [z] at this
          exact this (by decide)
        show ∃ r σ', ((fX3_weightOf _ (nI i)).bind _) = _ ∧ (if nI i = -1 then some 0 else ((fX12_likely μ (nI i) (nI s) (nI k) (nI g)).bind _)) = _ ∧ _
        rw [x_wOf r3 r4 hs hk hg hi.1, bindS, if_neg hm1, m_likely r3 r4 hin hs hk hg, bindS, nI_l (show tx < 2 ^ 31 by omega), nI_l (show ty < 2 ^ 31 by omega), lN_sub hle, lN_mul, lN_mul, pk_sub hle, pk_mul, pk_mul]
        have b1 : ty * (smN (nmF μ n s k g) 6 - nmF μ n s k g i) ≤ 99 * (6 * 160000) := Nat.mul_le_mul y1 (by omega)
        have b2 : tx * nmF μ n s k g i ≤ 99 * (6 * 160000) := Nat.mul_le_mul x1 (by omega)
        by_cases hc : ty * (smN (nmF μ n s k g) 6 - nmF μ n s k g i) < tx * nmF μ n s k g i
        · rw [if_pos ((pk_lLT (by omega) (by omega)).mpr hc), if_pos (ltE _ _ hc (by omega))]
          exact ⟨_, _, rfl, rfl, hR1⟩
        · rw [if_neg (fun q => hc ((pk_lLT (by omega) (by omega)).mp q)), if_neg (nltE _ _ (by omega) (by omega))]
          exact ⟨_, _, rfl, rfl, hR1⟩
    · simp only [decide_eq_false h7]
      exact ⟨_, _, rfl, rfl, hR1⟩
  · simp only [decide_eq_false h5]
    exact ⟨_, _, rfl, rfl, hR1⟩
