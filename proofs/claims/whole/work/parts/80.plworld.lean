/-! ===== worlds: cells left out, cells told otherwise ===== -/
theorem wd_iff {A : Nat → Prop} {w : va_W} : va_D A w ↔ (w.map (fun q => q.1)).Nodup ∧ ∀ a ∈ w.map (fun q => q.1), A a := by
  constructor
  · intro h
    refine ⟨List.pairwise_iff_getElem.mpr (fun i j hi hj hij e => ?_), fun a ha => ?_⟩
    · rw [List.length_map] at hi hj
      rw [List.getElem_map, List.getElem_map] at e
      have := h.1 i j w[i] w[j] (List.getElem?_eq_getElem hi) (List.getElem?_eq_getElem hj) e
      omega
    · obtain ⟨x, hx, rfl⟩ := List.mem_map.mp ha
      obtain ⟨k, hk⟩ := List.mem_iff_getElem?.mp hx
      exact h.2 k x hk
  · intro h
    refine ⟨fun i j p q hi hj e => ?_, fun k q hk => h.2 _ (List.mem_map.mpr ⟨q, List.mem_of_getElem? hk, rfl⟩)⟩
    have ai : (w.map (fun q => q.1))[i]? = some p.1 := by rw [List.getElem?_map, hi]; rfl
    have aj : (w.map (fun q => q.1))[j]? = some q.1 := by rw [List.getElem?_map, hj]; rfl
    obtain ⟨li, ei⟩ := List.getElem?_eq_some_iff.mp ai
    obtain ⟨lj, ej⟩ := List.getElem?_eq_some_iff.mp aj
    have hp := List.pairwise_iff_getElem.mp h.1
    rcases Nat.lt_trichotomy i j with hij | hij | hij
    · exact absurd (by rw [ei, ej]; exact e) (hp i j li lj hij)
    · exact hij
    · exact absurd (by rw [ei, ej]; exact e.symm) (hp j i lj li hij)
theorem wd_sub {A : Nat → Prop} {w w' : va_W} (hs : (w'.map (fun q => q.1)).Sublist (w.map (fun q => q.1))) (h : va_D A w) : va_D A w' := by
  rw [wd_iff] at h ⊢
  exact ⟨h.1.sublist hs, fun a ha => h.2 a (hs.subset ha)⟩
/-- one cell of the heap may be told as another -/
def hl_e (ρ ρ' : Nat → Nat) (cA : Nat → ClassId) (k : Nat) (a b : Option ev_C) : Prop := b = none ∨ ∃ x y, a = some x ∧ b = some y ∧ ρ' k = ρ k ∧ ∀ (D : va_G) (cl : List vw_C) (H : Heap), va_at D cl (ρ k, ev_ce ρ cA x) H → va_at D cl (ρ k, ev_ce ρ' cA y) H
def hl_r (ρ ρ' : Nat → Nat) (cA : Nat → ClassId) : Nat → ev_H → ev_H → Prop
  | _, _, [] => True
  | _, [], _ :: _ => False
  | k, a :: t, b :: t' => hl_e ρ ρ' cA k a b ∧ hl_r ρ ρ' cA (k + 1) t t'
section HL
variable {ρ ρ' : Nat → Nat} {cA : Nat → ClassId}
theorem hl_cons (k : Nat) (c : ev_C) (t : ev_H) : ev_cw ρ cA k (some c :: t) = (ρ k, ev_ce ρ cA c) :: ev_cw ρ cA (k + 1) t := rfl
theorem wp_cons {D : va_G} {cl : List vw_C} {x : Nat × va_E} {w : va_W} {H : Heap} : va_P D cl (x :: w) H ↔ va_at D cl x H ∧ va_P D cl w H := by
  constructor
  · intro h
    exact ⟨h 0 x rfl, fun k q hk => h (k + 1) q (by rw [List.getElem?_cons_succ]; exact hk)⟩
  · rintro ⟨h1, h2⟩ k q hk
    cases k with
    | zero => cases hk; exact h1
    | succ k => rw [List.getElem?_cons_succ] at hk; exact h2 k q hk
theorem hl_P : ∀ (k : Nat) (h h' : ev_H), hl_r ρ ρ' cA k h h' → ∀ (D : va_G) (cl : List vw_C) (H : Heap), va_P D cl (ev_cw ρ cA k h) H → va_P D cl (ev_cw ρ' cA k h') H
  | k, h, [], _, D, cl, H, _ => by intro j q hj; simp [ev_cw] at hj
  | k, [], b :: t', hr, D, cl, H, hP => by cases hr
  | k, a :: t, b :: t', hr, D, cl, H, hP => by
    obtain ⟨h1, h2⟩ := hr
    have ht : va_P D cl (ev_cw ρ cA (k + 1) t) H := by
      cases a with
      | none => exact hP
      | some x => exact (wp_cons.mp hP).2
    have ih := hl_P (k + 1) t t' h2 D cl H ht
    rcases h1 with rfl | ⟨x, y, rfl, rfl, e, hc⟩
    · exact ih
    · rw [hl_cons] at hP ⊢
      exact wp_cons.mpr ⟨by rw [e]; exact hc D cl H (wp_cons.mp hP).1, ih⟩
theorem hl_S : ∀ (k : Nat) (h h' : ev_H), hl_r ρ ρ' cA k h h' → ((ev_cw ρ' cA k h').map (fun q => q.1)).Sublist ((ev_cw ρ cA k h).map (fun q => q.1))
  | k, h, [], _ => by simp [ev_cw]
  | k, [], b :: t', hr => by cases hr
  | k, a :: t, b :: t', hr => by
    obtain ⟨h1, h2⟩ := hr
    have ih := hl_S (k + 1) t t' h2
    rcases h1 with rfl | ⟨x, y, rfl, rfl, e, hc⟩
    · cases a with
      | none => exact ih
      | some x => exact ih.cons _
    · show List.Sublist (ρ' k :: _) (ρ k :: _)
      rw [e]
      exact ih.cons_cons _
theorem hl_o {k ci : Nat} {fs fs' : List Value} (e : ρ' k = ρ k) (h : fs.map (ev_cv ρ) = fs'.map (ev_cv ρ')) : hl_e ρ ρ' cA k (some (.inr (ci, fs))) (some (.inr (ci, fs'))) := Or.inr ⟨_, _, rfl, rfl, e, fun D cl H q => by
  show va_at D cl (ρ k, .inr (ci, fs'.map (ev_cv ρ'))) H
  rw [← h]; exact q⟩
theorem hl_i {k t n : Nat} {f : Nat → Int32} (e : ρ' k = ρ k) : hl_e ρ ρ' cA k (some (.inl (t, n, .inl f))) (some (.inl (t, n, .inl f))) := Or.inr ⟨_, _, rfl, rfl, e, fun D cl H q => q⟩
theorem hl_j {k t n : Nat} {f : Nat → Int64} (e : ρ' k = ρ k) : hl_e ρ ρ' cA k (some (.inl (t, n, .inr (.inl f)))) (some (.inl (t, n, .inr (.inl f)))) := Or.inr ⟨_, _, rfl, rfl, e, fun D cl H q => q⟩
theorem arrV_ext (cI : ClassId) (N : Nat) {f g : Nat → Value} (h : ∀ i, i < N → f i = g i) : arrV cI N f = arrV cI N g := by
  unfold arrV
  congr 1
  congr 1
  funext j
  exact h j.1 j.2
theorem hl_q {k t n : Nat} {f f' : Nat → Option Nat} (e : ρ' k = ρ k) (h : ∀ i, i < n → (f i).map ρ = (f' i).map ρ') : hl_e ρ ρ' cA k (some (.inl (t, n, .inr (.inr (.inr (.inr f)))))) (some (.inl (t, n, .inr (.inr (.inr (.inr f')))))) := Or.inr ⟨_, _, rfl, rfl, e, fun D cl H q => by
  have q' : H[ρ k]? = some (vp_cell (cA t) (n, .inr (.inr (.inr (.inr (fun i => (f i).map ρ)))))) := q
  show H[ρ k]? = some (vp_cell (cA t) (n, .inr (.inr (.inr (.inr (fun i => (f' i).map ρ'))))))
  rw [q', vp_cell_q, vp_cell_q]
  congr 1
  exact arrV_ext _ _ (fun i hi => by rw [h i hi])⟩
theorem ev_cw_app : ∀ (a b : ev_H) (k : Nat), ev_cw ρ cA k (a ++ b) = ev_cw ρ cA k a ++ ev_cw ρ cA (k + a.length) b
  | [], b, k => rfl
  | none :: t, b, k => by
    show ev_cw ρ cA (k + 1) (t ++ b) = ev_cw ρ cA (k + 1) t ++ ev_cw ρ cA (k + (t.length + 1)) b
    rw [ev_cw_app t b (k + 1), Nat.add_assoc, Nat.add_comm 1]
  | some c :: t, b, k => by
    show (ρ k, ev_ce ρ cA c) :: ev_cw ρ cA (k + 1) (t ++ b) = (ρ k, ev_ce ρ cA c) :: (ev_cw ρ cA (k + 1) t ++ ev_cw ρ cA (k + (t.length + 1)) b)
    rw [ev_cw_app t b (k + 1), Nat.add_assoc, Nat.add_comm 1]
end HL
/-! ===== one player more ===== -/
def upd' (f : Nat → Nat) (k x : Nat) : Nat → Nat := fun j => if j = k then x else f j
/-- the class's state with other players -/
def pl_mk (σ : SX) (ar : Nat → Option Nat) (ex : Nat → Bool) (kd : Nat → Nat) (to ke at' sz cl gg : Nat → Int32) (pl : Int32) : SX := (σ.1, σ.2.1, σ.2.2.1, (ar, ex, kd, to, ke, at', sz, cl, gg), σ.2.2.2.2.1, σ.2.2.2.2.2.1, (pl, σ.2.2.2.2.2.2.2.1, σ.2.2.2.2.2.2.2.2.1, σ.2.2.2.2.2.2.2.2.2))
def pl_r (ρ : Nat → Nat) (n q : Nat) : Nat → Nat := fun k => if k = 20 + n then q else ρ k
def pl_ar (n : Nat) : Nat → Option Nat := fun i => if i < n then some (20 + i) else none
def pl_ex (n : Nat) : Nat → Bool := fun i => decide (i < n)
/-- without what is left behind of an earlier time -/
def pl_s0 (σ : SX) (n : Nat) : SX := pl_mk σ (pl_ar n) (pl_ex n) (gx_pl_kd σ) (gx_pl_told σ) (gx_pl_kept σ) (gx_pl_at σ) (gx_pl_size σ) (gx_pl_cloth σ) (gx_pl_giggle σ) (gx_tp_playing σ)
/-- with the new one, not yet in the row -/
def pl_s1 (σ : SX) (n m kd : Nat) (to sz cl gg pl : Int32) : SX := pl_mk σ (pl_ar m) (pl_ex (n + 1)) (upd' (gx_pl_kd σ) n kd) (upd (gx_pl_told σ) n to) (upd (gx_pl_kept σ) n (-1)) (upd (gx_pl_at σ) n 0) (upd (gx_pl_size σ) n sz) (upd (gx_pl_cloth σ) n cl) (upd (gx_pl_giggle σ) n gg) pl
theorem pl_rn (ρ : Nat → Nat) (n q : Nat) : pl_r ρ n q (20 + n) = q := by unfold pl_r; rw [if_pos rfl]
theorem pl_ro (ρ : Nat → Nat) {n q k : Nat} (h : k ≠ 20 + n) : pl_r ρ n q k = ρ k := by unfold pl_r; rw [if_neg h]
theorem pl_to (ρ : Nat → Nat) (cA : Nat → ClassId) (q : Nat) {σ : SX} {n : Nat} (hn : n < 6) (ha : ∀ i, i < 6 → gx_pl_arr σ i = if i < n then some (20 + i) else none) (he : ∀ i, i < n → gx_pl_ex σ i = true) : hl_r ρ (pl_r ρ n q) cA 0 (hX σ) (hX (pl_s0 σ n)) := by
  have r : ∀ k, k < 20 → pl_r ρ n q k = ρ k := fun k hk => pl_ro ρ (by omega)
  have hp : ∀ i, i < 6 → hl_e ρ (pl_r ρ n q) cA (20 + i) (gx_pc σ i) (gx_pc (pl_s0 σ n) i) := by
    intro i hi
    by_cases h : i < n
    · have e1 : gx_pc σ i = some (.inr (ev_kc (gx_pl_kd σ i), ox_fs σ i)) := by unfold gx_pc; rw [if_pos (he i h)]
      have e2 : gx_pc (pl_s0 σ n) i = some (.inr (ev_kc (gx_pl_kd σ i), ox_fs σ i)) := by
        unfold gx_pc
        rw [if_pos (show gx_pl_ex (pl_s0 σ n) i = true from decide_eq_true h)]
        rfl
      rw [e1, e2]
      exact hl_o (pl_ro ρ (by omega)) rfl
    · refine Or.inl ?_
      unfold gx_pc
      rw [if_neg (show ¬ gx_pl_ex (pl_s0 σ n) i = true from fun z => h (of_decide_eq_true z))]
  have r0 := r 0 (by decide)
  have r1 := r 1 (by decide)
  have r3 := r 3 (by decide)
  have r16 := r 16 (by decide)
  refine ⟨hl_o r0 ?_, hl_o r1 ?_, hl_i (r 2 (by decide)), hl_o r3 ?_, hl_i (r 4 (by decide)), hl_i (r 5 (by decide)), hl_i (r 6 (by decide)), hl_i (r 7 (by decide)), hl_o (r 8 (by decide)) ?_, hl_j (r 9 (by decide)), hl_j (r 10 (by decide)), hl_q (r 11 (by decide)) ?_, hl_j (r 12 (by decide)), hl_j (r 13 (by decide)), hl_j (r 14 (by decide)), hl_j (r 15 (by decide)), hl_q r16 ?_, hl_o (r 17 (by decide)) ?_, hl_o (r 18 (by decide)) ?_, hl_i (r 19 (by decide)), hp 0 (by decide), hp 1 (by decide), hp 2 (by decide), hp 3 (by decide), hp 4 (by decide), hp 5 (by decide), trivial⟩
  · simp only [List.map_cons, List.map_nil, ev_cv, r1, r3, r16, r 8 (by decide), r 17 (by decide), r 18 (by decide)]
    rfl
  · simp only [List.map_cons, List.map_nil, ev_cv, r 2 (by decide)]
    rfl
  · simp only [List.map_cons, List.map_nil, ev_cv, r 4 (by decide), r 5 (by decide), r 6 (by decide), r 7 (by decide)]
    rfl
  · simp only [List.map_cons, List.map_nil, ev_cv, r3, r 9 (by decide), r 10 (by decide), r 11 (by decide)]
    rfl
  · intro i hi
    show some (ρ (i + 12)) = some (pl_r ρ n q (i + 12))
    rw [r (i + 12) (by omega)]
  · intro i hi
    rw [ha i hi]
    show _ = (pl_ar n i).map (pl_r ρ n q)
    unfold pl_ar
    by_cases h : i < n
    · rw [if_pos h]
      show some (ρ (20 + i)) = some (pl_r ρ n q (20 + i))
      rw [pl_ro ρ (by omega)]
    · rw [if_neg h]; rfl
  · simp only [List.map_cons, List.map_nil, ev_cv, r3, r16]
    rfl
  · simp only [List.map_cons, List.map_nil, ev_cv, r16, r 19 (by decide)]
    rfl
theorem pl_pc {σ : SX} {n m kd i : Nat} {to sz cl gg pl : Int32} (h : i ≠ n) : gx_pc (pl_s1 σ n m kd to sz cl gg pl) i = gx_pc (pl_s0 σ n) i := by
  have e1 : gx_pl_ex (pl_s1 σ n m kd to sz cl gg pl) i = gx_pl_ex (pl_s0 σ n) i := by
    show decide (i < n + 1) = decide (i < n)
    have : (i < n + 1) ↔ i < n := by omega
    exact decide_eq_decide.mpr this
  unfold gx_pc
  rw [e1]
  have e2 : gx_pl_kd (pl_s1 σ n m kd to sz cl gg pl) i = gx_pl_kd (pl_s0 σ n) i := by show upd' _ n kd i = _; unfold upd'; rw [if_neg h]; rfl
  have e3 : gx_pl_told (pl_s1 σ n m kd to sz cl gg pl) i = gx_pl_told (pl_s0 σ n) i := by show upd _ n _ i = _; unfold upd; rw [if_neg h]; rfl
  have e4 : gx_pl_kept (pl_s1 σ n m kd to sz cl gg pl) i = gx_pl_kept (pl_s0 σ n) i := by show upd _ n _ i = _; unfold upd; rw [if_neg h]; rfl
  have e5 : gx_pl_at (pl_s1 σ n m kd to sz cl gg pl) i = gx_pl_at (pl_s0 σ n) i := by show upd _ n _ i = _; unfold upd; rw [if_neg h]; rfl
  have e6 : gx_pl_size (pl_s1 σ n m kd to sz cl gg pl) i = gx_pl_size (pl_s0 σ n) i := by show upd _ n _ i = _; unfold upd; rw [if_neg h]; rfl
  have e7 : gx_pl_cloth (pl_s1 σ n m kd to sz cl gg pl) i = gx_pl_cloth (pl_s0 σ n) i := by show upd _ n _ i = _; unfold upd; rw [if_neg h]; rfl
  have e8 : gx_pl_giggle (pl_s1 σ n m kd to sz cl gg pl) i = gx_pl_giggle (pl_s0 σ n) i := by show upd _ n _ i = _; unfold upd; rw [if_neg h]; rfl
  rw [e2, e3, e4, e5, e6, e7, e8]
theorem pl_pcn {σ : SX} {n m kd : Nat} {to sz cl gg pl : Int32} : gx_pc (pl_s1 σ n m kd to sz cl gg pl) n = some (.inr (ev_kc kd, [.int to, .int (-1), .int 0, .int sz, .int cl, .int gg])) := by
  unfold gx_pc
  rw [if_pos (show gx_pl_ex (pl_s1 σ n m kd to sz cl gg pl) n = true from decide_eq_true (Nat.lt_succ_self n))]
  have e2 : gx_pl_kd (pl_s1 σ n m kd to sz cl gg pl) n = kd := by show upd' _ n kd n = _; unfold upd'; rw [if_pos rfl]
  have e3 : gx_pl_told (pl_s1 σ n m kd to sz cl gg pl) n = to := by show upd _ n _ n = _; unfold upd; rw [if_pos rfl]
  have e4 : gx_pl_kept (pl_s1 σ n m kd to sz cl gg pl) n = -1 := by show upd _ n _ n = _; unfold upd; rw [if_pos rfl]
  have e5 : gx_pl_at (pl_s1 σ n m kd to sz cl gg pl) n = 0 := by show upd _ n _ n = _; unfold upd; rw [if_pos rfl]
  have e6 : gx_pl_size (pl_s1 σ n m kd to sz cl gg pl) n = sz := by show upd _ n _ n = _; unfold upd; rw [if_pos rfl]
  have e7 : gx_pl_cloth (pl_s1 σ n m kd to sz cl gg pl) n = cl := by show upd _ n _ n = _; unfold upd; rw [if_pos rfl]
  have e8 : gx_pl_giggle (pl_s1 σ n m kd to sz cl gg pl) n = gg := by show upd _ n _ n = _; unfold upd; rw [if_pos rfl]
  rw [e2, e3, e4, e5, e6, e7, e8]
theorem pl_pc0 {σ : SX} {n i : Nat} (h : ¬ i < n) : gx_pc (pl_s0 σ n) i = none := by
  unfold gx_pc
  rw [if_neg (show ¬ gx_pl_ex (pl_s0 σ n) i = true from fun z => h (of_decide_eq_true z))]
theorem pl_hx (σ : SX) : hX σ = (hX σ).take 20 ++ [gx_pc σ 0, gx_pc σ 1, gx_pc σ 2, gx_pc σ 3, gx_pc σ 4, gx_pc σ 5] := rfl
theorem pl_cat {ρ : Nat → Nat} {cA : Nat → ClassId} {k : Nat} {c : ev_C} {a b : ev_H} (hb : ∀ x ∈ b, x = none) : ev_cw ρ cA k (a ++ some c :: b) = ev_cw ρ cA k (a ++ none :: b) ++ [(ρ (k + a.length), ev_ce ρ cA c)] := by
  have hz : ∀ (b : ev_H) (k : Nat), (∀ x ∈ b, x = none) → ev_cw ρ cA k b = [] := by
    intro b
    induction b with
    | nil => intro k _; rfl
    | cons x t ih =>
      intro k h
      obtain rfl := h x List.mem_cons_self
      exact ih (k + 1) (fun y hy => h y (List.mem_cons_of_mem _ hy))
  rw [ev_cw_app, ev_cw_app]
  show _ ++ ((ρ (k + a.length), ev_ce ρ cA c) :: ev_cw ρ cA (k + a.length + 1) b) = (_ ++ ev_cw ρ cA (k + a.length + 1) b) ++ _
  rw [hz b _ hb, List.append_nil]
theorem pl_new (ρ : Nat → Nat) (cA : Nat → ClassId) {σ : SX} {n kd : Nat} {to sz cl gg : Int32} (hn : n < 6) : ev_cw ρ cA 0 (hX (pl_s1 σ n n kd to sz cl gg (gx_tp_playing σ))) = ev_cw ρ cA 0 (hX (pl_s0 σ n)) ++ [(ρ (20 + n), .inr (ev_kc kd, [.int to, .int (-1), .int 0, .int sz, .int cl, .int gg]))] := by
  have E0 := pl_hx (pl_s0 σ n)
  have E1 : hX (pl_s1 σ n n kd to sz cl gg (gx_tp_playing σ)) = (hX (pl_s0 σ n)).take 20 ++ [gx_pc (pl_s1 σ n n kd to sz cl gg (gx_tp_playing σ)) 0, gx_pc (pl_s1 σ n n kd to sz cl gg (gx_tp_playing σ)) 1, gx_pc (pl_s1 σ n n kd to sz cl gg (gx_tp_playing σ)) 2, gx_pc (pl_s1 σ n n kd to sz cl gg (gx_tp_playing σ)) 3, gx_pc (pl_s1 σ n n kd to sz cl gg (gx_tp_playing σ)) 4, gx_pc (pl_s1 σ n n kd to sz cl gg (gx_tp_playing σ)) 5] := rfl
  have hl : ((hX (pl_s0 σ n)).take 20).length = 20 := rfl
  generalize (hX (pl_s0 σ n)).take 20 = T at hl E0 E1
  rw [E0, E1]
  rw [ev_cw_app, ev_cw_app, List.append_assoc, hl]
  congr 1
  have hc := @pl_pc σ n n kd
  have hcn := @pl_pcn σ n n kd to sz cl gg (gx_tp_playing σ)
  have h0 := @pl_pc0 σ n
  rcases (show n = 0 ∨ n = 1 ∨ n = 2 ∨ n = 3 ∨ n = 4 ∨ n = 5 by omega) with rfl | rfl | rfl | rfl | rfl | rfl
  · rw [hcn, hc (i := 1) (by decide), hc (i := 2) (by decide), hc (i := 3) (by decide), hc (i := 4) (by decide), hc (i := 5) (by decide), h0 (i := 0) (by decide), h0 (i := 1) (by decide), h0 (i := 2) (by decide), h0 (i := 3) (by decide), h0 (i := 4) (by decide), h0 (i := 5) (by decide)]
    exact pl_cat (a := []) (by simp)
  · rw [hcn, hc (i := 0) (by decide), hc (i := 2) (by decide), hc (i := 3) (by decide), hc (i := 4) (by decide), hc (i := 5) (by decide), h0 (i := 1) (by decide), h0 (i := 2) (by decide), h0 (i := 3) (by decide), h0 (i := 4) (by decide), h0 (i := 5) (by decide)]
    exact pl_cat (a := [_]) (by simp)
  · rw [hcn, hc (i := 0) (by decide), hc (i := 1) (by decide), hc (i := 3) (by decide), hc (i := 4) (by decide), hc (i := 5) (by decide), h0 (i := 2) (by decide), h0 (i := 3) (by decide), h0 (i := 4) (by decide), h0 (i := 5) (by decide)]
    exact pl_cat (a := [_, _]) (by simp)
  · rw [hcn, hc (i := 0) (by decide), hc (i := 1) (by decide), hc (i := 2) (by decide), hc (i := 4) (by decide), hc (i := 5) (by decide), h0 (i := 3) (by decide), h0 (i := 4) (by decide), h0 (i := 5) (by decide)]
    exact pl_cat (a := [_, _, _]) (by simp)
  · rw [hcn, hc (i := 0) (by decide), hc (i := 1) (by decide), hc (i := 2) (by decide), hc (i := 3) (by decide), hc (i := 5) (by decide), h0 (i := 4) (by decide), h0 (i := 5) (by decide)]
    exact pl_cat (a := [_, _, _, _]) (by simp)
  · rw [hcn, hc (i := 0) (by decide), hc (i := 1) (by decide), hc (i := 2) (by decide), hc (i := 3) (by decide), hc (i := 4) (by decide), h0 (i := 5) (by decide)]
    exact pl_cat (a := [_, _, _, _, _]) (by simp)
