/-! ===== players and rows of outcomes at places that a number tells ===== -/
def ev_q {α : Type} (e : Option Nat) (a : Option α) (b : Nat → Option α) : Option α := match e with
  | none => a
  | some x => b x
theorem ev_hp {α : Type} {P : Prop} {hd : Decidable P} {a : Option α} {q : α} (h : (if P then a else none) = some q) : P ∧ a = some q := by
  by_cases hp : P
  · rw [if_pos hp] at h; exact ⟨hp, h⟩
  · rw [if_neg hp] at h; cases h
def ox_up (O : Nat → Nat → Int64) (s j : Nat) (v : Int64) : Nat → Nat → Int64 := fun t => if t = s then vp_updL (O s) j v else O t
theorem ox_geto {σ : SX} {s : Nat} (hs : s < 4) : ev_get (hX σ) (s + 12) = some (.inl (1, 144, .inr (.inl (gx_od_outs σ s)))) := by
  rcases (show s = 0 ∨ s = 1 ∨ s = 2 ∨ s = 3 by omega) with rfl | rfl | rfl | rfl <;> rfl
theorem ox_seto {σ : SX} {s : Nat} (hs : s < 4) (j : Nat) (v : Int64) : (hX σ).set (s + 12) (some (.inl (1, 144, .inr (.inl (vp_updL (gx_od_outs σ s) j v))))) = hX (sx_od_outs σ (ox_up (gx_od_outs σ) s j v)) := by
  rcases (show s = 0 ∨ s = 1 ∨ s = 2 ∨ s = 3 by omega) with rfl | rfl | rfl | rfl <;> rfl
theorem ox_old {rt : Option FieldType} {pc : Nat} {ls : ev_L} {r : List Value} {σ : SX} {s : Nat} {j : Int32} {D : List (Nat × Nat)} {P : List Nat} (hs : s < 4) (hin : ¬ (j < 0 ∨ 144 ≤ j.toNatClampNeg)) : ev_one rt (pc, .laload, 1, 0, 0, .null, D, P) ls (.int j :: .ref (s + 12) :: r) (hX σ) = some (.inl (pc + 1, ls, .long (gx_od_outs σ s j.toNatClampNeg) :: r, hX σ)) := by
  simp only [ev_one, ev_o4, ox_geto hs]
  rw [if_pos hin]
theorem ox_ost {rt : Option FieldType} {pc : Nat} {ls : ev_L} {r : List Value} {σ : SX} {s : Nat} {j : Int32} {v : Int64} {D : List (Nat × Nat)} {P : List Nat} (hs : s < 4) (hin : ¬ (j < 0 ∨ 144 ≤ j.toNatClampNeg)) : ev_one rt (pc, .lastore, 1, 0, 0, .null, D, P) ls (.long v :: .int j :: .ref (s + 12) :: r) (hX σ) = some (.inl (pc + 1, ls, r, hX (sx_od_outs σ (ox_up (gx_od_outs σ) s j.toNatClampNeg v)))) := by
  simp only [ev_one, ev_o4, ox_geto hs]
  rw [if_pos hin, ox_seto hs]
theorem ox_olen {rt : Option FieldType} {pc : Nat} {ls : ev_L} {r : List Value} {σ : SX} {s : Nat} {D : List (Nat × Nat)} {P : List Nat} (hs : s < 4) : ev_one rt (pc, .arraylength, 1, 0, 0, .null, D, P) ls (.ref (s + 12) :: r) (hX σ) = some (.inl (pc + 1, ls, .int 144 :: r, hX σ)) := by
  simp only [ev_one, ev_o4, ox_geto hs]
  rfl
theorem ox_pk {σ : SX} {a : Nat} (h : gx_pok σ a = true) : ∃ i, i < 6 ∧ a = 20 + i ∧ gx_pl_ex σ i = true ∧ gx_pl_kd σ i < 6 := by
  unfold gx_pok at h
  simp only [Bool.and_eq_true, decide_eq_true_eq] at h
  obtain ⟨⟨⟨h1, h2⟩, h3⟩, h4⟩ := h
  exact ⟨a - 20, by omega, by omega, h3, h4⟩
theorem ox_kd {σ : SX} {a : Nat} (h : gx_pok σ a = true) : gx_pl_kd σ (a - 20) < 6 := by
  unfold gx_pok at h
  simp only [Bool.and_eq_true, decide_eq_true_eq] at h
  exact h.2
abbrev ox_fs (σ : SX) (i : Nat) : List Value := [.int (gx_pl_told σ i), .int (gx_pl_kept σ i), .int (gx_pl_at σ i), .int (gx_pl_size σ i), .int (gx_pl_cloth σ i), .int (gx_pl_giggle σ i)]
theorem ox_getp {σ : SX} {a : Nat} (h : gx_pok σ a = true) : ev_get (hX σ) a = some (.inr (ev_kc (gx_pl_kd σ (a - 20)), ox_fs σ (a - 20))) := by
  obtain ⟨i, hi, rfl, he, hk⟩ := ox_pk h
  rw [Nat.add_sub_cancel_left]
  have hp : gx_pc σ i = some (.inr (ev_kc (gx_pl_kd σ i), ox_fs σ i)) := by unfold gx_pc; rw [if_pos he]
  have hl : (hX σ)[20 + i]? = some (gx_pc σ i) := by
    rcases (show i = 0 ∨ i = 1 ∨ i = 2 ∨ i = 3 ∨ i = 4 ∨ i = 5 by omega) with rfl | rfl | rfl | rfl | rfl | rfl <;> rfl
  unfold ev_get
  rw [hl, hp]
theorem ox_any {k : Nat} (h : k < 6) : ([(0, 0), (1, 0), (2, 0), (6, 0), (9, 0), (10, 0)] : List (Nat × Nat)).any (fun q => q.1 == ev_kc k) = true := by
  rcases (show k = 0 ∨ k = 1 ∨ k = 2 ∨ k = 3 ∨ k = 4 ∨ k = 5 by omega) with rfl | rfl | rfl | rfl | rfl | rfl <;> rfl
theorem ox_lk {k n : Nat} (h : k < 6) : List.lookup (ev_kc k) [(0, n), (1, n), (2, n), (6, n), (9, n), (10, n)] = some n := by
  rcases (show k = 0 ∨ k = 1 ∨ k = 2 ∨ k = 3 ∨ k = 4 ∨ k = 5 by omega) with rfl | rfl | rfl | rfl | rfl | rfl <;> rfl
theorem ox_n2 {σ : SX} {a : Nat} (h : gx_pok σ a = true) : ¬ a = 2000 := by
  obtain ⟨i, hi, rfl, -⟩ := ox_pk h
  omega
/-- does an object of that kind answer to the class of an 'instanceof' -/
def ox_ins (D : List (Nat × Nat)) (k : Nat) : Int32 := match D.lookup (ev_kc k) with
  | some 1 => 1
  | _ => 0
theorem ox_pins {rt : Option FieldType} {pc idx : Nat} {ls : ev_L} {r : List Value} {σ : SX} {a : Nat} {b0 b1 b2 b6 b9 b10 : Nat} {P : List Nat} (h : gx_pok σ a = true) (hb : (b0 < 2 ∧ b1 < 2 ∧ b2 < 2 ∧ b6 < 2 ∧ b9 < 2 ∧ b10 < 2) := by decide) : ev_one rt (pc, .instanceof idx, 3, 0, 0, .null, [(0, b0), (1, b1), (2, b2), (6, b6), (9, b9), (10, b10)], P) ls (.ref a :: r) (hX σ) = some (.inl (pc + 3, ls, .int (ox_ins [(0, b0), (1, b1), (2, b2), (6, b6), (9, b9), (10, b10)] (gx_pl_kd σ (a - 20))) :: r, hX σ)) := by
  have hk := ox_kd h
  simp only [ev_one, ev_o4, ox_getp h, ox_ins]
  generalize gx_pl_kd σ (a - 20) = k at hk ⊢
  obtain ⟨h0, h1, h2, h6, h9, h10⟩ := hb
  have tw : ∀ b : Nat, b < 2 → b = 0 ∨ b = 1 := fun b hb => by omega
  rcases (show k = 0 ∨ k = 1 ∨ k = 2 ∨ k = 3 ∨ k = 4 ∨ k = 5 by omega) with rfl | rfl | rfl | rfl | rfl | rfl
  · rcases tw b6 h6 with rfl | rfl <;> rfl
  · rcases tw b9 h9 with rfl | rfl <;> rfl
  · rcases tw b10 h10 with rfl | rfl <;> rfl
  · rcases tw b1 h1 with rfl | rfl <;> rfl
  · rcases tw b2 h2 with rfl | rfl <;> rfl
  · rcases tw b0 h0 with rfl | rfl <;> rfl
theorem ox_pget0 {rt : Option FieldType} {pc idx : Nat} {ls : ev_L} {r : List Value} {σ : SX} {a : Nat} {P : List Nat} (h : gx_pok σ a = true) : ev_one rt (pc, .getfield idx, 3, 0, 0, .null, [(0, 0), (1, 0), (2, 0), (6, 0), (9, 0), (10, 0)], P) ls (.ref a :: r) (hX σ) = some (.inl (pc + 3, ls, .int (gx_pl_told σ (a - 20)) :: r, hX σ)) := by
  simp only [ev_one, ev_o4, ox_getp h]
  rw [if_neg (ox_n2 h), if_pos (ox_any (ox_kd h))]
  rfl
theorem ox_pset0 {σ : SX} {a : Nat} (h : gx_pok σ a = true) (v : Int32) : (hX σ).set a (some (.inr (ev_kc (gx_pl_kd σ (a - 20)), (ox_fs σ (a - 20)).set 0 (.int v)))) = hX (sx_pl_told σ (upd (gx_pl_told σ) (a - 20) v)) := by
  obtain ⟨i, hi, rfl, he, hk⟩ := ox_pk h
  rw [Nat.add_sub_cancel_left]
  have hc : ∀ j : Nat, gx_pc (sx_pl_told σ (upd (gx_pl_told σ) i v)) j = if j = i then some (.inr (ev_kc (gx_pl_kd σ i), (ox_fs σ i).set 0 (.int v))) else gx_pc σ j := by
    intro j
    by_cases e : j = i
    · subst e
      rw [if_pos rfl]
      unfold gx_pc
      rw [if_pos (show gx_pl_ex (sx_pl_told σ (upd (gx_pl_told σ) j v)) j = true from he)]
      show some (Sum.inr (ev_kc (gx_pl_kd σ j), _)) = _
      congr 3
      simp [ox_fs, gx_pl_told, gx_pl_kept, gx_pl_at, gx_pl_size, gx_pl_cloth, gx_pl_giggle, sx_pl_told, upd]
    · rw [if_neg e]
      unfold gx_pc
      show (if gx_pl_ex σ j = true then _ else _) = _
      have hu : upd (gx_pl_told σ) i v j = gx_pl_told σ j := by simp [upd, e]
      congr 4
      simp [ox_fs, gx_pl_told, gx_pl_kept, gx_pl_at, gx_pl_size, gx_pl_cloth, gx_pl_giggle, sx_pl_told, upd, e]
  have hl : hX (sx_pl_told σ (upd (gx_pl_told σ) i v)) = (hX σ).take 20 ++ (List.range 6).map (fun j => gx_pc (sx_pl_told σ (upd (gx_pl_told σ) i v)) j) := rfl
  rw [hl]
  simp only [hc]
  rcases (show i = 0 ∨ i = 1 ∨ i = 2 ∨ i = 3 ∨ i = 4 ∨ i = 5 by omega) with rfl | rfl | rfl | rfl | rfl | rfl <;> rfl
theorem ox_pput0 {rt : Option FieldType} {pc idx : Nat} {ls : ev_L} {r : List Value} {σ : SX} {a : Nat} {v : Int32} {P : List Nat} (h : gx_pok σ a = true) : ev_one rt (pc, .putfield idx, 3, 0, 0, .null, [(0, 0), (1, 0), (2, 0), (6, 0), (9, 0), (10, 0)], P) ls (.int v :: .ref a :: r) (hX σ) = some (.inl (pc + 3, ls, r, hX (sx_pl_told σ (upd (gx_pl_told σ) (a - 20) v)))) := by
  simp only [ev_one, ev_o4, ox_getp h]
  rw [if_pos ⟨ox_any (ox_kd h), by show 0 < 6; omega, rfl⟩, ox_pset0 h]
theorem ox_pget1 {rt : Option FieldType} {pc idx : Nat} {ls : ev_L} {r : List Value} {σ : SX} {a : Nat} {P : List Nat} (h : gx_pok σ a = true) : ev_one rt (pc, .getfield idx, 3, 1, 0, .null, [(0, 0), (1, 0), (2, 0), (6, 0), (9, 0), (10, 0)], P) ls (.ref a :: r) (hX σ) = some (.inl (pc + 3, ls, .int (gx_pl_kept σ (a - 20)) :: r, hX σ)) := by
  simp only [ev_one, ev_o4, ox_getp h]
  rw [if_neg (ox_n2 h), if_pos (ox_any (ox_kd h))]
  rfl
theorem ox_pset1 {σ : SX} {a : Nat} (h : gx_pok σ a = true) (v : Int32) : (hX σ).set a (some (.inr (ev_kc (gx_pl_kd σ (a - 20)), (ox_fs σ (a - 20)).set 1 (.int v)))) = hX (sx_pl_kept σ (upd (gx_pl_kept σ) (a - 20) v)) := by
  obtain ⟨i, hi, rfl, he, hk⟩ := ox_pk h
  rw [Nat.add_sub_cancel_left]
  have hc : ∀ j : Nat, gx_pc (sx_pl_kept σ (upd (gx_pl_kept σ) i v)) j = if j = i then some (.inr (ev_kc (gx_pl_kd σ i), (ox_fs σ i).set 1 (.int v))) else gx_pc σ j := by
    intro j
    by_cases e : j = i
    · subst e
      rw [if_pos rfl]
      unfold gx_pc
      rw [if_pos (show gx_pl_ex (sx_pl_kept σ (upd (gx_pl_kept σ) j v)) j = true from he)]
      show some (Sum.inr (ev_kc (gx_pl_kd σ j), _)) = _
      congr 3
      simp [ox_fs, gx_pl_told, gx_pl_kept, gx_pl_at, gx_pl_size, gx_pl_cloth, gx_pl_giggle, sx_pl_kept, upd]
    · rw [if_neg e]
      unfold gx_pc
      show (if gx_pl_ex σ j = true then _ else _) = _
      have hu : upd (gx_pl_kept σ) i v j = gx_pl_kept σ j := by simp [upd, e]
      congr 4
      simp [ox_fs, gx_pl_told, gx_pl_kept, gx_pl_at, gx_pl_size, gx_pl_cloth, gx_pl_giggle, sx_pl_kept, upd, e]
  have hl : hX (sx_pl_kept σ (upd (gx_pl_kept σ) i v)) = (hX σ).take 20 ++ (List.range 6).map (fun j => gx_pc (sx_pl_kept σ (upd (gx_pl_kept σ) i v)) j) := rfl
  rw [hl]
  simp only [hc]
  rcases (show i = 0 ∨ i = 1 ∨ i = 2 ∨ i = 3 ∨ i = 4 ∨ i = 5 by omega) with rfl | rfl | rfl | rfl | rfl | rfl <;> rfl
theorem ox_pput1 {rt : Option FieldType} {pc idx : Nat} {ls : ev_L} {r : List Value} {σ : SX} {a : Nat} {v : Int32} {P : List Nat} (h : gx_pok σ a = true) : ev_one rt (pc, .putfield idx, 3, 1, 0, .null, [(0, 0), (1, 0), (2, 0), (6, 0), (9, 0), (10, 0)], P) ls (.int v :: .ref a :: r) (hX σ) = some (.inl (pc + 3, ls, r, hX (sx_pl_kept σ (upd (gx_pl_kept σ) (a - 20) v)))) := by
  simp only [ev_one, ev_o4, ox_getp h]
  rw [if_pos ⟨ox_any (ox_kd h), by show 1 < 6; omega, rfl⟩, ox_pset1 h]
theorem ox_pget2 {rt : Option FieldType} {pc idx : Nat} {ls : ev_L} {r : List Value} {σ : SX} {a : Nat} {P : List Nat} (h : gx_pok σ a = true) : ev_one rt (pc, .getfield idx, 3, 2, 0, .null, [(0, 0), (1, 0), (2, 0), (6, 0), (9, 0), (10, 0)], P) ls (.ref a :: r) (hX σ) = some (.inl (pc + 3, ls, .int (gx_pl_at σ (a - 20)) :: r, hX σ)) := by
  simp only [ev_one, ev_o4, ox_getp h]
  rw [if_neg (ox_n2 h), if_pos (ox_any (ox_kd h))]
  rfl
theorem ox_pset2 {σ : SX} {a : Nat} (h : gx_pok σ a = true) (v : Int32) : (hX σ).set a (some (.inr (ev_kc (gx_pl_kd σ (a - 20)), (ox_fs σ (a - 20)).set 2 (.int v)))) = hX (sx_pl_at σ (upd (gx_pl_at σ) (a - 20) v)) := by
  obtain ⟨i, hi, rfl, he, hk⟩ := ox_pk h
  rw [Nat.add_sub_cancel_left]
  have hc : ∀ j : Nat, gx_pc (sx_pl_at σ (upd (gx_pl_at σ) i v)) j = if j = i then some (.inr (ev_kc (gx_pl_kd σ i), (ox_fs σ i).set 2 (.int v))) else gx_pc σ j := by
    intro j
    by_cases e : j = i
    · subst e
      rw [if_pos rfl]
      unfold gx_pc
      rw [if_pos (show gx_pl_ex (sx_pl_at σ (upd (gx_pl_at σ) j v)) j = true from he)]
      show some (Sum.inr (ev_kc (gx_pl_kd σ j), _)) = _
      congr 3
      simp [ox_fs, gx_pl_told, gx_pl_kept, gx_pl_at, gx_pl_size, gx_pl_cloth, gx_pl_giggle, sx_pl_at, upd]
    · rw [if_neg e]
      unfold gx_pc
      show (if gx_pl_ex σ j = true then _ else _) = _
      have hu : upd (gx_pl_at σ) i v j = gx_pl_at σ j := by simp [upd, e]
      congr 4
      simp [ox_fs, gx_pl_told, gx_pl_kept, gx_pl_at, gx_pl_size, gx_pl_cloth, gx_pl_giggle, sx_pl_at, upd, e]
  have hl : hX (sx_pl_at σ (upd (gx_pl_at σ) i v)) = (hX σ).take 20 ++ (List.range 6).map (fun j => gx_pc (sx_pl_at σ (upd (gx_pl_at σ) i v)) j) := rfl
  rw [hl]
  simp only [hc]
  rcases (show i = 0 ∨ i = 1 ∨ i = 2 ∨ i = 3 ∨ i = 4 ∨ i = 5 by omega) with rfl | rfl | rfl | rfl | rfl | rfl <;> rfl
theorem ox_pput2 {rt : Option FieldType} {pc idx : Nat} {ls : ev_L} {r : List Value} {σ : SX} {a : Nat} {v : Int32} {P : List Nat} (h : gx_pok σ a = true) : ev_one rt (pc, .putfield idx, 3, 2, 0, .null, [(0, 0), (1, 0), (2, 0), (6, 0), (9, 0), (10, 0)], P) ls (.int v :: .ref a :: r) (hX σ) = some (.inl (pc + 3, ls, r, hX (sx_pl_at σ (upd (gx_pl_at σ) (a - 20) v)))) := by
  simp only [ev_one, ev_o4, ox_getp h]
  rw [if_pos ⟨ox_any (ox_kd h), by show 2 < 6; omega, rfl⟩, ox_pset2 h]
theorem ox_pget3 {rt : Option FieldType} {pc idx : Nat} {ls : ev_L} {r : List Value} {σ : SX} {a : Nat} {P : List Nat} (h : gx_pok σ a = true) : ev_one rt (pc, .getfield idx, 3, 3, 0, .null, [(0, 0), (1, 0), (2, 0), (6, 0), (9, 0), (10, 0)], P) ls (.ref a :: r) (hX σ) = some (.inl (pc + 3, ls, .int (gx_pl_size σ (a - 20)) :: r, hX σ)) := by
  simp only [ev_one, ev_o4, ox_getp h]
  rw [if_neg (ox_n2 h), if_pos (ox_any (ox_kd h))]
  rfl
theorem ox_pset3 {σ : SX} {a : Nat} (h : gx_pok σ a = true) (v : Int32) : (hX σ).set a (some (.inr (ev_kc (gx_pl_kd σ (a - 20)), (ox_fs σ (a - 20)).set 3 (.int v)))) = hX (sx_pl_size σ (upd (gx_pl_size σ) (a - 20) v)) := by
  obtain ⟨i, hi, rfl, he, hk⟩ := ox_pk h
  rw [Nat.add_sub_cancel_left]
  have hc : ∀ j : Nat, gx_pc (sx_pl_size σ (upd (gx_pl_size σ) i v)) j = if j = i then some (.inr (ev_kc (gx_pl_kd σ i), (ox_fs σ i).set 3 (.int v))) else gx_pc σ j := by
    intro j
    by_cases e : j = i
    · subst e
      rw [if_pos rfl]
      unfold gx_pc
      rw [if_pos (show gx_pl_ex (sx_pl_size σ (upd (gx_pl_size σ) j v)) j = true from he)]
      show some (Sum.inr (ev_kc (gx_pl_kd σ j), _)) = _
      congr 3
      simp [ox_fs, gx_pl_told, gx_pl_kept, gx_pl_at, gx_pl_size, gx_pl_cloth, gx_pl_giggle, sx_pl_size, upd]
    · rw [if_neg e]
      unfold gx_pc
      show (if gx_pl_ex σ j = true then _ else _) = _
      have hu : upd (gx_pl_size σ) i v j = gx_pl_size σ j := by simp [upd, e]
      congr 4
      simp [ox_fs, gx_pl_told, gx_pl_kept, gx_pl_at, gx_pl_size, gx_pl_cloth, gx_pl_giggle, sx_pl_size, upd, e]
  have hl : hX (sx_pl_size σ (upd (gx_pl_size σ) i v)) = (hX σ).take 20 ++ (List.range 6).map (fun j => gx_pc (sx_pl_size σ (upd (gx_pl_size σ) i v)) j) := rfl
  rw [hl]
  simp only [hc]
  rcases (show i = 0 ∨ i = 1 ∨ i = 2 ∨ i = 3 ∨ i = 4 ∨ i = 5 by omega) with rfl | rfl | rfl | rfl | rfl | rfl <;> rfl
theorem ox_pput3 {rt : Option FieldType} {pc idx : Nat} {ls : ev_L} {r : List Value} {σ : SX} {a : Nat} {v : Int32} {P : List Nat} (h : gx_pok σ a = true) : ev_one rt (pc, .putfield idx, 3, 3, 0, .null, [(0, 0), (1, 0), (2, 0), (6, 0), (9, 0), (10, 0)], P) ls (.int v :: .ref a :: r) (hX σ) = some (.inl (pc + 3, ls, r, hX (sx_pl_size σ (upd (gx_pl_size σ) (a - 20) v)))) := by
  simp only [ev_one, ev_o4, ox_getp h]
  rw [if_pos ⟨ox_any (ox_kd h), by show 3 < 6; omega, rfl⟩, ox_pset3 h]
theorem ox_pget4 {rt : Option FieldType} {pc idx : Nat} {ls : ev_L} {r : List Value} {σ : SX} {a : Nat} {P : List Nat} (h : gx_pok σ a = true) : ev_one rt (pc, .getfield idx, 3, 4, 0, .null, [(0, 0), (1, 0), (2, 0), (6, 0), (9, 0), (10, 0)], P) ls (.ref a :: r) (hX σ) = some (.inl (pc + 3, ls, .int (gx_pl_cloth σ (a - 20)) :: r, hX σ)) := by
  simp only [ev_one, ev_o4, ox_getp h]
  rw [if_neg (ox_n2 h), if_pos (ox_any (ox_kd h))]
  rfl
theorem ox_pset4 {σ : SX} {a : Nat} (h : gx_pok σ a = true) (v : Int32) : (hX σ).set a (some (.inr (ev_kc (gx_pl_kd σ (a - 20)), (ox_fs σ (a - 20)).set 4 (.int v)))) = hX (sx_pl_cloth σ (upd (gx_pl_cloth σ) (a - 20) v)) := by
  obtain ⟨i, hi, rfl, he, hk⟩ := ox_pk h
  rw [Nat.add_sub_cancel_left]
  have hc : ∀ j : Nat, gx_pc (sx_pl_cloth σ (upd (gx_pl_cloth σ) i v)) j = if j = i then some (.inr (ev_kc (gx_pl_kd σ i), (ox_fs σ i).set 4 (.int v))) else gx_pc σ j := by
    intro j
    by_cases e : j = i
    · subst e
      rw [if_pos rfl]
      unfold gx_pc
      rw [if_pos (show gx_pl_ex (sx_pl_cloth σ (upd (gx_pl_cloth σ) j v)) j = true from he)]
      show some (Sum.inr (ev_kc (gx_pl_kd σ j), _)) = _
      congr 3
      simp [ox_fs, gx_pl_told, gx_pl_kept, gx_pl_at, gx_pl_size, gx_pl_cloth, gx_pl_giggle, sx_pl_cloth, upd]
    · rw [if_neg e]
      unfold gx_pc
      show (if gx_pl_ex σ j = true then _ else _) = _
      have hu : upd (gx_pl_cloth σ) i v j = gx_pl_cloth σ j := by simp [upd, e]
      congr 4
      simp [ox_fs, gx_pl_told, gx_pl_kept, gx_pl_at, gx_pl_size, gx_pl_cloth, gx_pl_giggle, sx_pl_cloth, upd, e]
  have hl : hX (sx_pl_cloth σ (upd (gx_pl_cloth σ) i v)) = (hX σ).take 20 ++ (List.range 6).map (fun j => gx_pc (sx_pl_cloth σ (upd (gx_pl_cloth σ) i v)) j) := rfl
  rw [hl]
  simp only [hc]
  rcases (show i = 0 ∨ i = 1 ∨ i = 2 ∨ i = 3 ∨ i = 4 ∨ i = 5 by omega) with rfl | rfl | rfl | rfl | rfl | rfl <;> rfl
theorem ox_pput4 {rt : Option FieldType} {pc idx : Nat} {ls : ev_L} {r : List Value} {σ : SX} {a : Nat} {v : Int32} {P : List Nat} (h : gx_pok σ a = true) : ev_one rt (pc, .putfield idx, 3, 4, 0, .null, [(0, 0), (1, 0), (2, 0), (6, 0), (9, 0), (10, 0)], P) ls (.int v :: .ref a :: r) (hX σ) = some (.inl (pc + 3, ls, r, hX (sx_pl_cloth σ (upd (gx_pl_cloth σ) (a - 20) v)))) := by
  simp only [ev_one, ev_o4, ox_getp h]
  rw [if_pos ⟨ox_any (ox_kd h), by show 4 < 6; omega, rfl⟩, ox_pset4 h]
theorem ox_pget5 {rt : Option FieldType} {pc idx : Nat} {ls : ev_L} {r : List Value} {σ : SX} {a : Nat} {P : List Nat} (h : gx_pok σ a = true) : ev_one rt (pc, .getfield idx, 3, 5, 0, .null, [(0, 0), (1, 0), (2, 0), (6, 0), (9, 0), (10, 0)], P) ls (.ref a :: r) (hX σ) = some (.inl (pc + 3, ls, .int (gx_pl_giggle σ (a - 20)) :: r, hX σ)) := by
  simp only [ev_one, ev_o4, ox_getp h]
  rw [if_neg (ox_n2 h), if_pos (ox_any (ox_kd h))]
  rfl
theorem ox_pset5 {σ : SX} {a : Nat} (h : gx_pok σ a = true) (v : Int32) : (hX σ).set a (some (.inr (ev_kc (gx_pl_kd σ (a - 20)), (ox_fs σ (a - 20)).set 5 (.int v)))) = hX (sx_pl_giggle σ (upd (gx_pl_giggle σ) (a - 20) v)) := by
  obtain ⟨i, hi, rfl, he, hk⟩ := ox_pk h
  rw [Nat.add_sub_cancel_left]
  have hc : ∀ j : Nat, gx_pc (sx_pl_giggle σ (upd (gx_pl_giggle σ) i v)) j = if j = i then some (.inr (ev_kc (gx_pl_kd σ i), (ox_fs σ i).set 5 (.int v))) else gx_pc σ j := by
    intro j
    by_cases e : j = i
    · subst e
      rw [if_pos rfl]
      unfold gx_pc
      rw [if_pos (show gx_pl_ex (sx_pl_giggle σ (upd (gx_pl_giggle σ) j v)) j = true from he)]
      show some (Sum.inr (ev_kc (gx_pl_kd σ j), _)) = _
      congr 3
      simp [ox_fs, gx_pl_told, gx_pl_kept, gx_pl_at, gx_pl_size, gx_pl_cloth, gx_pl_giggle, sx_pl_giggle, upd]
    · rw [if_neg e]
      unfold gx_pc
      show (if gx_pl_ex σ j = true then _ else _) = _
      have hu : upd (gx_pl_giggle σ) i v j = gx_pl_giggle σ j := by simp [upd, e]
      congr 4
      simp [ox_fs, gx_pl_told, gx_pl_kept, gx_pl_at, gx_pl_size, gx_pl_cloth, gx_pl_giggle, sx_pl_giggle, upd, e]
  have hl : hX (sx_pl_giggle σ (upd (gx_pl_giggle σ) i v)) = (hX σ).take 20 ++ (List.range 6).map (fun j => gx_pc (sx_pl_giggle σ (upd (gx_pl_giggle σ) i v)) j) := rfl
  rw [hl]
  simp only [hc]
  rcases (show i = 0 ∨ i = 1 ∨ i = 2 ∨ i = 3 ∨ i = 4 ∨ i = 5 by omega) with rfl | rfl | rfl | rfl | rfl | rfl <;> rfl
theorem ox_pput5 {rt : Option FieldType} {pc idx : Nat} {ls : ev_L} {r : List Value} {σ : SX} {a : Nat} {v : Int32} {P : List Nat} (h : gx_pok σ a = true) : ev_one rt (pc, .putfield idx, 3, 5, 0, .null, [(0, 0), (1, 0), (2, 0), (6, 0), (9, 0), (10, 0)], P) ls (.int v :: .ref a :: r) (hX σ) = some (.inl (pc + 3, ls, r, hX (sx_pl_giggle σ (upd (gx_pl_giggle σ) (a - 20) v)))) := by
  simp only [ev_one, ev_o4, ox_getp h]
  rw [if_pos ⟨ox_any (ox_kd h), by show 5 < 6; omega, rfl⟩, ox_pset5 h]
theorem ox_inv0 {pc idx : Nat} {r : List Value} {σ : SX} {a kk : Nat} {D : List (Nat × Nat)} {P : List Nat}  (ev_cat_ok : ev_cat r ≤ 8) (h : gx_pok σ a = true) (hk : List.lookup (ev_kc (gx_pl_kd σ (a - 20))) D = some kk) : ev_inv (pc, .invokevirtual idx, 3, 0, 0, .null, D, P) (.ref a :: r) (hX σ) = some (kk, .ref a :: [], r) := by
  show (if 0 ≤ r.length + 1 + 0 ∧ 0 < 100 ∧ ev_cat r ≤ 8 then _ else none) = _
  rw [if_pos ⟨by omega, by omega, ev_cat_ok⟩, if_neg (ox_n2 h)]
  simp only [ox_getp h, hk]
  rfl
theorem ox_inv1 {pc idx : Nat} {r : List Value} {σ : SX} {a kk : Nat} {D : List (Nat × Nat)} {P : List Nat} {w0 : Value} (ev_cat_ok : ev_cat r ≤ 8) (h : gx_pok σ a = true) (hk : List.lookup (ev_kc (gx_pl_kd σ (a - 20))) D = some kk) : ev_inv (pc, .invokevirtual idx, 3, 1, 0, .null, D, P) (w0 :: .ref a :: r) (hX σ) = some (kk, .ref a :: [w0], r) := by
  show (if 1 ≤ r.length + 1 + 1 ∧ 1 < 100 ∧ ev_cat r ≤ 8 then _ else none) = _
  rw [if_pos ⟨by omega, by omega, ev_cat_ok⟩, if_neg (ox_n2 h)]
  simp only [ox_getp h, hk]
  rfl
theorem ox_inv2 {pc idx : Nat} {r : List Value} {σ : SX} {a kk : Nat} {D : List (Nat × Nat)} {P : List Nat} {w0 w1 : Value} (ev_cat_ok : ev_cat r ≤ 8) (h : gx_pok σ a = true) (hk : List.lookup (ev_kc (gx_pl_kd σ (a - 20))) D = some kk) : ev_inv (pc, .invokevirtual idx, 3, 2, 0, .null, D, P) (w0 :: w1 :: .ref a :: r) (hX σ) = some (kk, .ref a :: [w1, w0], r) := by
  show (if 2 ≤ r.length + 1 + 2 ∧ 2 < 100 ∧ ev_cat r ≤ 8 then _ else none) = _
  rw [if_pos ⟨by omega, by omega, ev_cat_ok⟩, if_neg (ox_n2 h)]
  simp only [ox_getp h, hk]
  rfl
theorem ox_inv3 {pc idx : Nat} {r : List Value} {σ : SX} {a kk : Nat} {D : List (Nat × Nat)} {P : List Nat} {w0 w1 w2 : Value} (ev_cat_ok : ev_cat r ≤ 8) (h : gx_pok σ a = true) (hk : List.lookup (ev_kc (gx_pl_kd σ (a - 20))) D = some kk) : ev_inv (pc, .invokevirtual idx, 3, 3, 0, .null, D, P) (w0 :: w1 :: w2 :: .ref a :: r) (hX σ) = some (kk, .ref a :: [w2, w1, w0], r) := by
  show (if 3 ≤ r.length + 1 + 3 ∧ 3 < 100 ∧ ev_cat r ≤ 8 then _ else none) = _
  rw [if_pos ⟨by omega, by omega, ev_cat_ok⟩, if_neg (ox_n2 h)]
  simp only [ox_getp h, hk]
  rfl
theorem ox_inv4 {pc idx : Nat} {r : List Value} {σ : SX} {a kk : Nat} {D : List (Nat × Nat)} {P : List Nat} {w0 w1 w2 w3 : Value} (ev_cat_ok : ev_cat r ≤ 8) (h : gx_pok σ a = true) (hk : List.lookup (ev_kc (gx_pl_kd σ (a - 20))) D = some kk) : ev_inv (pc, .invokevirtual idx, 3, 4, 0, .null, D, P) (w0 :: w1 :: w2 :: w3 :: .ref a :: r) (hX σ) = some (kk, .ref a :: [w3, w2, w1, w0], r) := by
  show (if 4 ≤ r.length + 1 + 4 ∧ 4 < 100 ∧ ev_cat r ≤ 8 then _ else none) = _
  rw [if_pos ⟨by omega, by omega, ev_cat_ok⟩, if_neg (ox_n2 h)]
  simp only [ox_getp h, hk]
  rfl
