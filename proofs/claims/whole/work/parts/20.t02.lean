/-! X4_mixInto X5_codeAt X5_lettersIn X5_write J0_isLatin1 J0_coder J0_length J1_canEncode J1_indexOfChar J1_indexOf J0_indexOf2 J0_indexOf1 X5_kindAt X5_mayEndRow X5_readOn X5_isWhole X5_hasFree X5_mixInto X6_kind X6_goOn X6_callsFrom X6_isCaught X9_kind X10_kind X6_detail X7_put X7_has X11_isWithin X7_findBeside X7_readFrom -/
set_option maxRecDepth 20000 in
set_option maxHeartbeats 4000000 in
theorem tX4_mixInto_b47 (d : Nat) (σ : SX) (v3 : Int64) (q : Int64) (hf : fX4_mixInto_b47 σ v3 = some q) : ev_X (d + 1) (some .long) eiX4_mixInto (47, [none, none, none, some (.long (v3)), none, none], [], hX σ) (some (.long q), hX σ) := by
  unfold fX4_mixInto_b47 at hf
  cases hf
  exact ev_rt 1 rfl
set_option maxRecDepth 20000 in
set_option maxHeartbeats 4000000 in
theorem tX4_mixInto_b5 (d : Nat) (σ : SX) (k5 : Int64 → Int32 → Option (Int64)) (hk5 : ∀ (v3 : Int64) (v5 : Int32) (q : Int64), k5 v3 v5 = some q → ev_X (d + 1) (some .long) eiX4_mixInto (5, [some (.ref 8), none, none, some (.long (v3)), none, some (.int (v5))], [], hX σ) (some (.long q), hX σ)) (v3 : Int64) (v5 : Int32) (q : Int64) (hf : fX4_mixInto_b5 σ k5 v3 v5 = some q) : ev_X (d + 1) (some .long) eiX4_mixInto (5, [some (.ref 8), none, none, some (.long (v3)), none, some (.int (v5))], [], hX σ) (some (.long q), hX σ) := by
  unfold fX4_mixInto_b5 at hf
  refine ev_br 6 (P := v5 < ((gx_rg_size σ) * (4 : Int32))) (a := 19) (b := 47) (ls := [some (.ref 8), none, none, some (.long (v3)), none, some (.int (v5))]) (st := []) (h := hX σ) rfl (fun c1 => ?_) (fun c1 => ?_)
  · rw [if_pos c1] at hf
    refine ev_br 4 (P := v5 < (144 : Int32)) (a := 29) (b := 47) (ls := [some (.ref 8), none, none, some (.long (v3)), none, some (.int (v5))]) (st := []) (h := hX σ) rfl (fun c2 => ?_) (fun c2 => ?_)
    · rw [if_pos c2] at hf
      obtain ⟨c3, hf⟩ := ev_hp hf
      refine ev_ck 4 (P := ¬ (v5 < 0 ∨ 144 ≤ v5.toNatClampNeg)) (c' := (37, [some (.ref 8), none, none, some (.long (v3)), none, some (.int (v5))], [.long (((gx_od_weights σ) v5.toNatClampNeg)), .long (v3)], hX σ)) rfl c3 ?_
      obtain ⟨r1, hr1, hf⟩ := Option.bind_eq_some_iff.mp hf
      refine ev_cll 0 (kk := 116) (as := [.long (v3), .long (((gx_od_weights σ) v5.toNatClampNeg))]) (rest := []) (pc := 37) (ls := [some (.ref 8), none, none, some (.long (v3)), none, some (.int (v5))]) (st := [.long (((gx_od_weights σ) v5.toNatClampNeg)), .long (v3)]) (h := hX σ) rfl (tX11_mixed d (hX σ) v3 ((gx_od_weights σ) v5.toNatClampNeg) r1 hr1) ?_
      refine ev_go (c' := (5, [some (.ref 8), none, none, some (.long (r1)), none, some (.int ((v5 + (1 : Int32))))], [], hX σ)) 2 rfl ?_
      exact ev_dr (a := [some (.ref 8), none, none, some (.long (r1)), none, some (.int ((v5 + (1 : Int32))))]) ⟨rfl, ⟨rfl, ⟨rfl, trivial⟩⟩⟩ (hk5 r1 (v5 + (1 : Int32)) _ hf)
    · rw [if_neg c2] at hf
      exact ev_dr (a := [none, none, none, some (.long (v3)), none, none]) ⟨rfl, trivial⟩ (tX4_mixInto_b47 d σ v3 _ hf)
  · rw [if_neg c1] at hf
    exact ev_dr (a := [none, none, none, some (.long (v3)), none, none]) ⟨rfl, trivial⟩ (tX4_mixInto_b47 d σ v3 _ hf)
theorem tX4_mixInto_l5 (d : Nat) (σ : SX) : ∀ (n : Nat) (v3 : Int64) (v5 : Int32) (q : Int64), fX4_mixInto_l5 σ n v3 v5 = some q → ev_X (d + 1) (some .long) eiX4_mixInto (5, [some (.ref 8), none, none, some (.long (v3)), none, some (.int (v5))], [], hX σ) (some (.long q), hX σ)
  | 0, _, _, _, hf => by cases hf
  | n + 1, v3, v5, q, hf => tX4_mixInto_b5 d σ (fX4_mixInto_l5 σ n) (fun v3 v5 q h9 => tX4_mixInto_l5 d σ n v3 v5 q h9) v3 v5 q hf
set_option maxRecDepth 20000 in
set_option maxHeartbeats 4000000 in
theorem tX4_mixInto (d : Nat) (σ : SX) (v1 : Int64) (q : Int64) (hf : fX4_mixInto σ v1 = some q) : ev_M ev_mt (d + 2) 38 [.ref 8, .long (v1)] (hX σ) (some (.long q), hX σ) := by
  refine ev_en (rt := (some .long)) (I := eiX4_mixInto) rfl (Nat.le_of_ble_eq_true rfl) ?_
  change ev_X (d + 1) _ _ (0, [some (.ref 8), some (.long (v1)), none, none, none, none], [], hX σ) _
  unfold fX4_mixInto at hf
  refine ev_go (c' := (5, [some (.ref 8), some (.long (v1)), none, some (.long (v1)), none, some (.int ((0 : Int32)))], [], hX σ)) 3 rfl ?_
  exact ev_dr (a := [some (.ref 8), none, none, some (.long (v1)), none, some (.int ((0 : Int32)))]) ⟨rfl, ⟨rfl, ⟨rfl, trivial⟩⟩⟩ (tX4_mixInto_l5 d σ 1000 v1 (0 : Int32) _ hf)
set_option maxRecDepth 20000 in
set_option maxHeartbeats 4000000 in
theorem tX5_codeAt (d : Nat) (h : ev_H) (v0 : Int64) (v2 : Int32) (q : Int32) (hf : fX5_codeAt v0 v2 = some q) : ev_M ev_mt (d + 1) 40 [.long (v0), .int (v2)] (h) (some (.int q), h) := by
  refine ev_en (rt := (some .int)) (I := eiX5_codeAt) rfl (Nat.le_of_ble_eq_true rfl) ?_
  change ev_X d _ _ (0, [some (.long (v0)), none, some (.int (v2))], [], h) _
  unfold fX5_codeAt at hf
  cases hf
  exact ev_rt 8 rfl
set_option maxRecDepth 20000 in
set_option maxHeartbeats 4000000 in
theorem tX5_lettersIn_b45 (d : Nat) (h : ev_H) (k4 : Int64 → Int32 → Int32 → Option (Int32)) (hk4 : ∀ (v0 : Int64) (v2 : Int32) (v3 : Int32) (q : Int32), k4 v0 v2 v3 = some q → ev_X (d + 1) (some .int) eiX5_lettersIn (4, [some (.long (v0)), none, some (.int (v2)), some (.int (v3)), none], [], h) (some (.int q), h)) (v0 : Int64) (v2 : Int32) (v3 : Int32) (q : Int32) (hf : fX5_lettersIn_b45 k4 v0 v2 v3 = some q) : ev_X (d + 1) (some .int) eiX5_lettersIn (45, [some (.long (v0)), none, some (.int (v2)), some (.int (v3)), none], [], h) (some (.int q), h) := by
  unfold fX5_lettersIn_b45 at hf
  refine ev_go (c' := (4, [some (.long (v0)), none, some (.int (v2)), some (.int ((v3 + (1 : Int32)))), none], [], h)) 1 rfl ?_
  exact ev_dr (a := [some (.long (v0)), none, some (.int (v2)), some (.int ((v3 + (1 : Int32)))), none]) ⟨rfl, ⟨rfl, ⟨rfl, trivial⟩⟩⟩ (hk4 v0 v2 (v3 + (1 : Int32)) _ hf)
set_option maxRecDepth 20000 in
set_option maxHeartbeats 4000000 in
theorem tX5_lettersIn_b37 (d : Nat) (h : ev_H) (k4 : Int64 → Int32 → Int32 → Option (Int32)) (hk4 : ∀ (v0 : Int64) (v2 : Int32) (v3 : Int32) (q : Int32), k4 v0 v2 v3 = some q → ev_X (d + 1) (some .int) eiX5_lettersIn (4, [some (.long (v0)), none, some (.int (v2)), some (.int (v3)), none], [], h) (some (.int q), h)) (v0 : Int64) (v2 : Int32) (v3 : Int32) (v4 : Int32) (q : Int32) (hf : fX5_lettersIn_b37 k4 v0 v2 v3 v4 = some q) : ev_X (d + 1) (some .int) eiX5_lettersIn (37, [some (.long (v0)), none, some (.int (v2)), some (.int (v3)), some (.int (v4))], [], h) (some (.int q), h) := by
  unfold fX5_lettersIn_b37 at hf
  refine ev_br 1 (P := v4 = 0) (a := 45) (b := 42) (ls := [some (.long (v0)), none, some (.int (v2)), some (.int (v3)), some (.int (v4))]) (st := []) (h := h) rfl (fun c1 => ?_) (fun c1 => ?_)
  · rw [if_pos c1] at hf
    exact ev_dr (a := [some (.long (v0)), none, some (.int (v2)), some (.int (v3)), none]) ⟨rfl, ⟨rfl, ⟨rfl, trivial⟩⟩⟩ (tX5_lettersIn_b45 d h k4 hk4 v0 v2 v3 _ hf)
  · rw [if_neg c1] at hf
    refine ev_go (c' := (45, [some (.long (v0)), none, some (.int ((v2 + (1 : Int32)))), some (.int (v3)), some (.int (v4))], [], h)) 0 rfl ?_
    exact ev_dr (a := [some (.long (v0)), none, some (.int ((v2 + (1 : Int32)))), some (.int (v3)), none]) ⟨rfl, ⟨rfl, ⟨rfl, trivial⟩⟩⟩ (tX5_lettersIn_b45 d h k4 hk4 v0 (v2 + (1 : Int32)) v3 _ hf)
set_option maxRecDepth 20000 in
set_option maxHeartbeats 4000000 in
theorem tX5_lettersIn_b34 (d : Nat) (h : ev_H) (q : Int32) (hf : fX5_lettersIn_b34 = some q) : ev_X (d + 1) (some .int) eiX5_lettersIn (34, [none, none, none, none, none], [], h) (some (.int q), h) := by
  unfold fX5_lettersIn_b34 at hf
  cases hf
  exact ev_rt 1 rfl
set_option maxRecDepth 20000 in
set_option maxHeartbeats 4000000 in
theorem tX5_lettersIn_b4 (d : Nat) (h : ev_H) (k4 : Int64 → Int32 → Int32 → Option (Int32)) (hk4 : ∀ (v0 : Int64) (v2 : Int32) (v3 : Int32) (q : Int32), k4 v0 v2 v3 = some q → ev_X (d + 1) (some .int) eiX5_lettersIn (4, [some (.long (v0)), none, some (.int (v2)), some (.int (v3)), none], [], h) (some (.int q), h)) (v0 : Int64) (v2 : Int32) (v3 : Int32) (q : Int32) (hf : fX5_lettersIn_b4 k4 v0 v2 v3 = some q) : ev_X (d + 1) (some .int) eiX5_lettersIn (4, [some (.long (v0)), none, some (.int (v2)), some (.int (v3)), none], [], h) (some (.int q), h) := by
  unfold fX5_lettersIn_b4 at hf
  refine ev_br 2 (P := v3 < (8 : Int32)) (a := 10) (b := 51) (ls := [some (.long (v0)), none, some (.int (v2)), some (.int (v3)), none]) (st := []) (h := h) rfl (fun c1 => ?_) (fun c1 => ?_)
  · rw [if_pos c1] at hf
    obtain ⟨r1, hr1, hf⟩ := Option.bind_eq_some_iff.mp hf
    refine ev_cli 2 (kk := 40) (as := [.long (v0), .int (v3)]) (rest := []) (pc := 12) (ls := [some (.long (v0)), none, some (.int (v2)), some (.int (v3)), none]) (st := [.int (v3), .long (v0)]) (h := h) rfl (tX5_codeAt d (h) v0 v3 r1 hr1) ?_
    refine ev_br 3 (P := (126 : Int32) < r1) (a := 34) (b := 24) (ls := [some (.long (v0)), none, some (.int (v2)), some (.int (v3)), some (.int (r1))]) (st := []) (h := h) rfl (fun c2 => ?_) (fun c2 => ?_)
    · rw [if_pos c2] at hf
      exact ev_dr (a := [none, none, none, none, none]) trivial (tX5_lettersIn_b34 d h  _ hf)
    · rw [if_neg c2] at hf
      refine ev_br 1 (P := r1 = 0) (a := 37) (b := 29) (ls := [some (.long (v0)), none, some (.int (v2)), some (.int (v3)), some (.int (r1))]) (st := []) (h := h) rfl (fun c3 => ?_) (fun c3 => ?_)
      · rw [if_pos c3] at hf
        exact ev_dr (a := [some (.long (v0)), none, some (.int (v2)), some (.int (v3)), some (.int (r1))]) ⟨rfl, ⟨rfl, ⟨rfl, ⟨rfl, trivial⟩⟩⟩⟩ (tX5_lettersIn_b37 d h k4 hk4 v0 v2 v3 r1 _ hf)
      · rw [if_neg c3] at hf
        refine ev_br 2 (P := v2 < v3) (a := 34) (b := 37) (ls := [some (.long (v0)), none, some (.int (v2)), some (.int (v3)), some (.int (r1))]) (st := []) (h := h) rfl (fun c4 => ?_) (fun c4 => ?_)
        · rw [if_pos c4] at hf
          exact ev_dr (a := [none, none, none, none, none]) trivial (tX5_lettersIn_b34 d h  _ hf)
        · rw [if_neg c4] at hf
          exact ev_dr (a := [some (.long (v0)), none, some (.int (v2)), some (.int (v3)), some (.int (r1))]) ⟨rfl, ⟨rfl, ⟨rfl, ⟨rfl, trivial⟩⟩⟩⟩ (tX5_lettersIn_b37 d h k4 hk4 v0 v2 v3 r1 _ hf)
  · rw [if_neg c1] at hf
    cases hf
    exact ev_rt 1 rfl
theorem tX5_lettersIn_l4 (d : Nat) (h : ev_H) : ∀ (n : Nat) (v0 : Int64) (v2 : Int32) (v3 : Int32) (q : Int32), fX5_lettersIn_l4 n v0 v2 v3 = some q → ev_X (d + 1) (some .int) eiX5_lettersIn (4, [some (.long (v0)), none, some (.int (v2)), some (.int (v3)), none], [], h) (some (.int q), h)
  | 0, _, _, _, _, hf => by cases hf
  | n + 1, v0, v2, v3, q, hf => tX5_lettersIn_b4 d h (fX5_lettersIn_l4 n) (fun v0 v2 v3 q h9 => tX5_lettersIn_l4 d h n v0 v2 v3 q h9) v0 v2 v3 q hf
set_option maxRecDepth 20000 in
set_option maxHeartbeats 4000000 in
theorem tX5_lettersIn (d : Nat) (h : ev_H) (v0 : Int64) (q : Int32) (hf : fX5_lettersIn v0 = some q) : ev_M ev_mt (d + 2) 39 [.long (v0)] (h) (some (.int q), h) := by
  refine ev_en (rt := (some .int)) (I := eiX5_lettersIn) rfl (Nat.le_of_ble_eq_true rfl) ?_
  change ev_X (d + 1) _ _ (0, [some (.long (v0)), none, none, none, none], [], h) _
  unfold fX5_lettersIn at hf
  refine ev_go (c' := (4, [some (.long (v0)), none, some (.int ((0 : Int32))), some (.int ((0 : Int32))), none], [], h)) 3 rfl ?_
  exact ev_dr (a := [some (.long (v0)), none, some (.int ((0 : Int32))), some (.int ((0 : Int32))), none]) ⟨rfl, ⟨rfl, ⟨rfl, trivial⟩⟩⟩ (tX5_lettersIn_l4 d h 1000 v0 (0 : Int32) (0 : Int32) _ hf)
set_option maxRecDepth 20000 in
set_option maxHeartbeats 4000000 in
theorem tX5_write_b53 (d : Nat) (σ : SX) (q : SX) (hf : fX5_write_b53 σ = some q) : ev_X (d + 1) none eiX5_write (53, [none, none, none, none, none], [], hX σ) (none, hX q) := by
  unfold fX5_write_b53 at hf
  cases hf
  exact ev_rt 0 rfl
set_option maxRecDepth 20000 in
set_option maxHeartbeats 4000000 in
theorem tX5_write_b3 (d : Nat) (k3 : SX → Int64 → Int32 → Int32 → Option (SX)) (hk3 : ∀ (σ : SX) (v1 : Int64) (v3 : Int32) (v4 : Int32) (q : SX), k3 σ v1 v3 v4 = some q → ev_X (d + 1) none eiX5_write (3, [some (.ref 1), some (.long (v1)), none, some (.int (v3)), some (.int (v4))], [], hX σ) (none, hX q)) (σ : SX) (v1 : Int64) (v3 : Int32) (v4 : Int32) (q : SX) (hf : fX5_write_b3 k3 σ v1 v3 v4 = some q) : ev_X (d + 1) none eiX5_write (3, [some (.ref 1), some (.long (v1)), none, some (.int (v3)), some (.int (v4))], [], hX σ) (none, hX q) := by
  unfold fX5_write_b3 at hf
  refine ev_br 2 (P := v4 < v3) (a := 9) (b := 53) (ls := [some (.ref 1), some (.long (v1)), none, some (.int (v3)), some (.int (v4))]) (st := []) (h := hX σ) rfl (fun c1 => ?_) (fun c1 => ?_)
  · rw [if_pos c1] at hf
    refine ev_br 5 (P := (gx_pg_length σ) < (45 : Int32)) (a := 21) (b := 53) (ls := [some (.ref 1), some (.long (v1)), none, some (.int (v3)), some (.int (v4))]) (st := []) (h := hX σ) rfl (fun c2 => ?_) (fun c2 => ?_)
    · rw [if_pos c2] at hf
      obtain ⟨r1, hr1, hf⟩ := Option.bind_eq_some_iff.mp hf
      refine ev_cli 6 (kk := 40) (as := [.long (v1), .int (v4)]) (rest := [.int ((gx_pg_length σ)), .ref 2]) (pc := 32) (ls := [some (.ref 1), some (.long (v1)), none, some (.int (v3)), some (.int (v4))]) (st := [.int (v4), .long (v1), .int ((gx_pg_length σ)), .ref 2]) (h := hX σ) rfl (tX5_codeAt d (hX σ) v1 v4 r1 hr1) ?_
      obtain ⟨c3, hf⟩ := ev_hp hf
      refine ev_go (c' := (36, [some (.ref 1), some (.long (v1)), none, some (.int (v3)), some (.int (v4))], [.int ((r1.toUInt32 % 65536).toInt32), .int ((gx_pg_length σ)), .ref 2], hX σ)) 0 rfl ?_
      refine ev_st1 (e := (36, .castore, 1, 0, 0, .null, [], [])) (c' := (37, [some (.ref 1), some (.long (v1)), none, some (.int (v3)), some (.int (v4))], [], hX (sx_pg_signs σ (upd (gx_pg_signs σ) (gx_pg_length σ).toNatClampNeg (vp_nar .char (r1.toUInt32 % 65536).toInt32))))) rfl (oy_ast_x_pg_signs c3) ?_
      refine ev_go (c' := (44, [some (.ref 1), some (.long (v1)), none, some (.int (v3)), some (.int (v4))], [.int (((gx_pg_length σ) + (1 : Int32))), .ref 1], hX (sx_pg_signs σ (upd (gx_pg_signs σ) (gx_pg_length σ).toNatClampNeg (vp_nar .char (r1.toUInt32 % 65536).toInt32))))) 4 rfl ?_
      refine ev_st1 (e := (44, .putfield 19, 3, 1, 0, .null, [(5, 0)], [95])) (c' := (47, [some (.ref 1), some (.long (v1)), none, some (.int (v3)), some (.int (v4))], [], hX (sx_pg_length (sx_pg_signs σ (upd (gx_pg_signs σ) (gx_pg_length σ).toNatClampNeg (vp_nar .char (r1.toUInt32 % 65536).toInt32))) ((gx_pg_length σ) + (1 : Int32))))) rfl oy_put_x_pg_length ?_
      refine ev_go (c' := (3, [some (.ref 1), some (.long (v1)), none, some (.int (v3)), some (.int ((v4 + (1 : Int32))))], [], hX (sx_pg_length (sx_pg_signs σ (upd (gx_pg_signs σ) (gx_pg_length σ).toNatClampNeg (vp_nar .char (r1.toUInt32 % 65536).toInt32))) ((gx_pg_length σ) + (1 : Int32))))) 1 rfl ?_
      exact ev_dr (a := [some (.ref 1), some (.long (v1)), none, some (.int (v3)), some (.int ((v4 + (1 : Int32))))]) ⟨rfl, ⟨rfl, ⟨rfl, ⟨rfl, trivial⟩⟩⟩⟩ (hk3 (sx_pg_length (sx_pg_signs σ (upd (gx_pg_signs σ) (gx_pg_length σ).toNatClampNeg (vp_nar .char (r1.toUInt32 % 65536).toInt32))) ((gx_pg_length σ) + (1 : Int32))) v1 v3 (v4 + (1 : Int32)) _ hf)
    · rw [if_neg c2] at hf
      exact ev_dr (a := [none, none, none, none, none]) trivial (tX5_write_b53 d σ  _ hf)
  · rw [if_neg c1] at hf
    exact ev_dr (a := [none, none, none, none, none]) trivial (tX5_write_b53 d σ  _ hf)
theorem tX5_write_l3 (d : Nat) : ∀ (n : Nat) (σ : SX) (v1 : Int64) (v3 : Int32) (v4 : Int32) (q : SX), fX5_write_l3 n σ v1 v3 v4 = some q → ev_X (d + 1) none eiX5_write (3, [some (.ref 1), some (.long (v1)), none, some (.int (v3)), some (.int (v4))], [], hX σ) (none, hX q)
  | 0, _, _, _, _, _, hf => by cases hf
  | n + 1, σ, v1, v3, v4, q, hf => tX5_write_b3 d (fX5_write_l3 n) (fun σ v1 v3 v4 q h9 => tX5_write_l3 d n σ v1 v3 v4 q h9) σ v1 v3 v4 q hf
set_option maxRecDepth 20000 in
set_option maxHeartbeats 4000000 in
theorem tX5_write (d : Nat) (σ : SX) (v1 : Int64) (v3 : Int32) (q : SX) (hf : fX5_write σ v1 v3 = some q) : ev_M ev_mt (d + 2) 41 [.ref 1, .long (v1), .int (v3)] (hX σ) (none, hX q) := by
  refine ev_en (rt := none) (I := eiX5_write) rfl (Nat.le_of_ble_eq_true rfl) ?_
  change ev_X (d + 1) _ _ (0, [some (.ref 1), some (.long (v1)), none, some (.int (v3)), none], [], hX σ) _
  unfold fX5_write at hf
  refine ev_go (c' := (3, [some (.ref 1), some (.long (v1)), none, some (.int (v3)), some (.int ((0 : Int32)))], [], hX σ)) 1 rfl ?_
  exact ev_dr (a := [some (.ref 1), some (.long (v1)), none, some (.int (v3)), some (.int ((0 : Int32)))]) ⟨rfl, ⟨rfl, ⟨rfl, ⟨rfl, trivial⟩⟩⟩⟩ (tX5_write_l3 d 1000 σ v1 v3 (0 : Int32) _ hf)
set_option maxRecDepth 20000 in
set_option maxHeartbeats 4000000 in
theorem tJ0_isLatin1_b18 (d : Nat) (h : ev_H) (w0 : Int32) (q : Int32) (hf : fJ0_isLatin1_b18 w0 = some q) : ev_X d (some .boolean) eiJ0_isLatin1_aae02 (18, [none], [.int (w0)], h) (some (.int q), h) := by
  unfold fJ0_isLatin1_b18 at hf
  obtain ⟨c1, hf⟩ := ev_hp hf
  cases hf
  exact ev_rk 0 rfl c1
set_option maxRecDepth 20000 in
set_option maxHeartbeats 4000000 in
theorem tJ0_isLatin1_b17 (d : Nat) (h : ev_H) (q : Int32) (hf : fJ0_isLatin1_b17 = some q) : ev_X d (some .boolean) eiJ0_isLatin1_aae02 (17, [none], [], h) (some (.int q), h) := by
  unfold fJ0_isLatin1_b17 at hf
  refine ev_go (c' := (18, [none], [.int ((0 : Int32))], h)) 0 rfl ?_
  exact ev_dr (a := [none]) trivial (tJ0_isLatin1_b18 d h (0 : Int32) _ hf)
set_option maxRecDepth 20000 in
set_option maxHeartbeats 4000000 in
theorem tJ0_isLatin1 (d : Nat) (h : ev_H) (q : Int32) (hf : fJ0_isLatin1 = some q) : ev_M ev_mt (d + 1) 207 [.ref 2000] (h) (some (.int q), h) := by
  refine ev_en (rt := (some .boolean)) (I := eiJ0_isLatin1_aae02) rfl (Nat.le_of_ble_eq_true rfl) ?_
  change ev_X d _ _ (0, [some (.ref 2000)], [], h) _
  unfold fJ0_isLatin1 at hf
  refine ev_br 1 (P := (1 : Int32) = 0) (a := 17) (b := 6) (ls := [some (.ref 2000)]) (st := []) (h := h) rfl (fun c1 => ?_) (fun c1 => ?_)
  · rw [if_pos c1] at hf
    exact ev_dr (a := [none]) trivial (tJ0_isLatin1_b17 d h  _ hf)
  · rw [if_neg c1] at hf
    refine ev_br 2 (P := (0 : Int32) = 0) (a := 13) (b := 17) (ls := [some (.ref 2000)]) (st := []) (h := h) rfl (fun c2 => ?_) (fun c2 => ?_)
    · rw [if_pos c2] at hf
      refine ev_go (c' := (18, [some (.ref 2000)], [.int ((1 : Int32))], h)) 1 rfl ?_
      exact ev_dr (a := [none]) trivial (tJ0_isLatin1_b18 d h (1 : Int32) _ hf)
    · rw [if_neg c2] at hf
      exact ev_dr (a := [none]) trivial (tJ0_isLatin1_b17 d h  _ hf)
set_option maxRecDepth 20000 in
set_option maxHeartbeats 4000000 in
theorem tJ0_coder_b14 (d : Nat) (h : ev_H) (w0 : Int32) (q : Int32) (hf : fJ0_coder_b14 w0 = some q) : ev_X d (some .byte) eiJ0_coder_7d493 (14, [none], [.int (w0)], h) (some (.int q), h) := by
  unfold fJ0_coder_b14 at hf
  obtain ⟨c1, hf⟩ := ev_hp hf
  cases hf
  exact ev_rk 0 rfl c1
set_option maxRecDepth 20000 in
set_option maxHeartbeats 4000000 in
theorem tJ0_coder (d : Nat) (h : ev_H) (q : Int32) (hf : fJ0_coder = some q) : ev_M ev_mt (d + 1) 209 [.ref 2000] (h) (some (.int q), h) := by
  refine ev_en (rt := (some .byte)) (I := eiJ0_coder_7d493) rfl (Nat.le_of_ble_eq_true rfl) ?_
  change ev_X d _ _ (0, [some (.ref 2000)], [], h) _
  unfold fJ0_coder at hf
  refine ev_br 1 (P := (1 : Int32) = 0) (a := 13) (b := 6) (ls := [some (.ref 2000)]) (st := []) (h := h) rfl (fun c1 => ?_) (fun c1 => ?_)
  · rw [if_pos c1] at hf
    refine ev_go (c' := (14, [some (.ref 2000)], [.int ((1 : Int32))], h)) 0 rfl ?_
    exact ev_dr (a := [none]) trivial (tJ0_coder_b14 d h (1 : Int32) _ hf)
  · rw [if_neg c1] at hf
    refine ev_go (c' := (14, [some (.ref 2000)], [.int ((0 : Int32))], h)) 2 rfl ?_
    exact ev_dr (a := [none]) trivial (tJ0_coder_b14 d h (0 : Int32) _ hf)
set_option maxRecDepth 20000 in
set_option maxHeartbeats 4000000 in
theorem tJ0_length (d : Nat) (h : ev_H) (q : Int32) (hf : fJ0_length = some q) : ev_M ev_mt (d + 2) 208 [.ref 2000] (h) (some (.int q), h) := by
  refine ev_en (rt := (some .int)) (I := eiJ0_length_8abf5) rfl (Nat.le_of_ble_eq_true rfl) ?_
  change ev_X (d + 1) _ _ (0, [some (.ref 2000)], [], h) _
  unfold fJ0_length at hf
  obtain ⟨r1, hr1, hf⟩ := Option.bind_eq_some_iff.mp hf
  refine ev_cli 4 (kk := 209) (as := [.ref 2000]) (rest := [.int ((4 : Int32))]) (pc := 6) (ls := [some (.ref 2000)]) (st := [.ref 2000, .int ((4 : Int32))]) (h := h) rfl (tJ0_coder d (h) r1 hr1) ?_
  cases hf
  exact ev_rt 1 rfl
set_option maxRecDepth 20000 in
set_option maxHeartbeats 4000000 in
theorem tJ1_canEncode_b16 (d : Nat) (h : ev_H) (w0 : Int32) (q : Int32) (hf : fJ1_canEncode_b16 w0 = some q) : ev_X d (some .boolean) eiJ1_canEncode_9a6ad (16, [none], [.int (w0)], h) (some (.int q), h) := by
  unfold fJ1_canEncode_b16 at hf
  obtain ⟨c1, hf⟩ := ev_hp hf
  cases hf
  exact ev_rk 0 rfl c1
set_option maxRecDepth 20000 in
set_option maxHeartbeats 4000000 in
theorem tJ1_canEncode_b15 (d : Nat) (h : ev_H) (q : Int32) (hf : fJ1_canEncode_b15 = some q) : ev_X d (some .boolean) eiJ1_canEncode_9a6ad (15, [none], [], h) (some (.int q), h) := by
  unfold fJ1_canEncode_b15 at hf
  refine ev_go (c' := (16, [none], [.int ((0 : Int32))], h)) 0 rfl ?_
  exact ev_dr (a := [none]) trivial (tJ1_canEncode_b16 d h (0 : Int32) _ hf)
set_option maxRecDepth 20000 in
set_option maxHeartbeats 4000000 in
theorem tJ1_canEncode (d : Nat) (h : ev_H) (v0 : Int32) (q : Int32) (hf : fJ1_canEncode v0 = some q) : ev_M ev_mt (d + 1) 211 [.int (v0)] (h) (some (.int q), h) := by
  refine ev_en (rt := (some .boolean)) (I := eiJ1_canEncode_9a6ad) rfl (Nat.le_of_ble_eq_true rfl) ?_
  change ev_X d _ _ (0, [some (.int (v0))], [], h) _
  unfold fJ1_canEncode at hf
  refine ev_br 1 (P := v0 < 0) (a := 15) (b := 4) (ls := [some (.int (v0))]) (st := []) (h := h) rfl (fun c1 => ?_) (fun c1 => ?_)
  · rw [if_pos c1] at hf
    exact ev_dr (a := [none]) trivial (tJ1_canEncode_b15 d h  _ hf)
  · rw [if_neg c1] at hf
    refine ev_br 2 (P := (255 : Int32) < v0) (a := 15) (b := 11) (ls := [some (.int (v0))]) (st := []) (h := h) rfl (fun c2 => ?_) (fun c2 => ?_)
    · rw [if_pos c2] at hf
      exact ev_dr (a := [none]) trivial (tJ1_canEncode_b15 d h  _ hf)
    · rw [if_neg c2] at hf
      refine ev_go (c' := (16, [some (.int (v0))], [.int ((1 : Int32))], h)) 1 rfl ?_
      exact ev_dr (a := [none]) trivial (tJ1_canEncode_b16 d h (1 : Int32) _ hf)
set_option maxRecDepth 20000 in
set_option maxHeartbeats 4000000 in
theorem tJ1_indexOfChar_b7 (d : Nat) (h : ev_H) (k7 : Int32 → Int32 → Int32 → Option (Int32)) (hk7 : ∀ (v3 : Int32) (v4 : Int32) (v5 : Int32) (q : Int32), k7 v3 v4 v5 = some q → ev_X d (some .int) eiJ1_indexOfChar_4cfef (7, [some (.ref 2001), none, none, some (.int (v3)), some (.int (v4)), some (.int (v5))], [], h) (some (.int q), h)) (v3 : Int32) (v4 : Int32) (v5 : Int32) (q : Int32) (hf : fJ1_indexOfChar_b7 k7 v3 v4 v5 = some q) : ev_X d (some .int) eiJ1_indexOfChar_4cfef (7, [some (.ref 2001), none, none, some (.int (v3)), some (.int (v4)), some (.int (v5))], [], h) (some (.int q), h) := by
  unfold fJ1_indexOfChar_b7 at hf
  refine ev_br 2 (P := v5 < v3) (a := 13) (b := 31) (ls := [some (.ref 2001), none, none, some (.int (v3)), some (.int (v4)), some (.int (v5))]) (st := []) (h := h) rfl (fun c1 => ?_) (fun c1 => ?_)
  · rw [if_pos c1] at hf
    obtain ⟨c2, hf⟩ := ev_hp hf
    refine ev_ck 2 (P := ¬ (v5 < 0 ∨ 4 ≤ v5.toNatClampNeg)) (c' := (17, [some (.ref 2001), none, none, some (.int (v3)), some (.int (v4)), some (.int (v5))], [.int ((ev_sf 2001 v5.toNatClampNeg))], h)) rfl c2 ?_
    refine ev_br 1 (P := (ev_sf 2001 v5.toNatClampNeg) = v4) (a := 22) (b := 25) (ls := [some (.ref 2001), none, none, some (.int (v3)), some (.int (v4)), some (.int (v5))]) (st := []) (h := h) rfl (fun c3 => ?_) (fun c3 => ?_)
    · rw [if_pos c3] at hf
      cases hf
      exact ev_rt 1 rfl
    · rw [if_neg c3] at hf
      refine ev_go (c' := (7, [some (.ref 2001), none, none, some (.int (v3)), some (.int (v4)), some (.int ((v5 + (1 : Int32))))], [], h)) 1 rfl ?_
      exact ev_dr (a := [some (.ref 2001), none, none, some (.int (v3)), some (.int (v4)), some (.int ((v5 + (1 : Int32))))]) ⟨rfl, ⟨rfl, ⟨rfl, ⟨rfl, trivial⟩⟩⟩⟩ (hk7 v3 v4 (v5 + (1 : Int32)) _ hf)
  · rw [if_neg c1] at hf
    cases hf
    exact ev_rt 1 rfl
theorem tJ1_indexOfChar_l7 (d : Nat) (h : ev_H) : ∀ (n : Nat) (v3 : Int32) (v4 : Int32) (v5 : Int32) (q : Int32), fJ1_indexOfChar_l7 n v3 v4 v5 = some q → ev_X d (some .int) eiJ1_indexOfChar_4cfef (7, [some (.ref 2001), none, none, some (.int (v3)), some (.int (v4)), some (.int (v5))], [], h) (some (.int q), h)
  | 0, _, _, _, _, hf => by cases hf
  | n + 1, v3, v4, v5, q, hf => tJ1_indexOfChar_b7 d h (fJ1_indexOfChar_l7 n) (fun v3 v4 v5 q h9 => tJ1_indexOfChar_l7 d h n v3 v4 v5 q h9) v3 v4 v5 q hf
set_option maxRecDepth 20000 in
set_option maxHeartbeats 4000000 in
theorem tJ1_indexOfChar (d : Nat) (h : ev_H) (v1 : Int32) (v2 : Int32) (v3 : Int32) (q : Int32) (hf : fJ1_indexOfChar v1 v2 v3 = some q) : ev_M ev_mt (d + 1) 212 [.ref 2001, .int (v1), .int (v2), .int (v3)] (h) (some (.int q), h) := by
  refine ev_en (rt := (some .int)) (I := eiJ1_indexOfChar_4cfef) rfl (Nat.le_of_ble_eq_true rfl) ?_
  change ev_X d _ _ (0, [some (.ref 2001), some (.int (v1)), some (.int (v2)), some (.int (v3)), none, none], [], h) _
  unfold fJ1_indexOfChar at hf
  refine ev_go (c' := (7, [some (.ref 2001), some (.int (v1)), some (.int (v2)), some (.int (v3)), some (.int (v1.toInt8.toInt32)), some (.int (v2))], [], h)) 4 rfl ?_
  exact ev_dr (a := [some (.ref 2001), none, none, some (.int (v3)), some (.int (v1.toInt8.toInt32)), some (.int (v2))]) ⟨rfl, ⟨rfl, ⟨rfl, ⟨rfl, trivial⟩⟩⟩⟩ (tJ1_indexOfChar_l7 d h 1000 v3 v1.toInt8.toInt32 v2 _ hf)
set_option maxRecDepth 20000 in
set_option maxHeartbeats 4000000 in
theorem tJ1_indexOf (d : Nat) (h : ev_H) (v1 : Int32) (v2 : Int32) (v3 : Int32) (q : Int32) (hf : fJ1_indexOf v1 v2 v3 = some q) : ev_M ev_mt (d + 2) 210 [.ref 2001, .int (v1), .int (v2), .int (v3)] (h) (some (.int q), h) := by
  refine ev_en (rt := (some .int)) (I := eiJ1_indexOf_4cfef) rfl (Nat.le_of_ble_eq_true rfl) ?_
  change ev_X (d + 1) _ _ (0, [some (.ref 2001), some (.int (v1)), some (.int (v2)), some (.int (v3))], [], h) _
  unfold fJ1_indexOf at hf
  obtain ⟨r1, hr1, hf⟩ := Option.bind_eq_some_iff.mp hf
  refine ev_cli 1 (kk := 211) (as := [.int (v1)]) (rest := []) (pc := 1) (ls := [some (.ref 2001), some (.int (v1)), some (.int (v2)), some (.int (v3))]) (st := [.int (v1)]) (h := h) rfl (tJ1_canEncode d (h) v1 r1 hr1) ?_
  refine ev_br 0 (P := r1 = 0) (a := 7) (b := 9) (ls := [some (.ref 2001), some (.int (v1)), some (.int (v2)), some (.int (v3))]) (st := []) (h := h) rfl (fun c1 => ?_) (fun c1 => ?_)
  · rw [if_pos c1] at hf
    cases hf
    exact ev_rt 1 rfl
  · rw [if_neg c1] at hf
    refine ev_br 11 (P := (if v2 < (0 : Int32) then (0 : Int32) else v2) < (if (4 : Int32) < v3 then (4 : Int32) else v3)) (a := 29) (b := 27) (ls := [some (.ref 2001), some (.int (v1)), some (.int ((if v2 < (0 : Int32) then (0 : Int32) else v2))), some (.int ((if (4 : Int32) < v3 then (4 : Int32) else v3)))]) (st := []) (h := h) rfl (fun c2 => ?_) (fun c2 => ?_)
    · rw [if_pos c2] at hf
      obtain ⟨r2, hr2, hf⟩ := Option.bind_eq_some_iff.mp hf
      refine ev_cli 4 (kk := 212) (as := [.ref 2001, .int (v1), .int ((if v2 < (0 : Int32) then (0 : Int32) else v2)), .int ((if (4 : Int32) < v3 then (4 : Int32) else v3))]) (rest := []) (pc := 33) (ls := [some (.ref 2001), some (.int (v1)), some (.int ((if v2 < (0 : Int32) then (0 : Int32) else v2))), some (.int ((if (4 : Int32) < v3 then (4 : Int32) else v3)))]) (st := [.int ((if (4 : Int32) < v3 then (4 : Int32) else v3)), .int ((if v2 < (0 : Int32) then (0 : Int32) else v2)), .int (v1), .ref 2001]) (h := h) rfl (tJ1_indexOfChar d (h) v1 (if v2 < (0 : Int32) then (0 : Int32) else v2) (if (4 : Int32) < v3 then (4 : Int32) else v3) r2 hr2) ?_
      cases hf
      exact ev_rt 0 rfl
    · rw [if_neg c2] at hf
      cases hf
      exact ev_rt 1 rfl
set_option maxRecDepth 20000 in
set_option maxHeartbeats 4000000 in
theorem tJ0_indexOf2 (d : Nat) (h : ev_H) (v1 : Int32) (v2 : Int32) (q : Int32) (hf : fJ0_indexOf2 v1 v2 = some q) : ev_M ev_mt (d + 3) 206 [.ref 2000, .int (v1), .int (v2)] (h) (some (.int q), h) := by
  refine ev_en (rt := (some .int)) (I := eiJ0_indexOf_7cf53) rfl (Nat.le_of_ble_eq_true rfl) ?_
  change ev_X (d + 2) _ _ (0, [some (.ref 2000), some (.int (v1)), some (.int (v2))], [], h) _
  unfold fJ0_indexOf2 at hf
  obtain ⟨r1, hr1, hf⟩ := Option.bind_eq_some_iff.mp hf
  refine ev_cli 1 (kk := 207) (as := [.ref 2000]) (rest := []) (pc := 1) (ls := [some (.ref 2000), some (.int (v1)), some (.int (v2))]) (st := [.ref 2000]) (h := h) rfl (tJ0_isLatin1 (d + 1) (h) r1 hr1) ?_
  refine ev_br 0 (P := r1 = 0) (a := 23) (b := 7) (ls := [some (.ref 2000), some (.int (v1)), some (.int (v2))]) (st := []) (h := h) rfl (fun c1 => ?_) (fun c1 => ?_)
  · rw [if_pos c1] at hf
    obtain ⟨r2, hr2, hf⟩ := Option.bind_eq_some_iff.mp hf
    refine ev_cli 5 (kk := 208) (as := [.ref 2000]) (rest := [.int (v2), .int (v1), .ref 2001]) (pc := 30) (ls := [some (.ref 2000), some (.int (v1)), some (.int (v2))]) (st := [.ref 2000, .int (v2), .int (v1), .ref 2001]) (h := h) rfl (tJ0_length d (h) r2 hr2) ?_
    cases hf
  · rw [if_neg c1] at hf
    obtain ⟨r3, hr3, hf⟩ := Option.bind_eq_some_iff.mp hf
    refine ev_cli 5 (kk := 208) (as := [.ref 2000]) (rest := [.int (v2), .int (v1), .ref 2001]) (pc := 14) (ls := [some (.ref 2000), some (.int (v1)), some (.int (v2))]) (st := [.ref 2000, .int (v2), .int (v1), .ref 2001]) (h := h) rfl (tJ0_length d (h) r3 hr3) ?_
    obtain ⟨r4, hr4, hf⟩ := Option.bind_eq_some_iff.mp hf
    refine ev_cli 0 (kk := 210) (as := [.ref 2001, .int (v1), .int (v2), .int (r3)]) (rest := []) (pc := 17) (ls := [some (.ref 2000), some (.int (v1)), some (.int (v2))]) (st := [.int (r3), .int (v2), .int (v1), .ref 2001]) (h := h) rfl (tJ1_indexOf d (h) v1 v2 r3 r4 hr4) ?_
    cases hf
    exact ev_rt 1 rfl
set_option maxRecDepth 20000 in
set_option maxHeartbeats 4000000 in
theorem tJ0_indexOf1 (d : Nat) (h : ev_H) (v1 : Int32) (q : Int32) (hf : fJ0_indexOf1 v1 = some q) : ev_M ev_mt (d + 4) 205 [.ref 2000, .int (v1)] (h) (some (.int q), h) := by
  refine ev_en (rt := (some .int)) (I := eiJ0_indexOf_0f7a4) rfl (Nat.le_of_ble_eq_true rfl) ?_
  change ev_X (d + 3) _ _ (0, [some (.ref 2000), some (.int (v1))], [], h) _
  unfold fJ0_indexOf1 at hf
  obtain ⟨r1, hr1, hf⟩ := Option.bind_eq_some_iff.mp hf
  refine ev_cli 3 (kk := 206) (as := [.ref 2000, .int (v1), .int ((0 : Int32))]) (rest := []) (pc := 3) (ls := [some (.ref 2000), some (.int (v1))]) (st := [.int ((0 : Int32)), .int (v1), .ref 2000]) (h := h) rfl (tJ0_indexOf2 d (h) v1 (0 : Int32) r1 hr1) ?_
  cases hf
  exact ev_rt 0 rfl
set_option maxRecDepth 20000 in
set_option maxHeartbeats 4000000 in
theorem tX5_kindAt_b28 (d : Nat) (σ : SX) (w0 : Int32) (q : Int32) (hf : fX5_kindAt_b28 σ w0 = some q) : ev_X (d + 4) (some .int) eiX5_kindAt (28, [none, none], [.int (w0)], hX σ) (some (.int q), hX σ) := by
  unfold fX5_kindAt_b28 at hf
  cases hf
  exact ev_rt 0 rfl
set_option maxRecDepth 20000 in
set_option maxHeartbeats 4000000 in
theorem tX5_kindAt_b27 (d : Nat) (σ : SX) (q : Int32) (hf : fX5_kindAt_b27 σ = some q) : ev_X (d + 4) (some .int) eiX5_kindAt (27, [none, none], [], hX σ) (some (.int q), hX σ) := by
  unfold fX5_kindAt_b27 at hf
  refine ev_go (c' := (28, [none, none], [.int ((-1 : Int32))], hX σ)) 0 rfl ?_
  exact ev_dr (a := [none, none]) trivial (tX5_kindAt_b28 d σ (-1 : Int32) _ hf)
set_option maxRecDepth 20000 in
set_option maxHeartbeats 4000000 in
theorem tX5_kindAt (d : Nat) (σ : SX) (v1 : Int32) (q : Int32) (hf : fX5_kindAt σ v1 = some q) : ev_M ev_mt (d + 5) 42 [.ref 1, .int (v1)] (hX σ) (some (.int q), hX σ) := by
  refine ev_en (rt := (some .int)) (I := eiX5_kindAt) rfl (Nat.le_of_ble_eq_true rfl) ?_
  change ev_X (d + 4) _ _ (0, [some (.ref 1), some (.int (v1))], [], hX σ) _
  unfold fX5_kindAt at hf
  refine ev_br 1 (P := v1 < 0) (a := 27) (b := 4) (ls := [some (.ref 1), some (.int (v1))]) (st := []) (h := hX σ) rfl (fun c1 => ?_) (fun c1 => ?_)
  · rw [if_pos c1] at hf
    exact ev_dr (a := [none, none]) trivial (tX5_kindAt_b27 d σ  _ hf)
  · rw [if_neg c1] at hf
    refine ev_br 4 (P := v1 < (45 : Int32)) (a := 13) (b := 27) (ls := [some (.ref 1), some (.int (v1))]) (st := []) (h := hX σ) rfl (fun c2 => ?_) (fun c2 => ?_)
    · rw [if_pos c2] at hf
      obtain ⟨c3, hf⟩ := ev_hp hf
      refine ev_ck 4 (P := ¬ (v1 < 0 ∨ 45 ≤ v1.toNatClampNeg)) (c' := (21, [some (.ref 1), some (.int (v1))], [.int (((gx_pg_signs σ) v1.toNatClampNeg)), .ref 2000], hX σ)) rfl c3 ?_
      obtain ⟨r1, hr1, hf⟩ := Option.bind_eq_some_iff.mp hf
      refine ev_cli 0 (kk := 205) (as := [.ref 2000, .int (((gx_pg_signs σ) v1.toNatClampNeg))]) (rest := []) (pc := 21) (ls := [some (.ref 1), some (.int (v1))]) (st := [.int (((gx_pg_signs σ) v1.toNatClampNeg)), .ref 2000]) (h := hX σ) rfl (tJ0_indexOf1 d (hX σ) ((gx_pg_signs σ) v1.toNatClampNeg) r1 hr1) ?_
      refine ev_go (c' := (28, [some (.ref 1), some (.int (v1))], [.int (r1)], hX σ)) 0 rfl ?_
      exact ev_dr (a := [none, none]) trivial (tX5_kindAt_b28 d σ r1 _ hf)
    · rw [if_neg c2] at hf
      exact ev_dr (a := [none, none]) trivial (tX5_kindAt_b27 d σ  _ hf)
set_option maxRecDepth 20000 in
set_option maxHeartbeats 4000000 in
theorem tX5_mayEndRow_b42 (d : Nat) (σ : SX) (w0 : Int32) (q : Int32) (hf : fX5_mayEndRow_b42 σ w0 = some q) : ev_X d (some .boolean) eiX5_mayEndRow (42, [none], [.int (w0)], hX σ) (some (.int q), hX σ) := by
  unfold fX5_mayEndRow_b42 at hf
  obtain ⟨c1, hf⟩ := ev_hp hf
  cases hf
  exact ev_rk 0 rfl c1
set_option maxRecDepth 20000 in
set_option maxHeartbeats 4000000 in
theorem tX5_mayEndRow_b41 (d : Nat) (σ : SX) (q : Int32) (hf : fX5_mayEndRow_b41 σ = some q) : ev_X d (some .boolean) eiX5_mayEndRow (41, [none], [], hX σ) (some (.int q), hX σ) := by
  unfold fX5_mayEndRow_b41 at hf
  refine ev_go (c' := (42, [none], [.int ((0 : Int32))], hX σ)) 0 rfl ?_
  exact ev_dr (a := [none]) trivial (tX5_mayEndRow_b42 d σ (0 : Int32) _ hf)
set_option maxRecDepth 20000 in
set_option maxHeartbeats 4000000 in
theorem tX5_mayEndRow_b37 (d : Nat) (σ : SX) (q : Int32) (hf : fX5_mayEndRow_b37 σ = some q) : ev_X d (some .boolean) eiX5_mayEndRow (37, [none], [], hX σ) (some (.int q), hX σ) := by
  unfold fX5_mayEndRow_b37 at hf
  refine ev_go (c' := (42, [none], [.int ((1 : Int32))], hX σ)) 1 rfl ?_
  exact ev_dr (a := [none]) trivial (tX5_mayEndRow_b42 d σ (1 : Int32) _ hf)
set_option maxRecDepth 20000 in
set_option maxHeartbeats 4000000 in
theorem tX5_mayEndRow (d : Nat) (σ : SX) (q : Int32) (hf : fX5_mayEndRow σ = some q) : ev_M ev_mt (d + 1) 44 [.ref 1] (hX σ) (some (.int q), hX σ) := by
  refine ev_en (rt := (some .boolean)) (I := eiX5_mayEndRow) rfl (Nat.le_of_ble_eq_true rfl) ?_
  change ev_X d _ _ (0, [some (.ref 1)], [], hX σ) _
  unfold fX5_mayEndRow at hf
  refine ev_br 3 (P := (gx_pg_row σ) < (5 : Int32)) (a := 8) (b := 41) (ls := [some (.ref 1)]) (st := []) (h := hX σ) rfl (fun c1 => ?_) (fun c1 => ?_)
  · rw [if_pos c1] at hf
    refine ev_br 2 (P := (gx_pg_row σ) = 0) (a := 15) (b := 26) (ls := [some (.ref 1)]) (st := []) (h := hX σ) rfl (fun c2 => ?_) (fun c2 => ?_)
    · rw [if_pos c2] at hf
      refine ev_br 3 (P := (gx_pg_column σ) < (2 : Int32)) (a := 41) (b := 23) (ls := [some (.ref 1)]) (st := []) (h := hX σ) rfl (fun c3 => ?_) (fun c3 => ?_)
      · rw [if_pos c3] at hf
        exact ev_dr (a := [none]) trivial (tX5_mayEndRow_b41 d σ  _ hf)
      · rw [if_neg c3] at hf
        refine ev_go (c' := (37, [some (.ref 1)], [], hX σ)) 0 rfl ?_
        exact ev_dr (a := [none]) trivial (tX5_mayEndRow_b37 d σ  _ hf)
    · rw [if_neg c2] at hf
      refine ev_br 4 (P := (gx_pg_column σ) = (gx_pg_width σ)) (a := 37) (b := 41) (ls := [some (.ref 1)]) (st := []) (h := hX σ) rfl (fun c4 => ?_) (fun c4 => ?_)
      · rw [if_pos c4] at hf
        exact ev_dr (a := [none]) trivial (tX5_mayEndRow_b37 d σ  _ hf)
      · rw [if_neg c4] at hf
        exact ev_dr (a := [none]) trivial (tX5_mayEndRow_b41 d σ  _ hf)
  · rw [if_neg c1] at hf
    exact ev_dr (a := [none]) trivial (tX5_mayEndRow_b41 d σ  _ hf)
set_option maxRecDepth 20000 in
set_option maxHeartbeats 4000000 in
theorem tX5_readOn_b130 (d : Nat) (σ : SX) (q : Int32 × SX) (hf : fX5_readOn_b130 σ = some q) : ev_X (d + 5) (some .int) eiX5_readOn (130, [some (.ref 1), none], [], hX σ) (some (.int q.1), hX q.2) := by
  unfold fX5_readOn_b130 at hf
  cases hf
  exact ev_rt 2 rfl
set_option maxRecDepth 20000 in
set_option maxHeartbeats 4000000 in
theorem tX5_readOn_b124 (d : Nat) (k17 : SX → Int32 → Option (Int32 × SX)) (hk17 : ∀ (σ : SX) (v1 : Int32) (q : Int32 × SX), k17 σ v1 = some q → ev_X (d + 5) (some .int) eiX5_readOn (17, [some (.ref 1), some (.int (v1))], [], hX σ) (some (.int q.1), hX q.2)) (σ : SX) (v1 : Int32) (q : Int32 × SX) (hf : fX5_readOn_b124 k17 σ v1 = some q) : ev_X (d + 5) (some .int) eiX5_readOn (124, [some (.ref 1), some (.int (v1))], [], hX σ) (some (.int q.1), hX q.2) := by
  unfold fX5_readOn_b124 at hf
  refine ev_go (c' := (17, [some (.ref 1), some (.int ((v1 + (1 : Int32))))], [], hX σ)) 1 rfl ?_
  exact ev_dr (a := [some (.ref 1), some (.int ((v1 + (1 : Int32))))]) ⟨rfl, ⟨rfl, trivial⟩⟩ (hk17 σ (v1 + (1 : Int32)) _ hf)
set_option maxRecDepth 20000 in
set_option maxHeartbeats 4000000 in
theorem tX5_readOn_b112 (d : Nat) (σ : SX) (v1 : Int32) (q : Int32 × SX) (hf : fX5_readOn_b112 σ v1 = some q) : ev_X (d + 5) (some .int) eiX5_readOn (112, [none, some (.int (v1))], [], hX σ) (some (.int q.1), hX q.2) := by
  unfold fX5_readOn_b112 at hf
  cases hf
  exact ev_rt 1 rfl
set_option maxRecDepth 20000 in
set_option maxHeartbeats 4000000 in
theorem tX5_readOn_b109 (d : Nat) (k17 : SX → Int32 → Option (Int32 × SX)) (hk17 : ∀ (σ : SX) (v1 : Int32) (q : Int32 × SX), k17 σ v1 = some q → ev_X (d + 5) (some .int) eiX5_readOn (17, [some (.ref 1), some (.int (v1))], [], hX σ) (some (.int q.1), hX q.2)) (σ : SX) (v1 : Int32) (w0 : Int32) (w1 : Int32) (q : Int32 × SX) (hf : fX5_readOn_b109 k17 σ v1 w0 w1 = some q) : ev_X (d + 5) (some .int) eiX5_readOn (109, [some (.ref 1), some (.int (v1))], [.int (w0), .int (w1)], hX σ) (some (.int q.1), hX q.2) := by
  unfold fX5_readOn_b109 at hf
  refine ev_br 0 (P := w1 < w0) (a := 114) (b := 112) (ls := [some (.ref 1), some (.int (v1))]) (st := []) (h := hX σ) rfl (fun c1 => ?_) (fun c1 => ?_)
  · rw [if_pos c1] at hf
    refine ev_go (c' := (121, [some (.ref 1), some (.int (v1))], [.int (((gx_pg_column σ) + (1 : Int32))), .ref 1], hX σ)) 4 rfl ?_
    refine ev_st1 (e := (121, .putfield 34, 3, 3, 0, .null, [(5, 0)], [97])) (c' := (124, [some (.ref 1), some (.int (v1))], [], hX (sx_pg_column σ ((gx_pg_column σ) + (1 : Int32))))) rfl oy_put_x_pg_column ?_
    exact ev_dr (a := [some (.ref 1), some (.int (v1))]) ⟨rfl, ⟨rfl, trivial⟩⟩ (tX5_readOn_b124 d k17 hk17 (sx_pg_column σ ((gx_pg_column σ) + (1 : Int32))) v1 _ hf)
  · rw [if_neg c1] at hf
    exact ev_dr (a := [none, some (.int (v1))]) ⟨rfl, trivial⟩ (tX5_readOn_b112 d σ v1 _ hf)
set_option maxRecDepth 20000 in
set_option maxHeartbeats 4000000 in
theorem tX5_readOn_b17 (d : Nat) (k17 : SX → Int32 → Option (Int32 × SX)) (hk17 : ∀ (σ : SX) (v1 : Int32) (q : Int32 × SX), k17 σ v1 = some q → ev_X (d + 5) (some .int) eiX5_readOn (17, [some (.ref 1), some (.int (v1))], [], hX σ) (some (.int q.1), hX q.2)) (σ : SX) (v1 : Int32) (q : Int32 × SX) (hf : fX5_readOn_b17 k17 σ v1 = some q) : ev_X (d + 5) (some .int) eiX5_readOn (17, [some (.ref 1), some (.int (v1))], [], hX σ) (some (.int q.1), hX q.2) := by
  unfold fX5_readOn_b17 at hf
  refine ev_br 3 (P := v1 < (gx_pg_length σ)) (a := 25) (b := 130) (ls := [some (.ref 1), some (.int (v1))]) (st := []) (h := hX σ) rfl (fun c1 => ?_) (fun c1 => ?_)
  · rw [if_pos c1] at hf
    refine ev_br 4 (P := v1 < (45 : Int32)) (a := 34) (b := 130) (ls := [some (.ref 1), some (.int (v1))]) (st := []) (h := hX σ) rfl (fun c2 => ?_) (fun c2 => ?_)
    · rw [if_pos c2] at hf
      obtain ⟨c3, hf⟩ := ev_hp hf
      refine ev_ck 3 (P := ¬ (v1 < 0 ∨ 45 ≤ v1.toNatClampNeg)) (c' := (40, [some (.ref 1), some (.int (v1))], [.int (((gx_pg_signs σ) v1.toNatClampNeg))], hX σ)) rfl c3 ?_
      refine ev_br 1 (P := ((gx_pg_signs σ) v1.toNatClampNeg) = (47 : Int32)) (a := 45) (b := 80) (ls := [some (.ref 1), some (.int (v1))]) (st := []) (h := hX σ) rfl (fun c4 => ?_) (fun c4 => ?_)
      · rw [if_pos c4] at hf
        obtain ⟨r1, hr1, hf⟩ := Option.bind_eq_some_iff.mp hf
        refine ev_cli 1 (kk := 44) (as := [.ref 1]) (rest := []) (pc := 46) (ls := [some (.ref 1), some (.int (v1))]) (st := [.ref 1]) (h := hX σ) rfl (tX5_mayEndRow (d + 4) σ r1 hr1) ?_
        refine ev_br 0 (P := r1 = 0) (a := 52) (b := 54) (ls := [some (.ref 1), some (.int (v1))]) (st := []) (h := hX σ) rfl (fun c5 => ?_) (fun c5 => ?_)
        · rw [if_pos c5] at hf
          cases hf
          exact ev_rt 1 rfl
        · rw [if_neg c5] at hf
          refine ev_go (c' := (59, [some (.ref 1), some (.int (v1))], [.int ((gx_pg_column σ)), .ref 1], hX σ)) 2 rfl ?_
          refine ev_st1 (e := (59, .putfield 37, 3, 4, 0, .null, [(5, 0)], [98])) (c' := (62, [some (.ref 1), some (.int (v1))], [], hX (sx_pg_width σ (gx_pg_column σ)))) rfl oy_put_x_pg_width ?_
          refine ev_go (c' := (64, [some (.ref 1), some (.int (v1))], [.int ((0 : Int32)), .ref 1], hX (sx_pg_width σ (gx_pg_column σ)))) 1 rfl ?_
          refine ev_st1 (e := (64, .putfield 34, 3, 3, 0, .null, [(5, 0)], [97])) (c' := (67, [some (.ref 1), some (.int (v1))], [], hX (sx_pg_column (sx_pg_width σ (gx_pg_column σ)) (0 : Int32)))) rfl oy_put_x_pg_column ?_
          refine ev_go (c' := (74, [some (.ref 1), some (.int (v1))], [.int (((gx_pg_row σ) + (1 : Int32))), .ref 1], hX (sx_pg_column (sx_pg_width σ (gx_pg_column σ)) (0 : Int32)))) 4 rfl ?_
          refine ev_st1 (e := (74, .putfield 31, 3, 2, 0, .null, [(5, 0)], [96])) (c' := (77, [some (.ref 1), some (.int (v1))], [], hX (sx_pg_row (sx_pg_column (sx_pg_width σ (gx_pg_column σ)) (0 : Int32)) ((gx_pg_row σ) + (1 : Int32))))) rfl oy_put_x_pg_row ?_
          refine ev_go (c' := (124, [some (.ref 1), some (.int (v1))], [], hX (sx_pg_row (sx_pg_column (sx_pg_width σ (gx_pg_column σ)) (0 : Int32)) ((gx_pg_row σ) + (1 : Int32))))) 0 rfl ?_
          exact ev_dr (a := [some (.ref 1), some (.int (v1))]) ⟨rfl, ⟨rfl, trivial⟩⟩ (tX5_readOn_b124 d k17 hk17 (sx_pg_row (sx_pg_column (sx_pg_width σ (gx_pg_column σ)) (0 : Int32)) ((gx_pg_row σ) + (1 : Int32))) v1 _ hf)
      · rw [if_neg c4] at hf
        obtain ⟨r2, hr2, hf⟩ := Option.bind_eq_some_iff.mp hf
        refine ev_cli 2 (kk := 42) (as := [.ref 1, .int (v1)]) (rest := []) (pc := 82) (ls := [some (.ref 1), some (.int (v1))]) (st := [.int (v1), .ref 1]) (h := hX σ) rfl (tX5_kindAt d σ v1 r2 hr2) ?_
        refine ev_br 1 (P := r2 = (-1 : Int32)) (a := 112) (b := 89) (ls := [some (.ref 1), some (.int (v1))]) (st := []) (h := hX σ) rfl (fun c6 => ?_) (fun c6 => ?_)
        · rw [if_pos c6] at hf
          exact ev_dr (a := [none, some (.int (v1))]) ⟨rfl, trivial⟩ (tX5_readOn_b112 d σ v1 _ hf)
        · rw [if_neg c6] at hf
          refine ev_br 4 (P := (gx_pg_row σ) = 0) (a := 100) (b := 105) (ls := [some (.ref 1), some (.int (v1))]) (st := [.int ((gx_pg_column σ))]) (h := hX σ) rfl (fun c7 => ?_) (fun c7 => ?_)
          · rw [if_pos c7] at hf
            refine ev_go (c' := (109, [some (.ref 1), some (.int (v1))], [.int ((6 : Int32)), .int ((gx_pg_column σ))], hX σ)) 1 rfl ?_
            exact ev_dr (a := [some (.ref 1), some (.int (v1))]) ⟨rfl, ⟨rfl, trivial⟩⟩ (tX5_readOn_b109 d k17 hk17 σ v1 (6 : Int32) (gx_pg_column σ) _ hf)
          · rw [if_neg c7] at hf
            refine ev_go (c' := (109, [some (.ref 1), some (.int (v1))], [.int ((gx_pg_width σ)), .int ((gx_pg_column σ))], hX σ)) 1 rfl ?_
            exact ev_dr (a := [some (.ref 1), some (.int (v1))]) ⟨rfl, ⟨rfl, trivial⟩⟩ (tX5_readOn_b109 d k17 hk17 σ v1 (gx_pg_width σ) (gx_pg_column σ) _ hf)
    · rw [if_neg c2] at hf
      exact ev_dr (a := [some (.ref 1), none]) ⟨rfl, trivial⟩ (tX5_readOn_b130 d σ  _ hf)
  · rw [if_neg c1] at hf
    exact ev_dr (a := [some (.ref 1), none]) ⟨rfl, trivial⟩ (tX5_readOn_b130 d σ  _ hf)
theorem tX5_readOn_l17 (d : Nat) : ∀ (n : Nat) (σ : SX) (v1 : Int32) (q : Int32 × SX), fX5_readOn_l17 n σ v1 = some q → ev_X (d + 5) (some .int) eiX5_readOn (17, [some (.ref 1), some (.int (v1))], [], hX σ) (some (.int q.1), hX q.2)
  | 0, _, _, _, hf => by cases hf
  | n + 1, σ, v1, q, hf => tX5_readOn_b17 d (fX5_readOn_l17 n) (fun σ v1 q h9 => tX5_readOn_l17 d n σ v1 q h9) σ v1 q hf
set_option maxRecDepth 20000 in
set_option maxHeartbeats 4000000 in
theorem tX5_readOn (d : Nat) (σ : SX) (q : Int32 × SX) (hf : fX5_readOn σ = some q) : ev_M ev_mt (d + 6) 43 [.ref 1] (hX σ) (some (.int q.1), hX q.2) := by
  refine ev_en (rt := (some .int)) (I := eiX5_readOn) rfl (Nat.le_of_ble_eq_true rfl) ?_
  change ev_X (d + 5) _ _ (0, [some (.ref 1), none], [], hX σ) _
  unfold fX5_readOn at hf
  refine ev_go (c' := (2, [some (.ref 1), none], [.int ((0 : Int32)), .ref 1], hX σ)) 1 rfl ?_
  refine ev_st1 (e := (2, .putfield 31, 3, 2, 0, .null, [(5, 0)], [96])) (c' := (5, [some (.ref 1), none], [], hX (sx_pg_row σ (0 : Int32)))) rfl oy_put_x_pg_row ?_
  refine ev_go (c' := (7, [some (.ref 1), none], [.int ((0 : Int32)), .ref 1], hX (sx_pg_row σ (0 : Int32)))) 1 rfl ?_
  refine ev_st1 (e := (7, .putfield 34, 3, 3, 0, .null, [(5, 0)], [97])) (c' := (10, [some (.ref 1), none], [], hX (sx_pg_column (sx_pg_row σ (0 : Int32)) (0 : Int32)))) rfl oy_put_x_pg_column ?_
  refine ev_go (c' := (12, [some (.ref 1), none], [.int ((0 : Int32)), .ref 1], hX (sx_pg_column (sx_pg_row σ (0 : Int32)) (0 : Int32)))) 1 rfl ?_
  refine ev_st1 (e := (12, .putfield 37, 3, 4, 0, .null, [(5, 0)], [98])) (c' := (15, [some (.ref 1), none], [], hX (sx_pg_width (sx_pg_column (sx_pg_row σ (0 : Int32)) (0 : Int32)) (0 : Int32)))) rfl oy_put_x_pg_width ?_
  refine ev_go (c' := (17, [some (.ref 1), some (.int ((0 : Int32)))], [], hX (sx_pg_width (sx_pg_column (sx_pg_row σ (0 : Int32)) (0 : Int32)) (0 : Int32)))) 1 rfl ?_
  exact ev_dr (a := [some (.ref 1), some (.int ((0 : Int32)))]) ⟨rfl, ⟨rfl, trivial⟩⟩ (tX5_readOn_l17 d 1000 (sx_pg_width (sx_pg_column (sx_pg_row σ (0 : Int32)) (0 : Int32)) (0 : Int32)) (0 : Int32) _ hf)
set_option maxRecDepth 20000 in
set_option maxHeartbeats 4000000 in
theorem tX5_isWhole_b34 (d : Nat) (σ : SX) (w0 : Int32) (q : Int32 × SX) (hf : fX5_isWhole_b34 σ w0 = some q) : ev_X (d + 6) (some .boolean) eiX5_isWhole (34, [none], [.int (w0)], hX σ) (some (.int q.1), hX q.2) := by
  unfold fX5_isWhole_b34 at hf
  obtain ⟨c1, hf⟩ := ev_hp hf
  cases hf
  exact ev_rk 0 rfl c1
set_option maxRecDepth 20000 in
set_option maxHeartbeats 4000000 in
theorem tX5_isWhole_b33 (d : Nat) (σ : SX) (q : Int32 × SX) (hf : fX5_isWhole_b33 σ = some q) : ev_X (d + 6) (some .boolean) eiX5_isWhole (33, [none], [], hX σ) (some (.int q.1), hX q.2) := by
  unfold fX5_isWhole_b33 at hf
  refine ev_go (c' := (34, [none], [.int ((0 : Int32))], hX σ)) 0 rfl ?_
  exact ev_dr (a := [none]) trivial (tX5_isWhole_b34 d σ (0 : Int32) _ hf)
set_option maxRecDepth 20000 in
set_option maxHeartbeats 4000000 in
theorem tX5_isWhole (d : Nat) (σ : SX) (q : Int32 × SX) (hf : fX5_isWhole σ = some q) : ev_M ev_mt (d + 7) 45 [.ref 1] (hX σ) (some (.int q.1), hX q.2) := by
  refine ev_en (rt := (some .boolean)) (I := eiX5_isWhole) rfl (Nat.le_of_ble_eq_true rfl) ?_
  change ev_X (d + 6) _ _ (0, [some (.ref 1)], [], hX σ) _
  unfold fX5_isWhole at hf
  obtain ⟨r1, hr1, hf⟩ := Option.bind_eq_some_iff.mp hf
  refine ev_cli 1 (kk := 43) (as := [.ref 1]) (rest := []) (pc := 1) (ls := [some (.ref 1)]) (st := [.ref 1]) (h := hX σ) rfl (tX5_readOn d σ r1 hr1) ?_
  refine ev_br 2 (P := r1.1 = (gx_pg_length r1.2)) (a := 11) (b := 33) (ls := [some (.ref 1)]) (st := []) (h := hX r1.2) rfl (fun c1 => ?_) (fun c1 => ?_)
  · rw [if_pos c1] at hf
    refine ev_br 2 (P := 0 < (gx_pg_row r1.2)) (a := 18) (b := 33) (ls := [some (.ref 1)]) (st := []) (h := hX r1.2) rfl (fun c2 => ?_) (fun c2 => ?_)
    · rw [if_pos c2] at hf
      refine ev_br 4 (P := (gx_pg_column r1.2) = (gx_pg_width r1.2)) (a := 29) (b := 33) (ls := [some (.ref 1)]) (st := []) (h := hX r1.2) rfl (fun c3 => ?_) (fun c3 => ?_)
      · rw [if_pos c3] at hf
        refine ev_go (c' := (34, [some (.ref 1)], [.int ((1 : Int32))], hX r1.2)) 1 rfl ?_
        exact ev_dr (a := [none]) trivial (tX5_isWhole_b34 d r1.2 (1 : Int32) _ hf)
      · rw [if_neg c3] at hf
        exact ev_dr (a := [none]) trivial (tX5_isWhole_b33 d r1.2  _ hf)
    · rw [if_neg c2] at hf
      exact ev_dr (a := [none]) trivial (tX5_isWhole_b33 d r1.2  _ hf)
  · rw [if_neg c1] at hf
    exact ev_dr (a := [none]) trivial (tX5_isWhole_b33 d r1.2  _ hf)
set_option maxRecDepth 20000 in
set_option maxHeartbeats 4000000 in
theorem tX5_hasFree_b25 (d : Nat) (σ : SX) (q : Int32) (hf : fX5_hasFree_b25 σ = some q) : ev_X (d + 5) (some .boolean) eiX5_hasFree (25, [none, none, none], [], hX σ) (some (.int q), hX σ) := by
  unfold fX5_hasFree_b25 at hf
  cases hf
  exact ev_rt 1 rfl
set_option maxRecDepth 20000 in
set_option maxHeartbeats 4000000 in
theorem tX5_hasFree_b2 (d : Nat) (σ : SX) (k2 : Int32 → Option (Int32)) (hk2 : ∀ (v1 : Int32) (q : Int32), k2 v1 = some q → ev_X (d + 5) (some .boolean) eiX5_hasFree (2, [some (.ref 1), some (.int (v1)), none], [], hX σ) (some (.int q), hX σ)) (v1 : Int32) (q : Int32) (hf : fX5_hasFree_b2 σ k2 v1 = some q) : ev_X (d + 5) (some .boolean) eiX5_hasFree (2, [some (.ref 1), some (.int (v1)), none], [], hX σ) (some (.int q), hX σ) := by
  unfold fX5_hasFree_b2 at hf
  refine ev_br 3 (P := v1 < (gx_pg_length σ)) (a := 10) (b := 33) (ls := [some (.ref 1), some (.int (v1)), none]) (st := []) (h := hX σ) rfl (fun c1 => ?_) (fun c1 => ?_)
  · rw [if_pos c1] at hf
    obtain ⟨r1, hr1, hf⟩ := Option.bind_eq_some_iff.mp hf
    refine ev_cli 2 (kk := 42) (as := [.ref 1, .int (v1)]) (rest := []) (pc := 12) (ls := [some (.ref 1), some (.int (v1)), none]) (st := [.int (v1), .ref 1]) (h := hX σ) rfl (tX5_kindAt d σ v1 r1 hr1) ?_
    refine ev_br 2 (P := r1 = 0) (a := 25) (b := 20) (ls := [some (.ref 1), some (.int (v1)), some (.int (r1))]) (st := []) (h := hX σ) rfl (fun c2 => ?_) (fun c2 => ?_)
    · rw [if_pos c2] at hf
      exact ev_dr (a := [none, none, none]) trivial (tX5_hasFree_b25 d σ  _ hf)
    · rw [if_neg c2] at hf
      refine ev_br 2 (P := r1 = (1 : Int32)) (a := 25) (b := 27) (ls := [some (.ref 1), some (.int (v1)), some (.int (r1))]) (st := []) (h := hX σ) rfl (fun c3 => ?_) (fun c3 => ?_)
      · rw [if_pos c3] at hf
        exact ev_dr (a := [none, none, none]) trivial (tX5_hasFree_b25 d σ  _ hf)
      · rw [if_neg c3] at hf
        refine ev_go (c' := (2, [some (.ref 1), some (.int ((v1 + (1 : Int32)))), some (.int (r1))], [], hX σ)) 1 rfl ?_
        exact ev_dr (a := [some (.ref 1), some (.int ((v1 + (1 : Int32)))), none]) ⟨rfl, ⟨rfl, trivial⟩⟩ (hk2 (v1 + (1 : Int32)) _ hf)
  · rw [if_neg c1] at hf
    cases hf
    exact ev_rt 1 rfl
theorem tX5_hasFree_l2 (d : Nat) (σ : SX) : ∀ (n : Nat) (v1 : Int32) (q : Int32), fX5_hasFree_l2 σ n v1 = some q → ev_X (d + 5) (some .boolean) eiX5_hasFree (2, [some (.ref 1), some (.int (v1)), none], [], hX σ) (some (.int q), hX σ)
  | 0, _, _, hf => by cases hf
  | n + 1, v1, q, hf => tX5_hasFree_b2 d σ (fX5_hasFree_l2 σ n) (fun v1 q h9 => tX5_hasFree_l2 d σ n v1 q h9) v1 q hf
set_option maxRecDepth 20000 in
set_option maxHeartbeats 4000000 in
theorem tX5_hasFree (d : Nat) (σ : SX) (q : Int32) (hf : fX5_hasFree σ = some q) : ev_M ev_mt (d + 6) 46 [.ref 1] (hX σ) (some (.int q), hX σ) := by
  refine ev_en (rt := (some .boolean)) (I := eiX5_hasFree) rfl (Nat.le_of_ble_eq_true rfl) ?_
  change ev_X (d + 5) _ _ (0, [some (.ref 1), none, none], [], hX σ) _
  unfold fX5_hasFree at hf
  refine ev_go (c' := (2, [some (.ref 1), some (.int ((0 : Int32))), none], [], hX σ)) 1 rfl ?_
  exact ev_dr (a := [some (.ref 1), some (.int ((0 : Int32))), none]) ⟨rfl, ⟨rfl, trivial⟩⟩ (tX5_hasFree_l2 d σ 1000 (0 : Int32) _ hf)
set_option maxRecDepth 20000 in
set_option maxHeartbeats 4000000 in
theorem tX5_mixInto_b43 (d : Nat) (σ : SX) (v3 : Int64) (q : Int64) (hf : fX5_mixInto_b43 σ v3 = some q) : ev_X (d + 1) (some .long) eiX5_mixInto (43, [none, none, none, some (.long (v3)), none, none], [], hX σ) (some (.long q), hX σ) := by
  unfold fX5_mixInto_b43 at hf
  cases hf
  exact ev_rt 1 rfl
set_option maxRecDepth 20000 in
set_option maxHeartbeats 4000000 in
theorem tX5_mixInto_b5 (d : Nat) (σ : SX) (k5 : Int64 → Int32 → Option (Int64)) (hk5 : ∀ (v3 : Int64) (v5 : Int32) (q : Int64), k5 v3 v5 = some q → ev_X (d + 1) (some .long) eiX5_mixInto (5, [some (.ref 1), none, none, some (.long (v3)), none, some (.int (v5))], [], hX σ) (some (.long q), hX σ)) (v3 : Int64) (v5 : Int32) (q : Int64) (hf : fX5_mixInto_b5 σ k5 v3 v5 = some q) : ev_X (d + 1) (some .long) eiX5_mixInto (5, [some (.ref 1), none, none, some (.long (v3)), none, some (.int (v5))], [], hX σ) (some (.long q), hX σ) := by
  unfold fX5_mixInto_b5 at hf
  refine ev_br 3 (P := v5 < (gx_pg_length σ)) (a := 14) (b := 43) (ls := [some (.ref 1), none, none, some (.long (v3)), none, some (.int (v5))]) (st := []) (h := hX σ) rfl (fun c1 => ?_) (fun c1 => ?_)
  · rw [if_pos c1] at hf
    refine ev_br 4 (P := v5 < (45 : Int32)) (a := 24) (b := 43) (ls := [some (.ref 1), none, none, some (.long (v3)), none, some (.int (v5))]) (st := []) (h := hX σ) rfl (fun c2 => ?_) (fun c2 => ?_)
    · rw [if_pos c2] at hf
      obtain ⟨c3, hf⟩ := ev_hp hf
      refine ev_ck 4 (P := ¬ (v5 < 0 ∨ 45 ≤ v5.toNatClampNeg)) (c' := (32, [some (.ref 1), none, none, some (.long (v3)), none, some (.int (v5))], [.int (((gx_pg_signs σ) v5.toNatClampNeg)), .long (v3)], hX σ)) rfl c3 ?_
      obtain ⟨r1, hr1, hf⟩ := Option.bind_eq_some_iff.mp hf
      refine ev_cll 1 (kk := 116) (as := [.long (v3), .long (((gx_pg_signs σ) v5.toNatClampNeg).toInt64)]) (rest := []) (pc := 33) (ls := [some (.ref 1), none, none, some (.long (v3)), none, some (.int (v5))]) (st := [.long (((gx_pg_signs σ) v5.toNatClampNeg).toInt64), .long (v3)]) (h := hX σ) rfl (tX11_mixed d (hX σ) v3 (((gx_pg_signs σ) v5.toNatClampNeg).toInt64) r1 hr1) ?_
      refine ev_go (c' := (5, [some (.ref 1), none, none, some (.long (r1)), none, some (.int ((v5 + (1 : Int32))))], [], hX σ)) 2 rfl ?_
      exact ev_dr (a := [some (.ref 1), none, none, some (.long (r1)), none, some (.int ((v5 + (1 : Int32))))]) ⟨rfl, ⟨rfl, ⟨rfl, trivial⟩⟩⟩ (hk5 r1 (v5 + (1 : Int32)) _ hf)
    · rw [if_neg c2] at hf
      exact ev_dr (a := [none, none, none, some (.long (v3)), none, none]) ⟨rfl, trivial⟩ (tX5_mixInto_b43 d σ v3 _ hf)
  · rw [if_neg c1] at hf
    exact ev_dr (a := [none, none, none, some (.long (v3)), none, none]) ⟨rfl, trivial⟩ (tX5_mixInto_b43 d σ v3 _ hf)
theorem tX5_mixInto_l5 (d : Nat) (σ : SX) : ∀ (n : Nat) (v3 : Int64) (v5 : Int32) (q : Int64), fX5_mixInto_l5 σ n v3 v5 = some q → ev_X (d + 1) (some .long) eiX5_mixInto (5, [some (.ref 1), none, none, some (.long (v3)), none, some (.int (v5))], [], hX σ) (some (.long q), hX σ)
  | 0, _, _, _, hf => by cases hf
  | n + 1, v3, v5, q, hf => tX5_mixInto_b5 d σ (fX5_mixInto_l5 σ n) (fun v3 v5 q h9 => tX5_mixInto_l5 d σ n v3 v5 q h9) v3 v5 q hf
set_option maxRecDepth 20000 in
set_option maxHeartbeats 4000000 in
theorem tX5_mixInto (d : Nat) (σ : SX) (v1 : Int64) (q : Int64) (hf : fX5_mixInto σ v1 = some q) : ev_M ev_mt (d + 2) 47 [.ref 1, .long (v1)] (hX σ) (some (.long q), hX σ) := by
  refine ev_en (rt := (some .long)) (I := eiX5_mixInto) rfl (Nat.le_of_ble_eq_true rfl) ?_
  change ev_X (d + 1) _ _ (0, [some (.ref 1), some (.long (v1)), none, none, none, none], [], hX σ) _
  unfold fX5_mixInto at hf
  refine ev_go (c' := (5, [some (.ref 1), some (.long (v1)), none, some (.long (v1)), none, some (.int ((0 : Int32)))], [], hX σ)) 3 rfl ?_
  exact ev_dr (a := [some (.ref 1), none, none, some (.long (v1)), none, some (.int ((0 : Int32)))]) ⟨rfl, ⟨rfl, ⟨rfl, trivial⟩⟩⟩ (tX5_mixInto_l5 d σ 1000 v1 (0 : Int32) _ hf)
set_option maxRecDepth 20000 in
set_option maxHeartbeats 4000000 in
theorem tX6_kind (d : Nat) (σ : SX) (v0 : Nat) (q : Int32) (hf : fX6_kind σ v0 = some q) : ev_M ev_mt (d + 1) 48 [.ref v0] (hX σ) (some (.int q), hX σ) := by
  refine ev_en (rt := (some .int)) (I := eiX6_kind) rfl (Nat.le_of_ble_eq_true rfl) ?_
  change ev_X d _ _ (0, [some (.ref v0)], [], hX σ) _
  unfold fX6_kind at hf
  cases hf
  exact ev_rt 1 rfl
set_option maxRecDepth 20000 in
set_option maxHeartbeats 4000000 in
theorem tX6_goOn (d : Nat) (σ : SX) (v0 : Nat) (v2 : Int32) (v3 : Int32) (v4 : Int32) (q : Unit) (hf : fX6_goOn σ v0 v2 v3 v4 = some q) : ev_M ev_mt (d + 1) 49 [.ref v0, .ref 3, .int (v2), .int (v3), .int (v4)] (hX σ) (none, hX σ) := by
  refine ev_en (rt := none) (I := eiX6_goOn) rfl (Nat.le_of_ble_eq_true rfl) ?_
  change ev_X d _ _ (0, [some (.ref v0), some (.ref 3), some (.int (v2)), some (.int (v3)), some (.int (v4))], [], hX σ) _
  unfold fX6_goOn at hf
  cases hf
  exact ev_rt 0 rfl
set_option maxRecDepth 20000 in
set_option maxHeartbeats 4000000 in
theorem tX6_callsFrom (d : Nat) (σ : SX) (v0 : Nat) (q : Int32) (hf : fX6_callsFrom σ v0 = some q) : ev_M ev_mt (d + 1) 50 [.ref v0, .ref 3] (hX σ) (some (.int q), hX σ) := by
  refine ev_en (rt := (some .int)) (I := eiX6_callsFrom) rfl (Nat.le_of_ble_eq_true rfl) ?_
  change ev_X d _ _ (0, [some (.ref v0), some (.ref 3)], [], hX σ) _
  unfold fX6_callsFrom at hf
  cases hf
  exact ev_rt 1 rfl
set_option maxRecDepth 20000 in
set_option maxHeartbeats 4000000 in
theorem tX6_isCaught (d : Nat) (σ : SX) (v0 : Nat) (q : Int32) (hf : fX6_isCaught σ v0 = some q) : ev_M ev_mt (d + 1) 51 [.ref v0, .ref 17] (hX σ) (some (.int q), hX σ) := by
  refine ev_en (rt := (some .boolean)) (I := eiX6_isCaught) rfl (Nat.le_of_ble_eq_true rfl) ?_
  change ev_X d _ _ (0, [some (.ref v0), some (.ref 17)], [], hX σ) _
  unfold fX6_isCaught at hf
  cases hf
  exact ev_rt 1 rfl
set_option maxRecDepth 20000 in
set_option maxHeartbeats 4000000 in
theorem tX9_kind (d : Nat) (σ : SX) (v0 : Nat) (q : Int32) (hf : fX9_kind σ v0 = some q) : ev_M ev_mt (d + 1) 77 [.ref v0] (hX σ) (some (.int q), hX σ) := by
  refine ev_en (rt := (some .int)) (I := eiX9_kind) rfl (Nat.le_of_ble_eq_true rfl) ?_
  change ev_X d _ _ (0, [some (.ref v0)], [], hX σ) _
  unfold fX9_kind at hf
  cases hf
  exact ev_rt 1 rfl
set_option maxRecDepth 20000 in
set_option maxHeartbeats 4000000 in
theorem tX10_kind (d : Nat) (σ : SX) (v0 : Nat) (q : Int32) (hf : fX10_kind σ v0 = some q) : ev_M ev_mt (d + 1) 79 [.ref v0] (hX σ) (some (.int q), hX σ) := by
  refine ev_en (rt := (some .int)) (I := eiX10_kind) rfl (Nat.le_of_ble_eq_true rfl) ?_
  change ev_X d _ _ (0, [some (.ref v0)], [], hX σ) _
  unfold fX10_kind at hf
  cases hf
  exact ev_rt 1 rfl
theorem dt_kind (d : Nat) (σ : SX) (v0 : Nat) (q : Int32) (h6 : gx_pl_kd σ (v0 - 20) < 6) (hf : d_kind σ v0 = some q) : ∃ kk, List.lookup (ev_kc (gx_pl_kd σ (v0 - 20))) [(0, 0), (1, 2), (2, 4), (6, 48), (9, 77), (10, 79)] = some kk ∧ ev_M ev_mt (d + 1) kk [.ref v0] (hX σ) (some (.int q), hX σ) := by
  unfold d_kind at hf
  by_cases e0 : gx_pl_kd σ (v0 - 20) = 0
  · rw [if_pos e0] at hf
    rw [e0]
    exact ⟨_, rfl, tX6_kind d σ v0 q hf⟩
  rw [if_neg e0] at hf
  by_cases e1 : gx_pl_kd σ (v0 - 20) = 1
  · rw [if_pos e1] at hf
    rw [e1]
    exact ⟨_, rfl, tX9_kind d σ v0 q hf⟩
  rw [if_neg e1] at hf
  by_cases e2 : gx_pl_kd σ (v0 - 20) = 2
  · rw [if_pos e2] at hf
    rw [e2]
    exact ⟨_, rfl, tX10_kind d σ v0 q hf⟩
  rw [if_neg e2] at hf
  by_cases e3 : gx_pl_kd σ (v0 - 20) = 3
  · rw [if_pos e3] at hf
    rw [e3]
    exact ⟨_, rfl, tX1_kind d σ v0 q hf⟩
  rw [if_neg e3] at hf
  by_cases e4 : gx_pl_kd σ (v0 - 20) = 4
  · rw [if_pos e4] at hf
    rw [e4]
    exact ⟨_, rfl, tX2_kind d σ v0 q hf⟩
  rw [if_neg e4] at hf
  have e5 : gx_pl_kd σ (v0 - 20) = 5 := by omega
  rw [e5]
  exact ⟨_, rfl, tX0_kind d σ v0 q hf⟩

set_option maxRecDepth 20000 in
set_option maxHeartbeats 4000000 in
theorem tX6_detail (d : Nat) (σ : SX) (v0 : Nat) (v1 : Int32) (q : Int32) (hf : fX6_detail σ v0 v1 = some q) : ev_M ev_mt (d + 2) 52 [.ref v0, .int (v1)] (hX σ) (some (.int q), hX σ) := by
  refine ev_en (rt := (some .int)) (I := eiX6_detail) rfl (Nat.le_of_ble_eq_true rfl) ?_
  change ev_X (d + 1) _ _ (0, [some (.ref v0), some (.int (v1))], [], hX σ) _
  unfold fX6_detail at hf
  refine ev_go (c' := (ev_sw [(0, 32), (1, 37), (2, 42), (3, 47)] v1 52, [some (.ref v0), some (.int (v1))], [], hX σ)) 1 rfl ?_
  by_cases c1 : v1 = (0 : Int32)
  · rw [if_pos c1] at hf
    have hs : ev_sw [(0, 32), (1, 37), (2, 42), (3, 47)] v1 52 = 32 := if_pos c1
    rw [hs]
    obtain ⟨c2, hf⟩ := ev_hp hf
    obtain ⟨r1, hr1, hf⟩ := Option.bind_eq_some_iff.mp hf
    refine ev_go (c' := (33, [some (.ref v0), some (.int (v1))], [.ref v0], hX σ)) 0 rfl ?_
    obtain ⟨kk, hk, hm⟩ := dt_kind d σ v0 r1 (ox_kd c2) hr1
    refine ev_cl1 (e := (33, .invokevirtual 15, 3, 0, 0, .null, [(0, 0), (1, 2), (2, 4), (6, 48), (9, 77), (10, 79)], [783, 786, 787, 788, 76, 784, 802, 0, 783, 786, 790, 791, 74, 784, 802, 0, 783, 786, 793, 794, 75, 784, 802, 0, 783, 784, 785, 71, 0, 0, 0, 0, 783, 786, 796, 797, 72, 784, 802, 0, 783, 786, 799, 800, 73, 784, 802, 0])) rfl (ox_inv0 (ev_cat_ok := Nat.le_of_ble_eq_true rfl) c2 hk) hm ?_
    change ev_X (d + 1) _ _ (36, [some (.ref v0), some (.int (v1))], [.int (r1)], hX σ) _
    cases hf
    exact ev_rt 0 rfl
  rw [if_neg c1] at hf
  by_cases c3 : v1 = (1 : Int32)
  · rw [if_pos c3] at hf
    have hs : ev_sw [(0, 32), (1, 37), (2, 42), (3, 47)] v1 52 = 37 := (if_neg c1).trans (if_pos c3)
    rw [hs]
    obtain ⟨c4, hf⟩ := ev_hp hf
    refine ev_go (c' := (38, [some (.ref v0), some (.int (v1))], [.ref v0], hX σ)) 0 rfl ?_
    refine ev_st1 (e := (38, .getfield 19, 3, 0, 0, .null, [(0, 0), (1, 0), (2, 0), (6, 0), (9, 0), (10, 0)], [662])) (c' := (41, [some (.ref v0), some (.int (v1))], [.int (((gx_pl_told σ) (v0 - 20)))], hX σ)) rfl (ox_pget0 c4) ?_
    cases hf
    exact ev_rt 0 rfl
  rw [if_neg c3] at hf
  by_cases c5 : v1 = (2 : Int32)
  · rw [if_pos c5] at hf
    have hs : ev_sw [(0, 32), (1, 37), (2, 42), (3, 47)] v1 52 = 42 := (if_neg c1).trans ((if_neg c3).trans (if_pos c5))
    rw [hs]
    obtain ⟨c6, hf⟩ := ev_hp hf
    refine ev_go (c' := (43, [some (.ref v0), some (.int (v1))], [.ref v0], hX σ)) 0 rfl ?_
    refine ev_st1 (e := (43, .getfield 22, 3, 3, 0, .null, [(0, 0), (1, 0), (2, 0), (6, 0), (9, 0), (10, 0)], [675])) (c' := (46, [some (.ref v0), some (.int (v1))], [.int (((gx_pl_size σ) (v0 - 20)))], hX σ)) rfl (ox_pget3 c6) ?_
    cases hf
    exact ev_rt 0 rfl
  rw [if_neg c5] at hf
  by_cases c7 : v1 = (3 : Int32)
  · rw [if_pos c7] at hf
    have hs : ev_sw [(0, 32), (1, 37), (2, 42), (3, 47)] v1 52 = 47 := (if_neg c1).trans ((if_neg c3).trans ((if_neg c5).trans (if_pos c7)))
    rw [hs]
    obtain ⟨c8, hf⟩ := ev_hp hf
    refine ev_go (c' := (48, [some (.ref v0), some (.int (v1))], [.ref v0], hX σ)) 0 rfl ?_
    refine ev_st1 (e := (48, .getfield 25, 3, 4, 0, .null, [(0, 0), (1, 0), (2, 0), (6, 0), (9, 0), (10, 0)], [678])) (c' := (51, [some (.ref v0), some (.int (v1))], [.int (((gx_pl_cloth σ) (v0 - 20)))], hX σ)) rfl (ox_pget4 c8) ?_
    cases hf
    exact ev_rt 0 rfl
  rw [if_neg c7] at hf
  have hs : ev_sw [(0, 32), (1, 37), (2, 42), (3, 47)] v1 52 = 52 := (if_neg c1).trans ((if_neg c3).trans ((if_neg c5).trans ((if_neg c7).trans (rfl))))
  rw [hs]
  obtain ⟨c9, hf⟩ := ev_hp hf
  refine ev_go (c' := (53, [some (.ref v0), some (.int (v1))], [.ref v0], hX σ)) 0 rfl ?_
  refine ev_st1 (e := (53, .getfield 28, 3, 5, 0, .null, [(0, 0), (1, 0), (2, 0), (6, 0), (9, 0), (10, 0)], [681])) (c' := (56, [some (.ref v0), some (.int (v1))], [.int (((gx_pl_giggle σ) (v0 - 20)))], hX σ)) rfl (ox_pget5 c9) ?_
  cases hf
  exact ev_rt 0 rfl
set_option maxRecDepth 20000 in
set_option maxHeartbeats 4000000 in
theorem tX7_put_b75 (d : Nat) (σ : SX) (q : SX) (hf : fX7_put_b75 σ = some q) : ev_X d none eiX7_put (75, [none, none, none, none], [], hX σ) (none, hX q) := by
  unfold fX7_put_b75 at hf
  cases hf
  exact ev_rt 0 rfl
set_option maxRecDepth 20000 in
set_option maxHeartbeats 4000000 in
theorem tX7_put_b71 (d : Nat) (σ : SX) (w0 : Int32) (w1 : Int32) (q : SX) (hf : fX7_put_b71 σ w0 w1 = some q) : ev_X d none eiX7_put (71, [none, none, none, none], [.int (w0), .int (w1), .ref 3], hX σ) (none, hX q) := by
  unfold fX7_put_b71 at hf
  refine ev_go (c' := (72, [none, none, none, none], [.int ((w1 + w0)), .ref 3], hX σ)) 0 rfl ?_
  refine ev_st1 (e := (72, .putfield 28, 3, 5, 0, .null, [(7, 0)], [125])) (c' := (75, [none, none, none, none], [], hX (sx_rg_free σ (w1 + w0)))) rfl oy_put_x_rg_free ?_
  exact ev_dr (a := [none, none, none, none]) trivial (tX7_put_b75 d (sx_rg_free σ (w1 + w0))  _ hf)
set_option maxRecDepth 20000 in
set_option maxHeartbeats 4000000 in
theorem tX7_put_b66 (d : Nat) (σ : SX) (w0 : Int32) (q : SX) (hf : fX7_put_b66 σ w0 = some q) : ev_X d none eiX7_put (66, [none, none, none, none], [.int (w0), .ref 3], hX σ) (none, hX q) := by
  unfold fX7_put_b66 at hf
  refine ev_go (c' := (71, [none, none, none, none], [.int ((1 : Int32)), .int (w0), .ref 3], hX σ)) 1 rfl ?_
  exact ev_dr (a := [none, none, none, none]) trivial (tX7_put_b71 d σ (1 : Int32) w0 _ hf)
set_option maxRecDepth 20000 in
set_option maxHeartbeats 4000000 in
theorem tX7_put (d : Nat) (σ : SX) (v1 : Int32) (v2 : Int32) (v3 : Int32) (q : SX) (hf : fX7_put σ v1 v2 v3 = some q) : ev_M ev_mt (d + 1) 54 [.ref 3, .int (v1), .int (v2), .int (v3)] (hX σ) (none, hX q) := by
  refine ev_en (rt := none) (I := eiX7_put) rfl (Nat.le_of_ble_eq_true rfl) ?_
  change ev_X d _ _ (0, [some (.ref 3), some (.int (v1)), some (.int (v2)), some (.int (v3))], [], hX σ) _
  unfold fX7_put at hf
  refine ev_br 5 (P := (gx_rg_size σ) < (36 : Int32)) (a := 12) (b := 75) (ls := [some (.ref 3), some (.int (v1)), some (.int (v2)), some (.int (v3))]) (st := []) (h := hX σ) rfl (fun c1 => ?_) (fun c1 => ?_)
  · rw [if_pos c1] at hf
    obtain ⟨c2, hf⟩ := ev_hp hf
    refine ev_go (c' := (21, [some (.ref 3), some (.int (v1)), some (.int (v2)), some (.int (v3))], [.int (v1), .int ((gx_rg_size σ)), .ref 4], hX σ)) 4 rfl ?_
    refine ev_st1 (e := (21, .iastore, 1, 0, 0, .null, [], [])) (c' := (22, [some (.ref 3), some (.int (v1)), some (.int (v2)), some (.int (v3))], [], hX (sx_rg_kinds σ (upd (gx_rg_kinds σ) (gx_rg_size σ).toNatClampNeg v1)))) rfl (oy_ast_x_rg_kinds c2) ?_
    obtain ⟨c3, hf⟩ := ev_hp hf
    refine ev_go (c' := (31, [some (.ref 3), some (.int (v1)), some (.int (v2)), some (.int (v3))], [.int (v2), .int ((gx_rg_size σ)), .ref 5], hX (sx_rg_kinds σ (upd (gx_rg_kinds σ) (gx_rg_size σ).toNatClampNeg v1)))) 4 rfl ?_
    refine ev_st1 (e := (31, .iastore, 1, 0, 0, .null, [], [])) (c' := (32, [some (.ref 3), some (.int (v1)), some (.int (v2)), some (.int (v3))], [], hX (sx_rg_rows (sx_rg_kinds σ (upd (gx_rg_kinds σ) (gx_rg_size σ).toNatClampNeg v1)) (upd (gx_rg_rows σ) (gx_rg_size σ).toNatClampNeg v2)))) rfl (oy_ast_x_rg_rows c3) ?_
    obtain ⟨c4, hf⟩ := ev_hp hf
    refine ev_go (c' := (41, [some (.ref 3), some (.int (v1)), some (.int (v2)), some (.int (v3))], [.int (v3), .int ((gx_rg_size σ)), .ref 6], hX (sx_rg_rows (sx_rg_kinds σ (upd (gx_rg_kinds σ) (gx_rg_size σ).toNatClampNeg v1)) (upd (gx_rg_rows σ) (gx_rg_size σ).toNatClampNeg v2)))) 4 rfl ?_
    refine ev_st1 (e := (41, .iastore, 1, 0, 0, .null, [], [])) (c' := (42, [some (.ref 3), some (.int (v1)), some (.int (v2)), some (.int (v3))], [], hX (sx_rg_columns (sx_rg_rows (sx_rg_kinds σ (upd (gx_rg_kinds σ) (gx_rg_size σ).toNatClampNeg v1)) (upd (gx_rg_rows σ) (gx_rg_size σ).toNatClampNeg v2)) (upd (gx_rg_columns σ) (gx_rg_size σ).toNatClampNeg v3)))) rfl (oy_ast_x_rg_columns c4) ?_
    refine ev_go (c' := (49, [some (.ref 3), some (.int (v1)), some (.int (v2)), some (.int (v3))], [.int (((gx_rg_size σ) + (1 : Int32))), .ref 3], hX (sx_rg_columns (sx_rg_rows (sx_rg_kinds σ (upd (gx_rg_kinds σ) (gx_rg_size σ).toNatClampNeg v1)) (upd (gx_rg_rows σ) (gx_rg_size σ).toNatClampNeg v2)) (upd (gx_rg_columns σ) (gx_rg_size σ).toNatClampNeg v3)))) 4 rfl ?_
    refine ev_st1 (e := (49, .putfield 24, 3, 4, 0, .null, [(7, 0)], [121])) (c' := (52, [some (.ref 3), some (.int (v1)), some (.int (v2)), some (.int (v3))], [], hX (sx_rg_size (sx_rg_columns (sx_rg_rows (sx_rg_kinds σ (upd (gx_rg_kinds σ) (gx_rg_size σ).toNatClampNeg v1)) (upd (gx_rg_rows σ) (gx_rg_size σ).toNatClampNeg v2)) (upd (gx_rg_columns σ) (gx_rg_size σ).toNatClampNeg v3)) ((gx_rg_size σ) + (1 : Int32))))) rfl oy_put_x_rg_size ?_
    refine ev_br 4 (P := v1 = 0) (a := 66) (b := 61) (ls := [some (.ref 3), some (.int (v1)), some (.int (v2)), some (.int (v3))]) (st := [.int ((gx_rg_free σ)), .ref 3]) (h := hX (sx_rg_size (sx_rg_columns (sx_rg_rows (sx_rg_kinds σ (upd (gx_rg_kinds σ) (gx_rg_size σ).toNatClampNeg v1)) (upd (gx_rg_rows σ) (gx_rg_size σ).toNatClampNeg v2)) (upd (gx_rg_columns σ) (gx_rg_size σ).toNatClampNeg v3)) ((gx_rg_size σ) + (1 : Int32)))) rfl (fun c5 => ?_) (fun c5 => ?_)
    · rw [if_pos c5] at hf
      exact ev_dr (a := [none, none, none, none]) trivial (tX7_put_b66 d (sx_rg_size (sx_rg_columns (sx_rg_rows (sx_rg_kinds σ (upd (gx_rg_kinds σ) (gx_rg_size σ).toNatClampNeg v1)) (upd (gx_rg_rows σ) (gx_rg_size σ).toNatClampNeg v2)) (upd (gx_rg_columns σ) (gx_rg_size σ).toNatClampNeg v3)) ((gx_rg_size σ) + (1 : Int32))) (gx_rg_free σ) _ hf)
    · rw [if_neg c5] at hf
      refine ev_br 2 (P := v1 = (1 : Int32)) (a := 66) (b := 70) (ls := [some (.ref 3), some (.int (v1)), some (.int (v2)), some (.int (v3))]) (st := [.int ((gx_rg_free σ)), .ref 3]) (h := hX (sx_rg_size (sx_rg_columns (sx_rg_rows (sx_rg_kinds σ (upd (gx_rg_kinds σ) (gx_rg_size σ).toNatClampNeg v1)) (upd (gx_rg_rows σ) (gx_rg_size σ).toNatClampNeg v2)) (upd (gx_rg_columns σ) (gx_rg_size σ).toNatClampNeg v3)) ((gx_rg_size σ) + (1 : Int32)))) rfl (fun c6 => ?_) (fun c6 => ?_)
      · rw [if_pos c6] at hf
        exact ev_dr (a := [none, none, none, none]) trivial (tX7_put_b66 d (sx_rg_size (sx_rg_columns (sx_rg_rows (sx_rg_kinds σ (upd (gx_rg_kinds σ) (gx_rg_size σ).toNatClampNeg v1)) (upd (gx_rg_rows σ) (gx_rg_size σ).toNatClampNeg v2)) (upd (gx_rg_columns σ) (gx_rg_size σ).toNatClampNeg v3)) ((gx_rg_size σ) + (1 : Int32))) (gx_rg_free σ) _ hf)
      · rw [if_neg c6] at hf
        refine ev_go (c' := (71, [some (.ref 3), some (.int (v1)), some (.int (v2)), some (.int (v3))], [.int ((0 : Int32)), .int ((gx_rg_free σ)), .ref 3], hX (sx_rg_size (sx_rg_columns (sx_rg_rows (sx_rg_kinds σ (upd (gx_rg_kinds σ) (gx_rg_size σ).toNatClampNeg v1)) (upd (gx_rg_rows σ) (gx_rg_size σ).toNatClampNeg v2)) (upd (gx_rg_columns σ) (gx_rg_size σ).toNatClampNeg v3)) ((gx_rg_size σ) + (1 : Int32))))) 0 rfl ?_
        exact ev_dr (a := [none, none, none, none]) trivial (tX7_put_b71 d (sx_rg_size (sx_rg_columns (sx_rg_rows (sx_rg_kinds σ (upd (gx_rg_kinds σ) (gx_rg_size σ).toNatClampNeg v1)) (upd (gx_rg_rows σ) (gx_rg_size σ).toNatClampNeg v2)) (upd (gx_rg_columns σ) (gx_rg_size σ).toNatClampNeg v3)) ((gx_rg_size σ) + (1 : Int32))) (0 : Int32) (gx_rg_free σ) _ hf)
  · rw [if_neg c1] at hf
    exact ev_dr (a := [none, none, none, none]) trivial (tX7_put_b75 d σ  _ hf)
set_option maxRecDepth 20000 in
set_option maxHeartbeats 4000000 in
theorem tX7_has_b17 (d : Nat) (σ : SX) (w0 : Int32) (q : Int32) (hf : fX7_has_b17 σ w0 = some q) : ev_X d (some .boolean) eiX7_has (17, [none, none], [.int (w0)], hX σ) (some (.int q), hX σ) := by
  unfold fX7_has_b17 at hf
  obtain ⟨c1, hf⟩ := ev_hp hf
  cases hf
  exact ev_rk 0 rfl c1
set_option maxRecDepth 20000 in
set_option maxHeartbeats 4000000 in
theorem tX7_has_b16 (d : Nat) (σ : SX) (q : Int32) (hf : fX7_has_b16 σ = some q) : ev_X d (some .boolean) eiX7_has (16, [none, none], [], hX σ) (some (.int q), hX σ) := by
  unfold fX7_has_b16 at hf
  refine ev_go (c' := (17, [none, none], [.int ((0 : Int32))], hX σ)) 0 rfl ?_
  exact ev_dr (a := [none, none]) trivial (tX7_has_b17 d σ (0 : Int32) _ hf)
set_option maxRecDepth 20000 in
set_option maxHeartbeats 4000000 in
theorem tX7_has (d : Nat) (σ : SX) (v1 : Int32) (q : Int32) (hf : fX7_has σ v1 = some q) : ev_M ev_mt (d + 1) 57 [.ref 3, .int (v1)] (hX σ) (some (.int q), hX σ) := by
  refine ev_en (rt := (some .boolean)) (I := eiX7_has) rfl (Nat.le_of_ble_eq_true rfl) ?_
  change ev_X d _ _ (0, [some (.ref 3), some (.int (v1))], [], hX σ) _
  unfold fX7_has at hf
  refine ev_br 1 (P := v1 < 0) (a := 16) (b := 4) (ls := [some (.ref 3), some (.int (v1))]) (st := []) (h := hX σ) rfl (fun c1 => ?_) (fun c1 => ?_)
  · rw [if_pos c1] at hf
    exact ev_dr (a := [none, none]) trivial (tX7_has_b16 d σ  _ hf)
  · rw [if_neg c1] at hf
    refine ev_br 3 (P := v1 < (gx_rg_size σ)) (a := 12) (b := 16) (ls := [some (.ref 3), some (.int (v1))]) (st := []) (h := hX σ) rfl (fun c2 => ?_) (fun c2 => ?_)
    · rw [if_pos c2] at hf
      refine ev_go (c' := (17, [some (.ref 3), some (.int (v1))], [.int ((1 : Int32))], hX σ)) 1 rfl ?_
      exact ev_dr (a := [none, none]) trivial (tX7_has_b17 d σ (1 : Int32) _ hf)
    · rw [if_neg c2] at hf
      exact ev_dr (a := [none, none]) trivial (tX7_has_b16 d σ  _ hf)
set_option maxRecDepth 20000 in
set_option maxHeartbeats 4000000 in
theorem tX11_isWithin_b14 (d : Nat) (h : ev_H) (w0 : Int32) (q : Int32) (hf : fX11_isWithin_b14 w0 = some q) : ev_X d (some .boolean) eiX11_isWithin (14, [none, none], [.int (w0)], h) (some (.int q), h) := by
  unfold fX11_isWithin_b14 at hf
  obtain ⟨c1, hf⟩ := ev_hp hf
  cases hf
  exact ev_rk 0 rfl c1
set_option maxRecDepth 20000 in
set_option maxHeartbeats 4000000 in
theorem tX11_isWithin_b13 (d : Nat) (h : ev_H) (q : Int32) (hf : fX11_isWithin_b13 = some q) : ev_X d (some .boolean) eiX11_isWithin (13, [none, none], [], h) (some (.int q), h) := by
  unfold fX11_isWithin_b13 at hf
  refine ev_go (c' := (14, [none, none], [.int ((0 : Int32))], h)) 0 rfl ?_
  exact ev_dr (a := [none, none]) trivial (tX11_isWithin_b14 d h (0 : Int32) _ hf)
set_option maxRecDepth 20000 in
set_option maxHeartbeats 4000000 in
theorem tX11_isWithin (d : Nat) (h : ev_H) (v0 : Int32) (v1 : Int32) (q : Int32) (hf : fX11_isWithin v0 v1 = some q) : ev_M ev_mt (d + 1) 113 [.int (v0), .int (v1)] (h) (some (.int q), h) := by
  refine ev_en (rt := (some .boolean)) (I := eiX11_isWithin) rfl (Nat.le_of_ble_eq_true rfl) ?_
  change ev_X d _ _ (0, [some (.int (v0)), some (.int (v1))], [], h) _
  unfold fX11_isWithin at hf
  refine ev_br 1 (P := v0 < 0) (a := 13) (b := 4) (ls := [some (.int (v0)), some (.int (v1))]) (st := []) (h := h) rfl (fun c1 => ?_) (fun c1 => ?_)
  · rw [if_pos c1] at hf
    exact ev_dr (a := [none, none]) trivial (tX11_isWithin_b13 d h  _ hf)
  · rw [if_neg c1] at hf
    refine ev_br 2 (P := v1 < v0) (a := 13) (b := 9) (ls := [some (.int (v0)), some (.int (v1))]) (st := []) (h := h) rfl (fun c2 => ?_) (fun c2 => ?_)
    · rw [if_pos c2] at hf
      exact ev_dr (a := [none, none]) trivial (tX11_isWithin_b13 d h  _ hf)
    · rw [if_neg c2] at hf
      refine ev_go (c' := (14, [some (.int (v0)), some (.int (v1))], [.int ((1 : Int32))], h)) 1 rfl ?_
      exact ev_dr (a := [none, none]) trivial (tX11_isWithin_b14 d h (1 : Int32) _ hf)
set_option maxRecDepth 20000 in
set_option maxHeartbeats 4000000 in
theorem tX7_findBeside_b107 (d : Nat) (k2 : SX → Int32 → Int32 → Int32 → Option (SX)) (hk2 : ∀ (σ : SX) (v1 : Int32) (v2 : Int32) (v3 : Int32) (q : SX), k2 σ v1 v2 v3 = some q → ev_X (d + 1) none eiX7_findBeside (2, [some (.ref 3), some (.int (v1)), some (.int (v2)), some (.int (v3)), none, none, none, none], [], hX σ) (none, hX q)) (σ : SX) (v1 : Int32) (v2 : Int32) (v3 : Int32) (w0 : Int32) (w1 : Int32) (q : SX) (hf : fX7_findBeside_b107 k2 σ v1 v2 v3 w0 w1 = some q) : ev_X (d + 1) none eiX7_findBeside (107, [some (.ref 3), some (.int (v1)), some (.int (v2)), some (.int (v3)), none, none, none, none], [.int (w0), .int (w1), .ref 7], hX σ) (none, hX q) := by
  unfold fX7_findBeside_b107 at hf
  obtain ⟨c1, hf⟩ := ev_hp hf
  refine ev_st1 (e := (107, .iastore, 1, 0, 0, .null, [], [])) (c' := (108, [some (.ref 3), some (.int (v1)), some (.int (v2)), some (.int (v3)), none, none, none, none], [], hX (sx_rg_beside σ (upd (gx_rg_beside σ) w1.toNatClampNeg w0)))) rfl (oy_ast_x_rg_beside c1) ?_
  refine ev_go (c' := (2, [some (.ref 3), some (.int (v1)), some (.int (v2)), some (.int ((v3 + (1 : Int32)))), none, none, none, none], [], hX (sx_rg_beside σ (upd (gx_rg_beside σ) w1.toNatClampNeg w0)))) 1 rfl ?_
  exact ev_dr (a := [some (.ref 3), some (.int (v1)), some (.int (v2)), some (.int ((v3 + (1 : Int32)))), none, none, none, none]) ⟨rfl, ⟨rfl, ⟨rfl, ⟨rfl, trivial⟩⟩⟩⟩ (hk2 (sx_rg_beside σ (upd (gx_rg_beside σ) w1.toNatClampNeg w0)) v1 v2 (v3 + (1 : Int32)) _ hf)
set_option maxRecDepth 20000 in
set_option maxHeartbeats 4000000 in
theorem tX7_findBeside_b84 (d : Nat) (k2 : SX → Int32 → Int32 → Int32 → Option (SX)) (hk2 : ∀ (σ : SX) (v1 : Int32) (v2 : Int32) (v3 : Int32) (q : SX), k2 σ v1 v2 v3 = some q → ev_X (d + 1) none eiX7_findBeside (2, [some (.ref 3), some (.int (v1)), some (.int (v2)), some (.int (v3)), none, none, none, none], [], hX σ) (none, hX q)) (σ : SX) (v1 : Int32) (v2 : Int32) (v3 : Int32) (v5 : Int32) (v6 : Int32) (w0 : Int32) (q : SX) (hf : fX7_findBeside_b84 k2 σ v1 v2 v3 v5 v6 w0 = some q) : ev_X (d + 1) none eiX7_findBeside (84, [some (.ref 3), some (.int (v1)), some (.int (v2)), some (.int (v3)), none, some (.int (v5)), some (.int (v6)), none], [.int (w0)], hX σ) (none, hX q) := by
  unfold fX7_findBeside_b84 at hf
  refine ev_br 5 (P := w0 = 0) (a := 106) (b := 96) (ls := [some (.ref 3), some (.int (v1)), some (.int (v2)), some (.int (v3)), none, some (.int (v5)), some (.int (v6)), some (.int (w0))]) (st := [.int (v3), .ref 7]) (h := hX σ) rfl (fun c1 => ?_) (fun c1 => ?_)
  · rw [if_pos c1] at hf
    refine ev_go (c' := (107, [some (.ref 3), some (.int (v1)), some (.int (v2)), some (.int (v3)), none, some (.int (v5)), some (.int (v6)), some (.int (w0))], [.int ((-1 : Int32)), .int (v3), .ref 7], hX σ)) 0 rfl ?_
    exact ev_dr (a := [some (.ref 3), some (.int (v1)), some (.int (v2)), some (.int (v3)), none, none, none, none]) ⟨rfl, ⟨rfl, ⟨rfl, ⟨rfl, trivial⟩⟩⟩⟩ (tX7_findBeside_b107 d k2 hk2 σ v1 v2 v3 (-1 : Int32) v3 _ hf)
  · rw [if_neg c1] at hf
    refine ev_go (c' := (107, [some (.ref 3), some (.int (v1)), some (.int (v2)), some (.int (v3)), none, some (.int (v5)), some (.int (v6)), some (.int (w0))], [.int (((v5 * v2) + v6)), .int (v3), .ref 7], hX σ)) 5 rfl ?_
    exact ev_dr (a := [some (.ref 3), some (.int (v1)), some (.int (v2)), some (.int (v3)), none, none, none, none]) ⟨rfl, ⟨rfl, ⟨rfl, ⟨rfl, trivial⟩⟩⟩⟩ (tX7_findBeside_b107 d k2 hk2 σ v1 v2 v3 ((v5 * v2) + v6) v3 _ hf)
set_option maxRecDepth 20000 in
set_option maxHeartbeats 4000000 in
theorem tX7_findBeside_b83 (d : Nat) (k2 : SX → Int32 → Int32 → Int32 → Option (SX)) (hk2 : ∀ (σ : SX) (v1 : Int32) (v2 : Int32) (v3 : Int32) (q : SX), k2 σ v1 v2 v3 = some q → ev_X (d + 1) none eiX7_findBeside (2, [some (.ref 3), some (.int (v1)), some (.int (v2)), some (.int (v3)), none, none, none, none], [], hX σ) (none, hX q)) (σ : SX) (v1 : Int32) (v2 : Int32) (v3 : Int32) (v5 : Int32) (v6 : Int32) (q : SX) (hf : fX7_findBeside_b83 k2 σ v1 v2 v3 v5 v6 = some q) : ev_X (d + 1) none eiX7_findBeside (83, [some (.ref 3), some (.int (v1)), some (.int (v2)), some (.int (v3)), none, some (.int (v5)), some (.int (v6)), none], [], hX σ) (none, hX q) := by
  unfold fX7_findBeside_b83 at hf
  refine ev_go (c' := (84, [some (.ref 3), some (.int (v1)), some (.int (v2)), some (.int (v3)), none, some (.int (v5)), some (.int (v6)), none], [.int ((0 : Int32))], hX σ)) 0 rfl ?_
  exact ev_dr (a := [some (.ref 3), some (.int (v1)), some (.int (v2)), some (.int (v3)), none, some (.int (v5)), some (.int (v6)), none]) ⟨rfl, ⟨rfl, ⟨rfl, ⟨rfl, ⟨rfl, ⟨rfl, trivial⟩⟩⟩⟩⟩⟩ (tX7_findBeside_b84 d k2 hk2 σ v1 v2 v3 v5 v6 (0 : Int32) _ hf)
set_option maxRecDepth 20000 in
set_option maxHeartbeats 4000000 in
theorem tX7_findBeside_b2 (d : Nat) (k2 : SX → Int32 → Int32 → Int32 → Option (SX)) (hk2 : ∀ (σ : SX) (v1 : Int32) (v2 : Int32) (v3 : Int32) (q : SX), k2 σ v1 v2 v3 = some q → ev_X (d + 1) none eiX7_findBeside (2, [some (.ref 3), some (.int (v1)), some (.int (v2)), some (.int (v3)), none, none, none, none], [], hX σ) (none, hX q)) (σ : SX) (v1 : Int32) (v2 : Int32) (v3 : Int32) (q : SX) (hf : fX7_findBeside_b2 k2 σ v1 v2 v3 = some q) : ev_X (d + 1) none eiX7_findBeside (2, [some (.ref 3), some (.int (v1)), some (.int (v2)), some (.int (v3)), none, none, none, none], [], hX σ) (none, hX q) := by
  unfold fX7_findBeside_b2 at hf
  refine ev_br 4 (P := v3 < (144 : Int32)) (a := 11) (b := 114) (ls := [some (.ref 3), some (.int (v1)), some (.int (v2)), some (.int (v3)), none, none, none, none]) (st := []) (h := hX σ) rfl (fun c1 => ?_) (fun c1 => ?_)
  · rw [if_pos c1] at hf
    obtain ⟨r1, hr1, hf⟩ := Option.bind_eq_some_iff.mp hf
    refine ev_cli 6 (kk := 62) (as := [.ref 3, .int ((v3 / (4 : Int32)))]) (rest := []) (pc := 19) (ls := [some (.ref 3), some (.int (v1)), some (.int (v2)), some (.int (v3)), some (.int ((v3 / (4 : Int32)))), none, none, none]) (st := [.int ((v3 / (4 : Int32))), .ref 3]) (h := hX σ) rfl (tX7_rowOf d σ (v3 / (4 : Int32)) r1 hr1) ?_
    obtain ⟨c2, hf⟩ := ev_hp hf
    refine ev_ck 4 (P := ¬ ((v3 &&& (3 : Int32)) < 0 ∨ 4 ≤ (v3 &&& (3 : Int32)).toNatClampNeg)) (c' := (29, [some (.ref 3), some (.int (v1)), some (.int (v2)), some (.int (v3)), some (.int ((v3 / (4 : Int32)))), none, none, none], [.int ((ev_sf 1001 (v3 &&& (3 : Int32)).toNatClampNeg)), .int (r1)], hX σ)) rfl c2 ?_
    obtain ⟨r2, hr2, hf⟩ := Option.bind_eq_some_iff.mp hf
    refine ev_cli 4 (kk := 63) (as := [.ref 3, .int ((v3 / (4 : Int32)))]) (rest := []) (pc := 35) (ls := [some (.ref 3), some (.int (v1)), some (.int (v2)), some (.int (v3)), some (.int ((v3 / (4 : Int32)))), some (.int ((r1 + (ev_sf 1001 (v3 &&& (3 : Int32)).toNatClampNeg)))), none, none]) (st := [.int ((v3 / (4 : Int32))), .ref 3]) (h := hX σ) rfl (tX7_columnOf d σ (v3 / (4 : Int32)) r2 hr2) ?_
    obtain ⟨c3, hf⟩ := ev_hp hf
    refine ev_ck 4 (P := ¬ ((v3 &&& (3 : Int32)) < 0 ∨ 4 ≤ (v3 &&& (3 : Int32)).toNatClampNeg)) (c' := (45, [some (.ref 3), some (.int (v1)), some (.int (v2)), some (.int (v3)), some (.int ((v3 / (4 : Int32)))), some (.int ((r1 + (ev_sf 1001 (v3 &&& (3 : Int32)).toNatClampNeg)))), none, none], [.int ((ev_sf 1002 (v3 &&& (3 : Int32)).toNatClampNeg)), .int (r2)], hX σ)) rfl c3 ?_
    obtain ⟨r3, hr3, hf⟩ := Option.bind_eq_some_iff.mp hf
    refine ev_cli 4 (kk := 57) (as := [.ref 3, .int ((v3 / (4 : Int32)))]) (rest := []) (pc := 51) (ls := [some (.ref 3), some (.int (v1)), some (.int (v2)), some (.int (v3)), some (.int ((v3 / (4 : Int32)))), some (.int ((r1 + (ev_sf 1001 (v3 &&& (3 : Int32)).toNatClampNeg)))), some (.int ((r2 + (ev_sf 1002 (v3 &&& (3 : Int32)).toNatClampNeg)))), none]) (st := [.int ((v3 / (4 : Int32))), .ref 3]) (h := hX σ) rfl (tX7_has d σ (v3 / (4 : Int32)) r3 hr3) ?_
    refine ev_br 0 (P := r3 = 0) (a := 83) (b := 57) (ls := [some (.ref 3), some (.int (v1)), some (.int (v2)), some (.int (v3)), some (.int ((v3 / (4 : Int32)))), some (.int ((r1 + (ev_sf 1001 (v3 &&& (3 : Int32)).toNatClampNeg)))), some (.int ((r2 + (ev_sf 1002 (v3 &&& (3 : Int32)).toNatClampNeg)))), none]) (st := []) (h := hX σ) rfl (fun c4 => ?_) (fun c4 => ?_)
    · rw [if_pos c4] at hf
      exact ev_dr (a := [some (.ref 3), some (.int (v1)), some (.int (v2)), some (.int (v3)), none, some (.int ((r1 + (ev_sf 1001 (v3 &&& (3 : Int32)).toNatClampNeg)))), some (.int ((r2 + (ev_sf 1002 (v3 &&& (3 : Int32)).toNatClampNeg)))), none]) ⟨rfl, ⟨rfl, ⟨rfl, ⟨rfl, ⟨rfl, ⟨rfl, trivial⟩⟩⟩⟩⟩⟩ (tX7_findBeside_b83 d k2 hk2 σ v1 v2 v3 (r1 + (ev_sf 1001 (v3 &&& (3 : Int32)).toNatClampNeg)) (r2 + (ev_sf 1002 (v3 &&& (3 : Int32)).toNatClampNeg)) _ hf)
    · rw [if_neg c4] at hf
      obtain ⟨r4, hr4, hf⟩ := Option.bind_eq_some_iff.mp hf
      refine ev_cli 4 (kk := 113) (as := [.int ((r1 + (ev_sf 1001 (v3 &&& (3 : Int32)).toNatClampNeg))), .int ((v1 - (1 : Int32)))]) (rest := []) (pc := 62) (ls := [some (.ref 3), some (.int (v1)), some (.int (v2)), some (.int (v3)), some (.int ((v3 / (4 : Int32)))), some (.int ((r1 + (ev_sf 1001 (v3 &&& (3 : Int32)).toNatClampNeg)))), some (.int ((r2 + (ev_sf 1002 (v3 &&& (3 : Int32)).toNatClampNeg)))), none]) (st := [.int ((v1 - (1 : Int32))), .int ((r1 + (ev_sf 1001 (v3 &&& (3 : Int32)).toNatClampNeg)))]) (h := hX σ) rfl (tX11_isWithin d (hX σ) (r1 + (ev_sf 1001 (v3 &&& (3 : Int32)).toNatClampNeg)) (v1 - (1 : Int32)) r4 hr4) ?_
      refine ev_br 0 (P := r4 = 0) (a := 83) (b := 68) (ls := [some (.ref 3), some (.int (v1)), some (.int (v2)), some (.int (v3)), some (.int ((v3 / (4 : Int32)))), some (.int ((r1 + (ev_sf 1001 (v3 &&& (3 : Int32)).toNatClampNeg)))), some (.int ((r2 + (ev_sf 1002 (v3 &&& (3 : Int32)).toNatClampNeg)))), none]) (st := []) (h := hX σ) rfl (fun c5 => ?_) (fun c5 => ?_)
      · rw [if_pos c5] at hf
        exact ev_dr (a := [some (.ref 3), some (.int (v1)), some (.int (v2)), some (.int (v3)), none, some (.int ((r1 + (ev_sf 1001 (v3 &&& (3 : Int32)).toNatClampNeg)))), some (.int ((r2 + (ev_sf 1002 (v3 &&& (3 : Int32)).toNatClampNeg)))), none]) ⟨rfl, ⟨rfl, ⟨rfl, ⟨rfl, ⟨rfl, ⟨rfl, trivial⟩⟩⟩⟩⟩⟩ (tX7_findBeside_b83 d k2 hk2 σ v1 v2 v3 (r1 + (ev_sf 1001 (v3 &&& (3 : Int32)).toNatClampNeg)) (r2 + (ev_sf 1002 (v3 &&& (3 : Int32)).toNatClampNeg)) _ hf)
      · rw [if_neg c5] at hf
        obtain ⟨r5, hr5, hf⟩ := Option.bind_eq_some_iff.mp hf
        refine ev_cli 4 (kk := 113) (as := [.int ((r2 + (ev_sf 1002 (v3 &&& (3 : Int32)).toNatClampNeg))), .int ((v2 - (1 : Int32)))]) (rest := []) (pc := 73) (ls := [some (.ref 3), some (.int (v1)), some (.int (v2)), some (.int (v3)), some (.int ((v3 / (4 : Int32)))), some (.int ((r1 + (ev_sf 1001 (v3 &&& (3 : Int32)).toNatClampNeg)))), some (.int ((r2 + (ev_sf 1002 (v3 &&& (3 : Int32)).toNatClampNeg)))), none]) (st := [.int ((v2 - (1 : Int32))), .int ((r2 + (ev_sf 1002 (v3 &&& (3 : Int32)).toNatClampNeg)))]) (h := hX σ) rfl (tX11_isWithin d (hX σ) (r2 + (ev_sf 1002 (v3 &&& (3 : Int32)).toNatClampNeg)) (v2 - (1 : Int32)) r5 hr5) ?_
        refine ev_br 0 (P := r5 = 0) (a := 83) (b := 79) (ls := [some (.ref 3), some (.int (v1)), some (.int (v2)), some (.int (v3)), some (.int ((v3 / (4 : Int32)))), some (.int ((r1 + (ev_sf 1001 (v3 &&& (3 : Int32)).toNatClampNeg)))), some (.int ((r2 + (ev_sf 1002 (v3 &&& (3 : Int32)).toNatClampNeg)))), none]) (st := []) (h := hX σ) rfl (fun c6 => ?_) (fun c6 => ?_)
        · rw [if_pos c6] at hf
          exact ev_dr (a := [some (.ref 3), some (.int (v1)), some (.int (v2)), some (.int (v3)), none, some (.int ((r1 + (ev_sf 1001 (v3 &&& (3 : Int32)).toNatClampNeg)))), some (.int ((r2 + (ev_sf 1002 (v3 &&& (3 : Int32)).toNatClampNeg)))), none]) ⟨rfl, ⟨rfl, ⟨rfl, ⟨rfl, ⟨rfl, ⟨rfl, trivial⟩⟩⟩⟩⟩⟩ (tX7_findBeside_b83 d k2 hk2 σ v1 v2 v3 (r1 + (ev_sf 1001 (v3 &&& (3 : Int32)).toNatClampNeg)) (r2 + (ev_sf 1002 (v3 &&& (3 : Int32)).toNatClampNeg)) _ hf)
        · rw [if_neg c6] at hf
          refine ev_go (c' := (84, [some (.ref 3), some (.int (v1)), some (.int (v2)), some (.int (v3)), some (.int ((v3 / (4 : Int32)))), some (.int ((r1 + (ev_sf 1001 (v3 &&& (3 : Int32)).toNatClampNeg)))), some (.int ((r2 + (ev_sf 1002 (v3 &&& (3 : Int32)).toNatClampNeg)))), none], [.int ((1 : Int32))], hX σ)) 1 rfl ?_
          exact ev_dr (a := [some (.ref 3), some (.int (v1)), some (.int (v2)), some (.int (v3)), none, some (.int ((r1 + (ev_sf 1001 (v3 &&& (3 : Int32)).toNatClampNeg)))), some (.int ((r2 + (ev_sf 1002 (v3 &&& (3 : Int32)).toNatClampNeg)))), none]) ⟨rfl, ⟨rfl, ⟨rfl, ⟨rfl, ⟨rfl, ⟨rfl, trivial⟩⟩⟩⟩⟩⟩ (tX7_findBeside_b84 d k2 hk2 σ v1 v2 v3 (r1 + (ev_sf 1001 (v3 &&& (3 : Int32)).toNatClampNeg)) (r2 + (ev_sf 1002 (v3 &&& (3 : Int32)).toNatClampNeg)) (1 : Int32) _ hf)
  · rw [if_neg c1] at hf
    cases hf
    exact ev_rt 0 rfl
theorem tX7_findBeside_l2 (d : Nat) : ∀ (n : Nat) (σ : SX) (v1 : Int32) (v2 : Int32) (v3 : Int32) (q : SX), fX7_findBeside_l2 n σ v1 v2 v3 = some q → ev_X (d + 1) none eiX7_findBeside (2, [some (.ref 3), some (.int (v1)), some (.int (v2)), some (.int (v3)), none, none, none, none], [], hX σ) (none, hX q)
  | 0, _, _, _, _, _, hf => by cases hf
  | n + 1, σ, v1, v2, v3, q, hf => tX7_findBeside_b2 d (fX7_findBeside_l2 n) (fun σ v1 v2 v3 q h9 => tX7_findBeside_l2 d n σ v1 v2 v3 q h9) σ v1 v2 v3 q hf
set_option maxRecDepth 20000 in
set_option maxHeartbeats 4000000 in
theorem tX7_findBeside (d : Nat) (σ : SX) (v1 : Int32) (v2 : Int32) (q : SX) (hf : fX7_findBeside σ v1 v2 = some q) : ev_M ev_mt (d + 2) 55 [.ref 3, .int (v1), .int (v2)] (hX σ) (none, hX q) := by
  refine ev_en (rt := none) (I := eiX7_findBeside) rfl (Nat.le_of_ble_eq_true rfl) ?_
  change ev_X (d + 1) _ _ (0, [some (.ref 3), some (.int (v1)), some (.int (v2)), none, none, none, none, none], [], hX σ) _
  unfold fX7_findBeside at hf
  refine ev_go (c' := (2, [some (.ref 3), some (.int (v1)), some (.int (v2)), some (.int ((0 : Int32))), none, none, none, none], [], hX σ)) 1 rfl ?_
  exact ev_dr (a := [some (.ref 3), some (.int (v1)), some (.int (v2)), some (.int ((0 : Int32))), none, none, none, none]) ⟨rfl, ⟨rfl, ⟨rfl, ⟨rfl, trivial⟩⟩⟩⟩ (tX7_findBeside_l2 d 1000 σ v1 v2 (0 : Int32) _ hf)
set_option maxRecDepth 20000 in
set_option maxHeartbeats 4000000 in
theorem tX7_readFrom_b59 (d : Nat) (k17 : SX → Int32 → Int32 → Int32 → Option (SX)) (hk17 : ∀ (σ : SX) (v2 : Int32) (v3 : Int32) (v4 : Int32) (q : SX), k17 σ v2 v3 v4 = some q → ev_X (d + 5) none eiX7_readFrom (17, [some (.ref 3), some (.ref 1), some (.int (v2)), some (.int (v3)), some (.int (v4)), none], [], hX σ) (none, hX q)) (σ : SX) (v2 : Int32) (v3 : Int32) (v4 : Int32) (q : SX) (hf : fX7_readFrom_b59 k17 σ v2 v3 v4 = some q) : ev_X (d + 5) none eiX7_readFrom (59, [some (.ref 3), some (.ref 1), some (.int (v2)), some (.int (v3)), some (.int (v4)), none], [], hX σ) (none, hX q) := by
  unfold fX7_readFrom_b59 at hf
  refine ev_go (c' := (17, [some (.ref 3), some (.ref 1), some (.int (v2)), some (.int (v3)), some (.int ((v4 + (1 : Int32)))), none], [], hX σ)) 1 rfl ?_
  exact ev_dr (a := [some (.ref 3), some (.ref 1), some (.int (v2)), some (.int (v3)), some (.int ((v4 + (1 : Int32)))), none]) ⟨rfl, ⟨rfl, ⟨rfl, ⟨rfl, ⟨rfl, trivial⟩⟩⟩⟩⟩ (hk17 σ v2 v3 (v4 + (1 : Int32)) _ hf)
set_option maxRecDepth 20000 in
set_option maxHeartbeats 4000000 in
theorem tX7_readFrom_b17 (d : Nat) (k17 : SX → Int32 → Int32 → Int32 → Option (SX)) (hk17 : ∀ (σ : SX) (v2 : Int32) (v3 : Int32) (v4 : Int32) (q : SX), k17 σ v2 v3 v4 = some q → ev_X (d + 5) none eiX7_readFrom (17, [some (.ref 3), some (.ref 1), some (.int (v2)), some (.int (v3)), some (.int (v4)), none], [], hX σ) (none, hX q)) (σ : SX) (v2 : Int32) (v3 : Int32) (v4 : Int32) (q : SX) (hf : fX7_readFrom_b17 k17 σ v2 v3 v4 = some q) : ev_X (d + 5) none eiX7_readFrom (17, [some (.ref 3), some (.ref 1), some (.int (v2)), some (.int (v3)), some (.int (v4)), none], [], hX σ) (none, hX q) := by
  unfold fX7_readFrom_b17 at hf
  refine ev_br 3 (P := v4 < (gx_pg_length σ)) (a := 26) (b := 65) (ls := [some (.ref 3), some (.ref 1), some (.int (v2)), some (.int (v3)), some (.int (v4)), none]) (st := []) (h := hX σ) rfl (fun c1 => ?_) (fun c1 => ?_)
  · rw [if_pos c1] at hf
    obtain ⟨r1, hr1, hf⟩ := Option.bind_eq_some_iff.mp hf
    refine ev_cli 2 (kk := 42) (as := [.ref 1, .int (v4)]) (rest := []) (pc := 29) (ls := [some (.ref 3), some (.ref 1), some (.int (v2)), some (.int (v3)), some (.int (v4)), none]) (st := [.int (v4), .ref 1]) (h := hX σ) rfl (tX5_kindAt d σ v4 r1 hr1) ?_
    refine ev_br 3 (P := r1 = (-1 : Int32)) (a := 40) (b := 48) (ls := [some (.ref 3), some (.ref 1), some (.int (v2)), some (.int (v3)), some (.int (v4)), some (.int (r1))]) (st := []) (h := hX σ) rfl (fun c2 => ?_) (fun c2 => ?_)
    · rw [if_pos c2] at hf
      refine ev_go (c' := (59, [some (.ref 3), some (.ref 1), some (.int ((v2 + (1 : Int32)))), some (.int ((0 : Int32))), some (.int (v4)), some (.int (r1))], [], hX σ)) 3 rfl ?_
      exact ev_dr (a := [some (.ref 3), some (.ref 1), some (.int ((v2 + (1 : Int32)))), some (.int ((0 : Int32))), some (.int (v4)), none]) ⟨rfl, ⟨rfl, ⟨rfl, ⟨rfl, ⟨rfl, trivial⟩⟩⟩⟩⟩ (tX7_readFrom_b59 d k17 hk17 σ (v2 + (1 : Int32)) (0 : Int32) v4 _ hf)
    · rw [if_neg c2] at hf
      obtain ⟨r2, hr2, hf⟩ := Option.bind_eq_some_iff.mp hf
      refine ev_clv 4 (kk := 54) (as := [.ref 3, .int (r1), .int (v2), .int (v3)]) (rest := []) (pc := 53) (ls := [some (.ref 3), some (.ref 1), some (.int (v2)), some (.int (v3)), some (.int (v4)), some (.int (r1))]) (st := [.int (v3), .int (v2), .int (r1), .ref 3]) (h := hX σ) rfl (tX7_put (d + 4) σ r1 v2 v3 r2 hr2) ?_
      refine ev_go (c' := (59, [some (.ref 3), some (.ref 1), some (.int (v2)), some (.int ((v3 + (1 : Int32)))), some (.int (v4)), some (.int (r1))], [], hX r2)) 0 rfl ?_
      exact ev_dr (a := [some (.ref 3), some (.ref 1), some (.int (v2)), some (.int ((v3 + (1 : Int32)))), some (.int (v4)), none]) ⟨rfl, ⟨rfl, ⟨rfl, ⟨rfl, ⟨rfl, trivial⟩⟩⟩⟩⟩ (tX7_readFrom_b59 d k17 hk17 r2 v2 (v3 + (1 : Int32)) v4 _ hf)
  · rw [if_neg c1] at hf
    obtain ⟨r3, hr3, hf⟩ := Option.bind_eq_some_iff.mp hf
    refine ev_clv 5 (kk := 55) (as := [.ref 3, .int ((v2 + (1 : Int32))), .int (v3)]) (rest := []) (pc := 70) (ls := [some (.ref 3), some (.ref 1), some (.int (v2)), some (.int (v3)), some (.int (v4)), none]) (st := [.int (v3), .int ((v2 + (1 : Int32))), .ref 3]) (h := hX σ) rfl (tX7_findBeside (d + 3) σ (v2 + (1 : Int32)) v3 r3 hr3) ?_
    cases hf
    exact ev_rt 0 rfl
theorem tX7_readFrom_l17 (d : Nat) : ∀ (n : Nat) (σ : SX) (v2 : Int32) (v3 : Int32) (v4 : Int32) (q : SX), fX7_readFrom_l17 n σ v2 v3 v4 = some q → ev_X (d + 5) none eiX7_readFrom (17, [some (.ref 3), some (.ref 1), some (.int (v2)), some (.int (v3)), some (.int (v4)), none], [], hX σ) (none, hX q)
  | 0, _, _, _, _, _, hf => by cases hf
  | n + 1, σ, v2, v3, v4, q, hf => tX7_readFrom_b17 d (fX7_readFrom_l17 n) (fun σ v2 v3 v4 q h9 => tX7_readFrom_l17 d n σ v2 v3 v4 q h9) σ v2 v3 v4 q hf
set_option maxRecDepth 20000 in
set_option maxHeartbeats 4000000 in
theorem tX7_readFrom (d : Nat) (σ : SX) (q : SX) (hf : fX7_readFrom σ = some q) : ev_M ev_mt (d + 6) 53 [.ref 3, .ref 1] (hX σ) (none, hX q) := by
  refine ev_en (rt := none) (I := eiX7_readFrom) rfl (Nat.le_of_ble_eq_true rfl) ?_
  change ev_X (d + 5) _ _ (0, [some (.ref 3), some (.ref 1), none, none, none, none], [], hX σ) _
  unfold fX7_readFrom at hf
  refine ev_go (c' := (2, [some (.ref 3), some (.ref 1), none, none, none, none], [.int ((0 : Int32)), .ref 3], hX σ)) 1 rfl ?_
  refine ev_st1 (e := (2, .putfield 24, 3, 4, 0, .null, [(7, 0)], [121])) (c' := (5, [some (.ref 3), some (.ref 1), none, none, none, none], [], hX (sx_rg_size σ (0 : Int32)))) rfl oy_put_x_rg_size ?_
  refine ev_go (c' := (7, [some (.ref 3), some (.ref 1), none, none, none, none], [.int ((0 : Int32)), .ref 3], hX (sx_rg_size σ (0 : Int32)))) 1 rfl ?_
  refine ev_st1 (e := (7, .putfield 28, 3, 5, 0, .null, [(7, 0)], [125])) (c' := (10, [some (.ref 3), some (.ref 1), none, none, none, none], [], hX (sx_rg_free (sx_rg_size σ (0 : Int32)) (0 : Int32)))) rfl oy_put_x_rg_free ?_
  refine ev_go (c' := (17, [some (.ref 3), some (.ref 1), some (.int ((0 : Int32))), some (.int ((0 : Int32))), some (.int ((0 : Int32))), none], [], hX (sx_rg_free (sx_rg_size σ (0 : Int32)) (0 : Int32)))) 5 rfl ?_
  exact ev_dr (a := [some (.ref 3), some (.ref 1), some (.int ((0 : Int32))), some (.int ((0 : Int32))), some (.int ((0 : Int32))), none]) ⟨rfl, ⟨rfl, ⟨rfl, ⟨rfl, ⟨rfl, trivial⟩⟩⟩⟩⟩ (tX7_readFrom_l17 d 1000 (sx_rg_free (sx_rg_size σ (0 : Int32)) (0 : Int32)) (0 : Int32) (0 : Int32) (0 : Int32) _ hf)
