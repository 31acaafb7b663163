/-! X4_ofCell X4_ofWay X4_bestCell J7_fill_o X4_clearOutcomes X4_add X4_foretellTurn X7_kindOf X4_walk X4_foretellStep X7_rowOf X7_columnOf X7_wayTo X4_hearFrom X4_foretellCall X11_commonDivisor X4_narrowTo X4_sumOfCell_o X4_likeliestOfAll -/
set_option maxRecDepth 20000 in
set_option maxHeartbeats 4000000 in
theorem tX4_ofCell (d : Nat) (σ : SX) (v1 : Int32) (q : Int64) (hf : fX4_ofCell σ v1 = some q) : ev_M ev_mt (d + 2) 25 [.ref 8, .int (v1)] (hX σ) (some (.long q), hX σ) := by
  refine ev_en (rt := (some .long)) (I := eiX4_ofCell) rfl (Nat.le_of_ble_eq_true rfl) ?_
  change ev_X (d + 1) _ _ (0, [some (.ref 8), some (.int (v1))], [], hX σ) _
  unfold fX4_ofCell at hf
  obtain ⟨r1, hr1, hf⟩ := Option.bind_eq_some_iff.mp hf
  refine ev_cll 5 (kk := 26) (as := [.ref 9, .int ((v1 * (4 : Int32)))]) (rest := []) (pc := 7) (ls := [some (.ref 8), some (.int (v1))]) (st := [.int ((v1 * (4 : Int32))), .ref 9]) (h := hX σ) rfl (tX4_sumOfCell_w d σ (v1 * (4 : Int32)) r1 hr1) ?_
  cases hf
  exact ev_rt 0 rfl
set_option maxRecDepth 20000 in
set_option maxHeartbeats 4000000 in
theorem tX4_ofWay_b35 (d : Nat) (σ : SX) (k5 : Int32 → Int64 → Int32 → Option (Int64)) (hk5 : ∀ (v1 : Int32) (v2 : Int64) (v4 : Int32) (q : Int64), k5 v1 v2 v4 = some q → ev_X d (some .long) eiX4_ofWay (5, [some (.ref 8), some (.int (v1)), some (.long (v2)), none, some (.int (v4))], [], hX σ) (some (.long q), hX σ)) (v1 : Int32) (v4 : Int32) (w0 : Int64) (w1 : Int64) (q : Int64) (hf : fX4_ofWay_b35 σ k5 v1 v4 w0 w1 = some q) : ev_X d (some .long) eiX4_ofWay (35, [some (.ref 8), some (.int (v1)), none, none, some (.int (v4))], [.long (w0), .long (w1)], hX σ) (some (.long q), hX σ) := by
  unfold fX4_ofWay_b35 at hf
  refine ev_go (c' := (5, [some (.ref 8), some (.int (v1)), some (.long ((w1 + w0))), none, some (.int ((v4 + (1 : Int32))))], [], hX σ)) 3 rfl ?_
  exact ev_dr (a := [some (.ref 8), some (.int (v1)), some (.long ((w1 + w0))), none, some (.int ((v4 + (1 : Int32))))]) ⟨rfl, ⟨rfl, ⟨rfl, ⟨rfl, trivial⟩⟩⟩⟩ (hk5 v1 (w1 + w0) (v4 + (1 : Int32)) _ hf)
set_option maxRecDepth 20000 in
set_option maxHeartbeats 4000000 in
theorem tX4_ofWay_b5 (d : Nat) (σ : SX) (k5 : Int32 → Int64 → Int32 → Option (Int64)) (hk5 : ∀ (v1 : Int32) (v2 : Int64) (v4 : Int32) (q : Int64), k5 v1 v2 v4 = some q → ev_X d (some .long) eiX4_ofWay (5, [some (.ref 8), some (.int (v1)), some (.long (v2)), none, some (.int (v4))], [], hX σ) (some (.long q), hX σ)) (v1 : Int32) (v2 : Int64) (v4 : Int32) (q : Int64) (hf : fX4_ofWay_b5 σ k5 v1 v2 v4 = some q) : ev_X d (some .long) eiX4_ofWay (5, [some (.ref 8), some (.int (v1)), some (.long (v2)), none, some (.int (v4))], [], hX σ) (some (.long q), hX σ) := by
  unfold fX4_ofWay_b5 at hf
  refine ev_br 4 (P := v4 < (144 : Int32)) (a := 15) (b := 43) (ls := [some (.ref 8), some (.int (v1)), some (.long (v2)), none, some (.int (v4))]) (st := []) (h := hX σ) rfl (fun c1 => ?_) (fun c1 => ?_)
  · rw [if_pos c1] at hf
    refine ev_br 5 (P := (v4 &&& (3 : Int32)) = v1) (a := 24) (b := 34) (ls := [some (.ref 8), some (.int (v1)), some (.long (v2)), none, some (.int (v4))]) (st := [.long (v2)]) (h := hX σ) rfl (fun c2 => ?_) (fun c2 => ?_)
    · rw [if_pos c2] at hf
      obtain ⟨c3, hf⟩ := ev_hp hf
      refine ev_ck 3 (P := ¬ (v4 < 0 ∨ 144 ≤ v4.toNatClampNeg)) (c' := (31, [some (.ref 8), some (.int (v1)), some (.long (v2)), none, some (.int (v4))], [.long (((gx_od_weights σ) v4.toNatClampNeg)), .long (v2)], hX σ)) rfl c3 ?_
      refine ev_go (c' := (35, [some (.ref 8), some (.int (v1)), some (.long (v2)), none, some (.int (v4))], [.long (((gx_od_weights σ) v4.toNatClampNeg)), .long (v2)], hX σ)) 0 rfl ?_
      exact ev_dr (a := [some (.ref 8), some (.int (v1)), none, none, some (.int (v4))]) ⟨rfl, ⟨rfl, ⟨rfl, trivial⟩⟩⟩ (tX4_ofWay_b35 d σ k5 hk5 v1 v4 ((gx_od_weights σ) v4.toNatClampNeg) v2 _ hf)
    · rw [if_neg c2] at hf
      refine ev_go (c' := (35, [some (.ref 8), some (.int (v1)), some (.long (v2)), none, some (.int (v4))], [.long ((0 : Int64)), .long (v2)], hX σ)) 0 rfl ?_
      exact ev_dr (a := [some (.ref 8), some (.int (v1)), none, none, some (.int (v4))]) ⟨rfl, ⟨rfl, ⟨rfl, trivial⟩⟩⟩ (tX4_ofWay_b35 d σ k5 hk5 v1 v4 (0 : Int64) v2 _ hf)
  · rw [if_neg c1] at hf
    cases hf
    exact ev_rt 1 rfl
theorem tX4_ofWay_l5 (d : Nat) (σ : SX) : ∀ (n : Nat) (v1 : Int32) (v2 : Int64) (v4 : Int32) (q : Int64), fX4_ofWay_l5 σ n v1 v2 v4 = some q → ev_X d (some .long) eiX4_ofWay (5, [some (.ref 8), some (.int (v1)), some (.long (v2)), none, some (.int (v4))], [], hX σ) (some (.long q), hX σ)
  | 0, _, _, _, _, hf => by cases hf
  | n + 1, v1, v2, v4, q, hf => tX4_ofWay_b5 d σ (fX4_ofWay_l5 σ n) (fun v1 v2 v4 q h9 => tX4_ofWay_l5 d σ n v1 v2 v4 q h9) v1 v2 v4 q hf
set_option maxRecDepth 20000 in
set_option maxHeartbeats 4000000 in
theorem tX4_ofWay (d : Nat) (σ : SX) (v1 : Int32) (q : Int64) (hf : fX4_ofWay σ v1 = some q) : ev_M ev_mt (d + 1) 27 [.ref 8, .int (v1)] (hX σ) (some (.long q), hX σ) := by
  refine ev_en (rt := (some .long)) (I := eiX4_ofWay) rfl (Nat.le_of_ble_eq_true rfl) ?_
  change ev_X d _ _ (0, [some (.ref 8), some (.int (v1)), none, none, none], [], hX σ) _
  unfold fX4_ofWay at hf
  refine ev_go (c' := (5, [some (.ref 8), some (.int (v1)), some (.long ((0 : Int64))), none, some (.int ((0 : Int32)))], [], hX σ)) 3 rfl ?_
  exact ev_dr (a := [some (.ref 8), some (.int (v1)), some (.long ((0 : Int64))), none, some (.int ((0 : Int32)))]) ⟨rfl, ⟨rfl, ⟨rfl, ⟨rfl, trivial⟩⟩⟩⟩ (tX4_ofWay_l5 d σ 1000 v1 (0 : Int64) (0 : Int32) _ hf)
set_option maxRecDepth 20000 in
set_option maxHeartbeats 4000000 in
theorem tX4_bestCell_b31 (d : Nat) (σ : SX) (k4 : Int32 → Int32 → Option (Int32)) (hk4 : ∀ (v1 : Int32) (v2 : Int32) (q : Int32), k4 v1 v2 = some q → ev_X (d + 2) (some .int) eiX4_bestCell (4, [some (.ref 8), some (.int (v1)), some (.int (v2))], [], hX σ) (some (.int q), hX σ)) (v1 : Int32) (v2 : Int32) (q : Int32) (hf : fX4_bestCell_b31 σ k4 v1 v2 = some q) : ev_X (d + 2) (some .int) eiX4_bestCell (31, [some (.ref 8), some (.int (v1)), some (.int (v2))], [], hX σ) (some (.int q), hX σ) := by
  unfold fX4_bestCell_b31 at hf
  refine ev_go (c' := (4, [some (.ref 8), some (.int (v1)), some (.int ((v2 + (1 : Int32))))], [], hX σ)) 1 rfl ?_
  exact ev_dr (a := [some (.ref 8), some (.int (v1)), some (.int ((v2 + (1 : Int32))))]) ⟨rfl, ⟨rfl, ⟨rfl, trivial⟩⟩⟩ (hk4 v1 (v2 + (1 : Int32)) _ hf)
set_option maxRecDepth 20000 in
set_option maxHeartbeats 4000000 in
theorem tX4_bestCell_b4 (d : Nat) (σ : SX) (k4 : Int32 → Int32 → Option (Int32)) (hk4 : ∀ (v1 : Int32) (v2 : Int32) (q : Int32), k4 v1 v2 = some q → ev_X (d + 2) (some .int) eiX4_bestCell (4, [some (.ref 8), some (.int (v1)), some (.int (v2))], [], hX σ) (some (.int q), hX σ)) (v1 : Int32) (v2 : Int32) (q : Int32) (hf : fX4_bestCell_b4 σ k4 v1 v2 = some q) : ev_X (d + 2) (some .int) eiX4_bestCell (4, [some (.ref 8), some (.int (v1)), some (.int (v2))], [], hX σ) (some (.int q), hX σ) := by
  unfold fX4_bestCell_b4 at hf
  refine ev_br 4 (P := v2 < (gx_rg_size σ)) (a := 15) (b := 37) (ls := [some (.ref 8), some (.int (v1)), some (.int (v2))]) (st := []) (h := hX σ) rfl (fun c1 => ?_) (fun c1 => ?_)
  · rw [if_pos c1] at hf
    obtain ⟨r1, hr1, hf⟩ := Option.bind_eq_some_iff.mp hf
    refine ev_cll 2 (kk := 25) (as := [.ref 8, .int (v2)]) (rest := []) (pc := 17) (ls := [some (.ref 8), some (.int (v1)), some (.int (v2))]) (st := [.int (v2), .ref 8]) (h := hX σ) rfl (tX4_ofCell d σ v2 r1 hr1) ?_
    obtain ⟨r2, hr2, hf⟩ := Option.bind_eq_some_iff.mp hf
    refine ev_cll 2 (kk := 25) (as := [.ref 8, .int (v1)]) (rest := [.long (r1)]) (pc := 22) (ls := [some (.ref 8), some (.int (v1)), some (.int (v2))]) (st := [.int (v1), .ref 8, .long (r1)]) (h := hX σ) rfl (tX4_ofCell d σ v1 r2 hr2) ?_
    refine ev_bi 1 (lg_cmp_gt r1 r2) (a := 29) (b := 31) (ls := [some (.ref 8), some (.int (v1)), some (.int (v2))]) (st := []) (h := hX σ) rfl (fun c2 => ?_) (fun c2 => ?_)
    · rw [if_pos c2] at hf
      refine ev_go (c' := (31, [some (.ref 8), some (.int (v2)), some (.int (v2))], [], hX σ)) 1 rfl ?_
      exact ev_dr (a := [some (.ref 8), some (.int (v2)), some (.int (v2))]) ⟨rfl, ⟨rfl, ⟨rfl, trivial⟩⟩⟩ (tX4_bestCell_b31 d σ k4 hk4 v2 v2 _ hf)
    · rw [if_neg c2] at hf
      exact ev_dr (a := [some (.ref 8), some (.int (v1)), some (.int (v2))]) ⟨rfl, ⟨rfl, ⟨rfl, trivial⟩⟩⟩ (tX4_bestCell_b31 d σ k4 hk4 v1 v2 _ hf)
  · rw [if_neg c1] at hf
    cases hf
    exact ev_rt 1 rfl
theorem tX4_bestCell_l4 (d : Nat) (σ : SX) : ∀ (n : Nat) (v1 : Int32) (v2 : Int32) (q : Int32), fX4_bestCell_l4 σ n v1 v2 = some q → ev_X (d + 2) (some .int) eiX4_bestCell (4, [some (.ref 8), some (.int (v1)), some (.int (v2))], [], hX σ) (some (.int q), hX σ)
  | 0, _, _, _, hf => by cases hf
  | n + 1, v1, v2, q, hf => tX4_bestCell_b4 d σ (fX4_bestCell_l4 σ n) (fun v1 v2 q h9 => tX4_bestCell_l4 d σ n v1 v2 q h9) v1 v2 q hf
set_option maxRecDepth 20000 in
set_option maxHeartbeats 4000000 in
theorem tX4_bestCell (d : Nat) (σ : SX) (q : Int32) (hf : fX4_bestCell σ = some q) : ev_M ev_mt (d + 3) 28 [.ref 8] (hX σ) (some (.int q), hX σ) := by
  refine ev_en (rt := (some .int)) (I := eiX4_bestCell) rfl (Nat.le_of_ble_eq_true rfl) ?_
  change ev_X (d + 2) _ _ (0, [some (.ref 8), none, none], [], hX σ) _
  unfold fX4_bestCell at hf
  refine ev_go (c' := (4, [some (.ref 8), some (.int ((0 : Int32))), some (.int ((1 : Int32)))], [], hX σ)) 3 rfl ?_
  exact ev_dr (a := [some (.ref 8), some (.int ((0 : Int32))), some (.int ((1 : Int32)))]) ⟨rfl, ⟨rfl, ⟨rfl, trivial⟩⟩⟩ (tX4_bestCell_l4 d σ 1000 (0 : Int32) (1 : Int32) _ hf)
set_option maxRecDepth 20000 in
set_option maxHeartbeats 4000000 in
theorem tJ7_fill_o_b6 (d : Nat) (k6 : SX → Nat → Int64 → Int32 → Option (SX)) (hk6 : ∀ (σ : SX) (v0 : Nat) (v1 : Int64) (v3 : Int32) (q : SX), k6 σ v0 v1 v3 = some q → ev_X d none eiJ7_fill_d0a16 (6, [some (.ref (v0 + 12)), some (.long (v1)), none, some (.int (v3)), some (.int ((144 : Int32)))], [], hX σ) (none, hX q)) (σ : SX) (v0 : Nat) (v1 : Int64) (v3 : Int32) (q : SX) (hf : fJ7_fill_o_b6 k6 σ v0 v1 v3 = some q) : ev_X d none eiJ7_fill_d0a16 (6, [some (.ref (v0 + 12)), some (.long (v1)), none, some (.int (v3)), some (.int ((144 : Int32)))], [], hX σ) (none, hX q) := by
  unfold fJ7_fill_o_b6 at hf
  refine ev_br 2 (P := v3 < (144 : Int32)) (a := 12) (b := 22) (ls := [some (.ref (v0 + 12)), some (.long (v1)), none, some (.int (v3)), some (.int ((144 : Int32)))]) (st := []) (h := hX σ) rfl (fun c1 => ?_) (fun c1 => ?_)
  · rw [if_pos c1] at hf
    obtain ⟨c2, hf⟩ := ev_hp hf
    obtain ⟨c3, hf⟩ := ev_hp hf
    refine ev_go (c' := (15, [some (.ref (v0 + 12)), some (.long (v1)), none, some (.int (v3)), some (.int ((144 : Int32)))], [.long (v1), .int (v3), .ref (v0 + 12)], hX σ)) 2 rfl ?_
    refine ev_st1 (e := (15, .lastore, 1, 0, 0, .null, [], [])) (c' := (16, [some (.ref (v0 + 12)), some (.long (v1)), none, some (.int (v3)), some (.int ((144 : Int32)))], [], hX (sx_od_outs σ (ox_up (gx_od_outs σ) v0 v3.toNatClampNeg v1)))) rfl (ox_ost c2 c3) ?_
    refine ev_go (c' := (6, [some (.ref (v0 + 12)), some (.long (v1)), none, some (.int ((v3 + (1 : Int32)))), some (.int ((144 : Int32)))], [], hX (sx_od_outs σ (ox_up (gx_od_outs σ) v0 v3.toNatClampNeg v1)))) 1 rfl ?_
    exact ev_dr (a := [some (.ref (v0 + 12)), some (.long (v1)), none, some (.int ((v3 + (1 : Int32)))), some (.int ((144 : Int32)))]) ⟨rfl, ⟨rfl, ⟨rfl, ⟨rfl, trivial⟩⟩⟩⟩ (hk6 (sx_od_outs σ (ox_up (gx_od_outs σ) v0 v3.toNatClampNeg v1)) v0 v1 (v3 + (1 : Int32)) _ hf)
  · rw [if_neg c1] at hf
    cases hf
    exact ev_rt 0 rfl
theorem tJ7_fill_o_l6 (d : Nat) : ∀ (n : Nat) (σ : SX) (v0 : Nat) (v1 : Int64) (v3 : Int32) (q : SX), fJ7_fill_o_l6 n σ v0 v1 v3 = some q → ev_X d none eiJ7_fill_d0a16 (6, [some (.ref (v0 + 12)), some (.long (v1)), none, some (.int (v3)), some (.int ((144 : Int32)))], [], hX σ) (none, hX q)
  | 0, _, _, _, _, _, hf => by cases hf
  | n + 1, σ, v0, v1, v3, q, hf => tJ7_fill_o_b6 d (fJ7_fill_o_l6 n) (fun σ v0 v1 v3 q h9 => tJ7_fill_o_l6 d n σ v0 v1 v3 q h9) σ v0 v1 v3 q hf
set_option maxRecDepth 20000 in
set_option maxHeartbeats 4000000 in
theorem tJ7_fill_o (d : Nat) (σ : SX) (v0 : Nat) (v1 : Int64) (q : SX) (hf : fJ7_fill_o σ v0 v1 = some q) : ev_M ev_mt (d + 1) 204 [.ref (v0 + 12), .long (v1)] (hX σ) (none, hX q) := by
  refine ev_en (rt := none) (I := eiJ7_fill_d0a16) rfl (Nat.le_of_ble_eq_true rfl) ?_
  change ev_X d _ _ (0, [some (.ref (v0 + 12)), some (.long (v1)), none, none, none], [], hX σ) _
  unfold fJ7_fill_o at hf
  obtain ⟨c1, hf⟩ := ev_hp hf
  refine ev_go (c' := (3, [some (.ref (v0 + 12)), some (.long (v1)), none, some (.int ((0 : Int32))), none], [.ref (v0 + 12)], hX σ)) 2 rfl ?_
  refine ev_st1 (e := (3, .arraylength, 1, 0, 0, .null, [], [])) (c' := (4, [some (.ref (v0 + 12)), some (.long (v1)), none, some (.int ((0 : Int32))), none], [.int ((144 : Int32))], hX σ)) rfl (ox_olen c1) ?_
  refine ev_go (c' := (6, [some (.ref (v0 + 12)), some (.long (v1)), none, some (.int ((0 : Int32))), some (.int ((144 : Int32)))], [], hX σ)) 0 rfl ?_
  exact ev_dr (a := [some (.ref (v0 + 12)), some (.long (v1)), none, some (.int ((0 : Int32))), some (.int ((144 : Int32)))]) ⟨rfl, ⟨rfl, ⟨rfl, ⟨rfl, trivial⟩⟩⟩⟩ (tJ7_fill_o_l6 d 1000 σ v0 v1 (0 : Int32) _ hf)
set_option maxRecDepth 20000 in
set_option maxHeartbeats 4000000 in
theorem tX4_clearOutcomes_b2 (d : Nat) (k2 : SX → Int32 → Option (SX)) (hk2 : ∀ (σ : SX) (v1 : Int32) (q : SX), k2 σ v1 = some q → ev_X (d + 1) none eiX4_clearOutcomes (2, [some (.ref 8), some (.int (v1))], [], hX σ) (none, hX q)) (σ : SX) (v1 : Int32) (q : SX) (hf : fX4_clearOutcomes_b2 k2 σ v1 = some q) : ev_X (d + 1) none eiX4_clearOutcomes (2, [some (.ref 8), some (.int (v1))], [], hX σ) (none, hX q) := by
  unfold fX4_clearOutcomes_b2 at hf
  refine ev_br 2 (P := v1 < (4 : Int32)) (a := 7) (b := 23) (ls := [some (.ref 8), some (.int (v1))]) (st := []) (h := hX σ) rfl (fun c1 => ?_) (fun c1 => ?_)
  · rw [if_pos c1] at hf
    obtain ⟨c2, hf⟩ := ev_hp hf
    refine ev_ck 3 (P := ¬ (v1 < 0 ∨ 4 ≤ v1.toNatClampNeg)) (c' := (13, [some (.ref 8), some (.int (v1))], [.ref (v1.toNatClampNeg + 12)], hX σ)) rfl c2 ?_
    obtain ⟨r1, hr1, hf⟩ := Option.bind_eq_some_iff.mp hf
    refine ev_clv 1 (kk := 204) (as := [.ref (v1.toNatClampNeg + 12), .long ((0 : Int64))]) (rest := []) (pc := 14) (ls := [some (.ref 8), some (.int (v1))]) (st := [.long ((0 : Int64)), .ref (v1.toNatClampNeg + 12)]) (h := hX σ) rfl (tJ7_fill_o d σ v1.toNatClampNeg (0 : Int64) r1 hr1) ?_
    refine ev_go (c' := (2, [some (.ref 8), some (.int ((v1 + (1 : Int32))))], [], hX r1)) 1 rfl ?_
    exact ev_dr (a := [some (.ref 8), some (.int ((v1 + (1 : Int32))))]) ⟨rfl, ⟨rfl, trivial⟩⟩ (hk2 r1 (v1 + (1 : Int32)) _ hf)
  · rw [if_neg c1] at hf
    cases hf
    exact ev_rt 0 rfl
theorem tX4_clearOutcomes_l2 (d : Nat) : ∀ (n : Nat) (σ : SX) (v1 : Int32) (q : SX), fX4_clearOutcomes_l2 n σ v1 = some q → ev_X (d + 1) none eiX4_clearOutcomes (2, [some (.ref 8), some (.int (v1))], [], hX σ) (none, hX q)
  | 0, _, _, _, hf => by cases hf
  | n + 1, σ, v1, q, hf => tX4_clearOutcomes_b2 d (fX4_clearOutcomes_l2 n) (fun σ v1 q h9 => tX4_clearOutcomes_l2 d n σ v1 q h9) σ v1 q hf
set_option maxRecDepth 20000 in
set_option maxHeartbeats 4000000 in
theorem tX4_clearOutcomes (d : Nat) (σ : SX) (q : SX) (hf : fX4_clearOutcomes σ = some q) : ev_M ev_mt (d + 2) 34 [.ref 8] (hX σ) (none, hX q) := by
  refine ev_en (rt := none) (I := eiX4_clearOutcomes) rfl (Nat.le_of_ble_eq_true rfl) ?_
  change ev_X (d + 1) _ _ (0, [some (.ref 8), none], [], hX σ) _
  unfold fX4_clearOutcomes at hf
  refine ev_go (c' := (2, [some (.ref 8), some (.int ((0 : Int32)))], [], hX σ)) 1 rfl ?_
  exact ev_dr (a := [some (.ref 8), some (.int ((0 : Int32)))]) ⟨rfl, ⟨rfl, trivial⟩⟩ (tX4_clearOutcomes_l2 d 1000 σ (0 : Int32) _ hf)
set_option maxRecDepth 20000 in
set_option maxHeartbeats 4000000 in
theorem tX4_add_b38 (d : Nat) (σ : SX) (q : SX) (hf : fX4_add_b38 σ = some q) : ev_X d none eiX4_add (38, [none, none, none, none, none, none, none], [], hX σ) (none, hX q) := by
  unfold fX4_add_b38 at hf
  cases hf
  exact ev_rt 0 rfl
set_option maxRecDepth 20000 in
set_option maxHeartbeats 4000000 in
theorem tX4_add (d : Nat) (σ : SX) (v1 : Int32) (v2 : Int32) (v3 : Int32) (v4 : Int64) (q : SX) (hf : fX4_add σ v1 v2 v3 v4 = some q) : ev_M ev_mt (d + 1) 35 [.ref 8, .int (v1), .int (v2), .int (v3), .long (v4)] (hX σ) (none, hX q) := by
  refine ev_en (rt := none) (I := eiX4_add) rfl (Nat.le_of_ble_eq_true rfl) ?_
  change ev_X d _ _ (0, [some (.ref 8), some (.int (v1)), some (.int (v2)), some (.int (v3)), some (.long (v4)), none, none], [], hX σ) _
  unfold fX4_add at hf
  refine ev_br 9 (P := ((v2 * (4 : Int32)) + (v3 &&& (3 : Int32))) < 0) (a := 38) (b := 14) (ls := [some (.ref 8), some (.int (v1)), some (.int (v2)), some (.int (v3)), some (.long (v4)), none, some (.int (((v2 * (4 : Int32)) + (v3 &&& (3 : Int32)))))]) (st := []) (h := hX σ) rfl (fun c1 => ?_) (fun c1 => ?_)
  · rw [if_pos c1] at hf
    exact ev_dr (a := [none, none, none, none, none, none, none]) trivial (tX4_add_b38 d σ  _ hf)
  · rw [if_neg c1] at hf
    refine ev_br 2 (P := ((v2 * (4 : Int32)) + (v3 &&& (3 : Int32))) < (144 : Int32)) (a := 22) (b := 38) (ls := [some (.ref 8), some (.int (v1)), some (.int (v2)), some (.int (v3)), some (.long (v4)), none, some (.int (((v2 * (4 : Int32)) + (v3 &&& (3 : Int32)))))]) (st := []) (h := hX σ) rfl (fun c2 => ?_) (fun c2 => ?_)
    · rw [if_pos c2] at hf
      obtain ⟨c3, hf⟩ := ev_hp hf
      refine ev_ck 5 (P := ¬ ((v1 &&& (3 : Int32)) < 0 ∨ 4 ≤ (v1 &&& (3 : Int32)).toNatClampNeg)) (c' := (30, [some (.ref 8), some (.int (v1)), some (.int (v2)), some (.int (v3)), some (.long (v4)), none, some (.int (((v2 * (4 : Int32)) + (v3 &&& (3 : Int32)))))], [.ref ((v1 &&& (3 : Int32)).toNatClampNeg + 12)], hX σ)) rfl c3 ?_
      obtain ⟨c4, hf⟩ := ev_hp hf
      obtain ⟨c5, hf⟩ := ev_hp hf
      refine ev_go (c' := (33, [some (.ref 8), some (.int (v1)), some (.int (v2)), some (.int (v3)), some (.long (v4)), none, some (.int (((v2 * (4 : Int32)) + (v3 &&& (3 : Int32)))))], [.int (((v2 * (4 : Int32)) + (v3 &&& (3 : Int32)))), .ref ((v1 &&& (3 : Int32)).toNatClampNeg + 12), .int (((v2 * (4 : Int32)) + (v3 &&& (3 : Int32)))), .ref ((v1 &&& (3 : Int32)).toNatClampNeg + 12)], hX σ)) 1 rfl ?_
      refine ev_st1 (e := (33, .laload, 1, 0, 0, .null, [], [])) (c' := (34, [some (.ref 8), some (.int (v1)), some (.int (v2)), some (.int (v3)), some (.long (v4)), none, some (.int (((v2 * (4 : Int32)) + (v3 &&& (3 : Int32)))))], [.long (((gx_od_outs σ) (v1 &&& (3 : Int32)).toNatClampNeg ((v2 * (4 : Int32)) + (v3 &&& (3 : Int32))).toNatClampNeg)), .int (((v2 * (4 : Int32)) + (v3 &&& (3 : Int32)))), .ref ((v1 &&& (3 : Int32)).toNatClampNeg + 12)], hX σ)) rfl (ox_old c4 c5) ?_
      obtain ⟨c6, hf⟩ := ev_hp hf
      obtain ⟨c7, hf⟩ := ev_hp hf
      refine ev_go (c' := (37, [some (.ref 8), some (.int (v1)), some (.int (v2)), some (.int (v3)), some (.long (v4)), none, some (.int (((v2 * (4 : Int32)) + (v3 &&& (3 : Int32)))))], [.long ((((gx_od_outs σ) (v1 &&& (3 : Int32)).toNatClampNeg ((v2 * (4 : Int32)) + (v3 &&& (3 : Int32))).toNatClampNeg) + v4)), .int (((v2 * (4 : Int32)) + (v3 &&& (3 : Int32)))), .ref ((v1 &&& (3 : Int32)).toNatClampNeg + 12)], hX σ)) 1 rfl ?_
      refine ev_st1 (e := (37, .lastore, 1, 0, 0, .null, [], [])) (c' := (38, [some (.ref 8), some (.int (v1)), some (.int (v2)), some (.int (v3)), some (.long (v4)), none, some (.int (((v2 * (4 : Int32)) + (v3 &&& (3 : Int32)))))], [], hX (sx_od_outs σ (ox_up (gx_od_outs σ) (v1 &&& (3 : Int32)).toNatClampNeg ((v2 * (4 : Int32)) + (v3 &&& (3 : Int32))).toNatClampNeg (((gx_od_outs σ) (v1 &&& (3 : Int32)).toNatClampNeg ((v2 * (4 : Int32)) + (v3 &&& (3 : Int32))).toNatClampNeg) + v4))))) rfl (ox_ost c6 c7) ?_
      exact ev_dr (a := [none, none, none, none, none, none, none]) trivial (tX4_add_b38 d (sx_od_outs σ (ox_up (gx_od_outs σ) (v1 &&& (3 : Int32)).toNatClampNeg ((v2 * (4 : Int32)) + (v3 &&& (3 : Int32))).toNatClampNeg (((gx_od_outs σ) (v1 &&& (3 : Int32)).toNatClampNeg ((v2 * (4 : Int32)) + (v3 &&& (3 : Int32))).toNatClampNeg) + v4)))  _ hf)
    · rw [if_neg c2] at hf
      exact ev_dr (a := [none, none, none, none, none, none, none]) trivial (tX4_add_b38 d σ  _ hf)
set_option maxRecDepth 20000 in
set_option maxHeartbeats 4000000 in
theorem tX4_foretellTurn_b78 (d : Nat) (k6 : SX → Int32 → Int32 → Option (SX)) (hk6 : ∀ (σ : SX) (v1 : Int32) (v2 : Int32) (q : SX), k6 σ v1 v2 = some q → ev_X (d + 2) none eiX4_foretellTurn (6, [some (.ref 8), some (.int (v1)), some (.int (v2)), none, none, none], [], hX σ) (none, hX q)) (σ : SX) (v1 : Int32) (v2 : Int32) (q : SX) (hf : fX4_foretellTurn_b78 k6 σ v1 v2 = some q) : ev_X (d + 2) none eiX4_foretellTurn (78, [some (.ref 8), some (.int (v1)), some (.int (v2)), none, none, none], [], hX σ) (none, hX q) := by
  unfold fX4_foretellTurn_b78 at hf
  refine ev_go (c' := (6, [some (.ref 8), some (.int (v1)), some (.int ((v2 + (1 : Int32)))), none, none, none], [], hX σ)) 1 rfl ?_
  exact ev_dr (a := [some (.ref 8), some (.int (v1)), some (.int ((v2 + (1 : Int32)))), none, none, none]) ⟨rfl, ⟨rfl, ⟨rfl, trivial⟩⟩⟩ (hk6 σ v1 (v2 + (1 : Int32)) _ hf)
set_option maxRecDepth 20000 in
set_option maxHeartbeats 4000000 in
theorem tX4_foretellTurn_b6 (d : Nat) (k6 : SX → Int32 → Int32 → Option (SX)) (hk6 : ∀ (σ : SX) (v1 : Int32) (v2 : Int32) (q : SX), k6 σ v1 v2 = some q → ev_X (d + 2) none eiX4_foretellTurn (6, [some (.ref 8), some (.int (v1)), some (.int (v2)), none, none, none], [], hX σ) (none, hX q)) (σ : SX) (v1 : Int32) (v2 : Int32) (q : SX) (hf : fX4_foretellTurn_b6 k6 σ v1 v2 = some q) : ev_X (d + 2) none eiX4_foretellTurn (6, [some (.ref 8), some (.int (v1)), some (.int (v2)), none, none, none], [], hX σ) (none, hX q) := by
  unfold fX4_foretellTurn_b6 at hf
  refine ev_br 4 (P := v2 < (144 : Int32)) (a := 15) (b := 84) (ls := [some (.ref 8), some (.int (v1)), some (.int (v2)), none, none, none]) (st := []) (h := hX σ) rfl (fun c1 => ?_) (fun c1 => ?_)
  · rw [if_pos c1] at hf
    obtain ⟨c2, hf⟩ := ev_hp hf
    refine ev_ck 3 (P := ¬ (v2 < 0 ∨ 144 ≤ v2.toNatClampNeg)) (c' := (21, [some (.ref 8), some (.int (v1)), some (.int (v2)), none, none, none], [.long (((gx_od_weights σ) v2.toNatClampNeg))], hX σ)) rfl c2 ?_
    refine ev_bi 4 (lg_cmp_gt ((gx_od_weights σ) v2.toNatClampNeg) (0 : Int64)) (a := 28) (b := 78) (ls := [some (.ref 8), some (.int (v1)), some (.int (v2)), some (.long (((gx_od_weights σ) v2.toNatClampNeg))), none, none]) (st := []) (h := hX σ) rfl (fun c3 => ?_) (fun c3 => ?_)
    · rw [if_pos c3] at hf
      obtain ⟨r2, hr2, hf⟩ := Option.bind_eq_some_iff.mp hf
      refine ev_clv 14 (kk := 35) (as := [.ref 8, .int ((0 : Int32)), .int ((v2 / (4 : Int32))), .int ((v2 + (3 : Int32))), .long ((v1.toInt64 * ((gx_od_weights σ) v2.toNatClampNeg)))]) (rest := []) (pc := 44) (ls := [some (.ref 8), some (.int (v1)), some (.int (v2)), some (.long (((gx_od_weights σ) v2.toNatClampNeg))), none, some (.int ((v2 / (4 : Int32))))]) (st := [.long ((v1.toInt64 * ((gx_od_weights σ) v2.toNatClampNeg))), .int ((v2 + (3 : Int32))), .int ((v2 / (4 : Int32))), .int ((0 : Int32)), .ref 8]) (h := hX σ) rfl (tX4_add (d + 1) σ (0 : Int32) (v2 / (4 : Int32)) (v2 + (3 : Int32)) (v1.toInt64 * ((gx_od_weights σ) v2.toNatClampNeg)) r2 hr2) ?_
      obtain ⟨r3, hr3, hf⟩ := Option.bind_eq_some_iff.mp hf
      refine ev_clv 12 (kk := 35) (as := [.ref 8, .int ((0 : Int32)), .int ((v2 / (4 : Int32))), .int (v2), .long ((((10 : Int32) - ((2 : Int32) * v1)).toInt64 * ((gx_od_weights σ) v2.toNatClampNeg)))]) (rest := []) (pc := 61) (ls := [some (.ref 8), some (.int (v1)), some (.int (v2)), some (.long (((gx_od_weights σ) v2.toNatClampNeg))), none, some (.int ((v2 / (4 : Int32))))]) (st := [.long ((((10 : Int32) - ((2 : Int32) * v1)).toInt64 * ((gx_od_weights σ) v2.toNatClampNeg))), .int (v2), .int ((v2 / (4 : Int32))), .int ((0 : Int32)), .ref 8]) (h := hX r2) rfl (tX4_add (d + 1) r2 (0 : Int32) (v2 / (4 : Int32)) v2 (((10 : Int32) - ((2 : Int32) * v1)).toInt64 * ((gx_od_weights σ) v2.toNatClampNeg)) r3 hr3) ?_
      obtain ⟨r4, hr4, hf⟩ := Option.bind_eq_some_iff.mp hf
      refine ev_clv 10 (kk := 35) (as := [.ref 8, .int ((0 : Int32)), .int ((v2 / (4 : Int32))), .int ((v2 + (1 : Int32))), .long ((v1.toInt64 * ((gx_od_weights σ) v2.toNatClampNeg)))]) (rest := []) (pc := 75) (ls := [some (.ref 8), some (.int (v1)), some (.int (v2)), some (.long (((gx_od_weights σ) v2.toNatClampNeg))), none, some (.int ((v2 / (4 : Int32))))]) (st := [.long ((v1.toInt64 * ((gx_od_weights σ) v2.toNatClampNeg))), .int ((v2 + (1 : Int32))), .int ((v2 / (4 : Int32))), .int ((0 : Int32)), .ref 8]) (h := hX r3) rfl (tX4_add (d + 1) r3 (0 : Int32) (v2 / (4 : Int32)) (v2 + (1 : Int32)) (v1.toInt64 * ((gx_od_weights σ) v2.toNatClampNeg)) r4 hr4) ?_
      exact ev_dr (a := [some (.ref 8), some (.int (v1)), some (.int (v2)), none, none, none]) ⟨rfl, ⟨rfl, ⟨rfl, trivial⟩⟩⟩ (tX4_foretellTurn_b78 d k6 hk6 r4 v1 v2 _ hf)
    · rw [if_neg c3] at hf
      exact ev_dr (a := [some (.ref 8), some (.int (v1)), some (.int (v2)), none, none, none]) ⟨rfl, ⟨rfl, ⟨rfl, trivial⟩⟩⟩ (tX4_foretellTurn_b78 d k6 hk6 σ v1 v2 _ hf)
  · rw [if_neg c1] at hf
    cases hf
    exact ev_rt 0 rfl
theorem tX4_foretellTurn_l6 (d : Nat) : ∀ (n : Nat) (σ : SX) (v1 : Int32) (v2 : Int32) (q : SX), fX4_foretellTurn_l6 n σ v1 v2 = some q → ev_X (d + 2) none eiX4_foretellTurn (6, [some (.ref 8), some (.int (v1)), some (.int (v2)), none, none, none], [], hX σ) (none, hX q)
  | 0, _, _, _, _, hf => by cases hf
  | n + 1, σ, v1, v2, q, hf => tX4_foretellTurn_b6 d (fX4_foretellTurn_l6 n) (fun σ v1 v2 q h9 => tX4_foretellTurn_l6 d n σ v1 v2 q h9) σ v1 v2 q hf
set_option maxRecDepth 20000 in
set_option maxHeartbeats 4000000 in
theorem tX4_foretellTurn (d : Nat) (σ : SX) (v1 : Int32) (q : SX) (hf : fX4_foretellTurn σ v1 = some q) : ev_M ev_mt (d + 3) 29 [.ref 8, .int (v1)] (hX σ) (none, hX q) := by
  refine ev_en (rt := none) (I := eiX4_foretellTurn) rfl (Nat.le_of_ble_eq_true rfl) ?_
  change ev_X (d + 2) _ _ (0, [some (.ref 8), some (.int (v1)), none, none, none, none], [], hX σ) _
  unfold fX4_foretellTurn at hf
  obtain ⟨r1, hr1, hf⟩ := Option.bind_eq_some_iff.mp hf
  refine ev_clv 1 (kk := 34) (as := [.ref 8]) (rest := []) (pc := 1) (ls := [some (.ref 8), some (.int (v1)), none, none, none, none]) (st := [.ref 8]) (h := hX σ) rfl (tX4_clearOutcomes d σ r1 hr1) ?_
  refine ev_go (c' := (6, [some (.ref 8), some (.int (v1)), some (.int ((0 : Int32))), none, none, none], [], hX r1)) 1 rfl ?_
  exact ev_dr (a := [some (.ref 8), some (.int (v1)), some (.int ((0 : Int32))), none, none, none]) ⟨rfl, ⟨rfl, ⟨rfl, trivial⟩⟩⟩ (tX4_foretellTurn_l6 d 1000 r1 v1 (0 : Int32) _ hf)
set_option maxRecDepth 20000 in
set_option maxHeartbeats 4000000 in
theorem tX7_kindOf_b31 (d : Nat) (σ : SX) (w0 : Int32) (q : Int32) (hf : fX7_kindOf_b31 σ w0 = some q) : ev_X d (some .int) eiX7_kindOf (31, [none, none], [.int (w0)], hX σ) (some (.int q), hX σ) := by
  unfold fX7_kindOf_b31 at hf
  cases hf
  exact ev_rt 0 rfl
set_option maxRecDepth 20000 in
set_option maxHeartbeats 4000000 in
theorem tX7_kindOf_b30 (d : Nat) (σ : SX) (q : Int32) (hf : fX7_kindOf_b30 σ = some q) : ev_X d (some .int) eiX7_kindOf (30, [none, none], [], hX σ) (some (.int q), hX σ) := by
  unfold fX7_kindOf_b30 at hf
  refine ev_go (c' := (31, [none, none], [.int ((3 : Int32))], hX σ)) 0 rfl ?_
  exact ev_dr (a := [none, none]) trivial (tX7_kindOf_b31 d σ (3 : Int32) _ hf)
set_option maxRecDepth 20000 in
set_option maxHeartbeats 4000000 in
theorem tX7_kindOf (d : Nat) (σ : SX) (v1 : Int32) (q : Int32) (hf : fX7_kindOf σ v1 = some q) : ev_M ev_mt (d + 1) 58 [.ref 3, .int (v1)] (hX σ) (some (.int q), hX σ) := by
  refine ev_en (rt := (some .int)) (I := eiX7_kindOf) rfl (Nat.le_of_ble_eq_true rfl) ?_
  change ev_X d _ _ (0, [some (.ref 3), some (.int (v1))], [], hX σ) _
  unfold fX7_kindOf at hf
  refine ev_br 1 (P := v1 < 0) (a := 30) (b := 4) (ls := [some (.ref 3), some (.int (v1))]) (st := []) (h := hX σ) rfl (fun c1 => ?_) (fun c1 => ?_)
  · rw [if_pos c1] at hf
    exact ev_dr (a := [none, none]) trivial (tX7_kindOf_b30 d σ  _ hf)
  · rw [if_neg c1] at hf
    refine ev_br 3 (P := v1 < (gx_rg_size σ)) (a := 12) (b := 30) (ls := [some (.ref 3), some (.int (v1))]) (st := []) (h := hX σ) rfl (fun c2 => ?_) (fun c2 => ?_)
    · rw [if_pos c2] at hf
      refine ev_br 4 (P := v1 < (36 : Int32)) (a := 21) (b := 30) (ls := [some (.ref 3), some (.int (v1))]) (st := []) (h := hX σ) rfl (fun c3 => ?_) (fun c3 => ?_)
      · rw [if_pos c3] at hf
        obtain ⟨c4, hf⟩ := ev_hp hf
        refine ev_ck 3 (P := ¬ (v1 < 0 ∨ 36 ≤ v1.toNatClampNeg)) (c' := (27, [some (.ref 3), some (.int (v1))], [.int (((gx_rg_kinds σ) v1.toNatClampNeg))], hX σ)) rfl c4 ?_
        refine ev_go (c' := (31, [some (.ref 3), some (.int (v1))], [.int (((gx_rg_kinds σ) v1.toNatClampNeg))], hX σ)) 0 rfl ?_
        exact ev_dr (a := [none, none]) trivial (tX7_kindOf_b31 d σ ((gx_rg_kinds σ) v1.toNatClampNeg) _ hf)
      · rw [if_neg c3] at hf
        exact ev_dr (a := [none, none]) trivial (tX7_kindOf_b30 d σ  _ hf)
    · rw [if_neg c2] at hf
      exact ev_dr (a := [none, none]) trivial (tX7_kindOf_b30 d σ  _ hf)
set_option maxRecDepth 20000 in
set_option maxHeartbeats 4000000 in
theorem tX4_walk_b58 (d : Nat) (σ : SX) (v2 : Int32) (v3 : Int64) (w0 : Int32) (w1 : Int32) (q : SX) (hf : fX4_walk_b58 σ v2 v3 w0 w1 = some q) : ev_X (d + 1) none eiX4_walk (58, [none, none, some (.int (v2)), some (.long (v3)), none, none, none, none, none], [.int (w0), .int (w1), .ref 8], hX σ) (none, hX q) := by
  unfold fX4_walk_b58 at hf
  obtain ⟨r3, hr3, hf⟩ := Option.bind_eq_some_iff.mp hf
  refine ev_clv 2 (kk := 35) (as := [.ref 8, .int (w1), .int (w0), .int (v2), .long (v3)]) (rest := []) (pc := 60) (ls := [none, none, some (.int (v2)), some (.long (v3)), none, none, none, none, none]) (st := [.long (v3), .int (v2), .int (w0), .int (w1), .ref 8]) (h := hX σ) rfl (tX4_add d σ w1 w0 v2 v3 r3 hr3) ?_
  cases hf
  exact ev_rt 0 rfl
set_option maxRecDepth 20000 in
set_option maxHeartbeats 4000000 in
theorem tX4_walk_b31 (d : Nat) (σ : SX) (v1 : Int32) (v2 : Int32) (v3 : Int64) (v6 : Int32) (w0 : Int32) (q : SX) (hf : fX4_walk_b31 σ v1 v2 v3 v6 w0 = some q) : ev_X (d + 1) none eiX4_walk (31, [some (.ref 8), some (.int (v1)), some (.int (v2)), some (.long (v3)), none, none, some (.int (v6)), none, none], [.int (w0)], hX σ) (none, hX q) := by
  unfold fX4_walk_b31 at hf
  obtain ⟨c1, hf⟩ := ev_hp hf
  refine ev_ck 5 (P := ¬ ((w0 &&& (3 : Int32)) < 0 ∨ 4 ≤ (w0 &&& (3 : Int32)).toNatClampNeg)) (c' := (41, [some (.ref 8), some (.int (v1)), some (.int (v2)), some (.long (v3)), none, none, some (.int (v6)), some (.int (w0)), none], [.int ((ev_sf 1000 (w0 &&& (3 : Int32)).toNatClampNeg))], hX σ)) rfl c1 ?_
  refine ev_br 5 (P := (1 : Int32) < w0) (a := 57) (b := 52) (ls := [some (.ref 8), some (.int (v1)), some (.int (v2)), some (.long (v3)), none, none, some (.int (v6)), some (.int (w0)), some (.int ((ev_sf 1000 (w0 &&& (3 : Int32)).toNatClampNeg)))]) (st := [.int ((ev_sf 1000 (w0 &&& (3 : Int32)).toNatClampNeg)), .ref 8]) (h := hX σ) rfl (fun c2 => ?_) (fun c2 => ?_)
  · rw [if_pos c2] at hf
    refine ev_go (c' := (58, [some (.ref 8), some (.int (v1)), some (.int (v2)), some (.long (v3)), none, none, some (.int (v6)), some (.int (w0)), some (.int ((ev_sf 1000 (w0 &&& (3 : Int32)).toNatClampNeg)))], [.int (v1), .int ((ev_sf 1000 (w0 &&& (3 : Int32)).toNatClampNeg)), .ref 8], hX σ)) 0 rfl ?_
    exact ev_dr (a := [none, none, some (.int (v2)), some (.long (v3)), none, none, none, none, none]) ⟨rfl, ⟨rfl, trivial⟩⟩ (tX4_walk_b58 d σ v2 v3 v1 (ev_sf 1000 (w0 &&& (3 : Int32)).toNatClampNeg) _ hf)
  · rw [if_neg c2] at hf
    refine ev_go (c' := (58, [some (.ref 8), some (.int (v1)), some (.int (v2)), some (.long (v3)), none, none, some (.int (v6)), some (.int (w0)), some (.int ((ev_sf 1000 (w0 &&& (3 : Int32)).toNatClampNeg)))], [.int (v6), .int ((ev_sf 1000 (w0 &&& (3 : Int32)).toNatClampNeg)), .ref 8], hX σ)) 1 rfl ?_
    exact ev_dr (a := [none, none, some (.int (v2)), some (.long (v3)), none, none, none, none, none]) ⟨rfl, ⟨rfl, trivial⟩⟩ (tX4_walk_b58 d σ v2 v3 v6 (ev_sf 1000 (w0 &&& (3 : Int32)).toNatClampNeg) _ hf)
set_option maxRecDepth 20000 in
set_option maxHeartbeats 4000000 in
theorem tX4_walk (d : Nat) (σ : SX) (v1 : Int32) (v2 : Int32) (v3 : Int64) (v5 : Int32) (q : SX) (hf : fX4_walk σ v1 v2 v3 v5 = some q) : ev_M ev_mt (d + 2) 31 [.ref 8, .int (v1), .int (v2), .long (v3), .int (v5)] (hX σ) (none, hX q) := by
  refine ev_en (rt := none) (I := eiX4_walk) rfl (Nat.le_of_ble_eq_true rfl) ?_
  change ev_X (d + 1) _ _ (0, [some (.ref 8), some (.int (v1)), some (.int (v2)), some (.long (v3)), none, some (.int (v5)), none, none, none], [], hX σ) _
  unfold fX4_walk at hf
  obtain ⟨r1, hr1, hf⟩ := Option.bind_eq_some_iff.mp hf
  refine ev_cli 4 (kk := 61) (as := [.ref 3, .int (v1), .int (v2)]) (rest := []) (pc := 6) (ls := [some (.ref 8), some (.int (v1)), some (.int (v2)), some (.long (v3)), none, some (.int (v5)), none, none, none]) (st := [.int (v2), .int (v1), .ref 3]) (h := hX σ) rfl (tX7_ahead d σ v1 v2 r1 hr1) ?_
  refine ev_br 3 (P := r1 = v5) (a := 18) (b := 22) (ls := [some (.ref 8), some (.int (v1)), some (.int (v2)), some (.long (v3)), none, some (.int (v5)), some (.int (r1)), none, none]) (st := []) (h := hX σ) rfl (fun c1 => ?_) (fun c1 => ?_)
  · rw [if_pos c1] at hf
    refine ev_go (c' := (31, [some (.ref 8), some (.int (v1)), some (.int (v2)), some (.long (v3)), none, some (.int (v5)), some (.int (r1)), none, none], [.int ((3 : Int32))], hX σ)) 1 rfl ?_
    exact ev_dr (a := [some (.ref 8), some (.int (v1)), some (.int (v2)), some (.long (v3)), none, none, some (.int (r1)), none, none]) ⟨rfl, ⟨rfl, ⟨rfl, ⟨rfl, ⟨rfl, trivial⟩⟩⟩⟩⟩ (tX4_walk_b31 d σ v1 v2 v3 r1 (3 : Int32) _ hf)
  · rw [if_neg c1] at hf
    obtain ⟨r2, hr2, hf⟩ := Option.bind_eq_some_iff.mp hf
    refine ev_cli 3 (kk := 58) (as := [.ref 3, .int (r1)]) (rest := []) (pc := 28) (ls := [some (.ref 8), some (.int (v1)), some (.int (v2)), some (.long (v3)), none, some (.int (v5)), some (.int (r1)), none, none]) (st := [.int (r1), .ref 3]) (h := hX σ) rfl (tX7_kindOf d σ r1 r2 hr2) ?_
    exact ev_dr (a := [some (.ref 8), some (.int (v1)), some (.int (v2)), some (.long (v3)), none, none, some (.int (r1)), none, none]) ⟨rfl, ⟨rfl, ⟨rfl, ⟨rfl, ⟨rfl, trivial⟩⟩⟩⟩⟩ (tX4_walk_b31 d σ v1 v2 v3 r1 r2 _ hf)
set_option maxRecDepth 20000 in
set_option maxHeartbeats 4000000 in
theorem tX4_foretellStep_b96 (d : Nat) (k7 : SX → Int32 → Int32 → Int32 → Int32 → Option (SX)) (hk7 : ∀ (σ : SX) (v1 : Int32) (v2 : Int32) (v3 : Int32) (v4 : Int32) (q : SX), k7 σ v1 v2 v3 v4 = some q → ev_X (d + 2) none eiX4_foretellStep (7, [some (.ref 8), some (.int (v1)), some (.int (v2)), some (.int (v3)), some (.int (v4)), none, none, none, none], [], hX σ) (none, hX q)) (σ : SX) (v1 : Int32) (v2 : Int32) (v3 : Int32) (v4 : Int32) (q : SX) (hf : fX4_foretellStep_b96 k7 σ v1 v2 v3 v4 = some q) : ev_X (d + 2) none eiX4_foretellStep (96, [some (.ref 8), some (.int (v1)), some (.int (v2)), some (.int (v3)), some (.int (v4)), none, none, none, none], [], hX σ) (none, hX q) := by
  unfold fX4_foretellStep_b96 at hf
  refine ev_go (c' := (7, [some (.ref 8), some (.int (v1)), some (.int (v2)), some (.int (v3)), some (.int ((v4 + (1 : Int32)))), none, none, none, none], [], hX σ)) 1 rfl ?_
  exact ev_dr (a := [some (.ref 8), some (.int (v1)), some (.int (v2)), some (.int (v3)), some (.int ((v4 + (1 : Int32)))), none, none, none, none]) ⟨rfl, ⟨rfl, ⟨rfl, ⟨rfl, ⟨rfl, trivial⟩⟩⟩⟩⟩ (hk7 σ v1 v2 v3 (v4 + (1 : Int32)) _ hf)
set_option maxRecDepth 20000 in
set_option maxHeartbeats 4000000 in
theorem tX4_foretellStep_b7 (d : Nat) (k7 : SX → Int32 → Int32 → Int32 → Int32 → Option (SX)) (hk7 : ∀ (σ : SX) (v1 : Int32) (v2 : Int32) (v3 : Int32) (v4 : Int32) (q : SX), k7 σ v1 v2 v3 v4 = some q → ev_X (d + 2) none eiX4_foretellStep (7, [some (.ref 8), some (.int (v1)), some (.int (v2)), some (.int (v3)), some (.int (v4)), none, none, none, none], [], hX σ) (none, hX q)) (σ : SX) (v1 : Int32) (v2 : Int32) (v3 : Int32) (v4 : Int32) (q : SX) (hf : fX4_foretellStep_b7 k7 σ v1 v2 v3 v4 = some q) : ev_X (d + 2) none eiX4_foretellStep (7, [some (.ref 8), some (.int (v1)), some (.int (v2)), some (.int (v3)), some (.int (v4)), none, none, none, none], [], hX σ) (none, hX q) := by
  unfold fX4_foretellStep_b7 at hf
  refine ev_br 4 (P := v4 < (144 : Int32)) (a := 17) (b := 102) (ls := [some (.ref 8), some (.int (v1)), some (.int (v2)), some (.int (v3)), some (.int (v4)), none, none, none, none]) (st := []) (h := hX σ) rfl (fun c1 => ?_) (fun c1 => ?_)
  · rw [if_pos c1] at hf
    obtain ⟨c2, hf⟩ := ev_hp hf
    refine ev_ck 3 (P := ¬ (v4 < 0 ∨ 144 ≤ v4.toNatClampNeg)) (c' := (24, [some (.ref 8), some (.int (v1)), some (.int (v2)), some (.int (v3)), some (.int (v4)), none, none, none, none], [.long (((gx_od_weights σ) v4.toNatClampNeg))], hX σ)) rfl c2 ?_
    refine ev_bi 4 (lg_cmp_gt ((gx_od_weights σ) v4.toNatClampNeg) (0 : Int64)) (a := 33) (b := 96) (ls := [some (.ref 8), some (.int (v1)), some (.int (v2)), some (.int (v3)), some (.int (v4)), some (.long (((gx_od_weights σ) v4.toNatClampNeg))), none, none, none]) (st := []) (h := hX σ) rfl (fun c3 => ?_) (fun c3 => ?_)
    · rw [if_pos c3] at hf
      obtain ⟨r2, hr2, hf⟩ := Option.bind_eq_some_iff.mp hf
      refine ev_clv 18 (kk := 31) (as := [.ref 8, .int ((v4 / (4 : Int32))), .int (((v4 + v1) + (3 : Int32))), .long ((v2.toInt64 * ((gx_od_weights σ) v4.toNatClampNeg))), .int (v3)]) (rest := []) (pc := 58) (ls := [some (.ref 8), some (.int (v1)), some (.int (v2)), some (.int (v3)), some (.int (v4)), some (.long (((gx_od_weights σ) v4.toNatClampNeg))), none, some (.int ((v4 / (4 : Int32)))), some (.int ((v4 + v1)))]) (st := [.int (v3), .long ((v2.toInt64 * ((gx_od_weights σ) v4.toNatClampNeg))), .int (((v4 + v1) + (3 : Int32))), .int ((v4 / (4 : Int32))), .ref 8]) (h := hX σ) rfl (tX4_walk d σ (v4 / (4 : Int32)) ((v4 + v1) + (3 : Int32)) (v2.toInt64 * ((gx_od_weights σ) v4.toNatClampNeg)) v3 r2 hr2) ?_
      obtain ⟨r3, hr3, hf⟩ := Option.bind_eq_some_iff.mp hf
      refine ev_clv 12 (kk := 31) (as := [.ref 8, .int ((v4 / (4 : Int32))), .int ((v4 + v1)), .long ((((10 : Int32) - ((2 : Int32) * v2)).toInt64 * ((gx_od_weights σ) v4.toNatClampNeg))), .int (v3)]) (rest := []) (pc := 77) (ls := [some (.ref 8), some (.int (v1)), some (.int (v2)), some (.int (v3)), some (.int (v4)), some (.long (((gx_od_weights σ) v4.toNatClampNeg))), none, some (.int ((v4 / (4 : Int32)))), some (.int ((v4 + v1)))]) (st := [.int (v3), .long ((((10 : Int32) - ((2 : Int32) * v2)).toInt64 * ((gx_od_weights σ) v4.toNatClampNeg))), .int ((v4 + v1)), .int ((v4 / (4 : Int32))), .ref 8]) (h := hX r2) rfl (tX4_walk d r2 (v4 / (4 : Int32)) (v4 + v1) (((10 : Int32) - ((2 : Int32) * v2)).toInt64 * ((gx_od_weights σ) v4.toNatClampNeg)) v3 r3 hr3) ?_
      obtain ⟨r4, hr4, hf⟩ := Option.bind_eq_some_iff.mp hf
      refine ev_clv 10 (kk := 31) (as := [.ref 8, .int ((v4 / (4 : Int32))), .int (((v4 + v1) + (1 : Int32))), .long ((v2.toInt64 * ((gx_od_weights σ) v4.toNatClampNeg))), .int (v3)]) (rest := []) (pc := 93) (ls := [some (.ref 8), some (.int (v1)), some (.int (v2)), some (.int (v3)), some (.int (v4)), some (.long (((gx_od_weights σ) v4.toNatClampNeg))), none, some (.int ((v4 / (4 : Int32)))), some (.int ((v4 + v1)))]) (st := [.int (v3), .long ((v2.toInt64 * ((gx_od_weights σ) v4.toNatClampNeg))), .int (((v4 + v1) + (1 : Int32))), .int ((v4 / (4 : Int32))), .ref 8]) (h := hX r3) rfl (tX4_walk d r3 (v4 / (4 : Int32)) ((v4 + v1) + (1 : Int32)) (v2.toInt64 * ((gx_od_weights σ) v4.toNatClampNeg)) v3 r4 hr4) ?_
      exact ev_dr (a := [some (.ref 8), some (.int (v1)), some (.int (v2)), some (.int (v3)), some (.int (v4)), none, none, none, none]) ⟨rfl, ⟨rfl, ⟨rfl, ⟨rfl, ⟨rfl, trivial⟩⟩⟩⟩⟩ (tX4_foretellStep_b96 d k7 hk7 r4 v1 v2 v3 v4 _ hf)
    · rw [if_neg c3] at hf
      exact ev_dr (a := [some (.ref 8), some (.int (v1)), some (.int (v2)), some (.int (v3)), some (.int (v4)), none, none, none, none]) ⟨rfl, ⟨rfl, ⟨rfl, ⟨rfl, ⟨rfl, trivial⟩⟩⟩⟩⟩ (tX4_foretellStep_b96 d k7 hk7 σ v1 v2 v3 v4 _ hf)
  · rw [if_neg c1] at hf
    cases hf
    exact ev_rt 0 rfl
theorem tX4_foretellStep_l7 (d : Nat) : ∀ (n : Nat) (σ : SX) (v1 : Int32) (v2 : Int32) (v3 : Int32) (v4 : Int32) (q : SX), fX4_foretellStep_l7 n σ v1 v2 v3 v4 = some q → ev_X (d + 2) none eiX4_foretellStep (7, [some (.ref 8), some (.int (v1)), some (.int (v2)), some (.int (v3)), some (.int (v4)), none, none, none, none], [], hX σ) (none, hX q)
  | 0, _, _, _, _, _, _, hf => by cases hf
  | n + 1, σ, v1, v2, v3, v4, q, hf => tX4_foretellStep_b7 d (fX4_foretellStep_l7 n) (fun σ v1 v2 v3 v4 q h9 => tX4_foretellStep_l7 d n σ v1 v2 v3 v4 q h9) σ v1 v2 v3 v4 q hf
set_option maxRecDepth 20000 in
set_option maxHeartbeats 4000000 in
theorem tX4_foretellStep (d : Nat) (σ : SX) (v1 : Int32) (v2 : Int32) (v3 : Int32) (q : SX) (hf : fX4_foretellStep σ v1 v2 v3 = some q) : ev_M ev_mt (d + 3) 30 [.ref 8, .int (v1), .int (v2), .int (v3)] (hX σ) (none, hX q) := by
  refine ev_en (rt := none) (I := eiX4_foretellStep) rfl (Nat.le_of_ble_eq_true rfl) ?_
  change ev_X (d + 2) _ _ (0, [some (.ref 8), some (.int (v1)), some (.int (v2)), some (.int (v3)), none, none, none, none, none], [], hX σ) _
  unfold fX4_foretellStep at hf
  obtain ⟨r1, hr1, hf⟩ := Option.bind_eq_some_iff.mp hf
  refine ev_clv 1 (kk := 34) (as := [.ref 8]) (rest := []) (pc := 1) (ls := [some (.ref 8), some (.int (v1)), some (.int (v2)), some (.int (v3)), none, none, none, none, none]) (st := [.ref 8]) (h := hX σ) rfl (tX4_clearOutcomes d σ r1 hr1) ?_
  refine ev_go (c' := (7, [some (.ref 8), some (.int (v1)), some (.int (v2)), some (.int (v3)), some (.int ((0 : Int32))), none, none, none, none], [], hX r1)) 1 rfl ?_
  exact ev_dr (a := [some (.ref 8), some (.int (v1)), some (.int (v2)), some (.int (v3)), some (.int ((0 : Int32))), none, none, none, none]) ⟨rfl, ⟨rfl, ⟨rfl, ⟨rfl, ⟨rfl, trivial⟩⟩⟩⟩⟩ (tX4_foretellStep_l7 d 1000 r1 v1 v2 v3 (0 : Int32) _ hf)
set_option maxRecDepth 20000 in
set_option maxHeartbeats 4000000 in
theorem tX7_rowOf_b23 (d : Nat) (σ : SX) (w0 : Int32) (q : Int32) (hf : fX7_rowOf_b23 σ w0 = some q) : ev_X d (some .int) eiX7_rowOf (23, [none, none], [.int (w0)], hX σ) (some (.int q), hX σ) := by
  unfold fX7_rowOf_b23 at hf
  cases hf
  exact ev_rt 0 rfl
set_option maxRecDepth 20000 in
set_option maxHeartbeats 4000000 in
theorem tX7_rowOf_b22 (d : Nat) (σ : SX) (q : Int32) (hf : fX7_rowOf_b22 σ = some q) : ev_X d (some .int) eiX7_rowOf (22, [none, none], [], hX σ) (some (.int q), hX σ) := by
  unfold fX7_rowOf_b22 at hf
  refine ev_go (c' := (23, [none, none], [.int ((0 : Int32))], hX σ)) 0 rfl ?_
  exact ev_dr (a := [none, none]) trivial (tX7_rowOf_b23 d σ (0 : Int32) _ hf)
set_option maxRecDepth 20000 in
set_option maxHeartbeats 4000000 in
theorem tX7_rowOf (d : Nat) (σ : SX) (v1 : Int32) (q : Int32) (hf : fX7_rowOf σ v1 = some q) : ev_M ev_mt (d + 1) 62 [.ref 3, .int (v1)] (hX σ) (some (.int q), hX σ) := by
  refine ev_en (rt := (some .int)) (I := eiX7_rowOf) rfl (Nat.le_of_ble_eq_true rfl) ?_
  change ev_X d _ _ (0, [some (.ref 3), some (.int (v1))], [], hX σ) _
  unfold fX7_rowOf at hf
  refine ev_br 1 (P := v1 < 0) (a := 22) (b := 4) (ls := [some (.ref 3), some (.int (v1))]) (st := []) (h := hX σ) rfl (fun c1 => ?_) (fun c1 => ?_)
  · rw [if_pos c1] at hf
    exact ev_dr (a := [none, none]) trivial (tX7_rowOf_b22 d σ  _ hf)
  · rw [if_neg c1] at hf
    refine ev_br 4 (P := v1 < (36 : Int32)) (a := 13) (b := 22) (ls := [some (.ref 3), some (.int (v1))]) (st := []) (h := hX σ) rfl (fun c2 => ?_) (fun c2 => ?_)
    · rw [if_pos c2] at hf
      obtain ⟨c3, hf⟩ := ev_hp hf
      refine ev_ck 3 (P := ¬ (v1 < 0 ∨ 36 ≤ v1.toNatClampNeg)) (c' := (19, [some (.ref 3), some (.int (v1))], [.int (((gx_rg_rows σ) v1.toNatClampNeg))], hX σ)) rfl c3 ?_
      refine ev_go (c' := (23, [some (.ref 3), some (.int (v1))], [.int (((gx_rg_rows σ) v1.toNatClampNeg))], hX σ)) 0 rfl ?_
      exact ev_dr (a := [none, none]) trivial (tX7_rowOf_b23 d σ ((gx_rg_rows σ) v1.toNatClampNeg) _ hf)
    · rw [if_neg c2] at hf
      exact ev_dr (a := [none, none]) trivial (tX7_rowOf_b22 d σ  _ hf)
set_option maxRecDepth 20000 in
set_option maxHeartbeats 4000000 in
theorem tX7_columnOf_b23 (d : Nat) (σ : SX) (w0 : Int32) (q : Int32) (hf : fX7_columnOf_b23 σ w0 = some q) : ev_X d (some .int) eiX7_columnOf (23, [none, none], [.int (w0)], hX σ) (some (.int q), hX σ) := by
  unfold fX7_columnOf_b23 at hf
  cases hf
  exact ev_rt 0 rfl
set_option maxRecDepth 20000 in
set_option maxHeartbeats 4000000 in
theorem tX7_columnOf_b22 (d : Nat) (σ : SX) (q : Int32) (hf : fX7_columnOf_b22 σ = some q) : ev_X d (some .int) eiX7_columnOf (22, [none, none], [], hX σ) (some (.int q), hX σ) := by
  unfold fX7_columnOf_b22 at hf
  refine ev_go (c' := (23, [none, none], [.int ((0 : Int32))], hX σ)) 0 rfl ?_
  exact ev_dr (a := [none, none]) trivial (tX7_columnOf_b23 d σ (0 : Int32) _ hf)
set_option maxRecDepth 20000 in
set_option maxHeartbeats 4000000 in
theorem tX7_columnOf (d : Nat) (σ : SX) (v1 : Int32) (q : Int32) (hf : fX7_columnOf σ v1 = some q) : ev_M ev_mt (d + 1) 63 [.ref 3, .int (v1)] (hX σ) (some (.int q), hX σ) := by
  refine ev_en (rt := (some .int)) (I := eiX7_columnOf) rfl (Nat.le_of_ble_eq_true rfl) ?_
  change ev_X d _ _ (0, [some (.ref 3), some (.int (v1))], [], hX σ) _
  unfold fX7_columnOf at hf
  refine ev_br 1 (P := v1 < 0) (a := 22) (b := 4) (ls := [some (.ref 3), some (.int (v1))]) (st := []) (h := hX σ) rfl (fun c1 => ?_) (fun c1 => ?_)
  · rw [if_pos c1] at hf
    exact ev_dr (a := [none, none]) trivial (tX7_columnOf_b22 d σ  _ hf)
  · rw [if_neg c1] at hf
    refine ev_br 4 (P := v1 < (36 : Int32)) (a := 13) (b := 22) (ls := [some (.ref 3), some (.int (v1))]) (st := []) (h := hX σ) rfl (fun c2 => ?_) (fun c2 => ?_)
    · rw [if_pos c2] at hf
      obtain ⟨c3, hf⟩ := ev_hp hf
      refine ev_ck 3 (P := ¬ (v1 < 0 ∨ 36 ≤ v1.toNatClampNeg)) (c' := (19, [some (.ref 3), some (.int (v1))], [.int (((gx_rg_columns σ) v1.toNatClampNeg))], hX σ)) rfl c3 ?_
      refine ev_go (c' := (23, [some (.ref 3), some (.int (v1))], [.int (((gx_rg_columns σ) v1.toNatClampNeg))], hX σ)) 0 rfl ?_
      exact ev_dr (a := [none, none]) trivial (tX7_columnOf_b23 d σ ((gx_rg_columns σ) v1.toNatClampNeg) _ hf)
    · rw [if_neg c2] at hf
      exact ev_dr (a := [none, none]) trivial (tX7_columnOf_b22 d σ  _ hf)
set_option maxRecDepth 20000 in
set_option maxHeartbeats 4000000 in
theorem tX7_wayTo_b61 (d : Nat) (σ : SX) (w0 : Int32) (q : Int32) (hf : fX7_wayTo_b61 σ w0 = some q) : ev_X (d + 1) (some .int) eiX7_wayTo (61, [none, none, none, none, none], [.int (w0)], hX σ) (some (.int q), hX σ) := by
  unfold fX7_wayTo_b61 at hf
  cases hf
  exact ev_rt 0 rfl
set_option maxRecDepth 20000 in
set_option maxHeartbeats 4000000 in
theorem tX7_wayTo_b51 (d : Nat) (σ : SX) (v4 : Int32) (q : Int32) (hf : fX7_wayTo_b51 σ v4 = some q) : ev_X (d + 1) (some .int) eiX7_wayTo (51, [none, none, none, none, some (.int (v4))], [], hX σ) (some (.int q), hX σ) := by
  unfold fX7_wayTo_b51 at hf
  refine ev_br 1 (P := 0 < v4) (a := 56) (b := 60) (ls := [none, none, none, none, some (.int (v4))]) (st := []) (h := hX σ) rfl (fun c1 => ?_) (fun c1 => ?_)
  · rw [if_pos c1] at hf
    refine ev_go (c' := (61, [none, none, none, none, some (.int (v4))], [.int ((1 : Int32))], hX σ)) 1 rfl ?_
    exact ev_dr (a := [none, none, none, none, none]) trivial (tX7_wayTo_b61 d σ (1 : Int32) _ hf)
  · rw [if_neg c1] at hf
    refine ev_go (c' := (61, [none, none, none, none, some (.int (v4))], [.int ((3 : Int32))], hX σ)) 0 rfl ?_
    exact ev_dr (a := [none, none, none, none, none]) trivial (tX7_wayTo_b61 d σ (3 : Int32) _ hf)
set_option maxRecDepth 20000 in
set_option maxHeartbeats 4000000 in
theorem tX7_wayTo_b50 (d : Nat) (σ : SX) (w0 : Int32) (q : Int32) (hf : fX7_wayTo_b50 σ w0 = some q) : ev_X (d + 1) (some .int) eiX7_wayTo (50, [none, none, none, none, none], [.int (w0)], hX σ) (some (.int q), hX σ) := by
  unfold fX7_wayTo_b50 at hf
  cases hf
  exact ev_rt 0 rfl
set_option maxRecDepth 20000 in
set_option maxHeartbeats 4000000 in
theorem tX7_wayTo (d : Nat) (σ : SX) (v1 : Int32) (v2 : Int32) (q : Int32) (hf : fX7_wayTo σ v1 v2 = some q) : ev_M ev_mt (d + 2) 65 [.ref 3, .int (v1), .int (v2)] (hX σ) (some (.int q), hX σ) := by
  refine ev_en (rt := (some .int)) (I := eiX7_wayTo) rfl (Nat.le_of_ble_eq_true rfl) ?_
  change ev_X (d + 1) _ _ (0, [some (.ref 3), some (.int (v1)), some (.int (v2)), none, none], [], hX σ) _
  unfold fX7_wayTo at hf
  obtain ⟨r1, hr1, hf⟩ := Option.bind_eq_some_iff.mp hf
  refine ev_cli 2 (kk := 62) (as := [.ref 3, .int (v2)]) (rest := []) (pc := 2) (ls := [some (.ref 3), some (.int (v1)), some (.int (v2)), none, none]) (st := [.int (v2), .ref 3]) (h := hX σ) rfl (tX7_rowOf d σ v2 r1 hr1) ?_
  obtain ⟨r2, hr2, hf⟩ := Option.bind_eq_some_iff.mp hf
  refine ev_cli 2 (kk := 62) (as := [.ref 3, .int (v1)]) (rest := [.int (r1)]) (pc := 7) (ls := [some (.ref 3), some (.int (v1)), some (.int (v2)), none, none]) (st := [.int (v1), .ref 3, .int (r1)]) (h := hX σ) rfl (tX7_rowOf d σ v1 r2 hr2) ?_
  obtain ⟨r3, hr3, hf⟩ := Option.bind_eq_some_iff.mp hf
  refine ev_cli 4 (kk := 63) (as := [.ref 3, .int (v2)]) (rest := []) (pc := 14) (ls := [some (.ref 3), some (.int (v1)), some (.int (v2)), some (.int ((r1 - r2))), none]) (st := [.int (v2), .ref 3]) (h := hX σ) rfl (tX7_columnOf d σ v2 r3 hr3) ?_
  obtain ⟨r4, hr4, hf⟩ := Option.bind_eq_some_iff.mp hf
  refine ev_cli 2 (kk := 63) (as := [.ref 3, .int (v1)]) (rest := [.int (r3)]) (pc := 19) (ls := [some (.ref 3), some (.int (v1)), some (.int (v2)), some (.int ((r1 - r2))), none]) (st := [.int (v1), .ref 3, .int (r3)]) (h := hX σ) rfl (tX7_columnOf d σ v1 r4 hr4) ?_
  refine ev_br 3 (P := (r1 - r2) = 0) (a := 51) (b := 29) (ls := [some (.ref 3), some (.int (v1)), some (.int (v2)), some (.int ((r1 - r2))), some (.int ((r3 - r4)))]) (st := []) (h := hX σ) rfl (fun c1 => ?_) (fun c1 => ?_)
  · rw [if_pos c1] at hf
    exact ev_dr (a := [none, none, none, none, some (.int ((r3 - r4)))]) ⟨rfl, trivial⟩ (tX7_wayTo_b51 d σ (r3 - r4) _ hf)
  · rw [if_neg c1] at hf
    refine ev_br 4 (P := (if 0 ≤ (r1 - r2) then (r1 - r2) else 0 - (r1 - r2)) < (if 0 ≤ (r3 - r4) then (r3 - r4) else 0 - (r3 - r4))) (a := 51) (b := 41) (ls := [some (.ref 3), some (.int (v1)), some (.int (v2)), some (.int ((r1 - r2))), some (.int ((r3 - r4)))]) (st := []) (h := hX σ) rfl (fun c2 => ?_) (fun c2 => ?_)
    · rw [if_pos c2] at hf
      exact ev_dr (a := [none, none, none, none, some (.int ((r3 - r4)))]) ⟨rfl, trivial⟩ (tX7_wayTo_b51 d σ (r3 - r4) _ hf)
    · rw [if_neg c2] at hf
      refine ev_br 1 (P := (r1 - r2) < 0) (a := 45) (b := 49) (ls := [some (.ref 3), some (.int (v1)), some (.int (v2)), some (.int ((r1 - r2))), some (.int ((r3 - r4)))]) (st := []) (h := hX σ) rfl (fun c3 => ?_) (fun c3 => ?_)
      · rw [if_pos c3] at hf
        refine ev_go (c' := (50, [some (.ref 3), some (.int (v1)), some (.int (v2)), some (.int ((r1 - r2))), some (.int ((r3 - r4)))], [.int ((0 : Int32))], hX σ)) 1 rfl ?_
        exact ev_dr (a := [none, none, none, none, none]) trivial (tX7_wayTo_b50 d σ (0 : Int32) _ hf)
      · rw [if_neg c3] at hf
        refine ev_go (c' := (50, [some (.ref 3), some (.int (v1)), some (.int (v2)), some (.int ((r1 - r2))), some (.int ((r3 - r4)))], [.int ((2 : Int32))], hX σ)) 0 rfl ?_
        exact ev_dr (a := [none, none, none, none, none]) trivial (tX7_wayTo_b50 d σ (2 : Int32) _ hf)
set_option maxRecDepth 20000 in
set_option maxHeartbeats 4000000 in
theorem tX4_hearFrom_b61 (d : Nat) (k24 : SX → Int32 → Int32 → Int32 → Int64 → Int32 → Int32 → Int32 → Option (SX)) (hk24 : ∀ (σ : SX) (v1 : Int32) (v2 : Int32) (v3 : Int32) (v4 : Int64) (v6 : Int32) (v7 : Int32) (v8 : Int32) (q : SX), k24 σ v1 v2 v3 v4 v6 v7 v8 = some q → ev_X (d + 2) none eiX4_hearFrom (24, [some (.ref 8), some (.int (v1)), some (.int (v2)), some (.int (v3)), some (.long (v4)), none, some (.int (v6)), some (.int (v7)), some (.int (v8)), none], [], hX σ) (none, hX q)) (σ : SX) (v1 : Int32) (v2 : Int32) (v3 : Int32) (v4 : Int64) (v6 : Int32) (v7 : Int32) (v8 : Int32) (w0 : Int32) (q : SX) (hf : fX4_hearFrom_b61 k24 σ v1 v2 v3 v4 v6 v7 v8 w0 = some q) : ev_X (d + 2) none eiX4_hearFrom (61, [some (.ref 8), some (.int (v1)), some (.int (v2)), some (.int (v3)), some (.long (v4)), none, some (.int (v6)), some (.int (v7)), some (.int (v8)), none], [.int (w0)], hX σ) (none, hX q) := by
  unfold fX4_hearFrom_b61 at hf
  obtain ⟨r2, hr2, hf⟩ := Option.bind_eq_some_iff.mp hf
  refine ev_clv 9 (kk := 35) (as := [.ref 8, .int (v8), .int (v6), .int (v3), .long ((w0.toInt64 * v4))]) (rest := []) (pc := 75) (ls := [some (.ref 8), some (.int (v1)), some (.int (v2)), some (.int (v3)), some (.long (v4)), none, some (.int (v6)), some (.int (v7)), some (.int (v8)), some (.int (w0))]) (st := [.long ((w0.toInt64 * v4)), .int (v3), .int (v6), .int (v8), .ref 8]) (h := hX σ) rfl (tX4_add (d + 1) σ v8 v6 v3 (w0.toInt64 * v4) r2 hr2) ?_
  refine ev_go (c' := (24, [some (.ref 8), some (.int (v1)), some (.int (v2)), some (.int (v3)), some (.long (v4)), none, some (.int (v6)), some (.int (v7)), some (.int ((v8 + (1 : Int32)))), some (.int (w0))], [], hX r2)) 1 rfl ?_
  exact ev_dr (a := [some (.ref 8), some (.int (v1)), some (.int (v2)), some (.int (v3)), some (.long (v4)), none, some (.int (v6)), some (.int (v7)), some (.int ((v8 + (1 : Int32)))), none]) ⟨rfl, ⟨rfl, ⟨rfl, ⟨rfl, ⟨rfl, ⟨rfl, ⟨rfl, ⟨rfl, trivial⟩⟩⟩⟩⟩⟩⟩⟩ (hk24 r2 v1 v2 v3 v4 v6 v7 (v8 + (1 : Int32)) _ hf)
set_option maxRecDepth 20000 in
set_option maxHeartbeats 4000000 in
theorem tX4_hearFrom_b24 (d : Nat) (k24 : SX → Int32 → Int32 → Int32 → Int64 → Int32 → Int32 → Int32 → Option (SX)) (hk24 : ∀ (σ : SX) (v1 : Int32) (v2 : Int32) (v3 : Int32) (v4 : Int64) (v6 : Int32) (v7 : Int32) (v8 : Int32) (q : SX), k24 σ v1 v2 v3 v4 v6 v7 v8 = some q → ev_X (d + 2) none eiX4_hearFrom (24, [some (.ref 8), some (.int (v1)), some (.int (v2)), some (.int (v3)), some (.long (v4)), none, some (.int (v6)), some (.int (v7)), some (.int (v8)), none], [], hX σ) (none, hX q)) (σ : SX) (v1 : Int32) (v2 : Int32) (v3 : Int32) (v4 : Int64) (v6 : Int32) (v7 : Int32) (v8 : Int32) (q : SX) (hf : fX4_hearFrom_b24 k24 σ v1 v2 v3 v4 v6 v7 v8 = some q) : ev_X (d + 2) none eiX4_hearFrom (24, [some (.ref 8), some (.int (v1)), some (.int (v2)), some (.int (v3)), some (.long (v4)), none, some (.int (v6)), some (.int (v7)), some (.int (v8)), none], [], hX σ) (none, hX q) := by
  unfold fX4_hearFrom_b24 at hf
  refine ev_br 2 (P := v8 < (4 : Int32)) (a := 30) (b := 84) (ls := [some (.ref 8), some (.int (v1)), some (.int (v2)), some (.int (v3)), some (.long (v4)), none, some (.int (v6)), some (.int (v7)), some (.int (v8)), none]) (st := []) (h := hX σ) rfl (fun c1 => ?_) (fun c1 => ?_)
  · rw [if_pos c1] at hf
    refine ev_br 2 (P := v6 = v1) (a := 36) (b := 41) (ls := [some (.ref 8), some (.int (v1)), some (.int (v2)), some (.int (v3)), some (.long (v4)), none, some (.int (v6)), some (.int (v7)), some (.int (v8)), none]) (st := []) (h := hX σ) rfl (fun c2 => ?_) (fun c2 => ?_)
    · rw [if_pos c2] at hf
      refine ev_go (c' := (61, [some (.ref 8), some (.int (v1)), some (.int (v2)), some (.int (v3)), some (.long (v4)), none, some (.int (v6)), some (.int (v7)), some (.int (v8)), none], [.int ((15 : Int32))], hX σ)) 1 rfl ?_
      exact ev_dr (a := [some (.ref 8), some (.int (v1)), some (.int (v2)), some (.int (v3)), some (.long (v4)), none, some (.int (v6)), some (.int (v7)), some (.int (v8)), none]) ⟨rfl, ⟨rfl, ⟨rfl, ⟨rfl, ⟨rfl, ⟨rfl, ⟨rfl, ⟨rfl, trivial⟩⟩⟩⟩⟩⟩⟩⟩ (tX4_hearFrom_b61 d k24 hk24 σ v1 v2 v3 v4 v6 v7 v8 (15 : Int32) _ hf)
    · rw [if_neg c2] at hf
      refine ev_br 2 (P := v8 = v7) (a := 48) (b := 55) (ls := [some (.ref 8), some (.int (v1)), some (.int (v2)), some (.int (v3)), some (.long (v4)), none, some (.int (v6)), some (.int (v7)), some (.int (v8)), none]) (st := []) (h := hX σ) rfl (fun c3 => ?_) (fun c3 => ?_)
      · rw [if_pos c3] at hf
        refine ev_go (c' := (61, [some (.ref 8), some (.int (v1)), some (.int (v2)), some (.int (v3)), some (.long (v4)), none, some (.int (v6)), some (.int (v7)), some (.int (v8)), none], [.int (((6 : Int32) * v2))], hX σ)) 3 rfl ?_
        exact ev_dr (a := [some (.ref 8), some (.int (v1)), some (.int (v2)), some (.int (v3)), some (.long (v4)), none, some (.int (v6)), some (.int (v7)), some (.int (v8)), none]) ⟨rfl, ⟨rfl, ⟨rfl, ⟨rfl, ⟨rfl, ⟨rfl, ⟨rfl, ⟨rfl, trivial⟩⟩⟩⟩⟩⟩⟩⟩ (tX4_hearFrom_b61 d k24 hk24 σ v1 v2 v3 v4 v6 v7 v8 ((6 : Int32) * v2) _ hf)
      · rw [if_neg c3] at hf
        refine ev_go (c' := (61, [some (.ref 8), some (.int (v1)), some (.int (v2)), some (.int (v3)), some (.long (v4)), none, some (.int (v6)), some (.int (v7)), some (.int (v8)), none], [.int (((2 : Int32) * ((10 : Int32) - v2)))], hX σ)) 4 rfl ?_
        exact ev_dr (a := [some (.ref 8), some (.int (v1)), some (.int (v2)), some (.int (v3)), some (.long (v4)), none, some (.int (v6)), some (.int (v7)), some (.int (v8)), none]) ⟨rfl, ⟨rfl, ⟨rfl, ⟨rfl, ⟨rfl, ⟨rfl, ⟨rfl, ⟨rfl, trivial⟩⟩⟩⟩⟩⟩⟩⟩ (tX4_hearFrom_b61 d k24 hk24 σ v1 v2 v3 v4 v6 v7 v8 ((2 : Int32) * ((10 : Int32) - v2)) _ hf)
  · rw [if_neg c1] at hf
    cases hf
    exact ev_rt 0 rfl
theorem tX4_hearFrom_l24 (d : Nat) : ∀ (n : Nat) (σ : SX) (v1 : Int32) (v2 : Int32) (v3 : Int32) (v4 : Int64) (v6 : Int32) (v7 : Int32) (v8 : Int32) (q : SX), fX4_hearFrom_l24 n σ v1 v2 v3 v4 v6 v7 v8 = some q → ev_X (d + 2) none eiX4_hearFrom (24, [some (.ref 8), some (.int (v1)), some (.int (v2)), some (.int (v3)), some (.long (v4)), none, some (.int (v6)), some (.int (v7)), some (.int (v8)), none], [], hX σ) (none, hX q)
  | 0, _, _, _, _, _, _, _, _, _, hf => by cases hf
  | n + 1, σ, v1, v2, v3, v4, v6, v7, v8, q, hf => tX4_hearFrom_b24 d (fX4_hearFrom_l24 n) (fun σ v1 v2 v3 v4 v6 v7 v8 q h9 => tX4_hearFrom_l24 d n σ v1 v2 v3 v4 v6 v7 v8 q h9) σ v1 v2 v3 v4 v6 v7 v8 q hf
set_option maxRecDepth 20000 in
set_option maxHeartbeats 4000000 in
theorem tX4_hearFrom (d : Nat) (σ : SX) (v1 : Int32) (v2 : Int32) (v3 : Int32) (v4 : Int64) (q : SX) (hf : fX4_hearFrom σ v1 v2 v3 v4 = some q) : ev_M ev_mt (d + 3) 33 [.ref 8, .int (v1), .int (v2), .int (v3), .long (v4)] (hX σ) (none, hX q) := by
  refine ev_en (rt := none) (I := eiX4_hearFrom) rfl (Nat.le_of_ble_eq_true rfl) ?_
  change ev_X (d + 2) _ _ (0, [some (.ref 8), some (.int (v1)), some (.int (v2)), some (.int (v3)), some (.long (v4)), none, none, none, none, none], [], hX σ) _
  unfold fX4_hearFrom at hf
  obtain ⟨r1, hr1, hf⟩ := Option.bind_eq_some_iff.mp hf
  refine ev_cli 8 (kk := 65) (as := [.ref 3, .int ((v3 / (4 : Int32))), .int (v1)]) (rest := []) (pc := 12) (ls := [some (.ref 8), some (.int (v1)), some (.int (v2)), some (.int (v3)), some (.long (v4)), none, some (.int ((v3 / (4 : Int32)))), none, none, none]) (st := [.int (v1), .int ((v3 / (4 : Int32))), .ref 3]) (h := hX σ) rfl (tX7_wayTo d σ (v3 / (4 : Int32)) v1 r1 hr1) ?_
  refine ev_go (c' := (24, [some (.ref 8), some (.int (v1)), some (.int (v2)), some (.int (v3)), some (.long (v4)), none, some (.int ((v3 / (4 : Int32)))), some (.int (((r1 - v3) &&& (3 : Int32)))), some (.int ((0 : Int32))), none], [], hX σ)) 6 rfl ?_
  exact ev_dr (a := [some (.ref 8), some (.int (v1)), some (.int (v2)), some (.int (v3)), some (.long (v4)), none, some (.int ((v3 / (4 : Int32)))), some (.int (((r1 - v3) &&& (3 : Int32)))), some (.int ((0 : Int32))), none]) ⟨rfl, ⟨rfl, ⟨rfl, ⟨rfl, ⟨rfl, ⟨rfl, ⟨rfl, ⟨rfl, trivial⟩⟩⟩⟩⟩⟩⟩⟩ (tX4_hearFrom_l24 d 1000 σ v1 v2 v3 v4 (v3 / (4 : Int32)) ((r1 - v3) &&& (3 : Int32)) (0 : Int32) _ hf)
set_option maxRecDepth 20000 in
set_option maxHeartbeats 4000000 in
theorem tX4_foretellCall_b39 (d : Nat) (k6 : SX → Int32 → Int32 → Int32 → Option (SX)) (hk6 : ∀ (σ : SX) (v1 : Int32) (v2 : Int32) (v3 : Int32) (q : SX), k6 σ v1 v2 v3 = some q → ev_X (d + 3) none eiX4_foretellCall (6, [some (.ref 8), some (.int (v1)), some (.int (v2)), some (.int (v3)), none, none], [], hX σ) (none, hX q)) (σ : SX) (v1 : Int32) (v2 : Int32) (v3 : Int32) (q : SX) (hf : fX4_foretellCall_b39 k6 σ v1 v2 v3 = some q) : ev_X (d + 3) none eiX4_foretellCall (39, [some (.ref 8), some (.int (v1)), some (.int (v2)), some (.int (v3)), none, none], [], hX σ) (none, hX q) := by
  unfold fX4_foretellCall_b39 at hf
  refine ev_go (c' := (6, [some (.ref 8), some (.int (v1)), some (.int (v2)), some (.int ((v3 + (1 : Int32)))), none, none], [], hX σ)) 1 rfl ?_
  exact ev_dr (a := [some (.ref 8), some (.int (v1)), some (.int (v2)), some (.int ((v3 + (1 : Int32)))), none, none]) ⟨rfl, ⟨rfl, ⟨rfl, ⟨rfl, trivial⟩⟩⟩⟩ (hk6 σ v1 v2 (v3 + (1 : Int32)) _ hf)
set_option maxRecDepth 20000 in
set_option maxHeartbeats 4000000 in
theorem tX4_foretellCall_b6 (d : Nat) (k6 : SX → Int32 → Int32 → Int32 → Option (SX)) (hk6 : ∀ (σ : SX) (v1 : Int32) (v2 : Int32) (v3 : Int32) (q : SX), k6 σ v1 v2 v3 = some q → ev_X (d + 3) none eiX4_foretellCall (6, [some (.ref 8), some (.int (v1)), some (.int (v2)), some (.int (v3)), none, none], [], hX σ) (none, hX q)) (σ : SX) (v1 : Int32) (v2 : Int32) (v3 : Int32) (q : SX) (hf : fX4_foretellCall_b6 k6 σ v1 v2 v3 = some q) : ev_X (d + 3) none eiX4_foretellCall (6, [some (.ref 8), some (.int (v1)), some (.int (v2)), some (.int (v3)), none, none], [], hX σ) (none, hX q) := by
  unfold fX4_foretellCall_b6 at hf
  refine ev_br 4 (P := v3 < (144 : Int32)) (a := 15) (b := 45) (ls := [some (.ref 8), some (.int (v1)), some (.int (v2)), some (.int (v3)), none, none]) (st := []) (h := hX σ) rfl (fun c1 => ?_) (fun c1 => ?_)
  · rw [if_pos c1] at hf
    obtain ⟨c2, hf⟩ := ev_hp hf
    refine ev_ck 3 (P := ¬ (v3 < 0 ∨ 144 ≤ v3.toNatClampNeg)) (c' := (21, [some (.ref 8), some (.int (v1)), some (.int (v2)), some (.int (v3)), none, none], [.long (((gx_od_weights σ) v3.toNatClampNeg))], hX σ)) rfl c2 ?_
    refine ev_bi 4 (lg_cmp_gt ((gx_od_weights σ) v3.toNatClampNeg) (0 : Int64)) (a := 30) (b := 39) (ls := [some (.ref 8), some (.int (v1)), some (.int (v2)), some (.int (v3)), some (.long (((gx_od_weights σ) v3.toNatClampNeg))), none]) (st := []) (h := hX σ) rfl (fun c3 => ?_) (fun c3 => ?_)
    · rw [if_pos c3] at hf
      obtain ⟨r2, hr2, hf⟩ := Option.bind_eq_some_iff.mp hf
      refine ev_clv 5 (kk := 33) (as := [.ref 8, .int (v1), .int (v2), .int (v3), .long (((gx_od_weights σ) v3.toNatClampNeg))]) (rest := []) (pc := 36) (ls := [some (.ref 8), some (.int (v1)), some (.int (v2)), some (.int (v3)), some (.long (((gx_od_weights σ) v3.toNatClampNeg))), none]) (st := [.long (((gx_od_weights σ) v3.toNatClampNeg)), .int (v3), .int (v2), .int (v1), .ref 8]) (h := hX σ) rfl (tX4_hearFrom d σ v1 v2 v3 ((gx_od_weights σ) v3.toNatClampNeg) r2 hr2) ?_
      exact ev_dr (a := [some (.ref 8), some (.int (v1)), some (.int (v2)), some (.int (v3)), none, none]) ⟨rfl, ⟨rfl, ⟨rfl, ⟨rfl, trivial⟩⟩⟩⟩ (tX4_foretellCall_b39 d k6 hk6 r2 v1 v2 v3 _ hf)
    · rw [if_neg c3] at hf
      exact ev_dr (a := [some (.ref 8), some (.int (v1)), some (.int (v2)), some (.int (v3)), none, none]) ⟨rfl, ⟨rfl, ⟨rfl, ⟨rfl, trivial⟩⟩⟩⟩ (tX4_foretellCall_b39 d k6 hk6 σ v1 v2 v3 _ hf)
  · rw [if_neg c1] at hf
    cases hf
    exact ev_rt 0 rfl
theorem tX4_foretellCall_l6 (d : Nat) : ∀ (n : Nat) (σ : SX) (v1 : Int32) (v2 : Int32) (v3 : Int32) (q : SX), fX4_foretellCall_l6 n σ v1 v2 v3 = some q → ev_X (d + 3) none eiX4_foretellCall (6, [some (.ref 8), some (.int (v1)), some (.int (v2)), some (.int (v3)), none, none], [], hX σ) (none, hX q)
  | 0, _, _, _, _, _, hf => by cases hf
  | n + 1, σ, v1, v2, v3, q, hf => tX4_foretellCall_b6 d (fX4_foretellCall_l6 n) (fun σ v1 v2 v3 q h9 => tX4_foretellCall_l6 d n σ v1 v2 v3 q h9) σ v1 v2 v3 q hf
set_option maxRecDepth 20000 in
set_option maxHeartbeats 4000000 in
theorem tX4_foretellCall (d : Nat) (σ : SX) (v1 : Int32) (v2 : Int32) (q : SX) (hf : fX4_foretellCall σ v1 v2 = some q) : ev_M ev_mt (d + 4) 32 [.ref 8, .int (v1), .int (v2)] (hX σ) (none, hX q) := by
  refine ev_en (rt := none) (I := eiX4_foretellCall) rfl (Nat.le_of_ble_eq_true rfl) ?_
  change ev_X (d + 3) _ _ (0, [some (.ref 8), some (.int (v1)), some (.int (v2)), none, none, none], [], hX σ) _
  unfold fX4_foretellCall at hf
  obtain ⟨r1, hr1, hf⟩ := Option.bind_eq_some_iff.mp hf
  refine ev_clv 1 (kk := 34) (as := [.ref 8]) (rest := []) (pc := 1) (ls := [some (.ref 8), some (.int (v1)), some (.int (v2)), none, none, none]) (st := [.ref 8]) (h := hX σ) rfl (tX4_clearOutcomes (d + 1) σ r1 hr1) ?_
  refine ev_go (c' := (6, [some (.ref 8), some (.int (v1)), some (.int (v2)), some (.int ((0 : Int32))), none, none], [], hX r1)) 1 rfl ?_
  exact ev_dr (a := [some (.ref 8), some (.int (v1)), some (.int (v2)), some (.int ((0 : Int32))), none, none]) ⟨rfl, ⟨rfl, ⟨rfl, ⟨rfl, trivial⟩⟩⟩⟩ (tX4_foretellCall_l6 d 1000 r1 v1 v2 (0 : Int32) _ hf)
set_option maxRecDepth 20000 in
set_option maxHeartbeats 4000000 in
theorem tX11_commonDivisor_b66 (d : Nat) (h : ev_H) (v4 : Int64) (q : Int64) (hf : fX11_commonDivisor_b66 v4 = some q) : ev_X d (some .long) eiX11_commonDivisor (66, [none, none, none, none, some (.long (v4)), none, none, none, none, none, none], [], h) (some (.long q), h) := by
  unfold fX11_commonDivisor_b66 at hf
  cases hf
  exact ev_rt 1 rfl
set_option maxRecDepth 20000 in
set_option maxHeartbeats 4000000 in
theorem tX11_commonDivisor_b31 (d : Nat) (h : ev_H) (k31 : Int64 → Int64 → Int32 → Option (Int64)) (hk31 : ∀ (v4 : Int64) (v6 : Int64) (v8 : Int32) (q : Int64), k31 v4 v6 v8 = some q → ev_X d (some .long) eiX11_commonDivisor (31, [none, none, none, none, some (.long (v4)), none, some (.long (v6)), none, some (.int (v8)), none, none], [], h) (some (.long q), h)) (v4 : Int64) (v6 : Int64) (v8 : Int32) (q : Int64) (hf : fX11_commonDivisor_b31 k31 v4 v6 v8 = some q) : ev_X d (some .long) eiX11_commonDivisor (31, [none, none, none, none, some (.long (v4)), none, some (.long (v6)), none, some (.int (v8)), none, none], [], h) (some (.long q), h) := by
  unfold fX11_commonDivisor_b31 at hf
  refine ev_br 2 (P := v8 < (100 : Int32)) (a := 38) (b := 66) (ls := [none, none, none, none, some (.long (v4)), none, some (.long (v6)), none, some (.int (v8)), none, none]) (st := []) (h := h) rfl (fun c1 => ?_) (fun c1 => ?_)
  · rw [if_pos c1] at hf
    refine ev_bi 3 (lg_cmp_eq v6 (0 : Int64)) (a := 66) (b := 45) (ls := [none, none, none, none, some (.long (v4)), none, some (.long (v6)), none, some (.int (v8)), none, none]) (st := []) (h := h) rfl (fun c2 => ?_) (fun c2 => ?_)
    · rw [if_pos c2] at hf
      exact ev_dr (a := [none, none, none, none, some (.long (v4)), none, none, none, none, none, none]) ⟨rfl, trivial⟩ (tX11_commonDivisor_b66 d h v4 _ hf)
    · rw [if_neg c2] at hf
      obtain ⟨c3, hf⟩ := ev_hp hf
      refine ev_ck 2 (P := ¬ v6 = 0) (c' := (50, [none, none, none, none, some (.long (v4)), none, some (.long (v6)), none, some (.int (v8)), none, none], [.long ((v4 - v4 / v6 * v6))], h)) rfl c3 ?_
      refine ev_go (c' := (31, [none, none, none, none, some (.long (v6)), none, some (.long ((v4 - v4 / v6 * v6))), none, some (.int ((v8 + (1 : Int32)))), some (.long ((v4 - v4 / v6 * v6))), none], [], h)) 6 rfl ?_
      exact ev_dr (a := [none, none, none, none, some (.long (v6)), none, some (.long ((v4 - v4 / v6 * v6))), none, some (.int ((v8 + (1 : Int32)))), none, none]) ⟨rfl, ⟨rfl, ⟨rfl, trivial⟩⟩⟩ (hk31 v6 (v4 - v4 / v6 * v6) (v8 + (1 : Int32)) _ hf)
  · rw [if_neg c1] at hf
    exact ev_dr (a := [none, none, none, none, some (.long (v4)), none, none, none, none, none, none]) ⟨rfl, trivial⟩ (tX11_commonDivisor_b66 d h v4 _ hf)
theorem tX11_commonDivisor_l31 (d : Nat) (h : ev_H) : ∀ (n : Nat) (v4 : Int64) (v6 : Int64) (v8 : Int32) (q : Int64), fX11_commonDivisor_l31 n v4 v6 v8 = some q → ev_X d (some .long) eiX11_commonDivisor (31, [none, none, none, none, some (.long (v4)), none, some (.long (v6)), none, some (.int (v8)), none, none], [], h) (some (.long q), h)
  | 0, _, _, _, _, hf => by cases hf
  | n + 1, v4, v6, v8, q, hf => tX11_commonDivisor_b31 d h (fX11_commonDivisor_l31 n) (fun v4 v6 v8 q h9 => tX11_commonDivisor_l31 d h n v4 v6 v8 q h9) v4 v6 v8 q hf
set_option maxRecDepth 20000 in
set_option maxHeartbeats 4000000 in
theorem tX11_commonDivisor_b26 (d : Nat) (h : ev_H) (v4 : Int64) (w0 : Int64) (q : Int64) (hf : fX11_commonDivisor_b26 v4 w0 = some q) : ev_X d (some .long) eiX11_commonDivisor (26, [none, none, none, none, some (.long (v4)), none, none, none, none, none, none], [.long (w0)], h) (some (.long q), h) := by
  unfold fX11_commonDivisor_b26 at hf
  refine ev_go (c' := (31, [none, none, none, none, some (.long (v4)), none, some (.long (w0)), none, some (.int ((0 : Int32))), none, none], [], h)) 2 rfl ?_
  exact ev_dr (a := [none, none, none, none, some (.long (v4)), none, some (.long (w0)), none, some (.int ((0 : Int32))), none, none]) ⟨rfl, ⟨rfl, ⟨rfl, trivial⟩⟩⟩ (tX11_commonDivisor_l31 d h 1000 v4 w0 (0 : Int32) _ hf)
set_option maxRecDepth 20000 in
set_option maxHeartbeats 4000000 in
theorem tX11_commonDivisor_b12 (d : Nat) (h : ev_H) (v2 : Int64) (w0 : Int64) (q : Int64) (hf : fX11_commonDivisor_b12 v2 w0 = some q) : ev_X d (some .long) eiX11_commonDivisor (12, [none, none, some (.long (v2)), none, none, none, none, none, none, none, none], [.long (w0)], h) (some (.long q), h) := by
  unfold fX11_commonDivisor_b12 at hf
  refine ev_bi 4 (lg_cmp_lt v2 (0 : Int64)) (a := 20) (b := 25) (ls := [none, none, some (.long (v2)), none, some (.long (w0)), none, none, none, none, none, none]) (st := []) (h := h) rfl (fun c1 => ?_) (fun c1 => ?_)
  · rw [if_pos c1] at hf
    refine ev_go (c' := (26, [none, none, some (.long (v2)), none, some (.long (w0)), none, none, none, none, none, none], [.long ((-v2))], h)) 2 rfl ?_
    exact ev_dr (a := [none, none, none, none, some (.long (w0)), none, none, none, none, none, none]) ⟨rfl, trivial⟩ (tX11_commonDivisor_b26 d h w0 (-v2) _ hf)
  · rw [if_neg c1] at hf
    refine ev_go (c' := (26, [none, none, some (.long (v2)), none, some (.long (w0)), none, none, none, none, none, none], [.long (v2)], h)) 0 rfl ?_
    exact ev_dr (a := [none, none, none, none, some (.long (w0)), none, none, none, none, none, none]) ⟨rfl, trivial⟩ (tX11_commonDivisor_b26 d h w0 v2 _ hf)
set_option maxRecDepth 20000 in
set_option maxHeartbeats 4000000 in
theorem tX11_commonDivisor (d : Nat) (h : ev_H) (v0 : Int64) (v2 : Int64) (q : Int64) (hf : fX11_commonDivisor v0 v2 = some q) : ev_M ev_mt (d + 1) 117 [.long (v0), .long (v2)] (h) (some (.long q), h) := by
  refine ev_en (rt := (some .long)) (I := eiX11_commonDivisor) rfl (Nat.le_of_ble_eq_true rfl) ?_
  change ev_X d _ _ (0, [some (.long (v0)), none, some (.long (v2)), none, none, none, none, none, none, none, none], [], h) _
  unfold fX11_commonDivisor at hf
  refine ev_bi 3 (lg_cmp_lt v0 (0 : Int64)) (a := 6) (b := 11) (ls := [some (.long (v0)), none, some (.long (v2)), none, none, none, none, none, none, none, none]) (st := []) (h := h) rfl (fun c1 => ?_) (fun c1 => ?_)
  · rw [if_pos c1] at hf
    refine ev_go (c' := (12, [some (.long (v0)), none, some (.long (v2)), none, none, none, none, none, none, none, none], [.long ((-v0))], h)) 2 rfl ?_
    exact ev_dr (a := [none, none, some (.long (v2)), none, none, none, none, none, none, none, none]) ⟨rfl, trivial⟩ (tX11_commonDivisor_b12 d h v2 (-v0) _ hf)
  · rw [if_neg c1] at hf
    refine ev_go (c' := (12, [some (.long (v0)), none, some (.long (v2)), none, none, none, none, none, none, none, none], [.long (v0)], h)) 0 rfl ?_
    exact ev_dr (a := [none, none, some (.long (v2)), none, none, none, none, none, none, none, none]) ⟨rfl, trivial⟩ (tX11_commonDivisor_b12 d h v2 v0 _ hf)
set_option maxRecDepth 20000 in
set_option maxHeartbeats 4000000 in
theorem tX4_narrowTo_b90 (d : Nat) (σ : SX) (q : Int32 × SX) (hf : fX4_narrowTo_b90 σ = some q) : ev_X (d + 1) (some .int) eiX4_narrowTo (90, [some (.ref 8), none, none, none, none, none], [], hX σ) (some (.int q.1), hX q.2) := by
  unfold fX4_narrowTo_b90 at hf
  refine ev_go (c' := (97, [some (.ref 8), none, none, none, none, none], [.int (((gx_od_updates σ) + (1 : Int32))), .ref 8], hX σ)) 4 rfl ?_
  refine ev_st1 (e := (97, .putfield 33, 3, 4, 0, .null, [(4, 0)], [153])) (c' := (100, [some (.ref 8), none, none, none, none, none], [], hX (sx_od_updates σ ((gx_od_updates σ) + (1 : Int32))))) rfl oy_put_x_od_updates ?_
  obtain ⟨r1, hr1, hf⟩ := Option.bind_eq_some_iff.mp hf
  refine ev_cli 1 (kk := 23) (as := [.ref 8]) (rest := []) (pc := 101) (ls := [some (.ref 8), none, none, none, none, none]) (st := [.ref 8]) (h := hX (sx_od_updates σ ((gx_od_updates σ) + (1 : Int32)))) rfl (tX4_aboveNought d (sx_od_updates σ ((gx_od_updates σ) + (1 : Int32))) r1 hr1) ?_
  cases hf
  exact ev_rt 0 rfl
set_option maxRecDepth 20000 in
set_option maxHeartbeats 4000000 in
theorem tX4_narrowTo_b54 (d : Nat) (k54 : SX → Nat → Int64 → Int32 → Option (Int32 × SX)) (hk54 : ∀ (σ : SX) (v2 : Nat) (v3 : Int64) (v5 : Int32) (q : Int32 × SX), k54 σ v2 v3 v5 = some q → ev_X (d + 1) (some .int) eiX4_narrowTo (54, [some (.ref 8), none, some (.ref (v2 + 12)), some (.long (v3)), none, some (.int (v5))], [], hX σ) (some (.int q.1), hX q.2)) (σ : SX) (v2 : Nat) (v3 : Int64) (v5 : Int32) (q : Int32 × SX) (hf : fX4_narrowTo_b54 k54 σ v2 v3 v5 = some q) : ev_X (d + 1) (some .int) eiX4_narrowTo (54, [some (.ref 8), none, some (.ref (v2 + 12)), some (.long (v3)), none, some (.int (v5))], [], hX σ) (some (.int q.1), hX q.2) := by
  unfold fX4_narrowTo_b54 at hf
  refine ev_br 4 (P := v5 < (144 : Int32)) (a := 64) (b := 90) (ls := [some (.ref 8), none, some (.ref (v2 + 12)), some (.long (v3)), none, some (.int (v5))]) (st := []) (h := hX σ) rfl (fun c1 => ?_) (fun c1 => ?_)
  · rw [if_pos c1] at hf
    obtain ⟨c2, hf⟩ := ev_hp hf
    refine ev_go (c' := (67, [some (.ref 8), none, some (.ref (v2 + 12)), some (.long (v3)), none, some (.int (v5))], [.ref (v2 + 12), .int (v5)], hX σ)) 1 rfl ?_
    refine ev_st1 (e := (67, .arraylength, 1, 0, 0, .null, [], [])) (c' := (68, [some (.ref 8), none, some (.ref (v2 + 12)), some (.long (v3)), none, some (.int (v5))], [.int ((144 : Int32)), .int (v5)], hX σ)) rfl (ox_olen c2) ?_
    refine ev_br 0 (P := v5 < (144 : Int32)) (a := 71) (b := 90) (ls := [some (.ref 8), none, some (.ref (v2 + 12)), some (.long (v3)), none, some (.int (v5))]) (st := []) (h := hX σ) rfl (fun c3 => ?_) (fun c3 => ?_)
    · rw [if_pos c3] at hf
      obtain ⟨c4, hf⟩ := ev_hp hf
      obtain ⟨c5, hf⟩ := ev_hp hf
      refine ev_go (c' := (80, [some (.ref 8), none, some (.ref (v2 + 12)), some (.long (v3)), none, some (.int (v5))], [.int (v5), .ref (v2 + 12), .int (v5), .ref 9], hX σ)) 4 rfl ?_
      refine ev_st1 (e := (80, .laload, 1, 0, 0, .null, [], [])) (c' := (81, [some (.ref 8), none, some (.ref (v2 + 12)), some (.long (v3)), none, some (.int (v5))], [.long (((gx_od_outs σ) v2 v5.toNatClampNeg)), .int (v5), .ref 9], hX σ)) rfl (ox_old c4 c5) ?_
      obtain ⟨c6, hf⟩ := ev_hp hf
      refine ev_ck 1 (P := ¬ v3 = 0) (c' := (83, [some (.ref 8), none, some (.ref (v2 + 12)), some (.long (v3)), none, some (.int (v5))], [.long ((((gx_od_outs σ) v2 v5.toNatClampNeg) / v3)), .int (v5), .ref 9], hX σ)) rfl c6 ?_
      obtain ⟨c7, hf⟩ := ev_hp hf
      refine ev_st1 (e := (83, .lastore, 1, 0, 0, .null, [], [])) (c' := (84, [some (.ref 8), none, some (.ref (v2 + 12)), some (.long (v3)), none, some (.int (v5))], [], hX (sx_od_weights σ (vp_updL (gx_od_weights σ) v5.toNatClampNeg (((gx_od_outs σ) v2 v5.toNatClampNeg) / v3))))) rfl (oy_ast_x_od_weights c7) ?_
      refine ev_go (c' := (54, [some (.ref 8), none, some (.ref (v2 + 12)), some (.long (v3)), none, some (.int ((v5 + (1 : Int32))))], [], hX (sx_od_weights σ (vp_updL (gx_od_weights σ) v5.toNatClampNeg (((gx_od_outs σ) v2 v5.toNatClampNeg) / v3))))) 1 rfl ?_
      exact ev_dr (a := [some (.ref 8), none, some (.ref (v2 + 12)), some (.long (v3)), none, some (.int ((v5 + (1 : Int32))))]) ⟨rfl, ⟨rfl, ⟨rfl, ⟨rfl, trivial⟩⟩⟩⟩ (hk54 (sx_od_weights σ (vp_updL (gx_od_weights σ) v5.toNatClampNeg (((gx_od_outs σ) v2 v5.toNatClampNeg) / v3))) v2 v3 (v5 + (1 : Int32)) _ hf)
    · rw [if_neg c3] at hf
      exact ev_dr (a := [some (.ref 8), none, none, none, none, none]) ⟨rfl, trivial⟩ (tX4_narrowTo_b90 d σ  _ hf)
  · rw [if_neg c1] at hf
    exact ev_dr (a := [some (.ref 8), none, none, none, none, none]) ⟨rfl, trivial⟩ (tX4_narrowTo_b90 d σ  _ hf)
theorem tX4_narrowTo_l54 (d : Nat) : ∀ (n : Nat) (σ : SX) (v2 : Nat) (v3 : Int64) (v5 : Int32) (q : Int32 × SX), fX4_narrowTo_l54 n σ v2 v3 v5 = some q → ev_X (d + 1) (some .int) eiX4_narrowTo (54, [some (.ref 8), none, some (.ref (v2 + 12)), some (.long (v3)), none, some (.int (v5))], [], hX σ) (some (.int q.1), hX q.2)
  | 0, _, _, _, _, _, hf => by cases hf
  | n + 1, σ, v2, v3, v5, q, hf => tX4_narrowTo_b54 d (fX4_narrowTo_l54 n) (fun σ v2 v3 v5 q h9 => tX4_narrowTo_l54 d n σ v2 v3 v5 q h9) σ v2 v3 v5 q hf
set_option maxRecDepth 20000 in
set_option maxHeartbeats 4000000 in
theorem tX4_narrowTo_b42 (d : Nat) (σ : SX) (v2 : Nat) (v3 : Int64) (q : Int32 × SX) (hf : fX4_narrowTo_b42 σ v2 v3 = some q) : ev_X (d + 1) (some .int) eiX4_narrowTo (42, [some (.ref 8), none, some (.ref (v2 + 12)), some (.long (v3)), none, none], [], hX σ) (some (.int q.1), hX q.2) := by
  unfold fX4_narrowTo_b42 at hf
  refine ev_bi 3 (lg_cmp_eq v3 (0 : Int64)) (a := 48) (b := 51) (ls := [some (.ref 8), none, some (.ref (v2 + 12)), some (.long (v3)), none, none]) (st := []) (h := hX σ) rfl (fun c1 => ?_) (fun c1 => ?_)
  · rw [if_pos c1] at hf
    cases hf
    exact ev_rt 1 rfl
  · rw [if_neg c1] at hf
    refine ev_go (c' := (54, [some (.ref 8), none, some (.ref (v2 + 12)), some (.long (v3)), none, some (.int ((0 : Int32)))], [], hX σ)) 1 rfl ?_
    exact ev_dr (a := [some (.ref 8), none, some (.ref (v2 + 12)), some (.long (v3)), none, some (.int ((0 : Int32)))]) ⟨rfl, ⟨rfl, ⟨rfl, ⟨rfl, trivial⟩⟩⟩⟩ (tX4_narrowTo_l54 d 1000 σ v2 v3 (0 : Int32) _ hf)
set_option maxRecDepth 20000 in
set_option maxHeartbeats 4000000 in
theorem tX4_narrowTo_b14 (d : Nat) (k14 : SX → Nat → Int64 → Int32 → Option (Int32 × SX)) (hk14 : ∀ (σ : SX) (v2 : Nat) (v3 : Int64) (v5 : Int32) (q : Int32 × SX), k14 σ v2 v3 v5 = some q → ev_X (d + 1) (some .int) eiX4_narrowTo (14, [some (.ref 8), none, some (.ref (v2 + 12)), some (.long (v3)), none, some (.int (v5))], [], hX σ) (some (.int q.1), hX q.2)) (σ : SX) (v2 : Nat) (v3 : Int64) (v5 : Int32) (q : Int32 × SX) (hf : fX4_narrowTo_b14 k14 σ v2 v3 v5 = some q) : ev_X (d + 1) (some .int) eiX4_narrowTo (14, [some (.ref 8), none, some (.ref (v2 + 12)), some (.long (v3)), none, some (.int (v5))], [], hX σ) (some (.int q.1), hX q.2) := by
  unfold fX4_narrowTo_b14 at hf
  obtain ⟨c1, hf⟩ := ev_hp hf
  refine ev_go (c' := (17, [some (.ref 8), none, some (.ref (v2 + 12)), some (.long (v3)), none, some (.int (v5))], [.ref (v2 + 12), .int (v5)], hX σ)) 1 rfl ?_
  refine ev_st1 (e := (17, .arraylength, 1, 0, 0, .null, [], [])) (c' := (18, [some (.ref 8), none, some (.ref (v2 + 12)), some (.long (v3)), none, some (.int (v5))], [.int ((144 : Int32)), .int (v5)], hX σ)) rfl (ox_olen c1) ?_
  refine ev_br 0 (P := v5 < (144 : Int32)) (a := 21) (b := 42) (ls := [some (.ref 8), none, some (.ref (v2 + 12)), some (.long (v3)), none, some (.int (v5))]) (st := []) (h := hX σ) rfl (fun c2 => ?_) (fun c2 => ?_)
  · rw [if_pos c2] at hf
    refine ev_bi 3 (lg_cmp_eq v3 (1 : Int64)) (a := 42) (b := 27) (ls := [some (.ref 8), none, some (.ref (v2 + 12)), some (.long (v3)), none, some (.int (v5))]) (st := []) (h := hX σ) rfl (fun c3 => ?_) (fun c3 => ?_)
    · rw [if_pos c3] at hf
      exact ev_dr (a := [some (.ref 8), none, some (.ref (v2 + 12)), some (.long (v3)), none, none]) ⟨rfl, ⟨rfl, ⟨rfl, trivial⟩⟩⟩ (tX4_narrowTo_b42 d σ v2 v3 _ hf)
    · rw [if_neg c3] at hf
      obtain ⟨c4, hf⟩ := ev_hp hf
      obtain ⟨c5, hf⟩ := ev_hp hf
      refine ev_go (c' := (30, [some (.ref 8), none, some (.ref (v2 + 12)), some (.long (v3)), none, some (.int (v5))], [.int (v5), .ref (v2 + 12)], hX σ)) 1 rfl ?_
      refine ev_st1 (e := (30, .laload, 1, 0, 0, .null, [], [])) (c' := (31, [some (.ref 8), none, some (.ref (v2 + 12)), some (.long (v3)), none, some (.int (v5))], [.long (((gx_od_outs σ) v2 v5.toNatClampNeg))], hX σ)) rfl (ox_old c4 c5) ?_
      obtain ⟨r2, hr2, hf⟩ := Option.bind_eq_some_iff.mp hf
      refine ev_cll 1 (kk := 117) (as := [.long (((gx_od_outs σ) v2 v5.toNatClampNeg)), .long (v3)]) (rest := []) (pc := 32) (ls := [some (.ref 8), none, some (.ref (v2 + 12)), some (.long (v3)), none, some (.int (v5))]) (st := [.long (v3), .long (((gx_od_outs σ) v2 v5.toNatClampNeg))]) (h := hX σ) rfl (tX11_commonDivisor d (hX σ) ((gx_od_outs σ) v2 v5.toNatClampNeg) v3 r2 hr2) ?_
      refine ev_go (c' := (14, [some (.ref 8), none, some (.ref (v2 + 12)), some (.long (r2)), none, some (.int ((v5 + (1 : Int32))))], [], hX σ)) 2 rfl ?_
      exact ev_dr (a := [some (.ref 8), none, some (.ref (v2 + 12)), some (.long (r2)), none, some (.int ((v5 + (1 : Int32))))]) ⟨rfl, ⟨rfl, ⟨rfl, ⟨rfl, trivial⟩⟩⟩⟩ (hk14 σ v2 r2 (v5 + (1 : Int32)) _ hf)
  · rw [if_neg c2] at hf
    exact ev_dr (a := [some (.ref 8), none, some (.ref (v2 + 12)), some (.long (v3)), none, none]) ⟨rfl, ⟨rfl, ⟨rfl, trivial⟩⟩⟩ (tX4_narrowTo_b42 d σ v2 v3 _ hf)
theorem tX4_narrowTo_l14 (d : Nat) : ∀ (n : Nat) (σ : SX) (v2 : Nat) (v3 : Int64) (v5 : Int32) (q : Int32 × SX), fX4_narrowTo_l14 n σ v2 v3 v5 = some q → ev_X (d + 1) (some .int) eiX4_narrowTo (14, [some (.ref 8), none, some (.ref (v2 + 12)), some (.long (v3)), none, some (.int (v5))], [], hX σ) (some (.int q.1), hX q.2)
  | 0, _, _, _, _, _, hf => by cases hf
  | n + 1, σ, v2, v3, v5, q, hf => tX4_narrowTo_b14 d (fX4_narrowTo_l14 n) (fun σ v2 v3 v5 q h9 => tX4_narrowTo_l14 d n σ v2 v3 v5 q h9) σ v2 v3 v5 q hf
set_option maxRecDepth 20000 in
set_option maxHeartbeats 4000000 in
theorem tX4_narrowTo (d : Nat) (σ : SX) (v1 : Int32) (q : Int32 × SX) (hf : fX4_narrowTo σ v1 = some q) : ev_M ev_mt (d + 2) 36 [.ref 8, .int (v1)] (hX σ) (some (.int q.1), hX q.2) := by
  refine ev_en (rt := (some .int)) (I := eiX4_narrowTo) rfl (Nat.le_of_ble_eq_true rfl) ?_
  change ev_X (d + 1) _ _ (0, [some (.ref 8), some (.int (v1)), none, none, none, none], [], hX σ) _
  unfold fX4_narrowTo at hf
  obtain ⟨c1, hf⟩ := ev_hp hf
  refine ev_ck 5 (P := ¬ ((v1 &&& (3 : Int32)) < 0 ∨ 4 ≤ (v1 &&& (3 : Int32)).toNatClampNeg)) (c' := (8, [some (.ref 8), some (.int (v1)), none, none, none, none], [.ref ((v1 &&& (3 : Int32)).toNatClampNeg + 12)], hX σ)) rfl c1 ?_
  refine ev_go (c' := (14, [some (.ref 8), some (.int (v1)), some (.ref ((v1 &&& (3 : Int32)).toNatClampNeg + 12)), some (.long ((0 : Int64))), none, some (.int ((0 : Int32)))], [], hX σ)) 4 rfl ?_
  exact ev_dr (a := [some (.ref 8), none, some (.ref ((v1 &&& (3 : Int32)).toNatClampNeg + 12)), some (.long ((0 : Int64))), none, some (.int ((0 : Int32)))]) ⟨rfl, ⟨rfl, ⟨rfl, ⟨rfl, trivial⟩⟩⟩⟩ (tX4_narrowTo_l14 d 1000 σ ((v1 &&& (3 : Int32)).toNatClampNeg) (0 : Int64) (0 : Int32) _ hf)
set_option maxRecDepth 20000 in
set_option maxHeartbeats 4000000 in
theorem tX4_sumOfCell_o_b12 (d : Nat) (σ : SX) (q : Int64) (hf : fX4_sumOfCell_o_b12 σ = some q) : ev_X d (some .long) eiX4_sumOfCell (12, [none, none], [], hX σ) (some (.long q), hX σ) := by
  unfold fX4_sumOfCell_o_b12 at hf
  cases hf
  exact ev_rt 1 rfl
set_option maxRecDepth 20000 in
set_option maxHeartbeats 4000000 in
theorem tX4_sumOfCell_o (d : Nat) (σ : SX) (v0 : Nat) (v1 : Int32) (q : Int64) (hf : fX4_sumOfCell_o σ v0 v1 = some q) : ev_M ev_mt (d + 1) 26 [.ref (v0 + 12), .int (v1)] (hX σ) (some (.long q), hX σ) := by
  refine ev_en (rt := (some .long)) (I := eiX4_sumOfCell) rfl (Nat.le_of_ble_eq_true rfl) ?_
  change ev_X d _ _ (0, [some (.ref (v0 + 12)), some (.int (v1))], [], hX σ) _
  unfold fX4_sumOfCell_o at hf
  refine ev_br 1 (P := v1 < 0) (a := 12) (b := 4) (ls := [some (.ref (v0 + 12)), some (.int (v1))]) (st := []) (h := hX σ) rfl (fun c1 => ?_) (fun c1 => ?_)
  · rw [if_pos c1] at hf
    exact ev_dr (a := [none, none]) trivial (tX4_sumOfCell_o_b12 d σ  _ hf)
  · rw [if_neg c1] at hf
    obtain ⟨c2, hf⟩ := ev_hp hf
    refine ev_go (c' := (8, [some (.ref (v0 + 12)), some (.int (v1))], [.ref (v0 + 12), .int ((v1 + (3 : Int32)))], hX σ)) 3 rfl ?_
    refine ev_st1 (e := (8, .arraylength, 1, 0, 0, .null, [], [])) (c' := (9, [some (.ref (v0 + 12)), some (.int (v1))], [.int ((144 : Int32)), .int ((v1 + (3 : Int32)))], hX σ)) rfl (ox_olen c2) ?_
    refine ev_br 0 (P := (v1 + (3 : Int32)) < (144 : Int32)) (a := 14) (b := 12) (ls := [some (.ref (v0 + 12)), some (.int (v1))]) (st := []) (h := hX σ) rfl (fun c3 => ?_) (fun c3 => ?_)
    · rw [if_pos c3] at hf
      obtain ⟨c4, hf⟩ := ev_hp hf
      obtain ⟨c5, hf⟩ := ev_hp hf
      refine ev_go (c' := (16, [some (.ref (v0 + 12)), some (.int (v1))], [.int (v1), .ref (v0 + 12)], hX σ)) 1 rfl ?_
      refine ev_st1 (e := (16, .laload, 1, 0, 0, .null, [], [])) (c' := (17, [some (.ref (v0 + 12)), some (.int (v1))], [.long (((gx_od_outs σ) v0 v1.toNatClampNeg))], hX σ)) rfl (ox_old c4 c5) ?_
      obtain ⟨c6, hf⟩ := ev_hp hf
      obtain ⟨c7, hf⟩ := ev_hp hf
      refine ev_go (c' := (21, [some (.ref (v0 + 12)), some (.int (v1))], [.int ((v1 + (1 : Int32))), .ref (v0 + 12), .long (((gx_od_outs σ) v0 v1.toNatClampNeg))], hX σ)) 3 rfl ?_
      refine ev_st1 (e := (21, .laload, 1, 0, 0, .null, [], [])) (c' := (22, [some (.ref (v0 + 12)), some (.int (v1))], [.long (((gx_od_outs σ) v0 (v1 + (1 : Int32)).toNatClampNeg)), .long (((gx_od_outs σ) v0 v1.toNatClampNeg))], hX σ)) rfl (ox_old c6 c7) ?_
      obtain ⟨c8, hf⟩ := ev_hp hf
      obtain ⟨c9, hf⟩ := ev_hp hf
      refine ev_go (c' := (27, [some (.ref (v0 + 12)), some (.int (v1))], [.int ((v1 + (2 : Int32))), .ref (v0 + 12), .long ((((gx_od_outs σ) v0 v1.toNatClampNeg) + ((gx_od_outs σ) v0 (v1 + (1 : Int32)).toNatClampNeg)))], hX σ)) 4 rfl ?_
      refine ev_st1 (e := (27, .laload, 1, 0, 0, .null, [], [])) (c' := (28, [some (.ref (v0 + 12)), some (.int (v1))], [.long (((gx_od_outs σ) v0 (v1 + (2 : Int32)).toNatClampNeg)), .long ((((gx_od_outs σ) v0 v1.toNatClampNeg) + ((gx_od_outs σ) v0 (v1 + (1 : Int32)).toNatClampNeg)))], hX σ)) rfl (ox_old c8 c9) ?_
      obtain ⟨c10, hf⟩ := ev_hp hf
      obtain ⟨c11, hf⟩ := ev_hp hf
      refine ev_go (c' := (33, [some (.ref (v0 + 12)), some (.int (v1))], [.int ((v1 + (3 : Int32))), .ref (v0 + 12), .long (((((gx_od_outs σ) v0 v1.toNatClampNeg) + ((gx_od_outs σ) v0 (v1 + (1 : Int32)).toNatClampNeg)) + ((gx_od_outs σ) v0 (v1 + (2 : Int32)).toNatClampNeg)))], hX σ)) 4 rfl ?_
      refine ev_st1 (e := (33, .laload, 1, 0, 0, .null, [], [])) (c' := (34, [some (.ref (v0 + 12)), some (.int (v1))], [.long (((gx_od_outs σ) v0 (v1 + (3 : Int32)).toNatClampNeg)), .long (((((gx_od_outs σ) v0 v1.toNatClampNeg) + ((gx_od_outs σ) v0 (v1 + (1 : Int32)).toNatClampNeg)) + ((gx_od_outs σ) v0 (v1 + (2 : Int32)).toNatClampNeg)))], hX σ)) rfl (ox_old c10 c11) ?_
      cases hf
      exact ev_rt 1 rfl
    · rw [if_neg c3] at hf
      exact ev_dr (a := [none, none]) trivial (tX4_sumOfCell_o_b12 d σ  _ hf)
set_option maxRecDepth 20000 in
set_option maxHeartbeats 4000000 in
theorem tX4_likeliestOfAll_b15 (d : Nat) (σ : SX) (k4 : Int64 → Int32 → Option (Int64)) (hk4 : ∀ (v1 : Int64) (v3 : Int32) (q : Int64), k4 v1 v3 = some q → ev_X (d + 1) (some .long) eiX4_likeliestOfAll (4, [some (.ref 8), some (.long (v1)), none, some (.int (v3)), none, none, none], [], hX σ) (some (.long q), hX σ)) (k15 : Int64 → Int32 → Int64 → Int32 → Option (Int64)) (hk15 : ∀ (v1 : Int64) (v3 : Int32) (v4 : Int64) (v6 : Int32) (q : Int64), k15 v1 v3 v4 v6 = some q → ev_X (d + 1) (some .long) eiX4_likeliestOfAll (15, [some (.ref 8), some (.long (v1)), none, some (.int (v3)), some (.long (v4)), none, some (.int (v6))], [], hX σ) (some (.long q), hX σ)) (v1 : Int64) (v3 : Int32) (v4 : Int64) (v6 : Int32) (q : Int64) (hf : fX4_likeliestOfAll_b15 σ k4 k15 v1 v3 v4 v6 = some q) : ev_X (d + 1) (some .long) eiX4_likeliestOfAll (15, [some (.ref 8), some (.long (v1)), none, some (.int (v3)), some (.long (v4)), none, some (.int (v6))], [], hX σ) (some (.long q), hX σ) := by
  unfold fX4_likeliestOfAll_b15 at hf
  refine ev_br 2 (P := v6 < (144 : Int32)) (a := 23) (b := 47) (ls := [some (.ref 8), some (.long (v1)), none, some (.int (v3)), some (.long (v4)), none, some (.int (v6))]) (st := []) (h := hX σ) rfl (fun c1 => ?_) (fun c1 => ?_)
  · rw [if_pos c1] at hf
    obtain ⟨c2, hf⟩ := ev_hp hf
    refine ev_ck 4 (P := ¬ (v3 < 0 ∨ 4 ≤ v3.toNatClampNeg)) (c' := (31, [some (.ref 8), some (.long (v1)), none, some (.int (v3)), some (.long (v4)), none, some (.int (v6))], [.ref (v3.toNatClampNeg + 12), .long (v4)], hX σ)) rfl c2 ?_
    obtain ⟨r1, hr1, hf⟩ := Option.bind_eq_some_iff.mp hf
    refine ev_cll 1 (kk := 26) (as := [.ref (v3.toNatClampNeg + 12), .int (v6)]) (rest := [.long (v4)]) (pc := 33) (ls := [some (.ref 8), some (.long (v1)), none, some (.int (v3)), some (.long (v4)), none, some (.int (v6))]) (st := [.int (v6), .ref (v3.toNatClampNeg + 12), .long (v4)]) (h := hX σ) rfl (tX4_sumOfCell_o d σ v3.toNatClampNeg v6 r1 hr1) ?_
    refine ev_go (c' := (15, [some (.ref 8), some (.long (v1)), none, some (.int (v3)), some (.long ((if r1 < v4 then v4 else r1))), none, some (.int ((v6 + (4 : Int32))))], [], hX σ)) 3 rfl ?_
    exact ev_dr (a := [some (.ref 8), some (.long (v1)), none, some (.int (v3)), some (.long ((if r1 < v4 then v4 else r1))), none, some (.int ((v6 + (4 : Int32))))]) ⟨rfl, ⟨rfl, ⟨rfl, ⟨rfl, ⟨rfl, trivial⟩⟩⟩⟩⟩ (hk15 v1 v3 (if r1 < v4 then v4 else r1) (v6 + (4 : Int32)) _ hf)
  · rw [if_neg c1] at hf
    refine ev_go (c' := (4, [some (.ref 8), some (.long ((v1 + v4))), none, some (.int ((v3 + (1 : Int32)))), some (.long (v4)), none, some (.int (v6))], [], hX σ)) 5 rfl ?_
    exact ev_dr (a := [some (.ref 8), some (.long ((v1 + v4))), none, some (.int ((v3 + (1 : Int32)))), none, none, none]) ⟨rfl, ⟨rfl, ⟨rfl, trivial⟩⟩⟩ (hk4 (v1 + v4) (v3 + (1 : Int32)) _ hf)
theorem tX4_likeliestOfAll_l15 (d : Nat) (σ : SX) (k4 : Int64 → Int32 → Option (Int64)) (hk4 : ∀ (v1 : Int64) (v3 : Int32) (q : Int64), k4 v1 v3 = some q → ev_X (d + 1) (some .long) eiX4_likeliestOfAll (4, [some (.ref 8), some (.long (v1)), none, some (.int (v3)), none, none, none], [], hX σ) (some (.long q), hX σ)) : ∀ (n : Nat) (v1 : Int64) (v3 : Int32) (v4 : Int64) (v6 : Int32) (q : Int64), fX4_likeliestOfAll_l15 σ k4 n v1 v3 v4 v6 = some q → ev_X (d + 1) (some .long) eiX4_likeliestOfAll (15, [some (.ref 8), some (.long (v1)), none, some (.int (v3)), some (.long (v4)), none, some (.int (v6))], [], hX σ) (some (.long q), hX σ)
  | 0, _, _, _, _, _, hf => by cases hf
  | n + 1, v1, v3, v4, v6, q, hf => tX4_likeliestOfAll_b15 d σ k4 hk4 (fX4_likeliestOfAll_l15 σ k4 n) (fun v1 v3 v4 v6 q h9 => tX4_likeliestOfAll_l15 d σ k4 hk4 n v1 v3 v4 v6 q h9) v1 v3 v4 v6 q hf
set_option maxRecDepth 20000 in
set_option maxHeartbeats 4000000 in
theorem tX4_likeliestOfAll_b4 (d : Nat) (σ : SX) (k4 : Int64 → Int32 → Option (Int64)) (hk4 : ∀ (v1 : Int64) (v3 : Int32) (q : Int64), k4 v1 v3 = some q → ev_X (d + 1) (some .long) eiX4_likeliestOfAll (4, [some (.ref 8), some (.long (v1)), none, some (.int (v3)), none, none, none], [], hX σ) (some (.long q), hX σ)) (v1 : Int64) (v3 : Int32) (q : Int64) (hf : fX4_likeliestOfAll_b4 σ k4 v1 v3 = some q) : ev_X (d + 1) (some .long) eiX4_likeliestOfAll (4, [some (.ref 8), some (.long (v1)), none, some (.int (v3)), none, none, none], [], hX σ) (some (.long q), hX σ) := by
  unfold fX4_likeliestOfAll_b4 at hf
  refine ev_br 2 (P := v3 < (4 : Int32)) (a := 9) (b := 58) (ls := [some (.ref 8), some (.long (v1)), none, some (.int (v3)), none, none, none]) (st := []) (h := hX σ) rfl (fun c1 => ?_) (fun c1 => ?_)
  · rw [if_pos c1] at hf
    refine ev_go (c' := (15, [some (.ref 8), some (.long (v1)), none, some (.int (v3)), some (.long ((0 : Int64))), none, some (.int ((0 : Int32)))], [], hX σ)) 3 rfl ?_
    exact ev_dr (a := [some (.ref 8), some (.long (v1)), none, some (.int (v3)), some (.long ((0 : Int64))), none, some (.int ((0 : Int32)))]) ⟨rfl, ⟨rfl, ⟨rfl, ⟨rfl, ⟨rfl, trivial⟩⟩⟩⟩⟩ (tX4_likeliestOfAll_l15 d σ k4 hk4 1000 v1 v3 (0 : Int64) (0 : Int32) _ hf)
  · rw [if_neg c1] at hf
    cases hf
    exact ev_rt 1 rfl
theorem tX4_likeliestOfAll_l4 (d : Nat) (σ : SX) : ∀ (n : Nat) (v1 : Int64) (v3 : Int32) (q : Int64), fX4_likeliestOfAll_l4 σ n v1 v3 = some q → ev_X (d + 1) (some .long) eiX4_likeliestOfAll (4, [some (.ref 8), some (.long (v1)), none, some (.int (v3)), none, none, none], [], hX σ) (some (.long q), hX σ)
  | 0, _, _, _, hf => by cases hf
  | n + 1, v1, v3, q, hf => tX4_likeliestOfAll_b4 d σ (fX4_likeliestOfAll_l4 σ n) (fun v1 v3 q h9 => tX4_likeliestOfAll_l4 d σ n v1 v3 q h9) v1 v3 q hf
set_option maxRecDepth 20000 in
set_option maxHeartbeats 4000000 in
theorem tX4_likeliestOfAll (d : Nat) (σ : SX) (q : Int64) (hf : fX4_likeliestOfAll σ = some q) : ev_M ev_mt (d + 2) 37 [.ref 8] (hX σ) (some (.long q), hX σ) := by
  refine ev_en (rt := (some .long)) (I := eiX4_likeliestOfAll) rfl (Nat.le_of_ble_eq_true rfl) ?_
  change ev_X (d + 1) _ _ (0, [some (.ref 8), none, none, none, none, none, none], [], hX σ) _
  unfold fX4_likeliestOfAll at hf
  refine ev_go (c' := (4, [some (.ref 8), some (.long ((0 : Int64))), none, some (.int ((0 : Int32))), none, none, none], [], hX σ)) 3 rfl ?_
  exact ev_dr (a := [some (.ref 8), some (.long ((0 : Int64))), none, some (.int ((0 : Int32))), none, none, none]) ⟨rfl, ⟨rfl, ⟨rfl, trivial⟩⟩⟩ (tX4_likeliestOfAll_l4 d σ 1000 (0 : Int64) (0 : Int32) _ hf)
