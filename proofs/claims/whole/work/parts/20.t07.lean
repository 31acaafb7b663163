/-! X12_sortAt X12_feltOf X12_stepOne X12_layStep X12_step X12_liesFrom X12_layHeard X12_heard X12_all X12_ofCell X12_isPart X12_odds X12_ways X12_likeliestNow X12_likeliest X12_knows X12_greatestThen X12_expectedNow X12_areMany X12_expected -/
set_option maxRecDepth 20000 in
set_option maxHeartbeats 4000000 in
theorem tX12_sortAt_b23 (d : Nat) (σ : SM) (w0 : Int32) (q : Int32) (hf : fX12_sortAt_b23 σ w0 = some q) : ev_X d (some .int) eiX12_sortAt (23, [none, none], [.int (w0)], hM σ) (some (.int q), hM σ) := by
  unfold fX12_sortAt_b23 at hf
  cases hf
  exact ev_rt 0 rfl
set_option maxRecDepth 20000 in
set_option maxHeartbeats 4000000 in
theorem tX12_sortAt_b13 (d : Nat) (σ : SM) (q : Int32) (hf : fX12_sortAt_b13 σ = some q) : ev_X d (some .int) eiX12_sortAt (13, [none, none], [], hM σ) (some (.int q), hM σ) := by
  unfold fX12_sortAt_b13 at hf
  refine ev_go (c' := (23, [none, none], [.int ((3 : Int32))], hM σ)) 1 rfl ?_
  exact ev_dr (a := [none, none]) trivial (tX12_sortAt_b23 d σ (3 : Int32) _ hf)
set_option maxRecDepth 20000 in
set_option maxHeartbeats 4000000 in
theorem tX12_sortAt (d : Nat) (σ : SM) (v1 : Int32) (q : Int32) (hf : fX12_sortAt σ v1 = some q) : ev_M ev_mt (d + 1) 146 [.ref 0, .int (v1)] (hM σ) (some (.int q), hM σ) := by
  refine ev_en (rt := (some .int)) (I := eiX12_sortAt) rfl (Nat.le_of_ble_eq_true rfl) ?_
  change ev_X d _ _ (0, [some (.ref 0), some (.int (v1))], [], hM σ) _
  unfold fX12_sortAt at hf
  refine ev_br 2 (P := v1 = (-1 : Int32)) (a := 13) (b := 5) (ls := [some (.ref 0), some (.int (v1))]) (st := []) (h := hM σ) rfl (fun c1 => ?_) (fun c1 => ?_)
  · rw [if_pos c1] at hf
    exact ev_dr (a := [none, none]) trivial (tX12_sortAt_b13 d σ  _ hf)
  · rw [if_neg c1] at hf
    refine ev_br 3 (P := v1 = (gm_rp_gonePost σ)) (a := 13) (b := 17) (ls := [some (.ref 0), some (.int (v1))]) (st := []) (h := hM σ) rfl (fun c2 => ?_) (fun c2 => ?_)
    · rw [if_pos c2] at hf
      exact ev_dr (a := [none, none]) trivial (tX12_sortAt_b13 d σ  _ hf)
    · rw [if_neg c2] at hf
      obtain ⟨c3, hf⟩ := ev_hp hf
      refine ev_ck 3 (P := ¬ (v1 < 0 ∨ 36 ≤ v1.toNatClampNeg)) (c' := (23, [some (.ref 0), some (.int (v1))], [.int (((gm_rg_cellOf σ) v1.toNatClampNeg))], hM σ)) rfl c3 ?_
      exact ev_dr (a := [none, none]) trivial (tX12_sortAt_b23 d σ ((gm_rg_cellOf σ) v1.toNatClampNeg) _ hf)
set_option maxRecDepth 20000 in
set_option maxHeartbeats 4000000 in
theorem tX12_feltOf_b27 (d : Nat) (h : ev_H) (w0 : Int32) (q : Int32) (hf : fX12_feltOf_b27 w0 = some q) : ev_X d (some .int) eiX12_feltOf (27, [none], [.int (w0)], h) (some (.int q), h) := by
  unfold fX12_feltOf_b27 at hf
  cases hf
  exact ev_rt 0 rfl
set_option maxRecDepth 20000 in
set_option maxHeartbeats 4000000 in
theorem tX12_feltOf (d : Nat) (h : ev_H) (v0 : Int32) (q : Int32) (hf : fX12_feltOf v0 = some q) : ev_M ev_mt (d + 1) 147 [.int (v0)] (h) (some (.int q), h) := by
  refine ev_en (rt := (some .int)) (I := eiX12_feltOf) rfl (Nat.le_of_ble_eq_true rfl) ?_
  change ev_X d _ _ (0, [some (.int (v0))], [], h) _
  unfold fX12_feltOf at hf
  refine ev_br 1 (P := v0 = 0) (a := 4) (b := 8) (ls := [some (.int (v0))]) (st := []) (h := h) rfl (fun c1 => ?_) (fun c1 => ?_)
  · rw [if_pos c1] at hf
    refine ev_go (c' := (27, [some (.int (v0))], [.int ((0 : Int32))], h)) 1 rfl ?_
    exact ev_dr (a := [none]) trivial (tX12_feltOf_b27 d h (0 : Int32) _ hf)
  · rw [if_neg c1] at hf
    refine ev_br 2 (P := v0 = (3 : Int32)) (a := 13) (b := 17) (ls := [some (.int (v0))]) (st := []) (h := h) rfl (fun c2 => ?_) (fun c2 => ?_)
    · rw [if_pos c2] at hf
      refine ev_go (c' := (27, [some (.int (v0))], [.int ((1 : Int32))], h)) 1 rfl ?_
      exact ev_dr (a := [none]) trivial (tX12_feltOf_b27 d h (1 : Int32) _ hf)
    · rw [if_neg c2] at hf
      refine ev_br 2 (P := v0 = (2 : Int32)) (a := 22) (b := 26) (ls := [some (.int (v0))]) (st := []) (h := h) rfl (fun c3 => ?_) (fun c3 => ?_)
      · rw [if_pos c3] at hf
        refine ev_go (c' := (27, [some (.int (v0))], [.int ((2 : Int32))], h)) 1 rfl ?_
        exact ev_dr (a := [none]) trivial (tX12_feltOf_b27 d h (2 : Int32) _ hf)
      · rw [if_neg c3] at hf
        refine ev_go (c' := (27, [some (.int (v0))], [.int ((3 : Int32))], h)) 0 rfl ?_
        exact ev_dr (a := [none]) trivial (tX12_feltOf_b27 d h (3 : Int32) _ hf)
set_option maxRecDepth 20000 in
set_option maxHeartbeats 4000000 in
theorem tX12_stepOne_b67 (d : Nat) (σ : SM) (q : SM) (hf : fX12_stepOne_b67 σ = some q) : ev_X (d + 2) none eiX12_stepOne (67, [none, none, none, none, none, none, none, none], [], hM σ) (none, hM q) := by
  unfold fX12_stepOne_b67 at hf
  cases hf
  exact ev_rt 0 rfl
set_option maxRecDepth 20000 in
set_option maxHeartbeats 4000000 in
theorem tX12_stepOne_b42 (d : Nat) (σ : SM) (v1 : Int32) (v2 : Int32) (v3 : Int32) (w0 : Int32) (q : SM) (hf : fX12_stepOne_b42 σ v1 v2 v3 w0 = some q) : ev_X (d + 2) none eiX12_stepOne (42, [some (.ref 0), some (.int (v1)), some (.int (v2)), some (.int (v3)), none, none, none, none], [.int (w0)], hM σ) (none, hM q) := by
  unfold fX12_stepOne_b42 at hf
  obtain ⟨c1, hf⟩ := ev_hp hf
  refine ev_ck 9 (P := ¬ ((((4 : Int32) * w0) + v2) < 0 ∨ 144 ≤ (((4 : Int32) * w0) + v2).toNatClampNeg)) (c' := (56, [some (.ref 0), some (.int (v1)), some (.int (v2)), some (.int (v3)), none, none, none, some (.int (w0))], [.long (((gm_od_then σ) (((4 : Int32) * w0) + v2).toNatClampNeg)), .int ((((4 : Int32) * w0) + v2)), .ref 3], hM σ)) rfl c1 ?_
  obtain ⟨c2, hf⟩ := ev_hp hf
  refine ev_ck 5 (P := ¬ (v1 < 0 ∨ 144 ≤ v1.toNatClampNeg)) (c' := (64, [some (.ref 0), some (.int (v1)), some (.int (v2)), some (.int (v3)), none, none, none, some (.int (w0))], [.long (((gm_od_weight σ) v1.toNatClampNeg)), .long (v3.toInt64), .long (((gm_od_then σ) (((4 : Int32) * w0) + v2).toNatClampNeg)), .int ((((4 : Int32) * w0) + v2)), .ref 3], hM σ)) rfl c2 ?_
  obtain ⟨c3, hf⟩ := ev_hp hf
  refine ev_go (c' := (66, [some (.ref 0), some (.int (v1)), some (.int (v2)), some (.int (v3)), none, none, none, some (.int (w0))], [.long ((((gm_od_then σ) (((4 : Int32) * w0) + v2).toNatClampNeg) + (v3.toInt64 * ((gm_od_weight σ) v1.toNatClampNeg)))), .int ((((4 : Int32) * w0) + v2)), .ref 3], hM σ)) 1 rfl ?_
  refine ev_st1 (e := (66, .lastore, 1, 0, 0, .null, [], [])) (c' := (67, [some (.ref 0), some (.int (v1)), some (.int (v2)), some (.int (v3)), none, none, none, some (.int (w0))], [], hM (sm_od_then σ (vp_updL (gm_od_then σ) (((4 : Int32) * w0) + v2).toNatClampNeg (((gm_od_then σ) (((4 : Int32) * w0) + v2).toNatClampNeg) + (v3.toInt64 * ((gm_od_weight σ) v1.toNatClampNeg))))))) rfl (oy_ast_m_od_then c3) ?_
  exact ev_dr (a := [none, none, none, none, none, none, none, none]) trivial (tX12_stepOne_b67 d (sm_od_then σ (vp_updL (gm_od_then σ) (((4 : Int32) * w0) + v2).toNatClampNeg (((gm_od_then σ) (((4 : Int32) * w0) + v2).toNatClampNeg) + (v3.toInt64 * ((gm_od_weight σ) v1.toNatClampNeg)))))  _ hf)
set_option maxRecDepth 20000 in
set_option maxHeartbeats 4000000 in
theorem tX12_stepOne (d : Nat) (σ : SM) (v1 : Int32) (v2 : Int32) (v3 : Int32) (v4 : Int32) (q : SM) (hf : fX12_stepOne σ v1 v2 v3 v4 = some q) : ev_M ev_mt (d + 3) 148 [.ref 0, .int (v1), .int (v2), .int (v3), .int (v4)] (hM σ) (none, hM q) := by
  refine ev_en (rt := none) (I := eiX12_stepOne) rfl (Nat.le_of_ble_eq_true rfl) ?_
  change ev_X (d + 2) _ _ (0, [some (.ref 0), some (.int (v1)), some (.int (v2)), some (.int (v3)), some (.int (v4)), none, none, none], [], hM σ) _
  unfold fX12_stepOne at hf
  obtain ⟨r1, hr1, hf⟩ := Option.bind_eq_some_iff.mp hf
  refine ev_cli 5 (kk := 137) (as := [.ref 0, .int ((v1 / (4 : Int32))), .int (v2)]) (rest := []) (pc := 5) (ls := [some (.ref 0), some (.int (v1)), some (.int (v2)), some (.int (v3)), some (.int (v4)), none, none, none]) (st := [.int (v2), .int ((v1 / (4 : Int32))), .ref 0]) (h := hM σ) rfl (tX12_on d σ (v1 / (4 : Int32)) v2 r1 hr1) ?_
  obtain ⟨r2, hr2, hf⟩ := Option.bind_eq_some_iff.mp hf
  refine ev_cli 3 (kk := 146) (as := [.ref 0, .int (r1)]) (rest := []) (pc := 13) (ls := [some (.ref 0), some (.int (v1)), some (.int (v2)), some (.int (v3)), some (.int (v4)), some (.int (r1)), none, none]) (st := [.int (r1), .ref 0]) (h := hM σ) rfl (tX12_sortAt (d + 1) σ r1 r2 hr2) ?_
  obtain ⟨r3, hr3, hf⟩ := Option.bind_eq_some_iff.mp hf
  refine ev_cli 2 (kk := 147) (as := [.int (r2)]) (rest := []) (pc := 20) (ls := [some (.ref 0), some (.int (v1)), some (.int (v2)), some (.int (v3)), some (.int (v4)), some (.int (r1)), some (.int (r2)), none]) (st := [.int (r2)]) (h := hM σ) rfl (tX12_feltOf (d + 1) (hM σ) r2 r3 hr3) ?_
  refine ev_br 1 (P := r3 = v4) (a := 28) (b := 67) (ls := [some (.ref 0), some (.int (v1)), some (.int (v2)), some (.int (v3)), some (.int (v4)), some (.int (r1)), some (.int (r2)), none]) (st := []) (h := hM σ) rfl (fun c1 => ?_) (fun c1 => ?_)
  · rw [if_pos c1] at hf
    refine ev_br 2 (P := r2 < (2 : Int32)) (a := 34) (b := 39) (ls := [some (.ref 0), some (.int (v1)), some (.int (v2)), some (.int (v3)), some (.int (v4)), some (.int (r1)), some (.int (r2)), none]) (st := []) (h := hM σ) rfl (fun c2 => ?_) (fun c2 => ?_)
    · rw [if_pos c2] at hf
      refine ev_go (c' := (42, [some (.ref 0), some (.int (v1)), some (.int (v2)), some (.int (v3)), some (.int (v4)), some (.int (r1)), some (.int (r2)), none], [.int (r1)], hM σ)) 1 rfl ?_
      exact ev_dr (a := [some (.ref 0), some (.int (v1)), some (.int (v2)), some (.int (v3)), none, none, none, none]) ⟨rfl, ⟨rfl, ⟨rfl, ⟨rfl, trivial⟩⟩⟩⟩ (tX12_stepOne_b42 d σ v1 v2 v3 r1 _ hf)
    · rw [if_neg c2] at hf
      refine ev_go (c' := (42, [some (.ref 0), some (.int (v1)), some (.int (v2)), some (.int (v3)), some (.int (v4)), some (.int (r1)), some (.int (r2)), none], [.int ((v1 / (4 : Int32)))], hM σ)) 2 rfl ?_
      exact ev_dr (a := [some (.ref 0), some (.int (v1)), some (.int (v2)), some (.int (v3)), none, none, none, none]) ⟨rfl, ⟨rfl, ⟨rfl, ⟨rfl, trivial⟩⟩⟩⟩ (tX12_stepOne_b42 d σ v1 v2 v3 (v1 / (4 : Int32)) _ hf)
  · rw [if_neg c1] at hf
    exact ev_dr (a := [none, none, none, none, none, none, none, none]) trivial (tX12_stepOne_b67 d σ  _ hf)
set_option maxRecDepth 20000 in
set_option maxHeartbeats 4000000 in
theorem tX12_layStep_b81 (d : Nat) (k7 : SM → Int32 → Int32 → Int32 → Int32 → Option (SM)) (hk7 : ∀ (σ : SM) (v1 : Int32) (v2 : Int32) (v3 : Int32) (v4 : Int32) (q : SM), k7 σ v1 v2 v3 v4 = some q → ev_X (d + 3) none eiX12_layStep (7, [some (.ref 0), some (.int (v1)), some (.int (v2)), some (.int (v3)), some (.int (v4)), none], [], hM σ) (none, hM q)) (σ : SM) (v1 : Int32) (v2 : Int32) (v3 : Int32) (v4 : Int32) (q : SM) (hf : fX12_layStep_b81 k7 σ v1 v2 v3 v4 = some q) : ev_X (d + 3) none eiX12_layStep (81, [some (.ref 0), some (.int (v1)), some (.int (v2)), some (.int (v3)), some (.int (v4)), none], [], hM σ) (none, hM q) := by
  unfold fX12_layStep_b81 at hf
  refine ev_go (c' := (7, [some (.ref 0), some (.int (v1)), some (.int (v2)), some (.int (v3)), some (.int ((v4 + (1 : Int32)))), none], [], hM σ)) 1 rfl ?_
  exact ev_dr (a := [some (.ref 0), some (.int (v1)), some (.int (v2)), some (.int (v3)), some (.int ((v4 + (1 : Int32)))), none]) ⟨rfl, ⟨rfl, ⟨rfl, ⟨rfl, ⟨rfl, trivial⟩⟩⟩⟩⟩ (hk7 σ v1 v2 v3 (v4 + (1 : Int32)) _ hf)
set_option maxRecDepth 20000 in
set_option maxHeartbeats 4000000 in
theorem tX12_layStep_b7 (d : Nat) (k7 : SM → Int32 → Int32 → Int32 → Int32 → Option (SM)) (hk7 : ∀ (σ : SM) (v1 : Int32) (v2 : Int32) (v3 : Int32) (v4 : Int32) (q : SM), k7 σ v1 v2 v3 v4 = some q → ev_X (d + 3) none eiX12_layStep (7, [some (.ref 0), some (.int (v1)), some (.int (v2)), some (.int (v3)), some (.int (v4)), none], [], hM σ) (none, hM q)) (σ : SM) (v1 : Int32) (v2 : Int32) (v3 : Int32) (v4 : Int32) (q : SM) (hf : fX12_layStep_b7 k7 σ v1 v2 v3 v4 = some q) : ev_X (d + 3) none eiX12_layStep (7, [some (.ref 0), some (.int (v1)), some (.int (v2)), some (.int (v3)), some (.int (v4)), none], [], hM σ) (none, hM q) := by
  unfold fX12_layStep_b7 at hf
  obtain ⟨r2, hr2, hf⟩ := Option.bind_eq_some_iff.mp hf
  refine ev_cli 3 (kk := 133) (as := [.ref 0]) (rest := [.int ((4 : Int32)), .int (v4)]) (pc := 11) (ls := [some (.ref 0), some (.int (v1)), some (.int (v2)), some (.int (v3)), some (.int (v4)), none]) (st := [.ref 0, .int ((4 : Int32)), .int (v4)]) (h := hM σ) rfl (tX12_cells (d + 2) σ r2 hr2) ?_
  refine ev_br 1 (P := v4 < ((4 : Int32) * r2)) (a := 18) (b := 87) (ls := [some (.ref 0), some (.int (v1)), some (.int (v2)), some (.int (v3)), some (.int (v4)), none]) (st := []) (h := hM σ) rfl (fun c1 => ?_) (fun c1 => ?_)
  · rw [if_pos c1] at hf
    obtain ⟨c2, hf⟩ := ev_hp hf
    refine ev_ck 3 (P := ¬ (v4 < 0 ∨ 144 ≤ v4.toNatClampNeg)) (c' := (25, [some (.ref 0), some (.int (v1)), some (.int (v2)), some (.int (v3)), some (.int (v4)), none], [.long (((gm_od_weight σ) v4.toNatClampNeg))], hM σ)) rfl c2 ?_
    refine ev_bi 2 (lg_cmp_gt ((gm_od_weight σ) v4.toNatClampNeg) (0 : Int64)) (a := 30) (b := 81) (ls := [some (.ref 0), some (.int (v1)), some (.int (v2)), some (.int (v3)), some (.int (v4)), none]) (st := []) (h := hM σ) rfl (fun c3 => ?_) (fun c3 => ?_)
    · rw [if_pos c3] at hf
      obtain ⟨r3, hr3, hf⟩ := Option.bind_eq_some_iff.mp hf
      refine ev_clv 15 (kk := 148) (as := [.ref 0, .int (v4), .int (((v4 + v1) - (v4 + v1) / (4 : Int32) * (4 : Int32))), .int (((10 : Int32) - ((2 : Int32) * v2))), .int (v3)]) (rest := []) (pc := 50) (ls := [some (.ref 0), some (.int (v1)), some (.int (v2)), some (.int (v3)), some (.int (v4)), some (.int (((v4 + v1) - (v4 + v1) / (4 : Int32) * (4 : Int32))))]) (st := [.int (v3), .int (((10 : Int32) - ((2 : Int32) * v2))), .int (((v4 + v1) - (v4 + v1) / (4 : Int32) * (4 : Int32))), .int (v4), .ref 0]) (h := hM σ) rfl (tX12_stepOne d σ v4 ((v4 + v1) - (v4 + v1) / (4 : Int32) * (4 : Int32)) ((10 : Int32) - ((2 : Int32) * v2)) v3 r3 hr3) ?_
      obtain ⟨r4, hr4, hf⟩ := Option.bind_eq_some_iff.mp hf
      refine ev_clv 9 (kk := 148) (as := [.ref 0, .int (v4), .int (((((v4 + v1) - (v4 + v1) / (4 : Int32) * (4 : Int32)) + (3 : Int32)) - (((v4 + v1) - (v4 + v1) / (4 : Int32) * (4 : Int32)) + (3 : Int32)) / (4 : Int32) * (4 : Int32))), .int (v2), .int (v3)]) (rest := []) (pc := 64) (ls := [some (.ref 0), some (.int (v1)), some (.int (v2)), some (.int (v3)), some (.int (v4)), some (.int (((v4 + v1) - (v4 + v1) / (4 : Int32) * (4 : Int32))))]) (st := [.int (v3), .int (v2), .int (((((v4 + v1) - (v4 + v1) / (4 : Int32) * (4 : Int32)) + (3 : Int32)) - (((v4 + v1) - (v4 + v1) / (4 : Int32) * (4 : Int32)) + (3 : Int32)) / (4 : Int32) * (4 : Int32))), .int (v4), .ref 0]) (h := hM r3) rfl (tX12_stepOne d r3 v4 ((((v4 + v1) - (v4 + v1) / (4 : Int32) * (4 : Int32)) + (3 : Int32)) - (((v4 + v1) - (v4 + v1) / (4 : Int32) * (4 : Int32)) + (3 : Int32)) / (4 : Int32) * (4 : Int32)) v2 v3 r4 hr4) ?_
      obtain ⟨r5, hr5, hf⟩ := Option.bind_eq_some_iff.mp hf
      refine ev_clv 9 (kk := 148) (as := [.ref 0, .int (v4), .int (((((v4 + v1) - (v4 + v1) / (4 : Int32) * (4 : Int32)) + (1 : Int32)) - (((v4 + v1) - (v4 + v1) / (4 : Int32) * (4 : Int32)) + (1 : Int32)) / (4 : Int32) * (4 : Int32))), .int (v2), .int (v3)]) (rest := []) (pc := 78) (ls := [some (.ref 0), some (.int (v1)), some (.int (v2)), some (.int (v3)), some (.int (v4)), some (.int (((v4 + v1) - (v4 + v1) / (4 : Int32) * (4 : Int32))))]) (st := [.int (v3), .int (v2), .int (((((v4 + v1) - (v4 + v1) / (4 : Int32) * (4 : Int32)) + (1 : Int32)) - (((v4 + v1) - (v4 + v1) / (4 : Int32) * (4 : Int32)) + (1 : Int32)) / (4 : Int32) * (4 : Int32))), .int (v4), .ref 0]) (h := hM r4) rfl (tX12_stepOne d r4 v4 ((((v4 + v1) - (v4 + v1) / (4 : Int32) * (4 : Int32)) + (1 : Int32)) - (((v4 + v1) - (v4 + v1) / (4 : Int32) * (4 : Int32)) + (1 : Int32)) / (4 : Int32) * (4 : Int32)) v2 v3 r5 hr5) ?_
      exact ev_dr (a := [some (.ref 0), some (.int (v1)), some (.int (v2)), some (.int (v3)), some (.int (v4)), none]) ⟨rfl, ⟨rfl, ⟨rfl, ⟨rfl, ⟨rfl, trivial⟩⟩⟩⟩⟩ (tX12_layStep_b81 d k7 hk7 r5 v1 v2 v3 v4 _ hf)
    · rw [if_neg c3] at hf
      exact ev_dr (a := [some (.ref 0), some (.int (v1)), some (.int (v2)), some (.int (v3)), some (.int (v4)), none]) ⟨rfl, ⟨rfl, ⟨rfl, ⟨rfl, ⟨rfl, trivial⟩⟩⟩⟩⟩ (tX12_layStep_b81 d k7 hk7 σ v1 v2 v3 v4 _ hf)
  · rw [if_neg c1] at hf
    cases hf
    exact ev_rt 0 rfl
theorem tX12_layStep_l7 (d : Nat) : ∀ (n : Nat) (σ : SM) (v1 : Int32) (v2 : Int32) (v3 : Int32) (v4 : Int32) (q : SM), fX12_layStep_l7 n σ v1 v2 v3 v4 = some q → ev_X (d + 3) none eiX12_layStep (7, [some (.ref 0), some (.int (v1)), some (.int (v2)), some (.int (v3)), some (.int (v4)), none], [], hM σ) (none, hM q)
  | 0, _, _, _, _, _, _, hf => by cases hf
  | n + 1, σ, v1, v2, v3, v4, q, hf => tX12_layStep_b7 d (fX12_layStep_l7 n) (fun σ v1 v2 v3 v4 q h9 => tX12_layStep_l7 d n σ v1 v2 v3 v4 q h9) σ v1 v2 v3 v4 q hf
set_option maxRecDepth 20000 in
set_option maxHeartbeats 4000000 in
theorem tX12_layStep (d : Nat) (σ : SM) (v1 : Int32) (v2 : Int32) (v3 : Int32) (q : SM) (hf : fX12_layStep σ v1 v2 v3 = some q) : ev_M ev_mt (d + 4) 149 [.ref 0, .int (v1), .int (v2), .int (v3)] (hM σ) (none, hM q) := by
  refine ev_en (rt := none) (I := eiX12_layStep) rfl (Nat.le_of_ble_eq_true rfl) ?_
  change ev_X (d + 3) _ _ (0, [some (.ref 0), some (.int (v1)), some (.int (v2)), some (.int (v3)), none, none], [], hM σ) _
  unfold fX12_layStep at hf
  obtain ⟨r1, hr1, hf⟩ := Option.bind_eq_some_iff.mp hf
  refine ev_clv 1 (kk := 139) (as := [.ref 0]) (rest := []) (pc := 1) (ls := [some (.ref 0), some (.int (v1)), some (.int (v2)), some (.int (v3)), none, none]) (st := [.ref 0]) (h := hM σ) rfl (tX12_clear (d + 2) σ r1 hr1) ?_
  refine ev_go (c' := (7, [some (.ref 0), some (.int (v1)), some (.int (v2)), some (.int (v3)), some (.int ((0 : Int32))), none], [], hM r1)) 1 rfl ?_
  exact ev_dr (a := [some (.ref 0), some (.int (v1)), some (.int (v2)), some (.int (v3)), some (.int ((0 : Int32))), none]) ⟨rfl, ⟨rfl, ⟨rfl, ⟨rfl, ⟨rfl, trivial⟩⟩⟩⟩⟩ (tX12_layStep_l7 d 1000 r1 v1 v2 v3 (0 : Int32) _ hf)
set_option maxRecDepth 20000 in
set_option maxHeartbeats 4000000 in
theorem tX12_step_b66 (d : Nat) (σ : SM) (w0 : Int32) (q : Int32 × SM) (hf : fX12_step_b66 σ w0 = some q) : ev_X (d + 4) (some .int) eiX12_step (66, [none, none, none, none], [.int (w0)], hM σ) (some (.int q.1), hM q.2) := by
  unfold fX12_step_b66 at hf
  cases hf
  exact ev_rt 0 rfl
set_option maxRecDepth 20000 in
set_option maxHeartbeats 4000000 in
theorem tX12_step_b28 (d : Nat) (σ : SM) (q : Int32 × SM) (hf : fX12_step_b28 σ = some q) : ev_X (d + 4) (some .int) eiX12_step (28, [none, none, none, none], [], hM σ) (some (.int q.1), hM q.2) := by
  unfold fX12_step_b28 at hf
  cases hf
  exact ev_rt 1 rfl
set_option maxRecDepth 20000 in
set_option maxHeartbeats 4000000 in
theorem tX12_step (d : Nat) (σ : SM) (v1 : Int32) (v2 : Int32) (q : Int32 × SM) (hf : fX12_step σ v1 v2 = some q) : ev_M ev_mt (d + 5) 150 [.ref 0, .int (v1), .int (v2)] (hM σ) (some (.int q.1), hM q.2) := by
  refine ev_en (rt := (some .int)) (I := eiX12_step) rfl (Nat.le_of_ble_eq_true rfl) ?_
  change ev_X (d + 4) _ _ (0, [some (.ref 0), some (.int (v1)), some (.int (v2)), none], [], hM σ) _
  unfold fX12_step at hf
  refine ev_br 2 (P := (gm_rg_rings σ) = 0) (a := 7) (b := 10) (ls := [some (.ref 0), some (.int (v1)), some (.int (v2)), none]) (st := []) (h := hM σ) rfl (fun c1 => ?_) (fun c1 => ?_)
  · rw [if_pos c1] at hf
    cases hf
    exact ev_rt 1 rfl
  · rw [if_neg c1] at hf
    obtain ⟨r1, hr1, hf⟩ := Option.bind_eq_some_iff.mp hf
    refine ev_cli 3 (kk := 123) (as := [.int (v1), .int ((0 : Int32)), .int ((5 : Int32))]) (rest := []) (pc := 13) (ls := [some (.ref 0), some (.int (v1)), some (.int (v2)), none]) (st := [.int ((5 : Int32)), .int ((0 : Int32)), .int (v1)]) (h := hM σ) rfl (tX12_within (d + 3) (hM σ) v1 (0 : Int32) (5 : Int32) r1 hr1) ?_
    refine ev_br 0 (P := r1 = 0) (a := 28) (b := 19) (ls := [some (.ref 0), some (.int (v1)), some (.int (v2)), none]) (st := []) (h := hM σ) rfl (fun c2 => ?_) (fun c2 => ?_)
    · rw [if_pos c2] at hf
      exact ev_dr (a := [none, none, none, none]) trivial (tX12_step_b28 d σ  _ hf)
    · rw [if_neg c2] at hf
      obtain ⟨r2, hr2, hf⟩ := Option.bind_eq_some_iff.mp hf
      refine ev_cli 3 (kk := 123) (as := [.int (v2), .int ((0 : Int32)), .int ((3 : Int32))]) (rest := []) (pc := 22) (ls := [some (.ref 0), some (.int (v1)), some (.int (v2)), none]) (st := [.int ((3 : Int32)), .int ((0 : Int32)), .int (v2)]) (h := hM σ) rfl (tX12_within (d + 3) (hM σ) v2 (0 : Int32) (3 : Int32) r2 hr2) ?_
      refine ev_br 0 (P := r2 = 0) (a := 28) (b := 31) (ls := [some (.ref 0), some (.int (v1)), some (.int (v2)), none]) (st := []) (h := hM σ) rfl (fun c3 => ?_) (fun c3 => ?_)
      · rw [if_pos c3] at hf
        exact ev_dr (a := [none, none, none, none]) trivial (tX12_step_b28 d σ  _ hf)
      · rw [if_neg c3] at hf
        refine ev_br 3 (P := (gm_od_updates σ) = (9 : Int32)) (a := 40) (b := 43) (ls := [some (.ref 0), some (.int (v1)), some (.int (v2)), none]) (st := []) (h := hM σ) rfl (fun c4 => ?_) (fun c4 => ?_)
        · rw [if_pos c4] at hf
          cases hf
          exact ev_rt 1 rfl
        · rw [if_neg c4] at hf
          obtain ⟨r3, hr3, hf⟩ := Option.bind_eq_some_iff.mp hf
          refine ev_clv 4 (kk := 149) (as := [.ref 0, .int ((0 : Int32)), .int (v1), .int (v2)]) (rest := []) (pc := 47) (ls := [some (.ref 0), some (.int (v1)), some (.int (v2)), none]) (st := [.int (v2), .int (v1), .int ((0 : Int32)), .ref 0]) (h := hM σ) rfl (tX12_layStep d σ (0 : Int32) v1 v2 r3 hr3) ?_
          obtain ⟨r4, hr4, hf⟩ := Option.bind_eq_some_iff.mp hf
          refine ev_cli 1 (kk := 144) (as := [.ref 0]) (rest := []) (pc := 51) (ls := [some (.ref 0), some (.int (v1)), some (.int (v2)), none]) (st := [.ref 0]) (h := hM r3) rfl (tX12_take (d + 2) r3 r4 hr4) ?_
          refine ev_br 3 (P := r4.1 = (-1 : Int32)) (a := 60) (b := 65) (ls := [some (.ref 0), some (.int (v1)), some (.int (v2)), some (.int (r4.1))]) (st := []) (h := hM r4.2) rfl (fun c5 => ?_) (fun c5 => ?_)
          · rw [if_pos c5] at hf
            refine ev_go (c' := (66, [some (.ref 0), some (.int (v1)), some (.int (v2)), some (.int (r4.1))], [.int ((-103 : Int32))], hM r4.2)) 1 rfl ?_
            exact ev_dr (a := [none, none, none, none]) trivial (tX12_step_b66 d r4.2 (-103 : Int32) _ hf)
          · rw [if_neg c5] at hf
            refine ev_go (c' := (66, [some (.ref 0), some (.int (v1)), some (.int (v2)), some (.int (r4.1))], [.int (r4.1)], hM r4.2)) 0 rfl ?_
            exact ev_dr (a := [none, none, none, none]) trivial (tX12_step_b66 d r4.2 r4.1 _ hf)
set_option maxRecDepth 20000 in
set_option maxHeartbeats 4000000 in
theorem tX12_liesFrom_b74 (d : Nat) (σ : SM) (w0 : Int32) (q : Int32) (hf : fX12_liesFrom_b74 σ w0 = some q) : ev_X (d + 1) (some .int) eiX12_liesFrom (74, [none, none, none, none, none], [.int (w0)], hM σ) (some (.int q), hM σ) := by
  unfold fX12_liesFrom_b74 at hf
  cases hf
  exact ev_rt 0 rfl
set_option maxRecDepth 20000 in
set_option maxHeartbeats 4000000 in
theorem tX12_liesFrom_b40 (d : Nat) (σ : SM) (v3 : Int32) (v4 : Int32) (q : Int32) (hf : fX12_liesFrom_b40 σ v3 v4 = some q) : ev_X (d + 1) (some .int) eiX12_liesFrom (40, [none, none, none, some (.int (v3)), some (.int (v4))], [], hM σ) (some (.int q), hM σ) := by
  unfold fX12_liesFrom_b40 at hf
  obtain ⟨r1, hr1, hf⟩ := Option.bind_eq_some_iff.mp hf
  refine ev_cli 1 (kk := 124) (as := [.int (v3)]) (rest := []) (pc := 41) (ls := [none, none, none, some (.int (v3)), some (.int (v4))]) (st := [.int (v3)]) (h := hM σ) rfl (tX12_size d (hM σ) v3 r1 hr1) ?_
  obtain ⟨r2, hr2, hf⟩ := Option.bind_eq_some_iff.mp hf
  refine ev_cli 1 (kk := 124) (as := [.int (v4)]) (rest := [.int (r1)]) (pc := 46) (ls := [none, none, none, some (.int (v3)), some (.int (v4))]) (st := [.int (v4), .int (r1)]) (h := hM σ) rfl (tX12_size d (hM σ) v4 r2 hr2) ?_
  refine ev_br 0 (P := r1 < r2) (a := 64) (b := 52) (ls := [none, none, none, some (.int (v3)), some (.int (v4))]) (st := []) (h := hM σ) rfl (fun c1 => ?_) (fun c1 => ?_)
  · rw [if_pos c1] at hf
    refine ev_br 1 (P := 0 < v4) (a := 69) (b := 73) (ls := [none, none, none, some (.int (v3)), some (.int (v4))]) (st := []) (h := hM σ) rfl (fun c2 => ?_) (fun c2 => ?_)
    · rw [if_pos c2] at hf
      refine ev_go (c' := (74, [none, none, none, some (.int (v3)), some (.int (v4))], [.int ((1 : Int32))], hM σ)) 1 rfl ?_
      exact ev_dr (a := [none, none, none, none, none]) trivial (tX12_liesFrom_b74 d σ (1 : Int32) _ hf)
    · rw [if_neg c2] at hf
      refine ev_go (c' := (74, [none, none, none, some (.int (v3)), some (.int (v4))], [.int ((3 : Int32))], hM σ)) 0 rfl ?_
      exact ev_dr (a := [none, none, none, none, none]) trivial (tX12_liesFrom_b74 d σ (3 : Int32) _ hf)
  · rw [if_neg c1] at hf
    refine ev_br 1 (P := v3 < 0) (a := 56) (b := 60) (ls := [none, none, none, some (.int (v3)), some (.int (v4))]) (st := []) (h := hM σ) rfl (fun c3 => ?_) (fun c3 => ?_)
    · rw [if_pos c3] at hf
      refine ev_go (c' := (74, [none, none, none, some (.int (v3)), some (.int (v4))], [.int ((0 : Int32))], hM σ)) 1 rfl ?_
      exact ev_dr (a := [none, none, none, none, none]) trivial (tX12_liesFrom_b74 d σ (0 : Int32) _ hf)
    · rw [if_neg c3] at hf
      refine ev_go (c' := (74, [none, none, none, some (.int (v3)), some (.int (v4))], [.int ((2 : Int32))], hM σ)) 1 rfl ?_
      exact ev_dr (a := [none, none, none, none, none]) trivial (tX12_liesFrom_b74 d σ (2 : Int32) _ hf)
set_option maxRecDepth 20000 in
set_option maxHeartbeats 4000000 in
theorem tX12_liesFrom (d : Nat) (σ : SM) (v1 : Int32) (v2 : Int32) (q : Int32) (hf : fX12_liesFrom σ v1 v2 = some q) : ev_M ev_mt (d + 2) 151 [.ref 0, .int (v1), .int (v2)] (hM σ) (some (.int q), hM σ) := by
  refine ev_en (rt := (some .int)) (I := eiX12_liesFrom) rfl (Nat.le_of_ble_eq_true rfl) ?_
  change ev_X (d + 1) _ _ (0, [some (.ref 0), some (.int (v1)), some (.int (v2)), none, none], [], hM σ) _
  unfold fX12_liesFrom at hf
  obtain ⟨c1, hf⟩ := ev_hp hf
  refine ev_ck 3 (P := ¬ (gm_rg_columns σ) = 0) (c' := (6, [some (.ref 0), some (.int (v1)), some (.int (v2)), none, none], [.int ((v2 / (gm_rg_columns σ)))], hM σ)) rfl c1 ?_
  obtain ⟨c2, hf⟩ := ev_hp hf
  refine ev_ck 3 (P := ¬ (gm_rg_columns σ) = 0) (c' := (12, [some (.ref 0), some (.int (v1)), some (.int (v2)), none, none], [.int ((v1 / (gm_rg_columns σ))), .int ((v2 / (gm_rg_columns σ)))], hM σ)) rfl c2 ?_
  obtain ⟨c3, hf⟩ := ev_hp hf
  refine ev_ck 5 (P := ¬ (gm_rg_columns σ) = 0) (c' := (20, [some (.ref 0), some (.int (v1)), some (.int (v2)), some (.int (((v2 / (gm_rg_columns σ)) - (v1 / (gm_rg_columns σ))))), none], [.int ((v2 - v2 / (gm_rg_columns σ) * (gm_rg_columns σ)))], hM σ)) rfl c3 ?_
  obtain ⟨c4, hf⟩ := ev_hp hf
  refine ev_ck 3 (P := ¬ (gm_rg_columns σ) = 0) (c' := (26, [some (.ref 0), some (.int (v1)), some (.int (v2)), some (.int (((v2 / (gm_rg_columns σ)) - (v1 / (gm_rg_columns σ))))), none], [.int ((v1 - v1 / (gm_rg_columns σ) * (gm_rg_columns σ))), .int ((v2 - v2 / (gm_rg_columns σ) * (gm_rg_columns σ)))], hM σ)) rfl c4 ?_
  refine ev_br 3 (P := ((v2 / (gm_rg_columns σ)) - (v1 / (gm_rg_columns σ))) = 0) (a := 33) (b := 40) (ls := [some (.ref 0), some (.int (v1)), some (.int (v2)), some (.int (((v2 / (gm_rg_columns σ)) - (v1 / (gm_rg_columns σ))))), some (.int (((v2 - v2 / (gm_rg_columns σ) * (gm_rg_columns σ)) - (v1 - v1 / (gm_rg_columns σ) * (gm_rg_columns σ)))))]) (st := []) (h := hM σ) rfl (fun c5 => ?_) (fun c5 => ?_)
  · rw [if_pos c5] at hf
    refine ev_br 1 (P := ((v2 - v2 / (gm_rg_columns σ) * (gm_rg_columns σ)) - (v1 - v1 / (gm_rg_columns σ) * (gm_rg_columns σ))) = 0) (a := 38) (b := 40) (ls := [some (.ref 0), some (.int (v1)), some (.int (v2)), some (.int (((v2 / (gm_rg_columns σ)) - (v1 / (gm_rg_columns σ))))), some (.int (((v2 - v2 / (gm_rg_columns σ) * (gm_rg_columns σ)) - (v1 - v1 / (gm_rg_columns σ) * (gm_rg_columns σ)))))]) (st := []) (h := hM σ) rfl (fun c6 => ?_) (fun c6 => ?_)
    · rw [if_pos c6] at hf
      cases hf
      exact ev_rt 1 rfl
    · rw [if_neg c6] at hf
      exact ev_dr (a := [none, none, none, some (.int (((v2 / (gm_rg_columns σ)) - (v1 / (gm_rg_columns σ))))), some (.int (((v2 - v2 / (gm_rg_columns σ) * (gm_rg_columns σ)) - (v1 - v1 / (gm_rg_columns σ) * (gm_rg_columns σ)))))]) ⟨rfl, ⟨rfl, trivial⟩⟩ (tX12_liesFrom_b40 d σ ((v2 / (gm_rg_columns σ)) - (v1 / (gm_rg_columns σ))) ((v2 - v2 / (gm_rg_columns σ) * (gm_rg_columns σ)) - (v1 - v1 / (gm_rg_columns σ) * (gm_rg_columns σ))) _ hf)
  · rw [if_neg c5] at hf
    exact ev_dr (a := [none, none, none, some (.int (((v2 / (gm_rg_columns σ)) - (v1 / (gm_rg_columns σ))))), some (.int (((v2 - v2 / (gm_rg_columns σ) * (gm_rg_columns σ)) - (v1 - v1 / (gm_rg_columns σ) * (gm_rg_columns σ)))))]) ⟨rfl, ⟨rfl, trivial⟩⟩ (tX12_liesFrom_b40 d σ ((v2 / (gm_rg_columns σ)) - (v1 / (gm_rg_columns σ))) ((v2 - v2 / (gm_rg_columns σ) * (gm_rg_columns σ)) - (v1 - v1 / (gm_rg_columns σ) * (gm_rg_columns σ))) _ hf)
set_option maxRecDepth 20000 in
set_option maxHeartbeats 4000000 in
theorem tX12_layHeard_b68 (d : Nat) (k7 : SM → Int32 → Int32 → Int32 → Int32 → Option (SM)) (hk7 : ∀ (σ : SM) (v1 : Int32) (v2 : Int32) (v3 : Int32) (v4 : Int32) (q : SM), k7 σ v1 v2 v3 v4 = some q → ev_X (d + 2) none eiX12_layHeard (7, [some (.ref 0), some (.int (v1)), some (.int (v2)), some (.int (v3)), some (.int (v4)), none, none], [], hM σ) (none, hM q)) (σ : SM) (v1 : Int32) (v2 : Int32) (v3 : Int32) (v4 : Int32) (w0 : Int32) (q : SM) (hf : fX12_layHeard_b68 k7 σ v1 v2 v3 v4 w0 = some q) : ev_X (d + 2) none eiX12_layHeard (68, [some (.ref 0), some (.int (v1)), some (.int (v2)), some (.int (v3)), some (.int (v4)), none, none], [.int (w0)], hM σ) (none, hM q) := by
  unfold fX12_layHeard_b68 at hf
  obtain ⟨c1, hf⟩ := ev_hp hf
  refine ev_ck 9 (P := ¬ (v4 < 0 ∨ 144 ≤ v4.toNatClampNeg)) (c' := (86, [some (.ref 0), some (.int (v1)), some (.int (v2)), some (.int (v3)), some (.int (v4)), none, some (.int (w0))], [.long (((gm_od_weight σ) v4.toNatClampNeg)), .long (w0.toInt64), .int (v4), .ref 3], hM σ)) rfl c1 ?_
  obtain ⟨c2, hf⟩ := ev_hp hf
  refine ev_go (c' := (87, [some (.ref 0), some (.int (v1)), some (.int (v2)), some (.int (v3)), some (.int (v4)), none, some (.int (w0))], [.long ((w0.toInt64 * ((gm_od_weight σ) v4.toNatClampNeg))), .int (v4), .ref 3], hM σ)) 0 rfl ?_
  refine ev_st1 (e := (87, .lastore, 1, 0, 0, .null, [], [])) (c' := (88, [some (.ref 0), some (.int (v1)), some (.int (v2)), some (.int (v3)), some (.int (v4)), none, some (.int (w0))], [], hM (sm_od_then σ (vp_updL (gm_od_then σ) v4.toNatClampNeg (w0.toInt64 * ((gm_od_weight σ) v4.toNatClampNeg)))))) rfl (oy_ast_m_od_then c2) ?_
  refine ev_go (c' := (7, [some (.ref 0), some (.int (v1)), some (.int (v2)), some (.int (v3)), some (.int ((v4 + (1 : Int32)))), none, some (.int (w0))], [], hM (sm_od_then σ (vp_updL (gm_od_then σ) v4.toNatClampNeg (w0.toInt64 * ((gm_od_weight σ) v4.toNatClampNeg)))))) 1 rfl ?_
  exact ev_dr (a := [some (.ref 0), some (.int (v1)), some (.int (v2)), some (.int (v3)), some (.int ((v4 + (1 : Int32)))), none, none]) ⟨rfl, ⟨rfl, ⟨rfl, ⟨rfl, ⟨rfl, trivial⟩⟩⟩⟩⟩ (hk7 (sm_od_then σ (vp_updL (gm_od_then σ) v4.toNatClampNeg (w0.toInt64 * ((gm_od_weight σ) v4.toNatClampNeg)))) v1 v2 v3 (v4 + (1 : Int32)) _ hf)
set_option maxRecDepth 20000 in
set_option maxHeartbeats 4000000 in
theorem tX12_layHeard_b7 (d : Nat) (k7 : SM → Int32 → Int32 → Int32 → Int32 → Option (SM)) (hk7 : ∀ (σ : SM) (v1 : Int32) (v2 : Int32) (v3 : Int32) (v4 : Int32) (q : SM), k7 σ v1 v2 v3 v4 = some q → ev_X (d + 2) none eiX12_layHeard (7, [some (.ref 0), some (.int (v1)), some (.int (v2)), some (.int (v3)), some (.int (v4)), none, none], [], hM σ) (none, hM q)) (σ : SM) (v1 : Int32) (v2 : Int32) (v3 : Int32) (v4 : Int32) (q : SM) (hf : fX12_layHeard_b7 k7 σ v1 v2 v3 v4 = some q) : ev_X (d + 2) none eiX12_layHeard (7, [some (.ref 0), some (.int (v1)), some (.int (v2)), some (.int (v3)), some (.int (v4)), none, none], [], hM σ) (none, hM q) := by
  unfold fX12_layHeard_b7 at hf
  obtain ⟨r2, hr2, hf⟩ := Option.bind_eq_some_iff.mp hf
  refine ev_cli 3 (kk := 133) (as := [.ref 0]) (rest := [.int ((4 : Int32)), .int (v4)]) (pc := 11) (ls := [some (.ref 0), some (.int (v1)), some (.int (v2)), some (.int (v3)), some (.int (v4)), none, none]) (st := [.ref 0, .int ((4 : Int32)), .int (v4)]) (h := hM σ) rfl (tX12_cells (d + 1) σ r2 hr2) ?_
  refine ev_br 1 (P := v4 < ((4 : Int32) * r2)) (a := 18) (b := 94) (ls := [some (.ref 0), some (.int (v1)), some (.int (v2)), some (.int (v3)), some (.int (v4)), none, none]) (st := []) (h := hM σ) rfl (fun c1 => ?_) (fun c1 => ?_)
  · rw [if_pos c1] at hf
    obtain ⟨r3, hr3, hf⟩ := Option.bind_eq_some_iff.mp hf
    refine ev_cli 5 (kk := 151) (as := [.ref 0, .int ((v4 / (4 : Int32))), .int (v1)]) (rest := []) (pc := 24) (ls := [some (.ref 0), some (.int (v1)), some (.int (v2)), some (.int (v3)), some (.int (v4)), none, none]) (st := [.int (v1), .int ((v4 / (4 : Int32))), .ref 0]) (h := hM σ) rfl (tX12_liesFrom d σ (v4 / (4 : Int32)) v1 r3 hr3) ?_
    refine ev_br 3 (P := r3 = (-1 : Int32)) (a := 35) (b := 40) (ls := [some (.ref 0), some (.int (v1)), some (.int (v2)), some (.int (v3)), some (.int (v4)), some (.int (r3)), none]) (st := []) (h := hM σ) rfl (fun c2 => ?_) (fun c2 => ?_)
    · rw [if_pos c2] at hf
      refine ev_go (c' := (68, [some (.ref 0), some (.int (v1)), some (.int (v2)), some (.int (v3)), some (.int (v4)), some (.int (r3)), none], [.int ((15 : Int32))], hM σ)) 1 rfl ?_
      exact ev_dr (a := [some (.ref 0), some (.int (v1)), some (.int (v2)), some (.int (v3)), some (.int (v4)), none, none]) ⟨rfl, ⟨rfl, ⟨rfl, ⟨rfl, ⟨rfl, trivial⟩⟩⟩⟩⟩ (tX12_layHeard_b68 d k7 hk7 σ v1 v2 v3 v4 (15 : Int32) _ hf)
    · rw [if_neg c2] at hf
      refine ev_br 10 (P := (((r3 + (4 : Int32)) - (v4 - v4 / (4 : Int32) * (4 : Int32))) - ((r3 + (4 : Int32)) - (v4 - v4 / (4 : Int32) * (4 : Int32))) / (4 : Int32) * (4 : Int32)) = v2) (a := 55) (b := 62) (ls := [some (.ref 0), some (.int (v1)), some (.int (v2)), some (.int (v3)), some (.int (v4)), some (.int (r3)), none]) (st := []) (h := hM σ) rfl (fun c3 => ?_) (fun c3 => ?_)
      · rw [if_pos c3] at hf
        refine ev_go (c' := (68, [some (.ref 0), some (.int (v1)), some (.int (v2)), some (.int (v3)), some (.int (v4)), some (.int (r3)), none], [.int (((6 : Int32) * v3))], hM σ)) 3 rfl ?_
        exact ev_dr (a := [some (.ref 0), some (.int (v1)), some (.int (v2)), some (.int (v3)), some (.int (v4)), none, none]) ⟨rfl, ⟨rfl, ⟨rfl, ⟨rfl, ⟨rfl, trivial⟩⟩⟩⟩⟩ (tX12_layHeard_b68 d k7 hk7 σ v1 v2 v3 v4 ((6 : Int32) * v3) _ hf)
      · rw [if_neg c3] at hf
        refine ev_go (c' := (68, [some (.ref 0), some (.int (v1)), some (.int (v2)), some (.int (v3)), some (.int (v4)), some (.int (r3)), none], [.int (((2 : Int32) * ((10 : Int32) - v3)))], hM σ)) 4 rfl ?_
        exact ev_dr (a := [some (.ref 0), some (.int (v1)), some (.int (v2)), some (.int (v3)), some (.int (v4)), none, none]) ⟨rfl, ⟨rfl, ⟨rfl, ⟨rfl, ⟨rfl, trivial⟩⟩⟩⟩⟩ (tX12_layHeard_b68 d k7 hk7 σ v1 v2 v3 v4 ((2 : Int32) * ((10 : Int32) - v3)) _ hf)
  · rw [if_neg c1] at hf
    cases hf
    exact ev_rt 0 rfl
theorem tX12_layHeard_l7 (d : Nat) : ∀ (n : Nat) (σ : SM) (v1 : Int32) (v2 : Int32) (v3 : Int32) (v4 : Int32) (q : SM), fX12_layHeard_l7 n σ v1 v2 v3 v4 = some q → ev_X (d + 2) none eiX12_layHeard (7, [some (.ref 0), some (.int (v1)), some (.int (v2)), some (.int (v3)), some (.int (v4)), none, none], [], hM σ) (none, hM q)
  | 0, _, _, _, _, _, _, hf => by cases hf
  | n + 1, σ, v1, v2, v3, v4, q, hf => tX12_layHeard_b7 d (fX12_layHeard_l7 n) (fun σ v1 v2 v3 v4 q h9 => tX12_layHeard_l7 d n σ v1 v2 v3 v4 q h9) σ v1 v2 v3 v4 q hf
set_option maxRecDepth 20000 in
set_option maxHeartbeats 4000000 in
theorem tX12_layHeard (d : Nat) (σ : SM) (v1 : Int32) (v2 : Int32) (v3 : Int32) (q : SM) (hf : fX12_layHeard σ v1 v2 v3 = some q) : ev_M ev_mt (d + 3) 152 [.ref 0, .int (v1), .int (v2), .int (v3)] (hM σ) (none, hM q) := by
  refine ev_en (rt := none) (I := eiX12_layHeard) rfl (Nat.le_of_ble_eq_true rfl) ?_
  change ev_X (d + 2) _ _ (0, [some (.ref 0), some (.int (v1)), some (.int (v2)), some (.int (v3)), none, none, none], [], hM σ) _
  unfold fX12_layHeard at hf
  obtain ⟨r1, hr1, hf⟩ := Option.bind_eq_some_iff.mp hf
  refine ev_clv 1 (kk := 139) (as := [.ref 0]) (rest := []) (pc := 1) (ls := [some (.ref 0), some (.int (v1)), some (.int (v2)), some (.int (v3)), none, none, none]) (st := [.ref 0]) (h := hM σ) rfl (tX12_clear (d + 1) σ r1 hr1) ?_
  refine ev_go (c' := (7, [some (.ref 0), some (.int (v1)), some (.int (v2)), some (.int (v3)), some (.int ((0 : Int32))), none, none], [], hM r1)) 1 rfl ?_
  exact ev_dr (a := [some (.ref 0), some (.int (v1)), some (.int (v2)), some (.int (v3)), some (.int ((0 : Int32))), none, none]) ⟨rfl, ⟨rfl, ⟨rfl, ⟨rfl, ⟨rfl, trivial⟩⟩⟩⟩⟩ (tX12_layHeard_l7 d 1000 r1 v1 v2 v3 (0 : Int32) _ hf)
set_option maxRecDepth 20000 in
set_option maxHeartbeats 4000000 in
theorem tX12_heard_b69 (d : Nat) (σ : SM) (w0 : Int32) (q : Int32 × SM) (hf : fX12_heard_b69 σ w0 = some q) : ev_X (d + 3) (some .int) eiX12_heard (69, [none, none, none, none, none], [.int (w0)], hM σ) (some (.int q.1), hM q.2) := by
  unfold fX12_heard_b69 at hf
  cases hf
  exact ev_rt 0 rfl
set_option maxRecDepth 20000 in
set_option maxHeartbeats 4000000 in
theorem tX12_heard_b28 (d : Nat) (σ : SM) (q : Int32 × SM) (hf : fX12_heard_b28 σ = some q) : ev_X (d + 3) (some .int) eiX12_heard (28, [none, none, none, none, none], [], hM σ) (some (.int q.1), hM q.2) := by
  unfold fX12_heard_b28 at hf
  cases hf
  exact ev_rt 1 rfl
set_option maxRecDepth 20000 in
set_option maxHeartbeats 4000000 in
theorem tX12_heard (d : Nat) (σ : SM) (v1 : Int32) (v2 : Int32) (v3 : Int32) (q : Int32 × SM) (hf : fX12_heard σ v1 v2 v3 = some q) : ev_M ev_mt (d + 4) 153 [.ref 0, .int (v1), .int (v2), .int (v3)] (hM σ) (some (.int q.1), hM q.2) := by
  refine ev_en (rt := (some .int)) (I := eiX12_heard) rfl (Nat.le_of_ble_eq_true rfl) ?_
  change ev_X (d + 3) _ _ (0, [some (.ref 0), some (.int (v1)), some (.int (v2)), some (.int (v3)), none], [], hM σ) _
  unfold fX12_heard at hf
  obtain ⟨r1, hr1, hf⟩ := Option.bind_eq_some_iff.mp hf
  refine ev_cli 2 (kk := 135) (as := [.ref 0, .int (v1)]) (rest := []) (pc := 2) (ls := [some (.ref 0), some (.int (v1)), some (.int (v2)), some (.int (v3)), none]) (st := [.int (v1), .ref 0]) (h := hM σ) rfl (tX12_isFree d σ v1 r1 hr1) ?_
  refine ev_br 0 (P := r1 = 0) (a := 8) (b := 11) (ls := [some (.ref 0), some (.int (v1)), some (.int (v2)), some (.int (v3)), none]) (st := []) (h := hM σ) rfl (fun c1 => ?_) (fun c1 => ?_)
  · rw [if_pos c1] at hf
    cases hf
    exact ev_rt 1 rfl
  · rw [if_neg c1] at hf
    obtain ⟨r2, hr2, hf⟩ := Option.bind_eq_some_iff.mp hf
    refine ev_cli 1 (kk := 138) (as := [.int (v2)]) (rest := []) (pc := 12) (ls := [some (.ref 0), some (.int (v1)), some (.int (v2)), some (.int (v3)), none]) (st := [.int (v2)]) (h := hM σ) rfl (tX12_isWay (d + 1) (hM σ) v2 r2 hr2) ?_
    refine ev_br 0 (P := r2 = 0) (a := 28) (b := 18) (ls := [some (.ref 0), some (.int (v1)), some (.int (v2)), some (.int (v3)), none]) (st := []) (h := hM σ) rfl (fun c2 => ?_) (fun c2 => ?_)
    · rw [if_pos c2] at hf
      exact ev_dr (a := [none, none, none, none, none]) trivial (tX12_heard_b28 d σ  _ hf)
    · rw [if_neg c2] at hf
      obtain ⟨r3, hr3, hf⟩ := Option.bind_eq_some_iff.mp hf
      refine ev_cli 3 (kk := 123) (as := [.int (v3), .int ((0 : Int32)), .int ((10 : Int32))]) (rest := []) (pc := 22) (ls := [some (.ref 0), some (.int (v1)), some (.int (v2)), some (.int (v3)), none]) (st := [.int ((10 : Int32)), .int ((0 : Int32)), .int (v3)]) (h := hM σ) rfl (tX12_within (d + 2) (hM σ) v3 (0 : Int32) (10 : Int32) r3 hr3) ?_
      refine ev_br 0 (P := r3 = 0) (a := 28) (b := 31) (ls := [some (.ref 0), some (.int (v1)), some (.int (v2)), some (.int (v3)), none]) (st := []) (h := hM σ) rfl (fun c3 => ?_) (fun c3 => ?_)
      · rw [if_pos c3] at hf
        exact ev_dr (a := [none, none, none, none, none]) trivial (tX12_heard_b28 d σ  _ hf)
      · rw [if_neg c3] at hf
        refine ev_br 3 (P := (gm_od_updates σ) = (9 : Int32)) (a := 40) (b := 43) (ls := [some (.ref 0), some (.int (v1)), some (.int (v2)), some (.int (v3)), none]) (st := []) (h := hM σ) rfl (fun c4 => ?_) (fun c4 => ?_)
        · rw [if_pos c4] at hf
          cases hf
          exact ev_rt 1 rfl
        · rw [if_neg c4] at hf
          obtain ⟨r4, hr4, hf⟩ := Option.bind_eq_some_iff.mp hf
          refine ev_clv 4 (kk := 152) (as := [.ref 0, .int (v1), .int (v2), .int (v3)]) (rest := []) (pc := 47) (ls := [some (.ref 0), some (.int (v1)), some (.int (v2)), some (.int (v3)), none]) (st := [.int (v3), .int (v2), .int (v1), .ref 0]) (h := hM σ) rfl (tX12_layHeard d σ v1 v2 v3 r4 hr4) ?_
          obtain ⟨r5, hr5, hf⟩ := Option.bind_eq_some_iff.mp hf
          refine ev_cli 1 (kk := 144) (as := [.ref 0]) (rest := []) (pc := 51) (ls := [some (.ref 0), some (.int (v1)), some (.int (v2)), some (.int (v3)), none]) (st := [.ref 0]) (h := hM r4) rfl (tX12_take (d + 1) r4 r5 hr5) ?_
          refine ev_br 3 (P := r5.1 = (-1 : Int32)) (a := 62) (b := 67) (ls := [some (.ref 0), some (.int (v1)), some (.int (v2)), some (.int (v3)), some (.int (r5.1))]) (st := []) (h := hM r5.2) rfl (fun c5 => ?_) (fun c5 => ?_)
          · rw [if_pos c5] at hf
            refine ev_go (c' := (69, [some (.ref 0), some (.int (v1)), some (.int (v2)), some (.int (v3)), some (.int (r5.1))], [.int ((-103 : Int32))], hM r5.2)) 1 rfl ?_
            exact ev_dr (a := [none, none, none, none, none]) trivial (tX12_heard_b69 d r5.2 (-103 : Int32) _ hf)
          · rw [if_neg c5] at hf
            refine ev_go (c' := (69, [some (.ref 0), some (.int (v1)), some (.int (v2)), some (.int (v3)), some (.int (r5.1))], [.int (r5.1)], hM r5.2)) 0 rfl ?_
            exact ev_dr (a := [none, none, none, none, none]) trivial (tX12_heard_b69 d r5.2 r5.1 _ hf)
set_option maxRecDepth 20000 in
set_option maxHeartbeats 4000000 in
theorem tX12_all_b4 (d : Nat) (σ : SM) (k4 : Int64 → Int32 → Option (Int64)) (hk4 : ∀ (v1 : Int64) (v3 : Int32) (q : Int64), k4 v1 v3 = some q → ev_X d (some .long) eiX12_all (4, [some (.ref 0), some (.long (v1)), none, some (.int (v3))], [], hM σ) (some (.long q), hM σ)) (v1 : Int64) (v3 : Int32) (q : Int64) (hf : fX12_all_b4 σ k4 v1 v3 = some q) : ev_X d (some .long) eiX12_all (4, [some (.ref 0), some (.long (v1)), none, some (.int (v3))], [], hM σ) (some (.long q), hM σ) := by
  unfold fX12_all_b4 at hf
  refine ev_br 2 (P := v3 < (144 : Int32)) (a := 11) (b := 26) (ls := [some (.ref 0), some (.long (v1)), none, some (.int (v3))]) (st := []) (h := hM σ) rfl (fun c1 => ?_) (fun c1 => ?_)
  · rw [if_pos c1] at hf
    obtain ⟨c2, hf⟩ := ev_hp hf
    refine ev_ck 4 (P := ¬ (v3 < 0 ∨ 144 ≤ v3.toNatClampNeg)) (c' := (18, [some (.ref 0), some (.long (v1)), none, some (.int (v3))], [.long (((gm_od_weight σ) v3.toNatClampNeg)), .long (v1)], hM σ)) rfl c2 ?_
    refine ev_go (c' := (4, [some (.ref 0), some (.long ((v1 + ((gm_od_weight σ) v3.toNatClampNeg)))), none, some (.int ((v3 + (1 : Int32))))], [], hM σ)) 3 rfl ?_
    exact ev_dr (a := [some (.ref 0), some (.long ((v1 + ((gm_od_weight σ) v3.toNatClampNeg)))), none, some (.int ((v3 + (1 : Int32))))]) ⟨rfl, ⟨rfl, ⟨rfl, trivial⟩⟩⟩ (hk4 (v1 + ((gm_od_weight σ) v3.toNatClampNeg)) (v3 + (1 : Int32)) _ hf)
  · rw [if_neg c1] at hf
    cases hf
    exact ev_rt 1 rfl
theorem tX12_all_l4 (d : Nat) (σ : SM) : ∀ (n : Nat) (v1 : Int64) (v3 : Int32) (q : Int64), fX12_all_l4 σ n v1 v3 = some q → ev_X d (some .long) eiX12_all (4, [some (.ref 0), some (.long (v1)), none, some (.int (v3))], [], hM σ) (some (.long q), hM σ)
  | 0, _, _, _, hf => by cases hf
  | n + 1, v1, v3, q, hf => tX12_all_b4 d σ (fX12_all_l4 σ n) (fun v1 v3 q h9 => tX12_all_l4 d σ n v1 v3 q h9) v1 v3 q hf
set_option maxRecDepth 20000 in
set_option maxHeartbeats 4000000 in
theorem tX12_all (d : Nat) (σ : SM) (q : Int64) (hf : fX12_all σ = some q) : ev_M ev_mt (d + 1) 154 [.ref 0] (hM σ) (some (.long q), hM σ) := by
  refine ev_en (rt := (some .long)) (I := eiX12_all) rfl (Nat.le_of_ble_eq_true rfl) ?_
  change ev_X d _ _ (0, [some (.ref 0), none, none, none], [], hM σ) _
  unfold fX12_all at hf
  refine ev_go (c' := (4, [some (.ref 0), some (.long ((0 : Int64))), none, some (.int ((0 : Int32)))], [], hM σ)) 3 rfl ?_
  exact ev_dr (a := [some (.ref 0), some (.long ((0 : Int64))), none, some (.int ((0 : Int32)))]) ⟨rfl, ⟨rfl, ⟨rfl, trivial⟩⟩⟩ (tX12_all_l4 d σ 1000 (0 : Int64) (0 : Int32) _ hf)
set_option maxRecDepth 20000 in
set_option maxHeartbeats 4000000 in
theorem tX12_ofCell (d : Nat) (σ : SM) (v1 : Int32) (q : Int64) (hf : fX12_ofCell σ v1 = some q) : ev_M ev_mt (d + 1) 155 [.ref 0, .int (v1)] (hM σ) (some (.long q), hM σ) := by
  refine ev_en (rt := (some .long)) (I := eiX12_ofCell) rfl (Nat.le_of_ble_eq_true rfl) ?_
  change ev_X d _ _ (0, [some (.ref 0), some (.int (v1))], [], hM σ) _
  unfold fX12_ofCell at hf
  obtain ⟨c1, hf⟩ := ev_hp hf
  refine ev_ck 5 (P := ¬ (((4 : Int32) * v1) < 0 ∨ 144 ≤ ((4 : Int32) * v1).toNatClampNeg)) (c' := (8, [some (.ref 0), some (.int (v1))], [.long (((gm_od_weight σ) ((4 : Int32) * v1).toNatClampNeg))], hM σ)) rfl c1 ?_
  obtain ⟨c2, hf⟩ := ev_hp hf
  refine ev_ck 7 (P := ¬ ((((4 : Int32) * v1) + (1 : Int32)) < 0 ∨ 144 ≤ (((4 : Int32) * v1) + (1 : Int32)).toNatClampNeg)) (c' := (18, [some (.ref 0), some (.int (v1))], [.long (((gm_od_weight σ) (((4 : Int32) * v1) + (1 : Int32)).toNatClampNeg)), .long (((gm_od_weight σ) ((4 : Int32) * v1).toNatClampNeg))], hM σ)) rfl c2 ?_
  obtain ⟨c3, hf⟩ := ev_hp hf
  refine ev_ck 8 (P := ¬ ((((4 : Int32) * v1) + (2 : Int32)) < 0 ∨ 144 ≤ (((4 : Int32) * v1) + (2 : Int32)).toNatClampNeg)) (c' := (29, [some (.ref 0), some (.int (v1))], [.long (((gm_od_weight σ) (((4 : Int32) * v1) + (2 : Int32)).toNatClampNeg)), .long ((((gm_od_weight σ) ((4 : Int32) * v1).toNatClampNeg) + ((gm_od_weight σ) (((4 : Int32) * v1) + (1 : Int32)).toNatClampNeg)))], hM σ)) rfl c3 ?_
  obtain ⟨c4, hf⟩ := ev_hp hf
  refine ev_ck 8 (P := ¬ ((((4 : Int32) * v1) + (3 : Int32)) < 0 ∨ 144 ≤ (((4 : Int32) * v1) + (3 : Int32)).toNatClampNeg)) (c' := (40, [some (.ref 0), some (.int (v1))], [.long (((gm_od_weight σ) (((4 : Int32) * v1) + (3 : Int32)).toNatClampNeg)), .long (((((gm_od_weight σ) ((4 : Int32) * v1).toNatClampNeg) + ((gm_od_weight σ) (((4 : Int32) * v1) + (1 : Int32)).toNatClampNeg)) + ((gm_od_weight σ) (((4 : Int32) * v1) + (2 : Int32)).toNatClampNeg)))], hM σ)) rfl c4 ?_
  cases hf
  exact ev_rt 1 rfl
set_option maxRecDepth 20000 in
set_option maxHeartbeats 4000000 in
theorem tX12_isPart (d : Nat) (h : ev_H) (v0 : Int32) (q : Int32) (hf : fX12_isPart v0 = some q) : ev_M ev_mt (d + 2) 156 [.int (v0)] (h) (some (.int q), h) := by
  refine ev_en (rt := (some .boolean)) (I := eiX12_isPart) rfl (Nat.le_of_ble_eq_true rfl) ?_
  change ev_X (d + 1) _ _ (0, [some (.int (v0))], [], h) _
  unfold fX12_isPart at hf
  obtain ⟨r1, hr1, hf⟩ := Option.bind_eq_some_iff.mp hf
  refine ev_cli 3 (kk := 123) (as := [.int (v0), .int ((0 : Int32)), .int ((1 : Int32))]) (rest := []) (pc := 3) (ls := [some (.int (v0))]) (st := [.int ((1 : Int32)), .int ((0 : Int32)), .int (v0)]) (h := h) rfl (tX12_within d (h) v0 (0 : Int32) (1 : Int32) r1 hr1) ?_
  obtain ⟨c1, hf⟩ := ev_hp hf
  cases hf
  exact ev_rk 0 rfl c1
set_option maxRecDepth 20000 in
set_option maxHeartbeats 4000000 in
theorem tX12_odds_b38 (d : Nat) (σ : SM) (w0 : Int64) (q : Int64) (hf : fX12_odds_b38 σ w0 = some q) : ev_X (d + 2) (some .long) eiX12_odds (38, [none, none, none], [.long (w0)], hM σ) (some (.long q), hM σ) := by
  unfold fX12_odds_b38 at hf
  cases hf
  exact ev_rt 0 rfl
set_option maxRecDepth 20000 in
set_option maxHeartbeats 4000000 in
theorem tX12_odds (d : Nat) (σ : SM) (v1 : Int32) (v2 : Int32) (q : Int64) (hf : fX12_odds σ v1 v2 = some q) : ev_M ev_mt (d + 3) 157 [.ref 0, .int (v1), .int (v2)] (hM σ) (some (.long q), hM σ) := by
  refine ev_en (rt := (some .long)) (I := eiX12_odds) rfl (Nat.le_of_ble_eq_true rfl) ?_
  change ev_X (d + 2) _ _ (0, [some (.ref 0), some (.int (v1)), some (.int (v2))], [], hM σ) _
  unfold fX12_odds at hf
  obtain ⟨r1, hr1, hf⟩ := Option.bind_eq_some_iff.mp hf
  refine ev_cli 2 (kk := 134) (as := [.ref 0, .int (v1)]) (rest := []) (pc := 2) (ls := [some (.ref 0), some (.int (v1)), some (.int (v2))]) (st := [.int (v1), .ref 0]) (h := hM σ) rfl (tX12_isCell d σ v1 r1 hr1) ?_
  refine ev_br 0 (P := r1 = 0) (a := 8) (b := 12) (ls := [some (.ref 0), some (.int (v1)), some (.int (v2))]) (st := []) (h := hM σ) rfl (fun c1 => ?_) (fun c1 => ?_)
  · rw [if_pos c1] at hf
    cases hf
    exact ev_rt 1 rfl
  · rw [if_neg c1] at hf
    obtain ⟨r2, hr2, hf⟩ := Option.bind_eq_some_iff.mp hf
    refine ev_cli 1 (kk := 156) (as := [.int (v2)]) (rest := []) (pc := 13) (ls := [some (.ref 0), some (.int (v1)), some (.int (v2))]) (st := [.int (v2)]) (h := hM σ) rfl (tX12_isPart d (hM σ) v2 r2 hr2) ?_
    refine ev_br 0 (P := r2 = 0) (a := 35) (b := 19) (ls := [some (.ref 0), some (.int (v1)), some (.int (v2))]) (st := []) (h := hM σ) rfl (fun c2 => ?_) (fun c2 => ?_)
    · rw [if_pos c2] at hf
      refine ev_go (c' := (38, [some (.ref 0), some (.int (v1)), some (.int (v2))], [.long ((-102 : Int64))], hM σ)) 0 rfl ?_
      exact ev_dr (a := [none, none, none]) trivial (tX12_odds_b38 d σ (-102 : Int64) _ hf)
    · rw [if_neg c2] at hf
      obtain ⟨r3, hr3, hf⟩ := Option.bind_eq_some_iff.mp hf
      refine ev_cll 2 (kk := 155) (as := [.ref 0, .int (v1)]) (rest := []) (pc := 21) (ls := [some (.ref 0), some (.int (v1)), some (.int (v2))]) (st := [.int (v1), .ref 0]) (h := hM σ) rfl (tX12_ofCell (d + 1) σ v1 r3 hr3) ?_
      obtain ⟨r4, hr4, hf⟩ := Option.bind_eq_some_iff.mp hf
      refine ev_cll 1 (kk := 154) (as := [.ref 0]) (rest := [.long (r3)]) (pc := 25) (ls := [some (.ref 0), some (.int (v1)), some (.int (v2))]) (st := [.ref 0, .long (r3)]) (h := hM σ) rfl (tX12_all (d + 1) σ r4 hr4) ?_
      obtain ⟨r5, hr5, hf⟩ := Option.bind_eq_some_iff.mp hf
      refine ev_cll 1 (kk := 126) (as := [.long (r3), .long (r4), .int (v2)]) (rest := []) (pc := 29) (ls := [some (.ref 0), some (.int (v1)), some (.int (v2))]) (st := [.int (v2), .long (r4), .long (r3)]) (h := hM σ) rfl (tX12_lowest d (hM σ) r3 r4 v2 r5 hr5) ?_
      refine ev_go (c' := (38, [some (.ref 0), some (.int (v1)), some (.int (v2))], [.long (r5)], hM σ)) 0 rfl ?_
      exact ev_dr (a := [none, none, none]) trivial (tX12_odds_b38 d σ r5 _ hf)
set_option maxRecDepth 20000 in
set_option maxHeartbeats 4000000 in
theorem tX12_ways_b34 (d : Nat) (σ : SM) (k34 : Int32 → Int32 → Int64 → Int32 → Option (Int64)) (hk34 : ∀ (v1 : Int32) (v2 : Int32) (v3 : Int64) (v5 : Int32) (q : Int64), k34 v1 v2 v3 v5 = some q → ev_X (d + 2) (some .long) eiX12_ways (34, [some (.ref 0), some (.int (v1)), some (.int (v2)), some (.long (v3)), none, some (.int (v5))], [], hM σ) (some (.long q), hM σ)) (v1 : Int32) (v2 : Int32) (v3 : Int64) (v5 : Int32) (q : Int64) (hf : fX12_ways_b34 σ k34 v1 v2 v3 v5 = some q) : ev_X (d + 2) (some .long) eiX12_ways (34, [some (.ref 0), some (.int (v1)), some (.int (v2)), some (.long (v3)), none, some (.int (v5))], [], hM σ) (some (.long q), hM σ) := by
  unfold fX12_ways_b34 at hf
  obtain ⟨r3, hr3, hf⟩ := Option.bind_eq_some_iff.mp hf
  refine ev_cli 2 (kk := 133) (as := [.ref 0]) (rest := [.int (v5)]) (pc := 37) (ls := [some (.ref 0), some (.int (v1)), some (.int (v2)), some (.long (v3)), none, some (.int (v5))]) (st := [.ref 0, .int (v5)]) (h := hM σ) rfl (tX12_cells (d + 1) σ r3 hr3) ?_
  refine ev_br 0 (P := v5 < r3) (a := 43) (b := 63) (ls := [some (.ref 0), some (.int (v1)), some (.int (v2)), some (.long (v3)), none, some (.int (v5))]) (st := []) (h := hM σ) rfl (fun c1 => ?_) (fun c1 => ?_)
  · rw [if_pos c1] at hf
    obtain ⟨c2, hf⟩ := ev_hp hf
    refine ev_ck 8 (P := ¬ ((((4 : Int32) * v5) + v1) < 0 ∨ 144 ≤ (((4 : Int32) * v5) + v1).toNatClampNeg)) (c' := (55, [some (.ref 0), some (.int (v1)), some (.int (v2)), some (.long (v3)), none, some (.int (v5))], [.long (((gm_od_weight σ) (((4 : Int32) * v5) + v1).toNatClampNeg)), .long (v3)], hM σ)) rfl c2 ?_
    refine ev_go (c' := (34, [some (.ref 0), some (.int (v1)), some (.int (v2)), some (.long ((v3 + ((gm_od_weight σ) (((4 : Int32) * v5) + v1).toNatClampNeg)))), none, some (.int ((v5 + (1 : Int32))))], [], hM σ)) 3 rfl ?_
    exact ev_dr (a := [some (.ref 0), some (.int (v1)), some (.int (v2)), some (.long ((v3 + ((gm_od_weight σ) (((4 : Int32) * v5) + v1).toNatClampNeg)))), none, some (.int ((v5 + (1 : Int32))))]) ⟨rfl, ⟨rfl, ⟨rfl, ⟨rfl, ⟨rfl, trivial⟩⟩⟩⟩⟩ (hk34 v1 v2 (v3 + ((gm_od_weight σ) (((4 : Int32) * v5) + v1).toNatClampNeg)) (v5 + (1 : Int32)) _ hf)
  · rw [if_neg c1] at hf
    obtain ⟨r4, hr4, hf⟩ := Option.bind_eq_some_iff.mp hf
    refine ev_cll 2 (kk := 154) (as := [.ref 0]) (rest := [.long (v3)]) (pc := 65) (ls := [some (.ref 0), some (.int (v1)), some (.int (v2)), some (.long (v3)), none, some (.int (v5))]) (st := [.ref 0, .long (v3)]) (h := hM σ) rfl (tX12_all (d + 1) σ r4 hr4) ?_
    obtain ⟨r5, hr5, hf⟩ := Option.bind_eq_some_iff.mp hf
    refine ev_cll 1 (kk := 126) (as := [.long (v3), .long (r4), .int (v2)]) (rest := []) (pc := 69) (ls := [some (.ref 0), some (.int (v1)), some (.int (v2)), some (.long (v3)), none, some (.int (v5))]) (st := [.int (v2), .long (r4), .long (v3)]) (h := hM σ) rfl (tX12_lowest d (hM σ) v3 r4 v2 r5 hr5) ?_
    cases hf
    exact ev_rt 0 rfl
theorem tX12_ways_l34 (d : Nat) (σ : SM) : ∀ (n : Nat) (v1 : Int32) (v2 : Int32) (v3 : Int64) (v5 : Int32) (q : Int64), fX12_ways_l34 σ n v1 v2 v3 v5 = some q → ev_X (d + 2) (some .long) eiX12_ways (34, [some (.ref 0), some (.int (v1)), some (.int (v2)), some (.long (v3)), none, some (.int (v5))], [], hM σ) (some (.long q), hM σ)
  | 0, _, _, _, _, _, hf => by cases hf
  | n + 1, v1, v2, v3, v5, q, hf => tX12_ways_b34 d σ (fX12_ways_l34 σ n) (fun v1 v2 v3 v5 q h9 => tX12_ways_l34 d σ n v1 v2 v3 v5 q h9) v1 v2 v3 v5 q hf
set_option maxRecDepth 20000 in
set_option maxHeartbeats 4000000 in
theorem tX12_ways_b25 (d : Nat) (σ : SM) (q : Int64) (hf : fX12_ways_b25 σ = some q) : ev_X (d + 2) (some .long) eiX12_ways (25, [none, none, none, none, none, none], [], hM σ) (some (.long q), hM σ) := by
  unfold fX12_ways_b25 at hf
  cases hf
  exact ev_rt 1 rfl
set_option maxRecDepth 20000 in
set_option maxHeartbeats 4000000 in
theorem tX12_ways (d : Nat) (σ : SM) (v1 : Int32) (v2 : Int32) (q : Int64) (hf : fX12_ways σ v1 v2 = some q) : ev_M ev_mt (d + 3) 158 [.ref 0, .int (v1), .int (v2)] (hM σ) (some (.long q), hM σ) := by
  refine ev_en (rt := (some .long)) (I := eiX12_ways) rfl (Nat.le_of_ble_eq_true rfl) ?_
  change ev_X (d + 2) _ _ (0, [some (.ref 0), some (.int (v1)), some (.int (v2)), none, none, none], [], hM σ) _
  unfold fX12_ways at hf
  refine ev_br 2 (P := (gm_rg_rings σ) = 0) (a := 7) (b := 11) (ls := [some (.ref 0), some (.int (v1)), some (.int (v2)), none, none, none]) (st := []) (h := hM σ) rfl (fun c1 => ?_) (fun c1 => ?_)
  · rw [if_pos c1] at hf
    cases hf
    exact ev_rt 1 rfl
  · rw [if_neg c1] at hf
    obtain ⟨r1, hr1, hf⟩ := Option.bind_eq_some_iff.mp hf
    refine ev_cli 1 (kk := 138) (as := [.int (v1)]) (rest := []) (pc := 12) (ls := [some (.ref 0), some (.int (v1)), some (.int (v2)), none, none, none]) (st := [.int (v1)]) (h := hM σ) rfl (tX12_isWay d (hM σ) v1 r1 hr1) ?_
    refine ev_br 0 (P := r1 = 0) (a := 25) (b := 18) (ls := [some (.ref 0), some (.int (v1)), some (.int (v2)), none, none, none]) (st := []) (h := hM σ) rfl (fun c2 => ?_) (fun c2 => ?_)
    · rw [if_pos c2] at hf
      exact ev_dr (a := [none, none, none, none, none, none]) trivial (tX12_ways_b25 d σ  _ hf)
    · rw [if_neg c2] at hf
      obtain ⟨r2, hr2, hf⟩ := Option.bind_eq_some_iff.mp hf
      refine ev_cli 1 (kk := 156) (as := [.int (v2)]) (rest := []) (pc := 19) (ls := [some (.ref 0), some (.int (v1)), some (.int (v2)), none, none, none]) (st := [.int (v2)]) (h := hM σ) rfl (tX12_isPart d (hM σ) v2 r2 hr2) ?_
      refine ev_br 0 (P := r2 = 0) (a := 25) (b := 29) (ls := [some (.ref 0), some (.int (v1)), some (.int (v2)), none, none, none]) (st := []) (h := hM σ) rfl (fun c3 => ?_) (fun c3 => ?_)
      · rw [if_pos c3] at hf
        exact ev_dr (a := [none, none, none, none, none, none]) trivial (tX12_ways_b25 d σ  _ hf)
      · rw [if_neg c3] at hf
        refine ev_go (c' := (34, [some (.ref 0), some (.int (v1)), some (.int (v2)), some (.long ((0 : Int64))), none, some (.int ((0 : Int32)))], [], hM σ)) 3 rfl ?_
        exact ev_dr (a := [some (.ref 0), some (.int (v1)), some (.int (v2)), some (.long ((0 : Int64))), none, some (.int ((0 : Int32)))]) ⟨rfl, ⟨rfl, ⟨rfl, ⟨rfl, ⟨rfl, trivial⟩⟩⟩⟩⟩ (tX12_ways_l34 d σ 1000 v1 v2 (0 : Int64) (0 : Int32) _ hf)
set_option maxRecDepth 20000 in
set_option maxHeartbeats 4000000 in
theorem tX12_likeliestNow_b31 (d : Nat) (σ : SM) (k4 : Int32 → Int32 → Option (Int32)) (hk4 : ∀ (v1 : Int32) (v2 : Int32) (q : Int32), k4 v1 v2 = some q → ev_X (d + 1) (some .int) eiX12_likeliestNow (4, [some (.ref 0), some (.int (v1)), some (.int (v2))], [], hM σ) (some (.int q), hM σ)) (v2 : Int32) (w0 : Int32) (q : Int32) (hf : fX12_likeliestNow_b31 σ k4 v2 w0 = some q) : ev_X (d + 1) (some .int) eiX12_likeliestNow (31, [some (.ref 0), none, some (.int (v2))], [.int (w0)], hM σ) (some (.int q), hM σ) := by
  unfold fX12_likeliestNow_b31 at hf
  refine ev_go (c' := (4, [some (.ref 0), some (.int (w0)), some (.int ((v2 + (1 : Int32))))], [], hM σ)) 2 rfl ?_
  exact ev_dr (a := [some (.ref 0), some (.int (w0)), some (.int ((v2 + (1 : Int32))))]) ⟨rfl, ⟨rfl, ⟨rfl, trivial⟩⟩⟩ (hk4 w0 (v2 + (1 : Int32)) _ hf)
set_option maxRecDepth 20000 in
set_option maxHeartbeats 4000000 in
theorem tX12_likeliestNow_b4 (d : Nat) (σ : SM) (k4 : Int32 → Int32 → Option (Int32)) (hk4 : ∀ (v1 : Int32) (v2 : Int32) (q : Int32), k4 v1 v2 = some q → ev_X (d + 1) (some .int) eiX12_likeliestNow (4, [some (.ref 0), some (.int (v1)), some (.int (v2))], [], hM σ) (some (.int q), hM σ)) (v1 : Int32) (v2 : Int32) (q : Int32) (hf : fX12_likeliestNow_b4 σ k4 v1 v2 = some q) : ev_X (d + 1) (some .int) eiX12_likeliestNow (4, [some (.ref 0), some (.int (v1)), some (.int (v2))], [], hM σ) (some (.int q), hM σ) := by
  unfold fX12_likeliestNow_b4 at hf
  obtain ⟨r1, hr1, hf⟩ := Option.bind_eq_some_iff.mp hf
  refine ev_cli 2 (kk := 133) (as := [.ref 0]) (rest := [.int (v2)]) (pc := 6) (ls := [some (.ref 0), some (.int (v1)), some (.int (v2))]) (st := [.ref 0, .int (v2)]) (h := hM σ) rfl (tX12_cells d σ r1 hr1) ?_
  refine ev_br 0 (P := v2 < r1) (a := 12) (b := 38) (ls := [some (.ref 0), some (.int (v1)), some (.int (v2))]) (st := []) (h := hM σ) rfl (fun c1 => ?_) (fun c1 => ?_)
  · rw [if_pos c1] at hf
    obtain ⟨r2, hr2, hf⟩ := Option.bind_eq_some_iff.mp hf
    refine ev_cll 2 (kk := 155) (as := [.ref 0, .int (v2)]) (rest := []) (pc := 14) (ls := [some (.ref 0), some (.int (v1)), some (.int (v2))]) (st := [.int (v2), .ref 0]) (h := hM σ) rfl (tX12_ofCell d σ v2 r2 hr2) ?_
    obtain ⟨r3, hr3, hf⟩ := Option.bind_eq_some_iff.mp hf
    refine ev_cll 2 (kk := 155) (as := [.ref 0, .int (v1)]) (rest := [.long (r2)]) (pc := 19) (ls := [some (.ref 0), some (.int (v1)), some (.int (v2))]) (st := [.int (v1), .ref 0, .long (r2)]) (h := hM σ) rfl (tX12_ofCell d σ v1 r3 hr3) ?_
    refine ev_bi 1 (lg_cmp_gt r2 r3) (a := 26) (b := 30) (ls := [some (.ref 0), some (.int (v1)), some (.int (v2))]) (st := []) (h := hM σ) rfl (fun c2 => ?_) (fun c2 => ?_)
    · rw [if_pos c2] at hf
      refine ev_go (c' := (31, [some (.ref 0), some (.int (v1)), some (.int (v2))], [.int (v2)], hM σ)) 1 rfl ?_
      exact ev_dr (a := [some (.ref 0), none, some (.int (v2))]) ⟨rfl, ⟨rfl, trivial⟩⟩ (tX12_likeliestNow_b31 d σ k4 hk4 v2 v2 _ hf)
    · rw [if_neg c2] at hf
      refine ev_go (c' := (31, [some (.ref 0), some (.int (v1)), some (.int (v2))], [.int (v1)], hM σ)) 0 rfl ?_
      exact ev_dr (a := [some (.ref 0), none, some (.int (v2))]) ⟨rfl, ⟨rfl, trivial⟩⟩ (tX12_likeliestNow_b31 d σ k4 hk4 v2 v1 _ hf)
  · rw [if_neg c1] at hf
    cases hf
    exact ev_rt 1 rfl
theorem tX12_likeliestNow_l4 (d : Nat) (σ : SM) : ∀ (n : Nat) (v1 : Int32) (v2 : Int32) (q : Int32), fX12_likeliestNow_l4 σ n v1 v2 = some q → ev_X (d + 1) (some .int) eiX12_likeliestNow (4, [some (.ref 0), some (.int (v1)), some (.int (v2))], [], hM σ) (some (.int q), hM σ)
  | 0, _, _, _, hf => by cases hf
  | n + 1, v1, v2, q, hf => tX12_likeliestNow_b4 d σ (fX12_likeliestNow_l4 σ n) (fun v1 v2 q h9 => tX12_likeliestNow_l4 d σ n v1 v2 q h9) v1 v2 q hf
set_option maxRecDepth 20000 in
set_option maxHeartbeats 4000000 in
theorem tX12_likeliestNow (d : Nat) (σ : SM) (q : Int32) (hf : fX12_likeliestNow σ = some q) : ev_M ev_mt (d + 2) 159 [.ref 0] (hM σ) (some (.int q), hM σ) := by
  refine ev_en (rt := (some .int)) (I := eiX12_likeliestNow) rfl (Nat.le_of_ble_eq_true rfl) ?_
  change ev_X (d + 1) _ _ (0, [some (.ref 0), none, none], [], hM σ) _
  unfold fX12_likeliestNow at hf
  refine ev_go (c' := (4, [some (.ref 0), some (.int ((0 : Int32))), some (.int ((1 : Int32)))], [], hM σ)) 3 rfl ?_
  exact ev_dr (a := [some (.ref 0), some (.int ((0 : Int32))), some (.int ((1 : Int32)))]) ⟨rfl, ⟨rfl, ⟨rfl, trivial⟩⟩⟩ (tX12_likeliestNow_l4 d σ 1000 (0 : Int32) (1 : Int32) _ hf)
set_option maxRecDepth 20000 in
set_option maxHeartbeats 4000000 in
theorem tX12_likeliest_b16 (d : Nat) (σ : SM) (w0 : Int32) (q : Int32) (hf : fX12_likeliest_b16 σ w0 = some q) : ev_X (d + 2) (some .int) eiX12_likeliest (16, [none], [.int (w0)], hM σ) (some (.int q), hM σ) := by
  unfold fX12_likeliest_b16 at hf
  cases hf
  exact ev_rt 0 rfl
set_option maxRecDepth 20000 in
set_option maxHeartbeats 4000000 in
theorem tX12_likeliest (d : Nat) (σ : SM) (q : Int32) (hf : fX12_likeliest σ = some q) : ev_M ev_mt (d + 3) 160 [.ref 0] (hM σ) (some (.int q), hM σ) := by
  refine ev_en (rt := (some .int)) (I := eiX12_likeliest) rfl (Nat.le_of_ble_eq_true rfl) ?_
  change ev_X (d + 2) _ _ (0, [some (.ref 0)], [], hM σ) _
  unfold fX12_likeliest at hf
  refine ev_br 2 (P := (gm_rg_rings σ) = 0) (a := 7) (b := 12) (ls := [some (.ref 0)]) (st := []) (h := hM σ) rfl (fun c1 => ?_) (fun c1 => ?_)
  · rw [if_pos c1] at hf
    refine ev_go (c' := (16, [some (.ref 0)], [.int ((-103 : Int32))], hM σ)) 1 rfl ?_
    exact ev_dr (a := [none]) trivial (tX12_likeliest_b16 d σ (-103 : Int32) _ hf)
  · rw [if_neg c1] at hf
    obtain ⟨r1, hr1, hf⟩ := Option.bind_eq_some_iff.mp hf
    refine ev_cli 1 (kk := 159) (as := [.ref 0]) (rest := []) (pc := 13) (ls := [some (.ref 0)]) (st := [.ref 0]) (h := hM σ) rfl (tX12_likeliestNow d σ r1 hr1) ?_
    exact ev_dr (a := [none]) trivial (tX12_likeliest_b16 d σ r1 _ hf)
set_option maxRecDepth 20000 in
set_option maxHeartbeats 4000000 in
theorem tX12_knows_b40 (d : Nat) (σ : SM) (w0 : Int64) (q : Int64) (hf : fX12_knows_b40 σ w0 = some q) : ev_X (d + 2) (some .long) eiX12_knows (40, [none, none], [.long (w0)], hM σ) (some (.long q), hM σ) := by
  unfold fX12_knows_b40 at hf
  cases hf
  exact ev_rt 0 rfl
set_option maxRecDepth 20000 in
set_option maxHeartbeats 4000000 in
theorem tX12_knows (d : Nat) (σ : SM) (v1 : Int32) (q : Int64) (hf : fX12_knows σ v1 = some q) : ev_M ev_mt (d + 3) 161 [.ref 0, .int (v1)] (hM σ) (some (.long q), hM σ) := by
  refine ev_en (rt := (some .long)) (I := eiX12_knows) rfl (Nat.le_of_ble_eq_true rfl) ?_
  change ev_X (d + 2) _ _ (0, [some (.ref 0), some (.int (v1))], [], hM σ) _
  unfold fX12_knows at hf
  refine ev_br 2 (P := (gm_rg_rings σ) = 0) (a := 7) (b := 11) (ls := [some (.ref 0), some (.int (v1))]) (st := []) (h := hM σ) rfl (fun c1 => ?_) (fun c1 => ?_)
  · rw [if_pos c1] at hf
    cases hf
    exact ev_rt 1 rfl
  · rw [if_neg c1] at hf
    obtain ⟨r1, hr1, hf⟩ := Option.bind_eq_some_iff.mp hf
    refine ev_cli 1 (kk := 156) (as := [.int (v1)]) (rest := []) (pc := 12) (ls := [some (.ref 0), some (.int (v1))]) (st := [.int (v1)]) (h := hM σ) rfl (tX12_isPart d (hM σ) v1 r1 hr1) ?_
    refine ev_br 0 (P := r1 = 0) (a := 37) (b := 18) (ls := [some (.ref 0), some (.int (v1))]) (st := []) (h := hM σ) rfl (fun c2 => ?_) (fun c2 => ?_)
    · rw [if_pos c2] at hf
      refine ev_go (c' := (40, [some (.ref 0), some (.int (v1))], [.long ((-102 : Int64))], hM σ)) 0 rfl ?_
      exact ev_dr (a := [none, none]) trivial (tX12_knows_b40 d σ (-102 : Int64) _ hf)
    · rw [if_neg c2] at hf
      obtain ⟨r2, hr2, hf⟩ := Option.bind_eq_some_iff.mp hf
      refine ev_cli 2 (kk := 159) (as := [.ref 0]) (rest := [.ref 0]) (pc := 20) (ls := [some (.ref 0), some (.int (v1))]) (st := [.ref 0, .ref 0]) (h := hM σ) rfl (tX12_likeliestNow d σ r2 hr2) ?_
      obtain ⟨r3, hr3, hf⟩ := Option.bind_eq_some_iff.mp hf
      refine ev_cll 0 (kk := 155) (as := [.ref 0, .int (r2)]) (rest := []) (pc := 23) (ls := [some (.ref 0), some (.int (v1))]) (st := [.int (r2), .ref 0]) (h := hM σ) rfl (tX12_ofCell (d + 1) σ r2 r3 hr3) ?_
      obtain ⟨r4, hr4, hf⟩ := Option.bind_eq_some_iff.mp hf
      refine ev_cll 1 (kk := 154) (as := [.ref 0]) (rest := [.long (r3)]) (pc := 27) (ls := [some (.ref 0), some (.int (v1))]) (st := [.ref 0, .long (r3)]) (h := hM σ) rfl (tX12_all (d + 1) σ r4 hr4) ?_
      obtain ⟨r5, hr5, hf⟩ := Option.bind_eq_some_iff.mp hf
      refine ev_cll 1 (kk := 126) (as := [.long (r3), .long (r4), .int (v1)]) (rest := []) (pc := 31) (ls := [some (.ref 0), some (.int (v1))]) (st := [.int (v1), .long (r4), .long (r3)]) (h := hM σ) rfl (tX12_lowest d (hM σ) r3 r4 v1 r5 hr5) ?_
      refine ev_go (c' := (40, [some (.ref 0), some (.int (v1))], [.long (r5)], hM σ)) 0 rfl ?_
      exact ev_dr (a := [none, none]) trivial (tX12_knows_b40 d σ r5 _ hf)
set_option maxRecDepth 20000 in
set_option maxHeartbeats 4000000 in
theorem tX12_greatestThen_b68 (d : Nat) (σ : SM) (k4 : Int64 → Int32 → Option (Int64)) (hk4 : ∀ (v1 : Int64) (v3 : Int32) (q : Int64), k4 v1 v3 = some q → ev_X (d + 1) (some .long) eiX12_greatestThen (4, [some (.ref 0), some (.long (v1)), none, some (.int (v3)), none, none], [], hM σ) (some (.long q), hM σ)) (v3 : Int32) (w0 : Int64) (q : Int64) (hf : fX12_greatestThen_b68 σ k4 v3 w0 = some q) : ev_X (d + 1) (some .long) eiX12_greatestThen (68, [some (.ref 0), none, none, some (.int (v3)), none, none], [.long (w0)], hM σ) (some (.long q), hM σ) := by
  unfold fX12_greatestThen_b68 at hf
  refine ev_go (c' := (4, [some (.ref 0), some (.long (w0)), none, some (.int ((v3 + (1 : Int32)))), none, none], [], hM σ)) 2 rfl ?_
  exact ev_dr (a := [some (.ref 0), some (.long (w0)), none, some (.int ((v3 + (1 : Int32)))), none, none]) ⟨rfl, ⟨rfl, ⟨rfl, trivial⟩⟩⟩ (hk4 w0 (v3 + (1 : Int32)) _ hf)
set_option maxRecDepth 20000 in
set_option maxHeartbeats 4000000 in
theorem tX12_greatestThen_b4 (d : Nat) (σ : SM) (k4 : Int64 → Int32 → Option (Int64)) (hk4 : ∀ (v1 : Int64) (v3 : Int32) (q : Int64), k4 v1 v3 = some q → ev_X (d + 1) (some .long) eiX12_greatestThen (4, [some (.ref 0), some (.long (v1)), none, some (.int (v3)), none, none], [], hM σ) (some (.long q), hM σ)) (v1 : Int64) (v3 : Int32) (q : Int64) (hf : fX12_greatestThen_b4 σ k4 v1 v3 = some q) : ev_X (d + 1) (some .long) eiX12_greatestThen (4, [some (.ref 0), some (.long (v1)), none, some (.int (v3)), none, none], [], hM σ) (some (.long q), hM σ) := by
  unfold fX12_greatestThen_b4 at hf
  obtain ⟨r1, hr1, hf⟩ := Option.bind_eq_some_iff.mp hf
  refine ev_cli 2 (kk := 133) (as := [.ref 0]) (rest := [.int (v3)]) (pc := 6) (ls := [some (.ref 0), some (.long (v1)), none, some (.int (v3)), none, none]) (st := [.ref 0, .int (v3)]) (h := hM σ) rfl (tX12_cells d σ r1 hr1) ?_
  refine ev_br 0 (P := v3 < r1) (a := 12) (b := 75) (ls := [some (.ref 0), some (.long (v1)), none, some (.int (v3)), none, none]) (st := []) (h := hM σ) rfl (fun c1 => ?_) (fun c1 => ?_)
  · rw [if_pos c1] at hf
    obtain ⟨c2, hf⟩ := ev_hp hf
    refine ev_ck 5 (P := ¬ (((4 : Int32) * v3) < 0 ∨ 144 ≤ ((4 : Int32) * v3).toNatClampNeg)) (c' := (20, [some (.ref 0), some (.long (v1)), none, some (.int (v3)), none, none], [.long (((gm_od_then σ) ((4 : Int32) * v3).toNatClampNeg))], hM σ)) rfl c2 ?_
    obtain ⟨c3, hf⟩ := ev_hp hf
    refine ev_ck 7 (P := ¬ ((((4 : Int32) * v3) + (1 : Int32)) < 0 ∨ 144 ≤ (((4 : Int32) * v3) + (1 : Int32)).toNatClampNeg)) (c' := (30, [some (.ref 0), some (.long (v1)), none, some (.int (v3)), none, none], [.long (((gm_od_then σ) (((4 : Int32) * v3) + (1 : Int32)).toNatClampNeg)), .long (((gm_od_then σ) ((4 : Int32) * v3).toNatClampNeg))], hM σ)) rfl c3 ?_
    obtain ⟨c4, hf⟩ := ev_hp hf
    refine ev_ck 8 (P := ¬ ((((4 : Int32) * v3) + (2 : Int32)) < 0 ∨ 144 ≤ (((4 : Int32) * v3) + (2 : Int32)).toNatClampNeg)) (c' := (41, [some (.ref 0), some (.long (v1)), none, some (.int (v3)), none, none], [.long (((gm_od_then σ) (((4 : Int32) * v3) + (2 : Int32)).toNatClampNeg)), .long ((((gm_od_then σ) ((4 : Int32) * v3).toNatClampNeg) + ((gm_od_then σ) (((4 : Int32) * v3) + (1 : Int32)).toNatClampNeg)))], hM σ)) rfl c4 ?_
    obtain ⟨c5, hf⟩ := ev_hp hf
    refine ev_ck 8 (P := ¬ ((((4 : Int32) * v3) + (3 : Int32)) < 0 ∨ 144 ≤ (((4 : Int32) * v3) + (3 : Int32)).toNatClampNeg)) (c' := (52, [some (.ref 0), some (.long (v1)), none, some (.int (v3)), none, none], [.long (((gm_od_then σ) (((4 : Int32) * v3) + (3 : Int32)).toNatClampNeg)), .long (((((gm_od_then σ) ((4 : Int32) * v3).toNatClampNeg) + ((gm_od_then σ) (((4 : Int32) * v3) + (1 : Int32)).toNatClampNeg)) + ((gm_od_then σ) (((4 : Int32) * v3) + (2 : Int32)).toNatClampNeg)))], hM σ)) rfl c5 ?_
    refine ev_bi 5 (lg_cmp_gt (((((gm_od_then σ) ((4 : Int32) * v3).toNatClampNeg) + ((gm_od_then σ) (((4 : Int32) * v3) + (1 : Int32)).toNatClampNeg)) + ((gm_od_then σ) (((4 : Int32) * v3) + (2 : Int32)).toNatClampNeg)) + ((gm_od_then σ) (((4 : Int32) * v3) + (3 : Int32)).toNatClampNeg)) v1) (a := 62) (b := 67) (ls := [some (.ref 0), some (.long (v1)), none, some (.int (v3)), some (.long ((((((gm_od_then σ) ((4 : Int32) * v3).toNatClampNeg) + ((gm_od_then σ) (((4 : Int32) * v3) + (1 : Int32)).toNatClampNeg)) + ((gm_od_then σ) (((4 : Int32) * v3) + (2 : Int32)).toNatClampNeg)) + ((gm_od_then σ) (((4 : Int32) * v3) + (3 : Int32)).toNatClampNeg)))), none]) (st := []) (h := hM σ) rfl (fun c6 => ?_) (fun c6 => ?_)
    · rw [if_pos c6] at hf
      refine ev_go (c' := (68, [some (.ref 0), some (.long (v1)), none, some (.int (v3)), some (.long ((((((gm_od_then σ) ((4 : Int32) * v3).toNatClampNeg) + ((gm_od_then σ) (((4 : Int32) * v3) + (1 : Int32)).toNatClampNeg)) + ((gm_od_then σ) (((4 : Int32) * v3) + (2 : Int32)).toNatClampNeg)) + ((gm_od_then σ) (((4 : Int32) * v3) + (3 : Int32)).toNatClampNeg)))), none], [.long ((((((gm_od_then σ) ((4 : Int32) * v3).toNatClampNeg) + ((gm_od_then σ) (((4 : Int32) * v3) + (1 : Int32)).toNatClampNeg)) + ((gm_od_then σ) (((4 : Int32) * v3) + (2 : Int32)).toNatClampNeg)) + ((gm_od_then σ) (((4 : Int32) * v3) + (3 : Int32)).toNatClampNeg)))], hM σ)) 1 rfl ?_
      exact ev_dr (a := [some (.ref 0), none, none, some (.int (v3)), none, none]) ⟨rfl, ⟨rfl, trivial⟩⟩ (tX12_greatestThen_b68 d σ k4 hk4 v3 (((((gm_od_then σ) ((4 : Int32) * v3).toNatClampNeg) + ((gm_od_then σ) (((4 : Int32) * v3) + (1 : Int32)).toNatClampNeg)) + ((gm_od_then σ) (((4 : Int32) * v3) + (2 : Int32)).toNatClampNeg)) + ((gm_od_then σ) (((4 : Int32) * v3) + (3 : Int32)).toNatClampNeg)) _ hf)
    · rw [if_neg c6] at hf
      refine ev_go (c' := (68, [some (.ref 0), some (.long (v1)), none, some (.int (v3)), some (.long ((((((gm_od_then σ) ((4 : Int32) * v3).toNatClampNeg) + ((gm_od_then σ) (((4 : Int32) * v3) + (1 : Int32)).toNatClampNeg)) + ((gm_od_then σ) (((4 : Int32) * v3) + (2 : Int32)).toNatClampNeg)) + ((gm_od_then σ) (((4 : Int32) * v3) + (3 : Int32)).toNatClampNeg)))), none], [.long (v1)], hM σ)) 0 rfl ?_
      exact ev_dr (a := [some (.ref 0), none, none, some (.int (v3)), none, none]) ⟨rfl, ⟨rfl, trivial⟩⟩ (tX12_greatestThen_b68 d σ k4 hk4 v3 v1 _ hf)
  · rw [if_neg c1] at hf
    cases hf
    exact ev_rt 1 rfl
theorem tX12_greatestThen_l4 (d : Nat) (σ : SM) : ∀ (n : Nat) (v1 : Int64) (v3 : Int32) (q : Int64), fX12_greatestThen_l4 σ n v1 v3 = some q → ev_X (d + 1) (some .long) eiX12_greatestThen (4, [some (.ref 0), some (.long (v1)), none, some (.int (v3)), none, none], [], hM σ) (some (.long q), hM σ)
  | 0, _, _, _, hf => by cases hf
  | n + 1, v1, v3, q, hf => tX12_greatestThen_b4 d σ (fX12_greatestThen_l4 σ n) (fun v1 v3 q h9 => tX12_greatestThen_l4 d σ n v1 v3 q h9) v1 v3 q hf
set_option maxRecDepth 20000 in
set_option maxHeartbeats 4000000 in
theorem tX12_greatestThen (d : Nat) (σ : SM) (q : Int64) (hf : fX12_greatestThen σ = some q) : ev_M ev_mt (d + 2) 162 [.ref 0] (hM σ) (some (.long q), hM σ) := by
  refine ev_en (rt := (some .long)) (I := eiX12_greatestThen) rfl (Nat.le_of_ble_eq_true rfl) ?_
  change ev_X (d + 1) _ _ (0, [some (.ref 0), none, none, none, none, none], [], hM σ) _
  unfold fX12_greatestThen at hf
  refine ev_go (c' := (4, [some (.ref 0), some (.long ((0 : Int64))), none, some (.int ((0 : Int32))), none, none], [], hM σ)) 3 rfl ?_
  exact ev_dr (a := [some (.ref 0), some (.long ((0 : Int64))), none, some (.int ((0 : Int32))), none, none]) ⟨rfl, ⟨rfl, ⟨rfl, trivial⟩⟩⟩ (tX12_greatestThen_l4 d σ 1000 (0 : Int64) (0 : Int32) _ hf)
set_option maxRecDepth 20000 in
set_option maxHeartbeats 4000000 in
theorem tX12_expectedNow_b54 (d : Nat) (k6 : SM → Int32 → Int32 → Int32 → Int32 → Int64 → Int32 → Option (Int64 × SM)) (hk6 : ∀ (σ : SM) (v1 : Int32) (v2 : Int32) (v3 : Int32) (v4 : Int32) (v5 : Int64) (v7 : Int32) (q : Int64 × SM), k6 σ v1 v2 v3 v4 v5 v7 = some q → ev_X (d + 4) (some .long) eiX12_expectedNow (6, [some (.ref 0), some (.int (v1)), some (.int (v2)), some (.int (v3)), some (.int (v4)), some (.long (v5)), none, some (.int (v7))], [], hM σ) (some (.long q.1), hM q.2)) (σ : SM) (v1 : Int32) (v2 : Int32) (v3 : Int32) (v4 : Int32) (v5 : Int64) (v7 : Int32) (q : Int64 × SM) (hf : fX12_expectedNow_b54 k6 σ v1 v2 v3 v4 v5 v7 = some q) : ev_X (d + 4) (some .long) eiX12_expectedNow (54, [some (.ref 0), some (.int (v1)), some (.int (v2)), some (.int (v3)), some (.int (v4)), some (.long (v5)), none, some (.int (v7))], [], hM σ) (some (.long q.1), hM q.2) := by
  unfold fX12_expectedNow_b54 at hf
  obtain ⟨r1, hr1, hf⟩ := Option.bind_eq_some_iff.mp hf
  refine ev_cll 2 (kk := 162) (as := [.ref 0]) (rest := [.long (v5)]) (pc := 57) (ls := [some (.ref 0), some (.int (v1)), some (.int (v2)), some (.int (v3)), some (.int (v4)), some (.long (v5)), none, some (.int (v7))]) (st := [.ref 0, .long (v5)]) (h := hM σ) rfl (tX12_greatestThen (d + 2) σ r1 hr1) ?_
  refine ev_go (c' := (6, [some (.ref 0), some (.int (v1)), some (.int (v2)), some (.int (v3)), some (.int (v4)), some (.long ((v5 + r1))), none, some (.int ((v7 + (1 : Int32))))], [], hM σ)) 3 rfl ?_
  exact ev_dr (a := [some (.ref 0), some (.int (v1)), some (.int (v2)), some (.int (v3)), some (.int (v4)), some (.long ((v5 + r1))), none, some (.int ((v7 + (1 : Int32))))]) ⟨rfl, ⟨rfl, ⟨rfl, ⟨rfl, ⟨rfl, ⟨rfl, ⟨rfl, trivial⟩⟩⟩⟩⟩⟩⟩ (hk6 σ v1 v2 v3 v4 (v5 + r1) (v7 + (1 : Int32)) _ hf)
set_option maxRecDepth 20000 in
set_option maxHeartbeats 4000000 in
theorem tX12_expectedNow_b48 (d : Nat) (k6 : SM → Int32 → Int32 → Int32 → Int32 → Int64 → Int32 → Option (Int64 × SM)) (hk6 : ∀ (σ : SM) (v1 : Int32) (v2 : Int32) (v3 : Int32) (v4 : Int32) (v5 : Int64) (v7 : Int32) (q : Int64 × SM), k6 σ v1 v2 v3 v4 v5 v7 = some q → ev_X (d + 4) (some .long) eiX12_expectedNow (6, [some (.ref 0), some (.int (v1)), some (.int (v2)), some (.int (v3)), some (.int (v4)), some (.long (v5)), none, some (.int (v7))], [], hM σ) (some (.long q.1), hM q.2)) (σ : SM) (v1 : Int32) (v2 : Int32) (v3 : Int32) (v4 : Int32) (v5 : Int64) (v7 : Int32) (w0 : Int32) (q : Int64 × SM) (hf : fX12_expectedNow_b48 k6 σ v1 v2 v3 v4 v5 v7 w0 = some q) : ev_X (d + 4) (some .long) eiX12_expectedNow (48, [some (.ref 0), some (.int (v1)), some (.int (v2)), some (.int (v3)), some (.int (v4)), some (.long (v5)), none, some (.int (v7))], [.int (w0), .ref 0], hM σ) (some (.long q.1), hM q.2) := by
  unfold fX12_expectedNow_b48 at hf
  obtain ⟨r2, hr2, hf⟩ := Option.bind_eq_some_iff.mp hf
  refine ev_clv 2 (kk := 149) (as := [.ref 0, .int (w0), .int (v2), .int (v7)]) (rest := []) (pc := 51) (ls := [some (.ref 0), some (.int (v1)), some (.int (v2)), some (.int (v3)), some (.int (v4)), some (.long (v5)), none, some (.int (v7))]) (st := [.int (v7), .int (v2), .int (w0), .ref 0]) (h := hM σ) rfl (tX12_layStep d σ w0 v2 v7 r2 hr2) ?_
  exact ev_dr (a := [some (.ref 0), some (.int (v1)), some (.int (v2)), some (.int (v3)), some (.int (v4)), some (.long (v5)), none, some (.int (v7))]) ⟨rfl, ⟨rfl, ⟨rfl, ⟨rfl, ⟨rfl, ⟨rfl, ⟨rfl, trivial⟩⟩⟩⟩⟩⟩⟩ (tX12_expectedNow_b54 d k6 hk6 r2 v1 v2 v3 v4 v5 v7 _ hf)
set_option maxRecDepth 20000 in
set_option maxHeartbeats 4000000 in
theorem tX12_expectedNow_b6 (d : Nat) (k6 : SM → Int32 → Int32 → Int32 → Int32 → Int64 → Int32 → Option (Int64 × SM)) (hk6 : ∀ (σ : SM) (v1 : Int32) (v2 : Int32) (v3 : Int32) (v4 : Int32) (v5 : Int64) (v7 : Int32) (q : Int64 × SM), k6 σ v1 v2 v3 v4 v5 v7 = some q → ev_X (d + 4) (some .long) eiX12_expectedNow (6, [some (.ref 0), some (.int (v1)), some (.int (v2)), some (.int (v3)), some (.int (v4)), some (.long (v5)), none, some (.int (v7))], [], hM σ) (some (.long q.1), hM q.2)) (σ : SM) (v1 : Int32) (v2 : Int32) (v3 : Int32) (v4 : Int32) (v5 : Int64) (v7 : Int32) (q : Int64 × SM) (hf : fX12_expectedNow_b6 k6 σ v1 v2 v3 v4 v5 v7 = some q) : ev_X (d + 4) (some .long) eiX12_expectedNow (6, [some (.ref 0), some (.int (v1)), some (.int (v2)), some (.int (v3)), some (.int (v4)), some (.long (v5)), none, some (.int (v7))], [], hM σ) (some (.long q.1), hM q.2) := by
  unfold fX12_expectedNow_b6 at hf
  refine ev_br 2 (P := v7 < (4 : Int32)) (a := 12) (b := 69) (ls := [some (.ref 0), some (.int (v1)), some (.int (v2)), some (.int (v3)), some (.int (v4)), some (.long (v5)), none, some (.int (v7))]) (st := []) (h := hM σ) rfl (fun c1 => ?_) (fun c1 => ?_)
  · rw [if_pos c1] at hf
    refine ev_br 2 (P := v1 = (3 : Int32)) (a := 17) (b := 29) (ls := [some (.ref 0), some (.int (v1)), some (.int (v2)), some (.int (v3)), some (.int (v4)), some (.long (v5)), none, some (.int (v7))]) (st := []) (h := hM σ) rfl (fun c2 => ?_) (fun c2 => ?_)
    · rw [if_pos c2] at hf
      obtain ⟨r3, hr3, hf⟩ := Option.bind_eq_some_iff.mp hf
      refine ev_clv 4 (kk := 152) (as := [.ref 0, .int (v3), .int (v7), .int (v4)]) (rest := []) (pc := 23) (ls := [some (.ref 0), some (.int (v1)), some (.int (v2)), some (.int (v3)), some (.int (v4)), some (.long (v5)), none, some (.int (v7))]) (st := [.int (v4), .int (v7), .int (v3), .ref 0]) (h := hM σ) rfl (tX12_layHeard (d + 1) σ v3 v7 v4 r3 hr3) ?_
      refine ev_go (c' := (54, [some (.ref 0), some (.int (v1)), some (.int (v2)), some (.int (v3)), some (.int (v4)), some (.long (v5)), none, some (.int (v7))], [], hM r3)) 0 rfl ?_
      exact ev_dr (a := [some (.ref 0), some (.int (v1)), some (.int (v2)), some (.int (v3)), some (.int (v4)), some (.long (v5)), none, some (.int (v7))]) ⟨rfl, ⟨rfl, ⟨rfl, ⟨rfl, ⟨rfl, ⟨rfl, ⟨rfl, trivial⟩⟩⟩⟩⟩⟩⟩ (tX12_expectedNow_b54 d k6 hk6 r3 v1 v2 v3 v4 v5 v7 _ hf)
    · rw [if_neg c2] at hf
      refine ev_br 2 (P := v1 = 0) (a := 34) (b := 38) (ls := [some (.ref 0), some (.int (v1)), some (.int (v2)), some (.int (v3)), some (.int (v4)), some (.long (v5)), none, some (.int (v7))]) (st := [.ref 0]) (h := hM σ) rfl (fun c3 => ?_) (fun c3 => ?_)
      · rw [if_pos c3] at hf
        refine ev_go (c' := (48, [some (.ref 0), some (.int (v1)), some (.int (v2)), some (.int (v3)), some (.int (v4)), some (.long (v5)), none, some (.int (v7))], [.int ((0 : Int32)), .ref 0], hM σ)) 1 rfl ?_
        exact ev_dr (a := [some (.ref 0), some (.int (v1)), some (.int (v2)), some (.int (v3)), some (.int (v4)), some (.long (v5)), none, some (.int (v7))]) ⟨rfl, ⟨rfl, ⟨rfl, ⟨rfl, ⟨rfl, ⟨rfl, ⟨rfl, trivial⟩⟩⟩⟩⟩⟩⟩ (tX12_expectedNow_b48 d k6 hk6 σ v1 v2 v3 v4 v5 v7 (0 : Int32) _ hf)
      · rw [if_neg c3] at hf
        refine ev_br 2 (P := v1 = (1 : Int32)) (a := 43) (b := 47) (ls := [some (.ref 0), some (.int (v1)), some (.int (v2)), some (.int (v3)), some (.int (v4)), some (.long (v5)), none, some (.int (v7))]) (st := [.ref 0]) (h := hM σ) rfl (fun c4 => ?_) (fun c4 => ?_)
        · rw [if_pos c4] at hf
          refine ev_go (c' := (48, [some (.ref 0), some (.int (v1)), some (.int (v2)), some (.int (v3)), some (.int (v4)), some (.long (v5)), none, some (.int (v7))], [.int ((3 : Int32)), .ref 0], hM σ)) 1 rfl ?_
          exact ev_dr (a := [some (.ref 0), some (.int (v1)), some (.int (v2)), some (.int (v3)), some (.int (v4)), some (.long (v5)), none, some (.int (v7))]) ⟨rfl, ⟨rfl, ⟨rfl, ⟨rfl, ⟨rfl, ⟨rfl, ⟨rfl, trivial⟩⟩⟩⟩⟩⟩⟩ (tX12_expectedNow_b48 d k6 hk6 σ v1 v2 v3 v4 v5 v7 (3 : Int32) _ hf)
        · rw [if_neg c4] at hf
          refine ev_go (c' := (48, [some (.ref 0), some (.int (v1)), some (.int (v2)), some (.int (v3)), some (.int (v4)), some (.long (v5)), none, some (.int (v7))], [.int ((1 : Int32)), .ref 0], hM σ)) 0 rfl ?_
          exact ev_dr (a := [some (.ref 0), some (.int (v1)), some (.int (v2)), some (.int (v3)), some (.int (v4)), some (.long (v5)), none, some (.int (v7))]) ⟨rfl, ⟨rfl, ⟨rfl, ⟨rfl, ⟨rfl, ⟨rfl, ⟨rfl, trivial⟩⟩⟩⟩⟩⟩⟩ (tX12_expectedNow_b48 d k6 hk6 σ v1 v2 v3 v4 v5 v7 (1 : Int32) _ hf)
  · rw [if_neg c1] at hf
    cases hf
    exact ev_rt 1 rfl
theorem tX12_expectedNow_l6 (d : Nat) : ∀ (n : Nat) (σ : SM) (v1 : Int32) (v2 : Int32) (v3 : Int32) (v4 : Int32) (v5 : Int64) (v7 : Int32) (q : Int64 × SM), fX12_expectedNow_l6 n σ v1 v2 v3 v4 v5 v7 = some q → ev_X (d + 4) (some .long) eiX12_expectedNow (6, [some (.ref 0), some (.int (v1)), some (.int (v2)), some (.int (v3)), some (.int (v4)), some (.long (v5)), none, some (.int (v7))], [], hM σ) (some (.long q.1), hM q.2)
  | 0, _, _, _, _, _, _, _, _, hf => by cases hf
  | n + 1, σ, v1, v2, v3, v4, v5, v7, q, hf => tX12_expectedNow_b6 d (fX12_expectedNow_l6 n) (fun σ v1 v2 v3 v4 v5 v7 q h9 => tX12_expectedNow_l6 d n σ v1 v2 v3 v4 v5 v7 q h9) σ v1 v2 v3 v4 v5 v7 q hf
set_option maxRecDepth 20000 in
set_option maxHeartbeats 4000000 in
theorem tX12_expectedNow (d : Nat) (σ : SM) (v1 : Int32) (v2 : Int32) (v3 : Int32) (v4 : Int32) (q : Int64 × SM) (hf : fX12_expectedNow σ v1 v2 v3 v4 = some q) : ev_M ev_mt (d + 5) 163 [.ref 0, .int (v1), .int (v2), .int (v3), .int (v4)] (hM σ) (some (.long q.1), hM q.2) := by
  refine ev_en (rt := (some .long)) (I := eiX12_expectedNow) rfl (Nat.le_of_ble_eq_true rfl) ?_
  change ev_X (d + 4) _ _ (0, [some (.ref 0), some (.int (v1)), some (.int (v2)), some (.int (v3)), some (.int (v4)), none, none, none], [], hM σ) _
  unfold fX12_expectedNow at hf
  refine ev_go (c' := (6, [some (.ref 0), some (.int (v1)), some (.int (v2)), some (.int (v3)), some (.int (v4)), some (.long ((0 : Int64))), none, some (.int ((0 : Int32)))], [], hM σ)) 3 rfl ?_
  exact ev_dr (a := [some (.ref 0), some (.int (v1)), some (.int (v2)), some (.int (v3)), some (.int (v4)), some (.long ((0 : Int64))), none, some (.int ((0 : Int32)))]) ⟨rfl, ⟨rfl, ⟨rfl, ⟨rfl, ⟨rfl, ⟨rfl, ⟨rfl, trivial⟩⟩⟩⟩⟩⟩⟩ (tX12_expectedNow_l6 d 1000 σ v1 v2 v3 v4 (0 : Int64) (0 : Int32) _ hf)
set_option maxRecDepth 20000 in
set_option maxHeartbeats 4000000 in
theorem tX12_areMany_b14 (d : Nat) (σ : SM) (w0 : Int32) (q : Int32) (hf : fX12_areMany_b14 σ w0 = some q) : ev_X d (some .boolean) eiX12_areMany (14, [none], [.int (w0)], hM σ) (some (.int q), hM σ) := by
  unfold fX12_areMany_b14 at hf
  obtain ⟨c1, hf⟩ := ev_hp hf
  cases hf
  exact ev_rk 0 rfl c1
set_option maxRecDepth 20000 in
set_option maxHeartbeats 4000000 in
theorem tX12_areMany (d : Nat) (σ : SM) (q : Int32) (hf : fX12_areMany σ = some q) : ev_M ev_mt (d + 1) 164 [.ref 0] (hM σ) (some (.int q), hM σ) := by
  refine ev_en (rt := (some .boolean)) (I := eiX12_areMany) rfl (Nat.le_of_ble_eq_true rfl) ?_
  change ev_X d _ _ (0, [some (.ref 0)], [], hM σ) _
  unfold fX12_areMany at hf
  refine ev_br 3 (P := (7 : Int32) < (gm_od_updates σ)) (a := 9) (b := 13) (ls := [some (.ref 0)]) (st := []) (h := hM σ) rfl (fun c1 => ?_) (fun c1 => ?_)
  · rw [if_pos c1] at hf
    refine ev_go (c' := (14, [some (.ref 0)], [.int ((1 : Int32))], hM σ)) 1 rfl ?_
    exact ev_dr (a := [none]) trivial (tX12_areMany_b14 d σ (1 : Int32) _ hf)
  · rw [if_neg c1] at hf
    refine ev_go (c' := (14, [some (.ref 0)], [.int ((0 : Int32))], hM σ)) 0 rfl ?_
    exact ev_dr (a := [none]) trivial (tX12_areMany_b14 d σ (0 : Int32) _ hf)
set_option maxRecDepth 20000 in
set_option maxHeartbeats 4000000 in
theorem tX12_expected_b112 (d : Nat) (σ : SM) (v5 : Int32) (w0 : Int64) (w1 : Int64) (q : Int64 × SM) (hf : fX12_expected_b112 σ v5 w0 w1 = some q) : ev_X (d + 5) (some .long) eiX12_expected (112, [some (.ref 0), none, none, none, none, some (.int (v5))], [.long (w0), .long (w1)], hM σ) (some (.long q.1), hM q.2) := by
  unfold fX12_expected_b112 at hf
  obtain ⟨r5, hr5, hf⟩ := Option.bind_eq_some_iff.mp hf
  refine ev_cll 1 (kk := 154) (as := [.ref 0]) (rest := [.long (w0), .long (w1)]) (pc := 113) (ls := [some (.ref 0), none, none, none, none, some (.int (v5))]) (st := [.ref 0, .long (w0), .long (w1)]) (h := hM σ) rfl (tX12_all (d + 4) σ r5 hr5) ?_
  obtain ⟨r6, hr6, hf⟩ := Option.bind_eq_some_iff.mp hf
  refine ev_cll 2 (kk := 126) (as := [.long (w1), .long ((w0 * r5)), .int (v5)]) (rest := []) (pc := 119) (ls := [some (.ref 0), none, none, none, none, some (.int (v5))]) (st := [.int (v5), .long ((w0 * r5)), .long (w1)]) (h := hM σ) rfl (tX12_lowest (d + 3) (hM σ) w1 (w0 * r5) v5 r6 hr6) ?_
  cases hf
  exact ev_rt 0 rfl
set_option maxRecDepth 20000 in
set_option maxHeartbeats 4000000 in
theorem tX12_expected_b78 (d : Nat) (σ : SM) (v1 : Int32) (v2 : Int32) (v3 : Int32) (v4 : Int32) (v5 : Int32) (q : Int64 × SM) (hf : fX12_expected_b78 σ v1 v2 v3 v4 v5 = some q) : ev_X (d + 5) (some .long) eiX12_expected (78, [some (.ref 0), some (.int (v1)), some (.int (v2)), some (.int (v3)), some (.int (v4)), some (.int (v5))], [], hM σ) (some (.long q.1), hM q.2) := by
  unfold fX12_expected_b78 at hf
  obtain ⟨r7, hr7, hf⟩ := Option.bind_eq_some_iff.mp hf
  refine ev_cli 1 (kk := 164) (as := [.ref 0]) (rest := []) (pc := 79) (ls := [some (.ref 0), some (.int (v1)), some (.int (v2)), some (.int (v3)), some (.int (v4)), some (.int (v5))]) (st := [.ref 0]) (h := hM σ) rfl (tX12_areMany (d + 4) σ r7 hr7) ?_
  refine ev_br 0 (P := r7 = 0) (a := 89) (b := 85) (ls := [some (.ref 0), some (.int (v1)), some (.int (v2)), some (.int (v3)), some (.int (v4)), some (.int (v5))]) (st := []) (h := hM σ) rfl (fun c1 => ?_) (fun c1 => ?_)
  · rw [if_pos c1] at hf
    obtain ⟨r8, hr8, hf⟩ := Option.bind_eq_some_iff.mp hf
    refine ev_cll 5 (kk := 163) (as := [.ref 0, .int (v1), .int (v2), .int (v3), .int (v4)]) (rest := []) (pc := 95) (ls := [some (.ref 0), some (.int (v1)), some (.int (v2)), some (.int (v3)), some (.int (v4)), some (.int (v5))]) (st := [.int (v4), .int (v3), .int (v2), .int (v1), .ref 0]) (h := hM σ) rfl (tX12_expectedNow d σ v1 v2 v3 v4 r8 hr8) ?_
    refine ev_br 2 (P := v1 = (3 : Int32)) (a := 103) (b := 109) (ls := [some (.ref 0), some (.int (v1)), some (.int (v2)), some (.int (v3)), some (.int (v4)), some (.int (v5))]) (st := [.long (r8.1)]) (h := hM r8.2) rfl (fun c2 => ?_) (fun c2 => ?_)
    · rw [if_pos c2] at hf
      refine ev_go (c' := (112, [some (.ref 0), some (.int (v1)), some (.int (v2)), some (.int (v3)), some (.int (v4)), some (.int (v5))], [.long ((60 : Int64)), .long (r8.1)], hM r8.2)) 1 rfl ?_
      exact ev_dr (a := [some (.ref 0), none, none, none, none, some (.int (v5))]) ⟨rfl, ⟨rfl, trivial⟩⟩ (tX12_expected_b112 d r8.2 v5 (60 : Int64) r8.1 _ hf)
    · rw [if_neg c2] at hf
      refine ev_go (c' := (112, [some (.ref 0), some (.int (v1)), some (.int (v2)), some (.int (v3)), some (.int (v4)), some (.int (v5))], [.long ((10 : Int64)), .long (r8.1)], hM r8.2)) 0 rfl ?_
      exact ev_dr (a := [some (.ref 0), none, none, none, none, some (.int (v5))]) ⟨rfl, ⟨rfl, trivial⟩⟩ (tX12_expected_b112 d r8.2 v5 (10 : Int64) r8.1 _ hf)
  · rw [if_neg c1] at hf
    cases hf
    exact ev_rt 1 rfl
set_option maxRecDepth 20000 in
set_option maxHeartbeats 4000000 in
theorem tX12_expected_b58 (d : Nat) (σ : SM) (v1 : Int32) (v2 : Int32) (v3 : Int32) (v4 : Int32) (v5 : Int32) (q : Int64 × SM) (hf : fX12_expected_b58 σ v1 v2 v3 v4 v5 = some q) : ev_X (d + 5) (some .long) eiX12_expected (58, [some (.ref 0), some (.int (v1)), some (.int (v2)), some (.int (v3)), some (.int (v4)), some (.int (v5))], [], hM σ) (some (.long q.1), hM q.2) := by
  unfold fX12_expected_b58 at hf
  refine ev_br 2 (P := v1 = (3 : Int32)) (a := 63) (b := 78) (ls := [some (.ref 0), some (.int (v1)), some (.int (v2)), some (.int (v3)), some (.int (v4)), some (.int (v5))]) (st := []) (h := hM σ) rfl (fun c1 => ?_) (fun c1 => ?_)
  · rw [if_pos c1] at hf
    obtain ⟨r9, hr9, hf⟩ := Option.bind_eq_some_iff.mp hf
    refine ev_cli 3 (kk := 123) (as := [.int (v4), .int ((0 : Int32)), .int ((10 : Int32))]) (rest := []) (pc := 68) (ls := [some (.ref 0), some (.int (v1)), some (.int (v2)), some (.int (v3)), some (.int (v4)), some (.int (v5))]) (st := [.int ((10 : Int32)), .int ((0 : Int32)), .int (v4)]) (h := hM σ) rfl (tX12_within (d + 4) (hM σ) v4 (0 : Int32) (10 : Int32) r9 hr9) ?_
    refine ev_br 0 (P := r9 = 0) (a := 74) (b := 78) (ls := [some (.ref 0), some (.int (v1)), some (.int (v2)), some (.int (v3)), some (.int (v4)), some (.int (v5))]) (st := []) (h := hM σ) rfl (fun c2 => ?_) (fun c2 => ?_)
    · rw [if_pos c2] at hf
      cases hf
      exact ev_rt 1 rfl
    · rw [if_neg c2] at hf
      exact ev_dr (a := [some (.ref 0), some (.int (v1)), some (.int (v2)), some (.int (v3)), some (.int (v4)), some (.int (v5))]) ⟨rfl, ⟨rfl, ⟨rfl, ⟨rfl, ⟨rfl, ⟨rfl, trivial⟩⟩⟩⟩⟩⟩ (tX12_expected_b78 d σ v1 v2 v3 v4 v5 _ hf)
  · rw [if_neg c1] at hf
    exact ev_dr (a := [some (.ref 0), some (.int (v1)), some (.int (v2)), some (.int (v3)), some (.int (v4)), some (.int (v5))]) ⟨rfl, ⟨rfl, ⟨rfl, ⟨rfl, ⟨rfl, ⟨rfl, trivial⟩⟩⟩⟩⟩⟩ (tX12_expected_b78 d σ v1 v2 v3 v4 v5 _ hf)
set_option maxRecDepth 20000 in
set_option maxHeartbeats 4000000 in
theorem tX12_expected_b37 (d : Nat) (σ : SM) (q : Int64 × SM) (hf : fX12_expected_b37 σ = some q) : ev_X (d + 5) (some .long) eiX12_expected (37, [none, none, none, none, none, none], [], hM σ) (some (.long q.1), hM q.2) := by
  unfold fX12_expected_b37 at hf
  cases hf
  exact ev_rt 1 rfl
set_option maxRecDepth 20000 in
set_option maxHeartbeats 4000000 in
theorem tX12_expected (d : Nat) (σ : SM) (v1 : Int32) (v2 : Int32) (v3 : Int32) (v4 : Int32) (v5 : Int32) (q : Int64 × SM) (hf : fX12_expected σ v1 v2 v3 v4 v5 = some q) : ev_M ev_mt (d + 6) 165 [.ref 0, .int (v1), .int (v2), .int (v3), .int (v4), .int (v5)] (hM σ) (some (.long q.1), hM q.2) := by
  refine ev_en (rt := (some .long)) (I := eiX12_expected) rfl (Nat.le_of_ble_eq_true rfl) ?_
  change ev_X (d + 5) _ _ (0, [some (.ref 0), some (.int (v1)), some (.int (v2)), some (.int (v3)), some (.int (v4)), some (.int (v5))], [], hM σ) _
  unfold fX12_expected at hf
  refine ev_br 2 (P := (gm_rg_rings σ) = 0) (a := 7) (b := 11) (ls := [some (.ref 0), some (.int (v1)), some (.int (v2)), some (.int (v3)), some (.int (v4)), some (.int (v5))]) (st := []) (h := hM σ) rfl (fun c1 => ?_) (fun c1 => ?_)
  · rw [if_pos c1] at hf
    cases hf
    exact ev_rt 1 rfl
  · rw [if_neg c1] at hf
    obtain ⟨r1, hr1, hf⟩ := Option.bind_eq_some_iff.mp hf
    refine ev_cli 3 (kk := 123) (as := [.int (v1), .int ((0 : Int32)), .int ((3 : Int32))]) (rest := []) (pc := 14) (ls := [some (.ref 0), some (.int (v1)), some (.int (v2)), some (.int (v3)), some (.int (v4)), some (.int (v5))]) (st := [.int ((3 : Int32)), .int ((0 : Int32)), .int (v1)]) (h := hM σ) rfl (tX12_within (d + 4) (hM σ) v1 (0 : Int32) (3 : Int32) r1 hr1) ?_
    refine ev_br 0 (P := r1 = 0) (a := 37) (b := 20) (ls := [some (.ref 0), some (.int (v1)), some (.int (v2)), some (.int (v3)), some (.int (v4)), some (.int (v5))]) (st := []) (h := hM σ) rfl (fun c2 => ?_) (fun c2 => ?_)
    · rw [if_pos c2] at hf
      exact ev_dr (a := [none, none, none, none, none, none]) trivial (tX12_expected_b37 d σ  _ hf)
    · rw [if_neg c2] at hf
      obtain ⟨r2, hr2, hf⟩ := Option.bind_eq_some_iff.mp hf
      refine ev_cli 3 (kk := 123) (as := [.int (v2), .int ((0 : Int32)), .int ((5 : Int32))]) (rest := []) (pc := 23) (ls := [some (.ref 0), some (.int (v1)), some (.int (v2)), some (.int (v3)), some (.int (v4)), some (.int (v5))]) (st := [.int ((5 : Int32)), .int ((0 : Int32)), .int (v2)]) (h := hM σ) rfl (tX12_within (d + 4) (hM σ) v2 (0 : Int32) (5 : Int32) r2 hr2) ?_
      refine ev_br 0 (P := r2 = 0) (a := 37) (b := 29) (ls := [some (.ref 0), some (.int (v1)), some (.int (v2)), some (.int (v3)), some (.int (v4)), some (.int (v5))]) (st := []) (h := hM σ) rfl (fun c3 => ?_) (fun c3 => ?_)
      · rw [if_pos c3] at hf
        exact ev_dr (a := [none, none, none, none, none, none]) trivial (tX12_expected_b37 d σ  _ hf)
      · rw [if_neg c3] at hf
        obtain ⟨r3, hr3, hf⟩ := Option.bind_eq_some_iff.mp hf
        refine ev_cli 1 (kk := 156) (as := [.int (v5)]) (rest := []) (pc := 31) (ls := [some (.ref 0), some (.int (v1)), some (.int (v2)), some (.int (v3)), some (.int (v4)), some (.int (v5))]) (st := [.int (v5)]) (h := hM σ) rfl (tX12_isPart (d + 3) (hM σ) v5 r3 hr3) ?_
        refine ev_br 0 (P := r3 = 0) (a := 37) (b := 41) (ls := [some (.ref 0), some (.int (v1)), some (.int (v2)), some (.int (v3)), some (.int (v4)), some (.int (v5))]) (st := []) (h := hM σ) rfl (fun c4 => ?_) (fun c4 => ?_)
        · rw [if_pos c4] at hf
          exact ev_dr (a := [none, none, none, none, none, none]) trivial (tX12_expected_b37 d σ  _ hf)
        · rw [if_neg c4] at hf
          refine ev_br 2 (P := v1 = (3 : Int32)) (a := 46) (b := 58) (ls := [some (.ref 0), some (.int (v1)), some (.int (v2)), some (.int (v3)), some (.int (v4)), some (.int (v5))]) (st := []) (h := hM σ) rfl (fun c5 => ?_) (fun c5 => ?_)
          · rw [if_pos c5] at hf
            obtain ⟨r4, hr4, hf⟩ := Option.bind_eq_some_iff.mp hf
            refine ev_cli 2 (kk := 135) (as := [.ref 0, .int (v3)]) (rest := []) (pc := 48) (ls := [some (.ref 0), some (.int (v1)), some (.int (v2)), some (.int (v3)), some (.int (v4)), some (.int (v5))]) (st := [.int (v3), .ref 0]) (h := hM σ) rfl (tX12_isFree (d + 2) σ v3 r4 hr4) ?_
            refine ev_br 0 (P := r4 = 0) (a := 54) (b := 58) (ls := [some (.ref 0), some (.int (v1)), some (.int (v2)), some (.int (v3)), some (.int (v4)), some (.int (v5))]) (st := []) (h := hM σ) rfl (fun c6 => ?_) (fun c6 => ?_)
            · rw [if_pos c6] at hf
              cases hf
              exact ev_rt 1 rfl
            · rw [if_neg c6] at hf
              exact ev_dr (a := [some (.ref 0), some (.int (v1)), some (.int (v2)), some (.int (v3)), some (.int (v4)), some (.int (v5))]) ⟨rfl, ⟨rfl, ⟨rfl, ⟨rfl, ⟨rfl, ⟨rfl, trivial⟩⟩⟩⟩⟩⟩ (tX12_expected_b58 d σ v1 v2 v3 v4 v5 _ hf)
          · rw [if_neg c5] at hf
            exact ev_dr (a := [some (.ref 0), some (.int (v1)), some (.int (v2)), some (.int (v3)), some (.int (v4)), some (.int (v5))]) ⟨rfl, ⟨rfl, ⟨rfl, ⟨rfl, ⟨rfl, ⟨rfl, trivial⟩⟩⟩⟩⟩⟩ (tX12_expected_b58 d σ v1 v2 v3 v4 v5 _ hf)
