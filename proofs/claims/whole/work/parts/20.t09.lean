/-! X12_nearestCall X12_goHim X12_touchedNow X12_play X12_game X12_lasts X12_stand X12_feels -/
set_option maxRecDepth 20000 in
set_option maxHeartbeats 4000000 in
theorem tX12_nearestCall_b98 (d : Nat) (σ : SM) (k4 : Int32 → Int32 → Option (Int32)) (hk4 : ∀ (v1 : Int32) (v2 : Int32) (q : Int32), k4 v1 v2 = some q → ev_X (d + 2) (some .int) eiX12_nearestCall (4, [some (.ref 0), some (.int (v1)), some (.int (v2)), none], [], hM σ) (some (.int q), hM σ)) (v1 : Int32) (v2 : Int32) (q : Int32) (hf : fX12_nearestCall_b98 σ k4 v1 v2 = some q) : ev_X (d + 2) (some .int) eiX12_nearestCall (98, [some (.ref 0), some (.int (v1)), some (.int (v2)), none], [], hM σ) (some (.int q), hM σ) := by
  unfold fX12_nearestCall_b98 at hf
  refine ev_go (c' := (4, [some (.ref 0), some (.int (v1)), some (.int ((v2 + (1 : Int32)))), none], [], hM σ)) 1 rfl ?_
  exact ev_dr (a := [some (.ref 0), some (.int (v1)), some (.int ((v2 + (1 : Int32)))), none]) ⟨rfl, ⟨rfl, ⟨rfl, trivial⟩⟩⟩ (hk4 v1 (v2 + (1 : Int32)) _ hf)
set_option maxRecDepth 20000 in
set_option maxHeartbeats 4000000 in
theorem tX12_nearestCall_b97 (d : Nat) (σ : SM) (k4 : Int32 → Int32 → Option (Int32)) (hk4 : ∀ (v1 : Int32) (v2 : Int32) (q : Int32), k4 v1 v2 = some q → ev_X (d + 2) (some .int) eiX12_nearestCall (4, [some (.ref 0), some (.int (v1)), some (.int (v2)), none], [], hM σ) (some (.int q), hM σ)) (v2 : Int32) (w0 : Int32) (q : Int32) (hf : fX12_nearestCall_b97 σ k4 v2 w0 = some q) : ev_X (d + 2) (some .int) eiX12_nearestCall (97, [some (.ref 0), none, some (.int (v2)), none], [.int (w0)], hM σ) (some (.int q), hM σ) := by
  unfold fX12_nearestCall_b97 at hf
  refine ev_go (c' := (98, [some (.ref 0), some (.int (w0)), some (.int (v2)), none], [], hM σ)) 0 rfl ?_
  exact ev_dr (a := [some (.ref 0), some (.int (w0)), some (.int (v2)), none]) ⟨rfl, ⟨rfl, ⟨rfl, trivial⟩⟩⟩ (tX12_nearestCall_b98 d σ k4 hk4 w0 v2 _ hf)
set_option maxRecDepth 20000 in
set_option maxHeartbeats 4000000 in
theorem tX12_nearestCall_b92 (d : Nat) (σ : SM) (k4 : Int32 → Int32 → Option (Int32)) (hk4 : ∀ (v1 : Int32) (v2 : Int32) (q : Int32), k4 v1 v2 = some q → ev_X (d + 2) (some .int) eiX12_nearestCall (4, [some (.ref 0), some (.int (v1)), some (.int (v2)), none], [], hM σ) (some (.int q), hM σ)) (v2 : Int32) (v3 : Int32) (q : Int32) (hf : fX12_nearestCall_b92 σ k4 v2 v3 = some q) : ev_X (d + 2) (some .int) eiX12_nearestCall (92, [some (.ref 0), none, some (.int (v2)), some (.int (v3))], [], hM σ) (some (.int q), hM σ) := by
  unfold fX12_nearestCall_b92 at hf
  refine ev_go (c' := (97, [some (.ref 0), none, some (.int (v2)), some (.int (v3))], [.int (v3)], hM σ)) 1 rfl ?_
  exact ev_dr (a := [some (.ref 0), none, some (.int (v2)), none]) ⟨rfl, ⟨rfl, trivial⟩⟩ (tX12_nearestCall_b97 d σ k4 hk4 v2 v3 _ hf)
set_option maxRecDepth 20000 in
set_option maxHeartbeats 4000000 in
theorem tX12_nearestCall_b32 (d : Nat) (σ : SM) (k4 : Int32 → Int32 → Option (Int32)) (hk4 : ∀ (v1 : Int32) (v2 : Int32) (q : Int32), k4 v1 v2 = some q → ev_X (d + 2) (some .int) eiX12_nearestCall (4, [some (.ref 0), some (.int (v1)), some (.int (v2)), none], [], hM σ) (some (.int q), hM σ)) (v1 : Int32) (v2 : Int32) (q : Int32) (hf : fX12_nearestCall_b32 σ k4 v1 v2 = some q) : ev_X (d + 2) (some .int) eiX12_nearestCall (32, [some (.ref 0), some (.int (v1)), some (.int (v2)), none], [], hM σ) (some (.int q), hM σ) := by
  unfold fX12_nearestCall_b32 at hf
  obtain ⟨r1, hr1, hf⟩ := Option.bind_eq_some_iff.mp hf
  refine ev_cli 2 (kk := 178) (as := [.ref 0, .int (v2)]) (rest := []) (pc := 34) (ls := [some (.ref 0), some (.int (v1)), some (.int (v2)), none]) (st := [.int (v2), .ref 0]) (h := hM σ) rfl (tX12_callOf (d + 1) σ v2 r1 hr1) ?_
  refine ev_br 3 (P := v1 = (-1 : Int32)) (a := 92) (b := 43) (ls := [some (.ref 0), some (.int (v1)), some (.int (v2)), some (.int (r1))]) (st := []) (h := hM σ) rfl (fun c1 => ?_) (fun c1 => ?_)
  · rw [if_pos c1] at hf
    exact ev_dr (a := [some (.ref 0), none, some (.int (v2)), some (.int (r1))]) ⟨rfl, ⟨rfl, ⟨rfl, trivial⟩⟩⟩ (tX12_nearestCall_b92 d σ k4 hk4 v2 r1 _ hf)
  · rw [if_neg c1] at hf
    obtain ⟨c2, hf⟩ := ev_hp hf
    refine ev_ck 6 (P := ¬ (gm_rg_columns σ) = 0) (c' := (54, [some (.ref 0), some (.int (v1)), some (.int (v2)), some (.int (r1))], [.int (((gm_gm_his σ) / (gm_rg_columns σ))), .int (r1), .ref 0], hM σ)) rfl c2 ?_
    obtain ⟨c3, hf⟩ := ev_hp hf
    refine ev_ck 4 (P := ¬ (gm_rg_columns σ) = 0) (c' := (63, [some (.ref 0), some (.int (v1)), some (.int (v2)), some (.int (r1))], [.int (((gm_gm_his σ) - (gm_gm_his σ) / (gm_rg_columns σ) * (gm_rg_columns σ))), .int (((gm_gm_his σ) / (gm_rg_columns σ))), .int (r1), .ref 0], hM σ)) rfl c3 ?_
    obtain ⟨r2, hr2, hf⟩ := Option.bind_eq_some_iff.mp hf
    refine ev_cli 0 (kk := 175) (as := [.ref 0, .int (r1), .int (((gm_gm_his σ) / (gm_rg_columns σ))), .int (((gm_gm_his σ) - (gm_gm_his σ) / (gm_rg_columns σ) * (gm_rg_columns σ)))]) (rest := []) (pc := 63) (ls := [some (.ref 0), some (.int (v1)), some (.int (v2)), some (.int (r1))]) (st := [.int (((gm_gm_his σ) - (gm_gm_his σ) / (gm_rg_columns σ) * (gm_rg_columns σ))), .int (((gm_gm_his σ) / (gm_rg_columns σ))), .int (r1), .ref 0]) (h := hM σ) rfl (tX12_far d σ r1 ((gm_gm_his σ) / (gm_rg_columns σ)) ((gm_gm_his σ) - (gm_gm_his σ) / (gm_rg_columns σ) * (gm_rg_columns σ)) r2 hr2) ?_
    obtain ⟨c4, hf⟩ := ev_hp hf
    refine ev_ck 6 (P := ¬ (gm_rg_columns σ) = 0) (c' := (77, [some (.ref 0), some (.int (v1)), some (.int (v2)), some (.int (r1))], [.int (((gm_gm_his σ) / (gm_rg_columns σ))), .int (v1), .ref 0, .int (r2)], hM σ)) rfl c4 ?_
    obtain ⟨c5, hf⟩ := ev_hp hf
    refine ev_ck 4 (P := ¬ (gm_rg_columns σ) = 0) (c' := (86, [some (.ref 0), some (.int (v1)), some (.int (v2)), some (.int (r1))], [.int (((gm_gm_his σ) - (gm_gm_his σ) / (gm_rg_columns σ) * (gm_rg_columns σ))), .int (((gm_gm_his σ) / (gm_rg_columns σ))), .int (v1), .ref 0, .int (r2)], hM σ)) rfl c5 ?_
    obtain ⟨r3, hr3, hf⟩ := Option.bind_eq_some_iff.mp hf
    refine ev_cli 0 (kk := 175) (as := [.ref 0, .int (v1), .int (((gm_gm_his σ) / (gm_rg_columns σ))), .int (((gm_gm_his σ) - (gm_gm_his σ) / (gm_rg_columns σ) * (gm_rg_columns σ)))]) (rest := [.int (r2)]) (pc := 86) (ls := [some (.ref 0), some (.int (v1)), some (.int (v2)), some (.int (r1))]) (st := [.int (((gm_gm_his σ) - (gm_gm_his σ) / (gm_rg_columns σ) * (gm_rg_columns σ))), .int (((gm_gm_his σ) / (gm_rg_columns σ))), .int (v1), .ref 0, .int (r2)]) (h := hM σ) rfl (tX12_far d σ v1 ((gm_gm_his σ) / (gm_rg_columns σ)) ((gm_gm_his σ) - (gm_gm_his σ) / (gm_rg_columns σ) * (gm_rg_columns σ)) r3 hr3) ?_
    refine ev_br 0 (P := r2 < r3) (a := 92) (b := 96) (ls := [some (.ref 0), some (.int (v1)), some (.int (v2)), some (.int (r1))]) (st := []) (h := hM σ) rfl (fun c6 => ?_) (fun c6 => ?_)
    · rw [if_pos c6] at hf
      exact ev_dr (a := [some (.ref 0), none, some (.int (v2)), some (.int (r1))]) ⟨rfl, ⟨rfl, ⟨rfl, trivial⟩⟩⟩ (tX12_nearestCall_b92 d σ k4 hk4 v2 r1 _ hf)
    · rw [if_neg c6] at hf
      refine ev_go (c' := (97, [some (.ref 0), some (.int (v1)), some (.int (v2)), some (.int (r1))], [.int (v1)], hM σ)) 0 rfl ?_
      exact ev_dr (a := [some (.ref 0), none, some (.int (v2)), none]) ⟨rfl, ⟨rfl, trivial⟩⟩ (tX12_nearestCall_b97 d σ k4 hk4 v2 v1 _ hf)
set_option maxRecDepth 20000 in
set_option maxHeartbeats 4000000 in
theorem tX12_nearestCall_b4 (d : Nat) (σ : SM) (k4 : Int32 → Int32 → Option (Int32)) (hk4 : ∀ (v1 : Int32) (v2 : Int32) (q : Int32), k4 v1 v2 = some q → ev_X (d + 2) (some .int) eiX12_nearestCall (4, [some (.ref 0), some (.int (v1)), some (.int (v2)), none], [], hM σ) (some (.int q), hM σ)) (v1 : Int32) (v2 : Int32) (q : Int32) (hf : fX12_nearestCall_b4 σ k4 v1 v2 = some q) : ev_X (d + 2) (some .int) eiX12_nearestCall (4, [some (.ref 0), some (.int (v1)), some (.int (v2)), none], [], hM σ) (some (.int q), hM σ) := by
  unfold fX12_nearestCall_b4 at hf
  refine ev_br 3 (P := v2 < (gm_pl_players σ)) (a := 12) (b := 104) (ls := [some (.ref 0), some (.int (v1)), some (.int (v2)), none]) (st := []) (h := hM σ) rfl (fun c1 => ?_) (fun c1 => ?_)
  · rw [if_pos c1] at hf
    obtain ⟨c2, hf⟩ := ev_hp hf
    refine ev_ck 3 (P := ¬ (v2 < 0 ∨ 6 ≤ v2.toNatClampNeg)) (c' := (18, [some (.ref 0), some (.int (v1)), some (.int (v2)), none], [.int (((gm_pl_kindOf σ) v2.toNatClampNeg))], hM σ)) rfl c2 ?_
    refine ev_br 1 (P := ((gm_pl_kindOf σ) v2.toNatClampNeg) = (3 : Int32)) (a := 32) (b := 22) (ls := [some (.ref 0), some (.int (v1)), some (.int (v2)), none]) (st := []) (h := hM σ) rfl (fun c3 => ?_) (fun c3 => ?_)
    · rw [if_pos c3] at hf
      exact ev_dr (a := [some (.ref 0), some (.int (v1)), some (.int (v2)), none]) ⟨rfl, ⟨rfl, ⟨rfl, trivial⟩⟩⟩ (tX12_nearestCall_b32 d σ k4 hk4 v1 v2 _ hf)
    · rw [if_neg c3] at hf
      obtain ⟨c4, hf⟩ := ev_hp hf
      refine ev_ck 3 (P := ¬ (v2 < 0 ∨ 6 ≤ v2.toNatClampNeg)) (c' := (28, [some (.ref 0), some (.int (v1)), some (.int (v2)), none], [.int (((gm_pl_kindOf σ) v2.toNatClampNeg))], hM σ)) rfl c4 ?_
      refine ev_br 1 (P := ((gm_pl_kindOf σ) v2.toNatClampNeg) = (4 : Int32)) (a := 32) (b := 98) (ls := [some (.ref 0), some (.int (v1)), some (.int (v2)), none]) (st := []) (h := hM σ) rfl (fun c5 => ?_) (fun c5 => ?_)
      · rw [if_pos c5] at hf
        exact ev_dr (a := [some (.ref 0), some (.int (v1)), some (.int (v2)), none]) ⟨rfl, ⟨rfl, ⟨rfl, trivial⟩⟩⟩ (tX12_nearestCall_b32 d σ k4 hk4 v1 v2 _ hf)
      · rw [if_neg c5] at hf
        exact ev_dr (a := [some (.ref 0), some (.int (v1)), some (.int (v2)), none]) ⟨rfl, ⟨rfl, ⟨rfl, trivial⟩⟩⟩ (tX12_nearestCall_b98 d σ k4 hk4 v1 v2 _ hf)
  · rw [if_neg c1] at hf
    cases hf
    exact ev_rt 1 rfl
theorem tX12_nearestCall_l4 (d : Nat) (σ : SM) : ∀ (n : Nat) (v1 : Int32) (v2 : Int32) (q : Int32), fX12_nearestCall_l4 σ n v1 v2 = some q → ev_X (d + 2) (some .int) eiX12_nearestCall (4, [some (.ref 0), some (.int (v1)), some (.int (v2)), none], [], hM σ) (some (.int q), hM σ)
  | 0, _, _, _, hf => by cases hf
  | n + 1, v1, v2, q, hf => tX12_nearestCall_b4 d σ (fX12_nearestCall_l4 σ n) (fun v1 v2 q h9 => tX12_nearestCall_l4 d σ n v1 v2 q h9) v1 v2 q hf
set_option maxRecDepth 20000 in
set_option maxHeartbeats 4000000 in
theorem tX12_nearestCall (d : Nat) (σ : SM) (q : Int32) (hf : fX12_nearestCall σ = some q) : ev_M ev_mt (d + 3) 179 [.ref 0] (hM σ) (some (.int q), hM σ) := by
  refine ev_en (rt := (some .int)) (I := eiX12_nearestCall) rfl (Nat.le_of_ble_eq_true rfl) ?_
  change ev_X (d + 2) _ _ (0, [some (.ref 0), none, none, none], [], hM σ) _
  unfold fX12_nearestCall at hf
  refine ev_go (c' := (4, [some (.ref 0), some (.int ((-1 : Int32))), some (.int ((0 : Int32))), none], [], hM σ)) 3 rfl ?_
  exact ev_dr (a := [some (.ref 0), some (.int ((-1 : Int32))), some (.int ((0 : Int32))), none]) ⟨rfl, ⟨rfl, ⟨rfl, trivial⟩⟩⟩ (tX12_nearestCall_l4 d σ 1000 (-1 : Int32) (0 : Int32) _ hf)
set_option maxRecDepth 20000 in
set_option maxHeartbeats 4000000 in
theorem tX12_goHim_b114 (d : Nat) (σ : SM) (q : SM) (hf : fX12_goHim_b114 σ = some q) : ev_X (d + 3) none eiX12_goHim (114, [none, none, none, none, none], [], hM σ) (none, hM q) := by
  unfold fX12_goHim_b114 at hf
  cases hf
  exact ev_rt 0 rfl
set_option maxRecDepth 20000 in
set_option maxHeartbeats 4000000 in
theorem tX12_goHim_b67 (d : Nat) (σ : SM) (w0 : Int32) (q : SM) (hf : fX12_goHim_b67 σ w0 = some q) : ev_X (d + 3) none eiX12_goHim (67, [some (.ref 0), none, none, none, none], [.int (w0), .ref 0], hM σ) (none, hM q) := by
  unfold fX12_goHim_b67 at hf
  refine ev_st1 (e := (67, .putfield 243, 3, 38, 0, .null, [(12, 0)], [1088])) (c' := (70, [some (.ref 0), none, none, none, none], [], hM (sm_gm_looks σ w0))) rfl oy_put_m_gm_looks ?_
  obtain ⟨r2, hr2, hf⟩ := Option.bind_eq_some_iff.mp hf
  refine ev_cli 5 (kk := 137) (as := [.ref 0, .int ((gm_gm_his σ)), .int (w0)]) (rest := []) (pc := 79) (ls := [some (.ref 0), none, none, none, none]) (st := [.int (w0), .int ((gm_gm_his σ)), .ref 0]) (h := hM (sm_gm_looks σ w0)) rfl (tX12_on (d + 1) (sm_gm_looks σ w0) (gm_gm_his σ) w0 r2 hr2) ?_
  obtain ⟨r3, hr3, hf⟩ := Option.bind_eq_some_iff.mp hf
  refine ev_cli 3 (kk := 135) (as := [.ref 0, .int (r2)]) (rest := []) (pc := 87) (ls := [some (.ref 0), none, none, none, some (.int (r2))]) (st := [.int (r2), .ref 0]) (h := hM (sm_gm_looks σ w0)) rfl (tX12_isFree d (sm_gm_looks σ w0) r2 r3 hr3) ?_
  refine ev_br 0 (P := r3 = 0) (a := 102) (b := 93) (ls := [some (.ref 0), none, none, none, some (.int (r2))]) (st := []) (h := hM (sm_gm_looks σ w0)) rfl (fun c1 => ?_) (fun c1 => ?_)
  · rw [if_pos c1] at hf
    refine ev_go (c' := (111, [some (.ref 0), none, none, none, some (.int (r2))], [.int (((w0 + (1 : Int32)) - (w0 + (1 : Int32)) / (4 : Int32) * (4 : Int32))), .ref 0], hM (sm_gm_looks σ w0))) 6 rfl ?_
    refine ev_st1 (e := (111, .putfield 243, 3, 38, 0, .null, [(12, 0)], [1088])) (c' := (114, [some (.ref 0), none, none, none, some (.int (r2))], [], hM (sm_gm_looks (sm_gm_looks σ w0) ((w0 + (1 : Int32)) - (w0 + (1 : Int32)) / (4 : Int32) * (4 : Int32))))) rfl oy_put_m_gm_looks ?_
    exact ev_dr (a := [none, none, none, none, none]) trivial (tX12_goHim_b114 d (sm_gm_looks (sm_gm_looks σ w0) ((w0 + (1 : Int32)) - (w0 + (1 : Int32)) / (4 : Int32) * (4 : Int32)))  _ hf)
  · rw [if_neg c1] at hf
    refine ev_go (c' := (96, [some (.ref 0), none, none, none, some (.int (r2))], [.int (r2), .ref 0], hM (sm_gm_looks σ w0))) 1 rfl ?_
    refine ev_st1 (e := (96, .putfield 240, 3, 37, 0, .null, [(12, 0)], [1087])) (c' := (99, [some (.ref 0), none, none, none, some (.int (r2))], [], hM (sm_gm_his (sm_gm_looks σ w0) r2))) rfl oy_put_m_gm_his ?_
    refine ev_go (c' := (114, [some (.ref 0), none, none, none, some (.int (r2))], [], hM (sm_gm_his (sm_gm_looks σ w0) r2))) 0 rfl ?_
    exact ev_dr (a := [none, none, none, none, none]) trivial (tX12_goHim_b114 d (sm_gm_his (sm_gm_looks σ w0) r2)  _ hf)
set_option maxRecDepth 20000 in
set_option maxHeartbeats 4000000 in
theorem tX12_goHim_b41 (d : Nat) (σ : SM) (v2 : Int32) (q : SM) (hf : fX12_goHim_b41 σ v2 = some q) : ev_X (d + 3) none eiX12_goHim (41, [some (.ref 0), none, some (.int (v2)), none, none], [], hM σ) (none, hM q) := by
  unfold fX12_goHim_b41 at hf
  obtain ⟨r4, hr4, hf⟩ := Option.bind_eq_some_iff.mp hf
  refine ev_cli 3 (kk := 174) (as := [.ref 0, .int ((10 : Int32))]) (rest := [.ref 0]) (pc := 45) (ls := [some (.ref 0), none, some (.int (v2)), none, none]) (st := [.int ((10 : Int32)), .ref 0, .ref 0]) (h := hM σ) rfl (tX12_draw (d + 2) σ (10 : Int32) r4 hr4) ?_
  refine ev_br 1 (P := r4.1 < v2) (a := 52) (b := 63) (ls := [some (.ref 0), none, some (.int (v2)), none, none]) (st := [.ref 0]) (h := hM r4.2) rfl (fun c1 => ?_) (fun c1 => ?_)
  · rw [if_pos c1] at hf
    refine ev_go (c' := (67, [some (.ref 0), none, some (.int (v2)), none, none], [.int ((((gm_gm_looks r4.2) + (1 : Int32)) - ((gm_gm_looks r4.2) + (1 : Int32)) / (4 : Int32) * (4 : Int32))), .ref 0], hM r4.2)) 6 rfl ?_
    exact ev_dr (a := [some (.ref 0), none, none, none, none]) ⟨rfl, trivial⟩ (tX12_goHim_b67 d r4.2 (((gm_gm_looks r4.2) + (1 : Int32)) - ((gm_gm_looks r4.2) + (1 : Int32)) / (4 : Int32) * (4 : Int32)) _ hf)
  · rw [if_neg c1] at hf
    refine ev_go (c' := (67, [some (.ref 0), none, some (.int (v2)), none, none], [.int ((gm_gm_looks r4.2)), .ref 0], hM r4.2)) 1 rfl ?_
    exact ev_dr (a := [some (.ref 0), none, none, none, none]) ⟨rfl, trivial⟩ (tX12_goHim_b67 d r4.2 (gm_gm_looks r4.2) _ hf)
set_option maxRecDepth 20000 in
set_option maxHeartbeats 4000000 in
theorem tX12_goHim_b14 (d : Nat) (σ : SM) (v2 : Int32) (w0 : Int32) (q : SM) (hf : fX12_goHim_b14 σ v2 w0 = some q) : ev_X (d + 3) none eiX12_goHim (14, [some (.ref 0), none, some (.int (v2)), none, none], [.int (w0)], hM σ) (none, hM q) := by
  unfold fX12_goHim_b14 at hf
  refine ev_br 3 (P := w0 = (-1 : Int32)) (a := 41) (b := 20) (ls := [some (.ref 0), none, some (.int (v2)), some (.int (w0)), none]) (st := []) (h := hM σ) rfl (fun c1 => ?_) (fun c1 => ?_)
  · rw [if_pos c1] at hf
    exact ev_dr (a := [some (.ref 0), none, some (.int (v2)), none, none]) ⟨rfl, ⟨rfl, trivial⟩⟩ (tX12_goHim_b41 d σ v2 _ hf)
  · rw [if_neg c1] at hf
    refine ev_br 3 (P := w0 = (gm_gm_his σ)) (a := 41) (b := 28) (ls := [some (.ref 0), none, some (.int (v2)), some (.int (w0)), none]) (st := []) (h := hM σ) rfl (fun c2 => ?_) (fun c2 => ?_)
    · rw [if_pos c2] at hf
      exact ev_dr (a := [some (.ref 0), none, some (.int (v2)), none, none]) ⟨rfl, ⟨rfl, trivial⟩⟩ (tX12_goHim_b41 d σ v2 _ hf)
    · rw [if_neg c2] at hf
      obtain ⟨r5, hr5, hf⟩ := Option.bind_eq_some_iff.mp hf
      refine ev_cli 5 (kk := 151) (as := [.ref 0, .int ((gm_gm_his σ)), .int (w0)]) (rest := [.ref 0]) (pc := 35) (ls := [some (.ref 0), none, some (.int (v2)), some (.int (w0)), none]) (st := [.int (w0), .int ((gm_gm_his σ)), .ref 0, .ref 0]) (h := hM σ) rfl (tX12_liesFrom (d + 1) σ (gm_gm_his σ) w0 r5 hr5) ?_
      refine ev_st1 (e := (38, .putfield 243, 3, 38, 0, .null, [(12, 0)], [1088])) (c' := (41, [some (.ref 0), none, some (.int (v2)), some (.int (w0)), none], [], hM (sm_gm_looks σ r5))) rfl oy_put_m_gm_looks ?_
      exact ev_dr (a := [some (.ref 0), none, some (.int (v2)), none, none]) ⟨rfl, ⟨rfl, trivial⟩⟩ (tX12_goHim_b41 d (sm_gm_looks σ r5) v2 _ hf)
set_option maxRecDepth 20000 in
set_option maxHeartbeats 4000000 in
theorem tX12_goHim (d : Nat) (σ : SM) (v1 : Int32) (v2 : Int32) (q : SM) (hf : fX12_goHim σ v1 v2 = some q) : ev_M ev_mt (d + 4) 180 [.ref 0, .int (v1), .int (v2)] (hM σ) (none, hM q) := by
  refine ev_en (rt := none) (I := eiX12_goHim) rfl (Nat.le_of_ble_eq_true rfl) ?_
  change ev_X (d + 3) _ _ (0, [some (.ref 0), some (.int (v1)), some (.int (v2)), none, none], [], hM σ) _
  unfold fX12_goHim at hf
  refine ev_br 3 (P := (v1 - v1 / (3 : Int32) * (3 : Int32)) = 0) (a := 6) (b := 13) (ls := [some (.ref 0), some (.int (v1)), some (.int (v2)), none, none]) (st := []) (h := hM σ) rfl (fun c1 => ?_) (fun c1 => ?_)
  · rw [if_pos c1] at hf
    obtain ⟨r1, hr1, hf⟩ := Option.bind_eq_some_iff.mp hf
    refine ev_cli 1 (kk := 179) (as := [.ref 0]) (rest := []) (pc := 7) (ls := [some (.ref 0), some (.int (v1)), some (.int (v2)), none, none]) (st := [.ref 0]) (h := hM σ) rfl (tX12_nearestCall d σ r1 hr1) ?_
    refine ev_go (c' := (14, [some (.ref 0), some (.int (v1)), some (.int (v2)), none, none], [.int (r1)], hM σ)) 0 rfl ?_
    exact ev_dr (a := [some (.ref 0), none, some (.int (v2)), none, none]) ⟨rfl, ⟨rfl, trivial⟩⟩ (tX12_goHim_b14 d σ v2 r1 _ hf)
  · rw [if_neg c1] at hf
    refine ev_go (c' := (14, [some (.ref 0), some (.int (v1)), some (.int (v2)), none, none], [.int ((-1 : Int32))], hM σ)) 0 rfl ?_
    exact ev_dr (a := [some (.ref 0), none, some (.int (v2)), none, none]) ⟨rfl, ⟨rfl, trivial⟩⟩ (tX12_goHim_b14 d σ v2 (-1 : Int32) _ hf)
set_option maxRecDepth 20000 in
set_option maxHeartbeats 4000000 in
theorem tX12_touchedNow_b45 (d : Nat) (k2 : SM → Int32 → Option (Int32 × SM)) (hk2 : ∀ (σ : SM) (v1 : Int32) (q : Int32 × SM), k2 σ v1 = some q → ev_X (d + 1) (some .int) eiX12_touchedNow (2, [some (.ref 0), some (.int (v1))], [], hM σ) (some (.int q.1), hM q.2)) (σ : SM) (v1 : Int32) (q : Int32 × SM) (hf : fX12_touchedNow_b45 k2 σ v1 = some q) : ev_X (d + 1) (some .int) eiX12_touchedNow (45, [some (.ref 0), some (.int (v1))], [], hM σ) (some (.int q.1), hM q.2) := by
  unfold fX12_touchedNow_b45 at hf
  refine ev_go (c' := (2, [some (.ref 0), some (.int ((v1 + (1 : Int32))))], [], hM σ)) 1 rfl ?_
  exact ev_dr (a := [some (.ref 0), some (.int ((v1 + (1 : Int32))))]) ⟨rfl, ⟨rfl, trivial⟩⟩ (hk2 σ (v1 + (1 : Int32)) _ hf)
set_option maxRecDepth 20000 in
set_option maxHeartbeats 4000000 in
theorem tX12_touchedNow_b43 (d : Nat) (σ : SM) (v1 : Int32) (q : Int32 × SM) (hf : fX12_touchedNow_b43 σ v1 = some q) : ev_X (d + 1) (some .int) eiX12_touchedNow (43, [none, some (.int (v1))], [], hM σ) (some (.int q.1), hM q.2) := by
  unfold fX12_touchedNow_b43 at hf
  cases hf
  exact ev_rt 1 rfl
set_option maxRecDepth 20000 in
set_option maxHeartbeats 4000000 in
theorem tX12_touchedNow_b2 (d : Nat) (k2 : SM → Int32 → Option (Int32 × SM)) (hk2 : ∀ (σ : SM) (v1 : Int32) (q : Int32 × SM), k2 σ v1 = some q → ev_X (d + 1) (some .int) eiX12_touchedNow (2, [some (.ref 0), some (.int (v1))], [], hM σ) (some (.int q.1), hM q.2)) (σ : SM) (v1 : Int32) (q : Int32 × SM) (hf : fX12_touchedNow_b2 k2 σ v1 = some q) : ev_X (d + 1) (some .int) eiX12_touchedNow (2, [some (.ref 0), some (.int (v1))], [], hM σ) (some (.int q.1), hM q.2) := by
  unfold fX12_touchedNow_b2 at hf
  refine ev_br 3 (P := v1 < (gm_pl_players σ)) (a := 10) (b := 51) (ls := [some (.ref 0), some (.int (v1))]) (st := []) (h := hM σ) rfl (fun c1 => ?_) (fun c1 => ?_)
  · rw [if_pos c1] at hf
    obtain ⟨c2, hf⟩ := ev_hp hf
    refine ev_ck 3 (P := ¬ (v1 < 0 ∨ 6 ≤ v1.toNatClampNeg)) (c' := (16, [some (.ref 0), some (.int (v1))], [.int (((gm_gm_place σ) v1.toNatClampNeg))], hM σ)) rfl c2 ?_
    refine ev_br 2 (P := ((gm_gm_place σ) v1.toNatClampNeg) = (gm_gm_his σ)) (a := 23) (b := 45) (ls := [some (.ref 0), some (.int (v1))]) (st := []) (h := hM σ) rfl (fun c3 => ?_) (fun c3 => ?_)
    · rw [if_pos c3] at hf
      obtain ⟨c4, hf⟩ := ev_hp hf
      refine ev_ck 3 (P := ¬ (v1 < 0 ∨ 6 ≤ v1.toNatClampNeg)) (c' := (29, [some (.ref 0), some (.int (v1))], [.int (((gm_pl_kindOf σ) v1.toNatClampNeg))], hM σ)) rfl c4 ?_
      refine ev_br 1 (P := ((gm_pl_kindOf σ) v1.toNatClampNeg) = (2 : Int32)) (a := 33) (b := 43) (ls := [some (.ref 0), some (.int (v1))]) (st := []) (h := hM σ) rfl (fun c5 => ?_) (fun c5 => ?_)
      · rw [if_pos c5] at hf
        obtain ⟨r1, hr1, hf⟩ := Option.bind_eq_some_iff.mp hf
        refine ev_cli 2 (kk := 174) (as := [.ref 0, .int ((10 : Int32))]) (rest := []) (pc := 36) (ls := [some (.ref 0), some (.int (v1))]) (st := [.int ((10 : Int32)), .ref 0]) (h := hM σ) rfl (tX12_draw d σ (10 : Int32) r1 hr1) ?_
        refine ev_br 1 (P := (4 : Int32) < r1.1) (a := 43) (b := 45) (ls := [some (.ref 0), some (.int (v1))]) (st := []) (h := hM r1.2) rfl (fun c6 => ?_) (fun c6 => ?_)
        · rw [if_pos c6] at hf
          exact ev_dr (a := [none, some (.int (v1))]) ⟨rfl, trivial⟩ (tX12_touchedNow_b43 d r1.2 v1 _ hf)
        · rw [if_neg c6] at hf
          exact ev_dr (a := [some (.ref 0), some (.int (v1))]) ⟨rfl, ⟨rfl, trivial⟩⟩ (tX12_touchedNow_b45 d k2 hk2 r1.2 v1 _ hf)
      · rw [if_neg c5] at hf
        exact ev_dr (a := [none, some (.int (v1))]) ⟨rfl, trivial⟩ (tX12_touchedNow_b43 d σ v1 _ hf)
    · rw [if_neg c3] at hf
      exact ev_dr (a := [some (.ref 0), some (.int (v1))]) ⟨rfl, ⟨rfl, trivial⟩⟩ (tX12_touchedNow_b45 d k2 hk2 σ v1 _ hf)
  · rw [if_neg c1] at hf
    cases hf
    exact ev_rt 1 rfl
theorem tX12_touchedNow_l2 (d : Nat) : ∀ (n : Nat) (σ : SM) (v1 : Int32) (q : Int32 × SM), fX12_touchedNow_l2 n σ v1 = some q → ev_X (d + 1) (some .int) eiX12_touchedNow (2, [some (.ref 0), some (.int (v1))], [], hM σ) (some (.int q.1), hM q.2)
  | 0, _, _, _, hf => by cases hf
  | n + 1, σ, v1, q, hf => tX12_touchedNow_b2 d (fX12_touchedNow_l2 n) (fun σ v1 q h9 => tX12_touchedNow_l2 d n σ v1 q h9) σ v1 q hf
set_option maxRecDepth 20000 in
set_option maxHeartbeats 4000000 in
theorem tX12_touchedNow (d : Nat) (σ : SM) (q : Int32 × SM) (hf : fX12_touchedNow σ = some q) : ev_M ev_mt (d + 2) 181 [.ref 0] (hM σ) (some (.int q.1), hM q.2) := by
  refine ev_en (rt := (some .int)) (I := eiX12_touchedNow) rfl (Nat.le_of_ble_eq_true rfl) ?_
  change ev_X (d + 1) _ _ (0, [some (.ref 0), none], [], hM σ) _
  unfold fX12_touchedNow at hf
  refine ev_go (c' := (2, [some (.ref 0), some (.int ((0 : Int32)))], [], hM σ)) 1 rfl ?_
  exact ev_dr (a := [some (.ref 0), some (.int ((0 : Int32)))]) ⟨rfl, ⟨rfl, trivial⟩⟩ (tX12_touchedNow_l2 d 1000 σ (0 : Int32) _ hf)
set_option maxRecDepth 20000 in
set_option maxHeartbeats 4000000 in
theorem tX12_play_b122 (d : Nat) (σ : SM) (q : SM) (hf : fX12_play_b122 σ = some q) : ev_X (d + 5) none eiX12_play (122, [none, none, none, none, none, none, none], [], hM σ) (none, hM q) := by
  unfold fX12_play_b122 at hf
  cases hf
  exact ev_rt 0 rfl
set_option maxRecDepth 20000 in
set_option maxHeartbeats 4000000 in
theorem tX12_play_b113 (d : Nat) (k63 : SM → Int32 → Int32 → Int32 → Option (SM)) (hk63 : ∀ (σ : SM) (v3 : Int32) (v5 : Int32) (v6 : Int32) (q : SM), k63 σ v3 v5 v6 = some q → ev_X (d + 5) none eiX12_play (63, [some (.ref 0), none, none, some (.int (v3)), none, some (.int (v5)), some (.int (v6))], [], hM σ) (none, hM q)) (σ : SM) (v3 : Int32) (v5 : Int32) (v6 : Int32) (w0 : Int32) (q : SM) (hf : fX12_play_b113 k63 σ v3 v5 v6 w0 = some q) : ev_X (d + 5) none eiX12_play (113, [some (.ref 0), none, none, some (.int (v3)), none, some (.int (v5)), some (.int (v6))], [.int (w0), .ref 0], hM σ) (none, hM q) := by
  unfold fX12_play_b113 at hf
  refine ev_st1 (e := (113, .putfield 262, 3, 42, 0, .null, [(12, 0)], [1092])) (c' := (116, [some (.ref 0), none, none, some (.int (v3)), none, some (.int (v5)), some (.int (v6))], [], hM (sm_gm_touchedAt σ w0))) rfl oy_put_m_gm_touchedAt ?_
  refine ev_go (c' := (63, [some (.ref 0), none, none, some (.int (v3)), none, some (.int (v5)), some (.int ((v6 + (1 : Int32))))], [], hM (sm_gm_touchedAt σ w0))) 1 rfl ?_
  exact ev_dr (a := [some (.ref 0), none, none, some (.int (v3)), none, some (.int (v5)), some (.int ((v6 + (1 : Int32))))]) ⟨rfl, ⟨rfl, ⟨rfl, ⟨rfl, trivial⟩⟩⟩⟩ (hk63 (sm_gm_touchedAt σ w0) v3 v5 (v6 + (1 : Int32)) _ hf)
set_option maxRecDepth 20000 in
set_option maxHeartbeats 4000000 in
theorem tX12_play_b63 (d : Nat) (k63 : SM → Int32 → Int32 → Int32 → Option (SM)) (hk63 : ∀ (σ : SM) (v3 : Int32) (v5 : Int32) (v6 : Int32) (q : SM), k63 σ v3 v5 v6 = some q → ev_X (d + 5) none eiX12_play (63, [some (.ref 0), none, none, some (.int (v3)), none, some (.int (v5)), some (.int (v6))], [], hM σ) (none, hM q)) (σ : SM) (v3 : Int32) (v5 : Int32) (v6 : Int32) (q : SM) (hf : fX12_play_b63 k63 σ v3 v5 v6 = some q) : ev_X (d + 5) none eiX12_play (63, [some (.ref 0), none, none, some (.int (v3)), none, some (.int (v5)), some (.int (v6))], [], hM σ) (none, hM q) := by
  unfold fX12_play_b63 at hf
  refine ev_br 2 (P := v6 < v5) (a := 70) (b := 122) (ls := [some (.ref 0), none, none, some (.int (v3)), none, some (.int (v5)), some (.int (v6))]) (st := []) (h := hM σ) rfl (fun c1 => ?_) (fun c1 => ?_)
  · rw [if_pos c1] at hf
    refine ev_br 3 (P := (gm_gm_touched σ) = (-1 : Int32)) (a := 78) (b := 122) (ls := [some (.ref 0), none, none, some (.int (v3)), none, some (.int (v5)), some (.int (v6))]) (st := []) (h := hM σ) rfl (fun c2 => ?_) (fun c2 => ?_)
    · rw [if_pos c2] at hf
      obtain ⟨r1, hr1, hf⟩ := Option.bind_eq_some_iff.mp hf
      refine ev_clv 1 (kk := 177) (as := [.ref 0]) (rest := []) (pc := 79) (ls := [some (.ref 0), none, none, some (.int (v3)), none, some (.int (v5)), some (.int (v6))]) (st := [.ref 0]) (h := hM σ) rfl (tX12_goPlayers d σ r1 hr1) ?_
      obtain ⟨r2, hr2, hf⟩ := Option.bind_eq_some_iff.mp hf
      refine ev_clv 3 (kk := 180) (as := [.ref 0, .int (v6), .int (v3)]) (rest := []) (pc := 86) (ls := [some (.ref 0), none, none, some (.int (v3)), none, some (.int (v5)), some (.int (v6))]) (st := [.int (v3), .int (v6), .ref 0]) (h := hM r1) rfl (tX12_goHim (d + 1) r1 v6 v3 r2 hr2) ?_
      obtain ⟨r3, hr3, hf⟩ := Option.bind_eq_some_iff.mp hf
      refine ev_cli 2 (kk := 181) (as := [.ref 0]) (rest := [.ref 0]) (pc := 91) (ls := [some (.ref 0), none, none, some (.int (v3)), none, some (.int (v5)), some (.int (v6))]) (st := [.ref 0, .ref 0]) (h := hM r2) rfl (tX12_touchedNow (d + 3) r2 r3 hr3) ?_
      refine ev_st1 (e := (94, .putfield 259, 3, 41, 0, .null, [(12, 0)], [1091])) (c' := (97, [some (.ref 0), none, none, some (.int (v3)), none, some (.int (v5)), some (.int (v6))], [], hM (sm_gm_touched r3.2 r3.1))) rfl oy_put_m_gm_touched ?_
      refine ev_br 4 (P := r3.1 = (-1 : Int32)) (a := 106) (b := 111) (ls := [some (.ref 0), none, none, some (.int (v3)), none, some (.int (v5)), some (.int (v6))]) (st := [.ref 0]) (h := hM (sm_gm_touched r3.2 r3.1)) rfl (fun c3 => ?_) (fun c3 => ?_)
      · rw [if_pos c3] at hf
        refine ev_go (c' := (113, [some (.ref 0), none, none, some (.int (v3)), none, some (.int (v5)), some (.int (v6))], [.int (v5), .ref 0], hM (sm_gm_touched r3.2 r3.1))) 1 rfl ?_
        exact ev_dr (a := [some (.ref 0), none, none, some (.int (v3)), none, some (.int (v5)), some (.int (v6))]) ⟨rfl, ⟨rfl, ⟨rfl, ⟨rfl, trivial⟩⟩⟩⟩ (tX12_play_b113 d k63 hk63 (sm_gm_touched r3.2 r3.1) v3 v5 v6 v5 _ hf)
      · rw [if_neg c3] at hf
        refine ev_go (c' := (113, [some (.ref 0), none, none, some (.int (v3)), none, some (.int (v5)), some (.int (v6))], [.int (v6), .ref 0], hM (sm_gm_touched r3.2 r3.1))) 0 rfl ?_
        exact ev_dr (a := [some (.ref 0), none, none, some (.int (v3)), none, some (.int (v5)), some (.int (v6))]) ⟨rfl, ⟨rfl, ⟨rfl, ⟨rfl, trivial⟩⟩⟩⟩ (tX12_play_b113 d k63 hk63 (sm_gm_touched r3.2 r3.1) v3 v5 v6 v6 _ hf)
    · rw [if_neg c2] at hf
      exact ev_dr (a := [none, none, none, none, none, none, none]) trivial (tX12_play_b122 d σ  _ hf)
  · rw [if_neg c1] at hf
    exact ev_dr (a := [none, none, none, none, none, none, none]) trivial (tX12_play_b122 d σ  _ hf)
theorem tX12_play_l63 (d : Nat) : ∀ (n : Nat) (σ : SM) (v3 : Int32) (v5 : Int32) (v6 : Int32) (q : SM), fX12_play_l63 n σ v3 v5 v6 = some q → ev_X (d + 5) none eiX12_play (63, [some (.ref 0), none, none, some (.int (v3)), none, some (.int (v5)), some (.int (v6))], [], hM σ) (none, hM q)
  | 0, _, _, _, _, _, hf => by cases hf
  | n + 1, σ, v3, v5, v6, q, hf => tX12_play_b63 d (fX12_play_l63 n) (fun σ v3 v5 v6 q h9 => tX12_play_l63 d n σ v3 v5 v6 q h9) σ v3 v5 v6 q hf
set_option maxRecDepth 20000 in
set_option maxHeartbeats 4000000 in
theorem tX12_play_b31 (d : Nat) (k31 : SM → Int32 → Int32 → Int32 → Option (SM)) (hk31 : ∀ (σ : SM) (v3 : Int32) (v5 : Int32) (v6 : Int32) (q : SM), k31 σ v3 v5 v6 = some q → ev_X (d + 5) none eiX12_play (31, [some (.ref 0), none, none, some (.int (v3)), none, some (.int (v5)), some (.int (v6))], [], hM σ) (none, hM q)) (σ : SM) (v3 : Int32) (v5 : Int32) (v6 : Int32) (q : SM) (hf : fX12_play_b31 k31 σ v3 v5 v6 = some q) : ev_X (d + 5) none eiX12_play (31, [some (.ref 0), none, none, some (.int (v3)), none, some (.int (v5)), some (.int (v6))], [], hM σ) (none, hM q) := by
  unfold fX12_play_b31 at hf
  refine ev_br 3 (P := v6 < (gm_pl_players σ)) (a := 40) (b := 60) (ls := [some (.ref 0), none, none, some (.int (v3)), none, some (.int (v5)), some (.int (v6))]) (st := []) (h := hM σ) rfl (fun c1 => ?_) (fun c1 => ?_)
  · rw [if_pos c1] at hf
    obtain ⟨c2, hf⟩ := ev_hp hf
    refine ev_ck 6 (P := ¬ (v6 < 0 ∨ 6 ≤ v6.toNatClampNeg)) (c' := (53, [some (.ref 0), none, none, some (.int (v3)), none, some (.int (v5)), some (.int (v6))], [.int (((gm_pl_placeOf σ) v6.toNatClampNeg)), .int (v6), .ref 13], hM σ)) rfl c2 ?_
    obtain ⟨c3, hf⟩ := ev_hp hf
    refine ev_st1 (e := (53, .iastore, 1, 0, 0, .null, [], [])) (c' := (54, [some (.ref 0), none, none, some (.int (v3)), none, some (.int (v5)), some (.int (v6))], [], hM (sm_gm_place σ (upd (gm_gm_place σ) v6.toNatClampNeg ((gm_pl_placeOf σ) v6.toNatClampNeg))))) rfl (oy_ast_m_gm_place c3) ?_
    refine ev_go (c' := (31, [some (.ref 0), none, none, some (.int (v3)), none, some (.int (v5)), some (.int ((v6 + (1 : Int32))))], [], hM (sm_gm_place σ (upd (gm_gm_place σ) v6.toNatClampNeg ((gm_pl_placeOf σ) v6.toNatClampNeg))))) 1 rfl ?_
    exact ev_dr (a := [some (.ref 0), none, none, some (.int (v3)), none, some (.int (v5)), some (.int ((v6 + (1 : Int32))))]) ⟨rfl, ⟨rfl, ⟨rfl, ⟨rfl, trivial⟩⟩⟩⟩ (hk31 (sm_gm_place σ (upd (gm_gm_place σ) v6.toNatClampNeg ((gm_pl_placeOf σ) v6.toNatClampNeg))) v3 v5 (v6 + (1 : Int32)) _ hf)
  · rw [if_neg c1] at hf
    refine ev_go (c' := (63, [some (.ref 0), none, none, some (.int (v3)), none, some (.int (v5)), some (.int ((0 : Int32)))], [], hM σ)) 1 rfl ?_
    exact ev_dr (a := [some (.ref 0), none, none, some (.int (v3)), none, some (.int (v5)), some (.int ((0 : Int32)))]) ⟨rfl, ⟨rfl, ⟨rfl, ⟨rfl, trivial⟩⟩⟩⟩ (tX12_play_l63 d 1000 σ v3 v5 (0 : Int32) _ hf)
theorem tX12_play_l31 (d : Nat) : ∀ (n : Nat) (σ : SM) (v3 : Int32) (v5 : Int32) (v6 : Int32) (q : SM), fX12_play_l31 n σ v3 v5 v6 = some q → ev_X (d + 5) none eiX12_play (31, [some (.ref 0), none, none, some (.int (v3)), none, some (.int (v5)), some (.int (v6))], [], hM σ) (none, hM q)
  | 0, _, _, _, _, _, hf => by cases hf
  | n + 1, σ, v3, v5, v6, q, hf => tX12_play_b31 d (fX12_play_l31 n) (fun σ v3 v5 v6 q h9 => tX12_play_l31 d n σ v3 v5 v6 q h9) σ v3 v5 v6 q hf
set_option maxRecDepth 20000 in
set_option maxHeartbeats 4000000 in
theorem tX12_play (d : Nat) (σ : SM) (v1 : Int32) (v2 : Int32) (v3 : Int32) (v4 : Int32) (v5 : Int32) (q : SM) (hf : fX12_play σ v1 v2 v3 v4 v5 = some q) : ev_M ev_mt (d + 6) 182 [.ref 0, .int (v1), .int (v2), .int (v3), .int (v4), .int (v5)] (hM σ) (none, hM q) := by
  refine ev_en (rt := none) (I := eiX12_play) rfl (Nat.le_of_ble_eq_true rfl) ?_
  change ev_X (d + 5) _ _ (0, [some (.ref 0), some (.int (v1)), some (.int (v2)), some (.int (v3)), some (.int (v4)), some (.int (v5)), none], [], hM σ) _
  unfold fX12_play at hf
  refine ev_go (c' := (2, [some (.ref 0), some (.int (v1)), some (.int (v2)), some (.int (v3)), some (.int (v4)), some (.int (v5)), none], [.int (v1), .ref 0], hM σ)) 1 rfl ?_
  refine ev_st1 (e := (2, .putfield 240, 3, 37, 0, .null, [(12, 0)], [1087])) (c' := (5, [some (.ref 0), some (.int (v1)), some (.int (v2)), some (.int (v3)), some (.int (v4)), some (.int (v5)), none], [], hM (sm_gm_his σ v1))) rfl oy_put_m_gm_his ?_
  refine ev_go (c' := (7, [some (.ref 0), some (.int (v1)), some (.int (v2)), some (.int (v3)), some (.int (v4)), some (.int (v5)), none], [.int (v2), .ref 0], hM (sm_gm_his σ v1))) 1 rfl ?_
  refine ev_st1 (e := (7, .putfield 243, 3, 38, 0, .null, [(12, 0)], [1088])) (c' := (10, [some (.ref 0), some (.int (v1)), some (.int (v2)), some (.int (v3)), some (.int (v4)), some (.int (v5)), none], [], hM (sm_gm_looks (sm_gm_his σ v1) v2))) rfl oy_put_m_gm_looks ?_
  refine ev_go (c' := (14, [some (.ref 0), some (.int (v1)), some (.int (v2)), some (.int (v3)), some (.int (v4)), some (.int (v5)), none], [.long (v4.toInt64), .ref 0], hM (sm_gm_looks (sm_gm_his σ v1) v2))) 2 rfl ?_
  refine ev_st1 (e := (14, .putfield 226, 3, 39, 1, .null, [(12, 0)], [1089])) (c' := (17, [some (.ref 0), some (.int (v1)), some (.int (v2)), some (.int (v3)), some (.int (v4)), some (.int (v5)), none], [], hM (sm_gm_seedNow (sm_gm_looks (sm_gm_his σ v1) v2) v4.toInt64))) rfl oy_put_m_gm_seedNow ?_
  refine ev_go (c' := (19, [some (.ref 0), some (.int (v1)), some (.int (v2)), some (.int (v3)), some (.int (v4)), some (.int (v5)), none], [.int ((-1 : Int32)), .ref 0], hM (sm_gm_seedNow (sm_gm_looks (sm_gm_his σ v1) v2) v4.toInt64))) 1 rfl ?_
  refine ev_st1 (e := (19, .putfield 259, 3, 41, 0, .null, [(12, 0)], [1091])) (c' := (22, [some (.ref 0), some (.int (v1)), some (.int (v2)), some (.int (v3)), some (.int (v4)), some (.int (v5)), none], [], hM (sm_gm_touched (sm_gm_seedNow (sm_gm_looks (sm_gm_his σ v1) v2) v4.toInt64) (-1 : Int32)))) rfl oy_put_m_gm_touched ?_
  refine ev_go (c' := (25, [some (.ref 0), some (.int (v1)), some (.int (v2)), some (.int (v3)), some (.int (v4)), some (.int (v5)), none], [.int (v5), .ref 0], hM (sm_gm_touched (sm_gm_seedNow (sm_gm_looks (sm_gm_his σ v1) v2) v4.toInt64) (-1 : Int32)))) 1 rfl ?_
  refine ev_st1 (e := (25, .putfield 262, 3, 42, 0, .null, [(12, 0)], [1092])) (c' := (28, [some (.ref 0), some (.int (v1)), some (.int (v2)), some (.int (v3)), some (.int (v4)), some (.int (v5)), none], [], hM (sm_gm_touchedAt (sm_gm_touched (sm_gm_seedNow (sm_gm_looks (sm_gm_his σ v1) v2) v4.toInt64) (-1 : Int32)) v5))) rfl oy_put_m_gm_touchedAt ?_
  refine ev_go (c' := (31, [some (.ref 0), some (.int (v1)), some (.int (v2)), some (.int (v3)), some (.int (v4)), some (.int (v5)), some (.int ((0 : Int32)))], [], hM (sm_gm_touchedAt (sm_gm_touched (sm_gm_seedNow (sm_gm_looks (sm_gm_his σ v1) v2) v4.toInt64) (-1 : Int32)) v5))) 1 rfl ?_
  exact ev_dr (a := [some (.ref 0), none, none, some (.int (v3)), none, some (.int (v5)), some (.int ((0 : Int32)))]) ⟨rfl, ⟨rfl, ⟨rfl, ⟨rfl, trivial⟩⟩⟩⟩ (tX12_play_l31 d 1000 (sm_gm_touchedAt (sm_gm_touched (sm_gm_seedNow (sm_gm_looks (sm_gm_his σ v1) v2) v4.toInt64) (-1 : Int32)) v5) v3 v5 (0 : Int32) _ hf)
set_option maxRecDepth 20000 in
set_option maxHeartbeats 4000000 in
theorem tX12_game_b112 (d : Nat) (σ : SM) (w0 : Int32) (q : Int32 × SM) (hf : fX12_game_b112 σ w0 = some q) : ev_X (d + 6) (some .int) eiX12_game (112, [none, none, none, none, none, none, none], [.int (w0)], hM σ) (some (.int q.1), hM q.2) := by
  unfold fX12_game_b112 at hf
  cases hf
  exact ev_rt 0 rfl
set_option maxRecDepth 20000 in
set_option maxHeartbeats 4000000 in
theorem tX12_game_b55 (d : Nat) (σ : SM) (q : Int32 × SM) (hf : fX12_game_b55 σ = some q) : ev_X (d + 6) (some .int) eiX12_game (55, [none, none, none, none, none, none, none], [], hM σ) (some (.int q.1), hM q.2) := by
  unfold fX12_game_b55 at hf
  cases hf
  exact ev_rt 1 rfl
set_option maxRecDepth 20000 in
set_option maxHeartbeats 4000000 in
theorem tX12_game (d : Nat) (σ : SM) (v1 : Int32) (v2 : Int32) (v3 : Int32) (v4 : Int32) (v5 : Int32) (v6 : Int32) (q : Int32 × SM) (hf : fX12_game σ v1 v2 v3 v4 v5 v6 = some q) : ev_M ev_mt (d + 7) 183 [.ref 0, .int (v1), .int (v2), .int (v3), .int (v4), .int (v5), .int (v6)] (hM σ) (some (.int q.1), hM q.2) := by
  refine ev_en (rt := (some .int)) (I := eiX12_game) rfl (Nat.le_of_ble_eq_true rfl) ?_
  change ev_X (d + 6) _ _ (0, [some (.ref 0), some (.int (v1)), some (.int (v2)), some (.int (v3)), some (.int (v4)), some (.int (v5)), some (.int (v6))], [], hM σ) _
  unfold fX12_game at hf
  obtain ⟨r1, hr1, hf⟩ := Option.bind_eq_some_iff.mp hf
  refine ev_cli 2 (kk := 135) (as := [.ref 0, .int (v1)]) (rest := []) (pc := 2) (ls := [some (.ref 0), some (.int (v1)), some (.int (v2)), some (.int (v3)), some (.int (v4)), some (.int (v5)), some (.int (v6))]) (st := [.int (v1), .ref 0]) (h := hM σ) rfl (tX12_isFree (d + 3) σ v1 r1 hr1) ?_
  refine ev_br 0 (P := r1 = 0) (a := 8) (b := 11) (ls := [some (.ref 0), some (.int (v1)), some (.int (v2)), some (.int (v3)), some (.int (v4)), some (.int (v5)), some (.int (v6))]) (st := []) (h := hM σ) rfl (fun c1 => ?_) (fun c1 => ?_)
  · rw [if_pos c1] at hf
    cases hf
    exact ev_rt 1 rfl
  · rw [if_neg c1] at hf
    obtain ⟨r2, hr2, hf⟩ := Option.bind_eq_some_iff.mp hf
    refine ev_cli 1 (kk := 138) (as := [.int (v2)]) (rest := []) (pc := 12) (ls := [some (.ref 0), some (.int (v1)), some (.int (v2)), some (.int (v3)), some (.int (v4)), some (.int (v5)), some (.int (v6))]) (st := [.int (v2)]) (h := hM σ) rfl (tX12_isWay (d + 4) (hM σ) v2 r2 hr2) ?_
    refine ev_br 0 (P := r2 = 0) (a := 55) (b := 18) (ls := [some (.ref 0), some (.int (v1)), some (.int (v2)), some (.int (v3)), some (.int (v4)), some (.int (v5)), some (.int (v6))]) (st := []) (h := hM σ) rfl (fun c2 => ?_) (fun c2 => ?_)
    · rw [if_pos c2] at hf
      exact ev_dr (a := [none, none, none, none, none, none, none]) trivial (tX12_game_b55 d σ  _ hf)
    · rw [if_neg c2] at hf
      obtain ⟨r3, hr3, hf⟩ := Option.bind_eq_some_iff.mp hf
      refine ev_cli 3 (kk := 123) (as := [.int (v3), .int ((0 : Int32)), .int ((9 : Int32))]) (rest := []) (pc := 22) (ls := [some (.ref 0), some (.int (v1)), some (.int (v2)), some (.int (v3)), some (.int (v4)), some (.int (v5)), some (.int (v6))]) (st := [.int ((9 : Int32)), .int ((0 : Int32)), .int (v3)]) (h := hM σ) rfl (tX12_within (d + 5) (hM σ) v3 (0 : Int32) (9 : Int32) r3 hr3) ?_
      refine ev_br 0 (P := r3 = 0) (a := 55) (b := 28) (ls := [some (.ref 0), some (.int (v1)), some (.int (v2)), some (.int (v3)), some (.int (v4)), some (.int (v5)), some (.int (v6))]) (st := []) (h := hM σ) rfl (fun c3 => ?_) (fun c3 => ?_)
      · rw [if_pos c3] at hf
        exact ev_dr (a := [none, none, none, none, none, none, none]) trivial (tX12_game_b55 d σ  _ hf)
      · rw [if_neg c3] at hf
        refine ev_br 1 (P := v4 < 0) (a := 55) (b := 33) (ls := [some (.ref 0), some (.int (v1)), some (.int (v2)), some (.int (v3)), some (.int (v4)), some (.int (v5)), some (.int (v6))]) (st := []) (h := hM σ) rfl (fun c4 => ?_) (fun c4 => ?_)
        · rw [if_pos c4] at hf
          exact ev_dr (a := [none, none, none, none, none, none, none]) trivial (tX12_game_b55 d σ  _ hf)
        · rw [if_neg c4] at hf
          obtain ⟨r4, hr4, hf⟩ := Option.bind_eq_some_iff.mp hf
          refine ev_cli 3 (kk := 123) (as := [.int (v5), .int ((1 : Int32)), .int ((200 : Int32))]) (rest := []) (pc := 39) (ls := [some (.ref 0), some (.int (v1)), some (.int (v2)), some (.int (v3)), some (.int (v4)), some (.int (v5)), some (.int (v6))]) (st := [.int ((200 : Int32)), .int ((1 : Int32)), .int (v5)]) (h := hM σ) rfl (tX12_within (d + 5) (hM σ) v5 (1 : Int32) (200 : Int32) r4 hr4) ?_
          refine ev_br 0 (P := r4 = 0) (a := 55) (b := 45) (ls := [some (.ref 0), some (.int (v1)), some (.int (v2)), some (.int (v3)), some (.int (v4)), some (.int (v5)), some (.int (v6))]) (st := []) (h := hM σ) rfl (fun c5 => ?_) (fun c5 => ?_)
          · rw [if_pos c5] at hf
            exact ev_dr (a := [none, none, none, none, none, none, none]) trivial (tX12_game_b55 d σ  _ hf)
          · rw [if_neg c5] at hf
            obtain ⟨r5, hr5, hf⟩ := Option.bind_eq_some_iff.mp hf
            refine ev_cli 3 (kk := 123) (as := [.int (v6), .int ((0 : Int32)), .int ((3 : Int32))]) (rest := []) (pc := 49) (ls := [some (.ref 0), some (.int (v1)), some (.int (v2)), some (.int (v3)), some (.int (v4)), some (.int (v5)), some (.int (v6))]) (st := [.int ((3 : Int32)), .int ((0 : Int32)), .int (v6)]) (h := hM σ) rfl (tX12_within (d + 5) (hM σ) v6 (0 : Int32) (3 : Int32) r5 hr5) ?_
            refine ev_br 0 (P := r5 = 0) (a := 55) (b := 58) (ls := [some (.ref 0), some (.int (v1)), some (.int (v2)), some (.int (v3)), some (.int (v4)), some (.int (v5)), some (.int (v6))]) (st := []) (h := hM σ) rfl (fun c6 => ?_) (fun c6 => ?_)
            · rw [if_pos c6] at hf
              exact ev_dr (a := [none, none, none, none, none, none, none]) trivial (tX12_game_b55 d σ  _ hf)
            · rw [if_neg c6] at hf
              obtain ⟨r6, hr6, hf⟩ := Option.bind_eq_some_iff.mp hf
              refine ev_clv 6 (kk := 182) (as := [.ref 0, .int (v1), .int (v2), .int (v3), .int (v4), .int (v5)]) (rest := []) (pc := 66) (ls := [some (.ref 0), some (.int (v1)), some (.int (v2)), some (.int (v3)), some (.int (v4)), some (.int (v5)), some (.int (v6))]) (st := [.int (v5), .int (v4), .int (v3), .int (v2), .int (v1), .ref 0]) (h := hM σ) rfl (tX12_play d σ v1 v2 v3 v4 v5 r6 hr6) ?_
              refine ev_br 1 (P := v6 = 0) (a := 74) (b := 81) (ls := [some (.ref 0), some (.int (v1)), some (.int (v2)), some (.int (v3)), some (.int (v4)), some (.int (v5)), some (.int (v6))]) (st := []) (h := hM r6) rfl (fun c7 => ?_) (fun c7 => ?_)
              · rw [if_pos c7] at hf
                refine ev_go (c' := (112, [some (.ref 0), some (.int (v1)), some (.int (v2)), some (.int (v3)), some (.int (v4)), some (.int (v5)), some (.int (v6))], [.int ((gm_gm_touched r6))], hM r6)) 2 rfl ?_
                exact ev_dr (a := [none, none, none, none, none, none, none]) trivial (tX12_game_b112 d r6 (gm_gm_touched r6) _ hf)
              · rw [if_neg c7] at hf
                refine ev_br 2 (P := v6 = (1 : Int32)) (a := 87) (b := 94) (ls := [some (.ref 0), some (.int (v1)), some (.int (v2)), some (.int (v3)), some (.int (v4)), some (.int (v5)), some (.int (v6))]) (st := []) (h := hM r6) rfl (fun c8 => ?_) (fun c8 => ?_)
                · rw [if_pos c8] at hf
                  refine ev_go (c' := (112, [some (.ref 0), some (.int (v1)), some (.int (v2)), some (.int (v3)), some (.int (v4)), some (.int (v5)), some (.int (v6))], [.int ((gm_gm_touchedAt r6))], hM r6)) 2 rfl ?_
                  exact ev_dr (a := [none, none, none, none, none, none, none]) trivial (tX12_game_b112 d r6 (gm_gm_touchedAt r6) _ hf)
                · rw [if_neg c8] at hf
                  refine ev_br 2 (P := v6 = (2 : Int32)) (a := 100) (b := 107) (ls := [some (.ref 0), some (.int (v1)), some (.int (v2)), some (.int (v3)), some (.int (v4)), some (.int (v5)), some (.int (v6))]) (st := []) (h := hM r6) rfl (fun c9 => ?_) (fun c9 => ?_)
                  · rw [if_pos c9] at hf
                    refine ev_go (c' := (112, [some (.ref 0), some (.int (v1)), some (.int (v2)), some (.int (v3)), some (.int (v4)), some (.int (v5)), some (.int (v6))], [.int ((gm_gm_his r6))], hM r6)) 2 rfl ?_
                    exact ev_dr (a := [none, none, none, none, none, none, none]) trivial (tX12_game_b112 d r6 (gm_gm_his r6) _ hf)
                  · rw [if_neg c9] at hf
                    refine ev_go (c' := (112, [some (.ref 0), some (.int (v1)), some (.int (v2)), some (.int (v3)), some (.int (v4)), some (.int (v5)), some (.int (v6))], [.int ((gm_gm_seedNow r6).toInt32)], hM r6)) 2 rfl ?_
                    exact ev_dr (a := [none, none, none, none, none, none, none]) trivial (tX12_game_b112 d r6 ((gm_gm_seedNow r6).toInt32) _ hf)
set_option maxRecDepth 20000 in
set_option maxHeartbeats 4000000 in
theorem tX12_lasts_b93 (d : Nat) (k60 : SM → Int32 → Int32 → Int32 → Int32 → Int32 → Int32 → Int32 → Option (Int32 × SM)) (hk60 : ∀ (σ : SM) (v1 : Int32) (v2 : Int32) (v3 : Int32) (v4 : Int32) (v5 : Int32) (v6 : Int32) (v7 : Int32) (q : Int32 × SM), k60 σ v1 v2 v3 v4 v5 v6 v7 = some q → ev_X (d + 6) (some .int) eiX12_lasts (60, [some (.ref 0), some (.int (v1)), some (.int (v2)), some (.int (v3)), some (.int (v4)), some (.int (v5)), some (.int (v6)), some (.int (v7))], [], hM σ) (some (.int q.1), hM q.2)) (σ : SM) (v1 : Int32) (v2 : Int32) (v3 : Int32) (v4 : Int32) (v5 : Int32) (v7 : Int32) (w0 : Int32) (w1 : Int32) (q : Int32 × SM) (hf : fX12_lasts_b93 k60 σ v1 v2 v3 v4 v5 v7 w0 w1 = some q) : ev_X (d + 6) (some .int) eiX12_lasts (93, [some (.ref 0), some (.int (v1)), some (.int (v2)), some (.int (v3)), some (.int (v4)), some (.int (v5)), none, some (.int (v7))], [.int (w0), .int (w1)], hM σ) (some (.int q.1), hM q.2) := by
  unfold fX12_lasts_b93 at hf
  refine ev_go (c' := (60, [some (.ref 0), some (.int (v1)), some (.int (v2)), some (.int (v3)), some (.int (v4)), some (.int (v5)), some (.int ((w1 + w0))), some (.int ((v7 + (1 : Int32))))], [], hM σ)) 3 rfl ?_
  exact ev_dr (a := [some (.ref 0), some (.int (v1)), some (.int (v2)), some (.int (v3)), some (.int (v4)), some (.int (v5)), some (.int ((w1 + w0))), some (.int ((v7 + (1 : Int32))))]) ⟨rfl, ⟨rfl, ⟨rfl, ⟨rfl, ⟨rfl, ⟨rfl, ⟨rfl, ⟨rfl, trivial⟩⟩⟩⟩⟩⟩⟩⟩ (hk60 σ v1 v2 v3 v4 v5 (w1 + w0) (v7 + (1 : Int32)) _ hf)
set_option maxRecDepth 20000 in
set_option maxHeartbeats 4000000 in
theorem tX12_lasts_b60 (d : Nat) (k60 : SM → Int32 → Int32 → Int32 → Int32 → Int32 → Int32 → Int32 → Option (Int32 × SM)) (hk60 : ∀ (σ : SM) (v1 : Int32) (v2 : Int32) (v3 : Int32) (v4 : Int32) (v5 : Int32) (v6 : Int32) (v7 : Int32) (q : Int32 × SM), k60 σ v1 v2 v3 v4 v5 v6 v7 = some q → ev_X (d + 6) (some .int) eiX12_lasts (60, [some (.ref 0), some (.int (v1)), some (.int (v2)), some (.int (v3)), some (.int (v4)), some (.int (v5)), some (.int (v6)), some (.int (v7))], [], hM σ) (some (.int q.1), hM q.2)) (σ : SM) (v1 : Int32) (v2 : Int32) (v3 : Int32) (v4 : Int32) (v5 : Int32) (v6 : Int32) (v7 : Int32) (q : Int32 × SM) (hf : fX12_lasts_b60 k60 σ v1 v2 v3 v4 v5 v6 v7 = some q) : ev_X (d + 6) (some .int) eiX12_lasts (60, [some (.ref 0), some (.int (v1)), some (.int (v2)), some (.int (v3)), some (.int (v4)), some (.int (v5)), some (.int (v6)), some (.int (v7))], [], hM σ) (some (.int q.1), hM q.2) := by
  unfold fX12_lasts_b60 at hf
  refine ev_br 2 (P := v7 < v5) (a := 67) (b := 102) (ls := [some (.ref 0), some (.int (v1)), some (.int (v2)), some (.int (v3)), some (.int (v4)), some (.int (v5)), some (.int (v6)), some (.int (v7))]) (st := []) (h := hM σ) rfl (fun c1 => ?_) (fun c1 => ?_)
  · rw [if_pos c1] at hf
    obtain ⟨r6, hr6, hf⟩ := Option.bind_eq_some_iff.mp hf
    refine ev_clv 6 (kk := 182) (as := [.ref 0, .int (v1), .int (v2), .int (v3), .int (v7), .int (v4)]) (rest := []) (pc := 75) (ls := [some (.ref 0), some (.int (v1)), some (.int (v2)), some (.int (v3)), some (.int (v4)), some (.int (v5)), some (.int (v6)), some (.int (v7))]) (st := [.int (v4), .int (v7), .int (v3), .int (v2), .int (v1), .ref 0]) (h := hM σ) rfl (tX12_play d σ v1 v2 v3 v7 v4 r6 hr6) ?_
    refine ev_br 4 (P := (gm_gm_touched r6) = (-1 : Int32)) (a := 88) (b := 92) (ls := [some (.ref 0), some (.int (v1)), some (.int (v2)), some (.int (v3)), some (.int (v4)), some (.int (v5)), some (.int (v6)), some (.int (v7))]) (st := [.int (v6)]) (h := hM r6) rfl (fun c2 => ?_) (fun c2 => ?_)
    · rw [if_pos c2] at hf
      refine ev_go (c' := (93, [some (.ref 0), some (.int (v1)), some (.int (v2)), some (.int (v3)), some (.int (v4)), some (.int (v5)), some (.int (v6)), some (.int (v7))], [.int ((1 : Int32)), .int (v6)], hM r6)) 1 rfl ?_
      exact ev_dr (a := [some (.ref 0), some (.int (v1)), some (.int (v2)), some (.int (v3)), some (.int (v4)), some (.int (v5)), none, some (.int (v7))]) ⟨rfl, ⟨rfl, ⟨rfl, ⟨rfl, ⟨rfl, ⟨rfl, ⟨rfl, trivial⟩⟩⟩⟩⟩⟩⟩ (tX12_lasts_b93 d k60 hk60 r6 v1 v2 v3 v4 v5 v7 (1 : Int32) v6 _ hf)
    · rw [if_neg c2] at hf
      refine ev_go (c' := (93, [some (.ref 0), some (.int (v1)), some (.int (v2)), some (.int (v3)), some (.int (v4)), some (.int (v5)), some (.int (v6)), some (.int (v7))], [.int ((0 : Int32)), .int (v6)], hM r6)) 0 rfl ?_
      exact ev_dr (a := [some (.ref 0), some (.int (v1)), some (.int (v2)), some (.int (v3)), some (.int (v4)), some (.int (v5)), none, some (.int (v7))]) ⟨rfl, ⟨rfl, ⟨rfl, ⟨rfl, ⟨rfl, ⟨rfl, ⟨rfl, trivial⟩⟩⟩⟩⟩⟩⟩ (tX12_lasts_b93 d k60 hk60 r6 v1 v2 v3 v4 v5 v7 (0 : Int32) v6 _ hf)
  · rw [if_neg c1] at hf
    cases hf
    exact ev_rt 1 rfl
theorem tX12_lasts_l60 (d : Nat) : ∀ (n : Nat) (σ : SM) (v1 : Int32) (v2 : Int32) (v3 : Int32) (v4 : Int32) (v5 : Int32) (v6 : Int32) (v7 : Int32) (q : Int32 × SM), fX12_lasts_l60 n σ v1 v2 v3 v4 v5 v6 v7 = some q → ev_X (d + 6) (some .int) eiX12_lasts (60, [some (.ref 0), some (.int (v1)), some (.int (v2)), some (.int (v3)), some (.int (v4)), some (.int (v5)), some (.int (v6)), some (.int (v7))], [], hM σ) (some (.int q.1), hM q.2)
  | 0, _, _, _, _, _, _, _, _, _, hf => by cases hf
  | n + 1, σ, v1, v2, v3, v4, v5, v6, v7, q, hf => tX12_lasts_b60 d (fX12_lasts_l60 n) (fun σ v1 v2 v3 v4 v5 v6 v7 q h9 => tX12_lasts_l60 d n σ v1 v2 v3 v4 v5 v6 v7 q h9) σ v1 v2 v3 v4 v5 v6 v7 q hf
set_option maxRecDepth 20000 in
set_option maxHeartbeats 4000000 in
theorem tX12_lasts_b51 (d : Nat) (σ : SM) (q : Int32 × SM) (hf : fX12_lasts_b51 σ = some q) : ev_X (d + 6) (some .int) eiX12_lasts (51, [none, none, none, none, none, none, none, none], [], hM σ) (some (.int q.1), hM q.2) := by
  unfold fX12_lasts_b51 at hf
  cases hf
  exact ev_rt 1 rfl
set_option maxRecDepth 20000 in
set_option maxHeartbeats 4000000 in
theorem tX12_lasts (d : Nat) (σ : SM) (v1 : Int32) (v2 : Int32) (v3 : Int32) (v4 : Int32) (v5 : Int32) (q : Int32 × SM) (hf : fX12_lasts σ v1 v2 v3 v4 v5 = some q) : ev_M ev_mt (d + 7) 184 [.ref 0, .int (v1), .int (v2), .int (v3), .int (v4), .int (v5)] (hM σ) (some (.int q.1), hM q.2) := by
  refine ev_en (rt := (some .int)) (I := eiX12_lasts) rfl (Nat.le_of_ble_eq_true rfl) ?_
  change ev_X (d + 6) _ _ (0, [some (.ref 0), some (.int (v1)), some (.int (v2)), some (.int (v3)), some (.int (v4)), some (.int (v5)), none, none], [], hM σ) _
  unfold fX12_lasts at hf
  obtain ⟨r1, hr1, hf⟩ := Option.bind_eq_some_iff.mp hf
  refine ev_cli 2 (kk := 135) (as := [.ref 0, .int (v1)]) (rest := []) (pc := 2) (ls := [some (.ref 0), some (.int (v1)), some (.int (v2)), some (.int (v3)), some (.int (v4)), some (.int (v5)), none, none]) (st := [.int (v1), .ref 0]) (h := hM σ) rfl (tX12_isFree (d + 3) σ v1 r1 hr1) ?_
  refine ev_br 0 (P := r1 = 0) (a := 8) (b := 11) (ls := [some (.ref 0), some (.int (v1)), some (.int (v2)), some (.int (v3)), some (.int (v4)), some (.int (v5)), none, none]) (st := []) (h := hM σ) rfl (fun c1 => ?_) (fun c1 => ?_)
  · rw [if_pos c1] at hf
    cases hf
    exact ev_rt 1 rfl
  · rw [if_neg c1] at hf
    obtain ⟨r2, hr2, hf⟩ := Option.bind_eq_some_iff.mp hf
    refine ev_cli 1 (kk := 138) (as := [.int (v2)]) (rest := []) (pc := 12) (ls := [some (.ref 0), some (.int (v1)), some (.int (v2)), some (.int (v3)), some (.int (v4)), some (.int (v5)), none, none]) (st := [.int (v2)]) (h := hM σ) rfl (tX12_isWay (d + 4) (hM σ) v2 r2 hr2) ?_
    refine ev_br 0 (P := r2 = 0) (a := 51) (b := 18) (ls := [some (.ref 0), some (.int (v1)), some (.int (v2)), some (.int (v3)), some (.int (v4)), some (.int (v5)), none, none]) (st := []) (h := hM σ) rfl (fun c2 => ?_) (fun c2 => ?_)
    · rw [if_pos c2] at hf
      exact ev_dr (a := [none, none, none, none, none, none, none, none]) trivial (tX12_lasts_b51 d σ  _ hf)
    · rw [if_neg c2] at hf
      obtain ⟨r3, hr3, hf⟩ := Option.bind_eq_some_iff.mp hf
      refine ev_cli 3 (kk := 123) (as := [.int (v3), .int ((0 : Int32)), .int ((9 : Int32))]) (rest := []) (pc := 22) (ls := [some (.ref 0), some (.int (v1)), some (.int (v2)), some (.int (v3)), some (.int (v4)), some (.int (v5)), none, none]) (st := [.int ((9 : Int32)), .int ((0 : Int32)), .int (v3)]) (h := hM σ) rfl (tX12_within (d + 5) (hM σ) v3 (0 : Int32) (9 : Int32) r3 hr3) ?_
      refine ev_br 0 (P := r3 = 0) (a := 51) (b := 28) (ls := [some (.ref 0), some (.int (v1)), some (.int (v2)), some (.int (v3)), some (.int (v4)), some (.int (v5)), none, none]) (st := []) (h := hM σ) rfl (fun c3 => ?_) (fun c3 => ?_)
      · rw [if_pos c3] at hf
        exact ev_dr (a := [none, none, none, none, none, none, none, none]) trivial (tX12_lasts_b51 d σ  _ hf)
      · rw [if_neg c3] at hf
        obtain ⟨r4, hr4, hf⟩ := Option.bind_eq_some_iff.mp hf
        refine ev_cli 3 (kk := 123) (as := [.int (v4), .int ((1 : Int32)), .int ((200 : Int32))]) (rest := []) (pc := 34) (ls := [some (.ref 0), some (.int (v1)), some (.int (v2)), some (.int (v3)), some (.int (v4)), some (.int (v5)), none, none]) (st := [.int ((200 : Int32)), .int ((1 : Int32)), .int (v4)]) (h := hM σ) rfl (tX12_within (d + 5) (hM σ) v4 (1 : Int32) (200 : Int32) r4 hr4) ?_
        refine ev_br 0 (P := r4 = 0) (a := 51) (b := 40) (ls := [some (.ref 0), some (.int (v1)), some (.int (v2)), some (.int (v3)), some (.int (v4)), some (.int (v5)), none, none]) (st := []) (h := hM σ) rfl (fun c4 => ?_) (fun c4 => ?_)
        · rw [if_pos c4] at hf
          exact ev_dr (a := [none, none, none, none, none, none, none, none]) trivial (tX12_lasts_b51 d σ  _ hf)
        · rw [if_neg c4] at hf
          obtain ⟨r5, hr5, hf⟩ := Option.bind_eq_some_iff.mp hf
          refine ev_cli 3 (kk := 123) (as := [.int (v5), .int ((1 : Int32)), .int ((20 : Int32))]) (rest := []) (pc := 45) (ls := [some (.ref 0), some (.int (v1)), some (.int (v2)), some (.int (v3)), some (.int (v4)), some (.int (v5)), none, none]) (st := [.int ((20 : Int32)), .int ((1 : Int32)), .int (v5)]) (h := hM σ) rfl (tX12_within (d + 5) (hM σ) v5 (1 : Int32) (20 : Int32) r5 hr5) ?_
          refine ev_br 0 (P := r5 = 0) (a := 51) (b := 54) (ls := [some (.ref 0), some (.int (v1)), some (.int (v2)), some (.int (v3)), some (.int (v4)), some (.int (v5)), none, none]) (st := []) (h := hM σ) rfl (fun c5 => ?_) (fun c5 => ?_)
          · rw [if_pos c5] at hf
            exact ev_dr (a := [none, none, none, none, none, none, none, none]) trivial (tX12_lasts_b51 d σ  _ hf)
          · rw [if_neg c5] at hf
            refine ev_go (c' := (60, [some (.ref 0), some (.int (v1)), some (.int (v2)), some (.int (v3)), some (.int (v4)), some (.int (v5)), some (.int ((0 : Int32))), some (.int ((0 : Int32)))], [], hM σ)) 3 rfl ?_
            exact ev_dr (a := [some (.ref 0), some (.int (v1)), some (.int (v2)), some (.int (v3)), some (.int (v4)), some (.int (v5)), some (.int ((0 : Int32))), some (.int ((0 : Int32)))]) ⟨rfl, ⟨rfl, ⟨rfl, ⟨rfl, ⟨rfl, ⟨rfl, ⟨rfl, ⟨rfl, trivial⟩⟩⟩⟩⟩⟩⟩⟩ (tX12_lasts_l60 d 1000 σ v1 v2 v3 v4 v5 (0 : Int32) (0 : Int32) _ hf)
set_option maxRecDepth 20000 in
set_option maxHeartbeats 4000000 in
theorem tX12_stand_b210 (d : Nat) (k103 : SM → Int32 → Int32 → Int32 → Int32 → Int32 → Int32 → Int32 → Int32 → Int32 → Int32 → Option (Int32 × SM)) (hk103 : ∀ (σ : SM) (v1 : Int32) (v2 : Int32) (v3 : Int32) (v4 : Int32) (v5 : Int32) (v6 : Int32) (v7 : Int32) (v8 : Int32) (v9 : Int32) (v10 : Int32) (q : Int32 × SM), k103 σ v1 v2 v3 v4 v5 v6 v7 v8 v9 v10 = some q → ev_X (d + 6) (some .int) eiX12_stand (103, [some (.ref 0), some (.int (v1)), some (.int (v2)), some (.int (v3)), some (.int (v4)), some (.int (v5)), some (.int (v6)), some (.int (v7)), some (.int (v8)), some (.int (v9)), some (.int (v10)), none, none], [], hM σ) (some (.int q.1), hM q.2)) (σ : SM) (v1 : Int32) (v2 : Int32) (v3 : Int32) (v4 : Int32) (v5 : Int32) (v6 : Int32) (v7 : Int32) (v8 : Int32) (v9 : Int32) (v10 : Int32) (q : Int32 × SM) (hf : fX12_stand_b210 k103 σ v1 v2 v3 v4 v5 v6 v7 v8 v9 v10 = some q) : ev_X (d + 6) (some .int) eiX12_stand (210, [some (.ref 0), some (.int (v1)), some (.int (v2)), some (.int (v3)), some (.int (v4)), some (.int (v5)), some (.int (v6)), some (.int (v7)), some (.int (v8)), some (.int (v9)), some (.int (v10)), none, none], [], hM σ) (some (.int q.1), hM q.2) := by
  unfold fX12_stand_b210 at hf
  refine ev_go (c' := (103, [some (.ref 0), some (.int (v1)), some (.int (v2)), some (.int (v3)), some (.int (v4)), some (.int (v5)), some (.int (v6)), some (.int (v7)), some (.int (v8)), some (.int (v9)), some (.int ((v10 + (1 : Int32)))), none, none], [], hM σ)) 1 rfl ?_
  exact ev_dr (a := [some (.ref 0), some (.int (v1)), some (.int (v2)), some (.int (v3)), some (.int (v4)), some (.int (v5)), some (.int (v6)), some (.int (v7)), some (.int (v8)), some (.int (v9)), some (.int ((v10 + (1 : Int32)))), none, none]) ⟨rfl, ⟨rfl, ⟨rfl, ⟨rfl, ⟨rfl, ⟨rfl, ⟨rfl, ⟨rfl, ⟨rfl, ⟨rfl, ⟨rfl, trivial⟩⟩⟩⟩⟩⟩⟩⟩⟩⟩⟩ (hk103 σ v1 v2 v3 v4 v5 v6 v7 v8 v9 (v10 + (1 : Int32)) _ hf)
set_option maxRecDepth 20000 in
set_option maxHeartbeats 4000000 in
theorem tX12_stand_b208 (d : Nat) (k103 : SM → Int32 → Int32 → Int32 → Int32 → Int32 → Int32 → Int32 → Int32 → Int32 → Int32 → Option (Int32 × SM)) (hk103 : ∀ (σ : SM) (v1 : Int32) (v2 : Int32) (v3 : Int32) (v4 : Int32) (v5 : Int32) (v6 : Int32) (v7 : Int32) (v8 : Int32) (v9 : Int32) (v10 : Int32) (q : Int32 × SM), k103 σ v1 v2 v3 v4 v5 v6 v7 v8 v9 v10 = some q → ev_X (d + 6) (some .int) eiX12_stand (103, [some (.ref 0), some (.int (v1)), some (.int (v2)), some (.int (v3)), some (.int (v4)), some (.int (v5)), some (.int (v6)), some (.int (v7)), some (.int (v8)), some (.int (v9)), some (.int (v10)), none, none], [], hM σ) (some (.int q.1), hM q.2)) (σ : SM) (v1 : Int32) (v2 : Int32) (v3 : Int32) (v4 : Int32) (v5 : Int32) (v6 : Int32) (v7 : Int32) (v8 : Int32) (v10 : Int32) (w0 : Int32) (q : Int32 × SM) (hf : fX12_stand_b208 k103 σ v1 v2 v3 v4 v5 v6 v7 v8 v10 w0 = some q) : ev_X (d + 6) (some .int) eiX12_stand (208, [some (.ref 0), some (.int (v1)), some (.int (v2)), some (.int (v3)), some (.int (v4)), some (.int (v5)), some (.int (v6)), some (.int (v7)), some (.int (v8)), none, some (.int (v10)), none, none], [.int (w0)], hM σ) (some (.int q.1), hM q.2) := by
  unfold fX12_stand_b208 at hf
  refine ev_go (c' := (210, [some (.ref 0), some (.int (v1)), some (.int (v2)), some (.int (v3)), some (.int (v4)), some (.int (v5)), some (.int (v6)), some (.int (v7)), some (.int (v8)), some (.int (w0)), some (.int (v10)), none, none], [], hM σ)) 0 rfl ?_
  exact ev_dr (a := [some (.ref 0), some (.int (v1)), some (.int (v2)), some (.int (v3)), some (.int (v4)), some (.int (v5)), some (.int (v6)), some (.int (v7)), some (.int (v8)), some (.int (w0)), some (.int (v10)), none, none]) ⟨rfl, ⟨rfl, ⟨rfl, ⟨rfl, ⟨rfl, ⟨rfl, ⟨rfl, ⟨rfl, ⟨rfl, ⟨rfl, ⟨rfl, trivial⟩⟩⟩⟩⟩⟩⟩⟩⟩⟩⟩ (tX12_stand_b210 d k103 hk103 σ v1 v2 v3 v4 v5 v6 v7 v8 w0 v10 _ hf)
set_option maxRecDepth 20000 in
set_option maxHeartbeats 4000000 in
theorem tX12_stand_b192 (d : Nat) (k103 : SM → Int32 → Int32 → Int32 → Int32 → Int32 → Int32 → Int32 → Int32 → Int32 → Int32 → Option (Int32 × SM)) (hk103 : ∀ (σ : SM) (v1 : Int32) (v2 : Int32) (v3 : Int32) (v4 : Int32) (v5 : Int32) (v6 : Int32) (v7 : Int32) (v8 : Int32) (v9 : Int32) (v10 : Int32) (q : Int32 × SM), k103 σ v1 v2 v3 v4 v5 v6 v7 v8 v9 v10 = some q → ev_X (d + 6) (some .int) eiX12_stand (103, [some (.ref 0), some (.int (v1)), some (.int (v2)), some (.int (v3)), some (.int (v4)), some (.int (v5)), some (.int (v6)), some (.int (v7)), some (.int (v8)), some (.int (v9)), some (.int (v10)), none, none], [], hM σ) (some (.int q.1), hM q.2)) (σ : SM) (v1 : Int32) (v2 : Int32) (v3 : Int32) (v4 : Int32) (v5 : Int32) (v6 : Int32) (v7 : Int32) (v9 : Int32) (v10 : Int32) (v11 : Int32) (w0 : Int32) (q : Int32 × SM) (hf : fX12_stand_b192 k103 σ v1 v2 v3 v4 v5 v6 v7 v9 v10 v11 w0 = some q) : ev_X (d + 6) (some .int) eiX12_stand (192, [some (.ref 0), some (.int (v1)), some (.int (v2)), some (.int (v3)), some (.int (v4)), some (.int (v5)), some (.int (v6)), some (.int (v7)), none, some (.int (v9)), some (.int (v10)), some (.int (v11)), none], [.int (w0)], hM σ) (some (.int q.1), hM q.2) := by
  unfold fX12_stand_b192 at hf
  refine ev_br 3 (P := v11 < v9) (a := 201) (b := 206) (ls := [some (.ref 0), some (.int (v1)), some (.int (v2)), some (.int (v3)), some (.int (v4)), some (.int (v5)), some (.int (v6)), some (.int (v7)), some (.int (w0)), some (.int (v9)), some (.int (v10)), some (.int (v11)), none]) (st := []) (h := hM σ) rfl (fun c1 => ?_) (fun c1 => ?_)
  · rw [if_pos c1] at hf
    refine ev_go (c' := (208, [some (.ref 0), some (.int (v1)), some (.int (v2)), some (.int (v3)), some (.int (v4)), some (.int (v5)), some (.int (v6)), some (.int (v7)), some (.int (w0)), some (.int (v9)), some (.int (v10)), some (.int (v11)), none], [.int (v11)], hM σ)) 1 rfl ?_
    exact ev_dr (a := [some (.ref 0), some (.int (v1)), some (.int (v2)), some (.int (v3)), some (.int (v4)), some (.int (v5)), some (.int (v6)), some (.int (v7)), some (.int (w0)), none, some (.int (v10)), none, none]) ⟨rfl, ⟨rfl, ⟨rfl, ⟨rfl, ⟨rfl, ⟨rfl, ⟨rfl, ⟨rfl, ⟨rfl, ⟨rfl, trivial⟩⟩⟩⟩⟩⟩⟩⟩⟩⟩ (tX12_stand_b208 d k103 hk103 σ v1 v2 v3 v4 v5 v6 v7 w0 v10 v11 _ hf)
  · rw [if_neg c1] at hf
    refine ev_go (c' := (208, [some (.ref 0), some (.int (v1)), some (.int (v2)), some (.int (v3)), some (.int (v4)), some (.int (v5)), some (.int (v6)), some (.int (v7)), some (.int (w0)), some (.int (v9)), some (.int (v10)), some (.int (v11)), none], [.int (v9)], hM σ)) 0 rfl ?_
    exact ev_dr (a := [some (.ref 0), some (.int (v1)), some (.int (v2)), some (.int (v3)), some (.int (v4)), some (.int (v5)), some (.int (v6)), some (.int (v7)), some (.int (w0)), none, some (.int (v10)), none, none]) ⟨rfl, ⟨rfl, ⟨rfl, ⟨rfl, ⟨rfl, ⟨rfl, ⟨rfl, ⟨rfl, ⟨rfl, ⟨rfl, trivial⟩⟩⟩⟩⟩⟩⟩⟩⟩⟩ (tX12_stand_b208 d k103 hk103 σ v1 v2 v3 v4 v5 v6 v7 w0 v10 v9 _ hf)
set_option maxRecDepth 20000 in
set_option maxHeartbeats 4000000 in
theorem tX12_stand_b169 (d : Nat) (k103 : SM → Int32 → Int32 → Int32 → Int32 → Int32 → Int32 → Int32 → Int32 → Int32 → Int32 → Option (Int32 × SM)) (hk103 : ∀ (σ : SM) (v1 : Int32) (v2 : Int32) (v3 : Int32) (v4 : Int32) (v5 : Int32) (v6 : Int32) (v7 : Int32) (v8 : Int32) (v9 : Int32) (v10 : Int32) (q : Int32 × SM), k103 σ v1 v2 v3 v4 v5 v6 v7 v8 v9 v10 = some q → ev_X (d + 6) (some .int) eiX12_stand (103, [some (.ref 0), some (.int (v1)), some (.int (v2)), some (.int (v3)), some (.int (v4)), some (.int (v5)), some (.int (v6)), some (.int (v7)), some (.int (v8)), some (.int (v9)), some (.int (v10)), none, none], [], hM σ) (some (.int q.1), hM q.2)) (k135 : SM → Int32 → Int32 → Int32 → Int32 → Int32 → Int32 → Int32 → Int32 → Int32 → Int32 → Int32 → Int32 → Option (Int32 × SM)) (hk135 : ∀ (σ : SM) (v1 : Int32) (v2 : Int32) (v3 : Int32) (v4 : Int32) (v5 : Int32) (v6 : Int32) (v7 : Int32) (v8 : Int32) (v9 : Int32) (v10 : Int32) (v11 : Int32) (v12 : Int32) (q : Int32 × SM), k135 σ v1 v2 v3 v4 v5 v6 v7 v8 v9 v10 v11 v12 = some q → ev_X (d + 6) (some .int) eiX12_stand (135, [some (.ref 0), some (.int (v1)), some (.int (v2)), some (.int (v3)), some (.int (v4)), some (.int (v5)), some (.int (v6)), some (.int (v7)), some (.int (v8)), some (.int (v9)), some (.int (v10)), some (.int (v11)), some (.int (v12))], [], hM σ) (some (.int q.1), hM q.2)) (σ : SM) (v1 : Int32) (v2 : Int32) (v3 : Int32) (v4 : Int32) (v5 : Int32) (v6 : Int32) (v7 : Int32) (v8 : Int32) (v9 : Int32) (v10 : Int32) (v12 : Int32) (w0 : Int32) (w1 : Int32) (q : Int32 × SM) (hf : fX12_stand_b169 k103 k135 σ v1 v2 v3 v4 v5 v6 v7 v8 v9 v10 v12 w0 w1 = some q) : ev_X (d + 6) (some .int) eiX12_stand (169, [some (.ref 0), some (.int (v1)), some (.int (v2)), some (.int (v3)), some (.int (v4)), some (.int (v5)), some (.int (v6)), some (.int (v7)), some (.int (v8)), some (.int (v9)), some (.int (v10)), none, some (.int (v12))], [.int (w0), .int (w1)], hM σ) (some (.int q.1), hM q.2) := by
  unfold fX12_stand_b169 at hf
  refine ev_go (c' := (135, [some (.ref 0), some (.int (v1)), some (.int (v2)), some (.int (v3)), some (.int (v4)), some (.int (v5)), some (.int (v6)), some (.int (v7)), some (.int (v8)), some (.int (v9)), some (.int (v10)), some (.int ((w1 + w0))), some (.int ((v12 + (1 : Int32))))], [], hM σ)) 3 rfl ?_
  exact ev_dr (a := [some (.ref 0), some (.int (v1)), some (.int (v2)), some (.int (v3)), some (.int (v4)), some (.int (v5)), some (.int (v6)), some (.int (v7)), some (.int (v8)), some (.int (v9)), some (.int (v10)), some (.int ((w1 + w0))), some (.int ((v12 + (1 : Int32))))]) ⟨rfl, ⟨rfl, ⟨rfl, ⟨rfl, ⟨rfl, ⟨rfl, ⟨rfl, ⟨rfl, ⟨rfl, ⟨rfl, ⟨rfl, ⟨rfl, ⟨rfl, trivial⟩⟩⟩⟩⟩⟩⟩⟩⟩⟩⟩⟩⟩ (hk135 σ v1 v2 v3 v4 v5 v6 v7 v8 v9 v10 (w1 + w0) (v12 + (1 : Int32)) _ hf)
set_option maxRecDepth 20000 in
set_option maxHeartbeats 4000000 in
theorem tX12_stand_b135 (d : Nat) (k103 : SM → Int32 → Int32 → Int32 → Int32 → Int32 → Int32 → Int32 → Int32 → Int32 → Int32 → Option (Int32 × SM)) (hk103 : ∀ (σ : SM) (v1 : Int32) (v2 : Int32) (v3 : Int32) (v4 : Int32) (v5 : Int32) (v6 : Int32) (v7 : Int32) (v8 : Int32) (v9 : Int32) (v10 : Int32) (q : Int32 × SM), k103 σ v1 v2 v3 v4 v5 v6 v7 v8 v9 v10 = some q → ev_X (d + 6) (some .int) eiX12_stand (103, [some (.ref 0), some (.int (v1)), some (.int (v2)), some (.int (v3)), some (.int (v4)), some (.int (v5)), some (.int (v6)), some (.int (v7)), some (.int (v8)), some (.int (v9)), some (.int (v10)), none, none], [], hM σ) (some (.int q.1), hM q.2)) (k135 : SM → Int32 → Int32 → Int32 → Int32 → Int32 → Int32 → Int32 → Int32 → Int32 → Int32 → Int32 → Int32 → Option (Int32 × SM)) (hk135 : ∀ (σ : SM) (v1 : Int32) (v2 : Int32) (v3 : Int32) (v4 : Int32) (v5 : Int32) (v6 : Int32) (v7 : Int32) (v8 : Int32) (v9 : Int32) (v10 : Int32) (v11 : Int32) (v12 : Int32) (q : Int32 × SM), k135 σ v1 v2 v3 v4 v5 v6 v7 v8 v9 v10 v11 v12 = some q → ev_X (d + 6) (some .int) eiX12_stand (135, [some (.ref 0), some (.int (v1)), some (.int (v2)), some (.int (v3)), some (.int (v4)), some (.int (v5)), some (.int (v6)), some (.int (v7)), some (.int (v8)), some (.int (v9)), some (.int (v10)), some (.int (v11)), some (.int (v12))], [], hM σ) (some (.int q.1), hM q.2)) (σ : SM) (v1 : Int32) (v2 : Int32) (v3 : Int32) (v4 : Int32) (v5 : Int32) (v6 : Int32) (v7 : Int32) (v8 : Int32) (v9 : Int32) (v10 : Int32) (v11 : Int32) (v12 : Int32) (q : Int32 × SM) (hf : fX12_stand_b135 k103 k135 σ v1 v2 v3 v4 v5 v6 v7 v8 v9 v10 v11 v12 = some q) : ev_X (d + 6) (some .int) eiX12_stand (135, [some (.ref 0), some (.int (v1)), some (.int (v2)), some (.int (v3)), some (.int (v4)), some (.int (v5)), some (.int (v6)), some (.int (v7)), some (.int (v8)), some (.int (v9)), some (.int (v10)), some (.int (v11)), some (.int (v12))], [], hM σ) (some (.int q.1), hM q.2) := by
  unfold fX12_stand_b135 at hf
  refine ev_br 2 (P := v12 < v6) (a := 142) (b := 178) (ls := [some (.ref 0), some (.int (v1)), some (.int (v2)), some (.int (v3)), some (.int (v4)), some (.int (v5)), some (.int (v6)), some (.int (v7)), some (.int (v8)), some (.int (v9)), some (.int (v10)), some (.int (v11)), some (.int (v12))]) (st := []) (h := hM σ) rfl (fun c1 => ?_) (fun c1 => ?_)
  · rw [if_pos c1] at hf
    obtain ⟨r7, hr7, hf⟩ := Option.bind_eq_some_iff.mp hf
    refine ev_clv 6 (kk := 182) (as := [.ref 0, .int (v2), .int (v3), .int (v4), .int (v12), .int (v5)]) (rest := []) (pc := 151) (ls := [some (.ref 0), some (.int (v1)), some (.int (v2)), some (.int (v3)), some (.int (v4)), some (.int (v5)), some (.int (v6)), some (.int (v7)), some (.int (v8)), some (.int (v9)), some (.int (v10)), some (.int (v11)), some (.int (v12))]) (st := [.int (v5), .int (v12), .int (v4), .int (v3), .int (v2), .ref 0]) (h := hM σ) rfl (tX12_play d σ v2 v3 v4 v12 v5 r7 hr7) ?_
    refine ev_br 4 (P := (gm_gm_touched r7) = v1) (a := 164) (b := 168) (ls := [some (.ref 0), some (.int (v1)), some (.int (v2)), some (.int (v3)), some (.int (v4)), some (.int (v5)), some (.int (v6)), some (.int (v7)), some (.int (v8)), some (.int (v9)), some (.int (v10)), some (.int (v11)), some (.int (v12))]) (st := [.int (v11)]) (h := hM r7) rfl (fun c2 => ?_) (fun c2 => ?_)
    · rw [if_pos c2] at hf
      refine ev_go (c' := (169, [some (.ref 0), some (.int (v1)), some (.int (v2)), some (.int (v3)), some (.int (v4)), some (.int (v5)), some (.int (v6)), some (.int (v7)), some (.int (v8)), some (.int (v9)), some (.int (v10)), some (.int (v11)), some (.int (v12))], [.int ((1 : Int32)), .int (v11)], hM r7)) 1 rfl ?_
      exact ev_dr (a := [some (.ref 0), some (.int (v1)), some (.int (v2)), some (.int (v3)), some (.int (v4)), some (.int (v5)), some (.int (v6)), some (.int (v7)), some (.int (v8)), some (.int (v9)), some (.int (v10)), none, some (.int (v12))]) ⟨rfl, ⟨rfl, ⟨rfl, ⟨rfl, ⟨rfl, ⟨rfl, ⟨rfl, ⟨rfl, ⟨rfl, ⟨rfl, ⟨rfl, ⟨rfl, trivial⟩⟩⟩⟩⟩⟩⟩⟩⟩⟩⟩⟩ (tX12_stand_b169 d k103 hk103 k135 hk135 r7 v1 v2 v3 v4 v5 v6 v7 v8 v9 v10 v12 (1 : Int32) v11 _ hf)
    · rw [if_neg c2] at hf
      refine ev_go (c' := (169, [some (.ref 0), some (.int (v1)), some (.int (v2)), some (.int (v3)), some (.int (v4)), some (.int (v5)), some (.int (v6)), some (.int (v7)), some (.int (v8)), some (.int (v9)), some (.int (v10)), some (.int (v11)), some (.int (v12))], [.int ((0 : Int32)), .int (v11)], hM r7)) 0 rfl ?_
      exact ev_dr (a := [some (.ref 0), some (.int (v1)), some (.int (v2)), some (.int (v3)), some (.int (v4)), some (.int (v5)), some (.int (v6)), some (.int (v7)), some (.int (v8)), some (.int (v9)), some (.int (v10)), none, some (.int (v12))]) ⟨rfl, ⟨rfl, ⟨rfl, ⟨rfl, ⟨rfl, ⟨rfl, ⟨rfl, ⟨rfl, ⟨rfl, ⟨rfl, ⟨rfl, ⟨rfl, trivial⟩⟩⟩⟩⟩⟩⟩⟩⟩⟩⟩⟩ (tX12_stand_b169 d k103 hk103 k135 hk135 r7 v1 v2 v3 v4 v5 v6 v7 v8 v9 v10 v12 (0 : Int32) v11 _ hf)
  · rw [if_neg c1] at hf
    refine ev_br 2 (P := v11 < v9) (a := 185) (b := 190) (ls := [some (.ref 0), some (.int (v1)), some (.int (v2)), some (.int (v3)), some (.int (v4)), some (.int (v5)), some (.int (v6)), some (.int (v7)), some (.int (v8)), some (.int (v9)), some (.int (v10)), some (.int (v11)), some (.int (v12))]) (st := []) (h := hM σ) rfl (fun c3 => ?_) (fun c3 => ?_)
    · rw [if_pos c3] at hf
      refine ev_go (c' := (192, [some (.ref 0), some (.int (v1)), some (.int (v2)), some (.int (v3)), some (.int (v4)), some (.int (v5)), some (.int (v6)), some (.int (v7)), some (.int (v8)), some (.int (v9)), some (.int (v10)), some (.int (v11)), some (.int (v12))], [.int (v10)], hM σ)) 1 rfl ?_
      exact ev_dr (a := [some (.ref 0), some (.int (v1)), some (.int (v2)), some (.int (v3)), some (.int (v4)), some (.int (v5)), some (.int (v6)), some (.int (v7)), none, some (.int (v9)), some (.int (v10)), some (.int (v11)), none]) ⟨rfl, ⟨rfl, ⟨rfl, ⟨rfl, ⟨rfl, ⟨rfl, ⟨rfl, ⟨rfl, ⟨rfl, ⟨rfl, ⟨rfl, trivial⟩⟩⟩⟩⟩⟩⟩⟩⟩⟩⟩ (tX12_stand_b192 d k103 hk103 σ v1 v2 v3 v4 v5 v6 v7 v9 v10 v11 v10 _ hf)
    · rw [if_neg c3] at hf
      refine ev_go (c' := (192, [some (.ref 0), some (.int (v1)), some (.int (v2)), some (.int (v3)), some (.int (v4)), some (.int (v5)), some (.int (v6)), some (.int (v7)), some (.int (v8)), some (.int (v9)), some (.int (v10)), some (.int (v11)), some (.int (v12))], [.int (v8)], hM σ)) 0 rfl ?_
      exact ev_dr (a := [some (.ref 0), some (.int (v1)), some (.int (v2)), some (.int (v3)), some (.int (v4)), some (.int (v5)), some (.int (v6)), some (.int (v7)), none, some (.int (v9)), some (.int (v10)), some (.int (v11)), none]) ⟨rfl, ⟨rfl, ⟨rfl, ⟨rfl, ⟨rfl, ⟨rfl, ⟨rfl, ⟨rfl, ⟨rfl, ⟨rfl, ⟨rfl, trivial⟩⟩⟩⟩⟩⟩⟩⟩⟩⟩⟩ (tX12_stand_b192 d k103 hk103 σ v1 v2 v3 v4 v5 v6 v7 v9 v10 v11 v8 _ hf)
theorem tX12_stand_l135 (d : Nat) (k103 : SM → Int32 → Int32 → Int32 → Int32 → Int32 → Int32 → Int32 → Int32 → Int32 → Int32 → Option (Int32 × SM)) (hk103 : ∀ (σ : SM) (v1 : Int32) (v2 : Int32) (v3 : Int32) (v4 : Int32) (v5 : Int32) (v6 : Int32) (v7 : Int32) (v8 : Int32) (v9 : Int32) (v10 : Int32) (q : Int32 × SM), k103 σ v1 v2 v3 v4 v5 v6 v7 v8 v9 v10 = some q → ev_X (d + 6) (some .int) eiX12_stand (103, [some (.ref 0), some (.int (v1)), some (.int (v2)), some (.int (v3)), some (.int (v4)), some (.int (v5)), some (.int (v6)), some (.int (v7)), some (.int (v8)), some (.int (v9)), some (.int (v10)), none, none], [], hM σ) (some (.int q.1), hM q.2)) : ∀ (n : Nat) (σ : SM) (v1 : Int32) (v2 : Int32) (v3 : Int32) (v4 : Int32) (v5 : Int32) (v6 : Int32) (v7 : Int32) (v8 : Int32) (v9 : Int32) (v10 : Int32) (v11 : Int32) (v12 : Int32) (q : Int32 × SM), fX12_stand_l135 k103 n σ v1 v2 v3 v4 v5 v6 v7 v8 v9 v10 v11 v12 = some q → ev_X (d + 6) (some .int) eiX12_stand (135, [some (.ref 0), some (.int (v1)), some (.int (v2)), some (.int (v3)), some (.int (v4)), some (.int (v5)), some (.int (v6)), some (.int (v7)), some (.int (v8)), some (.int (v9)), some (.int (v10)), some (.int (v11)), some (.int (v12))], [], hM σ) (some (.int q.1), hM q.2)
  | 0, _, _, _, _, _, _, _, _, _, _, _, _, _, _, hf => by cases hf
  | n + 1, σ, v1, v2, v3, v4, v5, v6, v7, v8, v9, v10, v11, v12, q, hf => tX12_stand_b135 d k103 hk103 (fX12_stand_l135 k103 n) (fun σ v1 v2 v3 v4 v5 v6 v7 v8 v9 v10 v11 v12 q h9 => tX12_stand_l135 d k103 hk103 n σ v1 v2 v3 v4 v5 v6 v7 v8 v9 v10 v11 v12 q h9) σ v1 v2 v3 v4 v5 v6 v7 v8 v9 v10 v11 v12 q hf
set_option maxRecDepth 20000 in
set_option maxHeartbeats 4000000 in
theorem tX12_stand_b103 (d : Nat) (k103 : SM → Int32 → Int32 → Int32 → Int32 → Int32 → Int32 → Int32 → Int32 → Int32 → Int32 → Option (Int32 × SM)) (hk103 : ∀ (σ : SM) (v1 : Int32) (v2 : Int32) (v3 : Int32) (v4 : Int32) (v5 : Int32) (v6 : Int32) (v7 : Int32) (v8 : Int32) (v9 : Int32) (v10 : Int32) (q : Int32 × SM), k103 σ v1 v2 v3 v4 v5 v6 v7 v8 v9 v10 = some q → ev_X (d + 6) (some .int) eiX12_stand (103, [some (.ref 0), some (.int (v1)), some (.int (v2)), some (.int (v3)), some (.int (v4)), some (.int (v5)), some (.int (v6)), some (.int (v7)), some (.int (v8)), some (.int (v9)), some (.int (v10)), none, none], [], hM σ) (some (.int q.1), hM q.2)) (σ : SM) (v1 : Int32) (v2 : Int32) (v3 : Int32) (v4 : Int32) (v5 : Int32) (v6 : Int32) (v7 : Int32) (v8 : Int32) (v9 : Int32) (v10 : Int32) (q : Int32 × SM) (hf : fX12_stand_b103 k103 σ v1 v2 v3 v4 v5 v6 v7 v8 v9 v10 = some q) : ev_X (d + 6) (some .int) eiX12_stand (103, [some (.ref 0), some (.int (v1)), some (.int (v2)), some (.int (v3)), some (.int (v4)), some (.int (v5)), some (.int (v6)), some (.int (v7)), some (.int (v8)), some (.int (v9)), some (.int (v10)), none, none], [], hM σ) (some (.int q.1), hM q.2) := by
  unfold fX12_stand_b103 at hf
  obtain ⟨r8, hr8, hf⟩ := Option.bind_eq_some_iff.mp hf
  refine ev_cli 2 (kk := 133) (as := [.ref 0]) (rest := [.int (v10)]) (pc := 106) (ls := [some (.ref 0), some (.int (v1)), some (.int (v2)), some (.int (v3)), some (.int (v4)), some (.int (v5)), some (.int (v6)), some (.int (v7)), some (.int (v8)), some (.int (v9)), some (.int (v10)), none, none]) (st := [.ref 0, .int (v10)]) (h := hM σ) rfl (tX12_cells (d + 5) σ r8 hr8) ?_
  refine ev_br 0 (P := v10 < r8) (a := 112) (b := 216) (ls := [some (.ref 0), some (.int (v1)), some (.int (v2)), some (.int (v3)), some (.int (v4)), some (.int (v5)), some (.int (v6)), some (.int (v7)), some (.int (v8)), some (.int (v9)), some (.int (v10)), none, none]) (st := []) (h := hM σ) rfl (fun c1 => ?_) (fun c1 => ?_)
  · rw [if_pos c1] at hf
    obtain ⟨r9, hr9, hf⟩ := Option.bind_eq_some_iff.mp hf
    refine ev_cli 2 (kk := 135) (as := [.ref 0, .int (v10)]) (rest := []) (pc := 115) (ls := [some (.ref 0), some (.int (v1)), some (.int (v2)), some (.int (v3)), some (.int (v4)), some (.int (v5)), some (.int (v6)), some (.int (v7)), some (.int (v8)), some (.int (v9)), some (.int (v10)), none, none]) (st := [.int (v10), .ref 0]) (h := hM σ) rfl (tX12_isFree (d + 3) σ v10 r9 hr9) ?_
    refine ev_br 0 (P := r9 = 0) (a := 210) (b := 121) (ls := [some (.ref 0), some (.int (v1)), some (.int (v2)), some (.int (v3)), some (.int (v4)), some (.int (v5)), some (.int (v6)), some (.int (v7)), some (.int (v8)), some (.int (v9)), some (.int (v10)), none, none]) (st := []) (h := hM σ) rfl (fun c2 => ?_) (fun c2 => ?_)
    · rw [if_pos c2] at hf
      exact ev_dr (a := [some (.ref 0), some (.int (v1)), some (.int (v2)), some (.int (v3)), some (.int (v4)), some (.int (v5)), some (.int (v6)), some (.int (v7)), some (.int (v8)), some (.int (v9)), some (.int (v10)), none, none]) ⟨rfl, ⟨rfl, ⟨rfl, ⟨rfl, ⟨rfl, ⟨rfl, ⟨rfl, ⟨rfl, ⟨rfl, ⟨rfl, ⟨rfl, trivial⟩⟩⟩⟩⟩⟩⟩⟩⟩⟩⟩ (tX12_stand_b210 d k103 hk103 σ v1 v2 v3 v4 v5 v6 v7 v8 v9 v10 _ hf)
    · rw [if_neg c2] at hf
      obtain ⟨c3, hf⟩ := ev_hp hf
      refine ev_go (c' := (128, [some (.ref 0), some (.int (v1)), some (.int (v2)), some (.int (v3)), some (.int (v4)), some (.int (v5)), some (.int (v6)), some (.int (v7)), some (.int (v8)), some (.int (v9)), some (.int (v10)), none, none], [.int (v10), .int (v1), .ref 5], hM σ)) 3 rfl ?_
      refine ev_st1 (e := (128, .iastore, 1, 0, 0, .null, [], [])) (c' := (129, [some (.ref 0), some (.int (v1)), some (.int (v2)), some (.int (v3)), some (.int (v4)), some (.int (v5)), some (.int (v6)), some (.int (v7)), some (.int (v8)), some (.int (v9)), some (.int (v10)), none, none], [], hM (sm_pl_placeOf σ (upd (gm_pl_placeOf σ) v1.toNatClampNeg v10)))) rfl (oy_ast_m_pl_placeOf c3) ?_
      refine ev_go (c' := (135, [some (.ref 0), some (.int (v1)), some (.int (v2)), some (.int (v3)), some (.int (v4)), some (.int (v5)), some (.int (v6)), some (.int (v7)), some (.int (v8)), some (.int (v9)), some (.int (v10)), some (.int ((0 : Int32))), some (.int ((0 : Int32)))], [], hM (sm_pl_placeOf σ (upd (gm_pl_placeOf σ) v1.toNatClampNeg v10)))) 3 rfl ?_
      exact ev_dr (a := [some (.ref 0), some (.int (v1)), some (.int (v2)), some (.int (v3)), some (.int (v4)), some (.int (v5)), some (.int (v6)), some (.int (v7)), some (.int (v8)), some (.int (v9)), some (.int (v10)), some (.int ((0 : Int32))), some (.int ((0 : Int32)))]) ⟨rfl, ⟨rfl, ⟨rfl, ⟨rfl, ⟨rfl, ⟨rfl, ⟨rfl, ⟨rfl, ⟨rfl, ⟨rfl, ⟨rfl, ⟨rfl, ⟨rfl, trivial⟩⟩⟩⟩⟩⟩⟩⟩⟩⟩⟩⟩⟩ (tX12_stand_l135 d k103 hk103 1000 (sm_pl_placeOf σ (upd (gm_pl_placeOf σ) v1.toNatClampNeg v10)) v1 v2 v3 v4 v5 v6 v7 v8 v9 v10 (0 : Int32) (0 : Int32) _ hf)
  · rw [if_neg c1] at hf
    obtain ⟨c4, hf⟩ := ev_hp hf
    refine ev_go (c' := (223, [some (.ref 0), some (.int (v1)), some (.int (v2)), some (.int (v3)), some (.int (v4)), some (.int (v5)), some (.int (v6)), some (.int (v7)), some (.int (v8)), some (.int (v9)), some (.int (v10)), none, none], [.int (v7), .int (v1), .ref 5], hM σ)) 3 rfl ?_
    refine ev_st1 (e := (223, .iastore, 1, 0, 0, .null, [], [])) (c' := (224, [some (.ref 0), some (.int (v1)), some (.int (v2)), some (.int (v3)), some (.int (v4)), some (.int (v5)), some (.int (v6)), some (.int (v7)), some (.int (v8)), some (.int (v9)), some (.int (v10)), none, none], [], hM (sm_pl_placeOf σ (upd (gm_pl_placeOf σ) v1.toNatClampNeg v7)))) rfl (oy_ast_m_pl_placeOf c4) ?_
    cases hf
    exact ev_rt 1 rfl
theorem tX12_stand_l103 (d : Nat) : ∀ (n : Nat) (σ : SM) (v1 : Int32) (v2 : Int32) (v3 : Int32) (v4 : Int32) (v5 : Int32) (v6 : Int32) (v7 : Int32) (v8 : Int32) (v9 : Int32) (v10 : Int32) (q : Int32 × SM), fX12_stand_l103 n σ v1 v2 v3 v4 v5 v6 v7 v8 v9 v10 = some q → ev_X (d + 6) (some .int) eiX12_stand (103, [some (.ref 0), some (.int (v1)), some (.int (v2)), some (.int (v3)), some (.int (v4)), some (.int (v5)), some (.int (v6)), some (.int (v7)), some (.int (v8)), some (.int (v9)), some (.int (v10)), none, none], [], hM σ) (some (.int q.1), hM q.2)
  | 0, _, _, _, _, _, _, _, _, _, _, _, _, hf => by cases hf
  | n + 1, σ, v1, v2, v3, v4, v5, v6, v7, v8, v9, v10, q, hf => tX12_stand_b103 d (fX12_stand_l103 n) (fun σ v1 v2 v3 v4 v5 v6 v7 v8 v9 v10 q h9 => tX12_stand_l103 d n σ v1 v2 v3 v4 v5 v6 v7 v8 v9 v10 q h9) σ v1 v2 v3 v4 v5 v6 v7 v8 v9 v10 q hf
set_option maxRecDepth 20000 in
set_option maxHeartbeats 4000000 in
theorem tX12_stand_b59 (d : Nat) (σ : SM) (q : Int32 × SM) (hf : fX12_stand_b59 σ = some q) : ev_X (d + 6) (some .int) eiX12_stand (59, [none, none, none, none, none, none, none, none, none, none, none, none, none], [], hM σ) (some (.int q.1), hM q.2) := by
  unfold fX12_stand_b59 at hf
  cases hf
  exact ev_rt 1 rfl
set_option maxRecDepth 20000 in
set_option maxHeartbeats 4000000 in
theorem tX12_stand_b16 (d : Nat) (σ : SM) (q : Int32 × SM) (hf : fX12_stand_b16 σ = some q) : ev_X (d + 6) (some .int) eiX12_stand (16, [none, none, none, none, none, none, none, none, none, none, none, none, none], [], hM σ) (some (.int q.1), hM q.2) := by
  unfold fX12_stand_b16 at hf
  cases hf
  exact ev_rt 1 rfl
set_option maxRecDepth 20000 in
set_option maxHeartbeats 4000000 in
theorem tX12_stand (d : Nat) (σ : SM) (v1 : Int32) (v2 : Int32) (v3 : Int32) (v4 : Int32) (v5 : Int32) (v6 : Int32) (q : Int32 × SM) (hf : fX12_stand σ v1 v2 v3 v4 v5 v6 = some q) : ev_M ev_mt (d + 7) 185 [.ref 0, .int (v1), .int (v2), .int (v3), .int (v4), .int (v5), .int (v6)] (hM σ) (some (.int q.1), hM q.2) := by
  refine ev_en (rt := (some .int)) (I := eiX12_stand) rfl (Nat.le_of_ble_eq_true rfl) ?_
  change ev_X (d + 6) _ _ (0, [some (.ref 0), some (.int (v1)), some (.int (v2)), some (.int (v3)), some (.int (v4)), some (.int (v5)), some (.int (v6)), none, none, none, none, none, none], [], hM σ) _
  unfold fX12_stand at hf
  obtain ⟨r1, hr1, hf⟩ := Option.bind_eq_some_iff.mp hf
  refine ev_cli 2 (kk := 168) (as := [.ref 0, .int (v1)]) (rest := []) (pc := 2) (ls := [some (.ref 0), some (.int (v1)), some (.int (v2)), some (.int (v3)), some (.int (v4)), some (.int (v5)), some (.int (v6)), none, none, none, none, none, none]) (st := [.int (v1), .ref 0]) (h := hM σ) rfl (tX12_isPlayer (d + 4) σ v1 r1 hr1) ?_
  refine ev_br 0 (P := r1 = 0) (a := 16) (b := 8) (ls := [some (.ref 0), some (.int (v1)), some (.int (v2)), some (.int (v3)), some (.int (v4)), some (.int (v5)), some (.int (v6)), none, none, none, none, none, none]) (st := []) (h := hM σ) rfl (fun c1 => ?_) (fun c1 => ?_)
  · rw [if_pos c1] at hf
    exact ev_dr (a := [none, none, none, none, none, none, none, none, none, none, none, none, none]) trivial (tX12_stand_b16 d σ  _ hf)
  · rw [if_neg c1] at hf
    obtain ⟨r2, hr2, hf⟩ := Option.bind_eq_some_iff.mp hf
    refine ev_cli 2 (kk := 135) (as := [.ref 0, .int (v2)]) (rest := []) (pc := 10) (ls := [some (.ref 0), some (.int (v1)), some (.int (v2)), some (.int (v3)), some (.int (v4)), some (.int (v5)), some (.int (v6)), none, none, none, none, none, none]) (st := [.int (v2), .ref 0]) (h := hM σ) rfl (tX12_isFree (d + 3) σ v2 r2 hr2) ?_
    refine ev_br 0 (P := r2 = 0) (a := 16) (b := 19) (ls := [some (.ref 0), some (.int (v1)), some (.int (v2)), some (.int (v3)), some (.int (v4)), some (.int (v5)), some (.int (v6)), none, none, none, none, none, none]) (st := []) (h := hM σ) rfl (fun c2 => ?_) (fun c2 => ?_)
    · rw [if_pos c2] at hf
      exact ev_dr (a := [none, none, none, none, none, none, none, none, none, none, none, none, none]) trivial (tX12_stand_b16 d σ  _ hf)
    · rw [if_neg c2] at hf
      obtain ⟨r3, hr3, hf⟩ := Option.bind_eq_some_iff.mp hf
      refine ev_cli 1 (kk := 138) (as := [.int (v3)]) (rest := []) (pc := 20) (ls := [some (.ref 0), some (.int (v1)), some (.int (v2)), some (.int (v3)), some (.int (v4)), some (.int (v5)), some (.int (v6)), none, none, none, none, none, none]) (st := [.int (v3)]) (h := hM σ) rfl (tX12_isWay (d + 4) (hM σ) v3 r3 hr3) ?_
      refine ev_br 0 (P := r3 = 0) (a := 59) (b := 26) (ls := [some (.ref 0), some (.int (v1)), some (.int (v2)), some (.int (v3)), some (.int (v4)), some (.int (v5)), some (.int (v6)), none, none, none, none, none, none]) (st := []) (h := hM σ) rfl (fun c3 => ?_) (fun c3 => ?_)
      · rw [if_pos c3] at hf
        exact ev_dr (a := [none, none, none, none, none, none, none, none, none, none, none, none, none]) trivial (tX12_stand_b59 d σ  _ hf)
      · rw [if_neg c3] at hf
        obtain ⟨r4, hr4, hf⟩ := Option.bind_eq_some_iff.mp hf
        refine ev_cli 3 (kk := 123) (as := [.int (v4), .int ((0 : Int32)), .int ((9 : Int32))]) (rest := []) (pc := 31) (ls := [some (.ref 0), some (.int (v1)), some (.int (v2)), some (.int (v3)), some (.int (v4)), some (.int (v5)), some (.int (v6)), none, none, none, none, none, none]) (st := [.int ((9 : Int32)), .int ((0 : Int32)), .int (v4)]) (h := hM σ) rfl (tX12_within (d + 5) (hM σ) v4 (0 : Int32) (9 : Int32) r4 hr4) ?_
        refine ev_br 0 (P := r4 = 0) (a := 59) (b := 37) (ls := [some (.ref 0), some (.int (v1)), some (.int (v2)), some (.int (v3)), some (.int (v4)), some (.int (v5)), some (.int (v6)), none, none, none, none, none, none]) (st := []) (h := hM σ) rfl (fun c4 => ?_) (fun c4 => ?_)
        · rw [if_pos c4] at hf
          exact ev_dr (a := [none, none, none, none, none, none, none, none, none, none, none, none, none]) trivial (tX12_stand_b59 d σ  _ hf)
        · rw [if_neg c4] at hf
          obtain ⟨r5, hr5, hf⟩ := Option.bind_eq_some_iff.mp hf
          refine ev_cli 3 (kk := 123) (as := [.int (v5), .int ((1 : Int32)), .int ((50 : Int32))]) (rest := []) (pc := 42) (ls := [some (.ref 0), some (.int (v1)), some (.int (v2)), some (.int (v3)), some (.int (v4)), some (.int (v5)), some (.int (v6)), none, none, none, none, none, none]) (st := [.int ((50 : Int32)), .int ((1 : Int32)), .int (v5)]) (h := hM σ) rfl (tX12_within (d + 5) (hM σ) v5 (1 : Int32) (50 : Int32) r5 hr5) ?_
          refine ev_br 0 (P := r5 = 0) (a := 59) (b := 48) (ls := [some (.ref 0), some (.int (v1)), some (.int (v2)), some (.int (v3)), some (.int (v4)), some (.int (v5)), some (.int (v6)), none, none, none, none, none, none]) (st := []) (h := hM σ) rfl (fun c5 => ?_) (fun c5 => ?_)
          · rw [if_pos c5] at hf
            exact ev_dr (a := [none, none, none, none, none, none, none, none, none, none, none, none, none]) trivial (tX12_stand_b59 d σ  _ hf)
          · rw [if_neg c5] at hf
            obtain ⟨r6, hr6, hf⟩ := Option.bind_eq_some_iff.mp hf
            refine ev_cli 3 (kk := 123) (as := [.int (v6), .int ((1 : Int32)), .int ((9 : Int32))]) (rest := []) (pc := 53) (ls := [some (.ref 0), some (.int (v1)), some (.int (v2)), some (.int (v3)), some (.int (v4)), some (.int (v5)), some (.int (v6)), none, none, none, none, none, none]) (st := [.int ((9 : Int32)), .int ((1 : Int32)), .int (v6)]) (h := hM σ) rfl (tX12_within (d + 5) (hM σ) v6 (1 : Int32) (9 : Int32) r6 hr6) ?_
            refine ev_br 0 (P := r6 = 0) (a := 59) (b := 62) (ls := [some (.ref 0), some (.int (v1)), some (.int (v2)), some (.int (v3)), some (.int (v4)), some (.int (v5)), some (.int (v6)), none, none, none, none, none, none]) (st := []) (h := hM σ) rfl (fun c6 => ?_) (fun c6 => ?_)
            · rw [if_pos c6] at hf
              exact ev_dr (a := [none, none, none, none, none, none, none, none, none, none, none, none, none]) trivial (tX12_stand_b59 d σ  _ hf)
            · rw [if_neg c6] at hf
              refine ev_br 3 (P := (gm_nm_asks σ) = (20 : Int32)) (a := 71) (b := 74) (ls := [some (.ref 0), some (.int (v1)), some (.int (v2)), some (.int (v3)), some (.int (v4)), some (.int (v5)), some (.int (v6)), none, none, none, none, none, none]) (st := []) (h := hM σ) rfl (fun c7 => ?_) (fun c7 => ?_)
              · rw [if_pos c7] at hf
                cases hf
                exact ev_rt 1 rfl
              · rw [if_neg c7] at hf
                refine ev_go (c' := (81, [some (.ref 0), some (.int (v1)), some (.int (v2)), some (.int (v3)), some (.int (v4)), some (.int (v5)), some (.int (v6)), none, none, none, none, none, none], [.int (((gm_nm_asks σ) + (1 : Int32))), .ref 0], hM σ)) 4 rfl ?_
                refine ev_st1 (e := (81, .putfield 279, 3, 19, 0, .null, [(12, 0)], [1069])) (c' := (84, [some (.ref 0), some (.int (v1)), some (.int (v2)), some (.int (v3)), some (.int (v4)), some (.int (v5)), some (.int (v6)), none, none, none, none, none, none], [], hM (sm_nm_asks σ ((gm_nm_asks σ) + (1 : Int32))))) rfl oy_put_m_nm_asks ?_
                obtain ⟨c8, hf⟩ := ev_hp hf
                refine ev_ck 3 (P := ¬ (v1 < 0 ∨ 6 ≤ v1.toNatClampNeg)) (c' := (90, [some (.ref 0), some (.int (v1)), some (.int (v2)), some (.int (v3)), some (.int (v4)), some (.int (v5)), some (.int (v6)), none, none, none, none, none, none], [.int (((gm_pl_placeOf σ) v1.toNatClampNeg))], hM (sm_nm_asks σ ((gm_nm_asks σ) + (1 : Int32))))) rfl c8 ?_
                refine ev_go (c' := (103, [some (.ref 0), some (.int (v1)), some (.int (v2)), some (.int (v3)), some (.int (v4)), some (.int (v5)), some (.int (v6)), some (.int (((gm_pl_placeOf σ) v1.toNatClampNeg))), some (.int ((-1 : Int32))), some (.int ((268435456 : Int32))), some (.int ((0 : Int32))), none, none], [], hM (sm_nm_asks σ ((gm_nm_asks σ) + (1 : Int32))))) 6 rfl ?_
                exact ev_dr (a := [some (.ref 0), some (.int (v1)), some (.int (v2)), some (.int (v3)), some (.int (v4)), some (.int (v5)), some (.int (v6)), some (.int (((gm_pl_placeOf σ) v1.toNatClampNeg))), some (.int ((-1 : Int32))), some (.int ((268435456 : Int32))), some (.int ((0 : Int32))), none, none]) ⟨rfl, ⟨rfl, ⟨rfl, ⟨rfl, ⟨rfl, ⟨rfl, ⟨rfl, ⟨rfl, ⟨rfl, ⟨rfl, ⟨rfl, trivial⟩⟩⟩⟩⟩⟩⟩⟩⟩⟩⟩ (tX12_stand_l103 d 1000 (sm_nm_asks σ ((gm_nm_asks σ) + (1 : Int32))) v1 v2 v3 v4 v5 v6 ((gm_pl_placeOf σ) v1.toNatClampNeg) (-1 : Int32) (268435456 : Int32) (0 : Int32) _ hf)
set_option maxRecDepth 20000 in
set_option maxHeartbeats 4000000 in
theorem tX12_feels_b29 (d : Nat) (σ : SM) (q : Int32 × SM) (hf : fX12_feels_b29 σ = some q) : ev_X (d + 1) (some .int) eiX12_feels (29, [none, none, none, none], [], hM σ) (some (.int q.1), hM q.2) := by
  unfold fX12_feels_b29 at hf
  cases hf
  exact ev_rt 1 rfl
set_option maxRecDepth 20000 in
set_option maxHeartbeats 4000000 in
theorem tX12_feels (d : Nat) (σ : SM) (v1 : Int32) (v2 : Int32) (v3 : Int32) (q : Int32 × SM) (hf : fX12_feels σ v1 v2 v3 = some q) : ev_M ev_mt (d + 2) 186 [.ref 0, .int (v1), .int (v2), .int (v3)] (hM σ) (some (.int q.1), hM q.2) := by
  refine ev_en (rt := (some .int)) (I := eiX12_feels) rfl (Nat.le_of_ble_eq_true rfl) ?_
  change ev_X (d + 1) _ _ (0, [some (.ref 0), some (.int (v1)), some (.int (v2)), some (.int (v3))], [], hM σ) _
  unfold fX12_feels at hf
  obtain ⟨r1, hr1, hf⟩ := Option.bind_eq_some_iff.mp hf
  refine ev_cli 3 (kk := 123) (as := [.int (v1), .int ((0 : Int32)), .int ((5 : Int32))]) (rest := []) (pc := 3) (ls := [some (.ref 0), some (.int (v1)), some (.int (v2)), some (.int (v3))]) (st := [.int ((5 : Int32)), .int ((0 : Int32)), .int (v1)]) (h := hM σ) rfl (tX12_within d (hM σ) v1 (0 : Int32) (5 : Int32) r1 hr1) ?_
  refine ev_br 0 (P := r1 = 0) (a := 29) (b := 9) (ls := [some (.ref 0), some (.int (v1)), some (.int (v2)), some (.int (v3))]) (st := []) (h := hM σ) rfl (fun c1 => ?_) (fun c1 => ?_)
  · rw [if_pos c1] at hf
    exact ev_dr (a := [none, none, none, none]) trivial (tX12_feels_b29 d σ  _ hf)
  · rw [if_neg c1] at hf
    obtain ⟨r2, hr2, hf⟩ := Option.bind_eq_some_iff.mp hf
    refine ev_cli 3 (kk := 123) (as := [.int (v2), .int ((0 : Int32)), .int ((10 : Int32))]) (rest := []) (pc := 13) (ls := [some (.ref 0), some (.int (v1)), some (.int (v2)), some (.int (v3))]) (st := [.int ((10 : Int32)), .int ((0 : Int32)), .int (v2)]) (h := hM σ) rfl (tX12_within d (hM σ) v2 (0 : Int32) (10 : Int32) r2 hr2) ?_
    refine ev_br 0 (P := r2 = 0) (a := 29) (b := 19) (ls := [some (.ref 0), some (.int (v1)), some (.int (v2)), some (.int (v3))]) (st := []) (h := hM σ) rfl (fun c2 => ?_) (fun c2 => ?_)
    · rw [if_pos c2] at hf
      exact ev_dr (a := [none, none, none, none]) trivial (tX12_feels_b29 d σ  _ hf)
    · rw [if_neg c2] at hf
      obtain ⟨r3, hr3, hf⟩ := Option.bind_eq_some_iff.mp hf
      refine ev_cli 3 (kk := 123) (as := [.int (v3), .int ((0 : Int32)), .int ((10 : Int32))]) (rest := []) (pc := 23) (ls := [some (.ref 0), some (.int (v1)), some (.int (v2)), some (.int (v3))]) (st := [.int ((10 : Int32)), .int ((0 : Int32)), .int (v3)]) (h := hM σ) rfl (tX12_within d (hM σ) v3 (0 : Int32) (10 : Int32) r3 hr3) ?_
      refine ev_br 0 (P := r3 = 0) (a := 29) (b := 32) (ls := [some (.ref 0), some (.int (v1)), some (.int (v2)), some (.int (v3))]) (st := []) (h := hM σ) rfl (fun c3 => ?_) (fun c3 => ?_)
      · rw [if_pos c3] at hf
        exact ev_dr (a := [none, none, none, none]) trivial (tX12_feels_b29 d σ  _ hf)
      · rw [if_neg c3] at hf
        refine ev_go (c' := (34, [some (.ref 0), some (.int (v1)), some (.int (v2)), some (.int (v3))], [.int (v1), .ref 0], hM σ)) 1 rfl ?_
        refine ev_st1 (e := (34, .putfield 283, 3, 13, 0, .null, [(12, 0)], [1063])) (c' := (37, [some (.ref 0), some (.int (v1)), some (.int (v2)), some (.int (v3))], [], hM (sm_nm_unsure σ v1))) rfl oy_put_m_nm_unsure ?_
        refine ev_go (c' := (39, [some (.ref 0), some (.int (v1)), some (.int (v2)), some (.int (v3))], [.int (v2), .ref 0], hM (sm_nm_unsure σ v1))) 1 rfl ?_
        refine ev_st1 (e := (39, .putfield 35, 3, 14, 0, .null, [(12, 0)], [1064])) (c' := (42, [some (.ref 0), some (.int (v1)), some (.int (v2)), some (.int (v3))], [], hM (sm_nm_clothRight (sm_nm_unsure σ v1) v2))) rfl oy_put_m_nm_clothRight ?_
        refine ev_go (c' := (44, [some (.ref 0), some (.int (v1)), some (.int (v2)), some (.int (v3))], [.int (v3), .ref 0], hM (sm_nm_clothRight (sm_nm_unsure σ v1) v2))) 1 rfl ?_
        refine ev_st1 (e := (44, .putfield 39, 3, 15, 0, .null, [(12, 0)], [1065])) (c' := (47, [some (.ref 0), some (.int (v1)), some (.int (v2)), some (.int (v3))], [], hM (sm_nm_giggleRight (sm_nm_clothRight (sm_nm_unsure σ v1) v2) v3))) rfl oy_put_m_nm_giggleRight ?_
        cases hf
        exact ev_rt 1 rfl
