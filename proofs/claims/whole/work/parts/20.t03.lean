/-! X7_isRead X7_firstFree X7_mixInto X8_begin X9_goOn X8_playersGo X8_lookToCall X8_draw X8_heGoes X10_isCaught X8_touch X8_play X8_outcome X8_seedsThatTouch X11_letters X11_blank X11_fault X11_ring X11_cell X11_set X11_lost X11_turned X11_step -/
set_option maxRecDepth 20000 in
set_option maxHeartbeats 4000000 in
theorem tX7_isRead_b12 (d : Nat) (σ : SX) (w0 : Int32) (q : Int32) (hf : fX7_isRead_b12 σ w0 = some q) : ev_X d (some .boolean) eiX7_isRead (12, [none], [.int (w0)], hX σ) (some (.int q), hX σ) := by
  unfold fX7_isRead_b12 at hf
  obtain ⟨c1, hf⟩ := ev_hp hf
  cases hf
  exact ev_rk 0 rfl c1
set_option maxRecDepth 20000 in
set_option maxHeartbeats 4000000 in
theorem tX7_isRead (d : Nat) (σ : SX) (q : Int32) (hf : fX7_isRead σ = some q) : ev_M ev_mt (d + 1) 56 [.ref 3] (hX σ) (some (.int q), hX σ) := by
  refine ev_en (rt := (some .boolean)) (I := eiX7_isRead) rfl (Nat.le_of_ble_eq_true rfl) ?_
  change ev_X d _ _ (0, [some (.ref 3)], [], hX σ) _
  unfold fX7_isRead at hf
  refine ev_br 2 (P := 0 < (gx_rg_size σ)) (a := 7) (b := 11) (ls := [some (.ref 3)]) (st := []) (h := hX σ) rfl (fun c1 => ?_) (fun c1 => ?_)
  · rw [if_pos c1] at hf
    refine ev_go (c' := (12, [some (.ref 3)], [.int ((1 : Int32))], hX σ)) 1 rfl ?_
    exact ev_dr (a := [none]) trivial (tX7_isRead_b12 d σ (1 : Int32) _ hf)
  · rw [if_neg c1] at hf
    refine ev_go (c' := (12, [some (.ref 3)], [.int ((0 : Int32))], hX σ)) 0 rfl ?_
    exact ev_dr (a := [none]) trivial (tX7_isRead_b12 d σ (0 : Int32) _ hf)
set_option maxRecDepth 20000 in
set_option maxHeartbeats 4000000 in
theorem tX7_firstFree_b2 (d : Nat) (σ : SX) (k2 : Int32 → Option (Int32)) (hk2 : ∀ (v1 : Int32) (q : Int32), k2 v1 = some q → ev_X (d + 1) (some .int) eiX7_firstFree (2, [some (.ref 3), some (.int (v1))], [], hX σ) (some (.int q), hX σ)) (v1 : Int32) (q : Int32) (hf : fX7_firstFree_b2 σ k2 v1 = some q) : ev_X (d + 1) (some .int) eiX7_firstFree (2, [some (.ref 3), some (.int (v1))], [], hX σ) (some (.int q), hX σ) := by
  unfold fX7_firstFree_b2 at hf
  refine ev_br 3 (P := v1 < (gx_rg_size σ)) (a := 10) (b := 26) (ls := [some (.ref 3), some (.int (v1))]) (st := []) (h := hX σ) rfl (fun c1 => ?_) (fun c1 => ?_)
  · rw [if_pos c1] at hf
    obtain ⟨r1, hr1, hf⟩ := Option.bind_eq_some_iff.mp hf
    refine ev_cli 2 (kk := 59) (as := [.ref 3, .int (v1)]) (rest := []) (pc := 12) (ls := [some (.ref 3), some (.int (v1))]) (st := [.int (v1), .ref 3]) (h := hX σ) rfl (tX7_isFree d σ v1 r1 hr1) ?_
    refine ev_br 0 (P := r1 = 0) (a := 20) (b := 18) (ls := [some (.ref 3), some (.int (v1))]) (st := []) (h := hX σ) rfl (fun c2 => ?_) (fun c2 => ?_)
    · rw [if_pos c2] at hf
      refine ev_go (c' := (2, [some (.ref 3), some (.int ((v1 + (1 : Int32))))], [], hX σ)) 1 rfl ?_
      exact ev_dr (a := [some (.ref 3), some (.int ((v1 + (1 : Int32))))]) ⟨rfl, ⟨rfl, trivial⟩⟩ (hk2 (v1 + (1 : Int32)) _ hf)
    · rw [if_neg c2] at hf
      cases hf
      exact ev_rt 1 rfl
  · rw [if_neg c1] at hf
    cases hf
    exact ev_rt 1 rfl
theorem tX7_firstFree_l2 (d : Nat) (σ : SX) : ∀ (n : Nat) (v1 : Int32) (q : Int32), fX7_firstFree_l2 σ n v1 = some q → ev_X (d + 1) (some .int) eiX7_firstFree (2, [some (.ref 3), some (.int (v1))], [], hX σ) (some (.int q), hX σ)
  | 0, _, _, hf => by cases hf
  | n + 1, v1, q, hf => tX7_firstFree_b2 d σ (fX7_firstFree_l2 σ n) (fun v1 q h9 => tX7_firstFree_l2 d σ n v1 q h9) v1 q hf
set_option maxRecDepth 20000 in
set_option maxHeartbeats 4000000 in
theorem tX7_firstFree (d : Nat) (σ : SX) (q : Int32) (hf : fX7_firstFree σ = some q) : ev_M ev_mt (d + 2) 60 [.ref 3] (hX σ) (some (.int q), hX σ) := by
  refine ev_en (rt := (some .int)) (I := eiX7_firstFree) rfl (Nat.le_of_ble_eq_true rfl) ?_
  change ev_X (d + 1) _ _ (0, [some (.ref 3), none], [], hX σ) _
  unfold fX7_firstFree at hf
  refine ev_go (c' := (2, [some (.ref 3), some (.int ((0 : Int32)))], [], hX σ)) 1 rfl ?_
  exact ev_dr (a := [some (.ref 3), some (.int ((0 : Int32)))]) ⟨rfl, ⟨rfl, trivial⟩⟩ (tX7_firstFree_l2 d σ 1000 (0 : Int32) _ hf)
set_option maxRecDepth 20000 in
set_option maxHeartbeats 4000000 in
theorem tX7_mixInto_b5 (d : Nat) (σ : SX) (k5 : Int64 → Int32 → Option (Int64)) (hk5 : ∀ (v3 : Int64) (v5 : Int32) (q : Int64), k5 v3 v5 = some q → ev_X (d + 1) (some .long) eiX7_mixInto (5, [some (.ref 3), none, none, some (.long (v3)), none, some (.int (v5))], [], hX σ) (some (.long q), hX σ)) (v3 : Int64) (v5 : Int32) (q : Int64) (hf : fX7_mixInto_b5 σ k5 v3 v5 = some q) : ev_X (d + 1) (some .long) eiX7_mixInto (5, [some (.ref 3), none, none, some (.long (v3)), none, some (.int (v5))], [], hX σ) (some (.long q), hX σ) := by
  unfold fX7_mixInto_b5 at hf
  refine ev_br 3 (P := v5 < (gx_rg_size σ)) (a := 14) (b := 32) (ls := [some (.ref 3), none, none, some (.long (v3)), none, some (.int (v5))]) (st := []) (h := hX σ) rfl (fun c1 => ?_) (fun c1 => ?_)
  · rw [if_pos c1] at hf
    obtain ⟨r1, hr1, hf⟩ := Option.bind_eq_some_iff.mp hf
    refine ev_cli 3 (kk := 58) (as := [.ref 3, .int (v5)]) (rest := [.long (v3)]) (pc := 18) (ls := [some (.ref 3), none, none, some (.long (v3)), none, some (.int (v5))]) (st := [.int (v5), .ref 3, .long (v3)]) (h := hX σ) rfl (tX7_kindOf d σ v5 r1 hr1) ?_
    obtain ⟨r2, hr2, hf⟩ := Option.bind_eq_some_iff.mp hf
    refine ev_cll 1 (kk := 116) (as := [.long (v3), .long (r1.toInt64)]) (rest := []) (pc := 22) (ls := [some (.ref 3), none, none, some (.long (v3)), none, some (.int (v5))]) (st := [.long (r1.toInt64), .long (v3)]) (h := hX σ) rfl (tX11_mixed d (hX σ) v3 r1.toInt64 r2 hr2) ?_
    refine ev_go (c' := (5, [some (.ref 3), none, none, some (.long (r2)), none, some (.int ((v5 + (1 : Int32))))], [], hX σ)) 2 rfl ?_
    exact ev_dr (a := [some (.ref 3), none, none, some (.long (r2)), none, some (.int ((v5 + (1 : Int32))))]) ⟨rfl, ⟨rfl, ⟨rfl, trivial⟩⟩⟩ (hk5 r2 (v5 + (1 : Int32)) _ hf)
  · rw [if_neg c1] at hf
    cases hf
    exact ev_rt 1 rfl
theorem tX7_mixInto_l5 (d : Nat) (σ : SX) : ∀ (n : Nat) (v3 : Int64) (v5 : Int32) (q : Int64), fX7_mixInto_l5 σ n v3 v5 = some q → ev_X (d + 1) (some .long) eiX7_mixInto (5, [some (.ref 3), none, none, some (.long (v3)), none, some (.int (v5))], [], hX σ) (some (.long q), hX σ)
  | 0, _, _, _, hf => by cases hf
  | n + 1, v3, v5, q, hf => tX7_mixInto_b5 d σ (fX7_mixInto_l5 σ n) (fun v3 v5 q h9 => tX7_mixInto_l5 d σ n v3 v5 q h9) v3 v5 q hf
set_option maxRecDepth 20000 in
set_option maxHeartbeats 4000000 in
theorem tX7_mixInto (d : Nat) (σ : SX) (v1 : Int64) (q : Int64) (hf : fX7_mixInto σ v1 = some q) : ev_M ev_mt (d + 2) 67 [.ref 3, .long (v1)] (hX σ) (some (.long q), hX σ) := by
  refine ev_en (rt := (some .long)) (I := eiX7_mixInto) rfl (Nat.le_of_ble_eq_true rfl) ?_
  change ev_X (d + 1) _ _ (0, [some (.ref 3), some (.long (v1)), none, none, none, none], [], hX σ) _
  unfold fX7_mixInto at hf
  refine ev_go (c' := (5, [some (.ref 3), some (.long (v1)), none, some (.long (v1)), none, some (.int ((0 : Int32)))], [], hX σ)) 3 rfl ?_
  exact ev_dr (a := [some (.ref 3), none, none, some (.long (v1)), none, some (.int ((0 : Int32)))]) ⟨rfl, ⟨rfl, ⟨rfl, trivial⟩⟩⟩ (tX7_mixInto_l5 d σ 1000 v1 (0 : Int32) _ hf)
set_option maxRecDepth 20000 in
set_option maxHeartbeats 4000000 in
theorem tX8_begin (d : Nat) (σ : SX) (v1 : Int32) (v2 : Int32) (v3 : Int32) (v4 : Int32) (q : SX) (hf : fX8_begin σ v1 v2 v3 v4 = some q) : ev_M ev_mt (d + 1) 68 [.ref 17, .int (v1), .int (v2), .int (v3), .int (v4)] (hX σ) (none, hX q) := by
  refine ev_en (rt := none) (I := eiX8_begin) rfl (Nat.le_of_ble_eq_true rfl) ?_
  change ev_X d _ _ (0, [some (.ref 17), some (.int (v1)), some (.int (v2)), some (.int (v3)), some (.int (v4))], [], hX σ) _
  unfold fX8_begin at hf
  refine ev_go (c' := (2, [some (.ref 17), some (.int (v1)), some (.int (v2)), some (.int (v3)), some (.int (v4))], [.int (v1), .ref 17], hX σ)) 1 rfl ?_
  refine ev_st1 (e := (2, .putfield 19, 3, 2, 0, .null, [(8, 0)], [180])) (c' := (5, [some (.ref 17), some (.int (v1)), some (.int (v2)), some (.int (v3)), some (.int (v4))], [], hX (sx_rd_firstCell σ v1))) rfl oy_put_x_rd_firstCell ?_
  refine ev_go (c' := (7, [some (.ref 17), some (.int (v1)), some (.int (v2)), some (.int (v3)), some (.int (v4))], [.int (v2), .ref 17], hX (sx_rd_firstCell σ v1))) 1 rfl ?_
  refine ev_st1 (e := (7, .putfield 23, 3, 3, 0, .null, [(8, 0)], [181])) (c' := (10, [some (.ref 17), some (.int (v1)), some (.int (v2)), some (.int (v3)), some (.int (v4))], [], hX (sx_rd_firstWay (sx_rd_firstCell σ v1) v2))) rfl oy_put_x_rd_firstWay ?_
  refine ev_go (c' := (12, [some (.ref 17), some (.int (v1)), some (.int (v2)), some (.int (v3)), some (.int (v4))], [.int (v3), .ref 17], hX (sx_rd_firstWay (sx_rd_firstCell σ v1) v2))) 1 rfl ?_
  refine ev_st1 (e := (12, .putfield 26, 3, 4, 0, .null, [(8, 0)], [182])) (c' := (15, [some (.ref 17), some (.int (v1)), some (.int (v2)), some (.int (v3)), some (.int (v4))], [], hX (sx_rd_drift (sx_rd_firstWay (sx_rd_firstCell σ v1) v2) v3))) rfl oy_put_x_rd_drift ?_
  refine ev_go (c' := (18, [some (.ref 17), some (.int (v1)), some (.int (v2)), some (.int (v3)), some (.int (v4))], [.int (v4), .ref 17], hX (sx_rd_drift (sx_rd_firstWay (sx_rd_firstCell σ v1) v2) v3))) 1 rfl ?_
  refine ev_st1 (e := (18, .putfield 29, 3, 5, 0, .null, [(8, 0)], [183])) (c' := (21, [some (.ref 17), some (.int (v1)), some (.int (v2)), some (.int (v3)), some (.int (v4))], [], hX (sx_rd_tenths (sx_rd_drift (sx_rd_firstWay (sx_rd_firstCell σ v1) v2) v3) v4))) rfl oy_put_x_rd_tenths ?_
  cases hf
  exact ev_rt 0 rfl
set_option maxRecDepth 20000 in
set_option maxHeartbeats 4000000 in
theorem tX9_goOn (d : Nat) (σ : SX) (v0 : Nat) (v2 : Int32) (v3 : Int32) (v4 : Int32) (q : SX) (hf : fX9_goOn σ v0 v2 v3 v4 = some q) : ev_M ev_mt (d + 3) 78 [.ref v0, .ref 3, .int (v2), .int (v3), .int (v4)] (hX σ) (none, hX q) := by
  refine ev_en (rt := none) (I := eiX9_goOn) rfl (Nat.le_of_ble_eq_true rfl) ?_
  change ev_X (d + 2) _ _ (0, [some (.ref v0), some (.ref 3), some (.int (v2)), some (.int (v3)), some (.int (v4))], [], hX σ) _
  unfold fX9_goOn at hf
  obtain ⟨c1, hf⟩ := ev_hp hf
  refine ev_go (c' := (3, [some (.ref v0), some (.ref 3), some (.int (v2)), some (.int (v3)), some (.int (v4))], [.ref v0, .ref 3, .ref v0], hX σ)) 2 rfl ?_
  refine ev_st1 (e := (3, .getfield 9, 3, 2, 0, .null, [(0, 0), (1, 0), (2, 0), (6, 0), (9, 0), (10, 0)], [670, 671])) (c' := (6, [some (.ref v0), some (.ref 3), some (.int (v2)), some (.int (v3)), some (.int (v4))], [.int (((gx_pl_at σ) (v0 - 20))), .ref 3, .ref v0], hX σ)) rfl (ox_pget2 c1) ?_
  obtain ⟨r1, hr1, hf⟩ := Option.bind_eq_some_iff.mp hf
  refine ev_cli 3 (kk := 66) (as := [.ref 3, .int (((gx_pl_at σ) (v0 - 20))), .int (v2), .int (v3), .int ((-1 : Int32))]) (rest := [.ref v0]) (pc := 9) (ls := [some (.ref v0), some (.ref 3), some (.int (v2)), some (.int (v3)), some (.int (v4))]) (st := [.int ((-1 : Int32)), .int (v3), .int (v2), .int (((gx_pl_at σ) (v0 - 20))), .ref 3, .ref v0]) (h := hX σ) rfl (tX7_choose d σ ((gx_pl_at σ) (v0 - 20)) v2 v3 (-1 : Int32) r1 hr1) ?_
  obtain ⟨c2, hf⟩ := ev_hp hf
  refine ev_st1 (e := (12, .putfield 9, 3, 2, 0, .null, [(0, 0), (1, 0), (2, 0), (6, 0), (9, 0), (10, 0)], [670, 671])) (c' := (15, [some (.ref v0), some (.ref 3), some (.int (v2)), some (.int (v3)), some (.int (v4))], [], hX (sx_pl_at σ (upd (gx_pl_at σ) (v0 - 20) r1)))) rfl (ox_pput2 c2) ?_
  cases hf
  exact ev_rt 0 rfl
theorem dt_goOn (d : Nat) (σ : SX) (v0 : Nat) (v2 : Int32) (v3 : Int32) (v4 : Int32) (q : SX) (h6 : gx_pl_kd σ (v0 - 20) < 6) (hf : d_goOn σ v0 v2 v3 v4 = some q) : ∃ kk, List.lookup (ev_kc (gx_pl_kd σ (v0 - 20))) [(0, 1), (1, 49), (2, 49), (6, 49), (9, 78), (10, 78)] = some kk ∧ ev_M ev_mt (d + 3) kk [.ref v0, .ref 3, .int (v2), .int (v3), .int (v4)] (hX σ) (none, hX q) := by
  unfold d_goOn at hf
  by_cases e0 : gx_pl_kd σ (v0 - 20) = 0
  · rw [if_pos e0] at hf
    rw [e0]
    obtain ⟨r, hr, hq⟩ := Option.map_eq_some_iff.mp hf
    cases hq
    exact ⟨_, rfl, tX6_goOn (d + 2) σ v0 v2 v3 v4 r hr⟩
  rw [if_neg e0] at hf
  by_cases e1 : gx_pl_kd σ (v0 - 20) = 1
  · rw [if_pos e1] at hf
    rw [e1]
    exact ⟨_, rfl, tX9_goOn d σ v0 v2 v3 v4 q hf⟩
  rw [if_neg e1] at hf
  by_cases e2 : gx_pl_kd σ (v0 - 20) = 2
  · rw [if_pos e2] at hf
    rw [e2]
    exact ⟨_, rfl, tX9_goOn d σ v0 v2 v3 v4 q hf⟩
  rw [if_neg e2] at hf
  by_cases e3 : gx_pl_kd σ (v0 - 20) = 3
  · rw [if_pos e3] at hf
    rw [e3]
    obtain ⟨r, hr, hq⟩ := Option.map_eq_some_iff.mp hf
    cases hq
    exact ⟨_, rfl, tX6_goOn (d + 2) σ v0 v2 v3 v4 r hr⟩
  rw [if_neg e3] at hf
  by_cases e4 : gx_pl_kd σ (v0 - 20) = 4
  · rw [if_pos e4] at hf
    rw [e4]
    obtain ⟨r, hr, hq⟩ := Option.map_eq_some_iff.mp hf
    cases hq
    exact ⟨_, rfl, tX6_goOn (d + 2) σ v0 v2 v3 v4 r hr⟩
  rw [if_neg e4] at hf
  have e5 : gx_pl_kd σ (v0 - 20) = 5 := by omega
  rw [e5]
  exact ⟨_, rfl, tX0_goOn d σ v0 v2 v3 v4 q hf⟩

set_option maxRecDepth 20000 in
set_option maxHeartbeats 4000000 in
theorem tX8_playersGo_b69 (d : Nat) (k36 : SX → Int32 → Int32 → Int32 → Option (SX)) (hk36 : ∀ (σ : SX) (v1 : Int32) (v2 : Int32) (v5 : Int32) (q : SX), k36 σ v1 v2 v5 = some q → ev_X (d + 3) none eiX8_playersGo (36, [some (.ref 17), some (.int (v1)), some (.int (v2)), some (.ref 16), some (.int ((6 : Int32))), some (.int (v5)), none], [], hX σ) (none, hX q)) (σ : SX) (v1 : Int32) (v2 : Int32) (v5 : Int32) (q : SX) (hf : fX8_playersGo_b69 k36 σ v1 v2 v5 = some q) : ev_X (d + 3) none eiX8_playersGo (69, [some (.ref 17), some (.int (v1)), some (.int (v2)), some (.ref 16), some (.int ((6 : Int32))), some (.int (v5)), none], [], hX σ) (none, hX q) := by
  unfold fX8_playersGo_b69 at hf
  refine ev_go (c' := (36, [some (.ref 17), some (.int (v1)), some (.int (v2)), some (.ref 16), some (.int ((6 : Int32))), some (.int ((v5 + (1 : Int32)))), none], [], hX σ)) 1 rfl ?_
  exact ev_dr (a := [some (.ref 17), some (.int (v1)), some (.int (v2)), some (.ref 16), some (.int ((6 : Int32))), some (.int ((v5 + (1 : Int32)))), none]) ⟨rfl, ⟨rfl, ⟨rfl, ⟨rfl, ⟨rfl, ⟨rfl, trivial⟩⟩⟩⟩⟩⟩ (hk36 σ v1 v2 (v5 + (1 : Int32)) _ hf)
set_option maxRecDepth 20000 in
set_option maxHeartbeats 4000000 in
theorem tX8_playersGo_b36 (d : Nat) (k36 : SX → Int32 → Int32 → Int32 → Option (SX)) (hk36 : ∀ (σ : SX) (v1 : Int32) (v2 : Int32) (v5 : Int32) (q : SX), k36 σ v1 v2 v5 = some q → ev_X (d + 3) none eiX8_playersGo (36, [some (.ref 17), some (.int (v1)), some (.int (v2)), some (.ref 16), some (.int ((6 : Int32))), some (.int (v5)), none], [], hX σ) (none, hX q)) (σ : SX) (v1 : Int32) (v2 : Int32) (v5 : Int32) (q : SX) (hf : fX8_playersGo_b36 k36 σ v1 v2 v5 = some q) : ev_X (d + 3) none eiX8_playersGo (36, [some (.ref 17), some (.int (v1)), some (.int (v2)), some (.ref 16), some (.int ((6 : Int32))), some (.int (v5)), none], [], hX σ) (none, hX q) := by
  unfold fX8_playersGo_b36 at hf
  refine ev_br 2 (P := v5 < (6 : Int32)) (a := 43) (b := 75) (ls := [some (.ref 17), some (.int (v1)), some (.int (v2)), some (.ref 16), some (.int ((6 : Int32))), some (.int (v5)), none]) (st := []) (h := hX σ) rfl (fun c1 => ?_) (fun c1 => ?_)
  · rw [if_pos c1] at hf
    obtain ⟨c2, hf⟩ := ev_hp hf
    refine ev_ck 2 (P := ¬ (v5 < 0 ∨ 6 ≤ v5.toNatClampNeg)) (c' := (47, [some (.ref 17), some (.int (v1)), some (.int (v2)), some (.ref 16), some (.int ((6 : Int32))), some (.int (v5)), none], [va_rf (((gx_pl_arr σ) v5.toNatClampNeg))], hX σ)) rfl c2 ?_
    rcases hc3 : ((gx_pl_arr σ) v5.toNatClampNeg) with _ | a3
    · rw [hc3] at hf
      simp only [ev_q] at hf
      change ev_X (d + 3) _ _ (47, [some (.ref 17), some (.int (v1)), some (.int (v2)), some (.ref 16), some (.int ((6 : Int32))), some (.int (v5)), none], [.null], hX σ) _
      refine ev_go (c' := (69, [some (.ref 17), some (.int (v1)), some (.int (v2)), some (.ref 16), some (.int ((6 : Int32))), some (.int (v5)), some (.null)], [], hX σ)) 2 rfl ?_
      exact ev_dr (a := [some (.ref 17), some (.int (v1)), some (.int (v2)), some (.ref 16), some (.int ((6 : Int32))), some (.int (v5)), none]) ⟨rfl, ⟨rfl, ⟨rfl, ⟨rfl, ⟨rfl, ⟨rfl, trivial⟩⟩⟩⟩⟩⟩ (tX8_playersGo_b69 d k36 hk36 σ v1 v2 v5 _ hf)
    · rw [hc3] at hf
      simp only [ev_q] at hf
      change ev_X (d + 3) _ _ (47, [some (.ref 17), some (.int (v1)), some (.int (v2)), some (.ref 16), some (.int ((6 : Int32))), some (.int (v5)), none], [.ref a3], hX σ) _
      obtain ⟨c4, hf⟩ := ev_hp hf
      obtain ⟨r4, hr4, hf⟩ := Option.bind_eq_some_iff.mp hf
      refine ev_go (c' := (66, [some (.ref 17), some (.int (v1)), some (.int (v2)), some (.ref 16), some (.int ((6 : Int32))), some (.int (v5)), some (.ref a3)], [.int ((gx_rd_hisWay σ)), .int (v2), .int (v1), .ref 3, .ref a3], hX σ)) 9 rfl ?_
      obtain ⟨kk, hk, hm⟩ := dt_goOn d σ a3 v1 v2 (gx_rd_hisWay σ) r4 (ox_kd c4) hr4
      refine ev_cl1 (e := (66, .invokevirtual 91, 3, 4, 0, .null, [(0, 1), (1, 49), (2, 49), (6, 49), (9, 78), (10, 78)], [828, 831, 832, 833, 76, 829, 854, 0, 828, 831, 847, 829, 71, 0, 0, 0, 828, 831, 848, 829, 71, 0, 0, 0, 828, 829, 830, 71, 0, 0, 0, 0, 828, 831, 849, 850, 72, 829, 854, 0, 828, 831, 853, 850, 72, 829, 854, 0])) rfl (ox_inv4 (ev_cat_ok := Nat.le_of_ble_eq_true rfl) c4 hk) hm ?_
      change ev_X (d + 3) _ _ (69, [some (.ref 17), some (.int (v1)), some (.int (v2)), some (.ref 16), some (.int ((6 : Int32))), some (.int (v5)), some (.ref a3)], [], hX r4) _
      exact ev_dr (a := [some (.ref 17), some (.int (v1)), some (.int (v2)), some (.ref 16), some (.int ((6 : Int32))), some (.int (v5)), none]) ⟨rfl, ⟨rfl, ⟨rfl, ⟨rfl, ⟨rfl, ⟨rfl, trivial⟩⟩⟩⟩⟩⟩ (tX8_playersGo_b69 d k36 hk36 r4 v1 v2 v5 _ hf)
  · rw [if_neg c1] at hf
    cases hf
    exact ev_rt 0 rfl
theorem tX8_playersGo_l36 (d : Nat) : ∀ (n : Nat) (σ : SX) (v1 : Int32) (v2 : Int32) (v5 : Int32) (q : SX), fX8_playersGo_l36 n σ v1 v2 v5 = some q → ev_X (d + 3) none eiX8_playersGo (36, [some (.ref 17), some (.int (v1)), some (.int (v2)), some (.ref 16), some (.int ((6 : Int32))), some (.int (v5)), none], [], hX σ) (none, hX q)
  | 0, _, _, _, _, _, hf => by cases hf
  | n + 1, σ, v1, v2, v5, q, hf => tX8_playersGo_b36 d (fX8_playersGo_l36 n) (fun σ v1 v2 v5 q h9 => tX8_playersGo_l36 d n σ v1 v2 v5 q h9) σ v1 v2 v5 q hf
set_option maxRecDepth 20000 in
set_option maxHeartbeats 4000000 in
theorem tX8_playersGo (d : Nat) (σ : SX) (q : SX) (hf : fX8_playersGo σ = some q) : ev_M ev_mt (d + 4) 73 [.ref 17] (hX σ) (none, hX q) := by
  refine ev_en (rt := none) (I := eiX8_playersGo) rfl (Nat.le_of_ble_eq_true rfl) ?_
  change ev_X (d + 3) _ _ (0, [some (.ref 17), none, none, none, none, none, none], [], hX σ) _
  unfold fX8_playersGo at hf
  obtain ⟨r1, hr1, hf⟩ := Option.bind_eq_some_iff.mp hf
  refine ev_cli 4 (kk := 62) (as := [.ref 3, .int ((gx_rd_hisCell σ))]) (rest := []) (pc := 8) (ls := [some (.ref 17), none, none, none, none, none, none]) (st := [.int ((gx_rd_hisCell σ)), .ref 3]) (h := hX σ) rfl (tX7_rowOf (d + 2) σ (gx_rd_hisCell σ) r1 hr1) ?_
  obtain ⟨r2, hr2, hf⟩ := Option.bind_eq_some_iff.mp hf
  refine ev_cli 5 (kk := 63) (as := [.ref 3, .int ((gx_rd_hisCell σ))]) (rest := []) (pc := 20) (ls := [some (.ref 17), some (.int (r1)), none, none, none, none, none]) (st := [.int ((gx_rd_hisCell σ)), .ref 3]) (h := hX σ) rfl (tX7_columnOf (d + 2) σ (gx_rd_hisCell σ) r2 hr2) ?_
  refine ev_go (c' := (36, [some (.ref 17), some (.int (r1)), some (.int (r2)), some (.ref 16), some (.int ((6 : Int32))), some (.int ((0 : Int32))), none], [], hX σ)) 8 rfl ?_
  exact ev_dr (a := [some (.ref 17), some (.int (r1)), some (.int (r2)), some (.ref 16), some (.int ((6 : Int32))), some (.int ((0 : Int32))), none]) ⟨rfl, ⟨rfl, ⟨rfl, ⟨rfl, ⟨rfl, ⟨rfl, trivial⟩⟩⟩⟩⟩⟩ (tX8_playersGo_l36 d 1000 σ r1 r2 (0 : Int32) _ hf)
theorem dt_callsFrom (d : Nat) (σ : SX) (v0 : Nat) (q : Int32) (h6 : gx_pl_kd σ (v0 - 20) < 6) (hf : d_callsFrom σ v0 = some q) : ∃ kk, List.lookup (ev_kc (gx_pl_kd σ (v0 - 20))) [(0, 50), (1, 3), (2, 5), (6, 50), (9, 50), (10, 50)] = some kk ∧ ev_M ev_mt (d + 1) kk [.ref v0, .ref 3] (hX σ) (some (.int q), hX σ) := by
  unfold d_callsFrom at hf
  by_cases e0 : gx_pl_kd σ (v0 - 20) = 0
  · rw [if_pos e0] at hf
    rw [e0]
    exact ⟨_, rfl, tX6_callsFrom d σ v0 q hf⟩
  rw [if_neg e0] at hf
  by_cases e1 : gx_pl_kd σ (v0 - 20) = 1
  · rw [if_pos e1] at hf
    rw [e1]
    exact ⟨_, rfl, tX6_callsFrom d σ v0 q hf⟩
  rw [if_neg e1] at hf
  by_cases e2 : gx_pl_kd σ (v0 - 20) = 2
  · rw [if_pos e2] at hf
    rw [e2]
    exact ⟨_, rfl, tX6_callsFrom d σ v0 q hf⟩
  rw [if_neg e2] at hf
  by_cases e3 : gx_pl_kd σ (v0 - 20) = 3
  · rw [if_pos e3] at hf
    rw [e3]
    exact ⟨_, rfl, tX1_callsFrom d σ v0 q hf⟩
  rw [if_neg e3] at hf
  by_cases e4 : gx_pl_kd σ (v0 - 20) = 4
  · rw [if_pos e4] at hf
    rw [e4]
    exact ⟨_, rfl, tX2_callsFrom d σ v0 q hf⟩
  rw [if_neg e4] at hf
  have e5 : gx_pl_kd σ (v0 - 20) = 5 := by omega
  rw [e5]
  exact ⟨_, rfl, tX6_callsFrom d σ v0 q hf⟩

set_option maxRecDepth 20000 in
set_option maxHeartbeats 4000000 in
theorem tX8_lookToCall_b140 (d : Nat) (σ : SX) (q : SX) (hf : fX8_lookToCall_b140 σ = some q) : ev_X (d + 2) none eiX8_lookToCall (140, [none, none, none, none, none, none, none, none, none], [], hX σ) (none, hX q) := by
  unfold fX8_lookToCall_b140 at hf
  cases hf
  exact ev_rt 0 rfl
set_option maxRecDepth 20000 in
set_option maxHeartbeats 4000000 in
theorem tX8_lookToCall_b105 (d : Nat) (k16 : SX → Int32 → Int32 → Int32 → Option (SX)) (hk16 : ∀ (σ : SX) (v1 : Int32) (v2 : Int32) (v5 : Int32) (q : SX), k16 σ v1 v2 v5 = some q → ev_X (d + 2) none eiX8_lookToCall (16, [some (.ref 17), some (.int (v1)), some (.int (v2)), some (.ref 16), some (.int ((6 : Int32))), some (.int (v5)), none, none, none], [], hX σ) (none, hX q)) (σ : SX) (v1 : Int32) (v2 : Int32) (v5 : Int32) (q : SX) (hf : fX8_lookToCall_b105 k16 σ v1 v2 v5 = some q) : ev_X (d + 2) none eiX8_lookToCall (105, [some (.ref 17), some (.int (v1)), some (.int (v2)), some (.ref 16), some (.int ((6 : Int32))), some (.int (v5)), none, none, none], [], hX σ) (none, hX q) := by
  unfold fX8_lookToCall_b105 at hf
  refine ev_go (c' := (16, [some (.ref 17), some (.int (v1)), some (.int (v2)), some (.ref 16), some (.int ((6 : Int32))), some (.int ((v5 + (1 : Int32)))), none, none, none], [], hX σ)) 1 rfl ?_
  exact ev_dr (a := [some (.ref 17), some (.int (v1)), some (.int (v2)), some (.ref 16), some (.int ((6 : Int32))), some (.int ((v5 + (1 : Int32)))), none, none, none]) ⟨rfl, ⟨rfl, ⟨rfl, ⟨rfl, ⟨rfl, ⟨rfl, trivial⟩⟩⟩⟩⟩⟩ (hk16 σ v1 v2 (v5 + (1 : Int32)) _ hf)
set_option maxRecDepth 20000 in
set_option maxHeartbeats 4000000 in
theorem tX8_lookToCall_b99 (d : Nat) (k16 : SX → Int32 → Int32 → Int32 → Option (SX)) (hk16 : ∀ (σ : SX) (v1 : Int32) (v2 : Int32) (v5 : Int32) (q : SX), k16 σ v1 v2 v5 = some q → ev_X (d + 2) none eiX8_lookToCall (16, [some (.ref 17), some (.int (v1)), some (.int (v2)), some (.ref 16), some (.int ((6 : Int32))), some (.int (v5)), none, none, none], [], hX σ) (none, hX q)) (σ : SX) (v5 : Int32) (v7 : Int32) (v8 : Int32) (q : SX) (hf : fX8_lookToCall_b99 k16 σ v5 v7 v8 = some q) : ev_X (d + 2) none eiX8_lookToCall (99, [some (.ref 17), none, none, some (.ref 16), some (.int ((6 : Int32))), some (.int (v5)), none, some (.int (v7)), some (.int (v8))], [], hX σ) (none, hX q) := by
  unfold fX8_lookToCall_b99 at hf
  refine ev_go (c' := (105, [some (.ref 17), some (.int (v7)), some (.int (v8)), some (.ref 16), some (.int ((6 : Int32))), some (.int (v5)), none, some (.int (v7)), some (.int (v8))], [], hX σ)) 3 rfl ?_
  exact ev_dr (a := [some (.ref 17), some (.int (v7)), some (.int (v8)), some (.ref 16), some (.int ((6 : Int32))), some (.int (v5)), none, none, none]) ⟨rfl, ⟨rfl, ⟨rfl, ⟨rfl, ⟨rfl, ⟨rfl, trivial⟩⟩⟩⟩⟩⟩ (tX8_lookToCall_b105 d k16 hk16 σ v7 v8 v5 _ hf)
set_option maxRecDepth 20000 in
set_option maxHeartbeats 4000000 in
theorem tX8_lookToCall_b47 (d : Nat) (k16 : SX → Int32 → Int32 → Int32 → Option (SX)) (hk16 : ∀ (σ : SX) (v1 : Int32) (v2 : Int32) (v5 : Int32) (q : SX), k16 σ v1 v2 v5 = some q → ev_X (d + 2) none eiX8_lookToCall (16, [some (.ref 17), some (.int (v1)), some (.int (v2)), some (.ref 16), some (.int ((6 : Int32))), some (.int (v5)), none, none, none], [], hX σ) (none, hX q)) (σ : SX) (v1 : Int32) (v2 : Int32) (v5 : Int32) (w0 : Int32) (q : SX) (hf : fX8_lookToCall_b47 k16 σ v1 v2 v5 w0 = some q) : ev_X (d + 2) none eiX8_lookToCall (47, [some (.ref 17), some (.int (v1)), some (.int (v2)), some (.ref 16), some (.int ((6 : Int32))), some (.int (v5)), none, none, none], [.int (w0)], hX σ) (none, hX q) := by
  unfold fX8_lookToCall_b47 at hf
  refine ev_br 3 (P := w0 = (-1 : Int32)) (a := 105) (b := 55) (ls := [some (.ref 17), some (.int (v1)), some (.int (v2)), some (.ref 16), some (.int ((6 : Int32))), some (.int (v5)), none, some (.int (w0)), none]) (st := []) (h := hX σ) rfl (fun c1 => ?_) (fun c1 => ?_)
  · rw [if_pos c1] at hf
    exact ev_dr (a := [some (.ref 17), some (.int (v1)), some (.int (v2)), some (.ref 16), some (.int ((6 : Int32))), some (.int (v5)), none, none, none]) ⟨rfl, ⟨rfl, ⟨rfl, ⟨rfl, ⟨rfl, ⟨rfl, trivial⟩⟩⟩⟩⟩⟩ (tX8_lookToCall_b105 d k16 hk16 σ v1 v2 v5 _ hf)
  · rw [if_neg c1] at hf
    obtain ⟨r1, hr1, hf⟩ := Option.bind_eq_some_iff.mp hf
    refine ev_cli 7 (kk := 62) (as := [.ref 3, .int ((gx_rd_hisCell σ))]) (rest := [.int (w0), .ref 3]) (pc := 69) (ls := [some (.ref 17), some (.int (v1)), some (.int (v2)), some (.ref 16), some (.int ((6 : Int32))), some (.int (v5)), none, some (.int (w0)), none]) (st := [.int ((gx_rd_hisCell σ)), .ref 3, .int (w0), .ref 3]) (h := hX σ) rfl (tX7_rowOf (d + 1) σ (gx_rd_hisCell σ) r1 hr1) ?_
    obtain ⟨r2, hr2, hf⟩ := Option.bind_eq_some_iff.mp hf
    refine ev_cli 4 (kk := 63) (as := [.ref 3, .int ((gx_rd_hisCell σ))]) (rest := [.int (r1), .int (w0), .ref 3]) (pc := 80) (ls := [some (.ref 17), some (.int (v1)), some (.int (v2)), some (.ref 16), some (.int ((6 : Int32))), some (.int (v5)), none, some (.int (w0)), none]) (st := [.int ((gx_rd_hisCell σ)), .ref 3, .int (r1), .int (w0), .ref 3]) (h := hX σ) rfl (tX7_columnOf (d + 1) σ (gx_rd_hisCell σ) r2 hr2) ?_
    obtain ⟨r3, hr3, hf⟩ := Option.bind_eq_some_iff.mp hf
    refine ev_cli 0 (kk := 64) (as := [.ref 3, .int (w0), .int (r1), .int (r2)]) (rest := []) (pc := 83) (ls := [some (.ref 17), some (.int (v1)), some (.int (v2)), some (.ref 16), some (.int ((6 : Int32))), some (.int (v5)), none, some (.int (w0)), none]) (st := [.int (r2), .int (r1), .int (w0), .ref 3]) (h := hX σ) rfl (tX7_apart (d + 1) σ w0 r1 r2 r3 hr3) ?_
    refine ev_br 3 (P := v1 = (-1 : Int32)) (a := 99) (b := 93) (ls := [some (.ref 17), some (.int (v1)), some (.int (v2)), some (.ref 16), some (.int ((6 : Int32))), some (.int (v5)), none, some (.int (w0)), some (.int (r3))]) (st := []) (h := hX σ) rfl (fun c2 => ?_) (fun c2 => ?_)
    · rw [if_pos c2] at hf
      exact ev_dr (a := [some (.ref 17), none, none, some (.ref 16), some (.int ((6 : Int32))), some (.int (v5)), none, some (.int (w0)), some (.int (r3))]) ⟨rfl, ⟨rfl, ⟨rfl, ⟨rfl, ⟨rfl, ⟨rfl, trivial⟩⟩⟩⟩⟩⟩ (tX8_lookToCall_b99 d k16 hk16 σ v5 w0 r3 _ hf)
    · rw [if_neg c2] at hf
      refine ev_br 2 (P := r3 < v2) (a := 99) (b := 105) (ls := [some (.ref 17), some (.int (v1)), some (.int (v2)), some (.ref 16), some (.int ((6 : Int32))), some (.int (v5)), none, some (.int (w0)), some (.int (r3))]) (st := []) (h := hX σ) rfl (fun c3 => ?_) (fun c3 => ?_)
      · rw [if_pos c3] at hf
        exact ev_dr (a := [some (.ref 17), none, none, some (.ref 16), some (.int ((6 : Int32))), some (.int (v5)), none, some (.int (w0)), some (.int (r3))]) ⟨rfl, ⟨rfl, ⟨rfl, ⟨rfl, ⟨rfl, ⟨rfl, trivial⟩⟩⟩⟩⟩⟩ (tX8_lookToCall_b99 d k16 hk16 σ v5 w0 r3 _ hf)
      · rw [if_neg c3] at hf
        exact ev_dr (a := [some (.ref 17), some (.int (v1)), some (.int (v2)), some (.ref 16), some (.int ((6 : Int32))), some (.int (v5)), none, none, none]) ⟨rfl, ⟨rfl, ⟨rfl, ⟨rfl, ⟨rfl, ⟨rfl, trivial⟩⟩⟩⟩⟩⟩ (tX8_lookToCall_b105 d k16 hk16 σ v1 v2 v5 _ hf)
set_option maxRecDepth 20000 in
set_option maxHeartbeats 4000000 in
theorem tX8_lookToCall_b16 (d : Nat) (k16 : SX → Int32 → Int32 → Int32 → Option (SX)) (hk16 : ∀ (σ : SX) (v1 : Int32) (v2 : Int32) (v5 : Int32) (q : SX), k16 σ v1 v2 v5 = some q → ev_X (d + 2) none eiX8_lookToCall (16, [some (.ref 17), some (.int (v1)), some (.int (v2)), some (.ref 16), some (.int ((6 : Int32))), some (.int (v5)), none, none, none], [], hX σ) (none, hX q)) (σ : SX) (v1 : Int32) (v2 : Int32) (v5 : Int32) (q : SX) (hf : fX8_lookToCall_b16 k16 σ v1 v2 v5 = some q) : ev_X (d + 2) none eiX8_lookToCall (16, [some (.ref 17), some (.int (v1)), some (.int (v2)), some (.ref 16), some (.int ((6 : Int32))), some (.int (v5)), none, none, none], [], hX σ) (none, hX q) := by
  unfold fX8_lookToCall_b16 at hf
  refine ev_br 2 (P := v5 < (6 : Int32)) (a := 23) (b := 111) (ls := [some (.ref 17), some (.int (v1)), some (.int (v2)), some (.ref 16), some (.int ((6 : Int32))), some (.int (v5)), none, none, none]) (st := []) (h := hX σ) rfl (fun c1 => ?_) (fun c1 => ?_)
  · rw [if_pos c1] at hf
    obtain ⟨c2, hf⟩ := ev_hp hf
    refine ev_ck 2 (P := ¬ (v5 < 0 ∨ 6 ≤ v5.toNatClampNeg)) (c' := (27, [some (.ref 17), some (.int (v1)), some (.int (v2)), some (.ref 16), some (.int ((6 : Int32))), some (.int (v5)), none, none, none], [va_rf (((gx_pl_arr σ) v5.toNatClampNeg))], hX σ)) rfl c2 ?_
    rcases hc3 : ((gx_pl_arr σ) v5.toNatClampNeg) with _ | a4
    · rw [hc3] at hf
      simp only [ev_q] at hf
      change ev_X (d + 2) _ _ (27, [some (.ref 17), some (.int (v1)), some (.int (v2)), some (.ref 16), some (.int ((6 : Int32))), some (.int (v5)), none, none, none], [.null], hX σ) _
      refine ev_go (c' := (47, [some (.ref 17), some (.int (v1)), some (.int (v2)), some (.ref 16), some (.int ((6 : Int32))), some (.int (v5)), some (.null), none, none], [.int ((-1 : Int32))], hX σ)) 4 rfl ?_
      exact ev_dr (a := [some (.ref 17), some (.int (v1)), some (.int (v2)), some (.ref 16), some (.int ((6 : Int32))), some (.int (v5)), none, none, none]) ⟨rfl, ⟨rfl, ⟨rfl, ⟨rfl, ⟨rfl, ⟨rfl, trivial⟩⟩⟩⟩⟩⟩ (tX8_lookToCall_b47 d k16 hk16 σ v1 v2 v5 (-1 : Int32) _ hf)
    · rw [hc3] at hf
      simp only [ev_q] at hf
      change ev_X (d + 2) _ _ (27, [some (.ref 17), some (.int (v1)), some (.int (v2)), some (.ref 16), some (.int ((6 : Int32))), some (.int (v5)), none, none, none], [.ref a4], hX σ) _
      obtain ⟨c4, hf⟩ := ev_hp hf
      obtain ⟨r5, hr5, hf⟩ := Option.bind_eq_some_iff.mp hf
      refine ev_go (c' := (44, [some (.ref 17), some (.int (v1)), some (.int (v2)), some (.ref 16), some (.int ((6 : Int32))), some (.int (v5)), some (.ref a4), none, none], [.ref 3, .ref a4], hX σ)) 5 rfl ?_
      obtain ⟨kk, hk, hm⟩ := dt_callsFrom (d + 1) σ a4 r5 (ox_kd c4) hr5
      refine ev_cl1 (e := (44, .invokevirtual 95, 3, 1, 0, .null, [(0, 50), (1, 3), (2, 5), (6, 50), (9, 50), (10, 50)], [859, 862, 863, 860, 71, 0, 0, 0, 859, 862, 864, 865, 74, 860, 872, 0, 859, 862, 867, 868, 75, 860, 872, 0, 859, 860, 861, 71, 0, 0, 0, 0, 859, 862, 870, 860, 71, 0, 0, 0, 859, 862, 871, 860, 71, 0, 0, 0])) rfl (ox_inv1 (ev_cat_ok := Nat.le_of_ble_eq_true rfl) c4 hk) hm ?_
      change ev_X (d + 2) _ _ (47, [some (.ref 17), some (.int (v1)), some (.int (v2)), some (.ref 16), some (.int ((6 : Int32))), some (.int (v5)), some (.ref a4), none, none], [.int (r5)], hX σ) _
      exact ev_dr (a := [some (.ref 17), some (.int (v1)), some (.int (v2)), some (.ref 16), some (.int ((6 : Int32))), some (.int (v5)), none, none, none]) ⟨rfl, ⟨rfl, ⟨rfl, ⟨rfl, ⟨rfl, ⟨rfl, trivial⟩⟩⟩⟩⟩⟩ (tX8_lookToCall_b47 d k16 hk16 σ v1 v2 v5 r5 _ hf)
  · rw [if_neg c1] at hf
    refine ev_br 2 (P := v1 = (-1 : Int32)) (a := 140) (b := 116) (ls := [some (.ref 17), some (.int (v1)), some (.int (v2)), some (.ref 16), some (.int ((6 : Int32))), some (.int (v5)), none, none, none]) (st := []) (h := hX σ) rfl (fun c5 => ?_) (fun c5 => ?_)
    · rw [if_pos c5] at hf
      exact ev_dr (a := [none, none, none, none, none, none, none, none, none]) trivial (tX8_lookToCall_b140 d σ  _ hf)
    · rw [if_neg c5] at hf
      refine ev_br 3 (P := v1 = (gx_rd_hisCell σ)) (a := 140) (b := 124) (ls := [some (.ref 17), some (.int (v1)), some (.int (v2)), some (.ref 16), some (.int ((6 : Int32))), some (.int (v5)), none, none, none]) (st := []) (h := hX σ) rfl (fun c6 => ?_) (fun c6 => ?_)
      · rw [if_pos c6] at hf
        exact ev_dr (a := [none, none, none, none, none, none, none, none, none]) trivial (tX8_lookToCall_b140 d σ  _ hf)
      · rw [if_neg c6] at hf
        obtain ⟨r6, hr6, hf⟩ := Option.bind_eq_some_iff.mp hf
        refine ev_cli 6 (kk := 65) (as := [.ref 3, .int ((gx_rd_hisCell σ)), .int (v1)]) (rest := [.ref 17]) (pc := 134) (ls := [some (.ref 17), some (.int (v1)), some (.int (v2)), some (.ref 16), some (.int ((6 : Int32))), some (.int (v5)), none, none, none]) (st := [.int (v1), .int ((gx_rd_hisCell σ)), .ref 3, .ref 17]) (h := hX σ) rfl (tX7_wayTo d σ (gx_rd_hisCell σ) v1 r6 hr6) ?_
        refine ev_st1 (e := (137, .putfield 39, 3, 7, 0, .null, [(8, 0)], [185])) (c' := (140, [some (.ref 17), some (.int (v1)), some (.int (v2)), some (.ref 16), some (.int ((6 : Int32))), some (.int (v5)), none, none, none], [], hX (sx_rd_hisWay σ r6))) rfl oy_put_x_rd_hisWay ?_
        exact ev_dr (a := [none, none, none, none, none, none, none, none, none]) trivial (tX8_lookToCall_b140 d (sx_rd_hisWay σ r6)  _ hf)
theorem tX8_lookToCall_l16 (d : Nat) : ∀ (n : Nat) (σ : SX) (v1 : Int32) (v2 : Int32) (v5 : Int32) (q : SX), fX8_lookToCall_l16 n σ v1 v2 v5 = some q → ev_X (d + 2) none eiX8_lookToCall (16, [some (.ref 17), some (.int (v1)), some (.int (v2)), some (.ref 16), some (.int ((6 : Int32))), some (.int (v5)), none, none, none], [], hX σ) (none, hX q)
  | 0, _, _, _, _, _, hf => by cases hf
  | n + 1, σ, v1, v2, v5, q, hf => tX8_lookToCall_b16 d (fX8_lookToCall_l16 n) (fun σ v1 v2 v5 q h9 => tX8_lookToCall_l16 d n σ v1 v2 v5 q h9) σ v1 v2 v5 q hf
set_option maxRecDepth 20000 in
set_option maxHeartbeats 4000000 in
theorem tX8_lookToCall (d : Nat) (σ : SX) (q : SX) (hf : fX8_lookToCall σ = some q) : ev_M ev_mt (d + 3) 74 [.ref 17] (hX σ) (none, hX q) := by
  refine ev_en (rt := none) (I := eiX8_lookToCall) rfl (Nat.le_of_ble_eq_true rfl) ?_
  change ev_X (d + 2) _ _ (0, [some (.ref 17), none, none, none, none, none, none, none, none], [], hX σ) _
  unfold fX8_lookToCall at hf
  refine ev_go (c' := (16, [some (.ref 17), some (.int ((-1 : Int32))), some (.int ((0 : Int32))), some (.ref 16), some (.int ((6 : Int32))), some (.int ((0 : Int32))), none, none, none], [], hX σ)) 11 rfl ?_
  exact ev_dr (a := [some (.ref 17), some (.int ((-1 : Int32))), some (.int ((0 : Int32))), some (.ref 16), some (.int ((6 : Int32))), some (.int ((0 : Int32))), none, none, none]) ⟨rfl, ⟨rfl, ⟨rfl, ⟨rfl, ⟨rfl, ⟨rfl, trivial⟩⟩⟩⟩⟩⟩ (tX8_lookToCall_l16 d 1000 σ (-1 : Int32) (0 : Int32) (0 : Int32) _ hf)
set_option maxRecDepth 20000 in
set_option maxHeartbeats 4000000 in
theorem tX8_draw (d : Nat) (σ : SX) (q : Int32 × SX) (hf : fX8_draw σ = some q) : ev_M ev_mt (d + 1) 72 [.ref 17] (hX σ) (some (.int q.1), hX q.2) := by
  refine ev_en (rt := (some .int)) (I := eiX8_draw) rfl (Nat.le_of_ble_eq_true rfl) ?_
  change ev_X d _ _ (0, [some (.ref 17)], [], hX σ) _
  unfold fX8_draw at hf
  refine ev_go (c' := (17, [some (.ref 17)], [.long (((((1103515245 : Int64) * (gx_rd_seed σ)) + (12345 : Int64)) &&& (2147483647 : Int64))), .ref 17], hX σ)) 8 rfl ?_
  refine ev_st1 (e := (17, .putfield 32, 3, 10, 1, .null, [(8, 0)], [188])) (c' := (20, [some (.ref 17)], [], hX (sx_rd_seed σ ((((1103515245 : Int64) * (gx_rd_seed σ)) + (12345 : Int64)) &&& (2147483647 : Int64))))) rfl oy_put_x_rd_seed ?_
  cases hf
  exact ev_rt 7 rfl
set_option maxRecDepth 20000 in
set_option maxHeartbeats 4000000 in
theorem tX8_heGoes_b70 (d : Nat) (σ : SX) (q : SX) (hf : fX8_heGoes_b70 σ = some q) : ev_X (d + 1) none eiX8_heGoes (70, [none, none], [], hX σ) (none, hX q) := by
  unfold fX8_heGoes_b70 at hf
  cases hf
  exact ev_rt 0 rfl
set_option maxRecDepth 20000 in
set_option maxHeartbeats 4000000 in
theorem tX8_heGoes_b23 (d : Nat) (σ : SX) (q : SX) (hf : fX8_heGoes_b23 σ = some q) : ev_X (d + 1) none eiX8_heGoes (23, [some (.ref 17), none], [], hX σ) (none, hX q) := by
  unfold fX8_heGoes_b23 at hf
  obtain ⟨r2, hr2, hf⟩ := Option.bind_eq_some_iff.mp hf
  refine ev_cli 6 (kk := 61) (as := [.ref 3, .int ((gx_rd_hisCell σ)), .int ((gx_rd_hisWay σ))]) (rest := []) (pc := 35) (ls := [some (.ref 17), none]) (st := [.int ((gx_rd_hisWay σ)), .int ((gx_rd_hisCell σ)), .ref 3]) (h := hX σ) rfl (tX7_ahead d σ (gx_rd_hisCell σ) (gx_rd_hisWay σ) r2 hr2) ?_
  obtain ⟨r3, hr3, hf⟩ := Option.bind_eq_some_iff.mp hf
  refine ev_cli 4 (kk := 59) (as := [.ref 3, .int (r2)]) (rest := []) (pc := 44) (ls := [some (.ref 17), some (.int (r2))]) (st := [.int (r2), .ref 3]) (h := hX σ) rfl (tX7_isFree d σ r2 r3 hr3) ?_
  refine ev_br 0 (P := r3 = 0) (a := 58) (b := 50) (ls := [some (.ref 17), some (.int (r2))]) (st := []) (h := hX σ) rfl (fun c1 => ?_) (fun c1 => ?_)
  · rw [if_pos c1] at hf
    refine ev_go (c' := (67, [some (.ref 17), some (.int (r2))], [.int ((((gx_rd_hisWay σ) + (1 : Int32)) &&& (3 : Int32))), .ref 17], hX σ)) 6 rfl ?_
    refine ev_st1 (e := (67, .putfield 39, 3, 7, 0, .null, [(8, 0)], [185])) (c' := (70, [some (.ref 17), some (.int (r2))], [], hX (sx_rd_hisWay σ (((gx_rd_hisWay σ) + (1 : Int32)) &&& (3 : Int32))))) rfl oy_put_x_rd_hisWay ?_
    exact ev_dr (a := [none, none]) trivial (tX8_heGoes_b70 d (sx_rd_hisWay σ (((gx_rd_hisWay σ) + (1 : Int32)) &&& (3 : Int32)))  _ hf)
  · rw [if_neg c1] at hf
    refine ev_go (c' := (52, [some (.ref 17), some (.int (r2))], [.int (r2), .ref 17], hX σ)) 1 rfl ?_
    refine ev_st1 (e := (52, .putfield 36, 3, 6, 0, .null, [(8, 0)], [184])) (c' := (55, [some (.ref 17), some (.int (r2))], [], hX (sx_rd_hisCell σ r2))) rfl oy_put_x_rd_hisCell ?_
    refine ev_go (c' := (70, [some (.ref 17), some (.int (r2))], [], hX (sx_rd_hisCell σ r2))) 0 rfl ?_
    exact ev_dr (a := [none, none]) trivial (tX8_heGoes_b70 d (sx_rd_hisCell σ r2)  _ hf)
set_option maxRecDepth 20000 in
set_option maxHeartbeats 4000000 in
theorem tX8_heGoes (d : Nat) (σ : SX) (q : SX) (hf : fX8_heGoes σ = some q) : ev_M ev_mt (d + 2) 75 [.ref 17] (hX σ) (none, hX q) := by
  refine ev_en (rt := none) (I := eiX8_heGoes) rfl (Nat.le_of_ble_eq_true rfl) ?_
  change ev_X (d + 1) _ _ (0, [some (.ref 17), none], [], hX σ) _
  unfold fX8_heGoes at hf
  obtain ⟨r1, hr1, hf⟩ := Option.bind_eq_some_iff.mp hf
  refine ev_cli 1 (kk := 72) (as := [.ref 17]) (rest := []) (pc := 1) (ls := [some (.ref 17), none]) (st := [.ref 17]) (h := hX σ) rfl (tX8_draw d σ r1 hr1) ?_
  refine ev_br 2 (P := r1.1 < (gx_rd_drift r1.2)) (a := 11) (b := 23) (ls := [some (.ref 17), none]) (st := []) (h := hX r1.2) rfl (fun c1 => ?_) (fun c1 => ?_)
  · rw [if_pos c1] at hf
    refine ev_go (c' := (20, [some (.ref 17), none], [.int ((((gx_rd_hisWay r1.2) + (1 : Int32)) &&& (3 : Int32))), .ref 17], hX r1.2)) 6 rfl ?_
    refine ev_st1 (e := (20, .putfield 39, 3, 7, 0, .null, [(8, 0)], [185])) (c' := (23, [some (.ref 17), none], [], hX (sx_rd_hisWay r1.2 (((gx_rd_hisWay r1.2) + (1 : Int32)) &&& (3 : Int32))))) rfl oy_put_x_rd_hisWay ?_
    exact ev_dr (a := [some (.ref 17), none]) ⟨rfl, trivial⟩ (tX8_heGoes_b23 d (sx_rd_hisWay r1.2 (((gx_rd_hisWay r1.2) + (1 : Int32)) &&& (3 : Int32)))  _ hf)
  · rw [if_neg c1] at hf
    exact ev_dr (a := [some (.ref 17), none]) ⟨rfl, trivial⟩ (tX8_heGoes_b23 d r1.2  _ hf)
set_option maxRecDepth 20000 in
set_option maxHeartbeats 4000000 in
theorem tX10_isCaught_b13 (d : Nat) (σ : SX) (w0 : Int32) (q : Int32 × SX) (hf : fX10_isCaught_b13 σ w0 = some q) : ev_X (d + 1) (some .boolean) eiX10_isCaught (13, [none, none], [.int (w0)], hX σ) (some (.int q.1), hX q.2) := by
  unfold fX10_isCaught_b13 at hf
  obtain ⟨c1, hf⟩ := ev_hp hf
  cases hf
  exact ev_rk 0 rfl c1
set_option maxRecDepth 20000 in
set_option maxHeartbeats 4000000 in
theorem tX10_isCaught (d : Nat) (σ : SX) (v0 : Nat) (q : Int32 × SX) (hf : fX10_isCaught σ v0 = some q) : ev_M ev_mt (d + 2) 80 [.ref v0, .ref 17] (hX σ) (some (.int q.1), hX q.2) := by
  refine ev_en (rt := (some .boolean)) (I := eiX10_isCaught) rfl (Nat.le_of_ble_eq_true rfl) ?_
  change ev_X (d + 1) _ _ (0, [some (.ref v0), some (.ref 17)], [], hX σ) _
  unfold fX10_isCaught at hf
  obtain ⟨r1, hr1, hf⟩ := Option.bind_eq_some_iff.mp hf
  refine ev_cli 1 (kk := 72) (as := [.ref 17]) (rest := []) (pc := 1) (ls := [some (.ref v0), some (.ref 17)]) (st := [.ref 17]) (h := hX σ) rfl (tX8_draw d σ r1 hr1) ?_
  refine ev_br 1 (P := r1.1 < (5 : Int32)) (a := 12) (b := 8) (ls := [some (.ref v0), some (.ref 17)]) (st := []) (h := hX r1.2) rfl (fun c1 => ?_) (fun c1 => ?_)
  · rw [if_pos c1] at hf
    refine ev_go (c' := (13, [some (.ref v0), some (.ref 17)], [.int ((0 : Int32))], hX r1.2)) 0 rfl ?_
    exact ev_dr (a := [none, none]) trivial (tX10_isCaught_b13 d r1.2 (0 : Int32) _ hf)
  · rw [if_neg c1] at hf
    refine ev_go (c' := (13, [some (.ref v0), some (.ref 17)], [.int ((1 : Int32))], hX r1.2)) 1 rfl ?_
    exact ev_dr (a := [none, none]) trivial (tX10_isCaught_b13 d r1.2 (1 : Int32) _ hf)
theorem dt_isCaught (d : Nat) (σ : SX) (v0 : Nat) (q : Int32 × SX) (h6 : gx_pl_kd σ (v0 - 20) < 6) (hf : d_isCaught σ v0 = some q) : ∃ kk, List.lookup (ev_kc (gx_pl_kd σ (v0 - 20))) [(0, 51), (1, 51), (2, 51), (6, 51), (9, 51), (10, 80)] = some kk ∧ ev_M ev_mt (d + 2) kk [.ref v0, .ref 17] (hX σ) (some (.int q.1), hX q.2) := by
  unfold d_isCaught at hf
  by_cases e0 : gx_pl_kd σ (v0 - 20) = 0
  · rw [if_pos e0] at hf
    rw [e0]
    obtain ⟨r, hr, hq⟩ := Option.map_eq_some_iff.mp hf
    cases hq
    exact ⟨_, rfl, tX6_isCaught (d + 1) σ v0 r hr⟩
  rw [if_neg e0] at hf
  by_cases e1 : gx_pl_kd σ (v0 - 20) = 1
  · rw [if_pos e1] at hf
    rw [e1]
    obtain ⟨r, hr, hq⟩ := Option.map_eq_some_iff.mp hf
    cases hq
    exact ⟨_, rfl, tX6_isCaught (d + 1) σ v0 r hr⟩
  rw [if_neg e1] at hf
  by_cases e2 : gx_pl_kd σ (v0 - 20) = 2
  · rw [if_pos e2] at hf
    rw [e2]
    exact ⟨_, rfl, tX10_isCaught d σ v0 q hf⟩
  rw [if_neg e2] at hf
  by_cases e3 : gx_pl_kd σ (v0 - 20) = 3
  · rw [if_pos e3] at hf
    rw [e3]
    obtain ⟨r, hr, hq⟩ := Option.map_eq_some_iff.mp hf
    cases hq
    exact ⟨_, rfl, tX6_isCaught (d + 1) σ v0 r hr⟩
  rw [if_neg e3] at hf
  by_cases e4 : gx_pl_kd σ (v0 - 20) = 4
  · rw [if_pos e4] at hf
    rw [e4]
    obtain ⟨r, hr, hq⟩ := Option.map_eq_some_iff.mp hf
    cases hq
    exact ⟨_, rfl, tX6_isCaught (d + 1) σ v0 r hr⟩
  rw [if_neg e4] at hf
  have e5 : gx_pl_kd σ (v0 - 20) = 5 := by omega
  rw [e5]
  obtain ⟨r, hr, hq⟩ := Option.map_eq_some_iff.mp hf
  cases hq
  exact ⟨_, rfl, tX6_isCaught (d + 1) σ v0 r hr⟩

set_option maxRecDepth 20000 in
set_option maxHeartbeats 4000000 in
theorem tX8_touch_b60 (d : Nat) (σ : SX) (q : SX) (hf : fX8_touch_b60 σ = some q) : ev_X (d + 2) none eiX8_touch (60, [none, none, none], [], hX σ) (none, hX q) := by
  unfold fX8_touch_b60 at hf
  cases hf
  exact ev_rt 0 rfl
set_option maxRecDepth 20000 in
set_option maxHeartbeats 4000000 in
theorem tX8_touch_b54 (d : Nat) (k2 : SX → Int32 → Option (SX)) (hk2 : ∀ (σ : SX) (v1 : Int32) (q : SX), k2 σ v1 = some q → ev_X (d + 2) none eiX8_touch (2, [some (.ref 17), some (.int (v1)), none], [], hX σ) (none, hX q)) (σ : SX) (v1 : Int32) (q : SX) (hf : fX8_touch_b54 k2 σ v1 = some q) : ev_X (d + 2) none eiX8_touch (54, [some (.ref 17), some (.int (v1)), none], [], hX σ) (none, hX q) := by
  unfold fX8_touch_b54 at hf
  refine ev_go (c' := (2, [some (.ref 17), some (.int ((v1 + (1 : Int32)))), none], [], hX σ)) 1 rfl ?_
  exact ev_dr (a := [some (.ref 17), some (.int ((v1 + (1 : Int32)))), none]) ⟨rfl, ⟨rfl, trivial⟩⟩ (hk2 σ (v1 + (1 : Int32)) _ hf)
set_option maxRecDepth 20000 in
set_option maxHeartbeats 4000000 in
theorem tX8_touch_b2 (d : Nat) (k2 : SX → Int32 → Option (SX)) (hk2 : ∀ (σ : SX) (v1 : Int32) (q : SX), k2 σ v1 = some q → ev_X (d + 2) none eiX8_touch (2, [some (.ref 17), some (.int (v1)), none], [], hX σ) (none, hX q)) (σ : SX) (v1 : Int32) (q : SX) (hf : fX8_touch_b2 k2 σ v1 = some q) : ev_X (d + 2) none eiX8_touch (2, [some (.ref 17), some (.int (v1)), none], [], hX σ) (none, hX q) := by
  unfold fX8_touch_b2 at hf
  refine ev_br 4 (P := v1 < (6 : Int32)) (a := 11) (b := 60) (ls := [some (.ref 17), some (.int (v1)), none]) (st := []) (h := hX σ) rfl (fun c1 => ?_) (fun c1 => ?_)
  · rw [if_pos c1] at hf
    refine ev_br 3 (P := (gx_rd_touched σ) = (-1 : Int32)) (a := 19) (b := 60) (ls := [some (.ref 17), some (.int (v1)), none]) (st := []) (h := hX σ) rfl (fun c2 => ?_) (fun c2 => ?_)
    · rw [if_pos c2] at hf
      obtain ⟨c3, hf⟩ := ev_hp hf
      refine ev_ck 3 (P := ¬ (v1 < 0 ∨ 6 ≤ v1.toNatClampNeg)) (c' := (25, [some (.ref 17), some (.int (v1)), none], [va_rf (((gx_pl_arr σ) v1.toNatClampNeg))], hX σ)) rfl c3 ?_
      rcases hc4 : ((gx_pl_arr σ) v1.toNatClampNeg) with _ | a1
      · rw [hc4] at hf
        simp only [ev_q] at hf
        change ev_X (d + 2) _ _ (25, [some (.ref 17), some (.int (v1)), none], [.null], hX σ) _
        refine ev_go (c' := (54, [some (.ref 17), some (.int (v1)), some (.null)], [], hX σ)) 2 rfl ?_
        exact ev_dr (a := [some (.ref 17), some (.int (v1)), none]) ⟨rfl, ⟨rfl, trivial⟩⟩ (tX8_touch_b54 d k2 hk2 σ v1 _ hf)
      · rw [hc4] at hf
        simp only [ev_q] at hf
        change ev_X (d + 2) _ _ (25, [some (.ref 17), some (.int (v1)), none], [.ref a1], hX σ) _
        obtain ⟨c5, hf⟩ := ev_hp hf
        refine ev_go (c' := (31, [some (.ref 17), some (.int (v1)), some (.ref a1)], [.ref a1], hX σ)) 3 rfl ?_
        refine ev_st1 (e := (31, .getfield 50, 3, 2, 0, .null, [(0, 0), (1, 0), (2, 0), (6, 0), (9, 0), (10, 0)], [674])) (c' := (34, [some (.ref 17), some (.int (v1)), some (.ref a1)], [.int (((gx_pl_at σ) (a1 - 20)))], hX σ)) rfl (ox_pget2 c5) ?_
        refine ev_br 2 (P := ((gx_pl_at σ) (a1 - 20)) = (gx_rd_hisCell σ)) (a := 41) (b := 54) (ls := [some (.ref 17), some (.int (v1)), some (.ref a1)]) (st := []) (h := hX σ) rfl (fun c6 => ?_) (fun c6 => ?_)
        · rw [if_pos c6] at hf
          obtain ⟨c7, hf⟩ := ev_hp hf
          obtain ⟨r2, hr2, hf⟩ := Option.bind_eq_some_iff.mp hf
          refine ev_go (c' := (43, [some (.ref 17), some (.int (v1)), some (.ref a1)], [.ref 17, .ref a1], hX σ)) 1 rfl ?_
          obtain ⟨kk, hk, hm⟩ := dt_isCaught d σ a1 r2 (ox_kd c7) hr2
          refine ev_cl1 (e := (43, .invokevirtual 118, 3, 1, 0, .null, [(0, 51), (1, 51), (2, 51), (6, 51), (9, 51), (10, 80)], [894, 897, 898, 895, 71, 0, 0, 0, 894, 897, 899, 895, 71, 0, 0, 0, 894, 897, 900, 895, 71, 0, 0, 0, 894, 895, 896, 71, 0, 0, 0, 0, 894, 897, 901, 895, 71, 0, 0, 0, 894, 897, 902, 903, 73, 895, 906, 0])) rfl (ox_inv1 (ev_cat_ok := Nat.le_of_ble_eq_true rfl) c7 hk) hm ?_
          change ev_X (d + 2) _ _ (46, [some (.ref 17), some (.int (v1)), some (.ref a1)], [.int (r2.1)], hX r2.2) _
          refine ev_br 0 (P := r2.1 = 0) (a := 54) (b := 49) (ls := [some (.ref 17), some (.int (v1)), some (.ref a1)]) (st := []) (h := hX r2.2) rfl (fun c8 => ?_) (fun c8 => ?_)
          · rw [if_pos c8] at hf
            exact ev_dr (a := [some (.ref 17), some (.int (v1)), none]) ⟨rfl, ⟨rfl, trivial⟩⟩ (tX8_touch_b54 d k2 hk2 r2.2 v1 _ hf)
          · rw [if_neg c8] at hf
            refine ev_go (c' := (51, [some (.ref 17), some (.int (v1)), some (.ref a1)], [.int (v1), .ref 17], hX r2.2)) 1 rfl ?_
            refine ev_st1 (e := (51, .putfield 42, 3, 9, 0, .null, [(8, 0)], [187])) (c' := (54, [some (.ref 17), some (.int (v1)), some (.ref a1)], [], hX (sx_rd_touched r2.2 v1))) rfl oy_put_x_rd_touched ?_
            exact ev_dr (a := [some (.ref 17), some (.int (v1)), none]) ⟨rfl, ⟨rfl, trivial⟩⟩ (tX8_touch_b54 d k2 hk2 (sx_rd_touched r2.2 v1) v1 _ hf)
        · rw [if_neg c6] at hf
          exact ev_dr (a := [some (.ref 17), some (.int (v1)), none]) ⟨rfl, ⟨rfl, trivial⟩⟩ (tX8_touch_b54 d k2 hk2 σ v1 _ hf)
    · rw [if_neg c2] at hf
      exact ev_dr (a := [none, none, none]) trivial (tX8_touch_b60 d σ  _ hf)
  · rw [if_neg c1] at hf
    exact ev_dr (a := [none, none, none]) trivial (tX8_touch_b60 d σ  _ hf)
theorem tX8_touch_l2 (d : Nat) : ∀ (n : Nat) (σ : SX) (v1 : Int32) (q : SX), fX8_touch_l2 n σ v1 = some q → ev_X (d + 2) none eiX8_touch (2, [some (.ref 17), some (.int (v1)), none], [], hX σ) (none, hX q)
  | 0, _, _, _, hf => by cases hf
  | n + 1, σ, v1, q, hf => tX8_touch_b2 d (fX8_touch_l2 n) (fun σ v1 q h9 => tX8_touch_l2 d n σ v1 q h9) σ v1 q hf
set_option maxRecDepth 20000 in
set_option maxHeartbeats 4000000 in
theorem tX8_touch (d : Nat) (σ : SX) (q : SX) (hf : fX8_touch σ = some q) : ev_M ev_mt (d + 3) 76 [.ref 17] (hX σ) (none, hX q) := by
  refine ev_en (rt := none) (I := eiX8_touch) rfl (Nat.le_of_ble_eq_true rfl) ?_
  change ev_X (d + 2) _ _ (0, [some (.ref 17), none, none], [], hX σ) _
  unfold fX8_touch at hf
  refine ev_go (c' := (2, [some (.ref 17), some (.int ((0 : Int32))), none], [], hX σ)) 1 rfl ?_
  exact ev_dr (a := [some (.ref 17), some (.int ((0 : Int32))), none]) ⟨rfl, ⟨rfl, trivial⟩⟩ (tX8_touch_l2 d 1000 σ (0 : Int32) _ hf)
set_option maxRecDepth 20000 in
set_option maxHeartbeats 4000000 in
theorem tX8_play_b136 (d : Nat) (σ : SX) (q : SX) (hf : fX8_play_b136 σ = some q) : ev_X (d + 4) none eiX8_play (136, [none, none, none, none, none, none], [], hX σ) (none, hX q) := by
  unfold fX8_play_b136 at hf
  cases hf
  exact ev_rt 0 rfl
set_option maxRecDepth 20000 in
set_option maxHeartbeats 4000000 in
theorem tX8_play_b127 (d : Nat) (k73 : SX → Int32 → Option (SX)) (hk73 : ∀ (σ : SX) (v2 : Int32) (q : SX), k73 σ v2 = some q → ev_X (d + 4) none eiX8_play (73, [some (.ref 17), none, some (.int (v2)), none, none, none], [], hX σ) (none, hX q)) (σ : SX) (v2 : Int32) (w0 : Int32) (q : SX) (hf : fX8_play_b127 k73 σ v2 w0 = some q) : ev_X (d + 4) none eiX8_play (127, [some (.ref 17), none, some (.int (v2)), none, none, none], [.int (w0), .ref 17], hX σ) (none, hX q) := by
  unfold fX8_play_b127 at hf
  refine ev_st1 (e := (127, .putfield 65, 3, 8, 0, .null, [(8, 0)], [186])) (c' := (130, [some (.ref 17), none, some (.int (v2)), none, none, none], [], hX (sx_rd_tenth σ w0))) rfl oy_put_x_rd_tenth ?_
  refine ev_go (c' := (73, [some (.ref 17), none, some (.int ((v2 + (1 : Int32)))), none, none, none], [], hX (sx_rd_tenth σ w0))) 1 rfl ?_
  exact ev_dr (a := [some (.ref 17), none, some (.int ((v2 + (1 : Int32)))), none, none, none]) ⟨rfl, ⟨rfl, trivial⟩⟩ (hk73 (sx_rd_tenth σ w0) (v2 + (1 : Int32)) _ hf)
set_option maxRecDepth 20000 in
set_option maxHeartbeats 4000000 in
theorem tX8_play_b103 (d : Nat) (k73 : SX → Int32 → Option (SX)) (hk73 : ∀ (σ : SX) (v2 : Int32) (q : SX), k73 σ v2 = some q → ev_X (d + 4) none eiX8_play (73, [some (.ref 17), none, some (.int (v2)), none, none, none], [], hX σ) (none, hX q)) (σ : SX) (v2 : Int32) (q : SX) (hf : fX8_play_b103 k73 σ v2 = some q) : ev_X (d + 4) none eiX8_play (103, [some (.ref 17), none, some (.int (v2)), none, none, none], [], hX σ) (none, hX q) := by
  unfold fX8_play_b103 at hf
  obtain ⟨r1, hr1, hf⟩ := Option.bind_eq_some_iff.mp hf
  refine ev_clv 1 (kk := 75) (as := [.ref 17]) (rest := []) (pc := 104) (ls := [some (.ref 17), none, some (.int (v2)), none, none, none]) (st := [.ref 17]) (h := hX σ) rfl (tX8_heGoes (d + 2) σ r1 hr1) ?_
  obtain ⟨r2, hr2, hf⟩ := Option.bind_eq_some_iff.mp hf
  refine ev_clv 1 (kk := 76) (as := [.ref 17]) (rest := []) (pc := 108) (ls := [some (.ref 17), none, some (.int (v2)), none, none, none]) (st := [.ref 17]) (h := hX r1) rfl (tX8_touch (d + 1) r1 r2 hr2) ?_
  refine ev_br 4 (P := (gx_rd_touched r2) = (-1 : Int32)) (a := 120) (b := 126) (ls := [some (.ref 17), none, some (.int (v2)), none, none, none]) (st := [.ref 17]) (h := hX r2) rfl (fun c1 => ?_) (fun c1 => ?_)
  · rw [if_pos c1] at hf
    refine ev_go (c' := (127, [some (.ref 17), none, some (.int (v2)), none, none, none], [.int ((v2 + (1 : Int32))), .ref 17], hX r2)) 3 rfl ?_
    exact ev_dr (a := [some (.ref 17), none, some (.int (v2)), none, none, none]) ⟨rfl, ⟨rfl, trivial⟩⟩ (tX8_play_b127 d k73 hk73 r2 v2 (v2 + (1 : Int32)) _ hf)
  · rw [if_neg c1] at hf
    refine ev_go (c' := (127, [some (.ref 17), none, some (.int (v2)), none, none, none], [.int (v2), .ref 17], hX r2)) 0 rfl ?_
    exact ev_dr (a := [some (.ref 17), none, some (.int (v2)), none, none, none]) ⟨rfl, ⟨rfl, trivial⟩⟩ (tX8_play_b127 d k73 hk73 r2 v2 v2 _ hf)
set_option maxRecDepth 20000 in
set_option maxHeartbeats 4000000 in
theorem tX8_play_b73 (d : Nat) (k73 : SX → Int32 → Option (SX)) (hk73 : ∀ (σ : SX) (v2 : Int32) (q : SX), k73 σ v2 = some q → ev_X (d + 4) none eiX8_play (73, [some (.ref 17), none, some (.int (v2)), none, none, none], [], hX σ) (none, hX q)) (σ : SX) (v2 : Int32) (q : SX) (hf : fX8_play_b73 k73 σ v2 = some q) : ev_X (d + 4) none eiX8_play (73, [some (.ref 17), none, some (.int (v2)), none, none, none], [], hX σ) (none, hX q) := by
  unfold fX8_play_b73 at hf
  refine ev_br 3 (P := v2 < (gx_rd_tenths σ)) (a := 81) (b := 136) (ls := [some (.ref 17), none, some (.int (v2)), none, none, none]) (st := []) (h := hX σ) rfl (fun c1 => ?_) (fun c1 => ?_)
  · rw [if_pos c1] at hf
    refine ev_br 3 (P := (gx_rd_touched σ) = (-1 : Int32)) (a := 89) (b := 136) (ls := [some (.ref 17), none, some (.int (v2)), none, none, none]) (st := []) (h := hX σ) rfl (fun c2 => ?_) (fun c2 => ?_)
    · rw [if_pos c2] at hf
      obtain ⟨r3, hr3, hf⟩ := Option.bind_eq_some_iff.mp hf
      refine ev_clv 1 (kk := 73) (as := [.ref 17]) (rest := []) (pc := 90) (ls := [some (.ref 17), none, some (.int (v2)), none, none, none]) (st := [.ref 17]) (h := hX σ) rfl (tX8_playersGo d σ r3 hr3) ?_
      refine ev_br 3 (P := (v2 - v2 / (3 : Int32) * (3 : Int32)) = 0) (a := 99) (b := 103) (ls := [some (.ref 17), none, some (.int (v2)), none, none, none]) (st := []) (h := hX r3) rfl (fun c3 => ?_) (fun c3 => ?_)
      · rw [if_pos c3] at hf
        obtain ⟨r4, hr4, hf⟩ := Option.bind_eq_some_iff.mp hf
        refine ev_clv 1 (kk := 74) (as := [.ref 17]) (rest := []) (pc := 100) (ls := [some (.ref 17), none, some (.int (v2)), none, none, none]) (st := [.ref 17]) (h := hX r3) rfl (tX8_lookToCall (d + 1) r3 r4 hr4) ?_
        exact ev_dr (a := [some (.ref 17), none, some (.int (v2)), none, none, none]) ⟨rfl, ⟨rfl, trivial⟩⟩ (tX8_play_b103 d k73 hk73 r4 v2 _ hf)
      · rw [if_neg c3] at hf
        exact ev_dr (a := [some (.ref 17), none, some (.int (v2)), none, none, none]) ⟨rfl, ⟨rfl, trivial⟩⟩ (tX8_play_b103 d k73 hk73 r3 v2 _ hf)
    · rw [if_neg c2] at hf
      exact ev_dr (a := [none, none, none, none, none, none]) trivial (tX8_play_b136 d σ  _ hf)
  · rw [if_neg c1] at hf
    exact ev_dr (a := [none, none, none, none, none, none]) trivial (tX8_play_b136 d σ  _ hf)
theorem tX8_play_l73 (d : Nat) : ∀ (n : Nat) (σ : SX) (v2 : Int32) (q : SX), fX8_play_l73 n σ v2 = some q → ev_X (d + 4) none eiX8_play (73, [some (.ref 17), none, some (.int (v2)), none, none, none], [], hX σ) (none, hX q)
  | 0, _, _, _, hf => by cases hf
  | n + 1, σ, v2, q, hf => tX8_play_b73 d (fX8_play_l73 n) (fun σ v2 q h9 => tX8_play_l73 d n σ v2 q h9) σ v2 q hf
set_option maxRecDepth 20000 in
set_option maxHeartbeats 4000000 in
theorem tX8_play_b65 (d : Nat) (k38 : SX → Int32 → Option (SX)) (hk38 : ∀ (σ : SX) (v4 : Int32) (q : SX), k38 σ v4 = some q → ev_X (d + 4) none eiX8_play (38, [some (.ref 17), none, some (.ref 16), some (.int ((6 : Int32))), some (.int (v4)), none], [], hX σ) (none, hX q)) (σ : SX) (v4 : Int32) (q : SX) (hf : fX8_play_b65 k38 σ v4 = some q) : ev_X (d + 4) none eiX8_play (65, [some (.ref 17), none, some (.ref 16), some (.int ((6 : Int32))), some (.int (v4)), none], [], hX σ) (none, hX q) := by
  unfold fX8_play_b65 at hf
  refine ev_go (c' := (38, [some (.ref 17), none, some (.ref 16), some (.int ((6 : Int32))), some (.int ((v4 + (1 : Int32)))), none], [], hX σ)) 1 rfl ?_
  exact ev_dr (a := [some (.ref 17), none, some (.ref 16), some (.int ((6 : Int32))), some (.int ((v4 + (1 : Int32)))), none]) ⟨rfl, ⟨rfl, ⟨rfl, ⟨rfl, trivial⟩⟩⟩⟩ (hk38 σ (v4 + (1 : Int32)) _ hf)
set_option maxRecDepth 20000 in
set_option maxHeartbeats 4000000 in
theorem tX8_play_b38 (d : Nat) (k38 : SX → Int32 → Option (SX)) (hk38 : ∀ (σ : SX) (v4 : Int32) (q : SX), k38 σ v4 = some q → ev_X (d + 4) none eiX8_play (38, [some (.ref 17), none, some (.ref 16), some (.int ((6 : Int32))), some (.int (v4)), none], [], hX σ) (none, hX q)) (σ : SX) (v4 : Int32) (q : SX) (hf : fX8_play_b38 k38 σ v4 = some q) : ev_X (d + 4) none eiX8_play (38, [some (.ref 17), none, some (.ref 16), some (.int ((6 : Int32))), some (.int (v4)), none], [], hX σ) (none, hX q) := by
  unfold fX8_play_b38 at hf
  refine ev_br 2 (P := v4 < (6 : Int32)) (a := 44) (b := 71) (ls := [some (.ref 17), none, some (.ref 16), some (.int ((6 : Int32))), some (.int (v4)), none]) (st := []) (h := hX σ) rfl (fun c1 => ?_) (fun c1 => ?_)
  · rw [if_pos c1] at hf
    obtain ⟨c2, hf⟩ := ev_hp hf
    refine ev_ck 2 (P := ¬ (v4 < 0 ∨ 6 ≤ v4.toNatClampNeg)) (c' := (48, [some (.ref 17), none, some (.ref 16), some (.int ((6 : Int32))), some (.int (v4)), none], [va_rf (((gx_pl_arr σ) v4.toNatClampNeg))], hX σ)) rfl c2 ?_
    rcases hc3 : ((gx_pl_arr σ) v4.toNatClampNeg) with _ | a5
    · rw [hc3] at hf
      simp only [ev_q] at hf
      change ev_X (d + 4) _ _ (48, [some (.ref 17), none, some (.ref 16), some (.int ((6 : Int32))), some (.int (v4)), none], [.null], hX σ) _
      refine ev_go (c' := (65, [some (.ref 17), none, some (.ref 16), some (.int ((6 : Int32))), some (.int (v4)), some (.null)], [], hX σ)) 2 rfl ?_
      exact ev_dr (a := [some (.ref 17), none, some (.ref 16), some (.int ((6 : Int32))), some (.int (v4)), none]) ⟨rfl, ⟨rfl, ⟨rfl, ⟨rfl, trivial⟩⟩⟩⟩ (tX8_play_b65 d k38 hk38 σ v4 _ hf)
    · rw [hc3] at hf
      simp only [ev_q] at hf
      change ev_X (d + 4) _ _ (48, [some (.ref 17), none, some (.ref 16), some (.int ((6 : Int32))), some (.int (v4)), none], [.ref a5], hX σ) _
      obtain ⟨c4, hf⟩ := ev_hp hf
      refine ev_go (c' := (59, [some (.ref 17), none, some (.ref 16), some (.int ((6 : Int32))), some (.int (v4)), some (.ref a5)], [.ref a5, .ref a5], hX σ)) 4 rfl ?_
      refine ev_st1 (e := (59, .getfield 45, 3, 0, 0, .null, [(0, 0), (1, 0), (2, 0), (6, 0), (9, 0), (10, 0)], [661])) (c' := (62, [some (.ref 17), none, some (.ref 16), some (.int ((6 : Int32))), some (.int (v4)), some (.ref a5)], [.int (((gx_pl_told σ) (a5 - 20))), .ref a5], hX σ)) rfl (ox_pget0 c4) ?_
      obtain ⟨c5, hf⟩ := ev_hp hf
      refine ev_st1 (e := (62, .putfield 50, 3, 2, 0, .null, [(0, 0), (1, 0), (2, 0), (6, 0), (9, 0), (10, 0)], [674])) (c' := (65, [some (.ref 17), none, some (.ref 16), some (.int ((6 : Int32))), some (.int (v4)), some (.ref a5)], [], hX (sx_pl_at σ (upd (gx_pl_at σ) (a5 - 20) ((gx_pl_told σ) (a5 - 20)))))) rfl (ox_pput2 c5) ?_
      exact ev_dr (a := [some (.ref 17), none, some (.ref 16), some (.int ((6 : Int32))), some (.int (v4)), none]) ⟨rfl, ⟨rfl, ⟨rfl, ⟨rfl, trivial⟩⟩⟩⟩ (tX8_play_b65 d k38 hk38 (sx_pl_at σ (upd (gx_pl_at σ) (a5 - 20) ((gx_pl_told σ) (a5 - 20)))) v4 _ hf)
  · rw [if_neg c1] at hf
    refine ev_go (c' := (73, [some (.ref 17), none, some (.int ((0 : Int32))), some (.int ((6 : Int32))), some (.int (v4)), none], [], hX σ)) 1 rfl ?_
    exact ev_dr (a := [some (.ref 17), none, some (.int ((0 : Int32))), none, none, none]) ⟨rfl, ⟨rfl, trivial⟩⟩ (tX8_play_l73 d 1000 σ (0 : Int32) _ hf)
theorem tX8_play_l38 (d : Nat) : ∀ (n : Nat) (σ : SX) (v4 : Int32) (q : SX), fX8_play_l38 n σ v4 = some q → ev_X (d + 4) none eiX8_play (38, [some (.ref 17), none, some (.ref 16), some (.int ((6 : Int32))), some (.int (v4)), none], [], hX σ) (none, hX q)
  | 0, _, _, _, hf => by cases hf
  | n + 1, σ, v4, q, hf => tX8_play_b38 d (fX8_play_l38 n) (fun σ v4 q h9 => tX8_play_l38 d n σ v4 q h9) σ v4 q hf
set_option maxRecDepth 20000 in
set_option maxHeartbeats 4000000 in
theorem tX8_play (d : Nat) (σ : SX) (v1 : Int32) (q : SX) (hf : fX8_play σ v1 = some q) : ev_M ev_mt (d + 5) 69 [.ref 17, .int (v1)] (hX σ) (none, hX q) := by
  refine ev_en (rt := none) (I := eiX8_play) rfl (Nat.le_of_ble_eq_true rfl) ?_
  change ev_X (d + 4) _ _ (0, [some (.ref 17), some (.int (v1)), none, none, none, none], [], hX σ) _
  unfold fX8_play at hf
  refine ev_go (c' := (3, [some (.ref 17), some (.int (v1)), none, none, none, none], [.long (v1.toInt64), .ref 17], hX σ)) 2 rfl ?_
  refine ev_st1 (e := (3, .putfield 32, 3, 10, 1, .null, [(8, 0)], [188])) (c' := (6, [some (.ref 17), some (.int (v1)), none, none, none, none], [], hX (sx_rd_seed σ v1.toInt64))) rfl oy_put_x_rd_seed ?_
  refine ev_go (c' := (11, [some (.ref 17), some (.int (v1)), none, none, none, none], [.int ((gx_rd_firstCell σ)), .ref 17], hX (sx_rd_seed σ v1.toInt64))) 2 rfl ?_
  refine ev_st1 (e := (11, .putfield 36, 3, 6, 0, .null, [(8, 0)], [184])) (c' := (14, [some (.ref 17), some (.int (v1)), none, none, none, none], [], hX (sx_rd_hisCell (sx_rd_seed σ v1.toInt64) (gx_rd_firstCell σ)))) rfl oy_put_x_rd_hisCell ?_
  refine ev_go (c' := (19, [some (.ref 17), some (.int (v1)), none, none, none, none], [.int ((gx_rd_firstWay σ)), .ref 17], hX (sx_rd_hisCell (sx_rd_seed σ v1.toInt64) (gx_rd_firstCell σ)))) 2 rfl ?_
  refine ev_st1 (e := (19, .putfield 39, 3, 7, 0, .null, [(8, 0)], [185])) (c' := (22, [some (.ref 17), some (.int (v1)), none, none, none, none], [], hX (sx_rd_hisWay (sx_rd_hisCell (sx_rd_seed σ v1.toInt64) (gx_rd_firstCell σ)) (gx_rd_firstWay σ)))) rfl oy_put_x_rd_hisWay ?_
  refine ev_go (c' := (24, [some (.ref 17), some (.int (v1)), none, none, none, none], [.int ((-1 : Int32)), .ref 17], hX (sx_rd_hisWay (sx_rd_hisCell (sx_rd_seed σ v1.toInt64) (gx_rd_firstCell σ)) (gx_rd_firstWay σ)))) 1 rfl ?_
  refine ev_st1 (e := (24, .putfield 42, 3, 9, 0, .null, [(8, 0)], [187])) (c' := (27, [some (.ref 17), some (.int (v1)), none, none, none, none], [], hX (sx_rd_touched (sx_rd_hisWay (sx_rd_hisCell (sx_rd_seed σ v1.toInt64) (gx_rd_firstCell σ)) (gx_rd_firstWay σ)) (-1 : Int32)))) rfl oy_put_x_rd_touched ?_
  refine ev_go (c' := (38, [some (.ref 17), some (.int (v1)), some (.ref 16), some (.int ((6 : Int32))), some (.int ((0 : Int32))), none], [], hX (sx_rd_touched (sx_rd_hisWay (sx_rd_hisCell (sx_rd_seed σ v1.toInt64) (gx_rd_firstCell σ)) (gx_rd_firstWay σ)) (-1 : Int32)))) 7 rfl ?_
  exact ev_dr (a := [some (.ref 17), none, some (.ref 16), some (.int ((6 : Int32))), some (.int ((0 : Int32))), none]) ⟨rfl, ⟨rfl, ⟨rfl, ⟨rfl, trivial⟩⟩⟩⟩ (tX8_play_l38 d 1000 (sx_rd_touched (sx_rd_hisWay (sx_rd_hisCell (sx_rd_seed σ v1.toInt64) (gx_rd_firstCell σ)) (gx_rd_firstWay σ)) (-1 : Int32)) (0 : Int32) _ hf)
set_option maxRecDepth 20000 in
set_option maxHeartbeats 4000000 in
theorem tX8_outcome (d : Nat) (σ : SX) (v1 : Int32) (q : Int32) (hf : fX8_outcome σ v1 = some q) : ev_M ev_mt (d + 1) 70 [.ref 17, .int (v1)] (hX σ) (some (.int q), hX σ) := by
  refine ev_en (rt := (some .int)) (I := eiX8_outcome) rfl (Nat.le_of_ble_eq_true rfl) ?_
  change ev_X d _ _ (0, [some (.ref 17), some (.int (v1))], [], hX σ) _
  unfold fX8_outcome at hf
  refine ev_go (c' := (ev_sw [(0, 28), (1, 33), (2, 38)] v1 43, [some (.ref 17), some (.int (v1))], [], hX σ)) 1 rfl ?_
  by_cases c1 : v1 = (0 : Int32)
  · rw [if_pos c1] at hf
    have hs : ev_sw [(0, 28), (1, 33), (2, 38)] v1 43 = 28 := if_pos c1
    rw [hs]
    cases hf
    exact ev_rt 2 rfl
  rw [if_neg c1] at hf
  by_cases c2 : v1 = (1 : Int32)
  · rw [if_pos c2] at hf
    have hs : ev_sw [(0, 28), (1, 33), (2, 38)] v1 43 = 33 := (if_neg c1).trans (if_pos c2)
    rw [hs]
    cases hf
    exact ev_rt 2 rfl
  rw [if_neg c2] at hf
  by_cases c3 : v1 = (2 : Int32)
  · rw [if_pos c3] at hf
    have hs : ev_sw [(0, 28), (1, 33), (2, 38)] v1 43 = 38 := (if_neg c1).trans ((if_neg c2).trans (if_pos c3))
    rw [hs]
    cases hf
    exact ev_rt 2 rfl
  rw [if_neg c3] at hf
  have hs : ev_sw [(0, 28), (1, 33), (2, 38)] v1 43 = 43 := (if_neg c1).trans ((if_neg c2).trans ((if_neg c3).trans (rfl)))
  rw [hs]
  cases hf
  exact ev_rt 3 rfl
set_option maxRecDepth 20000 in
set_option maxHeartbeats 4000000 in
theorem tX8_seedsThatTouch_b48 (d : Nat) (σ : SX) (v4 : Int32) (q : Int32 × SX) (hf : fX8_seedsThatTouch_b48 σ v4 = some q) : ev_X (d + 5) (some .int) eiX8_seedsThatTouch (48, [none, none, none, none, some (.int (v4)), none], [], hX σ) (some (.int q.1), hX q.2) := by
  unfold fX8_seedsThatTouch_b48 at hf
  cases hf
  exact ev_rt 1 rfl
set_option maxRecDepth 20000 in
set_option maxHeartbeats 4000000 in
theorem tX8_seedsThatTouch_b39 (d : Nat) (k6 : SX → Int32 → Int32 → Int32 → Int32 → Int32 → Option (Int32 × SX)) (hk6 : ∀ (σ : SX) (v1 : Int32) (v2 : Int32) (v3 : Int32) (v4 : Int32) (v5 : Int32) (q : Int32 × SX), k6 σ v1 v2 v3 v4 v5 = some q → ev_X (d + 5) (some .int) eiX8_seedsThatTouch (6, [some (.ref 17), some (.int (v1)), some (.int (v2)), some (.int (v3)), some (.int (v4)), some (.int (v5))], [], hX σ) (some (.int q.1), hX q.2)) (σ : SX) (v1 : Int32) (v2 : Int32) (v3 : Int32) (v5 : Int32) (w0 : Int32) (w1 : Int32) (q : Int32 × SX) (hf : fX8_seedsThatTouch_b39 k6 σ v1 v2 v3 v5 w0 w1 = some q) : ev_X (d + 5) (some .int) eiX8_seedsThatTouch (39, [some (.ref 17), some (.int (v1)), some (.int (v2)), some (.int (v3)), none, some (.int (v5))], [.int (w0), .int (w1)], hX σ) (some (.int q.1), hX q.2) := by
  unfold fX8_seedsThatTouch_b39 at hf
  refine ev_go (c' := (6, [some (.ref 17), some (.int (v1)), some (.int (v2)), some (.int (v3)), some (.int ((w1 + w0))), some (.int ((v5 + (1 : Int32))))], [], hX σ)) 3 rfl ?_
  exact ev_dr (a := [some (.ref 17), some (.int (v1)), some (.int (v2)), some (.int (v3)), some (.int ((w1 + w0))), some (.int ((v5 + (1 : Int32))))]) ⟨rfl, ⟨rfl, ⟨rfl, ⟨rfl, ⟨rfl, ⟨rfl, trivial⟩⟩⟩⟩⟩⟩ (hk6 σ v1 v2 v3 (w1 + w0) (v5 + (1 : Int32)) _ hf)
set_option maxRecDepth 20000 in
set_option maxHeartbeats 4000000 in
theorem tX8_seedsThatTouch_b6 (d : Nat) (k6 : SX → Int32 → Int32 → Int32 → Int32 → Int32 → Option (Int32 × SX)) (hk6 : ∀ (σ : SX) (v1 : Int32) (v2 : Int32) (v3 : Int32) (v4 : Int32) (v5 : Int32) (q : Int32 × SX), k6 σ v1 v2 v3 v4 v5 = some q → ev_X (d + 5) (some .int) eiX8_seedsThatTouch (6, [some (.ref 17), some (.int (v1)), some (.int (v2)), some (.int (v3)), some (.int (v4)), some (.int (v5))], [], hX σ) (some (.int q.1), hX q.2)) (σ : SX) (v1 : Int32) (v2 : Int32) (v3 : Int32) (v4 : Int32) (v5 : Int32) (q : Int32 × SX) (hf : fX8_seedsThatTouch_b6 k6 σ v1 v2 v3 v4 v5 = some q) : ev_X (d + 5) (some .int) eiX8_seedsThatTouch (6, [some (.ref 17), some (.int (v1)), some (.int (v2)), some (.int (v3)), some (.int (v4)), some (.int (v5))], [], hX σ) (some (.int q.1), hX q.2) := by
  unfold fX8_seedsThatTouch_b6 at hf
  refine ev_br 2 (P := v5 < v2) (a := 12) (b := 48) (ls := [some (.ref 17), some (.int (v1)), some (.int (v2)), some (.int (v3)), some (.int (v4)), some (.int (v5))]) (st := []) (h := hX σ) rfl (fun c1 => ?_) (fun c1 => ?_)
  · rw [if_pos c1] at hf
    refine ev_br 2 (P := v4 < v3) (a := 18) (b := 48) (ls := [some (.ref 17), some (.int (v1)), some (.int (v2)), some (.int (v3)), some (.int (v4)), some (.int (v5))]) (st := []) (h := hX σ) rfl (fun c2 => ?_) (fun c2 => ?_)
    · rw [if_pos c2] at hf
      obtain ⟨r1, hr1, hf⟩ := Option.bind_eq_some_iff.mp hf
      refine ev_clv 2 (kk := 69) (as := [.ref 17, .int (v5)]) (rest := []) (pc := 21) (ls := [some (.ref 17), some (.int (v1)), some (.int (v2)), some (.int (v3)), some (.int (v4)), some (.int (v5))]) (st := [.int (v5), .ref 17]) (h := hX σ) rfl (tX8_play d σ v5 r1 hr1) ?_
      refine ev_br 4 (P := (gx_rd_touched r1) = v1) (a := 34) (b := 38) (ls := [some (.ref 17), some (.int (v1)), some (.int (v2)), some (.int (v3)), some (.int (v4)), some (.int (v5))]) (st := [.int (v4)]) (h := hX r1) rfl (fun c3 => ?_) (fun c3 => ?_)
      · rw [if_pos c3] at hf
        refine ev_go (c' := (39, [some (.ref 17), some (.int (v1)), some (.int (v2)), some (.int (v3)), some (.int (v4)), some (.int (v5))], [.int ((1 : Int32)), .int (v4)], hX r1)) 1 rfl ?_
        exact ev_dr (a := [some (.ref 17), some (.int (v1)), some (.int (v2)), some (.int (v3)), none, some (.int (v5))]) ⟨rfl, ⟨rfl, ⟨rfl, ⟨rfl, ⟨rfl, trivial⟩⟩⟩⟩⟩ (tX8_seedsThatTouch_b39 d k6 hk6 r1 v1 v2 v3 v5 (1 : Int32) v4 _ hf)
      · rw [if_neg c3] at hf
        refine ev_go (c' := (39, [some (.ref 17), some (.int (v1)), some (.int (v2)), some (.int (v3)), some (.int (v4)), some (.int (v5))], [.int ((0 : Int32)), .int (v4)], hX r1)) 0 rfl ?_
        exact ev_dr (a := [some (.ref 17), some (.int (v1)), some (.int (v2)), some (.int (v3)), none, some (.int (v5))]) ⟨rfl, ⟨rfl, ⟨rfl, ⟨rfl, ⟨rfl, trivial⟩⟩⟩⟩⟩ (tX8_seedsThatTouch_b39 d k6 hk6 r1 v1 v2 v3 v5 (0 : Int32) v4 _ hf)
    · rw [if_neg c2] at hf
      exact ev_dr (a := [none, none, none, none, some (.int (v4)), none]) ⟨rfl, trivial⟩ (tX8_seedsThatTouch_b48 d σ v4 _ hf)
  · rw [if_neg c1] at hf
    exact ev_dr (a := [none, none, none, none, some (.int (v4)), none]) ⟨rfl, trivial⟩ (tX8_seedsThatTouch_b48 d σ v4 _ hf)
theorem tX8_seedsThatTouch_l6 (d : Nat) : ∀ (n : Nat) (σ : SX) (v1 : Int32) (v2 : Int32) (v3 : Int32) (v4 : Int32) (v5 : Int32) (q : Int32 × SX), fX8_seedsThatTouch_l6 n σ v1 v2 v3 v4 v5 = some q → ev_X (d + 5) (some .int) eiX8_seedsThatTouch (6, [some (.ref 17), some (.int (v1)), some (.int (v2)), some (.int (v3)), some (.int (v4)), some (.int (v5))], [], hX σ) (some (.int q.1), hX q.2)
  | 0, _, _, _, _, _, _, _, hf => by cases hf
  | n + 1, σ, v1, v2, v3, v4, v5, q, hf => tX8_seedsThatTouch_b6 d (fX8_seedsThatTouch_l6 n) (fun σ v1 v2 v3 v4 v5 q h9 => tX8_seedsThatTouch_l6 d n σ v1 v2 v3 v4 v5 q h9) σ v1 v2 v3 v4 v5 q hf
set_option maxRecDepth 20000 in
set_option maxHeartbeats 4000000 in
theorem tX8_seedsThatTouch (d : Nat) (σ : SX) (v1 : Int32) (v2 : Int32) (v3 : Int32) (q : Int32 × SX) (hf : fX8_seedsThatTouch σ v1 v2 v3 = some q) : ev_M ev_mt (d + 6) 71 [.ref 17, .int (v1), .int (v2), .int (v3)] (hX σ) (some (.int q.1), hX q.2) := by
  refine ev_en (rt := (some .int)) (I := eiX8_seedsThatTouch) rfl (Nat.le_of_ble_eq_true rfl) ?_
  change ev_X (d + 5) _ _ (0, [some (.ref 17), some (.int (v1)), some (.int (v2)), some (.int (v3)), none, none], [], hX σ) _
  unfold fX8_seedsThatTouch at hf
  refine ev_go (c' := (6, [some (.ref 17), some (.int (v1)), some (.int (v2)), some (.int (v3)), some (.int ((0 : Int32))), some (.int ((0 : Int32)))], [], hX σ)) 3 rfl ?_
  exact ev_dr (a := [some (.ref 17), some (.int (v1)), some (.int (v2)), some (.int (v3)), some (.int ((0 : Int32))), some (.int ((0 : Int32)))]) ⟨rfl, ⟨rfl, ⟨rfl, ⟨rfl, ⟨rfl, ⟨rfl, trivial⟩⟩⟩⟩⟩⟩ (tX8_seedsThatTouch_l6 d 1000 σ v1 v2 v3 (0 : Int32) (0 : Int32) _ hf)
set_option maxRecDepth 20000 in
set_option maxHeartbeats 4000000 in
theorem tX11_letters (d : Nat) (σ : SX) (v1 : Int64) (q : Int32 × SX) (hf : fX11_letters σ v1 = some q) : ev_M ev_mt (d + 3) 81 [.ref 0, .long (v1)] (hX σ) (some (.int q.1), hX q.2) := by
  refine ev_en (rt := (some .int)) (I := eiX11_letters) rfl (Nat.le_of_ble_eq_true rfl) ?_
  change ev_X (d + 2) _ _ (0, [some (.ref 0), some (.long (v1)), none, none], [], hX σ) _
  unfold fX11_letters at hf
  obtain ⟨r1, hr1, hf⟩ := Option.bind_eq_some_iff.mp hf
  refine ev_cli 1 (kk := 39) (as := [.long (v1)]) (rest := []) (pc := 1) (ls := [some (.ref 0), some (.long (v1)), none, none]) (st := [.long (v1)]) (h := hX σ) rfl (tX5_lettersIn d (hX σ) v1 r1 hr1) ?_
  refine ev_br 2 (P := r1 < 0) (a := 9) (b := 12) (ls := [some (.ref 0), some (.long (v1)), none, some (.int (r1))]) (st := []) (h := hX σ) rfl (fun c1 => ?_) (fun c1 => ?_)
  · rw [if_pos c1] at hf
    cases hf
    exact ev_rt 1 rfl
  · rw [if_neg c1] at hf
    refine ev_br 6 (P := (45 : Int32) < ((gx_pg_length σ) + r1)) (a := 26) (b := 29) (ls := [some (.ref 0), some (.long (v1)), none, some (.int (r1))]) (st := []) (h := hX σ) rfl (fun c2 => ?_) (fun c2 => ?_)
    · rw [if_pos c2] at hf
      cases hf
      exact ev_rt 1 rfl
    · rw [if_neg c2] at hf
      obtain ⟨r2, hr2, hf⟩ := Option.bind_eq_some_iff.mp hf
      refine ev_clv 4 (kk := 41) (as := [.ref 1, .long (v1), .int (r1)]) (rest := []) (pc := 35) (ls := [some (.ref 0), some (.long (v1)), none, some (.int (r1))]) (st := [.int (r1), .long (v1), .ref 1]) (h := hX σ) rfl (tX5_write d σ v1 r1 r2 hr2) ?_
      cases hf
      exact ev_rt 3 rfl
set_option maxRecDepth 20000 in
set_option maxHeartbeats 4000000 in
theorem tX11_blank (d : Nat) (σ : SX) (q : Int32 × SX) (hf : fX11_blank σ = some q) : ev_M ev_mt (d + 1) 82 [.ref 0] (hX σ) (some (.int q.1), hX q.2) := by
  refine ev_en (rt := (some .int)) (I := eiX11_blank) rfl (Nat.le_of_ble_eq_true rfl) ?_
  change ev_X d _ _ (0, [some (.ref 0), none], [], hX σ) _
  unfold fX11_blank at hf
  refine ev_go (c' := (13, [some (.ref 0), some (.int ((gx_pg_length σ)))], [.int ((0 : Int32)), .ref 1], hX σ)) 6 rfl ?_
  refine ev_st1 (e := (13, .putfield 60, 3, 1, 0, .null, [(5, 0)], [93])) (c' := (16, [some (.ref 0), some (.int ((gx_pg_length σ)))], [], hX (sx_pg_length σ (0 : Int32)))) rfl oy_put_x_pg_length ?_
  cases hf
  exact ev_rt 1 rfl
set_option maxRecDepth 20000 in
set_option maxHeartbeats 4000000 in
theorem tX11_fault (d : Nat) (σ : SX) (q : Int32 × SX) (hf : fX11_fault σ = some q) : ev_M ev_mt (d + 7) 83 [.ref 0] (hX σ) (some (.int q.1), hX q.2) := by
  refine ev_en (rt := (some .int)) (I := eiX11_fault) rfl (Nat.le_of_ble_eq_true rfl) ?_
  change ev_X (d + 6) _ _ (0, [some (.ref 0)], [], hX σ) _
  unfold fX11_fault at hf
  obtain ⟨r1, hr1, hf⟩ := Option.bind_eq_some_iff.mp hf
  refine ev_cli 2 (kk := 43) (as := [.ref 1]) (rest := []) (pc := 4) (ls := [some (.ref 0)]) (st := [.ref 1]) (h := hX σ) rfl (tX5_readOn d σ r1 hr1) ?_
  cases hf
  exact ev_rt 0 rfl
set_option maxRecDepth 20000 in
set_option maxHeartbeats 4000000 in
theorem tX11_ring_b44 (d : Nat) (k44 : SX → Int32 → Option (Int32 × SX)) (hk44 : ∀ (σ : SX) (v1 : Int32) (q : Int32 × SX), k44 σ v1 = some q → ev_X (d + 7) (some .int) eiX11_ring (44, [some (.ref 0), some (.int (v1))], [], hX σ) (some (.int q.1), hX q.2)) (σ : SX) (v1 : Int32) (q : Int32 × SX) (hf : fX11_ring_b44 k44 σ v1 = some q) : ev_X (d + 7) (some .int) eiX11_ring (44, [some (.ref 0), some (.int (v1))], [], hX σ) (some (.int q.1), hX q.2) := by
  unfold fX11_ring_b44 at hf
  refine ev_br 4 (P := v1 < (6 : Int32)) (a := 53) (b := 66) (ls := [some (.ref 0), some (.int (v1))]) (st := []) (h := hX σ) rfl (fun c1 => ?_) (fun c1 => ?_)
  · rw [if_pos c1] at hf
    obtain ⟨c2, hf⟩ := ev_hp hf
    refine ev_go (c' := (59, [some (.ref 0), some (.int (v1))], [.null, .int (v1), .ref 16], hX σ)) 3 rfl ?_
    refine ev_st1 (e := (59, .aastore, 1, 0, 0, .null, [], [])) (c' := (60, [some (.ref 0), some (.int (v1))], [], hX (sx_pl_arr σ (va_up (gx_pl_arr σ) v1.toNatClampNeg none)))) rfl (oy_ast_x_pl_arr c2) ?_
    refine ev_go (c' := (44, [some (.ref 0), some (.int ((v1 + (1 : Int32))))], [], hX (sx_pl_arr σ (va_up (gx_pl_arr σ) v1.toNatClampNeg none)))) 1 rfl ?_
    exact ev_dr (a := [some (.ref 0), some (.int ((v1 + (1 : Int32))))]) ⟨rfl, ⟨rfl, trivial⟩⟩ (hk44 (sx_pl_arr σ (va_up (gx_pl_arr σ) v1.toNatClampNeg none)) (v1 + (1 : Int32)) _ hf)
  · rw [if_neg c1] at hf
    refine ev_go (c' := (68, [some (.ref 0), some (.int (v1))], [.int ((0 : Int32)), .ref 0], hX σ)) 1 rfl ?_
    refine ev_st1 (e := (68, .putfield 83, 3, 6, 0, .null, [(11, 0)], [261])) (c' := (71, [some (.ref 0), some (.int (v1))], [], hX (sx_tp_playing σ (0 : Int32)))) rfl oy_put_x_tp_playing ?_
    obtain ⟨r4, hr4, hf⟩ := Option.bind_eq_some_iff.mp hf
    refine ev_clv 2 (kk := 7) (as := [.ref 18]) (rest := []) (pc := 75) (ls := [some (.ref 0), some (.int (v1))]) (st := [.ref 18]) (h := hX (sx_tp_playing σ (0 : Int32))) rfl (tX3_forgetJackets (d + 5) (sx_tp_playing σ (0 : Int32)) r4 hr4) ?_
    obtain ⟨r5, hr5, hf⟩ := Option.bind_eq_some_iff.mp hf
    refine ev_clv 2 (kk := 20) (as := [.ref 8]) (rest := []) (pc := 82) (ls := [some (.ref 0), some (.int (v1))]) (st := [.ref 8]) (h := hX r4) rfl (tX4_loseHim (d + 5) r4 r5 hr5) ?_
    refine ev_go (c' := (87, [some (.ref 0), some (.int (v1))], [.int ((0 : Int32)), .ref 0], hX r5)) 1 rfl ?_
    refine ev_st1 (e := (87, .putfield 92, 3, 9, 2, .null, [(11, 0)], [264])) (c' := (90, [some (.ref 0), some (.int (v1))], [], hX (sx_tp_imageKept r5 (0 : Int32)))) rfl (oy_put_x_tp_imageKept (by decide)) ?_
    refine ev_go (c' := (97, [some (.ref 0), some (.int (v1))], [.int (((gx_tp_ringsRead r5) + (1 : Int32))), .ref 0], hX (sx_tp_imageKept r5 (0 : Int32)))) 4 rfl ?_
    refine ev_st1 (e := (97, .putfield 96, 3, 7, 0, .null, [(11, 0)], [262])) (c' := (100, [some (.ref 0), some (.int (v1))], [], hX (sx_tp_ringsRead (sx_tp_imageKept r5 (0 : Int32)) ((gx_tp_ringsRead r5) + (1 : Int32))))) rfl oy_put_x_tp_ringsRead ?_
    cases hf
    exact ev_rt 3 rfl
theorem tX11_ring_l44 (d : Nat) : ∀ (n : Nat) (σ : SX) (v1 : Int32) (q : Int32 × SX), fX11_ring_l44 n σ v1 = some q → ev_X (d + 7) (some .int) eiX11_ring (44, [some (.ref 0), some (.int (v1))], [], hX σ) (some (.int q.1), hX q.2)
  | 0, _, _, _, hf => by cases hf
  | n + 1, σ, v1, q, hf => tX11_ring_b44 d (fX11_ring_l44 n) (fun σ v1 q h9 => tX11_ring_l44 d n σ v1 q h9) σ v1 q hf
set_option maxRecDepth 20000 in
set_option maxHeartbeats 4000000 in
theorem tX11_ring_b20 (d : Nat) (σ : SX) (q : Int32 × SX) (hf : fX11_ring_b20 σ = some q) : ev_X (d + 7) (some .int) eiX11_ring (20, [none, none], [], hX σ) (some (.int q.1), hX q.2) := by
  unfold fX11_ring_b20 at hf
  cases hf
  exact ev_rt 1 rfl
set_option maxRecDepth 20000 in
set_option maxHeartbeats 4000000 in
theorem tX11_ring (d : Nat) (σ : SX) (q : Int32 × SX) (hf : fX11_ring σ = some q) : ev_M ev_mt (d + 8) 84 [.ref 0] (hX σ) (some (.int q.1), hX q.2) := by
  refine ev_en (rt := (some .int)) (I := eiX11_ring) rfl (Nat.le_of_ble_eq_true rfl) ?_
  change ev_X (d + 7) _ _ (0, [some (.ref 0), none], [], hX σ) _
  unfold fX11_ring at hf
  obtain ⟨r1, hr1, hf⟩ := Option.bind_eq_some_iff.mp hf
  refine ev_cli 2 (kk := 45) (as := [.ref 1]) (rest := []) (pc := 4) (ls := [some (.ref 0), none]) (st := [.ref 1]) (h := hX σ) rfl (tX5_isWhole d σ r1 hr1) ?_
  refine ev_br 0 (P := r1.1 = 0) (a := 20) (b := 10) (ls := [some (.ref 0), none]) (st := []) (h := hX r1.2) rfl (fun c1 => ?_) (fun c1 => ?_)
  · rw [if_pos c1] at hf
    exact ev_dr (a := [none, none]) trivial (tX11_ring_b20 d r1.2  _ hf)
  · rw [if_neg c1] at hf
    obtain ⟨r2, hr2, hf⟩ := Option.bind_eq_some_iff.mp hf
    refine ev_cli 2 (kk := 46) (as := [.ref 1]) (rest := []) (pc := 14) (ls := [some (.ref 0), none]) (st := [.ref 1]) (h := hX r1.2) rfl (tX5_hasFree (d + 1) r1.2 r2 hr2) ?_
    refine ev_br 0 (P := r2 = 0) (a := 20) (b := 23) (ls := [some (.ref 0), none]) (st := []) (h := hX r1.2) rfl (fun c2 => ?_) (fun c2 => ?_)
    · rw [if_pos c2] at hf
      exact ev_dr (a := [none, none]) trivial (tX11_ring_b20 d r1.2  _ hf)
    · rw [if_neg c2] at hf
      obtain ⟨r3, hr3, hf⟩ := Option.bind_eq_some_iff.mp hf
      refine ev_clv 4 (kk := 53) (as := [.ref 3, .ref 1]) (rest := []) (pc := 31) (ls := [some (.ref 0), none]) (st := [.ref 1, .ref 3]) (h := hX r1.2) rfl (tX7_readFrom (d + 1) r1.2 r3 hr3) ?_
      refine ev_go (c' := (39, [some (.ref 0), none], [.int ((0 : Int32)), .ref 1], hX r3)) 2 rfl ?_
      refine ev_st1 (e := (39, .putfield 60, 3, 1, 0, .null, [(5, 0)], [93])) (c' := (42, [some (.ref 0), none], [], hX (sx_pg_length r3 (0 : Int32)))) rfl oy_put_x_pg_length ?_
      refine ev_go (c' := (44, [some (.ref 0), some (.int ((0 : Int32)))], [], hX (sx_pg_length r3 (0 : Int32)))) 1 rfl ?_
      exact ev_dr (a := [some (.ref 0), some (.int ((0 : Int32)))]) ⟨rfl, ⟨rfl, trivial⟩⟩ (tX11_ring_l44 d 1000 (sx_pg_length r3 (0 : Int32)) (0 : Int32) _ hf)
set_option maxRecDepth 20000 in
set_option maxHeartbeats 4000000 in
theorem tX11_cell_b24 (d : Nat) (σ : SX) (w0 : Int32) (q : Int32) (hf : fX11_cell_b24 σ w0 = some q) : ev_X (d + 1) (some .int) eiX11_cell (24, [none, none], [.int (w0)], hX σ) (some (.int q), hX σ) := by
  unfold fX11_cell_b24 at hf
  cases hf
  exact ev_rt 0 rfl
set_option maxRecDepth 20000 in
set_option maxHeartbeats 4000000 in
theorem tX11_cell (d : Nat) (σ : SX) (v1 : Int32) (q : Int32) (hf : fX11_cell σ v1 = some q) : ev_M ev_mt (d + 2) 85 [.ref 0, .int (v1)] (hX σ) (some (.int q), hX σ) := by
  refine ev_en (rt := (some .int)) (I := eiX11_cell) rfl (Nat.le_of_ble_eq_true rfl) ?_
  change ev_X (d + 1) _ _ (0, [some (.ref 0), some (.int (v1))], [], hX σ) _
  unfold fX11_cell at hf
  obtain ⟨r1, hr1, hf⟩ := Option.bind_eq_some_iff.mp hf
  refine ev_cli 3 (kk := 57) (as := [.ref 3, .int (v1)]) (rest := []) (pc := 5) (ls := [some (.ref 0), some (.int (v1))]) (st := [.int (v1), .ref 3]) (h := hX σ) rfl (tX7_has d σ v1 r1 hr1) ?_
  refine ev_br 0 (P := r1 = 0) (a := 22) (b := 11) (ls := [some (.ref 0), some (.int (v1))]) (st := []) (h := hX σ) rfl (fun c1 => ?_) (fun c1 => ?_)
  · rw [if_pos c1] at hf
    refine ev_go (c' := (24, [some (.ref 0), some (.int (v1))], [.int ((-101 : Int32))], hX σ)) 0 rfl ?_
    exact ev_dr (a := [none, none]) trivial (tX11_cell_b24 d σ (-101 : Int32) _ hf)
  · rw [if_neg c1] at hf
    obtain ⟨r2, hr2, hf⟩ := Option.bind_eq_some_iff.mp hf
    refine ev_cli 3 (kk := 58) (as := [.ref 3, .int (v1)]) (rest := []) (pc := 16) (ls := [some (.ref 0), some (.int (v1))]) (st := [.int (v1), .ref 3]) (h := hX σ) rfl (tX7_kindOf d σ v1 r2 hr2) ?_
    refine ev_go (c' := (24, [some (.ref 0), some (.int (v1))], [.int (r2)], hX σ)) 0 rfl ?_
    exact ev_dr (a := [none, none]) trivial (tX11_cell_b24 d σ r2 _ hf)
set_option maxRecDepth 20000 in
set_option maxHeartbeats 4000000 in
theorem tX11_set (d : Nat) (σ : SX) (v1 : Int32) (v2 : Int32) (q : Int32 × SX) (hf : fX11_set σ v1 v2 = some q) : ev_M ev_mt (d + 3) 86 [.ref 0, .int (v1), .int (v2)] (hX σ) (some (.int q.1), hX q.2) := by
  refine ev_en (rt := (some .int)) (I := eiX11_set) rfl (Nat.le_of_ble_eq_true rfl) ?_
  change ev_X (d + 2) _ _ (0, [some (.ref 0), some (.int (v1)), some (.int (v2))], [], hX σ) _
  unfold fX11_set at hf
  obtain ⟨r1, hr1, hf⟩ := Option.bind_eq_some_iff.mp hf
  refine ev_cli 3 (kk := 59) (as := [.ref 3, .int (v1)]) (rest := []) (pc := 5) (ls := [some (.ref 0), some (.int (v1)), some (.int (v2))]) (st := [.int (v1), .ref 3]) (h := hX σ) rfl (tX7_isFree (d + 1) σ v1 r1 hr1) ?_
  refine ev_br 0 (P := r1 = 0) (a := 11) (b := 14) (ls := [some (.ref 0), some (.int (v1)), some (.int (v2))]) (st := []) (h := hX σ) rfl (fun c1 => ?_) (fun c1 => ?_)
  · rw [if_pos c1] at hf
    cases hf
    exact ev_rt 1 rfl
  · rw [if_neg c1] at hf
    obtain ⟨r2, hr2, hf⟩ := Option.bind_eq_some_iff.mp hf
    refine ev_cli 2 (kk := 113) (as := [.int (v2), .int ((3 : Int32))]) (rest := []) (pc := 16) (ls := [some (.ref 0), some (.int (v1)), some (.int (v2))]) (st := [.int ((3 : Int32)), .int (v2)]) (h := hX σ) rfl (tX11_isWithin (d + 1) (hX σ) v2 (3 : Int32) r2 hr2) ?_
    refine ev_br 0 (P := r2 = 0) (a := 22) (b := 25) (ls := [some (.ref 0), some (.int (v1)), some (.int (v2))]) (st := []) (h := hX σ) rfl (fun c2 => ?_) (fun c2 => ?_)
    · rw [if_pos c2] at hf
      cases hf
      exact ev_rt 1 rfl
    · rw [if_neg c2] at hf
      obtain ⟨r3, hr3, hf⟩ := Option.bind_eq_some_iff.mp hf
      refine ev_clv 4 (kk := 19) (as := [.ref 8, .int (v1), .int (v2)]) (rest := []) (pc := 31) (ls := [some (.ref 0), some (.int (v1)), some (.int (v2))]) (st := [.int (v2), .int (v1), .ref 8]) (h := hX σ) rfl (tX4_putHim d σ v1 v2 r3 hr3) ?_
      cases hf
      exact ev_rt 1 rfl
set_option maxRecDepth 20000 in
set_option maxHeartbeats 4000000 in
theorem tX11_lost (d : Nat) (σ : SX) (q : Int32 × SX) (hf : fX11_lost σ = some q) : ev_M ev_mt (d + 3) 87 [.ref 0] (hX σ) (some (.int q.1), hX q.2) := by
  refine ev_en (rt := (some .int)) (I := eiX11_lost) rfl (Nat.le_of_ble_eq_true rfl) ?_
  change ev_X (d + 2) _ _ (0, [some (.ref 0)], [], hX σ) _
  unfold fX11_lost at hf
  obtain ⟨r1, hr1, hf⟩ := Option.bind_eq_some_iff.mp hf
  refine ev_cli 2 (kk := 56) (as := [.ref 3]) (rest := []) (pc := 4) (ls := [some (.ref 0)]) (st := [.ref 3]) (h := hX σ) rfl (tX7_isRead (d + 1) σ r1 hr1) ?_
  refine ev_br 0 (P := r1 = 0) (a := 10) (b := 13) (ls := [some (.ref 0)]) (st := []) (h := hX σ) rfl (fun c1 => ?_) (fun c1 => ?_)
  · rw [if_pos c1] at hf
    cases hf
    exact ev_rt 1 rfl
  · rw [if_neg c1] at hf
    obtain ⟨r2, hr2, hf⟩ := Option.bind_eq_some_iff.mp hf
    refine ev_clv 2 (kk := 20) (as := [.ref 8]) (rest := []) (pc := 17) (ls := [some (.ref 0)]) (st := [.ref 8]) (h := hX σ) rfl (tX4_loseHim d σ r2 hr2) ?_
    obtain ⟨r3, hr3, hf⟩ := Option.bind_eq_some_iff.mp hf
    refine ev_cli 2 (kk := 23) (as := [.ref 8]) (rest := []) (pc := 24) (ls := [some (.ref 0)]) (st := [.ref 8]) (h := hX r2) rfl (tX4_aboveNought (d + 1) r2 r3 hr3) ?_
    cases hf
    exact ev_rt 0 rfl
set_option maxRecDepth 20000 in
set_option maxHeartbeats 4000000 in
theorem tX11_turned (d : Nat) (σ : SX) (v1 : Int32) (q : Int32 × SX) (hf : fX11_turned σ v1 = some q) : ev_M ev_mt (d + 4) 88 [.ref 0, .int (v1)] (hX σ) (some (.int q.1), hX q.2) := by
  refine ev_en (rt := (some .int)) (I := eiX11_turned) rfl (Nat.le_of_ble_eq_true rfl) ?_
  change ev_X (d + 3) _ _ (0, [some (.ref 0), some (.int (v1))], [], hX σ) _
  unfold fX11_turned at hf
  obtain ⟨r1, hr1, hf⟩ := Option.bind_eq_some_iff.mp hf
  refine ev_cli 2 (kk := 56) (as := [.ref 3]) (rest := []) (pc := 4) (ls := [some (.ref 0), some (.int (v1))]) (st := [.ref 3]) (h := hX σ) rfl (tX7_isRead (d + 2) σ r1 hr1) ?_
  refine ev_br 0 (P := r1 = 0) (a := 10) (b := 13) (ls := [some (.ref 0), some (.int (v1))]) (st := []) (h := hX σ) rfl (fun c1 => ?_) (fun c1 => ?_)
  · rw [if_pos c1] at hf
    cases hf
    exact ev_rt 1 rfl
  · rw [if_neg c1] at hf
    obtain ⟨r2, hr2, hf⟩ := Option.bind_eq_some_iff.mp hf
    refine ev_cli 2 (kk := 113) (as := [.int (v1), .int ((5 : Int32))]) (rest := []) (pc := 15) (ls := [some (.ref 0), some (.int (v1))]) (st := [.int ((5 : Int32)), .int (v1)]) (h := hX σ) rfl (tX11_isWithin (d + 2) (hX σ) v1 (5 : Int32) r2 hr2) ?_
    refine ev_br 0 (P := r2 = 0) (a := 21) (b := 24) (ls := [some (.ref 0), some (.int (v1))]) (st := []) (h := hX σ) rfl (fun c2 => ?_) (fun c2 => ?_)
    · rw [if_pos c2] at hf
      cases hf
      exact ev_rt 1 rfl
    · rw [if_neg c2] at hf
      refine ev_br 4 (P := (gx_od_updates σ) < (9 : Int32)) (a := 39) (b := 36) (ls := [some (.ref 0), some (.int (v1))]) (st := []) (h := hX σ) rfl (fun c3 => ?_) (fun c3 => ?_)
      · rw [if_pos c3] at hf
        obtain ⟨r3, hr3, hf⟩ := Option.bind_eq_some_iff.mp hf
        refine ev_clv 3 (kk := 29) (as := [.ref 8, .int (v1)]) (rest := []) (pc := 44) (ls := [some (.ref 0), some (.int (v1))]) (st := [.int (v1), .ref 8]) (h := hX σ) rfl (tX4_foretellTurn d σ v1 r3 hr3) ?_
        obtain ⟨r4, hr4, hf⟩ := Option.bind_eq_some_iff.mp hf
        refine ev_cli 3 (kk := 36) (as := [.ref 8, .int ((0 : Int32))]) (rest := []) (pc := 52) (ls := [some (.ref 0), some (.int (v1))]) (st := [.int ((0 : Int32)), .ref 8]) (h := hX r3) rfl (tX4_narrowTo (d + 1) r3 (0 : Int32) r4 hr4) ?_
        cases hf
        exact ev_rt 0 rfl
      · rw [if_neg c3] at hf
        cases hf
        exact ev_rt 1 rfl
set_option maxRecDepth 20000 in
set_option maxHeartbeats 4000000 in
theorem tX11_step_b29 (d : Nat) (σ : SX) (q : Int32 × SX) (hf : fX11_step_b29 σ = some q) : ev_X (d + 3) (some .int) eiX11_step (29, [none, none, none], [], hX σ) (some (.int q.1), hX q.2) := by
  unfold fX11_step_b29 at hf
  cases hf
  exact ev_rt 1 rfl
set_option maxRecDepth 20000 in
set_option maxHeartbeats 4000000 in
theorem tX11_step (d : Nat) (σ : SX) (v1 : Int32) (v2 : Int32) (q : Int32 × SX) (hf : fX11_step σ v1 v2 = some q) : ev_M ev_mt (d + 4) 89 [.ref 0, .int (v1), .int (v2)] (hX σ) (some (.int q.1), hX q.2) := by
  refine ev_en (rt := (some .int)) (I := eiX11_step) rfl (Nat.le_of_ble_eq_true rfl) ?_
  change ev_X (d + 3) _ _ (0, [some (.ref 0), some (.int (v1)), some (.int (v2))], [], hX σ) _
  unfold fX11_step at hf
  obtain ⟨r1, hr1, hf⟩ := Option.bind_eq_some_iff.mp hf
  refine ev_cli 2 (kk := 56) (as := [.ref 3]) (rest := []) (pc := 4) (ls := [some (.ref 0), some (.int (v1)), some (.int (v2))]) (st := [.ref 3]) (h := hX σ) rfl (tX7_isRead (d + 2) σ r1 hr1) ?_
  refine ev_br 0 (P := r1 = 0) (a := 10) (b := 13) (ls := [some (.ref 0), some (.int (v1)), some (.int (v2))]) (st := []) (h := hX σ) rfl (fun c1 => ?_) (fun c1 => ?_)
  · rw [if_pos c1] at hf
    cases hf
    exact ev_rt 1 rfl
  · rw [if_neg c1] at hf
    obtain ⟨r2, hr2, hf⟩ := Option.bind_eq_some_iff.mp hf
    refine ev_cli 2 (kk := 113) (as := [.int (v1), .int ((5 : Int32))]) (rest := []) (pc := 15) (ls := [some (.ref 0), some (.int (v1)), some (.int (v2))]) (st := [.int ((5 : Int32)), .int (v1)]) (h := hX σ) rfl (tX11_isWithin (d + 2) (hX σ) v1 (5 : Int32) r2 hr2) ?_
    refine ev_br 0 (P := r2 = 0) (a := 29) (b := 21) (ls := [some (.ref 0), some (.int (v1)), some (.int (v2))]) (st := []) (h := hX σ) rfl (fun c2 => ?_) (fun c2 => ?_)
    · rw [if_pos c2] at hf
      exact ev_dr (a := [none, none, none]) trivial (tX11_step_b29 d σ  _ hf)
    · rw [if_neg c2] at hf
      obtain ⟨r3, hr3, hf⟩ := Option.bind_eq_some_iff.mp hf
      refine ev_cli 2 (kk := 113) (as := [.int (v2), .int ((3 : Int32))]) (rest := []) (pc := 23) (ls := [some (.ref 0), some (.int (v1)), some (.int (v2))]) (st := [.int ((3 : Int32)), .int (v2)]) (h := hX σ) rfl (tX11_isWithin (d + 2) (hX σ) v2 (3 : Int32) r3 hr3) ?_
      refine ev_br 0 (P := r3 = 0) (a := 29) (b := 32) (ls := [some (.ref 0), some (.int (v1)), some (.int (v2))]) (st := []) (h := hX σ) rfl (fun c3 => ?_) (fun c3 => ?_)
      · rw [if_pos c3] at hf
        exact ev_dr (a := [none, none, none]) trivial (tX11_step_b29 d σ  _ hf)
      · rw [if_neg c3] at hf
        refine ev_br 4 (P := (gx_od_updates σ) < (9 : Int32)) (a := 47) (b := 44) (ls := [some (.ref 0), some (.int (v1)), some (.int (v2))]) (st := []) (h := hX σ) rfl (fun c4 => ?_) (fun c4 => ?_)
        · rw [if_pos c4] at hf
          obtain ⟨r4, hr4, hf⟩ := Option.bind_eq_some_iff.mp hf
          refine ev_clv 5 (kk := 30) (as := [.ref 8, .int ((0 : Int32)), .int (v1), .int ((-1 : Int32))]) (rest := []) (pc := 54) (ls := [some (.ref 0), some (.int (v1)), some (.int (v2))]) (st := [.int ((-1 : Int32)), .int (v1), .int ((0 : Int32)), .ref 8]) (h := hX σ) rfl (tX4_foretellStep d σ (0 : Int32) v1 (-1 : Int32) r4 hr4) ?_
          obtain ⟨r5, hr5, hf⟩ := Option.bind_eq_some_iff.mp hf
          refine ev_cli 3 (kk := 36) (as := [.ref 8, .int (v2)]) (rest := []) (pc := 62) (ls := [some (.ref 0), some (.int (v1)), some (.int (v2))]) (st := [.int (v2), .ref 8]) (h := hX r4) rfl (tX4_narrowTo (d + 1) r4 v2 r5 hr5) ?_
          cases hf
          exact ev_rt 0 rfl
        · rw [if_neg c4] at hf
          cases hf
          exact ev_rt 1 rfl
