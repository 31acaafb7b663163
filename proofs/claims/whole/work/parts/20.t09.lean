/-! X12_play X12_game X12_lasts X12_stand X12_feels X12_jackets X12_byCloth X12_likely X12_likelyAll X12_isFelt -/
set_option maxRecDepth 20000 in
set_option maxHeartbeats 4000000 in
theorem tX12_play_b122 (d : Nat) (σ : SM) (q : SM) (hf : fX12_play_b122 σ = some q) : ev_X (d + 5) none eiX12_play (122, [none, none, none, none, none, none, none], [], hM σ) (none, hM q) := by
  unfold fX12_play_b122 at hf
  cases hf
  exact ev_rt 0 rfl
set_option maxRecDepth 20000 in
set_option maxHeartbeats 4000000 in
theorem tX12_play_b113 (d : Nat) (k63 : SM → Int32 → Int32 → Int32 → Option (SM)) (hk63 : ∀ (σ : SM) (v3 : Int32) (v5 : Int32) (v6 : Int32) (q : SM), k63 σ v3 v5 v6 = some q → ev_X (d + 5) none eiX12_play (63, [some (.ref 0), none, none, some (.int (v3)), none, some (.int (v5)), some (.int (v6))], [], hM σ) (none, hM q)) (σ : SM) (v3 : Int32) (v5 : Int32) (v6 : Int32) (w0 : Int32) (q : SM) (hf : fX12_play_b113 k63 σ v3 v5 v6 w0 = some q) : ev_X (d + 5) none eiX12_play (113, [some (.ref 0), none, none, some (.int (v3)), none, some (.int (v5)), some (.int (v6))], [.int (w0), .ref 0], hM σ) (none, hM q) := by
  unfold fX12_play_b113 at hf
  refine ev_go (c' := (116, [some (.ref 0), none, none, some (.int (v3)), none, some (.int (v5)), some (.int (v6))], [], hM (sm_gm_touchedAt σ (w0)))) 0 rfl ?_
  refine ev_go (c' := (63, [some (.ref 0), none, none, some (.int (v3)), none, some (.int (v5)), some (.int ((v6 + (1 : Int32))))], [], hM (sm_gm_touchedAt σ (w0)))) 1 rfl ?_
  exact ev_dr (a := [some (.ref 0), none, none, some (.int (v3)), none, some (.int (v5)), some (.int ((v6 + (1 : Int32))))]) ⟨rfl, ⟨rfl, ⟨rfl, ⟨rfl, trivial⟩⟩⟩⟩ (hk63 (sm_gm_touchedAt σ (w0)) v3 v5 (v6 + (1 : Int32)) _ hf)
set_option maxRecDepth 20000 in
set_option maxHeartbeats 4000000 in
theorem tX12_play_b63 (d : Nat) (k63 : SM → Int32 → Int32 → Int32 → Option (SM)) (hk63 : ∀ (σ : SM) (v3 : Int32) (v5 : Int32) (v6 : Int32) (q : SM), k63 σ v3 v5 v6 = some q → ev_X (d + 5) none eiX12_play (63, [some (.ref 0), none, none, some (.int (v3)), none, some (.int (v5)), some (.int (v6))], [], hM σ) (none, hM q)) (σ : SM) (v3 : Int32) (v5 : Int32) (v6 : Int32) (q : SM) (hf : fX12_play_b63 k63 σ v3 v5 v6 = some q) : ev_X (d + 5) none eiX12_play (63, [some (.ref 0), none, none, some (.int (v3)), none, some (.int (v5)), some (.int (v6))], [], hM σ) (none, hM q) := by
  unfold fX12_play_b63 at hf
  refine ev_br 2 (P := v6 < v5) (a := 70) (b := 122) (ls := [some (.ref 0), none, none, some (.int (v3)), none, some (.int (v5)), some (.int (v6))]) (st := []) (h := hM σ) rfl (fun c1 => ?_) (fun c1 => ?_)
  · rw [if_pos c1] at hf
    refine ev_br 3 (P := (gm_gm_touched σ) = (-1 : Int32)) (a := 78) (b := 122) (ls := [some (.ref 0), none, none, some (.int (v3)), none, some (.int (v5)), some (.int (v6))]) (st := []) (h := hM σ) rfl (fun c2 => ?_) (fun c2 => ?_)
    · rw [if_pos c2] at hf
      obtain ⟨r1, hr1, hf⟩ := Option.bind_eq_some_iff.mp hf
      refine ev_clv 1 (kk := 177) (as := [.ref 0]) (rest := []) (pc := 79) (ls := [some (.ref 0), none, none, some (.int (v3)), none, some (.int (v5)), some (.int (v6))]) (st := [.ref 0]) (h := hM σ) rfl (tX12_goPlayers d σ r1 hr1) ?_
      obtain ⟨r2, hr2, hf⟩ := Option.bind_eq_some_iff.mp hf
      refine ev_clv 3 (kk := 180) (as := [.ref 0, .int (v6), .int (v3)]) (rest := []) (pc := 86) (ls := [some (.ref 0), none, none, some (.int (v3)), none, some (.int (v5)), some (.int (v6))]) (st := [.int (v3), .int (v6), .ref 0]) (h := hM r1) rfl (tX12_goHim (d + 1) r1 v6 v3 r2 hr2) ?_
      obtain ⟨r3, hr3, hf⟩ := Option.bind_eq_some_iff.mp hf
      refine ev_cli 2 (kk := 181) (as := [.ref 0]) (rest := [.ref 0]) (pc := 91) (ls := [some (.ref 0), none, none, some (.int (v3)), none, some (.int (v5)), some (.int (v6))]) (st := [.ref 0, .ref 0]) (h := hM r2) rfl (tX12_touchedNow (d + 3) r2 r3 hr3) ?_
      refine ev_go (c' := (97, [some (.ref 0), none, none, some (.int (v3)), none, some (.int (v5)), some (.int (v6))], [], hM (sm_gm_touched r3.2 (r3.1)))) 0 rfl ?_
      refine ev_br 4 (P := r3.1 = (-1 : Int32)) (a := 106) (b := 111) (ls := [some (.ref 0), none, none, some (.int (v3)), none, some (.int (v5)), some (.int (v6))]) (st := [.ref 0]) (h := hM (sm_gm_touched r3.2 (r3.1))) rfl (fun c3 => ?_) (fun c3 => ?_)
      · rw [if_pos c3] at hf
        refine ev_go (c' := (113, [some (.ref 0), none, none, some (.int (v3)), none, some (.int (v5)), some (.int (v6))], [.int (v5), .ref 0], hM (sm_gm_touched r3.2 (r3.1)))) 1 rfl ?_
        exact ev_dr (a := [some (.ref 0), none, none, some (.int (v3)), none, some (.int (v5)), some (.int (v6))]) ⟨rfl, ⟨rfl, ⟨rfl, ⟨rfl, trivial⟩⟩⟩⟩ (tX12_play_b113 d k63 hk63 (sm_gm_touched r3.2 (r3.1)) v3 v5 v6 v5 _ hf)
      · rw [if_neg c3] at hf
        refine ev_go (c' := (113, [some (.ref 0), none, none, some (.int (v3)), none, some (.int (v5)), some (.int (v6))], [.int (v6), .ref 0], hM (sm_gm_touched r3.2 (r3.1)))) 0 rfl ?_
        exact ev_dr (a := [some (.ref 0), none, none, some (.int (v3)), none, some (.int (v5)), some (.int (v6))]) ⟨rfl, ⟨rfl, ⟨rfl, ⟨rfl, trivial⟩⟩⟩⟩ (tX12_play_b113 d k63 hk63 (sm_gm_touched r3.2 (r3.1)) v3 v5 v6 v6 _ hf)
    · rw [if_neg c2] at hf
      exact ev_dr (a := [none, none, none, none, none, none, none]) trivial (tX12_play_b122 d σ  _ hf)
  · rw [if_neg c1] at hf
    exact ev_dr (a := [none, none, none, none, none, none, none]) trivial (tX12_play_b122 d σ  _ hf)
theorem tX12_play_l63 (d : Nat) : ∀ (n : Nat) (σ : SM) (v3 : Int32) (v5 : Int32) (v6 : Int32) (q : SM), fX12_play_l63 n σ v3 v5 v6 = some q → ev_X (d + 5) none eiX12_play (63, [some (.ref 0), none, none, some (.int (v3)), none, some (.int (v5)), some (.int (v6))], [], hM σ) (none, hM q)
  | 0, _, _, _, _, _, hf => by cases hf
  | n + 1, σ, v3, v5, v6, q, hf => tX12_play_b63 d (fX12_play_l63 n) (fun σ v3 v5 v6 q h9 => tX12_play_l63 d n σ v3 v5 v6 q h9) σ v3 v5 v6 q hf
set_option maxRecDepth 20000 in
set_option maxHeartbeats 4000000 in
theorem tX12_play_b31 (d : Nat) (k31 : SM → Int32 → Int32 → Int32 → Option (SM)) (hk31 : ∀ (σ : SM) (v3 : Int32) (v5 : Int32) (v6 : Int32) (q : SM), k31 σ v3 v5 v6 = some q → ev_X (d + 5) none eiX12_play (31, [some (.ref 0), none, none, some (.int (v3)), none, some (.int (v5)), some (.int (v6))], [], hM σ) (none, hM q)) (σ : SM) (v3 : Int32) (v5 : Int32) (v6 : Int32) (q : SM) (hf : fX12_play_b31 k31 σ v3 v5 v6 = some q) : ev_X (d + 5) none eiX12_play (31, [some (.ref 0), none, none, some (.int (v3)), none, some (.int (v5)), some (.int (v6))], [], hM σ) (none, hM q) := by
  unfold fX12_play_b31 at hf
  refine ev_br 3 (P := v6 < (gm_pl_players σ)) (a := 40) (b := 60) (ls := [some (.ref 0), none, none, some (.int (v3)), none, some (.int (v5)), some (.int (v6))]) (st := []) (h := hM σ) rfl (fun c1 => ?_) (fun c1 => ?_)
  · rw [if_pos c1] at hf
    obtain ⟨c2, hf⟩ := ev_hp hf
    refine ev_ck 6 (P := ¬ (v6 < 0 ∨ 6 ≤ v6.toNatClampNeg)) (c' := (53, [some (.ref 0), none, none, some (.int (v3)), none, some (.int (v5)), some (.int (v6))], [.int (((gm_pl_placeOf σ) v6.toNatClampNeg)), .int (v6), .ref 13], hM σ)) rfl c2 ?_
    obtain ⟨c3, hf⟩ := ev_hp hf
    refine ev_ck 0 (P := ¬ (v6 < 0 ∨ 6 ≤ v6.toNatClampNeg)) (c' := (54, [some (.ref 0), none, none, some (.int (v3)), none, some (.int (v5)), some (.int (v6))], [], hM (sm_gm_place σ (upd (gm_gm_place σ) v6.toNatClampNeg ((gm_pl_placeOf σ) v6.toNatClampNeg))))) rfl c3 ?_
    refine ev_go (c' := (31, [some (.ref 0), none, none, some (.int (v3)), none, some (.int (v5)), some (.int ((v6 + (1 : Int32))))], [], hM (sm_gm_place σ (upd (gm_gm_place σ) v6.toNatClampNeg ((gm_pl_placeOf σ) v6.toNatClampNeg))))) 1 rfl ?_
    exact ev_dr (a := [some (.ref 0), none, none, some (.int (v3)), none, some (.int (v5)), some (.int ((v6 + (1 : Int32))))]) ⟨rfl, ⟨rfl, ⟨rfl, ⟨rfl, trivial⟩⟩⟩⟩ (hk31 (sm_gm_place σ (upd (gm_gm_place σ) v6.toNatClampNeg ((gm_pl_placeOf σ) v6.toNatClampNeg))) v3 v5 (v6 + (1 : Int32)) _ hf)
  · rw [if_neg c1] at hf
    refine ev_go (c' := (63, [some (.ref 0), none, none, some (.int (v3)), none, some (.int (v5)), some (.int ((0 : Int32)))], [], hM σ)) 1 rfl ?_
    exact ev_dr (a := [some (.ref 0), none, none, some (.int (v3)), none, some (.int (v5)), some (.int ((0 : Int32)))]) ⟨rfl, ⟨rfl, ⟨rfl, ⟨rfl, trivial⟩⟩⟩⟩ (tX12_play_l63 d 1000 σ v3 v5 (0 : Int32) _ hf)
theorem tX12_play_l31 (d : Nat) : ∀ (n : Nat) (σ : SM) (v3 : Int32) (v5 : Int32) (v6 : Int32) (q : SM), fX12_play_l31 n σ v3 v5 v6 = some q → ev_X (d + 5) none eiX12_play (31, [some (.ref 0), none, none, some (.int (v3)), none, some (.int (v5)), some (.int (v6))], [], hM σ) (none, hM q)
  | 0, _, _, _, _, _, hf => by cases hf
  | n + 1, σ, v3, v5, v6, q, hf => tX12_play_b31 d (fX12_play_l31 n) (fun σ v3 v5 v6 q h9 => tX12_play_l31 d n σ v3 v5 v6 q h9) σ v3 v5 v6 q hf
set_option maxRecDepth 20000 in
set_option maxHeartbeats 4000000 in
theorem tX12_play (d : Nat) (σ : SM) (v1 : Int32) (v2 : Int32) (v3 : Int32) (v4 : Int32) (v5 : Int32) (q : SM) (hf : fX12_play σ v1 v2 v3 v4 v5 = some q) : ev_M ev_mt (d + 6) 182 [.ref 0, .int (v1), .int (v2), .int (v3), .int (v4), .int (v5)] (hM σ) (none, hM q) := by
  refine ev_en (rt := none) (I := eiX12_play) rfl (Nat.le_of_ble_eq_true rfl) ?_
  change ev_X (d + 5) _ _ (0, [some (.ref 0), some (.int (v1)), some (.int (v2)), some (.int (v3)), some (.int (v4)), some (.int (v5)), none], [], hM σ) _
  unfold fX12_play at hf
  refine ev_go (c' := (5, [some (.ref 0), some (.int (v1)), some (.int (v2)), some (.int (v3)), some (.int (v4)), some (.int (v5)), none], [], hM (sm_gm_his σ (v1)))) 2 rfl ?_
  refine ev_go (c' := (10, [some (.ref 0), some (.int (v1)), some (.int (v2)), some (.int (v3)), some (.int (v4)), some (.int (v5)), none], [], hM (sm_gm_looks (sm_gm_his σ (v1)) (v2)))) 2 rfl ?_
  refine ev_go (c' := (17, [some (.ref 0), some (.int (v1)), some (.int (v2)), some (.int (v3)), some (.int (v4)), some (.int (v5)), none], [], hM (sm_gm_seedNow (sm_gm_looks (sm_gm_his σ (v1)) (v2)) (v4.toInt64)))) 3 rfl ?_
  refine ev_go (c' := (22, [some (.ref 0), some (.int (v1)), some (.int (v2)), some (.int (v3)), some (.int (v4)), some (.int (v5)), none], [], hM (sm_gm_touched (sm_gm_seedNow (sm_gm_looks (sm_gm_his σ (v1)) (v2)) (v4.toInt64)) (-1 : Int32)))) 2 rfl ?_
  refine ev_go (c' := (28, [some (.ref 0), some (.int (v1)), some (.int (v2)), some (.int (v3)), some (.int (v4)), some (.int (v5)), none], [], hM (sm_gm_touchedAt (sm_gm_touched (sm_gm_seedNow (sm_gm_looks (sm_gm_his σ (v1)) (v2)) (v4.toInt64)) (-1 : Int32)) (v5)))) 2 rfl ?_
  refine ev_go (c' := (31, [some (.ref 0), some (.int (v1)), some (.int (v2)), some (.int (v3)), some (.int (v4)), some (.int (v5)), some (.int ((0 : Int32)))], [], hM (sm_gm_touchedAt (sm_gm_touched (sm_gm_seedNow (sm_gm_looks (sm_gm_his σ (v1)) (v2)) (v4.toInt64)) (-1 : Int32)) (v5)))) 1 rfl ?_
  exact ev_dr (a := [some (.ref 0), none, none, some (.int (v3)), none, some (.int (v5)), some (.int ((0 : Int32)))]) ⟨rfl, ⟨rfl, ⟨rfl, ⟨rfl, trivial⟩⟩⟩⟩ (tX12_play_l31 d 1000 (sm_gm_touchedAt (sm_gm_touched (sm_gm_seedNow (sm_gm_looks (sm_gm_his σ (v1)) (v2)) (v4.toInt64)) (-1 : Int32)) (v5)) v3 v5 (0 : Int32) _ hf)
set_option maxRecDepth 20000 in
set_option maxHeartbeats 4000000 in
theorem tX12_game_b112 (d : Nat) (σ : SM) (w0 : Int32) (q : Int32 × SM) (hf : fX12_game_b112 σ w0 = some q) : ev_X (d + 6) (some .int) eiX12_game (112, [none, none, none, none, none, none, none], [.int (w0)], hM σ) (some (.int q.1), hM q.2) := by
  unfold fX12_game_b112 at hf
  cases hf
  exact ev_rt 0 rfl
set_option maxRecDepth 20000 in
set_option maxHeartbeats 4000000 in
theorem tX12_game_b55 (d : Nat) (σ : SM) (q : Int32 × SM) (hf : fX12_game_b55 σ = some q) : ev_X (d + 6) (some .int) eiX12_game (55, [none, none, none, none, none, none, none], [], hM σ) (some (.int q.1), hM q.2) := by
  unfold fX12_game_b55 at hf
  cases hf
  exact ev_rt 1 rfl
set_option maxRecDepth 20000 in
set_option maxHeartbeats 4000000 in
theorem tX12_game (d : Nat) (σ : SM) (v1 : Int32) (v2 : Int32) (v3 : Int32) (v4 : Int32) (v5 : Int32) (v6 : Int32) (q : Int32 × SM) (hf : fX12_game σ v1 v2 v3 v4 v5 v6 = some q) : ev_M ev_mt (d + 7) 183 [.ref 0, .int (v1), .int (v2), .int (v3), .int (v4), .int (v5), .int (v6)] (hM σ) (some (.int q.1), hM q.2) := by
  refine ev_en (rt := (some .int)) (I := eiX12_game) rfl (Nat.le_of_ble_eq_true rfl) ?_
  change ev_X (d + 6) _ _ (0, [some (.ref 0), some (.int (v1)), some (.int (v2)), some (.int (v3)), some (.int (v4)), some (.int (v5)), some (.int (v6))], [], hM σ) _
  unfold fX12_game at hf
  obtain ⟨r1, hr1, hf⟩ := Option.bind_eq_some_iff.mp hf
  refine ev_cli 2 (kk := 135) (as := [.ref 0, .int (v1)]) (rest := []) (pc := 2) (ls := [some (.ref 0), some (.int (v1)), some (.int (v2)), some (.int (v3)), some (.int (v4)), some (.int (v5)), some (.int (v6))]) (st := [.int (v1), .ref 0]) (h := hM σ) rfl (tX12_isFree (d + 3) σ v1 r1 hr1) ?_
  refine ev_br 0 (P := r1 = 0) (a := 8) (b := 11) (ls := [some (.ref 0), some (.int (v1)), some (.int (v2)), some (.int (v3)), some (.int (v4)), some (.int (v5)), some (.int (v6))]) (st := []) (h := hM σ) rfl (fun c1 => ?_) (fun c1 => ?_)
  · rw [if_pos c1] at hf
    cases hf
    exact ev_rt 1 rfl
  · rw [if_neg c1] at hf
    obtain ⟨r2, hr2, hf⟩ := Option.bind_eq_some_iff.mp hf
    refine ev_cli 1 (kk := 138) (as := [.int (v2)]) (rest := []) (pc := 12) (ls := [some (.ref 0), some (.int (v1)), some (.int (v2)), some (.int (v3)), some (.int (v4)), some (.int (v5)), some (.int (v6))]) (st := [.int (v2)]) (h := hM σ) rfl (tX12_isWay (d + 4) (hM σ) v2 r2 hr2) ?_
    refine ev_br 0 (P := r2 = 0) (a := 55) (b := 18) (ls := [some (.ref 0), some (.int (v1)), some (.int (v2)), some (.int (v3)), some (.int (v4)), some (.int (v5)), some (.int (v6))]) (st := []) (h := hM σ) rfl (fun c2 => ?_) (fun c2 => ?_)
    · rw [if_pos c2] at hf
      exact ev_dr (a := [none, none, none, none, none, none, none]) trivial (tX12_game_b55 d σ  _ hf)
    · rw [if_neg c2] at hf
      obtain ⟨r3, hr3, hf⟩ := Option.bind_eq_some_iff.mp hf
      refine ev_cli 3 (kk := 123) (as := [.int (v3), .int ((0 : Int32)), .int ((9 : Int32))]) (rest := []) (pc := 22) (ls := [some (.ref 0), some (.int (v1)), some (.int (v2)), some (.int (v3)), some (.int (v4)), some (.int (v5)), some (.int (v6))]) (st := [.int ((9 : Int32)), .int ((0 : Int32)), .int (v3)]) (h := hM σ) rfl (tX12_within (d + 5) (hM σ) v3 (0 : Int32) (9 : Int32) r3 hr3) ?_
      refine ev_br 0 (P := r3 = 0) (a := 55) (b := 28) (ls := [some (.ref 0), some (.int (v1)), some (.int (v2)), some (.int (v3)), some (.int (v4)), some (.int (v5)), some (.int (v6))]) (st := []) (h := hM σ) rfl (fun c3 => ?_) (fun c3 => ?_)
      · rw [if_pos c3] at hf
        exact ev_dr (a := [none, none, none, none, none, none, none]) trivial (tX12_game_b55 d σ  _ hf)
      · rw [if_neg c3] at hf
        refine ev_br 1 (P := v4 < 0) (a := 55) (b := 33) (ls := [some (.ref 0), some (.int (v1)), some (.int (v2)), some (.int (v3)), some (.int (v4)), some (.int (v5)), some (.int (v6))]) (st := []) (h := hM σ) rfl (fun c4 => ?_) (fun c4 => ?_)
        · rw [if_pos c4] at hf
          exact ev_dr (a := [none, none, none, none, none, none, none]) trivial (tX12_game_b55 d σ  _ hf)
        · rw [if_neg c4] at hf
          obtain ⟨r4, hr4, hf⟩ := Option.bind_eq_some_iff.mp hf
          refine ev_cli 3 (kk := 123) (as := [.int (v5), .int ((1 : Int32)), .int ((200 : Int32))]) (rest := []) (pc := 39) (ls := [some (.ref 0), some (.int (v1)), some (.int (v2)), some (.int (v3)), some (.int (v4)), some (.int (v5)), some (.int (v6))]) (st := [.int ((200 : Int32)), .int ((1 : Int32)), .int (v5)]) (h := hM σ) rfl (tX12_within (d + 5) (hM σ) v5 (1 : Int32) (200 : Int32) r4 hr4) ?_
          refine ev_br 0 (P := r4 = 0) (a := 55) (b := 45) (ls := [some (.ref 0), some (.int (v1)), some (.int (v2)), some (.int (v3)), some (.int (v4)), some (.int (v5)), some (.int (v6))]) (st := []) (h := hM σ) rfl (fun c5 => ?_) (fun c5 => ?_)
          · rw [if_pos c5] at hf
            exact ev_dr (a := [none, none, none, none, none, none, none]) trivial (tX12_game_b55 d σ  _ hf)
          · rw [if_neg c5] at hf
            obtain ⟨r5, hr5, hf⟩ := Option.bind_eq_some_iff.mp hf
            refine ev_cli 3 (kk := 123) (as := [.int (v6), .int ((0 : Int32)), .int ((3 : Int32))]) (rest := []) (pc := 49) (ls := [some (.ref 0), some (.int (v1)), some (.int (v2)), some (.int (v3)), some (.int (v4)), some (.int (v5)), some (.int (v6))]) (st := [.int ((3 : Int32)), .int ((0 : Int32)), .int (v6)]) (h := hM σ) rfl (tX12_within (d + 5) (hM σ) v6 (0 : Int32) (3 : Int32) r5 hr5) ?_
            refine ev_br 0 (P := r5 = 0) (a := 55) (b := 58) (ls := [some (.ref 0), some (.int (v1)), some (.int (v2)), some (.int (v3)), some (.int (v4)), some (.int (v5)), some (.int (v6))]) (st := []) (h := hM σ) rfl (fun c6 => ?_) (fun c6 => ?_)
            · rw [if_pos c6] at hf
              exact ev_dr (a := [none, none, none, none, none, none, none]) trivial (tX12_game_b55 d σ  _ hf)
            · rw [if_neg c6] at hf
              obtain ⟨r6, hr6, hf⟩ := Option.bind_eq_some_iff.mp hf
              refine ev_clv 6 (kk := 182) (as := [.ref 0, .int (v1), .int (v2), .int (v3), .int (v4), .int (v5)]) (rest := []) (pc := 66) (ls := [some (.ref 0), some (.int (v1)), some (.int (v2)), some (.int (v3)), some (.int (v4)), some (.int (v5)), some (.int (v6))]) (st := [.int (v5), .int (v4), .int (v3), .int (v2), .int (v1), .ref 0]) (h := hM σ) rfl (tX12_play d σ v1 v2 v3 v4 v5 r6 hr6) ?_
              refine ev_br 1 (P := v6 = 0) (a := 74) (b := 81) (ls := [some (.ref 0), some (.int (v1)), some (.int (v2)), some (.int (v3)), some (.int (v4)), some (.int (v5)), some (.int (v6))]) (st := []) (h := hM r6) rfl (fun c7 => ?_) (fun c7 => ?_)
              · rw [if_pos c7] at hf
                refine ev_go (c' := (112, [some (.ref 0), some (.int (v1)), some (.int (v2)), some (.int (v3)), some (.int (v4)), some (.int (v5)), some (.int (v6))], [.int ((gm_gm_touched r6))], hM r6)) 2 rfl ?_
                exact ev_dr (a := [none, none, none, none, none, none, none]) trivial (tX12_game_b112 d r6 (gm_gm_touched r6) _ hf)
              · rw [if_neg c7] at hf
                refine ev_br 2 (P := v6 = (1 : Int32)) (a := 87) (b := 94) (ls := [some (.ref 0), some (.int (v1)), some (.int (v2)), some (.int (v3)), some (.int (v4)), some (.int (v5)), some (.int (v6))]) (st := []) (h := hM r6) rfl (fun c8 => ?_) (fun c8 => ?_)
                · rw [if_pos c8] at hf
                  refine ev_go (c' := (112, [some (.ref 0), some (.int (v1)), some (.int (v2)), some (.int (v3)), some (.int (v4)), some (.int (v5)), some (.int (v6))], [.int ((gm_gm_touchedAt r6))], hM r6)) 2 rfl ?_
                  exact ev_dr (a := [none, none, none, none, none, none, none]) trivial (tX12_game_b112 d r6 (gm_gm_touchedAt r6) _ hf)
                · rw [if_neg c8] at hf
                  refine ev_br 2 (P := v6 = (2 : Int32)) (a := 100) (b := 107) (ls := [some (.ref 0), some (.int (v1)), some (.int (v2)), some (.int (v3)), some (.int (v4)), some (.int (v5)), some (.int (v6))]) (st := []) (h := hM r6) rfl (fun c9 => ?_) (fun c9 => ?_)
                  · rw [if_pos c9] at hf
                    refine ev_go (c' := (112, [some (.ref 0), some (.int (v1)), some (.int (v2)), some (.int (v3)), some (.int (v4)), some (.int (v5)), some (.int (v6))], [.int ((gm_gm_his r6))], hM r6)) 2 rfl ?_
                    exact ev_dr (a := [none, none, none, none, none, none, none]) trivial (tX12_game_b112 d r6 (gm_gm_his r6) _ hf)
                  · rw [if_neg c9] at hf
                    refine ev_go (c' := (112, [some (.ref 0), some (.int (v1)), some (.int (v2)), some (.int (v3)), some (.int (v4)), some (.int (v5)), some (.int (v6))], [.int ((gm_gm_seedNow r6).toInt32)], hM r6)) 2 rfl ?_
                    exact ev_dr (a := [none, none, none, none, none, none, none]) trivial (tX12_game_b112 d r6 ((gm_gm_seedNow r6).toInt32) _ hf)
set_option maxRecDepth 20000 in
set_option maxHeartbeats 4000000 in
theorem tX12_lasts_b93 (d : Nat) (k60 : SM → Int32 → Int32 → Int32 → Int32 → Int32 → Int32 → Int32 → Option (Int32 × SM)) (hk60 : ∀ (σ : SM) (v1 : Int32) (v2 : Int32) (v3 : Int32) (v4 : Int32) (v5 : Int32) (v6 : Int32) (v7 : Int32) (q : Int32 × SM), k60 σ v1 v2 v3 v4 v5 v6 v7 = some q → ev_X (d + 6) (some .int) eiX12_lasts (60, [some (.ref 0), some (.int (v1)), some (.int (v2)), some (.int (v3)), some (.int (v4)), some (.int (v5)), some (.int (v6)), some (.int (v7))], [], hM σ) (some (.int q.1), hM q.2)) (σ : SM) (v1 : Int32) (v2 : Int32) (v3 : Int32) (v4 : Int32) (v5 : Int32) (v7 : Int32) (w0 : Int32) (w1 : Int32) (q : Int32 × SM) (hf : fX12_lasts_b93 k60 σ v1 v2 v3 v4 v5 v7 w0 w1 = some q) : ev_X (d + 6) (some .int) eiX12_lasts (93, [some (.ref 0), some (.int (v1)), some (.int (v2)), some (.int (v3)), some (.int (v4)), some (.int (v5)), none, some (.int (v7))], [.int (w0), .int (w1)], hM σ) (some (.int q.1), hM q.2) := by
  unfold fX12_lasts_b93 at hf
  refine ev_go (c' := (60, [some (.ref 0), some (.int (v1)), some (.int (v2)), some (.int (v3)), some (.int (v4)), some (.int (v5)), some (.int ((w1 + w0))), some (.int ((v7 + (1 : Int32))))], [], hM σ)) 3 rfl ?_
  exact ev_dr (a := [some (.ref 0), some (.int (v1)), some (.int (v2)), some (.int (v3)), some (.int (v4)), some (.int (v5)), some (.int ((w1 + w0))), some (.int ((v7 + (1 : Int32))))]) ⟨rfl, ⟨rfl, ⟨rfl, ⟨rfl, ⟨rfl, ⟨rfl, ⟨rfl, ⟨rfl, trivial⟩⟩⟩⟩⟩⟩⟩⟩ (hk60 σ v1 v2 v3 v4 v5 (w1 + w0) (v7 + (1 : Int32)) _ hf)
set_option maxRecDepth 20000 in
set_option maxHeartbeats 4000000 in
theorem tX12_lasts_b60 (d : Nat) (k60 : SM → Int32 → Int32 → Int32 → Int32 → Int32 → Int32 → Int32 → Option (Int32 × SM)) (hk60 : ∀ (σ : SM) (v1 : Int32) (v2 : Int32) (v3 : Int32) (v4 : Int32) (v5 : Int32) (v6 : Int32) (v7 : Int32) (q : Int32 × SM), k60 σ v1 v2 v3 v4 v5 v6 v7 = some q → ev_X (d + 6) (some .int) eiX12_lasts (60, [some (.ref 0), some (.int (v1)), some (.int (v2)), some (.int (v3)), some (.int (v4)), some (.int (v5)), some (.int (v6)), some (.int (v7))], [], hM σ) (some (.int q.1), hM q.2)) (σ : SM) (v1 : Int32) (v2 : Int32) (v3 : Int32) (v4 : Int32) (v5 : Int32) (v6 : Int32) (v7 : Int32) (q : Int32 × SM) (hf : fX12_lasts_b60 k60 σ v1 v2 v3 v4 v5 v6 v7 = some q) : ev_X (d + 6) (some .int) eiX12_lasts (60, [some (.ref 0), some (.int (v1)), some (.int (v2)), some (.int (v3)), some (.int (v4)), some (.int (v5)), some (.int (v6)), some (.int (v7))], [], hM σ) (some (.int q.1), hM q.2) := by
  unfold fX12_lasts_b60 at hf
  refine ev_br 2 (P := v7 < v5) (a := 67) (b := 102) (ls := [some (.ref 0), some (.int (v1)), some (.int (v2)), some (.int (v3)), some (.int (v4)), some (.int (v5)), some (.int (v6)), some (.int (v7))]) (st := []) (h := hM σ) rfl (fun c1 => ?_) (fun c1 => ?_)
  · rw [if_pos c1] at hf
    obtain ⟨r6, hr6, hf⟩ := Option.bind_eq_some_iff.mp hf
    refine ev_clv 6 (kk := 182) (as := [.ref 0, .int (v1), .int (v2), .int (v3), .int (v7), .int (v4)]) (rest := []) (pc := 75) (ls := [some (.ref 0), some (.int (v1)), some (.int (v2)), some (.int (v3)), some (.int (v4)), some (.int (v5)), some (.int (v6)), some (.int (v7))]) (st := [.int (v4), .int (v7), .int (v3), .int (v2), .int (v1), .ref 0]) (h := hM σ) rfl (tX12_play d σ v1 v2 v3 v7 v4 r6 hr6) ?_
    refine ev_br 4 (P := (gm_gm_touched r6) = (-1 : Int32)) (a := 88) (b := 92) (ls := [some (.ref 0), some (.int (v1)), some (.int (v2)), some (.int (v3)), some (.int (v4)), some (.int (v5)), some (.int (v6)), some (.int (v7))]) (st := [.int (v6)]) (h := hM r6) rfl (fun c2 => ?_) (fun c2 => ?_)
    · rw [if_pos c2] at hf
      refine ev_go (c' := (93, [some (.ref 0), some (.int (v1)), some (.int (v2)), some (.int (v3)), some (.int (v4)), some (.int (v5)), some (.int (v6)), some (.int (v7))], [.int ((1 : Int32)), .int (v6)], hM r6)) 1 rfl ?_
      exact ev_dr (a := [some (.ref 0), some (.int (v1)), some (.int (v2)), some (.int (v3)), some (.int (v4)), some (.int (v5)), none, some (.int (v7))]) ⟨rfl, ⟨rfl, ⟨rfl, ⟨rfl, ⟨rfl, ⟨rfl, ⟨rfl, trivial⟩⟩⟩⟩⟩⟩⟩ (tX12_lasts_b93 d k60 hk60 r6 v1 v2 v3 v4 v5 v7 (1 : Int32) v6 _ hf)
    · rw [if_neg c2] at hf
      refine ev_go (c' := (93, [some (.ref 0), some (.int (v1)), some (.int (v2)), some (.int (v3)), some (.int (v4)), some (.int (v5)), some (.int (v6)), some (.int (v7))], [.int ((0 : Int32)), .int (v6)], hM r6)) 0 rfl ?_
      exact ev_dr (a := [some (.ref 0), some (.int (v1)), some (.int (v2)), some (.int (v3)), some (.int (v4)), some (.int (v5)), none, some (.int (v7))]) ⟨rfl, ⟨rfl, ⟨rfl, ⟨rfl, ⟨rfl, ⟨rfl, ⟨rfl, trivial⟩⟩⟩⟩⟩⟩⟩ (tX12_lasts_b93 d k60 hk60 r6 v1 v2 v3 v4 v5 v7 (0 : Int32) v6 _ hf)
  · rw [if_neg c1] at hf
    cases hf
    exact ev_rt 1 rfl
theorem tX12_lasts_l60 (d : Nat) : ∀ (n : Nat) (σ : SM) (v1 : Int32) (v2 : Int32) (v3 : Int32) (v4 : Int32) (v5 : Int32) (v6 : Int32) (v7 : Int32) (q : Int32 × SM), fX12_lasts_l60 n σ v1 v2 v3 v4 v5 v6 v7 = some q → ev_X (d + 6) (some .int) eiX12_lasts (60, [some (.ref 0), some (.int (v1)), some (.int (v2)), some (.int (v3)), some (.int (v4)), some (.int (v5)), some (.int (v6)), some (.int (v7))], [], hM σ) (some (.int q.1), hM q.2)
  | 0, _, _, _, _, _, _, _, _, _, hf => by cases hf
  | n + 1, σ, v1, v2, v3, v4, v5, v6, v7, q, hf => tX12_lasts_b60 d (fX12_lasts_l60 n) (fun σ v1 v2 v3 v4 v5 v6 v7 q h9 => tX12_lasts_l60 d n σ v1 v2 v3 v4 v5 v6 v7 q h9) σ v1 v2 v3 v4 v5 v6 v7 q hf
set_option maxRecDepth 20000 in
set_option maxHeartbeats 4000000 in
theorem tX12_lasts_b51 (d : Nat) (σ : SM) (q : Int32 × SM) (hf : fX12_lasts_b51 σ = some q) : ev_X (d + 6) (some .int) eiX12_lasts (51, [none, none, none, none, none, none, none, none], [], hM σ) (some (.int q.1), hM q.2) := by
  unfold fX12_lasts_b51 at hf
  cases hf
  exact ev_rt 1 rfl
set_option maxRecDepth 20000 in
set_option maxHeartbeats 4000000 in
theorem tX12_lasts (d : Nat) (σ : SM) (v1 : Int32) (v2 : Int32) (v3 : Int32) (v4 : Int32) (v5 : Int32) (q : Int32 × SM) (hf : fX12_lasts σ v1 v2 v3 v4 v5 = some q) : ev_M ev_mt (d + 7) 184 [.ref 0, .int (v1), .int (v2), .int (v3), .int (v4), .int (v5)] (hM σ) (some (.int q.1), hM q.2) := by
  refine ev_en (rt := (some .int)) (I := eiX12_lasts) rfl (Nat.le_of_ble_eq_true rfl) ?_
  change ev_X (d + 6) _ _ (0, [some (.ref 0), some (.int (v1)), some (.int (v2)), some (.int (v3)), some (.int (v4)), some (.int (v5)), none, none], [], hM σ) _
  unfold fX12_lasts at hf
  obtain ⟨r1, hr1, hf⟩ := Option.bind_eq_some_iff.mp hf
  refine ev_cli 2 (kk := 135) (as := [.ref 0, .int (v1)]) (rest := []) (pc := 2) (ls := [some (.ref 0), some (.int (v1)), some (.int (v2)), some (.int (v3)), some (.int (v4)), some (.int (v5)), none, none]) (st := [.int (v1), .ref 0]) (h := hM σ) rfl (tX12_isFree (d + 3) σ v1 r1 hr1) ?_
  refine ev_br 0 (P := r1 = 0) (a := 8) (b := 11) (ls := [some (.ref 0), some (.int (v1)), some (.int (v2)), some (.int (v3)), some (.int (v4)), some (.int (v5)), none, none]) (st := []) (h := hM σ) rfl (fun c1 => ?_) (fun c1 => ?_)
  · rw [if_pos c1] at hf
    cases hf
    exact ev_rt 1 rfl
  · rw [if_neg c1] at hf
    obtain ⟨r2, hr2, hf⟩ := Option.bind_eq_some_iff.mp hf
    refine ev_cli 1 (kk := 138) (as := [.int (v2)]) (rest := []) (pc := 12) (ls := [some (.ref 0), some (.int (v1)), some (.int (v2)), some (.int (v3)), some (.int (v4)), some (.int (v5)), none, none]) (st := [.int (v2)]) (h := hM σ) rfl (tX12_isWay (d + 4) (hM σ) v2 r2 hr2) ?_
    refine ev_br 0 (P := r2 = 0) (a := 51) (b := 18) (ls := [some (.ref 0), some (.int (v1)), some (.int (v2)), some (.int (v3)), some (.int (v4)), some (.int (v5)), none, none]) (st := []) (h := hM σ) rfl (fun c2 => ?_) (fun c2 => ?_)
    · rw [if_pos c2] at hf
      exact ev_dr (a := [none, none, none, none, none, none, none, none]) trivial (tX12_lasts_b51 d σ  _ hf)
    · rw [if_neg c2] at hf
      obtain ⟨r3, hr3, hf⟩ := Option.bind_eq_some_iff.mp hf
      refine ev_cli 3 (kk := 123) (as := [.int (v3), .int ((0 : Int32)), .int ((9 : Int32))]) (rest := []) (pc := 22) (ls := [some (.ref 0), some (.int (v1)), some (.int (v2)), some (.int (v3)), some (.int (v4)), some (.int (v5)), none, none]) (st := [.int ((9 : Int32)), .int ((0 : Int32)), .int (v3)]) (h := hM σ) rfl (tX12_within (d + 5) (hM σ) v3 (0 : Int32) (9 : Int32) r3 hr3) ?_
      refine ev_br 0 (P := r3 = 0) (a := 51) (b := 28) (ls := [some (.ref 0), some (.int (v1)), some (.int (v2)), some (.int (v3)), some (.int (v4)), some (.int (v5)), none, none]) (st := []) (h := hM σ) rfl (fun c3 => ?_) (fun c3 => ?_)
      · rw [if_pos c3] at hf
        exact ev_dr (a := [none, none, none, none, none, none, none, none]) trivial (tX12_lasts_b51 d σ  _ hf)
      · rw [if_neg c3] at hf
        obtain ⟨r4, hr4, hf⟩ := Option.bind_eq_some_iff.mp hf
        refine ev_cli 3 (kk := 123) (as := [.int (v4), .int ((1 : Int32)), .int ((200 : Int32))]) (rest := []) (pc := 34) (ls := [some (.ref 0), some (.int (v1)), some (.int (v2)), some (.int (v3)), some (.int (v4)), some (.int (v5)), none, none]) (st := [.int ((200 : Int32)), .int ((1 : Int32)), .int (v4)]) (h := hM σ) rfl (tX12_within (d + 5) (hM σ) v4 (1 : Int32) (200 : Int32) r4 hr4) ?_
        refine ev_br 0 (P := r4 = 0) (a := 51) (b := 40) (ls := [some (.ref 0), some (.int (v1)), some (.int (v2)), some (.int (v3)), some (.int (v4)), some (.int (v5)), none, none]) (st := []) (h := hM σ) rfl (fun c4 => ?_) (fun c4 => ?_)
        · rw [if_pos c4] at hf
          exact ev_dr (a := [none, none, none, none, none, none, none, none]) trivial (tX12_lasts_b51 d σ  _ hf)
        · rw [if_neg c4] at hf
          obtain ⟨r5, hr5, hf⟩ := Option.bind_eq_some_iff.mp hf
          refine ev_cli 3 (kk := 123) (as := [.int (v5), .int ((1 : Int32)), .int ((20 : Int32))]) (rest := []) (pc := 45) (ls := [some (.ref 0), some (.int (v1)), some (.int (v2)), some (.int (v3)), some (.int (v4)), some (.int (v5)), none, none]) (st := [.int ((20 : Int32)), .int ((1 : Int32)), .int (v5)]) (h := hM σ) rfl (tX12_within (d + 5) (hM σ) v5 (1 : Int32) (20 : Int32) r5 hr5) ?_
          refine ev_br 0 (P := r5 = 0) (a := 51) (b := 54) (ls := [some (.ref 0), some (.int (v1)), some (.int (v2)), some (.int (v3)), some (.int (v4)), some (.int (v5)), none, none]) (st := []) (h := hM σ) rfl (fun c5 => ?_) (fun c5 => ?_)
          · rw [if_pos c5] at hf
            exact ev_dr (a := [none, none, none, none, none, none, none, none]) trivial (tX12_lasts_b51 d σ  _ hf)
          · rw [if_neg c5] at hf
            refine ev_go (c' := (60, [some (.ref 0), some (.int (v1)), some (.int (v2)), some (.int (v3)), some (.int (v4)), some (.int (v5)), some (.int ((0 : Int32))), some (.int ((0 : Int32)))], [], hM σ)) 3 rfl ?_
            exact ev_dr (a := [some (.ref 0), some (.int (v1)), some (.int (v2)), some (.int (v3)), some (.int (v4)), some (.int (v5)), some (.int ((0 : Int32))), some (.int ((0 : Int32)))]) ⟨rfl, ⟨rfl, ⟨rfl, ⟨rfl, ⟨rfl, ⟨rfl, ⟨rfl, ⟨rfl, trivial⟩⟩⟩⟩⟩⟩⟩⟩ (tX12_lasts_l60 d 1000 σ v1 v2 v3 v4 v5 (0 : Int32) (0 : Int32) _ hf)
set_option maxRecDepth 20000 in
set_option maxHeartbeats 4000000 in
theorem tX12_stand_b210 (d : Nat) (k103 : SM → Int32 → Int32 → Int32 → Int32 → Int32 → Int32 → Int32 → Int32 → Int32 → Int32 → Option (Int32 × SM)) (hk103 : ∀ (σ : SM) (v1 : Int32) (v2 : Int32) (v3 : Int32) (v4 : Int32) (v5 : Int32) (v6 : Int32) (v7 : Int32) (v8 : Int32) (v9 : Int32) (v10 : Int32) (q : Int32 × SM), k103 σ v1 v2 v3 v4 v5 v6 v7 v8 v9 v10 = some q → ev_X (d + 6) (some .int) eiX12_stand (103, [some (.ref 0), some (.int (v1)), some (.int (v2)), some (.int (v3)), some (.int (v4)), some (.int (v5)), some (.int (v6)), some (.int (v7)), some (.int (v8)), some (.int (v9)), some (.int (v10)), none, none], [], hM σ) (some (.int q.1), hM q.2)) (σ : SM) (v1 : Int32) (v2 : Int32) (v3 : Int32) (v4 : Int32) (v5 : Int32) (v6 : Int32) (v7 : Int32) (v8 : Int32) (v9 : Int32) (v10 : Int32) (q : Int32 × SM) (hf : fX12_stand_b210 k103 σ v1 v2 v3 v4 v5 v6 v7 v8 v9 v10 = some q) : ev_X (d + 6) (some .int) eiX12_stand (210, [some (.ref 0), some (.int (v1)), some (.int (v2)), some (.int (v3)), some (.int (v4)), some (.int (v5)), some (.int (v6)), some (.int (v7)), some (.int (v8)), some (.int (v9)), some (.int (v10)), none, none], [], hM σ) (some (.int q.1), hM q.2) := by
  unfold fX12_stand_b210 at hf
  refine ev_go (c' := (103, [some (.ref 0), some (.int (v1)), some (.int (v2)), some (.int (v3)), some (.int (v4)), some (.int (v5)), some (.int (v6)), some (.int (v7)), some (.int (v8)), some (.int (v9)), some (.int ((v10 + (1 : Int32)))), none, none], [], hM σ)) 1 rfl ?_
  exact ev_dr (a := [some (.ref 0), some (.int (v1)), some (.int (v2)), some (.int (v3)), some (.int (v4)), some (.int (v5)), some (.int (v6)), some (.int (v7)), some (.int (v8)), some (.int (v9)), some (.int ((v10 + (1 : Int32)))), none, none]) ⟨rfl, ⟨rfl, ⟨rfl, ⟨rfl, ⟨rfl, ⟨rfl, ⟨rfl, ⟨rfl, ⟨rfl, ⟨rfl, ⟨rfl, trivial⟩⟩⟩⟩⟩⟩⟩⟩⟩⟩⟩ (hk103 σ v1 v2 v3 v4 v5 v6 v7 v8 v9 (v10 + (1 : Int32)) _ hf)
set_option maxRecDepth 20000 in
set_option maxHeartbeats 4000000 in
theorem tX12_stand_b208 (d : Nat) (k103 : SM → Int32 → Int32 → Int32 → Int32 → Int32 → Int32 → Int32 → Int32 → Int32 → Int32 → Option (Int32 × SM)) (hk103 : ∀ (σ : SM) (v1 : Int32) (v2 : Int32) (v3 : Int32) (v4 : Int32) (v5 : Int32) (v6 : Int32) (v7 : Int32) (v8 : Int32) (v9 : Int32) (v10 : Int32) (q : Int32 × SM), k103 σ v1 v2 v3 v4 v5 v6 v7 v8 v9 v10 = some q → ev_X (d + 6) (some .int) eiX12_stand (103, [some (.ref 0), some (.int (v1)), some (.int (v2)), some (.int (v3)), some (.int (v4)), some (.int (v5)), some (.int (v6)), some (.int (v7)), some (.int (v8)), some (.int (v9)), some (.int (v10)), none, none], [], hM σ) (some (.int q.1), hM q.2)) (σ : SM) (v1 : Int32) (v2 : Int32) (v3 : Int32) (v4 : Int32) (v5 : Int32) (v6 : Int32) (v7 : Int32) (v8 : Int32) (v10 : Int32) (w0 : Int32) (q : Int32 × SM) (hf : fX12_stand_b208 k103 σ v1 v2 v3 v4 v5 v6 v7 v8 v10 w0 = some q) : ev_X (d + 6) (some .int) eiX12_stand (208, [some (.ref 0), some (.int (v1)), some (.int (v2)), some (.int (v3)), some (.int (v4)), some (.int (v5)), some (.int (v6)), some (.int (v7)), some (.int (v8)), none, some (.int (v10)), none, none], [.int (w0)], hM σ) (some (.int q.1), hM q.2) := by
  unfold fX12_stand_b208 at hf
  refine ev_go (c' := (210, [some (.ref 0), some (.int (v1)), some (.int (v2)), some (.int (v3)), some (.int (v4)), some (.int (v5)), some (.int (v6)), some (.int (v7)), some (.int (v8)), some (.int (w0)), some (.int (v10)), none, none], [], hM σ)) 0 rfl ?_
  exact ev_dr (a := [some (.ref 0), some (.int (v1)), some (.int (v2)), some (.int (v3)), some (.int (v4)), some (.int (v5)), some (.int (v6)), some (.int (v7)), some (.int (v8)), some (.int (w0)), some (.int (v10)), none, none]) ⟨rfl, ⟨rfl, ⟨rfl, ⟨rfl, ⟨rfl, ⟨rfl, ⟨rfl, ⟨rfl, ⟨rfl, ⟨rfl, ⟨rfl, trivial⟩⟩⟩⟩⟩⟩⟩⟩⟩⟩⟩ (tX12_stand_b210 d k103 hk103 σ v1 v2 v3 v4 v5 v6 v7 v8 w0 v10 _ hf)
set_option maxRecDepth 20000 in
set_option maxHeartbeats 4000000 in
theorem tX12_stand_b192 (d : Nat) (k103 : SM → Int32 → Int32 → Int32 → Int32 → Int32 → Int32 → Int32 → Int32 → Int32 → Int32 → Option (Int32 × SM)) (hk103 : ∀ (σ : SM) (v1 : Int32) (v2 : Int32) (v3 : Int32) (v4 : Int32) (v5 : Int32) (v6 : Int32) (v7 : Int32) (v8 : Int32) (v9 : Int32) (v10 : Int32) (q : Int32 × SM), k103 σ v1 v2 v3 v4 v5 v6 v7 v8 v9 v10 = some q → ev_X (d + 6) (some .int) eiX12_stand (103, [some (.ref 0), some (.int (v1)), some (.int (v2)), some (.int (v3)), some (.int (v4)), some (.int (v5)), some (.int (v6)), some (.int (v7)), some (.int (v8)), some (.int (v9)), some (.int (v10)), none, none], [], hM σ) (some (.int q.1), hM q.2)) (σ : SM) (v1 : Int32) (v2 : Int32) (v3 : Int32) (v4 : Int32) (v5 : Int32) (v6 : Int32) (v7 : Int32) (v9 : Int32) (v10 : Int32) (v11 : Int32) (w0 : Int32) (q : Int32 × SM) (hf : fX12_stand_b192 k103 σ v1 v2 v3 v4 v5 v6 v7 v9 v10 v11 w0 = some q) : ev_X (d + 6) (some .int) eiX12_stand (192, [some (.ref 0), some (.int (v1)), some (.int (v2)), some (.int (v3)), some (.int (v4)), some (.int (v5)), some (.int (v6)), some (.int (v7)), none, some (.int (v9)), some (.int (v10)), some (.int (v11)), none], [.int (w0)], hM σ) (some (.int q.1), hM q.2) := by
  unfold fX12_stand_b192 at hf
  refine ev_br 3 (P := v11 < v9) (a := 201) (b := 206) (ls := [some (.ref 0), some (.int (v1)), some (.int (v2)), some (.int (v3)), some (.int (v4)), some (.int (v5)), some (.int (v6)), some (.int (v7)), some (.int (w0)), some (.int (v9)), some (.int (v10)), some (.int (v11)), none]) (st := []) (h := hM σ) rfl (fun c1 => ?_) (fun c1 => ?_)
  · rw [if_pos c1] at hf
    refine ev_go (c' := (208, [some (.ref 0), some (.int (v1)), some (.int (v2)), some (.int (v3)), some (.int (v4)), some (.int (v5)), some (.int (v6)), some (.int (v7)), some (.int (w0)), some (.int (v9)), some (.int (v10)), some (.int (v11)), none], [.int (v11)], hM σ)) 1 rfl ?_
    exact ev_dr (a := [some (.ref 0), some (.int (v1)), some (.int (v2)), some (.int (v3)), some (.int (v4)), some (.int (v5)), some (.int (v6)), some (.int (v7)), some (.int (w0)), none, some (.int (v10)), none, none]) ⟨rfl, ⟨rfl, ⟨rfl, ⟨rfl, ⟨rfl, ⟨rfl, ⟨rfl, ⟨rfl, ⟨rfl, ⟨rfl, trivial⟩⟩⟩⟩⟩⟩⟩⟩⟩⟩ (tX12_stand_b208 d k103 hk103 σ v1 v2 v3 v4 v5 v6 v7 w0 v10 v11 _ hf)
  · rw [if_neg c1] at hf
    refine ev_go (c' := (208, [some (.ref 0), some (.int (v1)), some (.int (v2)), some (.int (v3)), some (.int (v4)), some (.int (v5)), some (.int (v6)), some (.int (v7)), some (.int (w0)), some (.int (v9)), some (.int (v10)), some (.int (v11)), none], [.int (v9)], hM σ)) 0 rfl ?_
    exact ev_dr (a := [some (.ref 0), some (.int (v1)), some (.int (v2)), some (.int (v3)), some (.int (v4)), some (.int (v5)), some (.int (v6)), some (.int (v7)), some (.int (w0)), none, some (.int (v10)), none, none]) ⟨rfl, ⟨rfl, ⟨rfl, ⟨rfl, ⟨rfl, ⟨rfl, ⟨rfl, ⟨rfl, ⟨rfl, ⟨rfl, trivial⟩⟩⟩⟩⟩⟩⟩⟩⟩⟩ (tX12_stand_b208 d k103 hk103 σ v1 v2 v3 v4 v5 v6 v7 w0 v10 v9 _ hf)
set_option maxRecDepth 20000 in
set_option maxHeartbeats 4000000 in
theorem tX12_stand_b169 (d : Nat) (k103 : SM → Int32 → Int32 → Int32 → Int32 → Int32 → Int32 → Int32 → Int32 → Int32 → Int32 → Option (Int32 × SM)) (hk103 : ∀ (σ : SM) (v1 : Int32) (v2 : Int32) (v3 : Int32) (v4 : Int32) (v5 : Int32) (v6 : Int32) (v7 : Int32) (v8 : Int32) (v9 : Int32) (v10 : Int32) (q : Int32 × SM), k103 σ v1 v2 v3 v4 v5 v6 v7 v8 v9 v10 = some q → ev_X (d + 6) (some .int) eiX12_stand (103, [some (.ref 0), some (.int (v1)), some (.int (v2)), some (.int (v3)), some (.int (v4)), some (.int (v5)), some (.int (v6)), some (.int (v7)), some (.int (v8)), some (.int (v9)), some (.int (v10)), none, none], [], hM σ) (some (.int q.1), hM q.2)) (k135 : SM → Int32 → Int32 → Int32 → Int32 → Int32 → Int32 → Int32 → Int32 → Int32 → Int32 → Int32 → Int32 → Option (Int32 × SM)) (hk135 : ∀ (σ : SM) (v1 : Int32) (v2 : Int32) (v3 : Int32) (v4 : Int32) (v5 : Int32) (v6 : Int32) (v7 : Int32) (v8 : Int32) (v9 : Int32) (v10 : Int32) (v11 : Int32) (v12 : Int32) (q : Int32 × SM), k135 σ v1 v2 v3 v4 v5 v6 v7 v8 v9 v10 v11 v12 = some q → ev_X (d + 6) (some .int) eiX12_stand (135, [some (.ref 0), some (.int (v1)), some (.int (v2)), some (.int (v3)), some (.int (v4)), some (.int (v5)), some (.int (v6)), some (.int (v7)), some (.int (v8)), some (.int (v9)), some (.int (v10)), some (.int (v11)), some (.int (v12))], [], hM σ) (some (.int q.1), hM q.2)) (σ : SM) (v1 : Int32) (v2 : Int32) (v3 : Int32) (v4 : Int32) (v5 : Int32) (v6 : Int32) (v7 : Int32) (v8 : Int32) (v9 : Int32) (v10 : Int32) (v12 : Int32) (w0 : Int32) (w1 : Int32) (q : Int32 × SM) (hf : fX12_stand_b169 k103 k135 σ v1 v2 v3 v4 v5 v6 v7 v8 v9 v10 v12 w0 w1 = some q) : ev_X (d + 6) (some .int) eiX12_stand (169, [some (.ref 0), some (.int (v1)), some (.int (v2)), some (.int (v3)), some (.int (v4)), some (.int (v5)), some (.int (v6)), some (.int (v7)), some (.int (v8)), some (.int (v9)), some (.int (v10)), none, some (.int (v12))], [.int (w0), .int (w1)], hM σ) (some (.int q.1), hM q.2) := by
  unfold fX12_stand_b169 at hf
  refine ev_go (c' := (135, [some (.ref 0), some (.int (v1)), some (.int (v2)), some (.int (v3)), some (.int (v4)), some (.int (v5)), some (.int (v6)), some (.int (v7)), some (.int (v8)), some (.int (v9)), some (.int (v10)), some (.int ((w1 + w0))), some (.int ((v12 + (1 : Int32))))], [], hM σ)) 3 rfl ?_
  exact ev_dr (a := [some (.ref 0), some (.int (v1)), some (.int (v2)), some (.int (v3)), some (.int (v4)), some (.int (v5)), some (.int (v6)), some (.int (v7)), some (.int (v8)), some (.int (v9)), some (.int (v10)), some (.int ((w1 + w0))), some (.int ((v12 + (1 : Int32))))]) ⟨rfl, ⟨rfl, ⟨rfl, ⟨rfl, ⟨rfl, ⟨rfl, ⟨rfl, ⟨rfl, ⟨rfl, ⟨rfl, ⟨rfl, ⟨rfl, ⟨rfl, trivial⟩⟩⟩⟩⟩⟩⟩⟩⟩⟩⟩⟩⟩ (hk135 σ v1 v2 v3 v4 v5 v6 v7 v8 v9 v10 (w1 + w0) (v12 + (1 : Int32)) _ hf)
set_option maxRecDepth 20000 in
set_option maxHeartbeats 4000000 in
theorem tX12_stand_b135 (d : Nat) (k103 : SM → Int32 → Int32 → Int32 → Int32 → Int32 → Int32 → Int32 → Int32 → Int32 → Int32 → Option (Int32 × SM)) (hk103 : ∀ (σ : SM) (v1 : Int32) (v2 : Int32) (v3 : Int32) (v4 : Int32) (v5 : Int32) (v6 : Int32) (v7 : Int32) (v8 : Int32) (v9 : Int32) (v10 : Int32) (q : Int32 × SM), k103 σ v1 v2 v3 v4 v5 v6 v7 v8 v9 v10 = some q → ev_X (d + 6) (some .int) eiX12_stand (103, [some (.ref 0), some (.int (v1)), some (.int (v2)), some (.int (v3)), some (.int (v4)), some (.int (v5)), some (.int (v6)), some (.int (v7)), some (.int (v8)), some (.int (v9)), some (.int (v10)), none, none], [], hM σ) (some (.int q.1), hM q.2)) (k135 : SM → Int32 → Int32 → Int32 → Int32 → Int32 → Int32 → Int32 → Int32 → Int32 → Int32 → Int32 → Int32 → Option (Int32 × SM)) (hk135 : ∀ (σ : SM) (v1 : Int32) (v2 : Int32) (v3 : Int32) (v4 : Int32) (v5 : Int32) (v6 : Int32) (v7 : Int32) (v8 : Int32) (v9 : Int32) (v10 : Int32) (v11 : Int32) (v12 : Int32) (q : Int32 × SM), k135 σ v1 v2 v3 v4 v5 v6 v7 v8 v9 v10 v11 v12 = some q → ev_X (d + 6) (some .int) eiX12_stand (135, [some (.ref 0), some (.int (v1)), some (.int (v2)), some (.int (v3)), some (.int (v4)), some (.int (v5)), some (.int (v6)), some (.int (v7)), some (.int (v8)), some (.int (v9)), some (.int (v10)), some (.int (v11)), some (.int (v12))], [], hM σ) (some (.int q.1), hM q.2)) (σ : SM) (v1 : Int32) (v2 : Int32) (v3 : Int32) (v4 : Int32) (v5 : Int32) (v6 : Int32) (v7 : Int32) (v8 : Int32) (v9 : Int32) (v10 : Int32) (v11 : Int32) (v12 : Int32) (q : Int32 × SM) (hf : fX12_stand_b135 k103 k135 σ v1 v2 v3 v4 v5 v6 v7 v8 v9 v10 v11 v12 = some q) : ev_X (d + 6) (some .int) eiX12_stand (135, [some (.ref 0), some (.int (v1)), some (.int (v2)), some (.int (v3)), some (.int (v4)), some (.int (v5)), some (.int (v6)), some (.int (v7)), some (.int (v8)), some (.int (v9)), some (.int (v10)), some (.int (v11)), some (.int (v12))], [], hM σ) (some (.int q.1), hM q.2) := by
  unfold fX12_stand_b135 at hf
  refine ev_br 2 (P := v12 < v6) (a := 142) (b := 178) (ls := [some (.ref 0), some (.int (v1)), some (.int (v2)), some (.int (v3)), some (.int (v4)), some (.int (v5)), some (.int (v6)), some (.int (v7)), some (.int (v8)), some (.int (v9)), some (.int (v10)), some (.int (v11)), some (.int (v12))]) (st := []) (h := hM σ) rfl (fun c1 => ?_) (fun c1 => ?_)
  · rw [if_pos c1] at hf
    obtain ⟨r7, hr7, hf⟩ := Option.bind_eq_some_iff.mp hf
    refine ev_clv 6 (kk := 182) (as := [.ref 0, .int (v2), .int (v3), .int (v4), .int (v12), .int (v5)]) (rest := []) (pc := 151) (ls := [some (.ref 0), some (.int (v1)), some (.int (v2)), some (.int (v3)), some (.int (v4)), some (.int (v5)), some (.int (v6)), some (.int (v7)), some (.int (v8)), some (.int (v9)), some (.int (v10)), some (.int (v11)), some (.int (v12))]) (st := [.int (v5), .int (v12), .int (v4), .int (v3), .int (v2), .ref 0]) (h := hM σ) rfl (tX12_play d σ v2 v3 v4 v12 v5 r7 hr7) ?_
    refine ev_br 4 (P := (gm_gm_touched r7) = v1) (a := 164) (b := 168) (ls := [some (.ref 0), some (.int (v1)), some (.int (v2)), some (.int (v3)), some (.int (v4)), some (.int (v5)), some (.int (v6)), some (.int (v7)), some (.int (v8)), some (.int (v9)), some (.int (v10)), some (.int (v11)), some (.int (v12))]) (st := [.int (v11)]) (h := hM r7) rfl (fun c2 => ?_) (fun c2 => ?_)
    · rw [if_pos c2] at hf
      refine ev_go (c' := (169, [some (.ref 0), some (.int (v1)), some (.int (v2)), some (.int (v3)), some (.int (v4)), some (.int (v5)), some (.int (v6)), some (.int (v7)), some (.int (v8)), some (.int (v9)), some (.int (v10)), some (.int (v11)), some (.int (v12))], [.int ((1 : Int32)), .int (v11)], hM r7)) 1 rfl ?_
      exact ev_dr (a := [some (.ref 0), some (.int (v1)), some (.int (v2)), some (.int (v3)), some (.int (v4)), some (.int (v5)), some (.int (v6)), some (.int (v7)), some (.int (v8)), some (.int (v9)), some (.int (v10)), none, some (.int (v12))]) ⟨rfl, ⟨rfl, ⟨rfl, ⟨rfl, ⟨rfl, ⟨rfl, ⟨rfl, ⟨rfl, ⟨rfl, ⟨rfl, ⟨rfl, ⟨rfl, trivial⟩⟩⟩⟩⟩⟩⟩⟩⟩⟩⟩⟩ (tX12_stand_b169 d k103 hk103 k135 hk135 r7 v1 v2 v3 v4 v5 v6 v7 v8 v9 v10 v12 (1 : Int32) v11 _ hf)
    · rw [if_neg c2] at hf
      refine ev_go (c' := (169, [some (.ref 0), some (.int (v1)), some (.int (v2)), some (.int (v3)), some (.int (v4)), some (.int (v5)), some (.int (v6)), some (.int (v7)), some (.int (v8)), some (.int (v9)), some (.int (v10)), some (.int (v11)), some (.int (v12))], [.int ((0 : Int32)), .int (v11)], hM r7)) 0 rfl ?_
      exact ev_dr (a := [some (.ref 0), some (.int (v1)), some (.int (v2)), some (.int (v3)), some (.int (v4)), some (.int (v5)), some (.int (v6)), some (.int (v7)), some (.int (v8)), some (.int (v9)), some (.int (v10)), none, some (.int (v12))]) ⟨rfl, ⟨rfl, ⟨rfl, ⟨rfl, ⟨rfl, ⟨rfl, ⟨rfl, ⟨rfl, ⟨rfl, ⟨rfl, ⟨rfl, ⟨rfl, trivial⟩⟩⟩⟩⟩⟩⟩⟩⟩⟩⟩⟩ (tX12_stand_b169 d k103 hk103 k135 hk135 r7 v1 v2 v3 v4 v5 v6 v7 v8 v9 v10 v12 (0 : Int32) v11 _ hf)
  · rw [if_neg c1] at hf
    refine ev_br 2 (P := v11 < v9) (a := 185) (b := 190) (ls := [some (.ref 0), some (.int (v1)), some (.int (v2)), some (.int (v3)), some (.int (v4)), some (.int (v5)), some (.int (v6)), some (.int (v7)), some (.int (v8)), some (.int (v9)), some (.int (v10)), some (.int (v11)), some (.int (v12))]) (st := []) (h := hM σ) rfl (fun c3 => ?_) (fun c3 => ?_)
    · rw [if_pos c3] at hf
      refine ev_go (c' := (192, [some (.ref 0), some (.int (v1)), some (.int (v2)), some (.int (v3)), some (.int (v4)), some (.int (v5)), some (.int (v6)), some (.int (v7)), some (.int (v8)), some (.int (v9)), some (.int (v10)), some (.int (v11)), some (.int (v12))], [.int (v10)], hM σ)) 1 rfl ?_
      exact ev_dr (a := [some (.ref 0), some (.int (v1)), some (.int (v2)), some (.int (v3)), some (.int (v4)), some (.int (v5)), some (.int (v6)), some (.int (v7)), none, some (.int (v9)), some (.int (v10)), some (.int (v11)), none]) ⟨rfl, ⟨rfl, ⟨rfl, ⟨rfl, ⟨rfl, ⟨rfl, ⟨rfl, ⟨rfl, ⟨rfl, ⟨rfl, ⟨rfl, trivial⟩⟩⟩⟩⟩⟩⟩⟩⟩⟩⟩ (tX12_stand_b192 d k103 hk103 σ v1 v2 v3 v4 v5 v6 v7 v9 v10 v11 v10 _ hf)
    · rw [if_neg c3] at hf
      refine ev_go (c' := (192, [some (.ref 0), some (.int (v1)), some (.int (v2)), some (.int (v3)), some (.int (v4)), some (.int (v5)), some (.int (v6)), some (.int (v7)), some (.int (v8)), some (.int (v9)), some (.int (v10)), some (.int (v11)), some (.int (v12))], [.int (v8)], hM σ)) 0 rfl ?_
      exact ev_dr (a := [some (.ref 0), some (.int (v1)), some (.int (v2)), some (.int (v3)), some (.int (v4)), some (.int (v5)), some (.int (v6)), some (.int (v7)), none, some (.int (v9)), some (.int (v10)), some (.int (v11)), none]) ⟨rfl, ⟨rfl, ⟨rfl, ⟨rfl, ⟨rfl, ⟨rfl, ⟨rfl, ⟨rfl, ⟨rfl, ⟨rfl, ⟨rfl, trivial⟩⟩⟩⟩⟩⟩⟩⟩⟩⟩⟩ (tX12_stand_b192 d k103 hk103 σ v1 v2 v3 v4 v5 v6 v7 v9 v10 v11 v8 _ hf)
theorem tX12_stand_l135 (d : Nat) (k103 : SM → Int32 → Int32 → Int32 → Int32 → Int32 → Int32 → Int32 → Int32 → Int32 → Int32 → Option (Int32 × SM)) (hk103 : ∀ (σ : SM) (v1 : Int32) (v2 : Int32) (v3 : Int32) (v4 : Int32) (v5 : Int32) (v6 : Int32) (v7 : Int32) (v8 : Int32) (v9 : Int32) (v10 : Int32) (q : Int32 × SM), k103 σ v1 v2 v3 v4 v5 v6 v7 v8 v9 v10 = some q → ev_X (d + 6) (some .int) eiX12_stand (103, [some (.ref 0), some (.int (v1)), some (.int (v2)), some (.int (v3)), some (.int (v4)), some (.int (v5)), some (.int (v6)), some (.int (v7)), some (.int (v8)), some (.int (v9)), some (.int (v10)), none, none], [], hM σ) (some (.int q.1), hM q.2)) : ∀ (n : Nat) (σ : SM) (v1 : Int32) (v2 : Int32) (v3 : Int32) (v4 : Int32) (v5 : Int32) (v6 : Int32) (v7 : Int32) (v8 : Int32) (v9 : Int32) (v10 : Int32) (v11 : Int32) (v12 : Int32) (q : Int32 × SM), fX12_stand_l135 k103 n σ v1 v2 v3 v4 v5 v6 v7 v8 v9 v10 v11 v12 = some q → ev_X (d + 6) (some .int) eiX12_stand (135, [some (.ref 0), some (.int (v1)), some (.int (v2)), some (.int (v3)), some (.int (v4)), some (.int (v5)), some (.int (v6)), some (.int (v7)), some (.int (v8)), some (.int (v9)), some (.int (v10)), some (.int (v11)), some (.int (v12))], [], hM σ) (some (.int q.1), hM q.2)
  | 0, _, _, _, _, _, _, _, _, _, _, _, _, _, _, hf => by cases hf
  | n + 1, σ, v1, v2, v3, v4, v5, v6, v7, v8, v9, v10, v11, v12, q, hf => tX12_stand_b135 d k103 hk103 (fX12_stand_l135 k103 n) (fun σ v1 v2 v3 v4 v5 v6 v7 v8 v9 v10 v11 v12 q h9 => tX12_stand_l135 d k103 hk103 n σ v1 v2 v3 v4 v5 v6 v7 v8 v9 v10 v11 v12 q h9) σ v1 v2 v3 v4 v5 v6 v7 v8 v9 v10 v11 v12 q hf
set_option maxRecDepth 20000 in
set_option maxHeartbeats 4000000 in
theorem tX12_stand_b103 (d : Nat) (k103 : SM → Int32 → Int32 → Int32 → Int32 → Int32 → Int32 → Int32 → Int32 → Int32 → Int32 → Option (Int32 × SM)) (hk103 : ∀ (σ : SM) (v1 : Int32) (v2 : Int32) (v3 : Int32) (v4 : Int32) (v5 : Int32) (v6 : Int32) (v7 : Int32) (v8 : Int32) (v9 : Int32) (v10 : Int32) (q : Int32 × SM), k103 σ v1 v2 v3 v4 v5 v6 v7 v8 v9 v10 = some q → ev_X (d + 6) (some .int) eiX12_stand (103, [some (.ref 0), some (.int (v1)), some (.int (v2)), some (.int (v3)), some (.int (v4)), some (.int (v5)), some (.int (v6)), some (.int (v7)), some (.int (v8)), some (.int (v9)), some (.int (v10)), none, none], [], hM σ) (some (.int q.1), hM q.2)) (σ : SM) (v1 : Int32) (v2 : Int32) (v3 : Int32) (v4 : Int32) (v5 : Int32) (v6 : Int32) (v7 : Int32) (v8 : Int32) (v9 : Int32) (v10 : Int32) (q : Int32 × SM) (hf : fX12_stand_b103 k103 σ v1 v2 v3 v4 v5 v6 v7 v8 v9 v10 = some q) : ev_X (d + 6) (some .int) eiX12_stand (103, [some (.ref 0), some (.int (v1)), some (.int (v2)), some (.int (v3)), some (.int (v4)), some (.int (v5)), some (.int (v6)), some (.int (v7)), some (.int (v8)), some (.int (v9)), some (.int (v10)), none, none], [], hM σ) (some (.int q.1), hM q.2) := by
  unfold fX12_stand_b103 at hf
  obtain ⟨r8, hr8, hf⟩ := Option.bind_eq_some_iff.mp hf
  refine ev_cli 2 (kk := 133) (as := [.ref 0]) (rest := [.int (v10)]) (pc := 106) (ls := [some (.ref 0), some (.int (v1)), some (.int (v2)), some (.int (v3)), some (.int (v4)), some (.int (v5)), some (.int (v6)), some (.int (v7)), some (.int (v8)), some (.int (v9)), some (.int (v10)), none, none]) (st := [.ref 0, .int (v10)]) (h := hM σ) rfl (tX12_cells (d + 5) σ r8 hr8) ?_
  refine ev_br 0 (P := v10 < r8) (a := 112) (b := 216) (ls := [some (.ref 0), some (.int (v1)), some (.int (v2)), some (.int (v3)), some (.int (v4)), some (.int (v5)), some (.int (v6)), some (.int (v7)), some (.int (v8)), some (.int (v9)), some (.int (v10)), none, none]) (st := []) (h := hM σ) rfl (fun c1 => ?_) (fun c1 => ?_)
  · rw [if_pos c1] at hf
    obtain ⟨r9, hr9, hf⟩ := Option.bind_eq_some_iff.mp hf
    refine ev_cli 2 (kk := 135) (as := [.ref 0, .int (v10)]) (rest := []) (pc := 115) (ls := [some (.ref 0), some (.int (v1)), some (.int (v2)), some (.int (v3)), some (.int (v4)), some (.int (v5)), some (.int (v6)), some (.int (v7)), some (.int (v8)), some (.int (v9)), some (.int (v10)), none, none]) (st := [.int (v10), .ref 0]) (h := hM σ) rfl (tX12_isFree (d + 3) σ v10 r9 hr9) ?_
    refine ev_br 0 (P := r9 = 0) (a := 210) (b := 121) (ls := [some (.ref 0), some (.int (v1)), some (.int (v2)), some (.int (v3)), some (.int (v4)), some (.int (v5)), some (.int (v6)), some (.int (v7)), some (.int (v8)), some (.int (v9)), some (.int (v10)), none, none]) (st := []) (h := hM σ) rfl (fun c2 => ?_) (fun c2 => ?_)
    · rw [if_pos c2] at hf
      exact ev_dr (a := [some (.ref 0), some (.int (v1)), some (.int (v2)), some (.int (v3)), some (.int (v4)), some (.int (v5)), some (.int (v6)), some (.int (v7)), some (.int (v8)), some (.int (v9)), some (.int (v10)), none, none]) ⟨rfl, ⟨rfl, ⟨rfl, ⟨rfl, ⟨rfl, ⟨rfl, ⟨rfl, ⟨rfl, ⟨rfl, ⟨rfl, ⟨rfl, trivial⟩⟩⟩⟩⟩⟩⟩⟩⟩⟩⟩ (tX12_stand_b210 d k103 hk103 σ v1 v2 v3 v4 v5 v6 v7 v8 v9 v10 _ hf)
    · rw [if_neg c2] at hf
      obtain ⟨c3, hf⟩ := ev_hp hf
      refine ev_ck 4 (P := ¬ (v1 < 0 ∨ 6 ≤ v1.toNatClampNeg)) (c' := (129, [some (.ref 0), some (.int (v1)), some (.int (v2)), some (.int (v3)), some (.int (v4)), some (.int (v5)), some (.int (v6)), some (.int (v7)), some (.int (v8)), some (.int (v9)), some (.int (v10)), none, none], [], hM (sm_pl_placeOf σ (upd (gm_pl_placeOf σ) v1.toNatClampNeg v10)))) rfl c3 ?_
      refine ev_go (c' := (135, [some (.ref 0), some (.int (v1)), some (.int (v2)), some (.int (v3)), some (.int (v4)), some (.int (v5)), some (.int (v6)), some (.int (v7)), some (.int (v8)), some (.int (v9)), some (.int (v10)), some (.int ((0 : Int32))), some (.int ((0 : Int32)))], [], hM (sm_pl_placeOf σ (upd (gm_pl_placeOf σ) v1.toNatClampNeg v10)))) 3 rfl ?_
      exact ev_dr (a := [some (.ref 0), some (.int (v1)), some (.int (v2)), some (.int (v3)), some (.int (v4)), some (.int (v5)), some (.int (v6)), some (.int (v7)), some (.int (v8)), some (.int (v9)), some (.int (v10)), some (.int ((0 : Int32))), some (.int ((0 : Int32)))]) ⟨rfl, ⟨rfl, ⟨rfl, ⟨rfl, ⟨rfl, ⟨rfl, ⟨rfl, ⟨rfl, ⟨rfl, ⟨rfl, ⟨rfl, ⟨rfl, ⟨rfl, trivial⟩⟩⟩⟩⟩⟩⟩⟩⟩⟩⟩⟩⟩ (tX12_stand_l135 d k103 hk103 1000 (sm_pl_placeOf σ (upd (gm_pl_placeOf σ) v1.toNatClampNeg v10)) v1 v2 v3 v4 v5 v6 v7 v8 v9 v10 (0 : Int32) (0 : Int32) _ hf)
  · rw [if_neg c1] at hf
    obtain ⟨c4, hf⟩ := ev_hp hf
    refine ev_ck 4 (P := ¬ (v1 < 0 ∨ 6 ≤ v1.toNatClampNeg)) (c' := (224, [some (.ref 0), some (.int (v1)), some (.int (v2)), some (.int (v3)), some (.int (v4)), some (.int (v5)), some (.int (v6)), some (.int (v7)), some (.int (v8)), some (.int (v9)), some (.int (v10)), none, none], [], hM (sm_pl_placeOf σ (upd (gm_pl_placeOf σ) v1.toNatClampNeg v7)))) rfl c4 ?_
    cases hf
    exact ev_rt 1 rfl
theorem tX12_stand_l103 (d : Nat) : ∀ (n : Nat) (σ : SM) (v1 : Int32) (v2 : Int32) (v3 : Int32) (v4 : Int32) (v5 : Int32) (v6 : Int32) (v7 : Int32) (v8 : Int32) (v9 : Int32) (v10 : Int32) (q : Int32 × SM), fX12_stand_l103 n σ v1 v2 v3 v4 v5 v6 v7 v8 v9 v10 = some q → ev_X (d + 6) (some .int) eiX12_stand (103, [some (.ref 0), some (.int (v1)), some (.int (v2)), some (.int (v3)), some (.int (v4)), some (.int (v5)), some (.int (v6)), some (.int (v7)), some (.int (v8)), some (.int (v9)), some (.int (v10)), none, none], [], hM σ) (some (.int q.1), hM q.2)
  | 0, _, _, _, _, _, _, _, _, _, _, _, _, hf => by cases hf
  | n + 1, σ, v1, v2, v3, v4, v5, v6, v7, v8, v9, v10, q, hf => tX12_stand_b103 d (fX12_stand_l103 n) (fun σ v1 v2 v3 v4 v5 v6 v7 v8 v9 v10 q h9 => tX12_stand_l103 d n σ v1 v2 v3 v4 v5 v6 v7 v8 v9 v10 q h9) σ v1 v2 v3 v4 v5 v6 v7 v8 v9 v10 q hf
set_option maxRecDepth 20000 in
set_option maxHeartbeats 4000000 in
theorem tX12_stand_b59 (d : Nat) (σ : SM) (q : Int32 × SM) (hf : fX12_stand_b59 σ = some q) : ev_X (d + 6) (some .int) eiX12_stand (59, [none, none, none, none, none, none, none, none, none, none, none, none, none], [], hM σ) (some (.int q.1), hM q.2) := by
  unfold fX12_stand_b59 at hf
  cases hf
  exact ev_rt 1 rfl
set_option maxRecDepth 20000 in
set_option maxHeartbeats 4000000 in
theorem tX12_stand_b16 (d : Nat) (σ : SM) (q : Int32 × SM) (hf : fX12_stand_b16 σ = some q) : ev_X (d + 6) (some .int) eiX12_stand (16, [none, none, none, none, none, none, none, none, none, none, none, none, none], [], hM σ) (some (.int q.1), hM q.2) := by
  unfold fX12_stand_b16 at hf
  cases hf
  exact ev_rt 1 rfl
set_option maxRecDepth 20000 in
set_option maxHeartbeats 4000000 in
theorem tX12_stand (d : Nat) (σ : SM) (v1 : Int32) (v2 : Int32) (v3 : Int32) (v4 : Int32) (v5 : Int32) (v6 : Int32) (q : Int32 × SM) (hf : fX12_stand σ v1 v2 v3 v4 v5 v6 = some q) : ev_M ev_mt (d + 7) 185 [.ref 0, .int (v1), .int (v2), .int (v3), .int (v4), .int (v5), .int (v6)] (hM σ) (some (.int q.1), hM q.2) := by
  refine ev_en (rt := (some .int)) (I := eiX12_stand) rfl (Nat.le_of_ble_eq_true rfl) ?_
  change ev_X (d + 6) _ _ (0, [some (.ref 0), some (.int (v1)), some (.int (v2)), some (.int (v3)), some (.int (v4)), some (.int (v5)), some (.int (v6)), none, none, none, none, none, none], [], hM σ) _
  unfold fX12_stand at hf
  obtain ⟨r1, hr1, hf⟩ := Option.bind_eq_some_iff.mp hf
  refine ev_cli 2 (kk := 168) (as := [.ref 0, .int (v1)]) (rest := []) (pc := 2) (ls := [some (.ref 0), some (.int (v1)), some (.int (v2)), some (.int (v3)), some (.int (v4)), some (.int (v5)), some (.int (v6)), none, none, none, none, none, none]) (st := [.int (v1), .ref 0]) (h := hM σ) rfl (tX12_isPlayer (d + 4) σ v1 r1 hr1) ?_
  refine ev_br 0 (P := r1 = 0) (a := 16) (b := 8) (ls := [some (.ref 0), some (.int (v1)), some (.int (v2)), some (.int (v3)), some (.int (v4)), some (.int (v5)), some (.int (v6)), none, none, none, none, none, none]) (st := []) (h := hM σ) rfl (fun c1 => ?_) (fun c1 => ?_)
  · rw [if_pos c1] at hf
    exact ev_dr (a := [none, none, none, none, none, none, none, none, none, none, none, none, none]) trivial (tX12_stand_b16 d σ  _ hf)
  · rw [if_neg c1] at hf
    obtain ⟨r2, hr2, hf⟩ := Option.bind_eq_some_iff.mp hf
    refine ev_cli 2 (kk := 135) (as := [.ref 0, .int (v2)]) (rest := []) (pc := 10) (ls := [some (.ref 0), some (.int (v1)), some (.int (v2)), some (.int (v3)), some (.int (v4)), some (.int (v5)), some (.int (v6)), none, none, none, none, none, none]) (st := [.int (v2), .ref 0]) (h := hM σ) rfl (tX12_isFree (d + 3) σ v2 r2 hr2) ?_
    refine ev_br 0 (P := r2 = 0) (a := 16) (b := 19) (ls := [some (.ref 0), some (.int (v1)), some (.int (v2)), some (.int (v3)), some (.int (v4)), some (.int (v5)), some (.int (v6)), none, none, none, none, none, none]) (st := []) (h := hM σ) rfl (fun c2 => ?_) (fun c2 => ?_)
    · rw [if_pos c2] at hf
      exact ev_dr (a := [none, none, none, none, none, none, none, none, none, none, none, none, none]) trivial (tX12_stand_b16 d σ  _ hf)
    · rw [if_neg c2] at hf
      obtain ⟨r3, hr3, hf⟩ := Option.bind_eq_some_iff.mp hf
      refine ev_cli 1 (kk := 138) (as := [.int (v3)]) (rest := []) (pc := 20) (ls := [some (.ref 0), some (.int (v1)), some (.int (v2)), some (.int (v3)), some (.int (v4)), some (.int (v5)), some (.int (v6)), none, none, none, none, none, none]) (st := [.int (v3)]) (h := hM σ) rfl (tX12_isWay (d + 4) (hM σ) v3 r3 hr3) ?_
      refine ev_br 0 (P := r3 = 0) (a := 59) (b := 26) (ls := [some (.ref 0), some (.int (v1)), some (.int (v2)), some (.int (v3)), some (.int (v4)), some (.int (v5)), some (.int (v6)), none, none, none, none, none, none]) (st := []) (h := hM σ) rfl (fun c3 => ?_) (fun c3 => ?_)
      · rw [if_pos c3] at hf
        exact ev_dr (a := [none, none, none, none, none, none, none, none, none, none, none, none, none]) trivial (tX12_stand_b59 d σ  _ hf)
      · rw [if_neg c3] at hf
        obtain ⟨r4, hr4, hf⟩ := Option.bind_eq_some_iff.mp hf
        refine ev_cli 3 (kk := 123) (as := [.int (v4), .int ((0 : Int32)), .int ((9 : Int32))]) (rest := []) (pc := 31) (ls := [some (.ref 0), some (.int (v1)), some (.int (v2)), some (.int (v3)), some (.int (v4)), some (.int (v5)), some (.int (v6)), none, none, none, none, none, none]) (st := [.int ((9 : Int32)), .int ((0 : Int32)), .int (v4)]) (h := hM σ) rfl (tX12_within (d + 5) (hM σ) v4 (0 : Int32) (9 : Int32) r4 hr4) ?_
        refine ev_br 0 (P := r4 = 0) (a := 59) (b := 37) (ls := [some (.ref 0), some (.int (v1)), some (.int (v2)), some (.int (v3)), some (.int (v4)), some (.int (v5)), some (.int (v6)), none, none, none, none, none, none]) (st := []) (h := hM σ) rfl (fun c4 => ?_) (fun c4 => ?_)
        · rw [if_pos c4] at hf
          exact ev_dr (a := [none, none, none, none, none, none, none, none, none, none, none, none, none]) trivial (tX12_stand_b59 d σ  _ hf)
        · rw [if_neg c4] at hf
          obtain ⟨r5, hr5, hf⟩ := Option.bind_eq_some_iff.mp hf
          refine ev_cli 3 (kk := 123) (as := [.int (v5), .int ((1 : Int32)), .int ((50 : Int32))]) (rest := []) (pc := 42) (ls := [some (.ref 0), some (.int (v1)), some (.int (v2)), some (.int (v3)), some (.int (v4)), some (.int (v5)), some (.int (v6)), none, none, none, none, none, none]) (st := [.int ((50 : Int32)), .int ((1 : Int32)), .int (v5)]) (h := hM σ) rfl (tX12_within (d + 5) (hM σ) v5 (1 : Int32) (50 : Int32) r5 hr5) ?_
          refine ev_br 0 (P := r5 = 0) (a := 59) (b := 48) (ls := [some (.ref 0), some (.int (v1)), some (.int (v2)), some (.int (v3)), some (.int (v4)), some (.int (v5)), some (.int (v6)), none, none, none, none, none, none]) (st := []) (h := hM σ) rfl (fun c5 => ?_) (fun c5 => ?_)
          · rw [if_pos c5] at hf
            exact ev_dr (a := [none, none, none, none, none, none, none, none, none, none, none, none, none]) trivial (tX12_stand_b59 d σ  _ hf)
          · rw [if_neg c5] at hf
            obtain ⟨r6, hr6, hf⟩ := Option.bind_eq_some_iff.mp hf
            refine ev_cli 3 (kk := 123) (as := [.int (v6), .int ((1 : Int32)), .int ((9 : Int32))]) (rest := []) (pc := 53) (ls := [some (.ref 0), some (.int (v1)), some (.int (v2)), some (.int (v3)), some (.int (v4)), some (.int (v5)), some (.int (v6)), none, none, none, none, none, none]) (st := [.int ((9 : Int32)), .int ((1 : Int32)), .int (v6)]) (h := hM σ) rfl (tX12_within (d + 5) (hM σ) v6 (1 : Int32) (9 : Int32) r6 hr6) ?_
            refine ev_br 0 (P := r6 = 0) (a := 59) (b := 62) (ls := [some (.ref 0), some (.int (v1)), some (.int (v2)), some (.int (v3)), some (.int (v4)), some (.int (v5)), some (.int (v6)), none, none, none, none, none, none]) (st := []) (h := hM σ) rfl (fun c6 => ?_) (fun c6 => ?_)
            · rw [if_pos c6] at hf
              exact ev_dr (a := [none, none, none, none, none, none, none, none, none, none, none, none, none]) trivial (tX12_stand_b59 d σ  _ hf)
            · rw [if_neg c6] at hf
              refine ev_br 3 (P := (gm_nm_asks σ) = (20 : Int32)) (a := 71) (b := 74) (ls := [some (.ref 0), some (.int (v1)), some (.int (v2)), some (.int (v3)), some (.int (v4)), some (.int (v5)), some (.int (v6)), none, none, none, none, none, none]) (st := []) (h := hM σ) rfl (fun c7 => ?_) (fun c7 => ?_)
              · rw [if_pos c7] at hf
                cases hf
                exact ev_rt 1 rfl
              · rw [if_neg c7] at hf
                refine ev_go (c' := (84, [some (.ref 0), some (.int (v1)), some (.int (v2)), some (.int (v3)), some (.int (v4)), some (.int (v5)), some (.int (v6)), none, none, none, none, none, none], [], hM (sm_nm_asks σ ((gm_nm_asks σ) + (1 : Int32))))) 5 rfl ?_
                obtain ⟨c8, hf⟩ := ev_hp hf
                refine ev_ck 3 (P := ¬ (v1 < 0 ∨ 6 ≤ v1.toNatClampNeg)) (c' := (90, [some (.ref 0), some (.int (v1)), some (.int (v2)), some (.int (v3)), some (.int (v4)), some (.int (v5)), some (.int (v6)), none, none, none, none, none, none], [.int (((gm_pl_placeOf σ) v1.toNatClampNeg))], hM (sm_nm_asks σ ((gm_nm_asks σ) + (1 : Int32))))) rfl c8 ?_
                refine ev_go (c' := (103, [some (.ref 0), some (.int (v1)), some (.int (v2)), some (.int (v3)), some (.int (v4)), some (.int (v5)), some (.int (v6)), some (.int (((gm_pl_placeOf σ) v1.toNatClampNeg))), some (.int ((-1 : Int32))), some (.int ((268435456 : Int32))), some (.int ((0 : Int32))), none, none], [], hM (sm_nm_asks σ ((gm_nm_asks σ) + (1 : Int32))))) 6 rfl ?_
                exact ev_dr (a := [some (.ref 0), some (.int (v1)), some (.int (v2)), some (.int (v3)), some (.int (v4)), some (.int (v5)), some (.int (v6)), some (.int (((gm_pl_placeOf σ) v1.toNatClampNeg))), some (.int ((-1 : Int32))), some (.int ((268435456 : Int32))), some (.int ((0 : Int32))), none, none]) ⟨rfl, ⟨rfl, ⟨rfl, ⟨rfl, ⟨rfl, ⟨rfl, ⟨rfl, ⟨rfl, ⟨rfl, ⟨rfl, ⟨rfl, trivial⟩⟩⟩⟩⟩⟩⟩⟩⟩⟩⟩ (tX12_stand_l103 d 1000 (sm_nm_asks σ ((gm_nm_asks σ) + (1 : Int32))) v1 v2 v3 v4 v5 v6 ((gm_pl_placeOf σ) v1.toNatClampNeg) (-1 : Int32) (268435456 : Int32) (0 : Int32) _ hf)
set_option maxRecDepth 20000 in
set_option maxHeartbeats 4000000 in
theorem tX12_feels_b29 (d : Nat) (σ : SM) (q : Int32 × SM) (hf : fX12_feels_b29 σ = some q) : ev_X (d + 1) (some .int) eiX12_feels (29, [none, none, none, none], [], hM σ) (some (.int q.1), hM q.2) := by
  unfold fX12_feels_b29 at hf
  cases hf
  exact ev_rt 1 rfl
set_option maxRecDepth 20000 in
set_option maxHeartbeats 4000000 in
theorem tX12_feels (d : Nat) (σ : SM) (v1 : Int32) (v2 : Int32) (v3 : Int32) (q : Int32 × SM) (hf : fX12_feels σ v1 v2 v3 = some q) : ev_M ev_mt (d + 2) 186 [.ref 0, .int (v1), .int (v2), .int (v3)] (hM σ) (some (.int q.1), hM q.2) := by
  refine ev_en (rt := (some .int)) (I := eiX12_feels) rfl (Nat.le_of_ble_eq_true rfl) ?_
  change ev_X (d + 1) _ _ (0, [some (.ref 0), some (.int (v1)), some (.int (v2)), some (.int (v3))], [], hM σ) _
  unfold fX12_feels at hf
  obtain ⟨r1, hr1, hf⟩ := Option.bind_eq_some_iff.mp hf
  refine ev_cli 3 (kk := 123) (as := [.int (v1), .int ((0 : Int32)), .int ((5 : Int32))]) (rest := []) (pc := 3) (ls := [some (.ref 0), some (.int (v1)), some (.int (v2)), some (.int (v3))]) (st := [.int ((5 : Int32)), .int ((0 : Int32)), .int (v1)]) (h := hM σ) rfl (tX12_within d (hM σ) v1 (0 : Int32) (5 : Int32) r1 hr1) ?_
  refine ev_br 0 (P := r1 = 0) (a := 29) (b := 9) (ls := [some (.ref 0), some (.int (v1)), some (.int (v2)), some (.int (v3))]) (st := []) (h := hM σ) rfl (fun c1 => ?_) (fun c1 => ?_)
  · rw [if_pos c1] at hf
    exact ev_dr (a := [none, none, none, none]) trivial (tX12_feels_b29 d σ  _ hf)
  · rw [if_neg c1] at hf
    obtain ⟨r2, hr2, hf⟩ := Option.bind_eq_some_iff.mp hf
    refine ev_cli 3 (kk := 123) (as := [.int (v2), .int ((0 : Int32)), .int ((10 : Int32))]) (rest := []) (pc := 13) (ls := [some (.ref 0), some (.int (v1)), some (.int (v2)), some (.int (v3))]) (st := [.int ((10 : Int32)), .int ((0 : Int32)), .int (v2)]) (h := hM σ) rfl (tX12_within d (hM σ) v2 (0 : Int32) (10 : Int32) r2 hr2) ?_
    refine ev_br 0 (P := r2 = 0) (a := 29) (b := 19) (ls := [some (.ref 0), some (.int (v1)), some (.int (v2)), some (.int (v3))]) (st := []) (h := hM σ) rfl (fun c2 => ?_) (fun c2 => ?_)
    · rw [if_pos c2] at hf
      exact ev_dr (a := [none, none, none, none]) trivial (tX12_feels_b29 d σ  _ hf)
    · rw [if_neg c2] at hf
      obtain ⟨r3, hr3, hf⟩ := Option.bind_eq_some_iff.mp hf
      refine ev_cli 3 (kk := 123) (as := [.int (v3), .int ((0 : Int32)), .int ((10 : Int32))]) (rest := []) (pc := 23) (ls := [some (.ref 0), some (.int (v1)), some (.int (v2)), some (.int (v3))]) (st := [.int ((10 : Int32)), .int ((0 : Int32)), .int (v3)]) (h := hM σ) rfl (tX12_within d (hM σ) v3 (0 : Int32) (10 : Int32) r3 hr3) ?_
      refine ev_br 0 (P := r3 = 0) (a := 29) (b := 32) (ls := [some (.ref 0), some (.int (v1)), some (.int (v2)), some (.int (v3))]) (st := []) (h := hM σ) rfl (fun c3 => ?_) (fun c3 => ?_)
      · rw [if_pos c3] at hf
        exact ev_dr (a := [none, none, none, none]) trivial (tX12_feels_b29 d σ  _ hf)
      · rw [if_neg c3] at hf
        refine ev_go (c' := (37, [some (.ref 0), some (.int (v1)), some (.int (v2)), some (.int (v3))], [], hM (sm_nm_unsure σ (v1)))) 2 rfl ?_
        refine ev_go (c' := (42, [some (.ref 0), some (.int (v1)), some (.int (v2)), some (.int (v3))], [], hM (sm_nm_clothRight (sm_nm_unsure σ (v1)) (v2)))) 2 rfl ?_
        refine ev_go (c' := (47, [some (.ref 0), some (.int (v1)), some (.int (v2)), some (.int (v3))], [], hM (sm_nm_giggleRight (sm_nm_clothRight (sm_nm_unsure σ (v1)) (v2)) (v3)))) 2 rfl ?_
        cases hf
        exact ev_rt 1 rfl
set_option maxRecDepth 20000 in
set_option maxHeartbeats 4000000 in
theorem tX12_jackets_b21 (d : Nat) (σ : SM) (q : Int32 × SM) (hf : fX12_jackets_b21 σ = some q) : ev_X (d + 2) (some .int) eiX12_jackets (21, [none, none, none, none], [], hM σ) (some (.int q.1), hM q.2) := by
  unfold fX12_jackets_b21 at hf
  cases hf
  exact ev_rt 1 rfl
set_option maxRecDepth 20000 in
set_option maxHeartbeats 4000000 in
theorem tX12_jackets (d : Nat) (σ : SM) (v1 : Int32) (v2 : Int32) (v3 : Int32) (q : Int32 × SM) (hf : fX12_jackets σ v1 v2 v3 = some q) : ev_M ev_mt (d + 3) 187 [.ref 0, .int (v1), .int (v2), .int (v3)] (hM σ) (some (.int q.1), hM q.2) := by
  refine ev_en (rt := (some .int)) (I := eiX12_jackets) rfl (Nat.le_of_ble_eq_true rfl) ?_
  change ev_X (d + 2) _ _ (0, [some (.ref 0), some (.int (v1)), some (.int (v2)), some (.int (v3))], [], hM σ) _
  unfold fX12_jackets at hf
  obtain ⟨r1, hr1, hf⟩ := Option.bind_eq_some_iff.mp hf
  refine ev_cli 2 (kk := 168) (as := [.ref 0, .int (v1)]) (rest := []) (pc := 2) (ls := [some (.ref 0), some (.int (v1)), some (.int (v2)), some (.int (v3))]) (st := [.int (v1), .ref 0]) (h := hM σ) rfl (tX12_isPlayer d σ v1 r1 hr1) ?_
  refine ev_br 0 (P := r1 = 0) (a := 21) (b := 8) (ls := [some (.ref 0), some (.int (v1)), some (.int (v2)), some (.int (v3))]) (st := []) (h := hM σ) rfl (fun c1 => ?_) (fun c1 => ?_)
  · rw [if_pos c1] at hf
    exact ev_dr (a := [none, none, none, none]) trivial (tX12_jackets_b21 d σ  _ hf)
  · rw [if_neg c1] at hf
    obtain ⟨r2, hr2, hf⟩ := Option.bind_eq_some_iff.mp hf
    refine ev_cli 2 (kk := 168) (as := [.ref 0, .int (v2)]) (rest := []) (pc := 10) (ls := [some (.ref 0), some (.int (v1)), some (.int (v2)), some (.int (v3))]) (st := [.int (v2), .ref 0]) (h := hM σ) rfl (tX12_isPlayer d σ v2 r2 hr2) ?_
    refine ev_br 0 (P := r2 = 0) (a := 21) (b := 16) (ls := [some (.ref 0), some (.int (v1)), some (.int (v2)), some (.int (v3))]) (st := []) (h := hM σ) rfl (fun c2 => ?_) (fun c2 => ?_)
    · rw [if_pos c2] at hf
      exact ev_dr (a := [none, none, none, none]) trivial (tX12_jackets_b21 d σ  _ hf)
    · rw [if_neg c2] at hf
      refine ev_br 2 (P := v1 = v2) (a := 21) (b := 24) (ls := [some (.ref 0), some (.int (v1)), some (.int (v2)), some (.int (v3))]) (st := []) (h := hM σ) rfl (fun c3 => ?_) (fun c3 => ?_)
      · rw [if_pos c3] at hf
        exact ev_dr (a := [none, none, none, none]) trivial (tX12_jackets_b21 d σ  _ hf)
      · rw [if_neg c3] at hf
        obtain ⟨r3, hr3, hf⟩ := Option.bind_eq_some_iff.mp hf
        refine ev_cli 3 (kk := 123) (as := [.int (v3), .int ((0 : Int32)), .int ((10 : Int32))]) (rest := []) (pc := 28) (ls := [some (.ref 0), some (.int (v1)), some (.int (v2)), some (.int (v3))]) (st := [.int ((10 : Int32)), .int ((0 : Int32)), .int (v3)]) (h := hM σ) rfl (tX12_within (d + 1) (hM σ) v3 (0 : Int32) (10 : Int32) r3 hr3) ?_
        refine ev_br 0 (P := r3 = 0) (a := 34) (b := 37) (ls := [some (.ref 0), some (.int (v1)), some (.int (v2)), some (.int (v3))]) (st := []) (h := hM σ) rfl (fun c4 => ?_) (fun c4 => ?_)
        · rw [if_pos c4] at hf
          cases hf
          exact ev_rt 1 rfl
        · rw [if_neg c4] at hf
          refine ev_go (c' := (42, [some (.ref 0), some (.int (v1)), some (.int (v2)), some (.int (v3))], [], hM (sm_nm_jacketA σ (v1)))) 2 rfl ?_
          refine ev_go (c' := (47, [some (.ref 0), some (.int (v1)), some (.int (v2)), some (.int (v3))], [], hM (sm_nm_jacketB (sm_nm_jacketA σ (v1)) (v2)))) 2 rfl ?_
          refine ev_go (c' := (52, [some (.ref 0), some (.int (v1)), some (.int (v2)), some (.int (v3))], [], hM (sm_nm_jacketTenths (sm_nm_jacketB (sm_nm_jacketA σ (v1)) (v2)) (v3)))) 2 rfl ?_
          cases hf
          exact ev_rt 1 rfl
set_option maxRecDepth 20000 in
set_option maxHeartbeats 4000000 in
theorem tX12_byCloth_b26 (d : Nat) (σ : SM) (w0 : Int32) (q : Int32) (hf : fX12_byCloth_b26 σ w0 = some q) : ev_X d (some .int) eiX12_byCloth (26, [none, none, none], [.int (w0)], hM σ) (some (.int q), hM σ) := by
  unfold fX12_byCloth_b26 at hf
  cases hf
  exact ev_rt 0 rfl
set_option maxRecDepth 20000 in
set_option maxHeartbeats 4000000 in
theorem tX12_byCloth (d : Nat) (σ : SM) (v1 : Int32) (v2 : Int32) (q : Int32) (hf : fX12_byCloth σ v1 v2 = some q) : ev_M ev_mt (d + 1) 188 [.ref 0, .int (v1), .int (v2)] (hM σ) (some (.int q), hM σ) := by
  refine ev_en (rt := (some .int)) (I := eiX12_byCloth) rfl (Nat.le_of_ble_eq_true rfl) ?_
  change ev_X d _ _ (0, [some (.ref 0), some (.int (v1)), some (.int (v2))], [], hM σ) _
  unfold fX12_byCloth at hf
  obtain ⟨c1, hf⟩ := ev_hp hf
  refine ev_ck 3 (P := ¬ (v1 < 0 ∨ 6 ≤ v1.toNatClampNeg)) (c' := (6, [some (.ref 0), some (.int (v1)), some (.int (v2))], [.int (((gm_pl_clothOf σ) v1.toNatClampNeg))], hM σ)) rfl c1 ?_
  refine ev_br 1 (P := ((gm_pl_clothOf σ) v1.toNatClampNeg) = v2) (a := 10) (b := 19) (ls := [some (.ref 0), some (.int (v1)), some (.int (v2))]) (st := []) (h := hM σ) rfl (fun c2 => ?_) (fun c2 => ?_)
  · rw [if_pos c2] at hf
    refine ev_go (c' := (26, [some (.ref 0), some (.int (v1)), some (.int (v2))], [.int (((4 : Int32) * (gm_nm_clothRight σ)))], hM σ)) 4 rfl ?_
    exact ev_dr (a := [none, none, none]) trivial (tX12_byCloth_b26 d σ ((4 : Int32) * (gm_nm_clothRight σ)) _ hf)
  · rw [if_neg c2] at hf
    refine ev_go (c' := (26, [some (.ref 0), some (.int (v1)), some (.int (v2))], [.int (((10 : Int32) - (gm_nm_clothRight σ)))], hM σ)) 3 rfl ?_
    exact ev_dr (a := [none, none, none]) trivial (tX12_byCloth_b26 d σ ((10 : Int32) - (gm_nm_clothRight σ)) _ hf)
set_option maxRecDepth 20000 in
set_option maxHeartbeats 4000000 in
theorem tX12_likely_b122 (d : Nat) (σ : SM) (v1 : Int32) (v3 : Int32) (v6 : Int32) (v7 : Int32) (v8 : Int32) (w0 : Int32) (q : Int32) (hf : fX12_likely_b122 σ v1 v3 v6 v7 v8 w0 = some q) : ev_X (d + 1) (some .int) eiX12_likely (122, [some (.ref 0), some (.int (v1)), none, some (.int (v3)), none, none, some (.int (v6)), some (.int (v7)), some (.int (v8)), none], [.int (w0)], hM σ) (some (.int q), hM σ) := by
  unfold fX12_likely_b122 at hf
  obtain ⟨r2, hr2, hf⟩ := Option.bind_eq_some_iff.mp hf
  refine ev_cli 10 (kk := 188) (as := [.ref 0, .int (v1), .int (v3)]) (rest := [.int (((10 : Int32) - w0)), .int ((v6 * v7))]) (pc := 137) (ls := [some (.ref 0), some (.int (v1)), none, some (.int (v3)), none, none, some (.int (v6)), some (.int (v7)), some (.int (v8)), some (.int (w0))]) (st := [.int (v3), .int (v1), .ref 0, .int (((10 : Int32) - w0)), .int ((v6 * v7))]) (h := hM σ) rfl (tX12_byCloth d σ v1 v3 r2 hr2) ?_
  obtain ⟨r3, hr3, hf⟩ := Option.bind_eq_some_iff.mp hf
  refine ev_cli 5 (kk := 188) (as := [.ref 0, .int (v8), .int (v3)]) (rest := [.int (w0), .int ((((10 : Int32) - w0) * r2)), .int ((v6 * v7))]) (pc := 147) (ls := [some (.ref 0), some (.int (v1)), none, some (.int (v3)), none, none, some (.int (v6)), some (.int (v7)), some (.int (v8)), some (.int (w0))]) (st := [.int (v3), .int (v8), .ref 0, .int (w0), .int ((((10 : Int32) - w0) * r2)), .int ((v6 * v7))]) (h := hM σ) rfl (tX12_byCloth d σ v8 v3 r3 hr3) ?_
  cases hf
  exact ev_rt 3 rfl
set_option maxRecDepth 20000 in
set_option maxHeartbeats 4000000 in
theorem tX12_likely_b106 (d : Nat) (σ : SM) (v1 : Int32) (v3 : Int32) (v6 : Int32) (v7 : Int32) (w0 : Int32) (q : Int32) (hf : fX12_likely_b106 σ v1 v3 v6 v7 w0 = some q) : ev_X (d + 1) (some .int) eiX12_likely (106, [some (.ref 0), some (.int (v1)), none, some (.int (v3)), none, none, some (.int (v6)), some (.int (v7)), none, none], [.int (w0)], hM σ) (some (.int q), hM σ) := by
  unfold fX12_likely_b106 at hf
  refine ev_br 3 (P := w0 = v1) (a := 114) (b := 118) (ls := [some (.ref 0), some (.int (v1)), none, some (.int (v3)), none, none, some (.int (v6)), some (.int (v7)), some (.int (w0)), none]) (st := []) (h := hM σ) rfl (fun c1 => ?_) (fun c1 => ?_)
  · rw [if_pos c1] at hf
    refine ev_go (c' := (122, [some (.ref 0), some (.int (v1)), none, some (.int (v3)), none, none, some (.int (v6)), some (.int (v7)), some (.int (w0)), none], [.int ((0 : Int32))], hM σ)) 1 rfl ?_
    exact ev_dr (a := [some (.ref 0), some (.int (v1)), none, some (.int (v3)), none, none, some (.int (v6)), some (.int (v7)), some (.int (w0)), none]) ⟨rfl, ⟨rfl, ⟨rfl, ⟨rfl, ⟨rfl, ⟨rfl, trivial⟩⟩⟩⟩⟩⟩ (tX12_likely_b122 d σ v1 v3 v6 v7 w0 (0 : Int32) _ hf)
  · rw [if_neg c1] at hf
    refine ev_go (c' := (122, [some (.ref 0), some (.int (v1)), none, some (.int (v3)), none, none, some (.int (v6)), some (.int (v7)), some (.int (w0)), none], [.int ((gm_nm_jacketTenths σ))], hM σ)) 1 rfl ?_
    exact ev_dr (a := [some (.ref 0), some (.int (v1)), none, some (.int (v3)), none, none, some (.int (v6)), some (.int (v7)), some (.int (w0)), none]) ⟨rfl, ⟨rfl, ⟨rfl, ⟨rfl, ⟨rfl, ⟨rfl, trivial⟩⟩⟩⟩⟩⟩ (tX12_likely_b122 d σ v1 v3 v6 v7 w0 (gm_nm_jacketTenths σ) _ hf)
set_option maxRecDepth 20000 in
set_option maxHeartbeats 4000000 in
theorem tX12_likely_b73 (d : Nat) (σ : SM) (v1 : Int32) (v3 : Int32) (v6 : Int32) (w0 : Int32) (q : Int32) (hf : fX12_likely_b73 σ v1 v3 v6 w0 = some q) : ev_X (d + 1) (some .int) eiX12_likely (73, [some (.ref 0), some (.int (v1)), none, some (.int (v3)), none, none, some (.int (v6)), none, none, none], [.int (w0)], hM σ) (some (.int q), hM σ) := by
  unfold fX12_likely_b73 at hf
  refine ev_br 4 (P := v1 = (gm_nm_jacketA σ)) (a := 83) (b := 90) (ls := [some (.ref 0), some (.int (v1)), none, some (.int (v3)), none, none, some (.int (v6)), some (.int (w0)), none, none]) (st := []) (h := hM σ) rfl (fun c1 => ?_) (fun c1 => ?_)
  · rw [if_pos c1] at hf
    refine ev_go (c' := (106, [some (.ref 0), some (.int (v1)), none, some (.int (v3)), none, none, some (.int (v6)), some (.int (w0)), none, none], [.int ((gm_nm_jacketB σ))], hM σ)) 2 rfl ?_
    exact ev_dr (a := [some (.ref 0), some (.int (v1)), none, some (.int (v3)), none, none, some (.int (v6)), some (.int (w0)), none, none]) ⟨rfl, ⟨rfl, ⟨rfl, ⟨rfl, ⟨rfl, trivial⟩⟩⟩⟩⟩ (tX12_likely_b106 d σ v1 v3 v6 w0 (gm_nm_jacketB σ) _ hf)
  · rw [if_neg c1] at hf
    refine ev_br 3 (P := v1 = (gm_nm_jacketB σ)) (a := 98) (b := 105) (ls := [some (.ref 0), some (.int (v1)), none, some (.int (v3)), none, none, some (.int (v6)), some (.int (w0)), none, none]) (st := []) (h := hM σ) rfl (fun c2 => ?_) (fun c2 => ?_)
    · rw [if_pos c2] at hf
      refine ev_go (c' := (106, [some (.ref 0), some (.int (v1)), none, some (.int (v3)), none, none, some (.int (v6)), some (.int (w0)), none, none], [.int ((gm_nm_jacketA σ))], hM σ)) 2 rfl ?_
      exact ev_dr (a := [some (.ref 0), some (.int (v1)), none, some (.int (v3)), none, none, some (.int (v6)), some (.int (w0)), none, none]) ⟨rfl, ⟨rfl, ⟨rfl, ⟨rfl, ⟨rfl, trivial⟩⟩⟩⟩⟩ (tX12_likely_b106 d σ v1 v3 v6 w0 (gm_nm_jacketA σ) _ hf)
    · rw [if_neg c2] at hf
      refine ev_go (c' := (106, [some (.ref 0), some (.int (v1)), none, some (.int (v3)), none, none, some (.int (v6)), some (.int (w0)), none, none], [.int (v1)], hM σ)) 0 rfl ?_
      exact ev_dr (a := [some (.ref 0), some (.int (v1)), none, some (.int (v3)), none, none, some (.int (v6)), some (.int (w0)), none, none]) ⟨rfl, ⟨rfl, ⟨rfl, ⟨rfl, ⟨rfl, trivial⟩⟩⟩⟩⟩ (tX12_likely_b106 d σ v1 v3 v6 w0 v1 _ hf)
set_option maxRecDepth 20000 in
set_option maxHeartbeats 4000000 in
theorem tX12_likely_b44 (d : Nat) (σ : SM) (v1 : Int32) (v3 : Int32) (v4 : Int32) (w0 : Int32) (q : Int32) (hf : fX12_likely_b44 σ v1 v3 v4 w0 = some q) : ev_X (d + 1) (some .int) eiX12_likely (44, [some (.ref 0), some (.int (v1)), none, some (.int (v3)), some (.int (v4)), none, none, none, none, none], [.int (w0)], hM σ) (some (.int q), hM σ) := by
  unfold fX12_likely_b44 at hf
  obtain ⟨c1, hf⟩ := ev_hp hf
  refine ev_ck 4 (P := ¬ (v1 < 0 ∨ 6 ≤ v1.toNatClampNeg)) (c' := (52, [some (.ref 0), some (.int (v1)), none, some (.int (v3)), some (.int (v4)), none, some (.int (w0)), none, none, none], [.int (((gm_pl_giggleOf σ) v1.toNatClampNeg))], hM σ)) rfl c1 ?_
  refine ev_br 1 (P := ((gm_pl_giggleOf σ) v1.toNatClampNeg) = v4) (a := 57) (b := 66) (ls := [some (.ref 0), some (.int (v1)), none, some (.int (v3)), some (.int (v4)), none, some (.int (w0)), none, none, none]) (st := []) (h := hM σ) rfl (fun c2 => ?_) (fun c2 => ?_)
  · rw [if_pos c2] at hf
    refine ev_go (c' := (73, [some (.ref 0), some (.int (v1)), none, some (.int (v3)), some (.int (v4)), none, some (.int (w0)), none, none, none], [.int (((4 : Int32) * (gm_nm_giggleRight σ)))], hM σ)) 4 rfl ?_
    exact ev_dr (a := [some (.ref 0), some (.int (v1)), none, some (.int (v3)), none, none, some (.int (w0)), none, none, none]) ⟨rfl, ⟨rfl, ⟨rfl, ⟨rfl, trivial⟩⟩⟩⟩ (tX12_likely_b73 d σ v1 v3 w0 ((4 : Int32) * (gm_nm_giggleRight σ)) _ hf)
  · rw [if_neg c2] at hf
    refine ev_go (c' := (73, [some (.ref 0), some (.int (v1)), none, some (.int (v3)), some (.int (v4)), none, some (.int (w0)), none, none, none], [.int (((10 : Int32) - (gm_nm_giggleRight σ)))], hM σ)) 3 rfl ?_
    exact ev_dr (a := [some (.ref 0), some (.int (v1)), none, some (.int (v3)), none, none, some (.int (w0)), none, none, none]) ⟨rfl, ⟨rfl, ⟨rfl, ⟨rfl, trivial⟩⟩⟩⟩ (tX12_likely_b73 d σ v1 v3 w0 ((10 : Int32) - (gm_nm_giggleRight σ)) _ hf)
set_option maxRecDepth 20000 in
set_option maxHeartbeats 4000000 in
theorem tX12_likely (d : Nat) (σ : SM) (v1 : Int32) (v2 : Int32) (v3 : Int32) (v4 : Int32) (q : Int32) (hf : fX12_likely σ v1 v2 v3 v4 = some q) : ev_M ev_mt (d + 2) 189 [.ref 0, .int (v1), .int (v2), .int (v3), .int (v4)] (hM σ) (some (.int q), hM σ) := by
  refine ev_en (rt := (some .int)) (I := eiX12_likely) rfl (Nat.le_of_ble_eq_true rfl) ?_
  change ev_X (d + 1) _ _ (0, [some (.ref 0), some (.int (v1)), some (.int (v2)), some (.int (v3)), some (.int (v4)), none, none, none, none, none], [], hM σ) _
  unfold fX12_likely at hf
  obtain ⟨c1, hf⟩ := ev_hp hf
  refine ev_ck 3 (P := ¬ (v1 < 0 ∨ 6 ≤ v1.toNatClampNeg)) (c' := (6, [some (.ref 0), some (.int (v1)), some (.int (v2)), some (.int (v3)), some (.int (v4)), none, none, none, none, none], [.int (((gm_pl_sizeOf σ) v1.toNatClampNeg))], hM σ)) rfl c1 ?_
  obtain ⟨r1, hr1, hf⟩ := Option.bind_eq_some_iff.mp hf
  refine ev_cli 2 (kk := 124) (as := [.int ((((gm_pl_sizeOf σ) v1.toNatClampNeg) - v2))]) (rest := []) (pc := 8) (ls := [some (.ref 0), some (.int (v1)), some (.int (v2)), some (.int (v3)), some (.int (v4)), none, none, none, none, none]) (st := [.int ((((gm_pl_sizeOf σ) v1.toNatClampNeg) - v2))]) (h := hM σ) rfl (tX12_size d (hM σ) (((gm_pl_sizeOf σ) v1.toNatClampNeg) - v2) r1 hr1) ?_
  refine ev_br 2 (P := r1 = 0) (a := 18) (b := 30) (ls := [some (.ref 0), some (.int (v1)), some (.int (v2)), some (.int (v3)), some (.int (v4)), some (.int (r1)), none, none, none, none]) (st := []) (h := hM σ) rfl (fun c2 => ?_) (fun c2 => ?_)
  · rw [if_pos c2] at hf
    refine ev_go (c' := (44, [some (.ref 0), some (.int (v1)), some (.int (v2)), some (.int (v3)), some (.int (v4)), some (.int (r1)), none, none, none, none], [.int (((10 : Int32) - ((2 : Int32) * (gm_nm_unsure σ))))], hM σ)) 6 rfl ?_
    exact ev_dr (a := [some (.ref 0), some (.int (v1)), none, some (.int (v3)), some (.int (v4)), none, none, none, none, none]) ⟨rfl, ⟨rfl, ⟨rfl, ⟨rfl, trivial⟩⟩⟩⟩ (tX12_likely_b44 d σ v1 v3 v4 ((10 : Int32) - ((2 : Int32) * (gm_nm_unsure σ))) _ hf)
  · rw [if_neg c2] at hf
    refine ev_br 2 (P := r1 = (1 : Int32)) (a := 36) (b := 43) (ls := [some (.ref 0), some (.int (v1)), some (.int (v2)), some (.int (v3)), some (.int (v4)), some (.int (r1)), none, none, none, none]) (st := []) (h := hM σ) rfl (fun c3 => ?_) (fun c3 => ?_)
    · rw [if_pos c3] at hf
      refine ev_go (c' := (44, [some (.ref 0), some (.int (v1)), some (.int (v2)), some (.int (v3)), some (.int (v4)), some (.int (r1)), none, none, none, none], [.int ((gm_nm_unsure σ))], hM σ)) 2 rfl ?_
      exact ev_dr (a := [some (.ref 0), some (.int (v1)), none, some (.int (v3)), some (.int (v4)), none, none, none, none, none]) ⟨rfl, ⟨rfl, ⟨rfl, ⟨rfl, trivial⟩⟩⟩⟩ (tX12_likely_b44 d σ v1 v3 v4 (gm_nm_unsure σ) _ hf)
    · rw [if_neg c3] at hf
      refine ev_go (c' := (44, [some (.ref 0), some (.int (v1)), some (.int (v2)), some (.int (v3)), some (.int (v4)), some (.int (r1)), none, none, none, none], [.int ((0 : Int32))], hM σ)) 0 rfl ?_
      exact ev_dr (a := [some (.ref 0), some (.int (v1)), none, some (.int (v3)), some (.int (v4)), none, none, none, none, none]) ⟨rfl, ⟨rfl, ⟨rfl, ⟨rfl, trivial⟩⟩⟩⟩ (tX12_likely_b44 d σ v1 v3 v4 (0 : Int32) _ hf)
set_option maxRecDepth 20000 in
set_option maxHeartbeats 4000000 in
theorem tX12_likelyAll_b6 (d : Nat) (σ : SM) (k6 : Int32 → Int32 → Int32 → Int32 → Int32 → Option (Int32)) (hk6 : ∀ (v1 : Int32) (v2 : Int32) (v3 : Int32) (v4 : Int32) (v5 : Int32) (q : Int32), k6 v1 v2 v3 v4 v5 = some q → ev_X (d + 2) (some .int) eiX12_likelyAll (6, [some (.ref 0), some (.int (v1)), some (.int (v2)), some (.int (v3)), some (.int (v4)), some (.int (v5))], [], hM σ) (some (.int q), hM σ)) (v1 : Int32) (v2 : Int32) (v3 : Int32) (v4 : Int32) (v5 : Int32) (q : Int32) (hf : fX12_likelyAll_b6 σ k6 v1 v2 v3 v4 v5 = some q) : ev_X (d + 2) (some .int) eiX12_likelyAll (6, [some (.ref 0), some (.int (v1)), some (.int (v2)), some (.int (v3)), some (.int (v4)), some (.int (v5))], [], hM σ) (some (.int q), hM σ) := by
  unfold fX12_likelyAll_b6 at hf
  refine ev_br 3 (P := v5 < (gm_pl_players σ)) (a := 15) (b := 35) (ls := [some (.ref 0), some (.int (v1)), some (.int (v2)), some (.int (v3)), some (.int (v4)), some (.int (v5))]) (st := []) (h := hM σ) rfl (fun c1 => ?_) (fun c1 => ?_)
  · rw [if_pos c1] at hf
    obtain ⟨r1, hr1, hf⟩ := Option.bind_eq_some_iff.mp hf
    refine ev_cli 6 (kk := 189) (as := [.ref 0, .int (v5), .int (v1), .int (v2), .int (v3)]) (rest := [.int (v4)]) (pc := 23) (ls := [some (.ref 0), some (.int (v1)), some (.int (v2)), some (.int (v3)), some (.int (v4)), some (.int (v5))]) (st := [.int (v3), .int (v2), .int (v1), .int (v5), .ref 0, .int (v4)]) (h := hM σ) rfl (tX12_likely d σ v5 v1 v2 v3 r1 hr1) ?_
    refine ev_go (c' := (6, [some (.ref 0), some (.int (v1)), some (.int (v2)), some (.int (v3)), some (.int ((v4 + r1))), some (.int ((v5 + (1 : Int32))))], [], hM σ)) 3 rfl ?_
    exact ev_dr (a := [some (.ref 0), some (.int (v1)), some (.int (v2)), some (.int (v3)), some (.int ((v4 + r1))), some (.int ((v5 + (1 : Int32))))]) ⟨rfl, ⟨rfl, ⟨rfl, ⟨rfl, ⟨rfl, ⟨rfl, trivial⟩⟩⟩⟩⟩⟩ (hk6 v1 v2 v3 (v4 + r1) (v5 + (1 : Int32)) _ hf)
  · rw [if_neg c1] at hf
    cases hf
    exact ev_rt 1 rfl
theorem tX12_likelyAll_l6 (d : Nat) (σ : SM) : ∀ (n : Nat) (v1 : Int32) (v2 : Int32) (v3 : Int32) (v4 : Int32) (v5 : Int32) (q : Int32), fX12_likelyAll_l6 σ n v1 v2 v3 v4 v5 = some q → ev_X (d + 2) (some .int) eiX12_likelyAll (6, [some (.ref 0), some (.int (v1)), some (.int (v2)), some (.int (v3)), some (.int (v4)), some (.int (v5))], [], hM σ) (some (.int q), hM σ)
  | 0, _, _, _, _, _, _, hf => by cases hf
  | n + 1, v1, v2, v3, v4, v5, q, hf => tX12_likelyAll_b6 d σ (fX12_likelyAll_l6 σ n) (fun v1 v2 v3 v4 v5 q h9 => tX12_likelyAll_l6 d σ n v1 v2 v3 v4 v5 q h9) v1 v2 v3 v4 v5 q hf
set_option maxRecDepth 20000 in
set_option maxHeartbeats 4000000 in
theorem tX12_likelyAll (d : Nat) (σ : SM) (v1 : Int32) (v2 : Int32) (v3 : Int32) (q : Int32) (hf : fX12_likelyAll σ v1 v2 v3 = some q) : ev_M ev_mt (d + 3) 190 [.ref 0, .int (v1), .int (v2), .int (v3)] (hM σ) (some (.int q), hM σ) := by
  refine ev_en (rt := (some .int)) (I := eiX12_likelyAll) rfl (Nat.le_of_ble_eq_true rfl) ?_
  change ev_X (d + 2) _ _ (0, [some (.ref 0), some (.int (v1)), some (.int (v2)), some (.int (v3)), none, none], [], hM σ) _
  unfold fX12_likelyAll at hf
  refine ev_go (c' := (6, [some (.ref 0), some (.int (v1)), some (.int (v2)), some (.int (v3)), some (.int ((0 : Int32))), some (.int ((0 : Int32)))], [], hM σ)) 3 rfl ?_
  exact ev_dr (a := [some (.ref 0), some (.int (v1)), some (.int (v2)), some (.int (v3)), some (.int ((0 : Int32))), some (.int ((0 : Int32)))]) ⟨rfl, ⟨rfl, ⟨rfl, ⟨rfl, ⟨rfl, ⟨rfl, trivial⟩⟩⟩⟩⟩⟩ (tX12_likelyAll_l6 d σ 1000 v1 v2 v3 (0 : Int32) (0 : Int32) _ hf)
set_option maxRecDepth 20000 in
set_option maxHeartbeats 4000000 in
theorem tX12_isFelt_b33 (d : Nat) (h : ev_H) (w0 : Int32) (q : Int32) (hf : fX12_isFelt_b33 w0 = some q) : ev_X (d + 1) (some .boolean) eiX12_isFelt (33, [none, none, none], [.int (w0)], h) (some (.int q), h) := by
  unfold fX12_isFelt_b33 at hf
  obtain ⟨c1, hf⟩ := ev_hp hf
  cases hf
  exact ev_rk 0 rfl c1
set_option maxRecDepth 20000 in
set_option maxHeartbeats 4000000 in
theorem tX12_isFelt_b32 (d : Nat) (h : ev_H) (q : Int32) (hf : fX12_isFelt_b32 = some q) : ev_X (d + 1) (some .boolean) eiX12_isFelt (32, [none, none, none], [], h) (some (.int q), h) := by
  unfold fX12_isFelt_b32 at hf
  refine ev_go (c' := (33, [none, none, none], [.int ((0 : Int32))], h)) 0 rfl ?_
  exact ev_dr (a := [none, none, none]) trivial (tX12_isFelt_b33 d h (0 : Int32) _ hf)
set_option maxRecDepth 20000 in
set_option maxHeartbeats 4000000 in
theorem tX12_isFelt (d : Nat) (h : ev_H) (v0 : Int32) (v1 : Int32) (v2 : Int32) (q : Int32) (hf : fX12_isFelt v0 v1 v2 = some q) : ev_M ev_mt (d + 2) 191 [.int (v0), .int (v1), .int (v2)] (h) (some (.int q), h) := by
  refine ev_en (rt := (some .boolean)) (I := eiX12_isFelt) rfl (Nat.le_of_ble_eq_true rfl) ?_
  change ev_X (d + 1) _ _ (0, [some (.int (v0)), some (.int (v1)), some (.int (v2))], [], h) _
  unfold fX12_isFelt at hf
  obtain ⟨r1, hr1, hf⟩ := Option.bind_eq_some_iff.mp hf
  refine ev_cli 3 (kk := 123) (as := [.int (v0), .int ((0 : Int32)), .int ((9 : Int32))]) (rest := []) (pc := 4) (ls := [some (.int (v0)), some (.int (v1)), some (.int (v2))]) (st := [.int ((9 : Int32)), .int ((0 : Int32)), .int (v0)]) (h := h) rfl (tX12_within d (h) v0 (0 : Int32) (9 : Int32) r1 hr1) ?_
  refine ev_br 0 (P := r1 = 0) (a := 32) (b := 10) (ls := [some (.int (v0)), some (.int (v1)), some (.int (v2))]) (st := []) (h := h) rfl (fun c1 => ?_) (fun c1 => ?_)
  · rw [if_pos c1] at hf
    exact ev_dr (a := [none, none, none]) trivial (tX12_isFelt_b32 d h  _ hf)
  · rw [if_neg c1] at hf
    obtain ⟨r2, hr2, hf⟩ := Option.bind_eq_some_iff.mp hf
    refine ev_cli 3 (kk := 123) (as := [.int (v1), .int ((0 : Int32)), .int ((4 : Int32))]) (rest := []) (pc := 13) (ls := [some (.int (v0)), some (.int (v1)), some (.int (v2))]) (st := [.int ((4 : Int32)), .int ((0 : Int32)), .int (v1)]) (h := h) rfl (tX12_within d (h) v1 (0 : Int32) (4 : Int32) r2 hr2) ?_
    refine ev_br 0 (P := r2 = 0) (a := 32) (b := 19) (ls := [some (.int (v0)), some (.int (v1)), some (.int (v2))]) (st := []) (h := h) rfl (fun c2 => ?_) (fun c2 => ?_)
    · rw [if_pos c2] at hf
      exact ev_dr (a := [none, none, none]) trivial (tX12_isFelt_b32 d h  _ hf)
    · rw [if_neg c2] at hf
      obtain ⟨r3, hr3, hf⟩ := Option.bind_eq_some_iff.mp hf
      refine ev_cli 3 (kk := 123) (as := [.int (v2), .int ((0 : Int32)), .int ((4 : Int32))]) (rest := []) (pc := 22) (ls := [some (.int (v0)), some (.int (v1)), some (.int (v2))]) (st := [.int ((4 : Int32)), .int ((0 : Int32)), .int (v2)]) (h := h) rfl (tX12_within d (h) v2 (0 : Int32) (4 : Int32) r3 hr3) ?_
      refine ev_br 0 (P := r3 = 0) (a := 32) (b := 28) (ls := [some (.int (v0)), some (.int (v1)), some (.int (v2))]) (st := []) (h := h) rfl (fun c3 => ?_) (fun c3 => ?_)
      · rw [if_pos c3] at hf
        exact ev_dr (a := [none, none, none]) trivial (tX12_isFelt_b32 d h  _ hf)
      · rw [if_neg c3] at hf
        refine ev_go (c' := (33, [some (.int (v0)), some (.int (v1)), some (.int (v2))], [.int ((1 : Int32))], h)) 1 rfl ?_
        exact ev_dr (a := [none, none, none]) trivial (tX12_isFelt_b33 d h (1 : Int32) _ hf)
