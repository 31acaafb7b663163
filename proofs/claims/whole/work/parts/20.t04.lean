/-! X11_heard X11_term X11_odds X11_ways X11_likeliest X11_knows X11_sixtiethsExpected X11_expected X11_bestDoing X11_next X11_post X11_playerOf X11_isOfKind X11_as X11_about X11_move X11_mayStart X11_game X11_lasts X11_stand -/
set_option maxRecDepth 20000 in
set_option maxHeartbeats 4000000 in
theorem tX11_heard_b31 (d : Nat) (σ : SX) (q : Int32 × SX) (hf : fX11_heard_b31 σ = some q) : ev_X (d + 4) (some .int) eiX11_heard (31, [none, none, none, none], [], hX σ) (some (.int q.1), hX q.2) := by
  unfold fX11_heard_b31 at hf
  cases hf
  exact ev_rt 1 rfl
set_option maxRecDepth 20000 in
set_option maxHeartbeats 4000000 in
theorem tX11_heard (d : Nat) (σ : SX) (v1 : Int32) (v2 : Int32) (v3 : Int32) (q : Int32 × SX) (hf : fX11_heard σ v1 v2 v3 = some q) : ev_M ev_mt (d + 5) 90 [.ref 0, .int (v1), .int (v2), .int (v3)] (hX σ) (some (.int q.1), hX q.2) := by
  refine ev_en (rt := (some .int)) (I := eiX11_heard) rfl (Nat.le_of_ble_eq_true rfl) ?_
  change ev_X (d + 4) _ _ (0, [some (.ref 0), some (.int (v1)), some (.int (v2)), some (.int (v3))], [], hX σ) _
  unfold fX11_heard at hf
  obtain ⟨r1, hr1, hf⟩ := Option.bind_eq_some_iff.mp hf
  refine ev_cli 3 (kk := 59) (as := [.ref 3, .int (v1)]) (rest := []) (pc := 5) (ls := [some (.ref 0), some (.int (v1)), some (.int (v2)), some (.int (v3))]) (st := [.int (v1), .ref 3]) (h := hX σ) rfl (tX7_isFree (d + 3) σ v1 r1 hr1) ?_
  refine ev_br 0 (P := r1 = 0) (a := 11) (b := 14) (ls := [some (.ref 0), some (.int (v1)), some (.int (v2)), some (.int (v3))]) (st := []) (h := hX σ) rfl (fun c1 => ?_) (fun c1 => ?_)
  · rw [if_pos c1] at hf
    cases hf
    exact ev_rt 1 rfl
  · rw [if_neg c1] at hf
    obtain ⟨r2, hr2, hf⟩ := Option.bind_eq_some_iff.mp hf
    refine ev_cli 2 (kk := 113) (as := [.int (v2), .int ((3 : Int32))]) (rest := []) (pc := 16) (ls := [some (.ref 0), some (.int (v1)), some (.int (v2)), some (.int (v3))]) (st := [.int ((3 : Int32)), .int (v2)]) (h := hX σ) rfl (tX11_isWithin (d + 3) (hX σ) v2 (3 : Int32) r2 hr2) ?_
    refine ev_br 0 (P := r2 = 0) (a := 31) (b := 22) (ls := [some (.ref 0), some (.int (v1)), some (.int (v2)), some (.int (v3))]) (st := []) (h := hX σ) rfl (fun c2 => ?_) (fun c2 => ?_)
    · rw [if_pos c2] at hf
      exact ev_dr (a := [none, none, none, none]) trivial (tX11_heard_b31 d σ  _ hf)
    · rw [if_neg c2] at hf
      obtain ⟨r3, hr3, hf⟩ := Option.bind_eq_some_iff.mp hf
      refine ev_cli 2 (kk := 113) (as := [.int (v3), .int ((10 : Int32))]) (rest := []) (pc := 25) (ls := [some (.ref 0), some (.int (v1)), some (.int (v2)), some (.int (v3))]) (st := [.int ((10 : Int32)), .int (v3)]) (h := hX σ) rfl (tX11_isWithin (d + 3) (hX σ) v3 (10 : Int32) r3 hr3) ?_
      refine ev_br 0 (P := r3 = 0) (a := 31) (b := 34) (ls := [some (.ref 0), some (.int (v1)), some (.int (v2)), some (.int (v3))]) (st := []) (h := hX σ) rfl (fun c3 => ?_) (fun c3 => ?_)
      · rw [if_pos c3] at hf
        exact ev_dr (a := [none, none, none, none]) trivial (tX11_heard_b31 d σ  _ hf)
      · rw [if_neg c3] at hf
        refine ev_br 4 (P := (gx_od_updates σ) < (9 : Int32)) (a := 49) (b := 46) (ls := [some (.ref 0), some (.int (v1)), some (.int (v2)), some (.int (v3))]) (st := []) (h := hX σ) rfl (fun c4 => ?_) (fun c4 => ?_)
        · rw [if_pos c4] at hf
          obtain ⟨r4, hr4, hf⟩ := Option.bind_eq_some_iff.mp hf
          refine ev_clv 4 (kk := 32) (as := [.ref 8, .int (v1), .int (v3)]) (rest := []) (pc := 55) (ls := [some (.ref 0), some (.int (v1)), some (.int (v2)), some (.int (v3))]) (st := [.int (v3), .int (v1), .ref 8]) (h := hX σ) rfl (tX4_foretellCall d σ v1 v3 r4 hr4) ?_
          obtain ⟨r5, hr5, hf⟩ := Option.bind_eq_some_iff.mp hf
          refine ev_cli 3 (kk := 36) (as := [.ref 8, .int (v2)]) (rest := []) (pc := 63) (ls := [some (.ref 0), some (.int (v1)), some (.int (v2)), some (.int (v3))]) (st := [.int (v2), .ref 8]) (h := hX r4) rfl (tX4_narrowTo (d + 2) r4 v2 r5 hr5) ?_
          cases hf
          exact ev_rt 0 rfl
        · rw [if_neg c4] at hf
          cases hf
          exact ev_rt 1 rfl
set_option maxRecDepth 20000 in
set_option maxHeartbeats 4000000 in
theorem tX11_term_b36 (d : Nat) (h : ev_H) (w0 : Int64) (q : Int64) (hf : fX11_term_b36 w0 = some q) : ev_X (d + 1) (some .long) eiX11_term (36, [none, none, none, none, none, none, none, none, none], [.long (w0)], h) (some (.long q), h) := by
  unfold fX11_term_b36 at hf
  cases hf
  exact ev_rt 0 rfl
set_option maxRecDepth 20000 in
set_option maxHeartbeats 4000000 in
theorem tX11_term_b17 (d : Nat) (h : ev_H) (v5 : Int64) (w0 : Int64) (q : Int64) (hf : fX11_term_b17 v5 w0 = some q) : ev_X (d + 1) (some .long) eiX11_term (17, [none, none, none, none, none, some (.long (v5)), none, none, none], [.long (w0)], h) (some (.long q), h) := by
  unfold fX11_term_b17 at hf
  refine ev_bi 4 (lg_cmp_eq v5 (0 : Int64)) (a := 26) (b := 31) (ls := [none, none, none, none, none, some (.long (v5)), none, some (.long (w0)), none]) (st := []) (h := h) rfl (fun c1 => ?_) (fun c1 => ?_)
  · rw [if_pos c1] at hf
    refine ev_go (c' := (36, [none, none, none, none, none, some (.long (v5)), none, some (.long (w0)), none], [.long (w0)], h)) 1 rfl ?_
    exact ev_dr (a := [none, none, none, none, none, none, none, none, none]) trivial (tX11_term_b36 d h w0 _ hf)
  · rw [if_neg c1] at hf
    obtain ⟨c2, hf⟩ := ev_hp hf
    refine ev_ck 2 (P := ¬ v5 = 0) (c' := (36, [none, none, none, none, none, some (.long (v5)), none, some (.long (w0)), none], [.long ((w0 / v5))], h)) rfl c2 ?_
    exact ev_dr (a := [none, none, none, none, none, none, none, none, none]) trivial (tX11_term_b36 d h (w0 / v5) _ hf)
set_option maxRecDepth 20000 in
set_option maxHeartbeats 4000000 in
theorem tX11_term (d : Nat) (h : ev_H) (v0 : Int64) (v2 : Int64) (v4 : Int32) (q : Int64) (hf : fX11_term v0 v2 v4 = some q) : ev_M ev_mt (d + 2) 118 [.long (v0), .long (v2), .int (v4)] (h) (some (.long q), h) := by
  refine ev_en (rt := (some .long)) (I := eiX11_term) rfl (Nat.le_of_ble_eq_true rfl) ?_
  change ev_X (d + 1) _ _ (0, [some (.long (v0)), none, some (.long (v2)), none, some (.int (v4)), none, none, none, none], [], h) _
  unfold fX11_term at hf
  obtain ⟨r1, hr1, hf⟩ := Option.bind_eq_some_iff.mp hf
  refine ev_cll 2 (kk := 117) (as := [.long (v0), .long (v2)]) (rest := []) (pc := 2) (ls := [some (.long (v0)), none, some (.long (v2)), none, some (.int (v4)), none, none, none, none]) (st := [.long (v2), .long (v0)]) (h := h) rfl (tX11_commonDivisor d (h) v0 v2 r1 hr1) ?_
  refine ev_br 2 (P := v4 = 0) (a := 12) (b := 16) (ls := [some (.long (v0)), none, some (.long (v2)), none, some (.int (v4)), some (.long (r1)), none, none, none]) (st := []) (h := h) rfl (fun c1 => ?_) (fun c1 => ?_)
  · rw [if_pos c1] at hf
    refine ev_go (c' := (17, [some (.long (v0)), none, some (.long (v2)), none, some (.int (v4)), some (.long (r1)), none, none, none], [.long (v0)], h)) 1 rfl ?_
    exact ev_dr (a := [none, none, none, none, none, some (.long (r1)), none, none, none]) ⟨rfl, trivial⟩ (tX11_term_b17 d h r1 v0 _ hf)
  · rw [if_neg c1] at hf
    refine ev_go (c' := (17, [some (.long (v0)), none, some (.long (v2)), none, some (.int (v4)), some (.long (r1)), none, none, none], [.long (v2)], h)) 0 rfl ?_
    exact ev_dr (a := [none, none, none, none, none, some (.long (r1)), none, none, none]) ⟨rfl, trivial⟩ (tX11_term_b17 d h r1 v2 _ hf)
set_option maxRecDepth 20000 in
set_option maxHeartbeats 4000000 in
theorem tX11_odds (d : Nat) (σ : SX) (v1 : Int32) (v2 : Int32) (q : Int64) (hf : fX11_odds σ v1 v2 = some q) : ev_M ev_mt (d + 3) 91 [.ref 0, .int (v1), .int (v2)] (hX σ) (some (.long q), hX σ) := by
  refine ev_en (rt := (some .long)) (I := eiX11_odds) rfl (Nat.le_of_ble_eq_true rfl) ?_
  change ev_X (d + 2) _ _ (0, [some (.ref 0), some (.int (v1)), some (.int (v2))], [], hX σ) _
  unfold fX11_odds at hf
  obtain ⟨r1, hr1, hf⟩ := Option.bind_eq_some_iff.mp hf
  refine ev_cli 3 (kk := 57) (as := [.ref 3, .int (v1)]) (rest := []) (pc := 5) (ls := [some (.ref 0), some (.int (v1)), some (.int (v2))]) (st := [.int (v1), .ref 3]) (h := hX σ) rfl (tX7_has (d + 1) σ v1 r1 hr1) ?_
  refine ev_br 0 (P := r1 = 0) (a := 11) (b := 15) (ls := [some (.ref 0), some (.int (v1)), some (.int (v2))]) (st := []) (h := hX σ) rfl (fun c1 => ?_) (fun c1 => ?_)
  · rw [if_pos c1] at hf
    cases hf
    exact ev_rt 1 rfl
  · rw [if_neg c1] at hf
    obtain ⟨r2, hr2, hf⟩ := Option.bind_eq_some_iff.mp hf
    refine ev_cli 2 (kk := 113) (as := [.int (v2), .int ((1 : Int32))]) (rest := []) (pc := 17) (ls := [some (.ref 0), some (.int (v1)), some (.int (v2))]) (st := [.int ((1 : Int32)), .int (v2)]) (h := hX σ) rfl (tX11_isWithin (d + 1) (hX σ) v2 (1 : Int32) r2 hr2) ?_
    refine ev_br 0 (P := r2 = 0) (a := 23) (b := 27) (ls := [some (.ref 0), some (.int (v1)), some (.int (v2))]) (st := []) (h := hX σ) rfl (fun c2 => ?_) (fun c2 => ?_)
    · rw [if_pos c2] at hf
      cases hf
      exact ev_rt 1 rfl
    · rw [if_neg c2] at hf
      obtain ⟨r3, hr3, hf⟩ := Option.bind_eq_some_iff.mp hf
      refine ev_cll 3 (kk := 25) (as := [.ref 8, .int (v1)]) (rest := []) (pc := 32) (ls := [some (.ref 0), some (.int (v1)), some (.int (v2))]) (st := [.int (v1), .ref 8]) (h := hX σ) rfl (tX4_ofCell d σ v1 r3 hr3) ?_
      obtain ⟨r4, hr4, hf⟩ := Option.bind_eq_some_iff.mp hf
      refine ev_cll 2 (kk := 24) (as := [.ref 8]) (rest := [.long (r3)]) (pc := 39) (ls := [some (.ref 0), some (.int (v1)), some (.int (v2))]) (st := [.ref 8, .long (r3)]) (h := hX σ) rfl (tX4_total (d + 1) σ r4 hr4) ?_
      obtain ⟨r5, hr5, hf⟩ := Option.bind_eq_some_iff.mp hf
      refine ev_cll 1 (kk := 118) (as := [.long (r3), .long (r4), .int (v2)]) (rest := []) (pc := 43) (ls := [some (.ref 0), some (.int (v1)), some (.int (v2))]) (st := [.int (v2), .long (r4), .long (r3)]) (h := hX σ) rfl (tX11_term d (hX σ) r3 r4 v2 r5 hr5) ?_
      cases hf
      exact ev_rt 0 rfl
set_option maxRecDepth 20000 in
set_option maxHeartbeats 4000000 in
theorem tX11_ways_b30 (d : Nat) (σ : SX) (q : Int64) (hf : fX11_ways_b30 σ = some q) : ev_X (d + 2) (some .long) eiX11_ways (30, [none, none, none], [], hX σ) (some (.long q), hX σ) := by
  unfold fX11_ways_b30 at hf
  cases hf
  exact ev_rt 1 rfl
set_option maxRecDepth 20000 in
set_option maxHeartbeats 4000000 in
theorem tX11_ways (d : Nat) (σ : SX) (v1 : Int32) (v2 : Int32) (q : Int64) (hf : fX11_ways σ v1 v2 = some q) : ev_M ev_mt (d + 3) 92 [.ref 0, .int (v1), .int (v2)] (hX σ) (some (.long q), hX σ) := by
  refine ev_en (rt := (some .long)) (I := eiX11_ways) rfl (Nat.le_of_ble_eq_true rfl) ?_
  change ev_X (d + 2) _ _ (0, [some (.ref 0), some (.int (v1)), some (.int (v2))], [], hX σ) _
  unfold fX11_ways at hf
  obtain ⟨r1, hr1, hf⟩ := Option.bind_eq_some_iff.mp hf
  refine ev_cli 2 (kk := 56) (as := [.ref 3]) (rest := []) (pc := 4) (ls := [some (.ref 0), some (.int (v1)), some (.int (v2))]) (st := [.ref 3]) (h := hX σ) rfl (tX7_isRead (d + 1) σ r1 hr1) ?_
  refine ev_br 0 (P := r1 = 0) (a := 10) (b := 14) (ls := [some (.ref 0), some (.int (v1)), some (.int (v2))]) (st := []) (h := hX σ) rfl (fun c1 => ?_) (fun c1 => ?_)
  · rw [if_pos c1] at hf
    cases hf
    exact ev_rt 1 rfl
  · rw [if_neg c1] at hf
    obtain ⟨r2, hr2, hf⟩ := Option.bind_eq_some_iff.mp hf
    refine ev_cli 2 (kk := 113) (as := [.int (v1), .int ((3 : Int32))]) (rest := []) (pc := 16) (ls := [some (.ref 0), some (.int (v1)), some (.int (v2))]) (st := [.int ((3 : Int32)), .int (v1)]) (h := hX σ) rfl (tX11_isWithin (d + 1) (hX σ) v1 (3 : Int32) r2 hr2) ?_
    refine ev_br 0 (P := r2 = 0) (a := 30) (b := 22) (ls := [some (.ref 0), some (.int (v1)), some (.int (v2))]) (st := []) (h := hX σ) rfl (fun c2 => ?_) (fun c2 => ?_)
    · rw [if_pos c2] at hf
      exact ev_dr (a := [none, none, none]) trivial (tX11_ways_b30 d σ  _ hf)
    · rw [if_neg c2] at hf
      obtain ⟨r3, hr3, hf⟩ := Option.bind_eq_some_iff.mp hf
      refine ev_cli 2 (kk := 113) (as := [.int (v2), .int ((1 : Int32))]) (rest := []) (pc := 24) (ls := [some (.ref 0), some (.int (v1)), some (.int (v2))]) (st := [.int ((1 : Int32)), .int (v2)]) (h := hX σ) rfl (tX11_isWithin (d + 1) (hX σ) v2 (1 : Int32) r3 hr3) ?_
      refine ev_br 0 (P := r3 = 0) (a := 30) (b := 34) (ls := [some (.ref 0), some (.int (v1)), some (.int (v2))]) (st := []) (h := hX σ) rfl (fun c3 => ?_) (fun c3 => ?_)
      · rw [if_pos c3] at hf
        exact ev_dr (a := [none, none, none]) trivial (tX11_ways_b30 d σ  _ hf)
      · rw [if_neg c3] at hf
        obtain ⟨r4, hr4, hf⟩ := Option.bind_eq_some_iff.mp hf
        refine ev_cll 3 (kk := 27) (as := [.ref 8, .int (v1)]) (rest := []) (pc := 39) (ls := [some (.ref 0), some (.int (v1)), some (.int (v2))]) (st := [.int (v1), .ref 8]) (h := hX σ) rfl (tX4_ofWay (d + 1) σ v1 r4 hr4) ?_
        obtain ⟨r5, hr5, hf⟩ := Option.bind_eq_some_iff.mp hf
        refine ev_cll 2 (kk := 24) (as := [.ref 8]) (rest := [.long (r4)]) (pc := 46) (ls := [some (.ref 0), some (.int (v1)), some (.int (v2))]) (st := [.ref 8, .long (r4)]) (h := hX σ) rfl (tX4_total (d + 1) σ r5 hr5) ?_
        obtain ⟨r6, hr6, hf⟩ := Option.bind_eq_some_iff.mp hf
        refine ev_cll 1 (kk := 118) (as := [.long (r4), .long (r5), .int (v2)]) (rest := []) (pc := 50) (ls := [some (.ref 0), some (.int (v1)), some (.int (v2))]) (st := [.int (v2), .long (r5), .long (r4)]) (h := hX σ) rfl (tX11_term d (hX σ) r4 r5 v2 r6 hr6) ?_
        cases hf
        exact ev_rt 0 rfl
set_option maxRecDepth 20000 in
set_option maxHeartbeats 4000000 in
theorem tX11_likeliest_b22 (d : Nat) (σ : SX) (w0 : Int32) (q : Int32) (hf : fX11_likeliest_b22 σ w0 = some q) : ev_X (d + 3) (some .int) eiX11_likeliest (22, [none], [.int (w0)], hX σ) (some (.int q), hX σ) := by
  unfold fX11_likeliest_b22 at hf
  cases hf
  exact ev_rt 0 rfl
set_option maxRecDepth 20000 in
set_option maxHeartbeats 4000000 in
theorem tX11_likeliest (d : Nat) (σ : SX) (q : Int32) (hf : fX11_likeliest σ = some q) : ev_M ev_mt (d + 4) 93 [.ref 0] (hX σ) (some (.int q), hX σ) := by
  refine ev_en (rt := (some .int)) (I := eiX11_likeliest) rfl (Nat.le_of_ble_eq_true rfl) ?_
  change ev_X (d + 3) _ _ (0, [some (.ref 0)], [], hX σ) _
  unfold fX11_likeliest at hf
  obtain ⟨r1, hr1, hf⟩ := Option.bind_eq_some_iff.mp hf
  refine ev_cli 2 (kk := 56) (as := [.ref 3]) (rest := []) (pc := 4) (ls := [some (.ref 0)]) (st := [.ref 3]) (h := hX σ) rfl (tX7_isRead (d + 2) σ r1 hr1) ?_
  refine ev_br 0 (P := r1 = 0) (a := 20) (b := 10) (ls := [some (.ref 0)]) (st := []) (h := hX σ) rfl (fun c1 => ?_) (fun c1 => ?_)
  · rw [if_pos c1] at hf
    refine ev_go (c' := (22, [some (.ref 0)], [.int ((-103 : Int32))], hX σ)) 0 rfl ?_
    exact ev_dr (a := [none]) trivial (tX11_likeliest_b22 d σ (-103 : Int32) _ hf)
  · rw [if_neg c1] at hf
    obtain ⟨r2, hr2, hf⟩ := Option.bind_eq_some_iff.mp hf
    refine ev_cli 2 (kk := 28) (as := [.ref 8]) (rest := []) (pc := 14) (ls := [some (.ref 0)]) (st := [.ref 8]) (h := hX σ) rfl (tX4_bestCell d σ r2 hr2) ?_
    refine ev_go (c' := (22, [some (.ref 0)], [.int (r2)], hX σ)) 0 rfl ?_
    exact ev_dr (a := [none]) trivial (tX11_likeliest_b22 d σ r2 _ hf)
set_option maxRecDepth 20000 in
set_option maxHeartbeats 4000000 in
theorem tX11_knows (d : Nat) (σ : SX) (v1 : Int32) (q : Int64) (hf : fX11_knows σ v1 = some q) : ev_M ev_mt (d + 4) 94 [.ref 0, .int (v1)] (hX σ) (some (.long q), hX σ) := by
  refine ev_en (rt := (some .long)) (I := eiX11_knows) rfl (Nat.le_of_ble_eq_true rfl) ?_
  change ev_X (d + 3) _ _ (0, [some (.ref 0), some (.int (v1))], [], hX σ) _
  unfold fX11_knows at hf
  obtain ⟨r1, hr1, hf⟩ := Option.bind_eq_some_iff.mp hf
  refine ev_cli 2 (kk := 56) (as := [.ref 3]) (rest := []) (pc := 4) (ls := [some (.ref 0), some (.int (v1))]) (st := [.ref 3]) (h := hX σ) rfl (tX7_isRead (d + 2) σ r1 hr1) ?_
  refine ev_br 0 (P := r1 = 0) (a := 10) (b := 14) (ls := [some (.ref 0), some (.int (v1))]) (st := []) (h := hX σ) rfl (fun c1 => ?_) (fun c1 => ?_)
  · rw [if_pos c1] at hf
    cases hf
    exact ev_rt 1 rfl
  · rw [if_neg c1] at hf
    obtain ⟨r2, hr2, hf⟩ := Option.bind_eq_some_iff.mp hf
    refine ev_cli 2 (kk := 113) (as := [.int (v1), .int ((1 : Int32))]) (rest := []) (pc := 16) (ls := [some (.ref 0), some (.int (v1))]) (st := [.int ((1 : Int32)), .int (v1)]) (h := hX σ) rfl (tX11_isWithin (d + 2) (hX σ) v1 (1 : Int32) r2 hr2) ?_
    refine ev_br 0 (P := r2 = 0) (a := 22) (b := 26) (ls := [some (.ref 0), some (.int (v1))]) (st := []) (h := hX σ) rfl (fun c2 => ?_) (fun c2 => ?_)
    · rw [if_pos c2] at hf
      cases hf
      exact ev_rt 1 rfl
    · rw [if_neg c2] at hf
      obtain ⟨r3, hr3, hf⟩ := Option.bind_eq_some_iff.mp hf
      refine ev_cli 4 (kk := 28) (as := [.ref 8]) (rest := [.ref 8]) (pc := 34) (ls := [some (.ref 0), some (.int (v1))]) (st := [.ref 8, .ref 8]) (h := hX σ) rfl (tX4_bestCell d σ r3 hr3) ?_
      obtain ⟨r4, hr4, hf⟩ := Option.bind_eq_some_iff.mp hf
      refine ev_cll 0 (kk := 25) (as := [.ref 8, .int (r3)]) (rest := []) (pc := 37) (ls := [some (.ref 0), some (.int (v1))]) (st := [.int (r3), .ref 8]) (h := hX σ) rfl (tX4_ofCell (d + 1) σ r3 r4 hr4) ?_
      obtain ⟨r5, hr5, hf⟩ := Option.bind_eq_some_iff.mp hf
      refine ev_cll 2 (kk := 24) (as := [.ref 8]) (rest := [.long (r4)]) (pc := 44) (ls := [some (.ref 0), some (.int (v1))]) (st := [.ref 8, .long (r4)]) (h := hX σ) rfl (tX4_total (d + 2) σ r5 hr5) ?_
      obtain ⟨r6, hr6, hf⟩ := Option.bind_eq_some_iff.mp hf
      refine ev_cll 1 (kk := 118) (as := [.long (r4), .long (r5), .int (v1)]) (rest := []) (pc := 48) (ls := [some (.ref 0), some (.int (v1))]) (st := [.int (v1), .long (r5), .long (r4)]) (h := hX σ) rfl (tX11_term (d + 1) (hX σ) r4 r5 v1 r6 hr6) ?_
      cases hf
      exact ev_rt 0 rfl
set_option maxRecDepth 20000 in
set_option maxHeartbeats 4000000 in
theorem tX11_sixtiethsExpected_b42 (d : Nat) (σ : SX) (v2 : Int32) (w0 : Int32) (q : Int64 × SX) (hf : fX11_sixtiethsExpected_b42 σ v2 w0 = some q) : ev_X (d + 4) (some .long) eiX11_sixtiethsExpected (42, [some (.ref 0), none, some (.int (v2)), none, none, none], [.int (w0)], hX σ) (some (.long q.1), hX q.2) := by
  unfold fX11_sixtiethsExpected_b42 at hf
  obtain ⟨r3, hr3, hf⟩ := Option.bind_eq_some_iff.mp hf
  refine ev_clv 6 (kk := 30) (as := [.ref 8, .int (w0), .int (v2), .int ((-1 : Int32))]) (rest := []) (pc := 52) (ls := [some (.ref 0), none, some (.int (v2)), none, none, some (.int (w0))]) (st := [.int ((-1 : Int32)), .int (v2), .int (w0), .ref 8]) (h := hX σ) rfl (tX4_foretellStep (d + 1) σ w0 v2 (-1 : Int32) r3 hr3) ?_
  obtain ⟨r4, hr4, hf⟩ := Option.bind_eq_some_iff.mp hf
  refine ev_cll 3 (kk := 37) (as := [.ref 8]) (rest := [.long ((6 : Int64))]) (pc := 62) (ls := [some (.ref 0), none, some (.int (v2)), none, none, some (.int (w0))]) (st := [.ref 8, .long ((6 : Int64))]) (h := hX r3) rfl (tX4_likeliestOfAll (d + 2) r3 r4 hr4) ?_
  cases hf
  exact ev_rt 1 rfl
set_option maxRecDepth 20000 in
set_option maxHeartbeats 4000000 in
theorem tX11_sixtiethsExpected (d : Nat) (σ : SX) (v1 : Int32) (v2 : Int32) (v3 : Int32) (v4 : Int32) (q : Int64 × SX) (hf : fX11_sixtiethsExpected σ v1 v2 v3 v4 = some q) : ev_M ev_mt (d + 5) 119 [.ref 0, .int (v1), .int (v2), .int (v3), .int (v4)] (hX σ) (some (.long q.1), hX q.2) := by
  refine ev_en (rt := (some .long)) (I := eiX11_sixtiethsExpected) rfl (Nat.le_of_ble_eq_true rfl) ?_
  change ev_X (d + 4) _ _ (0, [some (.ref 0), some (.int (v1)), some (.int (v2)), some (.int (v3)), some (.int (v4)), none], [], hX σ) _
  unfold fX11_sixtiethsExpected at hf
  refine ev_br 2 (P := v1 = (3 : Int32)) (a := 5) (b := 23) (ls := [some (.ref 0), some (.int (v1)), some (.int (v2)), some (.int (v3)), some (.int (v4)), none]) (st := []) (h := hX σ) rfl (fun c1 => ?_) (fun c1 => ?_)
  · rw [if_pos c1] at hf
    obtain ⟨r1, hr1, hf⟩ := Option.bind_eq_some_iff.mp hf
    refine ev_clv 4 (kk := 32) (as := [.ref 8, .int (v3), .int (v4)]) (rest := []) (pc := 12) (ls := [some (.ref 0), some (.int (v1)), some (.int (v2)), some (.int (v3)), some (.int (v4)), none]) (st := [.int (v4), .int (v3), .ref 8]) (h := hX σ) rfl (tX4_foretellCall d σ v3 v4 r1 hr1) ?_
    obtain ⟨r2, hr2, hf⟩ := Option.bind_eq_some_iff.mp hf
    refine ev_cll 2 (kk := 37) (as := [.ref 8]) (rest := []) (pc := 19) (ls := [some (.ref 0), some (.int (v1)), some (.int (v2)), some (.int (v3)), some (.int (v4)), none]) (st := [.ref 8]) (h := hX r1) rfl (tX4_likeliestOfAll (d + 2) r1 r2 hr2) ?_
    cases hf
    exact ev_rt 0 rfl
  · rw [if_neg c1] at hf
    refine ev_br 2 (P := v1 = (1 : Int32)) (a := 28) (b := 32) (ls := [some (.ref 0), some (.int (v1)), some (.int (v2)), some (.int (v3)), some (.int (v4)), none]) (st := []) (h := hX σ) rfl (fun c2 => ?_) (fun c2 => ?_)
    · rw [if_pos c2] at hf
      refine ev_go (c' := (42, [some (.ref 0), some (.int (v1)), some (.int (v2)), some (.int (v3)), some (.int (v4)), none], [.int ((3 : Int32))], hX σ)) 1 rfl ?_
      exact ev_dr (a := [some (.ref 0), none, some (.int (v2)), none, none, none]) ⟨rfl, ⟨rfl, trivial⟩⟩ (tX11_sixtiethsExpected_b42 d σ v2 (3 : Int32) _ hf)
    · rw [if_neg c2] at hf
      refine ev_br 2 (P := v1 = (2 : Int32)) (a := 37) (b := 41) (ls := [some (.ref 0), some (.int (v1)), some (.int (v2)), some (.int (v3)), some (.int (v4)), none]) (st := []) (h := hX σ) rfl (fun c3 => ?_) (fun c3 => ?_)
      · rw [if_pos c3] at hf
        refine ev_go (c' := (42, [some (.ref 0), some (.int (v1)), some (.int (v2)), some (.int (v3)), some (.int (v4)), none], [.int ((1 : Int32))], hX σ)) 1 rfl ?_
        exact ev_dr (a := [some (.ref 0), none, some (.int (v2)), none, none, none]) ⟨rfl, ⟨rfl, trivial⟩⟩ (tX11_sixtiethsExpected_b42 d σ v2 (1 : Int32) _ hf)
      · rw [if_neg c3] at hf
        refine ev_go (c' := (42, [some (.ref 0), some (.int (v1)), some (.int (v2)), some (.int (v3)), some (.int (v4)), none], [.int ((0 : Int32))], hX σ)) 0 rfl ?_
        exact ev_dr (a := [some (.ref 0), none, some (.int (v2)), none, none, none]) ⟨rfl, ⟨rfl, trivial⟩⟩ (tX11_sixtiethsExpected_b42 d σ v2 (0 : Int32) _ hf)
set_option maxRecDepth 20000 in
set_option maxHeartbeats 4000000 in
theorem tX11_expected_b82 (d : Nat) (σ : SX) (v1 : Int32) (v2 : Int32) (v3 : Int32) (v4 : Int32) (v5 : Int32) (q : Int64 × SX) (hf : fX11_expected_b82 σ v1 v2 v3 v4 v5 = some q) : ev_X (d + 5) (some .long) eiX11_expected (82, [some (.ref 0), some (.int (v1)), some (.int (v2)), some (.int (v3)), some (.int (v4)), some (.int (v5))], [], hX σ) (some (.long q.1), hX q.2) := by
  unfold fX11_expected_b82 at hf
  refine ev_br 4 (P := (7 : Int32) < (gx_od_updates σ)) (a := 94) (b := 98) (ls := [some (.ref 0), some (.int (v1)), some (.int (v2)), some (.int (v3)), some (.int (v4)), some (.int (v5))]) (st := []) (h := hX σ) rfl (fun c1 => ?_) (fun c1 => ?_)
  · rw [if_pos c1] at hf
    cases hf
    exact ev_rt 1 rfl
  · rw [if_neg c1] at hf
    obtain ⟨r6, hr6, hf⟩ := Option.bind_eq_some_iff.mp hf
    refine ev_cll 5 (kk := 119) (as := [.ref 0, .int (v1), .int (v2), .int (v3), .int (v4)]) (rest := []) (pc := 104) (ls := [some (.ref 0), some (.int (v1)), some (.int (v2)), some (.int (v3)), some (.int (v4)), some (.int (v5))]) (st := [.int (v4), .int (v3), .int (v2), .int (v1), .ref 0]) (h := hX σ) rfl (tX11_sixtiethsExpected d σ v1 v2 v3 v4 r6 hr6) ?_
    obtain ⟨r7, hr7, hf⟩ := Option.bind_eq_some_iff.mp hf
    refine ev_cll 3 (kk := 24) (as := [.ref 8]) (rest := [.long ((60 : Int64)), .long (r6.1)]) (pc := 114) (ls := [some (.ref 0), some (.int (v1)), some (.int (v2)), some (.int (v3)), some (.int (v4)), some (.int (v5))]) (st := [.ref 8, .long ((60 : Int64)), .long (r6.1)]) (h := hX r6.2) rfl (tX4_total (d + 4) r6.2 r7 hr7) ?_
    obtain ⟨r8, hr8, hf⟩ := Option.bind_eq_some_iff.mp hf
    refine ev_cll 2 (kk := 118) (as := [.long (r6.1), .long (((60 : Int64) * r7)), .int (v5)]) (rest := []) (pc := 120) (ls := [some (.ref 0), some (.int (v1)), some (.int (v2)), some (.int (v3)), some (.int (v4)), some (.int (v5))]) (st := [.int (v5), .long (((60 : Int64) * r7)), .long (r6.1)]) (h := hX r6.2) rfl (tX11_term (d + 3) (hX r6.2) r6.1 ((60 : Int64) * r7) v5 r8 hr8) ?_
    cases hf
    exact ev_rt 0 rfl
set_option maxRecDepth 20000 in
set_option maxHeartbeats 4000000 in
theorem tX11_expected_b63 (d : Nat) (σ : SX) (v1 : Int32) (v2 : Int32) (v3 : Int32) (v4 : Int32) (v5 : Int32) (q : Int64 × SX) (hf : fX11_expected_b63 σ v1 v2 v3 v4 v5 = some q) : ev_X (d + 5) (some .long) eiX11_expected (63, [some (.ref 0), some (.int (v1)), some (.int (v2)), some (.int (v3)), some (.int (v4)), some (.int (v5))], [], hX σ) (some (.long q.1), hX q.2) := by
  unfold fX11_expected_b63 at hf
  refine ev_br 2 (P := v1 = (3 : Int32)) (a := 68) (b := 82) (ls := [some (.ref 0), some (.int (v1)), some (.int (v2)), some (.int (v3)), some (.int (v4)), some (.int (v5))]) (st := []) (h := hX σ) rfl (fun c1 => ?_) (fun c1 => ?_)
  · rw [if_pos c1] at hf
    obtain ⟨r9, hr9, hf⟩ := Option.bind_eq_some_iff.mp hf
    refine ev_cli 2 (kk := 113) (as := [.int (v4), .int ((10 : Int32))]) (rest := []) (pc := 72) (ls := [some (.ref 0), some (.int (v1)), some (.int (v2)), some (.int (v3)), some (.int (v4)), some (.int (v5))]) (st := [.int ((10 : Int32)), .int (v4)]) (h := hX σ) rfl (tX11_isWithin (d + 4) (hX σ) v4 (10 : Int32) r9 hr9) ?_
    refine ev_br 0 (P := r9 = 0) (a := 78) (b := 82) (ls := [some (.ref 0), some (.int (v1)), some (.int (v2)), some (.int (v3)), some (.int (v4)), some (.int (v5))]) (st := []) (h := hX σ) rfl (fun c2 => ?_) (fun c2 => ?_)
    · rw [if_pos c2] at hf
      cases hf
      exact ev_rt 1 rfl
    · rw [if_neg c2] at hf
      exact ev_dr (a := [some (.ref 0), some (.int (v1)), some (.int (v2)), some (.int (v3)), some (.int (v4)), some (.int (v5))]) ⟨rfl, ⟨rfl, ⟨rfl, ⟨rfl, ⟨rfl, ⟨rfl, trivial⟩⟩⟩⟩⟩⟩ (tX11_expected_b82 d σ v1 v2 v3 v4 v5 _ hf)
  · rw [if_neg c1] at hf
    exact ev_dr (a := [some (.ref 0), some (.int (v1)), some (.int (v2)), some (.int (v3)), some (.int (v4)), some (.int (v5))]) ⟨rfl, ⟨rfl, ⟨rfl, ⟨rfl, ⟨rfl, ⟨rfl, trivial⟩⟩⟩⟩⟩⟩ (tX11_expected_b82 d σ v1 v2 v3 v4 v5 _ hf)
set_option maxRecDepth 20000 in
set_option maxHeartbeats 4000000 in
theorem tX11_expected_b39 (d : Nat) (σ : SX) (q : Int64 × SX) (hf : fX11_expected_b39 σ = some q) : ev_X (d + 5) (some .long) eiX11_expected (39, [none, none, none, none, none, none], [], hX σ) (some (.long q.1), hX q.2) := by
  unfold fX11_expected_b39 at hf
  cases hf
  exact ev_rt 1 rfl
set_option maxRecDepth 20000 in
set_option maxHeartbeats 4000000 in
theorem tX11_expected (d : Nat) (σ : SX) (v1 : Int32) (v2 : Int32) (v3 : Int32) (v4 : Int32) (v5 : Int32) (q : Int64 × SX) (hf : fX11_expected σ v1 v2 v3 v4 v5 = some q) : ev_M ev_mt (d + 6) 95 [.ref 0, .int (v1), .int (v2), .int (v3), .int (v4), .int (v5)] (hX σ) (some (.long q.1), hX q.2) := by
  refine ev_en (rt := (some .long)) (I := eiX11_expected) rfl (Nat.le_of_ble_eq_true rfl) ?_
  change ev_X (d + 5) _ _ (0, [some (.ref 0), some (.int (v1)), some (.int (v2)), some (.int (v3)), some (.int (v4)), some (.int (v5))], [], hX σ) _
  unfold fX11_expected at hf
  obtain ⟨r1, hr1, hf⟩ := Option.bind_eq_some_iff.mp hf
  refine ev_cli 2 (kk := 56) (as := [.ref 3]) (rest := []) (pc := 4) (ls := [some (.ref 0), some (.int (v1)), some (.int (v2)), some (.int (v3)), some (.int (v4)), some (.int (v5))]) (st := [.ref 3]) (h := hX σ) rfl (tX7_isRead (d + 4) σ r1 hr1) ?_
  refine ev_br 0 (P := r1 = 0) (a := 10) (b := 14) (ls := [some (.ref 0), some (.int (v1)), some (.int (v2)), some (.int (v3)), some (.int (v4)), some (.int (v5))]) (st := []) (h := hX σ) rfl (fun c1 => ?_) (fun c1 => ?_)
  · rw [if_pos c1] at hf
    cases hf
    exact ev_rt 1 rfl
  · rw [if_neg c1] at hf
    obtain ⟨r2, hr2, hf⟩ := Option.bind_eq_some_iff.mp hf
    refine ev_cli 2 (kk := 113) (as := [.int (v1), .int ((3 : Int32))]) (rest := []) (pc := 16) (ls := [some (.ref 0), some (.int (v1)), some (.int (v2)), some (.int (v3)), some (.int (v4)), some (.int (v5))]) (st := [.int ((3 : Int32)), .int (v1)]) (h := hX σ) rfl (tX11_isWithin (d + 4) (hX σ) v1 (3 : Int32) r2 hr2) ?_
    refine ev_br 0 (P := r2 = 0) (a := 39) (b := 22) (ls := [some (.ref 0), some (.int (v1)), some (.int (v2)), some (.int (v3)), some (.int (v4)), some (.int (v5))]) (st := []) (h := hX σ) rfl (fun c2 => ?_) (fun c2 => ?_)
    · rw [if_pos c2] at hf
      exact ev_dr (a := [none, none, none, none, none, none]) trivial (tX11_expected_b39 d σ  _ hf)
    · rw [if_neg c2] at hf
      obtain ⟨r3, hr3, hf⟩ := Option.bind_eq_some_iff.mp hf
      refine ev_cli 2 (kk := 113) (as := [.int (v2), .int ((5 : Int32))]) (rest := []) (pc := 24) (ls := [some (.ref 0), some (.int (v1)), some (.int (v2)), some (.int (v3)), some (.int (v4)), some (.int (v5))]) (st := [.int ((5 : Int32)), .int (v2)]) (h := hX σ) rfl (tX11_isWithin (d + 4) (hX σ) v2 (5 : Int32) r3 hr3) ?_
      refine ev_br 0 (P := r3 = 0) (a := 39) (b := 30) (ls := [some (.ref 0), some (.int (v1)), some (.int (v2)), some (.int (v3)), some (.int (v4)), some (.int (v5))]) (st := []) (h := hX σ) rfl (fun c3 => ?_) (fun c3 => ?_)
      · rw [if_pos c3] at hf
        exact ev_dr (a := [none, none, none, none, none, none]) trivial (tX11_expected_b39 d σ  _ hf)
      · rw [if_neg c3] at hf
        obtain ⟨r4, hr4, hf⟩ := Option.bind_eq_some_iff.mp hf
        refine ev_cli 2 (kk := 113) (as := [.int (v5), .int ((1 : Int32))]) (rest := []) (pc := 33) (ls := [some (.ref 0), some (.int (v1)), some (.int (v2)), some (.int (v3)), some (.int (v4)), some (.int (v5))]) (st := [.int ((1 : Int32)), .int (v5)]) (h := hX σ) rfl (tX11_isWithin (d + 4) (hX σ) v5 (1 : Int32) r4 hr4) ?_
        refine ev_br 0 (P := r4 = 0) (a := 39) (b := 43) (ls := [some (.ref 0), some (.int (v1)), some (.int (v2)), some (.int (v3)), some (.int (v4)), some (.int (v5))]) (st := []) (h := hX σ) rfl (fun c4 => ?_) (fun c4 => ?_)
        · rw [if_pos c4] at hf
          exact ev_dr (a := [none, none, none, none, none, none]) trivial (tX11_expected_b39 d σ  _ hf)
        · rw [if_neg c4] at hf
          refine ev_br 2 (P := v1 = (3 : Int32)) (a := 48) (b := 63) (ls := [some (.ref 0), some (.int (v1)), some (.int (v2)), some (.int (v3)), some (.int (v4)), some (.int (v5))]) (st := []) (h := hX σ) rfl (fun c5 => ?_) (fun c5 => ?_)
          · rw [if_pos c5] at hf
            obtain ⟨r5, hr5, hf⟩ := Option.bind_eq_some_iff.mp hf
            refine ev_cli 3 (kk := 59) (as := [.ref 3, .int (v3)]) (rest := []) (pc := 53) (ls := [some (.ref 0), some (.int (v1)), some (.int (v2)), some (.int (v3)), some (.int (v4)), some (.int (v5))]) (st := [.int (v3), .ref 3]) (h := hX σ) rfl (tX7_isFree (d + 4) σ v3 r5 hr5) ?_
            refine ev_br 0 (P := r5 = 0) (a := 59) (b := 63) (ls := [some (.ref 0), some (.int (v1)), some (.int (v2)), some (.int (v3)), some (.int (v4)), some (.int (v5))]) (st := []) (h := hX σ) rfl (fun c6 => ?_) (fun c6 => ?_)
            · rw [if_pos c6] at hf
              cases hf
              exact ev_rt 1 rfl
            · rw [if_neg c6] at hf
              exact ev_dr (a := [some (.ref 0), some (.int (v1)), some (.int (v2)), some (.int (v3)), some (.int (v4)), some (.int (v5))]) ⟨rfl, ⟨rfl, ⟨rfl, ⟨rfl, ⟨rfl, ⟨rfl, trivial⟩⟩⟩⟩⟩⟩ (tX11_expected_b63 d σ v1 v2 v3 v4 v5 _ hf)
          · rw [if_neg c5] at hf
            exact ev_dr (a := [some (.ref 0), some (.int (v1)), some (.int (v2)), some (.int (v3)), some (.int (v4)), some (.int (v5))]) ⟨rfl, ⟨rfl, ⟨rfl, ⟨rfl, ⟨rfl, ⟨rfl, trivial⟩⟩⟩⟩⟩⟩ (tX11_expected_b63 d σ v1 v2 v3 v4 v5 _ hf)
set_option maxRecDepth 20000 in
set_option maxHeartbeats 4000000 in
theorem tX11_bestDoing_b44 (d : Nat) (k11 : SX → Int32 → Int32 → Int32 → Int32 → Int64 → Int32 → Option (Int32 × SX)) (hk11 : ∀ (σ : SX) (v1 : Int32) (v2 : Int32) (v3 : Int32) (v4 : Int32) (v5 : Int64) (v7 : Int32) (q : Int32 × SX), k11 σ v1 v2 v3 v4 v5 v7 = some q → ev_X (d + 5) (some .int) eiX11_bestDoing (11, [some (.ref 0), some (.int (v1)), some (.int (v2)), some (.int (v3)), some (.int (v4)), some (.long (v5)), none, some (.int (v7)), none, none], [], hX σ) (some (.int q.1), hX q.2)) (σ : SX) (v1 : Int32) (v2 : Int32) (v3 : Int32) (v4 : Int32) (v5 : Int64) (v7 : Int32) (q : Int32 × SX) (hf : fX11_bestDoing_b44 k11 σ v1 v2 v3 v4 v5 v7 = some q) : ev_X (d + 5) (some .int) eiX11_bestDoing (44, [some (.ref 0), some (.int (v1)), some (.int (v2)), some (.int (v3)), some (.int (v4)), some (.long (v5)), none, some (.int (v7)), none, none], [], hX σ) (some (.int q.1), hX q.2) := by
  unfold fX11_bestDoing_b44 at hf
  refine ev_go (c' := (11, [some (.ref 0), some (.int (v1)), some (.int (v2)), some (.int (v3)), some (.int (v4)), some (.long (v5)), none, some (.int ((v7 + (1 : Int32)))), none, none], [], hX σ)) 1 rfl ?_
  exact ev_dr (a := [some (.ref 0), some (.int (v1)), some (.int (v2)), some (.int (v3)), some (.int (v4)), some (.long (v5)), none, some (.int ((v7 + (1 : Int32)))), none, none]) ⟨rfl, ⟨rfl, ⟨rfl, ⟨rfl, ⟨rfl, ⟨rfl, ⟨rfl, trivial⟩⟩⟩⟩⟩⟩⟩ (hk11 σ v1 v2 v3 v4 v5 (v7 + (1 : Int32)) _ hf)
set_option maxRecDepth 20000 in
set_option maxHeartbeats 4000000 in
theorem tX11_bestDoing_b11 (d : Nat) (k11 : SX → Int32 → Int32 → Int32 → Int32 → Int64 → Int32 → Option (Int32 × SX)) (hk11 : ∀ (σ : SX) (v1 : Int32) (v2 : Int32) (v3 : Int32) (v4 : Int32) (v5 : Int64) (v7 : Int32) (q : Int32 × SX), k11 σ v1 v2 v3 v4 v5 v7 = some q → ev_X (d + 5) (some .int) eiX11_bestDoing (11, [some (.ref 0), some (.int (v1)), some (.int (v2)), some (.int (v3)), some (.int (v4)), some (.long (v5)), none, some (.int (v7)), none, none], [], hX σ) (some (.int q.1), hX q.2)) (σ : SX) (v1 : Int32) (v2 : Int32) (v3 : Int32) (v4 : Int32) (v5 : Int64) (v7 : Int32) (q : Int32 × SX) (hf : fX11_bestDoing_b11 k11 σ v1 v2 v3 v4 v5 v7 = some q) : ev_X (d + 5) (some .int) eiX11_bestDoing (11, [some (.ref 0), some (.int (v1)), some (.int (v2)), some (.int (v3)), some (.int (v4)), some (.long (v5)), none, some (.int (v7)), none, none], [], hX σ) (some (.int q.1), hX q.2) := by
  unfold fX11_bestDoing_b11 at hf
  refine ev_br 2 (P := (3 : Int32) < v7) (a := 50) (b := 17) (ls := [some (.ref 0), some (.int (v1)), some (.int (v2)), some (.int (v3)), some (.int (v4)), some (.long (v5)), none, some (.int (v7)), none, none]) (st := []) (h := hX σ) rfl (fun c1 => ?_) (fun c1 => ?_)
  · rw [if_pos c1] at hf
    cases hf
    exact ev_rt 1 rfl
  · rw [if_neg c1] at hf
    obtain ⟨r1, hr1, hf⟩ := Option.bind_eq_some_iff.mp hf
    refine ev_cll 5 (kk := 119) (as := [.ref 0, .int (v7), .int (v1), .int (v2), .int (v3)]) (rest := []) (pc := 23) (ls := [some (.ref 0), some (.int (v1)), some (.int (v2)), some (.int (v3)), some (.int (v4)), some (.long (v5)), none, some (.int (v7)), none, none]) (st := [.int (v3), .int (v2), .int (v1), .int (v7), .ref 0]) (h := hX σ) rfl (tX11_sixtiethsExpected d σ v7 v1 v2 v3 r1 hr1) ?_
    refine ev_bi 4 (lg_cmp_gt r1.1 v5) (a := 36) (b := 44) (ls := [some (.ref 0), some (.int (v1)), some (.int (v2)), some (.int (v3)), some (.int (v4)), some (.long (v5)), none, some (.int (v7)), some (.long (r1.1)), none]) (st := []) (h := hX r1.2) rfl (fun c2 => ?_) (fun c2 => ?_)
    · rw [if_pos c2] at hf
      refine ev_go (c' := (44, [some (.ref 0), some (.int (v1)), some (.int (v2)), some (.int (v3)), some (.int (v7)), some (.long (r1.1)), none, some (.int (v7)), some (.long (r1.1)), none], [], hX r1.2)) 3 rfl ?_
      exact ev_dr (a := [some (.ref 0), some (.int (v1)), some (.int (v2)), some (.int (v3)), some (.int (v7)), some (.long (r1.1)), none, some (.int (v7)), none, none]) ⟨rfl, ⟨rfl, ⟨rfl, ⟨rfl, ⟨rfl, ⟨rfl, ⟨rfl, trivial⟩⟩⟩⟩⟩⟩⟩ (tX11_bestDoing_b44 d k11 hk11 r1.2 v1 v2 v3 v7 r1.1 v7 _ hf)
    · rw [if_neg c2] at hf
      exact ev_dr (a := [some (.ref 0), some (.int (v1)), some (.int (v2)), some (.int (v3)), some (.int (v4)), some (.long (v5)), none, some (.int (v7)), none, none]) ⟨rfl, ⟨rfl, ⟨rfl, ⟨rfl, ⟨rfl, ⟨rfl, ⟨rfl, trivial⟩⟩⟩⟩⟩⟩⟩ (tX11_bestDoing_b44 d k11 hk11 r1.2 v1 v2 v3 v4 v5 v7 _ hf)
theorem tX11_bestDoing_l11 (d : Nat) : ∀ (n : Nat) (σ : SX) (v1 : Int32) (v2 : Int32) (v3 : Int32) (v4 : Int32) (v5 : Int64) (v7 : Int32) (q : Int32 × SX), fX11_bestDoing_l11 n σ v1 v2 v3 v4 v5 v7 = some q → ev_X (d + 5) (some .int) eiX11_bestDoing (11, [some (.ref 0), some (.int (v1)), some (.int (v2)), some (.int (v3)), some (.int (v4)), some (.long (v5)), none, some (.int (v7)), none, none], [], hX σ) (some (.int q.1), hX q.2)
  | 0, _, _, _, _, _, _, _, _, hf => by cases hf
  | n + 1, σ, v1, v2, v3, v4, v5, v7, q, hf => tX11_bestDoing_b11 d (fX11_bestDoing_l11 n) (fun σ v1 v2 v3 v4 v5 v7 q h9 => tX11_bestDoing_l11 d n σ v1 v2 v3 v4 v5 v7 q h9) σ v1 v2 v3 v4 v5 v7 q hf
set_option maxRecDepth 20000 in
set_option maxHeartbeats 4000000 in
theorem tX11_bestDoing (d : Nat) (σ : SX) (v1 : Int32) (v2 : Int32) (v3 : Int32) (q : Int32 × SX) (hf : fX11_bestDoing σ v1 v2 v3 = some q) : ev_M ev_mt (d + 6) 120 [.ref 0, .int (v1), .int (v2), .int (v3)] (hX σ) (some (.int q.1), hX q.2) := by
  refine ev_en (rt := (some .int)) (I := eiX11_bestDoing) rfl (Nat.le_of_ble_eq_true rfl) ?_
  change ev_X (d + 5) _ _ (0, [some (.ref 0), some (.int (v1)), some (.int (v2)), some (.int (v3)), none, none, none, none, none, none], [], hX σ) _
  unfold fX11_bestDoing at hf
  refine ev_go (c' := (11, [some (.ref 0), some (.int (v1)), some (.int (v2)), some (.int (v3)), some (.int ((0 : Int32))), some (.long ((-1 : Int64))), none, some (.int ((0 : Int32))), none, none], [], hX σ)) 5 rfl ?_
  exact ev_dr (a := [some (.ref 0), some (.int (v1)), some (.int (v2)), some (.int (v3)), some (.int ((0 : Int32))), some (.long ((-1 : Int64))), none, some (.int ((0 : Int32))), none, none]) ⟨rfl, ⟨rfl, ⟨rfl, ⟨rfl, ⟨rfl, ⟨rfl, ⟨rfl, trivial⟩⟩⟩⟩⟩⟩⟩ (tX11_bestDoing_l11 d 1000 σ v1 v2 v3 (0 : Int32) (-1 : Int64) (0 : Int32) _ hf)
set_option maxRecDepth 20000 in
set_option maxHeartbeats 4000000 in
theorem tX11_next (d : Nat) (σ : SX) (v1 : Int32) (v2 : Int32) (v3 : Int32) (q : Int32 × SX) (hf : fX11_next σ v1 v2 v3 = some q) : ev_M ev_mt (d + 7) 96 [.ref 0, .int (v1), .int (v2), .int (v3)] (hX σ) (some (.int q.1), hX q.2) := by
  refine ev_en (rt := (some .int)) (I := eiX11_next) rfl (Nat.le_of_ble_eq_true rfl) ?_
  change ev_X (d + 6) _ _ (0, [some (.ref 0), some (.int (v1)), some (.int (v2)), some (.int (v3))], [], hX σ) _
  unfold fX11_next at hf
  obtain ⟨r1, hr1, hf⟩ := Option.bind_eq_some_iff.mp hf
  refine ev_cli 2 (kk := 56) (as := [.ref 3]) (rest := []) (pc := 4) (ls := [some (.ref 0), some (.int (v1)), some (.int (v2)), some (.int (v3))]) (st := [.ref 3]) (h := hX σ) rfl (tX7_isRead (d + 5) σ r1 hr1) ?_
  refine ev_br 0 (P := r1 = 0) (a := 10) (b := 13) (ls := [some (.ref 0), some (.int (v1)), some (.int (v2)), some (.int (v3))]) (st := []) (h := hX σ) rfl (fun c1 => ?_) (fun c1 => ?_)
  · rw [if_pos c1] at hf
    cases hf
    exact ev_rt 1 rfl
  · rw [if_neg c1] at hf
    obtain ⟨r2, hr2, hf⟩ := Option.bind_eq_some_iff.mp hf
    refine ev_cli 2 (kk := 113) (as := [.int (v1), .int ((5 : Int32))]) (rest := []) (pc := 15) (ls := [some (.ref 0), some (.int (v1)), some (.int (v2)), some (.int (v3))]) (st := [.int ((5 : Int32)), .int (v1)]) (h := hX σ) rfl (tX11_isWithin (d + 5) (hX σ) v1 (5 : Int32) r2 hr2) ?_
    refine ev_br 0 (P := r2 = 0) (a := 21) (b := 24) (ls := [some (.ref 0), some (.int (v1)), some (.int (v2)), some (.int (v3))]) (st := []) (h := hX σ) rfl (fun c2 => ?_) (fun c2 => ?_)
    · rw [if_pos c2] at hf
      cases hf
      exact ev_rt 1 rfl
    · rw [if_neg c2] at hf
      obtain ⟨r3, hr3, hf⟩ := Option.bind_eq_some_iff.mp hf
      refine ev_cli 3 (kk := 59) (as := [.ref 3, .int (v2)]) (rest := []) (pc := 29) (ls := [some (.ref 0), some (.int (v1)), some (.int (v2)), some (.int (v3))]) (st := [.int (v2), .ref 3]) (h := hX σ) rfl (tX7_isFree (d + 5) σ v2 r3 hr3) ?_
      refine ev_br 0 (P := r3 = 0) (a := 35) (b := 38) (ls := [some (.ref 0), some (.int (v1)), some (.int (v2)), some (.int (v3))]) (st := []) (h := hX σ) rfl (fun c3 => ?_) (fun c3 => ?_)
      · rw [if_pos c3] at hf
        cases hf
        exact ev_rt 1 rfl
      · rw [if_neg c3] at hf
        obtain ⟨r4, hr4, hf⟩ := Option.bind_eq_some_iff.mp hf
        refine ev_cli 2 (kk := 113) (as := [.int (v3), .int ((10 : Int32))]) (rest := []) (pc := 41) (ls := [some (.ref 0), some (.int (v1)), some (.int (v2)), some (.int (v3))]) (st := [.int ((10 : Int32)), .int (v3)]) (h := hX σ) rfl (tX11_isWithin (d + 5) (hX σ) v3 (10 : Int32) r4 hr4) ?_
        refine ev_br 0 (P := r4 = 0) (a := 47) (b := 50) (ls := [some (.ref 0), some (.int (v1)), some (.int (v2)), some (.int (v3))]) (st := []) (h := hX σ) rfl (fun c4 => ?_) (fun c4 => ?_)
        · rw [if_pos c4] at hf
          cases hf
          exact ev_rt 1 rfl
        · rw [if_neg c4] at hf
          refine ev_br 4 (P := (7 : Int32) < (gx_od_updates σ)) (a := 62) (b := 65) (ls := [some (.ref 0), some (.int (v1)), some (.int (v2)), some (.int (v3))]) (st := []) (h := hX σ) rfl (fun c5 => ?_) (fun c5 => ?_)
          · rw [if_pos c5] at hf
            cases hf
            exact ev_rt 1 rfl
          · rw [if_neg c5] at hf
            obtain ⟨r5, hr5, hf⟩ := Option.bind_eq_some_iff.mp hf
            refine ev_cli 4 (kk := 120) (as := [.ref 0, .int (v1), .int (v2), .int (v3)]) (rest := []) (pc := 69) (ls := [some (.ref 0), some (.int (v1)), some (.int (v2)), some (.int (v3))]) (st := [.int (v3), .int (v2), .int (v1), .ref 0]) (h := hX σ) rfl (tX11_bestDoing d σ v1 v2 v3 r5 hr5) ?_
            cases hf
            exact ev_rt 0 rfl
set_option maxRecDepth 20000 in
set_option maxHeartbeats 4000000 in
theorem tX11_post_b43 (d : Nat) (σ : SX) (q : Int64 × SX) (hf : fX11_post_b43 σ = some q) : ev_X (d + 3) (some .long) eiX11_post (43, [none, none, none, none, none, none, none, none], [], hX σ) (some (.long q.1), hX q.2) := by
  unfold fX11_post_b43 at hf
  cases hf
  exact ev_rt 1 rfl
set_option maxRecDepth 20000 in
set_option maxHeartbeats 4000000 in
theorem tX11_post_b23 (d : Nat) (σ : SX) (q : Int64 × SX) (hf : fX11_post_b23 σ = some q) : ev_X (d + 3) (some .long) eiX11_post (23, [none, none, none, none, none, none, none, none], [], hX σ) (some (.long q.1), hX q.2) := by
  unfold fX11_post_b23 at hf
  cases hf
  exact ev_rt 1 rfl
set_option maxRecDepth 20000 in
set_option maxHeartbeats 4000000 in
theorem tX11_post (d : Nat) (σ : SX) (v1 : Int32) (v2 : Int32) (v3 : Int32) (q : Int64 × SX) (hf : fX11_post σ v1 v2 v3 = some q) : ev_M ev_mt (d + 4) 97 [.ref 0, .int (v1), .int (v2), .int (v3)] (hX σ) (some (.long q.1), hX q.2) := by
  refine ev_en (rt := (some .long)) (I := eiX11_post) rfl (Nat.le_of_ble_eq_true rfl) ?_
  change ev_X (d + 3) _ _ (0, [some (.ref 0), some (.int (v1)), some (.int (v2)), some (.int (v3)), none, none, none, none], [], hX σ) _
  unfold fX11_post at hf
  obtain ⟨r1, hr1, hf⟩ := Option.bind_eq_some_iff.mp hf
  refine ev_cli 3 (kk := 57) (as := [.ref 3, .int (v1)]) (rest := []) (pc := 5) (ls := [some (.ref 0), some (.int (v1)), some (.int (v2)), some (.int (v3)), none, none, none, none]) (st := [.int (v1), .ref 3]) (h := hX σ) rfl (tX7_has (d + 2) σ v1 r1 hr1) ?_
  refine ev_br 0 (P := r1 = 0) (a := 23) (b := 11) (ls := [some (.ref 0), some (.int (v1)), some (.int (v2)), some (.int (v3)), none, none, none, none]) (st := []) (h := hX σ) rfl (fun c1 => ?_) (fun c1 => ?_)
  · rw [if_pos c1] at hf
    exact ev_dr (a := [none, none, none, none, none, none, none, none]) trivial (tX11_post_b23 d σ  _ hf)
  · rw [if_neg c1] at hf
    obtain ⟨r2, hr2, hf⟩ := Option.bind_eq_some_iff.mp hf
    refine ev_cli 3 (kk := 58) (as := [.ref 3, .int (v1)]) (rest := []) (pc := 16) (ls := [some (.ref 0), some (.int (v1)), some (.int (v2)), some (.int (v3)), none, none, none, none]) (st := [.int (v1), .ref 3]) (h := hX σ) rfl (tX7_kindOf (d + 2) σ v1 r2 hr2) ?_
    refine ev_br 1 (P := r2 = (2 : Int32)) (a := 27) (b := 23) (ls := [some (.ref 0), some (.int (v1)), some (.int (v2)), some (.int (v3)), none, none, none, none]) (st := []) (h := hX σ) rfl (fun c2 => ?_) (fun c2 => ?_)
    · rw [if_pos c2] at hf
      obtain ⟨r3, hr3, hf⟩ := Option.bind_eq_some_iff.mp hf
      refine ev_cli 2 (kk := 113) (as := [.int (v2), .int ((5 : Int32))]) (rest := []) (pc := 29) (ls := [some (.ref 0), some (.int (v1)), some (.int (v2)), some (.int (v3)), none, none, none, none]) (st := [.int ((5 : Int32)), .int (v2)]) (h := hX σ) rfl (tX11_isWithin (d + 2) (hX σ) v2 (5 : Int32) r3 hr3) ?_
      refine ev_br 0 (P := r3 = 0) (a := 43) (b := 35) (ls := [some (.ref 0), some (.int (v1)), some (.int (v2)), some (.int (v3)), none, none, none, none]) (st := []) (h := hX σ) rfl (fun c3 => ?_) (fun c3 => ?_)
      · rw [if_pos c3] at hf
        exact ev_dr (a := [none, none, none, none, none, none, none, none]) trivial (tX11_post_b43 d σ  _ hf)
      · rw [if_neg c3] at hf
        obtain ⟨r4, hr4, hf⟩ := Option.bind_eq_some_iff.mp hf
        refine ev_cli 2 (kk := 113) (as := [.int (v3), .int ((1 : Int32))]) (rest := []) (pc := 37) (ls := [some (.ref 0), some (.int (v1)), some (.int (v2)), some (.int (v3)), none, none, none, none]) (st := [.int ((1 : Int32)), .int (v3)]) (h := hX σ) rfl (tX11_isWithin (d + 2) (hX σ) v3 (1 : Int32) r4 hr4) ?_
        refine ev_br 0 (P := r4 = 0) (a := 43) (b := 47) (ls := [some (.ref 0), some (.int (v1)), some (.int (v2)), some (.int (v3)), none, none, none, none]) (st := []) (h := hX σ) rfl (fun c4 => ?_) (fun c4 => ?_)
        · rw [if_pos c4] at hf
          exact ev_dr (a := [none, none, none, none, none, none, none, none]) trivial (tX11_post_b43 d σ  _ hf)
        · rw [if_neg c4] at hf
          refine ev_br 4 (P := (7 : Int32) < (gx_od_updates σ)) (a := 59) (b := 63) (ls := [some (.ref 0), some (.int (v1)), some (.int (v2)), some (.int (v3)), none, none, none, none]) (st := []) (h := hX σ) rfl (fun c5 => ?_) (fun c5 => ?_)
          · rw [if_pos c5] at hf
            cases hf
            exact ev_rt 1 rfl
          · rw [if_neg c5] at hf
            obtain ⟨r5, hr5, hf⟩ := Option.bind_eq_some_iff.mp hf
            refine ev_clv 5 (kk := 30) (as := [.ref 8, .int ((0 : Int32)), .int (v2), .int ((-1 : Int32))]) (rest := []) (pc := 70) (ls := [some (.ref 0), some (.int (v1)), some (.int (v2)), some (.int (v3)), none, none, none, none]) (st := [.int ((-1 : Int32)), .int (v2), .int ((0 : Int32)), .ref 8]) (h := hX σ) rfl (tX4_foretellStep d σ (0 : Int32) v2 (-1 : Int32) r5 hr5) ?_
            obtain ⟨r6, hr6, hf⟩ := Option.bind_eq_some_iff.mp hf
            refine ev_cll 2 (kk := 37) (as := [.ref 8]) (rest := []) (pc := 77) (ls := [some (.ref 0), some (.int (v1)), some (.int (v2)), some (.int (v3)), none, none, none, none]) (st := [.ref 8]) (h := hX r5) rfl (tX4_likeliestOfAll (d + 1) r5 r6 hr6) ?_
            obtain ⟨r7, hr7, hf⟩ := Option.bind_eq_some_iff.mp hf
            refine ev_clv 6 (kk := 30) (as := [.ref 8, .int ((0 : Int32)), .int (v2), .int (v1)]) (rest := []) (pc := 89) (ls := [some (.ref 0), some (.int (v1)), some (.int (v2)), some (.int (v3)), some (.long (r6)), none, none, none]) (st := [.int (v1), .int (v2), .int ((0 : Int32)), .ref 8]) (h := hX r5) rfl (tX4_foretellStep d r5 (0 : Int32) v2 v1 r7 hr7) ?_
            obtain ⟨r8, hr8, hf⟩ := Option.bind_eq_some_iff.mp hf
            refine ev_cll 2 (kk := 37) (as := [.ref 8]) (rest := []) (pc := 96) (ls := [some (.ref 0), some (.int (v1)), some (.int (v2)), some (.int (v3)), some (.long (r6)), none, none, none]) (st := [.ref 8]) (h := hX r7) rfl (tX4_likeliestOfAll (d + 1) r7 r8 hr8) ?_
            obtain ⟨r9, hr9, hf⟩ := Option.bind_eq_some_iff.mp hf
            refine ev_cll 7 (kk := 24) (as := [.ref 8]) (rest := [.long ((10 : Int64)), .long ((r6 - r8))]) (pc := 113) (ls := [some (.ref 0), some (.int (v1)), some (.int (v2)), some (.int (v3)), some (.long (r6)), none, some (.long (r8)), none]) (st := [.ref 8, .long ((10 : Int64)), .long ((r6 - r8))]) (h := hX r7) rfl (tX4_total (d + 2) r7 r9 hr9) ?_
            obtain ⟨r10, hr10, hf⟩ := Option.bind_eq_some_iff.mp hf
            refine ev_cll 2 (kk := 118) (as := [.long ((r6 - r8)), .long (((10 : Int64) * r9)), .int (v3)]) (rest := []) (pc := 118) (ls := [some (.ref 0), some (.int (v1)), some (.int (v2)), some (.int (v3)), some (.long (r6)), none, some (.long (r8)), none]) (st := [.int (v3), .long (((10 : Int64) * r9)), .long ((r6 - r8))]) (h := hX r7) rfl (tX11_term (d + 1) (hX r7) (r6 - r8) ((10 : Int64) * r9) v3 r10 hr10) ?_
            cases hf
            exact ev_rt 0 rfl
    · rw [if_neg c2] at hf
      exact ev_dr (a := [none, none, none, none, none, none, none, none]) trivial (tX11_post_b23 d σ  _ hf)
set_option maxRecDepth 20000 in
set_option maxHeartbeats 4000000 in
theorem tX11_playerOf_b23 (d : Nat) (σ : SX) (w0 : Option Nat) (q : Option Nat) (hf : fX11_playerOf_b23 σ w0 = some q) : ev_X d (some (.object "WithEyesBound$Player")) eiX11_playerOf (23, [none, none], [va_rf (w0)], hX σ) (some (va_rf q), hX σ) := by
  unfold fX11_playerOf_b23 at hf
  rcases hc1 : w0 with _ | a1
  · rw [hc1] at hf
    simp only [ev_q] at hf
    change ev_X d _ _ (23, [none, none], [.null], hX σ) _
    cases hf
    exact ev_rt 0 rfl
  · rw [hc1] at hf
    simp only [ev_q] at hf
    change ev_X d _ _ (23, [none, none], [.ref a1], hX σ) _
    cases hf
    exact ev_rt 0 rfl
set_option maxRecDepth 20000 in
set_option maxHeartbeats 4000000 in
theorem tX11_playerOf_b22 (d : Nat) (σ : SX) (q : Option Nat) (hf : fX11_playerOf_b22 σ = some q) : ev_X d (some (.object "WithEyesBound$Player")) eiX11_playerOf (22, [none, none], [], hX σ) (some (va_rf q), hX σ) := by
  unfold fX11_playerOf_b22 at hf
  refine ev_go (c' := (23, [none, none], [.null], hX σ)) 0 rfl ?_
  exact ev_dr (a := [none, none]) trivial (tX11_playerOf_b23 d σ none _ hf)
set_option maxRecDepth 20000 in
set_option maxHeartbeats 4000000 in
theorem tX11_playerOf (d : Nat) (σ : SX) (v1 : Int32) (q : Option Nat) (hf : fX11_playerOf σ v1 = some q) : ev_M ev_mt (d + 1) 121 [.ref 0, .int (v1)] (hX σ) (some (va_rf q), hX σ) := by
  refine ev_en (rt := (some (.object "WithEyesBound$Player"))) (I := eiX11_playerOf) rfl (Nat.le_of_ble_eq_true rfl) ?_
  change ev_X d _ _ (0, [some (.ref 0), some (.int (v1))], [], hX σ) _
  unfold fX11_playerOf at hf
  refine ev_br 1 (P := v1 < 0) (a := 22) (b := 4) (ls := [some (.ref 0), some (.int (v1))]) (st := []) (h := hX σ) rfl (fun c1 => ?_) (fun c1 => ?_)
  · rw [if_pos c1] at hf
    exact ev_dr (a := [none, none]) trivial (tX11_playerOf_b22 d σ  _ hf)
  · rw [if_neg c1] at hf
    refine ev_br 4 (P := v1 < (6 : Int32)) (a := 13) (b := 22) (ls := [some (.ref 0), some (.int (v1))]) (st := []) (h := hX σ) rfl (fun c2 => ?_) (fun c2 => ?_)
    · rw [if_pos c2] at hf
      obtain ⟨c3, hf⟩ := ev_hp hf
      refine ev_ck 3 (P := ¬ (v1 < 0 ∨ 6 ≤ v1.toNatClampNeg)) (c' := (19, [some (.ref 0), some (.int (v1))], [va_rf (((gx_pl_arr σ) v1.toNatClampNeg))], hX σ)) rfl c3 ?_
      refine ev_go (c' := (23, [some (.ref 0), some (.int (v1))], [va_rf (((gx_pl_arr σ) v1.toNatClampNeg))], hX σ)) 0 rfl ?_
      exact ev_dr (a := [none, none]) trivial (tX11_playerOf_b23 d σ ((gx_pl_arr σ) v1.toNatClampNeg) _ hf)
    · rw [if_neg c2] at hf
      exact ev_dr (a := [none, none]) trivial (tX11_playerOf_b22 d σ  _ hf)
set_option maxRecDepth 20000 in
set_option maxHeartbeats 4000000 in
theorem tX11_isOfKind (d : Nat) (σ : SX) (v0 : Nat) (v1 : Int32) (q : Int32) (hf : fX11_isOfKind σ v0 v1 = some q) : ev_M ev_mt (d + 1) 122 [.ref v0, .int (v1)] (hX σ) (some (.int q), hX σ) := by
  refine ev_en (rt := (some .boolean)) (I := eiX11_isOfKind) rfl (Nat.le_of_ble_eq_true rfl) ?_
  change ev_X d _ _ (0, [some (.ref v0), some (.int (v1))], [], hX σ) _
  unfold fX11_isOfKind at hf
  refine ev_go (c' := (ev_sw [(1, 36), (2, 41), (3, 46), (4, 51), (5, 56)] v1 61, [some (.ref v0), some (.int (v1))], [], hX σ)) 1 rfl ?_
  by_cases c1 : v1 = (1 : Int32)
  · rw [if_pos c1] at hf
    have hs : ev_sw [(1, 36), (2, 41), (3, 46), (4, 51), (5, 56)] v1 61 = 36 := if_pos c1
    rw [hs]
    obtain ⟨c2, hf⟩ := ev_hp hf
    refine ev_go (c' := (37, [some (.ref v0), some (.int (v1))], [.ref v0], hX σ)) 0 rfl ?_
    refine ev_st1 (e := (37, .instanceof 307, 3, 0, 0, .null, [(0, 0), (1, 0), (2, 0), (6, 0), (9, 1), (10, 1)], [652])) (c' := (40, [some (.ref v0), some (.int (v1))], [.int ((ox_ins [(0, 0), (1, 0), (2, 0), (6, 0), (9, 1), (10, 1)] (gx_pl_kd σ (v0 - 20))))], hX σ)) rfl (ox_pins c2) ?_
    obtain ⟨c3, hf⟩ := ev_hp hf
    cases hf
    exact ev_rk 0 rfl c3
  rw [if_neg c1] at hf
  by_cases c4 : v1 = (2 : Int32)
  · rw [if_pos c4] at hf
    have hs : ev_sw [(1, 36), (2, 41), (3, 46), (4, 51), (5, 56)] v1 61 = 41 := (if_neg c1).trans (if_pos c4)
    rw [hs]
    obtain ⟨c5, hf⟩ := ev_hp hf
    refine ev_go (c' := (42, [some (.ref v0), some (.int (v1))], [.ref v0], hX σ)) 0 rfl ?_
    refine ev_st1 (e := (42, .instanceof 310, 3, 0, 0, .null, [(0, 0), (1, 0), (2, 0), (6, 0), (9, 0), (10, 1)], [697])) (c' := (45, [some (.ref v0), some (.int (v1))], [.int ((ox_ins [(0, 0), (1, 0), (2, 0), (6, 0), (9, 0), (10, 1)] (gx_pl_kd σ (v0 - 20))))], hX σ)) rfl (ox_pins c5) ?_
    obtain ⟨c6, hf⟩ := ev_hp hf
    cases hf
    exact ev_rk 0 rfl c6
  rw [if_neg c4] at hf
  by_cases c7 : v1 = (3 : Int32)
  · rw [if_pos c7] at hf
    have hs : ev_sw [(1, 36), (2, 41), (3, 46), (4, 51), (5, 56)] v1 61 = 46 := (if_neg c1).trans ((if_neg c4).trans (if_pos c7))
    rw [hs]
    obtain ⟨c8, hf⟩ := ev_hp hf
    refine ev_go (c' := (47, [some (.ref v0), some (.int (v1))], [.ref v0], hX σ)) 0 rfl ?_
    refine ev_st1 (e := (47, .instanceof 313, 3, 0, 0, .null, [(0, 0), (1, 1), (2, 1), (6, 0), (9, 0), (10, 0)], [710])) (c' := (50, [some (.ref v0), some (.int (v1))], [.int ((ox_ins [(0, 0), (1, 1), (2, 1), (6, 0), (9, 0), (10, 0)] (gx_pl_kd σ (v0 - 20))))], hX σ)) rfl (ox_pins c8) ?_
    obtain ⟨c9, hf⟩ := ev_hp hf
    cases hf
    exact ev_rk 0 rfl c9
  rw [if_neg c7] at hf
  by_cases c10 : v1 = (4 : Int32)
  · rw [if_pos c10] at hf
    have hs : ev_sw [(1, 36), (2, 41), (3, 46), (4, 51), (5, 56)] v1 61 = 51 := (if_neg c1).trans ((if_neg c4).trans ((if_neg c7).trans (if_pos c10)))
    rw [hs]
    obtain ⟨c11, hf⟩ := ev_hp hf
    refine ev_go (c' := (52, [some (.ref v0), some (.int (v1))], [.ref v0], hX σ)) 0 rfl ?_
    refine ev_st1 (e := (52, .instanceof 316, 3, 0, 0, .null, [(0, 0), (1, 0), (2, 1), (6, 0), (9, 0), (10, 0)], [723])) (c' := (55, [some (.ref v0), some (.int (v1))], [.int ((ox_ins [(0, 0), (1, 0), (2, 1), (6, 0), (9, 0), (10, 0)] (gx_pl_kd σ (v0 - 20))))], hX σ)) rfl (ox_pins c11) ?_
    obtain ⟨c12, hf⟩ := ev_hp hf
    cases hf
    exact ev_rk 0 rfl c12
  rw [if_neg c10] at hf
  by_cases c13 : v1 = (5 : Int32)
  · rw [if_pos c13] at hf
    have hs : ev_sw [(1, 36), (2, 41), (3, 46), (4, 51), (5, 56)] v1 61 = 56 := (if_neg c1).trans ((if_neg c4).trans ((if_neg c7).trans ((if_neg c10).trans (if_pos c13))))
    rw [hs]
    obtain ⟨c14, hf⟩ := ev_hp hf
    refine ev_go (c' := (57, [some (.ref v0), some (.int (v1))], [.ref v0], hX σ)) 0 rfl ?_
    refine ev_st1 (e := (57, .instanceof 319, 3, 0, 0, .null, [(0, 1), (1, 0), (2, 0), (6, 0), (9, 0), (10, 0)], [736])) (c' := (60, [some (.ref v0), some (.int (v1))], [.int ((ox_ins [(0, 1), (1, 0), (2, 0), (6, 0), (9, 0), (10, 0)] (gx_pl_kd σ (v0 - 20))))], hX σ)) rfl (ox_pins c14) ?_
    obtain ⟨c15, hf⟩ := ev_hp hf
    cases hf
    exact ev_rk 0 rfl c15
  rw [if_neg c13] at hf
  have hs : ev_sw [(1, 36), (2, 41), (3, 46), (4, 51), (5, 56)] v1 61 = 61 := (if_neg c1).trans ((if_neg c4).trans ((if_neg c7).trans ((if_neg c10).trans ((if_neg c13).trans (rfl)))))
  rw [hs]
  cases hf
  exact ev_rt 1 rfl
set_option maxRecDepth 20000 in
set_option maxHeartbeats 4000000 in
theorem tX11_as_b37 (d : Nat) (σ : SX) (w0 : Int32) (q : Int32) (hf : fX11_as_b37 σ w0 = some q) : ev_X (d + 1) (some .int) eiX11_as (37, [none, none, none, none], [.int (w0)], hX σ) (some (.int q), hX σ) := by
  unfold fX11_as_b37 at hf
  cases hf
  exact ev_rt 0 rfl
set_option maxRecDepth 20000 in
set_option maxHeartbeats 4000000 in
theorem tX11_as (d : Nat) (σ : SX) (v1 : Int32) (v2 : Int32) (q : Int32) (hf : fX11_as σ v1 v2 = some q) : ev_M ev_mt (d + 2) 98 [.ref 0, .int (v1), .int (v2)] (hX σ) (some (.int q), hX σ) := by
  refine ev_en (rt := (some .int)) (I := eiX11_as) rfl (Nat.le_of_ble_eq_true rfl) ?_
  change ev_X (d + 1) _ _ (0, [some (.ref 0), some (.int (v1)), some (.int (v2)), none], [], hX σ) _
  unfold fX11_as at hf
  obtain ⟨r1, hr1, hf⟩ := Option.bind_eq_some_iff.mp hf
  refine ev_clq 2 (kk := 121) (as := [.ref 0, .int (v1)]) (rest := []) (pc := 2) (ls := [some (.ref 0), some (.int (v1)), some (.int (v2)), none]) (st := [.int (v1), .ref 0]) (h := hX σ) rfl (tX11_playerOf d σ v1 r1 hr1) ?_
  rcases hc1 : r1 with _ | a2
  · rw [hc1] at hf
    simp only [ev_q] at hf
    change ev_X (d + 1) _ _ (5, [some (.ref 0), some (.int (v1)), some (.int (v2)), none], [.null], hX σ) _
    cases hf
    exact ev_rt 4 rfl
  · rw [hc1] at hf
    simp only [ev_q] at hf
    change ev_X (d + 1) _ _ (5, [some (.ref 0), some (.int (v1)), some (.int (v2)), none], [.ref a2], hX σ) _
    obtain ⟨r3, hr3, hf⟩ := Option.bind_eq_some_iff.mp hf
    refine ev_cli 5 (kk := 113) (as := [.int (v2), .int ((5 : Int32))]) (rest := []) (pc := 15) (ls := [some (.ref 0), some (.int (v1)), some (.int (v2)), some (.ref a2)]) (st := [.int ((5 : Int32)), .int (v2)]) (h := hX σ) rfl (tX11_isWithin d (hX σ) v2 (5 : Int32) r3 hr3) ?_
    refine ev_br 0 (P := r3 = 0) (a := 21) (b := 24) (ls := [some (.ref 0), some (.int (v1)), some (.int (v2)), some (.ref a2)]) (st := []) (h := hX σ) rfl (fun c2 => ?_) (fun c2 => ?_)
    · rw [if_pos c2] at hf
      cases hf
      exact ev_rt 1 rfl
    · rw [if_neg c2] at hf
      obtain ⟨r4, hr4, hf⟩ := Option.bind_eq_some_iff.mp hf
      refine ev_cli 2 (kk := 122) (as := [.ref a2, .int (v2)]) (rest := []) (pc := 26) (ls := [some (.ref 0), some (.int (v1)), some (.int (v2)), some (.ref a2)]) (st := [.int (v2), .ref a2]) (h := hX σ) rfl (tX11_isOfKind d σ a2 v2 r4 hr4) ?_
      refine ev_br 0 (P := r4 = 0) (a := 36) (b := 32) (ls := [some (.ref 0), some (.int (v1)), some (.int (v2)), some (.ref a2)]) (st := []) (h := hX σ) rfl (fun c3 => ?_) (fun c3 => ?_)
      · rw [if_pos c3] at hf
        refine ev_go (c' := (37, [some (.ref 0), some (.int (v1)), some (.int (v2)), some (.ref a2)], [.int ((-1 : Int32))], hX σ)) 0 rfl ?_
        exact ev_dr (a := [none, none, none, none]) trivial (tX11_as_b37 d σ (-1 : Int32) _ hf)
      · rw [if_neg c3] at hf
        refine ev_go (c' := (37, [some (.ref 0), some (.int (v1)), some (.int (v2)), some (.ref a2)], [.int (v1)], hX σ)) 1 rfl ?_
        exact ev_dr (a := [none, none, none, none]) trivial (tX11_as_b37 d σ v1 _ hf)
theorem dt_detail (d : Nat) (σ : SX) (v0 : Nat) (v1 : Int32) (q : Int32) (h6 : gx_pl_kd σ (v0 - 20) < 6) (hf : fX6_detail σ v0 v1 = some q) : ∃ kk, List.lookup (ev_kc (gx_pl_kd σ (v0 - 20))) [(0, 52), (1, 52), (2, 52), (6, 52), (9, 52), (10, 52)] = some kk ∧ ev_M ev_mt (d + 2) kk [.ref v0, .int (v1)] (hX σ) (some (.int q), hX σ) := by
  refine ⟨_, ox_lk h6, tX6_detail d σ v0 v1 q hf⟩

set_option maxRecDepth 20000 in
set_option maxHeartbeats 4000000 in
theorem tX11_about_b31 (d : Nat) (σ : SX) (w0 : Int32) (q : Int32) (hf : fX11_about_b31 σ w0 = some q) : ev_X (d + 2) (some .int) eiX11_about (31, [none, none, none, none], [.int (w0)], hX σ) (some (.int q), hX σ) := by
  unfold fX11_about_b31 at hf
  cases hf
  exact ev_rt 0 rfl
set_option maxRecDepth 20000 in
set_option maxHeartbeats 4000000 in
theorem tX11_about (d : Nat) (σ : SX) (v1 : Int32) (v2 : Int32) (q : Int32) (hf : fX11_about σ v1 v2 = some q) : ev_M ev_mt (d + 3) 99 [.ref 0, .int (v1), .int (v2)] (hX σ) (some (.int q), hX σ) := by
  refine ev_en (rt := (some .int)) (I := eiX11_about) rfl (Nat.le_of_ble_eq_true rfl) ?_
  change ev_X (d + 2) _ _ (0, [some (.ref 0), some (.int (v1)), some (.int (v2)), none], [], hX σ) _
  unfold fX11_about at hf
  obtain ⟨r1, hr1, hf⟩ := Option.bind_eq_some_iff.mp hf
  refine ev_clq 2 (kk := 121) (as := [.ref 0, .int (v1)]) (rest := []) (pc := 2) (ls := [some (.ref 0), some (.int (v1)), some (.int (v2)), none]) (st := [.int (v1), .ref 0]) (h := hX σ) rfl (tX11_playerOf (d + 1) σ v1 r1 hr1) ?_
  rcases hc1 : r1 with _ | a2
  · rw [hc1] at hf
    simp only [ev_q] at hf
    change ev_X (d + 2) _ _ (5, [some (.ref 0), some (.int (v1)), some (.int (v2)), none], [.null], hX σ) _
    cases hf
    exact ev_rt 4 rfl
  · rw [hc1] at hf
    simp only [ev_q] at hf
    change ev_X (d + 2) _ _ (5, [some (.ref 0), some (.int (v1)), some (.int (v2)), none], [.ref a2], hX σ) _
    obtain ⟨r3, hr3, hf⟩ := Option.bind_eq_some_iff.mp hf
    refine ev_cli 5 (kk := 113) (as := [.int (v2), .int ((4 : Int32))]) (rest := []) (pc := 15) (ls := [some (.ref 0), some (.int (v1)), some (.int (v2)), some (.ref a2)]) (st := [.int ((4 : Int32)), .int (v2)]) (h := hX σ) rfl (tX11_isWithin (d + 1) (hX σ) v2 (4 : Int32) r3 hr3) ?_
    refine ev_br 0 (P := r3 = 0) (a := 29) (b := 21) (ls := [some (.ref 0), some (.int (v1)), some (.int (v2)), some (.ref a2)]) (st := []) (h := hX σ) rfl (fun c2 => ?_) (fun c2 => ?_)
    · rw [if_pos c2] at hf
      refine ev_go (c' := (31, [some (.ref 0), some (.int (v1)), some (.int (v2)), some (.ref a2)], [.int ((-102 : Int32))], hX σ)) 0 rfl ?_
      exact ev_dr (a := [none, none, none, none]) trivial (tX11_about_b31 d σ (-102 : Int32) _ hf)
    · rw [if_neg c2] at hf
      obtain ⟨c3, hf⟩ := ev_hp hf
      obtain ⟨r4, hr4, hf⟩ := Option.bind_eq_some_iff.mp hf
      refine ev_go (c' := (23, [some (.ref 0), some (.int (v1)), some (.int (v2)), some (.ref a2)], [.int (v2), .ref a2], hX σ)) 1 rfl ?_
      obtain ⟨kk, hk, hm⟩ := dt_detail d σ a2 v2 r4 (ox_kd c3) hr4
      refine ev_cl1 (e := (23, .invokevirtual 214, 3, 1, 0, .null, [(0, 52), (1, 52), (2, 52), (6, 52), (9, 52), (10, 52)], [773, 776, 777, 774, 71, 0, 0, 0, 773, 776, 778, 774, 71, 0, 0, 0, 773, 776, 779, 774, 71, 0, 0, 0, 773, 774, 775, 71, 0, 0, 0, 0, 773, 776, 780, 774, 71, 0, 0, 0, 773, 776, 781, 774, 71, 0, 0, 0])) rfl (ox_inv1 (ev_cat_ok := Nat.le_of_ble_eq_true rfl) c3 hk) hm ?_
      change ev_X (d + 2) _ _ (26, [some (.ref 0), some (.int (v1)), some (.int (v2)), some (.ref a2)], [.int (r4)], hX σ) _
      refine ev_go (c' := (31, [some (.ref 0), some (.int (v1)), some (.int (v2)), some (.ref a2)], [.int (r4)], hX σ)) 0 rfl ?_
      exact ev_dr (a := [none, none, none, none]) trivial (tX11_about_b31 d σ r4 _ hf)
set_option maxRecDepth 20000 in
set_option maxHeartbeats 4000000 in
theorem tX11_move_b21 (d : Nat) (σ : SX) (q : Int32 × SX) (hf : fX11_move_b21 σ = some q) : ev_X (d + 1) (some .int) eiX11_move (21, [none, none, none, none, none], [], hX σ) (some (.int q.1), hX q.2) := by
  unfold fX11_move_b21 at hf
  cases hf
  exact ev_rt 1 rfl
set_option maxRecDepth 20000 in
set_option maxHeartbeats 4000000 in
theorem tX11_move (d : Nat) (σ : SX) (v1 : Int32) (v2 : Int32) (q : Int32 × SX) (hf : fX11_move σ v1 v2 = some q) : ev_M ev_mt (d + 2) 100 [.ref 0, .int (v1), .int (v2)] (hX σ) (some (.int q.1), hX q.2) := by
  refine ev_en (rt := (some .int)) (I := eiX11_move) rfl (Nat.le_of_ble_eq_true rfl) ?_
  change ev_X (d + 1) _ _ (0, [some (.ref 0), some (.int (v1)), some (.int (v2)), none, none], [], hX σ) _
  unfold fX11_move at hf
  obtain ⟨r1, hr1, hf⟩ := Option.bind_eq_some_iff.mp hf
  refine ev_clq 2 (kk := 121) (as := [.ref 0, .int (v1)]) (rest := []) (pc := 2) (ls := [some (.ref 0), some (.int (v1)), some (.int (v2)), none, none]) (st := [.int (v1), .ref 0]) (h := hX σ) rfl (tX11_playerOf d σ v1 r1 hr1) ?_
  rcases hc1 : r1 with _ | a2
  · rw [hc1] at hf
    simp only [ev_q] at hf
    change ev_X (d + 1) _ _ (5, [some (.ref 0), some (.int (v1)), some (.int (v2)), none, none], [.null], hX σ) _
    refine ev_go (c' := (21, [some (.ref 0), some (.int (v1)), some (.int (v2)), some (.null), none], [], hX σ)) 2 rfl ?_
    exact ev_dr (a := [none, none, none, none, none]) trivial (tX11_move_b21 d σ  _ hf)
  · rw [hc1] at hf
    simp only [ev_q] at hf
    change ev_X (d + 1) _ _ (5, [some (.ref 0), some (.int (v1)), some (.int (v2)), none, none], [.ref a2], hX σ) _
    obtain ⟨r3, hr3, hf⟩ := Option.bind_eq_some_iff.mp hf
    refine ev_cli 6 (kk := 59) (as := [.ref 3, .int (v2)]) (rest := []) (pc := 15) (ls := [some (.ref 0), some (.int (v1)), some (.int (v2)), some (.ref a2), none]) (st := [.int (v2), .ref 3]) (h := hX σ) rfl (tX7_isFree d σ v2 r3 hr3) ?_
    refine ev_br 0 (P := r3 = 0) (a := 21) (b := 24) (ls := [some (.ref 0), some (.int (v1)), some (.int (v2)), some (.ref a2), none]) (st := []) (h := hX σ) rfl (fun c2 => ?_) (fun c2 => ?_)
    · rw [if_pos c2] at hf
      exact ev_dr (a := [none, none, none, none, none]) trivial (tX11_move_b21 d σ  _ hf)
    · rw [if_neg c2] at hf
      obtain ⟨c3, hf⟩ := ev_hp hf
      refine ev_go (c' := (25, [some (.ref 0), some (.int (v1)), some (.int (v2)), some (.ref a2), none], [.ref a2], hX σ)) 0 rfl ?_
      refine ev_st1 (e := (25, .getfield 197, 3, 0, 0, .null, [(0, 0), (1, 0), (2, 0), (6, 0), (9, 0), (10, 0)], [663])) (c' := (28, [some (.ref 0), some (.int (v1)), some (.int (v2)), some (.ref a2), none], [.int (((gx_pl_told σ) (a2 - 20)))], hX σ)) rfl (ox_pget0 c3) ?_
      obtain ⟨c4, hf⟩ := ev_hp hf
      refine ev_go (c' := (32, [some (.ref 0), some (.int (v1)), some (.int (v2)), some (.ref a2), some (.int (((gx_pl_told σ) (a2 - 20))))], [.int (v2), .ref a2], hX σ)) 2 rfl ?_
      refine ev_st1 (e := (32, .putfield 197, 3, 0, 0, .null, [(0, 0), (1, 0), (2, 0), (6, 0), (9, 0), (10, 0)], [663])) (c' := (35, [some (.ref 0), some (.int (v1)), some (.int (v2)), some (.ref a2), some (.int (((gx_pl_told σ) (a2 - 20))))], [], hX (sx_pl_told σ (upd (gx_pl_told σ) (a2 - 20) v2)))) rfl (ox_pput0 c4) ?_
      cases hf
      exact ev_rt 1 rfl
set_option maxRecDepth 20000 in
set_option maxHeartbeats 4000000 in
theorem tX11_mayStart_b32 (d : Nat) (h : ev_H) (w0 : Int32) (q : Int32) (hf : fX11_mayStart_b32 w0 = some q) : ev_X (d + 1) (some .boolean) eiX11_mayStart (32, [none, none, none, none], [.int (w0)], h) (some (.int q), h) := by
  unfold fX11_mayStart_b32 at hf
  obtain ⟨c1, hf⟩ := ev_hp hf
  cases hf
  exact ev_rk 0 rfl c1
set_option maxRecDepth 20000 in
set_option maxHeartbeats 4000000 in
theorem tX11_mayStart_b31 (d : Nat) (h : ev_H) (q : Int32) (hf : fX11_mayStart_b31 = some q) : ev_X (d + 1) (some .boolean) eiX11_mayStart (31, [none, none, none, none], [], h) (some (.int q), h) := by
  unfold fX11_mayStart_b31 at hf
  refine ev_go (c' := (32, [none, none, none, none], [.int ((0 : Int32))], h)) 0 rfl ?_
  exact ev_dr (a := [none, none, none, none]) trivial (tX11_mayStart_b32 d h (0 : Int32) _ hf)
set_option maxRecDepth 20000 in
set_option maxHeartbeats 4000000 in
theorem tX11_mayStart (d : Nat) (h : ev_H) (v0 : Int32) (v1 : Int32) (v2 : Int32) (v3 : Int32) (q : Int32) (hf : fX11_mayStart v0 v1 v2 v3 = some q) : ev_M ev_mt (d + 2) 114 [.int (v0), .int (v1), .int (v2), .int (v3)] (h) (some (.int q), h) := by
  refine ev_en (rt := (some .boolean)) (I := eiX11_mayStart) rfl (Nat.le_of_ble_eq_true rfl) ?_
  change ev_X (d + 1) _ _ (0, [some (.int (v0)), some (.int (v1)), some (.int (v2)), some (.int (v3))], [], h) _
  unfold fX11_mayStart at hf
  obtain ⟨r1, hr1, hf⟩ := Option.bind_eq_some_iff.mp hf
  refine ev_cli 2 (kk := 113) (as := [.int (v0), .int ((3 : Int32))]) (rest := []) (pc := 2) (ls := [some (.int (v0)), some (.int (v1)), some (.int (v2)), some (.int (v3))]) (st := [.int ((3 : Int32)), .int (v0)]) (h := h) rfl (tX11_isWithin d (h) v0 (3 : Int32) r1 hr1) ?_
  refine ev_br 0 (P := r1 = 0) (a := 31) (b := 8) (ls := [some (.int (v0)), some (.int (v1)), some (.int (v2)), some (.int (v3))]) (st := []) (h := h) rfl (fun c1 => ?_) (fun c1 => ?_)
  · rw [if_pos c1] at hf
    exact ev_dr (a := [none, none, none, none]) trivial (tX11_mayStart_b31 d h  _ hf)
  · rw [if_neg c1] at hf
    obtain ⟨r2, hr2, hf⟩ := Option.bind_eq_some_iff.mp hf
    refine ev_cli 2 (kk := 113) (as := [.int (v1), .int ((9 : Int32))]) (rest := []) (pc := 11) (ls := [some (.int (v0)), some (.int (v1)), some (.int (v2)), some (.int (v3))]) (st := [.int ((9 : Int32)), .int (v1)]) (h := h) rfl (tX11_isWithin d (h) v1 (9 : Int32) r2 hr2) ?_
    refine ev_br 0 (P := r2 = 0) (a := 31) (b := 17) (ls := [some (.int (v0)), some (.int (v1)), some (.int (v2)), some (.int (v3))]) (st := []) (h := h) rfl (fun c2 => ?_) (fun c2 => ?_)
    · rw [if_pos c2] at hf
      exact ev_dr (a := [none, none, none, none]) trivial (tX11_mayStart_b31 d h  _ hf)
    · rw [if_neg c2] at hf
      refine ev_br 2 (P := v2 < (1 : Int32)) (a := 31) (b := 22) (ls := [some (.int (v0)), some (.int (v1)), some (.int (v2)), some (.int (v3))]) (st := []) (h := h) rfl (fun c3 => ?_) (fun c3 => ?_)
      · rw [if_pos c3] at hf
        exact ev_dr (a := [none, none, none, none]) trivial (tX11_mayStart_b31 d h  _ hf)
      · rw [if_neg c3] at hf
        refine ev_br 2 (P := v3 < v2) (a := 31) (b := 27) (ls := [some (.int (v0)), some (.int (v1)), some (.int (v2)), some (.int (v3))]) (st := []) (h := h) rfl (fun c4 => ?_) (fun c4 => ?_)
        · rw [if_pos c4] at hf
          exact ev_dr (a := [none, none, none, none]) trivial (tX11_mayStart_b31 d h  _ hf)
        · rw [if_neg c4] at hf
          refine ev_go (c' := (32, [some (.int (v0)), some (.int (v1)), some (.int (v2)), some (.int (v3))], [.int ((1 : Int32))], h)) 1 rfl ?_
          exact ev_dr (a := [none, none, none, none]) trivial (tX11_mayStart_b32 d h (1 : Int32) _ hf)
set_option maxRecDepth 20000 in
set_option maxHeartbeats 4000000 in
theorem tX11_game_b41 (d : Nat) (σ : SX) (q : Int32 × SX) (hf : fX11_game_b41 σ = some q) : ev_X (d + 5) (some .int) eiX11_game (41, [none, none, none, none, none, none, none], [], hX σ) (some (.int q.1), hX q.2) := by
  unfold fX11_game_b41 at hf
  cases hf
  exact ev_rt 1 rfl
set_option maxRecDepth 20000 in
set_option maxHeartbeats 4000000 in
theorem tX11_game (d : Nat) (σ : SX) (v1 : Int32) (v2 : Int32) (v3 : Int32) (v4 : Int32) (v5 : Int32) (v6 : Int32) (q : Int32 × SX) (hf : fX11_game σ v1 v2 v3 v4 v5 v6 = some q) : ev_M ev_mt (d + 6) 101 [.ref 0, .int (v1), .int (v2), .int (v3), .int (v4), .int (v5), .int (v6)] (hX σ) (some (.int q.1), hX q.2) := by
  refine ev_en (rt := (some .int)) (I := eiX11_game) rfl (Nat.le_of_ble_eq_true rfl) ?_
  change ev_X (d + 5) _ _ (0, [some (.ref 0), some (.int (v1)), some (.int (v2)), some (.int (v3)), some (.int (v4)), some (.int (v5)), some (.int (v6))], [], hX σ) _
  unfold fX11_game at hf
  obtain ⟨r1, hr1, hf⟩ := Option.bind_eq_some_iff.mp hf
  refine ev_cli 3 (kk := 59) (as := [.ref 3, .int (v1)]) (rest := []) (pc := 5) (ls := [some (.ref 0), some (.int (v1)), some (.int (v2)), some (.int (v3)), some (.int (v4)), some (.int (v5)), some (.int (v6))]) (st := [.int (v1), .ref 3]) (h := hX σ) rfl (tX7_isFree (d + 4) σ v1 r1 hr1) ?_
  refine ev_br 0 (P := r1 = 0) (a := 11) (b := 14) (ls := [some (.ref 0), some (.int (v1)), some (.int (v2)), some (.int (v3)), some (.int (v4)), some (.int (v5)), some (.int (v6))]) (st := []) (h := hX σ) rfl (fun c1 => ?_) (fun c1 => ?_)
  · rw [if_pos c1] at hf
    cases hf
    exact ev_rt 1 rfl
  · rw [if_neg c1] at hf
    obtain ⟨r2, hr2, hf⟩ := Option.bind_eq_some_iff.mp hf
    refine ev_cli 4 (kk := 114) (as := [.int (v2), .int (v3), .int (v5), .int ((200 : Int32))]) (rest := []) (pc := 21) (ls := [some (.ref 0), some (.int (v1)), some (.int (v2)), some (.int (v3)), some (.int (v4)), some (.int (v5)), some (.int (v6))]) (st := [.int ((200 : Int32)), .int (v5), .int (v3), .int (v2)]) (h := hX σ) rfl (tX11_mayStart (d + 3) (hX σ) v2 v3 v5 (200 : Int32) r2 hr2) ?_
    refine ev_br 0 (P := r2 = 0) (a := 41) (b := 27) (ls := [some (.ref 0), some (.int (v1)), some (.int (v2)), some (.int (v3)), some (.int (v4)), some (.int (v5)), some (.int (v6))]) (st := []) (h := hX σ) rfl (fun c2 => ?_) (fun c2 => ?_)
    · rw [if_pos c2] at hf
      exact ev_dr (a := [none, none, none, none, none, none, none]) trivial (tX11_game_b41 d σ  _ hf)
    · rw [if_neg c2] at hf
      refine ev_br 1 (P := v4 < 0) (a := 41) (b := 32) (ls := [some (.ref 0), some (.int (v1)), some (.int (v2)), some (.int (v3)), some (.int (v4)), some (.int (v5)), some (.int (v6))]) (st := []) (h := hX σ) rfl (fun c3 => ?_) (fun c3 => ?_)
      · rw [if_pos c3] at hf
        exact ev_dr (a := [none, none, none, none, none, none, none]) trivial (tX11_game_b41 d σ  _ hf)
      · rw [if_neg c3] at hf
        obtain ⟨r3, hr3, hf⟩ := Option.bind_eq_some_iff.mp hf
        refine ev_cli 2 (kk := 113) (as := [.int (v6), .int ((3 : Int32))]) (rest := []) (pc := 35) (ls := [some (.ref 0), some (.int (v1)), some (.int (v2)), some (.int (v3)), some (.int (v4)), some (.int (v5)), some (.int (v6))]) (st := [.int ((3 : Int32)), .int (v6)]) (h := hX σ) rfl (tX11_isWithin (d + 4) (hX σ) v6 (3 : Int32) r3 hr3) ?_
        refine ev_br 0 (P := r3 = 0) (a := 41) (b := 44) (ls := [some (.ref 0), some (.int (v1)), some (.int (v2)), some (.int (v3)), some (.int (v4)), some (.int (v5)), some (.int (v6))]) (st := []) (h := hX σ) rfl (fun c4 => ?_) (fun c4 => ?_)
        · rw [if_pos c4] at hf
          exact ev_dr (a := [none, none, none, none, none, none, none]) trivial (tX11_game_b41 d σ  _ hf)
        · rw [if_neg c4] at hf
          obtain ⟨r4, hr4, hf⟩ := Option.bind_eq_some_iff.mp hf
          refine ev_clv 6 (kk := 68) (as := [.ref 17, .int (v1), .int (v2), .int (v3), .int (v5)]) (rest := []) (pc := 53) (ls := [some (.ref 0), some (.int (v1)), some (.int (v2)), some (.int (v3)), some (.int (v4)), some (.int (v5)), some (.int (v6))]) (st := [.int (v5), .int (v3), .int (v2), .int (v1), .ref 17]) (h := hX σ) rfl (tX8_begin (d + 4) σ v1 v2 v3 v5 r4 hr4) ?_
          obtain ⟨r5, hr5, hf⟩ := Option.bind_eq_some_iff.mp hf
          refine ev_clv 3 (kk := 69) (as := [.ref 17, .int (v4)]) (rest := []) (pc := 62) (ls := [some (.ref 0), some (.int (v1)), some (.int (v2)), some (.int (v3)), some (.int (v4)), some (.int (v5)), some (.int (v6))]) (st := [.int (v4), .ref 17]) (h := hX r4) rfl (tX8_play d r4 v4 r5 hr5) ?_
          obtain ⟨r6, hr6, hf⟩ := Option.bind_eq_some_iff.mp hf
          refine ev_cli 3 (kk := 70) (as := [.ref 17, .int (v6)]) (rest := []) (pc := 71) (ls := [some (.ref 0), some (.int (v1)), some (.int (v2)), some (.int (v3)), some (.int (v4)), some (.int (v5)), some (.int (v6))]) (st := [.int (v6), .ref 17]) (h := hX r5) rfl (tX8_outcome (d + 4) r5 v6 r6 hr6) ?_
          cases hf
          exact ev_rt 0 rfl
set_option maxRecDepth 20000 in
set_option maxHeartbeats 4000000 in
theorem tX11_lasts_b40 (d : Nat) (σ : SX) (q : Int32 × SX) (hf : fX11_lasts_b40 σ = some q) : ev_X (d + 6) (some .int) eiX11_lasts (40, [none, none, none, none, none, none], [], hX σ) (some (.int q.1), hX q.2) := by
  unfold fX11_lasts_b40 at hf
  cases hf
  exact ev_rt 1 rfl
set_option maxRecDepth 20000 in
set_option maxHeartbeats 4000000 in
theorem tX11_lasts (d : Nat) (σ : SX) (v1 : Int32) (v2 : Int32) (v3 : Int32) (v4 : Int32) (v5 : Int32) (q : Int32 × SX) (hf : fX11_lasts σ v1 v2 v3 v4 v5 = some q) : ev_M ev_mt (d + 7) 102 [.ref 0, .int (v1), .int (v2), .int (v3), .int (v4), .int (v5)] (hX σ) (some (.int q.1), hX q.2) := by
  refine ev_en (rt := (some .int)) (I := eiX11_lasts) rfl (Nat.le_of_ble_eq_true rfl) ?_
  change ev_X (d + 6) _ _ (0, [some (.ref 0), some (.int (v1)), some (.int (v2)), some (.int (v3)), some (.int (v4)), some (.int (v5))], [], hX σ) _
  unfold fX11_lasts at hf
  obtain ⟨r1, hr1, hf⟩ := Option.bind_eq_some_iff.mp hf
  refine ev_cli 3 (kk := 59) (as := [.ref 3, .int (v1)]) (rest := []) (pc := 5) (ls := [some (.ref 0), some (.int (v1)), some (.int (v2)), some (.int (v3)), some (.int (v4)), some (.int (v5))]) (st := [.int (v1), .ref 3]) (h := hX σ) rfl (tX7_isFree (d + 5) σ v1 r1 hr1) ?_
  refine ev_br 0 (P := r1 = 0) (a := 11) (b := 14) (ls := [some (.ref 0), some (.int (v1)), some (.int (v2)), some (.int (v3)), some (.int (v4)), some (.int (v5))]) (st := []) (h := hX σ) rfl (fun c1 => ?_) (fun c1 => ?_)
  · rw [if_pos c1] at hf
    cases hf
    exact ev_rt 1 rfl
  · rw [if_neg c1] at hf
    obtain ⟨r2, hr2, hf⟩ := Option.bind_eq_some_iff.mp hf
    refine ev_cli 4 (kk := 114) (as := [.int (v2), .int (v3), .int (v4), .int ((200 : Int32))]) (rest := []) (pc := 21) (ls := [some (.ref 0), some (.int (v1)), some (.int (v2)), some (.int (v3)), some (.int (v4)), some (.int (v5))]) (st := [.int ((200 : Int32)), .int (v4), .int (v3), .int (v2)]) (h := hX σ) rfl (tX11_mayStart (d + 4) (hX σ) v2 v3 v4 (200 : Int32) r2 hr2) ?_
    refine ev_br 0 (P := r2 = 0) (a := 40) (b := 27) (ls := [some (.ref 0), some (.int (v1)), some (.int (v2)), some (.int (v3)), some (.int (v4)), some (.int (v5))]) (st := []) (h := hX σ) rfl (fun c2 => ?_) (fun c2 => ?_)
    · rw [if_pos c2] at hf
      exact ev_dr (a := [none, none, none, none, none, none]) trivial (tX11_lasts_b40 d σ  _ hf)
    · rw [if_neg c2] at hf
      refine ev_br 2 (P := v5 < (1 : Int32)) (a := 40) (b := 33) (ls := [some (.ref 0), some (.int (v1)), some (.int (v2)), some (.int (v3)), some (.int (v4)), some (.int (v5))]) (st := []) (h := hX σ) rfl (fun c3 => ?_) (fun c3 => ?_)
      · rw [if_pos c3] at hf
        exact ev_dr (a := [none, none, none, none, none, none]) trivial (tX11_lasts_b40 d σ  _ hf)
      · rw [if_neg c3] at hf
        refine ev_br 2 (P := (20 : Int32) < v5) (a := 40) (b := 43) (ls := [some (.ref 0), some (.int (v1)), some (.int (v2)), some (.int (v3)), some (.int (v4)), some (.int (v5))]) (st := []) (h := hX σ) rfl (fun c4 => ?_) (fun c4 => ?_)
        · rw [if_pos c4] at hf
          exact ev_dr (a := [none, none, none, none, none, none]) trivial (tX11_lasts_b40 d σ  _ hf)
        · rw [if_neg c4] at hf
          obtain ⟨r3, hr3, hf⟩ := Option.bind_eq_some_iff.mp hf
          refine ev_clv 6 (kk := 68) (as := [.ref 17, .int (v1), .int (v2), .int (v3), .int (v4)]) (rest := []) (pc := 52) (ls := [some (.ref 0), some (.int (v1)), some (.int (v2)), some (.int (v3)), some (.int (v4)), some (.int (v5))]) (st := [.int (v4), .int (v3), .int (v2), .int (v1), .ref 17]) (h := hX σ) rfl (tX8_begin (d + 5) σ v1 v2 v3 v4 r3 hr3) ?_
          obtain ⟨r4, hr4, hf⟩ := Option.bind_eq_some_iff.mp hf
          refine ev_cli 5 (kk := 71) (as := [.ref 17, .int ((-1 : Int32)), .int (v5), .int (v5)]) (rest := []) (pc := 64) (ls := [some (.ref 0), some (.int (v1)), some (.int (v2)), some (.int (v3)), some (.int (v4)), some (.int (v5))]) (st := [.int (v5), .int (v5), .int ((-1 : Int32)), .ref 17]) (h := hX r3) rfl (tX8_seedsThatTouch d r3 (-1 : Int32) v5 v5 r4 hr4) ?_
          cases hf
          exact ev_rt 0 rfl
set_option maxRecDepth 20000 in
set_option maxHeartbeats 4000000 in
theorem tX11_stand_b190 (d : Nat) (σ : SX) (v7 : Nat) (v8 : Int32) (v9 : Int32) (q : Int32 × SX) (hf : fX11_stand_b190 σ v7 v8 v9 = some q) : ev_X (d + 6) (some .int) eiX11_stand (190, [none, none, none, none, none, none, none, some (.ref v7), some (.int (v8)), some (.int (v9)), none, none, none], [], hX σ) (some (.int q.1), hX q.2) := by
  unfold fX11_stand_b190 at hf
  obtain ⟨c1, hf⟩ := ev_hp hf
  refine ev_go (c' := (194, [none, none, none, none, none, none, none, some (.ref v7), some (.int (v8)), some (.int (v9)), none, none, none], [.int (v8), .ref v7], hX σ)) 1 rfl ?_
  refine ev_st1 (e := (194, .putfield 197, 3, 0, 0, .null, [(0, 0), (1, 0), (2, 0), (6, 0), (9, 0), (10, 0)], [663])) (c' := (197, [none, none, none, none, none, none, none, some (.ref v7), some (.int (v8)), some (.int (v9)), none, none, none], [], hX (sx_pl_told σ (upd (gx_pl_told σ) (v7 - 20) v8)))) rfl (ox_pput0 c1) ?_
  cases hf
  exact ev_rt 1 rfl
set_option maxRecDepth 20000 in
set_option maxHeartbeats 4000000 in
theorem tX11_stand_b184 (d : Nat) (k109 : SX → Int32 → Int32 → Nat → Int32 → Int32 → Int32 → Int32 → Option (Int32 × SX)) (hk109 : ∀ (σ : SX) (v1 : Int32) (v6 : Int32) (v7 : Nat) (v8 : Int32) (v9 : Int32) (v10 : Int32) (v11 : Int32) (q : Int32 × SX), k109 σ v1 v6 v7 v8 v9 v10 v11 = some q → ev_X (d + 6) (some .int) eiX11_stand (109, [some (.ref 0), some (.int (v1)), none, none, none, none, some (.int (v6)), some (.ref v7), some (.int (v8)), some (.int (v9)), some (.int (v10)), some (.int (v11)), none], [], hX σ) (some (.int q.1), hX q.2)) (σ : SX) (v1 : Int32) (v6 : Int32) (v7 : Nat) (v8 : Int32) (v9 : Int32) (v10 : Int32) (v11 : Int32) (q : Int32 × SX) (hf : fX11_stand_b184 k109 σ v1 v6 v7 v8 v9 v10 v11 = some q) : ev_X (d + 6) (some .int) eiX11_stand (184, [some (.ref 0), some (.int (v1)), none, none, none, none, some (.int (v6)), some (.ref v7), some (.int (v8)), some (.int (v9)), some (.int (v10)), some (.int (v11)), none], [], hX σ) (some (.int q.1), hX q.2) := by
  unfold fX11_stand_b184 at hf
  refine ev_go (c' := (109, [some (.ref 0), some (.int (v1)), none, none, none, none, some (.int (v6)), some (.ref v7), some (.int (v8)), some (.int (v9)), some (.int (v10)), some (.int ((v11 + (1 : Int32)))), none], [], hX σ)) 1 rfl ?_
  exact ev_dr (a := [some (.ref 0), some (.int (v1)), none, none, none, none, some (.int (v6)), some (.ref v7), some (.int (v8)), some (.int (v9)), some (.int (v10)), some (.int ((v11 + (1 : Int32)))), none]) ⟨rfl, ⟨rfl, ⟨rfl, ⟨rfl, ⟨rfl, ⟨rfl, ⟨rfl, ⟨rfl, trivial⟩⟩⟩⟩⟩⟩⟩⟩ (hk109 σ v1 v6 v7 v8 v9 v10 (v11 + (1 : Int32)) _ hf)
set_option maxRecDepth 20000 in
set_option maxHeartbeats 4000000 in
theorem tX11_stand_b173 (d : Nat) (k109 : SX → Int32 → Int32 → Nat → Int32 → Int32 → Int32 → Int32 → Option (Int32 × SX)) (hk109 : ∀ (σ : SX) (v1 : Int32) (v6 : Int32) (v7 : Nat) (v8 : Int32) (v9 : Int32) (v10 : Int32) (v11 : Int32) (q : Int32 × SX), k109 σ v1 v6 v7 v8 v9 v10 v11 = some q → ev_X (d + 6) (some .int) eiX11_stand (109, [some (.ref 0), some (.int (v1)), none, none, none, none, some (.int (v6)), some (.ref v7), some (.int (v8)), some (.int (v9)), some (.int (v10)), some (.int (v11)), none], [], hX σ) (some (.int q.1), hX q.2)) (σ : SX) (v1 : Int32) (v6 : Int32) (v7 : Nat) (v8 : Int32) (v10 : Int32) (v11 : Int32) (v12 : Int32) (w0 : Int32) (q : Int32 × SX) (hf : fX11_stand_b173 k109 σ v1 v6 v7 v8 v10 v11 v12 w0 = some q) : ev_X (d + 6) (some .int) eiX11_stand (173, [some (.ref 0), some (.int (v1)), none, none, none, none, some (.int (v6)), some (.ref v7), some (.int (v8)), none, some (.int (v10)), some (.int (v11)), some (.int (v12))], [.int (w0)], hX σ) (some (.int q.1), hX q.2) := by
  unfold fX11_stand_b173 at hf
  refine ev_go (c' := (184, [some (.ref 0), some (.int (v1)), none, none, none, none, some (.int (v6)), some (.ref v7), some (.int (v8)), some (.int (w0)), some (.int ((if v10 < v12 then v10 else v12))), some (.int (v11)), some (.int (v12))], [], hX σ)) 4 rfl ?_
  exact ev_dr (a := [some (.ref 0), some (.int (v1)), none, none, none, none, some (.int (v6)), some (.ref v7), some (.int (v8)), some (.int (w0)), some (.int ((if v10 < v12 then v10 else v12))), some (.int (v11)), none]) ⟨rfl, ⟨rfl, ⟨rfl, ⟨rfl, ⟨rfl, ⟨rfl, ⟨rfl, ⟨rfl, trivial⟩⟩⟩⟩⟩⟩⟩⟩ (tX11_stand_b184 d k109 hk109 σ v1 v6 v7 v8 w0 (if v10 < v12 then v10 else v12) v11 _ hf)
set_option maxRecDepth 20000 in
set_option maxHeartbeats 4000000 in
theorem tX11_stand_b109 (d : Nat) (k109 : SX → Int32 → Int32 → Nat → Int32 → Int32 → Int32 → Int32 → Option (Int32 × SX)) (hk109 : ∀ (σ : SX) (v1 : Int32) (v6 : Int32) (v7 : Nat) (v8 : Int32) (v9 : Int32) (v10 : Int32) (v11 : Int32) (q : Int32 × SX), k109 σ v1 v6 v7 v8 v9 v10 v11 = some q → ev_X (d + 6) (some .int) eiX11_stand (109, [some (.ref 0), some (.int (v1)), none, none, none, none, some (.int (v6)), some (.ref v7), some (.int (v8)), some (.int (v9)), some (.int (v10)), some (.int (v11)), none], [], hX σ) (some (.int q.1), hX q.2)) (σ : SX) (v1 : Int32) (v6 : Int32) (v7 : Nat) (v8 : Int32) (v9 : Int32) (v10 : Int32) (v11 : Int32) (q : Int32 × SX) (hf : fX11_stand_b109 k109 σ v1 v6 v7 v8 v9 v10 v11 = some q) : ev_X (d + 6) (some .int) eiX11_stand (109, [some (.ref 0), some (.int (v1)), none, none, none, none, some (.int (v6)), some (.ref v7), some (.int (v8)), some (.int (v9)), some (.int (v10)), some (.int (v11)), none], [], hX σ) (some (.int q.1), hX q.2) := by
  unfold fX11_stand_b109 at hf
  refine ev_br 4 (P := v11 < (gx_rg_size σ)) (a := 121) (b := 190) (ls := [some (.ref 0), some (.int (v1)), none, none, none, none, some (.int (v6)), some (.ref v7), some (.int (v8)), some (.int (v9)), some (.int (v10)), some (.int (v11)), none]) (st := []) (h := hX σ) rfl (fun c1 => ?_) (fun c1 => ?_)
  · rw [if_pos c1] at hf
    refine ev_br 1 (P := 0 < v10) (a := 126) (b := 190) (ls := [some (.ref 0), some (.int (v1)), none, none, none, none, some (.int (v6)), some (.ref v7), some (.int (v8)), some (.int (v9)), some (.int (v10)), some (.int (v11)), none]) (st := []) (h := hX σ) rfl (fun c2 => ?_) (fun c2 => ?_)
    · rw [if_pos c2] at hf
      obtain ⟨r6, hr6, hf⟩ := Option.bind_eq_some_iff.mp hf
      refine ev_cli 3 (kk := 59) (as := [.ref 3, .int (v11)]) (rest := []) (pc := 132) (ls := [some (.ref 0), some (.int (v1)), none, none, none, none, some (.int (v6)), some (.ref v7), some (.int (v8)), some (.int (v9)), some (.int (v10)), some (.int (v11)), none]) (st := [.int (v11), .ref 3]) (h := hX σ) rfl (tX7_isFree (d + 5) σ v11 r6 hr6) ?_
      refine ev_br 0 (P := r6 = 0) (a := 184) (b := 138) (ls := [some (.ref 0), some (.int (v1)), none, none, none, none, some (.int (v6)), some (.ref v7), some (.int (v8)), some (.int (v9)), some (.int (v10)), some (.int (v11)), none]) (st := []) (h := hX σ) rfl (fun c3 => ?_) (fun c3 => ?_)
      · rw [if_pos c3] at hf
        exact ev_dr (a := [some (.ref 0), some (.int (v1)), none, none, none, none, some (.int (v6)), some (.ref v7), some (.int (v8)), some (.int (v9)), some (.int (v10)), some (.int (v11)), none]) ⟨rfl, ⟨rfl, ⟨rfl, ⟨rfl, ⟨rfl, ⟨rfl, ⟨rfl, ⟨rfl, trivial⟩⟩⟩⟩⟩⟩⟩⟩ (tX11_stand_b184 d k109 hk109 σ v1 v6 v7 v8 v9 v10 v11 _ hf)
      · rw [if_neg c3] at hf
        obtain ⟨c4, hf⟩ := ev_hp hf
        refine ev_go (c' := (142, [some (.ref 0), some (.int (v1)), none, none, none, none, some (.int (v6)), some (.ref v7), some (.int (v8)), some (.int (v9)), some (.int (v10)), some (.int (v11)), none], [.int (v11), .ref v7], hX σ)) 1 rfl ?_
        refine ev_st1 (e := (142, .putfield 197, 3, 0, 0, .null, [(0, 0), (1, 0), (2, 0), (6, 0), (9, 0), (10, 0)], [663])) (c' := (145, [some (.ref 0), some (.int (v1)), none, none, none, none, some (.int (v6)), some (.ref v7), some (.int (v8)), some (.int (v9)), some (.int (v10)), some (.int (v11)), none], [], hX (sx_pl_told σ (upd (gx_pl_told σ) (v7 - 20) v11)))) rfl (ox_pput0 c4) ?_
        obtain ⟨r7, hr7, hf⟩ := Option.bind_eq_some_iff.mp hf
        refine ev_cli 5 (kk := 71) (as := [.ref 17, .int (v1), .int (v6), .int (v10)]) (rest := []) (pc := 154) (ls := [some (.ref 0), some (.int (v1)), none, none, none, none, some (.int (v6)), some (.ref v7), some (.int (v8)), some (.int (v9)), some (.int (v10)), some (.int (v11)), none]) (st := [.int (v10), .int (v6), .int (v1), .ref 17]) (h := hX (sx_pl_told σ (upd (gx_pl_told σ) (v7 - 20) v11))) rfl (tX8_seedsThatTouch d (sx_pl_told σ (upd (gx_pl_told σ) (v7 - 20) v11)) v1 v6 v10 r7 hr7) ?_
        refine ev_br 3 (P := r7.1 < v10) (a := 166) (b := 171) (ls := [some (.ref 0), some (.int (v1)), none, none, none, none, some (.int (v6)), some (.ref v7), some (.int (v8)), some (.int (v9)), some (.int (v10)), some (.int (v11)), some (.int (r7.1))]) (st := []) (h := hX r7.2) rfl (fun c5 => ?_) (fun c5 => ?_)
        · rw [if_pos c5] at hf
          refine ev_go (c' := (173, [some (.ref 0), some (.int (v1)), none, none, none, none, some (.int (v6)), some (.ref v7), some (.int (v8)), some (.int (v9)), some (.int (v10)), some (.int (v11)), some (.int (r7.1))], [.int (v11)], hX r7.2)) 1 rfl ?_
          exact ev_dr (a := [some (.ref 0), some (.int (v1)), none, none, none, none, some (.int (v6)), some (.ref v7), some (.int (v8)), none, some (.int (v10)), some (.int (v11)), some (.int (r7.1))]) ⟨rfl, ⟨rfl, ⟨rfl, ⟨rfl, ⟨rfl, ⟨rfl, ⟨rfl, ⟨rfl, trivial⟩⟩⟩⟩⟩⟩⟩⟩ (tX11_stand_b173 d k109 hk109 r7.2 v1 v6 v7 v8 v10 v11 r7.1 v11 _ hf)
        · rw [if_neg c5] at hf
          refine ev_go (c' := (173, [some (.ref 0), some (.int (v1)), none, none, none, none, some (.int (v6)), some (.ref v7), some (.int (v8)), some (.int (v9)), some (.int (v10)), some (.int (v11)), some (.int (r7.1))], [.int (v9)], hX r7.2)) 0 rfl ?_
          exact ev_dr (a := [some (.ref 0), some (.int (v1)), none, none, none, none, some (.int (v6)), some (.ref v7), some (.int (v8)), none, some (.int (v10)), some (.int (v11)), some (.int (r7.1))]) ⟨rfl, ⟨rfl, ⟨rfl, ⟨rfl, ⟨rfl, ⟨rfl, ⟨rfl, ⟨rfl, trivial⟩⟩⟩⟩⟩⟩⟩⟩ (tX11_stand_b173 d k109 hk109 r7.2 v1 v6 v7 v8 v10 v11 r7.1 v9 _ hf)
    · rw [if_neg c2] at hf
      exact ev_dr (a := [none, none, none, none, none, none, none, some (.ref v7), some (.int (v8)), some (.int (v9)), none, none, none]) ⟨rfl, ⟨rfl, ⟨rfl, trivial⟩⟩⟩ (tX11_stand_b190 d σ v7 v8 v9 _ hf)
  · rw [if_neg c1] at hf
    exact ev_dr (a := [none, none, none, none, none, none, none, some (.ref v7), some (.int (v8)), some (.int (v9)), none, none, none]) ⟨rfl, ⟨rfl, ⟨rfl, trivial⟩⟩⟩ (tX11_stand_b190 d σ v7 v8 v9 _ hf)
theorem tX11_stand_l109 (d : Nat) : ∀ (n : Nat) (σ : SX) (v1 : Int32) (v6 : Int32) (v7 : Nat) (v8 : Int32) (v9 : Int32) (v10 : Int32) (v11 : Int32) (q : Int32 × SX), fX11_stand_l109 n σ v1 v6 v7 v8 v9 v10 v11 = some q → ev_X (d + 6) (some .int) eiX11_stand (109, [some (.ref 0), some (.int (v1)), none, none, none, none, some (.int (v6)), some (.ref v7), some (.int (v8)), some (.int (v9)), some (.int (v10)), some (.int (v11)), none], [], hX σ) (some (.int q.1), hX q.2)
  | 0, _, _, _, _, _, _, _, _, _, hf => by cases hf
  | n + 1, σ, v1, v6, v7, v8, v9, v10, v11, q, hf => tX11_stand_b109 d (fX11_stand_l109 n) (fun σ v1 v6 v7 v8 v9 v10 v11 q h9 => tX11_stand_l109 d n σ v1 v6 v7 v8 v9 v10 v11 q h9) σ v1 v6 v7 v8 v9 v10 v11 q hf
set_option maxRecDepth 20000 in
set_option maxHeartbeats 4000000 in
theorem tX11_stand_b52 (d : Nat) (σ : SX) (q : Int32 × SX) (hf : fX11_stand_b52 σ = some q) : ev_X (d + 6) (some .int) eiX11_stand (52, [none, none, none, none, none, none, none, none, none, none, none, none, none], [], hX σ) (some (.int q.1), hX q.2) := by
  unfold fX11_stand_b52 at hf
  cases hf
  exact ev_rt 1 rfl
set_option maxRecDepth 20000 in
set_option maxHeartbeats 4000000 in
theorem tX11_stand_b23 (d : Nat) (σ : SX) (q : Int32 × SX) (hf : fX11_stand_b23 σ = some q) : ev_X (d + 6) (some .int) eiX11_stand (23, [none, none, none, none, none, none, none, none, none, none, none, none, none], [], hX σ) (some (.int q.1), hX q.2) := by
  unfold fX11_stand_b23 at hf
  cases hf
  exact ev_rt 1 rfl
set_option maxRecDepth 20000 in
set_option maxHeartbeats 4000000 in
theorem tX11_stand (d : Nat) (σ : SX) (v1 : Int32) (v2 : Int32) (v3 : Int32) (v4 : Int32) (v5 : Int32) (v6 : Int32) (q : Int32 × SX) (hf : fX11_stand σ v1 v2 v3 v4 v5 v6 = some q) : ev_M ev_mt (d + 7) 103 [.ref 0, .int (v1), .int (v2), .int (v3), .int (v4), .int (v5), .int (v6)] (hX σ) (some (.int q.1), hX q.2) := by
  refine ev_en (rt := (some .int)) (I := eiX11_stand) rfl (Nat.le_of_ble_eq_true rfl) ?_
  change ev_X (d + 6) _ _ (0, [some (.ref 0), some (.int (v1)), some (.int (v2)), some (.int (v3)), some (.int (v4)), some (.int (v5)), some (.int (v6)), none, none, none, none, none, none], [], hX σ) _
  unfold fX11_stand at hf
  obtain ⟨r1, hr1, hf⟩ := Option.bind_eq_some_iff.mp hf
  refine ev_clq 2 (kk := 121) (as := [.ref 0, .int (v1)]) (rest := []) (pc := 2) (ls := [some (.ref 0), some (.int (v1)), some (.int (v2)), some (.int (v3)), some (.int (v4)), some (.int (v5)), some (.int (v6)), none, none, none, none, none, none]) (st := [.int (v1), .ref 0]) (h := hX σ) rfl (tX11_playerOf (d + 5) σ v1 r1 hr1) ?_
  rcases hc1 : r1 with _ | a2
  · rw [hc1] at hf
    simp only [ev_q] at hf
    change ev_X (d + 6) _ _ (5, [some (.ref 0), some (.int (v1)), some (.int (v2)), some (.int (v3)), some (.int (v4)), some (.int (v5)), some (.int (v6)), none, none, none, none, none, none], [.null], hX σ) _
    refine ev_go (c' := (23, [some (.ref 0), some (.int (v1)), some (.int (v2)), some (.int (v3)), some (.int (v4)), some (.int (v5)), some (.int (v6)), some (.null), none, none, none, none, none], [], hX σ)) 2 rfl ?_
    exact ev_dr (a := [none, none, none, none, none, none, none, none, none, none, none, none, none]) trivial (tX11_stand_b23 d σ  _ hf)
  · rw [hc1] at hf
    simp only [ev_q] at hf
    change ev_X (d + 6) _ _ (5, [some (.ref 0), some (.int (v1)), some (.int (v2)), some (.int (v3)), some (.int (v4)), some (.int (v5)), some (.int (v6)), none, none, none, none, none, none], [.ref a2], hX σ) _
    obtain ⟨r3, hr3, hf⟩ := Option.bind_eq_some_iff.mp hf
    refine ev_cli 6 (kk := 59) (as := [.ref 3, .int (v2)]) (rest := []) (pc := 17) (ls := [some (.ref 0), some (.int (v1)), some (.int (v2)), some (.int (v3)), some (.int (v4)), some (.int (v5)), some (.int (v6)), some (.ref a2), none, none, none, none, none]) (st := [.int (v2), .ref 3]) (h := hX σ) rfl (tX7_isFree (d + 5) σ v2 r3 hr3) ?_
    refine ev_br 0 (P := r3 = 0) (a := 23) (b := 26) (ls := [some (.ref 0), some (.int (v1)), some (.int (v2)), some (.int (v3)), some (.int (v4)), some (.int (v5)), some (.int (v6)), some (.ref a2), none, none, none, none, none]) (st := []) (h := hX σ) rfl (fun c2 => ?_) (fun c2 => ?_)
    · rw [if_pos c2] at hf
      exact ev_dr (a := [none, none, none, none, none, none, none, none, none, none, none, none, none]) trivial (tX11_stand_b23 d σ  _ hf)
    · rw [if_neg c2] at hf
      obtain ⟨r4, hr4, hf⟩ := Option.bind_eq_some_iff.mp hf
      refine ev_cli 4 (kk := 114) (as := [.int (v3), .int (v4), .int (v5), .int ((50 : Int32))]) (rest := []) (pc := 33) (ls := [some (.ref 0), some (.int (v1)), some (.int (v2)), some (.int (v3)), some (.int (v4)), some (.int (v5)), some (.int (v6)), some (.ref a2), none, none, none, none, none]) (st := [.int ((50 : Int32)), .int (v5), .int (v4), .int (v3)]) (h := hX σ) rfl (tX11_mayStart (d + 4) (hX σ) v3 v4 v5 (50 : Int32) r4 hr4) ?_
      refine ev_br 0 (P := r4 = 0) (a := 52) (b := 39) (ls := [some (.ref 0), some (.int (v1)), some (.int (v2)), some (.int (v3)), some (.int (v4)), some (.int (v5)), some (.int (v6)), some (.ref a2), none, none, none, none, none]) (st := []) (h := hX σ) rfl (fun c3 => ?_) (fun c3 => ?_)
      · rw [if_pos c3] at hf
        exact ev_dr (a := [none, none, none, none, none, none, none, none, none, none, none, none, none]) trivial (tX11_stand_b52 d σ  _ hf)
      · rw [if_neg c3] at hf
        refine ev_br 2 (P := v6 < (1 : Int32)) (a := 52) (b := 45) (ls := [some (.ref 0), some (.int (v1)), some (.int (v2)), some (.int (v3)), some (.int (v4)), some (.int (v5)), some (.int (v6)), some (.ref a2), none, none, none, none, none]) (st := []) (h := hX σ) rfl (fun c4 => ?_) (fun c4 => ?_)
        · rw [if_pos c4] at hf
          exact ev_dr (a := [none, none, none, none, none, none, none, none, none, none, none, none, none]) trivial (tX11_stand_b52 d σ  _ hf)
        · rw [if_neg c4] at hf
          refine ev_br 2 (P := (9 : Int32) < v6) (a := 52) (b := 55) (ls := [some (.ref 0), some (.int (v1)), some (.int (v2)), some (.int (v3)), some (.int (v4)), some (.int (v5)), some (.int (v6)), some (.ref a2), none, none, none, none, none]) (st := []) (h := hX σ) rfl (fun c5 => ?_) (fun c5 => ?_)
          · rw [if_pos c5] at hf
            exact ev_dr (a := [none, none, none, none, none, none, none, none, none, none, none, none, none]) trivial (tX11_stand_b52 d σ  _ hf)
          · rw [if_neg c5] at hf
            refine ev_br 3 (P := (gx_tp_standsDone σ) < (20 : Int32)) (a := 67) (b := 64) (ls := [some (.ref 0), some (.int (v1)), some (.int (v2)), some (.int (v3)), some (.int (v4)), some (.int (v5)), some (.int (v6)), some (.ref a2), none, none, none, none, none]) (st := []) (h := hX σ) rfl (fun c6 => ?_) (fun c6 => ?_)
            · rw [if_pos c6] at hf
              refine ev_go (c' := (74, [some (.ref 0), some (.int (v1)), some (.int (v2)), some (.int (v3)), some (.int (v4)), some (.int (v5)), some (.int (v6)), some (.ref a2), none, none, none, none, none], [.int (((gx_tp_standsDone σ) + (1 : Int32))), .ref 0], hX σ)) 4 rfl ?_
              refine ev_st1 (e := (74, .putfield 234, 3, 8, 0, .null, [(11, 0)], [263])) (c' := (77, [some (.ref 0), some (.int (v1)), some (.int (v2)), some (.int (v3)), some (.int (v4)), some (.int (v5)), some (.int (v6)), some (.ref a2), none, none, none, none, none], [], hX (sx_tp_standsDone σ ((gx_tp_standsDone σ) + (1 : Int32))))) rfl oy_put_x_tp_standsDone ?_
              obtain ⟨r5, hr5, hf⟩ := Option.bind_eq_some_iff.mp hf
              refine ev_clv 6 (kk := 68) (as := [.ref 17, .int (v2), .int (v3), .int (v4), .int (v5)]) (rest := []) (pc := 87) (ls := [some (.ref 0), some (.int (v1)), some (.int (v2)), some (.int (v3)), some (.int (v4)), some (.int (v5)), some (.int (v6)), some (.ref a2), none, none, none, none, none]) (st := [.int (v5), .int (v4), .int (v3), .int (v2), .ref 17]) (h := hX (sx_tp_standsDone σ ((gx_tp_standsDone σ) + (1 : Int32)))) rfl (tX8_begin (d + 5) (sx_tp_standsDone σ ((gx_tp_standsDone σ) + (1 : Int32))) v2 v3 v4 v5 r5 hr5) ?_
              obtain ⟨c7, hf⟩ := ev_hp hf
              refine ev_go (c' := (92, [some (.ref 0), some (.int (v1)), some (.int (v2)), some (.int (v3)), some (.int (v4)), some (.int (v5)), some (.int (v6)), some (.ref a2), none, none, none, none, none], [.ref a2], hX r5)) 0 rfl ?_
              refine ev_st1 (e := (92, .getfield 197, 3, 0, 0, .null, [(0, 0), (1, 0), (2, 0), (6, 0), (9, 0), (10, 0)], [663])) (c' := (95, [some (.ref 0), some (.int (v1)), some (.int (v2)), some (.int (v3)), some (.int (v4)), some (.int (v5)), some (.int (v6)), some (.ref a2), none, none, none, none, none], [.int (((gx_pl_told r5) (a2 - 20)))], hX r5)) rfl (ox_pget0 c7) ?_
              refine ev_go (c' := (109, [some (.ref 0), some (.int (v1)), some (.int (v2)), some (.int (v3)), some (.int (v4)), some (.int (v5)), some (.int (v6)), some (.ref a2), some (.int (((gx_pl_told r5) (a2 - 20)))), some (.int ((-1 : Int32))), some (.int ((v6 + (1 : Int32)))), some (.int ((0 : Int32))), none], [], hX r5)) 8 rfl ?_
              exact ev_dr (a := [some (.ref 0), some (.int (v1)), none, none, none, none, some (.int (v6)), some (.ref a2), some (.int (((gx_pl_told r5) (a2 - 20)))), some (.int ((-1 : Int32))), some (.int ((v6 + (1 : Int32)))), some (.int ((0 : Int32))), none]) ⟨rfl, ⟨rfl, ⟨rfl, ⟨rfl, ⟨rfl, ⟨rfl, ⟨rfl, ⟨rfl, trivial⟩⟩⟩⟩⟩⟩⟩⟩ (tX11_stand_l109 d 1000 r5 v1 v6 a2 ((gx_pl_told r5) (a2 - 20)) (-1 : Int32) (v6 + (1 : Int32)) (0 : Int32) _ hf)
            · rw [if_neg c6] at hf
              cases hf
              exact ev_rt 1 rfl
