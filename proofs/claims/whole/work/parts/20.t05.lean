/-! X11_feels X11_jackets X11_couldBeFelt X11_named X11_says X11_when X11_image X11_restore X11_count X11_digest X12_within X12_size X12_divisor X12_lowest X12_letters X12_blank X12_sortOf -/
set_option maxRecDepth 20000 in
set_option maxHeartbeats 4000000 in
theorem tX11_feels_b26 (d : Nat) (σ : SX) (q : Int32 × SX) (hf : fX11_feels_b26 σ = some q) : ev_X (d + 1) (some .int) eiX11_feels (26, [none, none, none, none], [], hX σ) (some (.int q.1), hX q.2) := by
  unfold fX11_feels_b26 at hf
  cases hf
  exact ev_rt 1 rfl
set_option maxRecDepth 20000 in
set_option maxHeartbeats 4000000 in
theorem tX11_feels (d : Nat) (σ : SX) (v1 : Int32) (v2 : Int32) (v3 : Int32) (q : Int32 × SX) (hf : fX11_feels σ v1 v2 v3 = some q) : ev_M ev_mt (d + 2) 104 [.ref 0, .int (v1), .int (v2), .int (v3)] (hX σ) (some (.int q.1), hX q.2) := by
  refine ev_en (rt := (some .int)) (I := eiX11_feels) rfl (Nat.le_of_ble_eq_true rfl) ?_
  change ev_X (d + 1) _ _ (0, [some (.ref 0), some (.int (v1)), some (.int (v2)), some (.int (v3))], [], hX σ) _
  unfold fX11_feels at hf
  obtain ⟨r1, hr1, hf⟩ := Option.bind_eq_some_iff.mp hf
  refine ev_cli 2 (kk := 113) (as := [.int (v1), .int ((5 : Int32))]) (rest := []) (pc := 2) (ls := [some (.ref 0), some (.int (v1)), some (.int (v2)), some (.int (v3))]) (st := [.int ((5 : Int32)), .int (v1)]) (h := hX σ) rfl (tX11_isWithin d (hX σ) v1 (5 : Int32) r1 hr1) ?_
  refine ev_br 0 (P := r1 = 0) (a := 26) (b := 8) (ls := [some (.ref 0), some (.int (v1)), some (.int (v2)), some (.int (v3))]) (st := []) (h := hX σ) rfl (fun c1 => ?_) (fun c1 => ?_)
  · rw [if_pos c1] at hf
    exact ev_dr (a := [none, none, none, none]) trivial (tX11_feels_b26 d σ  _ hf)
  · rw [if_neg c1] at hf
    obtain ⟨r2, hr2, hf⟩ := Option.bind_eq_some_iff.mp hf
    refine ev_cli 2 (kk := 113) (as := [.int (v2), .int ((10 : Int32))]) (rest := []) (pc := 11) (ls := [some (.ref 0), some (.int (v1)), some (.int (v2)), some (.int (v3))]) (st := [.int ((10 : Int32)), .int (v2)]) (h := hX σ) rfl (tX11_isWithin d (hX σ) v2 (10 : Int32) r2 hr2) ?_
    refine ev_br 0 (P := r2 = 0) (a := 26) (b := 17) (ls := [some (.ref 0), some (.int (v1)), some (.int (v2)), some (.int (v3))]) (st := []) (h := hX σ) rfl (fun c2 => ?_) (fun c2 => ?_)
    · rw [if_pos c2] at hf
      exact ev_dr (a := [none, none, none, none]) trivial (tX11_feels_b26 d σ  _ hf)
    · rw [if_neg c2] at hf
      obtain ⟨r3, hr3, hf⟩ := Option.bind_eq_some_iff.mp hf
      refine ev_cli 2 (kk := 113) (as := [.int (v3), .int ((10 : Int32))]) (rest := []) (pc := 20) (ls := [some (.ref 0), some (.int (v1)), some (.int (v2)), some (.int (v3))]) (st := [.int ((10 : Int32)), .int (v3)]) (h := hX σ) rfl (tX11_isWithin d (hX σ) v3 (10 : Int32) r3 hr3) ?_
      refine ev_br 0 (P := r3 = 0) (a := 26) (b := 29) (ls := [some (.ref 0), some (.int (v1)), some (.int (v2)), some (.int (v3))]) (st := []) (h := hX σ) rfl (fun c3 => ?_) (fun c3 => ?_)
      · rw [if_pos c3] at hf
        exact ev_dr (a := [none, none, none, none]) trivial (tX11_feels_b26 d σ  _ hf)
      · rw [if_neg c3] at hf
        refine ev_go (c' := (34, [some (.ref 0), some (.int (v1)), some (.int (v2)), some (.int (v3))], [.int (v1), .ref 18], hX σ)) 2 rfl ?_
        refine ev_st1 (e := (34, .putfield 243, 3, 2, 0, .null, [(3, 0)], [221])) (c' := (37, [some (.ref 0), some (.int (v1)), some (.int (v2)), some (.int (v3))], [], hX (sx_nm_sizeOff σ v1))) rfl oy_put_x_nm_sizeOff ?_
        refine ev_go (c' := (42, [some (.ref 0), some (.int (v1)), some (.int (v2)), some (.int (v3))], [.int (v2), .ref 18], hX (sx_nm_sizeOff σ v1))) 2 rfl ?_
        refine ev_st1 (e := (42, .putfield 246, 3, 3, 0, .null, [(3, 0)], [223])) (c' := (45, [some (.ref 0), some (.int (v1)), some (.int (v2)), some (.int (v3))], [], hX (sx_nm_clothRight (sx_nm_sizeOff σ v1) v2))) rfl oy_put_x_nm_clothRight ?_
        refine ev_go (c' := (50, [some (.ref 0), some (.int (v1)), some (.int (v2)), some (.int (v3))], [.int (v3), .ref 18], hX (sx_nm_clothRight (sx_nm_sizeOff σ v1) v2))) 2 rfl ?_
        refine ev_st1 (e := (50, .putfield 249, 3, 4, 0, .null, [(3, 0)], [225])) (c' := (53, [some (.ref 0), some (.int (v1)), some (.int (v2)), some (.int (v3))], [], hX (sx_nm_giggleRight (sx_nm_clothRight (sx_nm_sizeOff σ v1) v2) v3))) rfl oy_put_x_nm_giggleRight ?_
        cases hf
        exact ev_rt 1 rfl
set_option maxRecDepth 20000 in
set_option maxHeartbeats 4000000 in
theorem tX11_jackets_b21 (d : Nat) (σ : SX) (q : Int32 × SX) (hf : fX11_jackets_b21 σ = some q) : ev_X (d + 1) (some .int) eiX11_jackets (21, [none, none, none, none], [], hX σ) (some (.int q.1), hX q.2) := by
  unfold fX11_jackets_b21 at hf
  cases hf
  exact ev_rt 1 rfl
set_option maxRecDepth 20000 in
set_option maxHeartbeats 4000000 in
theorem tX11_jackets (d : Nat) (σ : SX) (v1 : Int32) (v2 : Int32) (v3 : Int32) (q : Int32 × SX) (hf : fX11_jackets σ v1 v2 v3 = some q) : ev_M ev_mt (d + 2) 105 [.ref 0, .int (v1), .int (v2), .int (v3)] (hX σ) (some (.int q.1), hX q.2) := by
  refine ev_en (rt := (some .int)) (I := eiX11_jackets) rfl (Nat.le_of_ble_eq_true rfl) ?_
  change ev_X (d + 1) _ _ (0, [some (.ref 0), some (.int (v1)), some (.int (v2)), some (.int (v3))], [], hX σ) _
  unfold fX11_jackets at hf
  obtain ⟨r1, hr1, hf⟩ := Option.bind_eq_some_iff.mp hf
  refine ev_clq 2 (kk := 121) (as := [.ref 0, .int (v1)]) (rest := []) (pc := 2) (ls := [some (.ref 0), some (.int (v1)), some (.int (v2)), some (.int (v3))]) (st := [.int (v1), .ref 0]) (h := hX σ) rfl (tX11_playerOf d σ v1 r1 hr1) ?_
  rcases hc1 : r1 with _ | a2
  · rw [hc1] at hf
    simp only [ev_q] at hf
    change ev_X (d + 1) _ _ (5, [some (.ref 0), some (.int (v1)), some (.int (v2)), some (.int (v3))], [.null], hX σ) _
    refine ev_go (c' := (21, [some (.ref 0), some (.int (v1)), some (.int (v2)), some (.int (v3))], [], hX σ)) 0 rfl ?_
    exact ev_dr (a := [none, none, none, none]) trivial (tX11_jackets_b21 d σ  _ hf)
  · rw [hc1] at hf
    simp only [ev_q] at hf
    change ev_X (d + 1) _ _ (5, [some (.ref 0), some (.int (v1)), some (.int (v2)), some (.int (v3))], [.ref a2], hX σ) _
    obtain ⟨r3, hr3, hf⟩ := Option.bind_eq_some_iff.mp hf
    refine ev_clq 3 (kk := 121) (as := [.ref 0, .int (v2)]) (rest := []) (pc := 10) (ls := [some (.ref 0), some (.int (v1)), some (.int (v2)), some (.int (v3))]) (st := [.int (v2), .ref 0]) (h := hX σ) rfl (tX11_playerOf d σ v2 r3 hr3) ?_
    rcases hc2 : r3 with _ | a4
    · rw [hc2] at hf
      simp only [ev_q] at hf
      change ev_X (d + 1) _ _ (13, [some (.ref 0), some (.int (v1)), some (.int (v2)), some (.int (v3))], [.null], hX σ) _
      refine ev_go (c' := (21, [some (.ref 0), some (.int (v1)), some (.int (v2)), some (.int (v3))], [], hX σ)) 0 rfl ?_
      exact ev_dr (a := [none, none, none, none]) trivial (tX11_jackets_b21 d σ  _ hf)
    · rw [hc2] at hf
      simp only [ev_q] at hf
      change ev_X (d + 1) _ _ (13, [some (.ref 0), some (.int (v1)), some (.int (v2)), some (.int (v3))], [.ref a4], hX σ) _
      refine ev_br 3 (P := v1 = v2) (a := 21) (b := 24) (ls := [some (.ref 0), some (.int (v1)), some (.int (v2)), some (.int (v3))]) (st := []) (h := hX σ) rfl (fun c3 => ?_) (fun c3 => ?_)
      · rw [if_pos c3] at hf
        exact ev_dr (a := [none, none, none, none]) trivial (tX11_jackets_b21 d σ  _ hf)
      · rw [if_neg c3] at hf
        obtain ⟨r5, hr5, hf⟩ := Option.bind_eq_some_iff.mp hf
        refine ev_cli 2 (kk := 113) (as := [.int (v3), .int ((10 : Int32))]) (rest := []) (pc := 27) (ls := [some (.ref 0), some (.int (v1)), some (.int (v2)), some (.int (v3))]) (st := [.int ((10 : Int32)), .int (v3)]) (h := hX σ) rfl (tX11_isWithin d (hX σ) v3 (10 : Int32) r5 hr5) ?_
        refine ev_br 0 (P := r5 = 0) (a := 33) (b := 36) (ls := [some (.ref 0), some (.int (v1)), some (.int (v2)), some (.int (v3))]) (st := []) (h := hX σ) rfl (fun c4 => ?_) (fun c4 => ?_)
        · rw [if_pos c4] at hf
          cases hf
          exact ev_rt 1 rfl
        · rw [if_neg c4] at hf
          obtain ⟨r6, hr6, hf⟩ := Option.bind_eq_some_iff.mp hf
          refine ev_clv 5 (kk := 6) (as := [.ref 18, .int (v1), .int (v2), .int (v3)]) (rest := []) (pc := 43) (ls := [some (.ref 0), some (.int (v1)), some (.int (v2)), some (.int (v3))]) (st := [.int (v3), .int (v2), .int (v1), .ref 18]) (h := hX σ) rfl (tX3_changeJackets d σ v1 v2 v3 r6 hr6) ?_
          cases hf
          exact ev_rt 1 rfl
set_option maxRecDepth 20000 in
set_option maxHeartbeats 4000000 in
theorem tX11_couldBeFelt_b30 (d : Nat) (h : ev_H) (w0 : Int32) (q : Int32) (hf : fX11_couldBeFelt_b30 w0 = some q) : ev_X (d + 1) (some .boolean) eiX11_couldBeFelt (30, [none, none, none], [.int (w0)], h) (some (.int q), h) := by
  unfold fX11_couldBeFelt_b30 at hf
  obtain ⟨c1, hf⟩ := ev_hp hf
  cases hf
  exact ev_rk 0 rfl c1
set_option maxRecDepth 20000 in
set_option maxHeartbeats 4000000 in
theorem tX11_couldBeFelt_b29 (d : Nat) (h : ev_H) (q : Int32) (hf : fX11_couldBeFelt_b29 = some q) : ev_X (d + 1) (some .boolean) eiX11_couldBeFelt (29, [none, none, none], [], h) (some (.int q), h) := by
  unfold fX11_couldBeFelt_b29 at hf
  refine ev_go (c' := (30, [none, none, none], [.int ((0 : Int32))], h)) 0 rfl ?_
  exact ev_dr (a := [none, none, none]) trivial (tX11_couldBeFelt_b30 d h (0 : Int32) _ hf)
set_option maxRecDepth 20000 in
set_option maxHeartbeats 4000000 in
theorem tX11_couldBeFelt (d : Nat) (h : ev_H) (v0 : Int32) (v1 : Int32) (v2 : Int32) (q : Int32) (hf : fX11_couldBeFelt v0 v1 v2 = some q) : ev_M ev_mt (d + 2) 115 [.int (v0), .int (v1), .int (v2)] (h) (some (.int q), h) := by
  refine ev_en (rt := (some .boolean)) (I := eiX11_couldBeFelt) rfl (Nat.le_of_ble_eq_true rfl) ?_
  change ev_X (d + 1) _ _ (0, [some (.int (v0)), some (.int (v1)), some (.int (v2))], [], h) _
  unfold fX11_couldBeFelt at hf
  obtain ⟨r1, hr1, hf⟩ := Option.bind_eq_some_iff.mp hf
  refine ev_cli 2 (kk := 113) (as := [.int (v0), .int ((9 : Int32))]) (rest := []) (pc := 3) (ls := [some (.int (v0)), some (.int (v1)), some (.int (v2))]) (st := [.int ((9 : Int32)), .int (v0)]) (h := h) rfl (tX11_isWithin d (h) v0 (9 : Int32) r1 hr1) ?_
  refine ev_br 0 (P := r1 = 0) (a := 29) (b := 9) (ls := [some (.int (v0)), some (.int (v1)), some (.int (v2))]) (st := []) (h := h) rfl (fun c1 => ?_) (fun c1 => ?_)
  · rw [if_pos c1] at hf
    exact ev_dr (a := [none, none, none]) trivial (tX11_couldBeFelt_b29 d h  _ hf)
  · rw [if_neg c1] at hf
    obtain ⟨r2, hr2, hf⟩ := Option.bind_eq_some_iff.mp hf
    refine ev_cli 2 (kk := 113) (as := [.int (v1), .int ((4 : Int32))]) (rest := []) (pc := 11) (ls := [some (.int (v0)), some (.int (v1)), some (.int (v2))]) (st := [.int ((4 : Int32)), .int (v1)]) (h := h) rfl (tX11_isWithin d (h) v1 (4 : Int32) r2 hr2) ?_
    refine ev_br 0 (P := r2 = 0) (a := 29) (b := 17) (ls := [some (.int (v0)), some (.int (v1)), some (.int (v2))]) (st := []) (h := h) rfl (fun c2 => ?_) (fun c2 => ?_)
    · rw [if_pos c2] at hf
      exact ev_dr (a := [none, none, none]) trivial (tX11_couldBeFelt_b29 d h  _ hf)
    · rw [if_neg c2] at hf
      obtain ⟨r3, hr3, hf⟩ := Option.bind_eq_some_iff.mp hf
      refine ev_cli 2 (kk := 113) (as := [.int (v2), .int ((4 : Int32))]) (rest := []) (pc := 19) (ls := [some (.int (v0)), some (.int (v1)), some (.int (v2))]) (st := [.int ((4 : Int32)), .int (v2)]) (h := h) rfl (tX11_isWithin d (h) v2 (4 : Int32) r3 hr3) ?_
      refine ev_br 0 (P := r3 = 0) (a := 29) (b := 25) (ls := [some (.int (v0)), some (.int (v1)), some (.int (v2))]) (st := []) (h := h) rfl (fun c3 => ?_) (fun c3 => ?_)
      · rw [if_pos c3] at hf
        exact ev_dr (a := [none, none, none]) trivial (tX11_couldBeFelt_b29 d h  _ hf)
      · rw [if_neg c3] at hf
        refine ev_go (c' := (30, [some (.int (v0)), some (.int (v1)), some (.int (v2))], [.int ((1 : Int32))], h)) 1 rfl ?_
        exact ev_dr (a := [none, none, none]) trivial (tX11_couldBeFelt_b30 d h (1 : Int32) _ hf)
set_option maxRecDepth 20000 in
set_option maxHeartbeats 4000000 in
theorem tX11_named_b80 (d : Nat) (σ : SX) (w0 : Int32) (q : Int32 × SX) (hf : fX11_named_b80 σ w0 = some q) : ev_X (d + 3) (some .int) eiX11_named (80, [none, none, none, none, none, none, none, none], [.int (w0)], hX σ) (some (.int q.1), hX q.2) := by
  unfold fX11_named_b80 at hf
  cases hf
  exact ev_rt 0 rfl
set_option maxRecDepth 20000 in
set_option maxHeartbeats 4000000 in
theorem tX11_named_b30 (d : Nat) (σ : SX) (q : Int32 × SX) (hf : fX11_named_b30 σ = some q) : ev_X (d + 3) (some .int) eiX11_named (30, [none, none, none, none, none, none, none, none], [], hX σ) (some (.int q.1), hX q.2) := by
  unfold fX11_named_b30 at hf
  cases hf
  exact ev_rt 1 rfl
set_option maxRecDepth 20000 in
set_option maxHeartbeats 4000000 in
theorem tX11_named (d : Nat) (σ : SX) (v1 : Int32) (v2 : Int32) (v3 : Int32) (v4 : Int32) (v5 : Int32) (q : Int32 × SX) (hf : fX11_named σ v1 v2 v3 v4 v5 = some q) : ev_M ev_mt (d + 4) 106 [.ref 0, .int (v1), .int (v2), .int (v3), .int (v4), .int (v5)] (hX σ) (some (.int q.1), hX q.2) := by
  refine ev_en (rt := (some .int)) (I := eiX11_named) rfl (Nat.le_of_ble_eq_true rfl) ?_
  change ev_X (d + 3) _ _ (0, [some (.ref 0), some (.int (v1)), some (.int (v2)), some (.int (v3)), some (.int (v4)), some (.int (v5)), none, none], [], hX σ) _
  unfold fX11_named at hf
  obtain ⟨r1, hr1, hf⟩ := Option.bind_eq_some_iff.mp hf
  refine ev_clq 2 (kk := 121) (as := [.ref 0, .int (v1)]) (rest := []) (pc := 2) (ls := [some (.ref 0), some (.int (v1)), some (.int (v2)), some (.int (v3)), some (.int (v4)), some (.int (v5)), none, none]) (st := [.int (v1), .ref 0]) (h := hX σ) rfl (tX11_playerOf (d + 2) σ v1 r1 hr1) ?_
  rcases hc1 : r1 with _ | a2
  · rw [hc1] at hf
    simp only [ev_q] at hf
    change ev_X (d + 3) _ _ (5, [some (.ref 0), some (.int (v1)), some (.int (v2)), some (.int (v3)), some (.int (v4)), some (.int (v5)), none, none], [.null], hX σ) _
    cases hf
    exact ev_rt 2 rfl
  · rw [hc1] at hf
    simp only [ev_q] at hf
    change ev_X (d + 3) _ _ (5, [some (.ref 0), some (.int (v1)), some (.int (v2)), some (.int (v3)), some (.int (v4)), some (.int (v5)), none, none], [.ref a2], hX σ) _
    obtain ⟨r3, hr3, hf⟩ := Option.bind_eq_some_iff.mp hf
    refine ev_cli 4 (kk := 115) (as := [.int (v2), .int (v3), .int (v4)]) (rest := []) (pc := 15) (ls := [some (.ref 0), some (.int (v1)), some (.int (v2)), some (.int (v3)), some (.int (v4)), some (.int (v5)), none, none]) (st := [.int (v4), .int (v3), .int (v2)]) (h := hX σ) rfl (tX11_couldBeFelt (d + 1) (hX σ) v2 v3 v4 r3 hr3) ?_
    refine ev_br 0 (P := r3 = 0) (a := 30) (b := 21) (ls := [some (.ref 0), some (.int (v1)), some (.int (v2)), some (.int (v3)), some (.int (v4)), some (.int (v5)), none, none]) (st := []) (h := hX σ) rfl (fun c2 => ?_) (fun c2 => ?_)
    · rw [if_pos c2] at hf
      exact ev_dr (a := [none, none, none, none, none, none, none, none]) trivial (tX11_named_b30 d σ  _ hf)
    · rw [if_neg c2] at hf
      obtain ⟨r4, hr4, hf⟩ := Option.bind_eq_some_iff.mp hf
      refine ev_cli 2 (kk := 113) (as := [.int (v5), .int ((1 : Int32))]) (rest := []) (pc := 24) (ls := [some (.ref 0), some (.int (v1)), some (.int (v2)), some (.int (v3)), some (.int (v4)), some (.int (v5)), none, none]) (st := [.int ((1 : Int32)), .int (v5)]) (h := hX σ) rfl (tX11_isWithin (d + 2) (hX σ) v5 (1 : Int32) r4 hr4) ?_
      refine ev_br 0 (P := r4 = 0) (a := 30) (b := 33) (ls := [some (.ref 0), some (.int (v1)), some (.int (v2)), some (.int (v3)), some (.int (v4)), some (.int (v5)), none, none]) (st := []) (h := hX σ) rfl (fun c3 => ?_) (fun c3 => ?_)
      · rw [if_pos c3] at hf
        exact ev_dr (a := [none, none, none, none, none, none, none, none]) trivial (tX11_named_b30 d σ  _ hf)
      · rw [if_neg c3] at hf
        obtain ⟨r5, hr5, hf⟩ := Option.bind_eq_some_iff.mp hf
        refine ev_clv 5 (kk := 10) (as := [.ref 18, .int (v2), .int (v3), .int (v4)]) (rest := []) (pc := 41) (ls := [some (.ref 0), some (.int (v1)), some (.int (v2)), some (.int (v3)), some (.int (v4)), some (.int (v5)), none, none]) (st := [.int (v4), .int (v3), .int (v2), .ref 18]) (h := hX σ) rfl (tX3_weigh d σ v2 v3 v4 r5 hr5) ?_
        obtain ⟨r6, hr6, hf⟩ := Option.bind_eq_some_iff.mp hf
        refine ev_cll 2 (kk := 16) (as := [.ref 18]) (rest := []) (pc := 48) (ls := [some (.ref 0), some (.int (v1)), some (.int (v2)), some (.int (v3)), some (.int (v4)), some (.int (v5)), none, none]) (st := [.ref 18]) (h := hX r5) rfl (tX3_total (d + 2) r5 r6 hr6) ?_
        refine ev_bi 4 (lg_cmp_eq r6 (0 : Int64)) (a := 60) (b := 64) (ls := [some (.ref 0), some (.int (v1)), some (.int (v2)), some (.int (v3)), some (.int (v4)), some (.int (v5)), some (.long (r6)), none]) (st := []) (h := hX r5) rfl (fun c4 => ?_) (fun c4 => ?_)
        · rw [if_pos c4] at hf
          refine ev_go (c' := (80, [some (.ref 0), some (.int (v1)), some (.int (v2)), some (.int (v3)), some (.int (v4)), some (.int (v5)), some (.long (r6)), none], [.int ((-1 : Int32))], hX r5)) 1 rfl ?_
          exact ev_dr (a := [none, none, none, none, none, none, none, none]) trivial (tX11_named_b80 d r5 (-1 : Int32) _ hf)
        · rw [if_neg c4] at hf
          obtain ⟨r7, hr7, hf⟩ := Option.bind_eq_some_iff.mp hf
          refine ev_cll 3 (kk := 15) (as := [.ref 18, .int (v1)]) (rest := []) (pc := 69) (ls := [some (.ref 0), some (.int (v1)), some (.int (v2)), some (.int (v3)), some (.int (v4)), some (.int (v5)), some (.long (r6)), none]) (st := [.int (v1), .ref 18]) (h := hX r5) rfl (tX3_weightOf (d + 2) r5 v1 r7 hr7) ?_
          obtain ⟨r8, hr8, hf⟩ := Option.bind_eq_some_iff.mp hf
          refine ev_cll 2 (kk := 118) (as := [.long (r7), .long (r6), .int (v5)]) (rest := []) (pc := 76) (ls := [some (.ref 0), some (.int (v1)), some (.int (v2)), some (.int (v3)), some (.int (v4)), some (.int (v5)), some (.long (r6)), none]) (st := [.int (v5), .long (r6), .long (r7)]) (h := hX r5) rfl (tX11_term (d + 1) (hX r5) r7 r6 v5 r8 hr8) ?_
          refine ev_go (c' := (80, [some (.ref 0), some (.int (v1)), some (.int (v2)), some (.int (v3)), some (.int (v4)), some (.int (v5)), some (.long (r6)), none], [.int (r8.toInt32)], hX r5)) 0 rfl ?_
          exact ev_dr (a := [none, none, none, none, none, none, none, none]) trivial (tX11_named_b80 d r5 r8.toInt32 _ hf)
set_option maxRecDepth 20000 in
set_option maxHeartbeats 4000000 in
theorem tX11_says (d : Nat) (σ : SX) (v1 : Int32) (v2 : Int32) (v3 : Int32) (q : Int32 × SX) (hf : fX11_says σ v1 v2 v3 = some q) : ev_M ev_mt (d + 4) 107 [.ref 0, .int (v1), .int (v2), .int (v3)] (hX σ) (some (.int q.1), hX q.2) := by
  refine ev_en (rt := (some .int)) (I := eiX11_says) rfl (Nat.le_of_ble_eq_true rfl) ?_
  change ev_X (d + 3) _ _ (0, [some (.ref 0), some (.int (v1)), some (.int (v2)), some (.int (v3))], [], hX σ) _
  unfold fX11_says at hf
  obtain ⟨r1, hr1, hf⟩ := Option.bind_eq_some_iff.mp hf
  refine ev_cli 3 (kk := 115) (as := [.int (v1), .int (v2), .int (v3)]) (rest := []) (pc := 3) (ls := [some (.ref 0), some (.int (v1)), some (.int (v2)), some (.int (v3))]) (st := [.int (v3), .int (v2), .int (v1)]) (h := hX σ) rfl (tX11_couldBeFelt (d + 1) (hX σ) v1 v2 v3 r1 hr1) ?_
  refine ev_br 0 (P := r1 = 0) (a := 9) (b := 12) (ls := [some (.ref 0), some (.int (v1)), some (.int (v2)), some (.int (v3))]) (st := []) (h := hX σ) rfl (fun c1 => ?_) (fun c1 => ?_)
  · rw [if_pos c1] at hf
    cases hf
    exact ev_rt 1 rfl
  · rw [if_neg c1] at hf
    obtain ⟨r2, hr2, hf⟩ := Option.bind_eq_some_iff.mp hf
    refine ev_clv 5 (kk := 10) (as := [.ref 18, .int (v1), .int (v2), .int (v3)]) (rest := []) (pc := 19) (ls := [some (.ref 0), some (.int (v1)), some (.int (v2)), some (.int (v3))]) (st := [.int (v3), .int (v2), .int (v1), .ref 18]) (h := hX σ) rfl (tX3_weigh d σ v1 v2 v3 r2 hr2) ?_
    obtain ⟨r3, hr3, hf⟩ := Option.bind_eq_some_iff.mp hf
    refine ev_cli 2 (kk := 17) (as := [.ref 18]) (rest := []) (pc := 26) (ls := [some (.ref 0), some (.int (v1)), some (.int (v2)), some (.int (v3))]) (st := [.ref 18]) (h := hX r2) rfl (tX3_likeliestPlayer (d + 1) r2 r3 hr3) ?_
    cases hf
    exact ev_rt 0 rfl
set_option maxRecDepth 20000 in
set_option maxHeartbeats 4000000 in
theorem tX11_when_b91 (d : Nat) (σ : SX) (w0 : Int32) (q : Int32 × SX) (hf : fX11_when_b91 σ w0 = some q) : ev_X (d + 3) (some .int) eiX11_when (91, [none, none, none, none, none, none, none, none, none, none], [.int (w0)], hX σ) (some (.int q.1), hX q.2) := by
  unfold fX11_when_b91 at hf
  cases hf
  exact ev_rt 0 rfl
set_option maxRecDepth 20000 in
set_option maxHeartbeats 4000000 in
theorem tX11_when_b29 (d : Nat) (σ : SX) (q : Int32 × SX) (hf : fX11_when_b29 σ = some q) : ev_X (d + 3) (some .int) eiX11_when (29, [none, none, none, none, none, none, none, none, none, none], [], hX σ) (some (.int q.1), hX q.2) := by
  unfold fX11_when_b29 at hf
  cases hf
  exact ev_rt 1 rfl
set_option maxRecDepth 20000 in
set_option maxHeartbeats 4000000 in
theorem tX11_when (d : Nat) (σ : SX) (v1 : Int32) (v2 : Int32) (v3 : Int32) (v4 : Int32) (v5 : Int32) (q : Int32 × SX) (hf : fX11_when σ v1 v2 v3 v4 v5 = some q) : ev_M ev_mt (d + 4) 108 [.ref 0, .int (v1), .int (v2), .int (v3), .int (v4), .int (v5)] (hX σ) (some (.int q.1), hX q.2) := by
  refine ev_en (rt := (some .int)) (I := eiX11_when) rfl (Nat.le_of_ble_eq_true rfl) ?_
  change ev_X (d + 3) _ _ (0, [some (.ref 0), some (.int (v1)), some (.int (v2)), some (.int (v3)), some (.int (v4)), some (.int (v5)), none, none, none, none], [], hX σ) _
  unfold fX11_when at hf
  obtain ⟨r1, hr1, hf⟩ := Option.bind_eq_some_iff.mp hf
  refine ev_cli 3 (kk := 115) (as := [.int (v1), .int (v2), .int (v3)]) (rest := []) (pc := 3) (ls := [some (.ref 0), some (.int (v1)), some (.int (v2)), some (.int (v3)), some (.int (v4)), some (.int (v5)), none, none, none, none]) (st := [.int (v3), .int (v2), .int (v1)]) (h := hX σ) rfl (tX11_couldBeFelt (d + 1) (hX σ) v1 v2 v3 r1 hr1) ?_
  refine ev_br 0 (P := r1 = 0) (a := 29) (b := 9) (ls := [some (.ref 0), some (.int (v1)), some (.int (v2)), some (.int (v3)), some (.int (v4)), some (.int (v5)), none, none, none, none]) (st := []) (h := hX σ) rfl (fun c1 => ?_) (fun c1 => ?_)
  · rw [if_pos c1] at hf
    exact ev_dr (a := [none, none, none, none, none, none, none, none, none, none]) trivial (tX11_when_b29 d σ  _ hf)
  · rw [if_neg c1] at hf
    obtain ⟨r2, hr2, hf⟩ := Option.bind_eq_some_iff.mp hf
    refine ev_cli 2 (kk := 113) (as := [.int (v4), .int ((99 : Int32))]) (rest := []) (pc := 13) (ls := [some (.ref 0), some (.int (v1)), some (.int (v2)), some (.int (v3)), some (.int (v4)), some (.int (v5)), none, none, none, none]) (st := [.int ((99 : Int32)), .int (v4)]) (h := hX σ) rfl (tX11_isWithin (d + 2) (hX σ) v4 (99 : Int32) r2 hr2) ?_
    refine ev_br 0 (P := r2 = 0) (a := 29) (b := 19) (ls := [some (.ref 0), some (.int (v1)), some (.int (v2)), some (.int (v3)), some (.int (v4)), some (.int (v5)), none, none, none, none]) (st := []) (h := hX σ) rfl (fun c2 => ?_) (fun c2 => ?_)
    · rw [if_pos c2] at hf
      exact ev_dr (a := [none, none, none, none, none, none, none, none, none, none]) trivial (tX11_when_b29 d σ  _ hf)
    · rw [if_neg c2] at hf
      obtain ⟨r3, hr3, hf⟩ := Option.bind_eq_some_iff.mp hf
      refine ev_cli 2 (kk := 113) (as := [.int (v5), .int ((99 : Int32))]) (rest := []) (pc := 23) (ls := [some (.ref 0), some (.int (v1)), some (.int (v2)), some (.int (v3)), some (.int (v4)), some (.int (v5)), none, none, none, none]) (st := [.int ((99 : Int32)), .int (v5)]) (h := hX σ) rfl (tX11_isWithin (d + 2) (hX σ) v5 (99 : Int32) r3 hr3) ?_
      refine ev_br 0 (P := r3 = 0) (a := 29) (b := 32) (ls := [some (.ref 0), some (.int (v1)), some (.int (v2)), some (.int (v3)), some (.int (v4)), some (.int (v5)), none, none, none, none]) (st := []) (h := hX σ) rfl (fun c3 => ?_) (fun c3 => ?_)
      · rw [if_pos c3] at hf
        exact ev_dr (a := [none, none, none, none, none, none, none, none, none, none]) trivial (tX11_when_b29 d σ  _ hf)
      · rw [if_neg c3] at hf
        obtain ⟨r4, hr4, hf⟩ := Option.bind_eq_some_iff.mp hf
        refine ev_clv 5 (kk := 10) (as := [.ref 18, .int (v1), .int (v2), .int (v3)]) (rest := []) (pc := 39) (ls := [some (.ref 0), some (.int (v1)), some (.int (v2)), some (.int (v3)), some (.int (v4)), some (.int (v5)), none, none, none, none]) (st := [.int (v3), .int (v2), .int (v1), .ref 18]) (h := hX σ) rfl (tX3_weigh d σ v1 v2 v3 r4 hr4) ?_
        obtain ⟨r5, hr5, hf⟩ := Option.bind_eq_some_iff.mp hf
        refine ev_cli 4 (kk := 17) (as := [.ref 18]) (rest := [.ref 18]) (pc := 50) (ls := [some (.ref 0), some (.int (v1)), some (.int (v2)), some (.int (v3)), some (.int (v4)), some (.int (v5)), none, none, none, none]) (st := [.ref 18, .ref 18]) (h := hX r4) rfl (tX3_likeliestPlayer (d + 1) r4 r5 hr5) ?_
        obtain ⟨r6, hr6, hf⟩ := Option.bind_eq_some_iff.mp hf
        refine ev_cll 0 (kk := 15) (as := [.ref 18, .int (r5)]) (rest := []) (pc := 53) (ls := [some (.ref 0), some (.int (v1)), some (.int (v2)), some (.int (v3)), some (.int (v4)), some (.int (v5)), none, none, none, none]) (st := [.int (r5), .ref 18]) (h := hX r4) rfl (tX3_weightOf (d + 2) r4 r5 r6 hr6) ?_
        obtain ⟨r7, hr7, hf⟩ := Option.bind_eq_some_iff.mp hf
        refine ev_cll 3 (kk := 16) (as := [.ref 18]) (rest := []) (pc := 62) (ls := [some (.ref 0), some (.int (v1)), some (.int (v2)), some (.int (v3)), some (.int (v4)), some (.int (v5)), some (.long (r6)), none, none, none]) (st := [.ref 18]) (h := hX r4) rfl (tX3_total (d + 2) r4 r7 hr7) ?_
        refine ev_bi 12 (lg_cmp_gt (v4.toInt64 * r6) (v5.toInt64 * (r7 - r6))) (a := 86) (b := 90) (ls := [some (.ref 0), some (.int (v1)), some (.int (v2)), some (.int (v3)), some (.int (v4)), some (.int (v5)), some (.long (r6)), none, some (.long ((r7 - r6))), none]) (st := []) (h := hX r4) rfl (fun c4 => ?_) (fun c4 => ?_)
        · rw [if_pos c4] at hf
          refine ev_go (c' := (91, [some (.ref 0), some (.int (v1)), some (.int (v2)), some (.int (v3)), some (.int (v4)), some (.int (v5)), some (.long (r6)), none, some (.long ((r7 - r6))), none], [.int ((1 : Int32))], hX r4)) 1 rfl ?_
          exact ev_dr (a := [none, none, none, none, none, none, none, none, none, none]) trivial (tX11_when_b91 d r4 (1 : Int32) _ hf)
        · rw [if_neg c4] at hf
          refine ev_go (c' := (91, [some (.ref 0), some (.int (v1)), some (.int (v2)), some (.int (v3)), some (.int (v4)), some (.int (v5)), some (.long (r6)), none, some (.long ((r7 - r6))), none], [.int ((0 : Int32))], hX r4)) 0 rfl ?_
          exact ev_dr (a := [none, none, none, none, none, none, none, none, none, none]) trivial (tX11_when_b91 d r4 (0 : Int32) _ hf)
set_option maxRecDepth 20000 in
set_option maxHeartbeats 4000000 in
theorem tX11_image_b62 (d : Nat) (k37 : SX → Int32 → Option (Int32 × SX)) (hk37 : ∀ (σ : SX) (v3 : Int32) (q : Int32 × SX), k37 σ v3 = some q → ev_X (d + 1) (some .int) eiX11_image (37, [some (.ref 0), some (.ref 16), some (.int ((6 : Int32))), some (.int (v3)), none], [], hX σ) (some (.int q.1), hX q.2)) (σ : SX) (v3 : Int32) (q : Int32 × SX) (hf : fX11_image_b62 k37 σ v3 = some q) : ev_X (d + 1) (some .int) eiX11_image (62, [some (.ref 0), some (.ref 16), some (.int ((6 : Int32))), some (.int (v3)), none], [], hX σ) (some (.int q.1), hX q.2) := by
  unfold fX11_image_b62 at hf
  refine ev_go (c' := (37, [some (.ref 0), some (.ref 16), some (.int ((6 : Int32))), some (.int ((v3 + (1 : Int32)))), none], [], hX σ)) 1 rfl ?_
  exact ev_dr (a := [some (.ref 0), some (.ref 16), some (.int ((6 : Int32))), some (.int ((v3 + (1 : Int32)))), none]) ⟨rfl, ⟨rfl, ⟨rfl, ⟨rfl, trivial⟩⟩⟩⟩ (hk37 σ (v3 + (1 : Int32)) _ hf)
set_option maxRecDepth 20000 in
set_option maxHeartbeats 4000000 in
theorem tX11_image_b37 (d : Nat) (k37 : SX → Int32 → Option (Int32 × SX)) (hk37 : ∀ (σ : SX) (v3 : Int32) (q : Int32 × SX), k37 σ v3 = some q → ev_X (d + 1) (some .int) eiX11_image (37, [some (.ref 0), some (.ref 16), some (.int ((6 : Int32))), some (.int (v3)), none], [], hX σ) (some (.int q.1), hX q.2)) (σ : SX) (v3 : Int32) (q : Int32 × SX) (hf : fX11_image_b37 k37 σ v3 = some q) : ev_X (d + 1) (some .int) eiX11_image (37, [some (.ref 0), some (.ref 16), some (.int ((6 : Int32))), some (.int (v3)), none], [], hX σ) (some (.int q.1), hX q.2) := by
  unfold fX11_image_b37 at hf
  refine ev_br 2 (P := v3 < (6 : Int32)) (a := 42) (b := 68) (ls := [some (.ref 0), some (.ref 16), some (.int ((6 : Int32))), some (.int (v3)), none]) (st := []) (h := hX σ) rfl (fun c1 => ?_) (fun c1 => ?_)
  · rw [if_pos c1] at hf
    obtain ⟨c2, hf⟩ := ev_hp hf
    refine ev_ck 2 (P := ¬ (v3 < 0 ∨ 6 ≤ v3.toNatClampNeg)) (c' := (45, [some (.ref 0), some (.ref 16), some (.int ((6 : Int32))), some (.int (v3)), none], [va_rf (((gx_pl_arr σ) v3.toNatClampNeg))], hX σ)) rfl c2 ?_
    rcases hc3 : ((gx_pl_arr σ) v3.toNatClampNeg) with _ | a4
    · rw [hc3] at hf
      simp only [ev_q] at hf
      change ev_X (d + 1) _ _ (45, [some (.ref 0), some (.ref 16), some (.int ((6 : Int32))), some (.int (v3)), none], [.null], hX σ) _
      refine ev_go (c' := (62, [some (.ref 0), some (.ref 16), some (.int ((6 : Int32))), some (.int (v3)), some (.null)], [], hX σ)) 2 rfl ?_
      exact ev_dr (a := [some (.ref 0), some (.ref 16), some (.int ((6 : Int32))), some (.int (v3)), none]) ⟨rfl, ⟨rfl, ⟨rfl, ⟨rfl, trivial⟩⟩⟩⟩ (tX11_image_b62 d k37 hk37 σ v3 _ hf)
    · rw [hc3] at hf
      simp only [ev_q] at hf
      change ev_X (d + 1) _ _ (45, [some (.ref 0), some (.ref 16), some (.int ((6 : Int32))), some (.int (v3)), none], [.ref a4], hX σ) _
      obtain ⟨c4, hf⟩ := ev_hp hf
      refine ev_go (c' := (56, [some (.ref 0), some (.ref 16), some (.int ((6 : Int32))), some (.int (v3)), some (.ref a4)], [.ref a4, .ref a4], hX σ)) 4 rfl ?_
      refine ev_st1 (e := (56, .getfield 197, 3, 0, 0, .null, [(0, 0), (1, 0), (2, 0), (6, 0), (9, 0), (10, 0)], [663])) (c' := (59, [some (.ref 0), some (.ref 16), some (.int ((6 : Int32))), some (.int (v3)), some (.ref a4)], [.int (((gx_pl_told σ) (a4 - 20))), .ref a4], hX σ)) rfl (ox_pget0 c4) ?_
      obtain ⟨c5, hf⟩ := ev_hp hf
      refine ev_st1 (e := (59, .putfield 269, 3, 1, 0, .null, [(0, 0), (1, 0), (2, 0), (6, 0), (9, 0), (10, 0)], [665])) (c' := (62, [some (.ref 0), some (.ref 16), some (.int ((6 : Int32))), some (.int (v3)), some (.ref a4)], [], hX (sx_pl_kept σ (upd (gx_pl_kept σ) (a4 - 20) ((gx_pl_told σ) (a4 - 20)))))) rfl (ox_pput1 c5) ?_
      exact ev_dr (a := [some (.ref 0), some (.ref 16), some (.int ((6 : Int32))), some (.int (v3)), none]) ⟨rfl, ⟨rfl, ⟨rfl, ⟨rfl, trivial⟩⟩⟩⟩ (tX11_image_b62 d k37 hk37 (sx_pl_kept σ (upd (gx_pl_kept σ) (a4 - 20) ((gx_pl_told σ) (a4 - 20)))) v3 _ hf)
  · rw [if_neg c1] at hf
    refine ev_go (c' := (70, [some (.ref 0), some (.ref 16), some (.int ((6 : Int32))), some (.int (v3)), none], [.int ((1 : Int32)), .ref 0], hX σ)) 1 rfl ?_
    refine ev_st1 (e := (70, .putfield 92, 3, 9, 2, .null, [(11, 0)], [264])) (c' := (73, [some (.ref 0), some (.ref 16), some (.int ((6 : Int32))), some (.int (v3)), none], [], hX (sx_tp_imageKept σ (1 : Int32)))) rfl (oy_put_x_tp_imageKept (by decide)) ?_
    cases hf
    exact ev_rt 2 rfl
theorem tX11_image_l37 (d : Nat) : ∀ (n : Nat) (σ : SX) (v3 : Int32) (q : Int32 × SX), fX11_image_l37 n σ v3 = some q → ev_X (d + 1) (some .int) eiX11_image (37, [some (.ref 0), some (.ref 16), some (.int ((6 : Int32))), some (.int (v3)), none], [], hX σ) (some (.int q.1), hX q.2)
  | 0, _, _, _, hf => by cases hf
  | n + 1, σ, v3, q, hf => tX11_image_b37 d (fX11_image_l37 n) (fun σ v3 q h9 => tX11_image_l37 d n σ v3 q h9) σ v3 q hf
set_option maxRecDepth 20000 in
set_option maxHeartbeats 4000000 in
theorem tX11_image (d : Nat) (σ : SX) (q : Int32 × SX) (hf : fX11_image σ = some q) : ev_M ev_mt (d + 2) 109 [.ref 0] (hX σ) (some (.int q.1), hX q.2) := by
  refine ev_en (rt := (some .int)) (I := eiX11_image) rfl (Nat.le_of_ble_eq_true rfl) ?_
  change ev_X (d + 1) _ _ (0, [some (.ref 0), none, none, none, none], [], hX σ) _
  unfold fX11_image at hf
  obtain ⟨r1, hr1, hf⟩ := Option.bind_eq_some_iff.mp hf
  refine ev_cli 2 (kk := 56) (as := [.ref 3]) (rest := []) (pc := 4) (ls := [some (.ref 0), none, none, none, none]) (st := [.ref 3]) (h := hX σ) rfl (tX7_isRead d σ r1 hr1) ?_
  refine ev_br 0 (P := r1 = 0) (a := 10) (b := 13) (ls := [some (.ref 0), none, none, none, none]) (st := []) (h := hX σ) rfl (fun c1 => ?_) (fun c1 => ?_)
  · rw [if_pos c1] at hf
    cases hf
    exact ev_rt 1 rfl
  · rw [if_neg c1] at hf
    obtain ⟨r2, hr2, hf⟩ := Option.bind_eq_some_iff.mp hf
    refine ev_clv 2 (kk := 21) (as := [.ref 8]) (rest := []) (pc := 17) (ls := [some (.ref 0), none, none, none, none]) (st := [.ref 8]) (h := hX σ) rfl (tX4_keep d σ r2 hr2) ?_
    obtain ⟨r3, hr3, hf⟩ := Option.bind_eq_some_iff.mp hf
    refine ev_clv 2 (kk := 8) (as := [.ref 18]) (rest := []) (pc := 24) (ls := [some (.ref 0), none, none, none, none]) (st := [.ref 18]) (h := hX r2) rfl (tX3_keep d r2 r3 hr3) ?_
    refine ev_go (c' := (37, [some (.ref 0), some (.ref 16), some (.int ((6 : Int32))), some (.int ((0 : Int32))), none], [], hX r3)) 7 rfl ?_
    exact ev_dr (a := [some (.ref 0), some (.ref 16), some (.int ((6 : Int32))), some (.int ((0 : Int32))), none]) ⟨rfl, ⟨rfl, ⟨rfl, ⟨rfl, trivial⟩⟩⟩⟩ (tX11_image_l37 d 1000 r3 (0 : Int32) _ hf)
set_option maxRecDepth 20000 in
set_option maxHeartbeats 4000000 in
theorem tX11_restore_b68 (d : Nat) (k34 : SX → Int32 → Option (Int32 × SX)) (hk34 : ∀ (σ : SX) (v3 : Int32) (q : Int32 × SX), k34 σ v3 = some q → ev_X (d + 2) (some .int) eiX11_restore (34, [some (.ref 0), some (.ref 16), some (.int ((6 : Int32))), some (.int (v3)), none], [], hX σ) (some (.int q.1), hX q.2)) (σ : SX) (v3 : Int32) (q : Int32 × SX) (hf : fX11_restore_b68 k34 σ v3 = some q) : ev_X (d + 2) (some .int) eiX11_restore (68, [some (.ref 0), some (.ref 16), some (.int ((6 : Int32))), some (.int (v3)), none], [], hX σ) (some (.int q.1), hX q.2) := by
  unfold fX11_restore_b68 at hf
  refine ev_go (c' := (34, [some (.ref 0), some (.ref 16), some (.int ((6 : Int32))), some (.int ((v3 + (1 : Int32)))), none], [], hX σ)) 1 rfl ?_
  exact ev_dr (a := [some (.ref 0), some (.ref 16), some (.int ((6 : Int32))), some (.int ((v3 + (1 : Int32)))), none]) ⟨rfl, ⟨rfl, ⟨rfl, ⟨rfl, trivial⟩⟩⟩⟩ (hk34 σ (v3 + (1 : Int32)) _ hf)
set_option maxRecDepth 20000 in
set_option maxHeartbeats 4000000 in
theorem tX11_restore_b34 (d : Nat) (k34 : SX → Int32 → Option (Int32 × SX)) (hk34 : ∀ (σ : SX) (v3 : Int32) (q : Int32 × SX), k34 σ v3 = some q → ev_X (d + 2) (some .int) eiX11_restore (34, [some (.ref 0), some (.ref 16), some (.int ((6 : Int32))), some (.int (v3)), none], [], hX σ) (some (.int q.1), hX q.2)) (σ : SX) (v3 : Int32) (q : Int32 × SX) (hf : fX11_restore_b34 k34 σ v3 = some q) : ev_X (d + 2) (some .int) eiX11_restore (34, [some (.ref 0), some (.ref 16), some (.int ((6 : Int32))), some (.int (v3)), none], [], hX σ) (some (.int q.1), hX q.2) := by
  unfold fX11_restore_b34 at hf
  refine ev_br 2 (P := v3 < (6 : Int32)) (a := 39) (b := 74) (ls := [some (.ref 0), some (.ref 16), some (.int ((6 : Int32))), some (.int (v3)), none]) (st := []) (h := hX σ) rfl (fun c1 => ?_) (fun c1 => ?_)
  · rw [if_pos c1] at hf
    obtain ⟨c2, hf⟩ := ev_hp hf
    refine ev_ck 2 (P := ¬ (v3 < 0 ∨ 6 ≤ v3.toNatClampNeg)) (c' := (42, [some (.ref 0), some (.ref 16), some (.int ((6 : Int32))), some (.int (v3)), none], [va_rf (((gx_pl_arr σ) v3.toNatClampNeg))], hX σ)) rfl c2 ?_
    rcases hc3 : ((gx_pl_arr σ) v3.toNatClampNeg) with _ | a3
    · rw [hc3] at hf
      simp only [ev_q] at hf
      change ev_X (d + 2) _ _ (42, [some (.ref 0), some (.ref 16), some (.int ((6 : Int32))), some (.int (v3)), none], [.null], hX σ) _
      refine ev_go (c' := (68, [some (.ref 0), some (.ref 16), some (.int ((6 : Int32))), some (.int (v3)), some (.null)], [], hX σ)) 2 rfl ?_
      exact ev_dr (a := [some (.ref 0), some (.ref 16), some (.int ((6 : Int32))), some (.int (v3)), none]) ⟨rfl, ⟨rfl, ⟨rfl, ⟨rfl, trivial⟩⟩⟩⟩ (tX11_restore_b68 d k34 hk34 σ v3 _ hf)
    · rw [hc3] at hf
      simp only [ev_q] at hf
      change ev_X (d + 2) _ _ (42, [some (.ref 0), some (.ref 16), some (.int ((6 : Int32))), some (.int (v3)), none], [.ref a3], hX σ) _
      obtain ⟨c4, hf⟩ := ev_hp hf
      refine ev_go (c' := (51, [some (.ref 0), some (.ref 16), some (.int ((6 : Int32))), some (.int (v3)), some (.ref a3)], [.ref a3], hX σ)) 3 rfl ?_
      refine ev_st1 (e := (51, .getfield 269, 3, 1, 0, .null, [(0, 0), (1, 0), (2, 0), (6, 0), (9, 0), (10, 0)], [665])) (c' := (54, [some (.ref 0), some (.ref 16), some (.int ((6 : Int32))), some (.int (v3)), some (.ref a3)], [.int (((gx_pl_kept σ) (a3 - 20)))], hX σ)) rfl (ox_pget1 c4) ?_
      refine ev_br 1 (P := ((gx_pl_kept σ) (a3 - 20)) = (-1 : Int32)) (a := 68) (b := 58) (ls := [some (.ref 0), some (.ref 16), some (.int ((6 : Int32))), some (.int (v3)), some (.ref a3)]) (st := []) (h := hX σ) rfl (fun c5 => ?_) (fun c5 => ?_)
      · rw [if_pos c5] at hf
        exact ev_dr (a := [some (.ref 0), some (.ref 16), some (.int ((6 : Int32))), some (.int (v3)), none]) ⟨rfl, ⟨rfl, ⟨rfl, ⟨rfl, trivial⟩⟩⟩⟩ (tX11_restore_b68 d k34 hk34 σ v3 _ hf)
      · rw [if_neg c5] at hf
        obtain ⟨c6, hf⟩ := ev_hp hf
        refine ev_go (c' := (62, [some (.ref 0), some (.ref 16), some (.int ((6 : Int32))), some (.int (v3)), some (.ref a3)], [.ref a3, .ref a3], hX σ)) 1 rfl ?_
        refine ev_st1 (e := (62, .getfield 269, 3, 1, 0, .null, [(0, 0), (1, 0), (2, 0), (6, 0), (9, 0), (10, 0)], [665])) (c' := (65, [some (.ref 0), some (.ref 16), some (.int ((6 : Int32))), some (.int (v3)), some (.ref a3)], [.int (((gx_pl_kept σ) (a3 - 20))), .ref a3], hX σ)) rfl (ox_pget1 c6) ?_
        obtain ⟨c7, hf⟩ := ev_hp hf
        refine ev_st1 (e := (65, .putfield 197, 3, 0, 0, .null, [(0, 0), (1, 0), (2, 0), (6, 0), (9, 0), (10, 0)], [663])) (c' := (68, [some (.ref 0), some (.ref 16), some (.int ((6 : Int32))), some (.int (v3)), some (.ref a3)], [], hX (sx_pl_told σ (upd (gx_pl_told σ) (a3 - 20) ((gx_pl_kept σ) (a3 - 20)))))) rfl (ox_pput0 c7) ?_
        exact ev_dr (a := [some (.ref 0), some (.ref 16), some (.int ((6 : Int32))), some (.int (v3)), none]) ⟨rfl, ⟨rfl, ⟨rfl, ⟨rfl, trivial⟩⟩⟩⟩ (tX11_restore_b68 d k34 hk34 (sx_pl_told σ (upd (gx_pl_told σ) (a3 - 20) ((gx_pl_kept σ) (a3 - 20)))) v3 _ hf)
  · rw [if_neg c1] at hf
    cases hf
    exact ev_rt 2 rfl
theorem tX11_restore_l34 (d : Nat) : ∀ (n : Nat) (σ : SX) (v3 : Int32) (q : Int32 × SX), fX11_restore_l34 n σ v3 = some q → ev_X (d + 2) (some .int) eiX11_restore (34, [some (.ref 0), some (.ref 16), some (.int ((6 : Int32))), some (.int (v3)), none], [], hX σ) (some (.int q.1), hX q.2)
  | 0, _, _, _, hf => by cases hf
  | n + 1, σ, v3, q, hf => tX11_restore_b34 d (fX11_restore_l34 n) (fun σ v3 q h9 => tX11_restore_l34 d n σ v3 q h9) σ v3 q hf
set_option maxRecDepth 20000 in
set_option maxHeartbeats 4000000 in
theorem tX11_restore (d : Nat) (σ : SX) (q : Int32 × SX) (hf : fX11_restore σ = some q) : ev_M ev_mt (d + 3) 110 [.ref 0] (hX σ) (some (.int q.1), hX q.2) := by
  refine ev_en (rt := (some .int)) (I := eiX11_restore) rfl (Nat.le_of_ble_eq_true rfl) ?_
  change ev_X (d + 2) _ _ (0, [some (.ref 0), none, none, none, none], [], hX σ) _
  unfold fX11_restore at hf
  refine ev_br 2 (P := (gx_tp_imageKept σ) = 0) (a := 7) (b := 10) (ls := [some (.ref 0), none, none, none, none]) (st := []) (h := hX σ) rfl (fun c1 => ?_) (fun c1 => ?_)
  · rw [if_pos c1] at hf
    cases hf
    exact ev_rt 1 rfl
  · rw [if_neg c1] at hf
    obtain ⟨r1, hr1, hf⟩ := Option.bind_eq_some_iff.mp hf
    refine ev_clv 2 (kk := 22) (as := [.ref 8]) (rest := []) (pc := 14) (ls := [some (.ref 0), none, none, none, none]) (st := [.ref 8]) (h := hX σ) rfl (tX4_takeKept (d + 1) σ r1 hr1) ?_
    obtain ⟨r2, hr2, hf⟩ := Option.bind_eq_some_iff.mp hf
    refine ev_clv 2 (kk := 9) (as := [.ref 18]) (rest := []) (pc := 21) (ls := [some (.ref 0), none, none, none, none]) (st := [.ref 18]) (h := hX r1) rfl (tX3_takeKept d r1 r2 hr2) ?_
    refine ev_go (c' := (34, [some (.ref 0), some (.ref 16), some (.int ((6 : Int32))), some (.int ((0 : Int32))), none], [], hX r2)) 7 rfl ?_
    exact ev_dr (a := [some (.ref 0), some (.ref 16), some (.int ((6 : Int32))), some (.int ((0 : Int32))), none]) ⟨rfl, ⟨rfl, ⟨rfl, ⟨rfl, trivial⟩⟩⟩⟩ (tX11_restore_l34 d 1000 r2 (0 : Int32) _ hf)
set_option maxRecDepth 20000 in
set_option maxHeartbeats 4000000 in
theorem tX11_count (d : Nat) (σ : SX) (v1 : Int32) (q : Int32) (hf : fX11_count σ v1 = some q) : ev_M ev_mt (d + 2) 111 [.ref 0, .int (v1)] (hX σ) (some (.int q), hX σ) := by
  refine ev_en (rt := (some .int)) (I := eiX11_count) rfl (Nat.le_of_ble_eq_true rfl) ?_
  change ev_X (d + 1) _ _ (0, [some (.ref 0), some (.int (v1))], [], hX σ) _
  unfold fX11_count at hf
  refine ev_go (c' := (ev_sw [(0, 48), (1, 56), (2, 64), (3, 69), (4, 77), (5, 85), (6, 93), (7, 98)] v1 103, [some (.ref 0), some (.int (v1))], [], hX σ)) 1 rfl ?_
  by_cases c1 : v1 = (0 : Int32)
  · rw [if_pos c1] at hf
    have hs : ev_sw [(0, 48), (1, 56), (2, 64), (3, 69), (4, 77), (5, 85), (6, 93), (7, 98)] v1 103 = 48 := if_pos c1
    rw [hs]
    cases hf
    exact ev_rt 3 rfl
  rw [if_neg c1] at hf
  by_cases c2 : v1 = (1 : Int32)
  · rw [if_pos c2] at hf
    have hs : ev_sw [(0, 48), (1, 56), (2, 64), (3, 69), (4, 77), (5, 85), (6, 93), (7, 98)] v1 103 = 56 := (if_neg c1).trans (if_pos c2)
    rw [hs]
    cases hf
    exact ev_rt 3 rfl
  rw [if_neg c2] at hf
  by_cases c3 : v1 = (2 : Int32)
  · rw [if_pos c3] at hf
    have hs : ev_sw [(0, 48), (1, 56), (2, 64), (3, 69), (4, 77), (5, 85), (6, 93), (7, 98)] v1 103 = 64 := (if_neg c1).trans ((if_neg c2).trans (if_pos c3))
    rw [hs]
    cases hf
    exact ev_rt 2 rfl
  rw [if_neg c3] at hf
  by_cases c4 : v1 = (3 : Int32)
  · rw [if_pos c4] at hf
    have hs : ev_sw [(0, 48), (1, 56), (2, 64), (3, 69), (4, 77), (5, 85), (6, 93), (7, 98)] v1 103 = 69 := (if_neg c1).trans ((if_neg c2).trans ((if_neg c3).trans (if_pos c4)))
    rw [hs]
    cases hf
    exact ev_rt 3 rfl
  rw [if_neg c4] at hf
  by_cases c5 : v1 = (4 : Int32)
  · rw [if_pos c5] at hf
    have hs : ev_sw [(0, 48), (1, 56), (2, 64), (3, 69), (4, 77), (5, 85), (6, 93), (7, 98)] v1 103 = 77 := (if_neg c1).trans ((if_neg c2).trans ((if_neg c3).trans ((if_neg c4).trans (if_pos c5))))
    rw [hs]
    obtain ⟨r1, hr1, hf⟩ := Option.bind_eq_some_iff.mp hf
    refine ev_cli 2 (kk := 23) (as := [.ref 8]) (rest := []) (pc := 81) (ls := [some (.ref 0), some (.int (v1))]) (st := [.ref 8]) (h := hX σ) rfl (tX4_aboveNought d σ r1 hr1) ?_
    cases hf
    exact ev_rt 0 rfl
  rw [if_neg c5] at hf
  by_cases c6 : v1 = (5 : Int32)
  · rw [if_pos c6] at hf
    have hs : ev_sw [(0, 48), (1, 56), (2, 64), (3, 69), (4, 77), (5, 85), (6, 93), (7, 98)] v1 103 = 85 := (if_neg c1).trans ((if_neg c2).trans ((if_neg c3).trans ((if_neg c4).trans ((if_neg c5).trans (if_pos c6)))))
    rw [hs]
    cases hf
    exact ev_rt 3 rfl
  rw [if_neg c6] at hf
  by_cases c7 : v1 = (6 : Int32)
  · rw [if_pos c7] at hf
    have hs : ev_sw [(0, 48), (1, 56), (2, 64), (3, 69), (4, 77), (5, 85), (6, 93), (7, 98)] v1 103 = 93 := (if_neg c1).trans ((if_neg c2).trans ((if_neg c3).trans ((if_neg c4).trans ((if_neg c5).trans ((if_neg c6).trans (if_pos c7))))))
    rw [hs]
    cases hf
    exact ev_rt 2 rfl
  rw [if_neg c7] at hf
  by_cases c8 : v1 = (7 : Int32)
  · rw [if_pos c8] at hf
    have hs : ev_sw [(0, 48), (1, 56), (2, 64), (3, 69), (4, 77), (5, 85), (6, 93), (7, 98)] v1 103 = 98 := (if_neg c1).trans ((if_neg c2).trans ((if_neg c3).trans ((if_neg c4).trans ((if_neg c5).trans ((if_neg c6).trans ((if_neg c7).trans (if_pos c8)))))))
    rw [hs]
    cases hf
    exact ev_rt 2 rfl
  rw [if_neg c8] at hf
  have hs : ev_sw [(0, 48), (1, 56), (2, 64), (3, 69), (4, 77), (5, 85), (6, 93), (7, 98)] v1 103 = 103 := (if_neg c1).trans ((if_neg c2).trans ((if_neg c3).trans ((if_neg c4).trans ((if_neg c5).trans ((if_neg c6).trans ((if_neg c7).trans ((if_neg c8).trans (rfl))))))))
  rw [hs]
  cases hf
  exact ev_rt 1 rfl
set_option maxRecDepth 20000 in
set_option maxHeartbeats 4000000 in
theorem tX11_digest_b161 (d : Nat) (k161 : SX → Int64 → Int32 → Option (Int64 × SX)) (hk161 : ∀ (σ : SX) (v1 : Int64) (v3 : Int32) (q : Int64 × SX), k161 σ v1 v3 = some q → ev_X (d + 5) (some .long) eiX11_digest (161, [some (.ref 0), some (.long (v1)), none, some (.int (v3)), none, none, none, none], [], hX σ) (some (.long q.1), hX q.2)) (σ : SX) (v1 : Int64) (v3 : Int32) (q : Int64 × SX) (hf : fX11_digest_b161 k161 σ v1 v3 = some q) : ev_X (d + 5) (some .long) eiX11_digest (161, [some (.ref 0), some (.long (v1)), none, some (.int (v3)), none, none, none, none], [], hX σ) (some (.long q.1), hX q.2) := by
  unfold fX11_digest_b161 at hf
  refine ev_br 2 (P := (7 : Int32) < v3) (a := 184) (b := 167) (ls := [some (.ref 0), some (.long (v1)), none, some (.int (v3)), none, none, none, none]) (st := []) (h := hX σ) rfl (fun c1 => ?_) (fun c1 => ?_)
  · rw [if_pos c1] at hf
    cases hf
    exact ev_rt 1 rfl
  · rw [if_neg c1] at hf
    obtain ⟨r3, hr3, hf⟩ := Option.bind_eq_some_iff.mp hf
    refine ev_cli 3 (kk := 111) (as := [.ref 0, .int (v3)]) (rest := [.long (v1)]) (pc := 170) (ls := [some (.ref 0), some (.long (v1)), none, some (.int (v3)), none, none, none, none]) (st := [.int (v3), .ref 0, .long (v1)]) (h := hX σ) rfl (tX11_count (d + 3) σ v3 r3 hr3) ?_
    obtain ⟨r4, hr4, hf⟩ := Option.bind_eq_some_iff.mp hf
    refine ev_cll 1 (kk := 116) (as := [.long (v1), .long (r3.toInt64)]) (rest := []) (pc := 174) (ls := [some (.ref 0), some (.long (v1)), none, some (.int (v3)), none, none, none, none]) (st := [.long (r3.toInt64), .long (v1)]) (h := hX σ) rfl (tX11_mixed (d + 4) (hX σ) v1 r3.toInt64 r4 hr4) ?_
    refine ev_go (c' := (161, [some (.ref 0), some (.long (r4)), none, some (.int ((v3 + (1 : Int32)))), none, none, none, none], [], hX σ)) 2 rfl ?_
    exact ev_dr (a := [some (.ref 0), some (.long (r4)), none, some (.int ((v3 + (1 : Int32)))), none, none, none, none]) ⟨rfl, ⟨rfl, ⟨rfl, trivial⟩⟩⟩ (hk161 σ r4 (v3 + (1 : Int32)) _ hf)
theorem tX11_digest_l161 (d : Nat) : ∀ (n : Nat) (σ : SX) (v1 : Int64) (v3 : Int32) (q : Int64 × SX), fX11_digest_l161 n σ v1 v3 = some q → ev_X (d + 5) (some .long) eiX11_digest (161, [some (.ref 0), some (.long (v1)), none, some (.int (v3)), none, none, none, none], [], hX σ) (some (.long q.1), hX q.2)
  | 0, _, _, _, _, hf => by cases hf
  | n + 1, σ, v1, v3, q, hf => tX11_digest_b161 d (fX11_digest_l161 n) (fun σ v1 v3 q h9 => tX11_digest_l161 d n σ v1 v3 q h9) σ v1 v3 q hf
set_option maxRecDepth 20000 in
set_option maxHeartbeats 4000000 in
theorem tX11_digest_b150 (d : Nat) (σ : SX) (v1 : Int64) (q : Int64 × SX) (hf : fX11_digest_b150 σ v1 = some q) : ev_X (d + 5) (some .long) eiX11_digest (150, [some (.ref 0), some (.long (v1)), none, none, none, none, none, none], [], hX σ) (some (.long q.1), hX q.2) := by
  unfold fX11_digest_b150 at hf
  obtain ⟨r5, hr5, hf⟩ := Option.bind_eq_some_iff.mp hf
  refine ev_cll 3 (kk := 47) (as := [.ref 1, .long (v1)]) (rest := []) (pc := 155) (ls := [some (.ref 0), some (.long (v1)), none, none, none, none, none, none]) (st := [.long (v1), .ref 1]) (h := hX σ) rfl (tX5_mixInto (d + 3) σ v1 r5 hr5) ?_
  refine ev_go (c' := (161, [some (.ref 0), some (.long (r5)), none, some (.int ((0 : Int32))), none, none, none, none], [], hX σ)) 2 rfl ?_
  exact ev_dr (a := [some (.ref 0), some (.long (r5)), none, some (.int ((0 : Int32))), none, none, none, none]) ⟨rfl, ⟨rfl, ⟨rfl, trivial⟩⟩⟩ (tX11_digest_l161 d 1000 σ r5 (0 : Int32) _ hf)
set_option maxRecDepth 20000 in
set_option maxHeartbeats 4000000 in
theorem tX11_digest_b76 (d : Nat) (k30 : SX → Int64 → Int32 → Option (Int64 × SX)) (hk30 : ∀ (σ : SX) (v1 : Int64) (v5 : Int32) (q : Int64 × SX), k30 σ v1 v5 = some q → ev_X (d + 5) (some .long) eiX11_digest (30, [some (.ref 0), some (.long (v1)), none, some (.ref 16), some (.int ((6 : Int32))), some (.int (v5)), none, none], [], hX σ) (some (.long q.1), hX q.2)) (σ : SX) (v1 : Int64) (v5 : Int32) (q : Int64 × SX) (hf : fX11_digest_b76 k30 σ v1 v5 = some q) : ev_X (d + 5) (some .long) eiX11_digest (76, [some (.ref 0), some (.long (v1)), none, some (.ref 16), some (.int ((6 : Int32))), some (.int (v5)), none, none], [], hX σ) (some (.long q.1), hX q.2) := by
  unfold fX11_digest_b76 at hf
  refine ev_go (c' := (30, [some (.ref 0), some (.long (v1)), none, some (.ref 16), some (.int ((6 : Int32))), some (.int ((v5 + (1 : Int32)))), none, none], [], hX σ)) 1 rfl ?_
  exact ev_dr (a := [some (.ref 0), some (.long (v1)), none, some (.ref 16), some (.int ((6 : Int32))), some (.int ((v5 + (1 : Int32)))), none, none]) ⟨rfl, ⟨rfl, ⟨rfl, ⟨rfl, ⟨rfl, trivial⟩⟩⟩⟩⟩ (hk30 σ v1 (v5 + (1 : Int32)) _ hf)
set_option maxRecDepth 20000 in
set_option maxHeartbeats 4000000 in
theorem tX11_digest_b46 (d : Nat) (k30 : SX → Int64 → Int32 → Option (Int64 × SX)) (hk30 : ∀ (σ : SX) (v1 : Int64) (v5 : Int32) (q : Int64 × SX), k30 σ v1 v5 = some q → ev_X (d + 5) (some .long) eiX11_digest (30, [some (.ref 0), some (.long (v1)), none, some (.ref 16), some (.int ((6 : Int32))), some (.int (v5)), none, none], [], hX σ) (some (.long q.1), hX q.2)) (k46 : SX → Int64 → Int32 → (Option Nat) → Int32 → Option (Int64 × SX)) (hk46 : ∀ (σ : SX) (v1 : Int64) (v5 : Int32) (v6 : Option Nat) (v7 : Int32) (q : Int64 × SX), k46 σ v1 v5 v6 v7 = some q → ev_X (d + 5) (some .long) eiX11_digest (46, [some (.ref 0), some (.long (v1)), none, some (.ref 16), some (.int ((6 : Int32))), some (.int (v5)), some (va_rf (v6)), some (.int (v7))], [], hX σ) (some (.long q.1), hX q.2)) (σ : SX) (v1 : Int64) (v5 : Int32) (v6 : Option Nat) (v7 : Int32) (q : Int64 × SX) (hf : fX11_digest_b46 k30 k46 σ v1 v5 v6 v7 = some q) : ev_X (d + 5) (some .long) eiX11_digest (46, [some (.ref 0), some (.long (v1)), none, some (.ref 16), some (.int ((6 : Int32))), some (.int (v5)), some (va_rf (v6)), some (.int (v7))], [], hX σ) (some (.long q.1), hX q.2) := by
  unfold fX11_digest_b46 at hf
  rcases hc1 : v6 with _ | a6
  · rw [hc1] at hf
    simp only [ev_q] at hf
    change ev_X (d + 5) _ _ (46, [some (.ref 0), some (.long (v1)), none, some (.ref 16), some (.int ((6 : Int32))), some (.int (v5)), some (.null), some (.int (v7))], [], hX σ) _
    refine ev_go (c' := (76, [some (.ref 0), some (.long (v1)), none, some (.ref 16), some (.int ((6 : Int32))), some (.int (v5)), some (.null), some (.int (v7))], [], hX σ)) 1 rfl ?_
    exact ev_dr (a := [some (.ref 0), some (.long (v1)), none, some (.ref 16), some (.int ((6 : Int32))), some (.int (v5)), none, none]) ⟨rfl, ⟨rfl, ⟨rfl, ⟨rfl, ⟨rfl, trivial⟩⟩⟩⟩⟩ (tX11_digest_b76 d k30 hk30 σ v1 v5 _ hf)
  · rw [hc1] at hf
    simp only [ev_q] at hf
    change ev_X (d + 5) _ _ (46, [some (.ref 0), some (.long (v1)), none, some (.ref 16), some (.int ((6 : Int32))), some (.int (v5)), some (.ref a6), some (.int (v7))], [], hX σ) _
    refine ev_br 4 (P := (4 : Int32) < v7) (a := 76) (b := 57) (ls := [some (.ref 0), some (.long (v1)), none, some (.ref 16), some (.int ((6 : Int32))), some (.int (v5)), some (.ref a6), some (.int (v7))]) (st := []) (h := hX σ) rfl (fun c2 => ?_) (fun c2 => ?_)
    · rw [if_pos c2] at hf
      exact ev_dr (a := [some (.ref 0), some (.long (v1)), none, some (.ref 16), some (.int ((6 : Int32))), some (.int (v5)), none, none]) ⟨rfl, ⟨rfl, ⟨rfl, ⟨rfl, ⟨rfl, trivial⟩⟩⟩⟩⟩ (tX11_digest_b76 d k30 hk30 σ v1 v5 _ hf)
    · rw [if_neg c2] at hf
      obtain ⟨c3, hf⟩ := ev_hp hf
      obtain ⟨r7, hr7, hf⟩ := Option.bind_eq_some_iff.mp hf
      refine ev_go (c' := (62, [some (.ref 0), some (.long (v1)), none, some (.ref 16), some (.int ((6 : Int32))), some (.int (v5)), some (.ref a6), some (.int (v7))], [.int (v7), .ref a6, .long (v1)], hX σ)) 2 rfl ?_
      obtain ⟨kk, hk, hm⟩ := dt_detail (d + 3) σ a6 v7 r7 (ox_kd c3) hr7
      refine ev_cl1 (e := (62, .invokevirtual 214, 3, 1, 0, .null, [(0, 52), (1, 52), (2, 52), (6, 52), (9, 52), (10, 52)], [773, 776, 777, 774, 71, 0, 0, 0, 773, 776, 778, 774, 71, 0, 0, 0, 773, 776, 779, 774, 71, 0, 0, 0, 773, 774, 775, 71, 0, 0, 0, 0, 773, 776, 780, 774, 71, 0, 0, 0, 773, 776, 781, 774, 71, 0, 0, 0])) rfl (ox_inv1 (ev_cat_ok := Nat.le_of_ble_eq_true rfl) c3 hk) hm ?_
      change ev_X (d + 5) _ _ (65, [some (.ref 0), some (.long (v1)), none, some (.ref 16), some (.int ((6 : Int32))), some (.int (v5)), some (.ref a6), some (.int (v7))], [.int (r7), .long (v1)], hX σ) _
      obtain ⟨r8, hr8, hf⟩ := Option.bind_eq_some_iff.mp hf
      refine ev_cll 1 (kk := 116) (as := [.long (v1), .long (r7.toInt64)]) (rest := []) (pc := 66) (ls := [some (.ref 0), some (.long (v1)), none, some (.ref 16), some (.int ((6 : Int32))), some (.int (v5)), some (.ref a6), some (.int (v7))]) (st := [.long (r7.toInt64), .long (v1)]) (h := hX σ) rfl (tX11_mixed (d + 4) (hX σ) v1 r7.toInt64 r8 hr8) ?_
      refine ev_go (c' := (46, [some (.ref 0), some (.long (r8)), none, some (.ref 16), some (.int ((6 : Int32))), some (.int (v5)), some (.ref a6), some (.int ((v7 + (1 : Int32))))], [], hX σ)) 2 rfl ?_
      exact ev_dr (a := [some (.ref 0), some (.long (r8)), none, some (.ref 16), some (.int ((6 : Int32))), some (.int (v5)), some (.ref a6), some (.int ((v7 + (1 : Int32))))]) ⟨rfl, ⟨rfl, ⟨rfl, ⟨rfl, ⟨rfl, ⟨rfl, ⟨rfl, trivial⟩⟩⟩⟩⟩⟩⟩ (hk46 σ r8 v5 (some a6) (v7 + (1 : Int32)) _ hf)
theorem tX11_digest_l46 (d : Nat) (k30 : SX → Int64 → Int32 → Option (Int64 × SX)) (hk30 : ∀ (σ : SX) (v1 : Int64) (v5 : Int32) (q : Int64 × SX), k30 σ v1 v5 = some q → ev_X (d + 5) (some .long) eiX11_digest (30, [some (.ref 0), some (.long (v1)), none, some (.ref 16), some (.int ((6 : Int32))), some (.int (v5)), none, none], [], hX σ) (some (.long q.1), hX q.2)) : ∀ (n : Nat) (σ : SX) (v1 : Int64) (v5 : Int32) (v6 : Option Nat) (v7 : Int32) (q : Int64 × SX), fX11_digest_l46 k30 n σ v1 v5 v6 v7 = some q → ev_X (d + 5) (some .long) eiX11_digest (46, [some (.ref 0), some (.long (v1)), none, some (.ref 16), some (.int ((6 : Int32))), some (.int (v5)), some (va_rf (v6)), some (.int (v7))], [], hX σ) (some (.long q.1), hX q.2)
  | 0, _, _, _, _, _, _, hf => by cases hf
  | n + 1, σ, v1, v5, v6, v7, q, hf => tX11_digest_b46 d k30 hk30 (fX11_digest_l46 k30 n) (fun σ v1 v5 v6 v7 q h9 => tX11_digest_l46 d k30 hk30 n σ v1 v5 v6 v7 q h9) σ v1 v5 v6 v7 q hf
set_option maxRecDepth 20000 in
set_option maxHeartbeats 4000000 in
theorem tX11_digest_b30 (d : Nat) (k30 : SX → Int64 → Int32 → Option (Int64 × SX)) (hk30 : ∀ (σ : SX) (v1 : Int64) (v5 : Int32) (q : Int64 × SX), k30 σ v1 v5 = some q → ev_X (d + 5) (some .long) eiX11_digest (30, [some (.ref 0), some (.long (v1)), none, some (.ref 16), some (.int ((6 : Int32))), some (.int (v5)), none, none], [], hX σ) (some (.long q.1), hX q.2)) (σ : SX) (v1 : Int64) (v5 : Int32) (q : Int64 × SX) (hf : fX11_digest_b30 k30 σ v1 v5 = some q) : ev_X (d + 5) (some .long) eiX11_digest (30, [some (.ref 0), some (.long (v1)), none, some (.ref 16), some (.int ((6 : Int32))), some (.int (v5)), none, none], [], hX σ) (some (.long q.1), hX q.2) := by
  unfold fX11_digest_b30 at hf
  refine ev_br 2 (P := v5 < (6 : Int32)) (a := 37) (b := 82) (ls := [some (.ref 0), some (.long (v1)), none, some (.ref 16), some (.int ((6 : Int32))), some (.int (v5)), none, none]) (st := []) (h := hX σ) rfl (fun c1 => ?_) (fun c1 => ?_)
  · rw [if_pos c1] at hf
    obtain ⟨c2, hf⟩ := ev_hp hf
    refine ev_ck 2 (P := ¬ (v5 < 0 ∨ 6 ≤ v5.toNatClampNeg)) (c' := (41, [some (.ref 0), some (.long (v1)), none, some (.ref 16), some (.int ((6 : Int32))), some (.int (v5)), none, none], [va_rf (((gx_pl_arr σ) v5.toNatClampNeg))], hX σ)) rfl c2 ?_
    rcases hc3 : ((gx_pl_arr σ) v5.toNatClampNeg) with _ | a9
    · rw [hc3] at hf
      simp only [ev_q] at hf
      change ev_X (d + 5) _ _ (41, [some (.ref 0), some (.long (v1)), none, some (.ref 16), some (.int ((6 : Int32))), some (.int (v5)), none, none], [.null], hX σ) _
      refine ev_go (c' := (46, [some (.ref 0), some (.long (v1)), none, some (.ref 16), some (.int ((6 : Int32))), some (.int (v5)), some (.null), some (.int ((0 : Int32)))], [], hX σ)) 2 rfl ?_
      exact ev_dr (a := [some (.ref 0), some (.long (v1)), none, some (.ref 16), some (.int ((6 : Int32))), some (.int (v5)), some (.null), some (.int ((0 : Int32)))]) ⟨rfl, ⟨rfl, ⟨rfl, ⟨rfl, ⟨rfl, ⟨rfl, ⟨rfl, trivial⟩⟩⟩⟩⟩⟩⟩ (tX11_digest_l46 d k30 hk30 1000 σ v1 v5 none (0 : Int32) _ hf)
    · rw [hc3] at hf
      simp only [ev_q] at hf
      change ev_X (d + 5) _ _ (41, [some (.ref 0), some (.long (v1)), none, some (.ref 16), some (.int ((6 : Int32))), some (.int (v5)), none, none], [.ref a9], hX σ) _
      refine ev_go (c' := (46, [some (.ref 0), some (.long (v1)), none, some (.ref 16), some (.int ((6 : Int32))), some (.int (v5)), some (.ref a9), some (.int ((0 : Int32)))], [], hX σ)) 2 rfl ?_
      exact ev_dr (a := [some (.ref 0), some (.long (v1)), none, some (.ref 16), some (.int ((6 : Int32))), some (.int (v5)), some (.ref a9), some (.int ((0 : Int32)))]) ⟨rfl, ⟨rfl, ⟨rfl, ⟨rfl, ⟨rfl, ⟨rfl, ⟨rfl, trivial⟩⟩⟩⟩⟩⟩⟩ (tX11_digest_l46 d k30 hk30 1000 σ v1 v5 (some a9) (0 : Int32) _ hf)
  · rw [if_neg c1] at hf
    obtain ⟨r10, hr10, hf⟩ := Option.bind_eq_some_iff.mp hf
    refine ev_cll 3 (kk := 18) (as := [.ref 18, .long (v1)]) (rest := []) (pc := 87) (ls := [some (.ref 0), some (.long (v1)), none, some (.ref 16), some (.int ((6 : Int32))), some (.int (v5)), none, none]) (st := [.long (v1), .ref 18]) (h := hX σ) rfl (tX3_mixInto (d + 3) σ v1 r10 hr10) ?_
    refine ev_br 3 (P := 0 < (gx_tp_playing σ)) (a := 98) (b := 150) (ls := [some (.ref 0), some (.long (r10)), none, some (.ref 16), some (.int ((6 : Int32))), some (.int (v5)), none, none]) (st := []) (h := hX σ) rfl (fun c4 => ?_) (fun c4 => ?_)
    · rw [if_pos c4] at hf
      obtain ⟨r11, hr11, hf⟩ := Option.bind_eq_some_iff.mp hf
      refine ev_cli 4 (kk := 60) (as := [.ref 3]) (rest := [.ref 17]) (pc := 106) (ls := [some (.ref 0), some (.long (r10)), none, some (.ref 16), some (.int ((6 : Int32))), some (.int (v5)), none, none]) (st := [.ref 3, .ref 17]) (h := hX σ) rfl (tX7_firstFree (d + 3) σ r11 hr11) ?_
      obtain ⟨r12, hr12, hf⟩ := Option.bind_eq_some_iff.mp hf
      refine ev_clv 3 (kk := 68) (as := [.ref 17, .int (r11), .int ((0 : Int32)), .int ((2 : Int32)), .int ((20 : Int32))]) (rest := []) (pc := 113) (ls := [some (.ref 0), some (.long (r10)), none, some (.ref 16), some (.int ((6 : Int32))), some (.int (v5)), none, none]) (st := [.int ((20 : Int32)), .int ((2 : Int32)), .int ((0 : Int32)), .int (r11), .ref 17]) (h := hX σ) rfl (tX8_begin (d + 4) σ r11 (0 : Int32) (2 : Int32) (20 : Int32) r12 hr12) ?_
      obtain ⟨r13, hr13, hf⟩ := Option.bind_eq_some_iff.mp hf
      refine ev_clv 3 (kk := 69) (as := [.ref 17, .int ((1 : Int32))]) (rest := []) (pc := 121) (ls := [some (.ref 0), some (.long (r10)), none, some (.ref 16), some (.int ((6 : Int32))), some (.int (v5)), none, none]) (st := [.int ((1 : Int32)), .ref 17]) (h := hX r12) rfl (tX8_play d r12 (1 : Int32) r13 hr13) ?_
      obtain ⟨r14, hr14, hf⟩ := Option.bind_eq_some_iff.mp hf
      refine ev_cli 4 (kk := 70) (as := [.ref 17, .int ((0 : Int32))]) (rest := [.long (r10)]) (pc := 130) (ls := [some (.ref 0), some (.long (r10)), none, some (.ref 16), some (.int ((6 : Int32))), some (.int (v5)), none, none]) (st := [.int ((0 : Int32)), .ref 17, .long (r10)]) (h := hX r13) rfl (tX8_outcome (d + 4) r13 (0 : Int32) r14 hr14) ?_
      obtain ⟨r15, hr15, hf⟩ := Option.bind_eq_some_iff.mp hf
      refine ev_cll 1 (kk := 116) (as := [.long (r10), .long (r14.toInt64)]) (rest := []) (pc := 134) (ls := [some (.ref 0), some (.long (r10)), none, some (.ref 16), some (.int ((6 : Int32))), some (.int (v5)), none, none]) (st := [.long (r14.toInt64), .long (r10)]) (h := hX r13) rfl (tX11_mixed (d + 4) (hX r13) r10 r14.toInt64 r15 hr15) ?_
      obtain ⟨r16, hr16, hf⟩ := Option.bind_eq_some_iff.mp hf
      refine ev_cli 3 (kk := 70) (as := [.ref 17, .int ((1 : Int32))]) (rest := [.long (r15)]) (pc := 142) (ls := [some (.ref 0), some (.long (r10)), none, some (.ref 16), some (.int ((6 : Int32))), some (.int (v5)), none, none]) (st := [.int ((1 : Int32)), .ref 17, .long (r15)]) (h := hX r13) rfl (tX8_outcome (d + 4) r13 (1 : Int32) r16 hr16) ?_
      obtain ⟨r17, hr17, hf⟩ := Option.bind_eq_some_iff.mp hf
      refine ev_cll 1 (kk := 116) (as := [.long (r15), .long (r16.toInt64)]) (rest := []) (pc := 146) (ls := [some (.ref 0), some (.long (r10)), none, some (.ref 16), some (.int ((6 : Int32))), some (.int (v5)), none, none]) (st := [.long (r16.toInt64), .long (r15)]) (h := hX r13) rfl (tX11_mixed (d + 4) (hX r13) r15 r16.toInt64 r17 hr17) ?_
      refine ev_go (c' := (150, [some (.ref 0), some (.long (r17)), none, some (.ref 16), some (.int ((6 : Int32))), some (.int (v5)), none, none], [], hX r13)) 0 rfl ?_
      exact ev_dr (a := [some (.ref 0), some (.long (r17)), none, none, none, none, none, none]) ⟨rfl, ⟨rfl, trivial⟩⟩ (tX11_digest_b150 d r13 r17 _ hf)
    · rw [if_neg c4] at hf
      exact ev_dr (a := [some (.ref 0), some (.long (r10)), none, none, none, none, none, none]) ⟨rfl, ⟨rfl, trivial⟩⟩ (tX11_digest_b150 d σ r10 _ hf)
theorem tX11_digest_l30 (d : Nat) : ∀ (n : Nat) (σ : SX) (v1 : Int64) (v5 : Int32) (q : Int64 × SX), fX11_digest_l30 n σ v1 v5 = some q → ev_X (d + 5) (some .long) eiX11_digest (30, [some (.ref 0), some (.long (v1)), none, some (.ref 16), some (.int ((6 : Int32))), some (.int (v5)), none, none], [], hX σ) (some (.long q.1), hX q.2)
  | 0, _, _, _, _, hf => by cases hf
  | n + 1, σ, v1, v5, q, hf => tX11_digest_b30 d (fX11_digest_l30 n) (fun σ v1 v5 q h9 => tX11_digest_l30 d n σ v1 v5 q h9) σ v1 v5 q hf
set_option maxRecDepth 20000 in
set_option maxHeartbeats 4000000 in
theorem tX11_digest (d : Nat) (σ : SX) (q : Int64 × SX) (hf : fX11_digest σ = some q) : ev_M ev_mt (d + 6) 112 [.ref 0] (hX σ) (some (.long q.1), hX q.2) := by
  refine ev_en (rt := (some .long)) (I := eiX11_digest) rfl (Nat.le_of_ble_eq_true rfl) ?_
  change ev_X (d + 5) _ _ (0, [some (.ref 0), none, none, none, none, none, none, none], [], hX σ) _
  unfold fX11_digest at hf
  obtain ⟨r1, hr1, hf⟩ := Option.bind_eq_some_iff.mp hf
  refine ev_cll 5 (kk := 67) (as := [.ref 3, .long ((457 : Int64))]) (rest := [.ref 8]) (pc := 11) (ls := [some (.ref 0), none, none, none, none, none, none, none]) (st := [.long ((457 : Int64)), .ref 3, .ref 8]) (h := hX σ) rfl (tX7_mixInto (d + 3) σ (457 : Int64) r1 hr1) ?_
  obtain ⟨r2, hr2, hf⟩ := Option.bind_eq_some_iff.mp hf
  refine ev_cll 0 (kk := 38) (as := [.ref 8, .long (r1)]) (rest := []) (pc := 14) (ls := [some (.ref 0), none, none, none, none, none, none, none]) (st := [.long (r1), .ref 8]) (h := hX σ) rfl (tX4_mixInto (d + 3) σ r1 r2 hr2) ?_
  refine ev_go (c' := (30, [some (.ref 0), some (.long (r2)), none, some (.ref 16), some (.int ((6 : Int32))), some (.int ((0 : Int32))), none, none], [], hX σ)) 8 rfl ?_
  exact ev_dr (a := [some (.ref 0), some (.long (r2)), none, some (.ref 16), some (.int ((6 : Int32))), some (.int ((0 : Int32))), none, none]) ⟨rfl, ⟨rfl, ⟨rfl, ⟨rfl, ⟨rfl, trivial⟩⟩⟩⟩⟩ (tX11_digest_l30 d 1000 σ r2 (0 : Int32) _ hf)
set_option maxRecDepth 20000 in
set_option maxHeartbeats 4000000 in
theorem tX12_within_b15 (d : Nat) (h : ev_H) (w0 : Int32) (q : Int32) (hf : fX12_within_b15 w0 = some q) : ev_X d (some .boolean) eiX12_within (15, [none, none, none], [.int (w0)], h) (some (.int q), h) := by
  unfold fX12_within_b15 at hf
  obtain ⟨c1, hf⟩ := ev_hp hf
  cases hf
  exact ev_rk 0 rfl c1
set_option maxRecDepth 20000 in
set_option maxHeartbeats 4000000 in
theorem tX12_within_b14 (d : Nat) (h : ev_H) (q : Int32) (hf : fX12_within_b14 = some q) : ev_X d (some .boolean) eiX12_within (14, [none, none, none], [], h) (some (.int q), h) := by
  unfold fX12_within_b14 at hf
  refine ev_go (c' := (15, [none, none, none], [.int ((0 : Int32))], h)) 0 rfl ?_
  exact ev_dr (a := [none, none, none]) trivial (tX12_within_b15 d h (0 : Int32) _ hf)
set_option maxRecDepth 20000 in
set_option maxHeartbeats 4000000 in
theorem tX12_within (d : Nat) (h : ev_H) (v0 : Int32) (v1 : Int32) (v2 : Int32) (q : Int32) (hf : fX12_within v0 v1 v2 = some q) : ev_M ev_mt (d + 1) 123 [.int (v0), .int (v1), .int (v2)] (h) (some (.int q), h) := by
  refine ev_en (rt := (some .boolean)) (I := eiX12_within) rfl (Nat.le_of_ble_eq_true rfl) ?_
  change ev_X d _ _ (0, [some (.int (v0)), some (.int (v1)), some (.int (v2))], [], h) _
  unfold fX12_within at hf
  refine ev_br 2 (P := v0 < v1) (a := 14) (b := 5) (ls := [some (.int (v0)), some (.int (v1)), some (.int (v2))]) (st := []) (h := h) rfl (fun c1 => ?_) (fun c1 => ?_)
  · rw [if_pos c1] at hf
    exact ev_dr (a := [none, none, none]) trivial (tX12_within_b14 d h  _ hf)
  · rw [if_neg c1] at hf
    refine ev_br 2 (P := v2 < v0) (a := 14) (b := 10) (ls := [some (.int (v0)), some (.int (v1)), some (.int (v2))]) (st := []) (h := h) rfl (fun c2 => ?_) (fun c2 => ?_)
    · rw [if_pos c2] at hf
      exact ev_dr (a := [none, none, none]) trivial (tX12_within_b14 d h  _ hf)
    · rw [if_neg c2] at hf
      refine ev_go (c' := (15, [some (.int (v0)), some (.int (v1)), some (.int (v2))], [.int ((1 : Int32))], h)) 1 rfl ?_
      exact ev_dr (a := [none, none, none]) trivial (tX12_within_b15 d h (1 : Int32) _ hf)
set_option maxRecDepth 20000 in
set_option maxHeartbeats 4000000 in
theorem tX12_size_b10 (d : Nat) (h : ev_H) (w0 : Int32) (q : Int32) (hf : fX12_size_b10 w0 = some q) : ev_X d (some .int) eiX12_size (10, [none], [.int (w0)], h) (some (.int q), h) := by
  unfold fX12_size_b10 at hf
  cases hf
  exact ev_rt 0 rfl
set_option maxRecDepth 20000 in
set_option maxHeartbeats 4000000 in
theorem tX12_size (d : Nat) (h : ev_H) (v0 : Int32) (q : Int32) (hf : fX12_size v0 = some q) : ev_M ev_mt (d + 1) 124 [.int (v0)] (h) (some (.int q), h) := by
  refine ev_en (rt := (some .int)) (I := eiX12_size) rfl (Nat.le_of_ble_eq_true rfl) ?_
  change ev_X d _ _ (0, [some (.int (v0))], [], h) _
  unfold fX12_size at hf
  refine ev_br 1 (P := v0 < 0) (a := 4) (b := 9) (ls := [some (.int (v0))]) (st := []) (h := h) rfl (fun c1 => ?_) (fun c1 => ?_)
  · rw [if_pos c1] at hf
    refine ev_go (c' := (10, [some (.int (v0))], [.int ((-v0))], h)) 2 rfl ?_
    exact ev_dr (a := [none]) trivial (tX12_size_b10 d h (-v0) _ hf)
  · rw [if_neg c1] at hf
    refine ev_go (c' := (10, [some (.int (v0))], [.int (v0)], h)) 0 rfl ?_
    exact ev_dr (a := [none]) trivial (tX12_size_b10 d h v0 _ hf)
set_option maxRecDepth 20000 in
set_option maxHeartbeats 4000000 in
theorem tX12_divisor_b17 (d : Nat) (h : ev_H) (k17 : Int64 → Int64 → Option (Int64)) (hk17 : ∀ (v4 : Int64) (v6 : Int64) (q : Int64), k17 v4 v6 = some q → ev_X d (some .long) eiX12_divisor (17, [none, none, none, none, some (.long (v4)), none, some (.long (v6)), none, none, none], [], h) (some (.long q), h)) (v4 : Int64) (v6 : Int64) (q : Int64) (hf : fX12_divisor_b17 k17 v4 v6 = some q) : ev_X d (some .long) eiX12_divisor (17, [none, none, none, none, some (.long (v4)), none, some (.long (v6)), none, none, none], [], h) (some (.long q), h) := by
  unfold fX12_divisor_b17 at hf
  refine ev_bi 3 (lg_cmp_eq v6 (0 : Int64)) (a := 42) (b := 24) (ls := [none, none, none, none, some (.long (v4)), none, some (.long (v6)), none, none, none]) (st := []) (h := h) rfl (fun c1 => ?_) (fun c1 => ?_)
  · rw [if_pos c1] at hf
    cases hf
    exact ev_rt 1 rfl
  · rw [if_neg c1] at hf
    obtain ⟨c2, hf⟩ := ev_hp hf
    refine ev_ck 2 (P := ¬ v6 = 0) (c' := (29, [none, none, none, none, some (.long (v4)), none, some (.long (v6)), none, none, none], [.long ((v4 - v4 / v6 * v6))], h)) rfl c2 ?_
    refine ev_go (c' := (17, [none, none, none, none, some (.long (v6)), none, some (.long ((v4 - v4 / v6 * v6))), none, some (.long ((v4 - v4 / v6 * v6))), none], [], h)) 5 rfl ?_
    exact ev_dr (a := [none, none, none, none, some (.long (v6)), none, some (.long ((v4 - v4 / v6 * v6))), none, none, none]) ⟨rfl, ⟨rfl, trivial⟩⟩ (hk17 v6 (v4 - v4 / v6 * v6) _ hf)
theorem tX12_divisor_l17 (d : Nat) (h : ev_H) : ∀ (n : Nat) (v4 : Int64) (v6 : Int64) (q : Int64), fX12_divisor_l17 n v4 v6 = some q → ev_X d (some .long) eiX12_divisor (17, [none, none, none, none, some (.long (v4)), none, some (.long (v6)), none, none, none], [], h) (some (.long q), h)
  | 0, _, _, _, hf => by cases hf
  | n + 1, v4, v6, q, hf => tX12_divisor_b17 d h (fX12_divisor_l17 n) (fun v4 v6 q h9 => tX12_divisor_l17 d h n v4 v6 q h9) v4 v6 q hf
set_option maxRecDepth 20000 in
set_option maxHeartbeats 4000000 in
theorem tX12_divisor_b12 (d : Nat) (h : ev_H) (v2 : Int64) (w0 : Int64) (q : Int64) (hf : fX12_divisor_b12 v2 w0 = some q) : ev_X d (some .long) eiX12_divisor (12, [none, none, some (.long (v2)), none, none, none, none, none, none, none], [.long (w0)], h) (some (.long q), h) := by
  unfold fX12_divisor_b12 at hf
  refine ev_go (c' := (17, [none, none, some (.long (v2)), none, some (.long (w0)), none, some (.long (v2)), none, none, none], [], h)) 2 rfl ?_
  exact ev_dr (a := [none, none, none, none, some (.long (w0)), none, some (.long (v2)), none, none, none]) ⟨rfl, ⟨rfl, trivial⟩⟩ (tX12_divisor_l17 d h 1000 w0 v2 _ hf)
set_option maxRecDepth 20000 in
set_option maxHeartbeats 4000000 in
theorem tX12_divisor (d : Nat) (h : ev_H) (v0 : Int64) (v2 : Int64) (q : Int64) (hf : fX12_divisor v0 v2 = some q) : ev_M ev_mt (d + 1) 125 [.long (v0), .long (v2)] (h) (some (.long q), h) := by
  refine ev_en (rt := (some .long)) (I := eiX12_divisor) rfl (Nat.le_of_ble_eq_true rfl) ?_
  change ev_X d _ _ (0, [some (.long (v0)), none, some (.long (v2)), none, none, none, none, none, none, none], [], h) _
  unfold fX12_divisor at hf
  refine ev_bi 3 (lg_cmp_lt v0 (0 : Int64)) (a := 6) (b := 11) (ls := [some (.long (v0)), none, some (.long (v2)), none, none, none, none, none, none, none]) (st := []) (h := h) rfl (fun c1 => ?_) (fun c1 => ?_)
  · rw [if_pos c1] at hf
    refine ev_go (c' := (12, [some (.long (v0)), none, some (.long (v2)), none, none, none, none, none, none, none], [.long ((-v0))], h)) 2 rfl ?_
    exact ev_dr (a := [none, none, some (.long (v2)), none, none, none, none, none, none, none]) ⟨rfl, trivial⟩ (tX12_divisor_b12 d h v2 (-v0) _ hf)
  · rw [if_neg c1] at hf
    refine ev_go (c' := (12, [some (.long (v0)), none, some (.long (v2)), none, none, none, none, none, none, none], [.long (v0)], h)) 0 rfl ?_
    exact ev_dr (a := [none, none, some (.long (v2)), none, none, none, none, none, none, none]) ⟨rfl, trivial⟩ (tX12_divisor_b12 d h v2 v0 _ hf)
set_option maxRecDepth 20000 in
set_option maxHeartbeats 4000000 in
theorem tX12_lowest_b23 (d : Nat) (h : ev_H) (w0 : Int64) (q : Int64) (hf : fX12_lowest_b23 w0 = some q) : ev_X (d + 1) (some .long) eiX12_lowest (23, [none, none, none, none, none, none, none], [.long (w0)], h) (some (.long q), h) := by
  unfold fX12_lowest_b23 at hf
  cases hf
  exact ev_rt 0 rfl
set_option maxRecDepth 20000 in
set_option maxHeartbeats 4000000 in
theorem tX12_lowest (d : Nat) (h : ev_H) (v0 : Int64) (v2 : Int64) (v4 : Int32) (q : Int64) (hf : fX12_lowest v0 v2 v4 = some q) : ev_M ev_mt (d + 2) 126 [.long (v0), .long (v2), .int (v4)] (h) (some (.long q), h) := by
  refine ev_en (rt := (some .long)) (I := eiX12_lowest) rfl (Nat.le_of_ble_eq_true rfl) ?_
  change ev_X (d + 1) _ _ (0, [some (.long (v0)), none, some (.long (v2)), none, some (.int (v4)), none, none], [], h) _
  unfold fX12_lowest at hf
  obtain ⟨r1, hr1, hf⟩ := Option.bind_eq_some_iff.mp hf
  refine ev_cll 2 (kk := 125) (as := [.long (v0), .long (v2)]) (rest := []) (pc := 2) (ls := [some (.long (v0)), none, some (.long (v2)), none, some (.int (v4)), none, none]) (st := [.long (v2), .long (v0)]) (h := h) rfl (tX12_divisor d (h) v0 v2 r1 hr1) ?_
  refine ev_br 2 (P := v4 = 0) (a := 12) (b := 19) (ls := [some (.long (v0)), none, some (.long (v2)), none, some (.int (v4)), some (.long (r1)), none]) (st := []) (h := h) rfl (fun c1 => ?_) (fun c1 => ?_)
  · rw [if_pos c1] at hf
    obtain ⟨c2, hf⟩ := ev_hp hf
    refine ev_ck 2 (P := ¬ r1 = 0) (c' := (16, [some (.long (v0)), none, some (.long (v2)), none, some (.int (v4)), some (.long (r1)), none], [.long ((v0 / r1))], h)) rfl c2 ?_
    refine ev_go (c' := (23, [some (.long (v0)), none, some (.long (v2)), none, some (.int (v4)), some (.long (r1)), none], [.long ((v0 / r1))], h)) 0 rfl ?_
    exact ev_dr (a := [none, none, none, none, none, none, none]) trivial (tX12_lowest_b23 d h (v0 / r1) _ hf)
  · rw [if_neg c1] at hf
    obtain ⟨c3, hf⟩ := ev_hp hf
    refine ev_ck 2 (P := ¬ r1 = 0) (c' := (23, [some (.long (v0)), none, some (.long (v2)), none, some (.int (v4)), some (.long (r1)), none], [.long ((v2 / r1))], h)) rfl c3 ?_
    exact ev_dr (a := [none, none, none, none, none, none, none]) trivial (tX12_lowest_b23 d h (v2 / r1) _ hf)
set_option maxRecDepth 20000 in
set_option maxHeartbeats 4000000 in
theorem tX12_letters_b102 (d : Nat) (k102 : SM → Int64 → Int32 → Int32 → Option (Int32 × SM)) (hk102 : ∀ (σ : SM) (v1 : Int64) (v3 : Int32) (v5 : Int32) (q : Int32 × SM), k102 σ v1 v3 v5 = some q → ev_X d (some .int) eiX12_letters (102, [some (.ref 0), some (.long (v1)), none, some (.int (v3)), none, some (.int (v5)), none], [], hM σ) (some (.int q.1), hM q.2)) (σ : SM) (v1 : Int64) (v3 : Int32) (v5 : Int32) (q : Int32 × SM) (hf : fX12_letters_b102 k102 σ v1 v3 v5 = some q) : ev_X d (some .int) eiX12_letters (102, [some (.ref 0), some (.long (v1)), none, some (.int (v3)), none, some (.int (v5)), none], [], hM σ) (some (.int q.1), hM q.2) := by
  unfold fX12_letters_b102 at hf
  refine ev_br 2 (P := v5 < v3) (a := 108) (b := 135) (ls := [some (.ref 0), some (.long (v1)), none, some (.int (v3)), none, some (.int (v5)), none]) (st := []) (h := hM σ) rfl (fun c1 => ?_) (fun c1 => ?_)
  · rw [if_pos c1] at hf
    obtain ⟨c2, hf⟩ := ev_hp hf
    refine ev_go (c' := (128, [some (.ref 0), some (.long (v1)), none, some (.int (v3)), none, some (.int (v5)), none], [.int ((v1 >>> (((8 : Int32) * v5).toInt64 &&& 63)).toInt32.toInt8.toInt32), .int (((gm_pg_pageLength σ) + v5)), .ref 9], hM σ)) 12 rfl ?_
    refine ev_st1 (e := (128, .bastore, 1, 0, 0, .null, [], [])) (c' := (129, [some (.ref 0), some (.long (v1)), none, some (.int (v3)), none, some (.int (v5)), none], [], hM (sm_pg_page σ (upd (gm_pg_page σ) ((gm_pg_pageLength σ) + v5).toNatClampNeg (vp_nar .byte (v1 >>> (((8 : Int32) * v5).toInt64 &&& 63)).toInt32.toInt8.toInt32))))) rfl (oy_ast_m_pg_page c2) ?_
    refine ev_go (c' := (102, [some (.ref 0), some (.long (v1)), none, some (.int (v3)), none, some (.int ((v5 + (1 : Int32)))), none], [], hM (sm_pg_page σ (upd (gm_pg_page σ) ((gm_pg_pageLength σ) + v5).toNatClampNeg (vp_nar .byte (v1 >>> (((8 : Int32) * v5).toInt64 &&& 63)).toInt32.toInt8.toInt32))))) 1 rfl ?_
    exact ev_dr (a := [some (.ref 0), some (.long (v1)), none, some (.int (v3)), none, some (.int ((v5 + (1 : Int32)))), none]) ⟨rfl, ⟨rfl, ⟨rfl, ⟨rfl, trivial⟩⟩⟩⟩ (hk102 (sm_pg_page σ (upd (gm_pg_page σ) ((gm_pg_pageLength σ) + v5).toNatClampNeg (vp_nar .byte (v1 >>> (((8 : Int32) * v5).toInt64 &&& 63)).toInt32.toInt8.toInt32))) v1 v3 (v5 + (1 : Int32)) _ hf)
  · rw [if_neg c1] at hf
    refine ev_go (c' := (142, [some (.ref 0), some (.long (v1)), none, some (.int (v3)), none, some (.int (v5)), none], [.int (((gm_pg_pageLength σ) + v3)), .ref 0], hM σ)) 4 rfl ?_
    refine ev_st1 (e := (142, .putfield 73, 3, 20, 0, .null, [(12, 0)], [1070])) (c' := (145, [some (.ref 0), some (.long (v1)), none, some (.int (v3)), none, some (.int (v5)), none], [], hM (sm_pg_pageLength σ ((gm_pg_pageLength σ) + v3)))) rfl oy_put_m_pg_pageLength ?_
    cases hf
    exact ev_rt 2 rfl
theorem tX12_letters_l102 (d : Nat) : ∀ (n : Nat) (σ : SM) (v1 : Int64) (v3 : Int32) (v5 : Int32) (q : Int32 × SM), fX12_letters_l102 n σ v1 v3 v5 = some q → ev_X d (some .int) eiX12_letters (102, [some (.ref 0), some (.long (v1)), none, some (.int (v3)), none, some (.int (v5)), none], [], hM σ) (some (.int q.1), hM q.2)
  | 0, _, _, _, _, _, hf => by cases hf
  | n + 1, σ, v1, v3, v5, q, hf => tX12_letters_b102 d (fX12_letters_l102 n) (fun σ v1 v3 v5 q h9 => tX12_letters_l102 d n σ v1 v3 v5 q h9) σ v1 v3 v5 q hf
set_option maxRecDepth 20000 in
set_option maxHeartbeats 4000000 in
theorem tX12_letters_b77 (d : Nat) (k8 : SM → Int64 → Int32 → Int32 → Int32 → Option (Int32 × SM)) (hk8 : ∀ (σ : SM) (v1 : Int64) (v3 : Int32) (v4 : Int32) (v5 : Int32) (q : Int32 × SM), k8 σ v1 v3 v4 v5 = some q → ev_X d (some .int) eiX12_letters (8, [some (.ref 0), some (.long (v1)), none, some (.int (v3)), some (.int (v4)), some (.int (v5)), none], [], hM σ) (some (.int q.1), hM q.2)) (σ : SM) (v1 : Int64) (v4 : Int32) (v5 : Int32) (w0 : Int32) (w1 : Int32) (q : Int32 × SM) (hf : fX12_letters_b77 k8 σ v1 v4 v5 w0 w1 = some q) : ev_X d (some .int) eiX12_letters (77, [some (.ref 0), some (.long (v1)), none, none, some (.int (v4)), some (.int (v5)), none], [.int (w0), .int (w1)], hM σ) (some (.int q.1), hM q.2) := by
  unfold fX12_letters_b77 at hf
  refine ev_go (c' := (8, [some (.ref 0), some (.long (v1)), none, some (.int ((w1 + w0))), some (.int (v4)), some (.int ((v5 + (1 : Int32)))), none], [], hM σ)) 3 rfl ?_
  exact ev_dr (a := [some (.ref 0), some (.long (v1)), none, some (.int ((w1 + w0))), some (.int (v4)), some (.int ((v5 + (1 : Int32)))), none]) ⟨rfl, ⟨rfl, ⟨rfl, ⟨rfl, ⟨rfl, trivial⟩⟩⟩⟩⟩ (hk8 σ v1 (w1 + w0) v4 (v5 + (1 : Int32)) _ hf)
set_option maxRecDepth 20000 in
set_option maxHeartbeats 4000000 in
theorem tX12_letters_b64 (d : Nat) (k8 : SM → Int64 → Int32 → Int32 → Int32 → Option (Int32 × SM)) (hk8 : ∀ (σ : SM) (v1 : Int64) (v3 : Int32) (v4 : Int32) (v5 : Int32) (q : Int32 × SM), k8 σ v1 v3 v4 v5 = some q → ev_X d (some .int) eiX12_letters (8, [some (.ref 0), some (.long (v1)), none, some (.int (v3)), some (.int (v4)), some (.int (v5)), none], [], hM σ) (some (.int q.1), hM q.2)) (σ : SM) (v1 : Int64) (v3 : Int32) (v5 : Int32) (v6 : Int32) (w0 : Int32) (q : Int32 × SM) (hf : fX12_letters_b64 k8 σ v1 v3 v5 v6 w0 = some q) : ev_X d (some .int) eiX12_letters (64, [some (.ref 0), some (.long (v1)), none, some (.int (v3)), none, some (.int (v5)), some (.int (v6))], [.int (w0)], hM σ) (some (.int q.1), hM q.2) := by
  unfold fX12_letters_b64 at hf
  refine ev_br 3 (P := v6 = 0) (a := 72) (b := 76) (ls := [some (.ref 0), some (.long (v1)), none, some (.int (v3)), some (.int (w0)), some (.int (v5)), some (.int (v6))]) (st := [.int (v3)]) (h := hM σ) rfl (fun c1 => ?_) (fun c1 => ?_)
  · rw [if_pos c1] at hf
    refine ev_go (c' := (77, [some (.ref 0), some (.long (v1)), none, some (.int (v3)), some (.int (w0)), some (.int (v5)), some (.int (v6))], [.int ((0 : Int32)), .int (v3)], hM σ)) 1 rfl ?_
    exact ev_dr (a := [some (.ref 0), some (.long (v1)), none, none, some (.int (w0)), some (.int (v5)), none]) ⟨rfl, ⟨rfl, ⟨rfl, ⟨rfl, trivial⟩⟩⟩⟩ (tX12_letters_b77 d k8 hk8 σ v1 w0 v5 (0 : Int32) v3 _ hf)
  · rw [if_neg c1] at hf
    refine ev_go (c' := (77, [some (.ref 0), some (.long (v1)), none, some (.int (v3)), some (.int (w0)), some (.int (v5)), some (.int (v6))], [.int ((1 : Int32)), .int (v3)], hM σ)) 0 rfl ?_
    exact ev_dr (a := [some (.ref 0), some (.long (v1)), none, none, some (.int (w0)), some (.int (v5)), none]) ⟨rfl, ⟨rfl, ⟨rfl, ⟨rfl, trivial⟩⟩⟩⟩ (tX12_letters_b77 d k8 hk8 σ v1 w0 v5 (1 : Int32) v3 _ hf)
set_option maxRecDepth 20000 in
set_option maxHeartbeats 4000000 in
theorem tX12_letters_b59 (d : Nat) (k8 : SM → Int64 → Int32 → Int32 → Int32 → Option (Int32 × SM)) (hk8 : ∀ (σ : SM) (v1 : Int64) (v3 : Int32) (v4 : Int32) (v5 : Int32) (q : Int32 × SM), k8 σ v1 v3 v4 v5 = some q → ev_X d (some .int) eiX12_letters (8, [some (.ref 0), some (.long (v1)), none, some (.int (v3)), some (.int (v4)), some (.int (v5)), none], [], hM σ) (some (.int q.1), hM q.2)) (σ : SM) (v1 : Int64) (v3 : Int32) (v5 : Int32) (v6 : Int32) (q : Int32 × SM) (hf : fX12_letters_b59 k8 σ v1 v3 v5 v6 = some q) : ev_X d (some .int) eiX12_letters (59, [some (.ref 0), some (.long (v1)), none, some (.int (v3)), none, some (.int (v5)), some (.int (v6))], [], hM σ) (some (.int q.1), hM q.2) := by
  unfold fX12_letters_b59 at hf
  refine ev_go (c' := (64, [some (.ref 0), some (.long (v1)), none, some (.int (v3)), none, some (.int (v5)), some (.int (v6))], [.int ((1 : Int32))], hM σ)) 1 rfl ?_
  exact ev_dr (a := [some (.ref 0), some (.long (v1)), none, some (.int (v3)), none, some (.int (v5)), some (.int (v6))]) ⟨rfl, ⟨rfl, ⟨rfl, ⟨rfl, ⟨rfl, trivial⟩⟩⟩⟩⟩ (tX12_letters_b64 d k8 hk8 σ v1 v3 v5 v6 (1 : Int32) _ hf)
set_option maxRecDepth 20000 in
set_option maxHeartbeats 4000000 in
theorem tX12_letters_b49 (d : Nat) (k8 : SM → Int64 → Int32 → Int32 → Int32 → Option (Int32 × SM)) (hk8 : ∀ (σ : SM) (v1 : Int64) (v3 : Int32) (v4 : Int32) (v5 : Int32) (q : Int32 × SM), k8 σ v1 v3 v4 v5 = some q → ev_X d (some .int) eiX12_letters (8, [some (.ref 0), some (.long (v1)), none, some (.int (v3)), some (.int (v4)), some (.int (v5)), none], [], hM σ) (some (.int q.1), hM q.2)) (σ : SM) (v1 : Int64) (v3 : Int32) (v4 : Int32) (v5 : Int32) (v6 : Int32) (q : Int32 × SM) (hf : fX12_letters_b49 k8 σ v1 v3 v4 v5 v6 = some q) : ev_X d (some .int) eiX12_letters (49, [some (.ref 0), some (.long (v1)), none, some (.int (v3)), some (.int (v4)), some (.int (v5)), some (.int (v6))], [], hM σ) (some (.int q.1), hM q.2) := by
  unfold fX12_letters_b49 at hf
  refine ev_br 1 (P := v4 = 0) (a := 54) (b := 59) (ls := [some (.ref 0), some (.long (v1)), none, some (.int (v3)), some (.int (v4)), some (.int (v5)), some (.int (v6))]) (st := []) (h := hM σ) rfl (fun c1 => ?_) (fun c1 => ?_)
  · rw [if_pos c1] at hf
    refine ev_br 1 (P := v6 = 0) (a := 59) (b := 63) (ls := [some (.ref 0), some (.long (v1)), none, some (.int (v3)), some (.int (v4)), some (.int (v5)), some (.int (v6))]) (st := []) (h := hM σ) rfl (fun c2 => ?_) (fun c2 => ?_)
    · rw [if_pos c2] at hf
      exact ev_dr (a := [some (.ref 0), some (.long (v1)), none, some (.int (v3)), none, some (.int (v5)), some (.int (v6))]) ⟨rfl, ⟨rfl, ⟨rfl, ⟨rfl, ⟨rfl, trivial⟩⟩⟩⟩⟩ (tX12_letters_b59 d k8 hk8 σ v1 v3 v5 v6 _ hf)
    · rw [if_neg c2] at hf
      refine ev_go (c' := (64, [some (.ref 0), some (.long (v1)), none, some (.int (v3)), some (.int (v4)), some (.int (v5)), some (.int (v6))], [.int ((0 : Int32))], hM σ)) 0 rfl ?_
      exact ev_dr (a := [some (.ref 0), some (.long (v1)), none, some (.int (v3)), none, some (.int (v5)), some (.int (v6))]) ⟨rfl, ⟨rfl, ⟨rfl, ⟨rfl, ⟨rfl, trivial⟩⟩⟩⟩⟩ (tX12_letters_b64 d k8 hk8 σ v1 v3 v5 v6 (0 : Int32) _ hf)
  · rw [if_neg c1] at hf
    exact ev_dr (a := [some (.ref 0), some (.long (v1)), none, some (.int (v3)), none, some (.int (v5)), some (.int (v6))]) ⟨rfl, ⟨rfl, ⟨rfl, ⟨rfl, ⟨rfl, trivial⟩⟩⟩⟩⟩ (tX12_letters_b59 d k8 hk8 σ v1 v3 v5 v6 _ hf)
set_option maxRecDepth 20000 in
set_option maxHeartbeats 4000000 in
theorem tX12_letters_b46 (d : Nat) (σ : SM) (q : Int32 × SM) (hf : fX12_letters_b46 σ = some q) : ev_X d (some .int) eiX12_letters (46, [none, none, none, none, none, none, none], [], hM σ) (some (.int q.1), hM q.2) := by
  unfold fX12_letters_b46 at hf
  cases hf
  exact ev_rt 1 rfl
set_option maxRecDepth 20000 in
set_option maxHeartbeats 4000000 in
theorem tX12_letters_b8 (d : Nat) (k8 : SM → Int64 → Int32 → Int32 → Int32 → Option (Int32 × SM)) (hk8 : ∀ (σ : SM) (v1 : Int64) (v3 : Int32) (v4 : Int32) (v5 : Int32) (q : Int32 × SM), k8 σ v1 v3 v4 v5 = some q → ev_X d (some .int) eiX12_letters (8, [some (.ref 0), some (.long (v1)), none, some (.int (v3)), some (.int (v4)), some (.int (v5)), none], [], hM σ) (some (.int q.1), hM q.2)) (σ : SM) (v1 : Int64) (v3 : Int32) (v4 : Int32) (v5 : Int32) (q : Int32 × SM) (hf : fX12_letters_b8 k8 σ v1 v3 v4 v5 = some q) : ev_X d (some .int) eiX12_letters (8, [some (.ref 0), some (.long (v1)), none, some (.int (v3)), some (.int (v4)), some (.int (v5)), none], [], hM σ) (some (.int q.1), hM q.2) := by
  unfold fX12_letters_b8 at hf
  refine ev_br 2 (P := v5 < (8 : Int32)) (a := 15) (b := 85) (ls := [some (.ref 0), some (.long (v1)), none, some (.int (v3)), some (.int (v4)), some (.int (v5)), none]) (st := []) (h := hM σ) rfl (fun c1 => ?_) (fun c1 => ?_)
  · rw [if_pos c1] at hf
    refine ev_br 11 (P := (126 : Int32) < ((v1 >>> (((8 : Int32) * v5).toInt64 &&& 63)) &&& (255 : Int64)).toInt32) (a := 46) (b := 36) (ls := [some (.ref 0), some (.long (v1)), none, some (.int (v3)), some (.int (v4)), some (.int (v5)), some (.int (((v1 >>> (((8 : Int32) * v5).toInt64 &&& 63)) &&& (255 : Int64)).toInt32))]) (st := []) (h := hM σ) rfl (fun c2 => ?_) (fun c2 => ?_)
    · rw [if_pos c2] at hf
      exact ev_dr (a := [none, none, none, none, none, none, none]) trivial (tX12_letters_b46 d σ  _ hf)
    · rw [if_neg c2] at hf
      refine ev_br 1 (P := v4 = 0) (a := 49) (b := 41) (ls := [some (.ref 0), some (.long (v1)), none, some (.int (v3)), some (.int (v4)), some (.int (v5)), some (.int (((v1 >>> (((8 : Int32) * v5).toInt64 &&& 63)) &&& (255 : Int64)).toInt32))]) (st := []) (h := hM σ) rfl (fun c3 => ?_) (fun c3 => ?_)
      · rw [if_pos c3] at hf
        exact ev_dr (a := [some (.ref 0), some (.long (v1)), none, some (.int (v3)), some (.int (v4)), some (.int (v5)), some (.int (((v1 >>> (((8 : Int32) * v5).toInt64 &&& 63)) &&& (255 : Int64)).toInt32))]) ⟨rfl, ⟨rfl, ⟨rfl, ⟨rfl, ⟨rfl, ⟨rfl, trivial⟩⟩⟩⟩⟩⟩ (tX12_letters_b49 d k8 hk8 σ v1 v3 v4 v5 (((v1 >>> (((8 : Int32) * v5).toInt64 &&& 63)) &&& (255 : Int64)).toInt32) _ hf)
      · rw [if_neg c3] at hf
        refine ev_br 1 (P := ((v1 >>> (((8 : Int32) * v5).toInt64 &&& 63)) &&& (255 : Int64)).toInt32 = 0) (a := 49) (b := 46) (ls := [some (.ref 0), some (.long (v1)), none, some (.int (v3)), some (.int (v4)), some (.int (v5)), some (.int (((v1 >>> (((8 : Int32) * v5).toInt64 &&& 63)) &&& (255 : Int64)).toInt32))]) (st := []) (h := hM σ) rfl (fun c4 => ?_) (fun c4 => ?_)
        · rw [if_pos c4] at hf
          exact ev_dr (a := [some (.ref 0), some (.long (v1)), none, some (.int (v3)), some (.int (v4)), some (.int (v5)), some (.int (((v1 >>> (((8 : Int32) * v5).toInt64 &&& 63)) &&& (255 : Int64)).toInt32))]) ⟨rfl, ⟨rfl, ⟨rfl, ⟨rfl, ⟨rfl, ⟨rfl, trivial⟩⟩⟩⟩⟩⟩ (tX12_letters_b49 d k8 hk8 σ v1 v3 v4 v5 (((v1 >>> (((8 : Int32) * v5).toInt64 &&& 63)) &&& (255 : Int64)).toInt32) _ hf)
        · rw [if_neg c4] at hf
          exact ev_dr (a := [none, none, none, none, none, none, none]) trivial (tX12_letters_b46 d σ  _ hf)
  · rw [if_neg c1] at hf
    refine ev_br 5 (P := (45 : Int32) < ((gm_pg_pageLength σ) + v3)) (a := 96) (b := 99) (ls := [some (.ref 0), some (.long (v1)), none, some (.int (v3)), some (.int (v4)), some (.int (v5)), none]) (st := []) (h := hM σ) rfl (fun c5 => ?_) (fun c5 => ?_)
    · rw [if_pos c5] at hf
      cases hf
      exact ev_rt 1 rfl
    · rw [if_neg c5] at hf
      refine ev_go (c' := (102, [some (.ref 0), some (.long (v1)), none, some (.int (v3)), some (.int (v4)), some (.int ((0 : Int32))), none], [], hM σ)) 1 rfl ?_
      exact ev_dr (a := [some (.ref 0), some (.long (v1)), none, some (.int (v3)), none, some (.int ((0 : Int32))), none]) ⟨rfl, ⟨rfl, ⟨rfl, ⟨rfl, trivial⟩⟩⟩⟩ (tX12_letters_l102 d 1000 σ v1 v3 (0 : Int32) _ hf)
theorem tX12_letters_l8 (d : Nat) : ∀ (n : Nat) (σ : SM) (v1 : Int64) (v3 : Int32) (v4 : Int32) (v5 : Int32) (q : Int32 × SM), fX12_letters_l8 n σ v1 v3 v4 v5 = some q → ev_X d (some .int) eiX12_letters (8, [some (.ref 0), some (.long (v1)), none, some (.int (v3)), some (.int (v4)), some (.int (v5)), none], [], hM σ) (some (.int q.1), hM q.2)
  | 0, _, _, _, _, _, _, hf => by cases hf
  | n + 1, σ, v1, v3, v4, v5, q, hf => tX12_letters_b8 d (fX12_letters_l8 n) (fun σ v1 v3 v4 v5 q h9 => tX12_letters_l8 d n σ v1 v3 v4 v5 q h9) σ v1 v3 v4 v5 q hf
set_option maxRecDepth 20000 in
set_option maxHeartbeats 4000000 in
theorem tX12_letters (d : Nat) (σ : SM) (v1 : Int64) (q : Int32 × SM) (hf : fX12_letters σ v1 = some q) : ev_M ev_mt (d + 1) 127 [.ref 0, .long (v1)] (hM σ) (some (.int q.1), hM q.2) := by
  refine ev_en (rt := (some .int)) (I := eiX12_letters) rfl (Nat.le_of_ble_eq_true rfl) ?_
  change ev_X d _ _ (0, [some (.ref 0), some (.long (v1)), none, none, none, none, none], [], hM σ) _
  unfold fX12_letters at hf
  refine ev_go (c' := (8, [some (.ref 0), some (.long (v1)), none, some (.int ((0 : Int32))), some (.int ((0 : Int32))), some (.int ((0 : Int32))), none], [], hM σ)) 5 rfl ?_
  exact ev_dr (a := [some (.ref 0), some (.long (v1)), none, some (.int ((0 : Int32))), some (.int ((0 : Int32))), some (.int ((0 : Int32))), none]) ⟨rfl, ⟨rfl, ⟨rfl, ⟨rfl, ⟨rfl, trivial⟩⟩⟩⟩⟩ (tX12_letters_l8 d 1000 σ v1 (0 : Int32) (0 : Int32) (0 : Int32) _ hf)
set_option maxRecDepth 20000 in
set_option maxHeartbeats 4000000 in
theorem tX12_blank (d : Nat) (σ : SM) (q : Int32 × SM) (hf : fX12_blank σ = some q) : ev_M ev_mt (d + 1) 128 [.ref 0] (hM σ) (some (.int q.1), hM q.2) := by
  refine ev_en (rt := (some .int)) (I := eiX12_blank) rfl (Nat.le_of_ble_eq_true rfl) ?_
  change ev_X d _ _ (0, [some (.ref 0), none], [], hM σ) _
  unfold fX12_blank at hf
  refine ev_go (c' := (7, [some (.ref 0), some (.int ((gm_pg_pageLength σ)))], [.int ((0 : Int32)), .ref 0], hM σ)) 4 rfl ?_
  refine ev_st1 (e := (7, .putfield 73, 3, 20, 0, .null, [(12, 0)], [1070])) (c' := (10, [some (.ref 0), some (.int ((gm_pg_pageLength σ)))], [], hM (sm_pg_pageLength σ (0 : Int32)))) rfl oy_put_m_pg_pageLength ?_
  cases hf
  exact ev_rt 1 rfl
set_option maxRecDepth 20000 in
set_option maxHeartbeats 4000000 in
theorem tX12_sortOf_b41 (d : Nat) (h : ev_H) (w0 : Int32) (q : Int32) (hf : fX12_sortOf_b41 w0 = some q) : ev_X d (some .int) eiX12_sortOf (41, [none], [.int (w0)], h) (some (.int q), h) := by
  unfold fX12_sortOf_b41 at hf
  cases hf
  exact ev_rt 0 rfl
set_option maxRecDepth 20000 in
set_option maxHeartbeats 4000000 in
theorem tX12_sortOf (d : Nat) (h : ev_H) (v0 : Int32) (q : Int32) (hf : fX12_sortOf v0 = some q) : ev_M ev_mt (d + 1) 129 [.int (v0)] (h) (some (.int q), h) := by
  refine ev_en (rt := (some .int)) (I := eiX12_sortOf) rfl (Nat.le_of_ble_eq_true rfl) ?_
  change ev_X d _ _ (0, [some (.int (v0))], [], h) _
  unfold fX12_sortOf at hf
  refine ev_br 2 (P := v0 = (46 : Int32)) (a := 6) (b := 10) (ls := [some (.int (v0))]) (st := []) (h := h) rfl (fun c1 => ?_) (fun c1 => ?_)
  · rw [if_pos c1] at hf
    refine ev_go (c' := (41, [some (.int (v0))], [.int ((0 : Int32))], h)) 1 rfl ?_
    exact ev_dr (a := [none]) trivial (tX12_sortOf_b41 d h (0 : Int32) _ hf)
  · rw [if_neg c1] at hf
    refine ev_br 2 (P := v0 = (98 : Int32)) (a := 16) (b := 20) (ls := [some (.int (v0))]) (st := []) (h := h) rfl (fun c2 => ?_) (fun c2 => ?_)
    · rw [if_pos c2] at hf
      refine ev_go (c' := (41, [some (.int (v0))], [.int ((1 : Int32))], h)) 1 rfl ?_
      exact ev_dr (a := [none]) trivial (tX12_sortOf_b41 d h (1 : Int32) _ hf)
    · rw [if_neg c2] at hf
      refine ev_br 2 (P := v0 = (112 : Int32)) (a := 26) (b := 30) (ls := [some (.int (v0))]) (st := []) (h := h) rfl (fun c3 => ?_) (fun c3 => ?_)
      · rw [if_pos c3] at hf
        refine ev_go (c' := (41, [some (.int (v0))], [.int ((2 : Int32))], h)) 1 rfl ?_
        exact ev_dr (a := [none]) trivial (tX12_sortOf_b41 d h (2 : Int32) _ hf)
      · rw [if_neg c3] at hf
        refine ev_br 2 (P := v0 = (120 : Int32)) (a := 36) (b := 40) (ls := [some (.int (v0))]) (st := []) (h := h) rfl (fun c4 => ?_) (fun c4 => ?_)
        · rw [if_pos c4] at hf
          refine ev_go (c' := (41, [some (.int (v0))], [.int ((3 : Int32))], h)) 1 rfl ?_
          exact ev_dr (a := [none]) trivial (tX12_sortOf_b41 d h (3 : Int32) _ hf)
        · rw [if_neg c4] at hf
          refine ev_go (c' := (41, [some (.int (v0))], [.int ((-1 : Int32))], h)) 0 rfl ?_
          exact ev_dr (a := [none]) trivial (tX12_sortOf_b41 d h (-1 : Int32) _ hf)
