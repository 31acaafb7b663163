/-! X12_next X12_post X12_isPlayer X12_player X12_as X12_playerTold X12_about X12_move X12_draw X12_far X12_goes X12_goPlayers X12_callOf -/
set_option maxRecDepth 20000 in
set_option maxHeartbeats 4000000 in
theorem tX12_next_b143 (d : Nat) (k65 : SM → Int32 → Int32 → Int32 → Int32 → Int64 → Int32 → Option (Int32 × SM)) (hk65 : ∀ (σ : SM) (v1 : Int32) (v2 : Int32) (v3 : Int32) (v4 : Int32) (v5 : Int64) (v7 : Int32) (q : Int32 × SM), k65 σ v1 v2 v3 v4 v5 v7 = some q → ev_X (d + 5) (some .int) eiX12_next (65, [some (.ref 0), some (.int (v1)), some (.int (v2)), some (.int (v3)), some (.int (v4)), some (.long (v5)), none, some (.int (v7)), none, none, none], [], hM σ) (some (.int q.1), hM q.2)) (σ : SM) (v1 : Int32) (v2 : Int32) (v3 : Int32) (v4 : Int32) (v7 : Int32) (w0 : Int64) (q : Int32 × SM) (hf : fX12_next_b143 k65 σ v1 v2 v3 v4 v7 w0 = some q) : ev_X (d + 5) (some .int) eiX12_next (143, [some (.ref 0), some (.int (v1)), some (.int (v2)), some (.int (v3)), some (.int (v4)), none, none, some (.int (v7)), none, none, none], [.long (w0)], hM σ) (some (.int q.1), hM q.2) := by
  unfold fX12_next_b143 at hf
  refine ev_go (c' := (65, [some (.ref 0), some (.int (v1)), some (.int (v2)), some (.int (v3)), some (.int (v4)), some (.long (w0)), none, some (.int ((v7 + (1 : Int32)))), none, none, none], [], hM σ)) 2 rfl ?_
  exact ev_dr (a := [some (.ref 0), some (.int (v1)), some (.int (v2)), some (.int (v3)), some (.int (v4)), some (.long (w0)), none, some (.int ((v7 + (1 : Int32)))), none, none, none]) ⟨rfl, ⟨rfl, ⟨rfl, ⟨rfl, ⟨rfl, ⟨rfl, ⟨rfl, trivial⟩⟩⟩⟩⟩⟩⟩ (hk65 σ v1 v2 v3 v4 w0 (v7 + (1 : Int32)) _ hf)
set_option maxRecDepth 20000 in
set_option maxHeartbeats 4000000 in
theorem tX12_next_b129 (d : Nat) (k65 : SM → Int32 → Int32 → Int32 → Int32 → Int64 → Int32 → Option (Int32 × SM)) (hk65 : ∀ (σ : SM) (v1 : Int32) (v2 : Int32) (v3 : Int32) (v4 : Int32) (v5 : Int64) (v7 : Int32) (q : Int32 × SM), k65 σ v1 v2 v3 v4 v5 v7 = some q → ev_X (d + 5) (some .int) eiX12_next (65, [some (.ref 0), some (.int (v1)), some (.int (v2)), some (.int (v3)), some (.int (v4)), some (.long (v5)), none, some (.int (v7)), none, none, none], [], hM σ) (some (.int q.1), hM q.2)) (σ : SM) (v1 : Int32) (v2 : Int32) (v3 : Int32) (v5 : Int64) (v7 : Int32) (v8 : Int64) (v10 : Int32) (w0 : Int32) (q : Int32 × SM) (hf : fX12_next_b129 k65 σ v1 v2 v3 v5 v7 v8 v10 w0 = some q) : ev_X (d + 5) (some .int) eiX12_next (129, [some (.ref 0), some (.int (v1)), some (.int (v2)), some (.int (v3)), none, some (.long (v5)), none, some (.int (v7)), some (.long (v8)), none, some (.int (v10))], [.int (w0)], hM σ) (some (.int q.1), hM q.2) := by
  unfold fX12_next_b129 at hf
  refine ev_br 2 (P := v10 = 0) (a := 141) (b := 136) (ls := [some (.ref 0), some (.int (v1)), some (.int (v2)), some (.int (v3)), some (.int (w0)), some (.long (v5)), none, some (.int (v7)), some (.long (v8)), none, some (.int (v10))]) (st := []) (h := hM σ) rfl (fun c1 => ?_) (fun c1 => ?_)
  · rw [if_pos c1] at hf
    refine ev_go (c' := (143, [some (.ref 0), some (.int (v1)), some (.int (v2)), some (.int (v3)), some (.int (w0)), some (.long (v5)), none, some (.int (v7)), some (.long (v8)), none, some (.int (v10))], [.long (v5)], hM σ)) 0 rfl ?_
    exact ev_dr (a := [some (.ref 0), some (.int (v1)), some (.int (v2)), some (.int (v3)), some (.int (w0)), none, none, some (.int (v7)), none, none, none]) ⟨rfl, ⟨rfl, ⟨rfl, ⟨rfl, ⟨rfl, ⟨rfl, trivial⟩⟩⟩⟩⟩⟩ (tX12_next_b143 d k65 hk65 σ v1 v2 v3 w0 v7 v5 _ hf)
  · rw [if_neg c1] at hf
    refine ev_go (c' := (143, [some (.ref 0), some (.int (v1)), some (.int (v2)), some (.int (v3)), some (.int (w0)), some (.long (v5)), none, some (.int (v7)), some (.long (v8)), none, some (.int (v10))], [.long (v8)], hM σ)) 1 rfl ?_
    exact ev_dr (a := [some (.ref 0), some (.int (v1)), some (.int (v2)), some (.int (v3)), some (.int (w0)), none, none, some (.int (v7)), none, none, none]) ⟨rfl, ⟨rfl, ⟨rfl, ⟨rfl, ⟨rfl, ⟨rfl, trivial⟩⟩⟩⟩⟩⟩ (tX12_next_b143 d k65 hk65 σ v1 v2 v3 w0 v7 v8 _ hf)
set_option maxRecDepth 20000 in
set_option maxHeartbeats 4000000 in
theorem tX12_next_b115 (d : Nat) (k65 : SM → Int32 → Int32 → Int32 → Int32 → Int64 → Int32 → Option (Int32 × SM)) (hk65 : ∀ (σ : SM) (v1 : Int32) (v2 : Int32) (v3 : Int32) (v4 : Int32) (v5 : Int64) (v7 : Int32) (q : Int32 × SM), k65 σ v1 v2 v3 v4 v5 v7 = some q → ev_X (d + 5) (some .int) eiX12_next (65, [some (.ref 0), some (.int (v1)), some (.int (v2)), some (.int (v3)), some (.int (v4)), some (.long (v5)), none, some (.int (v7)), none, none, none], [], hM σ) (some (.int q.1), hM q.2)) (σ : SM) (v1 : Int32) (v2 : Int32) (v3 : Int32) (v4 : Int32) (v5 : Int64) (v7 : Int32) (v8 : Int64) (w0 : Int32) (q : Int32 × SM) (hf : fX12_next_b115 k65 σ v1 v2 v3 v4 v5 v7 v8 w0 = some q) : ev_X (d + 5) (some .int) eiX12_next (115, [some (.ref 0), some (.int (v1)), some (.int (v2)), some (.int (v3)), some (.int (v4)), some (.long (v5)), none, some (.int (v7)), some (.long (v8)), none, none], [.int (w0)], hM σ) (some (.int q.1), hM q.2) := by
  unfold fX12_next_b115 at hf
  refine ev_br 2 (P := w0 = 0) (a := 127) (b := 122) (ls := [some (.ref 0), some (.int (v1)), some (.int (v2)), some (.int (v3)), some (.int (v4)), some (.long (v5)), none, some (.int (v7)), some (.long (v8)), none, some (.int (w0))]) (st := []) (h := hM σ) rfl (fun c1 => ?_) (fun c1 => ?_)
  · rw [if_pos c1] at hf
    refine ev_go (c' := (129, [some (.ref 0), some (.int (v1)), some (.int (v2)), some (.int (v3)), some (.int (v4)), some (.long (v5)), none, some (.int (v7)), some (.long (v8)), none, some (.int (w0))], [.int (v4)], hM σ)) 0 rfl ?_
    exact ev_dr (a := [some (.ref 0), some (.int (v1)), some (.int (v2)), some (.int (v3)), none, some (.long (v5)), none, some (.int (v7)), some (.long (v8)), none, some (.int (w0))]) ⟨rfl, ⟨rfl, ⟨rfl, ⟨rfl, ⟨rfl, ⟨rfl, ⟨rfl, ⟨rfl, trivial⟩⟩⟩⟩⟩⟩⟩⟩ (tX12_next_b129 d k65 hk65 σ v1 v2 v3 v5 v7 v8 w0 v4 _ hf)
  · rw [if_neg c1] at hf
    refine ev_go (c' := (129, [some (.ref 0), some (.int (v1)), some (.int (v2)), some (.int (v3)), some (.int (v4)), some (.long (v5)), none, some (.int (v7)), some (.long (v8)), none, some (.int (w0))], [.int (v7)], hM σ)) 1 rfl ?_
    exact ev_dr (a := [some (.ref 0), some (.int (v1)), some (.int (v2)), some (.int (v3)), none, some (.long (v5)), none, some (.int (v7)), some (.long (v8)), none, some (.int (w0))]) ⟨rfl, ⟨rfl, ⟨rfl, ⟨rfl, ⟨rfl, ⟨rfl, ⟨rfl, ⟨rfl, trivial⟩⟩⟩⟩⟩⟩⟩⟩ (tX12_next_b129 d k65 hk65 σ v1 v2 v3 v5 v7 v8 w0 v7 _ hf)
set_option maxRecDepth 20000 in
set_option maxHeartbeats 4000000 in
theorem tX12_next_b110 (d : Nat) (k65 : SM → Int32 → Int32 → Int32 → Int32 → Int64 → Int32 → Option (Int32 × SM)) (hk65 : ∀ (σ : SM) (v1 : Int32) (v2 : Int32) (v3 : Int32) (v4 : Int32) (v5 : Int64) (v7 : Int32) (q : Int32 × SM), k65 σ v1 v2 v3 v4 v5 v7 = some q → ev_X (d + 5) (some .int) eiX12_next (65, [some (.ref 0), some (.int (v1)), some (.int (v2)), some (.int (v3)), some (.int (v4)), some (.long (v5)), none, some (.int (v7)), none, none, none], [], hM σ) (some (.int q.1), hM q.2)) (σ : SM) (v1 : Int32) (v2 : Int32) (v3 : Int32) (v4 : Int32) (v5 : Int64) (v7 : Int32) (v8 : Int64) (q : Int32 × SM) (hf : fX12_next_b110 k65 σ v1 v2 v3 v4 v5 v7 v8 = some q) : ev_X (d + 5) (some .int) eiX12_next (110, [some (.ref 0), some (.int (v1)), some (.int (v2)), some (.int (v3)), some (.int (v4)), some (.long (v5)), none, some (.int (v7)), some (.long (v8)), none, none], [], hM σ) (some (.int q.1), hM q.2) := by
  unfold fX12_next_b110 at hf
  refine ev_go (c' := (115, [some (.ref 0), some (.int (v1)), some (.int (v2)), some (.int (v3)), some (.int (v4)), some (.long (v5)), none, some (.int (v7)), some (.long (v8)), none, none], [.int ((1 : Int32))], hM σ)) 1 rfl ?_
  exact ev_dr (a := [some (.ref 0), some (.int (v1)), some (.int (v2)), some (.int (v3)), some (.int (v4)), some (.long (v5)), none, some (.int (v7)), some (.long (v8)), none, none]) ⟨rfl, ⟨rfl, ⟨rfl, ⟨rfl, ⟨rfl, ⟨rfl, ⟨rfl, ⟨rfl, trivial⟩⟩⟩⟩⟩⟩⟩⟩ (tX12_next_b115 d k65 hk65 σ v1 v2 v3 v4 v5 v7 v8 (1 : Int32) _ hf)
set_option maxRecDepth 20000 in
set_option maxHeartbeats 4000000 in
theorem tX12_next_b93 (d : Nat) (k65 : SM → Int32 → Int32 → Int32 → Int32 → Int64 → Int32 → Option (Int32 × SM)) (hk65 : ∀ (σ : SM) (v1 : Int32) (v2 : Int32) (v3 : Int32) (v4 : Int32) (v5 : Int64) (v7 : Int32) (q : Int32 × SM), k65 σ v1 v2 v3 v4 v5 v7 = some q → ev_X (d + 5) (some .int) eiX12_next (65, [some (.ref 0), some (.int (v1)), some (.int (v2)), some (.int (v3)), some (.int (v4)), some (.long (v5)), none, some (.int (v7)), none, none, none], [], hM σ) (some (.int q.1), hM q.2)) (σ : SM) (v1 : Int32) (v2 : Int32) (v3 : Int32) (v4 : Int32) (v5 : Int64) (v7 : Int32) (w0 : Int64) (w1 : Int64) (q : Int32 × SM) (hf : fX12_next_b93 k65 σ v1 v2 v3 v4 v5 v7 w0 w1 = some q) : ev_X (d + 5) (some .int) eiX12_next (93, [some (.ref 0), some (.int (v1)), some (.int (v2)), some (.int (v3)), some (.int (v4)), some (.long (v5)), none, some (.int (v7)), none, none, none], [.long (w0), .long (w1)], hM σ) (some (.int q.1), hM q.2) := by
  unfold fX12_next_b93 at hf
  refine ev_br 4 (P := v4 = (-1 : Int32)) (a := 110) (b := 102) (ls := [some (.ref 0), some (.int (v1)), some (.int (v2)), some (.int (v3)), some (.int (v4)), some (.long (v5)), none, some (.int (v7)), some (.long ((w1 * w0))), none, none]) (st := []) (h := hM σ) rfl (fun c1 => ?_) (fun c1 => ?_)
  · rw [if_pos c1] at hf
    exact ev_dr (a := [some (.ref 0), some (.int (v1)), some (.int (v2)), some (.int (v3)), some (.int (v4)), some (.long (v5)), none, some (.int (v7)), some (.long ((w1 * w0))), none, none]) ⟨rfl, ⟨rfl, ⟨rfl, ⟨rfl, ⟨rfl, ⟨rfl, ⟨rfl, ⟨rfl, trivial⟩⟩⟩⟩⟩⟩⟩⟩ (tX12_next_b110 d k65 hk65 σ v1 v2 v3 v4 v5 v7 (w1 * w0) _ hf)
  · rw [if_neg c1] at hf
    refine ev_bi 3 (lg_cmp_gt (w1 * w0) v5) (a := 110) (b := 114) (ls := [some (.ref 0), some (.int (v1)), some (.int (v2)), some (.int (v3)), some (.int (v4)), some (.long (v5)), none, some (.int (v7)), some (.long ((w1 * w0))), none, none]) (st := []) (h := hM σ) rfl (fun c2 => ?_) (fun c2 => ?_)
    · rw [if_pos c2] at hf
      exact ev_dr (a := [some (.ref 0), some (.int (v1)), some (.int (v2)), some (.int (v3)), some (.int (v4)), some (.long (v5)), none, some (.int (v7)), some (.long ((w1 * w0))), none, none]) ⟨rfl, ⟨rfl, ⟨rfl, ⟨rfl, ⟨rfl, ⟨rfl, ⟨rfl, ⟨rfl, trivial⟩⟩⟩⟩⟩⟩⟩⟩ (tX12_next_b110 d k65 hk65 σ v1 v2 v3 v4 v5 v7 (w1 * w0) _ hf)
    · rw [if_neg c2] at hf
      refine ev_go (c' := (115, [some (.ref 0), some (.int (v1)), some (.int (v2)), some (.int (v3)), some (.int (v4)), some (.long (v5)), none, some (.int (v7)), some (.long ((w1 * w0))), none, none], [.int ((0 : Int32))], hM σ)) 0 rfl ?_
      exact ev_dr (a := [some (.ref 0), some (.int (v1)), some (.int (v2)), some (.int (v3)), some (.int (v4)), some (.long (v5)), none, some (.int (v7)), some (.long ((w1 * w0))), none, none]) ⟨rfl, ⟨rfl, ⟨rfl, ⟨rfl, ⟨rfl, ⟨rfl, ⟨rfl, ⟨rfl, trivial⟩⟩⟩⟩⟩⟩⟩⟩ (tX12_next_b115 d k65 hk65 σ v1 v2 v3 v4 v5 v7 (w1 * w0) (0 : Int32) _ hf)
set_option maxRecDepth 20000 in
set_option maxHeartbeats 4000000 in
theorem tX12_next_b65 (d : Nat) (k65 : SM → Int32 → Int32 → Int32 → Int32 → Int64 → Int32 → Option (Int32 × SM)) (hk65 : ∀ (σ : SM) (v1 : Int32) (v2 : Int32) (v3 : Int32) (v4 : Int32) (v5 : Int64) (v7 : Int32) (q : Int32 × SM), k65 σ v1 v2 v3 v4 v5 v7 = some q → ev_X (d + 5) (some .int) eiX12_next (65, [some (.ref 0), some (.int (v1)), some (.int (v2)), some (.int (v3)), some (.int (v4)), some (.long (v5)), none, some (.int (v7)), none, none, none], [], hM σ) (some (.int q.1), hM q.2)) (σ : SM) (v1 : Int32) (v2 : Int32) (v3 : Int32) (v4 : Int32) (v5 : Int64) (v7 : Int32) (q : Int32 × SM) (hf : fX12_next_b65 k65 σ v1 v2 v3 v4 v5 v7 = some q) : ev_X (d + 5) (some .int) eiX12_next (65, [some (.ref 0), some (.int (v1)), some (.int (v2)), some (.int (v3)), some (.int (v4)), some (.long (v5)), none, some (.int (v7)), none, none, none], [], hM σ) (some (.int q.1), hM q.2) := by
  unfold fX12_next_b65 at hf
  refine ev_br 2 (P := v7 < (4 : Int32)) (a := 71) (b := 151) (ls := [some (.ref 0), some (.int (v1)), some (.int (v2)), some (.int (v3)), some (.int (v4)), some (.long (v5)), none, some (.int (v7)), none, none, none]) (st := []) (h := hM σ) rfl (fun c1 => ?_) (fun c1 => ?_)
  · rw [if_pos c1] at hf
    obtain ⟨r5, hr5, hf⟩ := Option.bind_eq_some_iff.mp hf
    refine ev_cll 5 (kk := 163) (as := [.ref 0, .int (v7), .int (v1), .int (v2), .int (v3)]) (rest := []) (pc := 77) (ls := [some (.ref 0), some (.int (v1)), some (.int (v2)), some (.int (v3)), some (.int (v4)), some (.long (v5)), none, some (.int (v7)), none, none, none]) (st := [.int (v3), .int (v2), .int (v1), .int (v7), .ref 0]) (h := hM σ) rfl (tX12_expectedNow d σ v7 v1 v2 v3 r5 hr5) ?_
    refine ev_br 2 (P := v7 = (3 : Int32)) (a := 86) (b := 90) (ls := [some (.ref 0), some (.int (v1)), some (.int (v2)), some (.int (v3)), some (.int (v4)), some (.long (v5)), none, some (.int (v7)), none, none, none]) (st := [.long (r5.1)]) (h := hM r5.2) rfl (fun c2 => ?_) (fun c2 => ?_)
    · rw [if_pos c2] at hf
      refine ev_go (c' := (93, [some (.ref 0), some (.int (v1)), some (.int (v2)), some (.int (v3)), some (.int (v4)), some (.long (v5)), none, some (.int (v7)), none, none, none], [.long ((1 : Int64)), .long (r5.1)], hM r5.2)) 1 rfl ?_
      exact ev_dr (a := [some (.ref 0), some (.int (v1)), some (.int (v2)), some (.int (v3)), some (.int (v4)), some (.long (v5)), none, some (.int (v7)), none, none, none]) ⟨rfl, ⟨rfl, ⟨rfl, ⟨rfl, ⟨rfl, ⟨rfl, ⟨rfl, trivial⟩⟩⟩⟩⟩⟩⟩ (tX12_next_b93 d k65 hk65 r5.2 v1 v2 v3 v4 v5 v7 (1 : Int64) r5.1 _ hf)
    · rw [if_neg c2] at hf
      refine ev_go (c' := (93, [some (.ref 0), some (.int (v1)), some (.int (v2)), some (.int (v3)), some (.int (v4)), some (.long (v5)), none, some (.int (v7)), none, none, none], [.long ((6 : Int64)), .long (r5.1)], hM r5.2)) 0 rfl ?_
      exact ev_dr (a := [some (.ref 0), some (.int (v1)), some (.int (v2)), some (.int (v3)), some (.int (v4)), some (.long (v5)), none, some (.int (v7)), none, none, none]) ⟨rfl, ⟨rfl, ⟨rfl, ⟨rfl, ⟨rfl, ⟨rfl, ⟨rfl, trivial⟩⟩⟩⟩⟩⟩⟩ (tX12_next_b93 d k65 hk65 r5.2 v1 v2 v3 v4 v5 v7 (6 : Int64) r5.1 _ hf)
  · rw [if_neg c1] at hf
    cases hf
    exact ev_rt 1 rfl
theorem tX12_next_l65 (d : Nat) : ∀ (n : Nat) (σ : SM) (v1 : Int32) (v2 : Int32) (v3 : Int32) (v4 : Int32) (v5 : Int64) (v7 : Int32) (q : Int32 × SM), fX12_next_l65 n σ v1 v2 v3 v4 v5 v7 = some q → ev_X (d + 5) (some .int) eiX12_next (65, [some (.ref 0), some (.int (v1)), some (.int (v2)), some (.int (v3)), some (.int (v4)), some (.long (v5)), none, some (.int (v7)), none, none, none], [], hM σ) (some (.int q.1), hM q.2)
  | 0, _, _, _, _, _, _, _, _, hf => by cases hf
  | n + 1, σ, v1, v2, v3, v4, v5, v7, q, hf => tX12_next_b65 d (fX12_next_l65 n) (fun σ v1 v2 v3 v4 v5 v7 q h9 => tX12_next_l65 d n σ v1 v2 v3 v4 v5 v7 q h9) σ v1 v2 v3 v4 v5 v7 q hf
set_option maxRecDepth 20000 in
set_option maxHeartbeats 4000000 in
theorem tX12_next (d : Nat) (σ : SM) (v1 : Int32) (v2 : Int32) (v3 : Int32) (q : Int32 × SM) (hf : fX12_next σ v1 v2 v3 = some q) : ev_M ev_mt (d + 6) 166 [.ref 0, .int (v1), .int (v2), .int (v3)] (hM σ) (some (.int q.1), hM q.2) := by
  refine ev_en (rt := (some .int)) (I := eiX12_next) rfl (Nat.le_of_ble_eq_true rfl) ?_
  change ev_X (d + 5) _ _ (0, [some (.ref 0), some (.int (v1)), some (.int (v2)), some (.int (v3)), none, none, none, none, none, none, none], [], hM σ) _
  unfold fX12_next at hf
  refine ev_br 2 (P := (gm_rg_rings σ) = 0) (a := 7) (b := 10) (ls := [some (.ref 0), some (.int (v1)), some (.int (v2)), some (.int (v3)), none, none, none, none, none, none, none]) (st := []) (h := hM σ) rfl (fun c1 => ?_) (fun c1 => ?_)
  · rw [if_pos c1] at hf
    cases hf
    exact ev_rt 1 rfl
  · rw [if_neg c1] at hf
    obtain ⟨r1, hr1, hf⟩ := Option.bind_eq_some_iff.mp hf
    refine ev_cli 3 (kk := 123) (as := [.int (v1), .int ((0 : Int32)), .int ((5 : Int32))]) (rest := []) (pc := 13) (ls := [some (.ref 0), some (.int (v1)), some (.int (v2)), some (.int (v3)), none, none, none, none, none, none, none]) (st := [.int ((5 : Int32)), .int ((0 : Int32)), .int (v1)]) (h := hM σ) rfl (tX12_within (d + 4) (hM σ) v1 (0 : Int32) (5 : Int32) r1 hr1) ?_
    refine ev_br 0 (P := r1 = 0) (a := 19) (b := 22) (ls := [some (.ref 0), some (.int (v1)), some (.int (v2)), some (.int (v3)), none, none, none, none, none, none, none]) (st := []) (h := hM σ) rfl (fun c2 => ?_) (fun c2 => ?_)
    · rw [if_pos c2] at hf
      cases hf
      exact ev_rt 1 rfl
    · rw [if_neg c2] at hf
      obtain ⟨r2, hr2, hf⟩ := Option.bind_eq_some_iff.mp hf
      refine ev_cli 2 (kk := 135) (as := [.ref 0, .int (v2)]) (rest := []) (pc := 24) (ls := [some (.ref 0), some (.int (v1)), some (.int (v2)), some (.int (v3)), none, none, none, none, none, none, none]) (st := [.int (v2), .ref 0]) (h := hM σ) rfl (tX12_isFree (d + 2) σ v2 r2 hr2) ?_
      refine ev_br 0 (P := r2 = 0) (a := 30) (b := 33) (ls := [some (.ref 0), some (.int (v1)), some (.int (v2)), some (.int (v3)), none, none, none, none, none, none, none]) (st := []) (h := hM σ) rfl (fun c3 => ?_) (fun c3 => ?_)
      · rw [if_pos c3] at hf
        cases hf
        exact ev_rt 1 rfl
      · rw [if_neg c3] at hf
        obtain ⟨r3, hr3, hf⟩ := Option.bind_eq_some_iff.mp hf
        refine ev_cli 3 (kk := 123) (as := [.int (v3), .int ((0 : Int32)), .int ((10 : Int32))]) (rest := []) (pc := 37) (ls := [some (.ref 0), some (.int (v1)), some (.int (v2)), some (.int (v3)), none, none, none, none, none, none, none]) (st := [.int ((10 : Int32)), .int ((0 : Int32)), .int (v3)]) (h := hM σ) rfl (tX12_within (d + 4) (hM σ) v3 (0 : Int32) (10 : Int32) r3 hr3) ?_
        refine ev_br 0 (P := r3 = 0) (a := 43) (b := 46) (ls := [some (.ref 0), some (.int (v1)), some (.int (v2)), some (.int (v3)), none, none, none, none, none, none, none]) (st := []) (h := hM σ) rfl (fun c4 => ?_) (fun c4 => ?_)
        · rw [if_pos c4] at hf
          cases hf
          exact ev_rt 1 rfl
        · rw [if_neg c4] at hf
          obtain ⟨r4, hr4, hf⟩ := Option.bind_eq_some_iff.mp hf
          refine ev_cli 1 (kk := 164) (as := [.ref 0]) (rest := []) (pc := 47) (ls := [some (.ref 0), some (.int (v1)), some (.int (v2)), some (.int (v3)), none, none, none, none, none, none, none]) (st := [.ref 0]) (h := hM σ) rfl (tX12_areMany (d + 4) σ r4 hr4) ?_
          refine ev_br 0 (P := r4 = 0) (a := 56) (b := 53) (ls := [some (.ref 0), some (.int (v1)), some (.int (v2)), some (.int (v3)), none, none, none, none, none, none, none]) (st := []) (h := hM σ) rfl (fun c5 => ?_) (fun c5 => ?_)
          · rw [if_pos c5] at hf
            refine ev_go (c' := (65, [some (.ref 0), some (.int (v1)), some (.int (v2)), some (.int (v3)), some (.int ((-1 : Int32))), some (.long ((0 : Int64))), none, some (.int ((0 : Int32))), none, none, none], [], hM σ)) 5 rfl ?_
            exact ev_dr (a := [some (.ref 0), some (.int (v1)), some (.int (v2)), some (.int (v3)), some (.int ((-1 : Int32))), some (.long ((0 : Int64))), none, some (.int ((0 : Int32))), none, none, none]) ⟨rfl, ⟨rfl, ⟨rfl, ⟨rfl, ⟨rfl, ⟨rfl, ⟨rfl, trivial⟩⟩⟩⟩⟩⟩⟩ (tX12_next_l65 d 1000 σ v1 v2 v3 (-1 : Int32) (0 : Int64) (0 : Int32) _ hf)
          · rw [if_neg c5] at hf
            cases hf
            exact ev_rt 1 rfl
set_option maxRecDepth 20000 in
set_option maxHeartbeats 4000000 in
theorem tX12_post_b38 (d : Nat) (σ : SM) (q : Int64 × SM) (hf : fX12_post_b38 σ = some q) : ev_X (d + 5) (some .long) eiX12_post (38, [none, none, none, none, none, none, none, none], [], hM σ) (some (.long q.1), hM q.2) := by
  unfold fX12_post_b38 at hf
  cases hf
  exact ev_rt 1 rfl
set_option maxRecDepth 20000 in
set_option maxHeartbeats 4000000 in
theorem tX12_post_b18 (d : Nat) (σ : SM) (q : Int64 × SM) (hf : fX12_post_b18 σ = some q) : ev_X (d + 5) (some .long) eiX12_post (18, [none, none, none, none, none, none, none, none], [], hM σ) (some (.long q.1), hM q.2) := by
  unfold fX12_post_b18 at hf
  cases hf
  exact ev_rt 1 rfl
set_option maxRecDepth 20000 in
set_option maxHeartbeats 4000000 in
theorem tX12_post (d : Nat) (σ : SM) (v1 : Int32) (v2 : Int32) (v3 : Int32) (q : Int64 × SM) (hf : fX12_post σ v1 v2 v3 = some q) : ev_M ev_mt (d + 6) 167 [.ref 0, .int (v1), .int (v2), .int (v3)] (hM σ) (some (.long q.1), hM q.2) := by
  refine ev_en (rt := (some .long)) (I := eiX12_post) rfl (Nat.le_of_ble_eq_true rfl) ?_
  change ev_X (d + 5) _ _ (0, [some (.ref 0), some (.int (v1)), some (.int (v2)), some (.int (v3)), none, none, none, none], [], hM σ) _
  unfold fX12_post at hf
  obtain ⟨r1, hr1, hf⟩ := Option.bind_eq_some_iff.mp hf
  refine ev_cli 2 (kk := 134) (as := [.ref 0, .int (v1)]) (rest := []) (pc := 2) (ls := [some (.ref 0), some (.int (v1)), some (.int (v2)), some (.int (v3)), none, none, none, none]) (st := [.int (v1), .ref 0]) (h := hM σ) rfl (tX12_isCell (d + 3) σ v1 r1 hr1) ?_
  refine ev_br 0 (P := r1 = 0) (a := 18) (b := 8) (ls := [some (.ref 0), some (.int (v1)), some (.int (v2)), some (.int (v3)), none, none, none, none]) (st := []) (h := hM σ) rfl (fun c1 => ?_) (fun c1 => ?_)
  · rw [if_pos c1] at hf
    exact ev_dr (a := [none, none, none, none, none, none, none, none]) trivial (tX12_post_b18 d σ  _ hf)
  · rw [if_neg c1] at hf
    obtain ⟨c2, hf⟩ := ev_hp hf
    refine ev_ck 3 (P := ¬ (v1 < 0 ∨ 36 ≤ v1.toNatClampNeg)) (c' := (14, [some (.ref 0), some (.int (v1)), some (.int (v2)), some (.int (v3)), none, none, none, none], [.int (((gm_rg_cellOf σ) v1.toNatClampNeg))], hM σ)) rfl c2 ?_
    refine ev_br 1 (P := ((gm_rg_cellOf σ) v1.toNatClampNeg) = (2 : Int32)) (a := 22) (b := 18) (ls := [some (.ref 0), some (.int (v1)), some (.int (v2)), some (.int (v3)), none, none, none, none]) (st := []) (h := hM σ) rfl (fun c3 => ?_) (fun c3 => ?_)
    · rw [if_pos c3] at hf
      obtain ⟨r2, hr2, hf⟩ := Option.bind_eq_some_iff.mp hf
      refine ev_cli 3 (kk := 123) (as := [.int (v2), .int ((0 : Int32)), .int ((5 : Int32))]) (rest := []) (pc := 25) (ls := [some (.ref 0), some (.int (v1)), some (.int (v2)), some (.int (v3)), none, none, none, none]) (st := [.int ((5 : Int32)), .int ((0 : Int32)), .int (v2)]) (h := hM σ) rfl (tX12_within (d + 4) (hM σ) v2 (0 : Int32) (5 : Int32) r2 hr2) ?_
      refine ev_br 0 (P := r2 = 0) (a := 38) (b := 31) (ls := [some (.ref 0), some (.int (v1)), some (.int (v2)), some (.int (v3)), none, none, none, none]) (st := []) (h := hM σ) rfl (fun c4 => ?_) (fun c4 => ?_)
      · rw [if_pos c4] at hf
        exact ev_dr (a := [none, none, none, none, none, none, none, none]) trivial (tX12_post_b38 d σ  _ hf)
      · rw [if_neg c4] at hf
        obtain ⟨r3, hr3, hf⟩ := Option.bind_eq_some_iff.mp hf
        refine ev_cli 1 (kk := 156) (as := [.int (v3)]) (rest := []) (pc := 32) (ls := [some (.ref 0), some (.int (v1)), some (.int (v2)), some (.int (v3)), none, none, none, none]) (st := [.int (v3)]) (h := hM σ) rfl (tX12_isPart (d + 3) (hM σ) v3 r3 hr3) ?_
        refine ev_br 0 (P := r3 = 0) (a := 38) (b := 42) (ls := [some (.ref 0), some (.int (v1)), some (.int (v2)), some (.int (v3)), none, none, none, none]) (st := []) (h := hM σ) rfl (fun c5 => ?_) (fun c5 => ?_)
        · rw [if_pos c5] at hf
          exact ev_dr (a := [none, none, none, none, none, none, none, none]) trivial (tX12_post_b38 d σ  _ hf)
        · rw [if_neg c5] at hf
          obtain ⟨r4, hr4, hf⟩ := Option.bind_eq_some_iff.mp hf
          refine ev_cli 1 (kk := 164) (as := [.ref 0]) (rest := []) (pc := 43) (ls := [some (.ref 0), some (.int (v1)), some (.int (v2)), some (.int (v3)), none, none, none, none]) (st := [.ref 0]) (h := hM σ) rfl (tX12_areMany (d + 4) σ r4 hr4) ?_
          refine ev_br 0 (P := r4 = 0) (a := 53) (b := 49) (ls := [some (.ref 0), some (.int (v1)), some (.int (v2)), some (.int (v3)), none, none, none, none]) (st := []) (h := hM σ) rfl (fun c6 => ?_) (fun c6 => ?_)
          · rw [if_pos c6] at hf
            obtain ⟨r5, hr5, hf⟩ := Option.bind_eq_some_iff.mp hf
            refine ev_cll 5 (kk := 163) (as := [.ref 0, .int ((0 : Int32)), .int (v2), .int ((0 : Int32)), .int ((0 : Int32))]) (rest := []) (pc := 58) (ls := [some (.ref 0), some (.int (v1)), some (.int (v2)), some (.int (v3)), none, none, none, none]) (st := [.int ((0 : Int32)), .int ((0 : Int32)), .int (v2), .int ((0 : Int32)), .ref 0]) (h := hM σ) rfl (tX12_expectedNow d σ (0 : Int32) v2 (0 : Int32) (0 : Int32) r5 hr5) ?_
            refine ev_go (c' := (65, [some (.ref 0), some (.int (v1)), some (.int (v2)), some (.int (v3)), some (.long (r5.1)), none, none, none], [.int (v1), .ref 0], hM r5.2)) 2 rfl ?_
            refine ev_st1 (e := (65, .putfield 61, 3, 36, 0, .null, [(12, 0)], [1086])) (c' := (68, [some (.ref 0), some (.int (v1)), some (.int (v2)), some (.int (v3)), some (.long (r5.1)), none, none, none], [], hM (sm_rp_gonePost r5.2 v1))) rfl oy_put_m_rp_gonePost ?_
            obtain ⟨r6, hr6, hf⟩ := Option.bind_eq_some_iff.mp hf
            refine ev_cll 5 (kk := 163) (as := [.ref 0, .int ((0 : Int32)), .int (v2), .int ((0 : Int32)), .int ((0 : Int32))]) (rest := []) (pc := 73) (ls := [some (.ref 0), some (.int (v1)), some (.int (v2)), some (.int (v3)), some (.long (r5.1)), none, none, none]) (st := [.int ((0 : Int32)), .int ((0 : Int32)), .int (v2), .int ((0 : Int32)), .ref 0]) (h := hM (sm_rp_gonePost r5.2 v1)) rfl (tX12_expectedNow d (sm_rp_gonePost r5.2 v1) (0 : Int32) v2 (0 : Int32) (0 : Int32) r6 hr6) ?_
            refine ev_go (c' := (80, [some (.ref 0), some (.int (v1)), some (.int (v2)), some (.int (v3)), some (.long (r5.1)), none, some (.long (r6.1)), none], [.int ((-1 : Int32)), .ref 0], hM r6.2)) 2 rfl ?_
            refine ev_st1 (e := (80, .putfield 61, 3, 36, 0, .null, [(12, 0)], [1086])) (c' := (83, [some (.ref 0), some (.int (v1)), some (.int (v2)), some (.int (v3)), some (.long (r5.1)), none, some (.long (r6.1)), none], [], hM (sm_rp_gonePost r6.2 (-1 : Int32)))) rfl oy_put_m_rp_gonePost ?_
            obtain ⟨r7, hr7, hf⟩ := Option.bind_eq_some_iff.mp hf
            refine ev_cll 5 (kk := 154) (as := [.ref 0]) (rest := [.long ((10 : Int64)), .long ((r5.1 - r6.1))]) (pc := 92) (ls := [some (.ref 0), some (.int (v1)), some (.int (v2)), some (.int (v3)), some (.long (r5.1)), none, some (.long (r6.1)), none]) (st := [.ref 0, .long ((10 : Int64)), .long ((r5.1 - r6.1))]) (h := hM (sm_rp_gonePost r6.2 (-1 : Int32))) rfl (tX12_all (d + 4) (sm_rp_gonePost r6.2 (-1 : Int32)) r7 hr7) ?_
            obtain ⟨r8, hr8, hf⟩ := Option.bind_eq_some_iff.mp hf
            refine ev_cll 2 (kk := 126) (as := [.long ((r5.1 - r6.1)), .long (((10 : Int64) * r7)), .int (v3)]) (rest := []) (pc := 97) (ls := [some (.ref 0), some (.int (v1)), some (.int (v2)), some (.int (v3)), some (.long (r5.1)), none, some (.long (r6.1)), none]) (st := [.int (v3), .long (((10 : Int64) * r7)), .long ((r5.1 - r6.1))]) (h := hM (sm_rp_gonePost r6.2 (-1 : Int32))) rfl (tX12_lowest (d + 3) (hM (sm_rp_gonePost r6.2 (-1 : Int32))) (r5.1 - r6.1) ((10 : Int64) * r7) v3 r8 hr8) ?_
            cases hf
            exact ev_rt 0 rfl
          · rw [if_neg c6] at hf
            cases hf
            exact ev_rt 1 rfl
    · rw [if_neg c3] at hf
      exact ev_dr (a := [none, none, none, none, none, none, none, none]) trivial (tX12_post_b18 d σ  _ hf)
set_option maxRecDepth 20000 in
set_option maxHeartbeats 4000000 in
theorem tX12_isPlayer (d : Nat) (σ : SM) (v1 : Int32) (q : Int32) (hf : fX12_isPlayer σ v1 = some q) : ev_M ev_mt (d + 2) 168 [.ref 0, .int (v1)] (hM σ) (some (.int q), hM σ) := by
  refine ev_en (rt := (some .boolean)) (I := eiX12_isPlayer) rfl (Nat.le_of_ble_eq_true rfl) ?_
  change ev_X (d + 1) _ _ (0, [some (.ref 0), some (.int (v1))], [], hM σ) _
  unfold fX12_isPlayer at hf
  obtain ⟨r1, hr1, hf⟩ := Option.bind_eq_some_iff.mp hf
  refine ev_cli 6 (kk := 123) (as := [.int (v1), .int ((0 : Int32)), .int (((gm_pl_players σ) - (1 : Int32)))]) (rest := []) (pc := 8) (ls := [some (.ref 0), some (.int (v1))]) (st := [.int (((gm_pl_players σ) - (1 : Int32))), .int ((0 : Int32)), .int (v1)]) (h := hM σ) rfl (tX12_within d (hM σ) v1 (0 : Int32) ((gm_pl_players σ) - (1 : Int32)) r1 hr1) ?_
  obtain ⟨c1, hf⟩ := ev_hp hf
  cases hf
  exact ev_rk 0 rfl c1
set_option maxRecDepth 20000 in
set_option maxHeartbeats 4000000 in
theorem tX12_player_b53 (d : Nat) (σ : SM) (q : Int32 × SM) (hf : fX12_player_b53 σ = some q) : ev_X (d + 3) (some .int) eiX12_player (53, [none, none, none, none, none, none], [], hM σ) (some (.int q.1), hM q.2) := by
  unfold fX12_player_b53 at hf
  cases hf
  exact ev_rt 1 rfl
set_option maxRecDepth 20000 in
set_option maxHeartbeats 4000000 in
theorem tX12_player (d : Nat) (σ : SM) (v1 : Int32) (v2 : Int32) (v3 : Int32) (v4 : Int32) (v5 : Int32) (q : Int32 × SM) (hf : fX12_player σ v1 v2 v3 v4 v5 = some q) : ev_M ev_mt (d + 4) 169 [.ref 0, .int (v1), .int (v2), .int (v3), .int (v4), .int (v5)] (hM σ) (some (.int q.1), hM q.2) := by
  refine ev_en (rt := (some .int)) (I := eiX12_player) rfl (Nat.le_of_ble_eq_true rfl) ?_
  change ev_X (d + 3) _ _ (0, [some (.ref 0), some (.int (v1)), some (.int (v2)), some (.int (v3)), some (.int (v4)), some (.int (v5))], [], hM σ) _
  unfold fX12_player at hf
  obtain ⟨r1, hr1, hf⟩ := Option.bind_eq_some_iff.mp hf
  refine ev_cli 3 (kk := 123) (as := [.int (v1), .int ((0 : Int32)), .int ((5 : Int32))]) (rest := []) (pc := 3) (ls := [some (.ref 0), some (.int (v1)), some (.int (v2)), some (.int (v3)), some (.int (v4)), some (.int (v5))]) (st := [.int ((5 : Int32)), .int ((0 : Int32)), .int (v1)]) (h := hM σ) rfl (tX12_within (d + 2) (hM σ) v1 (0 : Int32) (5 : Int32) r1 hr1) ?_
  refine ev_br 0 (P := r1 = 0) (a := 9) (b := 12) (ls := [some (.ref 0), some (.int (v1)), some (.int (v2)), some (.int (v3)), some (.int (v4)), some (.int (v5))]) (st := []) (h := hM σ) rfl (fun c1 => ?_) (fun c1 => ?_)
  · rw [if_pos c1] at hf
    cases hf
    exact ev_rt 1 rfl
  · rw [if_neg c1] at hf
    obtain ⟨r2, hr2, hf⟩ := Option.bind_eq_some_iff.mp hf
    refine ev_cli 2 (kk := 135) (as := [.ref 0, .int (v2)]) (rest := []) (pc := 14) (ls := [some (.ref 0), some (.int (v1)), some (.int (v2)), some (.int (v3)), some (.int (v4)), some (.int (v5))]) (st := [.int (v2), .ref 0]) (h := hM σ) rfl (tX12_isFree d σ v2 r2 hr2) ?_
    refine ev_br 0 (P := r2 = 0) (a := 20) (b := 23) (ls := [some (.ref 0), some (.int (v1)), some (.int (v2)), some (.int (v3)), some (.int (v4)), some (.int (v5))]) (st := []) (h := hM σ) rfl (fun c2 => ?_) (fun c2 => ?_)
    · rw [if_pos c2] at hf
      cases hf
      exact ev_rt 1 rfl
    · rw [if_neg c2] at hf
      obtain ⟨r3, hr3, hf⟩ := Option.bind_eq_some_iff.mp hf
      refine ev_cli 3 (kk := 123) (as := [.int (v3), .int ((0 : Int32)), .int ((9 : Int32))]) (rest := []) (pc := 27) (ls := [some (.ref 0), some (.int (v1)), some (.int (v2)), some (.int (v3)), some (.int (v4)), some (.int (v5))]) (st := [.int ((9 : Int32)), .int ((0 : Int32)), .int (v3)]) (h := hM σ) rfl (tX12_within (d + 2) (hM σ) v3 (0 : Int32) (9 : Int32) r3 hr3) ?_
      refine ev_br 0 (P := r3 = 0) (a := 53) (b := 33) (ls := [some (.ref 0), some (.int (v1)), some (.int (v2)), some (.int (v3)), some (.int (v4)), some (.int (v5))]) (st := []) (h := hM σ) rfl (fun c3 => ?_) (fun c3 => ?_)
      · rw [if_pos c3] at hf
        exact ev_dr (a := [none, none, none, none, none, none]) trivial (tX12_player_b53 d σ  _ hf)
      · rw [if_neg c3] at hf
        obtain ⟨r4, hr4, hf⟩ := Option.bind_eq_some_iff.mp hf
        refine ev_cli 3 (kk := 123) (as := [.int (v4), .int ((0 : Int32)), .int ((4 : Int32))]) (rest := []) (pc := 37) (ls := [some (.ref 0), some (.int (v1)), some (.int (v2)), some (.int (v3)), some (.int (v4)), some (.int (v5))]) (st := [.int ((4 : Int32)), .int ((0 : Int32)), .int (v4)]) (h := hM σ) rfl (tX12_within (d + 2) (hM σ) v4 (0 : Int32) (4 : Int32) r4 hr4) ?_
        refine ev_br 0 (P := r4 = 0) (a := 53) (b := 43) (ls := [some (.ref 0), some (.int (v1)), some (.int (v2)), some (.int (v3)), some (.int (v4)), some (.int (v5))]) (st := []) (h := hM σ) rfl (fun c4 => ?_) (fun c4 => ?_)
        · rw [if_pos c4] at hf
          exact ev_dr (a := [none, none, none, none, none, none]) trivial (tX12_player_b53 d σ  _ hf)
        · rw [if_neg c4] at hf
          obtain ⟨r5, hr5, hf⟩ := Option.bind_eq_some_iff.mp hf
          refine ev_cli 3 (kk := 123) (as := [.int (v5), .int ((0 : Int32)), .int ((4 : Int32))]) (rest := []) (pc := 47) (ls := [some (.ref 0), some (.int (v1)), some (.int (v2)), some (.int (v3)), some (.int (v4)), some (.int (v5))]) (st := [.int ((4 : Int32)), .int ((0 : Int32)), .int (v5)]) (h := hM σ) rfl (tX12_within (d + 2) (hM σ) v5 (0 : Int32) (4 : Int32) r5 hr5) ?_
          refine ev_br 0 (P := r5 = 0) (a := 53) (b := 56) (ls := [some (.ref 0), some (.int (v1)), some (.int (v2)), some (.int (v3)), some (.int (v4)), some (.int (v5))]) (st := []) (h := hM σ) rfl (fun c5 => ?_) (fun c5 => ?_)
          · rw [if_pos c5] at hf
            exact ev_dr (a := [none, none, none, none, none, none]) trivial (tX12_player_b53 d σ  _ hf)
          · rw [if_neg c5] at hf
            refine ev_br 3 (P := (gm_pl_players σ) = (6 : Int32)) (a := 65) (b := 68) (ls := [some (.ref 0), some (.int (v1)), some (.int (v2)), some (.int (v3)), some (.int (v4)), some (.int (v5))]) (st := []) (h := hM σ) rfl (fun c6 => ?_) (fun c6 => ?_)
            · rw [if_pos c6] at hf
              cases hf
              exact ev_rt 1 rfl
            · rw [if_neg c6] at hf
              obtain ⟨c7, hf⟩ := ev_hp hf
              refine ev_go (c' := (77, [some (.ref 0), some (.int (v1)), some (.int (v2)), some (.int (v3)), some (.int (v4)), some (.int (v5))], [.int (v1), .int ((gm_pl_players σ)), .ref 4], hM σ)) 4 rfl ?_
              refine ev_st1 (e := (77, .iastore, 1, 0, 0, .null, [], [])) (c' := (78, [some (.ref 0), some (.int (v1)), some (.int (v2)), some (.int (v3)), some (.int (v4)), some (.int (v5))], [], hM (sm_pl_kindOf σ (upd (gm_pl_kindOf σ) (gm_pl_players σ).toNatClampNeg v1)))) rfl (oy_ast_m_pl_kindOf c7) ?_
              obtain ⟨c8, hf⟩ := ev_hp hf
              refine ev_go (c' := (87, [some (.ref 0), some (.int (v1)), some (.int (v2)), some (.int (v3)), some (.int (v4)), some (.int (v5))], [.int (v2), .int ((gm_pl_players σ)), .ref 5], hM (sm_pl_kindOf σ (upd (gm_pl_kindOf σ) (gm_pl_players σ).toNatClampNeg v1)))) 4 rfl ?_
              refine ev_st1 (e := (87, .iastore, 1, 0, 0, .null, [], [])) (c' := (88, [some (.ref 0), some (.int (v1)), some (.int (v2)), some (.int (v3)), some (.int (v4)), some (.int (v5))], [], hM (sm_pl_placeOf (sm_pl_kindOf σ (upd (gm_pl_kindOf σ) (gm_pl_players σ).toNatClampNeg v1)) (upd (gm_pl_placeOf σ) (gm_pl_players σ).toNatClampNeg v2)))) rfl (oy_ast_m_pl_placeOf c8) ?_
              obtain ⟨c9, hf⟩ := ev_hp hf
              refine ev_go (c' := (97, [some (.ref 0), some (.int (v1)), some (.int (v2)), some (.int (v3)), some (.int (v4)), some (.int (v5))], [.int (v3), .int ((gm_pl_players σ)), .ref 6], hM (sm_pl_placeOf (sm_pl_kindOf σ (upd (gm_pl_kindOf σ) (gm_pl_players σ).toNatClampNeg v1)) (upd (gm_pl_placeOf σ) (gm_pl_players σ).toNatClampNeg v2)))) 4 rfl ?_
              refine ev_st1 (e := (97, .iastore, 1, 0, 0, .null, [], [])) (c' := (98, [some (.ref 0), some (.int (v1)), some (.int (v2)), some (.int (v3)), some (.int (v4)), some (.int (v5))], [], hM (sm_pl_sizeOf (sm_pl_placeOf (sm_pl_kindOf σ (upd (gm_pl_kindOf σ) (gm_pl_players σ).toNatClampNeg v1)) (upd (gm_pl_placeOf σ) (gm_pl_players σ).toNatClampNeg v2)) (upd (gm_pl_sizeOf σ) (gm_pl_players σ).toNatClampNeg v3)))) rfl (oy_ast_m_pl_sizeOf c9) ?_
              obtain ⟨c10, hf⟩ := ev_hp hf
              refine ev_go (c' := (108, [some (.ref 0), some (.int (v1)), some (.int (v2)), some (.int (v3)), some (.int (v4)), some (.int (v5))], [.int (v4), .int ((gm_pl_players σ)), .ref 7], hM (sm_pl_sizeOf (sm_pl_placeOf (sm_pl_kindOf σ (upd (gm_pl_kindOf σ) (gm_pl_players σ).toNatClampNeg v1)) (upd (gm_pl_placeOf σ) (gm_pl_players σ).toNatClampNeg v2)) (upd (gm_pl_sizeOf σ) (gm_pl_players σ).toNatClampNeg v3)))) 4 rfl ?_
              refine ev_st1 (e := (108, .iastore, 1, 0, 0, .null, [], [])) (c' := (109, [some (.ref 0), some (.int (v1)), some (.int (v2)), some (.int (v3)), some (.int (v4)), some (.int (v5))], [], hM (sm_pl_clothOf (sm_pl_sizeOf (sm_pl_placeOf (sm_pl_kindOf σ (upd (gm_pl_kindOf σ) (gm_pl_players σ).toNatClampNeg v1)) (upd (gm_pl_placeOf σ) (gm_pl_players σ).toNatClampNeg v2)) (upd (gm_pl_sizeOf σ) (gm_pl_players σ).toNatClampNeg v3)) (upd (gm_pl_clothOf σ) (gm_pl_players σ).toNatClampNeg v4)))) rfl (oy_ast_m_pl_clothOf c10) ?_
              obtain ⟨c11, hf⟩ := ev_hp hf
              refine ev_go (c' := (119, [some (.ref 0), some (.int (v1)), some (.int (v2)), some (.int (v3)), some (.int (v4)), some (.int (v5))], [.int (v5), .int ((gm_pl_players σ)), .ref 8], hM (sm_pl_clothOf (sm_pl_sizeOf (sm_pl_placeOf (sm_pl_kindOf σ (upd (gm_pl_kindOf σ) (gm_pl_players σ).toNatClampNeg v1)) (upd (gm_pl_placeOf σ) (gm_pl_players σ).toNatClampNeg v2)) (upd (gm_pl_sizeOf σ) (gm_pl_players σ).toNatClampNeg v3)) (upd (gm_pl_clothOf σ) (gm_pl_players σ).toNatClampNeg v4)))) 4 rfl ?_
              refine ev_st1 (e := (119, .iastore, 1, 0, 0, .null, [], [])) (c' := (120, [some (.ref 0), some (.int (v1)), some (.int (v2)), some (.int (v3)), some (.int (v4)), some (.int (v5))], [], hM (sm_pl_giggleOf (sm_pl_clothOf (sm_pl_sizeOf (sm_pl_placeOf (sm_pl_kindOf σ (upd (gm_pl_kindOf σ) (gm_pl_players σ).toNatClampNeg v1)) (upd (gm_pl_placeOf σ) (gm_pl_players σ).toNatClampNeg v2)) (upd (gm_pl_sizeOf σ) (gm_pl_players σ).toNatClampNeg v3)) (upd (gm_pl_clothOf σ) (gm_pl_players σ).toNatClampNeg v4)) (upd (gm_pl_giggleOf σ) (gm_pl_players σ).toNatClampNeg v5)))) rfl (oy_ast_m_pl_giggleOf c11) ?_
              refine ev_go (c' := (127, [some (.ref 0), some (.int (v1)), some (.int (v2)), some (.int (v3)), some (.int (v4)), some (.int (v5))], [.int (((gm_pl_players σ) + (1 : Int32))), .ref 0], hM (sm_pl_giggleOf (sm_pl_clothOf (sm_pl_sizeOf (sm_pl_placeOf (sm_pl_kindOf σ (upd (gm_pl_kindOf σ) (gm_pl_players σ).toNatClampNeg v1)) (upd (gm_pl_placeOf σ) (gm_pl_players σ).toNatClampNeg v2)) (upd (gm_pl_sizeOf σ) (gm_pl_players σ).toNatClampNeg v3)) (upd (gm_pl_clothOf σ) (gm_pl_players σ).toNatClampNeg v4)) (upd (gm_pl_giggleOf σ) (gm_pl_players σ).toNatClampNeg v5)))) 4 rfl ?_
              refine ev_st1 (e := (127, .putfield 105, 3, 7, 0, .null, [(12, 0)], [1057])) (c' := (130, [some (.ref 0), some (.int (v1)), some (.int (v2)), some (.int (v3)), some (.int (v4)), some (.int (v5))], [], hM (sm_pl_players (sm_pl_giggleOf (sm_pl_clothOf (sm_pl_sizeOf (sm_pl_placeOf (sm_pl_kindOf σ (upd (gm_pl_kindOf σ) (gm_pl_players σ).toNatClampNeg v1)) (upd (gm_pl_placeOf σ) (gm_pl_players σ).toNatClampNeg v2)) (upd (gm_pl_sizeOf σ) (gm_pl_players σ).toNatClampNeg v3)) (upd (gm_pl_clothOf σ) (gm_pl_players σ).toNatClampNeg v4)) (upd (gm_pl_giggleOf σ) (gm_pl_players σ).toNatClampNeg v5)) ((gm_pl_players σ) + (1 : Int32))))) rfl oy_put_m_pl_players ?_
              cases hf
              exact ev_rt 4 rfl
set_option maxRecDepth 20000 in
set_option maxHeartbeats 4000000 in
theorem tX12_as_b64 (d : Nat) (σ : SM) (w0 : Int32) (q : Int32) (hf : fX12_as_b64 σ w0 = some q) : ev_X (d + 2) (some .int) eiX12_as (64, [none, none, none, none], [.int (w0)], hM σ) (some (.int q), hM σ) := by
  unfold fX12_as_b64 at hf
  cases hf
  exact ev_rt 0 rfl
set_option maxRecDepth 20000 in
set_option maxHeartbeats 4000000 in
theorem tX12_as_b63 (d : Nat) (σ : SM) (q : Int32) (hf : fX12_as_b63 σ = some q) : ev_X (d + 2) (some .int) eiX12_as (63, [none, none, none, none], [], hM σ) (some (.int q), hM σ) := by
  unfold fX12_as_b63 at hf
  refine ev_go (c' := (64, [none, none, none, none], [.int ((-1 : Int32))], hM σ)) 0 rfl ?_
  exact ev_dr (a := [none, none, none, none]) trivial (tX12_as_b64 d σ (-1 : Int32) _ hf)
set_option maxRecDepth 20000 in
set_option maxHeartbeats 4000000 in
theorem tX12_as_b59 (d : Nat) (σ : SM) (v1 : Int32) (q : Int32) (hf : fX12_as_b59 σ v1 = some q) : ev_X (d + 2) (some .int) eiX12_as (59, [none, some (.int (v1)), none, none], [], hM σ) (some (.int q), hM σ) := by
  unfold fX12_as_b59 at hf
  refine ev_go (c' := (64, [none, some (.int (v1)), none, none], [.int (v1)], hM σ)) 1 rfl ?_
  exact ev_dr (a := [none, none, none, none]) trivial (tX12_as_b64 d σ v1 _ hf)
set_option maxRecDepth 20000 in
set_option maxHeartbeats 4000000 in
theorem tX12_as_b49 (d : Nat) (σ : SM) (v1 : Int32) (v2 : Int32) (v3 : Int32) (q : Int32) (hf : fX12_as_b49 σ v1 v2 v3 = some q) : ev_X (d + 2) (some .int) eiX12_as (49, [none, some (.int (v1)), some (.int (v2)), some (.int (v3))], [], hM σ) (some (.int q), hM σ) := by
  unfold fX12_as_b49 at hf
  refine ev_br 2 (P := v2 = (3 : Int32)) (a := 54) (b := 63) (ls := [none, some (.int (v1)), some (.int (v2)), some (.int (v3))]) (st := []) (h := hM σ) rfl (fun c1 => ?_) (fun c1 => ?_)
  · rw [if_pos c1] at hf
    refine ev_br 2 (P := v3 = (4 : Int32)) (a := 59) (b := 63) (ls := [none, some (.int (v1)), some (.int (v2)), some (.int (v3))]) (st := []) (h := hM σ) rfl (fun c2 => ?_) (fun c2 => ?_)
    · rw [if_pos c2] at hf
      exact ev_dr (a := [none, some (.int (v1)), none, none]) ⟨rfl, trivial⟩ (tX12_as_b59 d σ v1 _ hf)
    · rw [if_neg c2] at hf
      exact ev_dr (a := [none, none, none, none]) trivial (tX12_as_b63 d σ  _ hf)
  · rw [if_neg c1] at hf
    exact ev_dr (a := [none, none, none, none]) trivial (tX12_as_b63 d σ  _ hf)
set_option maxRecDepth 20000 in
set_option maxHeartbeats 4000000 in
theorem tX12_as (d : Nat) (σ : SM) (v1 : Int32) (v2 : Int32) (q : Int32) (hf : fX12_as σ v1 v2 = some q) : ev_M ev_mt (d + 3) 170 [.ref 0, .int (v1), .int (v2)] (hM σ) (some (.int q), hM σ) := by
  refine ev_en (rt := (some .int)) (I := eiX12_as) rfl (Nat.le_of_ble_eq_true rfl) ?_
  change ev_X (d + 2) _ _ (0, [some (.ref 0), some (.int (v1)), some (.int (v2)), none], [], hM σ) _
  unfold fX12_as at hf
  obtain ⟨r1, hr1, hf⟩ := Option.bind_eq_some_iff.mp hf
  refine ev_cli 2 (kk := 168) (as := [.ref 0, .int (v1)]) (rest := []) (pc := 2) (ls := [some (.ref 0), some (.int (v1)), some (.int (v2)), none]) (st := [.int (v1), .ref 0]) (h := hM σ) rfl (tX12_isPlayer d σ v1 r1 hr1) ?_
  refine ev_br 0 (P := r1 = 0) (a := 8) (b := 11) (ls := [some (.ref 0), some (.int (v1)), some (.int (v2)), none]) (st := []) (h := hM σ) rfl (fun c1 => ?_) (fun c1 => ?_)
  · rw [if_pos c1] at hf
    cases hf
    exact ev_rt 1 rfl
  · rw [if_neg c1] at hf
    obtain ⟨r2, hr2, hf⟩ := Option.bind_eq_some_iff.mp hf
    refine ev_cli 3 (kk := 123) (as := [.int (v2), .int ((0 : Int32)), .int ((5 : Int32))]) (rest := []) (pc := 14) (ls := [some (.ref 0), some (.int (v1)), some (.int (v2)), none]) (st := [.int ((5 : Int32)), .int ((0 : Int32)), .int (v2)]) (h := hM σ) rfl (tX12_within (d + 1) (hM σ) v2 (0 : Int32) (5 : Int32) r2 hr2) ?_
    refine ev_br 0 (P := r2 = 0) (a := 20) (b := 23) (ls := [some (.ref 0), some (.int (v1)), some (.int (v2)), none]) (st := []) (h := hM σ) rfl (fun c2 => ?_) (fun c2 => ?_)
    · rw [if_pos c2] at hf
      cases hf
      exact ev_rt 1 rfl
    · rw [if_neg c2] at hf
      obtain ⟨c3, hf⟩ := ev_hp hf
      refine ev_ck 3 (P := ¬ (v1 < 0 ∨ 6 ≤ v1.toNatClampNeg)) (c' := (29, [some (.ref 0), some (.int (v1)), some (.int (v2)), none], [.int (((gm_pl_kindOf σ) v1.toNatClampNeg))], hM σ)) rfl c3 ?_
      refine ev_br 2 (P := v2 = 0) (a := 59) (b := 34) (ls := [some (.ref 0), some (.int (v1)), some (.int (v2)), some (.int (((gm_pl_kindOf σ) v1.toNatClampNeg)))]) (st := []) (h := hM σ) rfl (fun c4 => ?_) (fun c4 => ?_)
      · rw [if_pos c4] at hf
        exact ev_dr (a := [none, some (.int (v1)), none, none]) ⟨rfl, trivial⟩ (tX12_as_b59 d σ v1 _ hf)
      · rw [if_neg c4] at hf
        refine ev_br 2 (P := ((gm_pl_kindOf σ) v1.toNatClampNeg) = v2) (a := 59) (b := 39) (ls := [some (.ref 0), some (.int (v1)), some (.int (v2)), some (.int (((gm_pl_kindOf σ) v1.toNatClampNeg)))]) (st := []) (h := hM σ) rfl (fun c5 => ?_) (fun c5 => ?_)
        · rw [if_pos c5] at hf
          exact ev_dr (a := [none, some (.int (v1)), none, none]) ⟨rfl, trivial⟩ (tX12_as_b59 d σ v1 _ hf)
        · rw [if_neg c5] at hf
          refine ev_br 2 (P := v2 = (1 : Int32)) (a := 44) (b := 49) (ls := [some (.ref 0), some (.int (v1)), some (.int (v2)), some (.int (((gm_pl_kindOf σ) v1.toNatClampNeg)))]) (st := []) (h := hM σ) rfl (fun c6 => ?_) (fun c6 => ?_)
          · rw [if_pos c6] at hf
            refine ev_br 2 (P := ((gm_pl_kindOf σ) v1.toNatClampNeg) = (2 : Int32)) (a := 59) (b := 49) (ls := [some (.ref 0), some (.int (v1)), some (.int (v2)), some (.int (((gm_pl_kindOf σ) v1.toNatClampNeg)))]) (st := []) (h := hM σ) rfl (fun c7 => ?_) (fun c7 => ?_)
            · rw [if_pos c7] at hf
              exact ev_dr (a := [none, some (.int (v1)), none, none]) ⟨rfl, trivial⟩ (tX12_as_b59 d σ v1 _ hf)
            · rw [if_neg c7] at hf
              exact ev_dr (a := [none, some (.int (v1)), some (.int (v2)), some (.int (((gm_pl_kindOf σ) v1.toNatClampNeg)))]) ⟨rfl, ⟨rfl, ⟨rfl, trivial⟩⟩⟩ (tX12_as_b49 d σ v1 v2 ((gm_pl_kindOf σ) v1.toNatClampNeg) _ hf)
          · rw [if_neg c6] at hf
            exact ev_dr (a := [none, some (.int (v1)), some (.int (v2)), some (.int (((gm_pl_kindOf σ) v1.toNatClampNeg)))]) ⟨rfl, ⟨rfl, ⟨rfl, trivial⟩⟩⟩ (tX12_as_b49 d σ v1 v2 ((gm_pl_kindOf σ) v1.toNatClampNeg) _ hf)
set_option maxRecDepth 20000 in
set_option maxHeartbeats 4000000 in
theorem tX12_playerTold (d : Nat) (σ : SM) (v1 : Int32) (v2 : Int32) (q : Int32) (hf : fX12_playerTold σ v1 v2 = some q) : ev_M ev_mt (d + 1) 171 [.ref 0, .int (v1), .int (v2)] (hM σ) (some (.int q), hM σ) := by
  refine ev_en (rt := (some .int)) (I := eiX12_playerTold) rfl (Nat.le_of_ble_eq_true rfl) ?_
  change ev_X d _ _ (0, [some (.ref 0), some (.int (v1)), some (.int (v2))], [], hM σ) _
  unfold fX12_playerTold at hf
  refine ev_go (c' := (ev_sw [(0, 32), (1, 39), (2, 46), (3, 53)] v2 60, [some (.ref 0), some (.int (v1)), some (.int (v2))], [], hM σ)) 1 rfl ?_
  by_cases c1 : v2 = (0 : Int32)
  · rw [if_pos c1] at hf
    have hs : ev_sw [(0, 32), (1, 39), (2, 46), (3, 53)] v2 60 = 32 := if_pos c1
    rw [hs]
    obtain ⟨c2, hf⟩ := ev_hp hf
    refine ev_ck 3 (P := ¬ (v1 < 0 ∨ 6 ≤ v1.toNatClampNeg)) (c' := (38, [some (.ref 0), some (.int (v1)), some (.int (v2))], [.int (((gm_pl_kindOf σ) v1.toNatClampNeg))], hM σ)) rfl c2 ?_
    cases hf
    exact ev_rt 0 rfl
  rw [if_neg c1] at hf
  by_cases c3 : v2 = (1 : Int32)
  · rw [if_pos c3] at hf
    have hs : ev_sw [(0, 32), (1, 39), (2, 46), (3, 53)] v2 60 = 39 := (if_neg c1).trans (if_pos c3)
    rw [hs]
    obtain ⟨c4, hf⟩ := ev_hp hf
    refine ev_ck 3 (P := ¬ (v1 < 0 ∨ 6 ≤ v1.toNatClampNeg)) (c' := (45, [some (.ref 0), some (.int (v1)), some (.int (v2))], [.int (((gm_pl_placeOf σ) v1.toNatClampNeg))], hM σ)) rfl c4 ?_
    cases hf
    exact ev_rt 0 rfl
  rw [if_neg c3] at hf
  by_cases c5 : v2 = (2 : Int32)
  · rw [if_pos c5] at hf
    have hs : ev_sw [(0, 32), (1, 39), (2, 46), (3, 53)] v2 60 = 46 := (if_neg c1).trans ((if_neg c3).trans (if_pos c5))
    rw [hs]
    obtain ⟨c6, hf⟩ := ev_hp hf
    refine ev_ck 3 (P := ¬ (v1 < 0 ∨ 6 ≤ v1.toNatClampNeg)) (c' := (52, [some (.ref 0), some (.int (v1)), some (.int (v2))], [.int (((gm_pl_sizeOf σ) v1.toNatClampNeg))], hM σ)) rfl c6 ?_
    cases hf
    exact ev_rt 0 rfl
  rw [if_neg c5] at hf
  by_cases c7 : v2 = (3 : Int32)
  · rw [if_pos c7] at hf
    have hs : ev_sw [(0, 32), (1, 39), (2, 46), (3, 53)] v2 60 = 53 := (if_neg c1).trans ((if_neg c3).trans ((if_neg c5).trans (if_pos c7)))
    rw [hs]
    obtain ⟨c8, hf⟩ := ev_hp hf
    refine ev_ck 3 (P := ¬ (v1 < 0 ∨ 6 ≤ v1.toNatClampNeg)) (c' := (59, [some (.ref 0), some (.int (v1)), some (.int (v2))], [.int (((gm_pl_clothOf σ) v1.toNatClampNeg))], hM σ)) rfl c8 ?_
    cases hf
    exact ev_rt 0 rfl
  rw [if_neg c7] at hf
  have hs : ev_sw [(0, 32), (1, 39), (2, 46), (3, 53)] v2 60 = 60 := (if_neg c1).trans ((if_neg c3).trans ((if_neg c5).trans ((if_neg c7).trans (rfl))))
  rw [hs]
  obtain ⟨c9, hf⟩ := ev_hp hf
  refine ev_ck 3 (P := ¬ (v1 < 0 ∨ 6 ≤ v1.toNatClampNeg)) (c' := (66, [some (.ref 0), some (.int (v1)), some (.int (v2))], [.int (((gm_pl_giggleOf σ) v1.toNatClampNeg))], hM σ)) rfl c9 ?_
  cases hf
  exact ev_rt 0 rfl
set_option maxRecDepth 20000 in
set_option maxHeartbeats 4000000 in
theorem tX12_about_b33 (d : Nat) (σ : SM) (w0 : Int32) (q : Int32) (hf : fX12_about_b33 σ w0 = some q) : ev_X (d + 2) (some .int) eiX12_about (33, [none, none, none], [.int (w0)], hM σ) (some (.int q), hM σ) := by
  unfold fX12_about_b33 at hf
  cases hf
  exact ev_rt 0 rfl
set_option maxRecDepth 20000 in
set_option maxHeartbeats 4000000 in
theorem tX12_about (d : Nat) (σ : SM) (v1 : Int32) (v2 : Int32) (q : Int32) (hf : fX12_about σ v1 v2 = some q) : ev_M ev_mt (d + 3) 172 [.ref 0, .int (v1), .int (v2)] (hM σ) (some (.int q), hM σ) := by
  refine ev_en (rt := (some .int)) (I := eiX12_about) rfl (Nat.le_of_ble_eq_true rfl) ?_
  change ev_X (d + 2) _ _ (0, [some (.ref 0), some (.int (v1)), some (.int (v2))], [], hM σ) _
  unfold fX12_about at hf
  obtain ⟨r1, hr1, hf⟩ := Option.bind_eq_some_iff.mp hf
  refine ev_cli 2 (kk := 168) (as := [.ref 0, .int (v1)]) (rest := []) (pc := 2) (ls := [some (.ref 0), some (.int (v1)), some (.int (v2))]) (st := [.int (v1), .ref 0]) (h := hM σ) rfl (tX12_isPlayer d σ v1 r1 hr1) ?_
  refine ev_br 0 (P := r1 = 0) (a := 8) (b := 13) (ls := [some (.ref 0), some (.int (v1)), some (.int (v2))]) (st := []) (h := hM σ) rfl (fun c1 => ?_) (fun c1 => ?_)
  · rw [if_pos c1] at hf
    refine ev_go (c' := (33, [some (.ref 0), some (.int (v1)), some (.int (v2))], [.int ((-101 : Int32))], hM σ)) 1 rfl ?_
    exact ev_dr (a := [none, none, none]) trivial (tX12_about_b33 d σ (-101 : Int32) _ hf)
  · rw [if_neg c1] at hf
    obtain ⟨r2, hr2, hf⟩ := Option.bind_eq_some_iff.mp hf
    refine ev_cli 3 (kk := 123) (as := [.int (v2), .int ((0 : Int32)), .int ((4 : Int32))]) (rest := []) (pc := 16) (ls := [some (.ref 0), some (.int (v1)), some (.int (v2))]) (st := [.int ((4 : Int32)), .int ((0 : Int32)), .int (v2)]) (h := hM σ) rfl (tX12_within (d + 1) (hM σ) v2 (0 : Int32) (4 : Int32) r2 hr2) ?_
    refine ev_br 0 (P := r2 = 0) (a := 31) (b := 22) (ls := [some (.ref 0), some (.int (v1)), some (.int (v2))]) (st := []) (h := hM σ) rfl (fun c2 => ?_) (fun c2 => ?_)
    · rw [if_pos c2] at hf
      refine ev_go (c' := (33, [some (.ref 0), some (.int (v1)), some (.int (v2))], [.int ((-102 : Int32))], hM σ)) 0 rfl ?_
      exact ev_dr (a := [none, none, none]) trivial (tX12_about_b33 d σ (-102 : Int32) _ hf)
    · rw [if_neg c2] at hf
      obtain ⟨r3, hr3, hf⟩ := Option.bind_eq_some_iff.mp hf
      refine ev_cli 3 (kk := 171) (as := [.ref 0, .int (v1), .int (v2)]) (rest := []) (pc := 25) (ls := [some (.ref 0), some (.int (v1)), some (.int (v2))]) (st := [.int (v2), .int (v1), .ref 0]) (h := hM σ) rfl (tX12_playerTold (d + 1) σ v1 v2 r3 hr3) ?_
      refine ev_go (c' := (33, [some (.ref 0), some (.int (v1)), some (.int (v2))], [.int (r3)], hM σ)) 0 rfl ?_
      exact ev_dr (a := [none, none, none]) trivial (tX12_about_b33 d σ r3 _ hf)
set_option maxRecDepth 20000 in
set_option maxHeartbeats 4000000 in
theorem tX12_move_b16 (d : Nat) (σ : SM) (q : Int32 × SM) (hf : fX12_move_b16 σ = some q) : ev_X (d + 3) (some .int) eiX12_move (16, [none, none, none, none], [], hM σ) (some (.int q.1), hM q.2) := by
  unfold fX12_move_b16 at hf
  cases hf
  exact ev_rt 1 rfl
set_option maxRecDepth 20000 in
set_option maxHeartbeats 4000000 in
theorem tX12_move (d : Nat) (σ : SM) (v1 : Int32) (v2 : Int32) (q : Int32 × SM) (hf : fX12_move σ v1 v2 = some q) : ev_M ev_mt (d + 4) 173 [.ref 0, .int (v1), .int (v2)] (hM σ) (some (.int q.1), hM q.2) := by
  refine ev_en (rt := (some .int)) (I := eiX12_move) rfl (Nat.le_of_ble_eq_true rfl) ?_
  change ev_X (d + 3) _ _ (0, [some (.ref 0), some (.int (v1)), some (.int (v2)), none], [], hM σ) _
  unfold fX12_move at hf
  obtain ⟨r1, hr1, hf⟩ := Option.bind_eq_some_iff.mp hf
  refine ev_cli 2 (kk := 168) (as := [.ref 0, .int (v1)]) (rest := []) (pc := 2) (ls := [some (.ref 0), some (.int (v1)), some (.int (v2)), none]) (st := [.int (v1), .ref 0]) (h := hM σ) rfl (tX12_isPlayer (d + 1) σ v1 r1 hr1) ?_
  refine ev_br 0 (P := r1 = 0) (a := 16) (b := 8) (ls := [some (.ref 0), some (.int (v1)), some (.int (v2)), none]) (st := []) (h := hM σ) rfl (fun c1 => ?_) (fun c1 => ?_)
  · rw [if_pos c1] at hf
    exact ev_dr (a := [none, none, none, none]) trivial (tX12_move_b16 d σ  _ hf)
  · rw [if_neg c1] at hf
    obtain ⟨r2, hr2, hf⟩ := Option.bind_eq_some_iff.mp hf
    refine ev_cli 2 (kk := 135) (as := [.ref 0, .int (v2)]) (rest := []) (pc := 10) (ls := [some (.ref 0), some (.int (v1)), some (.int (v2)), none]) (st := [.int (v2), .ref 0]) (h := hM σ) rfl (tX12_isFree d σ v2 r2 hr2) ?_
    refine ev_br 0 (P := r2 = 0) (a := 16) (b := 19) (ls := [some (.ref 0), some (.int (v1)), some (.int (v2)), none]) (st := []) (h := hM σ) rfl (fun c2 => ?_) (fun c2 => ?_)
    · rw [if_pos c2] at hf
      exact ev_dr (a := [none, none, none, none]) trivial (tX12_move_b16 d σ  _ hf)
    · rw [if_neg c2] at hf
      obtain ⟨c3, hf⟩ := ev_hp hf
      refine ev_ck 3 (P := ¬ (v1 < 0 ∨ 6 ≤ v1.toNatClampNeg)) (c' := (25, [some (.ref 0), some (.int (v1)), some (.int (v2)), none], [.int (((gm_pl_placeOf σ) v1.toNatClampNeg))], hM σ)) rfl c3 ?_
      obtain ⟨c4, hf⟩ := ev_hp hf
      refine ev_go (c' := (32, [some (.ref 0), some (.int (v1)), some (.int (v2)), some (.int (((gm_pl_placeOf σ) v1.toNatClampNeg)))], [.int (v2), .int (v1), .ref 5], hM σ)) 4 rfl ?_
      refine ev_st1 (e := (32, .iastore, 1, 0, 0, .null, [], [])) (c' := (33, [some (.ref 0), some (.int (v1)), some (.int (v2)), some (.int (((gm_pl_placeOf σ) v1.toNatClampNeg)))], [], hM (sm_pl_placeOf σ (upd (gm_pl_placeOf σ) v1.toNatClampNeg v2)))) rfl (oy_ast_m_pl_placeOf c4) ?_
      cases hf
      exact ev_rt 1 rfl
set_option maxRecDepth 20000 in
set_option maxHeartbeats 4000000 in
theorem tX12_draw (d : Nat) (σ : SM) (v1 : Int32) (q : Int32 × SM) (hf : fX12_draw σ v1 = some q) : ev_M ev_mt (d + 1) 174 [.ref 0, .int (v1)] (hM σ) (some (.int q.1), hM q.2) := by
  refine ev_en (rt := (some .int)) (I := eiX12_draw) rfl (Nat.le_of_ble_eq_true rfl) ?_
  change ev_X d _ _ (0, [some (.ref 0), some (.int (v1))], [], hM σ) _
  unfold fX12_draw at hf
  refine ev_go (c' := (17, [some (.ref 0), some (.int (v1))], [.long (((((1103515245 : Int64) * (gm_gm_seedNow σ)) + (12345 : Int64)) &&& (2147483647 : Int64))), .ref 0], hM σ)) 8 rfl ?_
  refine ev_st1 (e := (17, .putfield 226, 3, 39, 1, .null, [(12, 0)], [1089])) (c' := (20, [some (.ref 0), some (.int (v1))], [], hM (sm_gm_seedNow σ ((((1103515245 : Int64) * (gm_gm_seedNow σ)) + (12345 : Int64)) &&& (2147483647 : Int64))))) rfl oy_put_m_gm_seedNow ?_
  obtain ⟨c1, hf⟩ := ev_hp hf
  refine ev_ck 6 (P := ¬ v1.toInt64 = 0) (c' := (31, [some (.ref 0), some (.int (v1))], [.long (((((((1103515245 : Int64) * (gm_gm_seedNow σ)) + (12345 : Int64)) &&& (2147483647 : Int64)) / (65536 : Int64)) - (((((1103515245 : Int64) * (gm_gm_seedNow σ)) + (12345 : Int64)) &&& (2147483647 : Int64)) / (65536 : Int64)) / v1.toInt64 * v1.toInt64))], hM (sm_gm_seedNow σ ((((1103515245 : Int64) * (gm_gm_seedNow σ)) + (12345 : Int64)) &&& (2147483647 : Int64))))) rfl c1 ?_
  cases hf
  exact ev_rt 1 rfl
set_option maxRecDepth 20000 in
set_option maxHeartbeats 4000000 in
theorem tX12_far (d : Nat) (σ : SM) (v1 : Int32) (v2 : Int32) (v3 : Int32) (q : Int32) (hf : fX12_far σ v1 v2 v3 = some q) : ev_M ev_mt (d + 2) 175 [.ref 0, .int (v1), .int (v2), .int (v3)] (hM σ) (some (.int q), hM σ) := by
  refine ev_en (rt := (some .int)) (I := eiX12_far) rfl (Nat.le_of_ble_eq_true rfl) ?_
  change ev_X (d + 1) _ _ (0, [some (.ref 0), some (.int (v1)), some (.int (v2)), some (.int (v3))], [], hM σ) _
  unfold fX12_far at hf
  obtain ⟨c1, hf⟩ := ev_hp hf
  refine ev_ck 3 (P := ¬ (gm_rg_columns σ) = 0) (c' := (6, [some (.ref 0), some (.int (v1)), some (.int (v2)), some (.int (v3))], [.int ((v1 / (gm_rg_columns σ)))], hM σ)) rfl c1 ?_
  obtain ⟨r1, hr1, hf⟩ := Option.bind_eq_some_iff.mp hf
  refine ev_cli 2 (kk := 124) (as := [.int (((v1 / (gm_rg_columns σ)) - v2))]) (rest := []) (pc := 8) (ls := [some (.ref 0), some (.int (v1)), some (.int (v2)), some (.int (v3))]) (st := [.int (((v1 / (gm_rg_columns σ)) - v2))]) (h := hM σ) rfl (tX12_size d (hM σ) ((v1 / (gm_rg_columns σ)) - v2) r1 hr1) ?_
  obtain ⟨c2, hf⟩ := ev_hp hf
  refine ev_ck 3 (P := ¬ (gm_rg_columns σ) = 0) (c' := (17, [some (.ref 0), some (.int (v1)), some (.int (v2)), some (.int (v3))], [.int ((v1 - v1 / (gm_rg_columns σ) * (gm_rg_columns σ))), .int (r1)], hM σ)) rfl c2 ?_
  obtain ⟨r2, hr2, hf⟩ := Option.bind_eq_some_iff.mp hf
  refine ev_cli 2 (kk := 124) (as := [.int (((v1 - v1 / (gm_rg_columns σ) * (gm_rg_columns σ)) - v3))]) (rest := [.int (r1)]) (pc := 19) (ls := [some (.ref 0), some (.int (v1)), some (.int (v2)), some (.int (v3))]) (st := [.int (((v1 - v1 / (gm_rg_columns σ) * (gm_rg_columns σ)) - v3)), .int (r1)]) (h := hM σ) rfl (tX12_size d (hM σ) ((v1 - v1 / (gm_rg_columns σ) * (gm_rg_columns σ)) - v3) r2 hr2) ?_
  cases hf
  exact ev_rt 1 rfl
set_option maxRecDepth 20000 in
set_option maxHeartbeats 4000000 in
theorem tX12_goes_b95 (d : Nat) (σ : SM) (k6 : Int32 → Int32 → Int32 → Int32 → Int32 → Int32 → Option (Int32)) (hk6 : ∀ (v1 : Int32) (v2 : Int32) (v3 : Int32) (v4 : Int32) (v5 : Int32) (v6 : Int32) (q : Int32), k6 v1 v2 v3 v4 v5 v6 = some q → ev_X (d + 3) (some .int) eiX12_goes (6, [some (.ref 0), some (.int (v1)), some (.int (v2)), some (.int (v3)), some (.int (v4)), some (.int (v5)), some (.int (v6)), none, none, none], [], hM σ) (some (.int q), hM σ)) (v1 : Int32) (v2 : Int32) (v3 : Int32) (v4 : Int32) (v6 : Int32) (w0 : Int32) (q : Int32) (hf : fX12_goes_b95 σ k6 v1 v2 v3 v4 v6 w0 = some q) : ev_X (d + 3) (some .int) eiX12_goes (95, [some (.ref 0), some (.int (v1)), some (.int (v2)), some (.int (v3)), some (.int (v4)), none, some (.int (v6)), none, none, none], [.int (w0)], hM σ) (some (.int q), hM σ) := by
  unfold fX12_goes_b95 at hf
  refine ev_go (c' := (6, [some (.ref 0), some (.int (v1)), some (.int (v2)), some (.int (v3)), some (.int (v4)), some (.int (w0)), some (.int ((v6 + (1 : Int32)))), none, none, none], [], hM σ)) 2 rfl ?_
  exact ev_dr (a := [some (.ref 0), some (.int (v1)), some (.int (v2)), some (.int (v3)), some (.int (v4)), some (.int (w0)), some (.int ((v6 + (1 : Int32)))), none, none, none]) ⟨rfl, ⟨rfl, ⟨rfl, ⟨rfl, ⟨rfl, ⟨rfl, ⟨rfl, trivial⟩⟩⟩⟩⟩⟩⟩ (hk6 v1 v2 v3 v4 w0 (v6 + (1 : Int32)) _ hf)
set_option maxRecDepth 20000 in
set_option maxHeartbeats 4000000 in
theorem tX12_goes_b93 (d : Nat) (σ : SM) (k6 : Int32 → Int32 → Int32 → Int32 → Int32 → Int32 → Option (Int32)) (hk6 : ∀ (v1 : Int32) (v2 : Int32) (v3 : Int32) (v4 : Int32) (v5 : Int32) (v6 : Int32) (q : Int32), k6 v1 v2 v3 v4 v5 v6 = some q → ev_X (d + 3) (some .int) eiX12_goes (6, [some (.ref 0), some (.int (v1)), some (.int (v2)), some (.int (v3)), some (.int (v4)), some (.int (v5)), some (.int (v6)), none, none, none], [], hM σ) (some (.int q), hM σ)) (v1 : Int32) (v2 : Int32) (v3 : Int32) (v4 : Int32) (v5 : Int32) (v6 : Int32) (q : Int32) (hf : fX12_goes_b93 σ k6 v1 v2 v3 v4 v5 v6 = some q) : ev_X (d + 3) (some .int) eiX12_goes (93, [some (.ref 0), some (.int (v1)), some (.int (v2)), some (.int (v3)), some (.int (v4)), some (.int (v5)), some (.int (v6)), none, none, none], [], hM σ) (some (.int q), hM σ) := by
  unfold fX12_goes_b93 at hf
  refine ev_go (c' := (95, [some (.ref 0), some (.int (v1)), some (.int (v2)), some (.int (v3)), some (.int (v4)), some (.int (v5)), some (.int (v6)), none, none, none], [.int (v5)], hM σ)) 0 rfl ?_
  exact ev_dr (a := [some (.ref 0), some (.int (v1)), some (.int (v2)), some (.int (v3)), some (.int (v4)), none, some (.int (v6)), none, none, none]) ⟨rfl, ⟨rfl, ⟨rfl, ⟨rfl, ⟨rfl, ⟨rfl, trivial⟩⟩⟩⟩⟩⟩ (tX12_goes_b95 d σ k6 hk6 v1 v2 v3 v4 v6 v5 _ hf)
set_option maxRecDepth 20000 in
set_option maxHeartbeats 4000000 in
theorem tX12_goes_b88 (d : Nat) (σ : SM) (k6 : Int32 → Int32 → Int32 → Int32 → Int32 → Int32 → Option (Int32)) (hk6 : ∀ (v1 : Int32) (v2 : Int32) (v3 : Int32) (v4 : Int32) (v5 : Int32) (v6 : Int32) (q : Int32), k6 v1 v2 v3 v4 v5 v6 = some q → ev_X (d + 3) (some .int) eiX12_goes (6, [some (.ref 0), some (.int (v1)), some (.int (v2)), some (.int (v3)), some (.int (v4)), some (.int (v5)), some (.int (v6)), none, none, none], [], hM σ) (some (.int q), hM σ)) (v1 : Int32) (v2 : Int32) (v3 : Int32) (v4 : Int32) (v6 : Int32) (v7 : Int32) (q : Int32) (hf : fX12_goes_b88 σ k6 v1 v2 v3 v4 v6 v7 = some q) : ev_X (d + 3) (some .int) eiX12_goes (88, [some (.ref 0), some (.int (v1)), some (.int (v2)), some (.int (v3)), some (.int (v4)), none, some (.int (v6)), some (.int (v7)), none, none], [], hM σ) (some (.int q), hM σ) := by
  unfold fX12_goes_b88 at hf
  refine ev_go (c' := (95, [some (.ref 0), some (.int (v1)), some (.int (v2)), some (.int (v3)), some (.int (v4)), none, some (.int (v6)), some (.int (v7)), none, none], [.int (v7)], hM σ)) 1 rfl ?_
  exact ev_dr (a := [some (.ref 0), some (.int (v1)), some (.int (v2)), some (.int (v3)), some (.int (v4)), none, some (.int (v6)), none, none, none]) ⟨rfl, ⟨rfl, ⟨rfl, ⟨rfl, ⟨rfl, ⟨rfl, trivial⟩⟩⟩⟩⟩⟩ (tX12_goes_b95 d σ k6 hk6 v1 v2 v3 v4 v6 v7 _ hf)
set_option maxRecDepth 20000 in
set_option maxHeartbeats 4000000 in
theorem tX12_goes_b39 (d : Nat) (σ : SM) (k6 : Int32 → Int32 → Int32 → Int32 → Int32 → Int32 → Option (Int32)) (hk6 : ∀ (v1 : Int32) (v2 : Int32) (v3 : Int32) (v4 : Int32) (v5 : Int32) (v6 : Int32) (q : Int32), k6 v1 v2 v3 v4 v5 v6 = some q → ev_X (d + 3) (some .int) eiX12_goes (6, [some (.ref 0), some (.int (v1)), some (.int (v2)), some (.int (v3)), some (.int (v4)), some (.int (v5)), some (.int (v6)), none, none, none], [], hM σ) (some (.int q), hM σ)) (v1 : Int32) (v2 : Int32) (v3 : Int32) (v4 : Int32) (v5 : Int32) (v6 : Int32) (v7 : Int32) (w0 : Int32) (q : Int32) (hf : fX12_goes_b39 σ k6 v1 v2 v3 v4 v5 v6 v7 w0 = some q) : ev_X (d + 3) (some .int) eiX12_goes (39, [some (.ref 0), some (.int (v1)), some (.int (v2)), some (.int (v3)), some (.int (v4)), some (.int (v5)), some (.int (v6)), some (.int (v7)), none, none], [.int (w0)], hM σ) (some (.int q), hM σ) := by
  unfold fX12_goes_b39 at hf
  obtain ⟨r1, hr1, hf⟩ := Option.bind_eq_some_iff.mp hf
  refine ev_cli 5 (kk := 175) (as := [.ref 0, .int (v5), .int (v2), .int (v3)]) (rest := []) (pc := 46) (ls := [some (.ref 0), some (.int (v1)), some (.int (v2)), some (.int (v3)), some (.int (v4)), some (.int (v5)), some (.int (v6)), some (.int (v7)), some (.int (w0)), none]) (st := [.int (v3), .int (v2), .int (v5), .ref 0]) (h := hM σ) rfl (tX12_far (d + 1) σ v5 v2 v3 r1 hr1) ?_
  refine ev_br 3 (P := v7 = (-1 : Int32)) (a := 93) (b := 57) (ls := [some (.ref 0), some (.int (v1)), some (.int (v2)), some (.int (v3)), some (.int (v4)), some (.int (v5)), some (.int (v6)), some (.int (v7)), some (.int (w0)), some (.int (r1))]) (st := []) (h := hM σ) rfl (fun c1 => ?_) (fun c1 => ?_)
  · rw [if_pos c1] at hf
    exact ev_dr (a := [some (.ref 0), some (.int (v1)), some (.int (v2)), some (.int (v3)), some (.int (v4)), some (.int (v5)), some (.int (v6)), none, none, none]) ⟨rfl, ⟨rfl, ⟨rfl, ⟨rfl, ⟨rfl, ⟨rfl, ⟨rfl, trivial⟩⟩⟩⟩⟩⟩⟩ (tX12_goes_b93 d σ k6 hk6 v1 v2 v3 v4 v5 v6 _ hf)
  · rw [if_neg c1] at hf
    obtain ⟨r2, hr2, hf⟩ := Option.bind_eq_some_iff.mp hf
    refine ev_cli 2 (kk := 135) (as := [.ref 0, .int (v7)]) (rest := []) (pc := 60) (ls := [some (.ref 0), some (.int (v1)), some (.int (v2)), some (.int (v3)), some (.int (v4)), some (.int (v5)), some (.int (v6)), some (.int (v7)), some (.int (w0)), some (.int (r1))]) (st := [.int (v7), .ref 0]) (h := hM σ) rfl (tX12_isFree d σ v7 r2 hr2) ?_
    refine ev_br 0 (P := r2 = 0) (a := 93) (b := 66) (ls := [some (.ref 0), some (.int (v1)), some (.int (v2)), some (.int (v3)), some (.int (v4)), some (.int (v5)), some (.int (v6)), some (.int (v7)), some (.int (w0)), some (.int (r1))]) (st := []) (h := hM σ) rfl (fun c2 => ?_) (fun c2 => ?_)
    · rw [if_pos c2] at hf
      exact ev_dr (a := [some (.ref 0), some (.int (v1)), some (.int (v2)), some (.int (v3)), some (.int (v4)), some (.int (v5)), some (.int (v6)), none, none, none]) ⟨rfl, ⟨rfl, ⟨rfl, ⟨rfl, ⟨rfl, ⟨rfl, ⟨rfl, trivial⟩⟩⟩⟩⟩⟩⟩ (tX12_goes_b93 d σ k6 hk6 v1 v2 v3 v4 v5 v6 _ hf)
    · rw [if_neg c2] at hf
      refine ev_br 1 (P := v4 = 0) (a := 81) (b := 71) (ls := [some (.ref 0), some (.int (v1)), some (.int (v2)), some (.int (v3)), some (.int (v4)), some (.int (v5)), some (.int (v6)), some (.int (v7)), some (.int (w0)), some (.int (r1))]) (st := []) (h := hM σ) rfl (fun c3 => ?_) (fun c3 => ?_)
      · rw [if_pos c3] at hf
        refine ev_br 2 (P := w0 < r1) (a := 88) (b := 93) (ls := [some (.ref 0), some (.int (v1)), some (.int (v2)), some (.int (v3)), some (.int (v4)), some (.int (v5)), some (.int (v6)), some (.int (v7)), some (.int (w0)), some (.int (r1))]) (st := []) (h := hM σ) rfl (fun c4 => ?_) (fun c4 => ?_)
        · rw [if_pos c4] at hf
          exact ev_dr (a := [some (.ref 0), some (.int (v1)), some (.int (v2)), some (.int (v3)), some (.int (v4)), none, some (.int (v6)), some (.int (v7)), none, none]) ⟨rfl, ⟨rfl, ⟨rfl, ⟨rfl, ⟨rfl, ⟨rfl, ⟨rfl, trivial⟩⟩⟩⟩⟩⟩⟩ (tX12_goes_b88 d σ k6 hk6 v1 v2 v3 v4 v6 v7 _ hf)
        · rw [if_neg c4] at hf
          exact ev_dr (a := [some (.ref 0), some (.int (v1)), some (.int (v2)), some (.int (v3)), some (.int (v4)), some (.int (v5)), some (.int (v6)), none, none, none]) ⟨rfl, ⟨rfl, ⟨rfl, ⟨rfl, ⟨rfl, ⟨rfl, ⟨rfl, trivial⟩⟩⟩⟩⟩⟩⟩ (tX12_goes_b93 d σ k6 hk6 v1 v2 v3 v4 v5 v6 _ hf)
      · rw [if_neg c3] at hf
        refine ev_br 2 (P := r1 < w0) (a := 78) (b := 93) (ls := [some (.ref 0), some (.int (v1)), some (.int (v2)), some (.int (v3)), some (.int (v4)), some (.int (v5)), some (.int (v6)), some (.int (v7)), some (.int (w0)), some (.int (r1))]) (st := []) (h := hM σ) rfl (fun c5 => ?_) (fun c5 => ?_)
        · rw [if_pos c5] at hf
          refine ev_go (c' := (88, [some (.ref 0), some (.int (v1)), some (.int (v2)), some (.int (v3)), some (.int (v4)), some (.int (v5)), some (.int (v6)), some (.int (v7)), some (.int (w0)), some (.int (r1))], [], hM σ)) 0 rfl ?_
          exact ev_dr (a := [some (.ref 0), some (.int (v1)), some (.int (v2)), some (.int (v3)), some (.int (v4)), none, some (.int (v6)), some (.int (v7)), none, none]) ⟨rfl, ⟨rfl, ⟨rfl, ⟨rfl, ⟨rfl, ⟨rfl, ⟨rfl, trivial⟩⟩⟩⟩⟩⟩⟩ (tX12_goes_b88 d σ k6 hk6 v1 v2 v3 v4 v6 v7 _ hf)
        · rw [if_neg c5] at hf
          exact ev_dr (a := [some (.ref 0), some (.int (v1)), some (.int (v2)), some (.int (v3)), some (.int (v4)), some (.int (v5)), some (.int (v6)), none, none, none]) ⟨rfl, ⟨rfl, ⟨rfl, ⟨rfl, ⟨rfl, ⟨rfl, ⟨rfl, trivial⟩⟩⟩⟩⟩⟩⟩ (tX12_goes_b93 d σ k6 hk6 v1 v2 v3 v4 v5 v6 _ hf)
set_option maxRecDepth 20000 in
set_option maxHeartbeats 4000000 in
theorem tX12_goes_b6 (d : Nat) (σ : SM) (k6 : Int32 → Int32 → Int32 → Int32 → Int32 → Int32 → Option (Int32)) (hk6 : ∀ (v1 : Int32) (v2 : Int32) (v3 : Int32) (v4 : Int32) (v5 : Int32) (v6 : Int32) (q : Int32), k6 v1 v2 v3 v4 v5 v6 = some q → ev_X (d + 3) (some .int) eiX12_goes (6, [some (.ref 0), some (.int (v1)), some (.int (v2)), some (.int (v3)), some (.int (v4)), some (.int (v5)), some (.int (v6)), none, none, none], [], hM σ) (some (.int q), hM σ)) (v1 : Int32) (v2 : Int32) (v3 : Int32) (v4 : Int32) (v5 : Int32) (v6 : Int32) (q : Int32) (hf : fX12_goes_b6 σ k6 v1 v2 v3 v4 v5 v6 = some q) : ev_X (d + 3) (some .int) eiX12_goes (6, [some (.ref 0), some (.int (v1)), some (.int (v2)), some (.int (v3)), some (.int (v4)), some (.int (v5)), some (.int (v6)), none, none, none], [], hM σ) (some (.int q), hM σ) := by
  unfold fX12_goes_b6 at hf
  refine ev_br 2 (P := v6 < (4 : Int32)) (a := 12) (b := 103) (ls := [some (.ref 0), some (.int (v1)), some (.int (v2)), some (.int (v3)), some (.int (v4)), some (.int (v5)), some (.int (v6)), none, none, none]) (st := []) (h := hM σ) rfl (fun c1 => ?_) (fun c1 => ?_)
  · rw [if_pos c1] at hf
    obtain ⟨r3, hr3, hf⟩ := Option.bind_eq_some_iff.mp hf
    refine ev_cli 3 (kk := 137) (as := [.ref 0, .int (v1), .int (v6)]) (rest := []) (pc := 16) (ls := [some (.ref 0), some (.int (v1)), some (.int (v2)), some (.int (v3)), some (.int (v4)), some (.int (v5)), some (.int (v6)), none, none, none]) (st := [.int (v6), .int (v1), .ref 0]) (h := hM σ) rfl (tX12_on (d + 1) σ v1 v6 r3 hr3) ?_
    refine ev_br 3 (P := r3 = (-1 : Int32)) (a := 27) (b := 31) (ls := [some (.ref 0), some (.int (v1)), some (.int (v2)), some (.int (v3)), some (.int (v4)), some (.int (v5)), some (.int (v6)), some (.int (r3)), none, none]) (st := []) (h := hM σ) rfl (fun c2 => ?_) (fun c2 => ?_)
    · rw [if_pos c2] at hf
      refine ev_go (c' := (39, [some (.ref 0), some (.int (v1)), some (.int (v2)), some (.int (v3)), some (.int (v4)), some (.int (v5)), some (.int (v6)), some (.int (r3)), none, none], [.int ((0 : Int32))], hM σ)) 1 rfl ?_
      exact ev_dr (a := [some (.ref 0), some (.int (v1)), some (.int (v2)), some (.int (v3)), some (.int (v4)), some (.int (v5)), some (.int (v6)), some (.int (r3)), none, none]) ⟨rfl, ⟨rfl, ⟨rfl, ⟨rfl, ⟨rfl, ⟨rfl, ⟨rfl, ⟨rfl, trivial⟩⟩⟩⟩⟩⟩⟩⟩ (tX12_goes_b39 d σ k6 hk6 v1 v2 v3 v4 v5 v6 r3 (0 : Int32) _ hf)
    · rw [if_neg c2] at hf
      obtain ⟨r4, hr4, hf⟩ := Option.bind_eq_some_iff.mp hf
      refine ev_cli 4 (kk := 175) (as := [.ref 0, .int (r3), .int (v2), .int (v3)]) (rest := []) (pc := 36) (ls := [some (.ref 0), some (.int (v1)), some (.int (v2)), some (.int (v3)), some (.int (v4)), some (.int (v5)), some (.int (v6)), some (.int (r3)), none, none]) (st := [.int (v3), .int (v2), .int (r3), .ref 0]) (h := hM σ) rfl (tX12_far (d + 1) σ r3 v2 v3 r4 hr4) ?_
      exact ev_dr (a := [some (.ref 0), some (.int (v1)), some (.int (v2)), some (.int (v3)), some (.int (v4)), some (.int (v5)), some (.int (v6)), some (.int (r3)), none, none]) ⟨rfl, ⟨rfl, ⟨rfl, ⟨rfl, ⟨rfl, ⟨rfl, ⟨rfl, ⟨rfl, trivial⟩⟩⟩⟩⟩⟩⟩⟩ (tX12_goes_b39 d σ k6 hk6 v1 v2 v3 v4 v5 v6 r3 r4 _ hf)
  · rw [if_neg c1] at hf
    cases hf
    exact ev_rt 1 rfl
theorem tX12_goes_l6 (d : Nat) (σ : SM) : ∀ (n : Nat) (v1 : Int32) (v2 : Int32) (v3 : Int32) (v4 : Int32) (v5 : Int32) (v6 : Int32) (q : Int32), fX12_goes_l6 σ n v1 v2 v3 v4 v5 v6 = some q → ev_X (d + 3) (some .int) eiX12_goes (6, [some (.ref 0), some (.int (v1)), some (.int (v2)), some (.int (v3)), some (.int (v4)), some (.int (v5)), some (.int (v6)), none, none, none], [], hM σ) (some (.int q), hM σ)
  | 0, _, _, _, _, _, _, _, hf => by cases hf
  | n + 1, v1, v2, v3, v4, v5, v6, q, hf => tX12_goes_b6 d σ (fX12_goes_l6 σ n) (fun v1 v2 v3 v4 v5 v6 q h9 => tX12_goes_l6 d σ n v1 v2 v3 v4 v5 v6 q h9) v1 v2 v3 v4 v5 v6 q hf
set_option maxRecDepth 20000 in
set_option maxHeartbeats 4000000 in
theorem tX12_goes (d : Nat) (σ : SM) (v1 : Int32) (v2 : Int32) (v3 : Int32) (v4 : Int32) (q : Int32) (hf : fX12_goes σ v1 v2 v3 v4 = some q) : ev_M ev_mt (d + 4) 176 [.ref 0, .int (v1), .int (v2), .int (v3), .int (v4)] (hM σ) (some (.int q), hM σ) := by
  refine ev_en (rt := (some .int)) (I := eiX12_goes) rfl (Nat.le_of_ble_eq_true rfl) ?_
  change ev_X (d + 3) _ _ (0, [some (.ref 0), some (.int (v1)), some (.int (v2)), some (.int (v3)), some (.int (v4)), none, none, none, none, none], [], hM σ) _
  unfold fX12_goes at hf
  refine ev_go (c' := (6, [some (.ref 0), some (.int (v1)), some (.int (v2)), some (.int (v3)), some (.int (v4)), some (.int (v1)), some (.int ((0 : Int32))), none, none, none], [], hM σ)) 3 rfl ?_
  exact ev_dr (a := [some (.ref 0), some (.int (v1)), some (.int (v2)), some (.int (v3)), some (.int (v4)), some (.int (v1)), some (.int ((0 : Int32))), none, none, none]) ⟨rfl, ⟨rfl, ⟨rfl, ⟨rfl, ⟨rfl, ⟨rfl, ⟨rfl, trivial⟩⟩⟩⟩⟩⟩⟩ (tX12_goes_l6 d σ 1000 v1 v2 v3 v4 v1 (0 : Int32) _ hf)
set_option maxRecDepth 20000 in
set_option maxHeartbeats 4000000 in
theorem tX12_goPlayers_b167 (d : Nat) (k79 : SM → Int32 → Int32 → Int32 → Int32 → Int32 → Option (SM)) (hk79 : ∀ (σ : SM) (v1 : Int32) (v2 : Int32) (v3 : Int32) (v4 : Int32) (v5 : Int32) (q : SM), k79 σ v1 v2 v3 v4 v5 = some q → ev_X (d + 4) none eiX12_goPlayers (79, [some (.ref 0), some (.int (v1)), some (.int (v2)), some (.int (v3)), some (.int (v4)), some (.int (v5))], [], hM σ) (none, hM q)) (σ : SM) (v1 : Int32) (v2 : Int32) (v3 : Int32) (v4 : Int32) (v5 : Int32) (q : SM) (hf : fX12_goPlayers_b167 k79 σ v1 v2 v3 v4 v5 = some q) : ev_X (d + 4) none eiX12_goPlayers (167, [some (.ref 0), some (.int (v1)), some (.int (v2)), some (.int (v3)), some (.int (v4)), some (.int (v5))], [], hM σ) (none, hM q) := by
  unfold fX12_goPlayers_b167 at hf
  refine ev_go (c' := (79, [some (.ref 0), some (.int (v1)), some (.int (v2)), some (.int (v3)), some (.int (v4)), some (.int ((v5 + (1 : Int32))))], [], hM σ)) 1 rfl ?_
  exact ev_dr (a := [some (.ref 0), some (.int (v1)), some (.int (v2)), some (.int (v3)), some (.int (v4)), some (.int ((v5 + (1 : Int32))))]) ⟨rfl, ⟨rfl, ⟨rfl, ⟨rfl, ⟨rfl, ⟨rfl, trivial⟩⟩⟩⟩⟩⟩ (hk79 σ v1 v2 v3 v4 (v5 + (1 : Int32)) _ hf)
set_option maxRecDepth 20000 in
set_option maxHeartbeats 4000000 in
theorem tX12_goPlayers_b110 (d : Nat) (k79 : SM → Int32 → Int32 → Int32 → Int32 → Int32 → Option (SM)) (hk79 : ∀ (σ : SM) (v1 : Int32) (v2 : Int32) (v3 : Int32) (v4 : Int32) (v5 : Int32) (q : SM), k79 σ v1 v2 v3 v4 v5 = some q → ev_X (d + 4) none eiX12_goPlayers (79, [some (.ref 0), some (.int (v1)), some (.int (v2)), some (.int (v3)), some (.int (v4)), some (.int (v5))], [], hM σ) (none, hM q)) (σ : SM) (v1 : Int32) (v2 : Int32) (v3 : Int32) (v4 : Int32) (v5 : Int32) (q : SM) (hf : fX12_goPlayers_b110 k79 σ v1 v2 v3 v4 v5 = some q) : ev_X (d + 4) none eiX12_goPlayers (110, [some (.ref 0), some (.int (v1)), some (.int (v2)), some (.int (v3)), some (.int (v4)), some (.int (v5))], [], hM σ) (none, hM q) := by
  unfold fX12_goPlayers_b110 at hf
  obtain ⟨c1, hf⟩ := ev_hp hf
  refine ev_ck 7 (P := ¬ (v5 < 0 ∨ 6 ≤ v5.toNatClampNeg)) (c' := (124, [some (.ref 0), some (.int (v1)), some (.int (v2)), some (.int (v3)), some (.int (v4)), some (.int (v5))], [.int (((gm_gm_place σ) v5.toNatClampNeg)), .ref 0, .int (v5), .ref 13], hM σ)) rfl c1 ?_
  obtain ⟨r1, hr1, hf⟩ := Option.bind_eq_some_iff.mp hf
  refine ev_cli 3 (kk := 176) (as := [.ref 0, .int (((gm_gm_place σ) v5.toNatClampNeg)), .int (v1), .int (v2), .int ((1 : Int32))]) (rest := [.int (v5), .ref 13]) (pc := 127) (ls := [some (.ref 0), some (.int (v1)), some (.int (v2)), some (.int (v3)), some (.int (v4)), some (.int (v5))]) (st := [.int ((1 : Int32)), .int (v2), .int (v1), .int (((gm_gm_place σ) v5.toNatClampNeg)), .ref 0, .int (v5), .ref 13]) (h := hM σ) rfl (tX12_goes d σ ((gm_gm_place σ) v5.toNatClampNeg) v1 v2 (1 : Int32) r1 hr1) ?_
  obtain ⟨c2, hf⟩ := ev_hp hf
  refine ev_st1 (e := (130, .iastore, 1, 0, 0, .null, [], [])) (c' := (131, [some (.ref 0), some (.int (v1)), some (.int (v2)), some (.int (v3)), some (.int (v4)), some (.int (v5))], [], hM (sm_gm_place σ (upd (gm_gm_place σ) v5.toNatClampNeg r1)))) rfl (oy_ast_m_gm_place c2) ?_
  refine ev_go (c' := (167, [some (.ref 0), some (.int (v1)), some (.int (v2)), some (.int (v3)), some (.int (v4)), some (.int (v5))], [], hM (sm_gm_place σ (upd (gm_gm_place σ) v5.toNatClampNeg r1)))) 0 rfl ?_
  exact ev_dr (a := [some (.ref 0), some (.int (v1)), some (.int (v2)), some (.int (v3)), some (.int (v4)), some (.int (v5))]) ⟨rfl, ⟨rfl, ⟨rfl, ⟨rfl, ⟨rfl, ⟨rfl, trivial⟩⟩⟩⟩⟩⟩ (tX12_goPlayers_b167 d k79 hk79 (sm_gm_place σ (upd (gm_gm_place σ) v5.toNatClampNeg r1)) v1 v2 v3 v4 v5 _ hf)
set_option maxRecDepth 20000 in
set_option maxHeartbeats 4000000 in
theorem tX12_goPlayers_b79 (d : Nat) (k79 : SM → Int32 → Int32 → Int32 → Int32 → Int32 → Option (SM)) (hk79 : ∀ (σ : SM) (v1 : Int32) (v2 : Int32) (v3 : Int32) (v4 : Int32) (v5 : Int32) (q : SM), k79 σ v1 v2 v3 v4 v5 = some q → ev_X (d + 4) none eiX12_goPlayers (79, [some (.ref 0), some (.int (v1)), some (.int (v2)), some (.int (v3)), some (.int (v4)), some (.int (v5))], [], hM σ) (none, hM q)) (σ : SM) (v1 : Int32) (v2 : Int32) (v3 : Int32) (v4 : Int32) (v5 : Int32) (q : SM) (hf : fX12_goPlayers_b79 k79 σ v1 v2 v3 v4 v5 = some q) : ev_X (d + 4) none eiX12_goPlayers (79, [some (.ref 0), some (.int (v1)), some (.int (v2)), some (.int (v3)), some (.int (v4)), some (.int (v5))], [], hM σ) (none, hM q) := by
  unfold fX12_goPlayers_b79 at hf
  refine ev_br 3 (P := v5 < (gm_pl_players σ)) (a := 88) (b := 173) (ls := [some (.ref 0), some (.int (v1)), some (.int (v2)), some (.int (v3)), some (.int (v4)), some (.int (v5))]) (st := []) (h := hM σ) rfl (fun c1 => ?_) (fun c1 => ?_)
  · rw [if_pos c1] at hf
    obtain ⟨c2, hf⟩ := ev_hp hf
    refine ev_ck 3 (P := ¬ (v5 < 0 ∨ 6 ≤ v5.toNatClampNeg)) (c' := (95, [some (.ref 0), some (.int (v1)), some (.int (v2)), some (.int (v3)), some (.int (v4)), some (.int (v5))], [.int (((gm_pl_kindOf σ) v5.toNatClampNeg))], hM σ)) rfl c2 ?_
    refine ev_br 1 (P := ((gm_pl_kindOf σ) v5.toNatClampNeg) = (1 : Int32)) (a := 110) (b := 99) (ls := [some (.ref 0), some (.int (v1)), some (.int (v2)), some (.int (v3)), some (.int (v4)), some (.int (v5))]) (st := []) (h := hM σ) rfl (fun c3 => ?_) (fun c3 => ?_)
    · rw [if_pos c3] at hf
      exact ev_dr (a := [some (.ref 0), some (.int (v1)), some (.int (v2)), some (.int (v3)), some (.int (v4)), some (.int (v5))]) ⟨rfl, ⟨rfl, ⟨rfl, ⟨rfl, ⟨rfl, ⟨rfl, trivial⟩⟩⟩⟩⟩⟩ (tX12_goPlayers_b110 d k79 hk79 σ v1 v2 v3 v4 v5 _ hf)
    · rw [if_neg c3] at hf
      obtain ⟨c4, hf⟩ := ev_hp hf
      refine ev_ck 3 (P := ¬ (v5 < 0 ∨ 6 ≤ v5.toNatClampNeg)) (c' := (106, [some (.ref 0), some (.int (v1)), some (.int (v2)), some (.int (v3)), some (.int (v4)), some (.int (v5))], [.int (((gm_pl_kindOf σ) v5.toNatClampNeg))], hM σ)) rfl c4 ?_
      refine ev_br 1 (P := ((gm_pl_kindOf σ) v5.toNatClampNeg) = (2 : Int32)) (a := 110) (b := 134) (ls := [some (.ref 0), some (.int (v1)), some (.int (v2)), some (.int (v3)), some (.int (v4)), some (.int (v5))]) (st := []) (h := hM σ) rfl (fun c5 => ?_) (fun c5 => ?_)
      · rw [if_pos c5] at hf
        exact ev_dr (a := [some (.ref 0), some (.int (v1)), some (.int (v2)), some (.int (v3)), some (.int (v4)), some (.int (v5))]) ⟨rfl, ⟨rfl, ⟨rfl, ⟨rfl, ⟨rfl, ⟨rfl, trivial⟩⟩⟩⟩⟩⟩ (tX12_goPlayers_b110 d k79 hk79 σ v1 v2 v3 v4 v5 _ hf)
      · rw [if_neg c5] at hf
        obtain ⟨c6, hf⟩ := ev_hp hf
        refine ev_ck 3 (P := ¬ (v5 < 0 ∨ 6 ≤ v5.toNatClampNeg)) (c' := (141, [some (.ref 0), some (.int (v1)), some (.int (v2)), some (.int (v3)), some (.int (v4)), some (.int (v5))], [.int (((gm_pl_kindOf σ) v5.toNatClampNeg))], hM σ)) rfl c6 ?_
        refine ev_br 1 (P := ((gm_pl_kindOf σ) v5.toNatClampNeg) = (5 : Int32)) (a := 145) (b := 167) (ls := [some (.ref 0), some (.int (v1)), some (.int (v2)), some (.int (v3)), some (.int (v4)), some (.int (v5))]) (st := []) (h := hM σ) rfl (fun c7 => ?_) (fun c7 => ?_)
        · rw [if_pos c7] at hf
          obtain ⟨c8, hf⟩ := ev_hp hf
          refine ev_ck 7 (P := ¬ (v5 < 0 ∨ 6 ≤ v5.toNatClampNeg)) (c' := (159, [some (.ref 0), some (.int (v1)), some (.int (v2)), some (.int (v3)), some (.int (v4)), some (.int (v5))], [.int (((gm_gm_place σ) v5.toNatClampNeg)), .ref 0, .int (v5), .ref 13], hM σ)) rfl c8 ?_
          obtain ⟨r2, hr2, hf⟩ := Option.bind_eq_some_iff.mp hf
          refine ev_cli 3 (kk := 176) (as := [.ref 0, .int (((gm_gm_place σ) v5.toNatClampNeg)), .int (v3), .int (v4), .int ((0 : Int32))]) (rest := [.int (v5), .ref 13]) (pc := 163) (ls := [some (.ref 0), some (.int (v1)), some (.int (v2)), some (.int (v3)), some (.int (v4)), some (.int (v5))]) (st := [.int ((0 : Int32)), .int (v4), .int (v3), .int (((gm_gm_place σ) v5.toNatClampNeg)), .ref 0, .int (v5), .ref 13]) (h := hM σ) rfl (tX12_goes d σ ((gm_gm_place σ) v5.toNatClampNeg) v3 v4 (0 : Int32) r2 hr2) ?_
          obtain ⟨c9, hf⟩ := ev_hp hf
          refine ev_st1 (e := (166, .iastore, 1, 0, 0, .null, [], [])) (c' := (167, [some (.ref 0), some (.int (v1)), some (.int (v2)), some (.int (v3)), some (.int (v4)), some (.int (v5))], [], hM (sm_gm_place σ (upd (gm_gm_place σ) v5.toNatClampNeg r2)))) rfl (oy_ast_m_gm_place c9) ?_
          exact ev_dr (a := [some (.ref 0), some (.int (v1)), some (.int (v2)), some (.int (v3)), some (.int (v4)), some (.int (v5))]) ⟨rfl, ⟨rfl, ⟨rfl, ⟨rfl, ⟨rfl, ⟨rfl, trivial⟩⟩⟩⟩⟩⟩ (tX12_goPlayers_b167 d k79 hk79 (sm_gm_place σ (upd (gm_gm_place σ) v5.toNatClampNeg r2)) v1 v2 v3 v4 v5 _ hf)
        · rw [if_neg c7] at hf
          exact ev_dr (a := [some (.ref 0), some (.int (v1)), some (.int (v2)), some (.int (v3)), some (.int (v4)), some (.int (v5))]) ⟨rfl, ⟨rfl, ⟨rfl, ⟨rfl, ⟨rfl, ⟨rfl, trivial⟩⟩⟩⟩⟩⟩ (tX12_goPlayers_b167 d k79 hk79 σ v1 v2 v3 v4 v5 _ hf)
  · rw [if_neg c1] at hf
    cases hf
    exact ev_rt 0 rfl
theorem tX12_goPlayers_l79 (d : Nat) : ∀ (n : Nat) (σ : SM) (v1 : Int32) (v2 : Int32) (v3 : Int32) (v4 : Int32) (v5 : Int32) (q : SM), fX12_goPlayers_l79 n σ v1 v2 v3 v4 v5 = some q → ev_X (d + 4) none eiX12_goPlayers (79, [some (.ref 0), some (.int (v1)), some (.int (v2)), some (.int (v3)), some (.int (v4)), some (.int (v5))], [], hM σ) (none, hM q)
  | 0, _, _, _, _, _, _, _, hf => by cases hf
  | n + 1, σ, v1, v2, v3, v4, v5, q, hf => tX12_goPlayers_b79 d (fX12_goPlayers_l79 n) (fun σ v1 v2 v3 v4 v5 q h9 => tX12_goPlayers_l79 d n σ v1 v2 v3 v4 v5 q h9) σ v1 v2 v3 v4 v5 q hf
set_option maxRecDepth 20000 in
set_option maxHeartbeats 4000000 in
theorem tX12_goPlayers_b73 (d : Nat) (σ : SM) (v1 : Int32) (v2 : Int32) (v3 : Int32) (w0 : Int32) (w1 : Int32) (q : SM) (hf : fX12_goPlayers_b73 σ v1 v2 v3 w0 w1 = some q) : ev_X (d + 4) none eiX12_goPlayers (73, [some (.ref 0), some (.int (v1)), some (.int (v2)), some (.int (v3)), none, none], [.int (w0), .int (w1)], hM σ) (none, hM q) := by
  unfold fX12_goPlayers_b73 at hf
  refine ev_go (c' := (79, [some (.ref 0), some (.int (v1)), some (.int (v2)), some (.int (v3)), some (.int ((w1 + w0))), some (.int ((0 : Int32)))], [], hM σ)) 3 rfl ?_
  exact ev_dr (a := [some (.ref 0), some (.int (v1)), some (.int (v2)), some (.int (v3)), some (.int ((w1 + w0))), some (.int ((0 : Int32)))]) ⟨rfl, ⟨rfl, ⟨rfl, ⟨rfl, ⟨rfl, ⟨rfl, trivial⟩⟩⟩⟩⟩⟩ (tX12_goPlayers_l79 d 1000 σ v1 v2 v3 (w1 + w0) (0 : Int32) _ hf)
set_option maxRecDepth 20000 in
set_option maxHeartbeats 4000000 in
theorem tX12_goPlayers_b45 (d : Nat) (σ : SM) (v1 : Int32) (v2 : Int32) (w0 : Int32) (w1 : Int32) (q : SM) (hf : fX12_goPlayers_b45 σ v1 v2 w0 w1 = some q) : ev_X (d + 4) none eiX12_goPlayers (45, [some (.ref 0), some (.int (v1)), some (.int (v2)), none, none, none], [.int (w0), .int (w1)], hM σ) (none, hM q) := by
  unfold fX12_goPlayers_b45 at hf
  refine ev_br 6 (P := (gm_gm_looks σ) = (1 : Int32)) (a := 56) (b := 60) (ls := [some (.ref 0), some (.int (v1)), some (.int (v2)), some (.int ((w1 + w0))), none, none]) (st := [.int (v2)]) (h := hM σ) rfl (fun c1 => ?_) (fun c1 => ?_)
  · rw [if_pos c1] at hf
    refine ev_go (c' := (73, [some (.ref 0), some (.int (v1)), some (.int (v2)), some (.int ((w1 + w0))), none, none], [.int ((-1 : Int32)), .int (v2)], hM σ)) 1 rfl ?_
    exact ev_dr (a := [some (.ref 0), some (.int (v1)), some (.int (v2)), some (.int ((w1 + w0))), none, none]) ⟨rfl, ⟨rfl, ⟨rfl, ⟨rfl, trivial⟩⟩⟩⟩ (tX12_goPlayers_b73 d σ v1 v2 (w1 + w0) (-1 : Int32) v2 _ hf)
  · rw [if_neg c1] at hf
    refine ev_br 3 (P := (gm_gm_looks σ) = (3 : Int32)) (a := 68) (b := 72) (ls := [some (.ref 0), some (.int (v1)), some (.int (v2)), some (.int ((w1 + w0))), none, none]) (st := [.int (v2)]) (h := hM σ) rfl (fun c2 => ?_) (fun c2 => ?_)
    · rw [if_pos c2] at hf
      refine ev_go (c' := (73, [some (.ref 0), some (.int (v1)), some (.int (v2)), some (.int ((w1 + w0))), none, none], [.int ((1 : Int32)), .int (v2)], hM σ)) 1 rfl ?_
      exact ev_dr (a := [some (.ref 0), some (.int (v1)), some (.int (v2)), some (.int ((w1 + w0))), none, none]) ⟨rfl, ⟨rfl, ⟨rfl, ⟨rfl, trivial⟩⟩⟩⟩ (tX12_goPlayers_b73 d σ v1 v2 (w1 + w0) (1 : Int32) v2 _ hf)
    · rw [if_neg c2] at hf
      refine ev_go (c' := (73, [some (.ref 0), some (.int (v1)), some (.int (v2)), some (.int ((w1 + w0))), none, none], [.int ((0 : Int32)), .int (v2)], hM σ)) 0 rfl ?_
      exact ev_dr (a := [some (.ref 0), some (.int (v1)), some (.int (v2)), some (.int ((w1 + w0))), none, none]) ⟨rfl, ⟨rfl, ⟨rfl, ⟨rfl, trivial⟩⟩⟩⟩ (tX12_goPlayers_b73 d σ v1 v2 (w1 + w0) (0 : Int32) v2 _ hf)
set_option maxRecDepth 20000 in
set_option maxHeartbeats 4000000 in
theorem tX12_goPlayers (d : Nat) (σ : SM) (q : SM) (hf : fX12_goPlayers σ = some q) : ev_M ev_mt (d + 5) 177 [.ref 0] (hM σ) (none, hM q) := by
  refine ev_en (rt := none) (I := eiX12_goPlayers) rfl (Nat.le_of_ble_eq_true rfl) ?_
  change ev_X (d + 4) _ _ (0, [some (.ref 0), none, none, none, none, none], [], hM σ) _
  unfold fX12_goPlayers at hf
  obtain ⟨c1, hf⟩ := ev_hp hf
  refine ev_ck 4 (P := ¬ (gm_rg_columns σ) = 0) (c' := (9, [some (.ref 0), none, none, none, none, none], [.int (((gm_gm_his σ) / (gm_rg_columns σ)))], hM σ)) rfl c1 ?_
  obtain ⟨c2, hf⟩ := ev_hp hf
  refine ev_ck 5 (P := ¬ (gm_rg_columns σ) = 0) (c' := (19, [some (.ref 0), some (.int (((gm_gm_his σ) / (gm_rg_columns σ)))), none, none, none, none], [.int (((gm_gm_his σ) - (gm_gm_his σ) / (gm_rg_columns σ) * (gm_rg_columns σ)))], hM σ)) rfl c2 ?_
  refine ev_br 4 (P := (gm_gm_looks σ) = 0) (a := 28) (b := 32) (ls := [some (.ref 0), some (.int (((gm_gm_his σ) / (gm_rg_columns σ)))), some (.int (((gm_gm_his σ) - (gm_gm_his σ) / (gm_rg_columns σ) * (gm_rg_columns σ)))), none, none, none]) (st := [.int (((gm_gm_his σ) / (gm_rg_columns σ)))]) (h := hM σ) rfl (fun c3 => ?_) (fun c3 => ?_)
  · rw [if_pos c3] at hf
    refine ev_go (c' := (45, [some (.ref 0), some (.int (((gm_gm_his σ) / (gm_rg_columns σ)))), some (.int (((gm_gm_his σ) - (gm_gm_his σ) / (gm_rg_columns σ) * (gm_rg_columns σ)))), none, none, none], [.int ((1 : Int32)), .int (((gm_gm_his σ) / (gm_rg_columns σ)))], hM σ)) 1 rfl ?_
    exact ev_dr (a := [some (.ref 0), some (.int (((gm_gm_his σ) / (gm_rg_columns σ)))), some (.int (((gm_gm_his σ) - (gm_gm_his σ) / (gm_rg_columns σ) * (gm_rg_columns σ)))), none, none, none]) ⟨rfl, ⟨rfl, ⟨rfl, trivial⟩⟩⟩ (tX12_goPlayers_b45 d σ ((gm_gm_his σ) / (gm_rg_columns σ)) ((gm_gm_his σ) - (gm_gm_his σ) / (gm_rg_columns σ) * (gm_rg_columns σ)) (1 : Int32) ((gm_gm_his σ) / (gm_rg_columns σ)) _ hf)
  · rw [if_neg c3] at hf
    refine ev_br 3 (P := (gm_gm_looks σ) = (2 : Int32)) (a := 40) (b := 44) (ls := [some (.ref 0), some (.int (((gm_gm_his σ) / (gm_rg_columns σ)))), some (.int (((gm_gm_his σ) - (gm_gm_his σ) / (gm_rg_columns σ) * (gm_rg_columns σ)))), none, none, none]) (st := [.int (((gm_gm_his σ) / (gm_rg_columns σ)))]) (h := hM σ) rfl (fun c4 => ?_) (fun c4 => ?_)
    · rw [if_pos c4] at hf
      refine ev_go (c' := (45, [some (.ref 0), some (.int (((gm_gm_his σ) / (gm_rg_columns σ)))), some (.int (((gm_gm_his σ) - (gm_gm_his σ) / (gm_rg_columns σ) * (gm_rg_columns σ)))), none, none, none], [.int ((-1 : Int32)), .int (((gm_gm_his σ) / (gm_rg_columns σ)))], hM σ)) 1 rfl ?_
      exact ev_dr (a := [some (.ref 0), some (.int (((gm_gm_his σ) / (gm_rg_columns σ)))), some (.int (((gm_gm_his σ) - (gm_gm_his σ) / (gm_rg_columns σ) * (gm_rg_columns σ)))), none, none, none]) ⟨rfl, ⟨rfl, ⟨rfl, trivial⟩⟩⟩ (tX12_goPlayers_b45 d σ ((gm_gm_his σ) / (gm_rg_columns σ)) ((gm_gm_his σ) - (gm_gm_his σ) / (gm_rg_columns σ) * (gm_rg_columns σ)) (-1 : Int32) ((gm_gm_his σ) / (gm_rg_columns σ)) _ hf)
    · rw [if_neg c4] at hf
      refine ev_go (c' := (45, [some (.ref 0), some (.int (((gm_gm_his σ) / (gm_rg_columns σ)))), some (.int (((gm_gm_his σ) - (gm_gm_his σ) / (gm_rg_columns σ) * (gm_rg_columns σ)))), none, none, none], [.int ((0 : Int32)), .int (((gm_gm_his σ) / (gm_rg_columns σ)))], hM σ)) 0 rfl ?_
      exact ev_dr (a := [some (.ref 0), some (.int (((gm_gm_his σ) / (gm_rg_columns σ)))), some (.int (((gm_gm_his σ) - (gm_gm_his σ) / (gm_rg_columns σ) * (gm_rg_columns σ)))), none, none, none]) ⟨rfl, ⟨rfl, ⟨rfl, trivial⟩⟩⟩ (tX12_goPlayers_b45 d σ ((gm_gm_his σ) / (gm_rg_columns σ)) ((gm_gm_his σ) - (gm_gm_his σ) / (gm_rg_columns σ) * (gm_rg_columns σ)) (0 : Int32) ((gm_gm_his σ) / (gm_rg_columns σ)) _ hf)
set_option maxRecDepth 20000 in
set_option maxHeartbeats 4000000 in
theorem tX12_callOf_b65 (d : Nat) (σ : SM) (w0 : Int32) (q : Int32) (hf : fX12_callOf_b65 σ w0 = some q) : ev_X d (some .int) eiX12_callOf (65, [none, none, none, none], [.int (w0)], hM σ) (some (.int q), hM σ) := by
  unfold fX12_callOf_b65 at hf
  cases hf
  exact ev_rt 0 rfl
set_option maxRecDepth 20000 in
set_option maxHeartbeats 4000000 in
theorem tX12_callOf (d : Nat) (σ : SM) (v1 : Int32) (q : Int32) (hf : fX12_callOf σ v1 = some q) : ev_M ev_mt (d + 1) 178 [.ref 0, .int (v1)] (hM σ) (some (.int q), hM σ) := by
  refine ev_en (rt := (some .int)) (I := eiX12_callOf) rfl (Nat.le_of_ble_eq_true rfl) ?_
  change ev_X d _ _ (0, [some (.ref 0), some (.int (v1)), none, none], [], hM σ) _
  unfold fX12_callOf at hf
  obtain ⟨c1, hf⟩ := ev_hp hf
  refine ev_ck 3 (P := ¬ (v1 < 0 ∨ 6 ≤ v1.toNatClampNeg)) (c' := (6, [some (.ref 0), some (.int (v1)), none, none], [.int (((gm_gm_place σ) v1.toNatClampNeg))], hM σ)) rfl c1 ?_
  obtain ⟨c2, hf⟩ := ev_hp hf
  refine ev_ck 2 (P := ¬ (gm_rg_columns σ) = 0) (c' := (11, [some (.ref 0), some (.int (v1)), none, none], [.int ((((gm_gm_place σ) v1.toNatClampNeg) / (gm_rg_columns σ)))], hM σ)) rfl c2 ?_
  obtain ⟨c3, hf⟩ := ev_hp hf
  refine ev_ck 4 (P := ¬ (v1 < 0 ∨ 6 ≤ v1.toNatClampNeg)) (c' := (18, [some (.ref 0), some (.int (v1)), some (.int ((((gm_gm_place σ) v1.toNatClampNeg) / (gm_rg_columns σ)))), none], [.int (((gm_gm_place σ) v1.toNatClampNeg))], hM σ)) rfl c3 ?_
  obtain ⟨c4, hf⟩ := ev_hp hf
  refine ev_ck 2 (P := ¬ (gm_rg_columns σ) = 0) (c' := (23, [some (.ref 0), some (.int (v1)), some (.int ((((gm_gm_place σ) v1.toNatClampNeg) / (gm_rg_columns σ)))), none], [.int ((((gm_gm_place σ) v1.toNatClampNeg) - ((gm_gm_place σ) v1.toNatClampNeg) / (gm_rg_columns σ) * (gm_rg_columns σ)))], hM σ)) rfl c4 ?_
  obtain ⟨c5, hf⟩ := ev_hp hf
  refine ev_ck 4 (P := ¬ (v1 < 0 ∨ 6 ≤ v1.toNatClampNeg)) (c' := (30, [some (.ref 0), some (.int (v1)), some (.int ((((gm_gm_place σ) v1.toNatClampNeg) / (gm_rg_columns σ)))), some (.int ((((gm_gm_place σ) v1.toNatClampNeg) - ((gm_gm_place σ) v1.toNatClampNeg) / (gm_rg_columns σ) * (gm_rg_columns σ))))], [.int (((gm_pl_kindOf σ) v1.toNatClampNeg))], hM σ)) rfl c5 ?_
  refine ev_br 1 (P := ((gm_pl_kindOf σ) v1.toNatClampNeg) = (4 : Int32)) (a := 34) (b := 59) (ls := [some (.ref 0), some (.int (v1)), some (.int ((((gm_gm_place σ) v1.toNatClampNeg) / (gm_rg_columns σ)))), some (.int ((((gm_gm_place σ) v1.toNatClampNeg) - ((gm_gm_place σ) v1.toNatClampNeg) / (gm_rg_columns σ) * (gm_rg_columns σ))))]) (st := []) (h := hM σ) rfl (fun c6 => ?_) (fun c6 => ?_)
  · rw [if_pos c6] at hf
    refine ev_go (c' := (65, [some (.ref 0), some (.int (v1)), some (.int ((((gm_gm_place σ) v1.toNatClampNeg) / (gm_rg_columns σ)))), some (.int ((((gm_gm_place σ) v1.toNatClampNeg) - ((gm_gm_place σ) v1.toNatClampNeg) / (gm_rg_columns σ) * (gm_rg_columns σ))))], [.int ((((((((gm_rg_rows σ) - (1 : Int32)) - (((gm_gm_place σ) v1.toNatClampNeg) / (gm_rg_columns σ))) * (gm_rg_columns σ)) + (gm_rg_columns σ)) - (1 : Int32)) - (((gm_gm_place σ) v1.toNatClampNeg) - ((gm_gm_place σ) v1.toNatClampNeg) / (gm_rg_columns σ) * (gm_rg_columns σ))))], hM σ)) 16 rfl ?_
    exact ev_dr (a := [none, none, none, none]) trivial (tX12_callOf_b65 d σ (((((((gm_rg_rows σ) - (1 : Int32)) - (((gm_gm_place σ) v1.toNatClampNeg) / (gm_rg_columns σ))) * (gm_rg_columns σ)) + (gm_rg_columns σ)) - (1 : Int32)) - (((gm_gm_place σ) v1.toNatClampNeg) - ((gm_gm_place σ) v1.toNatClampNeg) / (gm_rg_columns σ) * (gm_rg_columns σ))) _ hf)
  · rw [if_neg c6] at hf
    obtain ⟨c7, hf⟩ := ev_hp hf
    refine ev_ck 3 (P := ¬ (v1 < 0 ∨ 6 ≤ v1.toNatClampNeg)) (c' := (65, [some (.ref 0), some (.int (v1)), some (.int ((((gm_gm_place σ) v1.toNatClampNeg) / (gm_rg_columns σ)))), some (.int ((((gm_gm_place σ) v1.toNatClampNeg) - ((gm_gm_place σ) v1.toNatClampNeg) / (gm_rg_columns σ) * (gm_rg_columns σ))))], [.int (((gm_gm_place σ) v1.toNatClampNeg))], hM σ)) rfl c7 ?_
    exact ev_dr (a := [none, none, none, none]) trivial (tX12_callOf_b65 d σ ((gm_gm_place σ) v1.toNatClampNeg) _ hf)
